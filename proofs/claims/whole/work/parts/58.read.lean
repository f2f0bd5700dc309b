/-! read, the reference's side: TOKENS -/
def yC (S : mS) (n : Nat) (b : Nat → Nat) : Prop := S.2.1 83 16 = nI n ∧ ∀ j, j < n → S.2.1 92 j = nI (b j)
/-- of the reference's own numbers readAt and readNumber alone may differ -/
def Fn (S S1 : mS) : Prop := Ly S1 ∧ Fr 83 84 S S1 ∧ ∀ j, (j < 17 ∨ 18 < j) → S1.2.1 83 j = S.2.1 83 j
theorem Fn_rf {S : mS} (hL : Ly S) : Fn S S := ⟨hL, Fr_rf, fun _ _ => rfl⟩
theorem Fn_tr {S S1 S2 : mS} (a : Fn S S1) (b : Fn S1 S2) : Fn S S2 := ⟨b.1, Fr_tr a.2.1 b.2.1, fun j h => (b.2.2 j h).trans (a.2.2 j h)⟩
theorem Fn_17 {S : mS} {v : Int32} (hL : Ly S) : Fn S (mPut S 83 17 v) := ⟨Ly_put hL (by decide), Fr_put (by decide) (by decide), fun q hq => by rw [mPut_g, if_neg (by omega)]⟩
theorem Fn_18 {S : mS} {v : Int32} (hL : Ly S) : Fn S (mPut S 83 18 v) := ⟨Ly_put hL (by decide), Fr_put (by decide) (by decide), fun q hq => by rw [mPut_g, if_neg (by omega)]⟩
theorem yC_n {n : Nat} {b : Nat → Nat} {S S1 : mS} (a : Fn S S1) (c : yC S n b) : yC S1 n b := ⟨(a.2.2 16 (by omega)).trans c.1, fun j hj => by rw [a.2.1.2.1 92 (by omega)]; exact c.2 j hj⟩
theorem MK_n {S S1 : mS} {k : KS} (a : Fn S S1) (c : MK S k) : MK S1 k := MK_f (fun j _ h2 h3 => a.2.2 j (by omega)) (fun q h1 h2 _ _ => a.2.1.2.1 q (by omega)) c
theorem y_here {S : mS} {n q : Nat} {b : Nat → Nat} (hL : Ly S) (hn : n ≤ 150) (hq : q ≤ n) (ty : yC S n b) (h7 : S.2.1 83 17 = nI q) : f_X7_here (nI 83) S = some (if q < n then nI (b q) else -1) := by
  have e1 := ty.1
  by_cases c : q < n
  · have le : (nI n ≤ nI q) = False := eq_false (nI_ge c (by omega))
    have e2 := ty.2 q c
    have i150 : q < 150 := by omega
    rw [if_pos c]
    simp (maxDischargeDepth := 40) only [f_X7_here, f_X7_here_24, hL, gc_0, gc_1, gc_2, gc_3, gc_4, gc_5, Ly_put, kcf, kca, e1, h7, le, i150, e2, mCp_e, mC_e, mCv_e, mZ_0, mZ_1, mZ_ifb, if_true, if_false, n10, eq_self, reduceCtorEq, Bool.false_eq_true, Nat.add_zero, Nat.reduceAdd]
  · have le : (nI n ≤ nI q) = True := by rw [le_i (by omega) (by omega)]; exact eq_true (by omega)
    rw [if_neg c]
    simp (maxDischargeDepth := 40) only [f_X7_here, f_X7_here_24, hL, gc_0, gc_1, gc_2, gc_3, gc_4, gc_5, Ly_put, kcf, kca, e1, h7, le, mCp_e, mC_e, mCv_e, mZ_0, mZ_1, mZ_ifb, if_true, if_false, n10, eq_self, reduceCtorEq, Bool.false_eq_true, Nat.add_zero, Nat.reduceAdd]
theorem y_skip {S : mS} {n p : Nat} {b : Nat → Nat} (hL : Ly S) (hn : n ≤ 150) (hb : ∀ j, j < n → b j < 128) (hp : p ≤ n) (ty : yC S n b) (h7 : S.2.1 83 17 = nI p) : ∃ S1, f_X7_skip (nI 83) S = some S1 ∧ Fn S S1 ∧ S1.2.1 83 17 = nI (tS n b p) := by
  unfold f_X7_skip
  refine lupX (fun m j (T : mS) => f_X7_skip_0 f_X7_skip_22 m (nI 83) T) (fun j T => Fn S T ∧ T.2.1 83 17 = nI (p + j) ∧ ∀ i, p ≤ i → i < p + j → isB b i = true) (fun β => ∃ S1, β = some S1 ∧ Fn S S1 ∧ S1.2.1 83 17 = nI (tS n b p)) (n - p) ?_ ?_ 1000 S ⟨Fn_rf hL, h7, fun i a c => by omega⟩ (by omega)
  · rintro m j T hj ⟨q1, q2, q3⟩
    have q0 := q1.1
    have hh := y_here q0 hn (show p + j ≤ n by omega) (yC_n q1 ty) q2
    rw [if_pos (show p + j < n by omega)] at hh
    have hbq := hb (p + j) (by omega)
    have eb : (nI (b (p + j)) = 32) = (b (p + j) = 32) := eq_i (b := 32) (by omega) (by decide)
    by_cases c : b (p + j) = 32
    · right
      have ce : (b (p + j) = 32) = True := eq_true c
      refine ⟨mPut T 83 17 (nI (p + j + 1)), ⟨Fn_tr q1 (Fn_17 q0), by rw [mPut_g, if_pos ⟨rfl, rfl⟩]; rfl, fun i x y => ?_⟩, ?_⟩
      · by_cases e : i = p + j
        · rw [e]; exact decide_eq_true c
        · exact q3 i x (by omega)
      · show f_X7_skip_0 f_X7_skip_22 (m + 1) _ _ = _
        rw [f_X7_skip_0_s]
        simp (maxDischargeDepth := 40) only [q0, gc_0, gc_1, gc_2, gc_3, gc_4, gc_5, Ly_put, kcf, kca, hh, q2, eb, ce, nI_1, mCp_e, mC_e, mCv_e, mZ_0, mZ_1, mZ_ifb, if_true, if_false, n10, eq_self, reduceCtorEq, Bool.false_eq_true, Nat.add_zero, Nat.reduceAdd]
    · left
      have ce : (b (p + j) = 32) = False := eq_false c
      refine ⟨T, ?_, q1, ?_⟩
      · show f_X7_skip_0 f_X7_skip_22 (m + 1) _ _ = _
        rw [f_X7_skip_0_s]
        simp (maxDischargeDepth := 40) only [q0, gc_0, gc_1, gc_2, gc_3, gc_4, gc_5, Ly_put, kcf, kca, hh, eb, ce, f_X7_skip_22, mCp_e, mC_e, mCv_e, mZ_0, mZ_1, mZ_ifb, if_true, if_false, n10, eq_self, reduceCtorEq, Bool.false_eq_true, Nat.add_zero, Nat.reduceAdd]
      · rw [q2, show tS n b p = p + j from rn_eq (by omega) (fun _ => decide_eq_false c) j p rfl q3]
  · rintro m T ⟨q1, q2, q3⟩
    have q0 := q1.1
    have hh := y_here q0 hn (show p + (n - p) ≤ n by omega) (yC_n q1 ty) q2
    rw [if_neg (show ¬ p + (n - p) < n by omega)] at hh
    have ce : ((-1 : Int32) = 32) = False := eq_false (by decide)
    refine ⟨T, ?_, q1, ?_⟩
    · show f_X7_skip_0 f_X7_skip_22 (m + 1) _ _ = _
      rw [f_X7_skip_0_s]
      simp (maxDischargeDepth := 40) only [q0, gc_0, gc_1, gc_2, gc_3, gc_4, gc_5, Ly_put, kcf, kca, hh, ce, f_X7_skip_22, mCp_e, mC_e, mCv_e, mZ_0, mZ_1, mZ_ifb, if_true, if_false, n10, eq_self, reduceCtorEq, Bool.false_eq_true, Nat.add_zero, Nat.reduceAdd]
    · rw [q2, show tS n b p = p + (n - p) from rn_eq (by omega) (fun h => by omega) (n - p) p rfl q3]
theorem y_ws {S : mS} {n s : Nat} {b : Nat → Nat} (hL : Ly S) (hn : n ≤ 150) (hb : ∀ j, j < n → b j < 128) (hs : s ≤ n) (ty : yC S n b) (h7 : S.2.1 83 17 = nI s) : f_X7_wordSize (nI 83) S = some (nI (rn (isL b) n s - s)) := by
  have e1 := ty.1
  unfold f_X7_wordSize
  refine lupX (fun m j (_ : Unit) => f_X7_wordSize_2 (f_X7_wordSize_38 S) S m (nI 83) (nI j)) (fun j _ => ∀ i, s ≤ i → i < s + j → isL b i = true) (fun β => β = some (nI (rn (isL b) n s - s))) (n - s) ?_ ?_ 1000 () (fun i a c => by omega) (by omega)
  · intro m j _ hj q3
    have le : (nI n ≤ nI (s + j)) = False := eq_false (nI_ge (by omega) (by omega))
    have e2 := ty.2 (s + j) (by omega)
    have i150 : s + j < 150 := by omega
    have eb := (c_let _ (hb (s + j) (by omega))).2.1
    cases c : decide (97 ≤ b (s + j) ∧ b (s + j) ≤ 122) with
    | true =>
      right
      rw [c] at eb
      refine ⟨(), fun i x y => ?_, ?_⟩
      · by_cases e : i = s + j
        · rw [e]; exact c
        · exact q3 i x (by omega)
      · show f_X7_wordSize_2 (f_X7_wordSize_38 S) S (m + 1) _ _ = _
        rw [f_X7_wordSize_2_s]
        simp (maxDischargeDepth := 40) only [hL, gc_0, gc_1, gc_2, gc_3, gc_4, gc_5, Ly_put, kcf, kca, e1, h7, nI_add, le, i150, e2, eb, nI_1, mCp_e, mC_e, mCv_e, mZ_0, mZ_1, mZ_ifb, if_true, if_false, n10, eq_self, reduceCtorEq, Bool.false_eq_true, Nat.add_zero, Nat.reduceAdd]
    | false =>
      left
      rw [c] at eb
      rw [rn_eq (Q := isL b) (q := s + j) (n := n) (by omega) (fun _ => c) j s rfl q3, Nat.add_sub_cancel_left]
      show f_X7_wordSize_2 (f_X7_wordSize_38 S) S (m + 1) _ _ = _
      rw [f_X7_wordSize_2_s]
      simp (maxDischargeDepth := 40) only [hL, gc_0, gc_1, gc_2, gc_3, gc_4, gc_5, Ly_put, kcf, kca, e1, h7, nI_add, le, i150, e2, eb, f_X7_wordSize_38, mCp_e, mC_e, mCv_e, mZ_0, mZ_1, mZ_ifb, if_true, if_false, n10, eq_self, reduceCtorEq, Bool.false_eq_true, Nat.add_zero, Nat.reduceAdd]
  · intro m _ q3
    have le : (nI n ≤ nI (s + (n - s))) = True := by rw [show s + (n - s) = n by omega]; exact eq_true ng_i
    rw [rn_eq (Q := isL b) (q := s + (n - s)) (n := n) (by omega) (fun h => by omega) (n - s) s rfl q3, Nat.add_sub_cancel_left]
    show f_X7_wordSize_2 (f_X7_wordSize_38 S) S (m + 1) _ _ = _
    rw [f_X7_wordSize_2_s]
    simp (maxDischargeDepth := 40) only [hL, gc_0, gc_1, gc_2, gc_3, gc_4, gc_5, Ly_put, kcf, kca, e1, h7, nI_add, le, f_X7_wordSize_38, mCp_e, mC_e, mCv_e, mZ_0, mZ_1, mZ_ifb, if_true, if_false, n10, eq_self, reduceCtorEq, Bool.false_eq_true, Nat.add_zero, Nat.reduceAdd]
theorem y_let {S : mS} {n s i : Nat} {b : Nat → Nat} (hL : Ly S) (hn : n ≤ 150) (hi : s + i < n) (ty : yC S n b) (h7 : S.2.1 83 17 = nI s) : f_X7_letter (nI 83) (nI i) S = some (nI (b (s + i))) := by
  have e2 := ty.2 (s + i) hi
  have i150 : s + i < 150 := by omega
  simp (maxDischargeDepth := 40) only [f_X7_letter, hL, gc_0, gc_1, gc_2, gc_3, gc_4, gc_5, Ly_put, kcf, kca, h7, nI_add, i150, e2, mCp_e, mC_e, mCv_e, mZ_0, mZ_1, mZ_ifb, if_true, if_false, n10, eq_self, reduceCtorEq, Bool.false_eq_true, Nat.add_zero, Nat.reduceAdd]
theorem iand {α : Type} {p q : Prop} {i : Decidable p} {j : Decidable q} {x y : α} : (if p then (if q then x else y) else y) = if p ∧ q then x else y := by
  by_cases h : p <;> by_cases g : q <;> simp [h, g]
/-- the five words, as their bytes -/
theorem spl_e {b : Nat → Nat} {s e : Nat} : (spl b s e 0 = true ↔ e - s = 4 ∧ b s = 102 ∧ b (s + 1) = 101 ∧ b (s + 2) = 108 ∧ b (s + 3) = 108) ∧ (spl b s e 3 = true ↔ e - s = 4 ∧ b s = 99 ∧ b (s + 1) = 97 ∧ b (s + 2) = 108 ∧ b (s + 3) = 108) ∧ (spl b s e 2 = true ↔ e - s = 5 ∧ b s = 115 ∧ b (s + 1) = 104 ∧ b (s + 2) = 101 ∧ b (s + 3) = 101 ∧ b (s + 4) = 112) ∧ (spl b s e 4 = true ↔ e - s = 5 ∧ b s = 115 ∧ b (s + 1) = 116 ∧ b (s + 2) = 101 ∧ b (s + 3) = 112 ∧ b (s + 4) = 115) ∧ (spl b s e 1 = true ↔ e - s = 7 ∧ b s = 119 ∧ b (s + 1) = 104 ∧ b (s + 2) = 105 ∧ b (s + 3) = 115 ∧ b (s + 4) = 116 ∧ b (s + 5) = 108 ∧ b (s + 6) = 101) := by
  refine ⟨?_, ?_, ?_, ?_, ?_⟩ <;> simp [spl, cln, allB, chr, and_assoc]
theorem y_wh {S : mS} {n p : Nat} {b : Nat → Nat} (hL : Ly S) (hn : n ≤ 150) (hb : ∀ j, j < n → b j < 128) (hp : p ≤ n) (ty : yC S n b) (h7 : S.2.1 83 17 = nI (tS n b p)) : f_X7_wordHere (nI 83) S = some (if 4 ≤ tK n b p then nI (tK n b p - 4) else -1) := by
  have ts := tS_le (b := b) hp
  have ws := y_ws hL hn hb ts.2 ty h7
  have ro := rn_ok (Q := isL b) ts.2
  have eK : (if 4 ≤ tK n b p then nI (tK n b p - 4) else (-1 : Int32)) = if 4 ≤ wv b (tS n b p) (rn (isL b) n (tS n b p)) 5 then nI (wv b (tS n b p) (rn (isL b) n (tS n b p)) 5 - 4) else -1 := by
    have hz : rn (isL b) n (tS n b p) = tS n b p → wv b (tS n b p) (rn (isL b) n (tS n b p)) 5 = 3 := fun z => by
      have f := fun i => show spl b (tS n b p) (rn (isL b) n (tS n b p)) i = true → rn (isL b) n (tS n b p) - tS n b p = cln i from fun h => by
        unfold spl at h
        rw [Bool.and_eq_true, decide_eq_true_eq] at h
        exact h.1
      rw [z, Nat.sub_self] at f
      rw [z]
      unfold wv wv wv wv wv wv
      rw [if_neg (fun h => absurd (f 4 h) (by decide)), if_neg (fun h => absurd (f 3 h) (by decide)), if_neg (fun h => absurd (f 2 h) (by decide)), if_neg (fun h => absurd (f 1 h) (by decide)), if_neg (fun h => absurd (f 0 h) (by decide))]
    by_cases c : n ≤ tS n b p
    · rw [hz (by omega), tK_0.mpr c]
      rfl
    · by_cases l : isL b (tS n b p) = true
      · have e : tE n b p = rn (isL b) n (tS n b p) := by unfold tE; rw [if_neg c, if_pos l]
        have e2 : tK n b p = wv b (tS n b p) (rn (isL b) n (tS n b p)) 5 := by unfold tK; rw [if_neg c, if_pos l, e]
        rw [e2]
      · rw [hz (rn_eq ts.2 (fun _ => by cases z : isL b (tS n b p) with | false => rfl | true => exact absurd z l) 0 _ rfl (fun i x y => by omega)), if_neg (show ¬ 4 ≤ 3 by decide)]
        rw [if_neg]
        unfold tK
        rw [if_neg c, if_neg l]
        repeat' split
        all_goals decide
  rw [eK]
  clear eK
  generalize hs : tS n b p = s at *
  generalize he : rn (isL b) n s = e at *
  obtain ⟨s0, s3, s2, s4, s1⟩ := spl_e (b := b) (s := s) (e := e)
  have z4 : (nI (e - s) = 4) = (e - s = 4) := eq_i (b := 4) (by omega) (by decide)
  have z5 : (nI (e - s) = 5) = (e - s = 5) := eq_i (b := 5) (by omega) (by decide)
  have z7 : (nI (e - s) = 7) = (e - s = 7) := eq_i (b := 7) (by omega) (by decide)
  have eb : ∀ i, i < e - s → ∀ m, m < 128 → (nI (b (s + i)) = nI m) = (b (s + i) = m) := fun i hi m hm => eq_i (by have := hb (s + i) (by omega); omega) (by omega)
  have w5 : wv b s e 5 = if spl b s e 4 = true then 8 else if spl b s e 3 = true then 7 else if spl b s e 2 = true then 6 else if spl b s e 1 = true then 5 else if spl b s e 0 = true then 4 else 3 := rfl
  by_cases c4 : e - s = 4
  · have c4e : (e - s = 4) = True := eq_true c4
    have l0 : f_X7_letter (nI 83) 0 S = some (nI (b s)) := y_let (i := 0) hL hn (by omega) ty h7
    have l1 : f_X7_letter (nI 83) 1 S = some (nI (b (s + 1))) := y_let (i := 1) hL hn (by omega) ty h7
    have l2 : f_X7_letter (nI 83) 2 S = some (nI (b (s + 2))) := y_let (i := 2) hL hn (by omega) ty h7
    have l3 : f_X7_letter (nI 83) 3 S = some (nI (b (s + 3))) := y_let (i := 3) hL hn (by omega) ty h7
    have b0 : (nI (b s) = 102) = (b s = 102) := eb 0 (by omega) 102 (by decide)
    have b0' : (nI (b s) = 99) = (b s = 99) := eb 0 (by omega) 99 (by decide)
    have b1 : (nI (b (s + 1)) = 101) = (b (s + 1) = 101) := eb 1 (by omega) 101 (by decide)
    have b1' : (nI (b (s + 1)) = 97) = (b (s + 1) = 97) := eb 1 (by omega) 97 (by decide)
    have b2 : (nI (b (s + 2)) = 108) = (b (s + 2) = 108) := eb 2 (by omega) 108 (by decide)
    have b3 : (nI (b (s + 3)) = 108) = (b (s + 3) = 108) := eb 3 (by omega) 108 (by decide)
    have n4 : spl b s e 4 = false := by cases z : spl b s e 4 with | false => rfl | true => have := s4.mp z; omega
    have n2 : spl b s e 2 = false := by cases z : spl b s e 2 with | false => rfl | true => have := s2.mp z; omega
    have n1 : spl b s e 1 = false := by cases z : spl b s e 1 with | false => rfl | true => have := s1.mp z; omega
    rw [w5, n4, n2, n1]
    have U : f_X7_wordHere (nI 83) S = if b s = 102 ∧ b (s + 1) = 101 ∧ b (s + 2) = 108 ∧ b (s + 3) = 108 then some 0 else f_X7_wordHere_52 S (nI 83) := by
      simp (maxDischargeDepth := 40) only [f_X7_wordHere, hL, gc_0, gc_1, gc_2, gc_3, gc_4, gc_5, Ly_put, kcf, kca, ws, z4, c4e, l0, l1, l2, l3, b0, b1, b2, b3, iand, mCp_e, mC_e, mCv_e, mZ_0, mZ_1, mZ_ifb, if_true, if_false, n10, eq_self, reduceCtorEq, Bool.false_eq_true, Nat.add_zero, Nat.reduceAdd]
    have V : f_X7_wordHere_52 S (nI 83) = if b s = 99 ∧ b (s + 1) = 97 ∧ b (s + 2) = 108 ∧ b (s + 3) = 108 then some 3 else some (-1) := by
      simp (maxDischargeDepth := 40) only [f_X7_wordHere_52, f_X7_wordHere_96, f_X7_wordHere_97, hL, gc_0, gc_1, gc_2, gc_3, gc_4, gc_5, Ly_put, kcf, kca, l0, l1, l2, l3, b0', b1', b2, b3, iand, mCp_e, mC_e, mCv_e, mZ_0, mZ_1, mZ_ifb, if_true, if_false, n10, eq_self, reduceCtorEq, Bool.false_eq_true, Nat.add_zero, Nat.reduceAdd]
    rw [U, V]
    by_cases a0 : b s = 102 ∧ b (s + 1) = 101 ∧ b (s + 2) = 108 ∧ b (s + 3) = 108
    · have t0 := s0.mpr ⟨c4, a0⟩
      have t3 : spl b s e 3 = false := by cases z : spl b s e 3 with | false => rfl | true => have := s3.mp z; omega
      rw [if_pos a0, t0, t3]
      rfl
    · have t0 : spl b s e 0 = false := by cases z : spl b s e 0 with | false => rfl | true => exact absurd (s0.mp z).2 a0
      rw [if_neg a0, t0]
      by_cases a3 : b s = 99 ∧ b (s + 1) = 97 ∧ b (s + 2) = 108 ∧ b (s + 3) = 108
      · rw [if_pos a3, s3.mpr ⟨c4, a3⟩]
        rfl
      · have t3 : spl b s e 3 = false := by cases z : spl b s e 3 with | false => rfl | true => exact absurd (s3.mp z).2 a3
        rw [if_neg a3, t3]
        rfl
  · have c4e : (e - s = 4) = False := eq_false c4
    have n0 : spl b s e 0 = false := by cases z : spl b s e 0 with | false => rfl | true => exact absurd (s0.mp z).1 c4
    have n3 : spl b s e 3 = false := by cases z : spl b s e 3 with | false => rfl | true => exact absurd (s3.mp z).1 c4
    by_cases c5 : e - s = 5
    · have c5e : (e - s = 5) = True := eq_true c5
      have l0 : f_X7_letter (nI 83) 0 S = some (nI (b s)) := y_let (i := 0) hL hn (by omega) ty h7
      have l1 : f_X7_letter (nI 83) 1 S = some (nI (b (s + 1))) := y_let (i := 1) hL hn (by omega) ty h7
      have l2 : f_X7_letter (nI 83) 2 S = some (nI (b (s + 2))) := y_let (i := 2) hL hn (by omega) ty h7
      have l3 : f_X7_letter (nI 83) 3 S = some (nI (b (s + 3))) := y_let (i := 3) hL hn (by omega) ty h7
      have l4 : f_X7_letter (nI 83) 4 S = some (nI (b (s + 4))) := y_let (i := 4) hL hn (by omega) ty h7
      have b0 : (nI (b s) = 115) = (b s = 115) := eb 0 (by omega) 115 (by decide)
      have b1 : (nI (b (s + 1)) = 104) = (b (s + 1) = 104) := eb 1 (by omega) 104 (by decide)
      have b1' : (nI (b (s + 1)) = 116) = (b (s + 1) = 116) := eb 1 (by omega) 116 (by decide)
      have b2 : (nI (b (s + 2)) = 101) = (b (s + 2) = 101) := eb 2 (by omega) 101 (by decide)
      have b3 : (nI (b (s + 3)) = 101) = (b (s + 3) = 101) := eb 3 (by omega) 101 (by decide)
      have b3' : (nI (b (s + 3)) = 112) = (b (s + 3) = 112) := eb 3 (by omega) 112 (by decide)
      have b4 : (nI (b (s + 4)) = 112) = (b (s + 4) = 112) := eb 4 (by omega) 112 (by decide)
      have b4' : (nI (b (s + 4)) = 115) = (b (s + 4) = 115) := eb 4 (by omega) 115 (by decide)
      have n1 : spl b s e 1 = false := by cases z : spl b s e 1 with | false => rfl | true => have := s1.mp z; omega
      rw [w5, n0, n3, n1]
      have U : f_X7_wordHere (nI 83) S = if b s = 115 ∧ b (s + 1) = 104 ∧ b (s + 2) = 101 ∧ b (s + 3) = 101 ∧ b (s + 4) = 112 then some 2 else f_X7_wordHere_155 S (nI 83) := by
        simp (maxDischargeDepth := 40) only [f_X7_wordHere, hL, gc_0, gc_1, gc_2, gc_3, gc_4, gc_5, Ly_put, kcf, kca, ws, z4, c4e, z5, c5e, l0, l1, l2, l3, l4, b0, b1, b2, b3, b4, iand, mCp_e, mC_e, mCv_e, mZ_0, mZ_1, mZ_ifb, if_true, if_false, n10, eq_self, reduceCtorEq, Bool.false_eq_true, Nat.add_zero, Nat.reduceAdd]
      have V : f_X7_wordHere_155 S (nI 83) = if b s = 115 ∧ b (s + 1) = 116 ∧ b (s + 2) = 101 ∧ b (s + 3) = 112 ∧ b (s + 4) = 115 then some 4 else some (-1) := by
        simp (maxDischargeDepth := 40) only [f_X7_wordHere_155, f_X7_wordHere_209, f_X7_wordHere_210, hL, gc_0, gc_1, gc_2, gc_3, gc_4, gc_5, Ly_put, kcf, kca, l0, l1, l2, l3, l4, b0, b1', b2, b3', b4', iand, mCp_e, mC_e, mCv_e, mZ_0, mZ_1, mZ_ifb, if_true, if_false, n10, eq_self, reduceCtorEq, Bool.false_eq_true, Nat.add_zero, Nat.reduceAdd]
      rw [U, V]
      by_cases a0 : b s = 115 ∧ b (s + 1) = 104 ∧ b (s + 2) = 101 ∧ b (s + 3) = 101 ∧ b (s + 4) = 112
      · have t4 : spl b s e 4 = false := by cases z : spl b s e 4 with | false => rfl | true => have := s4.mp z; omega
        rw [if_pos a0, s2.mpr ⟨c5, a0⟩, t4]
        rfl
      · have t2 : spl b s e 2 = false := by cases z : spl b s e 2 with | false => rfl | true => exact absurd (s2.mp z).2 a0
        rw [if_neg a0, t2]
        by_cases a3 : b s = 115 ∧ b (s + 1) = 116 ∧ b (s + 2) = 101 ∧ b (s + 3) = 112 ∧ b (s + 4) = 115
        · rw [if_pos a3, s4.mpr ⟨c5, a3⟩]
          rfl
        · have t4 : spl b s e 4 = false := by cases z : spl b s e 4 with | false => rfl | true => exact absurd (s4.mp z).2 a3
          rw [if_neg a3, t4]
          rfl
    · have c5e : (e - s = 5) = False := eq_false c5
      have n2 : spl b s e 2 = false := by cases z : spl b s e 2 with | false => rfl | true => exact absurd (s2.mp z).1 c5
      have n4 : spl b s e 4 = false := by cases z : spl b s e 4 with | false => rfl | true => exact absurd (s4.mp z).1 c5
      rw [w5, n0, n3, n2, n4]
      by_cases c7 : e - s = 7
      · have c7e : (e - s = 7) = True := eq_true c7
        have l0 : f_X7_letter (nI 83) 0 S = some (nI (b s)) := y_let (i := 0) hL hn (by omega) ty h7
        have l1 : f_X7_letter (nI 83) 1 S = some (nI (b (s + 1))) := y_let (i := 1) hL hn (by omega) ty h7
        have l2 : f_X7_letter (nI 83) 2 S = some (nI (b (s + 2))) := y_let (i := 2) hL hn (by omega) ty h7
        have l3 : f_X7_letter (nI 83) 3 S = some (nI (b (s + 3))) := y_let (i := 3) hL hn (by omega) ty h7
        have l4 : f_X7_letter (nI 83) 4 S = some (nI (b (s + 4))) := y_let (i := 4) hL hn (by omega) ty h7
        have l5 : f_X7_letter (nI 83) 5 S = some (nI (b (s + 5))) := y_let (i := 5) hL hn (by omega) ty h7
        have l6 : f_X7_letter (nI 83) 6 S = some (nI (b (s + 6))) := y_let (i := 6) hL hn (by omega) ty h7
        have b0 : (nI (b s) = 119) = (b s = 119) := eb 0 (by omega) 119 (by decide)
        have b1 : (nI (b (s + 1)) = 104) = (b (s + 1) = 104) := eb 1 (by omega) 104 (by decide)
        have b2 : (nI (b (s + 2)) = 105) = (b (s + 2) = 105) := eb 2 (by omega) 105 (by decide)
        have b3 : (nI (b (s + 3)) = 115) = (b (s + 3) = 115) := eb 3 (by omega) 115 (by decide)
        have b4 : (nI (b (s + 4)) = 116) = (b (s + 4) = 116) := eb 4 (by omega) 116 (by decide)
        have b5 : (nI (b (s + 5)) = 108) = (b (s + 5) = 108) := eb 5 (by omega) 108 (by decide)
        have b6 : (nI (b (s + 6)) = 101) = (b (s + 6) = 101) := eb 6 (by omega) 101 (by decide)
        have U : f_X7_wordHere (nI 83) S = if b s = 119 ∧ b (s + 1) = 104 ∧ b (s + 2) = 105 ∧ b (s + 3) = 115 then f_X7_wordHere_264 S (nI 83) 1 else f_X7_wordHere_263 S (nI 83) := by
          simp (maxDischargeDepth := 40) only [f_X7_wordHere, hL, gc_0, gc_1, gc_2, gc_3, gc_4, gc_5, Ly_put, kcf, kca, ws, z4, c4e, z5, c5e, z7, c7e, l0, l1, l2, l3, b0, b1, b2, b3, iand, mCp_e, mC_e, mCv_e, mZ_0, mZ_1, mZ_ifb, if_true, if_false, n10, eq_self, reduceCtorEq, Bool.false_eq_true, Nat.add_zero, Nat.reduceAdd]
        have V : f_X7_wordHere_264 S (nI 83) 1 = if b (s + 4) = 116 ∧ b (s + 5) = 108 ∧ b (s + 6) = 101 then some 1 else some (-1) := by
          simp (maxDischargeDepth := 40) only [f_X7_wordHere_264, f_X7_wordHere_304, f_X7_wordHere_305, hL, gc_0, gc_1, gc_2, gc_3, gc_4, gc_5, Ly_put, kcf, kca, l4, l5, l6, b4, b5, b6, iand, mCp_e, mC_e, mCv_e, mZ_0, mZ_1, mZ_ifb, if_true, if_false, n10, eq_self, reduceCtorEq, Bool.false_eq_true, Nat.add_zero, Nat.reduceAdd]
        have V' : f_X7_wordHere_263 S (nI 83) = some (-1) := by
          simp (maxDischargeDepth := 40) only [f_X7_wordHere_263, f_X7_wordHere_264, f_X7_wordHere_304, f_X7_wordHere_305, mCp_e, mC_e, mCv_e, mZ_0, mZ_1, mZ_ifb, if_true, if_false, n10, eq_self, reduceCtorEq, Bool.false_eq_true, Nat.add_zero, Nat.reduceAdd]
        rw [U, V, V']
        by_cases a0 : b s = 119 ∧ b (s + 1) = 104 ∧ b (s + 2) = 105 ∧ b (s + 3) = 115
        · by_cases a3 : b (s + 4) = 116 ∧ b (s + 5) = 108 ∧ b (s + 6) = 101
          · rw [if_pos a0, if_pos a3, s1.mpr ⟨c7, a0.1, a0.2.1, a0.2.2.1, a0.2.2.2, a3⟩]
            rfl
          · have t1 : spl b s e 1 = false := by cases z : spl b s e 1 with | false => rfl | true => exact absurd (s1.mp z).2.2.2.2.2 a3
            rw [if_pos a0, if_neg a3, t1]
            rfl
        · have t1 : spl b s e 1 = false := by
            cases z : spl b s e 1 with
            | false => rfl
            | true =>
              have y := s1.mp z
              exact absurd ⟨y.2.1, y.2.2.1, y.2.2.2.1, y.2.2.2.2.1⟩ a0
          rw [if_neg a0, t1]
          rfl
      · have c7e : (e - s = 7) = False := eq_false c7
        have n1 : spl b s e 1 = false := by cases z : spl b s e 1 with | false => rfl | true => exact absurd (s1.mp z).1 c7
        rw [n1]
        simp (maxDischargeDepth := 40) only [f_X7_wordHere, hL, gc_0, gc_1, gc_2, gc_3, gc_4, gc_5, Ly_put, kcf, kca, ws, z4, c4e, z5, c5e, z7, c7e, mCp_e, mC_e, mCv_e, mZ_0, mZ_1, mZ_ifb, if_true, if_false, n10, eq_self, reduceCtorEq, Bool.false_eq_true, Nat.add_zero, Nat.reduceAdd]
        rfl
