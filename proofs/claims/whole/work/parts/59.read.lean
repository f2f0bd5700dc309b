/-! read, the reference's side: numbers, ends, one ITEM -/
theorem tK_1 {n : Nat} {b : Nat → Nat} {q : Nat} (hq : q ≤ n) : (tK n b q = 1 ↔ 1 ≤ rn (isF b) n (tS n b q) - tS n b q ∧ rn (isF b) n (tS n b q) - tS n b q ≤ 2) ∧ (tK n b q = 1 → tE n b q = rn (isF b) n (tS n b q)) := by
  have ts := tS_le (b := b) hq
  have ro := rn_ok (Q := isF b) ts.2
  by_cases c : n ≤ tS n b q
  · refine ⟨⟨fun h => ?_, fun h => by omega⟩, fun h => ?_⟩ <;> (rw [tK_0.mpr c] at h; cases h)
  · have hz : isF b (tS n b q) = false → rn (isF b) n (tS n b q) = tS n b q := fun z => rn_eq ts.2 (fun _ => z) 0 _ rfl (fun i x y => by omega)
    by_cases l : isL b (tS n b q) = true
    · have f : isF b (tS n b q) = false := by
        have l1 := of_decide_eq_true l
        exact decide_eq_false (by omega)
      have k : tK n b q ≠ 1 := by
        unfold tK wv wv wv wv wv wv
        rw [if_neg c, if_pos l]
        repeat' split
        all_goals omega
      exact ⟨⟨fun h => absurd h k, fun h => by rw [hz f] at h; omega⟩, fun h => absurd h k⟩
    · cases f : isF b (tS n b q) with
      | true =>
        have e : tE n b q = rn (isF b) n (tS n b q) := by unfold tE; rw [if_neg c, if_neg l, if_pos f]
        have g := rn_gt (n := n) (by omega) f
        have k : tK n b q = if rn (isF b) n (tS n b q) - tS n b q ≤ 2 then 1 else 3 := by unfold tK; rw [if_neg c, if_neg l, if_pos f, e]
        refine ⟨⟨fun h => ?_, fun h => ?_⟩, fun _ => e⟩
        · rw [k] at h
          by_cases z : rn (isF b) n (tS n b q) - tS n b q ≤ 2
          · omega
          · rw [if_neg z] at h
            cases h
        · rw [k, if_pos h.2]
      | false =>
        have k : tK n b q ≠ 1 := by
          unfold tK
          rw [if_neg c, if_neg l, if_neg (by rw [f]; decide)]
          repeat' split
          all_goals omega
        exact ⟨⟨fun h => absurd h k, fun h => by rw [hz f] at h; omega⟩, fun h => absurd h k⟩
theorem tK_2 {n : Nat} {b : Nat → Nat} {q : Nat} : (tK n b q = 2 ↔ tS n b q < n ∧ b (tS n b q) = 59) ∧ (tK n b q = 2 → tE n b q = tS n b q + 1) := by
  by_cases c : n ≤ tS n b q
  · exact ⟨⟨fun h => (by rw [tK_0.mpr c] at h; cases h), fun h => (by omega)⟩, fun h => (by rw [tK_0.mpr c] at h; cases h)⟩
  · by_cases l : isL b (tS n b q) = true
    · have l1 := of_decide_eq_true l
      have k : tK n b q ≠ 2 := by
        unfold tK wv wv wv wv wv wv
        rw [if_neg c, if_pos l]
        repeat' split
        all_goals omega
      exact ⟨⟨fun h => absurd h k, fun h => by omega⟩, fun h => absurd h k⟩
    · by_cases f : isF b (tS n b q) = true
      · have f1 := of_decide_eq_true f
        have k : tK n b q ≠ 2 := by
          unfold tK
          rw [if_neg c, if_neg l, if_pos f]
          repeat' split
          all_goals omega
        exact ⟨⟨fun h => absurd h k, fun h => by omega⟩, fun h => absurd h k⟩
      · have e : tE n b q = tS n b q + 1 := by unfold tE; rw [if_neg c, if_neg l, if_neg f]
        have k : tK n b q = if b (tS n b q) = 59 then 2 else 3 := by unfold tK; rw [if_neg c, if_neg l, if_neg f]
        refine ⟨⟨fun h => ⟨by omega, ?_⟩, fun h => by rw [k, if_pos h.2]⟩, fun _ => e⟩
        by_cases z : b (tS n b q) = 59
        · exact z
        · rw [k, if_neg z] at h
          cases h
theorem tE_w {n : Nat} {b : Nat → Nat} {q : Nat} (h : 4 ≤ tK n b q) : tE n b q = rn (isL b) n (tS n b q) ∧ tK n b q = wv b (tS n b q) (rn (isL b) n (tS n b q)) 5 := by
  by_cases c : n ≤ tS n b q
  · rw [tK_0.mpr c] at h
    omega
  · by_cases l : isL b (tS n b q) = true
    · have e : tE n b q = rn (isL b) n (tS n b q) := by unfold tE; rw [if_neg c, if_pos l]
      exact ⟨e, by unfold tK; rw [if_neg c, if_pos l, e]⟩
    · unfold tK at h
      rw [if_neg c, if_neg l] at h
      repeat' split at h
      all_goals omega
theorem tE_4 {n : Nat} {b : Nat → Nat} {q : Nat} (h : tK n b q = 4) : tE n b q = tS n b q + 4 := by
  have e := tE_w (n := n) (b := b) (q := q) (by omega)
  have s0 := (spl_e (b := b) (s := tS n b q) (e := rn (isL b) n (tS n b q))).1
  rw [e.1]
  have z : spl b (tS n b q) (rn (isL b) n (tS n b q)) 0 = true := by
    cases y : spl b (tS n b q) (rn (isL b) n (tS n b q)) 0 with
    | true => rfl
    | false =>
      have h2 := e.2
      rw [h] at h2
      unfold wv wv wv wv wv wv at h2
      rw [y] at h2
      repeat' split at h2
      all_goals first | omega | contradiction
  have := s0.mp z
  omega
theorem y_n9 {S : mS} {n s : Nat} {b : Nat → Nat} {lo hi : Int32} {k : Int32 → Int32 → Int32 → Int32 → Int32 → mS → Option (Int32 × mS)} (hL : Ly S) (hn : n ≤ 150) (hb : ∀ j, j < n → b j < 128) (hs : s ≤ n) (ty : yC S n b) (h7 : S.2.1 83 17 = nI s) : f_X7_number_9 k 1000 (nI 83) lo hi 0 0 S = k (nI 83) lo hi (nI (rn (isF b) n s - s)) (nI (vl b s (rn (isF b) n s))) S := by
  have e1 := ty.1
  have v0 : vl b s (s + 0) = 0 := by unfold vl; rw [if_pos (by omega)]
  have base : f_X7_number_9 k 1000 (nI 83) lo hi (nI 0) (nI (vl b s (s + 0))) S = k (nI 83) lo hi (nI (rn (isF b) n s - s)) (nI (vl b s (rn (isF b) n s))) S := by
    refine lupX (fun m j (_ : Unit) => f_X7_number_9 k m (nI 83) lo hi (nI j) (nI (vl b s (s + j))) S) (fun j _ => ∀ i, s ≤ i → i < s + j → isF b i = true) (fun β => β = k (nI 83) lo hi (nI (rn (isF b) n s - s)) (nI (vl b s (rn (isF b) n s))) S) (n - s) ?_ ?_ 1000 () (fun i a c => by omega) (by omega)
    · intro m j _ hj q3
      have le : (nI n ≤ nI (s + j)) = False := eq_false (nI_ge (by omega) (by omega))
      have e2 := ty.2 (s + j) (by omega)
      have i150 : s + j < 150 := by omega
      have hbq := hb (s + j) (by omega)
      have eb := (c_let _ hbq).2.2.2
      have l2 : ((2 : Int32) ≤ nI j) = (2 ≤ j) := le_i (a := 2) (by decide) (by omega)
      cases c : decide (48 ≤ b (s + j) ∧ b (s + j) ≤ 57) with
      | true =>
        right
        rw [c] at eb
        have cc := of_decide_eq_true c
        refine ⟨(), fun i x y => ?_, ?_⟩
        · by_cases e : i = s + j
          · rw [e]; exact c
          · exact q3 i x (by omega)
        · show f_X7_number_9 k (m + 1) _ _ _ _ _ _ = _
          rw [f_X7_number_9_s]
          by_cases g : 2 ≤ j
          · have ge : (2 ≤ j) = True := eq_true g
            have ev : vl b s (s + (j + 1)) = vl b s (s + j) := by
              unfold vl
              rw [if_neg (by omega), if_neg (by omega), if_neg (by omega), if_neg (by omega)]
            simp (maxDischargeDepth := 40) only [hL, gc_0, gc_1, gc_2, gc_3, gc_4, gc_5, Ly_put, kcf, kca, e1, h7, nI_add, le, i150, e2, eb, l2, ge, f_X7_number_69, nI_1, ev, mCp_e, mC_e, mCv_e, mZ_0, mZ_1, mZ_ifb, if_true, if_false, n10, eq_self, reduceCtorEq, Bool.false_eq_true, Nat.add_zero, Nat.reduceAdd]
          · have ge : (2 ≤ j) = False := eq_false g
            have ev : 10 * nI (vl b s (s + j)) + nI (b (s + j)) - 48 = nI (vl b s (s + (j + 1))) := by
              rw [show (10 : Int32) = nI 10 from rfl, show (48 : Int32) = nI 48 from rfl, nI_mul, nI_add, nI_sub (by omega)]
              congr 1
              unfold vl
              rcases (show j = 0 ∨ j = 1 by omega) with rfl | rfl
              · rw [if_pos (by omega), if_neg (by omega), if_pos (by omega)]
                rw [Nat.add_zero]
                omega
              · rw [if_neg (by omega), if_pos (by omega), if_neg (by omega), if_neg (by omega)]
            have i9 : nI (s + j) = nI s + nI j := (nI_add s j).symm
            have a1 : nI s + nI j = nI (s + j) := nI_add s j
            simp (maxDischargeDepth := 40) only [hL, gc_0, gc_1, gc_2, gc_3, gc_4, gc_5, Ly_put, kcf, kca, e1, h7, a1, le, i150, e2, eb, l2, ge, f_X7_number_69, nI_1, ev, mCp_e, mC_e, mCv_e, mZ_0, mZ_1, mZ_ifb, if_true, if_false, n10, eq_self, reduceCtorEq, Bool.false_eq_true, Nat.add_zero, Nat.reduceAdd]
      | false =>
        left
        rw [c] at eb
        rw [rn_eq (Q := isF b) (q := s + j) (n := n) (by omega) (fun _ => c) j s rfl q3, Nat.add_sub_cancel_left]
        show f_X7_number_9 k (m + 1) _ _ _ _ _ _ = _
        rw [f_X7_number_9_s]
        simp (maxDischargeDepth := 40) only [hL, gc_0, gc_1, gc_2, gc_3, gc_4, gc_5, Ly_put, kcf, kca, e1, h7, nI_add, le, i150, e2, eb, mCp_e, mC_e, mCv_e, mZ_0, mZ_1, mZ_ifb, if_true, if_false, n10, eq_self, reduceCtorEq, Bool.false_eq_true, Nat.add_zero, Nat.reduceAdd]
    · intro m _ q3
      have le : (nI n ≤ nI (s + (n - s))) = True := by rw [show s + (n - s) = n by omega]; exact eq_true ng_i
      rw [rn_eq (Q := isF b) (q := s + (n - s)) (n := n) (by omega) (fun h => by omega) (n - s) s rfl q3, Nat.add_sub_cancel_left]
      show f_X7_number_9 k (m + 1) _ _ _ _ _ _ = _
      rw [f_X7_number_9_s]
      simp (maxDischargeDepth := 40) only [hL, gc_0, gc_1, gc_2, gc_3, gc_4, gc_5, Ly_put, kcf, kca, e1, h7, nI_add, le, mCp_e, mC_e, mCv_e, mZ_0, mZ_1, mZ_ifb, if_true, if_false, n10, eq_self, reduceCtorEq, Bool.false_eq_true, Nat.add_zero, Nat.reduceAdd]
  rw [v0] at base
  exact base
theorem y_num {S : mS} {n q : Nat} {b : Nat → Nat} {lo hi : Int32} {c : Bool} (hL : Ly S) (hn : n ≤ 150) (hb : ∀ j, j < n → b j < 128) (hq : q ≤ n) (ty : yC S n b) (h7 : S.2.1 83 17 = nI q) (hin : tK n b q = 1 → f_X7_in (nI (tV n b q)) lo hi = some (if c = true then 1 else 0)) : ∃ S1, f_X7_number (nI 83) lo hi S = some (if tK n b q = 1 ∧ c = true then 1 else 0, S1) ∧ Fn S S1 ∧ (tK n b q = 1 ∧ c = true → S1.2.1 83 17 = nI (tE n b q) ∧ S1.2.1 83 18 = nI (tV n b q)) ∧ (¬ (tK n b q = 1 ∧ c = true) → S1.2.1 83 17 = nI (tS n b q)) := by
  obtain ⟨A, a1, a2, a3⟩ := y_skip hL hn hb hq ty h7
  have A0 := a2.1
  have ts := tS_le (b := b) hq
  have ro := rn_ok (Q := isF b) ts.2
  have t1 := tK_1 (b := b) hq
  have e9 := y_n9 (lo := lo) (hi := hi) (k := f_X7_number_77) A0 hn hb ts.2 (yC_n a2 ty) a3
  have d1 : (nI (rn (isF b) n (tS n b q) - tS n b q) < 1) = (rn (isF b) n (tS n b q) - tS n b q < 1) := lt_i (b := 1) (by omega) (by decide)
  have d2 : ((2 : Int32) < nI (rn (isF b) n (tS n b q) - tS n b q)) = (2 < rn (isF b) n (tS n b q) - tS n b q) := lt_i (a := 2) (by decide) (by omega)
  have i12 := y_in (nI (rn (isF b) n (tS n b q) - tS n b q)) 1 2
  by_cases g : tK n b q = 1
  · have gg := t1.1.mp g
    have g1 : (rn (isF b) n (tS n b q) - tS n b q < 1) = False := eq_false (by omega)
    have g2 : (2 < rn (isF b) n (tS n b q) - tS n b q) = False := eq_false (by omega)
    have eE := t1.2 g
    have eV : vl b (tS n b q) (rn (isF b) n (tS n b q)) = tV n b q := by unfold tV; rw [eE]
    rw [eV] at e9
    have hi' := hin g
    cases hc : c with
    | true =>
      rw [hc] at hi'
      have f8 : Fn A (mPut A 83 18 (nI (tV n b q))) := Fn_18 A0
      have f7 : Fn (mPut A 83 18 (nI (tV n b q))) (mPut (mPut A 83 18 (nI (tV n b q))) 83 17 (nI (tE n b q))) := Fn_17 f8.1
      have es : nI (tS n b q) + nI (rn (isF b) n (tS n b q) - tS n b q) = nI (tE n b q) := by rw [nI_add, eE]; congr 1; omega
      refine ⟨mPut (mPut A 83 18 (nI (tV n b q))) 83 17 (nI (tE n b q)), ?_, Fn_tr a2 (Fn_tr f8 f7), fun _ => ⟨by rw [mPut_g, if_pos ⟨rfl, rfl⟩], by rw [mPut_g, if_neg (by decide), mPut_g, if_pos ⟨rfl, rfl⟩]⟩, fun z => absurd ⟨g, rfl⟩ z⟩
      rw [if_pos ⟨g, rfl⟩]
      simp (maxDischargeDepth := 40) only [f_X7_number, hL, gc_0, gc_1, gc_2, gc_3, gc_4, gc_5, Ly_put, kcf, kca, a1, e9, f_X7_number_77, i12, d1, d2, g1, g2, hi', A0, a3, es, mPut_g, mPut_g, Nat.reduceEqDiff, and_true, true_and, and_false, false_and, and_self, not_false_eq_true, and_self, mCp_e, mC_e, mCv_e, mZ_0, mZ_1, mZ_ifb, if_true, if_false, n10, eq_self, reduceCtorEq, Bool.false_eq_true, Nat.add_zero, Nat.reduceAdd]
    | false =>
      rw [hc] at hi'
      refine ⟨A, ?_, a2, fun z => Bool.noConfusion z.2, fun _ => a3⟩
      rw [if_neg (show ¬ (tK n b q = 1 ∧ false = true) from fun z => Bool.noConfusion z.2)]
      simp (maxDischargeDepth := 40) only [f_X7_number, hL, gc_0, gc_1, gc_2, gc_3, gc_4, gc_5, Ly_put, kcf, kca, a1, e9, f_X7_number_77, f_X7_number_96, i12, d1, d2, g1, g2, hi', A0, not_false_eq_true, and_self, mCp_e, mC_e, mCv_e, mZ_0, mZ_1, mZ_ifb, if_true, if_false, n10, eq_self, reduceCtorEq, Bool.false_eq_true, Nat.add_zero, Nat.reduceAdd]
  · refine ⟨A, ?_, a2, fun z => absurd z.1 g, fun _ => a3⟩
    rw [if_neg (fun z => g z.1)]
    have gg : ¬ (1 ≤ rn (isF b) n (tS n b q) - tS n b q ∧ rn (isF b) n (tS n b q) - tS n b q ≤ 2) := fun z => g (t1.1.mpr z)
    by_cases g1 : rn (isF b) n (tS n b q) - tS n b q < 1
    · have g1e : (rn (isF b) n (tS n b q) - tS n b q < 1) = True := eq_true g1
      simp (maxDischargeDepth := 40) only [f_X7_number, hL, gc_0, gc_1, gc_2, gc_3, gc_4, gc_5, Ly_put, kcf, kca, a1, e9, f_X7_number_77, f_X7_number_96, i12, d1, d2, g1e, A0, not_true, false_and, mCp_e, mC_e, mCv_e, mZ_0, mZ_1, mZ_ifb, if_true, if_false, n10, eq_self, reduceCtorEq, Bool.false_eq_true, Nat.add_zero, Nat.reduceAdd]
    · have g1e : (rn (isF b) n (tS n b q) - tS n b q < 1) = False := eq_false g1
      have g2e : (2 < rn (isF b) n (tS n b q) - tS n b q) = True := eq_true (by omega)
      simp (maxDischargeDepth := 40) only [f_X7_number, hL, gc_0, gc_1, gc_2, gc_3, gc_4, gc_5, Ly_put, kcf, kca, a1, e9, f_X7_number_77, f_X7_number_96, i12, d1, d2, g1e, g2e, A0, not_true, and_false, mCp_e, mC_e, mCv_e, mZ_0, mZ_1, mZ_ifb, if_true, if_false, n10, eq_self, reduceCtorEq, Bool.false_eq_true, Nat.add_zero, Nat.reduceAdd]
theorem y_ends {S : mS} {n q : Nat} {b : Nat → Nat} (hL : Ly S) (hn : n ≤ 150) (hb : ∀ j, j < n → b j < 128) (hq : q ≤ n) (ty : yC S n b) (h7 : S.2.1 83 17 = nI q) : ∃ S1, f_X7_ends (nI 83) S = some (if (pI3 n b q).1 = true then 1 else 0, S1) ∧ Fn S S1 ∧ S1.2.1 83 17 = nI (pI3 n b q).2 := by
  obtain ⟨A, a1, a2, a3⟩ := y_skip hL hn hb hq ty h7
  have A0 := a2.1
  have ts := tS_le (b := b) hq
  have t2 := tK_2 (n := n) (b := b) (q := q)
  have hh := y_here A0 hn ts.2 (yC_n a2 ty) a3
  by_cases g : tK n b q = 2
  · have gg := t2.1.mp g
    have pe : pI3 n b q = (true, tE n b q) := by unfold pI3; rw [if_pos g]
    rw [if_pos gg.1, gg.2] at hh
    have c59 : (nI 59 = 59) = True := eq_true rfl
    rw [pe, t2.2 g]
    refine ⟨mPut A 83 17 (nI (tS n b q + 1)), ?_, Fn_tr a2 (Fn_17 A0), by rw [mPut_g, if_pos ⟨rfl, rfl⟩]⟩
    simp (maxDischargeDepth := 40) only [f_X7_ends, hL, gc_0, gc_1, gc_2, gc_3, gc_4, gc_5, Ly_put, kcf, kca, a1, A0, hh, c59, a3, nI_1, mCp_e, mC_e, mCv_e, mZ_0, mZ_1, mZ_ifb, if_true, if_false, n10, eq_self, reduceCtorEq, Bool.false_eq_true, Nat.add_zero, Nat.reduceAdd]
  · have pe : pI3 n b q = (false, tS n b q) := by unfold pI3; rw [if_neg g]
    rw [pe]
    refine ⟨A, ?_, a2, a3⟩
    by_cases c : tS n b q < n
    · have hbq := hb _ c
      have c59 : (nI (b (tS n b q)) = 59) = False := by rw [show (59 : Int32) = nI 59 from rfl, eq_i (by omega) (by decide)]; exact eq_false (fun z => g (t2.1.mpr ⟨c, z⟩))
      rw [if_pos c] at hh
      simp (maxDischargeDepth := 40) only [f_X7_ends, hL, gc_0, gc_1, gc_2, gc_3, gc_4, gc_5, Ly_put, kcf, kca, a1, A0, hh, c59, mCp_e, mC_e, mCv_e, mZ_0, mZ_1, mZ_ifb, if_true, if_false, n10, eq_self, reduceCtorEq, Bool.false_eq_true, Nat.add_zero, Nat.reduceAdd]
    · have c59 : ((-1 : Int32) = 59) = False := eq_false (by decide)
      rw [if_neg c] at hh
      simp (maxDischargeDepth := 40) only [f_X7_ends, hL, gc_0, gc_1, gc_2, gc_3, gc_4, gc_5, Ly_put, kcf, kca, a1, A0, hh, c59, mCp_e, mC_e, mCv_e, mZ_0, mZ_1, mZ_ifb, if_true, if_false, n10, eq_self, reduceCtorEq, Bool.false_eq_true, Nat.add_zero, Nat.reduceAdd]
def FY (S S1 : mS) : Prop := TM S S1 ∧ S1.2.1 93 = S.2.1 93
theorem FY_rf {S : mS} : FY S S := ⟨TM_rf, rfl⟩
theorem FY_tr {S S1 S2 : mS} (a : FY S S1) (b : FY S1 S2) : FY S S2 := ⟨TM_tr a.1 b.1, b.2.trans a.2⟩
theorem FY_n {S S1 : mS} (a : Fn S S1) : FY S S1 := ⟨⟨a.2.1.1, fun k hk => a.2.1.2.1 k (by omega), a.2.2 16 (by decide), fun j _ => by rw [a.2.1.2.2]⟩, a.2.1.2.1 93 (by decide)⟩
theorem FY_9 {S S1 : mS} (f : F9 S S1) : FY S S1 := ⟨F9_TM f, f.2.1 93 (by decide)⟩
theorem FY_8 {S S1 : mS} (f : F8 S S1) : FY S S1 := ⟨F8_TM f, f.2.1 93 (by decide)⟩
theorem FY_m {S S1 : mS} (f : FM S S1) : FY S S1 := ⟨FM_TM f, f.2.1 93 (by decide) (by decide) (by decide)⟩
theorem yC_y {n : Nat} {b : Nat → Nat} {S S1 : mS} (a : FY S S1) (c : yC S n b) : yC S1 n b := ⟨a.1.2.2.1.trans c.1, fun j hj => by rw [a.1.2.1 92 (by omega)]; exact c.2 j hj⟩
/-- behind an item -/
def yO (S S1 : mS) (r : Bool × Nat) (k : HS × Nat) : Prop := Ly S1 ∧ FY S S1 ∧ S1.2.1 83 17 = nI r.2 ∧ (r.1 = true → MK S1 (kOf k.1 k.2))
theorem yin_d {v N : Nat} (hv : v < 100) (hN : N < 2147483648) : f_X7_in (nI v) 0 (nI N - 1) = some (if decide (v < N) = true then 1 else 0) := by
  rw [(is_dN N hN).2, dN_d (by omega)]
theorem y_one {S : mS} {n q : Nat} {b : Nat → Nat} {h : HS} {c : Nat} (sh : Bool) (hL : Ly S) (hn : n ≤ 150) (hb : ∀ j, j < n → b j < 128) (hq : q ≤ n) (ty : yC S n b) (h7 : S.2.1 83 17 = nI q) (mk : MK S (kOf h c)) (hw : sh = false → h.w < 3) (hf : sh = true → h.f < 7) : ∃ S1, f_X7_readsOne (nI 83) (if sh = true then 1 else 0) S = some (if (pI1 n b (if sh = true then 6 else 5) h.w q).1 = true then 1 else 0, S1) ∧ yO S S1 (pI1 n b (if sh = true then 6 else 5) h.w q) (pX (if sh = true then 6 else 5) (tV n b q) (tV n b (tE n b q)) h c) := by
  have e11 : f_X7_readsOne (nI 83) (if sh = true then 1 else 0) S = f_X7_readsOne_11 (nI 83) (if sh = true then 1 else 0) (nI 83) 0 5 S := by
    cases sh <;> simp (maxDischargeDepth := 40) only [f_X7_readsOne, mCp_e, mC_e, mCv_e, mZ_0, mZ_1, mZ_ifb, if_true, if_false, n10, eq_self, reduceCtorEq, Bool.false_eq_true, Nat.add_zero, Nat.reduceAdd]
  rw [e11]
  have k56 : ¬ ((if sh = true then 6 else 5) = 4 ∨ (if sh = true then 6 else 5) = 8) := by cases sh <;> decide
  have f56 : ∀ v, fsN (if sh = true then 6 else 5) h.w v = decide (v < 6) := fun v => by cases sh <;> rfl
  have s56 : ∀ v, snN (if sh = true then 6 else 5) v = decide (v < 25) := fun v => by cases sh <;> rfl
  obtain ⟨A, a1, a2, a3, a4⟩ := y_num (lo := 0) (hi := 5) (c := decide (tV n b q < 6)) hL hn hb hq ty h7 (fun g => yin_d (N := 6) (tV_lt hq g).1 (by decide))
  have A0 := a2.1
  by_cases g : tK n b q = 1 ∧ decide (tV n b q < 6) = true
  · obtain ⟨A7, A8⟩ := a3 g
    rw [if_pos g] at a1
    have l1 := (tE_le (b := b) hq).2
    obtain ⟨B, b1, b2, b3, b4⟩ := y_num (lo := 0) (hi := 24) (c := decide (tV n b (tE n b q) < 25)) A0 hn hb l1 (yC_n a2 ty) A7 (fun g => yin_d (N := 25) (tV_lt l1 g).1 (by decide))
    have B0 := b2.1
    have p1 : pI1 n b (if sh = true then 6 else 5) h.w q = pI2 n b (if sh = true then 6 else 5) (tE n b q) := by
      unfold pI1
      rw [if_pos (show tK n b q = 1 ∧ fsN (if sh = true then 6 else 5) h.w (tV n b q) = true from ⟨g.1, by rw [f56]; exact g.2⟩), if_neg k56]
    rw [p1]
    by_cases g2 : tK n b (tE n b q) = 1 ∧ decide (tV n b (tE n b q) < 25) = true
    · obtain ⟨B7, B8⟩ := b3 g2
      rw [if_pos g2] at b1
      have l2 := (tE_le (b := b) l1).2
      obtain ⟨C, c1, c2, c3⟩ := y_ends B0 hn hb l2 (yC_n b2 (yC_n a2 ty)) B7
      have C0 := c2.1
      have p2 : pI2 n b (if sh = true then 6 else 5) (tE n b q) = pI3 n b (tE n b (tE n b q)) := by
        unfold pI2
        rw [if_pos (show tK n b (tE n b q) = 1 ∧ snN (if sh = true then 6 else 5) (tV n b (tE n b q)) = true from ⟨g2.1, by rw [s56]; exact g2.2⟩)]
      rw [p2]
      have fC := Fn_tr a2 (Fn_tr b2 c2)
      have mkC := MK_n fC mk
      cases r : (pI3 n b (tE n b (tE n b q))).1 with
      | false =>
        rw [r] at c1
        refine ⟨C, ?_, C0, FY_n fC, c3, fun z => by rw [r] at z; cases z⟩
        simp (maxDischargeDepth := 40) only [f_X7_readsOne_11, hL, gc_0, gc_1, gc_2, gc_3, gc_4, gc_5, Ly_put, kcf, kca, a1, A0, A8, b1, B0, B8, c1, mCp_e, mC_e, mCv_e, mZ_0, mZ_1, mZ_ifb, if_true, if_false, n10, eq_self, reduceCtorEq, Bool.false_eq_true, Nat.add_zero, Nat.reduceAdd]
      | true =>
        rw [r] at c1
        cases sh with
        | false =>
          obtain ⟨D, d1, d2, d3, d4, d5⟩ := y_addW (a := tV n b q) (c := tV n b (tE n b q)) C0 mkC.2.1 (hw rfl)
          refine ⟨D, ?_, d2, FY_tr (FY_n fC) (FY_9 d4), (d4.2.2.1 17 (by decide) (by decide) (by decide) (by decide)).trans c3, fun _ => MK_9 d4 mkC d3 d5⟩
          simp (maxDischargeDepth := 40) only [f_X7_readsOne_11, f_X7_readsOne_71, hL, gc_0, gc_1, gc_2, gc_3, gc_4, gc_5, Ly_put, kcf, kca, a1, A0, A8, b1, B0, B8, c1, C0, d1, mCp_e, mC_e, mCv_e, mZ_0, mZ_1, mZ_ifb, if_true, if_false, n10, eq_self, reduceCtorEq, Bool.false_eq_true, Nat.add_zero, Nat.reduceAdd]
        | true =>
          obtain ⟨D, d1, d2, d3, d4, d5⟩ := y_addS (a := tV n b q) (c := tV n b (tE n b q)) C0 mkC.2.1 (hf rfl)
          refine ⟨D, ?_, d2, FY_tr (FY_n fC) (FY_9 d4), (d4.2.2.1 17 (by decide) (by decide) (by decide) (by decide)).trans c3, fun _ => MK_9 d4 mkC d3 d5⟩
          simp (maxDischargeDepth := 40) only [f_X7_readsOne_11, f_X7_readsOne_71, hL, gc_0, gc_1, gc_2, gc_3, gc_4, gc_5, Ly_put, kcf, kca, a1, A0, A8, b1, B0, B8, c1, C0, d1, mCp_e, mC_e, mCv_e, mZ_0, mZ_1, mZ_ifb, if_true, if_false, n10, eq_self, reduceCtorEq, Bool.false_eq_true, Nat.add_zero, Nat.reduceAdd]
    · have b4 := b4 g2
      rw [if_neg g2] at b1
      have p2 : pI2 n b (if sh = true then 6 else 5) (tE n b q) = (false, tS n b (tE n b q)) := by
        unfold pI2
        rw [if_neg (show ¬ (tK n b (tE n b q) = 1 ∧ snN (if sh = true then 6 else 5) (tV n b (tE n b q)) = true) from fun z => g2 ⟨z.1, by rw [← s56]; exact z.2⟩)]
      rw [p2]
      refine ⟨B, ?_, B0, FY_n (Fn_tr a2 b2), b4, fun z => Bool.noConfusion z⟩
      simp (maxDischargeDepth := 40) only [f_X7_readsOne_11, hL, gc_0, gc_1, gc_2, gc_3, gc_4, gc_5, Ly_put, kcf, kca, a1, A0, A8, b1, mCp_e, mC_e, mCv_e, mZ_0, mZ_1, mZ_ifb, if_true, if_false, n10, eq_self, reduceCtorEq, Bool.false_eq_true, Nat.add_zero, Nat.reduceAdd]
  · have a4 := a4 g
    rw [if_neg g] at a1
    have p1 : pI1 n b (if sh = true then 6 else 5) h.w q = (false, tS n b q) := by
      unfold pI1
      rw [if_neg (show ¬ (tK n b q = 1 ∧ fsN (if sh = true then 6 else 5) h.w (tV n b q) = true) from fun z => g ⟨z.1, by rw [← f56]; exact z.2⟩)]
    rw [p1]
    refine ⟨A, ?_, A0, FY_n a2, a4, fun z => Bool.noConfusion z⟩
    simp (maxDischargeDepth := 40) only [f_X7_readsOne_11, hL, gc_0, gc_1, gc_2, gc_3, gc_4, gc_5, Ly_put, kcf, kca, a1, mCp_e, mC_e, mCv_e, mZ_0, mZ_1, mZ_ifb, if_true, if_false, n10, eq_self, reduceCtorEq, Bool.false_eq_true, Nat.add_zero, Nat.reduceAdd]
theorem y_rcall {S : mS} {n q : Nat} {b : Nat → Nat} {h : HS} {c : Nat} (hL : Ly S) (hn : n ≤ 150) (hb : ∀ j, j < n → b j < 128) (hq : q ≤ n) (ty : yC S n b) (h7 : S.2.1 83 17 = nI q) (mk : MK S (kOf h c)) (hv : VH h) (ht : h.t ≤ 9900) : ∃ S1, f_X7_readsCall (nI 83) S = some (if (pI1 n b 7 h.w q).1 = true then 1 else 0, S1) ∧ yO S S1 (pI1 n b 7 h.w q) (pX 7 (tV n b q) (tV n b (tE n b q)) h c) := by
  have hw := hv.1
  have m1 : S.2.1 83 1 = nI h.w := mk.2.1.1
  obtain ⟨A, a1, a2, a3, a4⟩ := y_num (lo := 0) (hi := nI h.w - 1) (c := decide (tV n b q < h.w)) hL hn hb hq ty h7 (fun g => yin_d (N := h.w) (tV_lt hq g).1 (by omega))
  have A0 := a2.1
  by_cases g : tK n b q = 1 ∧ decide (tV n b q < h.w) = true
  · obtain ⟨A7, A8⟩ := a3 g
    rw [if_pos g] at a1
    have l1 := (tE_le (b := b) hq).2
    obtain ⟨B, b1, b2, b3, b4⟩ := y_num (lo := 0) (hi := 4) (c := decide (tV n b (tE n b q) < 5)) A0 hn hb l1 (yC_n a2 ty) A7 (fun g => yin_d (N := 5) (tV_lt l1 g).1 (by decide))
    have B0 := b2.1
    have p1 : pI1 n b 7 h.w q = pI2 n b 7 (tE n b q) := by
      unfold pI1
      rw [if_pos (show tK n b q = 1 ∧ fsN 7 h.w (tV n b q) = true from g), if_neg (show ¬ (7 = 4 ∨ 7 = 8) by decide)]
    rw [p1]
    by_cases g2 : tK n b (tE n b q) = 1 ∧ decide (tV n b (tE n b q) < 5) = true
    · obtain ⟨B7, B8⟩ := b3 g2
      rw [if_pos g2] at b1
      have l2 := (tE_le (b := b) l1).2
      have fB := Fn_tr a2 b2
      have mkB := MK_n fB mk
      obtain ⟨C, c1, c2, c3, c4⟩ := y_comes (i := tV n b q) (d := tV n b (tE n b q)) B0 mkB.2.1 hv (of_decide_eq_true g.2) (of_decide_eq_true g2.2)
      have mkC : MK C (kOf (hC h (tV n b q) (tV n b (tE n b q))) c) := MK_h c4 mkB c3 rfl rfl
      obtain ⟨D, d1, d2, d3⟩ := y_ends c2 hn hb l2 (yC_y (FY_m c4) (yC_n fB ty)) ((c4.2.2.1 17 (by decide)).trans B7)
      have p2 : pI2 n b 7 (tE n b q) = pI3 n b (tE n b (tE n b q)) := by
        unfold pI2
        rw [if_pos (show tK n b (tE n b q) = 1 ∧ snN 7 (tV n b (tE n b q)) = true from g2)]
      rw [p2]
      refine ⟨D, ?_, d2.1, FY_tr (FY_n fB) (FY_tr (FY_m c4) (FY_n d2)), d3, fun _ => MK_n d2 mkC⟩
      simp (maxDischargeDepth := 40) only [f_X7_readsCall, hL, gc_0, gc_1, gc_2, gc_3, gc_4, gc_5, Ly_put, kcf, kca, m1, a1, A0, A8, b1, B0, B8, c1, c2, d1, mCp_e, mC_e, mCv_e, mZ_0, mZ_1, mZ_ifb, if_true, if_false, n10, eq_self, reduceCtorEq, Bool.false_eq_true, Nat.add_zero, Nat.reduceAdd]
    · have b4 := b4 g2
      rw [if_neg g2] at b1
      have p2 : pI2 n b 7 (tE n b q) = (false, tS n b (tE n b q)) := by
        unfold pI2
        rw [if_neg (show ¬ (tK n b (tE n b q) = 1 ∧ snN 7 (tV n b (tE n b q)) = true) from g2)]
      rw [p2]
      refine ⟨B, ?_, B0, FY_n (Fn_tr a2 b2), b4, fun z => Bool.noConfusion z⟩
      simp (maxDischargeDepth := 40) only [f_X7_readsCall, hL, gc_0, gc_1, gc_2, gc_3, gc_4, gc_5, Ly_put, kcf, kca, m1, a1, A0, A8, b1, mCp_e, mC_e, mCv_e, mZ_0, mZ_1, mZ_ifb, if_true, if_false, n10, eq_self, reduceCtorEq, Bool.false_eq_true, Nat.add_zero, Nat.reduceAdd]
  · have a4 := a4 g
    rw [if_neg g] at a1
    have p1 : pI1 n b 7 h.w q = (false, tS n b q) := by
      unfold pI1
      rw [if_neg (show ¬ (tK n b q = 1 ∧ fsN 7 h.w (tV n b q) = true) from g)]
    rw [p1]
    refine ⟨A, ?_, A0, FY_n a2, a4, fun z => Bool.noConfusion z⟩
    simp (maxDischargeDepth := 40) only [f_X7_readsCall, hL, gc_0, gc_1, gc_2, gc_3, gc_4, gc_5, Ly_put, kcf, kca, m1, a1, mCp_e, mC_e, mCv_e, mZ_0, mZ_1, mZ_ifb, if_true, if_false, n10, eq_self, reduceCtorEq, Bool.false_eq_true, Nat.add_zero, Nat.reduceAdd]
theorem y_rsteps {S : mS} {n q : Nat} {b : Nat → Nat} {h : HS} {c v2 : Nat} (hL : Ly S) (hn : n ≤ 150) (hb : ∀ j, j < n → b j < 128) (hq : q ≤ n) (ty : yC S n b) (h7 : S.2.1 83 17 = nI q) (mk : MK S (kOf h c)) (ht : h.t ≤ 9900) : ∃ S1, f_X7_readsSteps (nI 83) S = some (if (pI1 n b 8 h.w q).1 = true then 1 else 0, S1) ∧ yO S S1 (pI1 n b 8 h.w q) (pX 8 (tV n b q) v2 h c) := by
  obtain ⟨A, a1, a2, a3, a4⟩ := y_num (lo := 1) (hi := 99) (c := decide (1 ≤ tV n b q ∧ tV n b q ≤ 99)) hL hn hb hq ty h7 (fun g => by
    have v1 := (tV_lt hq g).1
    have d1 : (nI (tV n b q) < 1) = (tV n b q < 1) := lt_i (b := 1) (by omega) (by decide)
    have d2 : ((99 : Int32) < nI (tV n b q)) = (99 < tV n b q) := lt_i (a := 99) (by decide) (by omega)
    rw [y_in]
    simp (maxDischargeDepth := 40) only [d1, d2]
    by_cases z : 1 ≤ tV n b q
    · rw [if_pos (show ¬ tV n b q < 1 ∧ ¬ 99 < tV n b q by omega), decide_eq_true (show 1 ≤ tV n b q ∧ tV n b q ≤ 99 by omega)]
      rfl
    · rw [if_neg (show ¬ (¬ tV n b q < 1 ∧ ¬ 99 < tV n b q) by omega), decide_eq_false (show ¬ (1 ≤ tV n b q ∧ tV n b q ≤ 99) by omega)]
      rfl)
  have A0 := a2.1
  by_cases g : tK n b q = 1 ∧ decide (1 ≤ tV n b q ∧ tV n b q ≤ 99) = true
  · obtain ⟨A7, A8⟩ := a3 g
    rw [if_pos g] at a1
    have l1 := (tE_le (b := b) hq).2
    have v1 := (tV_lt hq g.1).1
    have mkA := MK_n a2 mk
    have m4 : A.2.1 83 4 = nI h.t := mkA.2.1.2.2.1
    have le : ((nI (h.t + tV n b q)) ≤ (9999 : Int32)) = True := by rw [show (9999 : Int32) = nI 9999 from rfl, le_i (by omega) (by decide)]; exact eq_true (by omega)
    have fB : FM A (mPut A 83 4 (nI (h.t + tV n b q))) := FM_put (Or.inl ⟨rfl, rfl⟩)
    have B0 : Ly (mPut A 83 4 (nI (h.t + tV n b q))) := Ly_put A0 (by decide)
    have mkB : MK (mPut A 83 4 (nI (h.t + tV n b q))) (kOf (setT h (h.t + tV n b q)) c) := MK_h fB mkA (RM_T mkA.2.1) rfl rfl
    obtain ⟨D, d1, d2, d3⟩ := y_ends B0 hn hb l1 (yC_y (FY_m fB) (yC_n a2 ty)) ((fB.2.2.1 17 (by decide)).trans A7)
    have p1 : pI1 n b 8 h.w q = pI3 n b (tE n b q) := by
      unfold pI1
      rw [if_pos (show tK n b q = 1 ∧ fsN 8 h.w (tV n b q) = true from g), if_pos (show (8 = 4 ∨ 8 = 8) by decide)]
    rw [p1]
    refine ⟨D, ?_, d2.1, FY_tr (FY_n a2) (FY_tr (FY_m fB) (FY_n d2)), d3, fun _ => MK_n d2 mkB⟩
    simp (maxDischargeDepth := 40) only [f_X7_readsSteps, f_X7_lesser, f_X7_lesser_10, hL, gc_0, gc_1, gc_2, gc_3, gc_4, gc_5, Ly_put, kcf, kca, a1, A0, A8, m4, nI_add, le, B0, d1, mCp_e, mC_e, mCv_e, mZ_0, mZ_1, mZ_ifb, if_true, if_false, n10, eq_self, reduceCtorEq, Bool.false_eq_true, Nat.add_zero, Nat.reduceAdd]
  · have a4 := a4 g
    rw [if_neg g] at a1
    have p1 : pI1 n b 8 h.w q = (false, tS n b q) := by
      unfold pI1
      rw [if_neg (show ¬ (tK n b q = 1 ∧ fsN 8 h.w (tV n b q) = true) from g)]
    rw [p1]
    refine ⟨A, ?_, A0, FY_n a2, a4, fun z => Bool.noConfusion z⟩
    simp (maxDischargeDepth := 40) only [f_X7_readsSteps, hL, gc_0, gc_1, gc_2, gc_3, gc_4, gc_5, Ly_put, kcf, kca, a1, mCp_e, mC_e, mCv_e, mZ_0, mZ_1, mZ_ifb, if_true, if_false, n10, eq_self, reduceCtorEq, Bool.false_eq_true, Nat.add_zero, Nat.reduceAdd]
