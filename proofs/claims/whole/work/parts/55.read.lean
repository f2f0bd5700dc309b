/-! read, the class's side: one TOKEN -/
def xC (S : mS) (n : Nat) (b : Nat → Nat) : Prop := S.2.1 59 1 = nI n ∧ ∀ j, j < n → S.2.1 60 j = nI (b j)
/-- of the Script's own numbers those from lo to hi alone may differ -/
def Ff (lo hi : Nat) (S S1 : mS) : Prop := Ly S1 ∧ Fr 59 60 S S1 ∧ ∀ j, (j < lo ∨ hi < j) → S1.2.1 59 j = S.2.1 59 j
theorem Ff_rf {lo hi : Nat} {S : mS} (hL : Ly S) : Ff lo hi S S := ⟨hL, Fr_rf, fun _ _ => rfl⟩
theorem Ff_tr {lo hi : Nat} {S S1 S2 : mS} (a : Ff lo hi S S1) (b : Ff lo hi S1 S2) : Ff lo hi S S2 := ⟨b.1, Fr_tr a.2.1 b.2.1, fun j h => (b.2.2 j h).trans (a.2.2 j h)⟩
theorem Ff_wd {lo hi lo2 hi2 : Nat} {S S1 : mS} (a : Ff lo hi S S1) (h1 : lo2 ≤ lo) (h2 : hi ≤ hi2) : Ff lo2 hi2 S S1 := ⟨a.1, a.2.1, fun j h => a.2.2 j (by omega)⟩
theorem Ff_put {lo hi j : Nat} {S : mS} {v : Int32} (hL : Ly S) (hc : cst 59 j = false) (h1 : lo ≤ j) (h2 : j ≤ hi) : Ff lo hi S (mPut S 59 j v) := ⟨Ly_put hL hc, Fr_put (by decide) (by decide), fun q hq => by rw [mPut_g, if_neg (by omega)]⟩
theorem xC_f {n : Nat} {b : Nat → Nat} {lo hi : Nat} {S S1 : mS} (a : Ff lo hi S S1) (h : 1 < lo) (c : xC S n b) : xC S1 n b := ⟨(a.2.2 1 (by omega)).trans c.1, fun j hj => by rw [a.2.1.2.1 60 (by omega)]; exact c.2 j hj⟩
theorem c_let : ∀ c, c < 128 → f_X4_isLetter (nI c) = some (if decide (97 ≤ c ∧ c ≤ 122) = true then 1 else 0) ∧ f_X7_isLetter (nI c) = some (if decide (97 ≤ c ∧ c ≤ 122) = true then 1 else 0) ∧ f_X4_isFigure (nI c) = some (if decide (48 ≤ c ∧ c ≤ 57) = true then 1 else 0) ∧ f_X7_isFigure (nI c) = some (if decide (48 ≤ c ∧ c ≤ 57) = true then 1 else 0) := by decide +kernel
theorem x_n8 {S : mS} {n p : Nat} {b : Nat → Nat} {k : Int32 → mS → Option mS} (hL : Ly S) (hn : n ≤ 150) (hb : ∀ j, j < n → b j < 128) (hp : p ≤ n) (tx : xC S n b) (h2 : S.2.1 59 2 = nI p) : ∃ S1, f_X4_next_8 k 1000 (nI 59) S = k (nI 59) S1 ∧ Ff 2 2 S S1 ∧ S1.2.1 59 2 = nI (tS n b p) := by
  refine lupX (fun m j (T : mS) => f_X4_next_8 k m (nI 59) T) (fun j T => Ff 2 2 S T ∧ T.2.1 59 2 = nI (p + j) ∧ ∀ i, p ≤ i → i < p + j → isB b i = true) (fun β => ∃ S1, β = k (nI 59) S1 ∧ Ff 2 2 S S1 ∧ S1.2.1 59 2 = nI (tS n b p)) (n - p) ?_ ?_ 1000 S ⟨Ff_rf hL, h2, fun i a c => by omega⟩ (by omega)
  · rintro m j T hj ⟨q1, q2, q3⟩
    have q0 := q1.1
    have tT := xC_f q1 (by decide) tx
    have e1 := tT.1
    have e2 := tT.2 (p + j) (by omega)
    have le : (nI n ≤ nI (p + j)) = False := eq_false (nI_ge (by omega) (by omega))
    have i150 : p + j < 150 := by omega
    have hbq := hb (p + j) (by omega)
    have eb : (nI (b (p + j)) = 32) = (b (p + j) = 32) := eq_i (b := 32) (by omega) (by decide)
    by_cases c : b (p + j) = 32
    · right
      have ce : (b (p + j) = 32) = True := eq_true c
      refine ⟨mPut T 59 2 (nI (p + j + 1)), ⟨Ff_tr q1 (Ff_put q1.1 (by decide) (by decide) (by decide)), by rw [mPut_g, if_pos ⟨rfl, rfl⟩]; rfl, fun i x y => ?_⟩, ?_⟩
      · by_cases e : i = p + j
        · rw [e]; exact decide_eq_true c
        · exact q3 i x (by omega)
      · show f_X4_next_8 k (m + 1) _ _ = _
        rw [f_X4_next_8_s]
        simp (maxDischargeDepth := 40) only [q0, gc_0, gc_1, gc_2, gc_3, gc_4, gc_5, Ly_put, kcf, kca, q2, e1, le, i150, e2, eb, ce, nI_1, mCp_e, mC_e, mCv_e, mZ_0, mZ_1, mZ_ifb, if_true, if_false, n10, eq_self, reduceCtorEq, Bool.false_eq_true, Nat.add_zero, Nat.reduceAdd]
    · left
      have ce : (b (p + j) = 32) = False := eq_false c
      refine ⟨T, ?_, q1, ?_⟩
      · show f_X4_next_8 k (m + 1) _ _ = _
        rw [f_X4_next_8_s]
        simp (maxDischargeDepth := 40) only [q0, gc_0, gc_1, gc_2, gc_3, gc_4, gc_5, Ly_put, kcf, kca, q2, e1, le, i150, e2, eb, ce, nI_1, mCp_e, mC_e, mCv_e, mZ_0, mZ_1, mZ_ifb, if_true, if_false, n10, eq_self, reduceCtorEq, Bool.false_eq_true, Nat.add_zero, Nat.reduceAdd]
      · rw [q2, show tS n b p = p + j from rn_eq (by omega) (fun _ => decide_eq_false c) j p rfl q3]
  · rintro m T ⟨q1, q2, q3⟩
    have q0 := q1.1
    have e1 := (xC_f q1 (by decide) tx).1
    have le : (nI n ≤ nI (p + (n - p))) = True := by rw [show p + (n - p) = n by omega]; exact eq_true ng_i
    refine ⟨T, ?_, q1, ?_⟩
    · show f_X4_next_8 k (m + 1) _ _ = _
      rw [f_X4_next_8_s]
      simp (maxDischargeDepth := 40) only [q0, gc_0, gc_1, gc_2, gc_3, gc_4, gc_5, Ly_put, kcf, kca, q2, e1, le, mCp_e, mC_e, mCv_e, mZ_0, mZ_1, mZ_ifb, if_true, if_false, n10, eq_self, reduceCtorEq, Bool.false_eq_true, Nat.add_zero, Nat.reduceAdd]
    · rw [q2, show tS n b p = p + (n - p) from rn_eq (by omega) (fun h => by omega) (n - p) p rfl q3]
theorem x_w0 {S : mS} {n p : Nat} {b : Nat → Nat} {k : Int32 → mS → Option mS} (hL : Ly S) (hn : n ≤ 150) (hb : ∀ j, j < n → b j < 128) (hp : p ≤ n) (tx : xC S n b) (h2 : S.2.1 59 3 = nI p) : ∃ S1, f_X4_takeWord_0 k 1000 (nI 59) S = k (nI 59) S1 ∧ Ff 3 3 S S1 ∧ S1.2.1 59 3 = nI (rn (isL b) n p) := by
  refine lupX (fun m j (T : mS) => f_X4_takeWord_0 k m (nI 59) T) (fun j T => Ff 3 3 S T ∧ T.2.1 59 3 = nI (p + j) ∧ ∀ i, p ≤ i → i < p + j → isL b i = true) (fun β => ∃ S1, β = k (nI 59) S1 ∧ Ff 3 3 S S1 ∧ S1.2.1 59 3 = nI (rn (isL b) n p)) (n - p) ?_ ?_ 1000 S ⟨Ff_rf hL, h2, fun i a c => by omega⟩ (by omega)
  · rintro m j T hj ⟨q1, q2, q3⟩
    have q0 := q1.1
    have tT := xC_f q1 (by decide) tx
    have e1 := tT.1
    have e2 := tT.2 (p + j) (by omega)
    have le : (nI n ≤ nI (p + j)) = False := eq_false (nI_ge (by omega) (by omega))
    have i150 : p + j < 150 := by omega
    have eb := (c_let _ (hb (p + j) (by omega))).1
    cases c : decide (97 ≤ b (p + j) ∧ b (p + j) ≤ 122) with
    | true =>
      right
      rw [c] at eb
      refine ⟨mPut T 59 3 (nI (p + j + 1)), ⟨Ff_tr q1 (Ff_put q1.1 (by decide) (by decide) (by decide)), by rw [mPut_g, if_pos ⟨rfl, rfl⟩]; rfl, fun i x y => ?_⟩, ?_⟩
      · by_cases e : i = p + j
        · rw [e]; exact c
        · exact q3 i x (by omega)
      · show f_X4_takeWord_0 k (m + 1) _ _ = _
        rw [f_X4_takeWord_0_s]
        simp (maxDischargeDepth := 40) only [q0, gc_0, gc_1, gc_2, gc_3, gc_4, gc_5, Ly_put, kcf, kca, q2, e1, le, i150, e2, eb, nI_1, mCp_e, mC_e, mCv_e, mZ_0, mZ_1, mZ_ifb, if_true, if_false, n10, eq_self, reduceCtorEq, Bool.false_eq_true, Nat.add_zero, Nat.reduceAdd]
    | false =>
      left
      rw [c] at eb
      refine ⟨T, ?_, q1, ?_⟩
      · show f_X4_takeWord_0 k (m + 1) _ _ = _
        rw [f_X4_takeWord_0_s]
        simp (maxDischargeDepth := 40) only [q0, gc_0, gc_1, gc_2, gc_3, gc_4, gc_5, Ly_put, kcf, kca, q2, e1, le, i150, e2, eb, nI_1, mCp_e, mC_e, mCv_e, mZ_0, mZ_1, mZ_ifb, if_true, if_false, n10, eq_self, reduceCtorEq, Bool.false_eq_true, Nat.add_zero, Nat.reduceAdd]
      · rw [q2, rn_eq (q := p + j) (by omega) (fun _ => c) j p rfl q3]
  · rintro m T ⟨q1, q2, q3⟩
    have q0 := q1.1
    have e1 := (xC_f q1 (by decide) tx).1
    have le : (nI n ≤ nI (p + (n - p))) = True := by rw [show p + (n - p) = n by omega]; exact eq_true ng_i
    refine ⟨T, ?_, q1, ?_⟩
    · show f_X4_takeWord_0 k (m + 1) _ _ = _
      rw [f_X4_takeWord_0_s]
      simp (maxDischargeDepth := 40) only [q0, gc_0, gc_1, gc_2, gc_3, gc_4, gc_5, Ly_put, kcf, kca, q2, e1, le, mCp_e, mC_e, mCv_e, mZ_0, mZ_1, mZ_ifb, if_true, if_false, n10, eq_self, reduceCtorEq, Bool.false_eq_true, Nat.add_zero, Nat.reduceAdd]
    · rw [q2, rn_eq (q := p + (n - p)) (by omega) (fun h => by omega) (n - p) p rfl q3]
theorem c_chr : ∀ i, i < 5 → f_X4_nameOf (nI (4 + i)) = some i ∧ f_len i = some (nI (cln i)) ∧ cln i < 8 ∧ ∀ j, j < cln i → f_chA i (nI j) = some (nI (chr i j)) := by decide +kernel
theorem c_ch8 : ∀ i, i < 5 → ∀ j, j < 8 → chr i j < 128 := by decide +kernel
theorem x_spl {S : mS} {n s e i : Nat} {b : Nat → Nat} (hL : Ly S) (hn : n ≤ 150) (hb : ∀ j, j < n → b j < 128) (hs : s ≤ e) (he : e ≤ n) (hi : i < 5) (tx : xC S n b) (h2 : S.2.1 59 2 = nI s) (h3 : S.2.1 59 3 = nI e) : f_X4_spells (nI 59) i S = some (if spl b s e i = true then 1 else 0) := by
  obtain ⟨-, cl, c8, cc⟩ := c_chr i hi
  have es : nI e - nI s = nI (e - s) := nI_sub hs
  have ee : (nI (e - s) = nI (cln i)) = (e - s = cln i) := eq_i (by omega) (by omega)
  by_cases c : e - s = cln i
  · have ce : (e - s = cln i) = True := eq_true c
    have key : f_X4_spells_20 (f_X4_spells_55 S) S 1000 (nI 59) i 0 = some (if spl b s e i = true then 1 else 0) := by
      unfold spl
      rw [decide_eq_true c, Bool.true_and]
      refine lupX (fun m j (_ : Unit) => f_X4_spells_20 (f_X4_spells_55 S) S m (nI 59) i (nI j)) (fun j _ => ∀ q, q < j → decide (b (s + q) = chr i q) = true) (fun β => β = some (if allB (fun j => decide (b (s + j) = chr i j)) (cln i) = true then 1 else 0)) (cln i) ?_ ?_ 1000 () (fun q h => absurd h (Nat.not_lt_zero q)) (by omega)
      · intro m j _ hj q1
        have le : (nI (cln i) ≤ nI j) = False := eq_false (nI_ge hj (by omega))
        have e2 := tx.2 (s + j) (by omega)
        have hbq := hb (s + j) (by omega)
        have i150 : s + j < 150 := by omega
        have c9 := c_ch8 i hi j (by omega)
        have eb : (nI (b (s + j)) = nI (chr i j)) = (b (s + j) = chr i j) := eq_i (by omega) (by omega)
        by_cases g : b (s + j) = chr i j
        · right
          have ge : (b (s + j) = chr i j) = True := eq_true g
          refine ⟨(), fun q hq => ?_, ?_⟩
          · by_cases e : q = j
            · rw [e]; exact decide_eq_true g
            · exact q1 q (by omega)
          · show f_X4_spells_20 (f_X4_spells_55 S) S (m + 1) _ _ _ = _
            rw [f_X4_spells_20_s]
            simp (maxDischargeDepth := 40) only [cl, le, hL, gc_0, gc_1, gc_2, gc_3, gc_4, gc_5, Ly_put, kcf, kca, h2, nI_add, i150, e2, cc j hj, eb, ge, nI_1, mCp_e, mC_e, mCv_e, mZ_0, mZ_1, mZ_ifb, if_true, if_false, n10, eq_self, reduceCtorEq, Bool.false_eq_true, Nat.add_zero, Nat.reduceAdd]
        · left
          have ge : (b (s + j) = chr i j) = False := eq_false g
          have na : allB (fun j => decide (b (s + j) = chr i j)) (cln i) = false := by
            cases z : allB (fun j => decide (b (s + j) = chr i j)) (cln i) with
            | false => rfl
            | true => exact absurd (of_decide_eq_true ((allB_iff _ _).mp z j hj)) g
          rw [na]
          show f_X4_spells_20 (f_X4_spells_55 S) S (m + 1) _ _ _ = _
          rw [f_X4_spells_20_s]
          simp (maxDischargeDepth := 40) only [cl, le, hL, gc_0, gc_1, gc_2, gc_3, gc_4, gc_5, Ly_put, kcf, kca, h2, nI_add, i150, e2, cc j hj, eb, ge, nI_1, mCp_e, mC_e, mCv_e, mZ_0, mZ_1, mZ_ifb, if_true, if_false, n10, eq_self, reduceCtorEq, Bool.false_eq_true, Nat.add_zero, Nat.reduceAdd]
      · intro m _ q1
        have le : (nI (cln i) ≤ nI (cln i)) = True := eq_true ng_i
        rw [(allB_iff _ _).mpr q1]
        show f_X4_spells_20 (f_X4_spells_55 S) S (m + 1) _ _ _ = _
        rw [f_X4_spells_20_s]
        simp (maxDischargeDepth := 40) only [cl, le, f_X4_spells_55, mCp_e, mC_e, mCv_e, mZ_0, mZ_1, mZ_ifb, if_true, if_false, n10, eq_self, reduceCtorEq, Bool.false_eq_true, Nat.add_zero, Nat.reduceAdd]
    simp (maxDischargeDepth := 40) only [f_X4_spells, hL, gc_0, gc_1, gc_2, gc_3, gc_4, gc_5, Ly_put, kcf, kca, h2, h3, cl, es, ee, ce, if_true, mCp_e]
    exact key
  · have ce : (e - s = cln i) = False := eq_false c
    have z : spl b s e i = false := by
      unfold spl
      rw [decide_eq_false c, Bool.false_and]
    rw [z]
    simp (maxDischargeDepth := 40) only [f_X4_spells, hL, gc_0, gc_1, gc_2, gc_3, gc_4, gc_5, Ly_put, kcf, kca, h2, h3, cl, es, ee, ce, mCp_e, mC_e, mCv_e, mZ_0, mZ_1, mZ_ifb, if_true, if_false, n10, eq_self, reduceCtorEq, Bool.false_eq_true, Nat.add_zero, Nat.reduceAdd]
theorem x_w46 {S : mS} {n s e : Nat} {b : Nat → Nat} (hL : Ly S) (hn : n ≤ 150) (hb : ∀ j, j < n → b j < 128) (hs : s ≤ e) (he : e ≤ n) (tx : xC S n b) (h2 : S.2.1 59 2 = nI s) (h3 : S.2.1 59 3 = nI e) (h4 : S.2.1 59 4 = nI 3) : ∃ S1, f_X4_takeWord_46 f_X4_takeWord_74 1000 (nI 59) (nI 4) S = some S1 ∧ Ff 4 4 S S1 ∧ S1.2.1 59 4 = nI (wv b s e 5) := by
  obtain ⟨q, S1, ⟨p1, p2⟩, e0⟩ := lupI (fun m j (T : mS) => f_X4_takeWord_46 f_X4_takeWord_74 m (nI 59) (nI (4 + j)) T) (fun j T => Ff 4 4 S T ∧ T.2.1 59 4 = nI (wv b s e j)) 5 (by
    rintro m j T hj ⟨q1, q2⟩
    have q0 := q1.1
    have lt : ((8 : Int32) < nI (4 + j)) = False := by rw [show (8 : Int32) = nI 8 from rfl, lt_i (by decide) (by omega)]; exact eq_false (by omega)
    have sp := x_spl q1.1 hn hb hs he hj (xC_f q1 (by decide) tx) ((q1.2.2 2 (by omega)).trans h2) ((q1.2.2 3 (by omega)).trans h3)
    cases g : spl b s e j with
    | true =>
      rw [g] at sp
      refine ⟨mPut T 59 4 (nI (4 + j)), ⟨Ff_tr q1 (Ff_put q1.1 (by decide) (by decide) (by decide)), ?_⟩, ?_⟩
      · rw [mPut_g, if_pos ⟨rfl, rfl⟩, wv, if_pos g]
      · show f_X4_takeWord_46 f_X4_takeWord_74 (m + 1) _ _ _ = _
        rw [f_X4_takeWord_46_s]
        simp (maxDischargeDepth := 40) only [lt, (c_chr j hj).1, q0, gc_0, gc_1, gc_2, gc_3, gc_4, gc_5, Ly_put, kcf, kca, sp, f_X4_takeWord_68, nI_1, Nat.add_assoc, mCp_e, mC_e, mCv_e, mZ_0, mZ_1, mZ_ifb, if_true, if_false, n10, eq_self, reduceCtorEq, Bool.false_eq_true, Nat.add_zero, Nat.reduceAdd]
    | false =>
      rw [g] at sp
      refine ⟨T, ⟨q1, ?_⟩, ?_⟩
      · rw [q2, wv, if_neg (by rw [g]; decide)]
      · show f_X4_takeWord_46 f_X4_takeWord_74 (m + 1) _ _ _ = _
        rw [f_X4_takeWord_46_s]
        simp (maxDischargeDepth := 40) only [lt, (c_chr j hj).1, q0, gc_0, gc_1, gc_2, gc_3, gc_4, gc_5, Ly_put, kcf, kca, sp, f_X4_takeWord_68, nI_1, Nat.add_assoc, mCp_e, mC_e, mCv_e, mZ_0, mZ_1, mZ_ifb, if_true, if_false, n10, eq_self, reduceCtorEq, Bool.false_eq_true, Nat.add_zero, Nat.reduceAdd]) 1000 S ⟨Ff_rf hL, h4⟩ (by decide)
  refine ⟨S1, ?_, p1, p2⟩
  refine Eq.trans e0 ?_
  have lt : ((8 : Int32) < nI (4 + 5)) = True := eq_true (by decide)
  show f_X4_takeWord_46 f_X4_takeWord_74 (q + 1) _ _ _ = _
  rw [f_X4_takeWord_46_s]
  simp (maxDischargeDepth := 40) only [lt, if_true, f_X4_takeWord_74]
theorem x_word {S : mS} {n s : Nat} {b : Nat → Nat} (hL : Ly S) (hn : n ≤ 150) (hb : ∀ j, j < n → b j < 128) (hs : s ≤ n) (tx : xC S n b) (h2 : S.2.1 59 2 = nI s) (h3 : S.2.1 59 3 = nI s) : ∃ S1, f_X4_takeWord (nI 59) S = some S1 ∧ Ff 3 4 S S1 ∧ S1.2.1 59 3 = nI (rn (isL b) n s) ∧ S1.2.1 59 4 = nI (wv b s (rn (isL b) n s) 5) := by
  have ro := rn_ok (Q := isL b) hs
  obtain ⟨A, a1, a2, a3⟩ := x_w0 (k := f_X4_takeWord_39) hL hn hb hs tx h3
  have a0 := a2.1
  have f4 : Ff 4 4 A (mPut A 59 4 (nI 3)) := Ff_put a2.1 (by decide) (by decide) (by decide)
  obtain ⟨B, b1, b2, b3⟩ := x_w46 (s := s) (e := rn (isL b) n s) f4.1 hn hb ro.1 ro.2.1 (xC_f f4 (by decide) (xC_f a2 (by decide) tx)) ((f4.2.2 2 (by decide)).trans ((a2.2.2 2 (by decide)).trans h2)) ((f4.2.2 3 (by decide)).trans a3) (by rw [mPut_g, if_pos ⟨rfl, rfl⟩])
  refine ⟨B, ?_, Ff_tr (Ff_wd a2 (by decide) (by decide)) (Ff_wd (Ff_tr f4 b2) (by decide) (by decide)), (b2.2.2 3 (by decide)).trans ((f4.2.2 3 (by decide)).trans a3), b3⟩
  rw [f_X4_takeWord]
  refine a1.trans ?_
  simp (maxDischargeDepth := 40) only [f_X4_takeWord_39, a0, gc_0, gc_1, gc_2, gc_3, gc_4, gc_5, Ly_put, kcf, kca]
  exact b1
theorem x_n5 {S : mS} {n s : Nat} {b : Nat → Nat} {k : Int32 → mS → Option mS} (hL : Ly S) (hn : n ≤ 150) (hb : ∀ j, j < n → b j < 128) (hs : s ≤ n) (tx : xC S n b) (h2 : S.2.1 59 2 = nI s) (h3 : S.2.1 59 3 = nI s) (h5 : S.2.1 59 5 = nI 0) : ∃ S1, f_X4_takeNumber_5 k 1000 (nI 59) S = k (nI 59) S1 ∧ Ff 3 5 S S1 ∧ S1.2.1 59 3 = nI (rn (isF b) n s) ∧ S1.2.1 59 5 = nI (vl b s (rn (isF b) n s)) := by
  refine lupX (fun m j (T : mS) => f_X4_takeNumber_5 k m (nI 59) T) (fun j T => Ff 3 5 S T ∧ T.2.1 59 3 = nI (s + j) ∧ T.2.1 59 5 = nI (vl b s (s + j)) ∧ ∀ i, s ≤ i → i < s + j → isF b i = true) (fun β => ∃ S1, β = k (nI 59) S1 ∧ Ff 3 5 S S1 ∧ S1.2.1 59 3 = nI (rn (isF b) n s) ∧ S1.2.1 59 5 = nI (vl b s (rn (isF b) n s))) (n - s) ?_ ?_ 1000 S ⟨Ff_rf hL, h3, by rw [h5]; unfold vl; rw [if_pos (by omega)], fun i a c => by omega⟩ (by omega)
  · rintro m j T hj ⟨q1, q2, q3, q4⟩
    have q0 := q1.1
    have tT := xC_f q1 (by decide) tx
    have e1 := tT.1
    have e2 := tT.2 (s + j) (by omega)
    have e3 : T.2.1 59 2 = nI s := (q1.2.2 2 (by decide)).trans h2
    have le : (nI n ≤ nI (s + j)) = False := eq_false (nI_ge (by omega) (by omega))
    have i150 : s + j < 150 := by omega
    have eb := (c_let _ (hb (s + j) (by omega))).2.2.1
    have hbq := hb (s + j) (by omega)
    have sj : nI (s + j) - nI s = nI j := by rw [nI_sub (by omega)]; congr 1; omega
    have l2 : ((2 : Int32) ≤ nI j) = (2 ≤ j) := le_i (a := 2) (by decide) (by omega)
    cases c : decide (48 ≤ b (s + j) ∧ b (s + j) ≤ 57) with
    | true =>
      right
      rw [c] at eb
      have cc := of_decide_eq_true c
      have q4' : ∀ i, s ≤ i → i < s + (j + 1) → isF b i = true := fun i x y => by
        by_cases e : i = s + j
        · rw [e]; exact c
        · exact q4 i x (by omega)
      by_cases g : 2 ≤ j
      · have ge : (2 ≤ j) = True := eq_true g
        have f3 : Ff 3 5 T (mPut T 59 3 (nI (s + j + 1))) := Ff_put q1.1 (by decide) (by decide) (by decide)
        refine ⟨mPut T 59 3 (nI (s + j + 1)), ⟨Ff_tr q1 f3, by rw [mPut_g, if_pos ⟨rfl, rfl⟩]; rfl, ?_, q4'⟩, ?_⟩
        · rw [mPut_g, if_neg (by decide), q3]
          unfold vl
          rw [if_neg (by omega), if_neg (by omega), if_neg (by omega), if_neg (by omega)]
        · show f_X4_takeNumber_5 k (m + 1) _ _ = _
          rw [f_X4_takeNumber_5_s]
          simp (maxDischargeDepth := 40) only [q0, gc_0, gc_1, gc_2, gc_3, gc_4, gc_5, Ly_put, kcf, kca, q2, e1, le, i150, e2, e3, eb, sj, l2, ge, f_X4_takeNumber_68, nI_1, mCp_e, mC_e, mCv_e, mZ_0, mZ_1, mZ_ifb, if_true, if_false, n10, eq_self, reduceCtorEq, Bool.false_eq_true, Nat.add_zero, Nat.reduceAdd]
      · have ge : (2 ≤ j) = False := eq_false g
        have ev : 10 * nI (vl b s (s + j)) + nI (b (s + j)) - 48 = nI (vl b s (s + (j + 1))) := by
          rw [show (10 : Int32) = nI 10 from rfl, show (48 : Int32) = nI 48 from rfl, nI_mul, nI_add, nI_sub (by omega)]
          congr 1
          unfold vl
          rcases (show j = 0 ∨ j = 1 by omega) with rfl | rfl
          · rw [if_pos (by omega), if_neg (by omega), if_pos (by omega)]
            rw [Nat.add_zero]
            omega
          · rw [if_neg (by omega), if_pos (by omega), if_neg (by omega), if_neg (by omega)]
        have f5 : Ff 3 5 T (mPut T 59 5 (nI (vl b s (s + (j + 1))))) := Ff_put q1.1 (by decide) (by decide) (by decide)
        have f3 : Ff 3 5 (mPut T 59 5 (nI (vl b s (s + (j + 1))))) (mPut (mPut T 59 5 (nI (vl b s (s + (j + 1))))) 59 3 (nI (s + j + 1))) := Ff_put f5.1 (by decide) (by decide) (by decide)
        refine ⟨mPut (mPut T 59 5 (nI (vl b s (s + (j + 1))))) 59 3 (nI (s + j + 1)), ⟨Ff_tr q1 (Ff_tr f5 f3), by rw [mPut_g, if_pos ⟨rfl, rfl⟩]; rfl, by rw [mPut_g, if_neg (by decide), mPut_g, if_pos ⟨rfl, rfl⟩], q4'⟩, ?_⟩
        show f_X4_takeNumber_5 k (m + 1) _ _ = _
        rw [f_X4_takeNumber_5_s]
        simp (maxDischargeDepth := 40) only [q0, gc_0, gc_1, gc_2, gc_3, gc_4, gc_5, Ly_put, kcf, kca, q2, q3, e1, le, i150, e2, e3, eb, sj, l2, ge, ev, f_X4_takeNumber_68, nI_1, mPut_g, mPut_g, Nat.reduceEqDiff, and_true, true_and, and_false, false_and, and_self, mCp_e, mC_e, mCv_e, mZ_0, mZ_1, mZ_ifb, if_true, if_false, n10, eq_self, reduceCtorEq, Bool.false_eq_true, Nat.add_zero, Nat.reduceAdd]
    | false =>
      left
      rw [c] at eb
      have er := rn_eq (Q := isF b) (q := s + j) (n := n) (by omega) (fun _ => c) j s rfl q4
      refine ⟨T, ?_, q1, by rw [er]; exact q2, by rw [er]; exact q3⟩
      show f_X4_takeNumber_5 k (m + 1) _ _ = _
      rw [f_X4_takeNumber_5_s]
      simp (maxDischargeDepth := 40) only [q0, gc_0, gc_1, gc_2, gc_3, gc_4, gc_5, Ly_put, kcf, kca, q2, e1, le, i150, e2, eb, nI_1, mCp_e, mC_e, mCv_e, mZ_0, mZ_1, mZ_ifb, if_true, if_false, n10, eq_self, reduceCtorEq, Bool.false_eq_true, Nat.add_zero, Nat.reduceAdd]
  · rintro m T ⟨q1, q2, q3, q4⟩
    have q0 := q1.1
    have e1 := (xC_f q1 (by decide) tx).1
    have le : (nI n ≤ nI (s + (n - s))) = True := by rw [show s + (n - s) = n by omega]; exact eq_true ng_i
    have er := rn_eq (Q := isF b) (q := s + (n - s)) (n := n) (by omega) (fun h => by omega) (n - s) s rfl q4
    refine ⟨T, ?_, q1, by rw [er]; exact q2, by rw [er]; exact q3⟩
    show f_X4_takeNumber_5 k (m + 1) _ _ = _
    rw [f_X4_takeNumber_5_s]
    simp (maxDischargeDepth := 40) only [q0, gc_0, gc_1, gc_2, gc_3, gc_4, gc_5, Ly_put, kcf, kca, q2, e1, le, mCp_e, mC_e, mCv_e, mZ_0, mZ_1, mZ_ifb, if_true, if_false, n10, eq_self, reduceCtorEq, Bool.false_eq_true, Nat.add_zero, Nat.reduceAdd]
theorem x_numb {S : mS} {n s : Nat} {b : Nat → Nat} (hL : Ly S) (hn : n ≤ 150) (hb : ∀ j, j < n → b j < 128) (hs : s ≤ n) (tx : xC S n b) (h2 : S.2.1 59 2 = nI s) (h3 : S.2.1 59 3 = nI s) : ∃ S1, f_X4_takeNumber (nI 59) S = some S1 ∧ Ff 3 5 S S1 ∧ S1.2.1 59 3 = nI (rn (isF b) n s) ∧ S1.2.1 59 4 = nI (if rn (isF b) n s - s ≤ 2 then 1 else 3) ∧ S1.2.1 59 5 = nI (vl b s (rn (isF b) n s)) := by
  have ro := rn_ok (Q := isF b) hs
  have f5 : Ff 3 5 S (mPut S 59 5 0) := Ff_put hL (by decide) (by decide) (by decide)
  obtain ⟨A, a1, a2, a3, a4⟩ := x_n5 (s := s) (k := f_X4_takeNumber_81) f5.1 hn hb hs (xC_f f5 (by decide) tx) ((f5.2.2 2 (by decide)).trans h2) (by rw [mPut_g, if_neg (by decide)]; exact h3) (by rw [mPut_g, if_pos ⟨rfl, rfl⟩]; rfl)
  have a0 := a2.1
  have e2 : A.2.1 59 2 = nI s := (a2.2.2 2 (by decide)).trans ((f5.2.2 2 (by decide)).trans h2)
  have sj : nI (rn (isF b) n s) - nI s = nI (rn (isF b) n s - s) := nI_sub ro.1
  have l2 : ((2 : Int32) < nI (rn (isF b) n s - s)) = (2 < rn (isF b) n s - s) := lt_i (a := 2) (by decide) (by omega)
  refine ⟨mPut A 59 4 (nI (if rn (isF b) n s - s ≤ 2 then 1 else 3)), ?_, Ff_tr (Ff_tr f5 a2) (Ff_put a2.1 (by decide) (by decide) (by decide)), by rw [mPut_g, if_neg (by decide)]; exact a3, by rw [mPut_g, if_pos ⟨rfl, rfl⟩], by rw [mPut_g, if_neg (by decide)]; exact a4⟩
  have a1' : f_X4_takeNumber_5 f_X4_takeNumber_81 1000 (nI 59) (mPut S 59 5 0) = some (mPut A 59 4 (nI (if rn (isF b) n s - s ≤ 2 then 1 else 3))) := by
    refine a1.trans ?_
    by_cases g : rn (isF b) n s - s ≤ 2
    · have ge : (2 < rn (isF b) n s - s) = False := eq_false (by omega)
      rw [if_pos g]
      simp (maxDischargeDepth := 40) only [f_X4_takeNumber_81, f_X4_takeNumber_100, a0, gc_0, gc_1, gc_2, gc_3, gc_4, gc_5, Ly_put, kcf, kca, a3, e2, sj, l2, ge, mCp_e, mC_e, mCv_e, mZ_0, mZ_1, mZ_ifb, if_true, if_false, n10, eq_self, reduceCtorEq, Bool.false_eq_true, Nat.add_zero, Nat.reduceAdd]
      rfl
    · have ge : (2 < rn (isF b) n s - s) = True := eq_true (by omega)
      rw [if_neg g]
      simp (maxDischargeDepth := 40) only [f_X4_takeNumber_81, f_X4_takeNumber_100, a0, gc_0, gc_1, gc_2, gc_3, gc_4, gc_5, Ly_put, kcf, kca, a3, e2, sj, l2, ge, mCp_e, mC_e, mCv_e, mZ_0, mZ_1, mZ_ifb, if_true, if_false, n10, eq_self, reduceCtorEq, Bool.false_eq_true, Nat.add_zero, Nat.reduceAdd]
      rfl
  simp (maxDischargeDepth := 40) only [f_X4_takeNumber, hL, gc_0, gc_1, gc_2, gc_3, gc_4, gc_5, Ly_put, kcf, kca, a1']
theorem x_next {S : mS} {n p : Nat} {b : Nat → Nat} (hL : Ly S) (hn : n ≤ 150) (hb : ∀ j, j < n → b j < 128) (hp : p ≤ n) (tx : xC S n b) (h3 : S.2.1 59 3 = nI p) : ∃ S1, f_X4_next (nI 59) S = some S1 ∧ Ff 2 5 S S1 ∧ S1.2.1 59 2 = nI (tS n b p) ∧ S1.2.1 59 3 = nI (tE n b p) ∧ S1.2.1 59 4 = nI (tK n b p) ∧ (tK n b p = 1 → S1.2.1 59 5 = nI (tV n b p)) := by
  have f2 : Ff 2 5 S (mPut S 59 2 (nI p)) := Ff_put hL (by decide) (by decide) (by decide)
  obtain ⟨A, a1, a2, a3⟩ := x_n8 (k := f_X4_next_46) f2.1 hn hb hp (xC_f f2 (by decide) tx) (by rw [mPut_g, if_pos ⟨rfl, rfl⟩])
  have ts := tS_le (b := b) hp
  have te := tE_le (b := b) hp
  have a0 := a2.1
  have f3 : Ff 2 5 A (mPut A 59 3 (nI (tS n b p))) := Ff_put a2.1 (by decide) (by decide) (by decide)
  have SB : Ff 2 5 S (mPut A 59 3 (nI (tS n b p))) := Ff_tr f2 (Ff_tr (Ff_wd a2 (by decide) (by decide)) f3)
  have tB := xC_f SB (by decide) tx
  have b2 : (mPut A 59 3 (nI (tS n b p))).2.1 59 2 = nI (tS n b p) := by rw [mPut_g, if_neg (by decide)]; exact a3
  have b3 : (mPut A 59 3 (nI (tS n b p))).2.1 59 3 = nI (tS n b p) := by rw [mPut_g, if_pos ⟨rfl, rfl⟩]
  have hU : f_X4_next (nI 59) S = f_X4_next_46 (nI 59) A := by
    simp (maxDischargeDepth := 40) only [f_X4_next, hL, gc_0, gc_1, gc_2, gc_3, gc_4, gc_5, Ly_put, kcf, kca, h3]
    exact a1
  generalize hB : mPut A 59 3 (nI (tS n b p)) = B at *
  have B0 := SB.1
  have e1 := tB.1
  have tA : xC A n b := xC_f (Ff_tr f2 (Ff_wd a2 (by decide) (by decide))) (by decide) tx
  have A1 := tA.1
  by_cases c : n ≤ tS n b p
  · have ce : (nI (tS n b p) < nI n) = False := by rw [lt_i (by omega) (by omega)]; exact eq_false (by omega)
    refine ⟨mPut B 59 4 0, ?_, Ff_tr SB (Ff_put SB.1 (by decide) (by decide) (by decide)), by rw [mPut_g, if_neg (by decide)]; exact b2, by rw [mPut_g, if_neg (by decide), b3]; unfold tE; rw [if_pos c], by rw [mPut_g, if_pos ⟨rfl, rfl⟩, tK_0.mpr c]; rfl, fun h => by rw [tK_0.mpr c] at h; cases h⟩
    rw [hU]
    simp (maxDischargeDepth := 40) only [f_X4_next_46, f_X4_next_150, a0, gc_0, gc_1, gc_2, gc_3, gc_4, gc_5, Ly_put, kcf, kca, a3, hB, B0, b2, e1, ce, mCp_e, mC_e, mCv_e, mZ_0, mZ_1, mZ_ifb, if_true, if_false, n10, eq_self, reduceCtorEq, Bool.false_eq_true, Nat.add_zero, Nat.reduceAdd]
  · have ce : (nI (tS n b p) < nI n) = True := by rw [lt_i (by omega) (by omega)]; exact eq_true (by omega)
    have e2 := tB.2 (tS n b p) (by omega)
    have A2 := tA.2 (tS n b p) (by omega)
    have hbq := hb (tS n b p) (by omega)
    have cl := c_let _ hbq
    have i150 : tS n b p < 150 := by omega
    cases l : decide (97 ≤ b (tS n b p) ∧ b (tS n b p) ≤ 122) with
    | true =>
      obtain ⟨C, c1, c2, c3, c4⟩ := x_word B0 hn hb ts.2 tB b2 b3
      have cl1 := cl.1
      rw [l] at cl1
      have eE : tE n b p = rn (isL b) n (tS n b p) := by unfold tE; rw [if_neg c, if_pos (show isL b (tS n b p) = true from l)]
      have eK : tK n b p = wv b (tS n b p) (rn (isL b) n (tS n b p)) 5 := by unfold tK; rw [if_neg c, if_pos (show isL b (tS n b p) = true from l), eE]
      refine ⟨C, ?_, Ff_tr SB (Ff_wd c2 (by decide) (by decide)), (c2.2.2 2 (by decide)).trans b2, by rw [eE]; exact c3, by rw [eK]; exact c4, fun h => ?_⟩
      · rw [hU]
        simp (maxDischargeDepth := 40) only [f_X4_next_46, f_X4_next_150, a0, gc_0, gc_1, gc_2, gc_3, gc_4, gc_5, Ly_put, kcf, kca, a3, hB, B0, b2, e1, ce, i150, e2, cl1, c1, mCp_e, mC_e, mCv_e, mZ_0, mZ_1, mZ_ifb, if_true, if_false, n10, eq_self, reduceCtorEq, Bool.false_eq_true, Nat.add_zero, Nat.reduceAdd]
      · rw [eK] at h
        unfold wv wv wv wv wv wv at h
        repeat' split at h
        all_goals omega
    | false =>
      have cl1 := cl.1
      rw [l] at cl1
      cases f : decide (48 ≤ b (tS n b p) ∧ b (tS n b p) ≤ 57) with
      | true =>
        obtain ⟨C, c1, c2, c3, c4, c5⟩ := x_numb B0 hn hb ts.2 tB b2 b3
        have cl3 := cl.2.2.1
        rw [f] at cl3
        have eE : tE n b p = rn (isF b) n (tS n b p) := by unfold tE; rw [if_neg c, if_neg (by rw [show isL b (tS n b p) = false from l]; decide), if_pos (show isF b (tS n b p) = true from f)]
        have eK : tK n b p = if rn (isF b) n (tS n b p) - tS n b p ≤ 2 then 1 else 3 := by unfold tK; rw [if_neg c, if_neg (by rw [show isL b (tS n b p) = false from l]; decide), if_pos (show isF b (tS n b p) = true from f), eE]
        refine ⟨C, ?_, Ff_tr SB (Ff_wd c2 (by decide) (by decide)), (c2.2.2 2 (by decide)).trans b2, by rw [eE]; exact c3, by rw [eK]; exact c4, fun _ => by unfold tV; rw [eE]; exact c5⟩
        rw [hU]
        simp (maxDischargeDepth := 40) only [f_X4_next_46, f_X4_next_150, a0, gc_0, gc_1, gc_2, gc_3, gc_4, gc_5, Ly_put, kcf, kca, a3, hB, B0, b2, e1, ce, i150, e2, cl1, cl3, c1, mCp_e, mC_e, mCv_e, mZ_0, mZ_1, mZ_ifb, if_true, if_false, n10, eq_self, reduceCtorEq, Bool.false_eq_true, Nat.add_zero, Nat.reduceAdd]
      | false =>
        have cl3 := cl.2.2.1
        rw [f] at cl3
        have eE : tE n b p = tS n b p + 1 := by unfold tE; rw [if_neg c, if_neg (by rw [show isL b (tS n b p) = false from l]; decide), if_neg (by rw [show isF b (tS n b p) = false from f]; decide)]
        have eK : tK n b p = if b (tS n b p) = 59 then 2 else 3 := by unfold tK; rw [if_neg c, if_neg (by rw [show isL b (tS n b p) = false from l]; decide), if_neg (by rw [show isF b (tS n b p) = false from f]; decide)]
        have e59 : (nI (b (tS n b p)) = 59) = (b (tS n b p) = 59) := eq_i (b := 59) (by omega) (by decide)
        have g4 : Ff 2 5 B (mPut B 59 4 (nI (tK n b p))) := Ff_put B0 (by decide) (by decide) (by decide)
        have g3 : Ff 2 5 (mPut B 59 4 (nI (tK n b p))) (mPut (mPut B 59 4 (nI (tK n b p))) 59 3 (nI (tS n b p + 1))) := Ff_put g4.1 (by decide) (by decide) (by decide)
        refine ⟨mPut (mPut B 59 4 (nI (tK n b p))) 59 3 (nI (tS n b p + 1)), ?_, Ff_tr SB (Ff_tr g4 g3), by rw [mPut_g, if_neg (by decide), mPut_g, if_neg (by decide)]; exact b2, by rw [mPut_g, if_pos ⟨rfl, rfl⟩, eE], by rw [mPut_g, if_neg (by decide), mPut_g, if_pos ⟨rfl, rfl⟩], fun h => ?_⟩
        · rw [hU]
          by_cases g : b (tS n b p) = 59
          · have ge : (b (tS n b p) = 59) = True := eq_true g
            rw [if_pos g] at eK
            rw [eK, show nI 2 = 2 from rfl]
            simp (maxDischargeDepth := 40) only [f_X4_next_46, f_X4_next_150, f_X4_next_137, a0, gc_0, gc_1, gc_2, gc_3, gc_4, gc_5, Ly_put, kcf, kca, a3, hB, B0, b2, A1, A2, e1, ce, i150, e2, cl1, cl3, e59, ge, nI_1, mPut_g, mPut_g, Nat.reduceEqDiff, and_true, true_and, and_false, false_and, and_self, mCp_e, mC_e, mCv_e, mZ_0, mZ_1, mZ_ifb, if_true, if_false, n10, eq_self, reduceCtorEq, Bool.false_eq_true, Nat.add_zero, Nat.reduceAdd]
          · have ge : (b (tS n b p) = 59) = False := eq_false g
            rw [if_neg g] at eK
            rw [eK, show nI 3 = 3 from rfl]
            simp (maxDischargeDepth := 40) only [f_X4_next_46, f_X4_next_150, f_X4_next_137, a0, gc_0, gc_1, gc_2, gc_3, gc_4, gc_5, Ly_put, kcf, kca, a3, hB, B0, b2, A1, A2, e1, ce, i150, e2, cl1, cl3, e59, ge, nI_1, mPut_g, mPut_g, Nat.reduceEqDiff, and_true, true_and, and_false, false_and, and_self, mCp_e, mC_e, mCv_e, mZ_0, mZ_1, mZ_ifb, if_true, if_false, n10, eq_self, reduceCtorEq, Bool.false_eq_true, Nat.add_zero, Nat.reduceAdd]
        · rw [eK] at h
          repeat' split at h
          all_goals omega
