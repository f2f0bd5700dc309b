/-! drive, the class's side: one step forward, the shortest row -/
/-- who may be where behind g calls, as the class's row g -/
def dr_S (S : mS) (kw ks t W F g : Nat) : Prop := ∀ w, w < 25 → ∀ f, f < 25 → (tb (S.2.1 62 (25 * g + w)) f = true ↔ dr_F kw ks t W F g w f)
theorem x_sp38 {S : mS} {kw t g w : Nat} {X v : Int32} {k : Int32 → Int32 → Int32 → Int32 → mS → Option mS} (hL : Ly S) (hw : w < 25) : ∃ S1, f_X0_spread_38 k 1000 (nI 61) v (nI (pR kw (t + g))) (nI w) X 0 S = k (nI 61) v (nI (pR kw (t + g))) (nI w) S1 ∧ Ly S1 ∧ Fr 63 64 S S1 ∧ ∀ u, u < 25 → ∀ b, b < 25 → tb (S1.2.1 63 u) b = (tb (S.2.1 63 u) b || (tb X b && anyB (fun d => decide (u = dr_W kw t g w d)) 5)) := by
  by_cases c : X = 0
  · have ce : (X = 0) = True := eq_true c
    refine ⟨S, ?_, hL, Fr_rf, fun u _ b _ => by rw [c, tb_0, Bool.false_and, Bool.or_false]⟩
    show f_X0_spread_38 k (999 + 1) _ _ _ _ _ _ _ = _
    rw [f_X0_spread_38_s]
    simp (maxDischargeDepth := 40) only [ce, if_true]
  · have ce : (X = 0) = False := eq_false c
    obtain ⟨q, S1, ⟨p1, p2, p3⟩, e⟩ := lupI (fun n j (T : mS) => f_X0_spread_38 k n (nI 61) v (nI (pR kw (t + g))) (nI w) X (nI j) T) (fun j (T : mS) => Ly T ∧ Fr 63 64 S T ∧ ∀ u, u < 25 → ∀ b, b < 25 → tb (T.2.1 63 u) b = (tb (S.2.1 63 u) b || (tb X b && anyB (fun d => decide (u = dr_W kw t g w d)) j))) 5 (by
      rintro n j T hj ⟨q1, q2, q3⟩
      have le : ((5 : Int32) ≤ nI j) = False := eq_false (nI_ge hj (by decide))
      have e1 : f_X6_moved (nI w) (nI j) (nI (pR kw (t + g))) = some (nI (dr_W kw t g w j)) := x_moved _ hw _ hj _ (pR_lt _ _)
      have ww := dr_W_lt (kw := kw) (t := t) (m := g) hw hj
      refine ⟨mPut T 63 (dr_W kw t g w j) (T.2.1 63 (dr_W kw t g w j) ||| X), ⟨Ly_put q1 (cst_arr (Or.inl rfl)), Fr_tr q2 (Fr_put (by omega) (by omega)), fun u hu b hb => ?_⟩, ?_⟩
      · show _ = (_ || (_ && (anyB _ j || decide (u = dr_W kw t g w j))))
        rw [mPut_g]
        by_cases h : u = dr_W kw t g w j
        · rw [if_pos ⟨rfl, h⟩, tb_or, q3 _ ww b hb, ← h, decide_eq_true (rfl : u = u), Bool.or_true, Bool.and_true]
          generalize anyB (fun d => decide (u = dr_W kw t g w d)) j = z
          cases tb (S.2.1 63 u) b <;> cases tb X b <;> cases z <;> rfl
        · rw [if_neg (fun z => h z.2), decide_eq_false h, Bool.or_false]
          exact q3 u hu b hb
      · show f_X0_spread_38 k (n + 1) _ _ _ _ _ _ _ = _
        rw [f_X0_spread_38_s]
        simp (maxDischargeDepth := 40) only [ce, le, e1, q1, gc_0, gc_1, gc_2, gc_3, gc_4, gc_5, Ly_put, kcf, kca, ww, nI_1, mCp_e, mC_e, mCv_e, mZ_0, mZ_1, mZ_ifb, if_true, if_false, n10, eq_self, reduceCtorEq, Bool.false_eq_true, Nat.add_zero, Nat.reduceAdd]) 1000 S ⟨hL, Fr_rf, fun u _ b _ => by show _ = (_ || (_ && false)); rw [Bool.and_false, Bool.or_false]⟩ (by decide)
    refine ⟨S1, ?_, p1, p2, p3⟩
    refine Eq.trans e ?_
    have le : ((5 : Int32) ≤ nI 5) = True := eq_true (ng_i (a := 5))
    show f_X0_spread_38 k (q + 1) _ _ _ _ _ _ _ = _
    rw [f_X0_spread_38_s]
    simp (maxDischargeDepth := 40) only [ce, le, if_true, if_false]
theorem x_sp16 {S : mS} {kw t g : Nat} {k : Int32 → Int32 → mS → Option mS} (hL : Ly S) (hg : g ≤ 10) (h0 : ∀ u, u < 25 → S.2.1 63 u = 0) : ∃ S1, f_X0_spread_16 k 1000 (nI 61) (nI g) (nI (pR kw (t + g))) 0 S = k (nI 61) (nI g) S1 ∧ Ly S1 ∧ Fr 63 64 S S1 ∧ ∀ u, u < 25 → ∀ b, b < 25 → tb (S1.2.1 63 u) b = anyB (fun w => tb (S.2.1 62 (25 * g + w)) b && anyB (fun d => decide (u = dr_W kw t g w d)) 5) 25 := by
  obtain ⟨q, S1, ⟨p1, p2, p3⟩, e⟩ := lupI (fun n j (T : mS) => f_X0_spread_16 k n (nI 61) (nI g) (nI (pR kw (t + g))) (nI j) T) (fun j (T : mS) => Ly T ∧ Fr 63 64 S T ∧ ∀ u, u < 25 → ∀ b, b < 25 → tb (T.2.1 63 u) b = anyB (fun w => tb (S.2.1 62 (25 * g + w)) b && anyB (fun d => decide (u = dr_W kw t g w d)) 5) j) 25 (by
    rintro n j T hj ⟨q1, q2, q3⟩
    have le : ((25 : Int32) ≤ nI j) = False := eq_false (nI_ge hj (by decide))
    have b : 25 * g + j < 275 := by omega
    have e62 : T.2.1 62 = S.2.1 62 := q2.2.1 62 (by omega)
    obtain ⟨U, u1, u2, u3, u4⟩ := x_sp38 (kw := kw) (t := t) (g := g) (X := S.2.1 62 (25 * g + j)) (v := nI g) (k := f_X0_spread_72 (f_X0_spread_16 k n)) q1 hj
    refine ⟨U, ⟨u2, Fr_tr q2 u3, fun u hu b hb => ?_⟩, ?_⟩
    · show _ = (anyB _ j || (_ && _))
      rw [u4 u hu b hb, q3 u hu b hb]
    · show f_X0_spread_16 k (n + 1) _ _ _ _ _ = _
      rw [f_X0_spread_16_s]
      simp (maxDischargeDepth := 40) only [le, q1, gc_0, gc_1, gc_2, gc_3, gc_4, gc_5, Ly_put, kcf, kca, m25, nI_add, b, e62, mCp_e, mC_e, mCv_e, mZ_0, mZ_1, mZ_ifb, if_true, if_false, n10, eq_self, reduceCtorEq, Bool.false_eq_true, Nat.add_zero, Nat.reduceAdd]
      refine u1.trans ?_
      simp (maxDischargeDepth := 40) only [f_X0_spread_72, nI_1]) 1000 S ⟨hL, Fr_rf, fun u hu b _ => by rw [h0 u hu]; exact tb_0 b⟩ (by decide)
  refine ⟨S1, ?_, p1, p2, p3⟩
  refine Eq.trans e ?_
  have le : ((25 : Int32) ≤ nI 25) = True := eq_true (ng_i (a := 25))
  show f_X0_spread_16 k (q + 1) _ _ _ _ _ = _
  rw [f_X0_spread_16_s]
  simp (maxDischargeDepth := 40) only [le, if_true]
theorem x_sp80 {S : mS} {ks g : Nat} (hL : Ly S) (hK : dr_K S ks) (hk : ks < 6) (hg : g < 10) : ∃ S1, f_X0_spread_80 f_X0_spread_116 1000 (nI 61) (nI g) 0 S = some S1 ∧ Ly S1 ∧ Fr 62 63 S S1 ∧ (∀ u, u < 25 → ∀ b, b < 25 → tb (S1.2.1 62 (25 * (g + 1) + u)) b = anyB (fun f => tb (S.2.1 63 u) f && decide (b = pGv ks f u)) 25) ∧ ∀ j, j < 25 * (g + 1) → S1.2.1 62 j = S.2.1 62 j := by
  obtain ⟨q, S1, ⟨p1, p2, p3, p4⟩, e⟩ := lupI (fun n j (T : mS) => f_X0_spread_80 f_X0_spread_116 n (nI 61) (nI g) (nI j) T) (fun j (T : mS) => Ly T ∧ Fr 62 63 S T ∧ (∀ u, u < j → ∀ b, b < 25 → tb (T.2.1 62 (25 * (g + 1) + u)) b = anyB (fun f => tb (S.2.1 63 u) f && decide (b = pGv ks f u)) 25) ∧ ∀ j, j < 25 * (g + 1) → T.2.1 62 j = S.2.1 62 j) 25 (by
    rintro n j T hj ⟨q1, q2, q3, q4⟩
    have le : ((25 : Int32) ≤ nI j) = False := eq_false (nI_ge hj (by decide))
    have b : 25 * (g + 1) + j < 275 := by omega
    have e63 : T.2.1 63 = S.2.1 63 := q2.2.1 63 (by omega)
    have hKT : dr_K T ks := fun q hq => by rw [q2.2.1 64 (by omega)]; exact hK q hq
    obtain ⟨Y, y1, y2⟩ := x_allG (X := S.2.1 63 j) q1 hKT hk hj
    refine ⟨mPut T 62 (25 * (g + 1) + j) Y, ⟨Ly_put q1 (cst_arr (Or.inl rfl)), Fr_tr q2 (Fr_put (by omega) (by omega)), fun u hu b hb => ?_, fun i hi => by rw [mPut_g, if_neg (by omega)]; exact q4 i hi⟩, ?_⟩
    · rw [mPut_g]
      by_cases h : u = j
      · rw [if_pos ⟨rfl, by omega⟩, h]
        exact y2 b hb
      · rw [if_neg (by omega)]
        exact q3 u (by omega) b hb
    · show f_X0_spread_80 f_X0_spread_116 (n + 1) _ _ _ _ = _
      rw [f_X0_spread_80_s]
      simp (maxDischargeDepth := 40) only [le, q1, gc_0, gc_1, gc_2, gc_3, gc_4, gc_5, Ly_put, kcf, kca, e63, y1, nI_1, m25, nI_add, b, hj, mCp_e, mC_e, mCv_e, mZ_0, mZ_1, mZ_ifb, if_true, if_false, n10, eq_self, reduceCtorEq, Bool.false_eq_true, Nat.add_zero, Nat.reduceAdd]) 1000 S ⟨hL, Fr_rf, fun u hu => absurd hu (Nat.not_lt_zero u), fun _ _ => rfl⟩ (by decide)
  refine ⟨S1, ?_, p1, p2, p3, p4⟩
  refine Eq.trans e ?_
  have le : ((25 : Int32) ≤ nI 25) = True := eq_true (ng_i (a := 25))
  show f_X0_spread_80 f_X0_spread_116 (q + 1) _ _ _ _ = _
  rw [f_X0_spread_80_s]
  simp (maxDischargeDepth := 40) only [le, if_true, f_X0_spread_116]
theorem x_spread {S : mS} {kw ks t W F g : Nat} (hL : Ly S) (hH : dr_H S kw t W F) (hK : dr_K S ks) (hkw : kw < 6) (hk : ks < 6) (ht : t ≤ 9999) (hg : g < 10) (hS : dr_S S kw ks t W F g) : ∃ S1, f_X0_spread (nI 61) (nI g) S = some S1 ∧ Ly S1 ∧ Fr 62 64 S S1 ∧ dr_S S1 kw ks t W F (g + 1) ∧ ∀ j, j < 25 * (g + 1) → S1.2.1 62 j = S.2.1 62 j := by
  obtain ⟨A, a1, a2, a3, a4⟩ := x_fill (a := 63) hL rfl (by decide)
  obtain ⟨B, b1, b2, b3, b4⟩ := x_sp16 (kw := kw) (t := t) (k := f_X0_spread_78) a2 (show g ≤ 10 by omega) (fun u hu => a4 u hu)
  have ab := Fr_tr a3 b3
  obtain ⟨C, c1, c2, c3, c4, c5⟩ := x_sp80 (ks := ks) b2 (fun q hq => by rw [ab.2.1 64 (by omega)]; exact hK q hq) hk hg
  have e62 : A.2.1 62 = S.2.1 62 := a3.2.1 62 (by omega)
  have f62 : B.2.1 62 = S.2.1 62 := ab.2.1 62 (by omega)
  refine ⟨C, ?_, c2, Fr_tr (Fr_wd ab (by decide) (by decide)) (Fr_wd c3 (by decide) (by decide)), fun w hw f hf => ?_, fun j hj => by rw [c5 j hj, f62]⟩
  · have b1' : f_X0_spread_16 f_X0_spread_78 1000 (nI 61) (nI g) (nI (pR kw (t + g))) 0 A = some C := b1.trans c1
    simp (maxDischargeDepth := 40) only [f_X0_spread, hL, gc_0, gc_1, gc_2, gc_3, gc_4, gc_5, Ly_put, kcf, kca, x_cells hL hH hkw (show t + g ≤ 20000 by omega), a1, b1', mCp_e, mC_e, mCv_e, mZ_0, mZ_1, mZ_ifb, if_true, if_false, n10, eq_self, reduceCtorEq, Bool.false_eq_true, Nat.add_zero, Nat.reduceAdd]
  · rw [c4 w hw f hf, anyB_iff]
    constructor
    · rintro ⟨f', hf', e⟩
      rw [Bool.and_eq_true, decide_eq_true_eq, b4 w hw f' hf', anyB_iff] at e
      obtain ⟨⟨w', hw', e1⟩, e2⟩ := e
      rw [Bool.and_eq_true, e62, hS w' hw' f' hf', anyB_iff] at e1
      obtain ⟨e3, d, hd, e4⟩ := e1
      exact ⟨w', f', d, hw', hf', hd, e3, of_decide_eq_true e4, e2⟩
    · rintro ⟨w', f', d, hw', hf', hd, e3, e4, e2⟩
      refine ⟨f', hf', ?_⟩
      rw [Bool.and_eq_true, decide_eq_true_eq, b4 w hw f' hf', anyB_iff]
      refine ⟨⟨w', hw', ?_⟩, e2⟩
      rw [Bool.and_eq_true, e62, hS w' hw' f' hf', anyB_iff]
      exact ⟨e3, d, hd, decide_eq_true e4⟩
/-- behind shortest -/
def dr_E (kw ks t c W F : Nat) (S1 : mS) (r : Int32) : Prop := ((∀ g, g ≤ 10 → dr_A kw ks t c g 0 W F = false) ∧ r = -6) ∨ ∃ L, L ≤ 10 ∧ r = nI L ∧ dr_A kw ks t c L 0 W F = true ∧ (∀ g, g < L → dr_A kw ks t c g 0 W F = false) ∧ ∀ g, g ≤ L → dr_S S1 kw ks t W F g
theorem dr_any {S : mS} {kw ks t c W F g : Nat} (hk : ks < 6) (hW : W < 25) (hF : F < 25) (hc : c < 25) (hS : dr_S S kw ks t W F g) : anyB (fun w => tb (S.2.1 62 (25 * g + w)) c) 25 = dr_A kw ks t c g 0 W F := by
  rw [Bool.eq_iff_iff, anyB_iff, ← Nat.add_zero g, ← dr_FA hk hW hF g 0]
  constructor
  · rintro ⟨w, hw, e⟩
    exact ⟨w, c, hw, hc, (hS w hw c hc).mp e, decide_eq_true rfl⟩
  · rintro ⟨w, f, hw, hf, e, e2⟩
    obtain rfl : f = c := of_decide_eq_true e2
    exact ⟨w, hw, (hS w hw f hf).mpr e⟩
theorem x_sh93 {S : mS} {kw ks t c W F : Nat} (hL : Ly S) (hH : dr_H S kw t W F) (hK : dr_K S ks) (hkw : kw < 6) (hk : ks < 6) (ht : t ≤ 9999) (hW : W < 25) (hF : F < 25) (hc : c < 25) (hS : dr_S S kw ks t W F 0) : ∃ r S1, f_X0_shortest_93 f_X0_shortest_133 1000 (nI 61) (nI c) 0 S = some (r, S1) ∧ Ly S1 ∧ Fr 62 64 S S1 ∧ dr_E kw ks t c W F S1 r := by
  refine lupX (fun n j (T : mS) => f_X0_shortest_93 f_X0_shortest_133 n (nI 61) (nI c) (nI j) T) (fun j T => Ly T ∧ Fr 62 64 S T ∧ (∀ g, g ≤ min j 10 → dr_S T kw ks t W F g) ∧ ∀ g, g < j → dr_A kw ks t c g 0 W F = false) (fun β => ∃ r S1, β = some (r, S1) ∧ Ly S1 ∧ Fr 62 64 S S1 ∧ dr_E kw ks t c W F S1 r) 11 ?_ ?_ 1000 S ⟨hL, Fr_rf, fun g hg => by rw [show g = 0 by omega]; exact hS, fun g hg => absurd hg (Nat.not_lt_zero g)⟩ (by decide)
  · rintro n j T hj ⟨q1, q2, q3, q4⟩
    have lt : ((10 : Int32) < nI j) = False := by rw [show (10 : Int32) = nI 10 from rfl, lt_i (by decide) (by omega)]; exact eq_false (by omega)
    have hb := x_isR (S := T) (g := j) q1 (by omega) hc
    rw [dr_any hk hW hF hc (q3 j (by omega))] at hb
    cases hA : dr_A kw ks t c j 0 W F with
    | true =>
      left
      rw [hA] at hb
      refine ⟨nI j, T, ?_, q1, q2, Or.inr ⟨j, by omega, rfl, hA, q4, fun g hg => q3 g (by omega)⟩⟩
      show f_X0_shortest_93 f_X0_shortest_133 (n + 1) _ _ _ _ = _
      rw [f_X0_shortest_93_s]
      simp (maxDischargeDepth := 40) only [lt, q1, gc_0, gc_1, gc_2, gc_3, gc_4, gc_5, Ly_put, kcf, kca, hb, mCp_e, mC_e, mCv_e, mZ_0, mZ_1, mZ_ifb, if_true, if_false, n10, eq_self, reduceCtorEq, Bool.false_eq_true, Nat.add_zero, Nat.reduceAdd]
    | false =>
      right
      rw [hA] at hb
      have q4' : ∀ g, g < j + 1 → dr_A kw ks t c g 0 W F = false := fun g hg => by
        by_cases e : g = j
        · rw [e]; exact hA
        · exact q4 g (by omega)
      by_cases h10 : j = 10
      · refine ⟨T, ⟨q1, q2, fun g hg => q3 g (by omega), q4'⟩, ?_⟩
        have le : ((10 : Int32) ≤ nI j) = True := by rw [show (10 : Int32) = nI 10 from rfl, le_i (by decide) (by omega)]; exact eq_true (by omega)
        show f_X0_shortest_93 f_X0_shortest_133 (n + 1) _ _ _ _ = _
        rw [f_X0_shortest_93_s]
        simp (maxDischargeDepth := 40) only [lt, le, q1, gc_0, gc_1, gc_2, gc_3, gc_4, gc_5, Ly_put, kcf, kca, hb, f_X0_shortest_127, nI_1, mCp_e, mC_e, mCv_e, mZ_0, mZ_1, mZ_ifb, if_true, if_false, n10, eq_self, reduceCtorEq, Bool.false_eq_true, Nat.add_zero, Nat.reduceAdd]
      · have le : ((10 : Int32) ≤ nI j) = False := eq_false (nI_ge (show j < 10 by omega) (by decide))
        have e61 : T.2.1 61 = S.2.1 61 := q2.2.1 61 (by omega)
        have e64 : T.2.1 64 = S.2.1 64 := q2.2.1 64 (by omega)
        obtain ⟨U, u1, u2, u3, u4, u5⟩ := x_spread (g := j) q1 (by unfold dr_H; rw [e61]; exact hH) (fun q hq => by rw [e64]; exact hK q hq) hkw hk ht (by omega) (q3 j (by omega))
        refine ⟨U, ⟨u2, Fr_tr q2 u3, fun g hg => ?_, q4'⟩, ?_⟩
        · by_cases e : g = j + 1
          · rw [e]; exact u4
          · intro w hw f hf
            rw [u5 _ (by omega)]
            exact q3 g (by omega) w hw f hf
        · show f_X0_shortest_93 f_X0_shortest_133 (n + 1) _ _ _ _ = _
          rw [f_X0_shortest_93_s]
          simp (maxDischargeDepth := 40) only [lt, le, q1, gc_0, gc_1, gc_2, gc_3, gc_4, gc_5, Ly_put, kcf, kca, hb, u1, f_X0_shortest_127, nI_1, mCp_e, mC_e, mCv_e, mZ_0, mZ_1, mZ_ifb, if_true, if_false, n10, eq_self, reduceCtorEq, Bool.false_eq_true, Nat.add_zero, Nat.reduceAdd]
  · rintro n T ⟨q1, q2, q3, q4⟩
    have lt : ((10 : Int32) < nI 11) = True := eq_true (by decide)
    refine ⟨-6, T, ?_, q1, q2, Or.inl ⟨fun g hg => q4 g (by omega), rfl⟩⟩
    show f_X0_shortest_93 f_X0_shortest_133 (n + 1) _ _ _ _ = _
    rw [f_X0_shortest_93_s]
    simp (maxDischargeDepth := 40) only [lt, if_true, f_X0_shortest_133]
theorem x_short {S : mS} {h : HS} {i s c : Nat} (hL : Ly S) (hr : RH S 2 h) (hv : VH h) (ht : h.t ≤ 9999) (hwy : WY S) (hs : s < h.f) (hi : i < h.w) (hc : c < 25) : ∃ r S1, f_X0_shortest (nI 61) (nI 2) (nI s) (nI i) (nI c) S = some (r, S1) ∧ Ly S1 ∧ Fr 61 65 S S1 ∧ dr_H S1 (h.wk i) h.t (h.wc i) (h.sc s) ∧ S1.2.1 61 3 = nI (h.sk s) ∧ dr_K S1 (h.sk s) ∧ dr_E (h.wk i) (h.sk s) h.t c (h.wc i) (h.sc s) S1 r := by
  have ho : HO 2 := Or.inl rfl
  have hw := hv.1
  have hf := hv.2.1
  have hk := (hv.2.2.2.2 s hs).1
  have hF := (hv.2.2.2.2 s hs).2
  have hkw := (hv.2.2.2.1 i hi).1
  have hW := (hv.2.2.2.1 i hi).2
  have s7 : s < 7 := by omega
  have i3 : i < 3 := by omega
  have d1 : dN h.f (nI s) = true := dN_nI hs (by omega)
  have d2 : dN h.w (nI i) = true := dN_nI hi (by omega)
  obtain ⟨A, a1, a2, a3, a4, a5⟩ := x_learn hL hwy hk
  have hrA : RH A 2 h := RH_sa (a3.sa (by omega)) hr
  have r1 : A.2.1 3 i = nI (h.wk i) := (hrA.2.2.2.1 i hi).1
  have r2 : A.2.1 2 6 = nI h.t := hrA.2.2.1
  have r3 : A.2.1 4 i = nI (h.wc i) := (hrA.2.2.2.1 i hi).2
  have r4 : A.2.1 6 s = nI (h.sc s) := (hrA.2.2.2.2 s hs).2
  have r0 : S.2.1 5 s = nI (h.sk s) := (hr.2.2.2.2 s hs).1
  generalize hB : mPut (mPut (mPut (mPut A 61 4 (nI (h.wk i))) 61 5 (nI h.t)) 61 6 (nI (h.wc i))) 61 7 (nI (h.sc s)) = B
  have b1 : Ly B := by
    rw [← hB]
    exact Ly_put (Ly_put (Ly_put (Ly_put a2 (by decide)) (by decide)) (by decide)) (by decide)
  have b2 : Fr 61 62 A B := by
    rw [← hB]
    exact Fr_tr (Fr_tr (Fr_tr (Fr_put (by decide) (by decide)) (Fr_put (by decide) (by decide))) (Fr_put (by decide) (by decide))) (Fr_put (by decide) (by decide))
  have b3 : dr_H B (h.wk i) h.t (h.wc i) (h.sc s) := by
    rw [← hB]
    unfold dr_H
    simp (maxDischargeDepth := 40) only [mPut_g, Nat.reduceEqDiff, and_true, true_and, and_false, false_and, and_self, mPut_g, if_true, if_false, mCp_e, mC_e, mCv_e, mZ_0, mZ_1, mZ_ifb, if_true, if_false, n10, eq_self, reduceCtorEq, Bool.false_eq_true, Nat.add_zero, Nat.reduceAdd]
  have b4 : B.2.1 61 3 = nI (h.sk s) := by
    rw [← hB]
    simp (maxDischargeDepth := 40) only [mPut_g, Nat.reduceEqDiff, and_true, true_and, and_false, false_and, and_self, mPut_g, if_true, if_false, mCp_e, mC_e, mCv_e, mZ_0, mZ_1, mZ_ifb, if_true, if_false, n10, eq_self, reduceCtorEq, Bool.false_eq_true, Nat.add_zero, Nat.reduceAdd]
    exact a4
  obtain ⟨C, c1, c2, c3, c4⟩ := x_fill (a := 62) b1 rfl (by decide)
  have e61 : C.2.1 61 = B.2.1 61 := c3.2.1 61 (by omega)
  have f6 : C.2.1 61 6 = nI (h.wc i) := by rw [e61]; exact b3.2.2.1
  have f7 : C.2.1 61 7 = nI (h.sc s) := by rw [e61]; exact b3.2.2.2
  have bw : h.wc i < 275 := by omega
  have hLD : Ly (mPut C 62 (h.wc i) (1 <<< (nI (h.sc s) &&& 31))) := Ly_put c2 (cst_arr (Or.inl rfl))
  have frD : Fr 61 65 A (mPut C 62 (h.wc i) (1 <<< (nI (h.sc s) &&& 31))) := Fr_tr (Fr_wd b2 (by decide) (by decide)) (Fr_tr (Fr_wd c3 (by decide) (by decide)) (Fr_put (by decide) (by decide)))
  have gH : dr_H (mPut C 62 (h.wc i) (1 <<< (nI (h.sc s) &&& 31))) (h.wk i) h.t (h.wc i) (h.sc s) := by
    unfold dr_H
    rw [mPut_r _ _ _ _ _ (by decide), e61]
    exact b3
  have gK : dr_K (mPut C 62 (h.wc i) (1 <<< (nI (h.sc s) &&& 31))) (h.sk s) := fun q hq => by
    rw [mPut_r _ _ _ _ _ (by decide), c3.2.1 64 (by omega), b2.2.1 64 (by omega)]
    exact a5 q hq
  have gS : dr_S (mPut C 62 (h.wc i) (1 <<< (nI (h.sc s) &&& 31))) (h.wk i) (h.sk s) h.t (h.wc i) (h.sc s) 0 := fun w hw f hf => by
    rw [mPut_g, Nat.mul_zero, Nat.zero_add]
    show _ ↔ (w = h.wc i ∧ f = h.sc s)
    by_cases g : w = h.wc i
    · rw [if_pos ⟨rfl, g⟩, tb_one _ (by omega) f (by omega), decide_eq_true_eq]
      exact ⟨fun z => ⟨g, z⟩, fun z => z.2⟩
    · rw [if_neg (fun z => g z.2), c4 w (show w < 275 by omega), tb_0]
      exact ⟨fun z => Bool.noConfusion z, fun z => absurd z.1 g⟩
  obtain ⟨r, D, d3, d4, d5, d6⟩ := x_sh93 (c := c) hLD gH gK hkw hk ht hW hF hc gS
  refine ⟨r, D, ?_, d4, Fr_tr a3 (Fr_tr frD (Fr_wd d5 (by decide) (by decide))), ?_, ?_, ?_, d6⟩
  · simp (maxDischargeDepth := 40) only [f_X0_shortest, hL, gc_0, gc_1, gc_2, gc_3, gc_4, gc_5, Ly_put, kcf, kca, x_hasS _ ho hL hr hf, x_hasW _ ho hL hr (show h.w ≤ 7 by omega), d1, d2, s7, i3, r0, a1, a2, r1, r2, r3, r4, mPut_g, mPut_g, Nat.reduceEqDiff, and_true, true_and, and_false, false_and, and_self, mPut_r, ne_eq, not_false_eq_true, hB, b1, c1, c2, f6, f7, bw, mCp_e, mC_e, mCv_e, mZ_0, mZ_1, mZ_ifb, if_true, if_false, n10, eq_self, reduceCtorEq, Bool.false_eq_true, Nat.add_zero, Nat.reduceAdd]
    exact d3
  · unfold dr_H
    rw [d5.2.1 61 (by omega)]
    exact gH
  · rw [d5.2.1 61 (by omega), mPut_r _ _ _ _ _ (by decide), e61]
    exact b4
  · intro q hq
    rw [d5.2.1 64 (by omega)]
    exact gK q hq
