/-! drive, the class's side: those that arrive, the k-th call -/
def dr_T (S : mS) (kw ks t c W F L m : Nat) : Prop := ∀ w, w < 25 → ∀ f, f < 25 → (tb (S.2.1 62 (25 * m + w)) f = true ↔ dr_F kw ks t W F m w f ∧ dr_A kw ks t c (L - m) m w f = true)
theorem x_kp2 {S : mS} {L c : Nat} {k : Int32 → Int32 → mS → Option mS} (hL : Ly S) (hl : L ≤ 10) (hc : c < 25) : ∃ S1, f_X0_keepThoseThatArrive_2 k 1000 (nI 61) (nI L) (nI c) 0 S = k (nI 61) (nI L) S1 ∧ Ly S1 ∧ Fr 62 63 S S1 ∧ (∀ w, w < 25 → ∀ f, f < 25 → tb (S1.2.1 62 (25 * L + w)) f = (tb (S.2.1 62 (25 * L + w)) f && decide (f = c))) ∧ ∀ j, j < 25 * L → S1.2.1 62 j = S.2.1 62 j := by
  obtain ⟨q, S1, ⟨p1, p2, p3, p4, p5⟩, e⟩ := lupI (fun n j (T : mS) => f_X0_keepThoseThatArrive_2 k n (nI 61) (nI L) (nI c) (nI j) T) (fun j (T : mS) => Ly T ∧ Fr 62 63 S T ∧ (∀ w, w < j → ∀ f, f < 25 → tb (T.2.1 62 (25 * L + w)) f = (tb (S.2.1 62 (25 * L + w)) f && decide (f = c))) ∧ (∀ i, i < 25 * L → T.2.1 62 i = S.2.1 62 i) ∧ ∀ w, j ≤ w → T.2.1 62 (25 * L + w) = S.2.1 62 (25 * L + w)) 25 (by
    rintro n j T hj ⟨q1, q2, q3, q4, q5⟩
    have le : ((25 : Int32) ≤ nI j) = False := eq_false (nI_ge hj (by decide))
    have b : 25 * L + j < 275 := by omega
    refine ⟨mPut T 62 (25 * L + j) (T.2.1 62 (25 * L + j) &&& (1 <<< (nI c &&& 31))), ⟨Ly_put q1 (cst_arr (Or.inl rfl)), Fr_tr q2 (Fr_put (by omega) (by omega)), fun w hw f hf => ?_, fun i hi => by rw [mPut_g, if_neg (by omega)]; exact q4 i hi, fun w hw => by rw [mPut_g, if_neg (by omega)]; exact q5 w (by omega)⟩, ?_⟩
    · rw [mPut_g]
      by_cases h : w = j
      · rw [if_pos ⟨rfl, by omega⟩, h, tb_and, q5 j (Nat.le_refl j), tb_one c (by omega) f (by omega)]
      · rw [if_neg (by omega)]
        exact q3 w (by omega) f hf
    · show f_X0_keepThoseThatArrive_2 k (n + 1) _ _ _ _ _ = _
      rw [f_X0_keepThoseThatArrive_2_s]
      simp (maxDischargeDepth := 40) only [le, q1, gc_0, gc_1, gc_2, gc_3, gc_4, gc_5, Ly_put, kcf, kca, m25, nI_add, b, nI_1, mCp_e, mC_e, mCv_e, mZ_0, mZ_1, mZ_ifb, if_true, if_false, n10, eq_self, reduceCtorEq, Bool.false_eq_true, Nat.add_zero, Nat.reduceAdd]) 1000 S ⟨hL, Fr_rf, fun u hu => absurd hu (Nat.not_lt_zero u), fun _ _ => rfl, fun _ _ => rfl⟩ (by decide)
  refine ⟨S1, ?_, p1, p2, p3, p4⟩
  refine Eq.trans e ?_
  have le : ((25 : Int32) ≤ nI 25) = True := eq_true (ng_i (a := 25))
  show f_X0_keepThoseThatArrive_2 k (q + 1) _ _ _ _ _ = _
  rw [f_X0_keepThoseThatArrive_2_s]
  simp (maxDischargeDepth := 40) only [le, if_true]
theorem x_kp42 {S : mS} {ks g : Nat} {k : Int32 → Int32 → mS → Option mS} (hL : Ly S) (hK : dr_K S ks) (hk : ks < 6) (hg : g < 10) : ∃ S1, f_X0_keepThoseThatArrive_42 k 1000 (nI 61) (nI g) 0 S = k (nI 61) (nI g) S1 ∧ Ly S1 ∧ Fr 63 64 S S1 ∧ ∀ w, w < 25 → ∀ b, b < 25 → tb (S1.2.1 63 w) b = tb (S.2.1 62 (25 * (g + 1) + w)) (pGv ks b w) := by
  obtain ⟨q, S1, ⟨p1, p2, p3⟩, e⟩ := lupI (fun n j (T : mS) => f_X0_keepThoseThatArrive_42 k n (nI 61) (nI g) (nI j) T) (fun j (T : mS) => Ly T ∧ Fr 63 64 S T ∧ ∀ w, w < j → ∀ b, b < 25 → tb (T.2.1 63 w) b = tb (S.2.1 62 (25 * (g + 1) + w)) (pGv ks b w)) 25 (by
    rintro n j T hj ⟨q1, q2, q3⟩
    have le : ((25 : Int32) ≤ nI j) = False := eq_false (nI_ge hj (by decide))
    have b : 25 * (g + 1) + j < 275 := by omega
    have e62 : T.2.1 62 = S.2.1 62 := q2.2.1 62 (by omega)
    obtain ⟨Y, y1, y2⟩ := x_allT (X := S.2.1 62 (25 * (g + 1) + j)) q1 (fun q hq => by rw [q2.2.1 64 (by omega)]; exact hK q hq) hk hj
    refine ⟨mPut T 63 j Y, ⟨Ly_put q1 (cst_arr (Or.inl rfl)), Fr_tr q2 (Fr_put (by omega) (by omega)), fun w hw f hf => ?_⟩, ?_⟩
    · rw [mPut_g]
      by_cases h : w = j
      · rw [if_pos ⟨rfl, h⟩, h]
        exact y2 f hf
      · rw [if_neg (fun z => h z.2)]
        exact q3 w (by omega) f hf
    · show f_X0_keepThoseThatArrive_42 k (n + 1) _ _ _ _ = _
      rw [f_X0_keepThoseThatArrive_42_s]
      simp (maxDischargeDepth := 40) only [le, q1, gc_0, gc_1, gc_2, gc_3, gc_4, gc_5, Ly_put, kcf, kca, nI_1, m25, nI_add, b, e62, y1, hj, mCp_e, mC_e, mCv_e, mZ_0, mZ_1, mZ_ifb, if_true, if_false, n10, eq_self, reduceCtorEq, Bool.false_eq_true, Nat.add_zero, Nat.reduceAdd]) 1000 S ⟨hL, Fr_rf, fun u hu => absurd hu (Nat.not_lt_zero u)⟩ (by decide)
  refine ⟨S1, ?_, p1, p2, p3⟩
  refine Eq.trans e ?_
  have le : ((25 : Int32) ≤ nI 25) = True := eq_true (ng_i (a := 25))
  show f_X0_keepThoseThatArrive_42 k (q + 1) _ _ _ _ = _
  rw [f_X0_keepThoseThatArrive_42_s]
  simp (maxDischargeDepth := 40) only [le, if_true]
theorem x_kp85 {S : mS} {kw t W F g : Nat} {k : Int32 → Int32 → mS → Option mS} (hL : Ly S) (hH : dr_H S kw t W F) (hkw : kw < 6) (ht : t ≤ 9999) (hg : g < 10) : ∃ S1, f_X0_keepThoseThatArrive_85 k 1000 (nI 61) (nI g) 0 S = k (nI 61) (nI g) S1 ∧ Ly S1 ∧ Fr 62 63 S S1 ∧ (∀ w, w < 25 → ∀ b, b < 25 → tb (S1.2.1 62 (25 * g + w)) b = (tb (S.2.1 62 (25 * g + w)) b && anyB (fun d => tb (S.2.1 63 (dr_W kw t g w d)) b) 5)) ∧ ∀ j, (j < 25 * g ∨ 25 * g + 25 ≤ j) → S1.2.1 62 j = S.2.1 62 j := by
  obtain ⟨q, S1, ⟨p1, p2, p3, p4, p5⟩, e⟩ := lupI (fun n j (T : mS) => f_X0_keepThoseThatArrive_85 k n (nI 61) (nI g) (nI j) T) (fun j (T : mS) => Ly T ∧ Fr 62 63 S T ∧ (∀ w, w < j → ∀ b, b < 25 → tb (T.2.1 62 (25 * g + w)) b = (tb (S.2.1 62 (25 * g + w)) b && anyB (fun d => tb (S.2.1 63 (dr_W kw t g w d)) b) 5)) ∧ (∀ j, (j < 25 * g ∨ 25 * g + 25 ≤ j) → T.2.1 62 j = S.2.1 62 j) ∧ ∀ w, j ≤ w → T.2.1 62 (25 * g + w) = S.2.1 62 (25 * g + w)) 25 (by
    rintro n j T hj ⟨q1, q2, q3, q4, q5⟩
    have le : ((25 : Int32) ≤ nI j) = False := eq_false (nI_ge hj (by decide))
    have b : 25 * g + j < 275 := by omega
    have e61 : T.2.1 61 = S.2.1 61 := q2.2.1 61 (by omega)
    have e63 : T.2.1 63 = S.2.1 63 := q2.2.1 63 (by omega)
    have hHT : dr_H T kw t W F := by unfold dr_H; rw [e61]; exact hH
    obtain ⟨Y, y1, y2⟩ := x_joinA (kw := kw) (t := t) (g := g) q1 hj
    rw [e63] at y2
    refine ⟨mPut T 62 (25 * g + j) (T.2.1 62 (25 * g + j) &&& Y), ⟨Ly_put q1 (cst_arr (Or.inl rfl)), Fr_tr q2 (Fr_put (by omega) (by omega)), fun w hw f hf => ?_, fun i hi => by rw [mPut_g, if_neg (by omega)]; exact q4 i hi, fun w hw => by rw [mPut_g, if_neg (by omega)]; exact q5 w (by omega)⟩, ?_⟩
    · rw [mPut_g]
      by_cases h : w = j
      · rw [if_pos ⟨rfl, by omega⟩, h, tb_and, q5 j (Nat.le_refl j), y2 f hf]
      · rw [if_neg (by omega)]
        exact q3 w (by omega) f hf
    · show f_X0_keepThoseThatArrive_85 k (n + 1) _ _ _ _ = _
      rw [f_X0_keepThoseThatArrive_85_s]
      simp (maxDischargeDepth := 40) only [le, q1, gc_0, gc_1, gc_2, gc_3, gc_4, gc_5, Ly_put, kcf, kca, m25, nI_add, b, x_cells q1 hHT hkw (show t + g ≤ 20000 by omega), y1, nI_1, mCp_e, mC_e, mCv_e, mZ_0, mZ_1, mZ_ifb, if_true, if_false, n10, eq_self, reduceCtorEq, Bool.false_eq_true, Nat.add_zero, Nat.reduceAdd]) 1000 S ⟨hL, Fr_rf, fun u hu => absurd hu (Nat.not_lt_zero u), fun _ _ => rfl, fun _ _ => rfl⟩ (by decide)
  refine ⟨S1, ?_, p1, p2, p3, p4⟩
  refine Eq.trans e ?_
  have le : ((25 : Int32) ≤ nI 25) = True := eq_true (ng_i (a := 25))
  show f_X0_keepThoseThatArrive_85 k (q + 1) _ _ _ _ = _
  rw [f_X0_keepThoseThatArrive_85_s]
  simp (maxDischargeDepth := 40) only [le, if_true]
theorem x_kp35 {S : mS} {kw ks t c W F L : Nat} (hL : Ly S) (hH : dr_H S kw t W F) (hK : dr_K S ks) (hkw : kw < 6) (hk : ks < 6) (ht : t ≤ 9999) (hl : L ≤ 10) (hS : ∀ g, g < L → dr_S S kw ks t W F g) (hT : dr_T S kw ks t c W F L L) : ∃ S1, f_X0_keepThoseThatArrive_35 f_X0_keepThoseThatArrive_130 1000 (nI 61) (nI L - 1) S = some S1 ∧ Ly S1 ∧ Fr 62 64 S S1 ∧ ∀ m, m ≤ L → dr_T S1 kw ks t c W F L m := by
  obtain ⟨q, S1, ⟨p1, p2, p3, p4⟩, e⟩ := lupI (fun n j (T : mS) => f_X0_keepThoseThatArrive_35 f_X0_keepThoseThatArrive_130 n (nI 61) (nI (L - j) - 1) T) (fun j (T : mS) => Ly T ∧ Fr 62 64 S T ∧ (∀ m, L - j ≤ m → m ≤ L → dr_T T kw ks t c W F L m) ∧ ∀ g, g < L - j → dr_S T kw ks t W F g) L (by
    rintro u j T hj ⟨q1, q2, q3, q4⟩
    have hx : (nI (L - j) - 1 : Int32) = nI (L - (j + 1)) := by rw [show (1 : Int32) = nI 1 from rfl, nI_sub (by omega)]; congr 1
    have hn : (nI (L - (j + 1)) < 0) = False := nI_n0 (by omega)
    have e61 : T.2.1 61 = S.2.1 61 := q2.2.1 61 (by omega)
    have e64 : T.2.1 64 = S.2.1 64 := q2.2.1 64 (by omega)
    obtain ⟨A, a1, a2, a3, a4⟩ := x_kp42 (k := f_X0_keepThoseThatArrive_82 (f_X0_keepThoseThatArrive_35 f_X0_keepThoseThatArrive_130 u)) (ks := ks) (g := L - (j + 1)) q1 (fun q hq => by rw [e64]; exact hK q hq) hk (by omega)
    obtain ⟨B, b1, b2, b3, b4, b5⟩ := x_kp85 (k := f_X0_keepThoseThatArrive_124 (f_X0_keepThoseThatArrive_35 f_X0_keepThoseThatArrive_130 u)) (g := L - (j + 1)) (kw := kw) (t := t) (W := W) (F := F) a2 (by unfold dr_H; rw [a3.2.1 61 (by omega), e61]; exact hH) hkw ht (by omega)
    have e62 : A.2.1 62 = T.2.1 62 := a3.2.1 62 (by omega)
    refine ⟨B, ⟨b2, Fr_tr q2 (Fr_tr (Fr_wd a3 (by decide) (by decide)) (Fr_wd b3 (by decide) (by decide))), fun m h1 h2 => ?_, fun g hg w hw f hf => ?_⟩, ?_⟩
    · by_cases g : m = L - (j + 1)
      · subst g
        intro w hw f hf
        rw [b4 w hw f hf, Bool.and_eq_true, e62, q4 _ (by omega) w hw f hf, anyB_iff, show L - (L - (j + 1)) = j + 1 by omega]
        have key : ∀ d, d < 5 → (dr_F kw ks t W F (L - (j + 1)) w f → (tb (A.2.1 63 (dr_W kw t (L - (j + 1)) w d)) f = true ↔ dr_A kw ks t c j (L - (j + 1) + 1) (dr_W kw t (L - (j + 1)) w d) (pGv ks f (dr_W kw t (L - (j + 1)) w d)) = true)) := fun d hd hF => by
          have ww := dr_W_lt (kw := kw) (t := t) (m := L - (j + 1)) hw hd
          have q5 := q3 (L - j) (by omega) (by omega)
          rw [show L - j = L - (j + 1) + 1 by omega] at q5
          rw [a4 _ ww f hf, q5 _ ww _ (p_gives _ hk _ hf _ ww), show L - (L - (j + 1) + 1) = j by omega]
          exact ⟨fun z => z.2, fun z => ⟨⟨w, f, d, hw, hf, hd, hF, rfl, rfl⟩, z⟩⟩
        constructor
        · rintro ⟨z1, d, hd, z2⟩
          exact ⟨z1, (anyB_iff _ _).mpr ⟨d, hd, (key d hd z1).mp z2⟩⟩
        · rintro ⟨z1, z2⟩
          obtain ⟨d, hd, z3⟩ := (anyB_iff _ _).mp z2
          exact ⟨z1, d, hd, (key d hd z1).mpr z3⟩
      · intro w hw f hf
        rw [b5 _ (by omega), e62]
        exact q3 m (by omega) h2 w hw f hf
    · rw [b5 _ (by omega), e62]
      exact q4 g (by omega) w hw f hf
    · show f_X0_keepThoseThatArrive_35 f_X0_keepThoseThatArrive_130 (u + 1) _ _ T = _
      rw [f_X0_keepThoseThatArrive_35_s, hx]
      simp (maxDischargeDepth := 40) only [hn, if_false]
      refine a1.trans ?_
      rw [f_X0_keepThoseThatArrive_82]
      refine b1.trans ?_
      show _ = f_X0_keepThoseThatArrive_35 f_X0_keepThoseThatArrive_130 u (nI 61) (nI (L - (j + 1)) - 1) B
      rw [f_X0_keepThoseThatArrive_124, Int32.sub_eq_add_neg]) 1000 S ⟨hL, Fr_rf, fun m h1 h2 => by rw [show m = L by omega]; exact hT, fun g hg => hS g (by omega)⟩ (by omega)
  refine ⟨S1, ?_, p1, p2, fun m hm => p3 m (by omega) hm⟩
  refine Eq.trans e ?_
  show f_X0_keepThoseThatArrive_35 f_X0_keepThoseThatArrive_130 (q + 1) _ _ S1 = _
  have hn : ((nI (L - L) - 1 : Int32) < 0) = True := by rw [Nat.sub_self]; exact eq_true (by decide)
  rw [f_X0_keepThoseThatArrive_35_s]
  simp (maxDischargeDepth := 40) only [hn, if_true, f_X0_keepThoseThatArrive_130]
theorem x_keep {S : mS} {kw ks t c W F L : Nat} (hL : Ly S) (hH : dr_H S kw t W F) (hK : dr_K S ks) (hkw : kw < 6) (hk : ks < 6) (ht : t ≤ 9999) (hl : L ≤ 10) (hc : c < 25) (hS : ∀ g, g ≤ L → dr_S S kw ks t W F g) : ∃ S1, f_X0_keepThoseThatArrive (nI 61) (nI L) (nI c) S = some S1 ∧ Ly S1 ∧ Fr 62 64 S S1 ∧ ∀ m, m ≤ L → dr_T S1 kw ks t c W F L m := by
  obtain ⟨A, a1, a2, a3, a4, a5⟩ := x_kp2 (k := f_X0_keepThoseThatArrive_31) hL hl hc
  have e61 : A.2.1 61 = S.2.1 61 := a3.2.1 61 (by omega)
  have e64 : A.2.1 64 = S.2.1 64 := a3.2.1 64 (by omega)
  obtain ⟨B, b1, b2, b3, b4⟩ := x_kp35 (c := c) a2 (by unfold dr_H; rw [e61]; exact hH) (fun q hq => by rw [e64]; exact hK q hq) hkw hk ht hl (fun g hg w hw f hf => by rw [a5 _ (by omega)]; exact hS g (by omega) w hw f hf) (fun w hw f hf => by
    rw [a4 w hw f hf, Bool.and_eq_true, hS L (Nat.le_refl L) w hw f hf, Nat.sub_self]
    exact Iff.rfl)
  refine ⟨B, ?_, b2, Fr_tr (Fr_wd a3 (by decide) (by decide)) b3, b4⟩
  rw [f_X0_keepThoseThatArrive]
  refine a1.trans ?_
  rw [f_X0_keepThoseThatArrive_31]
  exact b1
theorem x_firstA {S : mS} {kw ks t W F m w f : Nat} (hL : Ly S) (hH : dr_H S kw t W F) (hK : dr_K S ks) (hkw : kw < 6) (hk : ks < 6) (ht : t ≤ 9999) (hm : m < 10) (hw : w < 25) (hf : f < 25) (ha : anyB (fun d => tb (S.2.1 62 (25 * (m + 1) + dr_W kw t m w d)) (pGv ks f (dr_W kw t m w d))) 5 = true) : f_X0_firstArriving (nI 61) (nI m) (nI w) (nI f) S = some (nI (fD (fun d => tb (S.2.1 62 (25 * (m + 1) + dr_W kw t m w d)) (pGv ks f (dr_W kw t m w d))))) := by
  unfold f_X0_firstArriving
  refine lupX (fun n j (_ : Unit) => f_X0_firstArriving_3 (f_X0_firstArriving_63 S) S n (nI 61) (nI m) (nI w) (nI f) (nI j)) (fun j _ => ∀ e, e < j → (fun d => tb (S.2.1 62 (25 * (m + 1) + dr_W kw t m w d)) (pGv ks f (dr_W kw t m w d))) e = false) (fun β => β = some (nI (fD (fun d => tb (S.2.1 62 (25 * (m + 1) + dr_W kw t m w d)) (pGv ks f (dr_W kw t m w d)))))) 5 ?_ ?_ 1000 () (fun e he => absurd he (Nat.not_lt_zero e)) (by decide)
  · intro n j _ hj q
    have le : ((5 : Int32) ≤ nI j) = False := eq_false (nI_ge hj (by decide))
    have e1 : f_X6_moved (nI w) (nI j) (nI (pR kw (t + m))) = some (nI (dr_W kw t m w j)) := x_moved _ hw _ hj _ (pR_lt _ _)
    have ww := dr_W_lt (kw := kw) (t := t) (m := m) hw hj
    have gg := p_gives _ hk _ hf _ ww
    have b1 : 25 * (m + 1) + dr_W kw t m w j < 275 := by omega
    have b2 : 25 * dr_W kw t m w j + f < 625 := by omega
    have hb := (x_hasB (v := S.2.1 62 (25 * (m + 1) + dr_W kw t m w j)) (j := pGv ks f (dr_W kw t m w j)) (by omega)).1
    cases hg : tb (S.2.1 62 (25 * (m + 1) + dr_W kw t m w j)) (pGv ks f (dr_W kw t m w j)) with
    | true =>
      left
      rw [hg] at hb
      rw [fD_eq (p := fun d => tb (S.2.1 62 (25 * (m + 1) + dr_W kw t m w d)) (pGv ks f (dr_W kw t m w d))) hj hg q]
      show f_X0_firstArriving_3 (f_X0_firstArriving_63 S) S (n + 1) _ _ _ _ _ = _
      rw [f_X0_firstArriving_3_s]
      simp (maxDischargeDepth := 40) only [le, hL, gc_0, gc_1, gc_2, gc_3, gc_4, gc_5, Ly_put, kcf, kca, x_cells hL hH hkw (show t + m ≤ 20000 by omega), e1, nI_1, m25, nI_add, b1, b2, dr_Kw hK ww hf, hb, mCp_e, mC_e, mCv_e, mZ_0, mZ_1, mZ_ifb, if_true, if_false, n10, eq_self, reduceCtorEq, Bool.false_eq_true, Nat.add_zero, Nat.reduceAdd]
    | false =>
      right
      rw [hg] at hb
      refine ⟨(), fun e he => ?_, ?_⟩
      · by_cases g : e = j
        · rw [g]; exact hg
        · exact q e (by omega)
      · show f_X0_firstArriving_3 (f_X0_firstArriving_63 S) S (n + 1) _ _ _ _ _ = _
        rw [f_X0_firstArriving_3_s]
        simp (maxDischargeDepth := 40) only [le, hL, gc_0, gc_1, gc_2, gc_3, gc_4, gc_5, Ly_put, kcf, kca, x_cells hL hH hkw (show t + m ≤ 20000 by omega), e1, nI_1, m25, nI_add, b1, b2, dr_Kw hK ww hf, hb, mCp_e, mC_e, mCv_e, mZ_0, mZ_1, mZ_ifb, if_true, if_false, n10, eq_self, reduceCtorEq, Bool.false_eq_true, Nat.add_zero, Nat.reduceAdd]
  · intro n _ q
    obtain ⟨j, hj, e⟩ := (anyB_iff _ _).mp ha
    exact Bool.noConfusion (e.symm.trans (q j hj))
theorem x_29 {S : mS} {kw ks t c W F L n : Nat} (hL : Ly S) (hH : dr_H S kw t W F) (hK : dr_K S ks) (hkw : kw < 6) (hk : ks < 6) (ht : t ≤ 9999) (hl : L ≤ 10) (hn : n < L) (hW : W < 25) (hF : F < 25) (hA : dr_A kw ks t c L 0 W F = true) (hT : ∀ m, m ≤ L → dr_T S kw ks t c W F L m) : f_X0_callAt_29 f_X0_callAt_90 1000 (nI 61) (nI n) (nI W) (nI F) (-1) 0 S = some (nI (dr_D kw ks t c L n (dr_P kw ks t c L W F n).1 (dr_P kw ks t c L W F n).2), S) := by
  obtain ⟨q, e⟩ := lup (fun u j => f_X0_callAt_29 f_X0_callAt_90 u (nI 61) (nI n) (nI (dr_P kw ks t c L W F j).1) (nI (dr_P kw ks t c L W F j).2) (dr_V kw ks t c L W F (-1) j) (nI j) S) (n + 1) (fun u j hj => by
    obtain ⟨p1, p2, p3, p4⟩ := dr_Pok hk hW hF hA j (by omega)
    have lt : (nI n < nI j) = False := by rw [lt_i (by omega) (by omega)]; exact eq_false (by omega)
    have le : ((10 : Int32) ≤ nI j) = False := eq_false (nI_ge (show j < 10 by omega) (by decide))
    have hg : ∀ d, d < 5 → tb (S.2.1 62 (25 * (j + 1) + dr_W kw t j (dr_P kw ks t c L W F j).1 d)) (pGv ks (dr_P kw ks t c L W F j).2 (dr_W kw t j (dr_P kw ks t c L W F j).1 d)) = dr_A kw ks t c (L - (j + 1)) (j + 1) (dr_W kw t j (dr_P kw ks t c L W F j).1 d) (pGv ks (dr_P kw ks t c L W F j).2 (dr_W kw t j (dr_P kw ks t c L W F j).1 d)) := fun d hd => by
      have ww := dr_W_lt (kw := kw) (t := t) (m := j) p1 hd
      rw [Bool.eq_iff_iff, hT (j + 1) (by omega) _ ww _ (p_gives _ hk _ p2 _ ww)]
      exact ⟨fun z => z.2, fun z => ⟨⟨_, _, d, p1, p2, hd, p4, rfl, rfl⟩, z⟩⟩
    have ha : anyB (fun d => tb (S.2.1 62 (25 * (j + 1) + dr_W kw t j (dr_P kw ks t c L W F j).1 d)) (pGv ks (dr_P kw ks t c L W F j).2 (dr_W kw t j (dr_P kw ks t c L W F j).1 d))) 5 = true := by
      rw [anyB_eq hg]
      rw [show L - j = (L - (j + 1)) + 1 by omega] at p3
      exact p3
    have hd5 : dr_D kw ks t c L j (dr_P kw ks t c L W F j).1 (dr_P kw ks t c L W F j).2 < 5 := fD_lt _
    have hfd : fD (fun d => tb (S.2.1 62 (25 * (j + 1) + dr_W kw t j (dr_P kw ks t c L W F j).1 d)) (pGv ks (dr_P kw ks t c L W F j).2 (dr_W kw t j (dr_P kw ks t c L W F j).1 d))) = dr_D kw ks t c L j (dr_P kw ks t c L W F j).1 (dr_P kw ks t c L W F j).2 := fD_cg hg
    have e0 := x_firstA hL hH hK hkw hk ht (show j < 10 by omega) p1 p2 ha
    rw [hfd] at e0
    have ww := dr_W_lt (kw := kw) (t := t) (m := j) p1 hd5
    have e1 : f_X6_moved (nI (dr_P kw ks t c L W F j).1) (nI (dr_D kw ks t c L j (dr_P kw ks t c L W F j).1 (dr_P kw ks t c L W F j).2)) (nI (pR kw (t + j))) = some (nI (dr_W kw t j (dr_P kw ks t c L W F j).1 (dr_D kw ks t c L j (dr_P kw ks t c L W F j).1 (dr_P kw ks t c L W F j).2))) := x_moved _ p1 _ hd5 _ (pR_lt _ _)
    have e2 := dr_Kw hK ww p2
    show f_X0_callAt_29 f_X0_callAt_90 (u + 1) _ _ _ _ _ _ S = f_X0_callAt_29 f_X0_callAt_90 u _ _ (nI (dr_W kw t j (dr_P kw ks t c L W F j).1 _)) (nI (pGv ks (dr_P kw ks t c L W F j).2 _)) (nI _) (nI (j + 1)) S
    rw [f_X0_callAt_29_s]
    generalize dr_D kw ks t c L j (dr_P kw ks t c L W F j).1 (dr_P kw ks t c L W F j).2 = D at *
    generalize (dr_P kw ks t c L W F j).1 = w at *
    generalize (dr_P kw ks t c L W F j).2 = f at *
    have b2 : 25 * dr_W kw t j w D + f < 625 := by omega
    simp (maxDischargeDepth := 40) only [lt, le, hL, gc_0, gc_1, gc_2, gc_3, gc_4, gc_5, Ly_put, kcf, kca, e0, x_cells hL hH hkw (show t + j ≤ 20000 by omega), e1, m25, nI_add, b2, e2, nI_1, mCp_e, mC_e, mCv_e, mZ_0, mZ_1, mZ_ifb, if_true, if_false, n10, eq_self, reduceCtorEq, Bool.false_eq_true, Nat.add_zero, Nat.reduceAdd]) 1000 (by omega)
  refine Eq.trans e ?_
  have lt : (nI n < nI (n + 1)) = True := by rw [lt_i (by omega) (by omega)]; exact eq_true (by omega)
  show f_X0_callAt_29 f_X0_callAt_90 (q + 1) _ _ _ _ _ _ S = _
  rw [f_X0_callAt_29_s]
  simp (maxDischargeDepth := 40) only [lt, if_true, f_X0_callAt_90]
  rfl
theorem mn10 : ∀ L, L < 11 → mMin (nI L) 10 = nI L := by decide +kernel
theorem x_callAt {S : mS} {kw ks t c W F L n : Nat} (hL : Ly S) (hH : dr_H S kw t W F) (hK : dr_K S ks) (hkw : kw < 6) (hk : ks < 6) (ht : t ≤ 9999) (hl : L ≤ 10) (hc : c < 25) (hn : n < L) (hW : W < 25) (hF : F < 25) (hA : dr_A kw ks t c L 0 W F = true) (hS : ∀ g, g ≤ L → dr_S S kw ks t W F g) : ∃ S1, f_X0_callAt (nI 61) (nI n) (nI L) (nI c) S = some (nI (dr_D kw ks t c L n (dr_P kw ks t c L W F n).1 (dr_P kw ks t c L W F n).2), S1) ∧ Ly S1 ∧ Fr 62 64 S S1 := by
  obtain ⟨A, a1, a2, a3, a4⟩ := x_keep hL hH hK hkw hk ht hl hc hS
  have e61 : A.2.1 61 = S.2.1 61 := a3.2.1 61 (by omega)
  have hHA : dr_H A kw t W F := by unfold dr_H; rw [e61]; exact hH
  have b := x_29 (c := c) a2 hHA (fun q hq => by rw [a3.2.1 64 (by omega)]; exact hK q hq) hkw hk ht hl hn hW hF hA a4
  refine ⟨A, ?_, a2, a3⟩
  simp (maxDischargeDepth := 40) only [f_X0_callAt, hL, gc_0, gc_1, gc_2, gc_3, gc_4, gc_5, Ly_put, kcf, kca, mn10 L (by omega), a1, a2, hHA.2.2.1, hHA.2.2.2, mCp_e, mC_e, mCv_e, mZ_0, mZ_1, mZ_ifb, if_true, if_false, n10, eq_self, reduceCtorEq, Bool.false_eq_true, Nat.add_zero, Nat.reduceAdd]
  exact b
theorem nI_n6 {n : Nat} (h : n < 2147483648) : (nI n = -6) = False := eq_false (fun e => by
  have z := nI_pos h
  rw [e] at z
  exact z (by decide))
theorem x_drive {S : mS} {k : KS} {i s c : Nat} {v : Int32} (hL : Ly S) (ck : CK S 1 k) (hv : VH k.h) (ht : k.h.t ≤ 9999) (hwy : WY S) (hs : s < k.h.f) (hi : i < k.h.w) (hc : c < 25) (hvv : v = -2 ∨ ∃ n, n < 2147483648 ∧ v = nI n) : ∃ r S1, f_X6_drive (nI 0) (nI s) (nI i) (nI c) v S = some (r, S1) ∧ dr_Z (k.h.wk i) (k.h.sk s) k.h.t c (k.h.wc i) (k.h.sc s) v r ∧ Ly S1 ∧ Fr 61 65 S S1 ∧ WY S1 := by
  have ho : HO 2 := Or.inl rfl
  have hr : RH S 2 k.h := ck.2.1
  have hw := hv.1
  have hf := hv.2.1
  have w7 : k.h.w ≤ 7 := by omega
  have d1 : dN k.h.f (nI s) = true := dN_nI hs (by omega)
  have d2 : dN k.h.w (nI i) = true := dN_nI hi (by omega)
  have d3 : dN 25 (nI c) = true := dN_nI hc (by decide)
  have k6 := (hv.2.2.2.2 s hs).1
  obtain ⟨r, A, a1, a2, a3, a4, a5, a6, a7⟩ := x_short hL hr hv ht hwy hs hi hc
  have wyA : WY A := Or.inr ⟨k.h.sk s, k6, a5, a6⟩
  have v2 : (v = -2) ∨ ((v = -2) = False ∧ (v < 0) = False) := by
    rcases hvv with h | ⟨n, hn, rfl⟩
    · exact Or.inl h
    · exact Or.inr ⟨eq_false (fun e => by have z := nI_pos hn; rw [e] at z; exact z (by decide)), nI_n0 hn⟩
  have e17 : f_X6_drive (nI 0) (nI s) (nI i) (nI c) v S = f_X6_drive_17 (nI 0) (nI s) (nI i) (nI c) v 1 S := by
    rcases v2 with h | ⟨h1, h2⟩
    · have h1 : (v = -2) = True := eq_true h
      simp (maxDischargeDepth := 40) only [f_X6_drive, f_X6_drive_12, h1, if_true]
    · simp (maxDischargeDepth := 40) only [f_X6_drive, f_X6_drive_12, h1, h2, if_false]
  rw [e17]
  rcases a7 with ⟨n1, rfl⟩ | ⟨L, l1, rfl, l3, l4, l5⟩
  · refine ⟨-6, A, ?_, Or.inl ⟨n1, rfl⟩, a2, a3, wyA⟩
    simp (maxDischargeDepth := 40) only [f_X6_drive_17, f_X6_drive_99, hL, gc_0, gc_1, gc_2, gc_3, gc_4, gc_5, Ly_put, kcf, kca, x_hasS _ ho hL hr hf, x_hasW _ ho hL hr w7, x_cell, d1, d2, d3, a1, mCp_e, mC_e, mCv_e, mZ_0, mZ_1, mZ_ifb, if_true, if_false, n10, eq_self, reduceCtorEq, Bool.false_eq_true, Nat.add_zero, Nat.reduceAdd]
  · have n6 : (nI L = -6) = False := nI_n6 (by omega)
    rcases hvv with rfl | ⟨n, hn, rfl⟩
    · refine ⟨nI L, A, ?_, Or.inr ⟨L, l1, l3, l4, Or.inl ⟨rfl, rfl⟩⟩, a2, a3, wyA⟩
      simp (maxDischargeDepth := 40) only [f_X6_drive_17, f_X6_drive_99, hL, gc_0, gc_1, gc_2, gc_3, gc_4, gc_5, Ly_put, kcf, kca, x_hasS _ ho hL hr hf, x_hasW _ ho hL hr w7, x_cell, d1, d2, d3, a1, n6, mCp_e, mC_e, mCv_e, mZ_0, mZ_1, mZ_ifb, if_true, if_false, n10, eq_self, reduceCtorEq, Bool.false_eq_true, Nat.add_zero, Nat.reduceAdd]
    · have n2 : (nI n = -2) = False := eq_false (fun e => by have z := nI_pos hn; rw [e] at z; exact z (by decide))
      by_cases hl : n < L
      · have le : (nI L ≤ nI n) = False := eq_false (nI_ge hl (by omega))
        obtain ⟨B, b1, b2, b3⟩ := x_callAt a2 a4 a6 (hv.2.2.2.1 i hi).1 k6 ht l1 hc hl (hv.2.2.2.1 i hi).2 (hv.2.2.2.2 s hs).2 l3 l5
        refine ⟨_, B, ?_, Or.inr ⟨L, l1, l3, l4, Or.inr ⟨n, hn, rfl, Or.inl ⟨hl, rfl⟩⟩⟩, b2, Fr_tr a3 (Fr_wd b3 (by decide) (by decide)), WY_sa (by rw [b3.2.1 61 (by omega)]) (b3.2.1 64 (by omega)) wyA⟩
        simp (maxDischargeDepth := 40) only [f_X6_drive_17, f_X6_drive_99, f_X6_drive_126, hL, gc_0, gc_1, gc_2, gc_3, gc_4, gc_5, Ly_put, kcf, kca, x_hasS _ ho hL hr hf, x_hasW _ ho hL hr w7, x_cell, d1, d2, d3, a1, a2, n6, n2, le, b1, mCp_e, mC_e, mCv_e, mZ_0, mZ_1, mZ_ifb, if_true, if_false, n10, eq_self, reduceCtorEq, Bool.false_eq_true, Nat.add_zero, Nat.reduceAdd]
      · have le : (nI L ≤ nI n) = True := by rw [le_i (by omega) hn]; exact eq_true (by omega)
        refine ⟨-5, A, ?_, Or.inr ⟨L, l1, l3, l4, Or.inr ⟨n, hn, rfl, Or.inr ⟨by omega, rfl⟩⟩⟩, a2, a3, wyA⟩
        simp (maxDischargeDepth := 40) only [f_X6_drive_17, f_X6_drive_99, f_X6_drive_126, hL, gc_0, gc_1, gc_2, gc_3, gc_4, gc_5, Ly_put, kcf, kca, x_hasS _ ho hL hr hf, x_hasW _ ho hL hr w7, x_cell, d1, d2, d3, a1, n6, n2, le, mCp_e, mC_e, mCv_e, mZ_0, mZ_1, mZ_ifb, if_true, if_false, n10, eq_self, reduceCtorEq, Bool.false_eq_true, Nat.add_zero, Nat.reduceAdd]
theorem x_dr17 {S : mS} {k : KS} {v1 v2 v3 v4 t0 : Int32} (hL : Ly S) (hr : RH S 2 k.h) (hv : VH k.h) (hb : (dN k.h.f v1 && (dN k.h.w v2 && (dN 25 v3 && decide (¬ t0 = 0)))) = false) : f_X6_drive_17 (nI 0) v1 v2 v3 v4 t0 S = some (-10, mPut S 0 14 (S.2.1 0 14 + 1)) := by
  have ho : HO 2 := Or.inl rfl
  have w7 : k.h.w ≤ 7 := by have := hv.1; omega
  have hf := hv.2.1
  cases c1 : dN k.h.f v1 with
  | false => simp (maxDischargeDepth := 40) only [f_X6_drive_17, f_X6_drive_59, hL, gc_0, gc_1, gc_2, gc_3, gc_4, gc_5, Ly_put, kcf, kca, x_hasS _ ho hL hr hf, c1, x_bad hL, mCp_e, mC_e, mCv_e, mZ_0, mZ_1, mZ_ifb, if_true, if_false, n10, eq_self, reduceCtorEq, Bool.false_eq_true, Nat.add_zero, Nat.reduceAdd]
  | true =>
    cases c2 : dN k.h.w v2 with
    | false => simp (maxDischargeDepth := 40) only [f_X6_drive_17, f_X6_drive_59, hL, gc_0, gc_1, gc_2, gc_3, gc_4, gc_5, Ly_put, kcf, kca, x_hasS _ ho hL hr hf, x_hasW _ ho hL hr w7, c1, c2, x_bad hL, mCp_e, mC_e, mCv_e, mZ_0, mZ_1, mZ_ifb, if_true, if_false, n10, eq_self, reduceCtorEq, Bool.false_eq_true, Nat.add_zero, Nat.reduceAdd]
    | true =>
      cases c3 : dN 25 v3 with
      | false => simp (maxDischargeDepth := 40) only [f_X6_drive_17, f_X6_drive_59, hL, gc_0, gc_1, gc_2, gc_3, gc_4, gc_5, Ly_put, kcf, kca, x_hasS _ ho hL hr hf, x_hasW _ ho hL hr w7, x_cell, c1, c2, c3, x_bad hL, mCp_e, mC_e, mCv_e, mZ_0, mZ_1, mZ_ifb, if_true, if_false, n10, eq_self, reduceCtorEq, Bool.false_eq_true, Nat.add_zero, Nat.reduceAdd]
      | true =>
        rw [c1, c2, c3, Bool.true_and, Bool.true_and, Bool.true_and, decide_eq_false_iff_not, Classical.not_not] at hb
        have hb' : (t0 = 0) = True := eq_true hb
        simp (maxDischargeDepth := 40) only [f_X6_drive_17, f_X6_drive_59, hL, gc_0, gc_1, gc_2, gc_3, gc_4, gc_5, Ly_put, kcf, kca, x_hasS _ ho hL hr hf, x_hasW _ ho hL hr w7, x_cell, c1, c2, c3, hb', x_bad hL, mCp_e, mC_e, mCv_e, mZ_0, mZ_1, mZ_ifb, if_true, if_false, n10, eq_self, reduceCtorEq, Bool.false_eq_true, Nat.add_zero, Nat.reduceAdd]
theorem o_drive {S : mS} (H : Inv S) (v1 v2 v3 v4 : Int32) : Agr (f_X6_drive (nI 0) v1 v2 v3 v4) (f_X7_drive (nI 83) v1 v2 v3 v4) S := by
  obtain ⟨k, I⟩ := Inv_k H
  have hL := I.1
  have hv : VH k.h := I.2.1.1
  have hr : RH S 2 k.h := I.2.2.1.2.1
  have hm : MK S k := I.2.2.2.1
  have hq : RM S k.h := hm.2.1
  have ho : HO 2 := Or.inl rfl
  have hw := hv.1
  have hf := hv.2.1
  have w7 : k.h.w ≤ 7 := by omega
  by_cases hk : v4 = -2 ∨ ¬ v4 < 0
  · by_cases hd : dN k.h.f v1 = true ∧ dN k.h.w v2 = true ∧ dN 25 v3 = true
    · obtain ⟨h1, h2, h3⟩ := hd
      obtain ⟨s, hs, rfl⟩ := dN_some h1 (by omega)
      obtain ⟨i, hi, rfl⟩ := dN_some h2 (by omega)
      obtain ⟨c, hc, rfl⟩ := dN_some h3 (by decide)
      have hvv : v4 = -2 ∨ ∃ n, n < 2147483648 ∧ v4 = nI n := hk.imp id (fun h => nI_of h)
      obtain ⟨⟨n, b, tx⟩, fr, ct, im, wy⟩ := I.2.2.2.2
      obtain ⟨r, A, a1, a2, a3, a4, a5⟩ := x_drive hL I.2.2.1 hv I.2.1.2.1 wy hs hi hc hvv
      obtain ⟨r', B, b1, b2, b3, b4⟩ := y_drive a3 (RM_sa (a4.sa (by omega)) hq) hv I.2.1.2.1 hs hi hc hvv
      obtain rfl := dr_Zu a2 b2
      have g : ∀ q, (q < 61 ∨ (65 ≤ q ∧ q < 96) ∨ 97 ≤ q) → B.2.1 q = S.2.1 q := fun q hq => by rw [b4.2.1 q (by omega), a4.2.1 q (by omega)]
      refine ⟨r, A, B, a1, a3.1, b1, b3, ⟨k, I.2.1, CK_sa (fun q x y => g q (by omega)) I.2.2.1, MK_sa (fun q x y => g q (by omega)) hm⟩, ⟨n, b, TX_sa (g 59 (by decide)) (g 60 (by decide)) (by rw [g 83 (by decide)]) (g 92 (by decide)) tx⟩, ?_, ?_, ⟨IM_sa (by decide) (fun q x y => g q (by omega)) (g 98 (by decide)) (g 99 (by decide)) im.1, IM_sa (by decide) (fun q x y => g q (by omega)) (g 98 (by decide)) (g 99 (by decide)) im.2⟩, WY_sa (by rw [b4.2.1 61 (by omega)]) (b4.2.1 64 (by omega)) a5⟩
      · unfold FRc
        rw [b4.2.2, a4.2.2, g 0 (by decide)]
        exact fr
      · unfold CT
        rw [g 0 (by decide), g 84 (by decide)]
        exact ct
    · have hb : (dN k.h.f v1 && (dN k.h.w v2 && (dN 25 v3 && decide (¬ (1 : Int32) = 0)))) = false := by
        rw [show decide (¬ (1 : Int32) = 0) = true from by decide, Bool.and_true]
        cases c1 : dN k.h.f v1 <;> cases c2 : dN k.h.w v2 <;> cases c3 : dN 25 v3 <;> first | rfl | exact absurd ⟨c1, c2, c3⟩ hd
      have e17 : f_X6_drive (nI 0) v1 v2 v3 v4 S = f_X6_drive_17 (nI 0) v1 v2 v3 v4 1 S := by
        by_cases h : v4 = -2
        · have h1 : (v4 = -2) = True := eq_true h
          simp (maxDischargeDepth := 40) only [f_X6_drive, f_X6_drive_12, h1, if_true]
        · have h1 : (v4 = -2) = False := eq_false h
          have h2 : (v4 < 0) = False := eq_false (hk.resolve_left h)
          simp (maxDischargeDepth := 40) only [f_X6_drive, f_X6_drive_12, h1, h2, if_false]
      refine Agr_ref (v := -10) 0 (by decide) I (e17.trans (x_dr17 hL hr hv hb)) (fun S1 hL1 hm1 => ?_)
      cases c1 : dN k.h.f v1 with
      | false => simp (maxDischargeDepth := 40) only [f_X7_drive, f_X7_drive_36, hL1, gc_0, gc_1, gc_2, gc_3, gc_4, gc_5, Ly_put, kcf, kca, y_hasS _ hL1 hm1.2.1 hf, c1, y_bad hL1, mCp_e, mC_e, mCv_e, mZ_0, mZ_1, mZ_ifb, if_true, if_false, n10, eq_self, reduceCtorEq, Bool.false_eq_true, Nat.add_zero, Nat.reduceAdd]
      | true =>
        cases c2 : dN k.h.w v2 with
        | false => simp (maxDischargeDepth := 40) only [f_X7_drive, f_X7_drive_36, hL1, gc_0, gc_1, gc_2, gc_3, gc_4, gc_5, Ly_put, kcf, kca, y_hasS _ hL1 hm1.2.1 hf, y_hasW _ hL1 hm1.2.1 w7, c1, c2, y_bad hL1, mCp_e, mC_e, mCv_e, mZ_0, mZ_1, mZ_ifb, if_true, if_false, n10, eq_self, reduceCtorEq, Bool.false_eq_true, Nat.add_zero, Nat.reduceAdd]
        | true =>
          cases c3 : dN 25 v3 with
          | false => simp (maxDischargeDepth := 40) only [f_X7_drive, f_X7_drive_36, hL1, gc_0, gc_1, gc_2, gc_3, gc_4, gc_5, Ly_put, kcf, kca, y_hasS _ hL1 hm1.2.1 hf, y_hasW _ hL1 hm1.2.1 w7, y_cell, c1, c2, c3, y_bad hL1, mCp_e, mC_e, mCv_e, mZ_0, mZ_1, mZ_ifb, if_true, if_false, n10, eq_self, reduceCtorEq, Bool.false_eq_true, Nat.add_zero, Nat.reduceAdd]
          | true => exact absurd ⟨c1, c2, c3⟩ hd
  · have h1 : (v4 = -2) = False := eq_false (fun h => hk (Or.inl h))
    have h2 : v4 < 0 := Classical.not_not.mp (fun h => hk (Or.inr h))
    have h2' : (v4 < 0) = True := eq_true h2
    have hb : (dN k.h.f v1 && (dN k.h.w v2 && (dN 25 v3 && decide (¬ (0 : Int32) = 0)))) = false := by
      rw [show decide (¬ (0 : Int32) = 0) = false from by decide, Bool.and_false, Bool.and_false, Bool.and_false]
    refine Agr_ref (v := -10) 0 (by decide) I (by
      have e17 : f_X6_drive (nI 0) v1 v2 v3 v4 S = f_X6_drive_17 (nI 0) v1 v2 v3 v4 0 S := by simp (maxDischargeDepth := 40) only [f_X6_drive, h1, h2', if_true, if_false]
      exact e17.trans (x_dr17 hL hr hv hb)) (fun S1 hL1 hm1 => ?_)
    have h3 : v4 = -1 ∨ ((v4 = -1) = False ∧ ((-2 : Int32) ≤ v4) = False) := by
      by_cases e : v4 = -1
      · exact Or.inl e
      · refine Or.inr ⟨eq_false e, eq_false (fun z => ?_)⟩
        rw [Int32.le_iff_toInt_le] at z
        rw [Int32.lt_iff_toInt_lt] at h2
        have z1 : (-2 : Int) ≤ v4.toInt := z
        have z2 : v4.toInt < 0 := h2
        rcases (show v4.toInt = -1 ∨ v4.toInt = -2 by omega) with y | y
        · exact e (Int32.toInt_inj.mp (y.trans rfl))
        · exact hk (Or.inl (Int32.toInt_inj.mp (y.trans rfl)))
    cases c1 : dN k.h.f v1 with
    | false => simp (maxDischargeDepth := 40) only [f_X7_drive, f_X7_drive_36, hL1, gc_0, gc_1, gc_2, gc_3, gc_4, gc_5, Ly_put, kcf, kca, y_hasS _ hL1 hm1.2.1 hf, c1, y_bad hL1, mCp_e, mC_e, mCv_e, mZ_0, mZ_1, mZ_ifb, if_true, if_false, n10, eq_self, reduceCtorEq, Bool.false_eq_true, Nat.add_zero, Nat.reduceAdd]
    | true =>
      cases c2 : dN k.h.w v2 with
      | false => simp (maxDischargeDepth := 40) only [f_X7_drive, f_X7_drive_36, hL1, gc_0, gc_1, gc_2, gc_3, gc_4, gc_5, Ly_put, kcf, kca, y_hasS _ hL1 hm1.2.1 hf, y_hasW _ hL1 hm1.2.1 w7, c1, c2, y_bad hL1, mCp_e, mC_e, mCv_e, mZ_0, mZ_1, mZ_ifb, if_true, if_false, n10, eq_self, reduceCtorEq, Bool.false_eq_true, Nat.add_zero, Nat.reduceAdd]
      | true =>
        cases c3 : dN 25 v3 with
        | false => simp (maxDischargeDepth := 40) only [f_X7_drive, f_X7_drive_36, hL1, gc_0, gc_1, gc_2, gc_3, gc_4, gc_5, Ly_put, kcf, kca, y_hasS _ hL1 hm1.2.1 hf, y_hasW _ hL1 hm1.2.1 w7, y_cell, c1, c2, c3, y_bad hL1, mCp_e, mC_e, mCv_e, mZ_0, mZ_1, mZ_ifb, if_true, if_false, n10, eq_self, reduceCtorEq, Bool.false_eq_true, Nat.add_zero, Nat.reduceAdd]
        | true =>
          rcases h3 with h | ⟨h4, h5⟩
          · have h4 : (v4 = -1) = True := eq_true h
            simp (maxDischargeDepth := 40) only [f_X7_drive, f_X7_drive_36, hL1, gc_0, gc_1, gc_2, gc_3, gc_4, gc_5, Ly_put, kcf, kca, y_hasS _ hL1 hm1.2.1 hf, y_hasW _ hL1 hm1.2.1 w7, y_cell, c1, c2, c3, h4, y_bad hL1, mCp_e, mC_e, mCv_e, mZ_0, mZ_1, mZ_ifb, if_true, if_false, n10, eq_self, reduceCtorEq, Bool.false_eq_true, Nat.add_zero, Nat.reduceAdd]
          · simp (maxDischargeDepth := 40) only [f_X7_drive, f_X7_drive_36, hL1, gc_0, gc_1, gc_2, gc_3, gc_4, gc_5, Ly_put, kcf, kca, y_hasS _ hL1 hm1.2.1 hf, y_hasW _ hL1 hm1.2.1 w7, y_cell, c1, c2, c3, h4, h5, y_bad hL1, mCp_e, mC_e, mCv_e, mZ_0, mZ_1, mZ_ifb, if_true, if_false, n10, eq_self, reduceCtorEq, Bool.false_eq_true, Nat.add_zero, Nat.reduceAdd]
