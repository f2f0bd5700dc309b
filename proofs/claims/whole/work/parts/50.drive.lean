/-! drive, the reference's side: the whole call -/
theorem fD_cg {p q : Nat → Bool} (h : ∀ d, d < 5 → p d = q d) : fD p = fD q := by
  unfold fD
  rw [h 0 (by decide), h 1 (by decide), h 2 (by decide), h 3 (by decide)]
/-- what drive answers, v being its k -/
def dr_Z (kw ks t c W F : Nat) (v r : Int32) : Prop := ((∀ g, g ≤ 10 → dr_A kw ks t c g 0 W F = false) ∧ r = -6) ∨ ∃ L, L ≤ 10 ∧ dr_A kw ks t c L 0 W F = true ∧ (∀ g, g < L → dr_A kw ks t c g 0 W F = false) ∧ ((v = -2 ∧ r = nI L) ∨ ∃ n, n < 2147483648 ∧ v = nI n ∧ ((n < L ∧ r = nI (dr_D kw ks t c L n (dr_P kw ks t c L W F n).1 (dr_P kw ks t c L W F n).2)) ∨ (L ≤ n ∧ r = -5)))
theorem dr_Zu {kw ks t c W F : Nat} {v r r' : Int32} (h : dr_Z kw ks t c W F v r) (h' : dr_Z kw ks t c W F v r') : r = r' := by
  rcases h with ⟨h1, rfl⟩ | ⟨L, l1, l2, l3, l4⟩
  · rcases h' with ⟨-, rfl⟩ | ⟨L', m1, m2, -, -⟩
    · rfl
    · rw [h1 L' m1] at m2
      cases m2
  · rcases h' with ⟨h1, -⟩ | ⟨L', m1, m2, m3, m4⟩
    · rw [h1 L l1] at l2
      cases l2
    · obtain rfl : L = L' := by
        rcases Nat.lt_trichotomy L L' with c | c | c
        · rw [m3 L c] at l2
          cases l2
        · exact c
        · rw [l3 L' c] at m2
          cases m2
      have e2 : ∀ n, n < 2147483648 → (-2 : Int32) = nI n → False := fun n hn e => by
        have z := nI_pos hn
        rw [← e] at z
        exact z (by decide)
      rcases l4 with ⟨rfl, rfl⟩ | ⟨n, n1, rfl, n3⟩
      · rcases m4 with ⟨-, rfl⟩ | ⟨n', a1, a2, -⟩
        · rfl
        · exact (e2 n' a1 a2).elim
      · rcases m4 with ⟨a2, -⟩ | ⟨n', a1, a2, a3⟩
        · exact (e2 n n1 a2.symm).elim
        · obtain rfl : n = n' := (nI_eq n1 a1).mp a2
          rcases n3 with ⟨x1, rfl⟩ | ⟨x1, rfl⟩
          · rcases a3 with ⟨-, rfl⟩ | ⟨y1, -⟩
            · rfl
            · omega
          · rcases a3 with ⟨y1, -⟩ | ⟨-, rfl⟩
            · omega
            · rfl
/-- the last call of the row so far; v, where there is none -/
def dr_V (kw ks t c L W F : Nat) (v : Int32) : Nat → Int32
  | 0 => v
  | m + 1 => nI (dr_D kw ks t c L m (dr_P kw ks t c L W F m).1 (dr_P kw ks t c L W F m).2)
theorem y_183 {S : mS} {h : HS} {i s m w f : Nat} {X : Int32} {k : Int32 → Int32 → Int32 → Int32 → Int32 → Int32 → Int32 → Int32 → mS → Option (Int32 × mS)} (hL : Ly S) (hr : RM S h) (hv : VH h) (ht : h.t ≤ 9999) (hs : s < h.f) (hi : i < h.w) (hm : m < 10) (hw : w < 25) (hf : f < 25) (ha : anyB (dr_G S (h.wk i) (h.sk s) h.t m w f) 5 = true) : f_X7_drive_183 k 1000 (nI 83) (nI s) (nI i) X (nI w) (nI f) 0 (nI m) S = k (nI 83) (nI s) (nI i) X (nI w) (nI f) (nI (fD (dr_G S (h.wk i) (h.sk s) h.t m w f))) (nI m) S := by
  refine lupX (fun n j (_ : Unit) => f_X7_drive_183 k n (nI 83) (nI s) (nI i) X (nI w) (nI f) (nI j) (nI m) S) (fun j _ => ∀ e, e < j → dr_G S (h.wk i) (h.sk s) h.t m w f e = false) (fun β => β = k (nI 83) (nI s) (nI i) X (nI w) (nI f) (nI (fD (dr_G S (h.wk i) (h.sk s) h.t m w f))) (nI m) S) 5 ?_ ?_ 1000 () (fun e he => absurd he (Nat.not_lt_zero e)) (by decide)
  · intro n j _ hj q
    cases hg : dr_G S (h.wk i) (h.sk s) h.t m w f j with
    | true =>
      left
      show f_X7_drive_183 k (n + 1) _ _ _ _ _ _ _ _ S = _
      rw [f_X7_drive_183_s, fD_eq hj hg q]
      simp (maxDischargeDepth := 40) only [hL, gc_0, gc_1, gc_2, gc_3, gc_4, gc_5, Ly_put, kcf, kca, y_isG hL hr hv ht hs hi hm hw hf hj, hg, mCp_e, mC_e, mCv_e, mZ_0, mZ_1, mZ_ifb, if_true, if_false, n10, eq_self, reduceCtorEq, Bool.false_eq_true, Nat.add_zero, Nat.reduceAdd]
    | false =>
      right
      refine ⟨(), fun e he => ?_, ?_⟩
      · by_cases g : e = j
        · rw [g]; exact hg
        · exact q e (by omega)
      · show f_X7_drive_183 k (n + 1) _ _ _ _ _ _ _ _ S = _
        rw [f_X7_drive_183_s]
        simp (maxDischargeDepth := 40) only [hL, gc_0, gc_1, gc_2, gc_3, gc_4, gc_5, Ly_put, kcf, kca, y_isG hL hr hv ht hs hi hm hw hf hj, hg, nI_1, mCp_e, mC_e, mCv_e, mZ_0, mZ_1, mZ_ifb, if_true, if_false, n10, eq_self, reduceCtorEq, Bool.false_eq_true, Nat.add_zero, Nat.reduceAdd]
  · intro n _ q
    obtain ⟨j, hj, e⟩ := (anyB_iff _ _).mp ha
    rw [q j hj] at e
    cases e
theorem y_173 {S : mS} {h : HS} {i s c L n : Nat} (hL : Ly S) (hr : RM S h) (hv : VH h) (ht : h.t ≤ 9999) (hs : s < h.f) (hi : i < h.w) (hl : L ≤ 10) (hn : n < L) (hA : dr_A (h.wk i) (h.sk s) h.t c L 0 (h.wc i) (h.sc s) = true) (hR : ∀ m, m ≤ L → dr_R S (h.wk i) (h.sk s) h.t c (L - m) m) : f_X7_drive_173 f_X7_drive_241 1000 (nI 83) (nI s) (nI i) (nI n) (nI (h.wc i)) (nI (h.sc s)) 0 0 S = some (nI (dr_D (h.wk i) (h.sk s) h.t c L n (dr_P (h.wk i) (h.sk s) h.t c L (h.wc i) (h.sc s) n).1 (dr_P (h.wk i) (h.sk s) h.t c L (h.wc i) (h.sc s) n).2), S) := by
  have hk := (hv.2.2.2.2 s hs).1
  have hW := (hv.2.2.2.1 i hi).2
  have hF := (hv.2.2.2.2 s hs).2
  obtain ⟨q, e⟩ := lup (fun u j => f_X7_drive_173 f_X7_drive_241 u (nI 83) (nI s) (nI i) (nI n) (nI (dr_P (h.wk i) (h.sk s) h.t c L (h.wc i) (h.sc s) j).1) (nI (dr_P (h.wk i) (h.sk s) h.t c L (h.wc i) (h.sc s) j).2) (dr_V (h.wk i) (h.sk s) h.t c L (h.wc i) (h.sc s) 0 j) (nI j) S) (n + 1) (fun u j hj => by
    obtain ⟨p1, p2, p3, p4⟩ := dr_Pok hk hW hF hA j (by omega)
    have lt : (nI n < nI j) = False := by rw [lt_i (by omega) (by omega)]; exact eq_false (by omega)
    have hg : ∀ d, d < 5 → dr_G S (h.wk i) (h.sk s) h.t j (dr_P (h.wk i) (h.sk s) h.t c L (h.wc i) (h.sc s) j).1 (dr_P (h.wk i) (h.sk s) h.t c L (h.wc i) (h.sc s) j).2 d = dr_A (h.wk i) (h.sk s) h.t c (L - (j + 1)) (j + 1) (dr_W (h.wk i) h.t j (dr_P (h.wk i) (h.sk s) h.t c L (h.wc i) (h.sc s) j).1 d) (pGv (h.sk s) (dr_P (h.wk i) (h.sk s) h.t c L (h.wc i) (h.sc s) j).2 (dr_W (h.wk i) h.t j (dr_P (h.wk i) (h.sk s) h.t c L (h.wc i) (h.sc s) j).1 d)) := fun d hd => dr_GA hk (hR (j + 1) (by omega)) p1 p2 hd
    have ha : anyB (dr_G S (h.wk i) (h.sk s) h.t j (dr_P (h.wk i) (h.sk s) h.t c L (h.wc i) (h.sc s) j).1 (dr_P (h.wk i) (h.sk s) h.t c L (h.wc i) (h.sc s) j).2) 5 = true := by
      rw [anyB_eq hg]
      rw [show L - j = (L - (j + 1)) + 1 by omega] at p3
      exact p3
    have hd5 : dr_D (h.wk i) (h.sk s) h.t c L j (dr_P (h.wk i) (h.sk s) h.t c L (h.wc i) (h.sc s) j).1 (dr_P (h.wk i) (h.sk s) h.t c L (h.wc i) (h.sc s) j).2 < 5 := fD_lt _
    have hfd : fD (dr_G S (h.wk i) (h.sk s) h.t j (dr_P (h.wk i) (h.sk s) h.t c L (h.wc i) (h.sc s) j).1 (dr_P (h.wk i) (h.sk s) h.t c L (h.wc i) (h.sc s) j).2) = dr_D (h.wk i) (h.sk s) h.t c L j (dr_P (h.wk i) (h.sk s) h.t c L (h.wc i) (h.sc s) j).1 (dr_P (h.wk i) (h.sk s) h.t c L (h.wc i) (h.sc s) j).2 := fD_cg hg
    have ww := dr_W_lt (kw := h.wk i) (t := h.t) (m := j) p1 hd5
    have e1 := y_wTh hL hr hv hi p1 hd5 (show h.t + j ≤ 20000 by omega)
    have e2 := y_sTh hL hr hv hs p2 ww
    show f_X7_drive_173 f_X7_drive_241 (u + 1) _ _ _ _ _ _ _ _ S = f_X7_drive_173 f_X7_drive_241 u _ _ _ _ (nI (dr_W (h.wk i) h.t j (dr_P (h.wk i) (h.sk s) h.t c L (h.wc i) (h.sc s) j).1 _)) (nI (pGv (h.sk s) (dr_P (h.wk i) (h.sk s) h.t c L (h.wc i) (h.sc s) j).2 _)) (nI _) (nI (j + 1)) S
    rw [f_X7_drive_173_s]
    simp (maxDischargeDepth := 40) only [lt, if_false]
    rw [y_183 hL hr hv ht hs hi (by omega) p1 p2 ha, hfd]
    generalize dr_D (h.wk i) (h.sk s) h.t c L j (dr_P (h.wk i) (h.sk s) h.t c L (h.wc i) (h.sc s) j).1 (dr_P (h.wk i) (h.sk s) h.t c L (h.wc i) (h.sc s) j).2 = D at *
    generalize (dr_P (h.wk i) (h.sk s) h.t c L (h.wc i) (h.sc s) j).1 = w at *
    generalize (dr_P (h.wk i) (h.sk s) h.t c L (h.wc i) (h.sc s) j).2 = f at *
    rw [show pMv w D (pR (h.wk i) (h.t + j)) = dr_W (h.wk i) h.t j w D from rfl] at e1
    simp (maxDischargeDepth := 40) only [f_X7_drive_206, hL, gc_0, gc_1, gc_2, gc_3, gc_4, gc_5, Ly_put, kcf, kca, hr.2.2.1, nI_add, e1, e2, nI_1, mCp_e, mC_e, mCv_e, mZ_0, mZ_1, mZ_ifb, if_true, if_false, n10, eq_self, reduceCtorEq, Bool.false_eq_true, Nat.add_zero, Nat.reduceAdd]) 1000 (by omega)
  refine Eq.trans e ?_
  have lt : (nI n < nI (n + 1)) = True := by rw [lt_i (by omega) (by omega)]; exact eq_true (by omega)
  show f_X7_drive_173 f_X7_drive_241 (q + 1) _ _ _ _ _ _ _ _ S = _
  rw [f_X7_drive_173_s]
  simp (maxDischargeDepth := 40) only [lt, if_true, f_X7_drive_241]
  rfl
theorem y_55 {S : mS} {h : HS} {i s c : Nat} {v : Int32} {k : Int32 → Int32 → Int32 → Int32 → Int32 → mS → Option (Int32 × mS)} (hL : Ly S) (hr : RM S h) (hv : VH h) (ht : h.t ≤ 9999) (hs : s < h.f) (hi : i < h.w) (hc : c < 25) (hR : dr_R S (h.wk i) (h.sk s) h.t c 0 0) : ∃ a S1, f_X7_drive_55 k 1000 (nI 83) (nI s) (nI i) (nI c) v 0 S = k (nI 83) (nI s) (nI i) v (nI a) S1 ∧ Ly S1 ∧ Fr 96 97 S S1 ∧ a ≤ 10 ∧ (∀ m, m ≤ a → dr_R S1 (h.wk i) (h.sk s) h.t c (a - m) m) ∧ (∀ g, g < a → dr_A (h.wk i) (h.sk s) h.t c g 0 (h.wc i) (h.sc s) = false) ∧ (dr_A (h.wk i) (h.sk s) h.t c a 0 (h.wc i) (h.sc s) = false → a = 10) := by
  have hW := (hv.2.2.2.1 i hi).2
  have hF := (hv.2.2.2.2 s hs).2
  have s7 : s < 7 := by have := hv.2.1; omega
  have i3 : i < 3 := by have := hv.1; omega
  have hx : ∀ (T : mS) a, (∀ m, m ≤ a → dr_R T (h.wk i) (h.sk s) h.t c (a - m) m) → tb (T.2.1 96 (h.wc i)) (h.sc s) = dr_A (h.wk i) (h.sk s) h.t c a 0 (h.wc i) (h.sc s) := fun T a g => by
    have := g 0 (Nat.zero_le a) _ hW _ hF
    rw [Nat.mul_zero, Nat.zero_add, Nat.sub_zero] at this
    exact this
  refine lupX (fun n j (T : mS) => f_X7_drive_55 k n (nI 83) (nI s) (nI i) (nI c) v (nI j) T) (fun j T => Ly T ∧ Fr 96 97 S T ∧ (∀ m, m ≤ j → dr_R T (h.wk i) (h.sk s) h.t c (j - m) m) ∧ ∀ g, g < j → dr_A (h.wk i) (h.sk s) h.t c g 0 (h.wc i) (h.sc s) = false) (fun β => ∃ a S1, β = k (nI 83) (nI s) (nI i) v (nI a) S1 ∧ Ly S1 ∧ Fr 96 97 S S1 ∧ a ≤ 10 ∧ (∀ m, m ≤ a → dr_R S1 (h.wk i) (h.sk s) h.t c (a - m) m) ∧ (∀ g, g < a → dr_A (h.wk i) (h.sk s) h.t c g 0 (h.wc i) (h.sc s) = false) ∧ (dr_A (h.wk i) (h.sk s) h.t c a 0 (h.wc i) (h.sc s) = false → a = 10)) 10 ?_ ?_ 1000 S ⟨hL, Fr_rf, fun m hm => by rw [show m = 0 by omega]; exact hR, fun g hg => absurd hg (Nat.not_lt_zero g)⟩ (by decide)
  · rintro n j T hj ⟨q1, q2, q3, q4⟩
    have le : ((10 : Int32) ≤ nI j) = False := eq_false (nI_ge hj (by decide))
    have hrT : RM T h := RM_sa (q2.sa (by omega)) hr
    have hb := (x_hasB (v := T.2.1 96 (h.wc i)) (j := h.sc s) (by omega)).2
    rw [hx T j q3] at hb
    have b : h.wc i < 275 := by omega
    cases ha : dr_A (h.wk i) (h.sk s) h.t c j 0 (h.wc i) (h.sc s) with
    | true =>
      left
      rw [ha] at hb
      refine ⟨j, T, ?_, q1, q2, by omega, q3, q4, fun z => by rw [ha] at z; cases z⟩
      show f_X7_drive_55 k (n + 1) _ _ _ _ _ _ T = _
      rw [f_X7_drive_55_s]
      simp (maxDischargeDepth := 40) only [le, q1, gc_0, gc_1, gc_2, gc_3, gc_4, gc_5, Ly_put, kcf, kca, i3, s7, (hrT.2.2.2.1 i hi).2, (hrT.2.2.2.2 s hs).2, b, hb, mCp_e, mC_e, mCv_e, mZ_0, mZ_1, mZ_ifb, if_true, if_false, n10, eq_self, reduceCtorEq, Bool.false_eq_true, Nat.add_zero, Nat.reduceAdd]
    | false =>
      right
      rw [ha] at hb
      obtain ⟨U, u1, u2, u3, u4⟩ := y_setG (a := j + 1) (c := c) q1 hrT hv ht hs hi hc (by omega)
      refine ⟨U, ⟨u2, Fr_tr q2 u3, u4, fun g hg => ?_⟩, ?_⟩
      · by_cases e : g = j
        · rw [e]; exact ha
        · exact q4 g (by omega)
      · show f_X7_drive_55 k (n + 1) _ _ _ _ _ _ T = _
        rw [f_X7_drive_55_s]
        simp (maxDischargeDepth := 40) only [le, q1, gc_0, gc_1, gc_2, gc_3, gc_4, gc_5, Ly_put, kcf, kca, i3, s7, (hrT.2.2.2.1 i hi).2, (hrT.2.2.2.2 s hs).2, b, hb, nI_1, u1, mCp_e, mC_e, mCv_e, mZ_0, mZ_1, mZ_ifb, if_true, if_false, n10, eq_self, reduceCtorEq, Bool.false_eq_true, Nat.add_zero, Nat.reduceAdd]
  · rintro n T ⟨q1, q2, q3, q4⟩
    have le : ((10 : Int32) ≤ nI 10) = True := eq_true (ng_i (a := 10))
    refine ⟨10, T, ?_, q1, q2, Nat.le_refl _, q3, q4, fun _ => rfl⟩
    show f_X7_drive_55 k (n + 1) _ _ _ _ _ _ T = _
    rw [f_X7_drive_55_s]
    simp (maxDischargeDepth := 40) only [le, if_true]
theorem y_100 {S : mS} {h : HS} {i s c a : Nat} {v : Int32} (hL : Ly S) (hr : RM S h) (hv : VH h) (ht : h.t ≤ 9999) (hs : s < h.f) (hi : i < h.w) (hvv : v = -2 ∨ ∃ n, n < 2147483648 ∧ v = nI n) (ha : a ≤ 10) (hR : ∀ m, m ≤ a → dr_R S (h.wk i) (h.sk s) h.t c (a - m) m) (h1 : ∀ g, g < a → dr_A (h.wk i) (h.sk s) h.t c g 0 (h.wc i) (h.sc s) = false) (h2 : dr_A (h.wk i) (h.sk s) h.t c a 0 (h.wc i) (h.sc s) = false → a = 10) : ∃ r, f_X7_drive_100 (nI 83) (nI s) (nI i) v (nI a) S = some (r, S) ∧ dr_Z (h.wk i) (h.sk s) h.t c (h.wc i) (h.sc s) v r := by
  have hW := (hv.2.2.2.1 i hi).2
  have hF := (hv.2.2.2.2 s hs).2
  have s7 : s < 7 := by have := hv.2.1; omega
  have i3 : i < 3 := by have := hv.1; omega
  have hx := hR 0 (Nat.zero_le a) _ hW _ hF
  rw [Nat.mul_zero, Nat.zero_add, Nat.sub_zero] at hx
  have hb := (x_hasB (v := S.2.1 96 (h.wc i)) (j := h.sc s) (by omega)).2
  rw [hx] at hb
  have b : h.wc i < 275 := by omega
  cases hA : dr_A (h.wk i) (h.sk s) h.t c a 0 (h.wc i) (h.sc s) with
  | false =>
    rw [hA] at hb
    obtain rfl := h2 hA
    refine ⟨-6, by simp (maxDischargeDepth := 40) only [f_X7_drive_100, hL, gc_0, gc_1, gc_2, gc_3, gc_4, gc_5, Ly_put, kcf, kca, i3, s7, (hr.2.2.2.1 i hi).2, (hr.2.2.2.2 s hs).2, b, hb, mCp_e, mC_e, mCv_e, mZ_0, mZ_1, mZ_ifb, if_true, if_false, n10, eq_self, reduceCtorEq, Bool.false_eq_true, Nat.add_zero, Nat.reduceAdd], Or.inl ⟨fun g hg => ?_, rfl⟩⟩
    by_cases e : g = 10
    · rw [e]; exact hA
    · exact h1 g (by omega)
  | true =>
    rw [hA] at hb
    rcases hvv with rfl | ⟨n, hn, rfl⟩
    · refine ⟨nI a, ?_, Or.inr ⟨a, ha, hA, h1, Or.inl ⟨rfl, rfl⟩⟩⟩
      have l1 : ((-2 : Int32) < 0) = True := eq_true (by decide)
      have l2 : ((0 : Int32) ≤ -2) = False := eq_false (by decide)
      simp (maxDischargeDepth := 40) only [f_X7_drive_100, hL, gc_0, gc_1, gc_2, gc_3, gc_4, gc_5, Ly_put, kcf, kca, i3, s7, (hr.2.2.2.1 i hi).2, (hr.2.2.2.2 s hs).2, b, hb, l1, l2, f_X7_drive_138, f_X7_drive_150, mCp_e, mC_e, mCv_e, mZ_0, mZ_1, mZ_ifb, if_true, if_false, n10, eq_self, reduceCtorEq, Bool.false_eq_true, Nat.add_zero, Nat.reduceAdd]
    · have l1 := nI_n0 hn
      have l2 : ((0 : Int32) ≤ nI n) = True := eq_true (by show nI 0 ≤ nI n; rw [le_i (by decide) hn]; omega)
      by_cases hl : n < a
      · refine ⟨_, ?_, Or.inr ⟨a, ha, hA, h1, Or.inr ⟨n, hn, rfl, Or.inl ⟨hl, rfl⟩⟩⟩⟩
        have l3 : (nI n < nI a) = True := by rw [lt_i hn (by omega)]; exact eq_true hl
        simp (maxDischargeDepth := 40) only [f_X7_drive_100, hL, gc_0, gc_1, gc_2, gc_3, gc_4, gc_5, Ly_put, kcf, kca, i3, s7, (hr.2.2.2.1 i hi).2, (hr.2.2.2.2 s hs).2, b, hb, l1, l3, mCp_e, mC_e, mCv_e, mZ_0, mZ_1, mZ_ifb, if_true, if_false, n10, eq_self, reduceCtorEq, Bool.false_eq_true, Nat.add_zero, Nat.reduceAdd]
        exact y_173 hL hr hv ht hs hi ha hl hA hR
      · refine ⟨-5, ?_, Or.inr ⟨a, ha, hA, h1, Or.inr ⟨n, hn, rfl, Or.inr ⟨by omega, rfl⟩⟩⟩⟩
        have l3 : (nI n < nI a) = False := by rw [lt_i hn (by omega)]; exact eq_false hl
        simp (maxDischargeDepth := 40) only [f_X7_drive_100, hL, gc_0, gc_1, gc_2, gc_3, gc_4, gc_5, Ly_put, kcf, kca, i3, s7, (hr.2.2.2.1 i hi).2, (hr.2.2.2.2 s hs).2, b, hb, l1, l2, l3, f_X7_drive_138, f_X7_drive_150, mCp_e, mC_e, mCv_e, mZ_0, mZ_1, mZ_ifb, if_true, if_false, n10, eq_self, reduceCtorEq, Bool.false_eq_true, Nat.add_zero, Nat.reduceAdd]
theorem y_drive {S : mS} {h : HS} {i s c : Nat} {v : Int32} (hL : Ly S) (hr : RM S h) (hv : VH h) (ht : h.t ≤ 9999) (hs : s < h.f) (hi : i < h.w) (hc : c < 25) (hvv : v = -2 ∨ ∃ n, n < 2147483648 ∧ v = nI n) : ∃ r S1, f_X7_drive (nI 83) (nI s) (nI i) (nI c) v S = some (r, S1) ∧ dr_Z (h.wk i) (h.sk s) h.t c (h.wc i) (h.sc s) v r ∧ Ly S1 ∧ Fr 96 97 S S1 := by
  have w7 : h.w ≤ 7 := by have := hv.1; omega
  obtain ⟨A, a1, a2, a3, a4⟩ := y_setG (a := 0) (c := c) hL hr hv ht hs hi hc (by decide)
  obtain ⟨a, B, b1, b2, b3, b4, b5, b6, b7⟩ := y_55 (v := v) (k := f_X7_drive_100) a2 (RM_sa (a3.sa (by omega)) hr) hv ht hs hi hc (a4 0 (Nat.le_refl 0))
  obtain ⟨r, r1, r2⟩ := y_100 (a := a) (v := v) b2 (RM_sa ((Fr_tr a3 b3).sa (by omega)) hr) hv ht hs hi hvv b4 b5 b6 b7
  refine ⟨r, B, ?_, r2, b2, Fr_tr a3 b3⟩
  have d1 : dN h.f (nI s) = true := dN_nI hs (by have := hv.2.1; omega)
  have d2 : dN h.w (nI i) = true := dN_nI hi (by omega)
  have d3 : dN 25 (nI c) = true := dN_nI hc (by decide)
  have v1 : (v = -1) = False := by
    rcases hvv with rfl | ⟨n, hn, rfl⟩
    · exact eq_false (by decide)
    · exact nI_nm1 hn
  have v2 : ((-2 : Int32) ≤ v) = True := by
    rcases hvv with rfl | ⟨n, hn, rfl⟩
    · exact eq_true (by decide)
    · refine eq_true ?_
      rw [Int32.le_iff_toInt_le, nI_toInt hn]
      show (-2 : Int) ≤ _
      omega
  have a1z : f_X7_setGood (nI 83) (nI s) (nI i) (nI c) 0 S = some A := a1
  simp (maxDischargeDepth := 40) only [f_X7_drive, y_hasS _ hL hr hv.2.1, y_hasW _ hL hr w7, y_cell, d1, d2, d3, v1, v2, hL, gc_0, gc_1, gc_2, gc_3, gc_4, gc_5, Ly_put, kcf, kca, a1z, mCp_e, mC_e, mCv_e, mZ_0, mZ_1, mZ_ifb, if_true, if_false, n10, eq_self, reduceCtorEq, Bool.false_eq_true, Nat.add_zero, Nat.reduceAdd]
  exact b1.trans r1
