/-! WHAT HOLDS BETWEEN TWO CALLS: one abstract state, that the class's cells and the reference's cells both are -/
abbrev HS : Type := Nat × Nat × Nat × (Nat → Nat) × (Nat → Nat) × (Nat → Nat) × (Nat → Nat)
abbrev HS.w (h : HS) : Nat := h.1
abbrev HS.f (h : HS) : Nat := h.2.1
abbrev HS.t (h : HS) : Nat := h.2.2.1
abbrev HS.wk (h : HS) : Nat → Nat := h.2.2.2.1
abbrev HS.wc (h : HS) : Nat → Nat := h.2.2.2.2.1
abbrev HS.sk (h : HS) : Nat → Nat := h.2.2.2.2.2.1
abbrev HS.sc (h : HS) : Nat → Nat := h.2.2.2.2.2.2
abbrev RW : Type := Nat × (Nat → Nat → Nat)
abbrev KS : Type := HS × Nat × RW × RW × RW × RW
abbrev KS.h (k : KS) : HS := k.1
abbrev KS.fold (k : KS) : Nat := k.2.1
abbrev KS.seen (k : KS) : RW := k.2.2.1
abbrev KS.notes (k : KS) : RW := k.2.2.2.1
abbrev KS.marks (k : KS) : RW := k.2.2.2.2.1
abbrev KS.past (k : KS) : RW := k.2.2.2.2.2
def VH (h : HS) : Prop := h.w ≤ 3 ∧ h.f ≤ 7 ∧ h.t ≤ 20000 ∧ (∀ i, i < h.w → h.wk i < 6 ∧ h.wc i < 25) ∧ ∀ i, i < h.f → h.sk i < 6 ∧ h.sc i < 25
/-- rows of the past: the step, the whistles' cells, the sheep's -/
def VP (w f : Nat) (p : RW) : Prop := p.1 ≤ 8 ∧ ∀ k, k < p.1 → p.2 k 0 ≤ 9999 ∧ (∀ i, i < w → p.2 k (1 + i) < 25) ∧ ∀ i, i < f → p.2 k (4 + i) < 25
def VK (k : KS) : Prop := VH k.h ∧ k.h.t ≤ 9999 ∧ k.fold < 25 ∧ (k.seen.1 ≤ 5 ∧ ∀ r, r < k.seen.1 → k.seen.2 r 0 < k.h.f ∧ k.seen.2 r 1 < 25) ∧ (k.notes.1 ≤ 6 ∧ ∀ r, r < k.notes.1 → k.notes.2 r 0 < 3 ∧ k.notes.2 r 1 < 100 ∧ k.notes.2 r 2 < 21) ∧ (k.marks.1 ≤ 6 ∧ ∀ r, r < k.marks.1 → k.marks.2 r 0 < 7 ∧ k.marks.2 r 1 < 9 ∧ k.marks.2 r 2 < 10) ∧ VP k.h.w k.h.f k.past
/-- a Herd of the class at o -/
def RH (S : mS) (o : Nat) (h : HS) : Prop := S.2.1 o 4 = nI h.w ∧ S.2.1 o 5 = nI h.f ∧ S.2.1 o 6 = nI h.t ∧ (∀ i, i < h.w → S.2.1 (o + 1) i = nI (h.wk i) ∧ S.2.1 (o + 2) i = nI (h.wc i)) ∧ ∀ i, i < h.f → S.2.1 (o + 3) i = nI (h.sk i) ∧ S.2.1 (o + 4) i = nI (h.sc i)
/-- the same of the reference -/
def RM (S : mS) (h : HS) : Prop := S.2.1 83 1 = nI h.w ∧ S.2.1 83 2 = nI h.f ∧ S.2.1 83 4 = nI h.t ∧ (∀ i, i < h.w → S.2.1 85 i = nI (h.wk i) ∧ S.2.1 86 i = nI (h.wc i)) ∧ ∀ i, i < h.f → S.2.1 87 i = nI (h.sk i) ∧ S.2.1 88 i = nI (h.sc i)
/-- rows: their number at (q, j), the c-th of the r-th at (a, w r + c) -/
def RR (S : mS) (q j a b s w : Nat) (p : RW) : Prop := S.2.1 q j = nI p.1 ∧ ∀ r, r < p.1 → ∀ c, c < w → S.2.1 a (b + (s * r + c)) = nI (p.2 r c)
def RP (S : mS) (q j a b w f : Nat) (p : RW) : Prop := S.2.1 q j = nI p.1 ∧ ∀ k, k < p.1 → S.2.1 a (b + 11 * k) = nI (p.2 k 0) ∧ (∀ i, i < w → S.2.1 a (b + 11 * k + 1 + i) = nI (p.2 k (1 + i))) ∧ ∀ i, i < f → S.2.1 a (b + 11 * k + 4 + i) = nI (p.2 k (4 + i))
/-- a State of the class at o: cells o to o + 13 -/
def CK (S : mS) (o : Nat) (k : KS) : Prop := S.2.1 o 5 = nI k.fold ∧ RH S (o + 1) k.h ∧ RR S (o + 6) 3 (o + 7) 0 3 2 k.seen ∧ RR S (o + 8) 3 (o + 9) 0 3 3 k.notes ∧ RR S (o + 10) 3 (o + 11) 0 3 3 k.marks ∧ RP S (o + 12) 1 (o + 13) 0 k.h.w k.h.f k.past
/-- the reference's own: cells 83 to 94 -/
def MK (S : mS) (k : KS) : Prop := S.2.1 83 3 = nI k.fold ∧ RM S k.h ∧ RR S 83 5 89 0 2 2 k.seen ∧ RR S 83 6 90 0 3 3 k.notes ∧ RR S 83 7 91 0 3 3 k.marks ∧ RP S 83 21 94 0 k.h.w k.h.f k.past
/-- the reference's image, at place b of the cell a -/
def MI (S : mS) (a b : Nat) (k : KS) : Prop := S.2.1 a (b + 13) = nI k.fold ∧
  (S.2.1 a (b + 11) = nI k.h.w ∧ S.2.1 a (b + 12) = nI k.h.f ∧ S.2.1 a b = nI k.h.t ∧ (∀ i, i < k.h.w → S.2.1 a (b + 18 + i) = nI (k.h.wk i) ∧ S.2.1 a (b + 1 + i) = nI (k.h.wc i)) ∧ ∀ i, i < k.h.f → S.2.1 a (b + 21 + i) = nI (k.h.sk i) ∧ S.2.1 a (b + 4 + i) = nI (k.h.sc i)) ∧
  RR S a (b + 14) a (b + 28) 2 2 k.seen ∧ RR S a (b + 15) a (b + 38) 3 3 k.notes ∧ RR S a (b + 16) a (b + 56) 3 3 k.marks ∧ RP S a (b + 17) a (b + 74) k.h.w k.h.f k.past
def TX (S : mS) (n : Nat) (b : Nat → Nat) : Prop := n ≤ 150 ∧ (∀ j, j < n → b j < 128) ∧ S.2.1 59 1 = nI n ∧ S.2.1 83 16 = nI n ∧ ∀ j, j < n → S.2.1 60 j = nI (b j) ∧ S.2.1 92 j = nI (b j)
def FRc (S : mS) : Prop := S.2.2 83 25 = (S.2.1 0 12).toInt64 ∧ S.2.2 83 26 = (S.2.1 0 13).toInt64
def CT (S : mS) : Prop := S.2.1 0 14 = S.2.1 84 0 ∧ S.2.1 0 15 = S.2.1 84 1 ∧ S.2.1 0 16 = S.2.1 84 2
def IM (S : mS) (i : Nat) : Prop := (S.2.1 58 i = nI 0 ∧ S.2.1 99 i = nI 0) ∨ (S.2.1 58 i = nI 1 ∧ S.2.1 99 i = nI 1 ∧ ∃ k, VK k ∧ CK S (30 + 14 * i) k ∧ MI S 98 (170 * i) k)
def WY (S : mS) : Prop := S.2.1 61 3 = -1 ∨ ∃ k, k < 6 ∧ S.2.1 61 3 = nI k ∧ ∀ q, q < 625 → S.2.1 64 q = nI (pGv k (q % 25) (q / 25))
/-- all but the abstract state -/
def Rest (S : mS) : Prop := (∃ n b, TX S n b) ∧ FRc S ∧ CT S ∧ (IM S 0 ∧ IM S 1) ∧ WY S
def Inv (S : mS) : Prop := Ly S ∧ (∃ k, VK k ∧ CK S 1 k ∧ MK S k) ∧ Rest S
/-! what keeps them -/
def Sa (S S' : mS) (lo hi : Nat) : Prop := ∀ k, lo ≤ k → k < hi → S'.2.1 k = S.2.1 k
theorem Fr.sa {S S' : mS} {lo hi a b : Nat} (h : Fr lo hi S S') (hd : b ≤ lo ∨ hi ≤ a) : Sa S S' a b := fun k h1 h2 => h.2.1 k (by omega)
theorem RH_sa {S S' : mS} {o : Nat} {h : HS} (hs : Sa S S' o (o + 5)) (hr : RH S o h) : RH S' o h := by
  obtain ⟨h1, h2, h3, h4, h5⟩ := hr
  have e0 := hs o (by omega) (by omega)
  have e1 := hs (o + 1) (by omega) (by omega)
  have e2 := hs (o + 2) (by omega) (by omega)
  have e3 := hs (o + 3) (by omega) (by omega)
  have e4 := hs (o + 4) (by omega) (by omega)
  unfold RH
  rw [e0, e1, e2, e3, e4]
  exact ⟨h1, h2, h3, h4, h5⟩
theorem RR_sa {S S' : mS} {q j a b s w : Nat} {p : RW} (h1 : S'.2.1 q = S.2.1 q) (h2 : S'.2.1 a = S.2.1 a) (h : RR S q j a b s w p) : RR S' q j a b s w p := by
  unfold RR
  rw [h1, h2]
  exact h
theorem RP_sa {S S' : mS} {q j a b w f : Nat} {p : RW} (h1 : S'.2.1 q = S.2.1 q) (h2 : S'.2.1 a = S.2.1 a) (h : RP S q j a b w f p) : RP S' q j a b w f p := by
  unfold RP
  rw [h1, h2]
  exact h
theorem CK_sa {S S' : mS} {o : Nat} {k : KS} (hs : Sa S S' o (o + 14)) (h : CK S o k) : CK S' o k := by
  obtain ⟨h1, h2, h3, h4, h5, h6⟩ := h
  refine ⟨by rw [hs o (by omega) (by omega)]; exact h1, RH_sa (fun k a b => hs k (by omega) (by omega)) h2, RR_sa (hs _ (by omega) (by omega)) (hs _ (by omega) (by omega)) h3, RR_sa (hs _ (by omega) (by omega)) (hs _ (by omega) (by omega)) h4, RR_sa (hs _ (by omega) (by omega)) (hs _ (by omega) (by omega)) h5, RP_sa (hs _ (by omega) (by omega)) (hs _ (by omega) (by omega)) h6⟩
theorem RM_sa {S S' : mS} {h : HS} (hs : Sa S S' 83 89) (hr : RM S h) : RM S' h := by
  unfold RM
  rw [hs 83 (by omega) (by omega), hs 85 (by omega) (by omega), hs 86 (by omega) (by omega), hs 87 (by omega) (by omega), hs 88 (by omega) (by omega)]
  exact hr
theorem MK_sa {S S' : mS} {k : KS} (hs : Sa S S' 83 95) (h : MK S k) : MK S' k := by
  obtain ⟨h1, h2, h3, h4, h5, h6⟩ := h
  exact ⟨by rw [hs 83 (by omega) (by omega)]; exact h1, RM_sa (fun k a b => hs k a (by omega)) h2, RR_sa (hs _ (by omega) (by omega)) (hs _ (by omega) (by omega)) h3, RR_sa (hs _ (by omega) (by omega)) (hs _ (by omega) (by omega)) h4, RR_sa (hs _ (by omega) (by omega)) (hs _ (by omega) (by omega)) h5, RP_sa (hs _ (by omega) (by omega)) (hs _ (by omega) (by omega)) h6⟩
theorem MI_sa {S S' : mS} {a b : Nat} {k : KS} (hs : S'.2.1 a = S.2.1 a) (h : MI S a b k) : MI S' a b k := by
  unfold MI RR RP
  rw [hs]
  exact h
theorem TX_sa {S S' : mS} {n : Nat} {b : Nat → Nat} (h59 : S'.2.1 59 = S.2.1 59) (h60 : S'.2.1 60 = S.2.1 60) (h83 : S'.2.1 83 16 = S.2.1 83 16) (h92 : S'.2.1 92 = S.2.1 92) (h : TX S n b) : TX S' n b := by
  unfold TX
  rw [h59, h60, h83, h92]
  exact h
theorem IM_sa {S S' : mS} {i : Nat} (hi : i < 2) (hs : Sa S S' 30 59) (h98 : S'.2.1 98 = S.2.1 98) (h99 : S'.2.1 99 = S.2.1 99) (h : IM S i) : IM S' i := by
  unfold IM
  rw [hs 58 (by omega) (by omega), h99]
  rcases h with h | ⟨h1, h2, k, h3, h4, h5⟩
  · exact Or.inl h
  · exact Or.inr ⟨h1, h2, k, h3, CK_sa (fun k a b => hs k (by omega) (by omega)) h4, MI_sa h98 h5⟩
theorem WY_sa {S S' : mS} (h1 : S'.2.1 61 3 = S.2.1 61 3) (h2 : S'.2.1 64 = S.2.1 64) (h : WY S) : WY S' := by
  unfold WY
  rw [h1, h2]
  exact h
/-- the rest stays where what it speaks of stays -/
theorem Rest_sa {S S' : mS} (h0 : ∀ j, 12 ≤ j → j ≤ 16 → S'.2.1 0 j = S.2.1 0 j) (hI : Sa S S' 30 59) (h59 : S'.2.1 59 1 = S.2.1 59 1) (h60 : S'.2.1 60 = S.2.1 60) (h61 : S'.2.1 61 3 = S.2.1 61 3) (h64 : S'.2.1 64 = S.2.1 64) (h83 : S'.2.1 83 16 = S.2.1 83 16) (h84 : S'.2.1 84 = S.2.1 84) (h92 : S'.2.1 92 = S.2.1 92) (h98 : S'.2.1 98 = S.2.1 98) (h99 : S'.2.1 99 = S.2.1 99) (hl : ∀ j, j = 25 ∨ j = 26 → S'.2.2 83 j = S.2.2 83 j) (h : Rest S) : Rest S' := by
  obtain ⟨⟨n, b, t1, t2, t3, t4, t5⟩, ⟨f1, f2⟩, ⟨c1, c2, c3⟩, ⟨i0, i1⟩, w⟩ := h
  refine ⟨⟨n, b, t1, t2, by rw [h59]; exact t3, by rw [h83]; exact t4, fun j hj => by rw [h60, h92]; exact t5 j hj⟩, ⟨?_, ?_⟩, ⟨?_, ?_, ?_⟩, ⟨IM_sa (by omega) hI h98 h99 i0, IM_sa (by omega) hI h98 h99 i1⟩, WY_sa h61 h64 w⟩
  · rw [hl 25 (Or.inl rfl), h0 12 (by omega) (by omega)]; exact f1
  · rw [hl 26 (Or.inr rfl), h0 13 (by omega) (by omega)]; exact f2
  · rw [h0 14 (by omega) (by omega), h84]; exact c1
  · rw [h0 15 (by omega) (by omega), h84]; exact c2
  · rw [h0 16 (by omega) (by omega), h84]; exact c3
/-- a call of both sides -/
def Agr (e1 e2 : mS → Option (Int32 × mS)) (S : mS) : Prop := ∃ r S1 S2, e1 S = some (r, S1) ∧ S1.1 = 100 ∧ e2 S1 = some (r, S2) ∧ Inv S2
/-- of two that write nothing -/
def AgR (e1 e2 : mS → Option Int32) (S : mS) : Prop := ∃ r, e1 S = some r ∧ e2 S = some r
/-! refusals -/
theorem k0 : mKd 0 = 6 := rfl
theorem k83 : mKd 83 = 7 := rfl
theorem k84 : mKd 84 = 8 := rfl
theorem x_bad {S : mS} (h : Ly S) (v : Int32) : f_X6_refuseBad (nI 0) v S = some (v, mPut S 0 14 (S.2.1 0 14 + 1)) := by
  rw [f_X6_refuseBad, mG_e h.1 k0 (by decide), mP_e h.1 k0 (by decide)]
theorem x_no {S : mS} (h : Ly S) : f_X6_refuseNo (nI 0) S = some (-3, mPut S 0 15 (S.2.1 0 15 + 1)) := by
  rw [f_X6_refuseNo, mG_e h.1 k0 (by decide), mP_e h.1 k0 (by decide)]
theorem x_full {S : mS} (h : Ly S) : f_X6_refuseFull (nI 0) S = some (-4, mPut S 0 16 (S.2.1 0 16 + 1)) := by
  rw [f_X6_refuseFull, mG_e h.1 k0 (by decide), mP_e h.1 k0 (by decide)]
theorem y_ref {S : mS} (h : Ly S) : S.2.1 83 0 = nI 84 := Ly_at h 83 0 84 (by decide) (by decide) (by decide)
theorem y_bad {S : mS} (h : Ly S) : f_X7_bad (nI 83) S = some (-2, mPut S 84 0 (S.2.1 84 0 + 1)) := by
  rw [f_X7_bad, mGr_e h.1 k83 (by decide) (y_ref h) (by decide)]
  show mX 8 (nI 84) (nI 0) S _ = _
  rw [mX_e h.1 k84 (by decide) (by decide)]
  show mXs (nI 84) (nI 0) _ S _ = _
  rw [mXs_e h.1 k84 (by decide)]
theorem y_no {S : mS} (h : Ly S) : f_X7_no (nI 83) S = some (-3, mPut S 84 1 (S.2.1 84 1 + 1)) := by
  rw [f_X7_no, mGr_e h.1 k83 (by decide) (y_ref h) (by decide)]
  show mX 8 (nI 84) (nI 1) S _ = _
  rw [mX_e h.1 k84 (by decide) (by decide)]
  show mXs (nI 84) (nI 1) _ S _ = _
  rw [mXs_e h.1 k84 (by decide)]
theorem y_full {S : mS} (h : Ly S) : f_X7_full (nI 83) S = some (-4, mPut S 84 2 (S.2.1 84 2 + 1)) := by
  rw [f_X7_full, mGr_e h.1 k83 (by decide) (y_ref h) (by decide)]
  show mX 8 (nI 84) (nI 2) S _ = _
  rw [mX_e h.1 k84 (by decide) (by decide)]
  show mXs (nI 84) (nI 2) _ S _ = _
  rw [mXs_e h.1 k84 (by decide)]
/-- a refusal of both sides: the one of place z -/
theorem ref_inv {S : mS} {z : Nat} (hz : z < 3) (h : Inv S) : Inv (mPut (mPut S 0 (14 + z) (S.2.1 0 (14 + z) + 1)) 84 z ((mPut S 0 (14 + z) (S.2.1 0 (14 + z) + 1)).2.1 84 z + 1)) := by
  obtain ⟨hL, ⟨k, v, c, mk⟩, ⟨⟨n, b, t⟩, f, ct, im, wy⟩⟩ := h
  have hL1 : Ly (mPut S 0 (14 + z) (S.2.1 0 (14 + z) + 1)) := Ly_put hL (by rcases (show z = 0 ∨ z = 1 ∨ z = 2 by omega) with rfl | rfl | rfl <;> decide)
  generalize hv : S.2.1 0 (14 + z) + 1 = v1 at hL1 ⊢
  have hL2 := Ly_put (k := 84) (j := z) (v := (mPut S 0 (14 + z) v1).2.1 84 z + 1) hL1 (cst_arr (Or.inl rfl))
  have hr : ∀ q, q ≠ 0 → q ≠ 84 → (mPut (mPut S 0 (14 + z) v1) 84 z ((mPut S 0 (14 + z) v1).2.1 84 z + 1)).2.1 q = S.2.1 q := fun q a b => by rw [mPut_r _ _ _ _ _ b, mPut_r _ _ _ _ _ a]
  refine ⟨hL2, ⟨k, v, CK_sa (fun q a b => hr q (by omega) (by omega)) c, ?_⟩, ⟨n, b, TX_sa (hr 59 (by decide) (by decide)) (hr 60 (by decide) (by decide)) (by rw [hr 83 (by decide) (by decide)]) (hr 92 (by decide) (by decide)) t⟩, ?_, ?_, ⟨IM_sa (by omega) (fun q a b => hr q (by omega) (by omega)) (hr 98 (by decide) (by decide)) (hr 99 (by decide) (by decide)) im.1, IM_sa (by omega) (fun q a b => hr q (by omega) (by omega)) (hr 98 (by decide) (by decide)) (hr 99 (by decide) (by decide)) im.2⟩, WY_sa (by rw [hr 61 (by decide) (by decide)]) (hr 64 (by decide) (by decide)) wy⟩
  · obtain ⟨m1, ⟨m2, m3, m4, m5, m6⟩, m7, m8, m9, m10⟩ := mk
    refine ⟨by rw [hr 83 (by decide) (by decide)]; exact m1, ⟨by rw [hr 83 (by decide) (by decide)]; exact m2, by rw [hr 83 (by decide) (by decide)]; exact m3, by rw [hr 83 (by decide) (by decide)]; exact m4, fun i hi => by rw [hr 85 (by decide) (by decide), hr 86 (by decide) (by decide)]; exact m5 i hi, fun i hi => by rw [hr 87 (by decide) (by decide), hr 88 (by decide) (by decide)]; exact m6 i hi⟩, RR_sa (hr _ (by decide) (by decide)) (hr _ (by decide) (by decide)) m7, RR_sa (hr _ (by decide) (by decide)) (hr _ (by decide) (by decide)) m8, RR_sa (hr _ (by decide) (by decide)) (hr _ (by decide) (by decide)) m9, RP_sa (hr _ (by decide) (by decide)) (hr _ (by decide) (by decide)) m10⟩
  · obtain ⟨f1, f2⟩ := f
    constructor
    · rw [mPut_l, mPut_l, mPut_r _ _ _ _ _ (by decide), mPut_g, if_neg (by omega)]; exact f1
    · rw [mPut_l, mPut_l, mPut_r _ _ _ _ _ (by decide), mPut_g, if_neg (by omega)]; exact f2
  · obtain ⟨c1, c2, c3⟩ := ct
    subst hv
    rcases (show z = 0 ∨ z = 1 ∨ z = 2 by omega) with rfl | rfl | rfl <;> refine ⟨?_, ?_, ?_⟩ <;> simp [mPut_g, c1, c2, c3]
