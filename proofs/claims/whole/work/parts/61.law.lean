/-! THE LAW'S LOOP: each round is a call of both, that both answer alike -/
theorem mSc_e {ρ : Type} {xs : Nat → Int32} {L q : Nat} {K : Int32 → Option ρ} (h : q < L) (hL : L < 2147483648) : mSc xs L (nI q) K = K (xs q) := by
  rw [mSc, mIn_e h hL, if_pos rfl, nI_cl (by omega)]
theorem ex_tr {A B : Option Int32} {Q : mS → Option Int32} (h : A = B) (g : ∃ T, Inv T ∧ B = Q T) : ∃ T, Inv T ∧ A = Q T := by
  obtain ⟨T, a, b⟩ := g
  exact ⟨T, a, h.trans b⟩
theorem law_st {S : mS} {e1 e2 : mS → Option (Int32 × mS)} (hL : Ly S) (H : Agr e1 e2 S) (K : mS → Option Int32) : ∃ T, Inv T ∧ mRc 6 (nI 0) S (mC (e1 S) (fun r S1 => mRc 7 (nI 83) S1 (mC (e2 S1) (fun r2 S2 => if r = r2 then K S2 else some 0)))) = K T := by
  obtain ⟨r, S1, S2, h1, h2, h3, h4⟩ := H
  refine ⟨S2, h4, ?_⟩
  rw [mRc_e hL.1 k0 (by decide), h1, mC_e, mRc_e h2 k83 (by decide), h3, mC_e, if_pos rfl]
theorem lcm_0 (r : Int64) : lg_cmp r r = 0 := by
  unfold lg_cmp
  rw [if_neg (fun h => by rw [gt_iff_lt, Int64.lt_iff_toInt_lt] at h; omega), if_pos rfl]
theorem law_sL {S : mS} {e1 e2 : mS → Option (Int64 × mS)} (hL : Ly S) (H : AgrL e1 e2 S) (K : mS → Option Int32) : ∃ T, Inv T ∧ mRc 6 (nI 0) S (mC (e1 S) (fun r S1 => mRc 7 (nI 83) S1 (mC (e2 S1) (fun r2 S2 => if lg_cmp r r2 = 0 then K S2 else some 0)))) = K T := by
  obtain ⟨r, S1, S2, h1, h2, h3, h4⟩ := H
  refine ⟨S2, h4, ?_⟩
  rw [mRc_e hL.1 k0 (by decide), h1, mC_e, mRc_e h2 k83 (by decide), h3, mC_e, if_pos (lcm_0 r)]
theorem law_sR {S : mS} {e1 e2 : mS → Option Int32} (hI : Inv S) (H : AgR e1 e2 S) (K : mS → Option Int32) : ∃ T, Inv T ∧ mRc 6 (nI 0) S (mCp (e1 S) (fun r => mRc 7 (nI 83) S (mCp (e2 S) (fun r2 => if r = r2 then K S else some 0)))) = K T := by
  obtain ⟨r, h1, h2⟩ := H
  refine ⟨S, hI, ?_⟩
  rw [mRc_e hI.1.1 k0 (by decide), h1, mCp_e, mRc_e hI.1.1 k83 (by decide), h2, mCp_e, if_pos rfl]
theorem law_sD {S : mS} {e1 : mS → Option Int64} {e2 : mS → Option (Int64 × mS)} (hL : Ly S) (H : ∃ r S2, e1 S = some r ∧ e2 S = some (r, S2) ∧ Inv S2) (K : mS → Option Int32) : ∃ T, Inv T ∧ mRc 6 (nI 0) S (mCp (e1 S) (fun r => mRc 7 (nI 83) S (mC (e2 S) (fun r2 S2 => if lg_cmp r r2 = 0 then K S2 else some 0)))) = K T := by
  obtain ⟨r, S2, h1, h2, h3⟩ := H
  refine ⟨S2, h3, ?_⟩
  rw [mRc_e hL.1 k0 (by decide), h1, mCp_e, mRc_e hL.1 k83 (by decide), h2, mC_e, if_pos (lcm_0 r)]
theorem nI_k (n : Nat) : nI n + 3 = nI (n + 3) ∧ nI n + 4 = nI (n + 4) ∧ nI n + 5 = nI (n + 5) ∧ nI n + 6 = nI (n + 6) := ⟨nI_add n 3, nI_add n 4, nI_add n 5, nI_add n 6⟩
set_option maxRecDepth 100000 in
theorem law_rd {S : mS} {xs : Nat → Int32} {L n q : Nat} (H : Inv S) (hL : L ≤ 384) (hq : q + 6 ≤ L) : ∃ T, Inv T ∧ f_L_law_18 xs L (f_L_law_1282 xs L) (n + 1) (nI 0) (nI 83) (nI q) S = f_L_law_18 xs L (f_L_law_1282 xs L) n (nI 0) (nI 83) (nI q + 6) T := by
  have hl : Ly S := H.1
  have s1 : ∀ K : Int32 → Option Int32, mSc xs L (nI q + 1) K = K (xs (q + 1)) := fun K => by rw [nI_1]; exact mSc_e (by omega) (by omega)
  have s2 : ∀ K : Int32 → Option Int32, mSc xs L (nI q + 2) K = K (xs (q + 2)) := fun K => by rw [nI_2]; exact mSc_e (by omega) (by omega)
  have s3 : ∀ K : Int32 → Option Int32, mSc xs L (nI q + 3) K = K (xs (q + 3)) := fun K => by rw [(nI_k q).1]; exact mSc_e (by omega) (by omega)
  have s4 : ∀ K : Int32 → Option Int32, mSc xs L (nI q + 4) K = K (xs (q + 4)) := fun K => by rw [(nI_k q).2.1]; exact mSc_e (by omega) (by omega)
  have s5 : ∀ K : Int32 → Option Int32, mSc xs L (nI q + 5) K = K (xs (q + 5)) := fun K => by rw [(nI_k q).2.2.1]; exact mSc_e (by omega) (by omega)
  have lt : ¬ ((Int32.ofNat L) - 6 < nI q) := by
    have e : (Int32.ofNat L) - 6 = nI (L - 6) := nI_sub (a := L) (b := 6) (by omega)
    rw [e, lt_i (by omega) (by omega)]
    omega
  rw [f_L_law_18_s]
  refine ex_tr (if_neg lt) ?_
  refine ex_tr (mSc_e (show q < L by omega) (by omega)) ?_
  generalize xs q &&& 63 = d
  by_cases c0 : d = 0
  · refine ex_tr (if_pos c0) ?_
    simp only [s1]
    exact law_st hl (o_fell H (xs (q + 1))) (fun T => f_L_law_18 xs L (f_L_law_1282 xs L) n (nI 0) (nI 83) (nI q + 6) T)
  refine ex_tr (if_neg c0) ?_
  by_cases c1 : d = 1
  · refine ex_tr (if_pos c1) ?_
    simp only [s1, s2]
    exact law_st hl (o_whistle H (xs (q + 1)) (xs (q + 2))) (fun T => f_L_law_18 xs L (f_L_law_1282 xs L) n (nI 0) (nI 83) (nI q + 6) T)
  refine ex_tr (if_neg c1) ?_
  by_cases c2 : d = 2
  · refine ex_tr (if_pos c2) ?_
    simp only [s1, s2]
    exact law_st hl (o_sheep H (xs (q + 1)) (xs (q + 2))) (fun T => f_L_law_18 xs L (f_L_law_1282 xs L) n (nI 0) (nI 83) (nI q + 6) T)
  refine ex_tr (if_neg c2) ?_
  by_cases c3 : d = 3
  · refine ex_tr (if_pos c3) ?_
    simp only [s1]
    exact law_st hl (o_fold H (xs (q + 1))) (fun T => f_L_law_18 xs L (f_L_law_1282 xs L) n (nI 0) (nI 83) (nI q + 6) T)
  refine ex_tr (if_neg c3) ?_
  by_cases c4 : d = 4
  · refine ex_tr (if_pos c4) ?_
    simp only [s1]
    exact law_st hl (o_type H (xs (q + 1))) (fun T => f_L_law_18 xs L (f_L_law_1282 xs L) n (nI 0) (nI 83) (nI q + 6) T)
  refine ex_tr (if_neg c4) ?_
  by_cases c5 : d = 5
  · refine ex_tr (if_pos c5) ?_
    exact law_st hl (o_clear H) (fun T => f_L_law_18 xs L (f_L_law_1282 xs L) n (nI 0) (nI 83) (nI q + 6) T)
  refine ex_tr (if_neg c5) ?_
  by_cases c6 : d = 6
  · refine ex_tr (if_pos c6) ?_
    exact law_st hl (o_read H) (fun T => f_L_law_18 xs L (f_L_law_1282 xs L) n (nI 0) (nI 83) (nI q + 6) T)
  refine ex_tr (if_neg c6) ?_
  by_cases c7 : d = 7
  · refine ex_tr (if_pos c7) ?_
    simp only [s1, s2]
    exact law_st hl (o_calls H (xs (q + 1)) (xs (q + 2))) (fun T => f_L_law_18 xs L (f_L_law_1282 xs L) n (nI 0) (nI 83) (nI q + 6) T)
  refine ex_tr (if_neg c7) ?_
  by_cases c8 : d = 8
  · refine ex_tr (if_pos c8) ?_
    simp only [s1]
    exact law_st hl (o_steps H (xs (q + 1))) (fun T => f_L_law_18 xs L (f_L_law_1282 xs L) n (nI 0) (nI 83) (nI q + 6) T)
  refine ex_tr (if_neg c8) ?_
  by_cases c9 : d = 9
  · refine ex_tr (if_pos c9) ?_
    exact law_st hl (o_undo H) (fun T => f_L_law_18 xs L (f_L_law_1282 xs L) n (nI 0) (nI 83) (nI q + 6) T)
  refine ex_tr (if_neg c9) ?_
  by_cases c10 : d = 10
  · refine ex_tr (if_pos c10) ?_
    simp only [s1, s2]
    exact law_st hl (o_of H (xs (q + 1)) (xs (q + 2))) (fun T => f_L_law_18 xs L (f_L_law_1282 xs L) n (nI 0) (nI 83) (nI q + 6) T)
  refine ex_tr (if_neg c10) ?_
  by_cases c11 : d = 11
  · refine ex_tr (if_pos c11) ?_
    simp only [s1, s2]
    exact law_st hl (o_about H (xs (q + 1)) (xs (q + 2))) (fun T => f_L_law_18 xs L (f_L_law_1282 xs L) n (nI 0) (nI 83) (nI q + 6) T)
  refine ex_tr (if_neg c11) ?_
  by_cases c12 : d = 12
  · refine ex_tr (if_pos c12) ?_
    simp only [s1, s2]
    exact law_st hl (o_goes H (xs (q + 1)) (xs (q + 2))) (fun T => f_L_law_18 xs L (f_L_law_1282 xs L) n (nI 0) (nI 83) (nI q + 6) T)
  refine ex_tr (if_neg c12) ?_
  by_cases c13 : d = 13
  · refine ex_tr (if_pos c13) ?_
    simp only [s1, s2, s3]
    exact law_st hl (o_gives H (xs (q + 1)) (xs (q + 2)) (xs (q + 3))) (fun T => f_L_law_18 xs L (f_L_law_1282 xs L) n (nI 0) (nI 83) (nI q + 6) T)
  refine ex_tr (if_neg c13) ?_
  by_cases c14 : d = 14
  · refine ex_tr (if_pos c14) ?_
    exact law_sR H (o_folded H) (fun T => f_L_law_18 xs L (f_L_law_1282 xs L) n (nI 0) (nI 83) (nI q + 6) T)
  refine ex_tr (if_neg c14) ?_
  by_cases c15 : d = 15
  · refine ex_tr (if_pos c15) ?_
    simp only [s1, s2, s3, s4]
    exact law_st hl (o_drive H (xs (q + 1)) (xs (q + 2)) (xs (q + 3)) (xs (q + 4))) (fun T => f_L_law_18 xs L (f_L_law_1282 xs L) n (nI 0) (nI 83) (nI q + 6) T)
  refine ex_tr (if_neg c15) ?_
  by_cases c16 : d = 16
  · refine ex_tr (if_pos c16) ?_
    simp only [s1, s2]
    exact law_st hl (o_near H (xs (q + 1)) (xs (q + 2))) (fun T => f_L_law_18 xs L (f_L_law_1282 xs L) n (nI 0) (nI 83) (nI q + 6) T)
  refine ex_tr (if_neg c16) ?_
  by_cases c17 : d = 17
  · refine ex_tr (if_pos c17) ?_
    simp only [s1, s2]
    exact law_st hl (o_gather H (xs (q + 1)) (xs (q + 2))) (fun T => f_L_law_18 xs L (f_L_law_1282 xs L) n (nI 0) (nI 83) (nI q + 6) T)
  refine ex_tr (if_neg c17) ?_
  by_cases c18 : d = 18
  · refine ex_tr (if_pos c18) ?_
    simp only [s1, s2]
    exact law_st hl (o_seen H (xs (q + 1)) (xs (q + 2))) (fun T => f_L_law_18 xs L (f_L_law_1282 xs L) n (nI 0) (nI 83) (nI q + 6) T)
  refine ex_tr (if_neg c18) ?_
  by_cases c19 : d = 19
  · refine ex_tr (if_pos c19) ?_
    simp only [s1]
    exact law_st hl (o_which H (xs (q + 1))) (fun T => f_L_law_18 xs L (f_L_law_1282 xs L) n (nI 0) (nI 83) (nI q + 6) T)
  refine ex_tr (if_neg c19) ?_
  by_cases c20 : d = 20
  · refine ex_tr (if_pos c20) ?_
    simp only [s1]
    exact law_st hl (o_whose H (xs (q + 1))) (fun T => f_L_law_18 xs L (f_L_law_1282 xs L) n (nI 0) (nI 83) (nI q + 6) T)
  refine ex_tr (if_neg c20) ?_
  by_cases c21 : d = 21
  · refine ex_tr (if_pos c21) ?_
    simp only [s1]
    exact law_st hl (o_tell H (xs (q + 1))) (fun T => f_L_law_18 xs L (f_L_law_1282 xs L) n (nI 0) (nI 83) (nI q + 6) T)
  refine ex_tr (if_neg c21) ?_
  by_cases c22 : d = 22
  · refine ex_tr (if_pos c22) ?_
    simp only [s1, s2, s3]
    exact law_st hl (o_note H (xs (q + 1)) (xs (q + 2)) (xs (q + 3))) (fun T => f_L_law_18 xs L (f_L_law_1282 xs L) n (nI 0) (nI 83) (nI q + 6) T)
  refine ex_tr (if_neg c22) ?_
  by_cases c23 : d = 23
  · refine ex_tr (if_pos c23) ?_
    simp only [s1, s2, s3]
    exact law_st hl (o_mark H (xs (q + 1)) (xs (q + 2)) (xs (q + 3))) (fun T => f_L_law_18 xs L (f_L_law_1282 xs L) n (nI 0) (nI 83) (nI q + 6) T)
  refine ex_tr (if_neg c23) ?_
  by_cases c24 : d = 24
  · refine ex_tr (if_pos c24) ?_
    simp only [s1]
    exact law_st hl (o_forget H (xs (q + 1))) (fun T => f_L_law_18 xs L (f_L_law_1282 xs L) n (nI 0) (nI 83) (nI q + 6) T)
  refine ex_tr (if_neg c24) ?_
  by_cases c25 : d = 25
  · refine ex_tr (if_pos c25) ?_
    simp only [s1]
    exact law_st hl (o_is H (xs (q + 1))) (fun T => f_L_law_18 xs L (f_L_law_1282 xs L) n (nI 0) (nI 83) (nI q + 6) T)
  refine ex_tr (if_neg c25) ?_
  by_cases c26 : d = 26
  · refine ex_tr (if_pos c26) ?_
    simp only [s1]
    exact law_st hl (o_look H (xs (q + 1))) (fun T => f_L_law_18 xs L (f_L_law_1282 xs L) n (nI 0) (nI 83) (nI q + 6) T)
  refine ex_tr (if_neg c26) ?_
  by_cases c27 : d = 27
  · refine ex_tr (if_pos c27) ?_
    simp only [s1]
    exact law_st hl (o_kinds H (xs (q + 1))) (fun T => f_L_law_18 xs L (f_L_law_1282 xs L) n (nI 0) (nI 83) (nI q + 6) T)
  refine ex_tr (if_neg c27) ?_
  by_cases c28 : d = 28
  · refine ex_tr (if_pos c28) ?_
    simp only [s1]
    exact law_st hl (o_ask H (xs (q + 1))) (fun T => f_L_law_18 xs L (f_L_law_1282 xs L) n (nI 0) (nI 83) (nI q + 6) T)
  refine ex_tr (if_neg c28) ?_
  by_cases c29 : d = 29
  · refine ex_tr (if_pos c29) ?_
    simp only [s1, s2, s3]
    exact law_st hl (o_shepherds H (xs (q + 1)) (xs (q + 2)) (xs (q + 3))) (fun T => f_L_law_18 xs L (f_L_law_1282 xs L) n (nI 0) (nI 83) (nI q + 6) T)
  refine ex_tr (if_neg c29) ?_
  by_cases c30 : d = 30
  · refine ex_tr (if_pos c30) ?_
    simp only [s1, s2, s3, s4, s5]
    exact law_st hl (o_misheard H (xs (q + 1)) (xs (q + 2)) (xs (q + 3)) (xs (q + 4)) (xs (q + 5))) (fun T => f_L_law_18 xs L (f_L_law_1282 xs L) n (nI 0) (nI 83) (nI q + 6) T)
  refine ex_tr (if_neg c30) ?_
  by_cases c31 : d = 31
  · refine ex_tr (if_pos c31) ?_
    simp only [s1, s2]
    exact law_st hl (o_winters H (xs (q + 1)) (xs (q + 2))) (fun T => f_L_law_18 xs L (f_L_law_1282 xs L) n (nI 0) (nI 83) (nI q + 6) T)
  refine ex_tr (if_neg c31) ?_
  by_cases c32 : d = 32
  · refine ex_tr (if_pos c32) ?_
    simp only [s1]
    exact law_sL hl (o_part H (xs (q + 1))) (fun T => f_L_law_18 xs L (f_L_law_1282 xs L) n (nI 0) (nI 83) (nI q + 6) T)
  refine ex_tr (if_neg c32) ?_
  by_cases c33 : d = 33
  · refine ex_tr (if_pos c33) ?_
    simp only [s1]
    exact law_st hl (o_image H (xs (q + 1))) (fun T => f_L_law_18 xs L (f_L_law_1282 xs L) n (nI 0) (nI 83) (nI q + 6) T)
  refine ex_tr (if_neg c33) ?_
  by_cases c34 : d = 34
  · refine ex_tr (if_pos c34) ?_
    simp only [s1]
    exact law_st hl (o_from H (xs (q + 1))) (fun T => f_L_law_18 xs L (f_L_law_1282 xs L) n (nI 0) (nI 83) (nI q + 6) T)
  refine ex_tr (if_neg c34) ?_
  by_cases c35 : d = 35
  · refine ex_tr (if_pos c35) ?_
    simp only [s1]
    exact law_st hl (o_status H (xs (q + 1))) (fun T => f_L_law_18 xs L (f_L_law_1282 xs L) n (nI 0) (nI 83) (nI q + 6) T)
  refine ex_tr (if_neg c35) ?_
  by_cases c36 : d = 36
  · refine ex_tr (if_pos c36) ?_
    simp only [s1]
    exact law_st hl (o_count H (xs (q + 1))) (fun T => f_L_law_18 xs L (f_L_law_1282 xs L) n (nI 0) (nI 83) (nI q + 6) T)
  refine ex_tr (if_neg c36) ?_
  by_cases c37 : d = 37
  · refine ex_tr (if_pos c37) ?_
    exact law_sD hl (o_digest H) (fun T => f_L_law_18 xs L (f_L_law_1282 xs L) n (nI 0) (nI 83) (nI q + 6) T)
  refine ex_tr (if_neg c37) ?_
  exact ⟨S, H, rfl⟩
theorem law_lp {S : mS} {xs : Nat → Int32} {L : Nat} (H : Inv S) (hL : L ≤ 384) : f_L_law_18 xs L (f_L_law_1282 xs L) 1000 (nI 0) (nI 83) 0 S = some 1 := by
  obtain ⟨m, T, hT, e⟩ := lupI (fun n j (T : mS) => f_L_law_18 xs L (f_L_law_1282 xs L) n (nI 0) (nI 83) (nI (6 * j)) T) (fun _ T => Inv T) (L / 6) (by
    intro n j T hj hT
    obtain ⟨U, hU, e⟩ := law_rd (n := n) (q := 6 * j) (xs := xs) hT hL (by omega)
    refine ⟨U, hU, ?_⟩
    rw [(nI_k (6 * j)).2.2.2] at e
    exact e) 1000 S H (by omega)
  refine Eq.trans e ?_
  show f_L_law_18 xs L (f_L_law_1282 xs L) (m + 1) _ _ _ T = _
  rw [f_L_law_18_s]
  have lt : (Int32.ofNat L) - 6 < nI (6 * (L / 6)) := by
    by_cases h : 6 ≤ L
    · have e : (Int32.ofNat L) - 6 = nI (L - 6) := nI_sub (a := L) (b := 6) h
      rw [e, lt_i (by omega) (by omega)]
      omega
    · rcases (show L = 0 ∨ L = 1 ∨ L = 2 ∨ L = 3 ∨ L = 4 ∨ L = 5 by omega) with rfl | rfl | rfl | rfl | rfl | rfl <;> decide +kernel
  exact if_pos lt
