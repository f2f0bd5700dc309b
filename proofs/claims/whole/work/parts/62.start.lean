/-! THE START: what the two constructors leave -/
noncomputable def iniM : Option mS := mNw 6 mS0 (fun r1 S2 => mCv (f_X6_init r1 S2) (fun S4 => mNw 7 S4 (fun r5 S6 => mCv (f_X7_init r5 S6) (fun S8 => if r1 = nI 0 ∧ r5 = nI 83 then some S8 else none))))
noncomputable def mS8 : mS := iniM.getD mS0
set_option maxRecDepth 1000000 in
theorem ini_ok : iniM.isSome = true := by decide +kernel
set_option maxRecDepth 1000000 in
theorem ini_1 : mS8.1 = 100 := by decide +kernel
set_option maxRecDepth 1000000 in
theorem ini_c : ∀ k, k < 100 → ∀ j, j < 30 → cst k j = true → mS8.2.1 k j = nI (cvl k j) := by decide +kernel
set_option maxRecDepth 1000000 in
theorem ini_z : ∀ q ∈ [(1, 5), (2, 4), (2, 5), (2, 6), (7, 3), (9, 3), (11, 3), (13, 1), (83, 3), (83, 1), (83, 2), (83, 4), (83, 5), (83, 6), (83, 7), (83, 21), (59, 1), (83, 16), (0, 12), (0, 14), (0, 15), (0, 16), (84, 0), (84, 1), (84, 2), (58, 0), (58, 1), (99, 0), (99, 1)], mS8.2.1 q.1 q.2 = nI 0 := by decide +kernel
set_option maxRecDepth 1000000 in
theorem ini_f : mS8.2.1 0 13 = 1 ∧ mS8.2.2 83 25 = 0 ∧ mS8.2.2 83 26 = 1 ∧ mS8.2.1 61 3 = -1 := by decide +kernel
theorem cst_30 {k j : Nat} (hk : k < 100) (hj : 30 ≤ j) : cst k j = false := by
  have h : ∀ k, k < 100 → (mTg (mKd k)).length ≤ 30 := by decide +kernel
  have hl := h k hk
  have d1 : decide (j < 2) = false := decide_eq_false (by omega)
  unfold cst
  rw [List.getElem?_eq_none (by omega), d1, Bool.and_false, Bool.and_false]
  rfl
set_option maxRecDepth 100000 in
theorem ini_inv : Inv mS8 := by
  have z : ∀ a b : Nat, (a, b) ∈ [(1, 5), (2, 4), (2, 5), (2, 6), (7, 3), (9, 3), (11, 3), (13, 1), (83, 3), (83, 1), (83, 2), (83, 4), (83, 5), (83, 6), (83, 7), (83, 21), (59, 1), (83, 16), (0, 12), (0, 14), (0, 15), (0, 16), (84, 0), (84, 1), (84, 2), (58, 0), (58, 1), (99, 0), (99, 1)] → mS8.2.1 a b = nI 0 := fun a b h => ini_z (a, b) h
  have hL : Ly mS8 := ⟨ini_1, fun k hk j hj => by
    rcases Nat.lt_or_ge j 30 with c | c
    · exact ini_c k hk j c hj
    · rw [cst_30 hk c] at hj
      cases hj⟩
  have z12 : mS8.2.1 0 12 = nI 0 := z 0 12 (by decide)
  refine ⟨hL, ⟨kNew 0, VK_new (by decide), CK_new (z 1 5 (by decide)) (z 2 4 (by decide)) (z 2 5 (by decide)) (z 2 6 (by decide)) (z 7 3 (by decide)) (z 9 3 (by decide)) (z 11 3 (by decide)) (z 13 1 (by decide)), MK_new (z 83 3 (by decide)) (z 83 1 (by decide)) (z 83 2 (by decide)) (z 83 4 (by decide)) (z 83 5 (by decide)) (z 83 6 (by decide)) (z 83 7 (by decide)) (z 83 21 (by decide))⟩, ⟨0, fun _ => 0, by decide, fun j hj => absurd hj (Nat.not_lt_zero j), z 59 1 (by decide), z 83 16 (by decide), fun j hj => absurd hj (Nat.not_lt_zero j)⟩, ⟨?_, ?_⟩, ⟨(z 0 14 (by decide)).trans (z 84 0 (by decide)).symm, (z 0 15 (by decide)).trans (z 84 1 (by decide)).symm, (z 0 16 (by decide)).trans (z 84 2 (by decide)).symm⟩, ⟨Or.inl ⟨z 58 0 (by decide), z 99 0 (by decide)⟩, Or.inl ⟨z 58 1 (by decide), z 99 1 (by decide)⟩⟩, Or.inl ini_f.2.2.2⟩
  · rw [ini_f.2.1, z12]
    decide
  · rw [ini_f.2.2.1, ini_f.1]
    decide
theorem mCv_n {ρ : Type} {K : mS → Option ρ} : mCv none K = none := rfl
theorem f_ini (xs : Nat → Int32) (L : Nat) : f_law xs L mS0 = f_L_law_18 xs L (f_L_law_1282 xs L) 1000 (nI 0) (nI 83) 0 mS8 := by
  have h8 : iniM = some mS8 := by
    have h := ini_ok
    unfold mS8
    cases e : iniM with
    | none => rw [e] at h; cases h
    | some T => rfl
  have a : ∀ {ρ : Type} (K : Int32 → mS → Option ρ), mNw 6 mS0 K = K (nI 0) (mNew mS0) := fun K => rfl
  unfold iniM at h8
  unfold f_law
  rw [a] at h8 ⊢
  cases e1 : f_X6_init (nI 0) (mNew mS0) with
  | none =>
    rw [e1, mCv_n] at h8
    cases h8
  | some A =>
    rw [e1, mCv_e] at h8
    rw [mCv_e]
    unfold mNw at h8 ⊢
    by_cases c : (decide (mKd A.1 = 7) && decide (A.1 < 100)) = true
    · rw [if_pos c] at h8 ⊢
      dsimp only at h8 ⊢
      cases e2 : f_X7_init (Int32.ofNat A.1) (mNew A) with
      | none =>
        rw [e2, mCv_n] at h8
        cases h8
      | some B =>
        rw [e2, mCv_e] at h8
        rw [mCv_e]
        by_cases d : nI 0 = nI 0 ∧ Int32.ofNat A.1 = nI 83
        · rw [if_pos d] at h8
          rw [Option.some.inj h8, d.2]
        · rw [if_neg d] at h8
          cases h8
    · rw [if_neg c] at h8
      cases h8
/-- THE PURE STATEMENT: on every script of at most 384 ints both answer alike -/
theorem law_pure (xs : Nat → Int32) (L : Nat) (hL : L ≤ 384) : f_law xs L mS0 = some 1 := (f_ini xs L).trans (law_lp ini_inv hL)
