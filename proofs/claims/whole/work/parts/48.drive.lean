/-! DRIVE: from where one comes whither, in so many calls -/
def anyB (p : Nat → Bool) : Nat → Bool
  | 0 => false
  | n + 1 => anyB p n || p n
theorem anyB_iff (p : Nat → Bool) (n : Nat) : anyB p n = true ↔ ∃ j, j < n ∧ p j = true := by
  induction n with
  | zero => exact ⟨fun h => Bool.noConfusion h, fun ⟨j, h, _⟩ => absurd h (Nat.not_lt_zero j)⟩
  | succ n ih =>
    unfold anyB
    rw [Bool.or_eq_true, ih]
    constructor
    · rintro (⟨j, h, e⟩ | e)
      · exact ⟨j, by omega, e⟩
      · exact ⟨n, by omega, e⟩
    · rintro ⟨j, h, e⟩
      by_cases c : j = n
      · subst c
        exact Or.inr e
      · exact Or.inl ⟨j, by omega, e⟩
theorem anyB_eq {p q : Nat → Bool} {n : Nat} (h : ∀ j, j < n → p j = q j) : anyB p n = anyB q n := by
  induction n with
  | zero => rfl
  | succ n ih =>
    unfold anyB
    rw [ih (fun j hj => h j (by omega)), h n (by omega)]
def fD (p : Nat → Bool) : Nat := if p 0 = true then 0 else if p 1 = true then 1 else if p 2 = true then 2 else if p 3 = true then 3 else 4
theorem fD_lt (p : Nat → Bool) : fD p < 5 := by
  unfold fD
  repeat' split
  all_goals omega
theorem fD_ok {p : Nat → Bool} (h : anyB p 5 = true) : p (fD p) = true := by
  obtain ⟨j, hj, e⟩ := (anyB_iff p 5).mp h
  unfold fD
  by_cases h0 : p 0 = true
  · rw [if_pos h0]; exact h0
  · rw [if_neg h0]
    by_cases h1 : p 1 = true
    · rw [if_pos h1]; exact h1
    · rw [if_neg h1]
      by_cases h2 : p 2 = true
      · rw [if_pos h2]; exact h2
      · rw [if_neg h2]
        by_cases h3 : p 3 = true
        · rw [if_pos h3]; exact h3
        · rw [if_neg h3]
          rcases (show j = 0 ∨ j = 1 ∨ j = 2 ∨ j = 3 ∨ j = 4 by omega) with rfl | rfl | rfl | rfl | rfl
          · exact absurd e h0
          · exact absurd e h1
          · exact absurd e h2
          · exact absurd e h3
          · exact e
theorem fD_eq {p : Nat → Bool} {d : Nat} (hd : d < 5) (h : p d = true) (h2 : ∀ e, e < d → p e = false) : fD p = d := by
  unfold fD
  rcases (show d = 0 ∨ d = 1 ∨ d = 2 ∨ d = 3 ∨ d = 4 by omega) with rfl | rfl | rfl | rfl | rfl
  · rw [if_pos h]
  · rw [if_neg (by rw [h2 0 (by omega)]; decide), if_pos h]
  · rw [if_neg (by rw [h2 0 (by omega)]; decide), if_neg (by rw [h2 1 (by omega)]; decide), if_pos h]
  · rw [if_neg (by rw [h2 0 (by omega)]; decide), if_neg (by rw [h2 1 (by omega)]; decide), if_neg (by rw [h2 2 (by omega)]; decide), if_pos h]
  · rw [if_neg (by rw [h2 0 (by omega)]; decide), if_neg (by rw [h2 1 (by omega)]; decide), if_neg (by rw [h2 2 (by omega)]; decide), if_neg (by rw [h2 3 (by omega)]; decide)]
/-- the whistle's cell behind a call, m steps on -/
def dr_W (kw t m w d : Nat) : Nat := pMv w d (pR kw (t + m))
/-- the sheep, from f, may be in c behind n calls -/
def dr_A (kw ks t c : Nat) : Nat → Nat → Nat → Nat → Bool
  | 0, _, _, f => decide (f = c)
  | n + 1, m, w, f => anyB (fun d => dr_A kw ks t c n (m + 1) (dr_W kw t m w d) (pGv ks f (dr_W kw t m w d))) 5
/-- both are there behind g calls -/
def dr_F (kw ks t W F : Nat) : Nat → Nat → Nat → Prop
  | 0, w, f => w = W ∧ f = F
  | g + 1, w, f => ∃ w' f' d, w' < 25 ∧ f' < 25 ∧ d < 5 ∧ dr_F kw ks t W F g w' f' ∧ w = dr_W kw t g w' d ∧ f = pGv ks f' w
theorem dr_W_lt {kw t m w d : Nat} (hw : w < 25) (hd : d < 5) : dr_W kw t m w d < 25 := p_moved _ hw _ hd _ (pR_lt _ _)
theorem dr_FA {kw ks t c W F : Nat} (hk : ks < 6) (hW : W < 25) (hF : F < 25) (g : Nat) : ∀ n, (∃ w f, w < 25 ∧ f < 25 ∧ dr_F kw ks t W F g w f ∧ dr_A kw ks t c n g w f = true) ↔ dr_A kw ks t c (g + n) 0 W F = true := by
  induction g with
  | zero =>
    intro n
    rw [Nat.zero_add]
    constructor
    · rintro ⟨w, f, _, _, ⟨rfl, rfl⟩, h⟩
      exact h
    · intro h
      exact ⟨W, F, hW, hF, ⟨rfl, rfl⟩, h⟩
  | succ g ih =>
    intro n
    rw [show g + 1 + n = g + (n + 1) by omega, ← ih (n + 1)]
    constructor
    · rintro ⟨w, f, _, _, ⟨w', f', d, h1, h2, h3, h4, rfl, rfl⟩, h⟩
      exact ⟨w', f', h1, h2, h4, (anyB_iff _ _).mpr ⟨d, h3, h⟩⟩
    · rintro ⟨w', f', h1, h2, h4, h⟩
      obtain ⟨d, h3, h⟩ := (anyB_iff _ _).mp h
      exact ⟨_, _, dr_W_lt h1 h3, p_gives _ hk _ h2 _ (dr_W_lt h1 h3), ⟨w', f', d, h1, h2, h3, h4, rfl, rfl⟩, h⟩
/-- the first call that still leads there, and the row of them -/
def dr_D (kw ks t c L m w f : Nat) : Nat := fD (fun d => dr_A kw ks t c (L - (m + 1)) (m + 1) (dr_W kw t m w d) (pGv ks f (dr_W kw t m w d)))
def dr_P (kw ks t c L W F : Nat) : Nat → Nat × Nat
  | 0 => (W, F)
  | m + 1 => (dr_W kw t m (dr_P kw ks t c L W F m).1 (dr_D kw ks t c L m (dr_P kw ks t c L W F m).1 (dr_P kw ks t c L W F m).2), pGv ks (dr_P kw ks t c L W F m).2 (dr_W kw t m (dr_P kw ks t c L W F m).1 (dr_D kw ks t c L m (dr_P kw ks t c L W F m).1 (dr_P kw ks t c L W F m).2)))
theorem dr_Pok {kw ks t c L W F : Nat} (hk : ks < 6) (hW : W < 25) (hF : F < 25) (h : dr_A kw ks t c L 0 W F = true) (m : Nat) (hm : m ≤ L) : (dr_P kw ks t c L W F m).1 < 25 ∧ (dr_P kw ks t c L W F m).2 < 25 ∧ dr_A kw ks t c (L - m) m (dr_P kw ks t c L W F m).1 (dr_P kw ks t c L W F m).2 = true ∧ dr_F kw ks t W F m (dr_P kw ks t c L W F m).1 (dr_P kw ks t c L W F m).2 := by
  induction m with
  | zero => exact ⟨hW, hF, h, rfl, rfl⟩
  | succ m ih =>
    obtain ⟨i1, i2, i3, i4⟩ := ih (by omega)
    have hd : dr_D kw ks t c L m (dr_P kw ks t c L W F m).1 (dr_P kw ks t c L W F m).2 < 5 := fD_lt _
    have w1 := dr_W_lt (kw := kw) (t := t) (m := m) i1 hd
    rw [show L - m = (L - (m + 1)) + 1 by omega] at i3
    exact ⟨w1, p_gives _ hk _ i2 _ w1, fD_ok i3, ⟨_, _, _, i1, i2, hd, i4, rfl, rfl⟩⟩
