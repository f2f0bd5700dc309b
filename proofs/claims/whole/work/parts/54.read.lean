/-! READ: the text's TOKENS -/
def allB (p : Nat → Bool) : Nat → Bool
  | 0 => true
  | n + 1 => allB p n && p n
theorem allB_iff (p : Nat → Bool) (n : Nat) : allB p n = true ↔ ∀ j, j < n → p j = true := by
  induction n with
  | zero => exact ⟨fun _ j h => absurd h (Nat.not_lt_zero j), fun _ => rfl⟩
  | succ n ih =>
    unfold allB
    rw [Bool.and_eq_true, ih]
    constructor
    · rintro ⟨h, e⟩ j hj
      by_cases c : j = n
      · rw [c]; exact e
      · exact h j (by omega)
    · exact fun h => ⟨fun j hj => h j (by omega), h n (by omega)⟩
def scn (Q : Nat → Bool) : Nat → Nat → Nat
  | 0, p => p
  | m + 1, p => if Q p = true then scn Q m (p + 1) else p
def rn (Q : Nat → Bool) (n p : Nat) : Nat := scn Q (n - p) p
theorem rn_eq {Q : Nat → Bool} {n q : Nat} (hq : q ≤ n) (h2 : q < n → Q q = false) : ∀ d p, p + d = q → (∀ i, p ≤ i → i < q → Q i = true) → rn Q n p = q := by
  intro d
  induction d with
  | zero =>
    intro p hp _
    obtain rfl : p = q := by omega
    unfold rn
    by_cases c : p < n
    · obtain ⟨m, hm⟩ : ∃ m, n - p = m + 1 := ⟨n - p - 1, by omega⟩
      rw [hm, scn, if_neg (by rw [h2 c]; decide)]
    · rw [show n - p = 0 by omega]
      rfl
  | succ d ih =>
    intro p hp h1
    obtain ⟨m, hm⟩ : ∃ m, n - p = m + 1 := ⟨n - p - 1, by omega⟩
    have := ih (p + 1) (by omega) (fun i a b => h1 i (by omega) b)
    unfold rn at this ⊢
    rw [hm, scn, if_pos (h1 p (by omega) (by omega))]
    rw [show n - (p + 1) = m by omega] at this
    exact this
theorem scn_ok (Q : Nat → Bool) : ∀ m p, p ≤ scn Q m p ∧ scn Q m p ≤ p + m ∧ (∀ i, p ≤ i → i < scn Q m p → Q i = true) ∧ (scn Q m p < p + m → Q (scn Q m p) = false) := by
  intro m
  induction m with
  | zero => exact fun p => ⟨Nat.le_refl _, Nat.le_refl _, fun i a b => by unfold scn at b; omega, fun h => by unfold scn at h; omega⟩
  | succ m ih =>
    intro p
    unfold scn
    cases hc : Q p with
    | true =>
      obtain ⟨i1, i2, i3, i4⟩ := ih (p + 1)
      rw [if_pos rfl]
      refine ⟨by omega, by omega, fun i a b => ?_, fun h => i4 (by omega)⟩
      by_cases e : i = p
      · rw [e]; exact hc
      · exact i3 i (by omega) b
    | false =>
      rw [if_neg (by decide)]
      exact ⟨Nat.le_refl _, by omega, fun i a b => by omega, fun _ => hc⟩
theorem rn_ok {Q : Nat → Bool} {n p : Nat} (hp : p ≤ n) : p ≤ rn Q n p ∧ rn Q n p ≤ n ∧ (∀ i, p ≤ i → i < rn Q n p → Q i = true) ∧ (rn Q n p < n → Q (rn Q n p) = false) := by
  have h := scn_ok Q (n - p) p
  unfold rn
  exact ⟨h.1, by omega, h.2.2.1, fun z => h.2.2.2 (by omega)⟩
def isB (b : Nat → Nat) (p : Nat) : Bool := decide (b p = 32)
def isL (b : Nat → Nat) (p : Nat) : Bool := decide (97 ≤ b p ∧ b p ≤ 122)
def isF (b : Nat → Nat) (p : Nat) : Bool := decide (48 ≤ b p ∧ b p ≤ 57)
def tS (n : Nat) (b : Nat → Nat) (p : Nat) : Nat := rn (isB b) n p
def tE (n : Nat) (b : Nat → Nat) (p : Nat) : Nat := if n ≤ tS n b p then tS n b p else if isL b (tS n b p) = true then rn (isL b) n (tS n b p) else if isF b (tS n b p) = true then rn (isF b) n (tS n b p) else tS n b p + 1
def vl (b : Nat → Nat) (s e : Nat) : Nat := if e ≤ s then 0 else if e = s + 1 then b s - 48 else 10 * (b s - 48) + b (s + 1) - 48
def chr (i j : Nat) : Nat := ([[102, 101, 108, 108], [119, 104, 105, 115, 116, 108, 101], [115, 104, 101, 101, 112], [99, 97, 108, 108], [115, 116, 101, 112, 115]].getD i []).getD j 0
def cln (i : Nat) : Nat := [4, 7, 5, 4, 5].getD i 0
/-- the i-th word stands there -/
def spl (b : Nat → Nat) (s e i : Nat) : Bool := decide (e - s = cln i) && allB (fun j => decide (b (s + j) = chr i j)) (cln i)
def wv (b : Nat → Nat) (s e : Nat) : Nat → Nat
  | 0 => 3
  | j + 1 => if spl b s e j = true then 4 + j else wv b s e j
def tK (n : Nat) (b : Nat → Nat) (p : Nat) : Nat := if n ≤ tS n b p then 0 else if isL b (tS n b p) = true then wv b (tS n b p) (tE n b p) 5 else if isF b (tS n b p) = true then (if tE n b p - tS n b p ≤ 2 then 1 else 3) else if b (tS n b p) = 59 then 2 else 3
def tV (n : Nat) (b : Nat → Nat) (p : Nat) : Nat := vl b (tS n b p) (tE n b p)
theorem tS_le {n : Nat} {b : Nat → Nat} {p : Nat} (hp : p ≤ n) : p ≤ tS n b p ∧ tS n b p ≤ n := ⟨(rn_ok hp).1, (rn_ok hp).2.1⟩
theorem tE_le {n : Nat} {b : Nat → Nat} {p : Nat} (hp : p ≤ n) : tS n b p ≤ tE n b p ∧ tE n b p ≤ n := by
  have h := tS_le (b := b) hp
  unfold tE
  by_cases c : n ≤ tS n b p
  · rw [if_pos c]; omega
  · rw [if_neg c]
    have h1 := rn_ok (Q := isL b) h.2
    have h2 := rn_ok (Q := isF b) h.2
    by_cases l : isL b (tS n b p) = true
    · rw [if_pos l]; exact ⟨h1.1, h1.2.1⟩
    · rw [if_neg l]
      by_cases f : isF b (tS n b p) = true
      · rw [if_pos f]; exact ⟨h2.1, h2.2.1⟩
      · rw [if_neg f]; omega
theorem rn_gt {Q : Nat → Bool} {n p : Nat} (hp : p < n) (h : Q p = true) : p < rn Q n p := by
  have k := rn_ok (Q := Q) (Nat.le_of_lt hp)
  rcases Nat.lt_or_ge p (rn Q n p) with c | c
  · exact c
  · have e : rn Q n p = p := by omega
    have z := k.2.2.2 (by omega)
    rw [e, h] at z
    cases z
/-- a TOKEN goes on -/
theorem tE_gt {n : Nat} {b : Nat → Nat} {p : Nat} (hp : p ≤ n) (h : tK n b p ≠ 0) : tS n b p < tE n b p := by
  unfold tK at h
  unfold tE
  by_cases c : n ≤ tS n b p
  · rw [if_pos c] at h
    exact absurd rfl h
  · rw [if_neg c]
    by_cases l : isL b (tS n b p) = true
    · rw [if_pos l]; exact rn_gt (by omega) l
    · rw [if_neg l]
      by_cases f : isF b (tS n b p) = true
      · rw [if_pos f]; exact rn_gt (by omega) f
      · rw [if_neg f]; omega
theorem tK_0 {n : Nat} {b : Nat → Nat} {p : Nat} : tK n b p = 0 ↔ n ≤ tS n b p := by
  unfold tK
  by_cases c : n ≤ tS n b p
  · rw [if_pos c]
    exact ⟨fun _ => c, fun _ => rfl⟩
  · rw [if_neg c]
    refine ⟨fun h => ?_, fun h => absurd h c⟩
    by_cases l : isL b (tS n b p) = true
    · rw [if_pos l] at h
      unfold wv wv wv wv wv wv at h
      repeat' split at h
      all_goals omega
    · rw [if_neg l] at h
      repeat' split at h
      all_goals omega
theorem tK_lt {n : Nat} {b : Nat → Nat} {p : Nat} : tK n b p < 9 := by
  unfold tK wv wv wv wv wv wv
  repeat' split
  all_goals omega
theorem tV_lt {n : Nat} {b : Nat → Nat} {p : Nat} (hp : p ≤ n) (h : tK n b p = 1) : tV n b p < 100 ∧ tE n b p ≤ tS n b p + 2 := by
  unfold tK at h
  by_cases c : n ≤ tS n b p
  · rw [if_pos c] at h; omega
  · rw [if_neg c] at h
    by_cases l : isL b (tS n b p) = true
    · rw [if_pos l] at h
      unfold wv wv wv wv wv wv at h
      repeat' split at h
      all_goals omega
    · rw [if_neg l] at h
      by_cases f : isF b (tS n b p) = true
      · rw [if_pos f] at h
        by_cases g : tE n b p - tS n b p ≤ 2
        · refine ⟨?_, by omega⟩
          have e : tE n b p = rn (isF b) n (tS n b p) := by
            unfold tE
            rw [if_neg c, if_neg l, if_pos f]
          have k := rn_ok (Q := isF b) (show tS n b p ≤ n by omega)
          rw [← e] at k
          have f1 := of_decide_eq_true f
          unfold tV vl
          by_cases g1 : tE n b p ≤ tS n b p
          · rw [if_pos g1]; decide
          · rw [if_neg g1]
            by_cases g2 : tE n b p = tS n b p + 1
            · rw [if_pos g2]; omega
            · rw [if_neg g2]
              have f2 := of_decide_eq_true (k.2.2.1 (tS n b p + 1) (by omega) (by omega))
              omega
        · rw [if_neg g] at h; omega
      · rw [if_neg f] at h
        repeat' split at h
        all_goals omega
