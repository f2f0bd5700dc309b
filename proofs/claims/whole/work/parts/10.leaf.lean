/-! THE SPEC of the finite things, and that both sides are it (by the kernel, case by case) -/
def pR (k t : Nat) : Nat := if k = 1 then 2 else if k = 2 then (if t % 3 = 0 then 0 else 1) else if k = 3 then (if t % 5 = 0 then 4 else 2) else if k = 4 then 1 + t % 2 else if k = 5 then (if t % 3 = 0 then 0 else 1) + (if 20 ≤ t then 1 else 0) else 1
def pS (k f : Nat) : Nat := if k = 1 then (if f = 0 then 3 else if f ≤ 1 then 1 else 0) else if k = 2 then (if f = 0 then 1 else 0) else if k = 3 then (if f = 0 then 3 else if f ≤ 3 then 1 else 0) else if k = 4 then (if f ≤ 1 then 2 else if f ≤ 2 then 1 else 0) else if k = 5 then (if f ≤ 1 then 3 else if f ≤ 2 then 2 else 0) else (if f ≤ 1 then 1 else 0)
def pFar (a b : Nat) : Nat := (a / 5 - b / 5) + (b / 5 - a / 5) + ((a % 5 - b % 5) + (b % 5 - a % 5))
def pMv (c d n : Nat) : Nat := if d = 0 then 5 * (c / 5 - n) + c % 5 else if d = 1 then 5 * (c / 5) + min 4 (c % 5 + n) else if d = 2 then 5 * min 4 (c / 5 + n) + c % 5 else if d = 3 then 5 * (c / 5) + (c % 5 - n) else c
def pWay (a b : Nat) : Nat := if a / 5 ≠ b / 5 ∧ (a % 5 - b % 5) + (b % 5 - a % 5) ≤ (a / 5 - b / 5) + (b / 5 - a / 5) then (if b / 5 < a / 5 then 2 else 0) else (if b % 5 ≤ a % 5 then 1 else 3)
def pGv (k a b : Nat) : Nat := pMv a (pWay a b) (pS k (pFar a b))
theorem x_moved : ∀ c, c < 25 → ∀ d, d < 5 → ∀ n, n < 5 → f_X6_moved (nI c) (nI d) (nI n) = some (nI (pMv c d n)) := by decide +kernel
theorem y_moved : ∀ c, c < 25 → ∀ d, d < 5 → ∀ n, n < 5 → f_X7_moved (nI c) (nI d) (nI n) = some (nI (pMv c d n)) := by decide +kernel
theorem p_moved : ∀ c, c < 25 → ∀ d, d < 5 → ∀ n, n < 5 → pMv c d n < 25 := by decide +kernel
theorem x_far : ∀ a, a < 25 → ∀ b, b < 25 → f_X6_farBetween (nI a) (nI b) = some (nI (pFar a b)) ∧ f_X7_far (nI a) (nI b) = some (nI (pFar a b)) ∧ pFar a b < 9 := by decide +kernel
theorem x_sreach : ∀ k, k < 6 → ∀ f, f < 9 → f_X6_sheepReach (nI k) (nI f) = some (nI (pS k f)) ∧ f_X7_givesBy (nI k) (nI f) = some (nI (pS k f)) ∧ pS k f < 4 := by decide +kernel
theorem x_gives : ∀ k, k < 6 → ∀ a, a < 25 → ∀ b, b < 25 → f_X6_givenWay (nI k) (nI a) (nI b) = some (nI (pGv k a b)) := by decide +kernel
theorem p_gives : ∀ k, k < 6 → ∀ a, a < 25 → ∀ b, b < 25 → pGv k a b < 25 := by decide +kernel
theorem x_wreach : ∀ k, k < 6 → ∀ t, t < 100 → f_X6_whistleReach (nI k) (nI t) = some (nI (pR k t)) ∧ f_X7_goesBy (nI k) (nI t) = some (nI (pR k t)) := by decide +kernel
