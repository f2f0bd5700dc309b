/-! THE MEMORY: one memory for the class and the reference. Cell k stands at base + k, in the order in which the law makes them; an int is itself, a reference is its cell's number (-1: null). -/
abbrev mS : Type := Nat × ((Nat → Nat → Int32) × (Nat → Nat → Int64))
/-- of each cell: its kind (0 to 7 a class of vwCl, 8 int[], 9 byte[], 10 boolean[], 11 State[]), its length -/
def mT : List (Nat × Nat) := [(6, 0), (5, 0), (1, 0), (8, 3), (8, 3), (8, 7), (8, 7), (3, 0), (8, 18), (3, 0), (8, 18), (3, 0), (8, 18), (2, 0), (8, 88), (5, 0), (1, 0), (8, 3), (8, 3), (8, 7), (8, 7), (3, 0), (8, 18), (3, 0), (8, 18), (3, 0), (8, 18), (2, 0), (8, 88), (11, 2), (5, 0), (1, 0), (8, 3), (8, 3), (8, 7), (8, 7), (3, 0), (8, 18), (3, 0), (8, 18), (3, 0), (8, 18), (2, 0), (8, 88), (5, 0), (1, 0), (8, 3), (8, 3), (8, 7), (8, 7), (3, 0), (8, 18), (3, 0), (8, 18), (3, 0), (8, 18), (2, 0), (8, 88), (10, 2), (4, 0), (9, 150), (0, 0), (8, 275), (8, 25), (8, 625), (1, 0), (8, 3), (8, 3), (8, 7), (8, 7), (1, 0), (8, 3), (8, 3), (8, 7), (8, 7), (1, 0), (8, 3), (8, 3), (8, 7), (8, 7), (8, 6), (8, 30), (8, 25), (7, 0), (8, 3), (8, 3), (8, 3), (8, 7), (8, 7), (8, 10), (8, 18), (8, 18), (8, 150), (8, 170), (8, 88), (8, 22), (8, 275), (8, 25), (8, 340), (8, 2)]
def mKd (k : Nat) : Nat := (mT.getD k (99, 0)).1
def mLn (k : Nat) : Nat := (mT.getD k (99, 0)).2
/-- the fields of a class: 0 int, 1 long, 2 reference -/
def mTg : Nat → List Nat
  | 0 => [2, 2, 2, 0, 0, 0, 0, 0]
  | 1 => [2, 2, 2, 2, 0, 0, 0]
  | 2 => [2, 0]
  | 3 => [0, 0, 2, 0]
  | 4 => [2, 0, 0, 0, 0, 0, 0, 0, 0]
  | 5 => [2, 2, 2, 2, 2, 0]
  | 6 => [2, 2, 2, 2, 2, 2, 2, 2, 2, 2, 2, 2, 0, 0, 0, 0, 0]
  | 7 => [2, 0, 0, 0, 0, 0, 0, 0, 2, 2, 2, 2, 2, 2, 2, 2, 0, 0, 0, 2, 2, 0, 2, 2, 2, 1, 1, 2, 2, 1]
  | _ => []
def mA (base : Nat) (x : Int32) : Nat := base + x.toNatClampNeg
def mRv (base : Nat) (x : Int32) : Option Nat := if x < 0 then none else some (mA base x)
def mVl (base : Nat) (M : Nat → Int32) (L : Nat → Int64) (t j : Nat) : Value := if t = 0 then .int (M j) else if t = 1 then .long (L j) else va_rf (mRv base (M j))
def mFs (base : Nat) (M : Nat → Int32) (L : Nat → Int64) (ci : Nat) : List Value := (mTg ci).mapIdx (fun j t => mVl base M L t j)
def mEl (dA : Nat → ClassId) (base : Nat) (S : mS) (k : Nat) : va_E :=
  if mKd k < 8 then .inr (mKd k, mFs base (S.2.1 k) (S.2.2 k) (mKd k))
  else if mKd k < 11 then .inl (dA (mKd k), (mLn k, .inl (S.2.1 k)))
  else .inl (dA 11, (mLn k, .inr (.inr (.inr (.inr (fun j => mRv base (S.2.1 k j)))))))
def mW (dA : Nat → ClassId) (base : Nat) (S : mS) : va_W := (List.range S.1).map (fun k => (base + k, mEl dA base S k))
def mTy (dA : Nat → ClassId) : List (ClassId × FieldType) := [(dA 8, .int), (dA 9, .byte), (dA 10, .boolean), (dA 11, .object RX5)]
theorem mW_at {dA : Nat → ClassId} {base : Nat} {S : mS} {k : Nat} (hk : k < S.1) : (mW dA base S)[k]? = some (base + k, mEl dA base S k) := by
  simp [mW, hk]
theorem mW_inv {dA : Nat → ClassId} {base : Nat} {S : mS} {k : Nat} {q : Nat × va_E} (h : (mW dA base S)[k]? = some q) : k < S.1 ∧ q = (base + k, mEl dA base S k) := by
  have hk : k < S.1 := by
    have := (List.getElem?_eq_some_iff.mp h).1
    simpa [mW] using this
  rw [mW_at hk] at h
  exact ⟨hk, (Option.some.inj h).symm⟩
theorem mW_D {dA : Nat → ClassId} {base : Nat} {S : mS} : va_D (fun q => base ≤ q) (mW dA base S) := by
  refine ⟨fun i j p q hi hj hpq => ?_, fun k q hk => ?_⟩
  · obtain ⟨-, rfl⟩ := mW_inv hi
    obtain ⟨-, rfl⟩ := mW_inv hj
    simp only at hpq
    omega
  · obtain ⟨-, rfl⟩ := mW_inv hk
    exact Nat.le_add_right _ _
theorem mW_set {dA : Nat → ClassId} {base : Nat} {S S' : mS} {k : Nat} {e : va_E} (h1 : S'.1 = S.1) (hk : k < S.1) (he : e = mEl dA base S' k) (ho : ∀ j, j ≠ k → mEl dA base S' j = mEl dA base S j) : (mW dA base S).set k (base + k, e) = mW dA base S' := by
  subst he
  apply List.ext_getElem?
  intro j
  by_cases hj : j < S.1
  · by_cases hjk : j = k
    · subst hjk
      rw [List.getElem?_set_self (by simpa [mW] using hj), mW_at (h1 ▸ hj)]
    · rw [List.getElem?_set_ne (Ne.symm hjk), mW_at hj, mW_at (h1 ▸ hj), ho j hjk]
  · rw [List.getElem?_eq_none (by simpa [mW] using Nat.not_lt.mp hj), List.getElem?_eq_none (by simpa [mW, h1] using Nat.not_lt.mp hj)]
theorem mFs_at {base : Nat} {M : Nat → Int32} {L : Nat → Int64} {ci j t : Nat} (h : (mTg ci)[j]? = some t) : (mFs base M L ci)[j]? = some (mVl base M L t j) := by
  rw [mFs, List.getElem?_mapIdx, h]
  rfl
theorem mFs_len {base : Nat} {M : Nat → Int32} {L : Nat → Int64} {ci : Nat} : (mFs base M L ci).length = (mTg ci).length := List.length_mapIdx
theorem mFs_set {base : Nat} {M M' : Nat → Int32} {L L' : Nat → Int64} {ci j t : Nat} {v : Value} (h : (mTg ci)[j]? = some t) (hv : v = mVl base M' L' t j) (ho : ∀ i t, i ≠ j → mVl base M' L' t i = mVl base M L t i) : (mFs base M L ci).set j v = mFs base M' L' ci := by
  subst hv
  have hl : j < (mFs base M L ci).length := by rw [mFs_len]; exact (List.getElem?_eq_some_iff.mp h).1
  apply List.ext_getElem?
  intro i
  by_cases hij : i = j
  · subst hij
    rw [List.getElem?_set_self hl, mFs_at h]
  · rw [List.getElem?_set_ne (Ne.symm hij)]
    cases hi : (mTg ci)[i]? with
    | none =>
      have h1 : (mTg ci).length ≤ i := List.getElem?_eq_none_iff.mp hi
      rw [List.getElem?_eq_none (by rw [mFs_len]; exact h1), List.getElem?_eq_none (by rw [mFs_len]; exact h1)]
    | some t => rw [mFs_at hi, mFs_at hi, ho i t hij]
/-! what is done to it -/
def mRow (S : mS) (k : Nat) (f : Nat → Int32) : mS := (S.1, (fun q => if q = k then f else S.2.1 q, S.2.2))
def mPut (S : mS) (k j : Nat) (v : Int32) : mS := mRow S k (upd (S.2.1 k) j v)
def mPutL (S : mS) (k j : Nat) (v : Int64) : mS := (S.1, (S.2.1, fun q => if q = k then (fun i => if i = j then v else S.2.2 k i) else S.2.2 q))
def mDf (kd j : Nat) : Int32 := if (mTg kd)[j]? = some 2 ∨ kd = 11 then -1 else 0
def mNew (S : mS) : mS := (S.1 + 1, (fun q => if q = S.1 then mDf (mKd S.1) else S.2.1 q, fun q => if q = S.1 then (fun _ => 0) else S.2.2 q))
def mIs (kd : Nat) (x : Int32) (S : mS) : Bool := decide (¬ x < 0) && (decide (x.toNatClampNeg < S.1) && decide (mKd x.toNatClampNeg = kd))
def mIn (i : Int32) (n : Nat) : Bool := decide (¬ i < 0) && decide (i.toNatClampNeg < n)
def mG {ρ : Type} (ci j : Nat) (x : Int32) (S : mS) (k : Int32 → Option ρ) : Option ρ := if mIs ci x S then k (S.2.1 x.toNatClampNeg j) else none
def mGr {ρ : Type} (ci j : Nat) (x : Int32) (S : mS) (k : Int32 → Option ρ) : Option ρ := if mIs ci x S then (if S.2.1 x.toNatClampNeg j < 0 then none else k (S.2.1 x.toNatClampNeg j)) else none
def mGl {ρ : Type} (ci j : Nat) (x : Int32) (S : mS) (k : Int64 → Option ρ) : Option ρ := if mIs ci x S then k (S.2.2 x.toNatClampNeg j) else none
def mP {ρ : Type} (ci j : Nat) (x v : Int32) (S : mS) (k : mS → Option ρ) : Option ρ := if mIs ci x S then k (mPut S x.toNatClampNeg j v) else none
def mPr {ρ : Type} (ci j : Nat) (x v : Int32) (S : mS) (k : mS → Option ρ) : Option ρ := if mIs ci x S then (if v < 0 then none else k (mPut S x.toNatClampNeg j v)) else none
def mPl {ρ : Type} (ci j : Nat) (x : Int32) (v : Int64) (S : mS) (k : mS → Option ρ) : Option ρ := if mIs ci x S then k (mPutL S x.toNatClampNeg j v) else none
/-- array reads: of kind kd; of references -/
def mX {ρ : Type} (kd : Nat) (x i : Int32) (S : mS) (k : Int32 → Option ρ) : Option ρ := if mIs kd x S && mIn i (mLn x.toNatClampNeg) then k (S.2.1 x.toNatClampNeg i.toNatClampNeg) else none
def mXr {ρ : Type} (x i : Int32) (S : mS) (k : Int32 → Option ρ) : Option ρ := if mIs 11 x S && mIn i (mLn x.toNatClampNeg) then (if S.2.1 x.toNatClampNeg i.toNatClampNeg < 0 then none else k (S.2.1 x.toNatClampNeg i.toNatClampNeg)) else none
def mXs {ρ : Type} (x i v : Int32) (S : mS) (k : mS → Option ρ) : Option ρ := if mIs 8 x S && mIn i (mLn x.toNatClampNeg) then k (mPut S x.toNatClampNeg i.toNatClampNeg v) else none
def mXb {ρ : Type} (x i v : Int32) (S : mS) (k : mS → Option ρ) : Option ρ := if mIs 9 x S && mIn i (mLn x.toNatClampNeg) then k (mPut S x.toNatClampNeg i.toNatClampNeg (vp_nar .byte v)) else none
def mXz {ρ : Type} (x i v : Int32) (S : mS) (k : mS → Option ρ) : Option ρ := if mIs 10 x S && mIn i (mLn x.toNatClampNeg) then k (mPut S x.toNatClampNeg i.toNatClampNeg (vp_nar .boolean v)) else none
def mXq {ρ : Type} (x i v : Int32) (S : mS) (k : mS → Option ρ) : Option ρ := if mIs 11 x S && mIn i (mLn x.toNatClampNeg) && mIs 5 v S then k (mPut S x.toNatClampNeg i.toNatClampNeg v) else none
def mLe {ρ : Type} (kd : Nat) (x : Int32) (S : mS) (k : Int32 → Option ρ) : Option ρ := if mIs kd x S then k (Int32.ofNat (mLn x.toNatClampNeg)) else none
def mCy {ρ : Type} (x sp y dp n : Int32) (S : mS) (k : mS → Option ρ) : Option ρ := if mIs 8 x S && mIs 8 y S && (decide (¬ sp < 0) && decide (¬ dp < 0) && decide (¬ n < 0)) && (decide (sp.toNatClampNeg + n.toNatClampNeg ≤ mLn x.toNatClampNeg) && decide (dp.toNatClampNeg + n.toNatClampNeg ≤ mLn y.toNatClampNeg)) then k (mRow S y.toNatClampNeg (va_cpy (S.2.1 x.toNatClampNeg) (S.2.1 y.toNatClampNeg) sp.toNatClampNeg dp.toNatClampNeg n.toNatClampNeg)) else none
def mNw {ρ : Type} (kd : Nat) (S : mS) (k : Int32 → mS → Option ρ) : Option ρ := if decide (mKd S.1 = kd) && decide (S.1 < 100) then k (Int32.ofNat S.1) (mNew S) else none
def mNa {ρ : Type} (kd : Nat) (n : Int32) (S : mS) (k : Int32 → mS → Option ρ) : Option ρ := if decide (mKd S.1 = kd) && decide (S.1 < 100) && (decide (¬ n < 0) && decide (n.toNatClampNeg = mLn S.1)) then k (Int32.ofNat S.1) (mNew S) else none
/-- calls -/
def mC {α ρ : Type} (e : Option (α × mS)) (k : α → mS → Option ρ) : Option ρ := match e with
  | some r => k r.1 r.2
  | none => none
def mCv {ρ : Type} (e : Option mS) (k : mS → Option ρ) : Option ρ := match e with
  | some r => k r
  | none => none
def mCp {α ρ : Type} (e : Option α) (k : α → Option ρ) : Option ρ := match e with
  | some r => k r
  | none => none
def mRc {ρ : Type} (ci : Nat) (x : Int32) (S : mS) (e : Option ρ) : Option ρ := if mIs ci x S then e else none
def mNz {ρ : Type} (y : Int32) (e : Option ρ) : Option ρ := if y = 0 then none else e
def mNzL {ρ : Type} (y : Int64) (e : Option ρ) : Option ρ := if y = 0 then none else e
def mZ {ρ : Type} (v : Int32) (e : Option ρ) : Option ρ := if v &&& 1 = v then e else none
def mRem (x y : Int32) : Int32 := x - x / y * y
def mRemL (x y : Int64) : Int64 := x - x / y * y
def mMax (x y : Int32) : Int32 := if x < y then y else x
def mMin (x y : Int32) : Int32 := if y < x then y else x
def mAbs (x : Int32) : Int32 := if 0 ≤ x then x else 0 - x
def mShu (x y : Int32) : Int32 := (x.toUInt32 >>> (y.toUInt32 &&& Int32.toUInt32 31)).toInt32
