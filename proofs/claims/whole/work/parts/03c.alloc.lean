/-! MAKING: new, newarray, anewarray; a constructor's Object.<init> -/
theorem mA_n (b n : Nat) (h : n < 100) : mA b (Int32.ofNat n) = b + n := by
  unfold mA
  rw [show (Int32.ofNat n).toNatClampNeg = n from nI_clamp (n := n) (by omega)]
theorem mNew_old {dA : Nat → ClassId} {b : Nat} {S : mS} {k : Nat} (h : k < S.1) : mEl dA b (mNew S) k = mEl dA b S k := by
  have e1 : (mNew S).2.1 k = S.2.1 k := by simp [mNew, Nat.ne_of_lt h]
  have e2 : (mNew S).2.2 k = S.2.2 k := by simp [mNew, Nat.ne_of_lt h]
  simp only [mEl, e1, e2]
theorem mNew_self {S : mS} : (mNew S).2.1 S.1 = mDf (mKd S.1) := by simp [mNew]
theorem mNew_selfL {S : mS} : (mNew S).2.2 S.1 = fun _ => 0 := by simp [mNew]
theorem mW_new {dA : Nat → ClassId} {b : Nat} {S : mS} : mW dA b (mNew S) = mW dA b S ++ [(b + S.1, mEl dA b (mNew S) S.1)] := by
  have e : (mNew S).1 = S.1 + 1 := rfl
  rw [mW, e, List.range_succ, List.map_append, mW]
  congr 1
  apply List.map_congr_left
  intro k hk
  rw [mNew_old (List.mem_range.mp hk)]
theorem mNew_el {dA : Nat → ClassId} {b : Nat} {S : mS} {ci : Nat} (h : mKd S.1 = ci) (hc : ci < 8) : mEl dA b (mNew S) S.1 = .inr (ci, mFs b (mDf ci) (fun _ => 0) ci) := by
  rw [mEl_o h hc, mNew_self, mNew_selfL, h]
theorem mDf_arr {kd : Nat} (h : 8 ≤ kd) (h2 : kd < 11) : mDf kd = fun _ => 0 := by
  funext j
  have e : mTg kd = [] := by rcases (show kd = 8 ∨ kd = 9 ∨ kd = 10 by omega) with rfl | rfl | rfl <;> rfl
  unfold mDf
  rw [e, if_neg]
  simp
  omega
theorem mDf_q : mDf 11 = fun _ => -1 := by
  funext j
  unfold mDf
  rw [if_pos (Or.inr rfl)]
/-- what stands in a new object: as its fields' types have it -/
def mDv (ci N : Nat) (ty : Nat → FieldType) : Bool := (List.range N).all fun j => match (mTg ci)[j]? with
  | some 0 => decide (ty j = .int)
  | some 1 => decide (ty j = .long)
  | some 2 => decide (defaultValue (ty j) = .null)
  | _ => false
theorem mDv_use {ci N : Nat} {ty : Nat → FieldType} (h : mDv ci N ty = true) (b j : Nat) (hj : j < N) : defaultValue (ty j) = vp_V (mFs b (mDf ci) (fun _ => 0) ci) j := by
  have h1 := List.all_eq_true.mp h j (List.mem_range.mpr hj)
  unfold vp_V
  rw [List.getD_eq_getElem?_getD]
  split at h1
  · next g =>
    rw [mFs_at g, of_decide_eq_true h1]
    show _ = mVl b (mDf ci) (fun _ => 0) 0 j
    rw [mVl, if_pos rfl]
    unfold mDf
    rw [g]
    by_cases h11 : ci = 11
    · subst h11; cases g
    · rw [if_neg]
      · rfl
      · simp [h11]
  · next g =>
    rw [mFs_at g, of_decide_eq_true h1]
    rfl
  · next g =>
    rw [mFs_at g, of_decide_eq_true h1]
    show _ = mVl b (mDf ci) (fun _ => 0) 2 j
    rw [mVl, if_neg (by decide), if_neg (by decide)]
    unfold mDf
    rw [g, if_pos (Or.inl rfl)]
    rfl
  · cases h1
section MN
variable {p : Program} {l : Launch} {e : Env} {R : Room} {s : State} {m : MethodId} {args : Array Value} {below : List Frame} {meth : Method} {c : Code} {H : Heap} {locs : List Loc} {cells slots : Nat} {Q : State → Prop}
variable {cc : ByteArray} {pc nL n0 : Nat} {ls : Array Slot} {rest : List Value} {own : String} {ret : Option FieldType} {E : mE} {S : mS} {ρ : Type} {F : ρ}
/-- the new cell's place is the next one -/
theorem m_place {q : Nat} {el : va_E} {H1 : Heap} (hI : mIv s E S H locs cells) (hP : va_P E.D vwCl (mW E.dA E.b S ++ [(q, el)]) H1) (hD : va_D (mBa E) (mW E.dA E.b S ++ [(q, el)])) (hz : H1.size ≤ s.heap.size + (cells + 1)) : q = E.b + S.1 := by
  have hlen : (mW E.dA E.b S).length = S.1 := by simp [mW]
  have hq : (mW E.dA E.b S ++ [(q, el)])[S.1]? = some (q, el) := by
    rw [List.getElem?_append_right (by omega), hlen, Nat.sub_self]
    rfl
  have h1 : q < H1.size := (hP _ _ hq).lt
  have h2 : E.b ≤ q := hD.2 _ _ hq
  have h3 := hI.1.1
  rcases Nat.lt_or_ge q (E.b + S.1) with h | h
  · have hk : (mW E.dA E.b S ++ [(q, el)])[q - E.b]? = some (E.b + (q - E.b), mEl E.dA E.b S (q - E.b)) := by
      rw [List.getElem?_append_left (by omega), mW_at (by omega)]
    have := hD.1 (q - E.b) S.1 _ _ hk hq (by show E.b + (q - E.b) = q; omega)
    omega
  · omega
theorem m_size2 {H1 : Heap} {k n : Nat} {g : JFrame} (h : H1.size ≤ s.heap.size + k → W p l e R s m args below meth c H1 locs k n Q g) : W p l e R s m args below meth c H1 locs k n Q g := by
  intro T hT X
  refine h ?_ T hT X
  have := X.same.2.2.1
  rw [← hT]
  exact this
def mNwW (own : String) (idx : Nat) (Cn : String) (N : Nat) : Prop := Cond.classLink own idx Cn ∈ wsL_law ∧ Cond.instantiable Cn N ∈ wsL_law ∧ Cond.initialized Cn ∈ wsL_law
theorem m_new (C : mCx p s m args meth c cc nL own ret E n0) {idx ci : Nat} {Cn : String} {T : u_T} {N : Nat} {ty : Nat → FieldType} (hw : mNwW own idx Cn N) (cl : mCl ci Cn T N ty) (hdv : mDv ci N ty = true) (hI : mIv s E S H locs cells) {k : Int32 → mS → Option ρ} (hF : mNw ci S k = some F) (hcells : cells + 1 ≤ R.cells) (hslots : slots + N ≤ R.slots) (hdg : decode cc pc = .ok (.new idx, 3))
    (kk : ∀ (x : Int32) (S' : mS) (H1 : Heap), k x S' = some F → mIv s E S' H1 locs (cells + 1) → W p l e R s m args below meth c H1 locs (cells + 1) (slots + N) Q (F0 m (pc + 3) ls (.ref (mA E.b x) :: rest))) : W p l e R s m args below meth c H locs cells slots Q (F0 m pc ls rest) := by
  obtain ⟨hc, hin, hty, -, h8, -⟩ := cl
  by_cases h : (decide (mKd S.1 = ci) && decide (S.1 < 100)) = true
  · rw [mNw, if_pos h] at hF
    simp only [Bool.and_eq_true, decide_eq_true_eq] at h
    refine va_new (ci := ci) (fs := mFs E.b (mDf ci) (fun _ => 0) ci) C.1 C.2.1 C.2.2.2.2.1 hin ty hty C.2.2.2.1 (C.2.2.2.2.1 _ hw.1) (C.2.2.2.2.1 _ hw.2.1) (C.2.2.2.2.1 _ hw.2.2) C.2.2.2.2.2.2.2.1 hI.2.1 mW_D hI.2.2 (fun q hq => Nat.le_trans hI.1.2 hq) hc (mDv_use hdv E.b) hcells hslots hdg (fun q H1 hP hD hS => ?_)
    refine m_size2 fun hz => ?_
    have hq : q = E.b + S.1 := m_place hI hP hD hz
    subst hq
    rw [← mA_n E.b S.1 h.2]
    refine kk _ _ H1 hF ⟨⟨?_, hI.1.2⟩, ?_, hS⟩
    · have := hI.1.1
      show E.b + (S.1 + 1) = _
      omega
    · rw [mW_new, mNew_el h.1 h8]
      exact hP
  · rw [mNw, if_neg h] at hF; cases hF
theorem m_newa (C : mCx p s m args meth c cc nL own ret E n0) {atype : ArrayType} {kd : Nat} {ty : FieldType} (harr : Cond.arrayClass (newarray.typeOf atype) ∈ wsL_law) (hty : newarray.typeOf atype = ty) (hkd : (mTy E.dA)[kd - 8]? = some (E.dA kd, ty) ∧ 8 ≤ kd ∧ kd < 11 ∧ defaultValue ty = .int 0 ∧ componentBytes ty ≤ 4) (hcl : ∀ (U : State) (cA : ClassId), va_RA U cA ty → U.vm.findClass ("[" ++ ty.toString) = some cA) {n : Int32} {N : Nat} (hN : n.toNatClampNeg = N) (hN2 : N ≤ 1000) (hI : mIv s E S H locs cells) {k : Int32 → mS → Option ρ} (hF : mNa kd n S k = some F) (hcells : cells + 1 ≤ R.cells) (hslots : slots + N ≤ R.slots) (hdg : decode cc pc = .ok (.newarray atype, 2))
    (kk : ∀ (x : Int32) (S' : mS) (H1 : Heap), k x S' = some F → mIv s E S' H1 locs (cells + 1) → W p l e R s m args below meth c H1 locs (cells + 1) (slots + N) Q (F0 m (pc + 2) ls (.ref (mA E.b x) :: rest))) : W p l e R s m args below meth c H locs cells slots Q (F0 m pc ls (.int n :: rest)) := by
  obtain ⟨k1, k2, k3, k4, k5⟩ := hkd
  by_cases h : (decide (mKd S.1 = kd) && decide (S.1 < 100) && (decide (¬ n < 0) && decide (n.toNatClampNeg = mLn S.1))) = true
  · rw [mNa, if_pos h] at hF
    simp only [Bool.and_eq_true, decide_eq_true_eq] at h
    refine va_newa (a0 := (N, .inl (fun _ => 0))) (ty := ty) C.1 C.2.1 (C.2.2.2.2.1 _ harr) hty C.2.2.2.2.2.2.2.1 hI.2.1 mW_D hI.2.2 (fun q hq => Nat.le_trans hI.1.2 hq) (fun cA => by rw [vp_cell_i, k4]) h.2.1 hN (Nat.le_trans (Nat.mul_le_mul hN2 k5) (by decide)) hcells hslots hdg (fun q cA H1 hK hP hD hS => ?_)
    have hcA : cA = E.dA kd := by
      have e1 := (hK.2 4 (cA, ty) rfl).2
      have e2 := (C.2.2.2.2.2.2.2.1.2 _ _ k1).2
      exact Option.some.inj ((hcl s cA e1).symm.trans (hcl s _ e2))
    subst hcA
    refine m_size2 fun hz => ?_
    have hq : q = E.b + S.1 := m_place hI hP hD hz
    subst hq
    rw [← mA_n E.b S.1 h.1.2]
    refine kk _ _ H1 hF ⟨⟨?_, hI.1.2⟩, ?_, hS⟩
    · have := hI.1.1
      show E.b + (S.1 + 1) = _
      omega
    · rw [mW_new, mEl_i h.1.1 k2 k3, mNew_self, h.1.1, mDf_arr k2 k3, ← h.2.2, hN]
      exact hP
  · rw [mNa, if_neg h] at hF; cases hF
theorem m_newq (C : mCx p s m args meth c cc nL own ret E n0) {idx : Nat} (hw : Cond.classLink own idx RX5 ∈ wsL_law) {n : Int32} {N : Nat} (hN : n.toNatClampNeg = N) (hN2 : N ≤ 1000) (hI : mIv s E S H locs cells) {k : Int32 → mS → Option ρ} (hF : mNa 11 n S k = some F) (hcells : cells + 1 ≤ R.cells) (hslots : slots + N ≤ R.slots) (hdg : decode cc pc = .ok (.anewarray idx, 3))
    (kk : ∀ (x : Int32) (S' : mS) (H1 : Heap), k x S' = some F → mIv s E S' H1 locs (cells + 1) → W p l e R s m args below meth c H1 locs (cells + 1) (slots + N) Q (F0 m (pc + 3) ls (.ref (mA E.b x) :: rest))) : W p l e R s m args below meth c H locs cells slots Q (F0 m pc ls (.int n :: rest)) := by
  by_cases h : (decide (mKd S.1 = 11) && decide (S.1 < 100) && (decide (¬ n < 0) && decide (n.toNatClampNeg = mLn S.1))) = true
  · rw [mNa, if_pos h] at hF
    simp only [Bool.and_eq_true, decide_eq_true_eq] at h
    refine va_newq C.1 C.2.1 C.2.2.2.1 (C.2.2.2.2.1 _ hw) C.2.2.2.2.2.2.2.2.1.2.2 C.2.2.2.2.2.2.2.1 hI.2.1 mW_D hI.2.2 (fun q hq => Nat.le_trans hI.1.2 hq) h.2.1 hN (by omega) hcells hslots hdg (fun q cA H1 hK hP hD hS => ?_)
    have hcA : cA = E.dA 11 := by
      obtain ⟨-, -, -, -, -, e1⟩ := (hK.2 4 (cA, .object RX5) rfl).2
      obtain ⟨-, -, -, -, -, e2⟩ := (C.2.2.2.2.2.2.2.1.2 3 (E.dA 11, .object RX5) rfl).2
      exact Option.some.inj (e1.symm.trans e2)
    subst hcA
    refine m_size2 fun hz => ?_
    have hq : q = E.b + S.1 := m_place hI hP hD hz
    subst hq
    rw [← mA_n E.b S.1 h.1.2]
    refine kk _ _ H1 hF ⟨⟨?_, hI.1.2⟩, ?_, hS⟩
    · have := hI.1.1
      show E.b + (S.1 + 1) = _
      omega
    · rw [mW_new, mEl_q h.1.1, mNew_self, h.1.1, mDf_q, ← h.2.2, hN]
      exact hP
  · rw [mNa, if_neg h] at hF; cases hF
def mObW (own : String) (idx : Nat) : Prop := Cond.methodLink own idx Lib.objectInit ∈ wsL_law ∧ Cond.instanceMethod Lib.objectInit ∈ wsL_law ∧ Cond.code Lib.objectInit ⟨#[0xb1]⟩ 1 none ∈ wsL_law
theorem m_objInit (C : mCx p s m args meth c cc nL own ret E n0) {idx : Nat} (hw : mObW own idx) (hl : ls.size = nL) {a : Nat} (hf : 1 ≤ R.frames) (hlo : (rest.map fun v => v.category).sum + 12 ≤ R.locals) (hdg : decode cc pc = .ok (.invokespecial idx, 3)) (kk : W p l e R s m args below meth c H locs cells slots Q (F0 m (pc + 3) ls rest)) : W p l e R s m args below meth c H locs cells slots Q (F0 m pc ls (.ref a :: rest)) :=
  W.objInit C.1 C.2.1 C.2.2.2.1 (C.2.2.2.2.1 _ hw.1) (C.2.2.2.2.1 _ hw.2.1) (C.2.2.2.2.1 _ hw.2.2) rfl (hl.trans C.2.2.1.symm) rfl hdg hf (by show 2 * 0 + _ + 12 ≤ _; omega) kk
end MN
