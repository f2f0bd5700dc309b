/-! THE ROWS over that memory: each takes 'the pure function is some F' apart by one instruction. -/
abbrev mE : Type := va_G × ((Nat → ClassId) × (Nat × ((Nat → Nat) × (Nat → Nat))))
abbrev mE.D (E : mE) : va_G := E.1
abbrev mE.dA (E : mE) : Nat → ClassId := E.2.1
abbrev mE.b (E : mE) : Nat := E.2.2.1
abbrev mE.adK (E : mE) : Nat → Nat := E.2.2.2.1
abbrev mE.adV (E : mE) : Nat → Nat := E.2.2.2.2
abbrev mBa (E : mE) : Nat → Prop := fun q => E.b ≤ q
/-- the words of nest mates -/
def mNeM : List (String × Nat × MethodName) := [(RX6, 11, yX5_init), (RX5, 11, yX1_init), (RX5, 35, yX2_init), (RX6, 29, yX4_init), (RX6, 36, yX0_init), (RX6, 43, yX1_init), (RX4, 87, yX6_isWithin), (RX4, 80, yX6_isCell), (RX1, 40, yX6_isWithin), (RX4, 91, yX6_isKind), (RX4, 94, yX6_isCall), (RX1, 48, yX6_whistleReach), (RX1, 52, yX6_moved), (RX1, 62, yX6_givenWay), (RX0, 101, yX6_givenWay), (RX0, 98, yX6_hasBit), (RX0, 104, yX6_whistleReach), (RX0, 95, yX6_moved), (RX1, 74, yX6_farBetween), (RX3, 31, yX6_isWithin)]
def mNeF : List (String × Nat × String × String × String) := []
def mNn (U : State) : Prop := (∀ q ∈ mNeM, va_Nw (.methodLinkNest q.1 q.2.1 q.2.2 "WhistleFlock") U) ∧ (∀ q ∈ mNeF, va_Nw (.fieldLinkNest q.1 q.2.1 q.2.2.1 q.2.2.2.1 q.2.2.2.2 "WhistleFlock") U) ∧ va_AO RX5 U
/-- the texts of nameOf, and two statics of the library -/
def mSl : List Nat := [4, 7, 5, 4, 5]
def mSb : List (List Int32) := [[102, 101, 108, 108], [119, 104, 105, 115, 116, 108, 101], [115, 104, 101, 101, 112], [99, 97, 108, 108], [115, 116, 101, 112, 115]]
def mSt (E : mE) (U : State) (H : Heap) : Prop :=
  vk_S 5 mSl mSb E.adK E.adV (mBa E) U H ∧ (vk_R RX4 143 "fell" (E.adK 0) U ∧ vk_R RX4 145 "whistle" (E.adK 1) U ∧ vk_R RX4 147 "sheep" (E.adK 2) U ∧ vk_R RX4 149 "call" (E.adK 3) U ∧ vk_R RX4 150 "steps" (E.adK 4) U) ∧
  va_Z "java/lang/String" "COMPACT_STRINGS" "Z" (.int 1) (mBa E) U H ∧ va_Zq "jdk/internal/util/Preconditions" "SIOOBE_FORMATTER" "Ljava/util/function/BiFunction;" (mBa E) U H
def mHp (E : mE) (S : mS) (H : Heap) : Prop := H.size = E.b + S.1 ∧ va_P E.D vwCl (mW E.dA E.b S) H
def mPre (E : mE) (S : mS) (U : State) : Prop := mHp E S U.heap ∧ va_K E.D vwCl (mTy E.dA) U ∧ mNn U ∧ mSt E U U.heap
def mPo (E : mE) (S : mS) (t : State) : Prop := mHp E S t.heap
def mMi (l : Launch) (y : MethodName) (cc : ByteArray) (n : Nat) (ret : Option FieldType) (rm : Room) (mc ms : Nat) (av : List Value) (E : mE) (S : mS) (F : Int32 × mS) : Prop :=
  Met l y (Cond.code y cc n ret :: wsL_law) rm (va_Pc av (mPre E S)) (va_Qi (fun r u => r = F.1 ∧ u = F.2 ∧ u.1 = S.1 + mc) (mPo E) (mBa E)) mc ms (mBa E)
def mMl (l : Launch) (y : MethodName) (cc : ByteArray) (n : Nat) (ret : Option FieldType) (rm : Room) (mc ms : Nat) (av : List Value) (E : mE) (S : mS) (F : Int64 × mS) : Prop :=
  Met l y (Cond.code y cc n ret :: wsL_law) rm (va_Pc av (mPre E S)) (va_Ql (fun r u => r = F.1 ∧ u = F.2 ∧ u.1 = S.1 + mc) (mPo E) (mBa E)) mc ms (mBa E)
def mMv (l : Launch) (y : MethodName) (cc : ByteArray) (n : Nat) (ret : Option FieldType) (rm : Room) (mc ms : Nat) (av : List Value) (E : mE) (S : mS) (F : mS) : Prop :=
  Met l y (Cond.code y cc n ret :: wsL_law) rm (va_Pc av (mPre E S)) (va_Qv (fun u => u = F ∧ u.1 = S.1 + mc) (mPo E) (mBa E)) mc ms (mBa E)
abbrev mQi (below : List Frame) (args : Array Value) (s : State) (mc ms n0 : Nat) (E : mE) (F : Int32 × mS) : State → Prop := MQ below (va_Qi (fun r u => r = F.1 ∧ u = F.2 ∧ u.1 = n0 + mc) (mPo E) (mBa E)) args s mc ms (mBa E)
abbrev mQl (below : List Frame) (args : Array Value) (s : State) (mc ms n0 : Nat) (E : mE) (F : Int64 × mS) : State → Prop := MQ below (va_Ql (fun r u => r = F.1 ∧ u = F.2 ∧ u.1 = n0 + mc) (mPo E) (mBa E)) args s mc ms (mBa E)
abbrev mQv (below : List Frame) (args : Array Value) (s : State) (mc ms n0 : Nat) (E : mE) (F : mS) : State → Prop := MQ below (va_Qv (fun u => u = F ∧ u.1 = n0 + mc) (mPo E) (mBa E)) args s mc ms (mBa E)
/-- what holds in a method's body all along -/
def mCx (p : Program) (s : State) (m : MethodId) (args : Array Value) (meth : Method) (c : Code) (cc : ByteArray) (nL : Nat) (own : String) (ret : Option FieldType) (E : mE) (n0 : Nat) : Prop :=
  p.tables.exec = Jvm.exec ∧ c.code = cc ∧ c.maxLocals = nL ∧ s.vm.findClass own = some m.cls ∧ (∀ w ∈ wsL_law, w.before args s = true) ∧ meth.locks = false ∧ meth.sig.returnType = ret ∧ va_K E.D vwCl (mTy E.dA) s ∧ mNn s ∧ mSt E s s.heap ∧ E.b + n0 = s.heap.size
/-- the heap, now -/
def mIv (s : State) (E : mE) (S : mS) (H : Heap) (locs : List Loc) (cells : Nat) : Prop := (E.b + S.1 = s.heap.size + cells ∧ E.b ≤ s.heap.size) ∧ va_P E.D vwCl (mW E.dA E.b S) H ∧ va_S (mBa E) s.heap H locs
theorem mRf_val {b : Nat} {x : Int32} (h : ¬ x < 0) : va_rf (mRv b x) = .ref (mA b x) := by
  rw [mRv, if_neg h]; rfl
theorem mIs_spec {kd : Nat} {x : Int32} {S : mS} (h : mIs kd x S = true) : ¬ x < 0 ∧ x.toNatClampNeg < S.1 ∧ mKd x.toNatClampNeg = kd := by
  simp only [mIs, Bool.and_eq_true, decide_eq_true_eq] at h
  exact h
theorem mIn_spec {i : Int32} {n : Nat} (h : mIn i n = true) : vp_in i n := by
  simp only [mIn, Bool.and_eq_true, decide_eq_true_eq] at h
  exact fun q => q.elim h.1 (fun z => Nat.not_le.mpr h.2 z)
theorem mEl_o {dA : Nat → ClassId} {b : Nat} {S : mS} {k ci : Nat} (h : mKd k = ci) (hc : ci < 8) : mEl dA b S k = .inr (ci, mFs b (S.2.1 k) (S.2.2 k) ci) := by
  rw [mEl, if_pos (by rw [h]; exact hc), h]
theorem mEl_i {dA : Nat → ClassId} {b : Nat} {S : mS} {k kd : Nat} (h : mKd k = kd) (h1 : 8 ≤ kd) (h2 : kd < 11) : mEl dA b S k = .inl (dA kd, (mLn k, .inl (S.2.1 k))) := by
  rw [mEl, if_neg (by omega), if_pos (by omega), h]
theorem mEl_q {dA : Nat → ClassId} {b : Nat} {S : mS} {k : Nat} (h : mKd k = 11) : mEl dA b S k = .inl (dA 11, (mLn k, .inr (.inr (.inr (.inr (fun j => mRv b (S.2.1 k j))))))) := by
  rw [mEl, if_neg (by omega), if_neg (by omega)]
theorem mRow_other {dA : Nat → ClassId} {b : Nat} {S : mS} {k j : Nat} {f : Nat → Int32} (h : j ≠ k) : mEl dA b (mRow S k f) j = mEl dA b S j := by
  have e : (mRow S k f).2.1 j = S.2.1 j := by simp [mRow, h]
  have e2 : (mRow S k f).2.2 = S.2.2 := rfl
  simp only [mEl, e, e2]
theorem mRow_self {S : mS} {k : Nat} {f : Nat → Int32} : (mRow S k f).2.1 k = f := by simp [mRow]
theorem mPutL_other {dA : Nat → ClassId} {b : Nat} {S : mS} {k j i : Nat} {v : Int64} (h : j ≠ k) : mEl dA b (mPutL S k i v) j = mEl dA b S j := by
  have e : (mPutL S k i v).2.2 j = S.2.2 j := by simp [mPutL, h]
  have e2 : (mPutL S k i v).2.1 = S.2.1 := rfl
  simp only [mEl, e, e2]
/-- a class of vwCl, by its number -/
def mCl (ci : Nat) (C : String) (T : u_T) (N : Nat) (ty : Nat → FieldType) : Prop :=
  vwCl[ci]? = some (C, T, N) ∧ (∀ w ∈ u_ws C T N, w ∈ wsL_law) ∧ (∀ k, k < N → parseFieldDescriptor (T k).2.2.1 = some (ty k)) ∧ (∀ a, a < N → ∀ b, b < N → a ≠ b → (T a).2.1 ≠ (T b).2.1) ∧ ci < 8 ∧ (mTg ci).length = N
/-- a field that own names by idx: class ci, place j, tag t; final or not -/
def mFd (own : String) (idx ci j t : Nat) (ft : FieldType) (fin : Bool) (C : String) (T : u_T) (N : Nat) (ty : Nat → FieldType) : Prop :=
  mCl ci C T N ty ∧ j < N ∧ Cond.fieldLink own idx (T j).1 (T j).2.1 (T j).2.2.1 ∈ wsL_law ∧ (mTg ci)[j]? = some t ∧ (T j).2.2.2 = fin ∧ ty j = ft ∧ (T j).1 = C
def mFn (own : String) (idx ci j t : Nat) (C : String) (T : u_T) (N : Nat) (ty : Nat → FieldType) : Prop :=
  mCl ci C T N ty ∧ j < N ∧ (own, idx, (T j).1, (T j).2.1, (T j).2.2.1) ∈ mNeF ∧ (mTg ci)[j]? = some t
def mCdV (own : String) (idx : Nat) (C : String) (y : MethodName) (bytes : ByteArray) (n : Nat) (ret : Option FieldType) (np : Nat) : Prop :=
  GoodIn wsL_law (wsV own idx C y (Cond.code y bytes n ret :: wsL_law)) ∧ (y.cls = C ∧ y.cls ≠ "java/lang/invoke/MethodHandle" ∧ y.cls ≠ "java/lang/invoke/VarHandle" ∧ (parseMethodDescriptor y.desc).map (fun d => d.parameters.length) = some np)
def mCdS (own : String) (idx : Nat) (y : MethodName) (bytes : ByteArray) (n : Nat) (ret : Option FieldType) (np : Nat) : Prop :=
  GoodIn wsL_law (va_wsS own idx y (Cond.code y bytes n ret :: wsL_law)) ∧ (y.cls ≠ "java/lang/invoke/MethodHandle" ∧ y.cls ≠ "java/lang/invoke/VarHandle" ∧ (parseMethodDescriptor y.desc).map (fun d => d.parameters.length) = some np)
/-- a private one of a nest mate, static; a constructor, of a nest mate or not -/
def mCdN (own : String) (idx : Nat) (y : MethodName) (bytes : ByteArray) (n : Nat) (ret : Option FieldType) (np : Nat) : Prop :=
  (own, idx, y) ∈ mNeM ∧ GoodIn wsL_law (Cond.code y bytes n ret :: wsL_law) ∧ Cond.static y ∈ wsL_law ∧ Cond.initialized y.cls ∈ wsL_law ∧ (y.cls ≠ "java/lang/invoke/MethodHandle" ∧ y.cls ≠ "java/lang/invoke/VarHandle" ∧ (parseMethodDescriptor y.desc).map (fun d => d.parameters.length) = some np)
def mCdI (own : String) (idx : Nat) (y : MethodName) (bytes : ByteArray) (n : Nat) (np : Nat) : Prop :=
  Cond.methodLink own idx y ∈ wsL_law ∧ GoodIn wsL_law (Cond.code y bytes n none :: wsL_law) ∧ Cond.instanceMethod y ∈ wsL_law ∧ Cond.initialized y.cls ∈ wsL_law ∧ y.name = "<init>" ∧ (y.cls ≠ "java/lang/invoke/MethodHandle" ∧ y.cls ≠ "java/lang/invoke/VarHandle" ∧ (parseMethodDescriptor y.desc).map (fun d => d.parameters.length) = some np)
def mCdJ (own : String) (idx : Nat) (y : MethodName) (bytes : ByteArray) (n : Nat) (np : Nat) : Prop :=
  (own, idx, y) ∈ mNeM ∧ GoodIn wsL_law (Cond.code y bytes n none :: wsL_law) ∧ Cond.instanceMethod y ∈ wsL_law ∧ Cond.initialized y.cls ∈ wsL_law ∧ y.name = "<init>" ∧ (y.cls ≠ "java/lang/invoke/MethodHandle" ∧ y.cls ≠ "java/lang/invoke/VarHandle" ∧ (parseMethodDescriptor y.desc).map (fun d => d.parameters.length) = some np)
theorem mGood : wsL_law.all goodWord = true := by decide +kernel
theorem mGoodIn {w : Cond} (h : w ∈ wsL_law) : w ∈ wsL_law ∧ ((w.onTables && w.keeps) = true ∨ ∃ ty, w = .arrayClass ty) := ⟨h, good_of_word (List.all_eq_true.mp mGood w h)⟩
theorem mGoodT : GoodIn wsL_law wsL_law := fun _ h => mGoodIn h
theorem mGoodC {c : Cond} {l : List Cond} (h : c ∈ wsL_law) (g : GoodIn wsL_law l) : GoodIn wsL_law (c :: l) := fun w hw => by
  rcases List.mem_cons.mp hw with rfl | hw
  · exact mGoodIn h
  · exact g w hw
theorem mSt_use {E : mE} {s U : State} {H : Heap} {locs : List Loc} (h : mSt E s s.heap) (hW : s.WarmedH U.vm) (hU : U.heap = H) (hS : va_S (mBa E) s.heap H locs) : mSt E U U.heap := by
  obtain ⟨h1, ⟨a0, a1, a2, a3, a4⟩, h3, h4⟩ := h
  rw [hU]
  have k : ∀ a : Nat, a < s.heap.size → ¬ mBa E a → H[a]? = s.heap[a]? := hS.2.1
  exact ⟨(h1.moved hW.alike).kept k, ⟨a0.warm hW, a1.warm hW, a2.warm hW, a3.warm hW, a4.warm hW⟩, (h3.moved hW.alike).kept k, (h4.moved hW.alike).kept k⟩
theorem mNn_use {s U : State} (h : mNn s) (hW : s.WarmedH U.vm) : mNn U := ⟨fun q hq => va_Nw.warmM hW (h.1 q hq), fun q hq => va_Nw.warmF hW (h.2.1 q hq), va_AO.moved hW.alike h.2.2⟩
theorem m_pre {E : mE} {s U : State} {S : mS} {H : Heap} {locs : List Loc} (hK : va_K E.D vwCl (mTy E.dA) s) (hN : mNn s) (hZ : mSt E s s.heap) (hH : mHp E S H) (hS : va_S (mBa E) s.heap H locs) (hU : U.heap = H) (hW : s.WarmedH U.vm) : mPre E S U :=
  ⟨by rw [hU]; exact hH, va_K.moved hW.alike hK, mNn_use hN hW, mSt_use hZ hW hU hS⟩
theorem mSt_same {E : mE} {u U : State} {H : Heap} (hv : u.vm = U.vm) (h : mSt E u H) : mSt E U H := by
  obtain ⟨h1, ⟨a0, a1, a2, a3, a4⟩, h3, h4⟩ := h
  have ha : u.vm.Alike U.vm := by rw [hv]; exact Vm.Alike.refl U.vm
  exact ⟨h1.moved ha, ⟨a0.same hv.symm, a1.same hv.symm, a2.same hv.symm, a3.same hv.symm, a4.same hv.symm⟩, h3.moved ha, h4.moved ha⟩
theorem m_blind {E : mE} {S : mS} {av : List Value} : FrameBlind (va_Pc av (mPre E S)) := fun a U g mk q => by
  obtain ⟨q0, q1, q2, q3, q4⟩ := q
  exact ⟨q0, q1, va_K.moved (u := U) (U := U.calling g mk a) (Vm.Alike.refl U.vm) q2, ⟨fun w hw => va_Nw.same (u := U) (U := U.calling g mk a) rfl rfl (q3.1 w hw), fun w hw => va_Nw.same (u := U) (U := U.calling g mk a) rfl rfl (q3.2.1 w hw), va_AO.moved (u := U) (U := U.calling g mk a) (Vm.Alike.refl U.vm) q3.2.2⟩, mSt_same (u := U) (U := U.calling g mk a) rfl q4⟩
section MR
variable {p : Program} {l : Launch} {e : Env} {R : Room} {s : State} {m : MethodId} {args : Array Value} {below : List Frame} {meth : Method} {c : Code} {H : Heap} {locs : List Loc} {cells slots : Nat} {Q : State → Prop}
variable {cc : ByteArray} {pc nL n0 : Nat} {ls : Array Slot} {rest : List Value} {own : String} {ret : Option FieldType} {E : mE} {S : mS} {ρ : Type} {F : ρ}
theorem m_if {P : Prop} {G : Prop} {inst : Decidable P} {a b : Option ρ} (hF : @ite _ P inst a b = some F) (kt : P → a = some F → G) (kf : ¬ P → b = some F → G) : G := by
  by_cases h : P
  · exact kt h (by rw [if_pos h] at hF; exact hF)
  · exact kf h (by rw [if_neg h] at hF; exact hF)
theorem m_if_eq (C : mCx p s m args meth c cc nL own ret E n0) {x : Int32} {off : Int} {tgt : Nat} {a b : Option ρ} (hF : (if x = 0 then a else b) = some F) (hdg : decode cc pc = .ok (.ifCond .eq off, 3)) (ht : (pc : Int) + off = (tgt : Int))
    (kt : a = some F → W p l e R s m args below meth c H locs cells slots Q (F0 m tgt ls rest)) (kf : b = some F → W p l e R s m args below meth c H locs cells slots Q (F0 m (pc + 3) ls rest)) : W p l e R s m args below meth c H locs cells slots Q (F0 m pc ls (.int x :: rest)) :=
  lv_if_eq C.1 C.2.1 hdg ht (fun h => kt (by rw [if_pos h] at hF; exact hF)) (fun h => kf (by rw [if_neg h] at hF; exact hF))
theorem m_if_ne (C : mCx p s m args meth c cc nL own ret E n0) {x : Int32} {off : Int} {tgt : Nat} {a b : Option ρ} (hF : (if x = 0 then a else b) = some F) (hdg : decode cc pc = .ok (.ifCond .ne off, 3)) (ht : (pc : Int) + off = (tgt : Int))
    (kt : b = some F → W p l e R s m args below meth c H locs cells slots Q (F0 m tgt ls rest)) (kf : a = some F → W p l e R s m args below meth c H locs cells slots Q (F0 m (pc + 3) ls rest)) : W p l e R s m args below meth c H locs cells slots Q (F0 m pc ls (.int x :: rest)) :=
  lv_if_ne C.1 C.2.1 hdg ht (fun h => kt (by rw [if_neg h] at hF; exact hF)) (fun h => kf (by rw [if_pos h] at hF; exact hF))
theorem m_if_lt (C : mCx p s m args meth c cc nL own ret E n0) {x : Int32} {off : Int} {tgt : Nat} {a b : Option ρ} (hF : (if x < 0 then a else b) = some F) (hdg : decode cc pc = .ok (.ifCond .lt off, 3)) (ht : (pc : Int) + off = (tgt : Int))
    (kt : a = some F → W p l e R s m args below meth c H locs cells slots Q (F0 m tgt ls rest)) (kf : b = some F → W p l e R s m args below meth c H locs cells slots Q (F0 m (pc + 3) ls rest)) : W p l e R s m args below meth c H locs cells slots Q (F0 m pc ls (.int x :: rest)) :=
  lv_if_lt C.1 C.2.1 hdg ht (fun h => kt (by rw [if_pos h] at hF; exact hF)) (fun h => kf (by rw [if_neg h] at hF; exact hF))
theorem m_if_ge (C : mCx p s m args meth c cc nL own ret E n0) {x : Int32} {off : Int} {tgt : Nat} {a b : Option ρ} (hF : (if 0 ≤ x then a else b) = some F) (hdg : decode cc pc = .ok (.ifCond .ge off, 3)) (ht : (pc : Int) + off = (tgt : Int))
    (kt : a = some F → W p l e R s m args below meth c H locs cells slots Q (F0 m tgt ls rest)) (kf : b = some F → W p l e R s m args below meth c H locs cells slots Q (F0 m (pc + 3) ls rest)) : W p l e R s m args below meth c H locs cells slots Q (F0 m pc ls (.int x :: rest)) :=
  lv_if_ge C.1 C.2.1 hdg ht (fun h => kt (by rw [if_pos h] at hF; exact hF)) (fun h => kf (by rw [if_neg h] at hF; exact hF))
theorem m_if_gt (C : mCx p s m args meth c cc nL own ret E n0) {x : Int32} {off : Int} {tgt : Nat} {a b : Option ρ} (hF : (if 0 < x then a else b) = some F) (hdg : decode cc pc = .ok (.ifCond .gt off, 3)) (ht : (pc : Int) + off = (tgt : Int))
    (kt : a = some F → W p l e R s m args below meth c H locs cells slots Q (F0 m tgt ls rest)) (kf : b = some F → W p l e R s m args below meth c H locs cells slots Q (F0 m (pc + 3) ls rest)) : W p l e R s m args below meth c H locs cells slots Q (F0 m pc ls (.int x :: rest)) :=
  lv_if_gt C.1 C.2.1 hdg ht (fun h => kt (by rw [if_pos h] at hF; exact hF)) (fun h => kf (by rw [if_neg h] at hF; exact hF))
theorem m_if_le (C : mCx p s m args meth c cc nL own ret E n0) {x : Int32} {off : Int} {tgt : Nat} {a b : Option ρ} (hF : (if x ≤ 0 then a else b) = some F) (hdg : decode cc pc = .ok (.ifCond .le off, 3)) (ht : (pc : Int) + off = (tgt : Int))
    (kt : a = some F → W p l e R s m args below meth c H locs cells slots Q (F0 m tgt ls rest)) (kf : b = some F → W p l e R s m args below meth c H locs cells slots Q (F0 m (pc + 3) ls rest)) : W p l e R s m args below meth c H locs cells slots Q (F0 m pc ls (.int x :: rest)) :=
  lv_if_le C.1 C.2.1 hdg ht (fun h => kt (by rw [if_pos h] at hF; exact hF)) (fun h => kf (by rw [if_neg h] at hF; exact hF))
theorem m_icmp_eq (C : mCx p s m args meth c cc nL own ret E n0) {x y : Int32} {off : Int} {tgt : Nat} {a b : Option ρ} (hF : (if x = y then a else b) = some F) (hdg : decode cc pc = .ok (.if_icmp .eq off, 3)) (ht : (pc : Int) + off = (tgt : Int))
    (kt : a = some F → W p l e R s m args below meth c H locs cells slots Q (F0 m tgt ls rest)) (kf : b = some F → W p l e R s m args below meth c H locs cells slots Q (F0 m (pc + 3) ls rest)) : W p l e R s m args below meth c H locs cells slots Q (F0 m pc ls (.int y :: .int x :: rest)) :=
  lv_icmp_eq C.1 C.2.1 hdg ht (fun h => kt (by rw [if_pos h] at hF; exact hF)) (fun h => kf (by rw [if_neg h] at hF; exact hF))
theorem m_icmp_ne (C : mCx p s m args meth c cc nL own ret E n0) {x y : Int32} {off : Int} {tgt : Nat} {a b : Option ρ} (hF : (if x = y then a else b) = some F) (hdg : decode cc pc = .ok (.if_icmp .ne off, 3)) (ht : (pc : Int) + off = (tgt : Int))
    (kt : b = some F → W p l e R s m args below meth c H locs cells slots Q (F0 m tgt ls rest)) (kf : a = some F → W p l e R s m args below meth c H locs cells slots Q (F0 m (pc + 3) ls rest)) : W p l e R s m args below meth c H locs cells slots Q (F0 m pc ls (.int y :: .int x :: rest)) :=
  lv_icmp_ne C.1 C.2.1 hdg ht (fun h => kt (by rw [if_neg h] at hF; exact hF)) (fun h => kf (by rw [if_pos h] at hF; exact hF))
theorem m_icmp_lt (C : mCx p s m args meth c cc nL own ret E n0) {x y : Int32} {off : Int} {tgt : Nat} {a b : Option ρ} (hF : (if x < y then a else b) = some F) (hdg : decode cc pc = .ok (.if_icmp .lt off, 3)) (ht : (pc : Int) + off = (tgt : Int))
    (kt : a = some F → W p l e R s m args below meth c H locs cells slots Q (F0 m tgt ls rest)) (kf : b = some F → W p l e R s m args below meth c H locs cells slots Q (F0 m (pc + 3) ls rest)) : W p l e R s m args below meth c H locs cells slots Q (F0 m pc ls (.int y :: .int x :: rest)) :=
  lv_icmp_lt C.1 C.2.1 hdg ht (fun h => kt (by rw [if_pos h] at hF; exact hF)) (fun h => kf (by rw [if_neg h] at hF; exact hF))
theorem m_icmp_ge (C : mCx p s m args meth c cc nL own ret E n0) {x y : Int32} {off : Int} {tgt : Nat} {a b : Option ρ} (hF : (if y ≤ x then a else b) = some F) (hdg : decode cc pc = .ok (.if_icmp .ge off, 3)) (ht : (pc : Int) + off = (tgt : Int))
    (kt : a = some F → W p l e R s m args below meth c H locs cells slots Q (F0 m tgt ls rest)) (kf : b = some F → W p l e R s m args below meth c H locs cells slots Q (F0 m (pc + 3) ls rest)) : W p l e R s m args below meth c H locs cells slots Q (F0 m pc ls (.int y :: .int x :: rest)) :=
  lv_icmp_ge C.1 C.2.1 hdg ht (fun h => kt (by rw [if_pos h] at hF; exact hF)) (fun h => kf (by rw [if_neg h] at hF; exact hF))
theorem m_icmp_gt (C : mCx p s m args meth c cc nL own ret E n0) {x y : Int32} {off : Int} {tgt : Nat} {a b : Option ρ} (hF : (if y < x then a else b) = some F) (hdg : decode cc pc = .ok (.if_icmp .gt off, 3)) (ht : (pc : Int) + off = (tgt : Int))
    (kt : a = some F → W p l e R s m args below meth c H locs cells slots Q (F0 m tgt ls rest)) (kf : b = some F → W p l e R s m args below meth c H locs cells slots Q (F0 m (pc + 3) ls rest)) : W p l e R s m args below meth c H locs cells slots Q (F0 m pc ls (.int y :: .int x :: rest)) :=
  lv_icmp_gt C.1 C.2.1 hdg ht (fun h => kt (by rw [if_pos h] at hF; exact hF)) (fun h => kf (by rw [if_neg h] at hF; exact hF))
theorem m_icmp_le (C : mCx p s m args meth c cc nL own ret E n0) {x y : Int32} {off : Int} {tgt : Nat} {a b : Option ρ} (hF : (if x ≤ y then a else b) = some F) (hdg : decode cc pc = .ok (.if_icmp .le off, 3)) (ht : (pc : Int) + off = (tgt : Int))
    (kt : a = some F → W p l e R s m args below meth c H locs cells slots Q (F0 m tgt ls rest)) (kf : b = some F → W p l e R s m args below meth c H locs cells slots Q (F0 m (pc + 3) ls rest)) : W p l e R s m args below meth c H locs cells slots Q (F0 m pc ls (.int y :: .int x :: rest)) :=
  lv_icmp_le C.1 C.2.1 hdg ht (fun h => kt (by rw [if_pos h] at hF; exact hF)) (fun h => kf (by rw [if_neg h] at hF; exact hF))
theorem m_irem (C : mCx p s m args meth c cc nL own ret E n0) {x y : Int32} (hdg : decode cc pc = .ok (.irem, 1)) (hne : ¬ y = 0) (k : W p l e R s m args below meth c H locs cells slots Q (F0 m (pc + 1) ls (.int (mRem x y) :: rest))) : W p l e R s m args below meth c H locs cells slots Q (F0 m pc ls (.int y :: .int x :: rest)) := lv_irem C.1 C.2.1 hdg hne k
theorem m_lrem (C : mCx p s m args meth c cc nL own ret E n0) {x y : Int64} (hdg : decode cc pc = .ok (.lrem, 1)) (hne : ¬ y = 0) (k : W p l e R s m args below meth c H locs cells slots Q (F0 m (pc + 1) ls (.long (mRemL x y) :: rest))) : W p l e R s m args below meth c H locs cells slots Q (F0 m pc ls (.long y :: .long x :: rest)) := lv_lrem C.1 C.2.1 hdg hne k
theorem m_iushr (C : mCx p s m args meth c cc nL own ret E n0) {x y : Int32} (hdg : decode cc pc = .ok (.iushr, 1)) (k : W p l e R s m args below meth c H locs cells slots Q (F0 m (pc + 1) ls (.int (mShu x y) :: rest))) : W p l e R s m args below meth c H locs cells slots Q (F0 m pc ls (.int y :: .int x :: rest)) := lv_iushr C.1 C.2.1 hdg rfl k
theorem m_nz {y : Int32} {a : Option ρ} {G : Prop} (hF : mNz y a = some F) (k : ¬ y = 0 → a = some F → G) : G := by
  by_cases h : y = 0
  · rw [mNz, if_pos h] at hF; cases hF
  · rw [mNz, if_neg h] at hF; exact k h hF
theorem m_nzl {y : Int64} {a : Option ρ} {G : Prop} (hF : mNzL y a = some F) (k : ¬ y = 0 → a = some F → G) : G := by
  by_cases h : y = 0
  · rw [mNzL, if_pos h] at hF; cases hF
  · rw [mNzL, if_neg h] at hF; exact k h hF
theorem m_z {v : Int32} {a : Option ρ} {G : Prop} (hF : mZ v a = some F) (k : v &&& 1 = v → a = some F → G) : G := by
  by_cases h : v &&& 1 = v
  · rw [mZ, if_pos h] at hF; exact k h hF
  · rw [mZ, if_neg h] at hF; cases hF
/-- getfield -/
theorem m_get (C : mCx p s m args meth c cc nL own ret E n0) {idx ci j : Nat} {ft : FieldType} {fin : Bool} {Cn : String} {T : u_T} {N : Nat} {ty : Nat → FieldType} (fd : mFd own idx ci j 0 ft fin Cn T N ty) (hI : mIv s E S H locs cells) {x : Int32} {k : Int32 → Option ρ} (hF : mG ci j x S k = some F) (hdg : decode cc pc = .ok (.getfield idx, 3))
    (kk : ∀ v : Int32, k v = some F → W p l e R s m args below meth c H locs cells slots Q (F0 m (pc + 3) ls (.int v :: rest))) : W p l e R s m args below meth c H locs cells slots Q (F0 m pc ls (.ref (mA E.b x) :: rest)) := by
  obtain ⟨⟨hc, hin, -, -, h8, -⟩, hj, hlink, htg, -⟩ := fd
  by_cases h : mIs ci x S = true
  · rw [mG, if_pos h] at hF
    obtain ⟨-, h1, h2⟩ := mIs_spec h
    exact va_get (v := .int (S.2.1 x.toNatClampNeg j)) C.1 C.2.1 C.2.2.2.2.1 hin C.2.2.2.1 C.2.2.2.2.2.2.2.1 hI.2.1 x.toNatClampNeg (by rw [mW_at h1, mEl_o h2 h8]; rfl) hc j hj (C.2.2.2.2.1 _ hlink) (fun _ h9 => h9) (by rw [mFs_at htg]; rfl) hdg (kk _ hF)
  · rw [mG, if_neg h] at hF; cases hF
theorem m_getN (C : mCx p s m args meth c cc nL own ret E n0) {idx ci j : Nat} {Cn : String} {T : u_T} {N : Nat} {ty : Nat → FieldType} (fd : mFn own idx ci j 0 Cn T N ty) (hI : mIv s E S H locs cells) {x : Int32} {k : Int32 → Option ρ} (hF : mG ci j x S k = some F) (hdg : decode cc pc = .ok (.getfield idx, 3))
    (kk : ∀ v : Int32, k v = some F → W p l e R s m args below meth c H locs cells slots Q (F0 m (pc + 3) ls (.int v :: rest))) : W p l e R s m args below meth c H locs cells slots Q (F0 m pc ls (.ref (mA E.b x) :: rest)) := by
  obtain ⟨⟨hc, hin, -, -, h8, -⟩, hj, hlink, htg⟩ := fd
  by_cases h : mIs ci x S = true
  · rw [mG, if_pos h] at hF
    obtain ⟨-, h1, h2⟩ := mIs_spec h
    exact va_getN (v := .int (S.2.1 x.toNatClampNeg j)) C.1 C.2.1 C.2.2.2.2.1 hin C.2.2.2.1 C.2.2.2.2.2.2.2.1 hI.2.1 x.toNatClampNeg (by rw [mW_at h1, mEl_o h2 h8]; rfl) hc j hj (va_Nw.use rfl (C.2.2.2.2.2.2.2.2.1.2.1 _ hlink)) (fun _ h9 => h9) (by rw [mFs_at htg]; rfl) hdg (kk _ hF)
  · rw [mG, if_neg h] at hF; cases hF
theorem m_getR (C : mCx p s m args meth c cc nL own ret E n0) {idx ci j : Nat} {ft : FieldType} {fin : Bool} {Cn : String} {T : u_T} {N : Nat} {ty : Nat → FieldType} (fd : mFd own idx ci j 2 ft fin Cn T N ty) (hI : mIv s E S H locs cells) {x : Int32} {k : Int32 → Option ρ} (hF : mGr ci j x S k = some F) (hdg : decode cc pc = .ok (.getfield idx, 3))
    (kk : ∀ v : Int32, k v = some F → W p l e R s m args below meth c H locs cells slots Q (F0 m (pc + 3) ls (.ref (mA E.b v) :: rest))) : W p l e R s m args below meth c H locs cells slots Q (F0 m pc ls (.ref (mA E.b x) :: rest)) := by
  obtain ⟨⟨hc, hin, -, -, h8, -⟩, hj, hlink, htg, -⟩ := fd
  by_cases h : mIs ci x S = true
  · rw [mGr, if_pos h] at hF
    obtain ⟨-, h1, h2⟩ := mIs_spec h
    by_cases h0 : S.2.1 x.toNatClampNeg j < 0
    · rw [if_pos h0] at hF; cases hF
    · rw [if_neg h0] at hF
      exact va_get (v := .ref (mA E.b (S.2.1 x.toNatClampNeg j))) C.1 C.2.1 C.2.2.2.2.1 hin C.2.2.2.1 C.2.2.2.2.2.2.2.1 hI.2.1 x.toNatClampNeg (by rw [mW_at h1, mEl_o h2 h8]; rfl) hc j hj (C.2.2.2.2.1 _ hlink) (fun _ h9 => h9) (by rw [mFs_at htg, ← mRf_val h0]; rfl) hdg (kk _ hF)
  · rw [mGr, if_neg h] at hF; cases hF
theorem m_getL (C : mCx p s m args meth c cc nL own ret E n0) {idx ci j : Nat} {ft : FieldType} {fin : Bool} {Cn : String} {T : u_T} {N : Nat} {ty : Nat → FieldType} (fd : mFd own idx ci j 1 ft fin Cn T N ty) (hI : mIv s E S H locs cells) {x : Int32} {k : Int64 → Option ρ} (hF : mGl ci j x S k = some F) (hdg : decode cc pc = .ok (.getfield idx, 3))
    (kk : ∀ v : Int64, k v = some F → W p l e R s m args below meth c H locs cells slots Q (F0 m (pc + 3) ls (.long v :: rest))) : W p l e R s m args below meth c H locs cells slots Q (F0 m pc ls (.ref (mA E.b x) :: rest)) := by
  obtain ⟨⟨hc, hin, -, -, h8, -⟩, hj, hlink, htg, -⟩ := fd
  by_cases h : mIs ci x S = true
  · rw [mGl, if_pos h] at hF
    obtain ⟨-, h1, h2⟩ := mIs_spec h
    exact va_get (v := .long (S.2.2 x.toNatClampNeg j)) C.1 C.2.1 C.2.2.2.2.1 hin C.2.2.2.1 C.2.2.2.2.2.2.2.1 hI.2.1 x.toNatClampNeg (by rw [mW_at h1, mEl_o h2 h8]; rfl) hc j hj (C.2.2.2.2.1 _ hlink) (fun _ h9 => h9) (by rw [mFs_at htg]; rfl) hdg (kk _ hF)
  · rw [mGl, if_neg h] at hF; cases hF
theorem mPut_set {dA : Nat → ClassId} {b ci k j t : Nat} {v : Value} {S S' : mS} (h1 : k < S.1) (h2 : mKd k = ci) (h8 : ci < 8) (htg : (mTg ci)[j]? = some t) (e1 : S'.1 = S.1) (hv : v = mVl b (S'.2.1 k) (S'.2.2 k) t j) (ho : ∀ i t, i ≠ j → mVl b (S'.2.1 k) (S'.2.2 k) t i = mVl b (S.2.1 k) (S.2.2 k) t i) (hr : ∀ q, q ≠ k → mEl dA b S' q = mEl dA b S q) : (mW dA b S).set k (b + k, .inr (ci, (mFs b (S.2.1 k) (S.2.2 k) ci).set j v)) = mW dA b S' := by
  refine mW_set e1 h1 ?_ hr
  rw [mEl_o h2 h8, mFs_set htg hv ho]
theorem mPut_oth {b k j : Nat} {S : mS} {v : Int32} : ∀ i t, i ≠ j → mVl b ((mPut S k j v).2.1 k) ((mPut S k j v).2.2 k) t i = mVl b (S.2.1 k) (S.2.2 k) t i := by
  intro i t h
  have e : (mPut S k j v).2.1 k i = S.2.1 k i := by rw [mPut, mRow_self]; exact if_neg h
  have e2 : (mPut S k j v).2.2 k i = S.2.2 k i := rfl
  simp only [mVl, e, e2]
theorem mPut_self {k j : Nat} {S : mS} {v : Int32} : (mPut S k j v).2.1 k j = v := by rw [mPut, mRow_self]; exact if_pos rfl
theorem mPutL_oth {b k j : Nat} {S : mS} {v : Int64} : ∀ i t, i ≠ j → mVl b ((mPutL S k j v).2.1 k) ((mPutL S k j v).2.2 k) t i = mVl b (S.2.1 k) (S.2.2 k) t i := by
  intro i t h
  have e : (mPutL S k j v).2.2 k i = S.2.2 k i := by simp [mPutL, h]
  have e2 : (mPutL S k j v).2.1 k i = S.2.1 k i := rfl
  simp only [mVl, e, e2]
theorem mPutL_self {k j : Nat} {S : mS} {v : Int64} : (mPutL S k j v).2.2 k j = v := by simp [mPutL]
theorem m_size (hI : mIv s E S H locs cells) {g : JFrame} (k : mHp E S H → W p l e R s m args below meth c H locs cells slots Q g) : W p l e R s m args below meth c H locs cells slots Q g := by
  intro T hT X
  refine k ⟨?_, hI.2.1⟩ T hT X
  have h1 : H.size ≤ s.heap.size + cells := by
    have := X.same.2.2.1
    rw [← hT]
    exact this
  obtain ⟨e1, hP, hS⟩ := hI
  have h2 : E.b + S.1 ≤ H.size := by
    cases h0 : S.1 with
    | zero => have := hS.1; omega
    | succ n =>
      have hlt := (hP n _ (mW_at (by omega))).lt
      simp only at hlt
      omega
  omega
theorem mVl_put {b k j : Nat} {S : mS} {v : Int32} {L : Nat → Int64} : mVl b ((mPut S k j v).2.1 k) L 0 j = .int v := by rw [mVl, if_pos rfl, mPut_self]
theorem mVl_putR {b k j : Nat} {S : mS} {v : Int32} {L : Nat → Int64} (h : ¬ v < 0) : mVl b ((mPut S k j v).2.1 k) L 2 j = .ref (mA b v) := by rw [mVl, if_neg (by decide), if_neg (by decide), mPut_self, mRf_val h]
theorem mVl_putL {b k j : Nat} {S : mS} {v : Int64} {M : Nat → Int32} : mVl b M ((mPutL S k j v).2.2 k) 1 j = .long v := by rw [mVl, if_neg (by decide), if_pos rfl, mPutL_self]
/-- putfield -/
theorem m_put (C : mCx p s m args meth c cc nL own ret E n0) {idx ci j : Nat} {Cn : String} {T : u_T} {N : Nat} {ty : Nat → FieldType} (fd : mFd own idx ci j 0 .int false Cn T N ty) (hI : mIv s E S H locs cells) {x v : Int32} {k : mS → Option ρ} (hF : mP ci j x v S k = some F) (hdg : decode cc pc = .ok (.putfield idx, 3))
    (kk : ∀ (S' : mS) (H1 : Heap) (locs1 : List Loc), k S' = some F → mIv s E S' H1 locs1 cells → W p l e R s m args below meth c H1 locs1 cells slots Q (F0 m (pc + 3) ls rest)) : W p l e R s m args below meth c H locs cells slots Q (F0 m pc ls (.int v :: .ref (mA E.b x) :: rest)) := by
  obtain ⟨⟨hc, hin, hty, hnm, h8, hlen⟩, hj, hlink, htg, hfin, hft, -⟩ := fd
  by_cases h : mIs ci x S = true
  · rw [mP, if_pos h] at hF
    obtain ⟨-, h1, h2⟩ := mIs_spec h
    refine va_put (v := .int v) (ty := .int) (fs := mFs E.b (S.2.1 x.toNatClampNeg) (S.2.2 x.toNatClampNeg) ci) C.1 C.2.1 C.2.2.2.2.1 hin ty hty hnm C.2.2.2.1 C.2.2.2.2.2.2.2.1 hI.2.1 mW_D hI.2.2 x.toNatClampNeg (by rw [mW_at h1, mEl_o h2 h8]; rfl) hc j hj (C.2.2.2.2.1 _ hlink) (fun _ h9 => h9) hfin (by rw [hty j hj, hft]) rfl rfl (by rw [mFs, List.length_mapIdx, hlen]; exact hj) hdg (fun H1 locs1 hP hD hS => ?_)
    rw [show mA E.b x = E.b + x.toNatClampNeg from rfl, mPut_set (S' := mPut S x.toNatClampNeg j v) h1 h2 h8 htg rfl mVl_put.symm mPut_oth (fun q hq => mRow_other hq)] at hP
    exact kk _ H1 locs1 hF ⟨hI.1, hP, hS⟩
  · rw [mP, if_neg h] at hF; cases hF
theorem m_putL (C : mCx p s m args meth c cc nL own ret E n0) {idx ci j : Nat} {Cn : String} {T : u_T} {N : Nat} {ty : Nat → FieldType} (fd : mFd own idx ci j 1 .long false Cn T N ty) (hI : mIv s E S H locs cells) {x : Int32} {v : Int64} {k : mS → Option ρ} (hF : mPl ci j x v S k = some F) (hdg : decode cc pc = .ok (.putfield idx, 3))
    (kk : ∀ (S' : mS) (H1 : Heap) (locs1 : List Loc), k S' = some F → mIv s E S' H1 locs1 cells → W p l e R s m args below meth c H1 locs1 cells slots Q (F0 m (pc + 3) ls rest)) : W p l e R s m args below meth c H locs cells slots Q (F0 m pc ls (.long v :: .ref (mA E.b x) :: rest)) := by
  obtain ⟨⟨hc, hin, hty, hnm, h8, hlen⟩, hj, hlink, htg, hfin, hft, -⟩ := fd
  by_cases h : mIs ci x S = true
  · rw [mPl, if_pos h] at hF
    obtain ⟨-, h1, h2⟩ := mIs_spec h
    refine va_put (v := .long v) (ty := .long) (fs := mFs E.b (S.2.1 x.toNatClampNeg) (S.2.2 x.toNatClampNeg) ci) C.1 C.2.1 C.2.2.2.2.1 hin ty hty hnm C.2.2.2.1 C.2.2.2.2.2.2.2.1 hI.2.1 mW_D hI.2.2 x.toNatClampNeg (by rw [mW_at h1, mEl_o h2 h8]; rfl) hc j hj (C.2.2.2.2.1 _ hlink) (fun _ h9 => h9) hfin (by rw [hty j hj, hft]) rfl rfl (by rw [mFs, List.length_mapIdx, hlen]; exact hj) hdg (fun H1 locs1 hP hD hS => ?_)
    rw [show mA E.b x = E.b + x.toNatClampNeg from rfl, mPut_set (S' := mPutL S x.toNatClampNeg j v) h1 h2 h8 htg rfl mVl_putL.symm mPutL_oth (fun q hq => mPutL_other hq)] at hP
    exact kk _ H1 locs1 hF ⟨hI.1, hP, hS⟩
  · rw [mPl, if_neg h] at hF; cases hF
/-- a final field, in a constructor: a reference; an int -/
theorem m_putR (C : mCx p s m args meth c cc nL own ret E n0) (hin2 : meth.name = "<init>") {idx ci j : Nat} {ft : FieldType} {T : u_T} {N : Nat} {ty : Nat → FieldType} (fd : mFd own idx ci j 2 ft true own T N ty) (hft2 : ∀ a, fits ft (.ref a) = true ∧ narrow ft (.ref a) = .ref a) (hI : mIv s E S H locs cells) {x v : Int32} {k : mS → Option ρ} (hF : mPr ci j x v S k = some F) (hdg : decode cc pc = .ok (.putfield idx, 3))
    (kk : ∀ (S' : mS) (H1 : Heap) (locs1 : List Loc), k S' = some F → mIv s E S' H1 locs1 cells → W p l e R s m args below meth c H1 locs1 cells slots Q (F0 m (pc + 3) ls rest)) : W p l e R s m args below meth c H locs cells slots Q (F0 m pc ls (.ref (mA E.b v) :: .ref (mA E.b x) :: rest)) := by
  obtain ⟨⟨hc, hin, hty, hnm, h8, hlen⟩, hj, hlink, htg, hfin, hft, hCn⟩ := fd
  by_cases h : mIs ci x S = true
  · rw [mPr, if_pos h] at hF
    obtain ⟨-, h1, h2⟩ := mIs_spec h
    by_cases h0 : v < 0
    · rw [if_pos h0] at hF; cases hF
    · rw [if_neg h0] at hF
      refine va_putF (v := .ref (mA E.b v)) (ty := ft) (fs := mFs E.b (S.2.1 x.toNatClampNeg) (S.2.2 x.toNatClampNeg) ci) C.1 C.2.1 C.2.2.2.2.1 hin ty hty hnm C.2.2.2.1 C.2.2.2.2.2.2.2.1 hI.2.1 mW_D hI.2.2 x.toNatClampNeg (by rw [mW_at h1, mEl_o h2 h8]; rfl) hc j hj (C.2.2.2.2.1 _ hlink) (fun _ h9 => h9) hfin hin2 hCn (by rw [hty j hj, hft]) (hft2 _).2 (hft2 _).1 (by rw [mFs, List.length_mapIdx, hlen]; exact hj) hdg (fun H1 locs1 hP hD hS => ?_)
      rw [show mA E.b x = E.b + x.toNatClampNeg from rfl, mPut_set (S' := mPut S x.toNatClampNeg j v) h1 h2 h8 htg rfl (mVl_putR h0).symm mPut_oth (fun q hq => mRow_other hq)] at hP
      exact kk _ H1 locs1 hF ⟨hI.1, hP, hS⟩
  · rw [mPr, if_neg h] at hF; cases hF
theorem m_putK (C : mCx p s m args meth c cc nL own ret E n0) (hin2 : meth.name = "<init>") {idx ci j : Nat} {T : u_T} {N : Nat} {ty : Nat → FieldType} (fd : mFd own idx ci j 0 .int true own T N ty) (hI : mIv s E S H locs cells) {x v : Int32} {k : mS → Option ρ} (hF : mP ci j x v S k = some F) (hdg : decode cc pc = .ok (.putfield idx, 3))
    (kk : ∀ (S' : mS) (H1 : Heap) (locs1 : List Loc), k S' = some F → mIv s E S' H1 locs1 cells → W p l e R s m args below meth c H1 locs1 cells slots Q (F0 m (pc + 3) ls rest)) : W p l e R s m args below meth c H locs cells slots Q (F0 m pc ls (.int v :: .ref (mA E.b x) :: rest)) := by
  obtain ⟨⟨hc, hin, hty, hnm, h8, hlen⟩, hj, hlink, htg, hfin, hft, hCn⟩ := fd
  by_cases h : mIs ci x S = true
  · rw [mP, if_pos h] at hF
    obtain ⟨-, h1, h2⟩ := mIs_spec h
    refine va_putF (v := .int v) (ty := .int) (fs := mFs E.b (S.2.1 x.toNatClampNeg) (S.2.2 x.toNatClampNeg) ci) C.1 C.2.1 C.2.2.2.2.1 hin ty hty hnm C.2.2.2.1 C.2.2.2.2.2.2.2.1 hI.2.1 mW_D hI.2.2 x.toNatClampNeg (by rw [mW_at h1, mEl_o h2 h8]; rfl) hc j hj (C.2.2.2.2.1 _ hlink) (fun _ h9 => h9) hfin hin2 hCn (by rw [hty j hj, hft]) rfl rfl (by rw [mFs, List.length_mapIdx, hlen]; exact hj) hdg (fun H1 locs1 hP hD hS => ?_)
    rw [show mA E.b x = E.b + x.toNatClampNeg from rfl, mPut_set (S' := mPut S x.toNatClampNeg j v) h1 h2 h8 htg rfl mVl_put.symm mPut_oth (fun q hq => mRow_other hq)] at hP
    exact kk _ H1 locs1 hF ⟨hI.1, hP, hS⟩
  · rw [mP, if_neg h] at hF; cases hF
/-! arrays -/
theorem m_and {a b : Bool} (h : (a && b) = true) : a = true ∧ b = true := by
  simpa using h
theorem mRow_set {dA : Nat → ClassId} {b k kd : Nat} {f : Nat → Int32} {S : mS} (h1 : k < S.1) (h2 : mKd k = kd) (g1 : 8 ≤ kd) (g2 : kd < 11) : (mW dA b S).set k (b + k, .inl (dA kd, (mLn k, .inl f))) = mW dA b (mRow S k f) := by
  refine mW_set rfl h1 ?_ (fun q hq => mRow_other hq)
  rw [mEl_i h2 g1 g2, mRow_self]
theorem m_iald (C : mCx p s m args meth c cc nL own ret E n0) (hI : mIv s E S H locs cells) {x i : Int32} {k : Int32 → Option ρ} (hF : mX 8 x i S k = some F) (hdg : decode cc pc = .ok (.iaload, 1))
    (kk : ∀ v : Int32, k v = some F → W p l e R s m args below meth c H locs cells slots Q (F0 m (pc + 1) ls (.int v :: rest))) : W p l e R s m args below meth c H locs cells slots Q (F0 m pc ls (.int i :: .ref (mA E.b x) :: rest)) := by
  by_cases h : (mIs 8 x S && mIn i (mLn x.toNatClampNeg)) = true
  · rw [mX, if_pos h] at hF
    obtain ⟨ha, hb⟩ := m_and h
    obtain ⟨-, h1, h2⟩ := mIs_spec ha
    exact va_iald C.1 C.2.1 C.2.2.2.2.2.2.2.1 hI.2.1 x.toNatClampNeg 0 (by rw [mW_at h1, mEl_i h2 (by omega) (by omega)]; rfl) rfl (mIn_spec hb) hdg (kk _ hF)
  · rw [mX, if_neg h] at hF; cases hF
theorem m_bald (C : mCx p s m args meth c cc nL own ret E n0) (hI : mIv s E S H locs cells) {x i : Int32} {k : Int32 → Option ρ} (hF : mX 9 x i S k = some F) (hdg : decode cc pc = .ok (.baload, 1))
    (kk : ∀ v : Int32, k v = some F → W p l e R s m args below meth c H locs cells slots Q (F0 m (pc + 1) ls (.int v :: rest))) : W p l e R s m args below meth c H locs cells slots Q (F0 m pc ls (.int i :: .ref (mA E.b x) :: rest)) := by
  by_cases h : (mIs 9 x S && mIn i (mLn x.toNatClampNeg)) = true
  · rw [mX, if_pos h] at hF
    obtain ⟨ha, hb⟩ := m_and h
    obtain ⟨-, h1, h2⟩ := mIs_spec ha
    exact va_bald C.1 C.2.1 C.2.2.2.2.2.2.2.1 hI.2.1 x.toNatClampNeg 1 (by rw [mW_at h1, mEl_i h2 (by omega) (by omega)]; rfl) rfl (mIn_spec hb) hdg (kk _ hF)
  · rw [mX, if_neg h] at hF; cases hF
theorem m_zald (C : mCx p s m args meth c cc nL own ret E n0) (hI : mIv s E S H locs cells) {x i : Int32} {k : Int32 → Option ρ} (hF : mX 10 x i S k = some F) (hdg : decode cc pc = .ok (.baload, 1))
    (kk : ∀ v : Int32, k v = some F → W p l e R s m args below meth c H locs cells slots Q (F0 m (pc + 1) ls (.int v :: rest))) : W p l e R s m args below meth c H locs cells slots Q (F0 m pc ls (.int i :: .ref (mA E.b x) :: rest)) := by
  by_cases h : (mIs 10 x S && mIn i (mLn x.toNatClampNeg)) = true
  · rw [mX, if_pos h] at hF
    obtain ⟨ha, hb⟩ := m_and h
    obtain ⟨-, h1, h2⟩ := mIs_spec ha
    exact va_zald C.1 C.2.1 C.2.2.2.2.2.2.2.1 hI.2.1 x.toNatClampNeg 2 (by rw [mW_at h1, mEl_i h2 (by omega) (by omega)]; rfl) rfl (mIn_spec hb) hdg (kk _ hF)
  · rw [mX, if_neg h] at hF; cases hF
theorem m_aald (C : mCx p s m args meth c cc nL own ret E n0) (hI : mIv s E S H locs cells) {x i : Int32} {k : Int32 → Option ρ} (hF : mXr x i S k = some F) (hdg : decode cc pc = .ok (.aaload, 1))
    (kk : ∀ v : Int32, k v = some F → W p l e R s m args below meth c H locs cells slots Q (F0 m (pc + 1) ls (.ref (mA E.b v) :: rest))) : W p l e R s m args below meth c H locs cells slots Q (F0 m pc ls (.int i :: .ref (mA E.b x) :: rest)) := by
  by_cases h : (mIs 11 x S && mIn i (mLn x.toNatClampNeg)) = true
  · rw [mXr, if_pos h] at hF
    obtain ⟨ha, hb⟩ := m_and h
    obtain ⟨-, h1, h2⟩ := mIs_spec ha
    by_cases h0 : S.2.1 x.toNatClampNeg i.toNatClampNeg < 0
    · rw [if_pos h0] at hF; cases hF
    · rw [if_neg h0] at hF
      refine va_aldq (C := RX5) C.1 C.2.1 C.2.2.2.2.2.2.2.1 hI.2.1 x.toNatClampNeg 3 (by rw [mW_at h1, mEl_q h2]; rfl) rfl (mIn_spec hb) hdg ?_
      rw [mRf_val h0]
      exact kk _ hF
  · rw [mXr, if_neg h] at hF; cases hF
theorem m_iast (C : mCx p s m args meth c cc nL own ret E n0) (hI : mIv s E S H locs cells) {x i v : Int32} {k : mS → Option ρ} (hF : mXs x i v S k = some F) (hdg : decode cc pc = .ok (.iastore, 1))
    (kk : ∀ (S' : mS) (H1 : Heap) (locs1 : List Loc), k S' = some F → mIv s E S' H1 locs1 cells → W p l e R s m args below meth c H1 locs1 cells slots Q (F0 m (pc + 1) ls rest)) : W p l e R s m args below meth c H locs cells slots Q (F0 m pc ls (.int v :: .int i :: .ref (mA E.b x) :: rest)) := by
  by_cases h : (mIs 8 x S && mIn i (mLn x.toNatClampNeg)) = true
  · rw [mXs, if_pos h] at hF
    obtain ⟨ha, hb⟩ := m_and h
    obtain ⟨-, h1, h2⟩ := mIs_spec ha
    refine va_iast C.1 C.2.1 C.2.2.2.2.2.2.2.1 hI.2.1 mW_D hI.2.2 x.toNatClampNeg 0 (by rw [mW_at h1, mEl_i h2 (by omega) (by omega)]; rfl) rfl (mIn_spec hb) hdg (fun H1 locs1 hP hD hS => ?_)
    rw [show mA E.b x = E.b + x.toNatClampNeg from rfl, mRow_set h1 h2 (by omega) (by omega)] at hP
    exact kk _ H1 locs1 hF ⟨hI.1, hP, hS⟩
  · rw [mXs, if_neg h] at hF; cases hF
theorem m_bast (C : mCx p s m args meth c cc nL own ret E n0) (hI : mIv s E S H locs cells) {x i v : Int32} {k : mS → Option ρ} (hF : mXb x i v S k = some F) (hdg : decode cc pc = .ok (.bastore, 1))
    (kk : ∀ (S' : mS) (H1 : Heap) (locs1 : List Loc), k S' = some F → mIv s E S' H1 locs1 cells → W p l e R s m args below meth c H1 locs1 cells slots Q (F0 m (pc + 1) ls rest)) : W p l e R s m args below meth c H locs cells slots Q (F0 m pc ls (.int v :: .int i :: .ref (mA E.b x) :: rest)) := by
  by_cases h : (mIs 9 x S && mIn i (mLn x.toNatClampNeg)) = true
  · rw [mXb, if_pos h] at hF
    obtain ⟨ha, hb⟩ := m_and h
    obtain ⟨-, h1, h2⟩ := mIs_spec ha
    refine va_bast C.1 C.2.1 C.2.2.2.2.2.2.2.1 hI.2.1 mW_D hI.2.2 x.toNatClampNeg 1 (by rw [mW_at h1, mEl_i h2 (by omega) (by omega)]; rfl) rfl (mIn_spec hb) hdg (fun H1 locs1 hP hD hS => ?_)
    rw [show mA E.b x = E.b + x.toNatClampNeg from rfl, mRow_set h1 h2 (by omega) (by omega)] at hP
    exact kk _ H1 locs1 hF ⟨hI.1, hP, hS⟩
  · rw [mXb, if_neg h] at hF; cases hF
theorem m_zast (C : mCx p s m args meth c cc nL own ret E n0) (hI : mIv s E S H locs cells) {x i v : Int32} {k : mS → Option ρ} (hF : mXz x i v S k = some F) (hdg : decode cc pc = .ok (.bastore, 1))
    (kk : ∀ (S' : mS) (H1 : Heap) (locs1 : List Loc), k S' = some F → mIv s E S' H1 locs1 cells → W p l e R s m args below meth c H1 locs1 cells slots Q (F0 m (pc + 1) ls rest)) : W p l e R s m args below meth c H locs cells slots Q (F0 m pc ls (.int v :: .int i :: .ref (mA E.b x) :: rest)) := by
  by_cases h : (mIs 10 x S && mIn i (mLn x.toNatClampNeg)) = true
  · rw [mXz, if_pos h] at hF
    obtain ⟨ha, hb⟩ := m_and h
    obtain ⟨-, h1, h2⟩ := mIs_spec ha
    refine va_zast C.1 C.2.1 C.2.2.2.2.2.2.2.1 hI.2.1 mW_D hI.2.2 x.toNatClampNeg 2 (by rw [mW_at h1, mEl_i h2 (by omega) (by omega)]; rfl) rfl (mIn_spec hb) hdg (fun H1 locs1 hP hD hS => ?_)
    rw [show mA E.b x = E.b + x.toNatClampNeg from rfl, mRow_set h1 h2 (by omega) (by omega)] at hP
    exact kk _ H1 locs1 hF ⟨hI.1, hP, hS⟩
  · rw [mXz, if_neg h] at hF; cases hF
theorem m_aast (C : mCx p s m args meth c cc nL own ret E n0) (hI : mIv s E S H locs cells) {x i v : Int32} {k : mS → Option ρ} (hF : mXq x i v S k = some F) (hdg : decode cc pc = .ok (.aastore, 1))
    (kk : ∀ (S' : mS) (H1 : Heap) (locs1 : List Loc), k S' = some F → mIv s E S' H1 locs1 cells → W p l e R s m args below meth c H1 locs1 cells slots Q (F0 m (pc + 1) ls rest)) : W p l e R s m args below meth c H locs cells slots Q (F0 m pc ls (.ref (mA E.b v) :: .int i :: .ref (mA E.b x) :: rest)) := by
  by_cases h : (mIs 11 x S && mIn i (mLn x.toNatClampNeg) && mIs 5 v S) = true
  · rw [mXq, if_pos h] at hF
    obtain ⟨hab, hv⟩ := m_and h
    obtain ⟨ha, hb⟩ := m_and hab
    obtain ⟨-, h1, h2⟩ := mIs_spec ha
    obtain ⟨v0, v1, v2⟩ := mIs_spec hv
    refine va_astq (r := (RX5, TX5, 6)) C.1 C.2.1 C.2.2.2.2.2.2.2.1 hI.2.1 mW_D hI.2.2 x.toNatClampNeg 3 v.toNatClampNeg 5 (by rw [mW_at h1, mEl_q h2]; rfl) rfl (by rw [mW_at v1, mEl_o v2 (by omega)]; rfl) rfl (mIn_spec hb) hdg (fun H1 locs1 hP hD hS => ?_)
    have e9 : (va_up (fun j => mRv E.b (S.2.1 x.toNatClampNeg j)) i.toNatClampNeg (some (mA E.b v))) = (fun j => mRv E.b ((mPut S x.toNatClampNeg i.toNatClampNeg v).2.1 x.toNatClampNeg j)) := by
      funext j
      by_cases hj : j = i.toNatClampNeg
      · subst hj
        rw [mPut_self, mRv, if_neg v0]
        exact if_pos rfl
      · rw [mPut, mRow_self]
        show (if j = _ then _ else _) = mRv E.b (if j = _ then _ else _)
        rw [if_neg hj, if_neg hj]
    rw [show mA E.b x = E.b + x.toNatClampNeg from rfl, e9, mW_set (S := S) (S' := mPut S x.toNatClampNeg i.toNatClampNeg v) rfl h1 (by rw [mEl_q h2]) (fun q hq => mRow_other hq)] at hP
    exact kk _ H1 locs1 hF ⟨hI.1, hP, hS⟩
  · rw [mXq, if_neg h] at hF; cases hF
theorem m_alen (C : mCx p s m args meth c cc nL own ret E n0) (hI : mIv s E S H locs cells) {x : Int32} {k : Int32 → Option ρ} (hF : mLe 8 x S k = some F) (hdg : decode cc pc = .ok (.arraylength, 1))
    (kk : ∀ v : Int32, k v = some F → W p l e R s m args below meth c H locs cells slots Q (F0 m (pc + 1) ls (.int v :: rest))) : W p l e R s m args below meth c H locs cells slots Q (F0 m pc ls (.ref (mA E.b x) :: rest)) := by
  by_cases h : mIs 8 x S = true
  · rw [mLe, if_pos h] at hF
    obtain ⟨-, h1, h2⟩ := mIs_spec h
    exact va_alen C.1 C.2.1 C.2.2.2.2.2.2.2.1 hI.2.1 x.toNatClampNeg 0 (by rw [mW_at h1, mEl_i h2 (by omega) (by omega)]; rfl) rfl rfl hdg (kk _ hF)
  · rw [mLe, if_neg h] at hF; cases hF
def mCopyW (own : String) (idx : Nat) : Prop := Cond.methodLink own idx arraycopyName ∈ wsL_law ∧ Cond.native arraycopyName ∈ wsL_law ∧ Cond.static arraycopyName ∈ wsL_law ∧ Cond.initialized "java/lang/System" ∈ wsL_law
theorem m_nat : nativeFrameWords "java/lang/System" "arraycopy" 5 + 11 = 18 := by decide +kernel
theorem m_copy (C : mCx p s m args meth c cc nL own ret E n0) {idx : Nat} (hw : mCopyW own idx) (hl : ls.size = nL) (hI : mIv s E S H locs cells) {x sp y dp n : Int32} {k : mS → Option ρ} (hF : mCy x sp y dp n S k = some F) (hframes : 1 ≤ R.frames) (hlocals : (rest.map fun v => v.category).sum + 18 ≤ R.locals) (hdg : decode cc pc = .ok (.invokestatic idx, 3))
    (kk : ∀ (S' : mS) (H1 : Heap) (locs1 : List Loc), k S' = some F → mIv s E S' H1 locs1 cells → W p l e R s m args below meth c H1 locs1 cells slots Q (F0 m (pc + 3) ls rest)) : W p l e R s m args below meth c H locs cells slots Q (F0 m pc ls (.int n :: .int dp :: .ref (mA E.b y) :: .int sp :: .ref (mA E.b x) :: rest)) := by
  by_cases h : (mIs 8 x S && mIs 8 y S && (decide (¬ sp < 0) && decide (¬ dp < 0) && decide (¬ n < 0)) && (decide (sp.toNatClampNeg + n.toNatClampNeg ≤ mLn x.toNatClampNeg) && decide (dp.toNatClampNeg + n.toNatClampNeg ≤ mLn y.toNatClampNeg))) = true
  · rw [mCy, if_pos h] at hF
    simp only [Bool.and_eq_true, decide_eq_true_eq] at h
    obtain ⟨⟨⟨hx, hy⟩, ⟨g1, g2⟩, g3⟩, g4, g5⟩ := h
    obtain ⟨-, h1, h2⟩ := mIs_spec hx
    obtain ⟨-, h3, h4⟩ := mIs_spec hy
    refine va_copyi (ty := .int) (f := S.2.1 x.toNatClampNeg) (g := S.2.1 y.toNatClampNeg) C.1 C.2.1 (C.2.2.1.trans hl.symm) C.2.2.2.1 (C.2.2.2.2.1 _ hw.1) (C.2.2.2.2.1 _ hw.2.1) (C.2.2.2.2.1 _ hw.2.2.1) (C.2.2.2.2.1 _ hw.2.2.2) C.2.2.2.2.2.2.2.1 hI.2.1 mW_D hI.2.2 x.toNatClampNeg y.toNatClampNeg 0 0 (by rw [mW_at h1, mEl_i h2 (by omega) (by omega)]; rfl) (by rw [mW_at h3, mEl_i h4 (by omega) (by omega)]; rfl) rfl rfl rfl g1 g2 g3 g4 g5 (fun _ _ => rfl) hframes (by rw [m_nat]; exact hlocals) hdg (fun H1 locs1 hP hD hS => ?_)
    rw [show mA E.b y = E.b + y.toNatClampNeg from rfl, mRow_set h3 h4 (by omega) (by omega)] at hP
    exact kk _ H1 locs1 hF ⟨hI.1, hP, hS⟩
  · rw [mCy, if_neg h] at hF; cases hF
end MR
