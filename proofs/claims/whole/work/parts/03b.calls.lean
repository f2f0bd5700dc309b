section MC
variable {p : Program} {l : Launch} {e : Env} {R : Room} {s : State} {m : MethodId} {args : Array Value} {below : List Frame} {meth : Method} {c : Code} {H : Heap} {locs : List Loc} {cells slots : Nat} {Q : State → Prop}
variable {cc : ByteArray} {pc nL n0 : Nat} {ls : Array Slot} {rest : List Value} {own : String} {ret : Option FieldType} {E : mE} {S : mS} {ρ : Type} {F : ρ}
theorem mC_some {α : Type} {x : Option (α × mS)} {k : α → mS → Option ρ} (h : mC x k = some F) : ∃ r : α × mS, x = some r ∧ k r.1 r.2 = some F := by
  cases x with
  | none => cases h
  | some r => exact ⟨r, rfl, h⟩
theorem mCv_some {x : Option mS} {k : mS → Option ρ} (h : mCv x k = some F) : ∃ r : mS, x = some r ∧ k r = some F := by
  cases x with
  | none => cases h
  | some r => exact ⟨r, rfl, h⟩
theorem mCp_some {α : Type} {x : Option α} {k : α → Option ρ} (h : mCp x k = some F) : ∃ r : α, x = some r ∧ k r = some F := by
  cases x with
  | none => cases h
  | some r => exact ⟨r, rfl, h⟩
theorem mRc_some {ci : Nat} {x : Int32} {a : Option ρ} (h : mRc ci x S a = some F) : mIs ci x S = true ∧ a = some F := by
  by_cases h1 : mIs ci x S = true
  · rw [mRc, if_pos h1] at h; exact ⟨h1, h⟩
  · rw [mRc, if_neg h1] at h; cases h
/-- behind a call -/
theorem m_back {S' : mS} {t : State} {H1 : Heap} {locs1 : List Loc} {mc : Nat} (hI : mIv s E S H locs cells) (ht : t.heap = H1) (hB : mPo E S' t) (hn : S'.1 = S.1 + mc) (hS : va_S (mBa E) s.heap H1 locs1) : mIv s E S' H1 locs1 (cells + mc) := by
  refine ⟨by have := hI.1; omega, ?_, hS⟩
  have := hB.2
  rw [ht] at this
  exact this
theorem m_callVi (C : mCx p s m args meth c cc nL own ret E n0) {idx n2 np : Nat} {y : MethodName} {bytes : ByteArray} {ret2 : Option FieldType} {rm : Room} {As : List Value} {o : Int32} {ci : Nat} {Cn : String} {T0 : u_T} {N0 : Nat} (cd : mCdV own idx Cn y bytes n2 ret2 np) (hcl : vwCl[ci]? = some (Cn, T0, N0) ∧ ci < 8) (hl : ls.size = nL) (hI : mIv s E S H locs cells) {e0 : Option (Int32 × mS)} {k : Int32 → mS → Option ρ} (hF : mRc ci o S (mC e0 k) = some F) (hM : ∀ F1 : Int32 × mS, e0 = some F1 → mMi l y bytes n2 ret2 rm 0 0 (.ref (mA E.b o) :: As) E S F1) {st : List Value} (hst : st = As.reverse ++ .ref (mA E.b o) :: rest) (hn : As.length = np) (hR : rm.cells = 0 ∧ rm.slots = 0 ∧ rm.frames + 1 ≤ R.frames ∧ 8 + (n2 + 11) + rm.locals ≤ R.locals) (hf : cells ≤ R.cells ∧ slots ≤ R.slots) (hrest : (rest.map fun v => v.category).sum ≤ 8) (hdg : decode cc pc = .ok (.invokevirtual idx, 3))
    (kk : ∀ (r : Int32) (S' : mS) (H1 : Heap) (locs1 : List Loc), k r S' = some F → mIv s E S' H1 locs1 cells → W p l e R s m args below meth c H1 locs1 cells slots Q (F0 m (pc + 3) ls (.int r :: rest))) : W p l e R s m args below meth c H locs cells slots Q (F0 m pc ls st) := by
  subst hst
  obtain ⟨hrc, hF⟩ := mRc_some hF
  obtain ⟨F1, he, hF⟩ := mC_some hF
  refine m_size hI fun hH => ?_
  have hC : CallFix p m c cc nL s args wsL_law own := ⟨C.1, C.2.1, C.2.2.1, C.2.2.2.1, C.2.2.2.2.1⟩
  have hpre : ∀ U : State, U.heap = H → s.WarmedH U.vm → va_Pc (.ref (mA E.b o) :: As) (mPre E S) (.ref (mA E.b o) :: As).toArray U := fun U hU hW => ⟨rfl, m_pre C.2.2.2.2.2.2.2.1 C.2.2.2.2.2.2.2.2.1 C.2.2.2.2.2.2.2.2.2.1 hH hI.2.2 hU hW⟩
  obtain ⟨-, hx1, hx2⟩ := mIs_spec hrc
  have hrv : ∃ cellB : Cell, H[mA E.b o]? = some cellB ∧ cellB.vm.isStatics = false ∧ s.vm.findClass Cn = some cellB.cls := va_recv C.2.2.2.2.2.2.2.1 hI.2.1 (ci := ci) (q0 := o.toNatClampNeg) hcl.1 (by rw [mW_at hx1, mEl_o hx2 hcl.2]; rfl)
  refine va_calli (va_runV (As := As) (rest := rest) hC (hM F1 he) (cwV np C.2.2.2.2.1 cd.1 rfl hR.1 hR.2.1 cd.2 hR.2.2) ⟨m_blind, hrv, hpre⟩ rfl hn hl rfl (lv_room hrest) hdg hf) hI.2.2 (fun q _ h => h) (fun q h => h) (fun r u t H1 locs1 ht hvm hw hB hz1 hk1 hS => ?_)
  obtain ⟨rfl, rfl, hn1⟩ := hw
  exact kk _ _ H1 locs1 hF (m_back hI ht hB hn1 hS)
theorem m_callViR (C : mCx p s m args meth c cc nL own ret E n0) {idx n2 np : Nat} {y : MethodName} {bytes : ByteArray} {ret2 : Option FieldType} {rm : Room} {As : List Value} {o : Int32} {ci : Nat} {Cn : String} {T0 : u_T} {N0 : Nat} (cd : mCdV own idx Cn y bytes n2 ret2 np) (hcl : vwCl[ci]? = some (Cn, T0, N0) ∧ ci < 8) (hl : ls.size = nL) (hI : mIv s E S H locs cells) {e0 : Option Int32} {k : Int32 → Option ρ} (hF : mRc ci o S (mCp e0 k) = some F) (hM : ∀ F1 : Int32, e0 = some F1 → mMi l y bytes n2 ret2 rm 0 0 (.ref (mA E.b o) :: As) E S (F1, S)) {st : List Value} (hst : st = As.reverse ++ .ref (mA E.b o) :: rest) (hn : As.length = np) (hR : rm.cells = 0 ∧ rm.slots = 0 ∧ rm.frames + 1 ≤ R.frames ∧ 8 + (n2 + 11) + rm.locals ≤ R.locals) (hf : cells ≤ R.cells ∧ slots ≤ R.slots) (hrest : (rest.map fun v => v.category).sum ≤ 8) (hdg : decode cc pc = .ok (.invokevirtual idx, 3))
    (kk : ∀ (r : Int32) (H1 : Heap) (locs1 : List Loc), k r = some F → mIv s E S H1 locs1 cells → W p l e R s m args below meth c H1 locs1 cells slots Q (F0 m (pc + 3) ls (.int r :: rest))) : W p l e R s m args below meth c H locs cells slots Q (F0 m pc ls st) := by
  subst hst
  obtain ⟨hrc, hF⟩ := mRc_some hF
  obtain ⟨F1, he, hF⟩ := mCp_some hF
  refine m_size hI fun hH => ?_
  have hC : CallFix p m c cc nL s args wsL_law own := ⟨C.1, C.2.1, C.2.2.1, C.2.2.2.1, C.2.2.2.2.1⟩
  have hpre : ∀ U : State, U.heap = H → s.WarmedH U.vm → va_Pc (.ref (mA E.b o) :: As) (mPre E S) (.ref (mA E.b o) :: As).toArray U := fun U hU hW => ⟨rfl, m_pre C.2.2.2.2.2.2.2.1 C.2.2.2.2.2.2.2.2.1 C.2.2.2.2.2.2.2.2.2.1 hH hI.2.2 hU hW⟩
  obtain ⟨-, hx1, hx2⟩ := mIs_spec hrc
  have hrv : ∃ cellB : Cell, H[mA E.b o]? = some cellB ∧ cellB.vm.isStatics = false ∧ s.vm.findClass Cn = some cellB.cls := va_recv C.2.2.2.2.2.2.2.1 hI.2.1 (ci := ci) (q0 := o.toNatClampNeg) hcl.1 (by rw [mW_at hx1, mEl_o hx2 hcl.2]; rfl)
  refine va_calli (va_runV (As := As) (rest := rest) hC (hM F1 he) (cwV np C.2.2.2.2.1 cd.1 rfl hR.1 hR.2.1 cd.2 hR.2.2) ⟨m_blind, hrv, hpre⟩ rfl hn hl rfl (lv_room hrest) hdg hf) hI.2.2 (fun q _ h => h) (fun q h => h) (fun r u t H1 locs1 ht hvm hw hB hz1 hk1 hS => ?_)
  obtain ⟨rfl, hu, hn1⟩ := hw
  rw [show u = S from hu] at hB hn1
  exact kk _ H1 locs1 hF (m_back hI ht hB hn1 hS)
theorem m_callSi (C : mCx p s m args meth c cc nL own ret E n0) {idx n2 np : Nat} {y : MethodName} {bytes : ByteArray} {ret2 : Option FieldType} {rm : Room} {As : List Value}  (cd : mCdS own idx y bytes n2 ret2 np) (hl : ls.size = nL) (hI : mIv s E S H locs cells) {e0 : Option (Int32 × mS)} {k : Int32 → mS → Option ρ} (hF : mC e0 k = some F) (hM : ∀ F1 : Int32 × mS, e0 = some F1 → mMi l y bytes n2 ret2 rm 0 0 As E S F1) {st : List Value} (hst : st = As.reverse ++ rest) (hn : As.length = np) (hR : rm.cells = 0 ∧ rm.slots = 0 ∧ rm.frames + 1 ≤ R.frames ∧ 8 + (n2 + 11) + rm.locals ≤ R.locals) (hf : cells ≤ R.cells ∧ slots ≤ R.slots) (hrest : (rest.map fun v => v.category).sum ≤ 8) (hdg : decode cc pc = .ok (.invokestatic idx, 3))
    (kk : ∀ (r : Int32) (S' : mS) (H1 : Heap) (locs1 : List Loc), k r S' = some F → mIv s E S' H1 locs1 cells → W p l e R s m args below meth c H1 locs1 cells slots Q (F0 m (pc + 3) ls (.int r :: rest))) : W p l e R s m args below meth c H locs cells slots Q (F0 m pc ls st) := by
  subst hst
  
  obtain ⟨F1, he, hF⟩ := mC_some hF
  refine m_size hI fun hH => ?_
  have hC : CallFix p m c cc nL s args wsL_law own := ⟨C.1, C.2.1, C.2.2.1, C.2.2.2.1, C.2.2.2.2.1⟩
  have hpre : ∀ U : State, U.heap = H → s.WarmedH U.vm → va_Pc As (mPre E S) As.toArray U := fun U hU hW => ⟨rfl, m_pre C.2.2.2.2.2.2.2.1 C.2.2.2.2.2.2.2.2.1 C.2.2.2.2.2.2.2.2.2.1 hH hI.2.2 hU hW⟩
  refine va_calli (va_runS (As := As) (rest := rest) hC (hM F1 he) (va_cwS np C.2.2.2.2.1 cd.1 rfl hR.1 hR.2.1 cd.2 hR.2.2) ⟨m_blind, hpre⟩ rfl hn hl rfl (lv_room hrest) hdg hf) hI.2.2 (fun q _ h => h) (fun q h => h) (fun r u t H1 locs1 ht hvm hw hB hz1 hk1 hS => ?_)
  obtain ⟨rfl, rfl, hn1⟩ := hw
  exact kk _ _ H1 locs1 hF (m_back hI ht hB hn1 hS)
theorem m_callSiR (C : mCx p s m args meth c cc nL own ret E n0) {idx n2 np : Nat} {y : MethodName} {bytes : ByteArray} {ret2 : Option FieldType} {rm : Room} {As : List Value}  (cd : mCdS own idx y bytes n2 ret2 np) (hl : ls.size = nL) (hI : mIv s E S H locs cells) {e0 : Option Int32} {k : Int32 → Option ρ} (hF : mCp e0 k = some F) (hM : ∀ F1 : Int32, e0 = some F1 → mMi l y bytes n2 ret2 rm 0 0 As E S (F1, S)) {st : List Value} (hst : st = As.reverse ++ rest) (hn : As.length = np) (hR : rm.cells = 0 ∧ rm.slots = 0 ∧ rm.frames + 1 ≤ R.frames ∧ 8 + (n2 + 11) + rm.locals ≤ R.locals) (hf : cells ≤ R.cells ∧ slots ≤ R.slots) (hrest : (rest.map fun v => v.category).sum ≤ 8) (hdg : decode cc pc = .ok (.invokestatic idx, 3))
    (kk : ∀ (r : Int32) (H1 : Heap) (locs1 : List Loc), k r = some F → mIv s E S H1 locs1 cells → W p l e R s m args below meth c H1 locs1 cells slots Q (F0 m (pc + 3) ls (.int r :: rest))) : W p l e R s m args below meth c H locs cells slots Q (F0 m pc ls st) := by
  subst hst
  
  obtain ⟨F1, he, hF⟩ := mCp_some hF
  refine m_size hI fun hH => ?_
  have hC : CallFix p m c cc nL s args wsL_law own := ⟨C.1, C.2.1, C.2.2.1, C.2.2.2.1, C.2.2.2.2.1⟩
  have hpre : ∀ U : State, U.heap = H → s.WarmedH U.vm → va_Pc As (mPre E S) As.toArray U := fun U hU hW => ⟨rfl, m_pre C.2.2.2.2.2.2.2.1 C.2.2.2.2.2.2.2.2.1 C.2.2.2.2.2.2.2.2.2.1 hH hI.2.2 hU hW⟩
  refine va_calli (va_runS (As := As) (rest := rest) hC (hM F1 he) (va_cwS np C.2.2.2.2.1 cd.1 rfl hR.1 hR.2.1 cd.2 hR.2.2) ⟨m_blind, hpre⟩ rfl hn hl rfl (lv_room hrest) hdg hf) hI.2.2 (fun q _ h => h) (fun q h => h) (fun r u t H1 locs1 ht hvm hw hB hz1 hk1 hS => ?_)
  obtain ⟨rfl, hu, hn1⟩ := hw
  rw [show u = S from hu] at hB hn1
  exact kk _ H1 locs1 hF (m_back hI ht hB hn1 hS)
theorem m_callNi (C : mCx p s m args meth c cc nL own ret E n0) {idx n2 np : Nat} {y : MethodName} {bytes : ByteArray} {ret2 : Option FieldType} {rm : Room} {As : List Value}  (cd : mCdN own idx y bytes n2 ret2 np) (hl : ls.size = nL) (hI : mIv s E S H locs cells) {e0 : Option (Int32 × mS)} {k : Int32 → mS → Option ρ} (hF : mC e0 k = some F) (hM : ∀ F1 : Int32 × mS, e0 = some F1 → mMi l y bytes n2 ret2 rm 0 0 As E S F1) {st : List Value} (hst : st = As.reverse ++ rest) (hn : As.length = np) (hR : rm.cells = 0 ∧ rm.slots = 0 ∧ rm.frames + 1 ≤ R.frames ∧ 8 + (n2 + 11) + rm.locals ≤ R.locals) (hf : cells ≤ R.cells ∧ slots ≤ R.slots) (hrest : (rest.map fun v => v.category).sum ≤ 8) (hdg : decode cc pc = .ok (.invokestatic idx, 3))
    (kk : ∀ (r : Int32) (S' : mS) (H1 : Heap) (locs1 : List Loc), k r S' = some F → mIv s E S' H1 locs1 cells → W p l e R s m args below meth c H1 locs1 cells slots Q (F0 m (pc + 3) ls (.int r :: rest))) : W p l e R s m args below meth c H locs cells slots Q (F0 m pc ls st) := by
  subst hst
  
  obtain ⟨F1, he, hF⟩ := mC_some hF
  refine m_size hI fun hH => ?_
  have hC : CallFix p m c cc nL s args wsL_law own := ⟨C.1, C.2.1, C.2.2.1, C.2.2.2.1, C.2.2.2.2.1⟩
  have hpre : ∀ U : State, U.heap = H → s.WarmedH U.vm → va_Pc As (mPre E S) As.toArray U := fun U hU hW => ⟨rfl, m_pre C.2.2.2.2.2.2.2.1 C.2.2.2.2.2.2.2.2.1 C.2.2.2.2.2.2.2.2.2.1 hH hI.2.2 hU hW⟩
  refine va_calli (va_runSN (host := "WhistleFlock") (As := As) (rest := rest) hC (hM F1 he) ⟨va_cnB np C.2.2.2.2.1 cd.2.1 rfl hR.1 hR.2.1 (C.2.2.2.2.2.2.2.2.1.1 _ cd.1) (C.2.2.2.2.1 _ cd.2.2.2.1) cd.2.2.2.2 hR.2.2, C.2.2.2.2.1 _ cd.2.2.1, trivial⟩ ⟨m_blind, hpre⟩ rfl hn hl rfl (lv_room hrest) hdg hf) hI.2.2 (fun q _ h => h) (fun q h => h) (fun r u t H1 locs1 ht hvm hw hB hz1 hk1 hS => ?_)
  obtain ⟨rfl, rfl, hn1⟩ := hw
  exact kk _ _ H1 locs1 hF (m_back hI ht hB hn1 hS)
theorem m_callNiR (C : mCx p s m args meth c cc nL own ret E n0) {idx n2 np : Nat} {y : MethodName} {bytes : ByteArray} {ret2 : Option FieldType} {rm : Room} {As : List Value}  (cd : mCdN own idx y bytes n2 ret2 np) (hl : ls.size = nL) (hI : mIv s E S H locs cells) {e0 : Option Int32} {k : Int32 → Option ρ} (hF : mCp e0 k = some F) (hM : ∀ F1 : Int32, e0 = some F1 → mMi l y bytes n2 ret2 rm 0 0 As E S (F1, S)) {st : List Value} (hst : st = As.reverse ++ rest) (hn : As.length = np) (hR : rm.cells = 0 ∧ rm.slots = 0 ∧ rm.frames + 1 ≤ R.frames ∧ 8 + (n2 + 11) + rm.locals ≤ R.locals) (hf : cells ≤ R.cells ∧ slots ≤ R.slots) (hrest : (rest.map fun v => v.category).sum ≤ 8) (hdg : decode cc pc = .ok (.invokestatic idx, 3))
    (kk : ∀ (r : Int32) (H1 : Heap) (locs1 : List Loc), k r = some F → mIv s E S H1 locs1 cells → W p l e R s m args below meth c H1 locs1 cells slots Q (F0 m (pc + 3) ls (.int r :: rest))) : W p l e R s m args below meth c H locs cells slots Q (F0 m pc ls st) := by
  subst hst
  
  obtain ⟨F1, he, hF⟩ := mCp_some hF
  refine m_size hI fun hH => ?_
  have hC : CallFix p m c cc nL s args wsL_law own := ⟨C.1, C.2.1, C.2.2.1, C.2.2.2.1, C.2.2.2.2.1⟩
  have hpre : ∀ U : State, U.heap = H → s.WarmedH U.vm → va_Pc As (mPre E S) As.toArray U := fun U hU hW => ⟨rfl, m_pre C.2.2.2.2.2.2.2.1 C.2.2.2.2.2.2.2.2.1 C.2.2.2.2.2.2.2.2.2.1 hH hI.2.2 hU hW⟩
  refine va_calli (va_runSN (host := "WhistleFlock") (As := As) (rest := rest) hC (hM F1 he) ⟨va_cnB np C.2.2.2.2.1 cd.2.1 rfl hR.1 hR.2.1 (C.2.2.2.2.2.2.2.2.1.1 _ cd.1) (C.2.2.2.2.1 _ cd.2.2.2.1) cd.2.2.2.2 hR.2.2, C.2.2.2.2.1 _ cd.2.2.1, trivial⟩ ⟨m_blind, hpre⟩ rfl hn hl rfl (lv_room hrest) hdg hf) hI.2.2 (fun q _ h => h) (fun q h => h) (fun r u t H1 locs1 ht hvm hw hB hz1 hk1 hS => ?_)
  obtain ⟨rfl, hu, hn1⟩ := hw
  rw [show u = S from hu] at hB hn1
  exact kk _ H1 locs1 hF (m_back hI ht hB hn1 hS)
theorem m_callVl (C : mCx p s m args meth c cc nL own ret E n0) {idx n2 np : Nat} {y : MethodName} {bytes : ByteArray} {ret2 : Option FieldType} {rm : Room} {As : List Value} {o : Int32} {ci : Nat} {Cn : String} {T0 : u_T} {N0 : Nat} (cd : mCdV own idx Cn y bytes n2 ret2 np) (hcl : vwCl[ci]? = some (Cn, T0, N0) ∧ ci < 8) (hl : ls.size = nL) (hI : mIv s E S H locs cells) {e0 : Option (Int64 × mS)} {k : Int64 → mS → Option ρ} (hF : mRc ci o S (mC e0 k) = some F) (hM : ∀ F1 : Int64 × mS, e0 = some F1 → mMl l y bytes n2 ret2 rm 0 0 (.ref (mA E.b o) :: As) E S F1) {st : List Value} (hst : st = As.reverse ++ .ref (mA E.b o) :: rest) (hn : As.length = np) (hR : rm.cells = 0 ∧ rm.slots = 0 ∧ rm.frames + 1 ≤ R.frames ∧ 8 + (n2 + 11) + rm.locals ≤ R.locals) (hf : cells ≤ R.cells ∧ slots ≤ R.slots) (hrest : (rest.map fun v => v.category).sum ≤ 8) (hdg : decode cc pc = .ok (.invokevirtual idx, 3))
    (kk : ∀ (r : Int64) (S' : mS) (H1 : Heap) (locs1 : List Loc), k r S' = some F → mIv s E S' H1 locs1 cells → W p l e R s m args below meth c H1 locs1 cells slots Q (F0 m (pc + 3) ls (.long r :: rest))) : W p l e R s m args below meth c H locs cells slots Q (F0 m pc ls st) := by
  subst hst
  obtain ⟨hrc, hF⟩ := mRc_some hF
  obtain ⟨F1, he, hF⟩ := mC_some hF
  refine m_size hI fun hH => ?_
  have hC : CallFix p m c cc nL s args wsL_law own := ⟨C.1, C.2.1, C.2.2.1, C.2.2.2.1, C.2.2.2.2.1⟩
  have hpre : ∀ U : State, U.heap = H → s.WarmedH U.vm → va_Pc (.ref (mA E.b o) :: As) (mPre E S) (.ref (mA E.b o) :: As).toArray U := fun U hU hW => ⟨rfl, m_pre C.2.2.2.2.2.2.2.1 C.2.2.2.2.2.2.2.2.1 C.2.2.2.2.2.2.2.2.2.1 hH hI.2.2 hU hW⟩
  obtain ⟨-, hx1, hx2⟩ := mIs_spec hrc
  have hrv : ∃ cellB : Cell, H[mA E.b o]? = some cellB ∧ cellB.vm.isStatics = false ∧ s.vm.findClass Cn = some cellB.cls := va_recv C.2.2.2.2.2.2.2.1 hI.2.1 (ci := ci) (q0 := o.toNatClampNeg) hcl.1 (by rw [mW_at hx1, mEl_o hx2 hcl.2]; rfl)
  refine va_calll (va_runV (As := As) (rest := rest) hC (hM F1 he) (cwV np C.2.2.2.2.1 cd.1 rfl hR.1 hR.2.1 cd.2 hR.2.2) ⟨m_blind, hrv, hpre⟩ rfl hn hl rfl (lv_room hrest) hdg hf) hI.2.2 (fun q _ h => h) (fun q h => h) (fun r u t H1 locs1 ht hvm hw hB hz1 hk1 hS => ?_)
  obtain ⟨rfl, rfl, hn1⟩ := hw
  exact kk _ _ H1 locs1 hF (m_back hI ht hB hn1 hS)
theorem m_callVlR (C : mCx p s m args meth c cc nL own ret E n0) {idx n2 np : Nat} {y : MethodName} {bytes : ByteArray} {ret2 : Option FieldType} {rm : Room} {As : List Value} {o : Int32} {ci : Nat} {Cn : String} {T0 : u_T} {N0 : Nat} (cd : mCdV own idx Cn y bytes n2 ret2 np) (hcl : vwCl[ci]? = some (Cn, T0, N0) ∧ ci < 8) (hl : ls.size = nL) (hI : mIv s E S H locs cells) {e0 : Option Int64} {k : Int64 → Option ρ} (hF : mRc ci o S (mCp e0 k) = some F) (hM : ∀ F1 : Int64, e0 = some F1 → mMl l y bytes n2 ret2 rm 0 0 (.ref (mA E.b o) :: As) E S (F1, S)) {st : List Value} (hst : st = As.reverse ++ .ref (mA E.b o) :: rest) (hn : As.length = np) (hR : rm.cells = 0 ∧ rm.slots = 0 ∧ rm.frames + 1 ≤ R.frames ∧ 8 + (n2 + 11) + rm.locals ≤ R.locals) (hf : cells ≤ R.cells ∧ slots ≤ R.slots) (hrest : (rest.map fun v => v.category).sum ≤ 8) (hdg : decode cc pc = .ok (.invokevirtual idx, 3))
    (kk : ∀ (r : Int64) (H1 : Heap) (locs1 : List Loc), k r = some F → mIv s E S H1 locs1 cells → W p l e R s m args below meth c H1 locs1 cells slots Q (F0 m (pc + 3) ls (.long r :: rest))) : W p l e R s m args below meth c H locs cells slots Q (F0 m pc ls st) := by
  subst hst
  obtain ⟨hrc, hF⟩ := mRc_some hF
  obtain ⟨F1, he, hF⟩ := mCp_some hF
  refine m_size hI fun hH => ?_
  have hC : CallFix p m c cc nL s args wsL_law own := ⟨C.1, C.2.1, C.2.2.1, C.2.2.2.1, C.2.2.2.2.1⟩
  have hpre : ∀ U : State, U.heap = H → s.WarmedH U.vm → va_Pc (.ref (mA E.b o) :: As) (mPre E S) (.ref (mA E.b o) :: As).toArray U := fun U hU hW => ⟨rfl, m_pre C.2.2.2.2.2.2.2.1 C.2.2.2.2.2.2.2.2.1 C.2.2.2.2.2.2.2.2.2.1 hH hI.2.2 hU hW⟩
  obtain ⟨-, hx1, hx2⟩ := mIs_spec hrc
  have hrv : ∃ cellB : Cell, H[mA E.b o]? = some cellB ∧ cellB.vm.isStatics = false ∧ s.vm.findClass Cn = some cellB.cls := va_recv C.2.2.2.2.2.2.2.1 hI.2.1 (ci := ci) (q0 := o.toNatClampNeg) hcl.1 (by rw [mW_at hx1, mEl_o hx2 hcl.2]; rfl)
  refine va_calll (va_runV (As := As) (rest := rest) hC (hM F1 he) (cwV np C.2.2.2.2.1 cd.1 rfl hR.1 hR.2.1 cd.2 hR.2.2) ⟨m_blind, hrv, hpre⟩ rfl hn hl rfl (lv_room hrest) hdg hf) hI.2.2 (fun q _ h => h) (fun q h => h) (fun r u t H1 locs1 ht hvm hw hB hz1 hk1 hS => ?_)
  obtain ⟨rfl, hu, hn1⟩ := hw
  rw [show u = S from hu] at hB hn1
  exact kk _ H1 locs1 hF (m_back hI ht hB hn1 hS)
theorem m_callSl (C : mCx p s m args meth c cc nL own ret E n0) {idx n2 np : Nat} {y : MethodName} {bytes : ByteArray} {ret2 : Option FieldType} {rm : Room} {As : List Value}  (cd : mCdS own idx y bytes n2 ret2 np) (hl : ls.size = nL) (hI : mIv s E S H locs cells) {e0 : Option (Int64 × mS)} {k : Int64 → mS → Option ρ} (hF : mC e0 k = some F) (hM : ∀ F1 : Int64 × mS, e0 = some F1 → mMl l y bytes n2 ret2 rm 0 0 As E S F1) {st : List Value} (hst : st = As.reverse ++ rest) (hn : As.length = np) (hR : rm.cells = 0 ∧ rm.slots = 0 ∧ rm.frames + 1 ≤ R.frames ∧ 8 + (n2 + 11) + rm.locals ≤ R.locals) (hf : cells ≤ R.cells ∧ slots ≤ R.slots) (hrest : (rest.map fun v => v.category).sum ≤ 8) (hdg : decode cc pc = .ok (.invokestatic idx, 3))
    (kk : ∀ (r : Int64) (S' : mS) (H1 : Heap) (locs1 : List Loc), k r S' = some F → mIv s E S' H1 locs1 cells → W p l e R s m args below meth c H1 locs1 cells slots Q (F0 m (pc + 3) ls (.long r :: rest))) : W p l e R s m args below meth c H locs cells slots Q (F0 m pc ls st) := by
  subst hst
  
  obtain ⟨F1, he, hF⟩ := mC_some hF
  refine m_size hI fun hH => ?_
  have hC : CallFix p m c cc nL s args wsL_law own := ⟨C.1, C.2.1, C.2.2.1, C.2.2.2.1, C.2.2.2.2.1⟩
  have hpre : ∀ U : State, U.heap = H → s.WarmedH U.vm → va_Pc As (mPre E S) As.toArray U := fun U hU hW => ⟨rfl, m_pre C.2.2.2.2.2.2.2.1 C.2.2.2.2.2.2.2.2.1 C.2.2.2.2.2.2.2.2.2.1 hH hI.2.2 hU hW⟩
  refine va_calll (va_runS (As := As) (rest := rest) hC (hM F1 he) (va_cwS np C.2.2.2.2.1 cd.1 rfl hR.1 hR.2.1 cd.2 hR.2.2) ⟨m_blind, hpre⟩ rfl hn hl rfl (lv_room hrest) hdg hf) hI.2.2 (fun q _ h => h) (fun q h => h) (fun r u t H1 locs1 ht hvm hw hB hz1 hk1 hS => ?_)
  obtain ⟨rfl, rfl, hn1⟩ := hw
  exact kk _ _ H1 locs1 hF (m_back hI ht hB hn1 hS)
theorem m_callSlR (C : mCx p s m args meth c cc nL own ret E n0) {idx n2 np : Nat} {y : MethodName} {bytes : ByteArray} {ret2 : Option FieldType} {rm : Room} {As : List Value}  (cd : mCdS own idx y bytes n2 ret2 np) (hl : ls.size = nL) (hI : mIv s E S H locs cells) {e0 : Option Int64} {k : Int64 → Option ρ} (hF : mCp e0 k = some F) (hM : ∀ F1 : Int64, e0 = some F1 → mMl l y bytes n2 ret2 rm 0 0 As E S (F1, S)) {st : List Value} (hst : st = As.reverse ++ rest) (hn : As.length = np) (hR : rm.cells = 0 ∧ rm.slots = 0 ∧ rm.frames + 1 ≤ R.frames ∧ 8 + (n2 + 11) + rm.locals ≤ R.locals) (hf : cells ≤ R.cells ∧ slots ≤ R.slots) (hrest : (rest.map fun v => v.category).sum ≤ 8) (hdg : decode cc pc = .ok (.invokestatic idx, 3))
    (kk : ∀ (r : Int64) (H1 : Heap) (locs1 : List Loc), k r = some F → mIv s E S H1 locs1 cells → W p l e R s m args below meth c H1 locs1 cells slots Q (F0 m (pc + 3) ls (.long r :: rest))) : W p l e R s m args below meth c H locs cells slots Q (F0 m pc ls st) := by
  subst hst
  
  obtain ⟨F1, he, hF⟩ := mCp_some hF
  refine m_size hI fun hH => ?_
  have hC : CallFix p m c cc nL s args wsL_law own := ⟨C.1, C.2.1, C.2.2.1, C.2.2.2.1, C.2.2.2.2.1⟩
  have hpre : ∀ U : State, U.heap = H → s.WarmedH U.vm → va_Pc As (mPre E S) As.toArray U := fun U hU hW => ⟨rfl, m_pre C.2.2.2.2.2.2.2.1 C.2.2.2.2.2.2.2.2.1 C.2.2.2.2.2.2.2.2.2.1 hH hI.2.2 hU hW⟩
  refine va_calll (va_runS (As := As) (rest := rest) hC (hM F1 he) (va_cwS np C.2.2.2.2.1 cd.1 rfl hR.1 hR.2.1 cd.2 hR.2.2) ⟨m_blind, hpre⟩ rfl hn hl rfl (lv_room hrest) hdg hf) hI.2.2 (fun q _ h => h) (fun q h => h) (fun r u t H1 locs1 ht hvm hw hB hz1 hk1 hS => ?_)
  obtain ⟨rfl, hu, hn1⟩ := hw
  rw [show u = S from hu] at hB hn1
  exact kk _ H1 locs1 hF (m_back hI ht hB hn1 hS)
theorem m_callVv (C : mCx p s m args meth c cc nL own ret E n0) {idx n2 np : Nat} {y : MethodName} {bytes : ByteArray} {ret2 : Option FieldType} {rm : Room} {As : List Value} {o : Int32} {ci : Nat} {Cn : String} {T0 : u_T} {N0 : Nat} (cd : mCdV own idx Cn y bytes n2 ret2 np) (hcl : vwCl[ci]? = some (Cn, T0, N0) ∧ ci < 8) (hl : ls.size = nL) (hI : mIv s E S H locs cells) {e0 : Option (mS)} {k : mS → Option ρ} (hF : mRc ci o S (mCv e0 k) = some F) (hM : ∀ F1 : mS, e0 = some F1 → mMv l y bytes n2 ret2 rm 0 0 (.ref (mA E.b o) :: As) E S F1) {st : List Value} (hst : st = As.reverse ++ .ref (mA E.b o) :: rest) (hn : As.length = np) (hR : rm.cells = 0 ∧ rm.slots = 0 ∧ rm.frames + 1 ≤ R.frames ∧ 8 + (n2 + 11) + rm.locals ≤ R.locals) (hf : cells ≤ R.cells ∧ slots ≤ R.slots) (hrest : (rest.map fun v => v.category).sum ≤ 8) (hdg : decode cc pc = .ok (.invokevirtual idx, 3))
    (kk : ∀ (S' : mS) (H1 : Heap) (locs1 : List Loc), k S' = some F → mIv s E S' H1 locs1 cells → W p l e R s m args below meth c H1 locs1 cells slots Q (F0 m (pc + 3) ls rest)) : W p l e R s m args below meth c H locs cells slots Q (F0 m pc ls st) := by
  subst hst
  obtain ⟨hrc, hF⟩ := mRc_some hF
  obtain ⟨F1, he, hF⟩ := mCv_some hF
  refine m_size hI fun hH => ?_
  have hC : CallFix p m c cc nL s args wsL_law own := ⟨C.1, C.2.1, C.2.2.1, C.2.2.2.1, C.2.2.2.2.1⟩
  have hpre : ∀ U : State, U.heap = H → s.WarmedH U.vm → va_Pc (.ref (mA E.b o) :: As) (mPre E S) (.ref (mA E.b o) :: As).toArray U := fun U hU hW => ⟨rfl, m_pre C.2.2.2.2.2.2.2.1 C.2.2.2.2.2.2.2.2.1 C.2.2.2.2.2.2.2.2.2.1 hH hI.2.2 hU hW⟩
  obtain ⟨-, hx1, hx2⟩ := mIs_spec hrc
  have hrv : ∃ cellB : Cell, H[mA E.b o]? = some cellB ∧ cellB.vm.isStatics = false ∧ s.vm.findClass Cn = some cellB.cls := va_recv C.2.2.2.2.2.2.2.1 hI.2.1 (ci := ci) (q0 := o.toNatClampNeg) hcl.1 (by rw [mW_at hx1, mEl_o hx2 hcl.2]; rfl)
  refine va_callv (va_runV (As := As) (rest := rest) hC (hM F1 he) (cwV np C.2.2.2.2.1 cd.1 rfl hR.1 hR.2.1 cd.2 hR.2.2) ⟨m_blind, hrv, hpre⟩ rfl hn hl rfl (lv_room hrest) hdg hf) hI.2.2 (fun q _ h => h) (fun q h => h) (fun u t H1 locs1 ht hvm hw hB hz1 hk1 hS => ?_)
  obtain ⟨rfl, hn1⟩ := hw
  exact kk _ H1 locs1 hF (m_back hI ht hB hn1 hS)
theorem m_callSv (C : mCx p s m args meth c cc nL own ret E n0) {idx n2 np : Nat} {y : MethodName} {bytes : ByteArray} {ret2 : Option FieldType} {rm : Room} {As : List Value}  (cd : mCdS own idx y bytes n2 ret2 np) (hl : ls.size = nL) (hI : mIv s E S H locs cells) {e0 : Option (mS)} {k : mS → Option ρ} (hF : mCv e0 k = some F) (hM : ∀ F1 : mS, e0 = some F1 → mMv l y bytes n2 ret2 rm 0 0 As E S F1) {st : List Value} (hst : st = As.reverse ++ rest) (hn : As.length = np) (hR : rm.cells = 0 ∧ rm.slots = 0 ∧ rm.frames + 1 ≤ R.frames ∧ 8 + (n2 + 11) + rm.locals ≤ R.locals) (hf : cells ≤ R.cells ∧ slots ≤ R.slots) (hrest : (rest.map fun v => v.category).sum ≤ 8) (hdg : decode cc pc = .ok (.invokestatic idx, 3))
    (kk : ∀ (S' : mS) (H1 : Heap) (locs1 : List Loc), k S' = some F → mIv s E S' H1 locs1 cells → W p l e R s m args below meth c H1 locs1 cells slots Q (F0 m (pc + 3) ls rest)) : W p l e R s m args below meth c H locs cells slots Q (F0 m pc ls st) := by
  subst hst
  
  obtain ⟨F1, he, hF⟩ := mCv_some hF
  refine m_size hI fun hH => ?_
  have hC : CallFix p m c cc nL s args wsL_law own := ⟨C.1, C.2.1, C.2.2.1, C.2.2.2.1, C.2.2.2.2.1⟩
  have hpre : ∀ U : State, U.heap = H → s.WarmedH U.vm → va_Pc As (mPre E S) As.toArray U := fun U hU hW => ⟨rfl, m_pre C.2.2.2.2.2.2.2.1 C.2.2.2.2.2.2.2.2.1 C.2.2.2.2.2.2.2.2.2.1 hH hI.2.2 hU hW⟩
  refine va_callv (va_runS (As := As) (rest := rest) hC (hM F1 he) (va_cwS np C.2.2.2.2.1 cd.1 rfl hR.1 hR.2.1 cd.2 hR.2.2) ⟨m_blind, hpre⟩ rfl hn hl rfl (lv_room hrest) hdg hf) hI.2.2 (fun q _ h => h) (fun q h => h) (fun u t H1 locs1 ht hvm hw hB hz1 hk1 hS => ?_)
  obtain ⟨rfl, hn1⟩ := hw
  exact kk _ H1 locs1 hF (m_back hI ht hB hn1 hS)
theorem m_callIv (C : mCx p s m args meth c cc nL own ret E n0) {idx n2 np : Nat} {y : MethodName} {bytes : ByteArray} {rm : Room} {mc ms : Nat} {As : List Value} {o : Int32}  (cd : mCdI own idx y bytes n2 np) (hl : ls.size = nL) (hI : mIv s E S H locs cells) {e0 : Option (mS)} {k : mS → Option ρ} (hF : mCv e0 k = some F) (hM : ∀ F1 : mS, e0 = some F1 → mMv l y bytes n2 none rm mc ms (.ref (mA E.b o) :: As) E S F1) {st : List Value} (hst : st = As.reverse ++ .ref (mA E.b o) :: rest) (hn : As.length = np) (hR : rm.cells = mc ∧ rm.slots = ms ∧ rm.frames + 1 ≤ R.frames ∧ 8 + (n2 + 11) + rm.locals ≤ R.locals) (hf : cells + mc ≤ R.cells ∧ slots + ms ≤ R.slots) (hrest : (rest.map fun v => v.category).sum ≤ 8) (hdg : decode cc pc = .ok (.invokespecial idx, 3))
    (kk : ∀ (S' : mS) (H1 : Heap) (locs1 : List Loc), k S' = some F → mIv s E S' H1 locs1 (cells + mc) → W p l e R s m args below meth c H1 locs1 (cells + mc) (slots + ms) Q (F0 m (pc + 3) ls rest)) : W p l e R s m args below meth c H locs cells slots Q (F0 m pc ls st) := by
  subst hst
  
  obtain ⟨F1, he, hF⟩ := mCv_some hF
  refine m_size hI fun hH => ?_
  have hC : CallFix p m c cc nL s args wsL_law own := ⟨C.1, C.2.1, C.2.2.1, C.2.2.2.1, C.2.2.2.2.1⟩
  have hpre : ∀ U : State, U.heap = H → s.WarmedH U.vm → va_Pc (.ref (mA E.b o) :: As) (mPre E S) (.ref (mA E.b o) :: As).toArray U := fun U hU hW => ⟨rfl, m_pre C.2.2.2.2.2.2.2.1 C.2.2.2.2.2.2.2.2.1 C.2.2.2.2.2.2.2.2.2.1 hH hI.2.2 hU hW⟩
  refine va_callv (va_runI (As := As) (rest := rest) hC (hM F1 he) (cwI np C.2.2.2.2.1 cd.2.1 rfl hR.1 hR.2.1 (C.2.2.2.2.1 _ cd.2.2.2.1) (C.2.2.2.2.1 _ cd.1) (C.2.2.2.2.1 _ cd.2.2.1) cd.2.2.2.2.1 cd.2.2.2.2.2 hR.2.2) ⟨m_blind, hpre⟩ rfl hn hl rfl (lv_room hrest) hdg hf) hI.2.2 (fun q _ h => h) (fun q h => h) (fun u t H1 locs1 ht hvm hw hB hz1 hk1 hS => ?_)
  obtain ⟨rfl, hn1⟩ := hw
  exact kk _ H1 locs1 hF (m_back hI ht hB hn1 hS)
theorem m_callJv (C : mCx p s m args meth c cc nL own ret E n0) {idx n2 np : Nat} {y : MethodName} {bytes : ByteArray} {rm : Room} {mc ms : Nat} {As : List Value} {o : Int32}  (cd : mCdJ own idx y bytes n2 np) (hl : ls.size = nL) (hI : mIv s E S H locs cells) {e0 : Option (mS)} {k : mS → Option ρ} (hF : mCv e0 k = some F) (hM : ∀ F1 : mS, e0 = some F1 → mMv l y bytes n2 none rm mc ms (.ref (mA E.b o) :: As) E S F1) {st : List Value} (hst : st = As.reverse ++ .ref (mA E.b o) :: rest) (hn : As.length = np) (hR : rm.cells = mc ∧ rm.slots = ms ∧ rm.frames + 1 ≤ R.frames ∧ 8 + (n2 + 11) + rm.locals ≤ R.locals) (hf : cells + mc ≤ R.cells ∧ slots + ms ≤ R.slots) (hrest : (rest.map fun v => v.category).sum ≤ 8) (hdg : decode cc pc = .ok (.invokespecial idx, 3))
    (kk : ∀ (S' : mS) (H1 : Heap) (locs1 : List Loc), k S' = some F → mIv s E S' H1 locs1 (cells + mc) → W p l e R s m args below meth c H1 locs1 (cells + mc) (slots + ms) Q (F0 m (pc + 3) ls rest)) : W p l e R s m args below meth c H locs cells slots Q (F0 m pc ls st) := by
  subst hst
  
  obtain ⟨F1, he, hF⟩ := mCv_some hF
  refine m_size hI fun hH => ?_
  have hC : CallFix p m c cc nL s args wsL_law own := ⟨C.1, C.2.1, C.2.2.1, C.2.2.2.1, C.2.2.2.2.1⟩
  have hpre : ∀ U : State, U.heap = H → s.WarmedH U.vm → va_Pc (.ref (mA E.b o) :: As) (mPre E S) (.ref (mA E.b o) :: As).toArray U := fun U hU hW => ⟨rfl, m_pre C.2.2.2.2.2.2.2.1 C.2.2.2.2.2.2.2.2.1 C.2.2.2.2.2.2.2.2.2.1 hH hI.2.2 hU hW⟩
  refine va_callv (va_runIN (host := "WhistleFlock") (As := As) (rest := rest) hC (hM F1 he) ⟨va_cnB np C.2.2.2.2.1 cd.2.1 rfl hR.1 hR.2.1 (C.2.2.2.2.2.2.2.2.1.1 _ cd.1) (C.2.2.2.2.1 _ cd.2.2.2.1) cd.2.2.2.2.2 hR.2.2, cd.2.2.2.2.1, C.2.2.2.2.1 _ cd.2.2.1⟩ ⟨m_blind, hpre⟩ rfl hn hl rfl (lv_room hrest) hdg hf) hI.2.2 (fun q _ h => h) (fun q h => h) (fun u t H1 locs1 ht hvm hw hB hz1 hk1 hS => ?_)
  obtain ⟨rfl, hn1⟩ := hw
  exact kk _ H1 locs1 hF (m_back hI ht hB hn1 hS)

/-- returns -/
theorem m_ireti (C : mCx p s m args meth c cc nL own (some .int) E n0) (hI : mIv s E S H locs cells) {v : Int32} {F : Int32 × mS} (hF : some (v, S) = some F) (hdg : decode cc pc = .ok (.ireturn, 1)) : W p l e R s m args below meth c H locs cells slots (mQi below args s cells slots n0 E F) (F0 m pc ls [.int v]) := by
  cases hF
  refine m_size hI fun hH => ?_
  have hn : S.1 = n0 + cells := by have := hI.1; have := C.2.2.2.2.2.2.2.2.2.2; omega
  exact W.iret C.1 C.2.1 C.2.2.2.2.2.2.1 (fun t ht hW => ⟨⟨v, S, rfl, ⟨rfl, rfl, hn⟩, by unfold mPo; rw [ht]; exact hH⟩, hI.2.2.F ht⟩) hI.2.2.2.2 hdg C.2.2.2.2.2.1
theorem m_iretz (C : mCx p s m args meth c cc nL own (some .boolean) E n0) (hI : mIv s E S H locs cells) {v : Int32} {F : Int32 × mS} (hF : mZ v (some (v, S)) = some F) (hdg : decode cc pc = .ok (.ireturn, 1)) : W p l e R s m args below meth c H locs cells slots (mQi below args s cells slots n0 E F) (F0 m pc ls [.int v]) := by
  refine m_z hF fun hz hF => ?_
  cases hF
  refine m_size hI fun hH => ?_
  have hn : S.1 = n0 + cells := by have := hI.1; have := C.2.2.2.2.2.2.2.2.2.2; omega
  exact W.zret C.1 C.2.1 C.2.2.2.2.2.2.1 (by show Value.int (v &&& 1) = _; rw [hz]) (fun t ht hW => ⟨⟨v, S, rfl, ⟨rfl, rfl, hn⟩, by unfold mPo; rw [ht]; exact hH⟩, hI.2.2.F ht⟩) hI.2.2.2.2 hdg C.2.2.2.2.2.1
theorem m_lret (C : mCx p s m args meth c cc nL own (some .long) E n0) (hI : mIv s E S H locs cells) {v : Int64} {F : Int64 × mS} (hF : some (v, S) = some F) (hdg : decode cc pc = .ok (.lreturn, 1)) : W p l e R s m args below meth c H locs cells slots (mQl below args s cells slots n0 E F) (F0 m pc ls [.long v]) := by
  cases hF
  refine m_size hI fun hH => ?_
  have hn : S.1 = n0 + cells := by have := hI.1; have := C.2.2.2.2.2.2.2.2.2.2; omega
  exact W.lret C.1 C.2.1 C.2.2.2.2.2.2.1 (fun t ht hW => ⟨⟨v, S, rfl, ⟨rfl, rfl, hn⟩, by unfold mPo; rw [ht]; exact hH⟩, hI.2.2.F ht⟩) hI.2.2.2.2 hdg C.2.2.2.2.2.1
theorem m_vret (C : mCx p s m args meth c cc nL own none E n0) (hI : mIv s E S H locs cells) {F : mS} (hF : some S = some F) (hdg : decode cc pc = .ok (.return_, 1)) : W p l e R s m args below meth c H locs cells slots (mQv below args s cells slots n0 E F) (F0 m pc ls []) := by
  cases hF
  refine m_size hI fun hH => ?_
  have hn : S.1 = n0 + cells := by have := hI.1; have := C.2.2.2.2.2.2.2.2.2.2; omega
  exact W.vret C.1 C.2.1 C.2.2.2.2.2.2.1 (fun t ht hW => ⟨⟨S, rfl, ⟨rfl, hn⟩, by unfold mPo; rw [ht]; exact hH⟩, hI.2.2.F ht⟩) hI.2.2.2.2 hdg C.2.2.2.2.2.1
/-- of a method that writes nothing: its answer alone -/
theorem m_iretiR (C : mCx p s m args meth c cc nL own (some .int) E n0) (hI : mIv s E S H locs cells) {v r : Int32} (hF : some v = some r) (hdg : decode cc pc = .ok (.ireturn, 1)) : W p l e R s m args below meth c H locs cells slots (mQi below args s cells slots n0 E (r, S)) (F0 m pc ls [.int v]) := m_ireti C hI (by cases hF; rfl) hdg
theorem m_iretzR (C : mCx p s m args meth c cc nL own (some .boolean) E n0) (hI : mIv s E S H locs cells) {v r : Int32} (hF : mZ v (some v) = some r) (hdg : decode cc pc = .ok (.ireturn, 1)) : W p l e R s m args below meth c H locs cells slots (mQi below args s cells slots n0 E (r, S)) (F0 m pc ls [.int v]) := m_z hF fun hz hF => m_iretz C hI (by cases hF; rw [mZ, if_pos hz]) hdg
theorem m_lretR (C : mCx p s m args meth c cc nL own (some .long) E n0) (hI : mIv s E S H locs cells) {v r : Int64} (hF : some v = some r) (hdg : decode cc pc = .ok (.lreturn, 1)) : W p l e R s m args below meth c H locs cells slots (mQl below args s cells slots n0 E (r, S)) (F0 m pc ls [.long v]) := m_lret C hI (by cases hF; rfl) hdg
/-- Math -/
def mMathW (own : String) (idx : Nat) (y : MethodName) (b : ByteArray) (n : Nat) : Prop := Cond.methodLink own idx y ∈ wsL_law ∧ Cond.static y ∈ wsL_law ∧ Cond.initialized "java/lang/Math" ∈ wsL_law ∧ Cond.code y b n (some .int) ∈ wsL_law
theorem m_max (C : mCx p s m args meth c cc nL own ret E n0) {idx : Nat} (hw : mMathW own idx Lib.Math.max.name Lib.Math.max.code 2) (hl : ls.size = nL) (hc : cells ≤ R.cells) (hs : slots ≤ R.slots) (hf : 1 ≤ R.frames) (hlo : (rest.map fun v => v.category).sum + 13 ≤ R.locals) {x y : Int32} (hdg : decode cc pc = .ok (.invokestatic idx, 3)) (kk : W p l e R s m args below meth c H locs cells slots Q (F0 m (pc + 3) ls (.int (mMax x y) :: rest))) : W p l e R s m args below meth c H locs cells slots Q (F0 m pc ls (.int y :: .int x :: rest)) :=
  va_mmax C.1 C.2.1 (C.2.2.1.trans hl.symm) C.2.2.2.1 (C.2.2.2.2.1 _ hw.1) (C.2.2.2.2.1 _ hw.2.1) (C.2.2.2.2.1 _ hw.2.2.1) (C.2.2.2.2.1 _ hw.2.2.2) hf hlo hc hs hdg kk
theorem m_min (C : mCx p s m args meth c cc nL own ret E n0) {idx : Nat} (hw : mMathW own idx Lib.Math.min.name Lib.Math.min.code 2) (hl : ls.size = nL) (hc : cells ≤ R.cells) (hs : slots ≤ R.slots) (hf : 1 ≤ R.frames) (hlo : (rest.map fun v => v.category).sum + 13 ≤ R.locals) {x y : Int32} (hdg : decode cc pc = .ok (.invokestatic idx, 3)) (kk : W p l e R s m args below meth c H locs cells slots Q (F0 m (pc + 3) ls (.int (mMin x y) :: rest))) : W p l e R s m args below meth c H locs cells slots Q (F0 m pc ls (.int y :: .int x :: rest)) :=
  va_mmin C.1 C.2.1 (C.2.2.1.trans hl.symm) C.2.2.2.1 (C.2.2.2.2.1 _ hw.1) (C.2.2.2.2.1 _ hw.2.1) (C.2.2.2.2.1 _ hw.2.2.1) (C.2.2.2.2.1 _ hw.2.2.2) hf hlo hc hs hdg kk
theorem m_abs (C : mCx p s m args meth c cc nL own ret E n0) {idx : Nat} (hw : mMathW own idx Lib.Math.abs.name Lib.Math.abs.code 1) (hl : ls.size = nL) (hc : cells ≤ R.cells) (hs : slots ≤ R.slots) (hf : 1 ≤ R.frames) (hlo : (rest.map fun v => v.category).sum + 13 ≤ R.locals) {x : Int32} (hdg : decode cc pc = .ok (.invokestatic idx, 3)) (kk : W p l e R s m args below meth c H locs cells slots Q (F0 m (pc + 3) ls (.int (mAbs x) :: rest))) : W p l e R s m args below meth c H locs cells slots Q (F0 m pc ls (.int x :: rest)) :=
  va_mabs C.1 C.2.1 (C.2.2.1.trans hl.symm) C.2.2.2.1 (C.2.2.2.2.1 _ hw.1) (C.2.2.2.2.1 _ hw.2.1) (C.2.2.2.2.1 _ hw.2.2.1) (C.2.2.2.2.1 _ hw.2.2.2) hf hlo hc hs hdg kk
/-- a tableswitch: at one of its numbers -/
theorem m_swIn (C : mCx p s m args meth c cc nL own ret E n0) {dflt lo hi : Int} {offs : Array Int} {len : Nat} {x v : Int32} {off : Int} {tgt : Nat} (hdg : decode cc pc = .ok (.tableswitch dflt lo hi offs, len)) (hx : x = v) (z : Int) (hz : v.toInt = z) (h1 : lo ≤ z) (h2 : z ≤ hi) (ho : offs[(z - lo).toNat]? = some off) (ht : (pc : Int) + off = (tgt : Int))
    (k : W p l e R s m args below meth c H locs cells slots Q (F0 m tgt ls rest)) : W p l e R s m args below meth c H locs cells slots Q (F0 m pc ls (.int x :: rest)) := by
  subst hx
  exact lv_tableIn C.1 C.2.1 hdg (by omega) (by omega) (by rw [hz]; exact ho) ht k
/-- a method, from its entry -/
theorem m_met_i {l : Launch} {y : MethodName} {cc : ByteArray} {n : Nat} {ret : Option FieldType} {rm : Room} {mc ms : Nat} {av : List Value} {E : mE} {S : mS} {F : Int32 × mS} (hy : plainName y.cls = true) (hlen : (lg_sl av).length ≤ n)
    (body : ∀ p e s m args below meth c ls, (y.name = "<init>" → meth.name = "<init>") → mCx p s m args meth c cc n y.cls ret E S.1 → mIv s E S s.heap [] 0 → lv_has ls n (lv_args 0 av) → W p l e rm s m args below meth c s.heap [] 0 0 (mQi below args s mc ms S.1 E F) (F0 m 0 ls [])) : mMi l y cc n ret rm mc ms av E S F := by
  refine Met.ofW (cc := cc) (maxL := n) (ret := ret) hy rfl ?_
  intro p e s m args below meth c s₁ B hml hv
  obtain ⟨rfl, hH, hK, hN, hZ⟩ := hv
  have hl := lv_entry av hlen
  rw [lg_entry_eq]
  generalize (lg_sl av ++ List.replicate (n - (lg_sl av).length) Slot.unset).toArray = ls at hl ⊢
  exact body p e s m _ below meth c ls (fun h => by rw [← h]; exact (name_of_methodNamed B.named B.method).1) ⟨B.exec, B.bytes, hml, findClass_of_methodNamed B.named, fun w hw => atoms_spec (ws := Cond.code y cc n ret :: wsL_law) B.pre w (List.mem_cons_of_mem _ hw), B.notSynchronized, B.returns, hK, hN, hZ, hH.1.symm⟩ ⟨by have := hH.1; omega, hH.2, va_S.rf⟩ hl
theorem m_met_l {l : Launch} {y : MethodName} {cc : ByteArray} {n : Nat} {ret : Option FieldType} {rm : Room} {mc ms : Nat} {av : List Value} {E : mE} {S : mS} {F : Int64 × mS} (hy : plainName y.cls = true) (hlen : (lg_sl av).length ≤ n)
    (body : ∀ p e s m args below meth c ls, (y.name = "<init>" → meth.name = "<init>") → mCx p s m args meth c cc n y.cls ret E S.1 → mIv s E S s.heap [] 0 → lv_has ls n (lv_args 0 av) → W p l e rm s m args below meth c s.heap [] 0 0 (mQl below args s mc ms S.1 E F) (F0 m 0 ls [])) : mMl l y cc n ret rm mc ms av E S F := by
  refine Met.ofW (cc := cc) (maxL := n) (ret := ret) hy rfl ?_
  intro p e s m args below meth c s₁ B hml hv
  obtain ⟨rfl, hH, hK, hN, hZ⟩ := hv
  have hl := lv_entry av hlen
  rw [lg_entry_eq]
  generalize (lg_sl av ++ List.replicate (n - (lg_sl av).length) Slot.unset).toArray = ls at hl ⊢
  exact body p e s m _ below meth c ls (fun h => by rw [← h]; exact (name_of_methodNamed B.named B.method).1) ⟨B.exec, B.bytes, hml, findClass_of_methodNamed B.named, fun w hw => atoms_spec (ws := Cond.code y cc n ret :: wsL_law) B.pre w (List.mem_cons_of_mem _ hw), B.notSynchronized, B.returns, hK, hN, hZ, hH.1.symm⟩ ⟨by have := hH.1; omega, hH.2, va_S.rf⟩ hl
theorem m_met_v {l : Launch} {y : MethodName} {cc : ByteArray} {n : Nat} {ret : Option FieldType} {rm : Room} {mc ms : Nat} {av : List Value} {E : mE} {S : mS} {F : mS} (hy : plainName y.cls = true) (hlen : (lg_sl av).length ≤ n)
    (body : ∀ p e s m args below meth c ls, (y.name = "<init>" → meth.name = "<init>") → mCx p s m args meth c cc n y.cls ret E S.1 → mIv s E S s.heap [] 0 → lv_has ls n (lv_args 0 av) → W p l e rm s m args below meth c s.heap [] 0 0 (mQv below args s mc ms S.1 E F) (F0 m 0 ls [])) : mMv l y cc n ret rm mc ms av E S F := by
  refine Met.ofW (cc := cc) (maxL := n) (ret := ret) hy rfl ?_
  intro p e s m args below meth c s₁ B hml hv
  obtain ⟨rfl, hH, hK, hN, hZ⟩ := hv
  have hl := lv_entry av hlen
  rw [lg_entry_eq]
  generalize (lg_sl av ++ List.replicate (n - (lg_sl av).length) Slot.unset).toArray = ls at hl ⊢
  exact body p e s m _ below meth c ls (fun h => by rw [← h]; exact (name_of_methodNamed B.named B.method).1) ⟨B.exec, B.bytes, hml, findClass_of_methodNamed B.named, fun w hw => atoms_spec (ws := Cond.code y cc n ret :: wsL_law) B.pre w (List.mem_cons_of_mem _ hw), B.notSynchronized, B.returns, hK, hN, hZ, hH.1.symm⟩ ⟨by have := hH.1; omega, hH.2, va_S.rf⟩ hl
end MC
