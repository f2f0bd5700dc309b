/-! THE TEXTS of nameOf, and what the library does with them -/
def mMs (l : Launch) (y : MethodName) (cc : ByteArray) (n : Nat) (ret : Option FieldType) (rm : Room) (mc ms : Nat) (av : List Value) (E : mE) (S : mS) (F : Nat × mS) : Prop :=
  Met l y (Cond.code y cc n ret :: wsL_law) rm (va_Pc av (mPre E S)) (va_Qr (fun u => u = F.2 ∧ u.1 = S.1 + mc) (fun u a t => a = E.adK F.1 ∧ mPo E u t) (mBa E)) mc ms (mBa E)
abbrev mQs (below : List Frame) (args : Array Value) (s : State) (mc ms n0 : Nat) (E : mE) (F : Nat × mS) : State → Prop := MQ below (va_Qr (fun u => u = F.2 ∧ u.1 = n0 + mc) (fun u a t => a = E.adK F.1 ∧ mPo E u t) (mBa E)) args s mc ms (mBa E)
def f_len (i : Nat) : Option Int32 := if i < 5 then some (Int32.ofNat (mSl.getD i 0)) else none
def f_chA (i : Nat) (j : Int32) : Option Int32 := if decide (i < 5) && mIn j (mSl.getD i 0) then some ((mSb.getD i []).getD j.toNatClampNeg 0 &&& 255) else none
theorem mSl_lt (i : Nat) (hi : i < 5) : mSl.getD i 0 < 2 ^ 31 := by
  rcases (show i = 0 ∨ i = 1 ∨ i = 2 ∨ i = 3 ∨ i = 4 by omega) with rfl | rfl | rfl | rfl | rfl <;> decide
section MS
variable {p : Program} {l : Launch} {e : Env} {R : Room} {s : State} {m : MethodId} {args : Array Value} {below : List Frame} {meth : Method} {c : Code} {H : Heap} {locs : List Loc} {cells slots : Nat} {Q : State → Prop}
variable {cc : ByteArray} {pc nL n0 : Nat} {ls : Array Slot} {rest : List Value} {own : String} {ret : Option FieldType} {E : mE} {S : mS} {ρ : Type} {F : ρ}
theorem m_iretN {ty : FieldType} (C : mCx p s m args meth c cc nL own (some ty) E n0) (hI : mIv s E S H locs cells) {v : Int32} (hn : narrow ty (.int v) = .int v) (hdg : decode cc pc = .ok (.ireturn, 1)) : W p l e R s m args below meth c H locs cells slots (mQi below args s cells slots n0 E (v, S)) (F0 m pc ls [.int v]) := by
  refine m_size hI fun hH => ?_
  have h1 : S.1 = n0 + cells := by have := hI.1; have := C.2.2.2.2.2.2.2.2.2.2; omega
  exact W.zret C.1 C.2.1 C.2.2.2.2.2.2.1 hn (fun t ht hW => ⟨⟨v, S, rfl, ⟨rfl, rfl, h1⟩, by unfold mPo; rw [ht]; exact hH⟩, hI.2.2.F ht⟩) hI.2.2.2.2 hdg C.2.2.2.2.2.1
theorem m_aretS (C : mCx p s m args meth c cc nL own (some (.object "java/lang/String")) E n0) (hI : mIv s E S H locs cells) {i r : Nat} (hF : some i = some r) (hdg : decode cc pc = .ok (.areturn, 1)) : W p l e R s m args below meth c H locs cells slots (mQs below args s cells slots n0 E (r, S)) (F0 m pc ls [.ref (E.adK i)]) := by
  cases hF
  refine m_size hI fun hH => ?_
  have h1 : S.1 = n0 + cells := by have := hI.1; have := C.2.2.2.2.2.2.2.2.2.2; omega
  exact W.aret C.1 C.2.1 C.2.2.2.2.2.2.1 (Or.inl ⟨_, rfl⟩) (Or.inr ⟨_, rfl⟩) (fun t ht hW => ⟨⟨S, E.adK i, rfl, ⟨rfl, h1⟩, rfl, by unfold mPo; rw [ht]; exact hH⟩, hI.2.2.F ht⟩) hI.2.2.2.2 hdg C.2.2.2.2.2.1
theorem m_met_s {l : Launch} {y : MethodName} {cc : ByteArray} {n : Nat} {ret : Option FieldType} {rm : Room} {mc ms : Nat} {av : List Value} {E : mE} {S : mS} {F : Nat × mS} (hy : plainName y.cls = true) (hlen : (lg_sl av).length ≤ n)
    (body : ∀ p e s m args below meth c ls, (y.name = "<init>" → meth.name = "<init>") → mCx p s m args meth c cc n y.cls ret E S.1 → mIv s E S s.heap [] 0 → lv_has ls n (lv_args 0 av) → W p l e rm s m args below meth c s.heap [] 0 0 (mQs below args s mc ms S.1 E F) (F0 m 0 ls [])) : mMs l y cc n ret rm mc ms av E S F := by
  refine Met.ofW (cc := cc) (maxL := n) (ret := ret) hy rfl ?_
  intro p e s m args below meth c s₁ B hml hv
  obtain ⟨rfl, hH, hK, hN, hZ⟩ := hv
  have hl := lv_entry av hlen
  rw [lg_entry_eq]
  generalize (lg_sl av ++ List.replicate (n - (lg_sl av).length) Slot.unset).toArray = ls at hl ⊢
  exact body p e s m _ below meth c ls (fun h => by rw [← h]; exact (name_of_methodNamed B.named B.method).1) ⟨B.exec, B.bytes, hml, findClass_of_methodNamed B.named, fun w hw => atoms_spec (ws := Cond.code y cc n ret :: wsL_law) B.pre w (List.mem_cons_of_mem _ hw), B.notSynchronized, B.returns, hK, hN, hZ, hH.1.symm⟩ ⟨by have := hH.1; omega, hH.2, va_S.rf⟩ hl
/-- a virtual call whose receiver is known, to a method that writes nothing -/
theorem m_callG (C : mCx p s m args meth c cc nL own ret E n0) {idx n2 np : Nat} {y : MethodName} {bytes : ByteArray} {ret2 : Option FieldType} {rm : Room} {As : List Value} {o : Nat} {Cn : String} (cd : mCdV own idx Cn y bytes n2 ret2 np) (hrv : ∃ cellB : Cell, H[o]? = some cellB ∧ cellB.vm.isStatics = false ∧ s.vm.findClass Cn = some cellB.cls) (hl : ls.size = nL) (hI : mIv s E S H locs cells) {r0 : Int32} (hM : mMi l y bytes n2 ret2 rm 0 0 (.ref o :: As) E S (r0, S)) {st : List Value} (hst : st = As.reverse ++ .ref o :: rest) (hn : As.length = np) (hR : rm.cells = 0 ∧ rm.slots = 0 ∧ rm.frames + 1 ≤ R.frames ∧ 8 + (n2 + 11) + rm.locals ≤ R.locals) (hf : cells ≤ R.cells ∧ slots ≤ R.slots) (hrest : (rest.map fun v => v.category).sum ≤ 8) (hdg : decode cc pc = .ok (.invokevirtual idx, 3))
    (kk : ∀ (H1 : Heap) (locs1 : List Loc), mIv s E S H1 locs1 cells → W p l e R s m args below meth c H1 locs1 cells slots Q (F0 m (pc + 3) ls (.int r0 :: rest))) : W p l e R s m args below meth c H locs cells slots Q (F0 m pc ls st) := by
  subst hst
  refine m_size hI fun hH => ?_
  have hC : CallFix p m c cc nL s args wsL_law own := ⟨C.1, C.2.1, C.2.2.1, C.2.2.2.1, C.2.2.2.2.1⟩
  have hpre : ∀ U : State, U.heap = H → s.WarmedH U.vm → va_Pc (.ref o :: As) (mPre E S) (Value.ref o :: As).toArray U := fun U hU hW => ⟨rfl, m_pre C.2.2.2.2.2.2.2.1 C.2.2.2.2.2.2.2.2.1 C.2.2.2.2.2.2.2.2.2.1 hH hI.2.2 hU hW⟩
  refine va_calli (va_runV (As := As) (rest := rest) hC hM (cwV np C.2.2.2.2.1 cd.1 rfl hR.1 hR.2.1 cd.2 hR.2.2) ⟨m_blind, hrv, hpre⟩ rfl hn hl rfl (lv_room hrest) hdg hf) hI.2.2 (fun q _ h => h) (fun q h => h) (fun r u t H1 locs1 ht hvm hw hB hz1 hk1 hS => ?_)
  obtain ⟨rfl, hu, hn1⟩ := hw
  rw [show u = S from hu] at hB hn1
  exact kk H1 locs1 (m_back hI ht hB hn1 hS)
theorem m_callT (C : mCx p s m args meth c cc nL own ret E n0) {idx n2 np : Nat} {y : MethodName} {bytes : ByteArray} {ret2 : Option FieldType} {rm : Room} {As : List Value} (cd : mCdS own idx y bytes n2 ret2 np) (hl : ls.size = nL) (hI : mIv s E S H locs cells) {r0 : Int32} (hM : mMi l y bytes n2 ret2 rm 0 0 As E S (r0, S)) {st : List Value} (hst : st = As.reverse ++ rest) (hn : As.length = np) (hR : rm.cells = 0 ∧ rm.slots = 0 ∧ rm.frames + 1 ≤ R.frames ∧ 8 + (n2 + 11) + rm.locals ≤ R.locals) (hf : cells ≤ R.cells ∧ slots ≤ R.slots) (hrest : (rest.map fun v => v.category).sum ≤ 8) (hdg : decode cc pc = .ok (.invokestatic idx, 3))
    (kk : ∀ (H1 : Heap) (locs1 : List Loc), mIv s E S H1 locs1 cells → W p l e R s m args below meth c H1 locs1 cells slots Q (F0 m (pc + 3) ls (.int r0 :: rest))) : W p l e R s m args below meth c H locs cells slots Q (F0 m pc ls st) := by
  subst hst
  refine m_size hI fun hH => ?_
  have hC : CallFix p m c cc nL s args wsL_law own := ⟨C.1, C.2.1, C.2.2.1, C.2.2.2.1, C.2.2.2.2.1⟩
  have hpre : ∀ U : State, U.heap = H → s.WarmedH U.vm → va_Pc As (mPre E S) As.toArray U := fun U hU hW => ⟨rfl, m_pre C.2.2.2.2.2.2.2.1 C.2.2.2.2.2.2.2.2.1 C.2.2.2.2.2.2.2.2.2.1 hH hI.2.2 hU hW⟩
  refine va_calli (va_runS (As := As) (rest := rest) hC hM (va_cwS np C.2.2.2.2.1 cd.1 rfl hR.1 hR.2.1 cd.2 hR.2.2) ⟨m_blind, hpre⟩ rfl hn hl rfl (lv_room hrest) hdg hf) hI.2.2 (fun q _ h => h) (fun q h => h) (fun r u t H1 locs1 ht hvm hw hB hz1 hk1 hS => ?_)
  obtain ⟨rfl, hu, hn1⟩ := hw
  rw [show u = S from hu] at hB hn1
  exact kk H1 locs1 (m_back hI ht hB hn1 hS)
theorem m_callTv (C : mCx p s m args meth c cc nL own ret E n0) {idx n2 np : Nat} {y : MethodName} {bytes : ByteArray} {ret2 : Option FieldType} {rm : Room} {As : List Value} (cd : mCdS own idx y bytes n2 ret2 np) (hl : ls.size = nL) (hI : mIv s E S H locs cells) (hM : mMv l y bytes n2 ret2 rm 0 0 As E S S) {st : List Value} (hst : st = As.reverse ++ rest) (hn : As.length = np) (hR : rm.cells = 0 ∧ rm.slots = 0 ∧ rm.frames + 1 ≤ R.frames ∧ 8 + (n2 + 11) + rm.locals ≤ R.locals) (hf : cells ≤ R.cells ∧ slots ≤ R.slots) (hrest : (rest.map fun v => v.category).sum ≤ 8) (hdg : decode cc pc = .ok (.invokestatic idx, 3))
    (kk : ∀ (H1 : Heap) (locs1 : List Loc), mIv s E S H1 locs1 cells → W p l e R s m args below meth c H1 locs1 cells slots Q (F0 m (pc + 3) ls rest)) : W p l e R s m args below meth c H locs cells slots Q (F0 m pc ls st) := by
  subst hst
  refine m_size hI fun hH => ?_
  have hC : CallFix p m c cc nL s args wsL_law own := ⟨C.1, C.2.1, C.2.2.1, C.2.2.2.1, C.2.2.2.2.1⟩
  have hpre : ∀ U : State, U.heap = H → s.WarmedH U.vm → va_Pc As (mPre E S) As.toArray U := fun U hU hW => ⟨rfl, m_pre C.2.2.2.2.2.2.2.1 C.2.2.2.2.2.2.2.2.1 C.2.2.2.2.2.2.2.2.2.1 hH hI.2.2 hU hW⟩
  refine va_callv (va_runS (As := As) (rest := rest) hC hM (va_cwS np C.2.2.2.2.1 cd.1 rfl hR.1 hR.2.1 cd.2 hR.2.2) ⟨m_blind, hpre⟩ rfl hn hl rfl (lv_room hrest) hdg hf) hI.2.2 (fun q _ h => h) (fun q h => h) (fun u t H1 locs1 ht hvm hw hB hz1 hk1 hS => ?_)
  obtain ⟨hu, hn1⟩ := hw
  rw [show u = S from hu] at hB hn1
  exact kk H1 locs1 (m_back hI ht hB hn1 hS)
/-- nameOf: its answer is a text -/
theorem m_callSs (C : mCx p s m args meth c cc nL own ret E n0) {idx n2 np : Nat} {y : MethodName} {bytes : ByteArray} {ret2 : Option FieldType} {rm : Room} {As : List Value} (cd : mCdS own idx y bytes n2 ret2 np) (hl : ls.size = nL) (hI : mIv s E S H locs cells) {e0 : Option Nat} {k : Nat → Option ρ} (hF : mCp e0 k = some F) (hM : ∀ F1 : Nat, e0 = some F1 → mMs l y bytes n2 ret2 rm 0 0 As E S (F1, S)) {st : List Value} (hst : st = As.reverse ++ rest) (hn : As.length = np) (hR : rm.cells = 0 ∧ rm.slots = 0 ∧ rm.frames + 1 ≤ R.frames ∧ 8 + (n2 + 11) + rm.locals ≤ R.locals) (hf : cells ≤ R.cells ∧ slots ≤ R.slots) (hrest : (rest.map fun v => v.category).sum ≤ 8) (hdg : decode cc pc = .ok (.invokestatic idx, 3))
    (kk : ∀ (r : Nat) (H1 : Heap) (locs1 : List Loc), k r = some F → mIv s E S H1 locs1 cells → W p l e R s m args below meth c H1 locs1 cells slots Q (F0 m (pc + 3) ls (.ref (E.adK r) :: rest))) : W p l e R s m args below meth c H locs cells slots Q (F0 m pc ls st) := by
  subst hst
  obtain ⟨F1, he, hF⟩ := mCp_some hF
  refine m_size hI fun hH => ?_
  have hC : CallFix p m c cc nL s args wsL_law own := ⟨C.1, C.2.1, C.2.2.1, C.2.2.2.1, C.2.2.2.2.1⟩
  have hpre : ∀ U : State, U.heap = H → s.WarmedH U.vm → va_Pc As (mPre E S) As.toArray U := fun U hU hW => ⟨rfl, m_pre C.2.2.2.2.2.2.2.1 C.2.2.2.2.2.2.2.2.1 C.2.2.2.2.2.2.2.2.2.1 hH hI.2.2 hU hW⟩
  refine va_callr (va_runS (As := As) (rest := rest) hC (hM F1 he) (va_cwS np C.2.2.2.2.1 cd.1 rfl hR.1 hR.2.1 cd.2 hR.2.2) ⟨m_blind, hpre⟩ rfl hn hl rfl (lv_room hrest) hdg hf) hI.2.2 (fun q _ h => h) (fun q h => h) (fun u ra t H1 locs1 ht hvm hw hB hz1 hk1 hS => ?_)
  obtain ⟨hu, hn1⟩ := hw
  obtain ⟨rfl, hB⟩ := hB
  rw [show u = S from hu] at hB hn1
  exact kk _ H1 locs1 hF (m_back hI ht hB hn1 hS)
end MS
def rm_J0_coder : Room := { frames := 0, cells := 0, slots := 0, locals := 0 }
def rm_J0_length : Room := { frames := 1, cells := 0, slots := 0, locals := 20 }
def rm_J3_checkIndex : Room := { frames := 0, cells := 0, slots := 0, locals := 0 }
def rm_J0_checkIndex : Room := { frames := 1, cells := 0, slots := 0, locals := 22 }
def rm_J1_charAt : Room := { frames := 2, cells := 0, slots := 0, locals := 43 }
def rm_J0_charAt : Room := { frames := 3, cells := 0, slots := 0, locals := 64 }
theorem cd_J0_335 : mCdV RJ0 335 RJ0 yJ0_coder_7d493 cJ0_coder_7d493 1 (some .byte) 0 := ⟨mGoodC (q_13 (List.mem_of_getElem? (i := 3) rfl)) (mGoodC (q_13 (List.mem_of_getElem? (i := 4) rfl)) (mGoodC (q_13 (List.mem_of_getElem? (i := 5) rfl)) (mGoodC (q_13 (List.mem_of_getElem? (i := 0) rfl)) (mGoodC (q_13 (List.mem_of_getElem? (i := 6) rfl)) mGoodT)))), rfl, by decide, by decide, by decide +kernel⟩
theorem cd_J0_492 : mCdV RJ0 492 RJ0 yJ0_isLatin1_aae02 cJ0_isLatin1_aae02 1 (some .boolean) 0 := ⟨mGoodC (q_13 (List.mem_of_getElem? (i := 13) rfl)) (mGoodC (q_13 (List.mem_of_getElem? (i := 14) rfl)) (mGoodC (q_13 (List.mem_of_getElem? (i := 15) rfl)) (mGoodC (q_13 (List.mem_of_getElem? (i := 0) rfl)) (mGoodC (q_13 (List.mem_of_getElem? (i := 16) rfl)) mGoodT)))), rfl, by decide, by decide, by decide +kernel⟩
theorem cd_X4_133 : mCdV RX4 133 RJ0 yJ0_length_8abf5 cJ0_length_8abf5 1 (some .int) 0 := ⟨mGoodC (q_12 (List.mem_of_getElem? (i := 21) rfl)) (mGoodC (q_12 (List.mem_of_getElem? (i := 22) rfl)) (mGoodC (q_12 (List.mem_of_getElem? (i := 23) rfl)) (mGoodC (q_13 (List.mem_of_getElem? (i := 0) rfl)) (mGoodC (q_13 (List.mem_of_getElem? (i := 1) rfl)) mGoodT)))), rfl, by decide, by decide, by decide +kernel⟩
theorem cd_X4_139 : mCdV RX4 139 RJ0 yJ0_charAt_5068e cJ0_charAt_5068e 2 (some .char) 1 := ⟨mGoodC (q_13 (List.mem_of_getElem? (i := 9) rfl)) (mGoodC (q_13 (List.mem_of_getElem? (i := 10) rfl)) (mGoodC (q_13 (List.mem_of_getElem? (i := 11) rfl)) (mGoodC (q_13 (List.mem_of_getElem? (i := 0) rfl)) (mGoodC (q_13 (List.mem_of_getElem? (i := 12) rfl)) mGoodT)))), rfl, by decide, by decide, by decide +kernel⟩
theorem cd_J0_1059 : mCdS RJ0 1059 yJ3_checkIndex_8e157 cJ3_checkIndex_8e157 3 (some .int) 3 := ⟨mGoodC (q_14 (List.mem_of_getElem? (i := 1) rfl)) (mGoodC (q_14 (List.mem_of_getElem? (i := 2) rfl)) (mGoodC (q_14 (List.mem_of_getElem? (i := 3) rfl)) (mGoodC (q_14 (List.mem_of_getElem? (i := 4) rfl)) mGoodT))), by decide, by decide, by decide +kernel⟩
theorem cd_J1_9 : mCdS RJ1 9 yJ0_checkIndex_df160 cJ0_checkIndex_df160 2 none 2 := ⟨mGoodC (q_13 (List.mem_of_getElem? (i := 21) rfl)) (mGoodC (q_13 (List.mem_of_getElem? (i := 22) rfl)) (mGoodC (q_13 (List.mem_of_getElem? (i := 0) rfl)) (mGoodC (q_13 (List.mem_of_getElem? (i := 23) rfl)) mGoodT))), by decide, by decide, by decide +kernel⟩
theorem cd_J0_495 : mCdS RJ0 495 yJ1_charAt_3b067 cJ1_charAt_3b067 2 (some .char) 2 := ⟨mGoodC (q_13 (List.mem_of_getElem? (i := 17) rfl)) (mGoodC (q_13 (List.mem_of_getElem? (i := 18) rfl)) (mGoodC (q_13 (List.mem_of_getElem? (i := 19) rfl)) (mGoodC (q_13 (List.mem_of_getElem? (i := 20) rfl)) mGoodT))), by decide, by decide, by decide +kernel⟩
set_option maxRecDepth 100000 in
set_option maxHeartbeats 4000000 in
theorem ok_J0_coder {l : Launch} {E : mE} {S : mS} {i : Nat} (hi : i < 5) : mMi l yJ0_coder_7d493 cJ0_coder_7d493 1 (some .byte) rm_J0_coder 0 0 [.ref (E.adK i)] E S (0, S) := by
  refine m_met_i (by decide) (Nat.le_of_ble_eq_true rfl) (fun p e s m args below meth c ls _ C hI hl => ?_)
  have hx := C.1
  have hb := C.2.1
  have hZ := C.2.2.2.2.2.2.2.2.2.1
  have hl : lv_has ls 1 [(0, .ref (E.adK i))] := hl
  generalize s.heap = H at hI ⊢
  generalize ([] : List Loc) = locs at hI ⊢
  refine va_gets hx hb hZ.2.2.1 hI.2.2 C.2.2.2.1 (C.2.2.2.2.1 _ (q_13 (List.mem_of_getElem? (i := 7) rfl))) (fun _ h => h) dJ0_coder_7d493_0 ?_
  refine lv_if_eq (tgt := 13) hx hb dJ0_coder_7d493_3 (by decide) (fun h => absurd h (by decide)) (fun _ => ?_)
  refine lv_aload_n hx hb dJ0_coder_7d493_6 rfl (lv_at hl 0 rfl) ?_
  refine vk_getf hx hb (hZ.1.1 i hi).2.1 hI.2.2 C.2.2.2.1 (C.2.2.2.2.1 _ (q_13 (List.mem_of_getElem? (i := 8) rfl))) (fun _ h => h) dJ0_coder_7d493_7 ?_
  refine lv_goto (tgt := 14) hx hb dJ0_coder_7d493_10 (by decide) ?_
  exact m_iretN C hI rfl dJ0_coder_7d493_14
set_option maxRecDepth 100000 in
set_option maxHeartbeats 4000000 in
theorem ok_J0_isLatin1 {l : Launch} {E : mE} {S : mS} {i : Nat} (hi : i < 5) : mMi l yJ0_isLatin1_aae02 cJ0_isLatin1_aae02 1 (some .boolean) rm_J0_coder 0 0 [.ref (E.adK i)] E S (1, S) := by
  refine m_met_i (by decide) (Nat.le_of_ble_eq_true rfl) (fun p e s m args below meth c ls _ C hI hl => ?_)
  have hx := C.1
  have hb := C.2.1
  have hZ := C.2.2.2.2.2.2.2.2.2.1
  have hl : lv_has ls 1 [(0, .ref (E.adK i))] := hl
  generalize s.heap = H at hI ⊢
  generalize ([] : List Loc) = locs at hI ⊢
  refine va_gets hx hb hZ.2.2.1 hI.2.2 C.2.2.2.1 (C.2.2.2.2.1 _ (q_13 (List.mem_of_getElem? (i := 7) rfl))) (fun _ h => h) dJ0_isLatin1_aae02_0 ?_
  refine lv_if_eq (tgt := 17) hx hb dJ0_isLatin1_aae02_3 (by decide) (fun h => absurd h (by decide)) (fun _ => ?_)
  refine lv_aload_n hx hb dJ0_isLatin1_aae02_6 rfl (lv_at hl 0 rfl) ?_
  refine vk_getf hx hb (hZ.1.1 i hi).2.1 hI.2.2 C.2.2.2.1 (C.2.2.2.2.1 _ (q_13 (List.mem_of_getElem? (i := 8) rfl))) (fun _ h => h) dJ0_isLatin1_aae02_7 ?_
  refine lv_if_ne (tgt := 17) hx hb dJ0_isLatin1_aae02_10 (by decide) (fun h => absurd rfl h) (fun _ => ?_)
  refine lv_iconst (v := 1) hx hb dJ0_isLatin1_aae02_13 (by decide) ?_
  refine lv_goto (tgt := 18) hx hb dJ0_isLatin1_aae02_14 (by decide) ?_
  exact m_iretN C hI rfl dJ0_isLatin1_aae02_18
set_option maxRecDepth 100000 in
set_option maxHeartbeats 4000000 in
theorem ok_J0_length {l : Launch} {E : mE} {S : mS} {i : Nat} (hi : i < 5) : mMi l yJ0_length_8abf5 cJ0_length_8abf5 1 (some .int) rm_J0_length 0 0 [.ref (E.adK i)] E S (Int32.ofNat (mSl.getD i 0), S) := by
  refine m_met_i (by decide) (Nat.le_of_ble_eq_true rfl) (fun p e s m args below meth c ls _ C hI hl => ?_)
  have hx := C.1
  have hb := C.2.1
  have hZ := C.2.2.2.2.2.2.2.2.2.1
  have hl : lv_has ls 1 [(0, .ref (E.adK i))] := hl
  generalize s.heap = H at hI ⊢
  generalize ([] : List Loc) = locs at hI ⊢
  refine lv_aload_n hx hb dJ0_length_8abf5_0 rfl (lv_at hl 0 rfl) ?_
  refine vk_getf hx hb (hZ.1.1 i hi).2.2.1 hI.2.2 C.2.2.2.1 (C.2.2.2.2.1 _ (q_13 (List.mem_of_getElem? (i := 2) rfl))) (fun _ h => h) dJ0_length_8abf5_1 ?_
  refine va_tlen hx hb (hZ.1.1 i hi).2.2.2 hI.2.2 rfl dJ0_length_8abf5_4 ?_
  refine lv_aload_n hx hb dJ0_length_8abf5_5 rfl (lv_at hl 0 rfl) ?_
  refine m_callG C cd_J0_335 (vk_recv hZ.1 hi hI.2.2) hl.1 hI (ok_J0_coder hi) rfl rfl ⟨rfl, rfl, Nat.le_of_ble_eq_true rfl, Nat.le_of_ble_eq_true rfl⟩ ⟨Nat.le_of_ble_eq_true rfl, Nat.le_of_ble_eq_true rfl⟩ (Nat.le_of_ble_eq_true rfl) dJ0_length_8abf5_6 (fun H locs hI => ?_)
  refine lv_ishr hx hb dJ0_length_8abf5_9 ?_
  rw [sb_shr0]
  exact m_ireti C hI rfl dJ0_length_8abf5_10
set_option maxRecDepth 100000 in
set_option maxHeartbeats 4000000 in
theorem ok_J3_checkIndex {l : Launch} {E : mE} {S : mS} {a b : Int32} {v : Value} (h0 : ¬ a < 0) (h1 : a < b) (hv : v = .null ∨ ∃ t, v = .ref t) : mMi l yJ3_checkIndex_8e157 cJ3_checkIndex_8e157 3 (some .int) rm_J3_checkIndex 0 0 [.int a, .int b, v] E S (a, S) := by
  have hlen : (lg_sl [.int a, .int b, v]).length ≤ 3 := by rcases hv with rfl | ⟨t, rfl⟩ <;> exact Nat.le_of_ble_eq_true rfl
  have ha : lv_args 0 [.int a, .int b, v] = [(0, .int a), (1, .int b), (2, v)] := by rcases hv with rfl | ⟨t, rfl⟩ <;> rfl
  refine m_met_i (by decide) hlen (fun p e s m args below meth c ls _ C hI hl => ?_)
  have hx := C.1
  have hb := C.2.1
  rw [ha] at hl
  generalize s.heap = H at hI ⊢
  generalize ([] : List Loc) = locs at hI ⊢
  refine lv_iload_n hx hb dJ3_checkIndex_8e157_0 rfl (lv_at hl 0 rfl) ?_
  refine lv_if_lt (tgt := 9) hx hb dJ3_checkIndex_8e157_1 (by decide) (fun h => absurd h h0) (fun _ => ?_)
  refine lv_iload_n hx hb dJ3_checkIndex_8e157_4 rfl (lv_at hl 0 rfl) ?_
  refine lv_iload_n hx hb dJ3_checkIndex_8e157_5 rfl (lv_at hl 1 rfl) ?_
  refine lv_icmp_lt (tgt := 16) hx hb dJ3_checkIndex_8e157_6 (by decide) (fun _ => ?_) (fun h => absurd h1 h)
  refine lv_iload_n hx hb dJ3_checkIndex_8e157_16 rfl (lv_at hl 0 rfl) ?_
  exact m_ireti C hI rfl dJ3_checkIndex_8e157_17
set_option maxRecDepth 100000 in
set_option maxHeartbeats 4000000 in
theorem ok_J0_checkIndex {l : Launch} {E : mE} {S : mS} {a b : Int32} (h0 : ¬ a < 0) (h1 : a < b) : mMv l yJ0_checkIndex_df160 cJ0_checkIndex_df160 2 none rm_J0_checkIndex 0 0 [.int a, .int b] E S S := by
  refine m_met_v (by decide) (Nat.le_of_ble_eq_true rfl) (fun p e s m args below meth c ls _ C hI hl => ?_)
  have hx := C.1
  have hb := C.2.1
  have hZ := C.2.2.2.2.2.2.2.2.2.1
  have hl : lv_has ls 2 [(0, .int a), (1, .int b)] := hl
  obtain ⟨v, hv, hZv⟩ : ∃ v : Value, (v = .null ∨ ∃ t, v = .ref t) ∧ va_Z "jdk/internal/util/Preconditions" "SIOOBE_FORMATTER" "Ljava/util/function/BiFunction;" v (mBa E) s s.heap := by
    rcases hZ.2.2.2 with h | ⟨t, h⟩
    · exact ⟨_, Or.inl rfl, h⟩
    · exact ⟨_, Or.inr ⟨t, rfl⟩, h⟩
  have hcat : v.category = 1 := by rcases hv with rfl | ⟨t, rfl⟩ <;> rfl
  generalize s.heap = H at hI ⊢
  generalize ([] : List Loc) = locs at hI ⊢
  refine lv_iload_n hx hb dJ0_checkIndex_df160_0 rfl (lv_at hl 0 rfl) ?_
  refine lv_iload_n hx hb dJ0_checkIndex_df160_1 rfl (lv_at hl 1 rfl) ?_
  refine va_gets hx hb hZv hI.2.2 C.2.2.2.1 (C.2.2.2.2.1 _ (q_14 (List.mem_of_getElem? (i := 0) rfl))) (fun _ h => h) dJ0_checkIndex_df160_2 ?_
  refine m_callT C cd_J0_1059 hl.1 hI (ok_J3_checkIndex h0 h1 hv) rfl rfl ⟨rfl, rfl, Nat.le_of_ble_eq_true rfl, Nat.le_of_ble_eq_true rfl⟩ ⟨Nat.le_of_ble_eq_true rfl, Nat.le_of_ble_eq_true rfl⟩ (Nat.le_of_ble_eq_true rfl) dJ0_checkIndex_df160_5 (fun H locs hI => ?_)
  refine lv_pop hx hb dJ0_checkIndex_df160_8 rfl ?_
  exact m_vret C hI rfl dJ0_checkIndex_df160_9
theorem f_chA_in {i : Nat} {j r : Int32} (h : f_chA i j = some r) : i < 5 ∧ vp_in j (mSl.getD i 0) ∧ r = (mSb.getD i []).getD j.toNatClampNeg 0 &&& 255 := by
  unfold f_chA at h
  split at h
  · next g =>
    obtain ⟨g1, g2⟩ := m_and g
    cases h
    exact ⟨of_decide_eq_true g1, mIn_spec g2, rfl⟩
  · cases h
set_option maxRecDepth 100000 in
set_option maxHeartbeats 4000000 in
theorem ok_J1_charAt {l : Launch} {E : mE} {S : mS} {i : Nat} {j r : Int32} (hF : f_chA i j = some r) : mMi l yJ1_charAt_3b067 cJ1_charAt_3b067 2 (some .char) rm_J1_charAt 0 0 [.ref (E.adV i), .int j] E S (r, S) := by
  obtain ⟨hi, hj, rfl⟩ := f_chA_in hF
  obtain ⟨k, hk, rfl⟩ := vp_in_of hj (mSl_lt i hi)
  refine m_met_i (by decide) (Nat.le_of_ble_eq_true rfl) (fun p e s m args below meth c ls _ C hI hl => ?_)
  have hx := C.1
  have hb := C.2.1
  have hZ := C.2.2.2.2.2.2.2.2.2.1
  have hl : lv_has ls 2 [(0, .ref (E.adV i)), (1, .int (nI k))] := hl
  generalize s.heap = H at hI ⊢
  generalize ([] : List Loc) = locs at hI ⊢
  refine lv_iload_n hx hb dJ1_charAt_3b067_0 rfl (lv_at hl 1 rfl) ?_
  refine lv_aload_n hx hb dJ1_charAt_3b067_1 rfl (lv_at hl 0 rfl) ?_
  refine va_tlen hx hb (hZ.1.1 i hi).2.2.2 hI.2.2 rfl dJ1_charAt_3b067_2 ?_
  refine m_callTv C cd_J1_9 hl.1 hI (ok_J0_checkIndex (a := nI k) (b := Int32.ofNat (mSl.getD i 0)) (nI_pos (by have := mSl_lt i hi; omega)) (nI_lt hk (mSl_lt i hi))) rfl rfl ⟨rfl, rfl, Nat.le_of_ble_eq_true rfl, Nat.le_of_ble_eq_true rfl⟩ ⟨Nat.le_of_ble_eq_true rfl, Nat.le_of_ble_eq_true rfl⟩ (Nat.le_of_ble_eq_true rfl) dJ1_charAt_3b067_3 (fun H locs hI => ?_)
  refine lv_aload_n hx hb dJ1_charAt_3b067_6 rfl (lv_at hl 0 rfl) ?_
  refine lv_iload_n hx hb dJ1_charAt_3b067_7 rfl (lv_at hl 1 rfl) ?_
  refine va_tb hx hb (hZ.1.1 i hi).2.2.2 hI.2.2 hj rfl dJ1_charAt_3b067_8 ?_
  refine lv_sipush (v := 255) hx hb dJ1_charAt_3b067_9 (by decide) ?_
  refine lv_iand hx hb dJ1_charAt_3b067_12 ?_
  refine lv_i2c (v := (mSb.getD i []).getD (nI k).toNatClampNeg 0 &&& 255) hx hb dJ1_charAt_3b067_13 (sc_c2 _) ?_
  exact m_iretN C hI (sc_nar _) dJ1_charAt_3b067_14
set_option maxRecDepth 100000 in
set_option maxHeartbeats 4000000 in
theorem ok_J0_charAt {l : Launch} {E : mE} {S : mS} {i : Nat} {j r : Int32} (hF : f_chA i j = some r) : mMi l yJ0_charAt_5068e cJ0_charAt_5068e 2 (some .char) rm_J0_charAt 0 0 [.ref (E.adK i), .int j] E S (r, S) := by
  obtain ⟨hi, hj, hr⟩ := f_chA_in hF
  refine m_met_i (by decide) (Nat.le_of_ble_eq_true rfl) (fun p e s m args below meth c ls _ C hI hl => ?_)
  have hx := C.1
  have hb := C.2.1
  have hZ := C.2.2.2.2.2.2.2.2.2.1
  have hl : lv_has ls 2 [(0, .ref (E.adK i)), (1, .int j)] := hl
  generalize s.heap = H at hI ⊢
  generalize ([] : List Loc) = locs at hI ⊢
  refine lv_aload_n hx hb dJ0_charAt_5068e_0 rfl (lv_at hl 0 rfl) ?_
  refine m_callG C cd_J0_492 (vk_recv hZ.1 hi hI.2.2) hl.1 hI (ok_J0_isLatin1 hi) rfl rfl ⟨rfl, rfl, Nat.le_of_ble_eq_true rfl, Nat.le_of_ble_eq_true rfl⟩ ⟨Nat.le_of_ble_eq_true rfl, Nat.le_of_ble_eq_true rfl⟩ (Nat.le_of_ble_eq_true rfl) dJ0_charAt_5068e_1 (fun H locs hI => ?_)
  refine lv_if_eq (tgt := 16) hx hb dJ0_charAt_5068e_4 (by decide) (fun h => absurd h (by decide)) (fun _ => ?_)
  refine lv_aload_n hx hb dJ0_charAt_5068e_7 rfl (lv_at hl 0 rfl) ?_
  refine vk_getf hx hb (hZ.1.1 i hi).2.2.1 hI.2.2 C.2.2.2.1 (C.2.2.2.2.1 _ (q_13 (List.mem_of_getElem? (i := 2) rfl))) (fun _ h => h) dJ0_charAt_5068e_8 ?_
  refine lv_iload_n hx hb dJ0_charAt_5068e_11 rfl (lv_at hl 1 rfl) ?_
  refine m_callT C cd_J0_495 hl.1 hI (ok_J1_charAt hF) rfl rfl ⟨rfl, rfl, Nat.le_of_ble_eq_true rfl, Nat.le_of_ble_eq_true rfl⟩ ⟨Nat.le_of_ble_eq_true rfl, Nat.le_of_ble_eq_true rfl⟩ (Nat.le_of_ble_eq_true rfl) dJ0_charAt_5068e_12 (fun H locs hI => ?_)
  exact m_iretN C hI (by rw [hr]; exact sc_nar _) dJ0_charAt_5068e_15
section MS2
variable {p : Program} {l : Launch} {e : Env} {R : Room} {s : State} {m : MethodId} {args : Array Value} {below : List Frame} {meth : Method} {c : Code} {H : Heap} {locs : List Loc} {cells slots : Nat} {Q : State → Prop}
variable {cc : ByteArray} {pc nL n0 : Nat} {ls : Array Slot} {rest : List Value} {ret : Option FieldType} {E : mE} {S : mS} {ρ : Type} {F : ρ}
theorem m_strLen (C : mCx p s m args meth c cc nL RX4 ret E n0) (hl : ls.size = nL) (hI : mIv s E S H locs cells) {i : Nat} {k : Int32 → Option ρ} (hF : mCp (f_len i) k = some F) (hR : 2 ≤ R.frames ∧ 40 ≤ R.locals) (hf : cells ≤ R.cells ∧ slots ≤ R.slots) (hrest : (rest.map fun v => v.category).sum ≤ 8) (hdg : decode cc pc = .ok (.invokevirtual 133, 3))
    (kk : ∀ (r : Int32) (H1 : Heap) (locs1 : List Loc), k r = some F → mIv s E S H1 locs1 cells → W p l e R s m args below meth c H1 locs1 cells slots Q (F0 m (pc + 3) ls (.int r :: rest))) : W p l e R s m args below meth c H locs cells slots Q (F0 m pc ls (.ref (E.adK i) :: rest)) := by
  obtain ⟨r, he, hF⟩ := mCp_some hF
  unfold f_len at he
  split at he
  · next hi =>
    cases he
    exact m_callG C cd_X4_133 (vk_recv C.2.2.2.2.2.2.2.2.2.1.1 hi hI.2.2) hl hI (ok_J0_length hi) (As := []) rfl rfl ⟨rfl, rfl, hR.1, hR.2⟩ hf hrest hdg (fun H1 locs1 hI => kk _ H1 locs1 hF hI)
  · cases he
theorem m_strChA (C : mCx p s m args meth c cc nL RX4 ret E n0) (hl : ls.size = nL) (hI : mIv s E S H locs cells) {i : Nat} {j : Int32} {k : Int32 → Option ρ} (hF : mCp (f_chA i j) k = some F) (hR : 4 ≤ R.frames ∧ 85 ≤ R.locals) (hf : cells ≤ R.cells ∧ slots ≤ R.slots) (hrest : (rest.map fun v => v.category).sum ≤ 8) (hdg : decode cc pc = .ok (.invokevirtual 139, 3))
    (kk : ∀ (r : Int32) (H1 : Heap) (locs1 : List Loc), k r = some F → mIv s E S H1 locs1 cells → W p l e R s m args below meth c H1 locs1 cells slots Q (F0 m (pc + 3) ls (.int r :: rest))) : W p l e R s m args below meth c H locs cells slots Q (F0 m pc ls (.int j :: .ref (E.adK i) :: rest)) := by
  obtain ⟨r, he, hF⟩ := mCp_some hF
  exact m_callG C cd_X4_139 (vk_recv C.2.2.2.2.2.2.2.2.2.1.1 (f_chA_in he).1 hI.2.2) hl hI (ok_J0_charAt he) (As := [.int j]) rfl rfl ⟨rfl, rfl, hR.1, hR.2⟩ hf hrest hdg (fun H1 locs1 hI => kk _ H1 locs1 hF hI)
end MS2
