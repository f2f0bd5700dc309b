/-! THE CLAIM OUT OF ONE WALK OF THE LAW'S BODY. Your part is whole_start (and what it stands on); all else here is the same for every law, but numbers. -/
def R_law : String := "WhistleFlockLaw"
def lw_P (b : Addr) (xs : List Int32) (args : Array Value) (s : State) : Prop := args = #[.ref b] ∧ s.IntsAt b xs ∧ xs.length ≤ 384 ∧ (Jvm.Cond.and given_1 narrow_1).before args s = true
def lw_Q (_ : Array Value) (s : State) (o : Outcome) (t : State) : Prop := o = .returned (some (.int 1)) ∧ Framed s o t [] 100 3182
def lw_Z (below : List Frame) (a : Array Value) (s : State) : State → Prop := fun t => ∃ o, t.status = .running ∧ Ended t below o ∧ lw_Q a s o t
/-- the law's own end, with 1 on the stack, nothing written that was there before, its room as the claim has it -/
theorem lw_ret {p : Program} {l : Launch} {e : Env} {s : State} {m : MethodId} {below : List Frame} {meth : Method} {c : Code} {b : Nat} (hx : p.tables.exec = Jvm.exec) (hb : c.code = code) (hr : meth.sig.returnType = ret) (hlocks : meth.locks = false) {pc : Nat} {H : Heap} {ls : Array Slot} (hdg : decode code pc = .ok (.ireturn, 1)) : W p l e room_1 s m #[Value.ref b] below meth c H [] 100 3182 (lw_Z below #[Value.ref b] s) (F0 m pc ls [.int 1]) := by
  intro T hT X
  obtain ⟨fs, hret, hrun, hended, hW, hframe⟩ := X.leave (v := some (.int 1)) (hlocks := hlocks) (fun h => by rw [hr] at h; cases h)
  have hmeth' : T.vm.method? m = some meth := X.method'
  refine ⟨T.setFrames fs, ?_, .returned (some (.int 1)), hrun, hended, rfl, ⟨_, rfl⟩, hW, hframe⟩
  jvm_step X.here [X.here.top, hx, hb, hdg, hmeth', hr, ret, narrow_b1]
  (try refine ⟨rfl, ?_⟩); (try refine ⟨rfl, ?_⟩)
  first | (intro acts; rw [hret _ acts rfl rfl rfl]) | rw [hret _ _ rfl rfl rfl]
  exact Steps.refl _
/-- what holds at the law's entry: the machine, the code, the tables' words (any of lw_tbl by 'hts w (by decide +kernel)'), the script of L ints xs at the cell b, what the Statement gives of the start (any of its parts by flat_of_before) -/
def lw_At (p : Program) (s : State) (m : MethodId) (meth : Method) (c : Code) (b L : Nat) (xs : Nat → Int32) : Prop :=
  p.tables.exec = Jvm.exec ∧ c.code = code ∧ meth.sig.returnType = ret ∧ c.maxLocals = 4 ∧ s.vm.findClass R_law = some m.cls ∧ (∀ w ∈ lw_tbl, w.before #[Value.ref b] s = true) ∧ va_X b L xs s s.heap ∧ b < s.heap.size ∧ meth.locks = false ∧ (Jvm.Cond.and given_1 narrow_1).before #[Value.ref b] s = true

/-! THE LAW's own rows: the script; its end -/
noncomputable def mSc {ρ : Type} (xs : Nat → Int32) (L : Nat) (i : Int32) (k : Int32 → Option ρ) : Option ρ := if mIn i L then k (xs i.toNatClampNeg) else none
section ML
variable {p : Program} {l : Launch} {e : Env} {R : Room} {s : State} {m : MethodId} {args : Array Value} {below : List Frame} {meth : Method} {c : Code} {H : Heap} {locs : List Loc} {cells slots : Nat} {Q : State → Prop}
variable {cc : ByteArray} {pc nL n0 : Nat} {ls : Array Slot} {rest : List Value} {own : String} {ret2 : Option FieldType} {E : mE} {S : mS} {ρ : Type} {F : ρ} {b L : Nat} {xs : Nat → Int32}
theorem m_sld (C : mCx p s m args meth c cc nL own ret2 E n0) (hX : va_X b L xs s s.heap) (hbl : b < s.heap.size) (hEb : E.b = s.heap.size) (hI : mIv s E S H locs cells) {i : Int32} {k : Int32 → Option ρ} (hF : mSc xs L i k = some F) (hdg : decode cc pc = .ok (.iaload, 1))
    (kk : ∀ v : Int32, k v = some F → W p l e R s m args below meth c H locs cells slots Q (F0 m (pc + 1) ls (.int v :: rest))) : W p l e R s m args below meth c H locs cells slots Q (F0 m pc ls (.int i :: .ref b :: rest)) := by
  by_cases h : mIn i L = true
  · rw [mSc, if_pos h] at hF
    exact va_sld C.1 C.2.1 hX hbl (by show ¬ E.b ≤ b; omega) hI.2.2 (mIn_spec h) hdg (kk _ hF)
  · rw [mSc, if_neg h] at hF; cases hF
theorem m_slen (C : mCx p s m args meth c cc nL own ret2 E n0) (hX : va_X b L xs s s.heap) (hbl : b < s.heap.size) (hEb : E.b = s.heap.size) (hI : mIv s E S H locs cells) (hdg : decode cc pc = .ok (.arraylength, 1))
    (kk : W p l e R s m args below meth c H locs cells slots Q (F0 m (pc + 1) ls (.int (Int32.ofNat L) :: rest))) : W p l e R s m args below meth c H locs cells slots Q (F0 m pc ls (.ref b :: rest)) :=
  va_slen C.1 C.2.1 hX hbl (by show ¬ E.b ≤ b; omega) hI.2.2 hdg kk
theorem m_lawret (C : mCx p s m #[Value.ref b] meth c code nL own ret E n0) (hEb : E.b = s.heap.size) (hI : mIv s E S H locs 100) {v : Int32} (hF : some v = some (1 : Int32)) (hdg : decode code pc = .ok (.ireturn, 1)) : W p l e room_1 s m #[Value.ref b] below meth c H locs 100 3182 (lw_Z below #[Value.ref b] s) (F0 m pc ls [.int v]) := by
  cases hF
  refine va_forget (fun q hq => ?_) ?_
  · have := hI.2.2.2.2 q hq
    rw [← hEb]
    exact this
  · exact lw_ret C.1 C.2.1 C.2.2.2.2.2.2.1 C.2.2.2.2.2.1 hdg
end ML

theorem cd_L_9 : mCdI RL 9 yX6_init cX6_init 1 0 := ⟨q_1 (List.mem_of_getElem? (i := 6) rfl), mGoodC (q_1 (List.mem_of_getElem? (i := 8) rfl)) mGoodT, q_1 (List.mem_of_getElem? (i := 7) rfl), q_1 (List.mem_of_getElem? (i := 2) rfl), rfl, by decide, by decide, by decide +kernel⟩
theorem cd_L_12 : mCdI RL 12 yX7_init cX7_init 1 0 := ⟨q_4 (List.mem_of_getElem? (i := 16) rfl), mGoodC (q_4 (List.mem_of_getElem? (i := 18) rfl)) mGoodT, q_4 (List.mem_of_getElem? (i := 17) rfl), q_1 (List.mem_of_getElem? (i := 5) rfl), rfl, by decide, by decide, by decide +kernel⟩
theorem cd_L_13 : mCdV RL 13 RX6 yX6_fell cX6_fell 3 (some .int) 1 := ⟨mGoodC (q_6 (List.mem_of_getElem? (i := 1) rfl)) (mGoodC (q_6 (List.mem_of_getElem? (i := 2) rfl)) (mGoodC (q_6 (List.mem_of_getElem? (i := 3) rfl)) (mGoodC (q_1 (List.mem_of_getElem? (i := 2) rfl)) (mGoodC (q_6 (List.mem_of_getElem? (i := 4) rfl)) mGoodT)))), rfl, by decide, by decide, by decide +kernel⟩
theorem cd_L_17 : mCdV RL 17 RX7 yX7_fell cX7_fell 3 (some .int) 1 := ⟨mGoodC (q_7 (List.mem_of_getElem? (i := 8) rfl)) (mGoodC (q_7 (List.mem_of_getElem? (i := 9) rfl)) (mGoodC (q_7 (List.mem_of_getElem? (i := 10) rfl)) (mGoodC (q_1 (List.mem_of_getElem? (i := 5) rfl)) (mGoodC (q_7 (List.mem_of_getElem? (i := 11) rfl)) mGoodT)))), rfl, by decide, by decide, by decide +kernel⟩
theorem cd_L_18 : mCdV RL 18 RX6 yX6_whistle cX6_whistle 3 (some .int) 2 := ⟨mGoodC (q_7 (List.mem_of_getElem? (i := 22) rfl)) (mGoodC (q_7 (List.mem_of_getElem? (i := 23) rfl)) (mGoodC (q_8 (List.mem_of_getElem? (i := 0) rfl)) (mGoodC (q_1 (List.mem_of_getElem? (i := 2) rfl)) (mGoodC (q_8 (List.mem_of_getElem? (i := 1) rfl)) mGoodT)))), rfl, by decide, by decide, by decide +kernel⟩
theorem cd_L_22 : mCdV RL 22 RX7 yX7_whistle cX7_whistle 3 (some .int) 2 := ⟨mGoodC (q_8 (List.mem_of_getElem? (i := 17) rfl)) (mGoodC (q_8 (List.mem_of_getElem? (i := 18) rfl)) (mGoodC (q_8 (List.mem_of_getElem? (i := 19) rfl)) (mGoodC (q_1 (List.mem_of_getElem? (i := 5) rfl)) (mGoodC (q_8 (List.mem_of_getElem? (i := 20) rfl)) mGoodT)))), rfl, by decide, by decide, by decide +kernel⟩
theorem cd_L_23 : mCdV RL 23 RX6 yX6_sheep cX6_sheep 3 (some .int) 2 := ⟨mGoodC (q_9 (List.mem_of_getElem? (i := 5) rfl)) (mGoodC (q_9 (List.mem_of_getElem? (i := 6) rfl)) (mGoodC (q_9 (List.mem_of_getElem? (i := 7) rfl)) (mGoodC (q_1 (List.mem_of_getElem? (i := 2) rfl)) (mGoodC (q_9 (List.mem_of_getElem? (i := 8) rfl)) mGoodT)))), rfl, by decide, by decide, by decide +kernel⟩
theorem cd_L_26 : mCdV RL 26 RX7 yX7_sheep cX7_sheep 3 (some .int) 2 := ⟨mGoodC (q_9 (List.mem_of_getElem? (i := 13) rfl)) (mGoodC (q_9 (List.mem_of_getElem? (i := 14) rfl)) (mGoodC (q_9 (List.mem_of_getElem? (i := 15) rfl)) (mGoodC (q_1 (List.mem_of_getElem? (i := 5) rfl)) (mGoodC (q_9 (List.mem_of_getElem? (i := 16) rfl)) mGoodT)))), rfl, by decide, by decide, by decide +kernel⟩
theorem cd_L_27 : mCdV RL 27 RX6 yX6_fold cX6_fold 3 (some .int) 1 := ⟨mGoodC (q_9 (List.mem_of_getElem? (i := 21) rfl)) (mGoodC (q_9 (List.mem_of_getElem? (i := 22) rfl)) (mGoodC (q_9 (List.mem_of_getElem? (i := 23) rfl)) (mGoodC (q_1 (List.mem_of_getElem? (i := 2) rfl)) (mGoodC (q_10 (List.mem_of_getElem? (i := 0) rfl)) mGoodT)))), rfl, by decide, by decide, by decide +kernel⟩
theorem cd_L_30 : mCdV RL 30 RX7 yX7_fold cX7_fold 3 (some .int) 1 := ⟨mGoodC (q_10 (List.mem_of_getElem? (i := 7) rfl)) (mGoodC (q_10 (List.mem_of_getElem? (i := 8) rfl)) (mGoodC (q_10 (List.mem_of_getElem? (i := 9) rfl)) (mGoodC (q_1 (List.mem_of_getElem? (i := 5) rfl)) (mGoodC (q_10 (List.mem_of_getElem? (i := 10) rfl)) mGoodT)))), rfl, by decide, by decide, by decide +kernel⟩
theorem cd_L_31 : mCdV RL 31 RX6 yX6_type cX6_type 2 (some .int) 1 := ⟨mGoodC (q_10 (List.mem_of_getElem? (i := 15) rfl)) (mGoodC (q_10 (List.mem_of_getElem? (i := 16) rfl)) (mGoodC (q_10 (List.mem_of_getElem? (i := 17) rfl)) (mGoodC (q_1 (List.mem_of_getElem? (i := 2) rfl)) (mGoodC (q_10 (List.mem_of_getElem? (i := 18) rfl)) mGoodT)))), rfl, by decide, by decide, by decide +kernel⟩
theorem cd_L_34 : mCdV RL 34 RX7 yX7_type cX7_type 2 (some .int) 1 := ⟨mGoodC (q_11 (List.mem_of_getElem? (i := 1) rfl)) (mGoodC (q_11 (List.mem_of_getElem? (i := 2) rfl)) (mGoodC (q_11 (List.mem_of_getElem? (i := 3) rfl)) (mGoodC (q_1 (List.mem_of_getElem? (i := 5) rfl)) (mGoodC (q_11 (List.mem_of_getElem? (i := 4) rfl)) mGoodT)))), rfl, by decide, by decide, by decide +kernel⟩
theorem cd_L_35 : mCdV RL 35 RX6 yX6_clear cX6_clear 2 (some .int) 0 := ⟨mGoodC (q_11 (List.mem_of_getElem? (i := 6) rfl)) (mGoodC (q_11 (List.mem_of_getElem? (i := 7) rfl)) (mGoodC (q_11 (List.mem_of_getElem? (i := 8) rfl)) (mGoodC (q_1 (List.mem_of_getElem? (i := 2) rfl)) (mGoodC (q_11 (List.mem_of_getElem? (i := 9) rfl)) mGoodT)))), rfl, by decide, by decide, by decide +kernel⟩
theorem cd_L_39 : mCdV RL 39 RX7 yX7_clear cX7_clear 2 (some .int) 0 := ⟨mGoodC (q_11 (List.mem_of_getElem? (i := 10) rfl)) (mGoodC (q_11 (List.mem_of_getElem? (i := 11) rfl)) (mGoodC (q_11 (List.mem_of_getElem? (i := 12) rfl)) (mGoodC (q_1 (List.mem_of_getElem? (i := 5) rfl)) (mGoodC (q_11 (List.mem_of_getElem? (i := 13) rfl)) mGoodT)))), rfl, by decide, by decide, by decide +kernel⟩
theorem cd_L_40 : mCdV RL 40 RX6 yX6_read cX6_read 2 (some .int) 0 := ⟨mGoodC (q_11 (List.mem_of_getElem? (i := 14) rfl)) (mGoodC (q_11 (List.mem_of_getElem? (i := 15) rfl)) (mGoodC (q_11 (List.mem_of_getElem? (i := 16) rfl)) (mGoodC (q_1 (List.mem_of_getElem? (i := 2) rfl)) (mGoodC (q_11 (List.mem_of_getElem? (i := 17) rfl)) mGoodT)))), rfl, by decide, by decide, by decide +kernel⟩
theorem cd_L_43 : mCdV RL 43 RX7 yX7_read cX7_read 2 (some .int) 0 := ⟨mGoodC (q_19 (List.mem_of_getElem? (i := 1) rfl)) (mGoodC (q_19 (List.mem_of_getElem? (i := 2) rfl)) (mGoodC (q_19 (List.mem_of_getElem? (i := 3) rfl)) (mGoodC (q_1 (List.mem_of_getElem? (i := 5) rfl)) (mGoodC (q_19 (List.mem_of_getElem? (i := 4) rfl)) mGoodT)))), rfl, by decide, by decide, by decide +kernel⟩
theorem cd_L_44 : mCdV RL 44 RX6 yX6_calls cX6_calls 3 (some .int) 2 := ⟨mGoodC (q_23 (List.mem_of_getElem? (i := 21) rfl)) (mGoodC (q_23 (List.mem_of_getElem? (i := 22) rfl)) (mGoodC (q_23 (List.mem_of_getElem? (i := 23) rfl)) (mGoodC (q_1 (List.mem_of_getElem? (i := 2) rfl)) (mGoodC (q_24 (List.mem_of_getElem? (i := 0) rfl)) mGoodT)))), rfl, by decide, by decide, by decide +kernel⟩
theorem cd_L_47 : mCdV RL 47 RX7 yX7_calls cX7_calls 3 (some .int) 2 := ⟨mGoodC (q_24 (List.mem_of_getElem? (i := 12) rfl)) (mGoodC (q_24 (List.mem_of_getElem? (i := 13) rfl)) (mGoodC (q_24 (List.mem_of_getElem? (i := 14) rfl)) (mGoodC (q_1 (List.mem_of_getElem? (i := 5) rfl)) (mGoodC (q_24 (List.mem_of_getElem? (i := 15) rfl)) mGoodT)))), rfl, by decide, by decide, by decide +kernel⟩
theorem cd_L_48 : mCdV RL 48 RX6 yX6_steps cX6_steps 2 (some .int) 1 := ⟨mGoodC (q_25 (List.mem_of_getElem? (i := 3) rfl)) (mGoodC (q_25 (List.mem_of_getElem? (i := 4) rfl)) (mGoodC (q_25 (List.mem_of_getElem? (i := 5) rfl)) (mGoodC (q_1 (List.mem_of_getElem? (i := 2) rfl)) (mGoodC (q_25 (List.mem_of_getElem? (i := 6) rfl)) mGoodT)))), rfl, by decide, by decide, by decide +kernel⟩
theorem cd_L_51 : mCdV RL 51 RX7 yX7_steps cX7_steps 2 (some .int) 1 := ⟨mGoodC (q_25 (List.mem_of_getElem? (i := 7) rfl)) (mGoodC (q_25 (List.mem_of_getElem? (i := 8) rfl)) (mGoodC (q_25 (List.mem_of_getElem? (i := 9) rfl)) (mGoodC (q_1 (List.mem_of_getElem? (i := 5) rfl)) (mGoodC (q_25 (List.mem_of_getElem? (i := 10) rfl)) mGoodT)))), rfl, by decide, by decide, by decide +kernel⟩
theorem cd_L_52 : mCdV RL 52 RX6 yX6_undo cX6_undo 1 (some .int) 0 := ⟨mGoodC (q_25 (List.mem_of_getElem? (i := 11) rfl)) (mGoodC (q_25 (List.mem_of_getElem? (i := 12) rfl)) (mGoodC (q_25 (List.mem_of_getElem? (i := 13) rfl)) (mGoodC (q_1 (List.mem_of_getElem? (i := 2) rfl)) (mGoodC (q_25 (List.mem_of_getElem? (i := 14) rfl)) mGoodT)))), rfl, by decide, by decide, by decide +kernel⟩
theorem cd_L_55 : mCdV RL 55 RX7 yX7_undo cX7_undo 1 (some .int) 0 := ⟨mGoodC (q_25 (List.mem_of_getElem? (i := 19) rfl)) (mGoodC (q_25 (List.mem_of_getElem? (i := 20) rfl)) (mGoodC (q_25 (List.mem_of_getElem? (i := 21) rfl)) (mGoodC (q_1 (List.mem_of_getElem? (i := 5) rfl)) (mGoodC (q_25 (List.mem_of_getElem? (i := 22) rfl)) mGoodT)))), rfl, by decide, by decide, by decide +kernel⟩
theorem cd_L_56 : mCdV RL 56 RX6 yX6_of cX6_of 3 (some .int) 2 := ⟨mGoodC (q_25 (List.mem_of_getElem? (i := 23) rfl)) (mGoodC (q_26 (List.mem_of_getElem? (i := 0) rfl)) (mGoodC (q_26 (List.mem_of_getElem? (i := 1) rfl)) (mGoodC (q_1 (List.mem_of_getElem? (i := 2) rfl)) (mGoodC (q_26 (List.mem_of_getElem? (i := 2) rfl)) mGoodT)))), rfl, by decide, by decide, by decide +kernel⟩
theorem cd_L_59 : mCdV RL 59 RX7 yX7_of cX7_of 3 (some .int) 2 := ⟨mGoodC (q_26 (List.mem_of_getElem? (i := 9) rfl)) (mGoodC (q_26 (List.mem_of_getElem? (i := 10) rfl)) (mGoodC (q_26 (List.mem_of_getElem? (i := 11) rfl)) (mGoodC (q_1 (List.mem_of_getElem? (i := 5) rfl)) (mGoodC (q_26 (List.mem_of_getElem? (i := 12) rfl)) mGoodT)))), rfl, by decide, by decide, by decide +kernel⟩
theorem cd_L_60 : mCdV RL 60 RX6 yX6_about cX6_about 4 (some .int) 2 := ⟨mGoodC (q_26 (List.mem_of_getElem? (i := 13) rfl)) (mGoodC (q_26 (List.mem_of_getElem? (i := 14) rfl)) (mGoodC (q_26 (List.mem_of_getElem? (i := 15) rfl)) (mGoodC (q_1 (List.mem_of_getElem? (i := 2) rfl)) (mGoodC (q_26 (List.mem_of_getElem? (i := 16) rfl)) mGoodT)))), rfl, by decide, by decide, by decide +kernel⟩
theorem cd_L_63 : mCdV RL 63 RX7 yX7_about cX7_about 3 (some .int) 2 := ⟨mGoodC (q_26 (List.mem_of_getElem? (i := 23) rfl)) (mGoodC (q_27 (List.mem_of_getElem? (i := 0) rfl)) (mGoodC (q_27 (List.mem_of_getElem? (i := 1) rfl)) (mGoodC (q_1 (List.mem_of_getElem? (i := 5) rfl)) (mGoodC (q_27 (List.mem_of_getElem? (i := 2) rfl)) mGoodT)))), rfl, by decide, by decide, by decide +kernel⟩
theorem cd_L_64 : mCdV RL 64 RX6 yX6_goes cX6_goes 3 (some .int) 2 := ⟨mGoodC (q_27 (List.mem_of_getElem? (i := 7) rfl)) (mGoodC (q_27 (List.mem_of_getElem? (i := 8) rfl)) (mGoodC (q_27 (List.mem_of_getElem? (i := 9) rfl)) (mGoodC (q_1 (List.mem_of_getElem? (i := 2) rfl)) (mGoodC (q_27 (List.mem_of_getElem? (i := 10) rfl)) mGoodT)))), rfl, by decide, by decide, by decide +kernel⟩
theorem cd_L_67 : mCdV RL 67 RX7 yX7_goes cX7_goes 3 (some .int) 2 := ⟨mGoodC (q_27 (List.mem_of_getElem? (i := 12) rfl)) (mGoodC (q_27 (List.mem_of_getElem? (i := 13) rfl)) (mGoodC (q_27 (List.mem_of_getElem? (i := 14) rfl)) (mGoodC (q_1 (List.mem_of_getElem? (i := 5) rfl)) (mGoodC (q_27 (List.mem_of_getElem? (i := 15) rfl)) mGoodT)))), rfl, by decide, by decide, by decide +kernel⟩
theorem cd_L_68 : mCdV RL 68 RX6 yX6_gives cX6_gives 4 (some .int) 3 := ⟨mGoodC (q_27 (List.mem_of_getElem? (i := 16) rfl)) (mGoodC (q_27 (List.mem_of_getElem? (i := 17) rfl)) (mGoodC (q_27 (List.mem_of_getElem? (i := 18) rfl)) (mGoodC (q_1 (List.mem_of_getElem? (i := 2) rfl)) (mGoodC (q_27 (List.mem_of_getElem? (i := 19) rfl)) mGoodT)))), rfl, by decide, by decide, by decide +kernel⟩
theorem cd_L_72 : mCdV RL 72 RX7 yX7_gives cX7_gives 4 (some .int) 3 := ⟨mGoodC (q_28 (List.mem_of_getElem? (i := 1) rfl)) (mGoodC (q_28 (List.mem_of_getElem? (i := 2) rfl)) (mGoodC (q_28 (List.mem_of_getElem? (i := 3) rfl)) (mGoodC (q_1 (List.mem_of_getElem? (i := 5) rfl)) (mGoodC (q_28 (List.mem_of_getElem? (i := 4) rfl)) mGoodT)))), rfl, by decide, by decide, by decide +kernel⟩
theorem cd_L_73 : mCdV RL 73 RX6 yX6_folded cX6_folded 1 (some .int) 0 := ⟨mGoodC (q_28 (List.mem_of_getElem? (i := 9) rfl)) (mGoodC (q_28 (List.mem_of_getElem? (i := 10) rfl)) (mGoodC (q_28 (List.mem_of_getElem? (i := 11) rfl)) (mGoodC (q_1 (List.mem_of_getElem? (i := 2) rfl)) (mGoodC (q_28 (List.mem_of_getElem? (i := 12) rfl)) mGoodT)))), rfl, by decide, by decide, by decide +kernel⟩
theorem cd_L_76 : mCdV RL 76 RX7 yX7_folded cX7_folded 1 (some .int) 0 := ⟨mGoodC (q_28 (List.mem_of_getElem? (i := 17) rfl)) (mGoodC (q_28 (List.mem_of_getElem? (i := 18) rfl)) (mGoodC (q_28 (List.mem_of_getElem? (i := 19) rfl)) (mGoodC (q_1 (List.mem_of_getElem? (i := 5) rfl)) (mGoodC (q_28 (List.mem_of_getElem? (i := 20) rfl)) mGoodT)))), rfl, by decide, by decide, by decide +kernel⟩
theorem cd_L_77 : mCdV RL 77 RX6 yX6_drive cX6_drive 7 (some .int) 4 := ⟨mGoodC (q_29 (List.mem_of_getElem? (i := 1) rfl)) (mGoodC (q_29 (List.mem_of_getElem? (i := 2) rfl)) (mGoodC (q_29 (List.mem_of_getElem? (i := 3) rfl)) (mGoodC (q_1 (List.mem_of_getElem? (i := 2) rfl)) (mGoodC (q_29 (List.mem_of_getElem? (i := 4) rfl)) mGoodT)))), rfl, by decide, by decide, by decide +kernel⟩
theorem cd_L_81 : mCdV RL 81 RX7 yX7_drive cX7_drive 10 (some .int) 4 := ⟨mGoodC (q_31 (List.mem_of_getElem? (i := 19) rfl)) (mGoodC (q_31 (List.mem_of_getElem? (i := 20) rfl)) (mGoodC (q_31 (List.mem_of_getElem? (i := 21) rfl)) (mGoodC (q_1 (List.mem_of_getElem? (i := 5) rfl)) (mGoodC (q_31 (List.mem_of_getElem? (i := 22) rfl)) mGoodT)))), rfl, by decide, by decide, by decide +kernel⟩
theorem cd_L_82 : mCdV RL 82 RX6 yX6_near cX6_near 4 (some .int) 2 := ⟨mGoodC (q_32 (List.mem_of_getElem? (i := 10) rfl)) (mGoodC (q_32 (List.mem_of_getElem? (i := 11) rfl)) (mGoodC (q_32 (List.mem_of_getElem? (i := 12) rfl)) (mGoodC (q_1 (List.mem_of_getElem? (i := 2) rfl)) (mGoodC (q_32 (List.mem_of_getElem? (i := 13) rfl)) mGoodT)))), rfl, by decide, by decide, by decide +kernel⟩
theorem cd_L_85 : mCdV RL 85 RX7 yX7_near cX7_near 8 (some .int) 2 := ⟨mGoodC (q_32 (List.mem_of_getElem? (i := 22) rfl)) (mGoodC (q_32 (List.mem_of_getElem? (i := 23) rfl)) (mGoodC (q_33 (List.mem_of_getElem? (i := 0) rfl)) (mGoodC (q_1 (List.mem_of_getElem? (i := 5) rfl)) (mGoodC (q_33 (List.mem_of_getElem? (i := 1) rfl)) mGoodT)))), rfl, by decide, by decide, by decide +kernel⟩
theorem cd_L_86 : mCdV RL 86 RX6 yX6_gather cX6_gather 7 (some .int) 2 := ⟨mGoodC (q_33 (List.mem_of_getElem? (i := 3) rfl)) (mGoodC (q_33 (List.mem_of_getElem? (i := 4) rfl)) (mGoodC (q_33 (List.mem_of_getElem? (i := 5) rfl)) (mGoodC (q_1 (List.mem_of_getElem? (i := 2) rfl)) (mGoodC (q_33 (List.mem_of_getElem? (i := 6) rfl)) mGoodT)))), rfl, by decide, by decide, by decide +kernel⟩
theorem cd_L_89 : mCdV RL 89 RX7 yX7_gather cX7_gather 7 (some .int) 2 := ⟨mGoodC (q_34 (List.mem_of_getElem? (i := 8) rfl)) (mGoodC (q_34 (List.mem_of_getElem? (i := 9) rfl)) (mGoodC (q_34 (List.mem_of_getElem? (i := 10) rfl)) (mGoodC (q_1 (List.mem_of_getElem? (i := 5) rfl)) (mGoodC (q_34 (List.mem_of_getElem? (i := 11) rfl)) mGoodT)))), rfl, by decide, by decide, by decide +kernel⟩
theorem cd_L_90 : mCdV RL 90 RX6 yX6_seen cX6_seen 3 (some .int) 2 := ⟨mGoodC (q_34 (List.mem_of_getElem? (i := 16) rfl)) (mGoodC (q_34 (List.mem_of_getElem? (i := 17) rfl)) (mGoodC (q_34 (List.mem_of_getElem? (i := 18) rfl)) (mGoodC (q_1 (List.mem_of_getElem? (i := 2) rfl)) (mGoodC (q_34 (List.mem_of_getElem? (i := 19) rfl)) mGoodT)))), rfl, by decide, by decide, by decide +kernel⟩
theorem cd_L_93 : mCdV RL 93 RX7 yX7_seen cX7_seen 3 (some .int) 2 := ⟨mGoodC (q_35 (List.mem_of_getElem? (i := 7) rfl)) (mGoodC (q_35 (List.mem_of_getElem? (i := 8) rfl)) (mGoodC (q_35 (List.mem_of_getElem? (i := 9) rfl)) (mGoodC (q_1 (List.mem_of_getElem? (i := 5) rfl)) (mGoodC (q_35 (List.mem_of_getElem? (i := 10) rfl)) mGoodT)))), rfl, by decide, by decide, by decide +kernel⟩
theorem cd_L_94 : mCdV RL 94 RX6 yX6_which cX6_which 2 (some .int) 1 := ⟨mGoodC (q_35 (List.mem_of_getElem? (i := 11) rfl)) (mGoodC (q_35 (List.mem_of_getElem? (i := 12) rfl)) (mGoodC (q_35 (List.mem_of_getElem? (i := 13) rfl)) (mGoodC (q_1 (List.mem_of_getElem? (i := 2) rfl)) (mGoodC (q_35 (List.mem_of_getElem? (i := 14) rfl)) mGoodT)))), rfl, by decide, by decide, by decide +kernel⟩
theorem cd_L_97 : mCdV RL 97 RX7 yX7_which cX7_which 2 (some .int) 1 := ⟨mGoodC (q_36 (List.mem_of_getElem? (i := 3) rfl)) (mGoodC (q_36 (List.mem_of_getElem? (i := 4) rfl)) (mGoodC (q_36 (List.mem_of_getElem? (i := 5) rfl)) (mGoodC (q_1 (List.mem_of_getElem? (i := 5) rfl)) (mGoodC (q_36 (List.mem_of_getElem? (i := 6) rfl)) mGoodT)))), rfl, by decide, by decide, by decide +kernel⟩
theorem cd_L_98 : mCdV RL 98 RX6 yX6_whose cX6_whose 6 (some .int) 1 := ⟨mGoodC (q_36 (List.mem_of_getElem? (i := 11) rfl)) (mGoodC (q_36 (List.mem_of_getElem? (i := 12) rfl)) (mGoodC (q_36 (List.mem_of_getElem? (i := 13) rfl)) (mGoodC (q_1 (List.mem_of_getElem? (i := 2) rfl)) (mGoodC (q_36 (List.mem_of_getElem? (i := 14) rfl)) mGoodT)))), rfl, by decide, by decide, by decide +kernel⟩
theorem cd_L_101 : mCdV RL 101 RX7 yX7_whose cX7_whose 6 (some .int) 1 := ⟨mGoodC (q_36 (List.mem_of_getElem? (i := 16) rfl)) (mGoodC (q_36 (List.mem_of_getElem? (i := 17) rfl)) (mGoodC (q_36 (List.mem_of_getElem? (i := 18) rfl)) (mGoodC (q_1 (List.mem_of_getElem? (i := 5) rfl)) (mGoodC (q_36 (List.mem_of_getElem? (i := 19) rfl)) mGoodT)))), rfl, by decide, by decide, by decide +kernel⟩
theorem cd_L_102 : mCdV RL 102 RX6 yX6_tell cX6_tell 4 (some .int) 1 := ⟨mGoodC (q_36 (List.mem_of_getElem? (i := 20) rfl)) (mGoodC (q_36 (List.mem_of_getElem? (i := 21) rfl)) (mGoodC (q_36 (List.mem_of_getElem? (i := 22) rfl)) (mGoodC (q_1 (List.mem_of_getElem? (i := 2) rfl)) (mGoodC (q_36 (List.mem_of_getElem? (i := 23) rfl)) mGoodT)))), rfl, by decide, by decide, by decide +kernel⟩
theorem cd_L_105 : mCdV RL 105 RX7 yX7_tell cX7_tell 10 (some .int) 1 := ⟨mGoodC (q_37 (List.mem_of_getElem? (i := 7) rfl)) (mGoodC (q_37 (List.mem_of_getElem? (i := 8) rfl)) (mGoodC (q_37 (List.mem_of_getElem? (i := 9) rfl)) (mGoodC (q_1 (List.mem_of_getElem? (i := 5) rfl)) (mGoodC (q_37 (List.mem_of_getElem? (i := 10) rfl)) mGoodT)))), rfl, by decide, by decide, by decide +kernel⟩
theorem cd_L_106 : mCdV RL 106 RX6 yX6_note cX6_note 4 (some .int) 3 := ⟨mGoodC (q_37 (List.mem_of_getElem? (i := 11) rfl)) (mGoodC (q_37 (List.mem_of_getElem? (i := 12) rfl)) (mGoodC (q_37 (List.mem_of_getElem? (i := 13) rfl)) (mGoodC (q_1 (List.mem_of_getElem? (i := 2) rfl)) (mGoodC (q_37 (List.mem_of_getElem? (i := 14) rfl)) mGoodT)))), rfl, by decide, by decide, by decide +kernel⟩
theorem cd_L_109 : mCdV RL 109 RX7 yX7_note cX7_note 4 (some .int) 3 := ⟨mGoodC (q_37 (List.mem_of_getElem? (i := 16) rfl)) (mGoodC (q_37 (List.mem_of_getElem? (i := 17) rfl)) (mGoodC (q_37 (List.mem_of_getElem? (i := 18) rfl)) (mGoodC (q_1 (List.mem_of_getElem? (i := 5) rfl)) (mGoodC (q_37 (List.mem_of_getElem? (i := 19) rfl)) mGoodT)))), rfl, by decide, by decide, by decide +kernel⟩
theorem cd_L_110 : mCdV RL 110 RX6 yX6_mark cX6_mark 4 (some .int) 3 := ⟨mGoodC (q_37 (List.mem_of_getElem? (i := 20) rfl)) (mGoodC (q_37 (List.mem_of_getElem? (i := 21) rfl)) (mGoodC (q_37 (List.mem_of_getElem? (i := 22) rfl)) (mGoodC (q_1 (List.mem_of_getElem? (i := 2) rfl)) (mGoodC (q_37 (List.mem_of_getElem? (i := 23) rfl)) mGoodT)))), rfl, by decide, by decide, by decide +kernel⟩
theorem cd_L_113 : mCdV RL 113 RX7 yX7_mark cX7_mark 4 (some .int) 3 := ⟨mGoodC (q_38 (List.mem_of_getElem? (i := 1) rfl)) (mGoodC (q_38 (List.mem_of_getElem? (i := 2) rfl)) (mGoodC (q_38 (List.mem_of_getElem? (i := 3) rfl)) (mGoodC (q_1 (List.mem_of_getElem? (i := 5) rfl)) (mGoodC (q_38 (List.mem_of_getElem? (i := 4) rfl)) mGoodT)))), rfl, by decide, by decide, by decide +kernel⟩
theorem cd_L_114 : mCdV RL 114 RX6 yX6_forget cX6_forget 4 (some .int) 1 := ⟨mGoodC (q_38 (List.mem_of_getElem? (i := 5) rfl)) (mGoodC (q_38 (List.mem_of_getElem? (i := 6) rfl)) (mGoodC (q_38 (List.mem_of_getElem? (i := 7) rfl)) (mGoodC (q_1 (List.mem_of_getElem? (i := 2) rfl)) (mGoodC (q_38 (List.mem_of_getElem? (i := 8) rfl)) mGoodT)))), rfl, by decide, by decide, by decide +kernel⟩
theorem cd_L_117 : mCdV RL 117 RX7 yX7_forget cX7_forget 3 (some .int) 1 := ⟨mGoodC (q_38 (List.mem_of_getElem? (i := 9) rfl)) (mGoodC (q_38 (List.mem_of_getElem? (i := 10) rfl)) (mGoodC (q_38 (List.mem_of_getElem? (i := 11) rfl)) (mGoodC (q_1 (List.mem_of_getElem? (i := 5) rfl)) (mGoodC (q_38 (List.mem_of_getElem? (i := 12) rfl)) mGoodT)))), rfl, by decide, by decide, by decide +kernel⟩
theorem cd_L_118 : mCdV RL 118 RX6 yX6_is cX6_is 2 (some .int) 1 := ⟨mGoodC (q_38 (List.mem_of_getElem? (i := 13) rfl)) (mGoodC (q_38 (List.mem_of_getElem? (i := 14) rfl)) (mGoodC (q_38 (List.mem_of_getElem? (i := 15) rfl)) (mGoodC (q_1 (List.mem_of_getElem? (i := 2) rfl)) (mGoodC (q_38 (List.mem_of_getElem? (i := 16) rfl)) mGoodT)))), rfl, by decide, by decide, by decide +kernel⟩
theorem cd_L_121 : mCdV RL 121 RX7 yX7_is cX7_is 2 (some .int) 1 := ⟨mGoodC (q_39 (List.mem_of_getElem? (i := 4) rfl)) (mGoodC (q_39 (List.mem_of_getElem? (i := 5) rfl)) (mGoodC (q_39 (List.mem_of_getElem? (i := 6) rfl)) (mGoodC (q_1 (List.mem_of_getElem? (i := 5) rfl)) (mGoodC (q_39 (List.mem_of_getElem? (i := 7) rfl)) mGoodT)))), rfl, by decide, by decide, by decide +kernel⟩
theorem cd_L_122 : mCdV RL 122 RX6 yX6_look cX6_look 2 (some .int) 1 := ⟨mGoodC (q_39 (List.mem_of_getElem? (i := 12) rfl)) (mGoodC (q_39 (List.mem_of_getElem? (i := 13) rfl)) (mGoodC (q_39 (List.mem_of_getElem? (i := 14) rfl)) (mGoodC (q_1 (List.mem_of_getElem? (i := 2) rfl)) (mGoodC (q_39 (List.mem_of_getElem? (i := 15) rfl)) mGoodT)))), rfl, by decide, by decide, by decide +kernel⟩
theorem cd_L_125 : mCdV RL 125 RX7 yX7_look cX7_look 2 (some .int) 1 := ⟨mGoodC (q_40 (List.mem_of_getElem? (i := 0) rfl)) (mGoodC (q_40 (List.mem_of_getElem? (i := 1) rfl)) (mGoodC (q_40 (List.mem_of_getElem? (i := 2) rfl)) (mGoodC (q_1 (List.mem_of_getElem? (i := 5) rfl)) (mGoodC (q_40 (List.mem_of_getElem? (i := 3) rfl)) mGoodT)))), rfl, by decide, by decide, by decide +kernel⟩
theorem cd_L_126 : mCdV RL 126 RX6 yX6_kinds cX6_kinds 2 (some .int) 1 := ⟨mGoodC (q_40 (List.mem_of_getElem? (i := 10) rfl)) (mGoodC (q_40 (List.mem_of_getElem? (i := 11) rfl)) (mGoodC (q_40 (List.mem_of_getElem? (i := 12) rfl)) (mGoodC (q_1 (List.mem_of_getElem? (i := 2) rfl)) (mGoodC (q_40 (List.mem_of_getElem? (i := 13) rfl)) mGoodT)))), rfl, by decide, by decide, by decide +kernel⟩
theorem cd_L_129 : mCdV RL 129 RX7 yX7_kinds cX7_kinds 2 (some .int) 1 := ⟨mGoodC (q_40 (List.mem_of_getElem? (i := 14) rfl)) (mGoodC (q_40 (List.mem_of_getElem? (i := 15) rfl)) (mGoodC (q_40 (List.mem_of_getElem? (i := 16) rfl)) (mGoodC (q_1 (List.mem_of_getElem? (i := 5) rfl)) (mGoodC (q_40 (List.mem_of_getElem? (i := 17) rfl)) mGoodT)))), rfl, by decide, by decide, by decide +kernel⟩
theorem cd_L_130 : mCdV RL 130 RX6 yX6_ask cX6_ask 2 (some .int) 1 := ⟨mGoodC (q_40 (List.mem_of_getElem? (i := 22) rfl)) (mGoodC (q_40 (List.mem_of_getElem? (i := 23) rfl)) (mGoodC (q_41 (List.mem_of_getElem? (i := 0) rfl)) (mGoodC (q_1 (List.mem_of_getElem? (i := 2) rfl)) (mGoodC (q_41 (List.mem_of_getElem? (i := 1) rfl)) mGoodT)))), rfl, by decide, by decide, by decide +kernel⟩
theorem cd_L_133 : mCdV RL 133 RX7 yX7_ask cX7_ask 2 (some .int) 1 := ⟨mGoodC (q_41 (List.mem_of_getElem? (i := 2) rfl)) (mGoodC (q_41 (List.mem_of_getElem? (i := 3) rfl)) (mGoodC (q_41 (List.mem_of_getElem? (i := 4) rfl)) (mGoodC (q_1 (List.mem_of_getElem? (i := 5) rfl)) (mGoodC (q_41 (List.mem_of_getElem? (i := 5) rfl)) mGoodT)))), rfl, by decide, by decide, by decide +kernel⟩
theorem cd_L_134 : mCdV RL 134 RX6 yX6_shepherds cX6_shepherds 7 (some .int) 3 := ⟨mGoodC (q_41 (List.mem_of_getElem? (i := 6) rfl)) (mGoodC (q_41 (List.mem_of_getElem? (i := 7) rfl)) (mGoodC (q_41 (List.mem_of_getElem? (i := 8) rfl)) (mGoodC (q_1 (List.mem_of_getElem? (i := 2) rfl)) (mGoodC (q_41 (List.mem_of_getElem? (i := 9) rfl)) mGoodT)))), rfl, by decide, by decide, by decide +kernel⟩
theorem cd_L_137 : mCdV RL 137 RX7 yX7_shepherds cX7_shepherds 7 (some .int) 3 := ⟨mGoodC (q_42 (List.mem_of_getElem? (i := 2) rfl)) (mGoodC (q_42 (List.mem_of_getElem? (i := 3) rfl)) (mGoodC (q_42 (List.mem_of_getElem? (i := 4) rfl)) (mGoodC (q_1 (List.mem_of_getElem? (i := 5) rfl)) (mGoodC (q_42 (List.mem_of_getElem? (i := 5) rfl)) mGoodT)))), rfl, by decide, by decide, by decide +kernel⟩
theorem cd_L_138 : mCdV RL 138 RX6 yX6_misheard cX6_misheard 11 (some .int) 5 := ⟨mGoodC (q_42 (List.mem_of_getElem? (i := 22) rfl)) (mGoodC (q_42 (List.mem_of_getElem? (i := 23) rfl)) (mGoodC (q_43 (List.mem_of_getElem? (i := 0) rfl)) (mGoodC (q_1 (List.mem_of_getElem? (i := 2) rfl)) (mGoodC (q_43 (List.mem_of_getElem? (i := 1) rfl)) mGoodT)))), rfl, by decide, by decide, by decide +kernel⟩
theorem cd_L_142 : mCdV RL 142 RX7 yX7_misheard cX7_misheard 14 (some .int) 5 := ⟨mGoodC (q_43 (List.mem_of_getElem? (i := 11) rfl)) (mGoodC (q_43 (List.mem_of_getElem? (i := 12) rfl)) (mGoodC (q_43 (List.mem_of_getElem? (i := 13) rfl)) (mGoodC (q_1 (List.mem_of_getElem? (i := 5) rfl)) (mGoodC (q_43 (List.mem_of_getElem? (i := 14) rfl)) mGoodT)))), rfl, by decide, by decide, by decide +kernel⟩
theorem cd_L_143 : mCdV RL 143 RX6 yX6_winters cX6_winters 8 (some .int) 2 := ⟨mGoodC (q_43 (List.mem_of_getElem? (i := 21) rfl)) (mGoodC (q_43 (List.mem_of_getElem? (i := 22) rfl)) (mGoodC (q_43 (List.mem_of_getElem? (i := 23) rfl)) (mGoodC (q_1 (List.mem_of_getElem? (i := 2) rfl)) (mGoodC (q_44 (List.mem_of_getElem? (i := 0) rfl)) mGoodT)))), rfl, by decide, by decide, by decide +kernel⟩
theorem cd_L_146 : mCdV RL 146 RX7 yX7_winters cX7_winters 7 (some .int) 2 := ⟨mGoodC (q_44 (List.mem_of_getElem? (i := 9) rfl)) (mGoodC (q_44 (List.mem_of_getElem? (i := 10) rfl)) (mGoodC (q_44 (List.mem_of_getElem? (i := 11) rfl)) (mGoodC (q_1 (List.mem_of_getElem? (i := 5) rfl)) (mGoodC (q_44 (List.mem_of_getElem? (i := 12) rfl)) mGoodT)))), rfl, by decide, by decide, by decide +kernel⟩
theorem cd_L_147 : mCdV RL 147 RX6 yX6_part cX6_part 2 (some .long) 1 := ⟨mGoodC (q_44 (List.mem_of_getElem? (i := 21) rfl)) (mGoodC (q_44 (List.mem_of_getElem? (i := 22) rfl)) (mGoodC (q_44 (List.mem_of_getElem? (i := 23) rfl)) (mGoodC (q_1 (List.mem_of_getElem? (i := 2) rfl)) (mGoodC (q_45 (List.mem_of_getElem? (i := 0) rfl)) mGoodT)))), rfl, by decide, by decide, by decide +kernel⟩
theorem cd_L_151 : mCdV RL 151 RX7 yX7_part cX7_part 2 (some .long) 1 := ⟨mGoodC (q_45 (List.mem_of_getElem? (i := 1) rfl)) (mGoodC (q_45 (List.mem_of_getElem? (i := 2) rfl)) (mGoodC (q_45 (List.mem_of_getElem? (i := 3) rfl)) (mGoodC (q_1 (List.mem_of_getElem? (i := 5) rfl)) (mGoodC (q_45 (List.mem_of_getElem? (i := 4) rfl)) mGoodT)))), rfl, by decide, by decide, by decide +kernel⟩
theorem cd_L_152 : mCdV RL 152 RX6 yX6_image cX6_image 2 (some .int) 1 := ⟨mGoodC (q_45 (List.mem_of_getElem? (i := 5) rfl)) (mGoodC (q_45 (List.mem_of_getElem? (i := 6) rfl)) (mGoodC (q_45 (List.mem_of_getElem? (i := 7) rfl)) (mGoodC (q_1 (List.mem_of_getElem? (i := 2) rfl)) (mGoodC (q_45 (List.mem_of_getElem? (i := 8) rfl)) mGoodT)))), rfl, by decide, by decide, by decide +kernel⟩
theorem cd_L_155 : mCdV RL 155 RX7 yX7_image cX7_image 2 (some .int) 1 := ⟨mGoodC (q_45 (List.mem_of_getElem? (i := 12) rfl)) (mGoodC (q_45 (List.mem_of_getElem? (i := 13) rfl)) (mGoodC (q_45 (List.mem_of_getElem? (i := 14) rfl)) (mGoodC (q_1 (List.mem_of_getElem? (i := 5) rfl)) (mGoodC (q_45 (List.mem_of_getElem? (i := 15) rfl)) mGoodT)))), rfl, by decide, by decide, by decide +kernel⟩
theorem cd_L_156 : mCdV RL 156 RX6 yX6_from cX6_from 2 (some .int) 1 := ⟨mGoodC (q_45 (List.mem_of_getElem? (i := 16) rfl)) (mGoodC (q_45 (List.mem_of_getElem? (i := 17) rfl)) (mGoodC (q_45 (List.mem_of_getElem? (i := 18) rfl)) (mGoodC (q_1 (List.mem_of_getElem? (i := 2) rfl)) (mGoodC (q_45 (List.mem_of_getElem? (i := 19) rfl)) mGoodT)))), rfl, by decide, by decide, by decide +kernel⟩
theorem cd_L_159 : mCdV RL 159 RX7 yX7_from cX7_from 2 (some .int) 1 := ⟨mGoodC (q_45 (List.mem_of_getElem? (i := 20) rfl)) (mGoodC (q_45 (List.mem_of_getElem? (i := 21) rfl)) (mGoodC (q_45 (List.mem_of_getElem? (i := 22) rfl)) (mGoodC (q_1 (List.mem_of_getElem? (i := 5) rfl)) (mGoodC (q_45 (List.mem_of_getElem? (i := 23) rfl)) mGoodT)))), rfl, by decide, by decide, by decide +kernel⟩
theorem cd_L_160 : mCdV RL 160 RX6 yX6_status cX6_status 2 (some .int) 1 := ⟨mGoodC (q_46 (List.mem_of_getElem? (i := 0) rfl)) (mGoodC (q_46 (List.mem_of_getElem? (i := 1) rfl)) (mGoodC (q_46 (List.mem_of_getElem? (i := 2) rfl)) (mGoodC (q_1 (List.mem_of_getElem? (i := 2) rfl)) (mGoodC (q_46 (List.mem_of_getElem? (i := 3) rfl)) mGoodT)))), rfl, by decide, by decide, by decide +kernel⟩
theorem cd_L_163 : mCdV RL 163 RX7 yX7_status cX7_status 2 (some .int) 1 := ⟨mGoodC (q_46 (List.mem_of_getElem? (i := 4) rfl)) (mGoodC (q_46 (List.mem_of_getElem? (i := 5) rfl)) (mGoodC (q_46 (List.mem_of_getElem? (i := 6) rfl)) (mGoodC (q_1 (List.mem_of_getElem? (i := 5) rfl)) (mGoodC (q_46 (List.mem_of_getElem? (i := 7) rfl)) mGoodT)))), rfl, by decide, by decide, by decide +kernel⟩
theorem cd_L_164 : mCdV RL 164 RX6 yX6_count cX6_count 2 (some .int) 1 := ⟨mGoodC (q_46 (List.mem_of_getElem? (i := 8) rfl)) (mGoodC (q_46 (List.mem_of_getElem? (i := 9) rfl)) (mGoodC (q_46 (List.mem_of_getElem? (i := 10) rfl)) (mGoodC (q_1 (List.mem_of_getElem? (i := 2) rfl)) (mGoodC (q_46 (List.mem_of_getElem? (i := 11) rfl)) mGoodT)))), rfl, by decide, by decide, by decide +kernel⟩
theorem cd_L_167 : mCdV RL 167 RX7 yX7_count cX7_count 2 (some .int) 1 := ⟨mGoodC (q_46 (List.mem_of_getElem? (i := 16) rfl)) (mGoodC (q_46 (List.mem_of_getElem? (i := 17) rfl)) (mGoodC (q_46 (List.mem_of_getElem? (i := 18) rfl)) (mGoodC (q_1 (List.mem_of_getElem? (i := 5) rfl)) (mGoodC (q_46 (List.mem_of_getElem? (i := 19) rfl)) mGoodT)))), rfl, by decide, by decide, by decide +kernel⟩
theorem cd_L_168 : mCdV RL 168 RX6 yX6_digest cX6_digest 4 (some .long) 0 := ⟨mGoodC (q_47 (List.mem_of_getElem? (i := 0) rfl)) (mGoodC (q_47 (List.mem_of_getElem? (i := 1) rfl)) (mGoodC (q_47 (List.mem_of_getElem? (i := 2) rfl)) (mGoodC (q_1 (List.mem_of_getElem? (i := 2) rfl)) (mGoodC (q_47 (List.mem_of_getElem? (i := 3) rfl)) mGoodT)))), rfl, by decide, by decide, by decide +kernel⟩
theorem cd_L_172 : mCdV RL 172 RX7 yX7_digest cX7_digest 2 (some .long) 0 := ⟨mGoodC (q_47 (List.mem_of_getElem? (i := 13) rfl)) (mGoodC (q_47 (List.mem_of_getElem? (i := 14) rfl)) (mGoodC (q_47 (List.mem_of_getElem? (i := 15) rfl)) (mGoodC (q_1 (List.mem_of_getElem? (i := 5) rfl)) (mGoodC (q_47 (List.mem_of_getElem? (i := 16) rfl)) mGoodT)))), rfl, by decide, by decide, by decide +kernel⟩
theorem nw_L_7 : mNwW RL 7 RX6 17 := ⟨q_1 (List.mem_of_getElem? (i := 0) rfl), q_1 (List.mem_of_getElem? (i := 1) rfl), q_1 (List.mem_of_getElem? (i := 2) rfl)⟩
theorem nw_L_10 : mNwW RL 10 RX7 30 := ⟨q_1 (List.mem_of_getElem? (i := 3) rfl), q_1 (List.mem_of_getElem? (i := 4) rfl), q_1 (List.mem_of_getElem? (i := 5) rfl)⟩
noncomputable def f_L_law_1276 (xs : Nat → Int32) (L : Nat) (k18 : Int32 → Int32 → Int32 → mS → Option Int32) (v1 : Int32) (v2 : Int32) (v3 : Int32) (S : mS) : Option Int32 := k18 v1 v2 (v3 + 6) S
noncomputable def f_L_law_18 (xs : Nat → Int32) (L : Nat) (k1282 : mS → Option Int32) : Nat → Int32 → Int32 → Int32 → mS → Option Int32 := fun n => Nat.rec (motive := fun _ => Int32 → Int32 → Int32 → mS → Option Int32) (fun _ _ _ _ => none) (fun _ rec v1 v2 v3 S => if ((Int32.ofNat L) - 6) < v3 then (k1282 S) else (mSc xs L v3 (fun r9 => if (r9 &&& 63) = 0 then (mSc xs L (v3 + 1) (fun r10 => mRc 6 v1 S (mC (f_X6_fell v1 r10 S) (fun r11 S12 => mSc xs L (v3 + 1) (fun r13 => mRc 7 v2 S12 (mC (f_X7_fell v2 r13 S12) (fun r14 S15 => if r11 = r14 then ((f_L_law_1276 xs L rec) v1 v2 v3 S15) else (some 0)))))))) else if (r9 &&& 63) = 1 then (mSc xs L (v3 + 1) (fun r16 => mSc xs L (v3 + 2) (fun r17 => mRc 6 v1 S (mC (f_X6_whistle v1 r16 r17 S) (fun r18 S19 => mSc xs L (v3 + 1) (fun r20 => mSc xs L (v3 + 2) (fun r21 => mRc 7 v2 S19 (mC (f_X7_whistle v2 r20 r21 S19) (fun r22 S23 => if r18 = r22 then ((f_L_law_1276 xs L rec) v1 v2 v3 S23) else (some 0)))))))))) else if (r9 &&& 63) = 2 then (mSc xs L (v3 + 1) (fun r24 => mSc xs L (v3 + 2) (fun r25 => mRc 6 v1 S (mC (f_X6_sheep v1 r24 r25 S) (fun r26 S27 => mSc xs L (v3 + 1) (fun r28 => mSc xs L (v3 + 2) (fun r29 => mRc 7 v2 S27 (mC (f_X7_sheep v2 r28 r29 S27) (fun r30 S31 => if r26 = r30 then ((f_L_law_1276 xs L rec) v1 v2 v3 S31) else (some 0)))))))))) else if (r9 &&& 63) = 3 then (mSc xs L (v3 + 1) (fun r32 => mRc 6 v1 S (mC (f_X6_fold v1 r32 S) (fun r33 S34 => mSc xs L (v3 + 1) (fun r35 => mRc 7 v2 S34 (mC (f_X7_fold v2 r35 S34) (fun r36 S37 => if r33 = r36 then ((f_L_law_1276 xs L rec) v1 v2 v3 S37) else (some 0)))))))) else if (r9 &&& 63) = 4 then (mSc xs L (v3 + 1) (fun r38 => mRc 6 v1 S (mC (f_X6_type v1 r38 S) (fun r39 S40 => mSc xs L (v3 + 1) (fun r41 => mRc 7 v2 S40 (mC (f_X7_type v2 r41 S40) (fun r42 S43 => if r39 = r42 then ((f_L_law_1276 xs L rec) v1 v2 v3 S43) else (some 0)))))))) else if (r9 &&& 63) = 5 then (mRc 6 v1 S (mC (f_X6_clear v1 S) (fun r44 S45 => mRc 7 v2 S45 (mC (f_X7_clear v2 S45) (fun r46 S47 => if r44 = r46 then ((f_L_law_1276 xs L rec) v1 v2 v3 S47) else (some 0)))))) else if (r9 &&& 63) = 6 then (mRc 6 v1 S (mC (f_X6_read v1 S) (fun r48 S49 => mRc 7 v2 S49 (mC (f_X7_read v2 S49) (fun r50 S51 => if r48 = r50 then ((f_L_law_1276 xs L rec) v1 v2 v3 S51) else (some 0)))))) else if (r9 &&& 63) = 7 then (mSc xs L (v3 + 1) (fun r52 => mSc xs L (v3 + 2) (fun r53 => mRc 6 v1 S (mC (f_X6_calls v1 r52 r53 S) (fun r54 S55 => mSc xs L (v3 + 1) (fun r56 => mSc xs L (v3 + 2) (fun r57 => mRc 7 v2 S55 (mC (f_X7_calls v2 r56 r57 S55) (fun r58 S59 => if r54 = r58 then ((f_L_law_1276 xs L rec) v1 v2 v3 S59) else (some 0)))))))))) else if (r9 &&& 63) = 8 then (mSc xs L (v3 + 1) (fun r60 => mRc 6 v1 S (mC (f_X6_steps v1 r60 S) (fun r61 S62 => mSc xs L (v3 + 1) (fun r63 => mRc 7 v2 S62 (mC (f_X7_steps v2 r63 S62) (fun r64 S65 => if r61 = r64 then ((f_L_law_1276 xs L rec) v1 v2 v3 S65) else (some 0)))))))) else if (r9 &&& 63) = 9 then (mRc 6 v1 S (mC (f_X6_undo v1 S) (fun r66 S67 => mRc 7 v2 S67 (mC (f_X7_undo v2 S67) (fun r68 S69 => if r66 = r68 then ((f_L_law_1276 xs L rec) v1 v2 v3 S69) else (some 0)))))) else if (r9 &&& 63) = 10 then (mSc xs L (v3 + 1) (fun r70 => mSc xs L (v3 + 2) (fun r71 => mRc 6 v1 S (mC (f_X6_of v1 r70 r71 S) (fun r72 S73 => mSc xs L (v3 + 1) (fun r74 => mSc xs L (v3 + 2) (fun r75 => mRc 7 v2 S73 (mC (f_X7_of v2 r74 r75 S73) (fun r76 S77 => if r72 = r76 then ((f_L_law_1276 xs L rec) v1 v2 v3 S77) else (some 0)))))))))) else if (r9 &&& 63) = 11 then (mSc xs L (v3 + 1) (fun r78 => mSc xs L (v3 + 2) (fun r79 => mRc 6 v1 S (mC (f_X6_about v1 r78 r79 S) (fun r80 S81 => mSc xs L (v3 + 1) (fun r82 => mSc xs L (v3 + 2) (fun r83 => mRc 7 v2 S81 (mC (f_X7_about v2 r82 r83 S81) (fun r84 S85 => if r80 = r84 then ((f_L_law_1276 xs L rec) v1 v2 v3 S85) else (some 0)))))))))) else if (r9 &&& 63) = 12 then (mSc xs L (v3 + 1) (fun r86 => mSc xs L (v3 + 2) (fun r87 => mRc 6 v1 S (mC (f_X6_goes v1 r86 r87 S) (fun r88 S89 => mSc xs L (v3 + 1) (fun r90 => mSc xs L (v3 + 2) (fun r91 => mRc 7 v2 S89 (mC (f_X7_goes v2 r90 r91 S89) (fun r92 S93 => if r88 = r92 then ((f_L_law_1276 xs L rec) v1 v2 v3 S93) else (some 0)))))))))) else if (r9 &&& 63) = 13 then (mSc xs L (v3 + 1) (fun r94 => mSc xs L (v3 + 2) (fun r95 => mSc xs L (v3 + 3) (fun r96 => mRc 6 v1 S (mC (f_X6_gives v1 r94 r95 r96 S) (fun r97 S98 => mSc xs L (v3 + 1) (fun r99 => mSc xs L (v3 + 2) (fun r100 => mSc xs L (v3 + 3) (fun r101 => mRc 7 v2 S98 (mC (f_X7_gives v2 r99 r100 r101 S98) (fun r102 S103 => if r97 = r102 then ((f_L_law_1276 xs L rec) v1 v2 v3 S103) else (some 0)))))))))))) else if (r9 &&& 63) = 14 then (mRc 6 v1 S (mCp (f_X6_folded v1 S) (fun r104 => mRc 7 v2 S (mCp (f_X7_folded v2 S) (fun r105 => if r104 = r105 then ((f_L_law_1276 xs L rec) v1 v2 v3 S) else (some 0)))))) else if (r9 &&& 63) = 15 then (mSc xs L (v3 + 1) (fun r106 => mSc xs L (v3 + 2) (fun r107 => mSc xs L (v3 + 3) (fun r108 => mSc xs L (v3 + 4) (fun r109 => mRc 6 v1 S (mC (f_X6_drive v1 r106 r107 r108 r109 S) (fun r110 S111 => mSc xs L (v3 + 1) (fun r112 => mSc xs L (v3 + 2) (fun r113 => mSc xs L (v3 + 3) (fun r114 => mSc xs L (v3 + 4) (fun r115 => mRc 7 v2 S111 (mC (f_X7_drive v2 r112 r113 r114 r115 S111) (fun r116 S117 => if r110 = r116 then ((f_L_law_1276 xs L rec) v1 v2 v3 S117) else (some 0)))))))))))))) else if (r9 &&& 63) = 16 then (mSc xs L (v3 + 1) (fun r118 => mSc xs L (v3 + 2) (fun r119 => mRc 6 v1 S (mC (f_X6_near v1 r118 r119 S) (fun r120 S121 => mSc xs L (v3 + 1) (fun r122 => mSc xs L (v3 + 2) (fun r123 => mRc 7 v2 S121 (mC (f_X7_near v2 r122 r123 S121) (fun r124 S125 => if r120 = r124 then ((f_L_law_1276 xs L rec) v1 v2 v3 S125) else (some 0)))))))))) else if (r9 &&& 63) = 17 then (mSc xs L (v3 + 1) (fun r126 => mSc xs L (v3 + 2) (fun r127 => mRc 6 v1 S (mC (f_X6_gather v1 r126 r127 S) (fun r128 S129 => mSc xs L (v3 + 1) (fun r130 => mSc xs L (v3 + 2) (fun r131 => mRc 7 v2 S129 (mC (f_X7_gather v2 r130 r131 S129) (fun r132 S133 => if r128 = r132 then ((f_L_law_1276 xs L rec) v1 v2 v3 S133) else (some 0)))))))))) else if (r9 &&& 63) = 18 then (mSc xs L (v3 + 1) (fun r134 => mSc xs L (v3 + 2) (fun r135 => mRc 6 v1 S (mC (f_X6_seen v1 r134 r135 S) (fun r136 S137 => mSc xs L (v3 + 1) (fun r138 => mSc xs L (v3 + 2) (fun r139 => mRc 7 v2 S137 (mC (f_X7_seen v2 r138 r139 S137) (fun r140 S141 => if r136 = r140 then ((f_L_law_1276 xs L rec) v1 v2 v3 S141) else (some 0)))))))))) else if (r9 &&& 63) = 19 then (mSc xs L (v3 + 1) (fun r142 => mRc 6 v1 S (mC (f_X6_which v1 r142 S) (fun r143 S144 => mSc xs L (v3 + 1) (fun r145 => mRc 7 v2 S144 (mC (f_X7_which v2 r145 S144) (fun r146 S147 => if r143 = r146 then ((f_L_law_1276 xs L rec) v1 v2 v3 S147) else (some 0)))))))) else if (r9 &&& 63) = 20 then (mSc xs L (v3 + 1) (fun r148 => mRc 6 v1 S (mC (f_X6_whose v1 r148 S) (fun r149 S150 => mSc xs L (v3 + 1) (fun r151 => mRc 7 v2 S150 (mC (f_X7_whose v2 r151 S150) (fun r152 S153 => if r149 = r152 then ((f_L_law_1276 xs L rec) v1 v2 v3 S153) else (some 0)))))))) else if (r9 &&& 63) = 21 then (mSc xs L (v3 + 1) (fun r154 => mRc 6 v1 S (mC (f_X6_tell v1 r154 S) (fun r155 S156 => mSc xs L (v3 + 1) (fun r157 => mRc 7 v2 S156 (mC (f_X7_tell v2 r157 S156) (fun r158 S159 => if r155 = r158 then ((f_L_law_1276 xs L rec) v1 v2 v3 S159) else (some 0)))))))) else if (r9 &&& 63) = 22 then (mSc xs L (v3 + 1) (fun r160 => mSc xs L (v3 + 2) (fun r161 => mSc xs L (v3 + 3) (fun r162 => mRc 6 v1 S (mC (f_X6_note v1 r160 r161 r162 S) (fun r163 S164 => mSc xs L (v3 + 1) (fun r165 => mSc xs L (v3 + 2) (fun r166 => mSc xs L (v3 + 3) (fun r167 => mRc 7 v2 S164 (mC (f_X7_note v2 r165 r166 r167 S164) (fun r168 S169 => if r163 = r168 then ((f_L_law_1276 xs L rec) v1 v2 v3 S169) else (some 0)))))))))))) else if (r9 &&& 63) = 23 then (mSc xs L (v3 + 1) (fun r170 => mSc xs L (v3 + 2) (fun r171 => mSc xs L (v3 + 3) (fun r172 => mRc 6 v1 S (mC (f_X6_mark v1 r170 r171 r172 S) (fun r173 S174 => mSc xs L (v3 + 1) (fun r175 => mSc xs L (v3 + 2) (fun r176 => mSc xs L (v3 + 3) (fun r177 => mRc 7 v2 S174 (mC (f_X7_mark v2 r175 r176 r177 S174) (fun r178 S179 => if r173 = r178 then ((f_L_law_1276 xs L rec) v1 v2 v3 S179) else (some 0)))))))))))) else if (r9 &&& 63) = 24 then (mSc xs L (v3 + 1) (fun r180 => mRc 6 v1 S (mC (f_X6_forget v1 r180 S) (fun r181 S182 => mSc xs L (v3 + 1) (fun r183 => mRc 7 v2 S182 (mC (f_X7_forget v2 r183 S182) (fun r184 S185 => if r181 = r184 then ((f_L_law_1276 xs L rec) v1 v2 v3 S185) else (some 0)))))))) else if (r9 &&& 63) = 25 then (mSc xs L (v3 + 1) (fun r186 => mRc 6 v1 S (mC (f_X6_is v1 r186 S) (fun r187 S188 => mSc xs L (v3 + 1) (fun r189 => mRc 7 v2 S188 (mC (f_X7_is v2 r189 S188) (fun r190 S191 => if r187 = r190 then ((f_L_law_1276 xs L rec) v1 v2 v3 S191) else (some 0)))))))) else if (r9 &&& 63) = 26 then (mSc xs L (v3 + 1) (fun r192 => mRc 6 v1 S (mC (f_X6_look v1 r192 S) (fun r193 S194 => mSc xs L (v3 + 1) (fun r195 => mRc 7 v2 S194 (mC (f_X7_look v2 r195 S194) (fun r196 S197 => if r193 = r196 then ((f_L_law_1276 xs L rec) v1 v2 v3 S197) else (some 0)))))))) else if (r9 &&& 63) = 27 then (mSc xs L (v3 + 1) (fun r198 => mRc 6 v1 S (mC (f_X6_kinds v1 r198 S) (fun r199 S200 => mSc xs L (v3 + 1) (fun r201 => mRc 7 v2 S200 (mC (f_X7_kinds v2 r201 S200) (fun r202 S203 => if r199 = r202 then ((f_L_law_1276 xs L rec) v1 v2 v3 S203) else (some 0)))))))) else if (r9 &&& 63) = 28 then (mSc xs L (v3 + 1) (fun r204 => mRc 6 v1 S (mC (f_X6_ask v1 r204 S) (fun r205 S206 => mSc xs L (v3 + 1) (fun r207 => mRc 7 v2 S206 (mC (f_X7_ask v2 r207 S206) (fun r208 S209 => if r205 = r208 then ((f_L_law_1276 xs L rec) v1 v2 v3 S209) else (some 0)))))))) else if (r9 &&& 63) = 29 then (mSc xs L (v3 + 1) (fun r210 => mSc xs L (v3 + 2) (fun r211 => mSc xs L (v3 + 3) (fun r212 => mRc 6 v1 S (mC (f_X6_shepherds v1 r210 r211 r212 S) (fun r213 S214 => mSc xs L (v3 + 1) (fun r215 => mSc xs L (v3 + 2) (fun r216 => mSc xs L (v3 + 3) (fun r217 => mRc 7 v2 S214 (mC (f_X7_shepherds v2 r215 r216 r217 S214) (fun r218 S219 => if r213 = r218 then ((f_L_law_1276 xs L rec) v1 v2 v3 S219) else (some 0)))))))))))) else if (r9 &&& 63) = 30 then (mSc xs L (v3 + 1) (fun r220 => mSc xs L (v3 + 2) (fun r221 => mSc xs L (v3 + 3) (fun r222 => mSc xs L (v3 + 4) (fun r223 => mSc xs L (v3 + 5) (fun r224 => mRc 6 v1 S (mC (f_X6_misheard v1 r220 r221 r222 r223 r224 S) (fun r225 S226 => mSc xs L (v3 + 1) (fun r227 => mSc xs L (v3 + 2) (fun r228 => mSc xs L (v3 + 3) (fun r229 => mSc xs L (v3 + 4) (fun r230 => mSc xs L (v3 + 5) (fun r231 => mRc 7 v2 S226 (mC (f_X7_misheard v2 r227 r228 r229 r230 r231 S226) (fun r232 S233 => if r225 = r232 then ((f_L_law_1276 xs L rec) v1 v2 v3 S233) else (some 0)))))))))))))))) else if (r9 &&& 63) = 31 then (mSc xs L (v3 + 1) (fun r234 => mSc xs L (v3 + 2) (fun r235 => mRc 6 v1 S (mC (f_X6_winters v1 r234 r235 S) (fun r236 S237 => mSc xs L (v3 + 1) (fun r238 => mSc xs L (v3 + 2) (fun r239 => mRc 7 v2 S237 (mC (f_X7_winters v2 r238 r239 S237) (fun r240 S241 => if r236 = r240 then ((f_L_law_1276 xs L rec) v1 v2 v3 S241) else (some 0)))))))))) else if (r9 &&& 63) = 32 then (mSc xs L (v3 + 1) (fun r242 => mRc 6 v1 S (mC (f_X6_part v1 r242 S) (fun r243 S244 => mSc xs L (v3 + 1) (fun r245 => mRc 7 v2 S244 (mC (f_X7_part v2 r245 S244) (fun r246 S247 => if (lg_cmp r243 r246) = 0 then ((f_L_law_1276 xs L rec) v1 v2 v3 S247) else (some 0)))))))) else if (r9 &&& 63) = 33 then (mSc xs L (v3 + 1) (fun r248 => mRc 6 v1 S (mC (f_X6_image v1 r248 S) (fun r249 S250 => mSc xs L (v3 + 1) (fun r251 => mRc 7 v2 S250 (mC (f_X7_image v2 r251 S250) (fun r252 S253 => if r249 = r252 then ((f_L_law_1276 xs L rec) v1 v2 v3 S253) else (some 0)))))))) else if (r9 &&& 63) = 34 then (mSc xs L (v3 + 1) (fun r254 => mRc 6 v1 S (mC (f_X6_from v1 r254 S) (fun r255 S256 => mSc xs L (v3 + 1) (fun r257 => mRc 7 v2 S256 (mC (f_X7_from v2 r257 S256) (fun r258 S259 => if r255 = r258 then ((f_L_law_1276 xs L rec) v1 v2 v3 S259) else (some 0)))))))) else if (r9 &&& 63) = 35 then (mSc xs L (v3 + 1) (fun r260 => mRc 6 v1 S (mC (f_X6_status v1 r260 S) (fun r261 S262 => mSc xs L (v3 + 1) (fun r263 => mRc 7 v2 S262 (mC (f_X7_status v2 r263 S262) (fun r264 S265 => if r261 = r264 then ((f_L_law_1276 xs L rec) v1 v2 v3 S265) else (some 0)))))))) else if (r9 &&& 63) = 36 then (mSc xs L (v3 + 1) (fun r266 => mRc 6 v1 S (mC (f_X6_count v1 r266 S) (fun r267 S268 => mSc xs L (v3 + 1) (fun r269 => mRc 7 v2 S268 (mC (f_X7_count v2 r269 S268) (fun r270 S271 => if r267 = r270 then ((f_L_law_1276 xs L rec) v1 v2 v3 S271) else (some 0)))))))) else if (r9 &&& 63) = 37 then (mRc 6 v1 S (mCp (f_X6_digest v1 S) (fun r272 => mRc 7 v2 S (mC (f_X7_digest v2 S) (fun r273 S274 => if (lg_cmp r272 r273) = 0 then ((f_L_law_1276 xs L rec) v1 v2 v3 S274) else (some 0)))))) else ((f_L_law_1276 xs L rec) v1 v2 v3 S)))) n
theorem f_L_law_18_s (xs : Nat → Int32) (L : Nat) (k1282 : mS → Option Int32) (n : Nat) (v1 : Int32) (v2 : Int32) (v3 : Int32) (S : mS) : f_L_law_18 xs L k1282 (n + 1) v1 v2 v3 S = if ((Int32.ofNat L) - 6) < v3 then (k1282 S) else (mSc xs L v3 (fun r9 => if (r9 &&& 63) = 0 then (mSc xs L (v3 + 1) (fun r10 => mRc 6 v1 S (mC (f_X6_fell v1 r10 S) (fun r11 S12 => mSc xs L (v3 + 1) (fun r13 => mRc 7 v2 S12 (mC (f_X7_fell v2 r13 S12) (fun r14 S15 => if r11 = r14 then ((f_L_law_1276 xs L (f_L_law_18 xs L k1282 n)) v1 v2 v3 S15) else (some 0)))))))) else if (r9 &&& 63) = 1 then (mSc xs L (v3 + 1) (fun r16 => mSc xs L (v3 + 2) (fun r17 => mRc 6 v1 S (mC (f_X6_whistle v1 r16 r17 S) (fun r18 S19 => mSc xs L (v3 + 1) (fun r20 => mSc xs L (v3 + 2) (fun r21 => mRc 7 v2 S19 (mC (f_X7_whistle v2 r20 r21 S19) (fun r22 S23 => if r18 = r22 then ((f_L_law_1276 xs L (f_L_law_18 xs L k1282 n)) v1 v2 v3 S23) else (some 0)))))))))) else if (r9 &&& 63) = 2 then (mSc xs L (v3 + 1) (fun r24 => mSc xs L (v3 + 2) (fun r25 => mRc 6 v1 S (mC (f_X6_sheep v1 r24 r25 S) (fun r26 S27 => mSc xs L (v3 + 1) (fun r28 => mSc xs L (v3 + 2) (fun r29 => mRc 7 v2 S27 (mC (f_X7_sheep v2 r28 r29 S27) (fun r30 S31 => if r26 = r30 then ((f_L_law_1276 xs L (f_L_law_18 xs L k1282 n)) v1 v2 v3 S31) else (some 0)))))))))) else if (r9 &&& 63) = 3 then (mSc xs L (v3 + 1) (fun r32 => mRc 6 v1 S (mC (f_X6_fold v1 r32 S) (fun r33 S34 => mSc xs L (v3 + 1) (fun r35 => mRc 7 v2 S34 (mC (f_X7_fold v2 r35 S34) (fun r36 S37 => if r33 = r36 then ((f_L_law_1276 xs L (f_L_law_18 xs L k1282 n)) v1 v2 v3 S37) else (some 0)))))))) else if (r9 &&& 63) = 4 then (mSc xs L (v3 + 1) (fun r38 => mRc 6 v1 S (mC (f_X6_type v1 r38 S) (fun r39 S40 => mSc xs L (v3 + 1) (fun r41 => mRc 7 v2 S40 (mC (f_X7_type v2 r41 S40) (fun r42 S43 => if r39 = r42 then ((f_L_law_1276 xs L (f_L_law_18 xs L k1282 n)) v1 v2 v3 S43) else (some 0)))))))) else if (r9 &&& 63) = 5 then (mRc 6 v1 S (mC (f_X6_clear v1 S) (fun r44 S45 => mRc 7 v2 S45 (mC (f_X7_clear v2 S45) (fun r46 S47 => if r44 = r46 then ((f_L_law_1276 xs L (f_L_law_18 xs L k1282 n)) v1 v2 v3 S47) else (some 0)))))) else if (r9 &&& 63) = 6 then (mRc 6 v1 S (mC (f_X6_read v1 S) (fun r48 S49 => mRc 7 v2 S49 (mC (f_X7_read v2 S49) (fun r50 S51 => if r48 = r50 then ((f_L_law_1276 xs L (f_L_law_18 xs L k1282 n)) v1 v2 v3 S51) else (some 0)))))) else if (r9 &&& 63) = 7 then (mSc xs L (v3 + 1) (fun r52 => mSc xs L (v3 + 2) (fun r53 => mRc 6 v1 S (mC (f_X6_calls v1 r52 r53 S) (fun r54 S55 => mSc xs L (v3 + 1) (fun r56 => mSc xs L (v3 + 2) (fun r57 => mRc 7 v2 S55 (mC (f_X7_calls v2 r56 r57 S55) (fun r58 S59 => if r54 = r58 then ((f_L_law_1276 xs L (f_L_law_18 xs L k1282 n)) v1 v2 v3 S59) else (some 0)))))))))) else if (r9 &&& 63) = 8 then (mSc xs L (v3 + 1) (fun r60 => mRc 6 v1 S (mC (f_X6_steps v1 r60 S) (fun r61 S62 => mSc xs L (v3 + 1) (fun r63 => mRc 7 v2 S62 (mC (f_X7_steps v2 r63 S62) (fun r64 S65 => if r61 = r64 then ((f_L_law_1276 xs L (f_L_law_18 xs L k1282 n)) v1 v2 v3 S65) else (some 0)))))))) else if (r9 &&& 63) = 9 then (mRc 6 v1 S (mC (f_X6_undo v1 S) (fun r66 S67 => mRc 7 v2 S67 (mC (f_X7_undo v2 S67) (fun r68 S69 => if r66 = r68 then ((f_L_law_1276 xs L (f_L_law_18 xs L k1282 n)) v1 v2 v3 S69) else (some 0)))))) else if (r9 &&& 63) = 10 then (mSc xs L (v3 + 1) (fun r70 => mSc xs L (v3 + 2) (fun r71 => mRc 6 v1 S (mC (f_X6_of v1 r70 r71 S) (fun r72 S73 => mSc xs L (v3 + 1) (fun r74 => mSc xs L (v3 + 2) (fun r75 => mRc 7 v2 S73 (mC (f_X7_of v2 r74 r75 S73) (fun r76 S77 => if r72 = r76 then ((f_L_law_1276 xs L (f_L_law_18 xs L k1282 n)) v1 v2 v3 S77) else (some 0)))))))))) else if (r9 &&& 63) = 11 then (mSc xs L (v3 + 1) (fun r78 => mSc xs L (v3 + 2) (fun r79 => mRc 6 v1 S (mC (f_X6_about v1 r78 r79 S) (fun r80 S81 => mSc xs L (v3 + 1) (fun r82 => mSc xs L (v3 + 2) (fun r83 => mRc 7 v2 S81 (mC (f_X7_about v2 r82 r83 S81) (fun r84 S85 => if r80 = r84 then ((f_L_law_1276 xs L (f_L_law_18 xs L k1282 n)) v1 v2 v3 S85) else (some 0)))))))))) else if (r9 &&& 63) = 12 then (mSc xs L (v3 + 1) (fun r86 => mSc xs L (v3 + 2) (fun r87 => mRc 6 v1 S (mC (f_X6_goes v1 r86 r87 S) (fun r88 S89 => mSc xs L (v3 + 1) (fun r90 => mSc xs L (v3 + 2) (fun r91 => mRc 7 v2 S89 (mC (f_X7_goes v2 r90 r91 S89) (fun r92 S93 => if r88 = r92 then ((f_L_law_1276 xs L (f_L_law_18 xs L k1282 n)) v1 v2 v3 S93) else (some 0)))))))))) else if (r9 &&& 63) = 13 then (mSc xs L (v3 + 1) (fun r94 => mSc xs L (v3 + 2) (fun r95 => mSc xs L (v3 + 3) (fun r96 => mRc 6 v1 S (mC (f_X6_gives v1 r94 r95 r96 S) (fun r97 S98 => mSc xs L (v3 + 1) (fun r99 => mSc xs L (v3 + 2) (fun r100 => mSc xs L (v3 + 3) (fun r101 => mRc 7 v2 S98 (mC (f_X7_gives v2 r99 r100 r101 S98) (fun r102 S103 => if r97 = r102 then ((f_L_law_1276 xs L (f_L_law_18 xs L k1282 n)) v1 v2 v3 S103) else (some 0)))))))))))) else if (r9 &&& 63) = 14 then (mRc 6 v1 S (mCp (f_X6_folded v1 S) (fun r104 => mRc 7 v2 S (mCp (f_X7_folded v2 S) (fun r105 => if r104 = r105 then ((f_L_law_1276 xs L (f_L_law_18 xs L k1282 n)) v1 v2 v3 S) else (some 0)))))) else if (r9 &&& 63) = 15 then (mSc xs L (v3 + 1) (fun r106 => mSc xs L (v3 + 2) (fun r107 => mSc xs L (v3 + 3) (fun r108 => mSc xs L (v3 + 4) (fun r109 => mRc 6 v1 S (mC (f_X6_drive v1 r106 r107 r108 r109 S) (fun r110 S111 => mSc xs L (v3 + 1) (fun r112 => mSc xs L (v3 + 2) (fun r113 => mSc xs L (v3 + 3) (fun r114 => mSc xs L (v3 + 4) (fun r115 => mRc 7 v2 S111 (mC (f_X7_drive v2 r112 r113 r114 r115 S111) (fun r116 S117 => if r110 = r116 then ((f_L_law_1276 xs L (f_L_law_18 xs L k1282 n)) v1 v2 v3 S117) else (some 0)))))))))))))) else if (r9 &&& 63) = 16 then (mSc xs L (v3 + 1) (fun r118 => mSc xs L (v3 + 2) (fun r119 => mRc 6 v1 S (mC (f_X6_near v1 r118 r119 S) (fun r120 S121 => mSc xs L (v3 + 1) (fun r122 => mSc xs L (v3 + 2) (fun r123 => mRc 7 v2 S121 (mC (f_X7_near v2 r122 r123 S121) (fun r124 S125 => if r120 = r124 then ((f_L_law_1276 xs L (f_L_law_18 xs L k1282 n)) v1 v2 v3 S125) else (some 0)))))))))) else if (r9 &&& 63) = 17 then (mSc xs L (v3 + 1) (fun r126 => mSc xs L (v3 + 2) (fun r127 => mRc 6 v1 S (mC (f_X6_gather v1 r126 r127 S) (fun r128 S129 => mSc xs L (v3 + 1) (fun r130 => mSc xs L (v3 + 2) (fun r131 => mRc 7 v2 S129 (mC (f_X7_gather v2 r130 r131 S129) (fun r132 S133 => if r128 = r132 then ((f_L_law_1276 xs L (f_L_law_18 xs L k1282 n)) v1 v2 v3 S133) else (some 0)))))))))) else if (r9 &&& 63) = 18 then (mSc xs L (v3 + 1) (fun r134 => mSc xs L (v3 + 2) (fun r135 => mRc 6 v1 S (mC (f_X6_seen v1 r134 r135 S) (fun r136 S137 => mSc xs L (v3 + 1) (fun r138 => mSc xs L (v3 + 2) (fun r139 => mRc 7 v2 S137 (mC (f_X7_seen v2 r138 r139 S137) (fun r140 S141 => if r136 = r140 then ((f_L_law_1276 xs L (f_L_law_18 xs L k1282 n)) v1 v2 v3 S141) else (some 0)))))))))) else if (r9 &&& 63) = 19 then (mSc xs L (v3 + 1) (fun r142 => mRc 6 v1 S (mC (f_X6_which v1 r142 S) (fun r143 S144 => mSc xs L (v3 + 1) (fun r145 => mRc 7 v2 S144 (mC (f_X7_which v2 r145 S144) (fun r146 S147 => if r143 = r146 then ((f_L_law_1276 xs L (f_L_law_18 xs L k1282 n)) v1 v2 v3 S147) else (some 0)))))))) else if (r9 &&& 63) = 20 then (mSc xs L (v3 + 1) (fun r148 => mRc 6 v1 S (mC (f_X6_whose v1 r148 S) (fun r149 S150 => mSc xs L (v3 + 1) (fun r151 => mRc 7 v2 S150 (mC (f_X7_whose v2 r151 S150) (fun r152 S153 => if r149 = r152 then ((f_L_law_1276 xs L (f_L_law_18 xs L k1282 n)) v1 v2 v3 S153) else (some 0)))))))) else if (r9 &&& 63) = 21 then (mSc xs L (v3 + 1) (fun r154 => mRc 6 v1 S (mC (f_X6_tell v1 r154 S) (fun r155 S156 => mSc xs L (v3 + 1) (fun r157 => mRc 7 v2 S156 (mC (f_X7_tell v2 r157 S156) (fun r158 S159 => if r155 = r158 then ((f_L_law_1276 xs L (f_L_law_18 xs L k1282 n)) v1 v2 v3 S159) else (some 0)))))))) else if (r9 &&& 63) = 22 then (mSc xs L (v3 + 1) (fun r160 => mSc xs L (v3 + 2) (fun r161 => mSc xs L (v3 + 3) (fun r162 => mRc 6 v1 S (mC (f_X6_note v1 r160 r161 r162 S) (fun r163 S164 => mSc xs L (v3 + 1) (fun r165 => mSc xs L (v3 + 2) (fun r166 => mSc xs L (v3 + 3) (fun r167 => mRc 7 v2 S164 (mC (f_X7_note v2 r165 r166 r167 S164) (fun r168 S169 => if r163 = r168 then ((f_L_law_1276 xs L (f_L_law_18 xs L k1282 n)) v1 v2 v3 S169) else (some 0)))))))))))) else if (r9 &&& 63) = 23 then (mSc xs L (v3 + 1) (fun r170 => mSc xs L (v3 + 2) (fun r171 => mSc xs L (v3 + 3) (fun r172 => mRc 6 v1 S (mC (f_X6_mark v1 r170 r171 r172 S) (fun r173 S174 => mSc xs L (v3 + 1) (fun r175 => mSc xs L (v3 + 2) (fun r176 => mSc xs L (v3 + 3) (fun r177 => mRc 7 v2 S174 (mC (f_X7_mark v2 r175 r176 r177 S174) (fun r178 S179 => if r173 = r178 then ((f_L_law_1276 xs L (f_L_law_18 xs L k1282 n)) v1 v2 v3 S179) else (some 0)))))))))))) else if (r9 &&& 63) = 24 then (mSc xs L (v3 + 1) (fun r180 => mRc 6 v1 S (mC (f_X6_forget v1 r180 S) (fun r181 S182 => mSc xs L (v3 + 1) (fun r183 => mRc 7 v2 S182 (mC (f_X7_forget v2 r183 S182) (fun r184 S185 => if r181 = r184 then ((f_L_law_1276 xs L (f_L_law_18 xs L k1282 n)) v1 v2 v3 S185) else (some 0)))))))) else if (r9 &&& 63) = 25 then (mSc xs L (v3 + 1) (fun r186 => mRc 6 v1 S (mC (f_X6_is v1 r186 S) (fun r187 S188 => mSc xs L (v3 + 1) (fun r189 => mRc 7 v2 S188 (mC (f_X7_is v2 r189 S188) (fun r190 S191 => if r187 = r190 then ((f_L_law_1276 xs L (f_L_law_18 xs L k1282 n)) v1 v2 v3 S191) else (some 0)))))))) else if (r9 &&& 63) = 26 then (mSc xs L (v3 + 1) (fun r192 => mRc 6 v1 S (mC (f_X6_look v1 r192 S) (fun r193 S194 => mSc xs L (v3 + 1) (fun r195 => mRc 7 v2 S194 (mC (f_X7_look v2 r195 S194) (fun r196 S197 => if r193 = r196 then ((f_L_law_1276 xs L (f_L_law_18 xs L k1282 n)) v1 v2 v3 S197) else (some 0)))))))) else if (r9 &&& 63) = 27 then (mSc xs L (v3 + 1) (fun r198 => mRc 6 v1 S (mC (f_X6_kinds v1 r198 S) (fun r199 S200 => mSc xs L (v3 + 1) (fun r201 => mRc 7 v2 S200 (mC (f_X7_kinds v2 r201 S200) (fun r202 S203 => if r199 = r202 then ((f_L_law_1276 xs L (f_L_law_18 xs L k1282 n)) v1 v2 v3 S203) else (some 0)))))))) else if (r9 &&& 63) = 28 then (mSc xs L (v3 + 1) (fun r204 => mRc 6 v1 S (mC (f_X6_ask v1 r204 S) (fun r205 S206 => mSc xs L (v3 + 1) (fun r207 => mRc 7 v2 S206 (mC (f_X7_ask v2 r207 S206) (fun r208 S209 => if r205 = r208 then ((f_L_law_1276 xs L (f_L_law_18 xs L k1282 n)) v1 v2 v3 S209) else (some 0)))))))) else if (r9 &&& 63) = 29 then (mSc xs L (v3 + 1) (fun r210 => mSc xs L (v3 + 2) (fun r211 => mSc xs L (v3 + 3) (fun r212 => mRc 6 v1 S (mC (f_X6_shepherds v1 r210 r211 r212 S) (fun r213 S214 => mSc xs L (v3 + 1) (fun r215 => mSc xs L (v3 + 2) (fun r216 => mSc xs L (v3 + 3) (fun r217 => mRc 7 v2 S214 (mC (f_X7_shepherds v2 r215 r216 r217 S214) (fun r218 S219 => if r213 = r218 then ((f_L_law_1276 xs L (f_L_law_18 xs L k1282 n)) v1 v2 v3 S219) else (some 0)))))))))))) else if (r9 &&& 63) = 30 then (mSc xs L (v3 + 1) (fun r220 => mSc xs L (v3 + 2) (fun r221 => mSc xs L (v3 + 3) (fun r222 => mSc xs L (v3 + 4) (fun r223 => mSc xs L (v3 + 5) (fun r224 => mRc 6 v1 S (mC (f_X6_misheard v1 r220 r221 r222 r223 r224 S) (fun r225 S226 => mSc xs L (v3 + 1) (fun r227 => mSc xs L (v3 + 2) (fun r228 => mSc xs L (v3 + 3) (fun r229 => mSc xs L (v3 + 4) (fun r230 => mSc xs L (v3 + 5) (fun r231 => mRc 7 v2 S226 (mC (f_X7_misheard v2 r227 r228 r229 r230 r231 S226) (fun r232 S233 => if r225 = r232 then ((f_L_law_1276 xs L (f_L_law_18 xs L k1282 n)) v1 v2 v3 S233) else (some 0)))))))))))))))) else if (r9 &&& 63) = 31 then (mSc xs L (v3 + 1) (fun r234 => mSc xs L (v3 + 2) (fun r235 => mRc 6 v1 S (mC (f_X6_winters v1 r234 r235 S) (fun r236 S237 => mSc xs L (v3 + 1) (fun r238 => mSc xs L (v3 + 2) (fun r239 => mRc 7 v2 S237 (mC (f_X7_winters v2 r238 r239 S237) (fun r240 S241 => if r236 = r240 then ((f_L_law_1276 xs L (f_L_law_18 xs L k1282 n)) v1 v2 v3 S241) else (some 0)))))))))) else if (r9 &&& 63) = 32 then (mSc xs L (v3 + 1) (fun r242 => mRc 6 v1 S (mC (f_X6_part v1 r242 S) (fun r243 S244 => mSc xs L (v3 + 1) (fun r245 => mRc 7 v2 S244 (mC (f_X7_part v2 r245 S244) (fun r246 S247 => if (lg_cmp r243 r246) = 0 then ((f_L_law_1276 xs L (f_L_law_18 xs L k1282 n)) v1 v2 v3 S247) else (some 0)))))))) else if (r9 &&& 63) = 33 then (mSc xs L (v3 + 1) (fun r248 => mRc 6 v1 S (mC (f_X6_image v1 r248 S) (fun r249 S250 => mSc xs L (v3 + 1) (fun r251 => mRc 7 v2 S250 (mC (f_X7_image v2 r251 S250) (fun r252 S253 => if r249 = r252 then ((f_L_law_1276 xs L (f_L_law_18 xs L k1282 n)) v1 v2 v3 S253) else (some 0)))))))) else if (r9 &&& 63) = 34 then (mSc xs L (v3 + 1) (fun r254 => mRc 6 v1 S (mC (f_X6_from v1 r254 S) (fun r255 S256 => mSc xs L (v3 + 1) (fun r257 => mRc 7 v2 S256 (mC (f_X7_from v2 r257 S256) (fun r258 S259 => if r255 = r258 then ((f_L_law_1276 xs L (f_L_law_18 xs L k1282 n)) v1 v2 v3 S259) else (some 0)))))))) else if (r9 &&& 63) = 35 then (mSc xs L (v3 + 1) (fun r260 => mRc 6 v1 S (mC (f_X6_status v1 r260 S) (fun r261 S262 => mSc xs L (v3 + 1) (fun r263 => mRc 7 v2 S262 (mC (f_X7_status v2 r263 S262) (fun r264 S265 => if r261 = r264 then ((f_L_law_1276 xs L (f_L_law_18 xs L k1282 n)) v1 v2 v3 S265) else (some 0)))))))) else if (r9 &&& 63) = 36 then (mSc xs L (v3 + 1) (fun r266 => mRc 6 v1 S (mC (f_X6_count v1 r266 S) (fun r267 S268 => mSc xs L (v3 + 1) (fun r269 => mRc 7 v2 S268 (mC (f_X7_count v2 r269 S268) (fun r270 S271 => if r267 = r270 then ((f_L_law_1276 xs L (f_L_law_18 xs L k1282 n)) v1 v2 v3 S271) else (some 0)))))))) else if (r9 &&& 63) = 37 then (mRc 6 v1 S (mCp (f_X6_digest v1 S) (fun r272 => mRc 7 v2 S (mC (f_X7_digest v2 S) (fun r273 S274 => if (lg_cmp r272 r273) = 0 then ((f_L_law_1276 xs L (f_L_law_18 xs L k1282 n)) v1 v2 v3 S274) else (some 0)))))) else ((f_L_law_1276 xs L (f_L_law_18 xs L k1282 n)) v1 v2 v3 S))) := rfl
noncomputable def f_L_law_1282 (xs : Nat → Int32) (L : Nat) (S : mS) : Option Int32 := some 1
noncomputable def f_law (xs : Nat → Int32) (L : Nat) (S : mS) : Option Int32 := mNw 6 S (fun r1 S2 => mCv (f_X6_init r1 S2) (fun S4 => mNw 7 S4 (fun r5 S6 => mCv (f_X7_init r5 S6) (fun S8 => (f_L_law_18 xs L (f_L_law_1282 xs L) 1000) r1 r5 0 S8))))
set_option maxRecDepth 100000 in
set_option maxHeartbeats 8000000 in
theorem bl_L_law_1276 {p : Program} {l : Launch} {e : Env} {s : State} {m : MethodId} {below : List Frame} {meth : Method} {c : Code} {E : mE} {b L : Nat} {xs : Nat → Int32} (C : mCx p s m #[Value.ref b] meth c code 4 RL ret E 0) (hX : va_X b L xs s s.heap) (hbl : b < s.heap.size) (hEb : E.b = s.heap.size) {k18 : Int32 → Int32 → Int32 → mS → Option Int32} (hk18 : ∀ (v1 : Int32) (v2 : Int32) (v3 : Int32) (S : mS) (H : Heap) (locs : List Loc) (ls : Array Slot), k18 v1 v2 v3 S = some 1 → mIv s E S H locs 100 → lv_has ls 4 [(0, .ref b), (1, .ref (mA E.b v1)), (2, .ref (mA E.b v2)), (3, .int v3)] → W p l e room_1 s m #[Value.ref b] below meth c H locs 100 3182 (lw_Z below #[Value.ref b] s) (F0 m 18 ls [])) : ∀  (v1 : Int32) (v2 : Int32) (v3 : Int32) (S : mS) (H : Heap) (locs : List Loc) (ls : Array Slot), f_L_law_1276 xs L k18 v1 v2 v3 S = some 1 → mIv s E S H locs 100 → lv_has ls 4 [(0, .ref b), (1, .ref (mA E.b v1)), (2, .ref (mA E.b v2)), (3, .int v3)] → W p l e room_1 s m #[Value.ref b] below meth c H locs 100 3182 (lw_Z below #[Value.ref b] s) (F0 m 1276 ls []) := by
  have hx := C.1
  have hb := C.2.1
  intro v1 v2 v3 S H locs ls hF hI hl
  refine lv_iinc (v := v3 + 6) (lv' := [(3, .int (v3 + 6)), (0, .ref b), (1, .ref (mA E.b v1)), (2, .ref (mA E.b v2))]) hx hb dL_law_1276 hl (k := 3) rfl rfl (by decide) rfl (fun ls hl => ?_)
  refine lv_goto (tgt := 18) hx hb dL_law_1279 (by decide) ?_
  exact hk18 v1 v2 (v3 + 6) S _ _ _ hF hI (lv_sub hl [1, 2, 3, 0] rfl)
set_option maxRecDepth 100000 in
set_option maxHeartbeats 8000000 in
theorem bl_L_law_18 {p : Program} {l : Launch} {e : Env} {s : State} {m : MethodId} {below : List Frame} {meth : Method} {c : Code} {E : mE} {b L : Nat} {xs : Nat → Int32} (C : mCx p s m #[Value.ref b] meth c code 4 RL ret E 0) (hX : va_X b L xs s s.heap) (hbl : b < s.heap.size) (hEb : E.b = s.heap.size) {k1282 : mS → Option Int32} (hk1282 : ∀ (S : mS) (H : Heap) (locs : List Loc) (ls : Array Slot), k1282 S = some 1 → mIv s E S H locs 100 → lv_has ls 4 [(0, .ref b)] → W p l e room_1 s m #[Value.ref b] below meth c H locs 100 3182 (lw_Z below #[Value.ref b] s) (F0 m 1282 ls [])) : ∀ (n : Nat)  (v1 : Int32) (v2 : Int32) (v3 : Int32) (S : mS) (H : Heap) (locs : List Loc) (ls : Array Slot), f_L_law_18 xs L k1282 n v1 v2 v3 S = some 1 → mIv s E S H locs 100 → lv_has ls 4 [(0, .ref b), (1, .ref (mA E.b v1)), (2, .ref (mA E.b v2)), (3, .int v3)] → W p l e room_1 s m #[Value.ref b] below meth c H locs 100 3182 (lw_Z below #[Value.ref b] s) (F0 m 18 ls []) := by
  have hx := C.1
  have hb := C.2.1
  intro n
  induction n with
  | zero =>
    intro v1 v2 v3 S H locs ls hF
    exact nomatch (show (none : Option Int32) = some 1 from hF)
  | succ n ih =>
    intro v1 v2 v3 S H locs ls hF hI hl
    have hF := (f_L_law_18_s xs L k1282 n v1 v2 v3 S).symm.trans hF
    refine lv_iload_n hx hb dL_law_18 rfl (lv_at hl 3 rfl) ?_
    refine lv_aload_n hx hb dL_law_19 rfl (lv_at hl 0 rfl) ?_
    refine m_slen C hX hbl hEb hI dL_law_20 ?_
    refine lv_bipush (v := 6) hx hb dL_law_21 (by decide) ?_
    refine lv_isub hx hb dL_law_23 ?_
    refine m_icmp_gt C (tgt := 1282) hF dL_law_24 (by decide) (fun hF => ?_) (fun hF => ?_)
    · exact hk1282 S _ _ _ hF hI (lv_sub hl [0] rfl)
    · refine lv_aload_n hx hb dL_law_27 rfl (lv_at hl 0 rfl) ?_
      refine lv_iload_n hx hb dL_law_28 rfl (lv_at hl 3 rfl) ?_
      refine m_sld C hX hbl hEb hI hF dL_law_29 (fun r9 hF => ?_)
      refine lv_bipush (v := 63) hx hb dL_law_30 (by decide) ?_
      refine lv_iand hx hb dL_law_32 ?_
      refine m_if hF (fun c0 hF => ?_) (fun c0 hF => ?_)
      · refine m_swIn C dL_law_33 c0 0 rfl (by decide) (by decide) rfl (tgt := 200) (by decide) ?_
        refine lv_aload_n hx hb dL_law_200 rfl (lv_at hl 1 rfl) ?_
        refine lv_aload_n hx hb dL_law_201 rfl (lv_at hl 0 rfl) ?_
        refine lv_iload_n hx hb dL_law_202 rfl (lv_at hl 3 rfl) ?_
        refine lv_iconst (v := 1) hx hb dL_law_203 (by decide) ?_
        refine lv_iadd hx hb dL_law_204 ?_
        refine m_sld C hX hbl hEb hI hF dL_law_205 (fun r10 hF => ?_)
        refine m_callVi C cd_L_13 ⟨rfl, by decide⟩ hl.1 hI hF (fun _ h => ok_X6_fell h) rfl rfl ⟨rfl, rfl, Nat.le_of_ble_eq_true rfl, Nat.le_of_ble_eq_true rfl⟩ ⟨Nat.le_of_ble_eq_true rfl, Nat.le_of_ble_eq_true rfl⟩ (Nat.le_of_ble_eq_true rfl) dL_law_206 (fun r11 S12 H locs hF hI => ?_)
        refine lv_aload_n hx hb dL_law_209 rfl (lv_at hl 2 rfl) ?_
        refine lv_aload_n hx hb dL_law_210 rfl (lv_at hl 0 rfl) ?_
        refine lv_iload_n hx hb dL_law_211 rfl (lv_at hl 3 rfl) ?_
        refine lv_iconst (v := 1) hx hb dL_law_212 (by decide) ?_
        refine lv_iadd hx hb dL_law_213 ?_
        refine m_sld C hX hbl hEb hI hF dL_law_214 (fun r13 hF => ?_)
        refine m_callVi C cd_L_17 ⟨rfl, by decide⟩ hl.1 hI hF (fun _ h => ok_X7_fell h) rfl rfl ⟨rfl, rfl, Nat.le_of_ble_eq_true rfl, Nat.le_of_ble_eq_true rfl⟩ ⟨Nat.le_of_ble_eq_true rfl, Nat.le_of_ble_eq_true rfl⟩ (Nat.le_of_ble_eq_true rfl) dL_law_215 (fun r14 S15 H locs hF hI => ?_)
        refine m_icmp_eq C (tgt := 1276) hF dL_law_218 (by decide) (fun hF => ?_) (fun hF => ?_)
        · exact (bl_L_law_1276 C hX hbl hEb (k18 := (f_L_law_18 xs L k1282 n)) ih) v1 v2 v3 S15 _ _ _ hF hI (lv_sub hl [0, 1, 2, 3] rfl)
        · refine lv_iconst (v := 0) hx hb dL_law_221 (by decide) ?_
          exact m_lawret C hEb hI hF dL_law_222
      refine m_if hF (fun c1 hF => ?_) (fun c1 hF => ?_)
      · refine m_swIn C dL_law_33 c1 1 rfl (by decide) (by decide) rfl (tgt := 223) (by decide) ?_
        refine lv_aload_n hx hb dL_law_223 rfl (lv_at hl 1 rfl) ?_
        refine lv_aload_n hx hb dL_law_224 rfl (lv_at hl 0 rfl) ?_
        refine lv_iload_n hx hb dL_law_225 rfl (lv_at hl 3 rfl) ?_
        refine lv_iconst (v := 1) hx hb dL_law_226 (by decide) ?_
        refine lv_iadd hx hb dL_law_227 ?_
        refine m_sld C hX hbl hEb hI hF dL_law_228 (fun r16 hF => ?_)
        refine lv_aload_n hx hb dL_law_229 rfl (lv_at hl 0 rfl) ?_
        refine lv_iload_n hx hb dL_law_230 rfl (lv_at hl 3 rfl) ?_
        refine lv_iconst (v := 2) hx hb dL_law_231 (by decide) ?_
        refine lv_iadd hx hb dL_law_232 ?_
        refine m_sld C hX hbl hEb hI hF dL_law_233 (fun r17 hF => ?_)
        refine m_callVi C cd_L_18 ⟨rfl, by decide⟩ hl.1 hI hF (fun _ h => ok_X6_whistle h) rfl rfl ⟨rfl, rfl, Nat.le_of_ble_eq_true rfl, Nat.le_of_ble_eq_true rfl⟩ ⟨Nat.le_of_ble_eq_true rfl, Nat.le_of_ble_eq_true rfl⟩ (Nat.le_of_ble_eq_true rfl) dL_law_234 (fun r18 S19 H locs hF hI => ?_)
        refine lv_aload_n hx hb dL_law_237 rfl (lv_at hl 2 rfl) ?_
        refine lv_aload_n hx hb dL_law_238 rfl (lv_at hl 0 rfl) ?_
        refine lv_iload_n hx hb dL_law_239 rfl (lv_at hl 3 rfl) ?_
        refine lv_iconst (v := 1) hx hb dL_law_240 (by decide) ?_
        refine lv_iadd hx hb dL_law_241 ?_
        refine m_sld C hX hbl hEb hI hF dL_law_242 (fun r20 hF => ?_)
        refine lv_aload_n hx hb dL_law_243 rfl (lv_at hl 0 rfl) ?_
        refine lv_iload_n hx hb dL_law_244 rfl (lv_at hl 3 rfl) ?_
        refine lv_iconst (v := 2) hx hb dL_law_245 (by decide) ?_
        refine lv_iadd hx hb dL_law_246 ?_
        refine m_sld C hX hbl hEb hI hF dL_law_247 (fun r21 hF => ?_)
        refine m_callVi C cd_L_22 ⟨rfl, by decide⟩ hl.1 hI hF (fun _ h => ok_X7_whistle h) rfl rfl ⟨rfl, rfl, Nat.le_of_ble_eq_true rfl, Nat.le_of_ble_eq_true rfl⟩ ⟨Nat.le_of_ble_eq_true rfl, Nat.le_of_ble_eq_true rfl⟩ (Nat.le_of_ble_eq_true rfl) dL_law_248 (fun r22 S23 H locs hF hI => ?_)
        refine m_icmp_eq C (tgt := 1276) hF dL_law_251 (by decide) (fun hF => ?_) (fun hF => ?_)
        · exact (bl_L_law_1276 C hX hbl hEb (k18 := (f_L_law_18 xs L k1282 n)) ih) v1 v2 v3 S23 _ _ _ hF hI (lv_sub hl [0, 1, 2, 3] rfl)
        · refine lv_iconst (v := 0) hx hb dL_law_254 (by decide) ?_
          exact m_lawret C hEb hI hF dL_law_255
      refine m_if hF (fun c2 hF => ?_) (fun c2 hF => ?_)
      · refine m_swIn C dL_law_33 c2 2 rfl (by decide) (by decide) rfl (tgt := 256) (by decide) ?_
        refine lv_aload_n hx hb dL_law_256 rfl (lv_at hl 1 rfl) ?_
        refine lv_aload_n hx hb dL_law_257 rfl (lv_at hl 0 rfl) ?_
        refine lv_iload_n hx hb dL_law_258 rfl (lv_at hl 3 rfl) ?_
        refine lv_iconst (v := 1) hx hb dL_law_259 (by decide) ?_
        refine lv_iadd hx hb dL_law_260 ?_
        refine m_sld C hX hbl hEb hI hF dL_law_261 (fun r24 hF => ?_)
        refine lv_aload_n hx hb dL_law_262 rfl (lv_at hl 0 rfl) ?_
        refine lv_iload_n hx hb dL_law_263 rfl (lv_at hl 3 rfl) ?_
        refine lv_iconst (v := 2) hx hb dL_law_264 (by decide) ?_
        refine lv_iadd hx hb dL_law_265 ?_
        refine m_sld C hX hbl hEb hI hF dL_law_266 (fun r25 hF => ?_)
        refine m_callVi C cd_L_23 ⟨rfl, by decide⟩ hl.1 hI hF (fun _ h => ok_X6_sheep h) rfl rfl ⟨rfl, rfl, Nat.le_of_ble_eq_true rfl, Nat.le_of_ble_eq_true rfl⟩ ⟨Nat.le_of_ble_eq_true rfl, Nat.le_of_ble_eq_true rfl⟩ (Nat.le_of_ble_eq_true rfl) dL_law_267 (fun r26 S27 H locs hF hI => ?_)
        refine lv_aload_n hx hb dL_law_270 rfl (lv_at hl 2 rfl) ?_
        refine lv_aload_n hx hb dL_law_271 rfl (lv_at hl 0 rfl) ?_
        refine lv_iload_n hx hb dL_law_272 rfl (lv_at hl 3 rfl) ?_
        refine lv_iconst (v := 1) hx hb dL_law_273 (by decide) ?_
        refine lv_iadd hx hb dL_law_274 ?_
        refine m_sld C hX hbl hEb hI hF dL_law_275 (fun r28 hF => ?_)
        refine lv_aload_n hx hb dL_law_276 rfl (lv_at hl 0 rfl) ?_
        refine lv_iload_n hx hb dL_law_277 rfl (lv_at hl 3 rfl) ?_
        refine lv_iconst (v := 2) hx hb dL_law_278 (by decide) ?_
        refine lv_iadd hx hb dL_law_279 ?_
        refine m_sld C hX hbl hEb hI hF dL_law_280 (fun r29 hF => ?_)
        refine m_callVi C cd_L_26 ⟨rfl, by decide⟩ hl.1 hI hF (fun _ h => ok_X7_sheep h) rfl rfl ⟨rfl, rfl, Nat.le_of_ble_eq_true rfl, Nat.le_of_ble_eq_true rfl⟩ ⟨Nat.le_of_ble_eq_true rfl, Nat.le_of_ble_eq_true rfl⟩ (Nat.le_of_ble_eq_true rfl) dL_law_281 (fun r30 S31 H locs hF hI => ?_)
        refine m_icmp_eq C (tgt := 1276) hF dL_law_284 (by decide) (fun hF => ?_) (fun hF => ?_)
        · exact (bl_L_law_1276 C hX hbl hEb (k18 := (f_L_law_18 xs L k1282 n)) ih) v1 v2 v3 S31 _ _ _ hF hI (lv_sub hl [0, 1, 2, 3] rfl)
        · refine lv_iconst (v := 0) hx hb dL_law_287 (by decide) ?_
          exact m_lawret C hEb hI hF dL_law_288
      refine m_if hF (fun c3 hF => ?_) (fun c3 hF => ?_)
      · refine m_swIn C dL_law_33 c3 3 rfl (by decide) (by decide) rfl (tgt := 289) (by decide) ?_
        refine lv_aload_n hx hb dL_law_289 rfl (lv_at hl 1 rfl) ?_
        refine lv_aload_n hx hb dL_law_290 rfl (lv_at hl 0 rfl) ?_
        refine lv_iload_n hx hb dL_law_291 rfl (lv_at hl 3 rfl) ?_
        refine lv_iconst (v := 1) hx hb dL_law_292 (by decide) ?_
        refine lv_iadd hx hb dL_law_293 ?_
        refine m_sld C hX hbl hEb hI hF dL_law_294 (fun r32 hF => ?_)
        refine m_callVi C cd_L_27 ⟨rfl, by decide⟩ hl.1 hI hF (fun _ h => ok_X6_fold h) rfl rfl ⟨rfl, rfl, Nat.le_of_ble_eq_true rfl, Nat.le_of_ble_eq_true rfl⟩ ⟨Nat.le_of_ble_eq_true rfl, Nat.le_of_ble_eq_true rfl⟩ (Nat.le_of_ble_eq_true rfl) dL_law_295 (fun r33 S34 H locs hF hI => ?_)
        refine lv_aload_n hx hb dL_law_298 rfl (lv_at hl 2 rfl) ?_
        refine lv_aload_n hx hb dL_law_299 rfl (lv_at hl 0 rfl) ?_
        refine lv_iload_n hx hb dL_law_300 rfl (lv_at hl 3 rfl) ?_
        refine lv_iconst (v := 1) hx hb dL_law_301 (by decide) ?_
        refine lv_iadd hx hb dL_law_302 ?_
        refine m_sld C hX hbl hEb hI hF dL_law_303 (fun r35 hF => ?_)
        refine m_callVi C cd_L_30 ⟨rfl, by decide⟩ hl.1 hI hF (fun _ h => ok_X7_fold h) rfl rfl ⟨rfl, rfl, Nat.le_of_ble_eq_true rfl, Nat.le_of_ble_eq_true rfl⟩ ⟨Nat.le_of_ble_eq_true rfl, Nat.le_of_ble_eq_true rfl⟩ (Nat.le_of_ble_eq_true rfl) dL_law_304 (fun r36 S37 H locs hF hI => ?_)
        refine m_icmp_eq C (tgt := 1276) hF dL_law_307 (by decide) (fun hF => ?_) (fun hF => ?_)
        · exact (bl_L_law_1276 C hX hbl hEb (k18 := (f_L_law_18 xs L k1282 n)) ih) v1 v2 v3 S37 _ _ _ hF hI (lv_sub hl [0, 1, 2, 3] rfl)
        · refine lv_iconst (v := 0) hx hb dL_law_310 (by decide) ?_
          exact m_lawret C hEb hI hF dL_law_311
      refine m_if hF (fun c4 hF => ?_) (fun c4 hF => ?_)
      · refine m_swIn C dL_law_33 c4 4 rfl (by decide) (by decide) rfl (tgt := 312) (by decide) ?_
        refine lv_aload_n hx hb dL_law_312 rfl (lv_at hl 1 rfl) ?_
        refine lv_aload_n hx hb dL_law_313 rfl (lv_at hl 0 rfl) ?_
        refine lv_iload_n hx hb dL_law_314 rfl (lv_at hl 3 rfl) ?_
        refine lv_iconst (v := 1) hx hb dL_law_315 (by decide) ?_
        refine lv_iadd hx hb dL_law_316 ?_
        refine m_sld C hX hbl hEb hI hF dL_law_317 (fun r38 hF => ?_)
        refine m_callVi C cd_L_31 ⟨rfl, by decide⟩ hl.1 hI hF (fun _ h => ok_X6_type h) rfl rfl ⟨rfl, rfl, Nat.le_of_ble_eq_true rfl, Nat.le_of_ble_eq_true rfl⟩ ⟨Nat.le_of_ble_eq_true rfl, Nat.le_of_ble_eq_true rfl⟩ (Nat.le_of_ble_eq_true rfl) dL_law_318 (fun r39 S40 H locs hF hI => ?_)
        refine lv_aload_n hx hb dL_law_321 rfl (lv_at hl 2 rfl) ?_
        refine lv_aload_n hx hb dL_law_322 rfl (lv_at hl 0 rfl) ?_
        refine lv_iload_n hx hb dL_law_323 rfl (lv_at hl 3 rfl) ?_
        refine lv_iconst (v := 1) hx hb dL_law_324 (by decide) ?_
        refine lv_iadd hx hb dL_law_325 ?_
        refine m_sld C hX hbl hEb hI hF dL_law_326 (fun r41 hF => ?_)
        refine m_callVi C cd_L_34 ⟨rfl, by decide⟩ hl.1 hI hF (fun _ h => ok_X7_type h) rfl rfl ⟨rfl, rfl, Nat.le_of_ble_eq_true rfl, Nat.le_of_ble_eq_true rfl⟩ ⟨Nat.le_of_ble_eq_true rfl, Nat.le_of_ble_eq_true rfl⟩ (Nat.le_of_ble_eq_true rfl) dL_law_327 (fun r42 S43 H locs hF hI => ?_)
        refine m_icmp_eq C (tgt := 1276) hF dL_law_330 (by decide) (fun hF => ?_) (fun hF => ?_)
        · exact (bl_L_law_1276 C hX hbl hEb (k18 := (f_L_law_18 xs L k1282 n)) ih) v1 v2 v3 S43 _ _ _ hF hI (lv_sub hl [0, 1, 2, 3] rfl)
        · refine lv_iconst (v := 0) hx hb dL_law_333 (by decide) ?_
          exact m_lawret C hEb hI hF dL_law_334
      refine m_if hF (fun c5 hF => ?_) (fun c5 hF => ?_)
      · refine m_swIn C dL_law_33 c5 5 rfl (by decide) (by decide) rfl (tgt := 335) (by decide) ?_
        refine lv_aload_n hx hb dL_law_335 rfl (lv_at hl 1 rfl) ?_
        refine m_callVi C cd_L_35 ⟨rfl, by decide⟩ hl.1 hI hF (fun _ h => ok_X6_clear h) rfl rfl ⟨rfl, rfl, Nat.le_of_ble_eq_true rfl, Nat.le_of_ble_eq_true rfl⟩ ⟨Nat.le_of_ble_eq_true rfl, Nat.le_of_ble_eq_true rfl⟩ (Nat.le_of_ble_eq_true rfl) dL_law_336 (fun r44 S45 H locs hF hI => ?_)
        refine lv_aload_n hx hb dL_law_339 rfl (lv_at hl 2 rfl) ?_
        refine m_callVi C cd_L_39 ⟨rfl, by decide⟩ hl.1 hI hF (fun _ h => ok_X7_clear h) rfl rfl ⟨rfl, rfl, Nat.le_of_ble_eq_true rfl, Nat.le_of_ble_eq_true rfl⟩ ⟨Nat.le_of_ble_eq_true rfl, Nat.le_of_ble_eq_true rfl⟩ (Nat.le_of_ble_eq_true rfl) dL_law_340 (fun r46 S47 H locs hF hI => ?_)
        refine m_icmp_eq C (tgt := 1276) hF dL_law_343 (by decide) (fun hF => ?_) (fun hF => ?_)
        · exact (bl_L_law_1276 C hX hbl hEb (k18 := (f_L_law_18 xs L k1282 n)) ih) v1 v2 v3 S47 _ _ _ hF hI (lv_sub hl [0, 1, 2, 3] rfl)
        · refine lv_iconst (v := 0) hx hb dL_law_346 (by decide) ?_
          exact m_lawret C hEb hI hF dL_law_347
      refine m_if hF (fun c6 hF => ?_) (fun c6 hF => ?_)
      · refine m_swIn C dL_law_33 c6 6 rfl (by decide) (by decide) rfl (tgt := 348) (by decide) ?_
        refine lv_aload_n hx hb dL_law_348 rfl (lv_at hl 1 rfl) ?_
        refine m_callVi C cd_L_40 ⟨rfl, by decide⟩ hl.1 hI hF (fun _ h => ok_X6_read h) rfl rfl ⟨rfl, rfl, Nat.le_of_ble_eq_true rfl, Nat.le_of_ble_eq_true rfl⟩ ⟨Nat.le_of_ble_eq_true rfl, Nat.le_of_ble_eq_true rfl⟩ (Nat.le_of_ble_eq_true rfl) dL_law_349 (fun r48 S49 H locs hF hI => ?_)
        refine lv_aload_n hx hb dL_law_352 rfl (lv_at hl 2 rfl) ?_
        refine m_callVi C cd_L_43 ⟨rfl, by decide⟩ hl.1 hI hF (fun _ h => ok_X7_read h) rfl rfl ⟨rfl, rfl, Nat.le_of_ble_eq_true rfl, Nat.le_of_ble_eq_true rfl⟩ ⟨Nat.le_of_ble_eq_true rfl, Nat.le_of_ble_eq_true rfl⟩ (Nat.le_of_ble_eq_true rfl) dL_law_353 (fun r50 S51 H locs hF hI => ?_)
        refine m_icmp_eq C (tgt := 1276) hF dL_law_356 (by decide) (fun hF => ?_) (fun hF => ?_)
        · exact (bl_L_law_1276 C hX hbl hEb (k18 := (f_L_law_18 xs L k1282 n)) ih) v1 v2 v3 S51 _ _ _ hF hI (lv_sub hl [0, 1, 2, 3] rfl)
        · refine lv_iconst (v := 0) hx hb dL_law_359 (by decide) ?_
          exact m_lawret C hEb hI hF dL_law_360
      refine m_if hF (fun c7 hF => ?_) (fun c7 hF => ?_)
      · refine m_swIn C dL_law_33 c7 7 rfl (by decide) (by decide) rfl (tgt := 361) (by decide) ?_
        refine lv_aload_n hx hb dL_law_361 rfl (lv_at hl 1 rfl) ?_
        refine lv_aload_n hx hb dL_law_362 rfl (lv_at hl 0 rfl) ?_
        refine lv_iload_n hx hb dL_law_363 rfl (lv_at hl 3 rfl) ?_
        refine lv_iconst (v := 1) hx hb dL_law_364 (by decide) ?_
        refine lv_iadd hx hb dL_law_365 ?_
        refine m_sld C hX hbl hEb hI hF dL_law_366 (fun r52 hF => ?_)
        refine lv_aload_n hx hb dL_law_367 rfl (lv_at hl 0 rfl) ?_
        refine lv_iload_n hx hb dL_law_368 rfl (lv_at hl 3 rfl) ?_
        refine lv_iconst (v := 2) hx hb dL_law_369 (by decide) ?_
        refine lv_iadd hx hb dL_law_370 ?_
        refine m_sld C hX hbl hEb hI hF dL_law_371 (fun r53 hF => ?_)
        refine m_callVi C cd_L_44 ⟨rfl, by decide⟩ hl.1 hI hF (fun _ h => ok_X6_calls h) rfl rfl ⟨rfl, rfl, Nat.le_of_ble_eq_true rfl, Nat.le_of_ble_eq_true rfl⟩ ⟨Nat.le_of_ble_eq_true rfl, Nat.le_of_ble_eq_true rfl⟩ (Nat.le_of_ble_eq_true rfl) dL_law_372 (fun r54 S55 H locs hF hI => ?_)
        refine lv_aload_n hx hb dL_law_375 rfl (lv_at hl 2 rfl) ?_
        refine lv_aload_n hx hb dL_law_376 rfl (lv_at hl 0 rfl) ?_
        refine lv_iload_n hx hb dL_law_377 rfl (lv_at hl 3 rfl) ?_
        refine lv_iconst (v := 1) hx hb dL_law_378 (by decide) ?_
        refine lv_iadd hx hb dL_law_379 ?_
        refine m_sld C hX hbl hEb hI hF dL_law_380 (fun r56 hF => ?_)
        refine lv_aload_n hx hb dL_law_381 rfl (lv_at hl 0 rfl) ?_
        refine lv_iload_n hx hb dL_law_382 rfl (lv_at hl 3 rfl) ?_
        refine lv_iconst (v := 2) hx hb dL_law_383 (by decide) ?_
        refine lv_iadd hx hb dL_law_384 ?_
        refine m_sld C hX hbl hEb hI hF dL_law_385 (fun r57 hF => ?_)
        refine m_callVi C cd_L_47 ⟨rfl, by decide⟩ hl.1 hI hF (fun _ h => ok_X7_calls h) rfl rfl ⟨rfl, rfl, Nat.le_of_ble_eq_true rfl, Nat.le_of_ble_eq_true rfl⟩ ⟨Nat.le_of_ble_eq_true rfl, Nat.le_of_ble_eq_true rfl⟩ (Nat.le_of_ble_eq_true rfl) dL_law_386 (fun r58 S59 H locs hF hI => ?_)
        refine m_icmp_eq C (tgt := 1276) hF dL_law_389 (by decide) (fun hF => ?_) (fun hF => ?_)
        · exact (bl_L_law_1276 C hX hbl hEb (k18 := (f_L_law_18 xs L k1282 n)) ih) v1 v2 v3 S59 _ _ _ hF hI (lv_sub hl [0, 1, 2, 3] rfl)
        · refine lv_iconst (v := 0) hx hb dL_law_392 (by decide) ?_
          exact m_lawret C hEb hI hF dL_law_393
      refine m_if hF (fun c8 hF => ?_) (fun c8 hF => ?_)
      · refine m_swIn C dL_law_33 c8 8 rfl (by decide) (by decide) rfl (tgt := 394) (by decide) ?_
        refine lv_aload_n hx hb dL_law_394 rfl (lv_at hl 1 rfl) ?_
        refine lv_aload_n hx hb dL_law_395 rfl (lv_at hl 0 rfl) ?_
        refine lv_iload_n hx hb dL_law_396 rfl (lv_at hl 3 rfl) ?_
        refine lv_iconst (v := 1) hx hb dL_law_397 (by decide) ?_
        refine lv_iadd hx hb dL_law_398 ?_
        refine m_sld C hX hbl hEb hI hF dL_law_399 (fun r60 hF => ?_)
        refine m_callVi C cd_L_48 ⟨rfl, by decide⟩ hl.1 hI hF (fun _ h => ok_X6_steps h) rfl rfl ⟨rfl, rfl, Nat.le_of_ble_eq_true rfl, Nat.le_of_ble_eq_true rfl⟩ ⟨Nat.le_of_ble_eq_true rfl, Nat.le_of_ble_eq_true rfl⟩ (Nat.le_of_ble_eq_true rfl) dL_law_400 (fun r61 S62 H locs hF hI => ?_)
        refine lv_aload_n hx hb dL_law_403 rfl (lv_at hl 2 rfl) ?_
        refine lv_aload_n hx hb dL_law_404 rfl (lv_at hl 0 rfl) ?_
        refine lv_iload_n hx hb dL_law_405 rfl (lv_at hl 3 rfl) ?_
        refine lv_iconst (v := 1) hx hb dL_law_406 (by decide) ?_
        refine lv_iadd hx hb dL_law_407 ?_
        refine m_sld C hX hbl hEb hI hF dL_law_408 (fun r63 hF => ?_)
        refine m_callVi C cd_L_51 ⟨rfl, by decide⟩ hl.1 hI hF (fun _ h => ok_X7_steps h) rfl rfl ⟨rfl, rfl, Nat.le_of_ble_eq_true rfl, Nat.le_of_ble_eq_true rfl⟩ ⟨Nat.le_of_ble_eq_true rfl, Nat.le_of_ble_eq_true rfl⟩ (Nat.le_of_ble_eq_true rfl) dL_law_409 (fun r64 S65 H locs hF hI => ?_)
        refine m_icmp_eq C (tgt := 1276) hF dL_law_412 (by decide) (fun hF => ?_) (fun hF => ?_)
        · exact (bl_L_law_1276 C hX hbl hEb (k18 := (f_L_law_18 xs L k1282 n)) ih) v1 v2 v3 S65 _ _ _ hF hI (lv_sub hl [0, 1, 2, 3] rfl)
        · refine lv_iconst (v := 0) hx hb dL_law_415 (by decide) ?_
          exact m_lawret C hEb hI hF dL_law_416
      refine m_if hF (fun c9 hF => ?_) (fun c9 hF => ?_)
      · refine m_swIn C dL_law_33 c9 9 rfl (by decide) (by decide) rfl (tgt := 417) (by decide) ?_
        refine lv_aload_n hx hb dL_law_417 rfl (lv_at hl 1 rfl) ?_
        refine m_callVi C cd_L_52 ⟨rfl, by decide⟩ hl.1 hI hF (fun _ h => ok_X6_undo h) rfl rfl ⟨rfl, rfl, Nat.le_of_ble_eq_true rfl, Nat.le_of_ble_eq_true rfl⟩ ⟨Nat.le_of_ble_eq_true rfl, Nat.le_of_ble_eq_true rfl⟩ (Nat.le_of_ble_eq_true rfl) dL_law_418 (fun r66 S67 H locs hF hI => ?_)
        refine lv_aload_n hx hb dL_law_421 rfl (lv_at hl 2 rfl) ?_
        refine m_callVi C cd_L_55 ⟨rfl, by decide⟩ hl.1 hI hF (fun _ h => ok_X7_undo h) rfl rfl ⟨rfl, rfl, Nat.le_of_ble_eq_true rfl, Nat.le_of_ble_eq_true rfl⟩ ⟨Nat.le_of_ble_eq_true rfl, Nat.le_of_ble_eq_true rfl⟩ (Nat.le_of_ble_eq_true rfl) dL_law_422 (fun r68 S69 H locs hF hI => ?_)
        refine m_icmp_eq C (tgt := 1276) hF dL_law_425 (by decide) (fun hF => ?_) (fun hF => ?_)
        · exact (bl_L_law_1276 C hX hbl hEb (k18 := (f_L_law_18 xs L k1282 n)) ih) v1 v2 v3 S69 _ _ _ hF hI (lv_sub hl [0, 1, 2, 3] rfl)
        · refine lv_iconst (v := 0) hx hb dL_law_428 (by decide) ?_
          exact m_lawret C hEb hI hF dL_law_429
      refine m_if hF (fun c10 hF => ?_) (fun c10 hF => ?_)
      · refine m_swIn C dL_law_33 c10 10 rfl (by decide) (by decide) rfl (tgt := 430) (by decide) ?_
        refine lv_aload_n hx hb dL_law_430 rfl (lv_at hl 1 rfl) ?_
        refine lv_aload_n hx hb dL_law_431 rfl (lv_at hl 0 rfl) ?_
        refine lv_iload_n hx hb dL_law_432 rfl (lv_at hl 3 rfl) ?_
        refine lv_iconst (v := 1) hx hb dL_law_433 (by decide) ?_
        refine lv_iadd hx hb dL_law_434 ?_
        refine m_sld C hX hbl hEb hI hF dL_law_435 (fun r70 hF => ?_)
        refine lv_aload_n hx hb dL_law_436 rfl (lv_at hl 0 rfl) ?_
        refine lv_iload_n hx hb dL_law_437 rfl (lv_at hl 3 rfl) ?_
        refine lv_iconst (v := 2) hx hb dL_law_438 (by decide) ?_
        refine lv_iadd hx hb dL_law_439 ?_
        refine m_sld C hX hbl hEb hI hF dL_law_440 (fun r71 hF => ?_)
        refine m_callVi C cd_L_56 ⟨rfl, by decide⟩ hl.1 hI hF (fun _ h => ok_X6_of h) rfl rfl ⟨rfl, rfl, Nat.le_of_ble_eq_true rfl, Nat.le_of_ble_eq_true rfl⟩ ⟨Nat.le_of_ble_eq_true rfl, Nat.le_of_ble_eq_true rfl⟩ (Nat.le_of_ble_eq_true rfl) dL_law_441 (fun r72 S73 H locs hF hI => ?_)
        refine lv_aload_n hx hb dL_law_444 rfl (lv_at hl 2 rfl) ?_
        refine lv_aload_n hx hb dL_law_445 rfl (lv_at hl 0 rfl) ?_
        refine lv_iload_n hx hb dL_law_446 rfl (lv_at hl 3 rfl) ?_
        refine lv_iconst (v := 1) hx hb dL_law_447 (by decide) ?_
        refine lv_iadd hx hb dL_law_448 ?_
        refine m_sld C hX hbl hEb hI hF dL_law_449 (fun r74 hF => ?_)
        refine lv_aload_n hx hb dL_law_450 rfl (lv_at hl 0 rfl) ?_
        refine lv_iload_n hx hb dL_law_451 rfl (lv_at hl 3 rfl) ?_
        refine lv_iconst (v := 2) hx hb dL_law_452 (by decide) ?_
        refine lv_iadd hx hb dL_law_453 ?_
        refine m_sld C hX hbl hEb hI hF dL_law_454 (fun r75 hF => ?_)
        refine m_callVi C cd_L_59 ⟨rfl, by decide⟩ hl.1 hI hF (fun _ h => ok_X7_of h) rfl rfl ⟨rfl, rfl, Nat.le_of_ble_eq_true rfl, Nat.le_of_ble_eq_true rfl⟩ ⟨Nat.le_of_ble_eq_true rfl, Nat.le_of_ble_eq_true rfl⟩ (Nat.le_of_ble_eq_true rfl) dL_law_455 (fun r76 S77 H locs hF hI => ?_)
        refine m_icmp_eq C (tgt := 1276) hF dL_law_458 (by decide) (fun hF => ?_) (fun hF => ?_)
        · exact (bl_L_law_1276 C hX hbl hEb (k18 := (f_L_law_18 xs L k1282 n)) ih) v1 v2 v3 S77 _ _ _ hF hI (lv_sub hl [0, 1, 2, 3] rfl)
        · refine lv_iconst (v := 0) hx hb dL_law_461 (by decide) ?_
          exact m_lawret C hEb hI hF dL_law_462
      refine m_if hF (fun c11 hF => ?_) (fun c11 hF => ?_)
      · refine m_swIn C dL_law_33 c11 11 rfl (by decide) (by decide) rfl (tgt := 463) (by decide) ?_
        refine lv_aload_n hx hb dL_law_463 rfl (lv_at hl 1 rfl) ?_
        refine lv_aload_n hx hb dL_law_464 rfl (lv_at hl 0 rfl) ?_
        refine lv_iload_n hx hb dL_law_465 rfl (lv_at hl 3 rfl) ?_
        refine lv_iconst (v := 1) hx hb dL_law_466 (by decide) ?_
        refine lv_iadd hx hb dL_law_467 ?_
        refine m_sld C hX hbl hEb hI hF dL_law_468 (fun r78 hF => ?_)
        refine lv_aload_n hx hb dL_law_469 rfl (lv_at hl 0 rfl) ?_
        refine lv_iload_n hx hb dL_law_470 rfl (lv_at hl 3 rfl) ?_
        refine lv_iconst (v := 2) hx hb dL_law_471 (by decide) ?_
        refine lv_iadd hx hb dL_law_472 ?_
        refine m_sld C hX hbl hEb hI hF dL_law_473 (fun r79 hF => ?_)
        refine m_callVi C cd_L_60 ⟨rfl, by decide⟩ hl.1 hI hF (fun _ h => ok_X6_about h) rfl rfl ⟨rfl, rfl, Nat.le_of_ble_eq_true rfl, Nat.le_of_ble_eq_true rfl⟩ ⟨Nat.le_of_ble_eq_true rfl, Nat.le_of_ble_eq_true rfl⟩ (Nat.le_of_ble_eq_true rfl) dL_law_474 (fun r80 S81 H locs hF hI => ?_)
        refine lv_aload_n hx hb dL_law_477 rfl (lv_at hl 2 rfl) ?_
        refine lv_aload_n hx hb dL_law_478 rfl (lv_at hl 0 rfl) ?_
        refine lv_iload_n hx hb dL_law_479 rfl (lv_at hl 3 rfl) ?_
        refine lv_iconst (v := 1) hx hb dL_law_480 (by decide) ?_
        refine lv_iadd hx hb dL_law_481 ?_
        refine m_sld C hX hbl hEb hI hF dL_law_482 (fun r82 hF => ?_)
        refine lv_aload_n hx hb dL_law_483 rfl (lv_at hl 0 rfl) ?_
        refine lv_iload_n hx hb dL_law_484 rfl (lv_at hl 3 rfl) ?_
        refine lv_iconst (v := 2) hx hb dL_law_485 (by decide) ?_
        refine lv_iadd hx hb dL_law_486 ?_
        refine m_sld C hX hbl hEb hI hF dL_law_487 (fun r83 hF => ?_)
        refine m_callVi C cd_L_63 ⟨rfl, by decide⟩ hl.1 hI hF (fun _ h => ok_X7_about h) rfl rfl ⟨rfl, rfl, Nat.le_of_ble_eq_true rfl, Nat.le_of_ble_eq_true rfl⟩ ⟨Nat.le_of_ble_eq_true rfl, Nat.le_of_ble_eq_true rfl⟩ (Nat.le_of_ble_eq_true rfl) dL_law_488 (fun r84 S85 H locs hF hI => ?_)
        refine m_icmp_eq C (tgt := 1276) hF dL_law_491 (by decide) (fun hF => ?_) (fun hF => ?_)
        · exact (bl_L_law_1276 C hX hbl hEb (k18 := (f_L_law_18 xs L k1282 n)) ih) v1 v2 v3 S85 _ _ _ hF hI (lv_sub hl [0, 1, 2, 3] rfl)
        · refine lv_iconst (v := 0) hx hb dL_law_494 (by decide) ?_
          exact m_lawret C hEb hI hF dL_law_495
      refine m_if hF (fun c12 hF => ?_) (fun c12 hF => ?_)
      · refine m_swIn C dL_law_33 c12 12 rfl (by decide) (by decide) rfl (tgt := 496) (by decide) ?_
        refine lv_aload_n hx hb dL_law_496 rfl (lv_at hl 1 rfl) ?_
        refine lv_aload_n hx hb dL_law_497 rfl (lv_at hl 0 rfl) ?_
        refine lv_iload_n hx hb dL_law_498 rfl (lv_at hl 3 rfl) ?_
        refine lv_iconst (v := 1) hx hb dL_law_499 (by decide) ?_
        refine lv_iadd hx hb dL_law_500 ?_
        refine m_sld C hX hbl hEb hI hF dL_law_501 (fun r86 hF => ?_)
        refine lv_aload_n hx hb dL_law_502 rfl (lv_at hl 0 rfl) ?_
        refine lv_iload_n hx hb dL_law_503 rfl (lv_at hl 3 rfl) ?_
        refine lv_iconst (v := 2) hx hb dL_law_504 (by decide) ?_
        refine lv_iadd hx hb dL_law_505 ?_
        refine m_sld C hX hbl hEb hI hF dL_law_506 (fun r87 hF => ?_)
        refine m_callVi C cd_L_64 ⟨rfl, by decide⟩ hl.1 hI hF (fun _ h => ok_X6_goes h) rfl rfl ⟨rfl, rfl, Nat.le_of_ble_eq_true rfl, Nat.le_of_ble_eq_true rfl⟩ ⟨Nat.le_of_ble_eq_true rfl, Nat.le_of_ble_eq_true rfl⟩ (Nat.le_of_ble_eq_true rfl) dL_law_507 (fun r88 S89 H locs hF hI => ?_)
        refine lv_aload_n hx hb dL_law_510 rfl (lv_at hl 2 rfl) ?_
        refine lv_aload_n hx hb dL_law_511 rfl (lv_at hl 0 rfl) ?_
        refine lv_iload_n hx hb dL_law_512 rfl (lv_at hl 3 rfl) ?_
        refine lv_iconst (v := 1) hx hb dL_law_513 (by decide) ?_
        refine lv_iadd hx hb dL_law_514 ?_
        refine m_sld C hX hbl hEb hI hF dL_law_515 (fun r90 hF => ?_)
        refine lv_aload_n hx hb dL_law_516 rfl (lv_at hl 0 rfl) ?_
        refine lv_iload_n hx hb dL_law_517 rfl (lv_at hl 3 rfl) ?_
        refine lv_iconst (v := 2) hx hb dL_law_518 (by decide) ?_
        refine lv_iadd hx hb dL_law_519 ?_
        refine m_sld C hX hbl hEb hI hF dL_law_520 (fun r91 hF => ?_)
        refine m_callVi C cd_L_67 ⟨rfl, by decide⟩ hl.1 hI hF (fun _ h => ok_X7_goes h) rfl rfl ⟨rfl, rfl, Nat.le_of_ble_eq_true rfl, Nat.le_of_ble_eq_true rfl⟩ ⟨Nat.le_of_ble_eq_true rfl, Nat.le_of_ble_eq_true rfl⟩ (Nat.le_of_ble_eq_true rfl) dL_law_521 (fun r92 S93 H locs hF hI => ?_)
        refine m_icmp_eq C (tgt := 1276) hF dL_law_524 (by decide) (fun hF => ?_) (fun hF => ?_)
        · exact (bl_L_law_1276 C hX hbl hEb (k18 := (f_L_law_18 xs L k1282 n)) ih) v1 v2 v3 S93 _ _ _ hF hI (lv_sub hl [0, 1, 2, 3] rfl)
        · refine lv_iconst (v := 0) hx hb dL_law_527 (by decide) ?_
          exact m_lawret C hEb hI hF dL_law_528
      refine m_if hF (fun c13 hF => ?_) (fun c13 hF => ?_)
      · refine m_swIn C dL_law_33 c13 13 rfl (by decide) (by decide) rfl (tgt := 529) (by decide) ?_
        refine lv_aload_n hx hb dL_law_529 rfl (lv_at hl 1 rfl) ?_
        refine lv_aload_n hx hb dL_law_530 rfl (lv_at hl 0 rfl) ?_
        refine lv_iload_n hx hb dL_law_531 rfl (lv_at hl 3 rfl) ?_
        refine lv_iconst (v := 1) hx hb dL_law_532 (by decide) ?_
        refine lv_iadd hx hb dL_law_533 ?_
        refine m_sld C hX hbl hEb hI hF dL_law_534 (fun r94 hF => ?_)
        refine lv_aload_n hx hb dL_law_535 rfl (lv_at hl 0 rfl) ?_
        refine lv_iload_n hx hb dL_law_536 rfl (lv_at hl 3 rfl) ?_
        refine lv_iconst (v := 2) hx hb dL_law_537 (by decide) ?_
        refine lv_iadd hx hb dL_law_538 ?_
        refine m_sld C hX hbl hEb hI hF dL_law_539 (fun r95 hF => ?_)
        refine lv_aload_n hx hb dL_law_540 rfl (lv_at hl 0 rfl) ?_
        refine lv_iload_n hx hb dL_law_541 rfl (lv_at hl 3 rfl) ?_
        refine lv_iconst (v := 3) hx hb dL_law_542 (by decide) ?_
        refine lv_iadd hx hb dL_law_543 ?_
        refine m_sld C hX hbl hEb hI hF dL_law_544 (fun r96 hF => ?_)
        refine m_callVi C cd_L_68 ⟨rfl, by decide⟩ hl.1 hI hF (fun _ h => ok_X6_gives h) rfl rfl ⟨rfl, rfl, Nat.le_of_ble_eq_true rfl, Nat.le_of_ble_eq_true rfl⟩ ⟨Nat.le_of_ble_eq_true rfl, Nat.le_of_ble_eq_true rfl⟩ (Nat.le_of_ble_eq_true rfl) dL_law_545 (fun r97 S98 H locs hF hI => ?_)
        refine lv_aload_n hx hb dL_law_548 rfl (lv_at hl 2 rfl) ?_
        refine lv_aload_n hx hb dL_law_549 rfl (lv_at hl 0 rfl) ?_
        refine lv_iload_n hx hb dL_law_550 rfl (lv_at hl 3 rfl) ?_
        refine lv_iconst (v := 1) hx hb dL_law_551 (by decide) ?_
        refine lv_iadd hx hb dL_law_552 ?_
        refine m_sld C hX hbl hEb hI hF dL_law_553 (fun r99 hF => ?_)
        refine lv_aload_n hx hb dL_law_554 rfl (lv_at hl 0 rfl) ?_
        refine lv_iload_n hx hb dL_law_555 rfl (lv_at hl 3 rfl) ?_
        refine lv_iconst (v := 2) hx hb dL_law_556 (by decide) ?_
        refine lv_iadd hx hb dL_law_557 ?_
        refine m_sld C hX hbl hEb hI hF dL_law_558 (fun r100 hF => ?_)
        refine lv_aload_n hx hb dL_law_559 rfl (lv_at hl 0 rfl) ?_
        refine lv_iload_n hx hb dL_law_560 rfl (lv_at hl 3 rfl) ?_
        refine lv_iconst (v := 3) hx hb dL_law_561 (by decide) ?_
        refine lv_iadd hx hb dL_law_562 ?_
        refine m_sld C hX hbl hEb hI hF dL_law_563 (fun r101 hF => ?_)
        refine m_callVi C cd_L_72 ⟨rfl, by decide⟩ hl.1 hI hF (fun _ h => ok_X7_gives h) rfl rfl ⟨rfl, rfl, Nat.le_of_ble_eq_true rfl, Nat.le_of_ble_eq_true rfl⟩ ⟨Nat.le_of_ble_eq_true rfl, Nat.le_of_ble_eq_true rfl⟩ (Nat.le_of_ble_eq_true rfl) dL_law_564 (fun r102 S103 H locs hF hI => ?_)
        refine m_icmp_eq C (tgt := 1276) hF dL_law_567 (by decide) (fun hF => ?_) (fun hF => ?_)
        · exact (bl_L_law_1276 C hX hbl hEb (k18 := (f_L_law_18 xs L k1282 n)) ih) v1 v2 v3 S103 _ _ _ hF hI (lv_sub hl [0, 1, 2, 3] rfl)
        · refine lv_iconst (v := 0) hx hb dL_law_570 (by decide) ?_
          exact m_lawret C hEb hI hF dL_law_571
      refine m_if hF (fun c14 hF => ?_) (fun c14 hF => ?_)
      · refine m_swIn C dL_law_33 c14 14 rfl (by decide) (by decide) rfl (tgt := 572) (by decide) ?_
        refine lv_aload_n hx hb dL_law_572 rfl (lv_at hl 1 rfl) ?_
        refine m_callViR C cd_L_73 ⟨rfl, by decide⟩ hl.1 hI hF (fun _ h => ok_X6_folded h) rfl rfl ⟨rfl, rfl, Nat.le_of_ble_eq_true rfl, Nat.le_of_ble_eq_true rfl⟩ ⟨Nat.le_of_ble_eq_true rfl, Nat.le_of_ble_eq_true rfl⟩ (Nat.le_of_ble_eq_true rfl) dL_law_573 (fun r104 H locs hF hI => ?_)
        refine lv_aload_n hx hb dL_law_576 rfl (lv_at hl 2 rfl) ?_
        refine m_callViR C cd_L_76 ⟨rfl, by decide⟩ hl.1 hI hF (fun _ h => ok_X7_folded h) rfl rfl ⟨rfl, rfl, Nat.le_of_ble_eq_true rfl, Nat.le_of_ble_eq_true rfl⟩ ⟨Nat.le_of_ble_eq_true rfl, Nat.le_of_ble_eq_true rfl⟩ (Nat.le_of_ble_eq_true rfl) dL_law_577 (fun r105 H locs hF hI => ?_)
        refine m_icmp_eq C (tgt := 1276) hF dL_law_580 (by decide) (fun hF => ?_) (fun hF => ?_)
        · exact (bl_L_law_1276 C hX hbl hEb (k18 := (f_L_law_18 xs L k1282 n)) ih) v1 v2 v3 S _ _ _ hF hI (lv_sub hl [0, 1, 2, 3] rfl)
        · refine lv_iconst (v := 0) hx hb dL_law_583 (by decide) ?_
          exact m_lawret C hEb hI hF dL_law_584
      refine m_if hF (fun c15 hF => ?_) (fun c15 hF => ?_)
      · refine m_swIn C dL_law_33 c15 15 rfl (by decide) (by decide) rfl (tgt := 585) (by decide) ?_
        refine lv_aload_n hx hb dL_law_585 rfl (lv_at hl 1 rfl) ?_
        refine lv_aload_n hx hb dL_law_586 rfl (lv_at hl 0 rfl) ?_
        refine lv_iload_n hx hb dL_law_587 rfl (lv_at hl 3 rfl) ?_
        refine lv_iconst (v := 1) hx hb dL_law_588 (by decide) ?_
        refine lv_iadd hx hb dL_law_589 ?_
        refine m_sld C hX hbl hEb hI hF dL_law_590 (fun r106 hF => ?_)
        refine lv_aload_n hx hb dL_law_591 rfl (lv_at hl 0 rfl) ?_
        refine lv_iload_n hx hb dL_law_592 rfl (lv_at hl 3 rfl) ?_
        refine lv_iconst (v := 2) hx hb dL_law_593 (by decide) ?_
        refine lv_iadd hx hb dL_law_594 ?_
        refine m_sld C hX hbl hEb hI hF dL_law_595 (fun r107 hF => ?_)
        refine lv_aload_n hx hb dL_law_596 rfl (lv_at hl 0 rfl) ?_
        refine lv_iload_n hx hb dL_law_597 rfl (lv_at hl 3 rfl) ?_
        refine lv_iconst (v := 3) hx hb dL_law_598 (by decide) ?_
        refine lv_iadd hx hb dL_law_599 ?_
        refine m_sld C hX hbl hEb hI hF dL_law_600 (fun r108 hF => ?_)
        refine lv_aload_n hx hb dL_law_601 rfl (lv_at hl 0 rfl) ?_
        refine lv_iload_n hx hb dL_law_602 rfl (lv_at hl 3 rfl) ?_
        refine lv_iconst (v := 4) hx hb dL_law_603 (by decide) ?_
        refine lv_iadd hx hb dL_law_604 ?_
        refine m_sld C hX hbl hEb hI hF dL_law_605 (fun r109 hF => ?_)
        refine m_callVi C cd_L_77 ⟨rfl, by decide⟩ hl.1 hI hF (fun _ h => ok_X6_drive h) rfl rfl ⟨rfl, rfl, Nat.le_of_ble_eq_true rfl, Nat.le_of_ble_eq_true rfl⟩ ⟨Nat.le_of_ble_eq_true rfl, Nat.le_of_ble_eq_true rfl⟩ (Nat.le_of_ble_eq_true rfl) dL_law_606 (fun r110 S111 H locs hF hI => ?_)
        refine lv_aload_n hx hb dL_law_609 rfl (lv_at hl 2 rfl) ?_
        refine lv_aload_n hx hb dL_law_610 rfl (lv_at hl 0 rfl) ?_
        refine lv_iload_n hx hb dL_law_611 rfl (lv_at hl 3 rfl) ?_
        refine lv_iconst (v := 1) hx hb dL_law_612 (by decide) ?_
        refine lv_iadd hx hb dL_law_613 ?_
        refine m_sld C hX hbl hEb hI hF dL_law_614 (fun r112 hF => ?_)
        refine lv_aload_n hx hb dL_law_615 rfl (lv_at hl 0 rfl) ?_
        refine lv_iload_n hx hb dL_law_616 rfl (lv_at hl 3 rfl) ?_
        refine lv_iconst (v := 2) hx hb dL_law_617 (by decide) ?_
        refine lv_iadd hx hb dL_law_618 ?_
        refine m_sld C hX hbl hEb hI hF dL_law_619 (fun r113 hF => ?_)
        refine lv_aload_n hx hb dL_law_620 rfl (lv_at hl 0 rfl) ?_
        refine lv_iload_n hx hb dL_law_621 rfl (lv_at hl 3 rfl) ?_
        refine lv_iconst (v := 3) hx hb dL_law_622 (by decide) ?_
        refine lv_iadd hx hb dL_law_623 ?_
        refine m_sld C hX hbl hEb hI hF dL_law_624 (fun r114 hF => ?_)
        refine lv_aload_n hx hb dL_law_625 rfl (lv_at hl 0 rfl) ?_
        refine lv_iload_n hx hb dL_law_626 rfl (lv_at hl 3 rfl) ?_
        refine lv_iconst (v := 4) hx hb dL_law_627 (by decide) ?_
        refine lv_iadd hx hb dL_law_628 ?_
        refine m_sld C hX hbl hEb hI hF dL_law_629 (fun r115 hF => ?_)
        refine m_callVi C cd_L_81 ⟨rfl, by decide⟩ hl.1 hI hF (fun _ h => ok_X7_drive h) rfl rfl ⟨rfl, rfl, Nat.le_of_ble_eq_true rfl, Nat.le_of_ble_eq_true rfl⟩ ⟨Nat.le_of_ble_eq_true rfl, Nat.le_of_ble_eq_true rfl⟩ (Nat.le_of_ble_eq_true rfl) dL_law_630 (fun r116 S117 H locs hF hI => ?_)
        refine m_icmp_eq C (tgt := 1276) hF dL_law_633 (by decide) (fun hF => ?_) (fun hF => ?_)
        · exact (bl_L_law_1276 C hX hbl hEb (k18 := (f_L_law_18 xs L k1282 n)) ih) v1 v2 v3 S117 _ _ _ hF hI (lv_sub hl [0, 1, 2, 3] rfl)
        · refine lv_iconst (v := 0) hx hb dL_law_636 (by decide) ?_
          exact m_lawret C hEb hI hF dL_law_637
      refine m_if hF (fun c16 hF => ?_) (fun c16 hF => ?_)
      · refine m_swIn C dL_law_33 c16 16 rfl (by decide) (by decide) rfl (tgt := 638) (by decide) ?_
        refine lv_aload_n hx hb dL_law_638 rfl (lv_at hl 1 rfl) ?_
        refine lv_aload_n hx hb dL_law_639 rfl (lv_at hl 0 rfl) ?_
        refine lv_iload_n hx hb dL_law_640 rfl (lv_at hl 3 rfl) ?_
        refine lv_iconst (v := 1) hx hb dL_law_641 (by decide) ?_
        refine lv_iadd hx hb dL_law_642 ?_
        refine m_sld C hX hbl hEb hI hF dL_law_643 (fun r118 hF => ?_)
        refine lv_aload_n hx hb dL_law_644 rfl (lv_at hl 0 rfl) ?_
        refine lv_iload_n hx hb dL_law_645 rfl (lv_at hl 3 rfl) ?_
        refine lv_iconst (v := 2) hx hb dL_law_646 (by decide) ?_
        refine lv_iadd hx hb dL_law_647 ?_
        refine m_sld C hX hbl hEb hI hF dL_law_648 (fun r119 hF => ?_)
        refine m_callVi C cd_L_82 ⟨rfl, by decide⟩ hl.1 hI hF (fun _ h => ok_X6_near h) rfl rfl ⟨rfl, rfl, Nat.le_of_ble_eq_true rfl, Nat.le_of_ble_eq_true rfl⟩ ⟨Nat.le_of_ble_eq_true rfl, Nat.le_of_ble_eq_true rfl⟩ (Nat.le_of_ble_eq_true rfl) dL_law_649 (fun r120 S121 H locs hF hI => ?_)
        refine lv_aload_n hx hb dL_law_652 rfl (lv_at hl 2 rfl) ?_
        refine lv_aload_n hx hb dL_law_653 rfl (lv_at hl 0 rfl) ?_
        refine lv_iload_n hx hb dL_law_654 rfl (lv_at hl 3 rfl) ?_
        refine lv_iconst (v := 1) hx hb dL_law_655 (by decide) ?_
        refine lv_iadd hx hb dL_law_656 ?_
        refine m_sld C hX hbl hEb hI hF dL_law_657 (fun r122 hF => ?_)
        refine lv_aload_n hx hb dL_law_658 rfl (lv_at hl 0 rfl) ?_
        refine lv_iload_n hx hb dL_law_659 rfl (lv_at hl 3 rfl) ?_
        refine lv_iconst (v := 2) hx hb dL_law_660 (by decide) ?_
        refine lv_iadd hx hb dL_law_661 ?_
        refine m_sld C hX hbl hEb hI hF dL_law_662 (fun r123 hF => ?_)
        refine m_callVi C cd_L_85 ⟨rfl, by decide⟩ hl.1 hI hF (fun _ h => ok_X7_near h) rfl rfl ⟨rfl, rfl, Nat.le_of_ble_eq_true rfl, Nat.le_of_ble_eq_true rfl⟩ ⟨Nat.le_of_ble_eq_true rfl, Nat.le_of_ble_eq_true rfl⟩ (Nat.le_of_ble_eq_true rfl) dL_law_663 (fun r124 S125 H locs hF hI => ?_)
        refine m_icmp_eq C (tgt := 1276) hF dL_law_666 (by decide) (fun hF => ?_) (fun hF => ?_)
        · exact (bl_L_law_1276 C hX hbl hEb (k18 := (f_L_law_18 xs L k1282 n)) ih) v1 v2 v3 S125 _ _ _ hF hI (lv_sub hl [0, 1, 2, 3] rfl)
        · refine lv_iconst (v := 0) hx hb dL_law_669 (by decide) ?_
          exact m_lawret C hEb hI hF dL_law_670
      refine m_if hF (fun c17 hF => ?_) (fun c17 hF => ?_)
      · refine m_swIn C dL_law_33 c17 17 rfl (by decide) (by decide) rfl (tgt := 671) (by decide) ?_
        refine lv_aload_n hx hb dL_law_671 rfl (lv_at hl 1 rfl) ?_
        refine lv_aload_n hx hb dL_law_672 rfl (lv_at hl 0 rfl) ?_
        refine lv_iload_n hx hb dL_law_673 rfl (lv_at hl 3 rfl) ?_
        refine lv_iconst (v := 1) hx hb dL_law_674 (by decide) ?_
        refine lv_iadd hx hb dL_law_675 ?_
        refine m_sld C hX hbl hEb hI hF dL_law_676 (fun r126 hF => ?_)
        refine lv_aload_n hx hb dL_law_677 rfl (lv_at hl 0 rfl) ?_
        refine lv_iload_n hx hb dL_law_678 rfl (lv_at hl 3 rfl) ?_
        refine lv_iconst (v := 2) hx hb dL_law_679 (by decide) ?_
        refine lv_iadd hx hb dL_law_680 ?_
        refine m_sld C hX hbl hEb hI hF dL_law_681 (fun r127 hF => ?_)
        refine m_callVi C cd_L_86 ⟨rfl, by decide⟩ hl.1 hI hF (fun _ h => ok_X6_gather h) rfl rfl ⟨rfl, rfl, Nat.le_of_ble_eq_true rfl, Nat.le_of_ble_eq_true rfl⟩ ⟨Nat.le_of_ble_eq_true rfl, Nat.le_of_ble_eq_true rfl⟩ (Nat.le_of_ble_eq_true rfl) dL_law_682 (fun r128 S129 H locs hF hI => ?_)
        refine lv_aload_n hx hb dL_law_685 rfl (lv_at hl 2 rfl) ?_
        refine lv_aload_n hx hb dL_law_686 rfl (lv_at hl 0 rfl) ?_
        refine lv_iload_n hx hb dL_law_687 rfl (lv_at hl 3 rfl) ?_
        refine lv_iconst (v := 1) hx hb dL_law_688 (by decide) ?_
        refine lv_iadd hx hb dL_law_689 ?_
        refine m_sld C hX hbl hEb hI hF dL_law_690 (fun r130 hF => ?_)
        refine lv_aload_n hx hb dL_law_691 rfl (lv_at hl 0 rfl) ?_
        refine lv_iload_n hx hb dL_law_692 rfl (lv_at hl 3 rfl) ?_
        refine lv_iconst (v := 2) hx hb dL_law_693 (by decide) ?_
        refine lv_iadd hx hb dL_law_694 ?_
        refine m_sld C hX hbl hEb hI hF dL_law_695 (fun r131 hF => ?_)
        refine m_callVi C cd_L_89 ⟨rfl, by decide⟩ hl.1 hI hF (fun _ h => ok_X7_gather h) rfl rfl ⟨rfl, rfl, Nat.le_of_ble_eq_true rfl, Nat.le_of_ble_eq_true rfl⟩ ⟨Nat.le_of_ble_eq_true rfl, Nat.le_of_ble_eq_true rfl⟩ (Nat.le_of_ble_eq_true rfl) dL_law_696 (fun r132 S133 H locs hF hI => ?_)
        refine m_icmp_eq C (tgt := 1276) hF dL_law_699 (by decide) (fun hF => ?_) (fun hF => ?_)
        · exact (bl_L_law_1276 C hX hbl hEb (k18 := (f_L_law_18 xs L k1282 n)) ih) v1 v2 v3 S133 _ _ _ hF hI (lv_sub hl [0, 1, 2, 3] rfl)
        · refine lv_iconst (v := 0) hx hb dL_law_702 (by decide) ?_
          exact m_lawret C hEb hI hF dL_law_703
      refine m_if hF (fun c18 hF => ?_) (fun c18 hF => ?_)
      · refine m_swIn C dL_law_33 c18 18 rfl (by decide) (by decide) rfl (tgt := 704) (by decide) ?_
        refine lv_aload_n hx hb dL_law_704 rfl (lv_at hl 1 rfl) ?_
        refine lv_aload_n hx hb dL_law_705 rfl (lv_at hl 0 rfl) ?_
        refine lv_iload_n hx hb dL_law_706 rfl (lv_at hl 3 rfl) ?_
        refine lv_iconst (v := 1) hx hb dL_law_707 (by decide) ?_
        refine lv_iadd hx hb dL_law_708 ?_
        refine m_sld C hX hbl hEb hI hF dL_law_709 (fun r134 hF => ?_)
        refine lv_aload_n hx hb dL_law_710 rfl (lv_at hl 0 rfl) ?_
        refine lv_iload_n hx hb dL_law_711 rfl (lv_at hl 3 rfl) ?_
        refine lv_iconst (v := 2) hx hb dL_law_712 (by decide) ?_
        refine lv_iadd hx hb dL_law_713 ?_
        refine m_sld C hX hbl hEb hI hF dL_law_714 (fun r135 hF => ?_)
        refine m_callVi C cd_L_90 ⟨rfl, by decide⟩ hl.1 hI hF (fun _ h => ok_X6_seen h) rfl rfl ⟨rfl, rfl, Nat.le_of_ble_eq_true rfl, Nat.le_of_ble_eq_true rfl⟩ ⟨Nat.le_of_ble_eq_true rfl, Nat.le_of_ble_eq_true rfl⟩ (Nat.le_of_ble_eq_true rfl) dL_law_715 (fun r136 S137 H locs hF hI => ?_)
        refine lv_aload_n hx hb dL_law_718 rfl (lv_at hl 2 rfl) ?_
        refine lv_aload_n hx hb dL_law_719 rfl (lv_at hl 0 rfl) ?_
        refine lv_iload_n hx hb dL_law_720 rfl (lv_at hl 3 rfl) ?_
        refine lv_iconst (v := 1) hx hb dL_law_721 (by decide) ?_
        refine lv_iadd hx hb dL_law_722 ?_
        refine m_sld C hX hbl hEb hI hF dL_law_723 (fun r138 hF => ?_)
        refine lv_aload_n hx hb dL_law_724 rfl (lv_at hl 0 rfl) ?_
        refine lv_iload_n hx hb dL_law_725 rfl (lv_at hl 3 rfl) ?_
        refine lv_iconst (v := 2) hx hb dL_law_726 (by decide) ?_
        refine lv_iadd hx hb dL_law_727 ?_
        refine m_sld C hX hbl hEb hI hF dL_law_728 (fun r139 hF => ?_)
        refine m_callVi C cd_L_93 ⟨rfl, by decide⟩ hl.1 hI hF (fun _ h => ok_X7_seen h) rfl rfl ⟨rfl, rfl, Nat.le_of_ble_eq_true rfl, Nat.le_of_ble_eq_true rfl⟩ ⟨Nat.le_of_ble_eq_true rfl, Nat.le_of_ble_eq_true rfl⟩ (Nat.le_of_ble_eq_true rfl) dL_law_729 (fun r140 S141 H locs hF hI => ?_)
        refine m_icmp_eq C (tgt := 1276) hF dL_law_732 (by decide) (fun hF => ?_) (fun hF => ?_)
        · exact (bl_L_law_1276 C hX hbl hEb (k18 := (f_L_law_18 xs L k1282 n)) ih) v1 v2 v3 S141 _ _ _ hF hI (lv_sub hl [0, 1, 2, 3] rfl)
        · refine lv_iconst (v := 0) hx hb dL_law_735 (by decide) ?_
          exact m_lawret C hEb hI hF dL_law_736
      refine m_if hF (fun c19 hF => ?_) (fun c19 hF => ?_)
      · refine m_swIn C dL_law_33 c19 19 rfl (by decide) (by decide) rfl (tgt := 737) (by decide) ?_
        refine lv_aload_n hx hb dL_law_737 rfl (lv_at hl 1 rfl) ?_
        refine lv_aload_n hx hb dL_law_738 rfl (lv_at hl 0 rfl) ?_
        refine lv_iload_n hx hb dL_law_739 rfl (lv_at hl 3 rfl) ?_
        refine lv_iconst (v := 1) hx hb dL_law_740 (by decide) ?_
        refine lv_iadd hx hb dL_law_741 ?_
        refine m_sld C hX hbl hEb hI hF dL_law_742 (fun r142 hF => ?_)
        refine m_callVi C cd_L_94 ⟨rfl, by decide⟩ hl.1 hI hF (fun _ h => ok_X6_which h) rfl rfl ⟨rfl, rfl, Nat.le_of_ble_eq_true rfl, Nat.le_of_ble_eq_true rfl⟩ ⟨Nat.le_of_ble_eq_true rfl, Nat.le_of_ble_eq_true rfl⟩ (Nat.le_of_ble_eq_true rfl) dL_law_743 (fun r143 S144 H locs hF hI => ?_)
        refine lv_aload_n hx hb dL_law_746 rfl (lv_at hl 2 rfl) ?_
        refine lv_aload_n hx hb dL_law_747 rfl (lv_at hl 0 rfl) ?_
        refine lv_iload_n hx hb dL_law_748 rfl (lv_at hl 3 rfl) ?_
        refine lv_iconst (v := 1) hx hb dL_law_749 (by decide) ?_
        refine lv_iadd hx hb dL_law_750 ?_
        refine m_sld C hX hbl hEb hI hF dL_law_751 (fun r145 hF => ?_)
        refine m_callVi C cd_L_97 ⟨rfl, by decide⟩ hl.1 hI hF (fun _ h => ok_X7_which h) rfl rfl ⟨rfl, rfl, Nat.le_of_ble_eq_true rfl, Nat.le_of_ble_eq_true rfl⟩ ⟨Nat.le_of_ble_eq_true rfl, Nat.le_of_ble_eq_true rfl⟩ (Nat.le_of_ble_eq_true rfl) dL_law_752 (fun r146 S147 H locs hF hI => ?_)
        refine m_icmp_eq C (tgt := 1276) hF dL_law_755 (by decide) (fun hF => ?_) (fun hF => ?_)
        · exact (bl_L_law_1276 C hX hbl hEb (k18 := (f_L_law_18 xs L k1282 n)) ih) v1 v2 v3 S147 _ _ _ hF hI (lv_sub hl [0, 1, 2, 3] rfl)
        · refine lv_iconst (v := 0) hx hb dL_law_758 (by decide) ?_
          exact m_lawret C hEb hI hF dL_law_759
      refine m_if hF (fun c20 hF => ?_) (fun c20 hF => ?_)
      · refine m_swIn C dL_law_33 c20 20 rfl (by decide) (by decide) rfl (tgt := 760) (by decide) ?_
        refine lv_aload_n hx hb dL_law_760 rfl (lv_at hl 1 rfl) ?_
        refine lv_aload_n hx hb dL_law_761 rfl (lv_at hl 0 rfl) ?_
        refine lv_iload_n hx hb dL_law_762 rfl (lv_at hl 3 rfl) ?_
        refine lv_iconst (v := 1) hx hb dL_law_763 (by decide) ?_
        refine lv_iadd hx hb dL_law_764 ?_
        refine m_sld C hX hbl hEb hI hF dL_law_765 (fun r148 hF => ?_)
        refine m_callVi C cd_L_98 ⟨rfl, by decide⟩ hl.1 hI hF (fun _ h => ok_X6_whose h) rfl rfl ⟨rfl, rfl, Nat.le_of_ble_eq_true rfl, Nat.le_of_ble_eq_true rfl⟩ ⟨Nat.le_of_ble_eq_true rfl, Nat.le_of_ble_eq_true rfl⟩ (Nat.le_of_ble_eq_true rfl) dL_law_766 (fun r149 S150 H locs hF hI => ?_)
        refine lv_aload_n hx hb dL_law_769 rfl (lv_at hl 2 rfl) ?_
        refine lv_aload_n hx hb dL_law_770 rfl (lv_at hl 0 rfl) ?_
        refine lv_iload_n hx hb dL_law_771 rfl (lv_at hl 3 rfl) ?_
        refine lv_iconst (v := 1) hx hb dL_law_772 (by decide) ?_
        refine lv_iadd hx hb dL_law_773 ?_
        refine m_sld C hX hbl hEb hI hF dL_law_774 (fun r151 hF => ?_)
        refine m_callVi C cd_L_101 ⟨rfl, by decide⟩ hl.1 hI hF (fun _ h => ok_X7_whose h) rfl rfl ⟨rfl, rfl, Nat.le_of_ble_eq_true rfl, Nat.le_of_ble_eq_true rfl⟩ ⟨Nat.le_of_ble_eq_true rfl, Nat.le_of_ble_eq_true rfl⟩ (Nat.le_of_ble_eq_true rfl) dL_law_775 (fun r152 S153 H locs hF hI => ?_)
        refine m_icmp_eq C (tgt := 1276) hF dL_law_778 (by decide) (fun hF => ?_) (fun hF => ?_)
        · exact (bl_L_law_1276 C hX hbl hEb (k18 := (f_L_law_18 xs L k1282 n)) ih) v1 v2 v3 S153 _ _ _ hF hI (lv_sub hl [0, 1, 2, 3] rfl)
        · refine lv_iconst (v := 0) hx hb dL_law_781 (by decide) ?_
          exact m_lawret C hEb hI hF dL_law_782
      refine m_if hF (fun c21 hF => ?_) (fun c21 hF => ?_)
      · refine m_swIn C dL_law_33 c21 21 rfl (by decide) (by decide) rfl (tgt := 783) (by decide) ?_
        refine lv_aload_n hx hb dL_law_783 rfl (lv_at hl 1 rfl) ?_
        refine lv_aload_n hx hb dL_law_784 rfl (lv_at hl 0 rfl) ?_
        refine lv_iload_n hx hb dL_law_785 rfl (lv_at hl 3 rfl) ?_
        refine lv_iconst (v := 1) hx hb dL_law_786 (by decide) ?_
        refine lv_iadd hx hb dL_law_787 ?_
        refine m_sld C hX hbl hEb hI hF dL_law_788 (fun r154 hF => ?_)
        refine m_callVi C cd_L_102 ⟨rfl, by decide⟩ hl.1 hI hF (fun _ h => ok_X6_tell h) rfl rfl ⟨rfl, rfl, Nat.le_of_ble_eq_true rfl, Nat.le_of_ble_eq_true rfl⟩ ⟨Nat.le_of_ble_eq_true rfl, Nat.le_of_ble_eq_true rfl⟩ (Nat.le_of_ble_eq_true rfl) dL_law_789 (fun r155 S156 H locs hF hI => ?_)
        refine lv_aload_n hx hb dL_law_792 rfl (lv_at hl 2 rfl) ?_
        refine lv_aload_n hx hb dL_law_793 rfl (lv_at hl 0 rfl) ?_
        refine lv_iload_n hx hb dL_law_794 rfl (lv_at hl 3 rfl) ?_
        refine lv_iconst (v := 1) hx hb dL_law_795 (by decide) ?_
        refine lv_iadd hx hb dL_law_796 ?_
        refine m_sld C hX hbl hEb hI hF dL_law_797 (fun r157 hF => ?_)
        refine m_callVi C cd_L_105 ⟨rfl, by decide⟩ hl.1 hI hF (fun _ h => ok_X7_tell h) rfl rfl ⟨rfl, rfl, Nat.le_of_ble_eq_true rfl, Nat.le_of_ble_eq_true rfl⟩ ⟨Nat.le_of_ble_eq_true rfl, Nat.le_of_ble_eq_true rfl⟩ (Nat.le_of_ble_eq_true rfl) dL_law_798 (fun r158 S159 H locs hF hI => ?_)
        refine m_icmp_eq C (tgt := 1276) hF dL_law_801 (by decide) (fun hF => ?_) (fun hF => ?_)
        · exact (bl_L_law_1276 C hX hbl hEb (k18 := (f_L_law_18 xs L k1282 n)) ih) v1 v2 v3 S159 _ _ _ hF hI (lv_sub hl [0, 1, 2, 3] rfl)
        · refine lv_iconst (v := 0) hx hb dL_law_804 (by decide) ?_
          exact m_lawret C hEb hI hF dL_law_805
      refine m_if hF (fun c22 hF => ?_) (fun c22 hF => ?_)
      · refine m_swIn C dL_law_33 c22 22 rfl (by decide) (by decide) rfl (tgt := 806) (by decide) ?_
        refine lv_aload_n hx hb dL_law_806 rfl (lv_at hl 1 rfl) ?_
        refine lv_aload_n hx hb dL_law_807 rfl (lv_at hl 0 rfl) ?_
        refine lv_iload_n hx hb dL_law_808 rfl (lv_at hl 3 rfl) ?_
        refine lv_iconst (v := 1) hx hb dL_law_809 (by decide) ?_
        refine lv_iadd hx hb dL_law_810 ?_
        refine m_sld C hX hbl hEb hI hF dL_law_811 (fun r160 hF => ?_)
        refine lv_aload_n hx hb dL_law_812 rfl (lv_at hl 0 rfl) ?_
        refine lv_iload_n hx hb dL_law_813 rfl (lv_at hl 3 rfl) ?_
        refine lv_iconst (v := 2) hx hb dL_law_814 (by decide) ?_
        refine lv_iadd hx hb dL_law_815 ?_
        refine m_sld C hX hbl hEb hI hF dL_law_816 (fun r161 hF => ?_)
        refine lv_aload_n hx hb dL_law_817 rfl (lv_at hl 0 rfl) ?_
        refine lv_iload_n hx hb dL_law_818 rfl (lv_at hl 3 rfl) ?_
        refine lv_iconst (v := 3) hx hb dL_law_819 (by decide) ?_
        refine lv_iadd hx hb dL_law_820 ?_
        refine m_sld C hX hbl hEb hI hF dL_law_821 (fun r162 hF => ?_)
        refine m_callVi C cd_L_106 ⟨rfl, by decide⟩ hl.1 hI hF (fun _ h => ok_X6_note h) rfl rfl ⟨rfl, rfl, Nat.le_of_ble_eq_true rfl, Nat.le_of_ble_eq_true rfl⟩ ⟨Nat.le_of_ble_eq_true rfl, Nat.le_of_ble_eq_true rfl⟩ (Nat.le_of_ble_eq_true rfl) dL_law_822 (fun r163 S164 H locs hF hI => ?_)
        refine lv_aload_n hx hb dL_law_825 rfl (lv_at hl 2 rfl) ?_
        refine lv_aload_n hx hb dL_law_826 rfl (lv_at hl 0 rfl) ?_
        refine lv_iload_n hx hb dL_law_827 rfl (lv_at hl 3 rfl) ?_
        refine lv_iconst (v := 1) hx hb dL_law_828 (by decide) ?_
        refine lv_iadd hx hb dL_law_829 ?_
        refine m_sld C hX hbl hEb hI hF dL_law_830 (fun r165 hF => ?_)
        refine lv_aload_n hx hb dL_law_831 rfl (lv_at hl 0 rfl) ?_
        refine lv_iload_n hx hb dL_law_832 rfl (lv_at hl 3 rfl) ?_
        refine lv_iconst (v := 2) hx hb dL_law_833 (by decide) ?_
        refine lv_iadd hx hb dL_law_834 ?_
        refine m_sld C hX hbl hEb hI hF dL_law_835 (fun r166 hF => ?_)
        refine lv_aload_n hx hb dL_law_836 rfl (lv_at hl 0 rfl) ?_
        refine lv_iload_n hx hb dL_law_837 rfl (lv_at hl 3 rfl) ?_
        refine lv_iconst (v := 3) hx hb dL_law_838 (by decide) ?_
        refine lv_iadd hx hb dL_law_839 ?_
        refine m_sld C hX hbl hEb hI hF dL_law_840 (fun r167 hF => ?_)
        refine m_callVi C cd_L_109 ⟨rfl, by decide⟩ hl.1 hI hF (fun _ h => ok_X7_note h) rfl rfl ⟨rfl, rfl, Nat.le_of_ble_eq_true rfl, Nat.le_of_ble_eq_true rfl⟩ ⟨Nat.le_of_ble_eq_true rfl, Nat.le_of_ble_eq_true rfl⟩ (Nat.le_of_ble_eq_true rfl) dL_law_841 (fun r168 S169 H locs hF hI => ?_)
        refine m_icmp_eq C (tgt := 1276) hF dL_law_844 (by decide) (fun hF => ?_) (fun hF => ?_)
        · exact (bl_L_law_1276 C hX hbl hEb (k18 := (f_L_law_18 xs L k1282 n)) ih) v1 v2 v3 S169 _ _ _ hF hI (lv_sub hl [0, 1, 2, 3] rfl)
        · refine lv_iconst (v := 0) hx hb dL_law_847 (by decide) ?_
          exact m_lawret C hEb hI hF dL_law_848
      refine m_if hF (fun c23 hF => ?_) (fun c23 hF => ?_)
      · refine m_swIn C dL_law_33 c23 23 rfl (by decide) (by decide) rfl (tgt := 849) (by decide) ?_
        refine lv_aload_n hx hb dL_law_849 rfl (lv_at hl 1 rfl) ?_
        refine lv_aload_n hx hb dL_law_850 rfl (lv_at hl 0 rfl) ?_
        refine lv_iload_n hx hb dL_law_851 rfl (lv_at hl 3 rfl) ?_
        refine lv_iconst (v := 1) hx hb dL_law_852 (by decide) ?_
        refine lv_iadd hx hb dL_law_853 ?_
        refine m_sld C hX hbl hEb hI hF dL_law_854 (fun r170 hF => ?_)
        refine lv_aload_n hx hb dL_law_855 rfl (lv_at hl 0 rfl) ?_
        refine lv_iload_n hx hb dL_law_856 rfl (lv_at hl 3 rfl) ?_
        refine lv_iconst (v := 2) hx hb dL_law_857 (by decide) ?_
        refine lv_iadd hx hb dL_law_858 ?_
        refine m_sld C hX hbl hEb hI hF dL_law_859 (fun r171 hF => ?_)
        refine lv_aload_n hx hb dL_law_860 rfl (lv_at hl 0 rfl) ?_
        refine lv_iload_n hx hb dL_law_861 rfl (lv_at hl 3 rfl) ?_
        refine lv_iconst (v := 3) hx hb dL_law_862 (by decide) ?_
        refine lv_iadd hx hb dL_law_863 ?_
        refine m_sld C hX hbl hEb hI hF dL_law_864 (fun r172 hF => ?_)
        refine m_callVi C cd_L_110 ⟨rfl, by decide⟩ hl.1 hI hF (fun _ h => ok_X6_mark h) rfl rfl ⟨rfl, rfl, Nat.le_of_ble_eq_true rfl, Nat.le_of_ble_eq_true rfl⟩ ⟨Nat.le_of_ble_eq_true rfl, Nat.le_of_ble_eq_true rfl⟩ (Nat.le_of_ble_eq_true rfl) dL_law_865 (fun r173 S174 H locs hF hI => ?_)
        refine lv_aload_n hx hb dL_law_868 rfl (lv_at hl 2 rfl) ?_
        refine lv_aload_n hx hb dL_law_869 rfl (lv_at hl 0 rfl) ?_
        refine lv_iload_n hx hb dL_law_870 rfl (lv_at hl 3 rfl) ?_
        refine lv_iconst (v := 1) hx hb dL_law_871 (by decide) ?_
        refine lv_iadd hx hb dL_law_872 ?_
        refine m_sld C hX hbl hEb hI hF dL_law_873 (fun r175 hF => ?_)
        refine lv_aload_n hx hb dL_law_874 rfl (lv_at hl 0 rfl) ?_
        refine lv_iload_n hx hb dL_law_875 rfl (lv_at hl 3 rfl) ?_
        refine lv_iconst (v := 2) hx hb dL_law_876 (by decide) ?_
        refine lv_iadd hx hb dL_law_877 ?_
        refine m_sld C hX hbl hEb hI hF dL_law_878 (fun r176 hF => ?_)
        refine lv_aload_n hx hb dL_law_879 rfl (lv_at hl 0 rfl) ?_
        refine lv_iload_n hx hb dL_law_880 rfl (lv_at hl 3 rfl) ?_
        refine lv_iconst (v := 3) hx hb dL_law_881 (by decide) ?_
        refine lv_iadd hx hb dL_law_882 ?_
        refine m_sld C hX hbl hEb hI hF dL_law_883 (fun r177 hF => ?_)
        refine m_callVi C cd_L_113 ⟨rfl, by decide⟩ hl.1 hI hF (fun _ h => ok_X7_mark h) rfl rfl ⟨rfl, rfl, Nat.le_of_ble_eq_true rfl, Nat.le_of_ble_eq_true rfl⟩ ⟨Nat.le_of_ble_eq_true rfl, Nat.le_of_ble_eq_true rfl⟩ (Nat.le_of_ble_eq_true rfl) dL_law_884 (fun r178 S179 H locs hF hI => ?_)
        refine m_icmp_eq C (tgt := 1276) hF dL_law_887 (by decide) (fun hF => ?_) (fun hF => ?_)
        · exact (bl_L_law_1276 C hX hbl hEb (k18 := (f_L_law_18 xs L k1282 n)) ih) v1 v2 v3 S179 _ _ _ hF hI (lv_sub hl [0, 1, 2, 3] rfl)
        · refine lv_iconst (v := 0) hx hb dL_law_890 (by decide) ?_
          exact m_lawret C hEb hI hF dL_law_891
      refine m_if hF (fun c24 hF => ?_) (fun c24 hF => ?_)
      · refine m_swIn C dL_law_33 c24 24 rfl (by decide) (by decide) rfl (tgt := 892) (by decide) ?_
        refine lv_aload_n hx hb dL_law_892 rfl (lv_at hl 1 rfl) ?_
        refine lv_aload_n hx hb dL_law_893 rfl (lv_at hl 0 rfl) ?_
        refine lv_iload_n hx hb dL_law_894 rfl (lv_at hl 3 rfl) ?_
        refine lv_iconst (v := 1) hx hb dL_law_895 (by decide) ?_
        refine lv_iadd hx hb dL_law_896 ?_
        refine m_sld C hX hbl hEb hI hF dL_law_897 (fun r180 hF => ?_)
        refine m_callVi C cd_L_114 ⟨rfl, by decide⟩ hl.1 hI hF (fun _ h => ok_X6_forget h) rfl rfl ⟨rfl, rfl, Nat.le_of_ble_eq_true rfl, Nat.le_of_ble_eq_true rfl⟩ ⟨Nat.le_of_ble_eq_true rfl, Nat.le_of_ble_eq_true rfl⟩ (Nat.le_of_ble_eq_true rfl) dL_law_898 (fun r181 S182 H locs hF hI => ?_)
        refine lv_aload_n hx hb dL_law_901 rfl (lv_at hl 2 rfl) ?_
        refine lv_aload_n hx hb dL_law_902 rfl (lv_at hl 0 rfl) ?_
        refine lv_iload_n hx hb dL_law_903 rfl (lv_at hl 3 rfl) ?_
        refine lv_iconst (v := 1) hx hb dL_law_904 (by decide) ?_
        refine lv_iadd hx hb dL_law_905 ?_
        refine m_sld C hX hbl hEb hI hF dL_law_906 (fun r183 hF => ?_)
        refine m_callVi C cd_L_117 ⟨rfl, by decide⟩ hl.1 hI hF (fun _ h => ok_X7_forget h) rfl rfl ⟨rfl, rfl, Nat.le_of_ble_eq_true rfl, Nat.le_of_ble_eq_true rfl⟩ ⟨Nat.le_of_ble_eq_true rfl, Nat.le_of_ble_eq_true rfl⟩ (Nat.le_of_ble_eq_true rfl) dL_law_907 (fun r184 S185 H locs hF hI => ?_)
        refine m_icmp_eq C (tgt := 1276) hF dL_law_910 (by decide) (fun hF => ?_) (fun hF => ?_)
        · exact (bl_L_law_1276 C hX hbl hEb (k18 := (f_L_law_18 xs L k1282 n)) ih) v1 v2 v3 S185 _ _ _ hF hI (lv_sub hl [0, 1, 2, 3] rfl)
        · refine lv_iconst (v := 0) hx hb dL_law_913 (by decide) ?_
          exact m_lawret C hEb hI hF dL_law_914
      refine m_if hF (fun c25 hF => ?_) (fun c25 hF => ?_)
      · refine m_swIn C dL_law_33 c25 25 rfl (by decide) (by decide) rfl (tgt := 915) (by decide) ?_
        refine lv_aload_n hx hb dL_law_915 rfl (lv_at hl 1 rfl) ?_
        refine lv_aload_n hx hb dL_law_916 rfl (lv_at hl 0 rfl) ?_
        refine lv_iload_n hx hb dL_law_917 rfl (lv_at hl 3 rfl) ?_
        refine lv_iconst (v := 1) hx hb dL_law_918 (by decide) ?_
        refine lv_iadd hx hb dL_law_919 ?_
        refine m_sld C hX hbl hEb hI hF dL_law_920 (fun r186 hF => ?_)
        refine m_callVi C cd_L_118 ⟨rfl, by decide⟩ hl.1 hI hF (fun _ h => ok_X6_is h) rfl rfl ⟨rfl, rfl, Nat.le_of_ble_eq_true rfl, Nat.le_of_ble_eq_true rfl⟩ ⟨Nat.le_of_ble_eq_true rfl, Nat.le_of_ble_eq_true rfl⟩ (Nat.le_of_ble_eq_true rfl) dL_law_921 (fun r187 S188 H locs hF hI => ?_)
        refine lv_aload_n hx hb dL_law_924 rfl (lv_at hl 2 rfl) ?_
        refine lv_aload_n hx hb dL_law_925 rfl (lv_at hl 0 rfl) ?_
        refine lv_iload_n hx hb dL_law_926 rfl (lv_at hl 3 rfl) ?_
        refine lv_iconst (v := 1) hx hb dL_law_927 (by decide) ?_
        refine lv_iadd hx hb dL_law_928 ?_
        refine m_sld C hX hbl hEb hI hF dL_law_929 (fun r189 hF => ?_)
        refine m_callVi C cd_L_121 ⟨rfl, by decide⟩ hl.1 hI hF (fun _ h => ok_X7_is h) rfl rfl ⟨rfl, rfl, Nat.le_of_ble_eq_true rfl, Nat.le_of_ble_eq_true rfl⟩ ⟨Nat.le_of_ble_eq_true rfl, Nat.le_of_ble_eq_true rfl⟩ (Nat.le_of_ble_eq_true rfl) dL_law_930 (fun r190 S191 H locs hF hI => ?_)
        refine m_icmp_eq C (tgt := 1276) hF dL_law_933 (by decide) (fun hF => ?_) (fun hF => ?_)
        · exact (bl_L_law_1276 C hX hbl hEb (k18 := (f_L_law_18 xs L k1282 n)) ih) v1 v2 v3 S191 _ _ _ hF hI (lv_sub hl [0, 1, 2, 3] rfl)
        · refine lv_iconst (v := 0) hx hb dL_law_936 (by decide) ?_
          exact m_lawret C hEb hI hF dL_law_937
      refine m_if hF (fun c26 hF => ?_) (fun c26 hF => ?_)
      · refine m_swIn C dL_law_33 c26 26 rfl (by decide) (by decide) rfl (tgt := 938) (by decide) ?_
        refine lv_aload_n hx hb dL_law_938 rfl (lv_at hl 1 rfl) ?_
        refine lv_aload_n hx hb dL_law_939 rfl (lv_at hl 0 rfl) ?_
        refine lv_iload_n hx hb dL_law_940 rfl (lv_at hl 3 rfl) ?_
        refine lv_iconst (v := 1) hx hb dL_law_941 (by decide) ?_
        refine lv_iadd hx hb dL_law_942 ?_
        refine m_sld C hX hbl hEb hI hF dL_law_943 (fun r192 hF => ?_)
        refine m_callVi C cd_L_122 ⟨rfl, by decide⟩ hl.1 hI hF (fun _ h => ok_X6_look h) rfl rfl ⟨rfl, rfl, Nat.le_of_ble_eq_true rfl, Nat.le_of_ble_eq_true rfl⟩ ⟨Nat.le_of_ble_eq_true rfl, Nat.le_of_ble_eq_true rfl⟩ (Nat.le_of_ble_eq_true rfl) dL_law_944 (fun r193 S194 H locs hF hI => ?_)
        refine lv_aload_n hx hb dL_law_947 rfl (lv_at hl 2 rfl) ?_
        refine lv_aload_n hx hb dL_law_948 rfl (lv_at hl 0 rfl) ?_
        refine lv_iload_n hx hb dL_law_949 rfl (lv_at hl 3 rfl) ?_
        refine lv_iconst (v := 1) hx hb dL_law_950 (by decide) ?_
        refine lv_iadd hx hb dL_law_951 ?_
        refine m_sld C hX hbl hEb hI hF dL_law_952 (fun r195 hF => ?_)
        refine m_callVi C cd_L_125 ⟨rfl, by decide⟩ hl.1 hI hF (fun _ h => ok_X7_look h) rfl rfl ⟨rfl, rfl, Nat.le_of_ble_eq_true rfl, Nat.le_of_ble_eq_true rfl⟩ ⟨Nat.le_of_ble_eq_true rfl, Nat.le_of_ble_eq_true rfl⟩ (Nat.le_of_ble_eq_true rfl) dL_law_953 (fun r196 S197 H locs hF hI => ?_)
        refine m_icmp_eq C (tgt := 1276) hF dL_law_956 (by decide) (fun hF => ?_) (fun hF => ?_)
        · exact (bl_L_law_1276 C hX hbl hEb (k18 := (f_L_law_18 xs L k1282 n)) ih) v1 v2 v3 S197 _ _ _ hF hI (lv_sub hl [0, 1, 2, 3] rfl)
        · refine lv_iconst (v := 0) hx hb dL_law_959 (by decide) ?_
          exact m_lawret C hEb hI hF dL_law_960
      refine m_if hF (fun c27 hF => ?_) (fun c27 hF => ?_)
      · refine m_swIn C dL_law_33 c27 27 rfl (by decide) (by decide) rfl (tgt := 961) (by decide) ?_
        refine lv_aload_n hx hb dL_law_961 rfl (lv_at hl 1 rfl) ?_
        refine lv_aload_n hx hb dL_law_962 rfl (lv_at hl 0 rfl) ?_
        refine lv_iload_n hx hb dL_law_963 rfl (lv_at hl 3 rfl) ?_
        refine lv_iconst (v := 1) hx hb dL_law_964 (by decide) ?_
        refine lv_iadd hx hb dL_law_965 ?_
        refine m_sld C hX hbl hEb hI hF dL_law_966 (fun r198 hF => ?_)
        refine m_callVi C cd_L_126 ⟨rfl, by decide⟩ hl.1 hI hF (fun _ h => ok_X6_kinds h) rfl rfl ⟨rfl, rfl, Nat.le_of_ble_eq_true rfl, Nat.le_of_ble_eq_true rfl⟩ ⟨Nat.le_of_ble_eq_true rfl, Nat.le_of_ble_eq_true rfl⟩ (Nat.le_of_ble_eq_true rfl) dL_law_967 (fun r199 S200 H locs hF hI => ?_)
        refine lv_aload_n hx hb dL_law_970 rfl (lv_at hl 2 rfl) ?_
        refine lv_aload_n hx hb dL_law_971 rfl (lv_at hl 0 rfl) ?_
        refine lv_iload_n hx hb dL_law_972 rfl (lv_at hl 3 rfl) ?_
        refine lv_iconst (v := 1) hx hb dL_law_973 (by decide) ?_
        refine lv_iadd hx hb dL_law_974 ?_
        refine m_sld C hX hbl hEb hI hF dL_law_975 (fun r201 hF => ?_)
        refine m_callVi C cd_L_129 ⟨rfl, by decide⟩ hl.1 hI hF (fun _ h => ok_X7_kinds h) rfl rfl ⟨rfl, rfl, Nat.le_of_ble_eq_true rfl, Nat.le_of_ble_eq_true rfl⟩ ⟨Nat.le_of_ble_eq_true rfl, Nat.le_of_ble_eq_true rfl⟩ (Nat.le_of_ble_eq_true rfl) dL_law_976 (fun r202 S203 H locs hF hI => ?_)
        refine m_icmp_eq C (tgt := 1276) hF dL_law_979 (by decide) (fun hF => ?_) (fun hF => ?_)
        · exact (bl_L_law_1276 C hX hbl hEb (k18 := (f_L_law_18 xs L k1282 n)) ih) v1 v2 v3 S203 _ _ _ hF hI (lv_sub hl [0, 1, 2, 3] rfl)
        · refine lv_iconst (v := 0) hx hb dL_law_982 (by decide) ?_
          exact m_lawret C hEb hI hF dL_law_983
      refine m_if hF (fun c28 hF => ?_) (fun c28 hF => ?_)
      · refine m_swIn C dL_law_33 c28 28 rfl (by decide) (by decide) rfl (tgt := 984) (by decide) ?_
        refine lv_aload_n hx hb dL_law_984 rfl (lv_at hl 1 rfl) ?_
        refine lv_aload_n hx hb dL_law_985 rfl (lv_at hl 0 rfl) ?_
        refine lv_iload_n hx hb dL_law_986 rfl (lv_at hl 3 rfl) ?_
        refine lv_iconst (v := 1) hx hb dL_law_987 (by decide) ?_
        refine lv_iadd hx hb dL_law_988 ?_
        refine m_sld C hX hbl hEb hI hF dL_law_989 (fun r204 hF => ?_)
        refine m_callVi C cd_L_130 ⟨rfl, by decide⟩ hl.1 hI hF (fun _ h => ok_X6_ask h) rfl rfl ⟨rfl, rfl, Nat.le_of_ble_eq_true rfl, Nat.le_of_ble_eq_true rfl⟩ ⟨Nat.le_of_ble_eq_true rfl, Nat.le_of_ble_eq_true rfl⟩ (Nat.le_of_ble_eq_true rfl) dL_law_990 (fun r205 S206 H locs hF hI => ?_)
        refine lv_aload_n hx hb dL_law_993 rfl (lv_at hl 2 rfl) ?_
        refine lv_aload_n hx hb dL_law_994 rfl (lv_at hl 0 rfl) ?_
        refine lv_iload_n hx hb dL_law_995 rfl (lv_at hl 3 rfl) ?_
        refine lv_iconst (v := 1) hx hb dL_law_996 (by decide) ?_
        refine lv_iadd hx hb dL_law_997 ?_
        refine m_sld C hX hbl hEb hI hF dL_law_998 (fun r207 hF => ?_)
        refine m_callVi C cd_L_133 ⟨rfl, by decide⟩ hl.1 hI hF (fun _ h => ok_X7_ask h) rfl rfl ⟨rfl, rfl, Nat.le_of_ble_eq_true rfl, Nat.le_of_ble_eq_true rfl⟩ ⟨Nat.le_of_ble_eq_true rfl, Nat.le_of_ble_eq_true rfl⟩ (Nat.le_of_ble_eq_true rfl) dL_law_999 (fun r208 S209 H locs hF hI => ?_)
        refine m_icmp_eq C (tgt := 1276) hF dL_law_1002 (by decide) (fun hF => ?_) (fun hF => ?_)
        · exact (bl_L_law_1276 C hX hbl hEb (k18 := (f_L_law_18 xs L k1282 n)) ih) v1 v2 v3 S209 _ _ _ hF hI (lv_sub hl [0, 1, 2, 3] rfl)
        · refine lv_iconst (v := 0) hx hb dL_law_1005 (by decide) ?_
          exact m_lawret C hEb hI hF dL_law_1006
      refine m_if hF (fun c29 hF => ?_) (fun c29 hF => ?_)
      · refine m_swIn C dL_law_33 c29 29 rfl (by decide) (by decide) rfl (tgt := 1007) (by decide) ?_
        refine lv_aload_n hx hb dL_law_1007 rfl (lv_at hl 1 rfl) ?_
        refine lv_aload_n hx hb dL_law_1008 rfl (lv_at hl 0 rfl) ?_
        refine lv_iload_n hx hb dL_law_1009 rfl (lv_at hl 3 rfl) ?_
        refine lv_iconst (v := 1) hx hb dL_law_1010 (by decide) ?_
        refine lv_iadd hx hb dL_law_1011 ?_
        refine m_sld C hX hbl hEb hI hF dL_law_1012 (fun r210 hF => ?_)
        refine lv_aload_n hx hb dL_law_1013 rfl (lv_at hl 0 rfl) ?_
        refine lv_iload_n hx hb dL_law_1014 rfl (lv_at hl 3 rfl) ?_
        refine lv_iconst (v := 2) hx hb dL_law_1015 (by decide) ?_
        refine lv_iadd hx hb dL_law_1016 ?_
        refine m_sld C hX hbl hEb hI hF dL_law_1017 (fun r211 hF => ?_)
        refine lv_aload_n hx hb dL_law_1018 rfl (lv_at hl 0 rfl) ?_
        refine lv_iload_n hx hb dL_law_1019 rfl (lv_at hl 3 rfl) ?_
        refine lv_iconst (v := 3) hx hb dL_law_1020 (by decide) ?_
        refine lv_iadd hx hb dL_law_1021 ?_
        refine m_sld C hX hbl hEb hI hF dL_law_1022 (fun r212 hF => ?_)
        refine m_callVi C cd_L_134 ⟨rfl, by decide⟩ hl.1 hI hF (fun _ h => ok_X6_shepherds h) rfl rfl ⟨rfl, rfl, Nat.le_of_ble_eq_true rfl, Nat.le_of_ble_eq_true rfl⟩ ⟨Nat.le_of_ble_eq_true rfl, Nat.le_of_ble_eq_true rfl⟩ (Nat.le_of_ble_eq_true rfl) dL_law_1023 (fun r213 S214 H locs hF hI => ?_)
        refine lv_aload_n hx hb dL_law_1026 rfl (lv_at hl 2 rfl) ?_
        refine lv_aload_n hx hb dL_law_1027 rfl (lv_at hl 0 rfl) ?_
        refine lv_iload_n hx hb dL_law_1028 rfl (lv_at hl 3 rfl) ?_
        refine lv_iconst (v := 1) hx hb dL_law_1029 (by decide) ?_
        refine lv_iadd hx hb dL_law_1030 ?_
        refine m_sld C hX hbl hEb hI hF dL_law_1031 (fun r215 hF => ?_)
        refine lv_aload_n hx hb dL_law_1032 rfl (lv_at hl 0 rfl) ?_
        refine lv_iload_n hx hb dL_law_1033 rfl (lv_at hl 3 rfl) ?_
        refine lv_iconst (v := 2) hx hb dL_law_1034 (by decide) ?_
        refine lv_iadd hx hb dL_law_1035 ?_
        refine m_sld C hX hbl hEb hI hF dL_law_1036 (fun r216 hF => ?_)
        refine lv_aload_n hx hb dL_law_1037 rfl (lv_at hl 0 rfl) ?_
        refine lv_iload_n hx hb dL_law_1038 rfl (lv_at hl 3 rfl) ?_
        refine lv_iconst (v := 3) hx hb dL_law_1039 (by decide) ?_
        refine lv_iadd hx hb dL_law_1040 ?_
        refine m_sld C hX hbl hEb hI hF dL_law_1041 (fun r217 hF => ?_)
        refine m_callVi C cd_L_137 ⟨rfl, by decide⟩ hl.1 hI hF (fun _ h => ok_X7_shepherds h) rfl rfl ⟨rfl, rfl, Nat.le_of_ble_eq_true rfl, Nat.le_of_ble_eq_true rfl⟩ ⟨Nat.le_of_ble_eq_true rfl, Nat.le_of_ble_eq_true rfl⟩ (Nat.le_of_ble_eq_true rfl) dL_law_1042 (fun r218 S219 H locs hF hI => ?_)
        refine m_icmp_eq C (tgt := 1276) hF dL_law_1045 (by decide) (fun hF => ?_) (fun hF => ?_)
        · exact (bl_L_law_1276 C hX hbl hEb (k18 := (f_L_law_18 xs L k1282 n)) ih) v1 v2 v3 S219 _ _ _ hF hI (lv_sub hl [0, 1, 2, 3] rfl)
        · refine lv_iconst (v := 0) hx hb dL_law_1048 (by decide) ?_
          exact m_lawret C hEb hI hF dL_law_1049
      refine m_if hF (fun c30 hF => ?_) (fun c30 hF => ?_)
      · refine m_swIn C dL_law_33 c30 30 rfl (by decide) (by decide) rfl (tgt := 1050) (by decide) ?_
        refine lv_aload_n hx hb dL_law_1050 rfl (lv_at hl 1 rfl) ?_
        refine lv_aload_n hx hb dL_law_1051 rfl (lv_at hl 0 rfl) ?_
        refine lv_iload_n hx hb dL_law_1052 rfl (lv_at hl 3 rfl) ?_
        refine lv_iconst (v := 1) hx hb dL_law_1053 (by decide) ?_
        refine lv_iadd hx hb dL_law_1054 ?_
        refine m_sld C hX hbl hEb hI hF dL_law_1055 (fun r220 hF => ?_)
        refine lv_aload_n hx hb dL_law_1056 rfl (lv_at hl 0 rfl) ?_
        refine lv_iload_n hx hb dL_law_1057 rfl (lv_at hl 3 rfl) ?_
        refine lv_iconst (v := 2) hx hb dL_law_1058 (by decide) ?_
        refine lv_iadd hx hb dL_law_1059 ?_
        refine m_sld C hX hbl hEb hI hF dL_law_1060 (fun r221 hF => ?_)
        refine lv_aload_n hx hb dL_law_1061 rfl (lv_at hl 0 rfl) ?_
        refine lv_iload_n hx hb dL_law_1062 rfl (lv_at hl 3 rfl) ?_
        refine lv_iconst (v := 3) hx hb dL_law_1063 (by decide) ?_
        refine lv_iadd hx hb dL_law_1064 ?_
        refine m_sld C hX hbl hEb hI hF dL_law_1065 (fun r222 hF => ?_)
        refine lv_aload_n hx hb dL_law_1066 rfl (lv_at hl 0 rfl) ?_
        refine lv_iload_n hx hb dL_law_1067 rfl (lv_at hl 3 rfl) ?_
        refine lv_iconst (v := 4) hx hb dL_law_1068 (by decide) ?_
        refine lv_iadd hx hb dL_law_1069 ?_
        refine m_sld C hX hbl hEb hI hF dL_law_1070 (fun r223 hF => ?_)
        refine lv_aload_n hx hb dL_law_1071 rfl (lv_at hl 0 rfl) ?_
        refine lv_iload_n hx hb dL_law_1072 rfl (lv_at hl 3 rfl) ?_
        refine lv_iconst (v := 5) hx hb dL_law_1073 (by decide) ?_
        refine lv_iadd hx hb dL_law_1074 ?_
        refine m_sld C hX hbl hEb hI hF dL_law_1075 (fun r224 hF => ?_)
        refine m_callVi C cd_L_138 ⟨rfl, by decide⟩ hl.1 hI hF (fun _ h => ok_X6_misheard h) rfl rfl ⟨rfl, rfl, Nat.le_of_ble_eq_true rfl, Nat.le_of_ble_eq_true rfl⟩ ⟨Nat.le_of_ble_eq_true rfl, Nat.le_of_ble_eq_true rfl⟩ (Nat.le_of_ble_eq_true rfl) dL_law_1076 (fun r225 S226 H locs hF hI => ?_)
        refine lv_aload_n hx hb dL_law_1079 rfl (lv_at hl 2 rfl) ?_
        refine lv_aload_n hx hb dL_law_1080 rfl (lv_at hl 0 rfl) ?_
        refine lv_iload_n hx hb dL_law_1081 rfl (lv_at hl 3 rfl) ?_
        refine lv_iconst (v := 1) hx hb dL_law_1082 (by decide) ?_
        refine lv_iadd hx hb dL_law_1083 ?_
        refine m_sld C hX hbl hEb hI hF dL_law_1084 (fun r227 hF => ?_)
        refine lv_aload_n hx hb dL_law_1085 rfl (lv_at hl 0 rfl) ?_
        refine lv_iload_n hx hb dL_law_1086 rfl (lv_at hl 3 rfl) ?_
        refine lv_iconst (v := 2) hx hb dL_law_1087 (by decide) ?_
        refine lv_iadd hx hb dL_law_1088 ?_
        refine m_sld C hX hbl hEb hI hF dL_law_1089 (fun r228 hF => ?_)
        refine lv_aload_n hx hb dL_law_1090 rfl (lv_at hl 0 rfl) ?_
        refine lv_iload_n hx hb dL_law_1091 rfl (lv_at hl 3 rfl) ?_
        refine lv_iconst (v := 3) hx hb dL_law_1092 (by decide) ?_
        refine lv_iadd hx hb dL_law_1093 ?_
        refine m_sld C hX hbl hEb hI hF dL_law_1094 (fun r229 hF => ?_)
        refine lv_aload_n hx hb dL_law_1095 rfl (lv_at hl 0 rfl) ?_
        refine lv_iload_n hx hb dL_law_1096 rfl (lv_at hl 3 rfl) ?_
        refine lv_iconst (v := 4) hx hb dL_law_1097 (by decide) ?_
        refine lv_iadd hx hb dL_law_1098 ?_
        refine m_sld C hX hbl hEb hI hF dL_law_1099 (fun r230 hF => ?_)
        refine lv_aload_n hx hb dL_law_1100 rfl (lv_at hl 0 rfl) ?_
        refine lv_iload_n hx hb dL_law_1101 rfl (lv_at hl 3 rfl) ?_
        refine lv_iconst (v := 5) hx hb dL_law_1102 (by decide) ?_
        refine lv_iadd hx hb dL_law_1103 ?_
        refine m_sld C hX hbl hEb hI hF dL_law_1104 (fun r231 hF => ?_)
        refine m_callVi C cd_L_142 ⟨rfl, by decide⟩ hl.1 hI hF (fun _ h => ok_X7_misheard h) rfl rfl ⟨rfl, rfl, Nat.le_of_ble_eq_true rfl, Nat.le_of_ble_eq_true rfl⟩ ⟨Nat.le_of_ble_eq_true rfl, Nat.le_of_ble_eq_true rfl⟩ (Nat.le_of_ble_eq_true rfl) dL_law_1105 (fun r232 S233 H locs hF hI => ?_)
        refine m_icmp_eq C (tgt := 1276) hF dL_law_1108 (by decide) (fun hF => ?_) (fun hF => ?_)
        · exact (bl_L_law_1276 C hX hbl hEb (k18 := (f_L_law_18 xs L k1282 n)) ih) v1 v2 v3 S233 _ _ _ hF hI (lv_sub hl [0, 1, 2, 3] rfl)
        · refine lv_iconst (v := 0) hx hb dL_law_1111 (by decide) ?_
          exact m_lawret C hEb hI hF dL_law_1112
      refine m_if hF (fun c31 hF => ?_) (fun c31 hF => ?_)
      · refine m_swIn C dL_law_33 c31 31 rfl (by decide) (by decide) rfl (tgt := 1113) (by decide) ?_
        refine lv_aload_n hx hb dL_law_1113 rfl (lv_at hl 1 rfl) ?_
        refine lv_aload_n hx hb dL_law_1114 rfl (lv_at hl 0 rfl) ?_
        refine lv_iload_n hx hb dL_law_1115 rfl (lv_at hl 3 rfl) ?_
        refine lv_iconst (v := 1) hx hb dL_law_1116 (by decide) ?_
        refine lv_iadd hx hb dL_law_1117 ?_
        refine m_sld C hX hbl hEb hI hF dL_law_1118 (fun r234 hF => ?_)
        refine lv_aload_n hx hb dL_law_1119 rfl (lv_at hl 0 rfl) ?_
        refine lv_iload_n hx hb dL_law_1120 rfl (lv_at hl 3 rfl) ?_
        refine lv_iconst (v := 2) hx hb dL_law_1121 (by decide) ?_
        refine lv_iadd hx hb dL_law_1122 ?_
        refine m_sld C hX hbl hEb hI hF dL_law_1123 (fun r235 hF => ?_)
        refine m_callVi C cd_L_143 ⟨rfl, by decide⟩ hl.1 hI hF (fun _ h => ok_X6_winters h) rfl rfl ⟨rfl, rfl, Nat.le_of_ble_eq_true rfl, Nat.le_of_ble_eq_true rfl⟩ ⟨Nat.le_of_ble_eq_true rfl, Nat.le_of_ble_eq_true rfl⟩ (Nat.le_of_ble_eq_true rfl) dL_law_1124 (fun r236 S237 H locs hF hI => ?_)
        refine lv_aload_n hx hb dL_law_1127 rfl (lv_at hl 2 rfl) ?_
        refine lv_aload_n hx hb dL_law_1128 rfl (lv_at hl 0 rfl) ?_
        refine lv_iload_n hx hb dL_law_1129 rfl (lv_at hl 3 rfl) ?_
        refine lv_iconst (v := 1) hx hb dL_law_1130 (by decide) ?_
        refine lv_iadd hx hb dL_law_1131 ?_
        refine m_sld C hX hbl hEb hI hF dL_law_1132 (fun r238 hF => ?_)
        refine lv_aload_n hx hb dL_law_1133 rfl (lv_at hl 0 rfl) ?_
        refine lv_iload_n hx hb dL_law_1134 rfl (lv_at hl 3 rfl) ?_
        refine lv_iconst (v := 2) hx hb dL_law_1135 (by decide) ?_
        refine lv_iadd hx hb dL_law_1136 ?_
        refine m_sld C hX hbl hEb hI hF dL_law_1137 (fun r239 hF => ?_)
        refine m_callVi C cd_L_146 ⟨rfl, by decide⟩ hl.1 hI hF (fun _ h => ok_X7_winters h) rfl rfl ⟨rfl, rfl, Nat.le_of_ble_eq_true rfl, Nat.le_of_ble_eq_true rfl⟩ ⟨Nat.le_of_ble_eq_true rfl, Nat.le_of_ble_eq_true rfl⟩ (Nat.le_of_ble_eq_true rfl) dL_law_1138 (fun r240 S241 H locs hF hI => ?_)
        refine m_icmp_eq C (tgt := 1276) hF dL_law_1141 (by decide) (fun hF => ?_) (fun hF => ?_)
        · exact (bl_L_law_1276 C hX hbl hEb (k18 := (f_L_law_18 xs L k1282 n)) ih) v1 v2 v3 S241 _ _ _ hF hI (lv_sub hl [0, 1, 2, 3] rfl)
        · refine lv_iconst (v := 0) hx hb dL_law_1144 (by decide) ?_
          exact m_lawret C hEb hI hF dL_law_1145
      refine m_if hF (fun c32 hF => ?_) (fun c32 hF => ?_)
      · refine m_swIn C dL_law_33 c32 32 rfl (by decide) (by decide) rfl (tgt := 1146) (by decide) ?_
        refine lv_aload_n hx hb dL_law_1146 rfl (lv_at hl 1 rfl) ?_
        refine lv_aload_n hx hb dL_law_1147 rfl (lv_at hl 0 rfl) ?_
        refine lv_iload_n hx hb dL_law_1148 rfl (lv_at hl 3 rfl) ?_
        refine lv_iconst (v := 1) hx hb dL_law_1149 (by decide) ?_
        refine lv_iadd hx hb dL_law_1150 ?_
        refine m_sld C hX hbl hEb hI hF dL_law_1151 (fun r242 hF => ?_)
        refine m_callVl C cd_L_147 ⟨rfl, by decide⟩ hl.1 hI hF (fun _ h => ok_X6_part h) rfl rfl ⟨rfl, rfl, Nat.le_of_ble_eq_true rfl, Nat.le_of_ble_eq_true rfl⟩ ⟨Nat.le_of_ble_eq_true rfl, Nat.le_of_ble_eq_true rfl⟩ (Nat.le_of_ble_eq_true rfl) dL_law_1152 (fun r243 S244 H locs hF hI => ?_)
        refine lv_aload_n hx hb dL_law_1155 rfl (lv_at hl 2 rfl) ?_
        refine lv_aload_n hx hb dL_law_1156 rfl (lv_at hl 0 rfl) ?_
        refine lv_iload_n hx hb dL_law_1157 rfl (lv_at hl 3 rfl) ?_
        refine lv_iconst (v := 1) hx hb dL_law_1158 (by decide) ?_
        refine lv_iadd hx hb dL_law_1159 ?_
        refine m_sld C hX hbl hEb hI hF dL_law_1160 (fun r245 hF => ?_)
        refine m_callVl C cd_L_151 ⟨rfl, by decide⟩ hl.1 hI hF (fun _ h => ok_X7_part h) rfl rfl ⟨rfl, rfl, Nat.le_of_ble_eq_true rfl, Nat.le_of_ble_eq_true rfl⟩ ⟨Nat.le_of_ble_eq_true rfl, Nat.le_of_ble_eq_true rfl⟩ (Nat.le_of_ble_eq_true rfl) dL_law_1161 (fun r246 S247 H locs hF hI => ?_)
        refine W.lcmp hx hb dL_law_1164 ?_
        refine m_if_eq C (tgt := 1276) hF dL_law_1165 (by decide) (fun hF => ?_) (fun hF => ?_)
        · exact (bl_L_law_1276 C hX hbl hEb (k18 := (f_L_law_18 xs L k1282 n)) ih) v1 v2 v3 S247 _ _ _ hF hI (lv_sub hl [0, 1, 2, 3] rfl)
        · refine lv_iconst (v := 0) hx hb dL_law_1168 (by decide) ?_
          exact m_lawret C hEb hI hF dL_law_1169
      refine m_if hF (fun c33 hF => ?_) (fun c33 hF => ?_)
      · refine m_swIn C dL_law_33 c33 33 rfl (by decide) (by decide) rfl (tgt := 1170) (by decide) ?_
        refine lv_aload_n hx hb dL_law_1170 rfl (lv_at hl 1 rfl) ?_
        refine lv_aload_n hx hb dL_law_1171 rfl (lv_at hl 0 rfl) ?_
        refine lv_iload_n hx hb dL_law_1172 rfl (lv_at hl 3 rfl) ?_
        refine lv_iconst (v := 1) hx hb dL_law_1173 (by decide) ?_
        refine lv_iadd hx hb dL_law_1174 ?_
        refine m_sld C hX hbl hEb hI hF dL_law_1175 (fun r248 hF => ?_)
        refine m_callVi C cd_L_152 ⟨rfl, by decide⟩ hl.1 hI hF (fun _ h => ok_X6_image h) rfl rfl ⟨rfl, rfl, Nat.le_of_ble_eq_true rfl, Nat.le_of_ble_eq_true rfl⟩ ⟨Nat.le_of_ble_eq_true rfl, Nat.le_of_ble_eq_true rfl⟩ (Nat.le_of_ble_eq_true rfl) dL_law_1176 (fun r249 S250 H locs hF hI => ?_)
        refine lv_aload_n hx hb dL_law_1179 rfl (lv_at hl 2 rfl) ?_
        refine lv_aload_n hx hb dL_law_1180 rfl (lv_at hl 0 rfl) ?_
        refine lv_iload_n hx hb dL_law_1181 rfl (lv_at hl 3 rfl) ?_
        refine lv_iconst (v := 1) hx hb dL_law_1182 (by decide) ?_
        refine lv_iadd hx hb dL_law_1183 ?_
        refine m_sld C hX hbl hEb hI hF dL_law_1184 (fun r251 hF => ?_)
        refine m_callVi C cd_L_155 ⟨rfl, by decide⟩ hl.1 hI hF (fun _ h => ok_X7_image h) rfl rfl ⟨rfl, rfl, Nat.le_of_ble_eq_true rfl, Nat.le_of_ble_eq_true rfl⟩ ⟨Nat.le_of_ble_eq_true rfl, Nat.le_of_ble_eq_true rfl⟩ (Nat.le_of_ble_eq_true rfl) dL_law_1185 (fun r252 S253 H locs hF hI => ?_)
        refine m_icmp_eq C (tgt := 1276) hF dL_law_1188 (by decide) (fun hF => ?_) (fun hF => ?_)
        · exact (bl_L_law_1276 C hX hbl hEb (k18 := (f_L_law_18 xs L k1282 n)) ih) v1 v2 v3 S253 _ _ _ hF hI (lv_sub hl [0, 1, 2, 3] rfl)
        · refine lv_iconst (v := 0) hx hb dL_law_1191 (by decide) ?_
          exact m_lawret C hEb hI hF dL_law_1192
      refine m_if hF (fun c34 hF => ?_) (fun c34 hF => ?_)
      · refine m_swIn C dL_law_33 c34 34 rfl (by decide) (by decide) rfl (tgt := 1193) (by decide) ?_
        refine lv_aload_n hx hb dL_law_1193 rfl (lv_at hl 1 rfl) ?_
        refine lv_aload_n hx hb dL_law_1194 rfl (lv_at hl 0 rfl) ?_
        refine lv_iload_n hx hb dL_law_1195 rfl (lv_at hl 3 rfl) ?_
        refine lv_iconst (v := 1) hx hb dL_law_1196 (by decide) ?_
        refine lv_iadd hx hb dL_law_1197 ?_
        refine m_sld C hX hbl hEb hI hF dL_law_1198 (fun r254 hF => ?_)
        refine m_callVi C cd_L_156 ⟨rfl, by decide⟩ hl.1 hI hF (fun _ h => ok_X6_from h) rfl rfl ⟨rfl, rfl, Nat.le_of_ble_eq_true rfl, Nat.le_of_ble_eq_true rfl⟩ ⟨Nat.le_of_ble_eq_true rfl, Nat.le_of_ble_eq_true rfl⟩ (Nat.le_of_ble_eq_true rfl) dL_law_1199 (fun r255 S256 H locs hF hI => ?_)
        refine lv_aload_n hx hb dL_law_1202 rfl (lv_at hl 2 rfl) ?_
        refine lv_aload_n hx hb dL_law_1203 rfl (lv_at hl 0 rfl) ?_
        refine lv_iload_n hx hb dL_law_1204 rfl (lv_at hl 3 rfl) ?_
        refine lv_iconst (v := 1) hx hb dL_law_1205 (by decide) ?_
        refine lv_iadd hx hb dL_law_1206 ?_
        refine m_sld C hX hbl hEb hI hF dL_law_1207 (fun r257 hF => ?_)
        refine m_callVi C cd_L_159 ⟨rfl, by decide⟩ hl.1 hI hF (fun _ h => ok_X7_from h) rfl rfl ⟨rfl, rfl, Nat.le_of_ble_eq_true rfl, Nat.le_of_ble_eq_true rfl⟩ ⟨Nat.le_of_ble_eq_true rfl, Nat.le_of_ble_eq_true rfl⟩ (Nat.le_of_ble_eq_true rfl) dL_law_1208 (fun r258 S259 H locs hF hI => ?_)
        refine m_icmp_eq C (tgt := 1276) hF dL_law_1211 (by decide) (fun hF => ?_) (fun hF => ?_)
        · exact (bl_L_law_1276 C hX hbl hEb (k18 := (f_L_law_18 xs L k1282 n)) ih) v1 v2 v3 S259 _ _ _ hF hI (lv_sub hl [0, 1, 2, 3] rfl)
        · refine lv_iconst (v := 0) hx hb dL_law_1214 (by decide) ?_
          exact m_lawret C hEb hI hF dL_law_1215
      refine m_if hF (fun c35 hF => ?_) (fun c35 hF => ?_)
      · refine m_swIn C dL_law_33 c35 35 rfl (by decide) (by decide) rfl (tgt := 1216) (by decide) ?_
        refine lv_aload_n hx hb dL_law_1216 rfl (lv_at hl 1 rfl) ?_
        refine lv_aload_n hx hb dL_law_1217 rfl (lv_at hl 0 rfl) ?_
        refine lv_iload_n hx hb dL_law_1218 rfl (lv_at hl 3 rfl) ?_
        refine lv_iconst (v := 1) hx hb dL_law_1219 (by decide) ?_
        refine lv_iadd hx hb dL_law_1220 ?_
        refine m_sld C hX hbl hEb hI hF dL_law_1221 (fun r260 hF => ?_)
        refine m_callVi C cd_L_160 ⟨rfl, by decide⟩ hl.1 hI hF (fun _ h => ok_X6_status h) rfl rfl ⟨rfl, rfl, Nat.le_of_ble_eq_true rfl, Nat.le_of_ble_eq_true rfl⟩ ⟨Nat.le_of_ble_eq_true rfl, Nat.le_of_ble_eq_true rfl⟩ (Nat.le_of_ble_eq_true rfl) dL_law_1222 (fun r261 S262 H locs hF hI => ?_)
        refine lv_aload_n hx hb dL_law_1225 rfl (lv_at hl 2 rfl) ?_
        refine lv_aload_n hx hb dL_law_1226 rfl (lv_at hl 0 rfl) ?_
        refine lv_iload_n hx hb dL_law_1227 rfl (lv_at hl 3 rfl) ?_
        refine lv_iconst (v := 1) hx hb dL_law_1228 (by decide) ?_
        refine lv_iadd hx hb dL_law_1229 ?_
        refine m_sld C hX hbl hEb hI hF dL_law_1230 (fun r263 hF => ?_)
        refine m_callVi C cd_L_163 ⟨rfl, by decide⟩ hl.1 hI hF (fun _ h => ok_X7_status h) rfl rfl ⟨rfl, rfl, Nat.le_of_ble_eq_true rfl, Nat.le_of_ble_eq_true rfl⟩ ⟨Nat.le_of_ble_eq_true rfl, Nat.le_of_ble_eq_true rfl⟩ (Nat.le_of_ble_eq_true rfl) dL_law_1231 (fun r264 S265 H locs hF hI => ?_)
        refine m_icmp_eq C (tgt := 1276) hF dL_law_1234 (by decide) (fun hF => ?_) (fun hF => ?_)
        · exact (bl_L_law_1276 C hX hbl hEb (k18 := (f_L_law_18 xs L k1282 n)) ih) v1 v2 v3 S265 _ _ _ hF hI (lv_sub hl [0, 1, 2, 3] rfl)
        · refine lv_iconst (v := 0) hx hb dL_law_1237 (by decide) ?_
          exact m_lawret C hEb hI hF dL_law_1238
      refine m_if hF (fun c36 hF => ?_) (fun c36 hF => ?_)
      · refine m_swIn C dL_law_33 c36 36 rfl (by decide) (by decide) rfl (tgt := 1239) (by decide) ?_
        refine lv_aload_n hx hb dL_law_1239 rfl (lv_at hl 1 rfl) ?_
        refine lv_aload_n hx hb dL_law_1240 rfl (lv_at hl 0 rfl) ?_
        refine lv_iload_n hx hb dL_law_1241 rfl (lv_at hl 3 rfl) ?_
        refine lv_iconst (v := 1) hx hb dL_law_1242 (by decide) ?_
        refine lv_iadd hx hb dL_law_1243 ?_
        refine m_sld C hX hbl hEb hI hF dL_law_1244 (fun r266 hF => ?_)
        refine m_callVi C cd_L_164 ⟨rfl, by decide⟩ hl.1 hI hF (fun _ h => ok_X6_count h) rfl rfl ⟨rfl, rfl, Nat.le_of_ble_eq_true rfl, Nat.le_of_ble_eq_true rfl⟩ ⟨Nat.le_of_ble_eq_true rfl, Nat.le_of_ble_eq_true rfl⟩ (Nat.le_of_ble_eq_true rfl) dL_law_1245 (fun r267 S268 H locs hF hI => ?_)
        refine lv_aload_n hx hb dL_law_1248 rfl (lv_at hl 2 rfl) ?_
        refine lv_aload_n hx hb dL_law_1249 rfl (lv_at hl 0 rfl) ?_
        refine lv_iload_n hx hb dL_law_1250 rfl (lv_at hl 3 rfl) ?_
        refine lv_iconst (v := 1) hx hb dL_law_1251 (by decide) ?_
        refine lv_iadd hx hb dL_law_1252 ?_
        refine m_sld C hX hbl hEb hI hF dL_law_1253 (fun r269 hF => ?_)
        refine m_callVi C cd_L_167 ⟨rfl, by decide⟩ hl.1 hI hF (fun _ h => ok_X7_count h) rfl rfl ⟨rfl, rfl, Nat.le_of_ble_eq_true rfl, Nat.le_of_ble_eq_true rfl⟩ ⟨Nat.le_of_ble_eq_true rfl, Nat.le_of_ble_eq_true rfl⟩ (Nat.le_of_ble_eq_true rfl) dL_law_1254 (fun r270 S271 H locs hF hI => ?_)
        refine m_icmp_eq C (tgt := 1276) hF dL_law_1257 (by decide) (fun hF => ?_) (fun hF => ?_)
        · exact (bl_L_law_1276 C hX hbl hEb (k18 := (f_L_law_18 xs L k1282 n)) ih) v1 v2 v3 S271 _ _ _ hF hI (lv_sub hl [0, 1, 2, 3] rfl)
        · refine lv_iconst (v := 0) hx hb dL_law_1260 (by decide) ?_
          exact m_lawret C hEb hI hF dL_law_1261
      refine m_if hF (fun c37 hF => ?_) (fun c37 hF => ?_)
      · refine m_swIn C dL_law_33 c37 37 rfl (by decide) (by decide) rfl (tgt := 1262) (by decide) ?_
        refine lv_aload_n hx hb dL_law_1262 rfl (lv_at hl 1 rfl) ?_
        refine m_callVlR C cd_L_168 ⟨rfl, by decide⟩ hl.1 hI hF (fun _ h => ok_X6_digest h) rfl rfl ⟨rfl, rfl, Nat.le_of_ble_eq_true rfl, Nat.le_of_ble_eq_true rfl⟩ ⟨Nat.le_of_ble_eq_true rfl, Nat.le_of_ble_eq_true rfl⟩ (Nat.le_of_ble_eq_true rfl) dL_law_1263 (fun r272 H locs hF hI => ?_)
        refine lv_aload_n hx hb dL_law_1266 rfl (lv_at hl 2 rfl) ?_
        refine m_callVl C cd_L_172 ⟨rfl, by decide⟩ hl.1 hI hF (fun _ h => ok_X7_digest h) rfl rfl ⟨rfl, rfl, Nat.le_of_ble_eq_true rfl, Nat.le_of_ble_eq_true rfl⟩ ⟨Nat.le_of_ble_eq_true rfl, Nat.le_of_ble_eq_true rfl⟩ (Nat.le_of_ble_eq_true rfl) dL_law_1267 (fun r273 S274 H locs hF hI => ?_)
        refine W.lcmp hx hb dL_law_1270 ?_
        refine m_if_eq C (tgt := 1276) hF dL_law_1271 (by decide) (fun hF => ?_) (fun hF => ?_)
        · exact (bl_L_law_1276 C hX hbl hEb (k18 := (f_L_law_18 xs L k1282 n)) ih) v1 v2 v3 S274 _ _ _ hF hI (lv_sub hl [0, 1, 2, 3] rfl)
        · refine lv_iconst (v := 0) hx hb dL_law_1274 (by decide) ?_
          exact m_lawret C hEb hI hF dL_law_1275
      refine lv_tableOut (tgt := 1276) hx hb dL_law_33 (by have := lv_neT c0 (a := 0) rfl; have := lv_neT c1 (a := 1) rfl; have := lv_neT c2 (a := 2) rfl; have := lv_neT c3 (a := 3) rfl; have := lv_neT c4 (a := 4) rfl; have := lv_neT c5 (a := 5) rfl; have := lv_neT c6 (a := 6) rfl; have := lv_neT c7 (a := 7) rfl; have := lv_neT c8 (a := 8) rfl; have := lv_neT c9 (a := 9) rfl; have := lv_neT c10 (a := 10) rfl; have := lv_neT c11 (a := 11) rfl; have := lv_neT c12 (a := 12) rfl; have := lv_neT c13 (a := 13) rfl; have := lv_neT c14 (a := 14) rfl; have := lv_neT c15 (a := 15) rfl; have := lv_neT c16 (a := 16) rfl; have := lv_neT c17 (a := 17) rfl; have := lv_neT c18 (a := 18) rfl; have := lv_neT c19 (a := 19) rfl; have := lv_neT c20 (a := 20) rfl; have := lv_neT c21 (a := 21) rfl; have := lv_neT c22 (a := 22) rfl; have := lv_neT c23 (a := 23) rfl; have := lv_neT c24 (a := 24) rfl; have := lv_neT c25 (a := 25) rfl; have := lv_neT c26 (a := 26) rfl; have := lv_neT c27 (a := 27) rfl; have := lv_neT c28 (a := 28) rfl; have := lv_neT c29 (a := 29) rfl; have := lv_neT c30 (a := 30) rfl; have := lv_neT c31 (a := 31) rfl; have := lv_neT c32 (a := 32) rfl; have := lv_neT c33 (a := 33) rfl; have := lv_neT c34 (a := 34) rfl; have := lv_neT c35 (a := 35) rfl; have := lv_neT c36 (a := 36) rfl; have := lv_neT c37 (a := 37) rfl; omega) (by decide) ?_
      exact (bl_L_law_1276 C hX hbl hEb (k18 := (f_L_law_18 xs L k1282 n)) ih) v1 v2 v3 S _ _ _ hF hI (lv_sub hl [0, 1, 2, 3] rfl)
set_option maxRecDepth 100000 in
set_option maxHeartbeats 8000000 in
theorem bl_L_law_1282 {p : Program} {l : Launch} {e : Env} {s : State} {m : MethodId} {below : List Frame} {meth : Method} {c : Code} {E : mE} {b L : Nat} {xs : Nat → Int32} (C : mCx p s m #[Value.ref b] meth c code 4 RL ret E 0) (hX : va_X b L xs s s.heap) (hbl : b < s.heap.size) (hEb : E.b = s.heap.size) : ∀  (S : mS) (H : Heap) (locs : List Loc) (ls : Array Slot), f_L_law_1282 xs L S = some 1 → mIv s E S H locs 100 → lv_has ls 4 [(0, .ref b)] → W p l e room_1 s m #[Value.ref b] below meth c H locs 100 3182 (lw_Z below #[Value.ref b] s) (F0 m 1282 ls []) := by
  have hx := C.1
  have hb := C.2.1
  intro S H locs ls hF hI hl
  refine lv_iconst (v := 1) hx hb dL_law_1282 (by decide) ?_
  exact m_lawret C hEb hI hF dL_law_1283
set_option maxRecDepth 100000 in
set_option maxHeartbeats 8000000 in
theorem law_walk {p : Program} {l : Launch} {e : Env} {s : State} {m : MethodId} {below : List Frame} {meth : Method} {c : Code} {E : mE} {b L : Nat} {xs : Nat → Int32} (C : mCx p s m #[Value.ref b] meth c code 4 RL ret E 0) (hX : va_X b L xs s s.heap) (hbl : b < s.heap.size) (hEb : E.b = s.heap.size) (S : mS) (H : Heap) (locs : List Loc) (ls : Array Slot) (hF : f_law xs L S = some 1) (hI : mIv s E S H locs 0) (hl : lv_has ls 4 [(0, .ref b)]) : W p l e room_1 s m #[Value.ref b] below meth c H locs 0 0 (lw_Z below #[Value.ref b] s) (F0 m 0 ls []) := by
  have hx := C.1
  have hb := C.2.1
  refine m_new C nw_L_7 mcl_X6 (by decide +kernel) hI hF (Nat.le_of_ble_eq_true rfl) (Nat.le_of_ble_eq_true rfl) dL_law_0 (fun r1 S2 H hF hI => ?_)
  refine lv_dup hx hb dL_law_3 rfl ?_
  refine m_callIv C cd_L_9 hl.1 hI hF (fun _ h => ok_X6_init h) rfl rfl ⟨rfl, rfl, Nat.le_of_ble_eq_true rfl, Nat.le_of_ble_eq_true rfl⟩ ⟨Nat.le_of_ble_eq_true rfl, Nat.le_of_ble_eq_true rfl⟩ (Nat.le_of_ble_eq_true rfl) dL_law_4 (fun S4 H locs hF hI => ?_)
  refine lv_astore_n (lv' := [(1, .ref (mA E.b r1)), (0, .ref b)]) hx hb dL_law_7 rfl hl (by decide) rfl (fun ls hl => ?_)
  refine m_new C nw_L_10 mcl_X7 (by decide +kernel) hI hF (Nat.le_of_ble_eq_true rfl) (Nat.le_of_ble_eq_true rfl) dL_law_8 (fun r5 S6 H hF hI => ?_)
  refine lv_dup hx hb dL_law_11 rfl ?_
  refine m_callIv C cd_L_12 hl.1 hI hF (fun _ h => ok_X7_init h) rfl rfl ⟨rfl, rfl, Nat.le_of_ble_eq_true rfl, Nat.le_of_ble_eq_true rfl⟩ ⟨Nat.le_of_ble_eq_true rfl, Nat.le_of_ble_eq_true rfl⟩ (Nat.le_of_ble_eq_true rfl) dL_law_12 (fun S8 H locs hF hI => ?_)
  refine lv_astore_n (lv' := [(2, .ref (mA E.b r5)), (1, .ref (mA E.b r1)), (0, .ref b)]) hx hb dL_law_15 rfl hl (by decide) rfl (fun ls hl => ?_)
  refine lv_iconst (v := 0) hx hb dL_law_16 (by decide) ?_
  refine lv_istore_n (lv' := [(3, .int 0), (2, .ref (mA E.b r5)), (1, .ref (mA E.b r1)), (0, .ref b)]) hx hb dL_law_17 rfl hl (by decide) rfl (fun ls hl => ?_)
  exact (bl_L_law_18 C hX hbl hEb (k1282 := (f_L_law_1282 xs L)) (bl_L_law_1282 C hX hbl hEb) 1000) r1 r5 0 S8 _ _ _ hF hI (lv_sub hl [3, 2, 1, 0] rfl)
