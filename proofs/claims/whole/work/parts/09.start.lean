/-! FROM THE ENTRY: what the Statement gives is what the contracts ask -/
def mTm : Nat → Term := fun i => .string "WhistleFlock$Script" ([143, 145, 147, 149, 150].getD i 0)
theorem st_ex : ∀ i, i < 5 → Cond.exactly (mTm i) "java/lang/String" ∈ flatC (Cond.and given_1 narrow_1) := by decide +kernel
theorem st_co : ∀ i, i < 5 → Cond.eq (.field (mTm i) "java/lang/String" "coder" "B") (.int 0) ∈ flatC (Cond.and given_1 narrow_1) := by decide +kernel
theorem st_ar : ∀ i, i < 5 → Cond.arrayOf (.field (mTm i) "java/lang/String" "value" "[B") .byte ∈ flatC (Cond.and given_1 narrow_1) := by decide +kernel
theorem st_le : ∀ i, i < 5 → Cond.eq (.length (.field (mTm i) "java/lang/String" "value" "[B")) (.int (Int32.ofNat (mSl.getD i 0))) ∈ flatC (Cond.and given_1 narrow_1) := by decide +kernel
theorem st_el : ∀ i, i < 5 → ∀ j, j < mSl.getD i 0 → Cond.eq (.elem (.field (mTm i) "java/lang/String" "value" "[B") (.int (Int32.ofNat j))) (.int ((mSb.getD i []).getD j 0)) ∈ flatC (Cond.and given_1 narrow_1) := by decide +kernel
theorem st_ne : ∀ i, i < 5 → ∀ j, j < 5 → i ≠ j → (Cond.not (Cond.eq (mTm i) (mTm j)) ∈ flatC (Cond.and given_1 narrow_1) ∨ Cond.not (Cond.eq (mTm j) (mTm i)) ∈ flatC (Cond.and given_1 narrow_1)) := by decide +kernel
theorem st_cs : Cond.eq (.static "java/lang/String" "COMPACT_STRINGS" "Z") (.int 1) ∈ flatC (Cond.and given_1 narrow_1) := by decide +kernel
theorem st_sf : Cond.isRef (.static "jdk/internal/util/Preconditions" "SIOOBE_FORMATTER" "Ljava/util/function/BiFunction;") ∈ flatC (Cond.and given_1 narrow_1) := by decide +kernel
def mS0 : mS := (0, (fun _ _ => 0, fun _ _ => 0))
set_option maxRecDepth 100000 in
set_option maxHeartbeats 4000000 in
theorem law_start (pure : ∀ (xs : Nat → Int32) (L : Nat), L ≤ 384 → f_law xs L mS0 = some 1) {p : Program} {e : Env} {s : State} {m : MethodId} {below : List Frame} {meth : Method} {c : Code} (l : Launch) {b L : Nat} {xs : Nat → Int32} (hL : L ≤ 384) (C0 : lw_At p s m meth c b L xs) : W p l e room_1 s m #[Value.ref b] below meth c s.heap [] 0 0 (lw_Z below #[Value.ref b] s) (entryFrame m ([Value.ref b] : List Value).toArray 4) := by
  obtain ⟨hx, hb, hr, hml, hown, hts, hX, hbl, hlocks, hgv⟩ := C0
  have hT : ∀ w ∈ wsL_law, w.before #[Value.ref b] s = true := fun w h => hts w (wsL_law_in w h)
  have hs := flat_of_before _ hgv
  obtain ⟨c0, i0, hK0⟩ := u_known hT inlX0 (hT (.instantiable RX0 8) (q_2 (List.mem_of_getElem? (i := 1) rfl)))
  obtain ⟨c1, i1, hK1⟩ := u_known hT inlX1 (hT (.instantiable RX1 7) (q_2 (List.mem_of_getElem? (i := 5) rfl)))
  obtain ⟨c2, i2, hK2⟩ := u_known hT inlX2 (hT (.instantiable RX2 2) (q_3 (List.mem_of_getElem? (i := 3) rfl)))
  obtain ⟨c3, i3, hK3⟩ := u_known hT inlX3 (hT (.instantiable RX3 4) (q_2 (List.mem_of_getElem? (i := 21) rfl)))
  obtain ⟨c4, i4, hK4⟩ := u_known hT inlX4 (hT (.instantiable RX4 9) (q_1 (List.mem_of_getElem? (i := 21) rfl)))
  obtain ⟨c5, i5, hK5⟩ := u_known hT inlX5 (hT (.instantiable RX5 6) (q_1 (List.mem_of_getElem? (i := 13) rfl)))
  obtain ⟨c6, i6, hK6⟩ := u_known hT inlX6 (hT (.instantiable RX6 17) (q_1 (List.mem_of_getElem? (i := 1) rfl)))
  obtain ⟨c7, i7, hK7⟩ := u_known hT inlX7 (hT (.instantiable RX7 30) (q_1 (List.mem_of_getElem? (i := 4) rfl)))
  obtain ⟨cI, kI, pI, a1, a2, a3⟩ := Cond.arrayClass_spec (hT _ (q_2 (List.mem_of_getElem? (i := 10) rfl)))
  obtain ⟨cB, kB, pB, b1, b2, b3⟩ := Cond.arrayClass_spec (hT _ (q_4 (List.mem_of_getElem? (i := 7) rfl)))
  obtain ⟨cZ, kZ, pZ, z1, z2, z3⟩ := Cond.arrayClass_spec (hT _ (q_1 (List.mem_of_getElem? (i := 18) rfl)))
  have hAO : va_AO RX5 s := va_AO.of (hts _ (lw_t1 (List.mem_of_getElem? (i := 146) rfl)))
  obtain ⟨pO, cO, kO, o1, -, o2, o3, o4⟩ := Cond.arrayOver_spec (va_AO.use (A := #[]) hAO)
  obtain ⟨adK, adV, hS, hev⟩ := vk_Sof (A := (fun q : Nat => s.heap.size ≤ q)) (tm := mTm) (len := mSl) (byt := mSb) (N := 5) (fun i hi => mSl_lt i hi) (fun i hi => hs _ (st_ex i hi)) (fun i hi => hs _ (st_co i hi)) (fun i hi => hs _ (st_ar i hi)) (fun i hi => hs _ (st_le i hi)) (fun i hi j hj => hs _ (st_el i hi j hj)) (fun i j hi hj hne => (st_ne i hi j hj hne).elim (fun h => Or.inl (hs _ h)) (fun h => Or.inr (hs _ h))) (fun a h9 => Nat.not_le.mpr h9)
  let E : mE := ((fun k => match k with | 0 => c0 | 1 => c1 | 2 => c2 | 3 => c3 | 4 => c4 | 5 => c5 | 6 => c6 | _ => c7, fun k => match k with | 0 => i0 | 1 => i1 | 2 => i2 | 3 => i3 | 4 => i4 | 5 => i5 | 6 => i6 | _ => i7), (fun k => match k with | 8 => cI | 9 => cB | 10 => cZ | _ => cO, (s.heap.size, (adK, adV))))
  have hK : va_K E.D vwCl (mTy E.dA) s := by
    refine ⟨fun k q hq => ?_, fun k q hq => ?_⟩
    · match k, hq with
      | 0, hq => cases hq; exact hK0
      | 1, hq => cases hq; exact hK1
      | 2, hq => cases hq; exact hK2
      | 3, hq => cases hq; exact hK3
      | 4, hq => cases hq; exact hK4
      | 5, hq => cases hq; exact hK5
      | 6, hq => cases hq; exact hK6
      | 7, hq => cases hq; exact hK7
      | k + 8, hq => exact absurd hq (by simp [vwCl])
    · match k, hq with
      | 0, hq => cases hq; exact ⟨fun n z => ⟨fun k h => (by cases h), kI, a2, pI, a3⟩, a1⟩
      | 1, hq => cases hq; exact ⟨fun n z => ⟨fun k h => (by cases h), kB, b2, pB, b3⟩, b1⟩
      | 2, hq => cases hq; exact ⟨fun n z => ⟨fun k h => (by cases h), kZ, z2, pZ, z3⟩, z1⟩
      | 3, hq => cases hq; exact ⟨fun n z => ⟨fun k h => (by cases h), kO, o2, pO, o3⟩, kO, pO, o2, o3, o1, o4⟩
      | k + 4, hq => exact absurd hq (by simp [mTy])
  have hN : mNn s := ⟨List.forall_mem_cons.mpr ⟨va_Nw.of rfl (hts _ (lw_t1 (List.mem_of_getElem? (i := 27) rfl))), List.forall_mem_cons.mpr ⟨va_Nw.of rfl (hts _ (lw_t1 (List.mem_of_getElem? (i := 33) rfl))), List.forall_mem_cons.mpr ⟨va_Nw.of rfl (hts _ (lw_t1 (List.mem_of_getElem? (i := 106) rfl))), List.forall_mem_cons.mpr ⟨va_Nw.of rfl (hts _ (lw_t1 (List.mem_of_getElem? (i := 149) rfl))), List.forall_mem_cons.mpr ⟨va_Nw.of rfl (hts _ (lw_t1 (List.mem_of_getElem? (i := 186) rfl))), List.forall_mem_cons.mpr ⟨va_Nw.of rfl (hts _ (lw_t1 (List.mem_of_getElem? (i := 216) rfl))), List.forall_mem_cons.mpr ⟨va_Nw.of rfl (hts _ (lw_t2 (List.mem_of_getElem? (i := 110) rfl))), List.forall_mem_cons.mpr ⟨va_Nw.of rfl (hts _ (lw_t2 (List.mem_of_getElem? (i := 194) rfl))), List.forall_mem_cons.mpr ⟨va_Nw.of rfl (hts _ (lw_t2 (List.mem_of_getElem? (i := 199) rfl))), List.forall_mem_cons.mpr ⟨va_Nw.of rfl (hts _ (lw_t2 (List.mem_of_getElem? (i := 200) rfl))), List.forall_mem_cons.mpr ⟨va_Nw.of rfl (hts _ (lw_t2 (List.mem_of_getElem? (i := 205) rfl))), List.forall_mem_cons.mpr ⟨va_Nw.of rfl (hts _ (lw_t2 (List.mem_of_getElem? (i := 223) rfl))), List.forall_mem_cons.mpr ⟨va_Nw.of rfl (hts _ (lw_t2 (List.mem_of_getElem? (i := 226) rfl))), List.forall_mem_cons.mpr ⟨va_Nw.of rfl (hts _ (lw_t2 (List.mem_of_getElem? (i := 233) rfl))), List.forall_mem_cons.mpr ⟨va_Nw.of rfl (hts _ (lw_t3 (List.mem_of_getElem? (i := 105) rfl))), List.forall_mem_cons.mpr ⟨va_Nw.of rfl (hts _ (lw_t3 (List.mem_of_getElem? (i := 113) rfl))), List.forall_mem_cons.mpr ⟨va_Nw.of rfl (hts _ (lw_t3 (List.mem_of_getElem? (i := 124) rfl))), List.forall_mem_cons.mpr ⟨va_Nw.of rfl (hts _ (lw_t3 (List.mem_of_getElem? (i := 125) rfl))), List.forall_mem_cons.mpr ⟨va_Nw.of rfl (hts _ (lw_t3 (List.mem_of_getElem? (i := 160) rfl))), List.forall_mem_cons.mpr ⟨va_Nw.of rfl (hts _ (lw_t3 (List.mem_of_getElem? (i := 220) rfl))), List.forall_mem_nil _⟩⟩⟩⟩⟩⟩⟩⟩⟩⟩⟩⟩⟩⟩⟩⟩⟩⟩⟩⟩, fun q hq => absurd hq List.not_mem_nil, hAO⟩
  have hZ : mSt E s s.heap := by
    refine ⟨hS, ⟨?_, ?_, ?_, ?_, ?_⟩, ?_, ?_⟩
    · exact vk_R.of (hts _ (lw_t2 (List.mem_of_getElem? (i := 118) rfl))) (hev 0 (by decide))
    · exact vk_R.of (hts _ (lw_t2 (List.mem_of_getElem? (i := 119) rfl))) (hev 1 (by decide))
    · exact vk_R.of (hts _ (lw_t2 (List.mem_of_getElem? (i := 120) rfl))) (hev 2 (by decide))
    · exact vk_R.of (hts _ (lw_t2 (List.mem_of_getElem? (i := 121) rfl))) (hev 3 (by decide))
    · exact vk_R.of (hts _ (lw_t2 (List.mem_of_getElem? (i := 122) rfl))) (hev 4 (by decide))
    · exact va_Zof (hts _ (lw_t2 (List.mem_of_getElem? (i := 136) rfl))) (hts _ (lw_t1 (List.mem_of_getElem? (i := 10) rfl))) (va_eqi (hs _ st_cs)) (fun a h9 => Nat.not_le.mpr h9)
    · exact va_Zqof (hts _ (lw_t2 (List.mem_of_getElem? (i := 152) rfl))) (hts _ (lw_t1 (List.mem_of_getElem? (i := 12) rfl))) (hs _ st_sf) (fun a h9 => Nat.not_le.mpr h9)
  have hl := lv_entry ([.ref b]) (n := 4) (Nat.le_of_ble_eq_true rfl)
  rw [lg_entry_eq]
  generalize (lg_sl ([.ref b]) ++ List.replicate (4 - (lg_sl ([.ref b])).length) Slot.unset).toArray = ls at hl ⊢
  have hl : lv_has ls 4 [(0, .ref b)] := hl
  refine law_walk (E := E) ⟨hx, hb, hml, hown, hT, hlocks, hr, hK, hN, hZ, Nat.add_zero _⟩ hX hbl rfl mS0 s.heap [] ls (pure xs L hL) ⟨⟨rfl, Nat.le_refl _⟩, fun k q hq => ?_, va_S.rf⟩ hl
  have := (mW_inv hq).1
  exact absurd this (Nat.not_lt_zero _)
