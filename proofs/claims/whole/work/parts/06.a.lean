noncomputable def f_X6_isWithin_15 (t0 : Int32) : Option Int32 := mZ t0 (some t0)
noncomputable def f_X6_isWithin_14 : Option Int32 := (f_X6_isWithin_15) 0
noncomputable def f_X6_isWithin (v0 : Int32) (v1 : Int32) (v2 : Int32) : Option Int32 := if v0 < v1 then ((f_X6_isWithin_14)) else (if v2 < v0 then ((f_X6_isWithin_14)) else ((f_X6_isWithin_15) 1))
def rm_X6_isWithin : Room := { frames := 0, cells := 0, slots := 0, locals := 0 }
set_option maxRecDepth 100000 in
set_option maxHeartbeats 4000000 in
theorem bl_X6_isWithin_15 {p : Program} {l : Launch} {e : Env} {s : State} {m : MethodId} {args : Array Value} {below : List Frame} {meth : Method} {c : Code} {E : mE} {n0 : Nat} {r : Int32} {S : mS} (C : mCx p s m args meth c cX6_isWithin 3 RX6 (some .boolean) E n0) : ∀  (t0 : Int32) (H : Heap) (locs : List Loc) (ls : Array Slot), f_X6_isWithin_15 t0 = some r → mIv s E S H locs 0 → lv_has ls 3 [] → W p l e rm_X6_isWithin s m args below meth c H locs 0 0 (mQi below args s 0 0 n0 E (r, S)) (F0 m 15 ls [.int t0]) := by
  have hx := C.1
  have hb := C.2.1
  intro t0 H locs ls hF hI hl
  exact m_iretzR C hI hF dX6_isWithin_15
set_option maxRecDepth 100000 in
set_option maxHeartbeats 4000000 in
theorem bl_X6_isWithin_14 {p : Program} {l : Launch} {e : Env} {s : State} {m : MethodId} {args : Array Value} {below : List Frame} {meth : Method} {c : Code} {E : mE} {n0 : Nat} {r : Int32} {S : mS} (C : mCx p s m args meth c cX6_isWithin 3 RX6 (some .boolean) E n0) : ∀  (H : Heap) (locs : List Loc) (ls : Array Slot), f_X6_isWithin_14 = some r → mIv s E S H locs 0 → lv_has ls 3 [] → W p l e rm_X6_isWithin s m args below meth c H locs 0 0 (mQi below args s 0 0 n0 E (r, S)) (F0 m 14 ls []) := by
  have hx := C.1
  have hb := C.2.1
  intro H locs ls hF hI hl
  refine lv_iconst (v := 0) hx hb dX6_isWithin_14 (by decide) ?_
  exact (bl_X6_isWithin_15 C) 0 _ _ _ hF hI (lv_sub hl [] rfl)
set_option maxRecDepth 100000 in
set_option maxHeartbeats 4000000 in
theorem ok_X6_isWithin {l : Launch} {E : mE} {v0 : Int32} {v1 : Int32} {v2 : Int32} {S : mS} {r : Int32} (hF : f_X6_isWithin v0 v1 v2 = some r) : mMi l yX6_isWithin cX6_isWithin 3 (some .boolean) rm_X6_isWithin 0 0 [.int v0, .int v1, .int v2] E S (r, S) := by
  refine m_met_i (by decide) (Nat.le_of_ble_eq_true rfl) (fun p e s m args below meth c ls _ C hI hl => ?_)
  have hx := C.1
  have hb := C.2.1
  have hl : lv_has ls 3 [(0, .int v0), (1, .int v1), (2, .int v2)] := hl
  generalize s.heap = H at hI ⊢
  generalize ([] : List Loc) = locs at hI ⊢
  refine lv_iload_n hx hb dX6_isWithin_0 rfl (lv_at hl 0 rfl) ?_
  refine lv_iload_n hx hb dX6_isWithin_1 rfl (lv_at hl 1 rfl) ?_
  refine m_icmp_lt C (tgt := 14) hF dX6_isWithin_2 (by decide) (fun hF => ?_) (fun hF => ?_)
  · exact (bl_X6_isWithin_14 C)  _ _ _ hF hI (lv_sub hl [] rfl)
  · refine lv_iload_n hx hb dX6_isWithin_5 rfl (lv_at hl 0 rfl) ?_
    refine lv_iload_n hx hb dX6_isWithin_6 rfl (lv_at hl 2 rfl) ?_
    refine m_icmp_gt C (tgt := 14) hF dX6_isWithin_7 (by decide) (fun hF => ?_) (fun hF => ?_)
    · exact (bl_X6_isWithin_14 C)  _ _ _ hF hI (lv_sub hl [] rfl)
    · refine lv_iconst (v := 1) hx hb dX6_isWithin_10 (by decide) ?_
      refine lv_goto (tgt := 15) hx hb dX6_isWithin_11 (by decide) ?_
      exact (bl_X6_isWithin_15 C) 1 _ _ _ hF hI (lv_sub hl [] rfl)
noncomputable def f_X1_hasSheep (v0 : Int32) (v1 : Int32) (S : mS) : Option Int32 := mG 1 5 v0 S (fun r1 => mCp (f_X6_isWithin v1 0 (r1 - 1)) (fun r2 => mZ r2 (some r2)))
def rm_X1_hasSheep : Room := { frames := 1, cells := 0, slots := 0, locals := 22 }
set_option maxRecDepth 100000 in
set_option maxHeartbeats 4000000 in
theorem ok_X1_hasSheep {l : Launch} {E : mE} {v0 : Int32} {v1 : Int32} {S : mS} {r : Int32} (hF : f_X1_hasSheep v0 v1 S = some r) : mMi l yX1_hasSheep cX1_hasSheep 2 (some .boolean) rm_X1_hasSheep 0 0 [.ref (mA E.b v0), .int v1] E S (r, S) := by
  refine m_met_i (by decide) (Nat.le_of_ble_eq_true rfl) (fun p e s m args below meth c ls _ C hI hl => ?_)
  have hx := C.1
  have hb := C.2.1
  have hl : lv_has ls 2 [(0, .ref (mA E.b v0)), (1, .int v1)] := hl
  generalize s.heap = H at hI ⊢
  generalize ([] : List Loc) = locs at hI ⊢
  refine lv_iload_n hx hb dX1_hasSheep_0 rfl (lv_at hl 1 rfl) ?_
  refine lv_iconst (v := 0) hx hb dX1_hasSheep_1 (by decide) ?_
  refine lv_aload_n hx hb dX1_hasSheep_2 rfl (lv_at hl 0 rfl) ?_
  refine m_get C fd_X1_28 hI hF dX1_hasSheep_3 (fun r1 hF => ?_)
  refine lv_iconst (v := 1) hx hb dX1_hasSheep_6 (by decide) ?_
  refine lv_isub hx hb dX1_hasSheep_7 ?_
  refine m_callNiR C cd_X1_40 hl.1 hI hF (fun _ h => ok_X6_isWithin h) rfl rfl ⟨rfl, rfl, Nat.le_of_ble_eq_true rfl, Nat.le_of_ble_eq_true rfl⟩ ⟨Nat.le_of_ble_eq_true rfl, Nat.le_of_ble_eq_true rfl⟩ (Nat.le_of_ble_eq_true rfl) dX1_hasSheep_8 (fun r2 H locs hF hI => ?_)
  exact m_iretzR C hI hF dX1_hasSheep_11
noncomputable def f_X1_hasWhistle (v0 : Int32) (v1 : Int32) (S : mS) : Option Int32 := mG 1 4 v0 S (fun r1 => mCp (f_X6_isWithin v1 0 (r1 - 1)) (fun r2 => mZ r2 (some r2)))
def rm_X1_hasWhistle : Room := { frames := 1, cells := 0, slots := 0, locals := 22 }
set_option maxRecDepth 100000 in
set_option maxHeartbeats 4000000 in
theorem ok_X1_hasWhistle {l : Launch} {E : mE} {v0 : Int32} {v1 : Int32} {S : mS} {r : Int32} (hF : f_X1_hasWhistle v0 v1 S = some r) : mMi l yX1_hasWhistle cX1_hasWhistle 2 (some .boolean) rm_X1_hasWhistle 0 0 [.ref (mA E.b v0), .int v1] E S (r, S) := by
  refine m_met_i (by decide) (Nat.le_of_ble_eq_true rfl) (fun p e s m args below meth c ls _ C hI hl => ?_)
  have hx := C.1
  have hb := C.2.1
  have hl : lv_has ls 2 [(0, .ref (mA E.b v0)), (1, .int v1)] := hl
  generalize s.heap = H at hI ⊢
  generalize ([] : List Loc) = locs at hI ⊢
  refine lv_iload_n hx hb dX1_hasWhistle_0 rfl (lv_at hl 1 rfl) ?_
  refine lv_iconst (v := 0) hx hb dX1_hasWhistle_1 (by decide) ?_
  refine lv_aload_n hx hb dX1_hasWhistle_2 rfl (lv_at hl 0 rfl) ?_
  refine m_get C fd_X1_24 hI hF dX1_hasWhistle_3 (fun r1 hF => ?_)
  refine lv_iconst (v := 1) hx hb dX1_hasWhistle_6 (by decide) ?_
  refine lv_isub hx hb dX1_hasWhistle_7 ?_
  refine m_callNiR C cd_X1_40 hl.1 hI hF (fun _ h => ok_X6_isWithin h) rfl rfl ⟨rfl, rfl, Nat.le_of_ble_eq_true rfl, Nat.le_of_ble_eq_true rfl⟩ ⟨Nat.le_of_ble_eq_true rfl, Nat.le_of_ble_eq_true rfl⟩ (Nat.le_of_ble_eq_true rfl) dX1_hasWhistle_8 (fun r2 H locs hF hI => ?_)
  exact m_iretzR C hI hF dX1_hasWhistle_11
noncomputable def f_X6_farBetween (v0 : Int32) (v1 : Int32) : Option Int32 := some ((mAbs ((v0 / 5) - (v1 / 5))) + (mAbs ((mRem v0 5) - (mRem v1 5))))
def rm_X6_farBetween : Room := { frames := 1, cells := 0, slots := 0, locals := 14 }
set_option maxRecDepth 100000 in
set_option maxHeartbeats 4000000 in
theorem ok_X6_farBetween {l : Launch} {E : mE} {v0 : Int32} {v1 : Int32} {S : mS} {r : Int32} (hF : f_X6_farBetween v0 v1 = some r) : mMi l yX6_farBetween cX6_farBetween 2 (some .int) rm_X6_farBetween 0 0 [.int v0, .int v1] E S (r, S) := by
  refine m_met_i (by decide) (Nat.le_of_ble_eq_true rfl) (fun p e s m args below meth c ls _ C hI hl => ?_)
  have hx := C.1
  have hb := C.2.1
  have hl : lv_has ls 2 [(0, .int v0), (1, .int v1)] := hl
  generalize s.heap = H at hI ⊢
  generalize ([] : List Loc) = locs at hI ⊢
  refine lv_iload_n hx hb dX6_farBetween_0 rfl (lv_at hl 0 rfl) ?_
  refine lv_iconst (v := 5) hx hb dX6_farBetween_1 (by decide) ?_
  refine lv_idiv hx hb dX6_farBetween_2 (by decide) ?_
  refine lv_iload_n hx hb dX6_farBetween_3 rfl (lv_at hl 1 rfl) ?_
  refine lv_iconst (v := 5) hx hb dX6_farBetween_4 (by decide) ?_
  refine lv_idiv hx hb dX6_farBetween_5 (by decide) ?_
  refine lv_isub hx hb dX6_farBetween_6 ?_
  refine m_abs C mw_X6_321 hl.1 (Nat.le_of_ble_eq_true rfl) (Nat.le_of_ble_eq_true rfl) (Nat.le_of_ble_eq_true rfl) (Nat.le_of_ble_eq_true rfl) dX6_farBetween_7 ?_
  refine lv_iload_n hx hb dX6_farBetween_10 rfl (lv_at hl 0 rfl) ?_
  refine lv_iconst (v := 5) hx hb dX6_farBetween_11 (by decide) ?_
  refine m_irem C dX6_farBetween_12 (by decide) ?_
  refine lv_iload_n hx hb dX6_farBetween_13 rfl (lv_at hl 1 rfl) ?_
  refine lv_iconst (v := 5) hx hb dX6_farBetween_14 (by decide) ?_
  refine m_irem C dX6_farBetween_15 (by decide) ?_
  refine lv_isub hx hb dX6_farBetween_16 ?_
  refine m_abs C mw_X6_321 hl.1 (Nat.le_of_ble_eq_true rfl) (Nat.le_of_ble_eq_true rfl) (Nat.le_of_ble_eq_true rfl) (Nat.le_of_ble_eq_true rfl) dX6_farBetween_17 ?_
  refine lv_iadd hx hb dX6_farBetween_20 ?_
  exact m_iretiR C hI hF dX6_farBetween_21
noncomputable def f_X6_sheepReach_83 (t0 : Int32) : Option Int32 := some t0
noncomputable def f_X6_sheepReach_98 (t0 : Int32) : Option Int32 := some t0
noncomputable def f_X6_sheepReach_35 (v0 : Int32) (v1 : Int32) (v2 : Int32) (v3 : Int32) (t0 : Int32) : Option Int32 := if v0 = 1 then (some v3) else if v0 = 2 then (if v1 = 0 then ((f_X6_sheepReach_83) v2) else ((f_X6_sheepReach_83) 0)) else if v0 = 3 then (if 3 < v1 then ((f_X6_sheepReach_98) v3) else ((f_X6_sheepReach_98) (mMax 1 v3))) else if v0 = 4 then (some t0) else if v0 = 5 then (some (mMin 3 (2 * t0))) else (some v2)
noncomputable def f_X6_sheepReach_22 (v0 : Int32) (v1 : Int32) (v2 : Int32) (t0 : Int32) : Option Int32 := if 2 < v1 then ((f_X6_sheepReach_35) v0 v1 v2 t0 v2) else ((f_X6_sheepReach_35) v0 v1 v2 t0 (v2 + 1))
noncomputable def f_X6_sheepReach_10 (v0 : Int32) (v1 : Int32) (t0 : Int32) : Option Int32 := if v1 = 0 then ((f_X6_sheepReach_22) v0 v1 t0 (t0 + 2)) else ((f_X6_sheepReach_22) v0 v1 t0 t0)
noncomputable def f_X6_sheepReach (v0 : Int32) (v1 : Int32) : Option Int32 := if 1 < v1 then ((f_X6_sheepReach_10) v0 v1 0) else ((f_X6_sheepReach_10) v0 v1 1)
def rm_X6_sheepReach : Room := { frames := 1, cells := 0, slots := 0, locals := 13 }
set_option maxRecDepth 100000 in
set_option maxHeartbeats 4000000 in
theorem bl_X6_sheepReach_83 {p : Program} {l : Launch} {e : Env} {s : State} {m : MethodId} {args : Array Value} {below : List Frame} {meth : Method} {c : Code} {E : mE} {n0 : Nat} {r : Int32} {S : mS} (C : mCx p s m args meth c cX6_sheepReach 5 RX6 (some .int) E n0) : ∀  (t0 : Int32) (H : Heap) (locs : List Loc) (ls : Array Slot), f_X6_sheepReach_83 t0 = some r → mIv s E S H locs 0 → lv_has ls 5 [] → W p l e rm_X6_sheepReach s m args below meth c H locs 0 0 (mQi below args s 0 0 n0 E (r, S)) (F0 m 83 ls [.int t0]) := by
  have hx := C.1
  have hb := C.2.1
  intro t0 H locs ls hF hI hl
  exact m_iretiR C hI hF dX6_sheepReach_83
set_option maxRecDepth 100000 in
set_option maxHeartbeats 4000000 in
theorem bl_X6_sheepReach_98 {p : Program} {l : Launch} {e : Env} {s : State} {m : MethodId} {args : Array Value} {below : List Frame} {meth : Method} {c : Code} {E : mE} {n0 : Nat} {r : Int32} {S : mS} (C : mCx p s m args meth c cX6_sheepReach 5 RX6 (some .int) E n0) : ∀  (t0 : Int32) (H : Heap) (locs : List Loc) (ls : Array Slot), f_X6_sheepReach_98 t0 = some r → mIv s E S H locs 0 → lv_has ls 5 [] → W p l e rm_X6_sheepReach s m args below meth c H locs 0 0 (mQi below args s 0 0 n0 E (r, S)) (F0 m 98 ls [.int t0]) := by
  have hx := C.1
  have hb := C.2.1
  intro t0 H locs ls hF hI hl
  exact m_iretiR C hI hF dX6_sheepReach_98
set_option maxRecDepth 100000 in
set_option maxHeartbeats 4000000 in
theorem bl_X6_sheepReach_35 {p : Program} {l : Launch} {e : Env} {s : State} {m : MethodId} {args : Array Value} {below : List Frame} {meth : Method} {c : Code} {E : mE} {n0 : Nat} {r : Int32} {S : mS} (C : mCx p s m args meth c cX6_sheepReach 5 RX6 (some .int) E n0) : ∀  (v0 : Int32) (v1 : Int32) (v2 : Int32) (v3 : Int32) (t0 : Int32) (H : Heap) (locs : List Loc) (ls : Array Slot), f_X6_sheepReach_35 v0 v1 v2 v3 t0 = some r → mIv s E S H locs 0 → lv_has ls 5 [(0, .int v0), (1, .int v1), (2, .int v2), (3, .int v3)] → W p l e rm_X6_sheepReach s m args below meth c H locs 0 0 (mQi below args s 0 0 n0 E (r, S)) (F0 m 35 ls [.int t0]) := by
  have hx := C.1
  have hb := C.2.1
  intro v0 v1 v2 v3 t0 H locs ls hF hI hl
  refine lv_istore (lv' := [(4, .int t0), (0, .int v0), (1, .int v1), (2, .int v2), (3, .int v3)]) hx hb dX6_sheepReach_35 hl (by decide) rfl (fun ls hl => ?_)
  refine lv_iload_n hx hb dX6_sheepReach_37 rfl (lv_at hl 1 rfl) ?_
  refine m_if hF (fun c1 hF => ?_) (fun c1 hF => ?_)
  · refine m_swIn C dX6_sheepReach_38 c1 1 rfl (by decide) (by decide) rfl (tgt := 72) (by decide) ?_
    refine lv_iload_n hx hb dX6_sheepReach_72 rfl (lv_at hl 4 rfl) ?_
    exact m_iretiR C hI hF dX6_sheepReach_73
  refine m_if hF (fun c2 hF => ?_) (fun c2 hF => ?_)
  · refine m_swIn C dX6_sheepReach_38 c2 2 rfl (by decide) (by decide) rfl (tgt := 74) (by decide) ?_
    refine lv_iload_n hx hb dX6_sheepReach_74 rfl (lv_at hl 2 rfl) ?_
    refine m_if_ne C (tgt := 82) hF dX6_sheepReach_75 (by decide) (fun hF => ?_) (fun hF => ?_)
    · refine lv_iconst (v := 0) hx hb dX6_sheepReach_82 (by decide) ?_
      exact (bl_X6_sheepReach_83 C) 0 _ _ _ hF hI (lv_sub hl [] rfl)
    · refine lv_iload_n hx hb dX6_sheepReach_78 rfl (lv_at hl 3 rfl) ?_
      refine lv_goto (tgt := 83) hx hb dX6_sheepReach_79 (by decide) ?_
      exact (bl_X6_sheepReach_83 C) v2 _ _ _ hF hI (lv_sub hl [] rfl)
  refine m_if hF (fun c3 hF => ?_) (fun c3 hF => ?_)
  · refine m_swIn C dX6_sheepReach_38 c3 3 rfl (by decide) (by decide) rfl (tgt := 84) (by decide) ?_
    refine lv_iload_n hx hb dX6_sheepReach_84 rfl (lv_at hl 2 rfl) ?_
    refine lv_iconst (v := 3) hx hb dX6_sheepReach_85 (by decide) ?_
    refine m_icmp_gt C (tgt := 97) hF dX6_sheepReach_86 (by decide) (fun hF => ?_) (fun hF => ?_)
    · refine lv_iload_n hx hb dX6_sheepReach_97 rfl (lv_at hl 4 rfl) ?_
      exact (bl_X6_sheepReach_98 C) v3 _ _ _ hF hI (lv_sub hl [] rfl)
    · refine lv_iconst (v := 1) hx hb dX6_sheepReach_89 (by decide) ?_
      refine lv_iload_n hx hb dX6_sheepReach_90 rfl (lv_at hl 4 rfl) ?_
      refine m_max C mw_X6_312 hl.1 (Nat.le_of_ble_eq_true rfl) (Nat.le_of_ble_eq_true rfl) (Nat.le_of_ble_eq_true rfl) (Nat.le_of_ble_eq_true rfl) dX6_sheepReach_91 ?_
      refine lv_goto (tgt := 98) hx hb dX6_sheepReach_94 (by decide) ?_
      exact (bl_X6_sheepReach_98 C) (mMax 1 v3) _ _ _ hF hI (lv_sub hl [] rfl)
  refine m_if hF (fun c4 hF => ?_) (fun c4 hF => ?_)
  · refine m_swIn C dX6_sheepReach_38 c4 4 rfl (by decide) (by decide) rfl (tgt := 99) (by decide) ?_
    refine lv_iload hx hb dX6_sheepReach_99 (lv_at hl 0 rfl) ?_
    exact m_iretiR C hI hF dX6_sheepReach_101
  refine m_if hF (fun c5 hF => ?_) (fun c5 hF => ?_)
  · refine m_swIn C dX6_sheepReach_38 c5 5 rfl (by decide) (by decide) rfl (tgt := 102) (by decide) ?_
    refine lv_iconst (v := 3) hx hb dX6_sheepReach_102 (by decide) ?_
    refine lv_iconst (v := 2) hx hb dX6_sheepReach_103 (by decide) ?_
    refine lv_iload hx hb dX6_sheepReach_104 (lv_at hl 0 rfl) ?_
    refine lv_imul hx hb dX6_sheepReach_106 ?_
    refine m_min C mw_X6_150 hl.1 (Nat.le_of_ble_eq_true rfl) (Nat.le_of_ble_eq_true rfl) (Nat.le_of_ble_eq_true rfl) (Nat.le_of_ble_eq_true rfl) dX6_sheepReach_107 ?_
    exact m_iretiR C hI hF dX6_sheepReach_110
  refine lv_tableOut (tgt := 111) hx hb dX6_sheepReach_38 (by have := lv_neT c1 (a := 1) rfl; have := lv_neT c2 (a := 2) rfl; have := lv_neT c3 (a := 3) rfl; have := lv_neT c4 (a := 4) rfl; have := lv_neT c5 (a := 5) rfl; omega) (by decide) ?_
  refine lv_iload_n hx hb dX6_sheepReach_111 rfl (lv_at hl 3 rfl) ?_
  exact m_iretiR C hI hF dX6_sheepReach_112
set_option maxRecDepth 100000 in
set_option maxHeartbeats 4000000 in
theorem bl_X6_sheepReach_22 {p : Program} {l : Launch} {e : Env} {s : State} {m : MethodId} {args : Array Value} {below : List Frame} {meth : Method} {c : Code} {E : mE} {n0 : Nat} {r : Int32} {S : mS} (C : mCx p s m args meth c cX6_sheepReach 5 RX6 (some .int) E n0) : ∀  (v0 : Int32) (v1 : Int32) (v2 : Int32) (t0 : Int32) (H : Heap) (locs : List Loc) (ls : Array Slot), f_X6_sheepReach_22 v0 v1 v2 t0 = some r → mIv s E S H locs 0 → lv_has ls 5 [(0, .int v0), (1, .int v1), (2, .int v2)] → W p l e rm_X6_sheepReach s m args below meth c H locs 0 0 (mQi below args s 0 0 n0 E (r, S)) (F0 m 22 ls [.int t0]) := by
  have hx := C.1
  have hb := C.2.1
  intro v0 v1 v2 t0 H locs ls hF hI hl
  refine lv_istore_n (lv' := [(3, .int t0), (0, .int v0), (1, .int v1), (2, .int v2)]) hx hb dX6_sheepReach_22 rfl hl (by decide) rfl (fun ls hl => ?_)
  refine lv_iload_n hx hb dX6_sheepReach_23 rfl (lv_at hl 2 rfl) ?_
  refine lv_iconst (v := 2) hx hb dX6_sheepReach_24 (by decide) ?_
  refine m_icmp_gt C (tgt := 34) hF dX6_sheepReach_25 (by decide) (fun hF => ?_) (fun hF => ?_)
  · refine lv_iload_n hx hb dX6_sheepReach_34 rfl (lv_at hl 3 rfl) ?_
    exact (bl_X6_sheepReach_35 C) v0 v1 v2 t0 v2 _ _ _ hF hI (lv_sub hl [1, 2, 3, 0] rfl)
  · refine lv_iload_n hx hb dX6_sheepReach_28 rfl (lv_at hl 3 rfl) ?_
    refine lv_iconst (v := 1) hx hb dX6_sheepReach_29 (by decide) ?_
    refine lv_iadd hx hb dX6_sheepReach_30 ?_
    refine lv_goto (tgt := 35) hx hb dX6_sheepReach_31 (by decide) ?_
    exact (bl_X6_sheepReach_35 C) v0 v1 v2 t0 (v2 + 1) _ _ _ hF hI (lv_sub hl [1, 2, 3, 0] rfl)
set_option maxRecDepth 100000 in
set_option maxHeartbeats 4000000 in
theorem bl_X6_sheepReach_10 {p : Program} {l : Launch} {e : Env} {s : State} {m : MethodId} {args : Array Value} {below : List Frame} {meth : Method} {c : Code} {E : mE} {n0 : Nat} {r : Int32} {S : mS} (C : mCx p s m args meth c cX6_sheepReach 5 RX6 (some .int) E n0) : ∀  (v0 : Int32) (v1 : Int32) (t0 : Int32) (H : Heap) (locs : List Loc) (ls : Array Slot), f_X6_sheepReach_10 v0 v1 t0 = some r → mIv s E S H locs 0 → lv_has ls 5 [(0, .int v0), (1, .int v1)] → W p l e rm_X6_sheepReach s m args below meth c H locs 0 0 (mQi below args s 0 0 n0 E (r, S)) (F0 m 10 ls [.int t0]) := by
  have hx := C.1
  have hb := C.2.1
  intro v0 v1 t0 H locs ls hF hI hl
  refine lv_istore_n (lv' := [(2, .int t0), (0, .int v0), (1, .int v1)]) hx hb dX6_sheepReach_10 rfl hl (by decide) rfl (fun ls hl => ?_)
  refine lv_iload_n hx hb dX6_sheepReach_11 rfl (lv_at hl 2 rfl) ?_
  refine m_if_ne C (tgt := 21) hF dX6_sheepReach_12 (by decide) (fun hF => ?_) (fun hF => ?_)
  · refine lv_iload_n hx hb dX6_sheepReach_21 rfl (lv_at hl 0 rfl) ?_
    exact (bl_X6_sheepReach_22 C) v0 v1 t0 t0 _ _ _ hF hI (lv_sub hl [1, 2, 0] rfl)
  · refine lv_iload_n hx hb dX6_sheepReach_15 rfl (lv_at hl 0 rfl) ?_
    refine lv_iconst (v := 2) hx hb dX6_sheepReach_16 (by decide) ?_
    refine lv_iadd hx hb dX6_sheepReach_17 ?_
    refine lv_goto (tgt := 22) hx hb dX6_sheepReach_18 (by decide) ?_
    exact (bl_X6_sheepReach_22 C) v0 v1 t0 (t0 + 2) _ _ _ hF hI (lv_sub hl [1, 2, 0] rfl)
set_option maxRecDepth 100000 in
set_option maxHeartbeats 4000000 in
theorem ok_X6_sheepReach {l : Launch} {E : mE} {v0 : Int32} {v1 : Int32} {S : mS} {r : Int32} (hF : f_X6_sheepReach v0 v1 = some r) : mMi l yX6_sheepReach cX6_sheepReach 5 (some .int) rm_X6_sheepReach 0 0 [.int v0, .int v1] E S (r, S) := by
  refine m_met_i (by decide) (Nat.le_of_ble_eq_true rfl) (fun p e s m args below meth c ls _ C hI hl => ?_)
  have hx := C.1
  have hb := C.2.1
  have hl : lv_has ls 5 [(0, .int v0), (1, .int v1)] := hl
  generalize s.heap = H at hI ⊢
  generalize ([] : List Loc) = locs at hI ⊢
  refine lv_iload_n hx hb dX6_sheepReach_0 rfl (lv_at hl 1 rfl) ?_
  refine lv_iconst (v := 1) hx hb dX6_sheepReach_1 (by decide) ?_
  refine m_icmp_gt C (tgt := 9) hF dX6_sheepReach_2 (by decide) (fun hF => ?_) (fun hF => ?_)
  · refine lv_iconst (v := 0) hx hb dX6_sheepReach_9 (by decide) ?_
    exact (bl_X6_sheepReach_10 C) v0 v1 0 _ _ _ hF hI (lv_sub hl [0, 1] rfl)
  · refine lv_iconst (v := 1) hx hb dX6_sheepReach_5 (by decide) ?_
    refine lv_goto (tgt := 10) hx hb dX6_sheepReach_6 (by decide) ?_
    exact (bl_X6_sheepReach_10 C) v0 v1 1 _ _ _ hF hI (lv_sub hl [0, 1] rfl)
noncomputable def f_X6_wayFrom_50 (t0 : Int32) : Option Int32 := some t0
noncomputable def f_X6_wayFrom_41 (v3 : Int32) : Option Int32 := if v3 < 0 then ((f_X6_wayFrom_50) 3) else ((f_X6_wayFrom_50) 1)
noncomputable def f_X6_wayFrom_40 (t0 : Int32) : Option Int32 := some t0
noncomputable def f_X6_wayFrom (v0 : Int32) (v1 : Int32) : Option Int32 := if ((v0 / 5) - (v1 / 5)) = 0 then ((f_X6_wayFrom_41) ((mRem v0 5) - (mRem v1 5))) else (if (mAbs ((v0 / 5) - (v1 / 5))) < (mAbs ((mRem v0 5) - (mRem v1 5))) then ((f_X6_wayFrom_41) ((mRem v0 5) - (mRem v1 5))) else (if ((v0 / 5) - (v1 / 5)) ≤ 0 then ((f_X6_wayFrom_40) 0) else ((f_X6_wayFrom_40) 2)))
def rm_X6_wayFrom : Room := { frames := 1, cells := 0, slots := 0, locals := 14 }
set_option maxRecDepth 100000 in
set_option maxHeartbeats 4000000 in
theorem bl_X6_wayFrom_50 {p : Program} {l : Launch} {e : Env} {s : State} {m : MethodId} {args : Array Value} {below : List Frame} {meth : Method} {c : Code} {E : mE} {n0 : Nat} {r : Int32} {S : mS} (C : mCx p s m args meth c cX6_wayFrom 4 RX6 (some .int) E n0) : ∀  (t0 : Int32) (H : Heap) (locs : List Loc) (ls : Array Slot), f_X6_wayFrom_50 t0 = some r → mIv s E S H locs 0 → lv_has ls 4 [] → W p l e rm_X6_wayFrom s m args below meth c H locs 0 0 (mQi below args s 0 0 n0 E (r, S)) (F0 m 50 ls [.int t0]) := by
  have hx := C.1
  have hb := C.2.1
  intro t0 H locs ls hF hI hl
  exact m_iretiR C hI hF dX6_wayFrom_50
set_option maxRecDepth 100000 in
set_option maxHeartbeats 4000000 in
theorem bl_X6_wayFrom_41 {p : Program} {l : Launch} {e : Env} {s : State} {m : MethodId} {args : Array Value} {below : List Frame} {meth : Method} {c : Code} {E : mE} {n0 : Nat} {r : Int32} {S : mS} (C : mCx p s m args meth c cX6_wayFrom 4 RX6 (some .int) E n0) : ∀  (v3 : Int32) (H : Heap) (locs : List Loc) (ls : Array Slot), f_X6_wayFrom_41 v3 = some r → mIv s E S H locs 0 → lv_has ls 4 [(3, .int v3)] → W p l e rm_X6_wayFrom s m args below meth c H locs 0 0 (mQi below args s 0 0 n0 E (r, S)) (F0 m 41 ls []) := by
  have hx := C.1
  have hb := C.2.1
  intro v3 H locs ls hF hI hl
  refine lv_iload_n hx hb dX6_wayFrom_41 rfl (lv_at hl 0 rfl) ?_
  refine m_if_lt C (tgt := 49) hF dX6_wayFrom_42 (by decide) (fun hF => ?_) (fun hF => ?_)
  · refine lv_iconst (v := 3) hx hb dX6_wayFrom_49 (by decide) ?_
    exact (bl_X6_wayFrom_50 C) 3 _ _ _ hF hI (lv_sub hl [] rfl)
  · refine lv_iconst (v := 1) hx hb dX6_wayFrom_45 (by decide) ?_
    refine lv_goto (tgt := 50) hx hb dX6_wayFrom_46 (by decide) ?_
    exact (bl_X6_wayFrom_50 C) 1 _ _ _ hF hI (lv_sub hl [] rfl)
set_option maxRecDepth 100000 in
set_option maxHeartbeats 4000000 in
theorem bl_X6_wayFrom_40 {p : Program} {l : Launch} {e : Env} {s : State} {m : MethodId} {args : Array Value} {below : List Frame} {meth : Method} {c : Code} {E : mE} {n0 : Nat} {r : Int32} {S : mS} (C : mCx p s m args meth c cX6_wayFrom 4 RX6 (some .int) E n0) : ∀  (t0 : Int32) (H : Heap) (locs : List Loc) (ls : Array Slot), f_X6_wayFrom_40 t0 = some r → mIv s E S H locs 0 → lv_has ls 4 [] → W p l e rm_X6_wayFrom s m args below meth c H locs 0 0 (mQi below args s 0 0 n0 E (r, S)) (F0 m 40 ls [.int t0]) := by
  have hx := C.1
  have hb := C.2.1
  intro t0 H locs ls hF hI hl
  exact m_iretiR C hI hF dX6_wayFrom_40
set_option maxRecDepth 100000 in
set_option maxHeartbeats 4000000 in
theorem ok_X6_wayFrom {l : Launch} {E : mE} {v0 : Int32} {v1 : Int32} {S : mS} {r : Int32} (hF : f_X6_wayFrom v0 v1 = some r) : mMi l yX6_wayFrom cX6_wayFrom 4 (some .int) rm_X6_wayFrom 0 0 [.int v0, .int v1] E S (r, S) := by
  refine m_met_i (by decide) (Nat.le_of_ble_eq_true rfl) (fun p e s m args below meth c ls _ C hI hl => ?_)
  have hx := C.1
  have hb := C.2.1
  have hl : lv_has ls 4 [(0, .int v0), (1, .int v1)] := hl
  generalize s.heap = H at hI ⊢
  generalize ([] : List Loc) = locs at hI ⊢
  refine lv_iload_n hx hb dX6_wayFrom_0 rfl (lv_at hl 0 rfl) ?_
  refine lv_iconst (v := 5) hx hb dX6_wayFrom_1 (by decide) ?_
  refine lv_idiv hx hb dX6_wayFrom_2 (by decide) ?_
  refine lv_iload_n hx hb dX6_wayFrom_3 rfl (lv_at hl 1 rfl) ?_
  refine lv_iconst (v := 5) hx hb dX6_wayFrom_4 (by decide) ?_
  refine lv_idiv hx hb dX6_wayFrom_5 (by decide) ?_
  refine lv_isub hx hb dX6_wayFrom_6 ?_
  refine lv_istore_n (lv' := [(2, .int ((v0 / 5) - (v1 / 5))), (0, .int v0), (1, .int v1)]) hx hb dX6_wayFrom_7 rfl hl (by decide) rfl (fun ls hl => ?_)
  refine lv_iload_n hx hb dX6_wayFrom_8 rfl (lv_at hl 1 rfl) ?_
  refine lv_iconst (v := 5) hx hb dX6_wayFrom_9 (by decide) ?_
  refine m_irem C dX6_wayFrom_10 (by decide) ?_
  refine lv_iload_n hx hb dX6_wayFrom_11 rfl (lv_at hl 2 rfl) ?_
  refine lv_iconst (v := 5) hx hb dX6_wayFrom_12 (by decide) ?_
  refine m_irem C dX6_wayFrom_13 (by decide) ?_
  refine lv_isub hx hb dX6_wayFrom_14 ?_
  refine lv_istore_n (lv' := [(3, .int ((mRem v0 5) - (mRem v1 5))), (2, .int ((v0 / 5) - (v1 / 5))), (0, .int v0), (1, .int v1)]) hx hb dX6_wayFrom_15 rfl hl (by decide) rfl (fun ls hl => ?_)
  refine lv_iload_n hx hb dX6_wayFrom_16 rfl (lv_at hl 1 rfl) ?_
  refine m_if_eq C (tgt := 41) hF dX6_wayFrom_17 (by decide) (fun hF => ?_) (fun hF => ?_)
  · exact (bl_X6_wayFrom_41 C) ((mRem v0 5) - (mRem v1 5)) _ _ _ hF hI (lv_sub hl [0] rfl)
  · refine lv_iload_n hx hb dX6_wayFrom_20 rfl (lv_at hl 1 rfl) ?_
    refine m_abs C mw_X6_321 hl.1 (Nat.le_of_ble_eq_true rfl) (Nat.le_of_ble_eq_true rfl) (Nat.le_of_ble_eq_true rfl) (Nat.le_of_ble_eq_true rfl) dX6_wayFrom_21 ?_
    refine lv_iload_n hx hb dX6_wayFrom_24 rfl (lv_at hl 0 rfl) ?_
    refine m_abs C mw_X6_321 hl.1 (Nat.le_of_ble_eq_true rfl) (Nat.le_of_ble_eq_true rfl) (Nat.le_of_ble_eq_true rfl) (Nat.le_of_ble_eq_true rfl) dX6_wayFrom_25 ?_
    refine m_icmp_lt C (tgt := 41) hF dX6_wayFrom_28 (by decide) (fun hF => ?_) (fun hF => ?_)
    · exact (bl_X6_wayFrom_41 C) ((mRem v0 5) - (mRem v1 5)) _ _ _ hF hI (lv_sub hl [0] rfl)
    · refine lv_iload_n hx hb dX6_wayFrom_31 rfl (lv_at hl 1 rfl) ?_
      refine m_if_le C (tgt := 39) hF dX6_wayFrom_32 (by decide) (fun hF => ?_) (fun hF => ?_)
      · refine lv_iconst (v := 0) hx hb dX6_wayFrom_39 (by decide) ?_
        exact (bl_X6_wayFrom_40 C) 0 _ _ _ hF hI (lv_sub hl [] rfl)
      · refine lv_iconst (v := 2) hx hb dX6_wayFrom_35 (by decide) ?_
        refine lv_goto (tgt := 40) hx hb dX6_wayFrom_36 (by decide) ?_
        exact (bl_X6_wayFrom_40 C) 2 _ _ _ hF hI (lv_sub hl [] rfl)
noncomputable def f_X6_moved_88 (v3 : Int32) (v4 : Int32) : Option Int32 := some ((5 * v3) + v4)
noncomputable def f_X6_moved (v0 : Int32) (v1 : Int32) (v2 : Int32) : Option Int32 := if v1 = 0 then ((f_X6_moved_88) (mMax 0 ((v0 / 5) - v2)) (mRem v0 5)) else if v1 = 1 then ((f_X6_moved_88) (v0 / 5) (mMin 4 ((mRem v0 5) + v2))) else if v1 = 2 then ((f_X6_moved_88) (mMin 4 ((v0 / 5) + v2)) (mRem v0 5)) else if v1 = 3 then ((f_X6_moved_88) (v0 / 5) (mMax 0 ((mRem v0 5) - v2))) else ((f_X6_moved_88) (v0 / 5) (mRem v0 5))
def rm_X6_moved : Room := { frames := 1, cells := 0, slots := 0, locals := 13 }
set_option maxRecDepth 100000 in
set_option maxHeartbeats 4000000 in
theorem bl_X6_moved_88 {p : Program} {l : Launch} {e : Env} {s : State} {m : MethodId} {args : Array Value} {below : List Frame} {meth : Method} {c : Code} {E : mE} {n0 : Nat} {r : Int32} {S : mS} (C : mCx p s m args meth c cX6_moved 5 RX6 (some .int) E n0) : ∀  (v3 : Int32) (v4 : Int32) (H : Heap) (locs : List Loc) (ls : Array Slot), f_X6_moved_88 v3 v4 = some r → mIv s E S H locs 0 → lv_has ls 5 [(3, .int v3), (4, .int v4)] → W p l e rm_X6_moved s m args below meth c H locs 0 0 (mQi below args s 0 0 n0 E (r, S)) (F0 m 88 ls []) := by
  have hx := C.1
  have hb := C.2.1
  intro v3 v4 H locs ls hF hI hl
  refine lv_iconst (v := 5) hx hb dX6_moved_88 (by decide) ?_
  refine lv_iload_n hx hb dX6_moved_89 rfl (lv_at hl 0 rfl) ?_
  refine lv_imul hx hb dX6_moved_90 ?_
  refine lv_iload hx hb dX6_moved_91 (lv_at hl 1 rfl) ?_
  refine lv_iadd hx hb dX6_moved_93 ?_
  exact m_iretiR C hI hF dX6_moved_94
set_option maxRecDepth 100000 in
set_option maxHeartbeats 4000000 in
theorem ok_X6_moved {l : Launch} {E : mE} {v0 : Int32} {v1 : Int32} {v2 : Int32} {S : mS} {r : Int32} (hF : f_X6_moved v0 v1 v2 = some r) : mMi l yX6_moved cX6_moved 5 (some .int) rm_X6_moved 0 0 [.int v0, .int v1, .int v2] E S (r, S) := by
  refine m_met_i (by decide) (Nat.le_of_ble_eq_true rfl) (fun p e s m args below meth c ls _ C hI hl => ?_)
  have hx := C.1
  have hb := C.2.1
  have hl : lv_has ls 5 [(0, .int v0), (1, .int v1), (2, .int v2)] := hl
  generalize s.heap = H at hI ⊢
  generalize ([] : List Loc) = locs at hI ⊢
  refine lv_iload_n hx hb dX6_moved_0 rfl (lv_at hl 0 rfl) ?_
  refine lv_iconst (v := 5) hx hb dX6_moved_1 (by decide) ?_
  refine lv_idiv hx hb dX6_moved_2 (by decide) ?_
  refine lv_istore_n (lv' := [(3, .int (v0 / 5)), (0, .int v0), (1, .int v1), (2, .int v2)]) hx hb dX6_moved_3 rfl hl (by decide) rfl (fun ls hl => ?_)
  refine lv_iload_n hx hb dX6_moved_4 rfl (lv_at hl 1 rfl) ?_
  refine lv_iconst (v := 5) hx hb dX6_moved_5 (by decide) ?_
  refine m_irem C dX6_moved_6 (by decide) ?_
  refine lv_istore (lv' := [(4, .int (mRem v0 5)), (3, .int (v0 / 5)), (0, .int v0), (1, .int v1), (2, .int v2)]) hx hb dX6_moved_7 hl (by decide) rfl (fun ls hl => ?_)
  refine lv_iload_n hx hb dX6_moved_9 rfl (lv_at hl 3 rfl) ?_
  refine m_if hF (fun c0 hF => ?_) (fun c0 hF => ?_)
  · refine m_swIn C dX6_moved_10 c0 0 rfl (by decide) (by decide) rfl (tgt := 40) (by decide) ?_
    refine lv_iconst (v := 0) hx hb dX6_moved_40 (by decide) ?_
    refine lv_iload_n hx hb dX6_moved_41 rfl (lv_at hl 1 rfl) ?_
    refine lv_iload_n hx hb dX6_moved_42 rfl (lv_at hl 4 rfl) ?_
    refine lv_isub hx hb dX6_moved_43 ?_
    refine m_max C mw_X6_312 hl.1 (Nat.le_of_ble_eq_true rfl) (Nat.le_of_ble_eq_true rfl) (Nat.le_of_ble_eq_true rfl) (Nat.le_of_ble_eq_true rfl) dX6_moved_44 ?_
    refine lv_istore_n (lv' := [(3, .int (mMax 0 ((v0 / 5) - v2))), (4, .int (mRem v0 5)), (0, .int v0), (1, .int v1), (2, .int v2)]) hx hb dX6_moved_47 rfl hl (by decide) rfl (fun ls hl => ?_)
    refine lv_goto (tgt := 88) hx hb dX6_moved_48 (by decide) ?_
    exact (bl_X6_moved_88 C) (mMax 0 ((v0 / 5) - v2)) (mRem v0 5) _ _ _ hF hI (lv_sub hl [0, 1] rfl)
  refine m_if hF (fun c1 hF => ?_) (fun c1 hF => ?_)
  · refine m_swIn C dX6_moved_10 c1 1 rfl (by decide) (by decide) rfl (tgt := 51) (by decide) ?_
    refine lv_iconst (v := 4) hx hb dX6_moved_51 (by decide) ?_
    refine lv_iload hx hb dX6_moved_52 (lv_at hl 0 rfl) ?_
    refine lv_iload_n hx hb dX6_moved_54 rfl (lv_at hl 4 rfl) ?_
    refine lv_iadd hx hb dX6_moved_55 ?_
    refine m_min C mw_X6_150 hl.1 (Nat.le_of_ble_eq_true rfl) (Nat.le_of_ble_eq_true rfl) (Nat.le_of_ble_eq_true rfl) (Nat.le_of_ble_eq_true rfl) dX6_moved_56 ?_
    refine lv_istore (lv' := [(4, .int (mMin 4 ((mRem v0 5) + v2))), (3, .int (v0 / 5)), (0, .int v0), (1, .int v1), (2, .int v2)]) hx hb dX6_moved_59 hl (by decide) rfl (fun ls hl => ?_)
    refine lv_goto (tgt := 88) hx hb dX6_moved_61 (by decide) ?_
    exact (bl_X6_moved_88 C) (v0 / 5) (mMin 4 ((mRem v0 5) + v2)) _ _ _ hF hI (lv_sub hl [1, 0] rfl)
  refine m_if hF (fun c2 hF => ?_) (fun c2 hF => ?_)
  · refine m_swIn C dX6_moved_10 c2 2 rfl (by decide) (by decide) rfl (tgt := 64) (by decide) ?_
    refine lv_iconst (v := 4) hx hb dX6_moved_64 (by decide) ?_
    refine lv_iload_n hx hb dX6_moved_65 rfl (lv_at hl 1 rfl) ?_
    refine lv_iload_n hx hb dX6_moved_66 rfl (lv_at hl 4 rfl) ?_
    refine lv_iadd hx hb dX6_moved_67 ?_
    refine m_min C mw_X6_150 hl.1 (Nat.le_of_ble_eq_true rfl) (Nat.le_of_ble_eq_true rfl) (Nat.le_of_ble_eq_true rfl) (Nat.le_of_ble_eq_true rfl) dX6_moved_68 ?_
    refine lv_istore_n (lv' := [(3, .int (mMin 4 ((v0 / 5) + v2))), (4, .int (mRem v0 5)), (0, .int v0), (1, .int v1), (2, .int v2)]) hx hb dX6_moved_71 rfl hl (by decide) rfl (fun ls hl => ?_)
    refine lv_goto (tgt := 88) hx hb dX6_moved_72 (by decide) ?_
    exact (bl_X6_moved_88 C) (mMin 4 ((v0 / 5) + v2)) (mRem v0 5) _ _ _ hF hI (lv_sub hl [0, 1] rfl)
  refine m_if hF (fun c3 hF => ?_) (fun c3 hF => ?_)
  · refine m_swIn C dX6_moved_10 c3 3 rfl (by decide) (by decide) rfl (tgt := 75) (by decide) ?_
    refine lv_iconst (v := 0) hx hb dX6_moved_75 (by decide) ?_
    refine lv_iload hx hb dX6_moved_76 (lv_at hl 0 rfl) ?_
    refine lv_iload_n hx hb dX6_moved_78 rfl (lv_at hl 4 rfl) ?_
    refine lv_isub hx hb dX6_moved_79 ?_
    refine m_max C mw_X6_312 hl.1 (Nat.le_of_ble_eq_true rfl) (Nat.le_of_ble_eq_true rfl) (Nat.le_of_ble_eq_true rfl) (Nat.le_of_ble_eq_true rfl) dX6_moved_80 ?_
    refine lv_istore (lv' := [(4, .int (mMax 0 ((mRem v0 5) - v2))), (3, .int (v0 / 5)), (0, .int v0), (1, .int v1), (2, .int v2)]) hx hb dX6_moved_83 hl (by decide) rfl (fun ls hl => ?_)
    refine lv_goto (tgt := 88) hx hb dX6_moved_85 (by decide) ?_
    exact (bl_X6_moved_88 C) (v0 / 5) (mMax 0 ((mRem v0 5) - v2)) _ _ _ hF hI (lv_sub hl [1, 0] rfl)
  refine lv_tableOut (tgt := 88) hx hb dX6_moved_10 (by have := lv_neT c0 (a := 0) rfl; have := lv_neT c1 (a := 1) rfl; have := lv_neT c2 (a := 2) rfl; have := lv_neT c3 (a := 3) rfl; omega) (by decide) ?_
  exact (bl_X6_moved_88 C) (v0 / 5) (mRem v0 5) _ _ _ hF hI (lv_sub hl [1, 0] rfl)
noncomputable def f_X6_givenWay_28 (t0 : Int32) : Option Int32 := some t0
noncomputable def f_X6_givenWay (v0 : Int32) (v1 : Int32) (v2 : Int32) : Option Int32 := mCp (f_X6_farBetween v1 v2) (fun r1 => mCp (f_X6_sheepReach v0 r1) (fun r2 => if r2 = 0 then ((f_X6_givenWay_28) v1) else (mCp (f_X6_wayFrom v1 v2) (fun r3 => mCp (f_X6_moved v1 r3 r2) (fun r4 => (f_X6_givenWay_28) r4)))))
def rm_X6_givenWay : Room := { frames := 2, cells := 0, slots := 0, locals := 37 }
set_option maxRecDepth 100000 in
set_option maxHeartbeats 4000000 in
theorem bl_X6_givenWay_28 {p : Program} {l : Launch} {e : Env} {s : State} {m : MethodId} {args : Array Value} {below : List Frame} {meth : Method} {c : Code} {E : mE} {n0 : Nat} {r : Int32} {S : mS} (C : mCx p s m args meth c cX6_givenWay 4 RX6 (some .int) E n0) : ∀  (t0 : Int32) (H : Heap) (locs : List Loc) (ls : Array Slot), f_X6_givenWay_28 t0 = some r → mIv s E S H locs 0 → lv_has ls 4 [] → W p l e rm_X6_givenWay s m args below meth c H locs 0 0 (mQi below args s 0 0 n0 E (r, S)) (F0 m 28 ls [.int t0]) := by
  have hx := C.1
  have hb := C.2.1
  intro t0 H locs ls hF hI hl
  exact m_iretiR C hI hF dX6_givenWay_28
set_option maxRecDepth 100000 in
set_option maxHeartbeats 4000000 in
theorem ok_X6_givenWay {l : Launch} {E : mE} {v0 : Int32} {v1 : Int32} {v2 : Int32} {S : mS} {r : Int32} (hF : f_X6_givenWay v0 v1 v2 = some r) : mMi l yX6_givenWay cX6_givenWay 4 (some .int) rm_X6_givenWay 0 0 [.int v0, .int v1, .int v2] E S (r, S) := by
  refine m_met_i (by decide) (Nat.le_of_ble_eq_true rfl) (fun p e s m args below meth c ls _ C hI hl => ?_)
  have hx := C.1
  have hb := C.2.1
  have hl : lv_has ls 4 [(0, .int v0), (1, .int v1), (2, .int v2)] := hl
  generalize s.heap = H at hI ⊢
  generalize ([] : List Loc) = locs at hI ⊢
  refine lv_iload_n hx hb dX6_givenWay_0 rfl (lv_at hl 0 rfl) ?_
  refine lv_iload_n hx hb dX6_givenWay_1 rfl (lv_at hl 1 rfl) ?_
  refine lv_iload_n hx hb dX6_givenWay_2 rfl (lv_at hl 2 rfl) ?_
  refine m_callSiR C cd_X6_176 hl.1 hI hF (fun _ h => ok_X6_farBetween h) rfl rfl ⟨rfl, rfl, Nat.le_of_ble_eq_true rfl, Nat.le_of_ble_eq_true rfl⟩ ⟨Nat.le_of_ble_eq_true rfl, Nat.le_of_ble_eq_true rfl⟩ (Nat.le_of_ble_eq_true rfl) dX6_givenWay_3 (fun r1 H locs hF hI => ?_)
  refine m_callSiR C cd_X6_315 hl.1 hI hF (fun _ h => ok_X6_sheepReach h) rfl rfl ⟨rfl, rfl, Nat.le_of_ble_eq_true rfl, Nat.le_of_ble_eq_true rfl⟩ ⟨Nat.le_of_ble_eq_true rfl, Nat.le_of_ble_eq_true rfl⟩ (Nat.le_of_ble_eq_true rfl) dX6_givenWay_6 (fun r2 H locs hF hI => ?_)
  refine lv_istore_n (lv' := [(3, .int r2), (0, .int v0), (1, .int v1), (2, .int v2)]) hx hb dX6_givenWay_9 rfl hl (by decide) rfl (fun ls hl => ?_)
  refine lv_iload_n hx hb dX6_givenWay_10 rfl (lv_at hl 0 rfl) ?_
  refine m_if_ne C (tgt := 18) hF dX6_givenWay_11 (by decide) (fun hF => ?_) (fun hF => ?_)
  · refine lv_iload_n hx hb dX6_givenWay_18 rfl (lv_at hl 2 rfl) ?_
    refine lv_iload_n hx hb dX6_givenWay_19 rfl (lv_at hl 2 rfl) ?_
    refine lv_iload_n hx hb dX6_givenWay_20 rfl (lv_at hl 3 rfl) ?_
    refine m_callSiR C cd_X6_324 hl.1 hI hF (fun _ h => ok_X6_wayFrom h) rfl rfl ⟨rfl, rfl, Nat.le_of_ble_eq_true rfl, Nat.le_of_ble_eq_true rfl⟩ ⟨Nat.le_of_ble_eq_true rfl, Nat.le_of_ble_eq_true rfl⟩ (Nat.le_of_ble_eq_true rfl) dX6_givenWay_21 (fun r3 H locs hF hI => ?_)
    refine lv_iload_n hx hb dX6_givenWay_24 rfl (lv_at hl 0 rfl) ?_
    refine m_callSiR C cd_X6_327 hl.1 hI hF (fun _ h => ok_X6_moved h) rfl rfl ⟨rfl, rfl, Nat.le_of_ble_eq_true rfl, Nat.le_of_ble_eq_true rfl⟩ ⟨Nat.le_of_ble_eq_true rfl, Nat.le_of_ble_eq_true rfl⟩ (Nat.le_of_ble_eq_true rfl) dX6_givenWay_25 (fun r4 H locs hF hI => ?_)
    exact (bl_X6_givenWay_28 C) r4 _ _ _ hF hI (lv_sub hl [] rfl)
  · refine lv_iload_n hx hb dX6_givenWay_14 rfl (lv_at hl 2 rfl) ?_
    refine lv_goto (tgt := 28) hx hb dX6_givenWay_15 (by decide) ?_
    exact (bl_X6_givenWay_28 C) v1 _ _ _ hF hI (lv_sub hl [] rfl)
noncomputable def f_J7_fill_53178_5 (k20 : mS → Option mS) : Nat → Int32 → Int32 → Int32 → Int32 → mS → Option mS := fun n => Nat.rec (motive := fun _ => Int32 → Int32 → Int32 → Int32 → mS → Option mS) (fun _ _ _ _ _ => none) (fun _ rec v0 v1 v2 v3 S => if v3 ≤ v2 then (k20 S) else (mXs v0 v2 v1 S (fun S2 => rec v0 v1 (v2 + 1) v3 S2))) n
theorem f_J7_fill_53178_5_s (k20 : mS → Option mS) (n : Nat) (v0 : Int32) (v1 : Int32) (v2 : Int32) (v3 : Int32) (S : mS) : f_J7_fill_53178_5 k20 (n + 1) v0 v1 v2 v3 S = if v3 ≤ v2 then (k20 S) else (mXs v0 v2 v1 S (fun S2 => (f_J7_fill_53178_5 k20 n) v0 v1 (v2 + 1) v3 S2)) := rfl
noncomputable def f_J7_fill_53178_20 (S : mS) : Option mS := some S
noncomputable def f_J7_fill_53178 (v0 : Int32) (v1 : Int32) (S : mS) : Option mS := mLe 8 v0 S (fun r1 => (f_J7_fill_53178_5 (f_J7_fill_53178_20) 1000) v0 v1 0 r1 S)
def rm_J7_fill_53178 : Room := { frames := 0, cells := 0, slots := 0, locals := 0 }
set_option maxRecDepth 100000 in
set_option maxHeartbeats 4000000 in
theorem bl_J7_fill_53178_5 {p : Program} {l : Launch} {e : Env} {s : State} {m : MethodId} {args : Array Value} {below : List Frame} {meth : Method} {c : Code} {E : mE} {n0 : Nat} {F : mS} (C : mCx p s m args meth c cJ7_fill_53178 4 RJ7 none E n0) {k20 : mS → Option mS} (hk20 : ∀ (S : mS) (H : Heap) (locs : List Loc) (ls : Array Slot), k20 S = some F → mIv s E S H locs 0 → lv_has ls 4 [] → W p l e rm_J7_fill_53178 s m args below meth c H locs 0 0 (mQv below args s 0 0 n0 E F) (F0 m 20 ls [])) : ∀ (n : Nat)  (v0 : Int32) (v1 : Int32) (v2 : Int32) (v3 : Int32) (S : mS) (H : Heap) (locs : List Loc) (ls : Array Slot), f_J7_fill_53178_5 k20 n v0 v1 v2 v3 S = some F → mIv s E S H locs 0 → lv_has ls 4 [(0, .ref (mA E.b v0)), (1, .int v1), (2, .int v2), (3, .int v3)] → W p l e rm_J7_fill_53178 s m args below meth c H locs 0 0 (mQv below args s 0 0 n0 E F) (F0 m 5 ls []) := by
  have hx := C.1
  have hb := C.2.1
  intro n
  induction n with
  | zero =>
    intro v0 v1 v2 v3 S H locs ls hF
    exact nomatch (show (none : Option mS) = some F from hF)
  | succ n ih =>
    intro v0 v1 v2 v3 S H locs ls hF hI hl
    have hF := (f_J7_fill_53178_5_s k20 n v0 v1 v2 v3 S).symm.trans hF
    refine lv_iload_n hx hb dJ7_fill_53178_5 rfl (lv_at hl 2 rfl) ?_
    refine lv_iload_n hx hb dJ7_fill_53178_6 rfl (lv_at hl 3 rfl) ?_
    refine m_icmp_ge C (tgt := 20) hF dJ7_fill_53178_7 (by decide) (fun hF => ?_) (fun hF => ?_)
    · exact hk20 S _ _ _ hF hI (lv_sub hl [] rfl)
    · refine lv_aload_n hx hb dJ7_fill_53178_10 rfl (lv_at hl 0 rfl) ?_
      refine lv_iload_n hx hb dJ7_fill_53178_11 rfl (lv_at hl 2 rfl) ?_
      refine lv_iload_n hx hb dJ7_fill_53178_12 rfl (lv_at hl 1 rfl) ?_
      refine m_iast C hI hF dJ7_fill_53178_13 (fun S2 H locs hF hI => ?_)
      refine lv_iinc (v := v2 + 1) (lv' := [(2, .int (v2 + 1)), (0, .ref (mA E.b v0)), (1, .int v1), (3, .int v3)]) hx hb dJ7_fill_53178_14 hl (k := 2) rfl rfl (by decide) rfl (fun ls hl => ?_)
      refine lv_goto (tgt := 5) hx hb dJ7_fill_53178_17 (by decide) ?_
      exact ih v0 v1 (v2 + 1) v3 S2 _ _ _ hF hI (lv_sub hl [1, 2, 0, 3] rfl)
set_option maxRecDepth 100000 in
set_option maxHeartbeats 4000000 in
theorem bl_J7_fill_53178_20 {p : Program} {l : Launch} {e : Env} {s : State} {m : MethodId} {args : Array Value} {below : List Frame} {meth : Method} {c : Code} {E : mE} {n0 : Nat} {F : mS} (C : mCx p s m args meth c cJ7_fill_53178 4 RJ7 none E n0) : ∀  (S : mS) (H : Heap) (locs : List Loc) (ls : Array Slot), f_J7_fill_53178_20 S = some F → mIv s E S H locs 0 → lv_has ls 4 [] → W p l e rm_J7_fill_53178 s m args below meth c H locs 0 0 (mQv below args s 0 0 n0 E F) (F0 m 20 ls []) := by
  have hx := C.1
  have hb := C.2.1
  intro S H locs ls hF hI hl
  exact m_vret C hI hF dJ7_fill_53178_20
set_option maxRecDepth 100000 in
set_option maxHeartbeats 4000000 in
theorem ok_J7_fill_53178 {l : Launch} {E : mE} {v0 : Int32} {v1 : Int32} {S : mS} {F : mS} (hF : f_J7_fill_53178 v0 v1 S = some F) : mMv l yJ7_fill_53178 cJ7_fill_53178 4 none rm_J7_fill_53178 0 0 [.ref (mA E.b v0), .int v1] E S F := by
  refine m_met_v (by decide) (Nat.le_of_ble_eq_true rfl) (fun p e s m args below meth c ls _ C hI hl => ?_)
  have hx := C.1
  have hb := C.2.1
  have hl : lv_has ls 4 [(0, .ref (mA E.b v0)), (1, .int v1)] := hl
  generalize s.heap = H at hI ⊢
  generalize ([] : List Loc) = locs at hI ⊢
  refine lv_iconst (v := 0) hx hb dJ7_fill_53178_0 (by decide) ?_
  refine lv_istore_n (lv' := [(2, .int 0), (0, .ref (mA E.b v0)), (1, .int v1)]) hx hb dJ7_fill_53178_1 rfl hl (by decide) rfl (fun ls hl => ?_)
  refine lv_aload_n hx hb dJ7_fill_53178_2 rfl (lv_at hl 1 rfl) ?_
  refine m_alen C hI hF dJ7_fill_53178_3 (fun r1 hF => ?_)
  refine lv_istore_n (lv' := [(3, .int r1), (2, .int 0), (0, .ref (mA E.b v0)), (1, .int v1)]) hx hb dJ7_fill_53178_4 rfl hl (by decide) rfl (fun ls hl => ?_)
  exact (bl_J7_fill_53178_5 C (k20 := (f_J7_fill_53178_20)) (bl_J7_fill_53178_20 C) 1000) v0 v1 0 r1 S _ _ _ hF hI (lv_sub hl [2, 3, 1, 0] rfl)
noncomputable def f_X6_hasBit_14 (t0 : Int32) : Option Int32 := mZ t0 (some t0)
noncomputable def f_X6_hasBit (v0 : Int32) (v1 : Int32) : Option Int32 := if ((v0 >>> (v1 &&& 31)) &&& 1) = 1 then ((f_X6_hasBit_14) 1) else ((f_X6_hasBit_14) 0)
def rm_X6_hasBit : Room := { frames := 0, cells := 0, slots := 0, locals := 0 }
set_option maxRecDepth 100000 in
set_option maxHeartbeats 4000000 in
theorem bl_X6_hasBit_14 {p : Program} {l : Launch} {e : Env} {s : State} {m : MethodId} {args : Array Value} {below : List Frame} {meth : Method} {c : Code} {E : mE} {n0 : Nat} {r : Int32} {S : mS} (C : mCx p s m args meth c cX6_hasBit 2 RX6 (some .boolean) E n0) : ∀  (t0 : Int32) (H : Heap) (locs : List Loc) (ls : Array Slot), f_X6_hasBit_14 t0 = some r → mIv s E S H locs 0 → lv_has ls 2 [] → W p l e rm_X6_hasBit s m args below meth c H locs 0 0 (mQi below args s 0 0 n0 E (r, S)) (F0 m 14 ls [.int t0]) := by
  have hx := C.1
  have hb := C.2.1
  intro t0 H locs ls hF hI hl
  exact m_iretzR C hI hF dX6_hasBit_14
set_option maxRecDepth 100000 in
set_option maxHeartbeats 4000000 in
theorem ok_X6_hasBit {l : Launch} {E : mE} {v0 : Int32} {v1 : Int32} {S : mS} {r : Int32} (hF : f_X6_hasBit v0 v1 = some r) : mMi l yX6_hasBit cX6_hasBit 2 (some .boolean) rm_X6_hasBit 0 0 [.int v0, .int v1] E S (r, S) := by
  refine m_met_i (by decide) (Nat.le_of_ble_eq_true rfl) (fun p e s m args below meth c ls _ C hI hl => ?_)
  have hx := C.1
  have hb := C.2.1
  have hl : lv_has ls 2 [(0, .int v0), (1, .int v1)] := hl
  generalize s.heap = H at hI ⊢
  generalize ([] : List Loc) = locs at hI ⊢
  refine lv_iload_n hx hb dX6_hasBit_0 rfl (lv_at hl 0 rfl) ?_
  refine lv_iload_n hx hb dX6_hasBit_1 rfl (lv_at hl 1 rfl) ?_
  refine lv_ishr hx hb dX6_hasBit_2 ?_
  refine lv_iconst (v := 1) hx hb dX6_hasBit_3 (by decide) ?_
  refine lv_iand hx hb dX6_hasBit_4 ?_
  refine lv_iconst (v := 1) hx hb dX6_hasBit_5 (by decide) ?_
  refine m_icmp_ne C (tgt := 13) hF dX6_hasBit_6 (by decide) (fun hF => ?_) (fun hF => ?_)
  · refine lv_iconst (v := 0) hx hb dX6_hasBit_13 (by decide) ?_
    exact (bl_X6_hasBit_14 C) 0 _ _ _ hF hI (lv_sub hl [] rfl)
  · refine lv_iconst (v := 1) hx hb dX6_hasBit_9 (by decide) ?_
    refine lv_goto (tgt := 14) hx hb dX6_hasBit_10 (by decide) ?_
    exact (bl_X6_hasBit_14 C) 1 _ _ _ hF hI (lv_sub hl [] rfl)
noncomputable def f_X0_isReached_2 (k34 : Option Int32) (S : mS) : Nat → Int32 → Int32 → Int32 → Int32 → Option Int32 := fun n => Nat.rec (motive := fun _ => Int32 → Int32 → Int32 → Int32 → Option Int32) (fun _ _ _ _ => none) (fun _ rec v0 v1 v2 v3 => if 25 ≤ v3 then (k34) else (mGr 0 0 v0 S (fun r1 => mX 8 r1 ((25 * v1) + v3) S (fun r2 => mCp (f_X6_hasBit r2 v2) (fun r3 => if r3 = 0 then (rec v0 v1 v2 (v3 + 1)) else (mZ 1 (some 1))))))) n
theorem f_X0_isReached_2_s (k34 : Option Int32) (S : mS) (n : Nat) (v0 : Int32) (v1 : Int32) (v2 : Int32) (v3 : Int32) : f_X0_isReached_2 k34 S (n + 1) v0 v1 v2 v3 = if 25 ≤ v3 then (k34) else (mGr 0 0 v0 S (fun r1 => mX 8 r1 ((25 * v1) + v3) S (fun r2 => mCp (f_X6_hasBit r2 v2) (fun r3 => if r3 = 0 then ((f_X0_isReached_2 k34 S n) v0 v1 v2 (v3 + 1)) else (mZ 1 (some 1)))))) := rfl
noncomputable def f_X0_isReached_34 (S : mS) : Option Int32 := mZ 0 (some 0)
noncomputable def f_X0_isReached (v0 : Int32) (v1 : Int32) (v2 : Int32) (S : mS) : Option Int32 := (f_X0_isReached_2 (f_X0_isReached_34 S) S 1000) v0 v1 v2 0
def rm_X0_isReached : Room := { frames := 1, cells := 0, slots := 0, locals := 21 }
set_option maxRecDepth 100000 in
set_option maxHeartbeats 4000000 in
theorem bl_X0_isReached_2 {p : Program} {l : Launch} {e : Env} {s : State} {m : MethodId} {args : Array Value} {below : List Frame} {meth : Method} {c : Code} {E : mE} {n0 : Nat} {r : Int32} {S : mS} (C : mCx p s m args meth c cX0_isReached 4 RX0 (some .boolean) E n0) {k34 : Option Int32} (hk34 : ∀ (H : Heap) (locs : List Loc) (ls : Array Slot), k34 = some r → mIv s E S H locs 0 → lv_has ls 4 [] → W p l e rm_X0_isReached s m args below meth c H locs 0 0 (mQi below args s 0 0 n0 E (r, S)) (F0 m 34 ls [])) : ∀ (n : Nat)  (v0 : Int32) (v1 : Int32) (v2 : Int32) (v3 : Int32) (H : Heap) (locs : List Loc) (ls : Array Slot), f_X0_isReached_2 k34 S n v0 v1 v2 v3 = some r → mIv s E S H locs 0 → lv_has ls 4 [(0, .ref (mA E.b v0)), (1, .int v1), (2, .int v2), (3, .int v3)] → W p l e rm_X0_isReached s m args below meth c H locs 0 0 (mQi below args s 0 0 n0 E (r, S)) (F0 m 2 ls []) := by
  have hx := C.1
  have hb := C.2.1
  intro n
  induction n with
  | zero =>
    intro v0 v1 v2 v3 H locs ls hF
    exact nomatch (show (none : Option Int32) = some r from hF)
  | succ n ih =>
    intro v0 v1 v2 v3 H locs ls hF hI hl
    have hF := (f_X0_isReached_2_s k34 S n v0 v1 v2 v3).symm.trans hF
    refine lv_iload_n hx hb dX0_isReached_2 rfl (lv_at hl 3 rfl) ?_
    refine lv_bipush (v := 25) hx hb dX0_isReached_3 (by decide) ?_
    refine m_icmp_ge C (tgt := 34) hF dX0_isReached_5 (by decide) (fun hF => ?_) (fun hF => ?_)
    · exact hk34  _ _ _ hF hI (lv_sub hl [] rfl)
    · refine lv_aload_n hx hb dX0_isReached_8 rfl (lv_at hl 0 rfl) ?_
      refine m_getR C fd_X0_9 hI hF dX0_isReached_9 (fun r1 hF => ?_)
      refine lv_bipush (v := 25) hx hb dX0_isReached_12 (by decide) ?_
      refine lv_iload_n hx hb dX0_isReached_14 rfl (lv_at hl 1 rfl) ?_
      refine lv_imul hx hb dX0_isReached_15 ?_
      refine lv_iload_n hx hb dX0_isReached_16 rfl (lv_at hl 3 rfl) ?_
      refine lv_iadd hx hb dX0_isReached_17 ?_
      refine m_iald C hI hF dX0_isReached_18 (fun r2 hF => ?_)
      refine lv_iload_n hx hb dX0_isReached_19 rfl (lv_at hl 2 rfl) ?_
      refine m_callNiR C cd_X0_98 hl.1 hI hF (fun _ h => ok_X6_hasBit h) rfl rfl ⟨rfl, rfl, Nat.le_of_ble_eq_true rfl, Nat.le_of_ble_eq_true rfl⟩ ⟨Nat.le_of_ble_eq_true rfl, Nat.le_of_ble_eq_true rfl⟩ (Nat.le_of_ble_eq_true rfl) dX0_isReached_20 (fun r3 H locs hF hI => ?_)
      refine m_if_eq C (tgt := 28) hF dX0_isReached_23 (by decide) (fun hF => ?_) (fun hF => ?_)
      · refine lv_iinc (v := v3 + 1) (lv' := [(3, .int (v3 + 1)), (0, .ref (mA E.b v0)), (1, .int v1), (2, .int v2)]) hx hb dX0_isReached_28 hl (k := 3) rfl rfl (by decide) rfl (fun ls hl => ?_)
        refine lv_goto (tgt := 2) hx hb dX0_isReached_31 (by decide) ?_
        exact ih v0 v1 v2 (v3 + 1) _ _ _ hF hI (lv_sub hl [1, 2, 3, 0] rfl)
      · refine lv_iconst (v := 1) hx hb dX0_isReached_26 (by decide) ?_
        exact m_iretzR C hI hF dX0_isReached_27
set_option maxRecDepth 100000 in
set_option maxHeartbeats 4000000 in
theorem bl_X0_isReached_34 {p : Program} {l : Launch} {e : Env} {s : State} {m : MethodId} {args : Array Value} {below : List Frame} {meth : Method} {c : Code} {E : mE} {n0 : Nat} {r : Int32} {S : mS} (C : mCx p s m args meth c cX0_isReached 4 RX0 (some .boolean) E n0) : ∀  (H : Heap) (locs : List Loc) (ls : Array Slot), f_X0_isReached_34 S = some r → mIv s E S H locs 0 → lv_has ls 4 [] → W p l e rm_X0_isReached s m args below meth c H locs 0 0 (mQi below args s 0 0 n0 E (r, S)) (F0 m 34 ls []) := by
  have hx := C.1
  have hb := C.2.1
  intro H locs ls hF hI hl
  refine lv_iconst (v := 0) hx hb dX0_isReached_34 (by decide) ?_
  exact m_iretzR C hI hF dX0_isReached_35
set_option maxRecDepth 100000 in
set_option maxHeartbeats 4000000 in
theorem ok_X0_isReached {l : Launch} {E : mE} {v0 : Int32} {v1 : Int32} {v2 : Int32} {S : mS} {r : Int32} (hF : f_X0_isReached v0 v1 v2 S = some r) : mMi l yX0_isReached cX0_isReached 4 (some .boolean) rm_X0_isReached 0 0 [.ref (mA E.b v0), .int v1, .int v2] E S (r, S) := by
  refine m_met_i (by decide) (Nat.le_of_ble_eq_true rfl) (fun p e s m args below meth c ls _ C hI hl => ?_)
  have hx := C.1
  have hb := C.2.1
  have hl : lv_has ls 4 [(0, .ref (mA E.b v0)), (1, .int v1), (2, .int v2)] := hl
  generalize s.heap = H at hI ⊢
  generalize ([] : List Loc) = locs at hI ⊢
  refine lv_iconst (v := 0) hx hb dX0_isReached_0 (by decide) ?_
  refine lv_istore_n (lv' := [(3, .int 0), (0, .ref (mA E.b v0)), (1, .int v1), (2, .int v2)]) hx hb dX0_isReached_1 rfl hl (by decide) rfl (fun ls hl => ?_)
  exact (bl_X0_isReached_2 C (k34 := (f_X0_isReached_34 S)) (bl_X0_isReached_34 C) 1000) v0 v1 v2 0 _ _ _ hF hI (lv_sub hl [1, 2, 3, 0] rfl)
