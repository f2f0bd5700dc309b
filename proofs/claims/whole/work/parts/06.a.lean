noncomputable def f_X0_init (v0 : Int32) (S : mS) : Option mS := mNa 8 275 S (fun r1 S2 => mPr 0 0 v0 r1 S2 (fun S3 => mNa 8 25 S3 (fun r4 S5 => mPr 0 1 v0 r4 S5 (fun S6 => mNa 8 625 S6 (fun r7 S8 => mPr 0 2 v0 r7 S8 (fun S9 => mP 0 3 v0 (-1) S9 (fun S10 => some S10)))))))
def rm_X0_init : Room := { frames := 1, cells := 3, slots := 925, locals := 12 }
set_option maxRecDepth 100000 in
set_option maxHeartbeats 4000000 in
theorem ok_X0_init {l : Launch} {E : mE} {v0 : Int32} {S : mS} {F : mS} (hF : f_X0_init v0 S = some F) : mMv l yX0_init cX0_init 1 none rm_X0_init 3 925 [.ref (mA E.b v0)] E S F := by
  refine m_met_v (by decide) (Nat.le_of_ble_eq_true rfl) (fun p e s m args below meth c ls hin C hI hl => ?_)
  have hx := C.1
  have hin2 := hin rfl
  have hb := C.2.1
  have hl : lv_has ls 1 [(0, .ref (mA E.b v0))] := hl
  generalize s.heap = H at hI ⊢
  generalize ([] : List Loc) = locs at hI ⊢
  refine lv_aload_n hx hb dX0_init_0 rfl (lv_at hl 0 rfl) ?_
  refine m_objInit C ow_X0_3 hl.1 (Nat.le_of_ble_eq_true rfl) (Nat.le_of_ble_eq_true rfl) dX0_init_1 ?_
  refine lv_aload_n hx hb dX0_init_4 rfl (lv_at hl 0 rfl) ?_
  refine lv_sipush (v := 275) hx hb dX0_init_5 (by decide) ?_
  refine m_newa C (atype := .int) (kd := 8) (ty := .int) (N := 275) aw_int rfl ⟨rfl, by decide, by decide, rfl, by decide⟩ (fun _ _ h => h) rfl (by decide) hI hF (Nat.le_of_ble_eq_true rfl) (Nat.le_of_ble_eq_true rfl) dX0_init_8 (fun r1 S2 H hF hI => ?_)
  refine m_putR C hin2 fd_X0_9 (fun _ => ⟨rfl, rfl⟩) hI hF dX0_init_10 (fun S3 H locs hF hI => ?_)
  refine lv_aload_n hx hb dX0_init_13 rfl (lv_at hl 0 rfl) ?_
  refine lv_bipush (v := 25) hx hb dX0_init_14 (by decide) ?_
  refine m_newa C (atype := .int) (kd := 8) (ty := .int) (N := 25) aw_int rfl ⟨rfl, by decide, by decide, rfl, by decide⟩ (fun _ _ h => h) rfl (by decide) hI hF (Nat.le_of_ble_eq_true rfl) (Nat.le_of_ble_eq_true rfl) dX0_init_16 (fun r4 S5 H hF hI => ?_)
  refine m_putR C hin2 fd_X0_15 (fun _ => ⟨rfl, rfl⟩) hI hF dX0_init_18 (fun S6 H locs hF hI => ?_)
  refine lv_aload_n hx hb dX0_init_21 rfl (lv_at hl 0 rfl) ?_
  refine lv_sipush (v := 625) hx hb dX0_init_22 (by decide) ?_
  refine m_newa C (atype := .int) (kd := 8) (ty := .int) (N := 625) aw_int rfl ⟨rfl, by decide, by decide, rfl, by decide⟩ (fun _ _ h => h) rfl (by decide) hI hF (Nat.le_of_ble_eq_true rfl) (Nat.le_of_ble_eq_true rfl) dX0_init_25 (fun r7 S8 H hF hI => ?_)
  refine m_putR C hin2 fd_X0_18 (fun _ => ⟨rfl, rfl⟩) hI hF dX0_init_27 (fun S9 H locs hF hI => ?_)
  refine lv_aload_n hx hb dX0_init_30 rfl (lv_at hl 0 rfl) ?_
  refine lv_iconst (v := (-1)) hx hb dX0_init_31 (by decide) ?_
  refine m_put C fd_X0_21 hI hF dX0_init_32 (fun S10 H locs hF hI => ?_)
  exact m_vret C hI hF dX0_init_35
noncomputable def f_X6_isWithin_15 (t0 : Int32) : Option Int32 := mZ t0 (some t0)
noncomputable def f_X6_isWithin_14 : Option Int32 := (f_X6_isWithin_15) 0
noncomputable def f_X6_isWithin (v0 : Int32) (v1 : Int32) (v2 : Int32) : Option Int32 := if v0 < v1 then ((f_X6_isWithin_14)) else (if v2 < v0 then ((f_X6_isWithin_14)) else ((f_X6_isWithin_15) 1))
def rm_X6_isWithin : Room := { frames := 0, cells := 0, slots := 0, locals := 0 }
set_option maxRecDepth 100000 in
set_option maxHeartbeats 4000000 in
theorem bl_X6_isWithin_15 {p : Program} {l : Launch} {e : Env} {s : State} {m : MethodId} {args : Array Value} {below : List Frame} {meth : Method} {c : Code} {E : mE} {n0 : Nat} {r : Int32} {S : mS} (C : mCx p s m args meth c cX6_isWithin 3 RX6 (some .boolean) E n0) : ∀  (t0 : Int32) (H : Heap) (locs : List Loc) (ls : Array Slot), f_X6_isWithin_15 t0 = some r → mIv s E S H locs 0 → lv_has ls 3 [] → W p l e rm_X6_isWithin s m args below meth c H locs 0 0 (mQi below args s 0 0 n0 E (r, S)) (F0 m 15 ls [.int t0]) := by
  have hx := C.1
  have hb := C.2.1
  intro t0 H locs ls hF hI hl
  exact m_iretzR C hI hF dX6_isWithin_15
set_option maxRecDepth 100000 in
set_option maxHeartbeats 4000000 in
theorem bl_X6_isWithin_14 {p : Program} {l : Launch} {e : Env} {s : State} {m : MethodId} {args : Array Value} {below : List Frame} {meth : Method} {c : Code} {E : mE} {n0 : Nat} {r : Int32} {S : mS} (C : mCx p s m args meth c cX6_isWithin 3 RX6 (some .boolean) E n0) : ∀  (H : Heap) (locs : List Loc) (ls : Array Slot), f_X6_isWithin_14 = some r → mIv s E S H locs 0 → lv_has ls 3 [] → W p l e rm_X6_isWithin s m args below meth c H locs 0 0 (mQi below args s 0 0 n0 E (r, S)) (F0 m 14 ls []) := by
  have hx := C.1
  have hb := C.2.1
  intro H locs ls hF hI hl
  refine lv_iconst (v := 0) hx hb dX6_isWithin_14 (by decide) ?_
  exact (bl_X6_isWithin_15 C) 0 _ _ _ hF hI (lv_sub hl [] rfl)
set_option maxRecDepth 100000 in
set_option maxHeartbeats 4000000 in
theorem ok_X6_isWithin {l : Launch} {E : mE} {v0 : Int32} {v1 : Int32} {v2 : Int32} {S : mS} {r : Int32} (hF : f_X6_isWithin v0 v1 v2 = some r) : mMi l yX6_isWithin cX6_isWithin 3 (some .boolean) rm_X6_isWithin 0 0 [.int v0, .int v1, .int v2] E S (r, S) := by
  refine m_met_i (by decide) (Nat.le_of_ble_eq_true rfl) (fun p e s m args below meth c ls hin C hI hl => ?_)
  have hx := C.1
  have hb := C.2.1
  have hl : lv_has ls 3 [(0, .int v0), (1, .int v1), (2, .int v2)] := hl
  generalize s.heap = H at hI ⊢
  generalize ([] : List Loc) = locs at hI ⊢
  refine lv_iload_n hx hb dX6_isWithin_0 rfl (lv_at hl 0 rfl) ?_
  refine lv_iload_n hx hb dX6_isWithin_1 rfl (lv_at hl 1 rfl) ?_
  refine m_icmp_lt C (tgt := 14) hF dX6_isWithin_2 (by decide) (fun hF => ?_) (fun hF => ?_)
  · exact (bl_X6_isWithin_14 C)  _ _ _ hF hI (lv_sub hl [] rfl)
  · refine lv_iload_n hx hb dX6_isWithin_5 rfl (lv_at hl 0 rfl) ?_
    refine lv_iload_n hx hb dX6_isWithin_6 rfl (lv_at hl 2 rfl) ?_
    refine m_icmp_gt C (tgt := 14) hF dX6_isWithin_7 (by decide) (fun hF => ?_) (fun hF => ?_)
    · exact (bl_X6_isWithin_14 C)  _ _ _ hF hI (lv_sub hl [] rfl)
    · refine lv_iconst (v := 1) hx hb dX6_isWithin_10 (by decide) ?_
      refine lv_goto (tgt := 15) hx hb dX6_isWithin_11 (by decide) ?_
      exact (bl_X6_isWithin_15 C) 1 _ _ _ hF hI (lv_sub hl [] rfl)
noncomputable def f_X1_hasSheep (v0 : Int32) (v1 : Int32) (S : mS) : Option Int32 := mG 1 5 v0 S (fun r1 => mCp (f_X6_isWithin v1 0 (r1 - 1)) (fun r2 => mZ r2 (some r2)))
def rm_X1_hasSheep : Room := { frames := 1, cells := 0, slots := 0, locals := 22 }
set_option maxRecDepth 100000 in
set_option maxHeartbeats 4000000 in
theorem ok_X1_hasSheep {l : Launch} {E : mE} {v0 : Int32} {v1 : Int32} {S : mS} {r : Int32} (hF : f_X1_hasSheep v0 v1 S = some r) : mMi l yX1_hasSheep cX1_hasSheep 2 (some .boolean) rm_X1_hasSheep 0 0 [.ref (mA E.b v0), .int v1] E S (r, S) := by
  refine m_met_i (by decide) (Nat.le_of_ble_eq_true rfl) (fun p e s m args below meth c ls hin C hI hl => ?_)
  have hx := C.1
  have hb := C.2.1
  have hl : lv_has ls 2 [(0, .ref (mA E.b v0)), (1, .int v1)] := hl
  generalize s.heap = H at hI ⊢
  generalize ([] : List Loc) = locs at hI ⊢
  refine lv_iload_n hx hb dX1_hasSheep_0 rfl (lv_at hl 1 rfl) ?_
  refine lv_iconst (v := 0) hx hb dX1_hasSheep_1 (by decide) ?_
  refine lv_aload_n hx hb dX1_hasSheep_2 rfl (lv_at hl 0 rfl) ?_
  refine m_get C fd_X1_28 hI hF dX1_hasSheep_3 (fun r1 hF => ?_)
  refine lv_iconst (v := 1) hx hb dX1_hasSheep_6 (by decide) ?_
  refine lv_isub hx hb dX1_hasSheep_7 ?_
  refine m_callNiR C cd_X1_40 hl.1 hI hF (fun _ h => ok_X6_isWithin h) rfl rfl ⟨rfl, rfl, Nat.le_of_ble_eq_true rfl, Nat.le_of_ble_eq_true rfl⟩ ⟨Nat.le_of_ble_eq_true rfl, Nat.le_of_ble_eq_true rfl⟩ (Nat.le_of_ble_eq_true rfl) dX1_hasSheep_8 (fun r2 H locs hF hI => ?_)
  exact m_iretzR C hI hF dX1_hasSheep_11
noncomputable def f_X1_hasWhistle (v0 : Int32) (v1 : Int32) (S : mS) : Option Int32 := mG 1 4 v0 S (fun r1 => mCp (f_X6_isWithin v1 0 (r1 - 1)) (fun r2 => mZ r2 (some r2)))
def rm_X1_hasWhistle : Room := { frames := 1, cells := 0, slots := 0, locals := 22 }
set_option maxRecDepth 100000 in
set_option maxHeartbeats 4000000 in
theorem ok_X1_hasWhistle {l : Launch} {E : mE} {v0 : Int32} {v1 : Int32} {S : mS} {r : Int32} (hF : f_X1_hasWhistle v0 v1 S = some r) : mMi l yX1_hasWhistle cX1_hasWhistle 2 (some .boolean) rm_X1_hasWhistle 0 0 [.ref (mA E.b v0), .int v1] E S (r, S) := by
  refine m_met_i (by decide) (Nat.le_of_ble_eq_true rfl) (fun p e s m args below meth c ls hin C hI hl => ?_)
  have hx := C.1
  have hb := C.2.1
  have hl : lv_has ls 2 [(0, .ref (mA E.b v0)), (1, .int v1)] := hl
  generalize s.heap = H at hI ⊢
  generalize ([] : List Loc) = locs at hI ⊢
  refine lv_iload_n hx hb dX1_hasWhistle_0 rfl (lv_at hl 1 rfl) ?_
  refine lv_iconst (v := 0) hx hb dX1_hasWhistle_1 (by decide) ?_
  refine lv_aload_n hx hb dX1_hasWhistle_2 rfl (lv_at hl 0 rfl) ?_
  refine m_get C fd_X1_24 hI hF dX1_hasWhistle_3 (fun r1 hF => ?_)
  refine lv_iconst (v := 1) hx hb dX1_hasWhistle_6 (by decide) ?_
  refine lv_isub hx hb dX1_hasWhistle_7 ?_
  refine m_callNiR C cd_X1_40 hl.1 hI hF (fun _ h => ok_X6_isWithin h) rfl rfl ⟨rfl, rfl, Nat.le_of_ble_eq_true rfl, Nat.le_of_ble_eq_true rfl⟩ ⟨Nat.le_of_ble_eq_true rfl, Nat.le_of_ble_eq_true rfl⟩ (Nat.le_of_ble_eq_true rfl) dX1_hasWhistle_8 (fun r2 H locs hF hI => ?_)
  exact m_iretzR C hI hF dX1_hasWhistle_11
noncomputable def f_X6_farBetween (v0 : Int32) (v1 : Int32) : Option Int32 := some ((mAbs ((v0 / 5) - (v1 / 5))) + (mAbs ((mRem v0 5) - (mRem v1 5))))
def rm_X6_farBetween : Room := { frames := 1, cells := 0, slots := 0, locals := 14 }
set_option maxRecDepth 100000 in
set_option maxHeartbeats 4000000 in
theorem ok_X6_farBetween {l : Launch} {E : mE} {v0 : Int32} {v1 : Int32} {S : mS} {r : Int32} (hF : f_X6_farBetween v0 v1 = some r) : mMi l yX6_farBetween cX6_farBetween 2 (some .int) rm_X6_farBetween 0 0 [.int v0, .int v1] E S (r, S) := by
  refine m_met_i (by decide) (Nat.le_of_ble_eq_true rfl) (fun p e s m args below meth c ls hin C hI hl => ?_)
  have hx := C.1
  have hb := C.2.1
  have hl : lv_has ls 2 [(0, .int v0), (1, .int v1)] := hl
  generalize s.heap = H at hI ⊢
  generalize ([] : List Loc) = locs at hI ⊢
  refine lv_iload_n hx hb dX6_farBetween_0 rfl (lv_at hl 0 rfl) ?_
  refine lv_iconst (v := 5) hx hb dX6_farBetween_1 (by decide) ?_
  refine lv_idiv hx hb dX6_farBetween_2 (by decide) ?_
  refine lv_iload_n hx hb dX6_farBetween_3 rfl (lv_at hl 1 rfl) ?_
  refine lv_iconst (v := 5) hx hb dX6_farBetween_4 (by decide) ?_
  refine lv_idiv hx hb dX6_farBetween_5 (by decide) ?_
  refine lv_isub hx hb dX6_farBetween_6 ?_
  refine m_abs C mw_X6_321 hl.1 (Nat.le_of_ble_eq_true rfl) (Nat.le_of_ble_eq_true rfl) (Nat.le_of_ble_eq_true rfl) (Nat.le_of_ble_eq_true rfl) dX6_farBetween_7 ?_
  refine lv_iload_n hx hb dX6_farBetween_10 rfl (lv_at hl 0 rfl) ?_
  refine lv_iconst (v := 5) hx hb dX6_farBetween_11 (by decide) ?_
  refine m_irem C dX6_farBetween_12 (by decide) ?_
  refine lv_iload_n hx hb dX6_farBetween_13 rfl (lv_at hl 1 rfl) ?_
  refine lv_iconst (v := 5) hx hb dX6_farBetween_14 (by decide) ?_
  refine m_irem C dX6_farBetween_15 (by decide) ?_
  refine lv_isub hx hb dX6_farBetween_16 ?_
  refine m_abs C mw_X6_321 hl.1 (Nat.le_of_ble_eq_true rfl) (Nat.le_of_ble_eq_true rfl) (Nat.le_of_ble_eq_true rfl) (Nat.le_of_ble_eq_true rfl) dX6_farBetween_17 ?_
  refine lv_iadd hx hb dX6_farBetween_20 ?_
  exact m_iretiR C hI hF dX6_farBetween_21
noncomputable def f_X6_sheepReach_83 (t0 : Int32) : Option Int32 := some t0
noncomputable def f_X6_sheepReach_98 (t0 : Int32) : Option Int32 := some t0
noncomputable def f_X6_sheepReach_35 (v0 : Int32) (v1 : Int32) (v2 : Int32) (v3 : Int32) (t0 : Int32) : Option Int32 := if v0 = 1 then (some v3) else if v0 = 2 then (if v1 = 0 then ((f_X6_sheepReach_83) v2) else ((f_X6_sheepReach_83) 0)) else if v0 = 3 then (if 3 < v1 then ((f_X6_sheepReach_98) v3) else ((f_X6_sheepReach_98) (mMax 1 v3))) else if v0 = 4 then (some t0) else if v0 = 5 then (some (mMin 3 (2 * t0))) else (some v2)
noncomputable def f_X6_sheepReach_22 (v0 : Int32) (v1 : Int32) (v2 : Int32) (t0 : Int32) : Option Int32 := if 2 < v1 then ((f_X6_sheepReach_35) v0 v1 v2 t0 v2) else ((f_X6_sheepReach_35) v0 v1 v2 t0 (v2 + 1))
noncomputable def f_X6_sheepReach_10 (v0 : Int32) (v1 : Int32) (t0 : Int32) : Option Int32 := if v1 = 0 then ((f_X6_sheepReach_22) v0 v1 t0 (t0 + 2)) else ((f_X6_sheepReach_22) v0 v1 t0 t0)
noncomputable def f_X6_sheepReach (v0 : Int32) (v1 : Int32) : Option Int32 := if 1 < v1 then ((f_X6_sheepReach_10) v0 v1 0) else ((f_X6_sheepReach_10) v0 v1 1)
def rm_X6_sheepReach : Room := { frames := 1, cells := 0, slots := 0, locals := 13 }
set_option maxRecDepth 100000 in
set_option maxHeartbeats 4000000 in
theorem bl_X6_sheepReach_83 {p : Program} {l : Launch} {e : Env} {s : State} {m : MethodId} {args : Array Value} {below : List Frame} {meth : Method} {c : Code} {E : mE} {n0 : Nat} {r : Int32} {S : mS} (C : mCx p s m args meth c cX6_sheepReach 5 RX6 (some .int) E n0) : ∀  (t0 : Int32) (H : Heap) (locs : List Loc) (ls : Array Slot), f_X6_sheepReach_83 t0 = some r → mIv s E S H locs 0 → lv_has ls 5 [] → W p l e rm_X6_sheepReach s m args below meth c H locs 0 0 (mQi below args s 0 0 n0 E (r, S)) (F0 m 83 ls [.int t0]) := by
  have hx := C.1
  have hb := C.2.1
  intro t0 H locs ls hF hI hl
  exact m_iretiR C hI hF dX6_sheepReach_83
set_option maxRecDepth 100000 in
set_option maxHeartbeats 4000000 in
theorem bl_X6_sheepReach_98 {p : Program} {l : Launch} {e : Env} {s : State} {m : MethodId} {args : Array Value} {below : List Frame} {meth : Method} {c : Code} {E : mE} {n0 : Nat} {r : Int32} {S : mS} (C : mCx p s m args meth c cX6_sheepReach 5 RX6 (some .int) E n0) : ∀  (t0 : Int32) (H : Heap) (locs : List Loc) (ls : Array Slot), f_X6_sheepReach_98 t0 = some r → mIv s E S H locs 0 → lv_has ls 5 [] → W p l e rm_X6_sheepReach s m args below meth c H locs 0 0 (mQi below args s 0 0 n0 E (r, S)) (F0 m 98 ls [.int t0]) := by
  have hx := C.1
  have hb := C.2.1
  intro t0 H locs ls hF hI hl
  exact m_iretiR C hI hF dX6_sheepReach_98
set_option maxRecDepth 100000 in
set_option maxHeartbeats 4000000 in
theorem bl_X6_sheepReach_35 {p : Program} {l : Launch} {e : Env} {s : State} {m : MethodId} {args : Array Value} {below : List Frame} {meth : Method} {c : Code} {E : mE} {n0 : Nat} {r : Int32} {S : mS} (C : mCx p s m args meth c cX6_sheepReach 5 RX6 (some .int) E n0) : ∀  (v0 : Int32) (v1 : Int32) (v2 : Int32) (v3 : Int32) (t0 : Int32) (H : Heap) (locs : List Loc) (ls : Array Slot), f_X6_sheepReach_35 v0 v1 v2 v3 t0 = some r → mIv s E S H locs 0 → lv_has ls 5 [(0, .int v0), (1, .int v1), (2, .int v2), (3, .int v3)] → W p l e rm_X6_sheepReach s m args below meth c H locs 0 0 (mQi below args s 0 0 n0 E (r, S)) (F0 m 35 ls [.int t0]) := by
  have hx := C.1
  have hb := C.2.1
  intro v0 v1 v2 v3 t0 H locs ls hF hI hl
  refine lv_istore (lv' := [(4, .int t0), (0, .int v0), (1, .int v1), (2, .int v2), (3, .int v3)]) hx hb dX6_sheepReach_35 hl (by decide) rfl (fun ls hl => ?_)
  refine lv_iload_n hx hb dX6_sheepReach_37 rfl (lv_at hl 1 rfl) ?_
  refine m_if hF (fun c1 hF => ?_) (fun c1 hF => ?_)
  · refine m_swIn C dX6_sheepReach_38 c1 1 rfl (by decide) (by decide) rfl (tgt := 72) (by decide) ?_
    refine lv_iload_n hx hb dX6_sheepReach_72 rfl (lv_at hl 4 rfl) ?_
    exact m_iretiR C hI hF dX6_sheepReach_73
  refine m_if hF (fun c2 hF => ?_) (fun c2 hF => ?_)
  · refine m_swIn C dX6_sheepReach_38 c2 2 rfl (by decide) (by decide) rfl (tgt := 74) (by decide) ?_
    refine lv_iload_n hx hb dX6_sheepReach_74 rfl (lv_at hl 2 rfl) ?_
    refine m_if_ne C (tgt := 82) hF dX6_sheepReach_75 (by decide) (fun hF => ?_) (fun hF => ?_)
    · refine lv_iconst (v := 0) hx hb dX6_sheepReach_82 (by decide) ?_
      exact (bl_X6_sheepReach_83 C) 0 _ _ _ hF hI (lv_sub hl [] rfl)
    · refine lv_iload_n hx hb dX6_sheepReach_78 rfl (lv_at hl 3 rfl) ?_
      refine lv_goto (tgt := 83) hx hb dX6_sheepReach_79 (by decide) ?_
      exact (bl_X6_sheepReach_83 C) v2 _ _ _ hF hI (lv_sub hl [] rfl)
  refine m_if hF (fun c3 hF => ?_) (fun c3 hF => ?_)
  · refine m_swIn C dX6_sheepReach_38 c3 3 rfl (by decide) (by decide) rfl (tgt := 84) (by decide) ?_
    refine lv_iload_n hx hb dX6_sheepReach_84 rfl (lv_at hl 2 rfl) ?_
    refine lv_iconst (v := 3) hx hb dX6_sheepReach_85 (by decide) ?_
    refine m_icmp_gt C (tgt := 97) hF dX6_sheepReach_86 (by decide) (fun hF => ?_) (fun hF => ?_)
    · refine lv_iload_n hx hb dX6_sheepReach_97 rfl (lv_at hl 4 rfl) ?_
      exact (bl_X6_sheepReach_98 C) v3 _ _ _ hF hI (lv_sub hl [] rfl)
    · refine lv_iconst (v := 1) hx hb dX6_sheepReach_89 (by decide) ?_
      refine lv_iload_n hx hb dX6_sheepReach_90 rfl (lv_at hl 4 rfl) ?_
      refine m_max C mw_X6_312 hl.1 (Nat.le_of_ble_eq_true rfl) (Nat.le_of_ble_eq_true rfl) (Nat.le_of_ble_eq_true rfl) (Nat.le_of_ble_eq_true rfl) dX6_sheepReach_91 ?_
      refine lv_goto (tgt := 98) hx hb dX6_sheepReach_94 (by decide) ?_
      exact (bl_X6_sheepReach_98 C) (mMax 1 v3) _ _ _ hF hI (lv_sub hl [] rfl)
  refine m_if hF (fun c4 hF => ?_) (fun c4 hF => ?_)
  · refine m_swIn C dX6_sheepReach_38 c4 4 rfl (by decide) (by decide) rfl (tgt := 99) (by decide) ?_
    refine lv_iload hx hb dX6_sheepReach_99 (lv_at hl 0 rfl) ?_
    exact m_iretiR C hI hF dX6_sheepReach_101
  refine m_if hF (fun c5 hF => ?_) (fun c5 hF => ?_)
  · refine m_swIn C dX6_sheepReach_38 c5 5 rfl (by decide) (by decide) rfl (tgt := 102) (by decide) ?_
    refine lv_iconst (v := 3) hx hb dX6_sheepReach_102 (by decide) ?_
    refine lv_iconst (v := 2) hx hb dX6_sheepReach_103 (by decide) ?_
    refine lv_iload hx hb dX6_sheepReach_104 (lv_at hl 0 rfl) ?_
    refine lv_imul hx hb dX6_sheepReach_106 ?_
    refine m_min C mw_X6_150 hl.1 (Nat.le_of_ble_eq_true rfl) (Nat.le_of_ble_eq_true rfl) (Nat.le_of_ble_eq_true rfl) (Nat.le_of_ble_eq_true rfl) dX6_sheepReach_107 ?_
    exact m_iretiR C hI hF dX6_sheepReach_110
  refine lv_tableOut (tgt := 111) hx hb dX6_sheepReach_38 (by have := lv_neT c1 (a := 1) rfl; have := lv_neT c2 (a := 2) rfl; have := lv_neT c3 (a := 3) rfl; have := lv_neT c4 (a := 4) rfl; have := lv_neT c5 (a := 5) rfl; omega) (by decide) ?_
  refine lv_iload_n hx hb dX6_sheepReach_111 rfl (lv_at hl 3 rfl) ?_
  exact m_iretiR C hI hF dX6_sheepReach_112
set_option maxRecDepth 100000 in
set_option maxHeartbeats 4000000 in
theorem bl_X6_sheepReach_22 {p : Program} {l : Launch} {e : Env} {s : State} {m : MethodId} {args : Array Value} {below : List Frame} {meth : Method} {c : Code} {E : mE} {n0 : Nat} {r : Int32} {S : mS} (C : mCx p s m args meth c cX6_sheepReach 5 RX6 (some .int) E n0) : ∀  (v0 : Int32) (v1 : Int32) (v2 : Int32) (t0 : Int32) (H : Heap) (locs : List Loc) (ls : Array Slot), f_X6_sheepReach_22 v0 v1 v2 t0 = some r → mIv s E S H locs 0 → lv_has ls 5 [(0, .int v0), (1, .int v1), (2, .int v2)] → W p l e rm_X6_sheepReach s m args below meth c H locs 0 0 (mQi below args s 0 0 n0 E (r, S)) (F0 m 22 ls [.int t0]) := by
  have hx := C.1
  have hb := C.2.1
  intro v0 v1 v2 t0 H locs ls hF hI hl
  refine lv_istore_n (lv' := [(3, .int t0), (0, .int v0), (1, .int v1), (2, .int v2)]) hx hb dX6_sheepReach_22 rfl hl (by decide) rfl (fun ls hl => ?_)
  refine lv_iload_n hx hb dX6_sheepReach_23 rfl (lv_at hl 2 rfl) ?_
  refine lv_iconst (v := 2) hx hb dX6_sheepReach_24 (by decide) ?_
  refine m_icmp_gt C (tgt := 34) hF dX6_sheepReach_25 (by decide) (fun hF => ?_) (fun hF => ?_)
  · refine lv_iload_n hx hb dX6_sheepReach_34 rfl (lv_at hl 3 rfl) ?_
    exact (bl_X6_sheepReach_35 C) v0 v1 v2 t0 v2 _ _ _ hF hI (lv_sub hl [1, 2, 3, 0] rfl)
  · refine lv_iload_n hx hb dX6_sheepReach_28 rfl (lv_at hl 3 rfl) ?_
    refine lv_iconst (v := 1) hx hb dX6_sheepReach_29 (by decide) ?_
    refine lv_iadd hx hb dX6_sheepReach_30 ?_
    refine lv_goto (tgt := 35) hx hb dX6_sheepReach_31 (by decide) ?_
    exact (bl_X6_sheepReach_35 C) v0 v1 v2 t0 (v2 + 1) _ _ _ hF hI (lv_sub hl [1, 2, 3, 0] rfl)
set_option maxRecDepth 100000 in
set_option maxHeartbeats 4000000 in
theorem bl_X6_sheepReach_10 {p : Program} {l : Launch} {e : Env} {s : State} {m : MethodId} {args : Array Value} {below : List Frame} {meth : Method} {c : Code} {E : mE} {n0 : Nat} {r : Int32} {S : mS} (C : mCx p s m args meth c cX6_sheepReach 5 RX6 (some .int) E n0) : ∀  (v0 : Int32) (v1 : Int32) (t0 : Int32) (H : Heap) (locs : List Loc) (ls : Array Slot), f_X6_sheepReach_10 v0 v1 t0 = some r → mIv s E S H locs 0 → lv_has ls 5 [(0, .int v0), (1, .int v1)] → W p l e rm_X6_sheepReach s m args below meth c H locs 0 0 (mQi below args s 0 0 n0 E (r, S)) (F0 m 10 ls [.int t0]) := by
  have hx := C.1
  have hb := C.2.1
  intro v0 v1 t0 H locs ls hF hI hl
  refine lv_istore_n (lv' := [(2, .int t0), (0, .int v0), (1, .int v1)]) hx hb dX6_sheepReach_10 rfl hl (by decide) rfl (fun ls hl => ?_)
  refine lv_iload_n hx hb dX6_sheepReach_11 rfl (lv_at hl 2 rfl) ?_
  refine m_if_ne C (tgt := 21) hF dX6_sheepReach_12 (by decide) (fun hF => ?_) (fun hF => ?_)
  · refine lv_iload_n hx hb dX6_sheepReach_21 rfl (lv_at hl 0 rfl) ?_
    exact (bl_X6_sheepReach_22 C) v0 v1 t0 t0 _ _ _ hF hI (lv_sub hl [1, 2, 0] rfl)
  · refine lv_iload_n hx hb dX6_sheepReach_15 rfl (lv_at hl 0 rfl) ?_
    refine lv_iconst (v := 2) hx hb dX6_sheepReach_16 (by decide) ?_
    refine lv_iadd hx hb dX6_sheepReach_17 ?_
    refine lv_goto (tgt := 22) hx hb dX6_sheepReach_18 (by decide) ?_
    exact (bl_X6_sheepReach_22 C) v0 v1 t0 (t0 + 2) _ _ _ hF hI (lv_sub hl [1, 2, 0] rfl)
set_option maxRecDepth 100000 in
set_option maxHeartbeats 4000000 in
theorem ok_X6_sheepReach {l : Launch} {E : mE} {v0 : Int32} {v1 : Int32} {S : mS} {r : Int32} (hF : f_X6_sheepReach v0 v1 = some r) : mMi l yX6_sheepReach cX6_sheepReach 5 (some .int) rm_X6_sheepReach 0 0 [.int v0, .int v1] E S (r, S) := by
  refine m_met_i (by decide) (Nat.le_of_ble_eq_true rfl) (fun p e s m args below meth c ls hin C hI hl => ?_)
  have hx := C.1
  have hb := C.2.1
  have hl : lv_has ls 5 [(0, .int v0), (1, .int v1)] := hl
  generalize s.heap = H at hI ⊢
  generalize ([] : List Loc) = locs at hI ⊢
  refine lv_iload_n hx hb dX6_sheepReach_0 rfl (lv_at hl 1 rfl) ?_
  refine lv_iconst (v := 1) hx hb dX6_sheepReach_1 (by decide) ?_
  refine m_icmp_gt C (tgt := 9) hF dX6_sheepReach_2 (by decide) (fun hF => ?_) (fun hF => ?_)
  · refine lv_iconst (v := 0) hx hb dX6_sheepReach_9 (by decide) ?_
    exact (bl_X6_sheepReach_10 C) v0 v1 0 _ _ _ hF hI (lv_sub hl [0, 1] rfl)
  · refine lv_iconst (v := 1) hx hb dX6_sheepReach_5 (by decide) ?_
    refine lv_goto (tgt := 10) hx hb dX6_sheepReach_6 (by decide) ?_
    exact (bl_X6_sheepReach_10 C) v0 v1 1 _ _ _ hF hI (lv_sub hl [0, 1] rfl)
noncomputable def f_X6_wayFrom_50 (t0 : Int32) : Option Int32 := some t0
noncomputable def f_X6_wayFrom_41 (v3 : Int32) : Option Int32 := if v3 < 0 then ((f_X6_wayFrom_50) 3) else ((f_X6_wayFrom_50) 1)
noncomputable def f_X6_wayFrom_40 (t0 : Int32) : Option Int32 := some t0
noncomputable def f_X6_wayFrom (v0 : Int32) (v1 : Int32) : Option Int32 := if ((v0 / 5) - (v1 / 5)) = 0 then ((f_X6_wayFrom_41) ((mRem v0 5) - (mRem v1 5))) else (if (mAbs ((v0 / 5) - (v1 / 5))) < (mAbs ((mRem v0 5) - (mRem v1 5))) then ((f_X6_wayFrom_41) ((mRem v0 5) - (mRem v1 5))) else (if ((v0 / 5) - (v1 / 5)) ≤ 0 then ((f_X6_wayFrom_40) 0) else ((f_X6_wayFrom_40) 2)))
def rm_X6_wayFrom : Room := { frames := 1, cells := 0, slots := 0, locals := 14 }
set_option maxRecDepth 100000 in
set_option maxHeartbeats 4000000 in
theorem bl_X6_wayFrom_50 {p : Program} {l : Launch} {e : Env} {s : State} {m : MethodId} {args : Array Value} {below : List Frame} {meth : Method} {c : Code} {E : mE} {n0 : Nat} {r : Int32} {S : mS} (C : mCx p s m args meth c cX6_wayFrom 4 RX6 (some .int) E n0) : ∀  (t0 : Int32) (H : Heap) (locs : List Loc) (ls : Array Slot), f_X6_wayFrom_50 t0 = some r → mIv s E S H locs 0 → lv_has ls 4 [] → W p l e rm_X6_wayFrom s m args below meth c H locs 0 0 (mQi below args s 0 0 n0 E (r, S)) (F0 m 50 ls [.int t0]) := by
  have hx := C.1
  have hb := C.2.1
  intro t0 H locs ls hF hI hl
  exact m_iretiR C hI hF dX6_wayFrom_50
set_option maxRecDepth 100000 in
set_option maxHeartbeats 4000000 in
theorem bl_X6_wayFrom_41 {p : Program} {l : Launch} {e : Env} {s : State} {m : MethodId} {args : Array Value} {below : List Frame} {meth : Method} {c : Code} {E : mE} {n0 : Nat} {r : Int32} {S : mS} (C : mCx p s m args meth c cX6_wayFrom 4 RX6 (some .int) E n0) : ∀  (v3 : Int32) (H : Heap) (locs : List Loc) (ls : Array Slot), f_X6_wayFrom_41 v3 = some r → mIv s E S H locs 0 → lv_has ls 4 [(3, .int v3)] → W p l e rm_X6_wayFrom s m args below meth c H locs 0 0 (mQi below args s 0 0 n0 E (r, S)) (F0 m 41 ls []) := by
  have hx := C.1
  have hb := C.2.1
  intro v3 H locs ls hF hI hl
  refine lv_iload_n hx hb dX6_wayFrom_41 rfl (lv_at hl 0 rfl) ?_
  refine m_if_lt C (tgt := 49) hF dX6_wayFrom_42 (by decide) (fun hF => ?_) (fun hF => ?_)
  · refine lv_iconst (v := 3) hx hb dX6_wayFrom_49 (by decide) ?_
    exact (bl_X6_wayFrom_50 C) 3 _ _ _ hF hI (lv_sub hl [] rfl)
  · refine lv_iconst (v := 1) hx hb dX6_wayFrom_45 (by decide) ?_
    refine lv_goto (tgt := 50) hx hb dX6_wayFrom_46 (by decide) ?_
    exact (bl_X6_wayFrom_50 C) 1 _ _ _ hF hI (lv_sub hl [] rfl)
set_option maxRecDepth 100000 in
set_option maxHeartbeats 4000000 in
theorem bl_X6_wayFrom_40 {p : Program} {l : Launch} {e : Env} {s : State} {m : MethodId} {args : Array Value} {below : List Frame} {meth : Method} {c : Code} {E : mE} {n0 : Nat} {r : Int32} {S : mS} (C : mCx p s m args meth c cX6_wayFrom 4 RX6 (some .int) E n0) : ∀  (t0 : Int32) (H : Heap) (locs : List Loc) (ls : Array Slot), f_X6_wayFrom_40 t0 = some r → mIv s E S H locs 0 → lv_has ls 4 [] → W p l e rm_X6_wayFrom s m args below meth c H locs 0 0 (mQi below args s 0 0 n0 E (r, S)) (F0 m 40 ls [.int t0]) := by
  have hx := C.1
  have hb := C.2.1
  intro t0 H locs ls hF hI hl
  exact m_iretiR C hI hF dX6_wayFrom_40
set_option maxRecDepth 100000 in
set_option maxHeartbeats 4000000 in
theorem ok_X6_wayFrom {l : Launch} {E : mE} {v0 : Int32} {v1 : Int32} {S : mS} {r : Int32} (hF : f_X6_wayFrom v0 v1 = some r) : mMi l yX6_wayFrom cX6_wayFrom 4 (some .int) rm_X6_wayFrom 0 0 [.int v0, .int v1] E S (r, S) := by
  refine m_met_i (by decide) (Nat.le_of_ble_eq_true rfl) (fun p e s m args below meth c ls hin C hI hl => ?_)
  have hx := C.1
  have hb := C.2.1
  have hl : lv_has ls 4 [(0, .int v0), (1, .int v1)] := hl
  generalize s.heap = H at hI ⊢
  generalize ([] : List Loc) = locs at hI ⊢
  refine lv_iload_n hx hb dX6_wayFrom_0 rfl (lv_at hl 0 rfl) ?_
  refine lv_iconst (v := 5) hx hb dX6_wayFrom_1 (by decide) ?_
  refine lv_idiv hx hb dX6_wayFrom_2 (by decide) ?_
  refine lv_iload_n hx hb dX6_wayFrom_3 rfl (lv_at hl 1 rfl) ?_
  refine lv_iconst (v := 5) hx hb dX6_wayFrom_4 (by decide) ?_
  refine lv_idiv hx hb dX6_wayFrom_5 (by decide) ?_
  refine lv_isub hx hb dX6_wayFrom_6 ?_
  refine lv_istore_n (lv' := [(2, .int ((v0 / 5) - (v1 / 5))), (0, .int v0), (1, .int v1)]) hx hb dX6_wayFrom_7 rfl hl (by decide) rfl (fun ls hl => ?_)
  refine lv_iload_n hx hb dX6_wayFrom_8 rfl (lv_at hl 1 rfl) ?_
  refine lv_iconst (v := 5) hx hb dX6_wayFrom_9 (by decide) ?_
  refine m_irem C dX6_wayFrom_10 (by decide) ?_
  refine lv_iload_n hx hb dX6_wayFrom_11 rfl (lv_at hl 2 rfl) ?_
  refine lv_iconst (v := 5) hx hb dX6_wayFrom_12 (by decide) ?_
  refine m_irem C dX6_wayFrom_13 (by decide) ?_
  refine lv_isub hx hb dX6_wayFrom_14 ?_
  refine lv_istore_n (lv' := [(3, .int ((mRem v0 5) - (mRem v1 5))), (2, .int ((v0 / 5) - (v1 / 5))), (0, .int v0), (1, .int v1)]) hx hb dX6_wayFrom_15 rfl hl (by decide) rfl (fun ls hl => ?_)
  refine lv_iload_n hx hb dX6_wayFrom_16 rfl (lv_at hl 1 rfl) ?_
  refine m_if_eq C (tgt := 41) hF dX6_wayFrom_17 (by decide) (fun hF => ?_) (fun hF => ?_)
  · exact (bl_X6_wayFrom_41 C) ((mRem v0 5) - (mRem v1 5)) _ _ _ hF hI (lv_sub hl [0] rfl)
  · refine lv_iload_n hx hb dX6_wayFrom_20 rfl (lv_at hl 1 rfl) ?_
    refine m_abs C mw_X6_321 hl.1 (Nat.le_of_ble_eq_true rfl) (Nat.le_of_ble_eq_true rfl) (Nat.le_of_ble_eq_true rfl) (Nat.le_of_ble_eq_true rfl) dX6_wayFrom_21 ?_
    refine lv_iload_n hx hb dX6_wayFrom_24 rfl (lv_at hl 0 rfl) ?_
    refine m_abs C mw_X6_321 hl.1 (Nat.le_of_ble_eq_true rfl) (Nat.le_of_ble_eq_true rfl) (Nat.le_of_ble_eq_true rfl) (Nat.le_of_ble_eq_true rfl) dX6_wayFrom_25 ?_
    refine m_icmp_lt C (tgt := 41) hF dX6_wayFrom_28 (by decide) (fun hF => ?_) (fun hF => ?_)
    · exact (bl_X6_wayFrom_41 C) ((mRem v0 5) - (mRem v1 5)) _ _ _ hF hI (lv_sub hl [0] rfl)
    · refine lv_iload_n hx hb dX6_wayFrom_31 rfl (lv_at hl 1 rfl) ?_
      refine m_if_le C (tgt := 39) hF dX6_wayFrom_32 (by decide) (fun hF => ?_) (fun hF => ?_)
      · refine lv_iconst (v := 0) hx hb dX6_wayFrom_39 (by decide) ?_
        exact (bl_X6_wayFrom_40 C) 0 _ _ _ hF hI (lv_sub hl [] rfl)
      · refine lv_iconst (v := 2) hx hb dX6_wayFrom_35 (by decide) ?_
        refine lv_goto (tgt := 40) hx hb dX6_wayFrom_36 (by decide) ?_
        exact (bl_X6_wayFrom_40 C) 2 _ _ _ hF hI (lv_sub hl [] rfl)
noncomputable def f_X6_moved_88 (v3 : Int32) (v4 : Int32) : Option Int32 := some ((5 * v3) + v4)
noncomputable def f_X6_moved (v0 : Int32) (v1 : Int32) (v2 : Int32) : Option Int32 := if v1 = 0 then ((f_X6_moved_88) (mMax 0 ((v0 / 5) - v2)) (mRem v0 5)) else if v1 = 1 then ((f_X6_moved_88) (v0 / 5) (mMin 4 ((mRem v0 5) + v2))) else if v1 = 2 then ((f_X6_moved_88) (mMin 4 ((v0 / 5) + v2)) (mRem v0 5)) else if v1 = 3 then ((f_X6_moved_88) (v0 / 5) (mMax 0 ((mRem v0 5) - v2))) else ((f_X6_moved_88) (v0 / 5) (mRem v0 5))
def rm_X6_moved : Room := { frames := 1, cells := 0, slots := 0, locals := 13 }
set_option maxRecDepth 100000 in
set_option maxHeartbeats 4000000 in
theorem bl_X6_moved_88 {p : Program} {l : Launch} {e : Env} {s : State} {m : MethodId} {args : Array Value} {below : List Frame} {meth : Method} {c : Code} {E : mE} {n0 : Nat} {r : Int32} {S : mS} (C : mCx p s m args meth c cX6_moved 5 RX6 (some .int) E n0) : ∀  (v3 : Int32) (v4 : Int32) (H : Heap) (locs : List Loc) (ls : Array Slot), f_X6_moved_88 v3 v4 = some r → mIv s E S H locs 0 → lv_has ls 5 [(3, .int v3), (4, .int v4)] → W p l e rm_X6_moved s m args below meth c H locs 0 0 (mQi below args s 0 0 n0 E (r, S)) (F0 m 88 ls []) := by
  have hx := C.1
  have hb := C.2.1
  intro v3 v4 H locs ls hF hI hl
  refine lv_iconst (v := 5) hx hb dX6_moved_88 (by decide) ?_
  refine lv_iload_n hx hb dX6_moved_89 rfl (lv_at hl 0 rfl) ?_
  refine lv_imul hx hb dX6_moved_90 ?_
  refine lv_iload hx hb dX6_moved_91 (lv_at hl 1 rfl) ?_
  refine lv_iadd hx hb dX6_moved_93 ?_
  exact m_iretiR C hI hF dX6_moved_94
set_option maxRecDepth 100000 in
set_option maxHeartbeats 4000000 in
theorem ok_X6_moved {l : Launch} {E : mE} {v0 : Int32} {v1 : Int32} {v2 : Int32} {S : mS} {r : Int32} (hF : f_X6_moved v0 v1 v2 = some r) : mMi l yX6_moved cX6_moved 5 (some .int) rm_X6_moved 0 0 [.int v0, .int v1, .int v2] E S (r, S) := by
  refine m_met_i (by decide) (Nat.le_of_ble_eq_true rfl) (fun p e s m args below meth c ls hin C hI hl => ?_)
  have hx := C.1
  have hb := C.2.1
  have hl : lv_has ls 5 [(0, .int v0), (1, .int v1), (2, .int v2)] := hl
  generalize s.heap = H at hI ⊢
  generalize ([] : List Loc) = locs at hI ⊢
  refine lv_iload_n hx hb dX6_moved_0 rfl (lv_at hl 0 rfl) ?_
  refine lv_iconst (v := 5) hx hb dX6_moved_1 (by decide) ?_
  refine lv_idiv hx hb dX6_moved_2 (by decide) ?_
  refine lv_istore_n (lv' := [(3, .int (v0 / 5)), (0, .int v0), (1, .int v1), (2, .int v2)]) hx hb dX6_moved_3 rfl hl (by decide) rfl (fun ls hl => ?_)
  refine lv_iload_n hx hb dX6_moved_4 rfl (lv_at hl 1 rfl) ?_
  refine lv_iconst (v := 5) hx hb dX6_moved_5 (by decide) ?_
  refine m_irem C dX6_moved_6 (by decide) ?_
  refine lv_istore (lv' := [(4, .int (mRem v0 5)), (3, .int (v0 / 5)), (0, .int v0), (1, .int v1), (2, .int v2)]) hx hb dX6_moved_7 hl (by decide) rfl (fun ls hl => ?_)
  refine lv_iload_n hx hb dX6_moved_9 rfl (lv_at hl 3 rfl) ?_
  refine m_if hF (fun c0 hF => ?_) (fun c0 hF => ?_)
  · refine m_swIn C dX6_moved_10 c0 0 rfl (by decide) (by decide) rfl (tgt := 40) (by decide) ?_
    refine lv_iconst (v := 0) hx hb dX6_moved_40 (by decide) ?_
    refine lv_iload_n hx hb dX6_moved_41 rfl (lv_at hl 1 rfl) ?_
    refine lv_iload_n hx hb dX6_moved_42 rfl (lv_at hl 4 rfl) ?_
    refine lv_isub hx hb dX6_moved_43 ?_
    refine m_max C mw_X6_312 hl.1 (Nat.le_of_ble_eq_true rfl) (Nat.le_of_ble_eq_true rfl) (Nat.le_of_ble_eq_true rfl) (Nat.le_of_ble_eq_true rfl) dX6_moved_44 ?_
    refine lv_istore_n (lv' := [(3, .int (mMax 0 ((v0 / 5) - v2))), (4, .int (mRem v0 5)), (0, .int v0), (1, .int v1), (2, .int v2)]) hx hb dX6_moved_47 rfl hl (by decide) rfl (fun ls hl => ?_)
    refine lv_goto (tgt := 88) hx hb dX6_moved_48 (by decide) ?_
    exact (bl_X6_moved_88 C) (mMax 0 ((v0 / 5) - v2)) (mRem v0 5) _ _ _ hF hI (lv_sub hl [0, 1] rfl)
  refine m_if hF (fun c1 hF => ?_) (fun c1 hF => ?_)
  · refine m_swIn C dX6_moved_10 c1 1 rfl (by decide) (by decide) rfl (tgt := 51) (by decide) ?_
    refine lv_iconst (v := 4) hx hb dX6_moved_51 (by decide) ?_
    refine lv_iload hx hb dX6_moved_52 (lv_at hl 0 rfl) ?_
    refine lv_iload_n hx hb dX6_moved_54 rfl (lv_at hl 4 rfl) ?_
    refine lv_iadd hx hb dX6_moved_55 ?_
    refine m_min C mw_X6_150 hl.1 (Nat.le_of_ble_eq_true rfl) (Nat.le_of_ble_eq_true rfl) (Nat.le_of_ble_eq_true rfl) (Nat.le_of_ble_eq_true rfl) dX6_moved_56 ?_
    refine lv_istore (lv' := [(4, .int (mMin 4 ((mRem v0 5) + v2))), (3, .int (v0 / 5)), (0, .int v0), (1, .int v1), (2, .int v2)]) hx hb dX6_moved_59 hl (by decide) rfl (fun ls hl => ?_)
    refine lv_goto (tgt := 88) hx hb dX6_moved_61 (by decide) ?_
    exact (bl_X6_moved_88 C) (v0 / 5) (mMin 4 ((mRem v0 5) + v2)) _ _ _ hF hI (lv_sub hl [1, 0] rfl)
  refine m_if hF (fun c2 hF => ?_) (fun c2 hF => ?_)
  · refine m_swIn C dX6_moved_10 c2 2 rfl (by decide) (by decide) rfl (tgt := 64) (by decide) ?_
    refine lv_iconst (v := 4) hx hb dX6_moved_64 (by decide) ?_
    refine lv_iload_n hx hb dX6_moved_65 rfl (lv_at hl 1 rfl) ?_
    refine lv_iload_n hx hb dX6_moved_66 rfl (lv_at hl 4 rfl) ?_
    refine lv_iadd hx hb dX6_moved_67 ?_
    refine m_min C mw_X6_150 hl.1 (Nat.le_of_ble_eq_true rfl) (Nat.le_of_ble_eq_true rfl) (Nat.le_of_ble_eq_true rfl) (Nat.le_of_ble_eq_true rfl) dX6_moved_68 ?_
    refine lv_istore_n (lv' := [(3, .int (mMin 4 ((v0 / 5) + v2))), (4, .int (mRem v0 5)), (0, .int v0), (1, .int v1), (2, .int v2)]) hx hb dX6_moved_71 rfl hl (by decide) rfl (fun ls hl => ?_)
    refine lv_goto (tgt := 88) hx hb dX6_moved_72 (by decide) ?_
    exact (bl_X6_moved_88 C) (mMin 4 ((v0 / 5) + v2)) (mRem v0 5) _ _ _ hF hI (lv_sub hl [0, 1] rfl)
  refine m_if hF (fun c3 hF => ?_) (fun c3 hF => ?_)
  · refine m_swIn C dX6_moved_10 c3 3 rfl (by decide) (by decide) rfl (tgt := 75) (by decide) ?_
    refine lv_iconst (v := 0) hx hb dX6_moved_75 (by decide) ?_
    refine lv_iload hx hb dX6_moved_76 (lv_at hl 0 rfl) ?_
    refine lv_iload_n hx hb dX6_moved_78 rfl (lv_at hl 4 rfl) ?_
    refine lv_isub hx hb dX6_moved_79 ?_
    refine m_max C mw_X6_312 hl.1 (Nat.le_of_ble_eq_true rfl) (Nat.le_of_ble_eq_true rfl) (Nat.le_of_ble_eq_true rfl) (Nat.le_of_ble_eq_true rfl) dX6_moved_80 ?_
    refine lv_istore (lv' := [(4, .int (mMax 0 ((mRem v0 5) - v2))), (3, .int (v0 / 5)), (0, .int v0), (1, .int v1), (2, .int v2)]) hx hb dX6_moved_83 hl (by decide) rfl (fun ls hl => ?_)
    refine lv_goto (tgt := 88) hx hb dX6_moved_85 (by decide) ?_
    exact (bl_X6_moved_88 C) (v0 / 5) (mMax 0 ((mRem v0 5) - v2)) _ _ _ hF hI (lv_sub hl [1, 0] rfl)
  refine lv_tableOut (tgt := 88) hx hb dX6_moved_10 (by have := lv_neT c0 (a := 0) rfl; have := lv_neT c1 (a := 1) rfl; have := lv_neT c2 (a := 2) rfl; have := lv_neT c3 (a := 3) rfl; omega) (by decide) ?_
  exact (bl_X6_moved_88 C) (v0 / 5) (mRem v0 5) _ _ _ hF hI (lv_sub hl [1, 0] rfl)
noncomputable def f_X6_givenWay_28 (t0 : Int32) : Option Int32 := some t0
noncomputable def f_X6_givenWay (v0 : Int32) (v1 : Int32) (v2 : Int32) : Option Int32 := mCp (f_X6_farBetween v1 v2) (fun r1 => mCp (f_X6_sheepReach v0 r1) (fun r2 => if r2 = 0 then ((f_X6_givenWay_28) v1) else (mCp (f_X6_wayFrom v1 v2) (fun r3 => mCp (f_X6_moved v1 r3 r2) (fun r4 => (f_X6_givenWay_28) r4)))))
def rm_X6_givenWay : Room := { frames := 2, cells := 0, slots := 0, locals := 37 }
set_option maxRecDepth 100000 in
set_option maxHeartbeats 4000000 in
theorem bl_X6_givenWay_28 {p : Program} {l : Launch} {e : Env} {s : State} {m : MethodId} {args : Array Value} {below : List Frame} {meth : Method} {c : Code} {E : mE} {n0 : Nat} {r : Int32} {S : mS} (C : mCx p s m args meth c cX6_givenWay 4 RX6 (some .int) E n0) : ∀  (t0 : Int32) (H : Heap) (locs : List Loc) (ls : Array Slot), f_X6_givenWay_28 t0 = some r → mIv s E S H locs 0 → lv_has ls 4 [] → W p l e rm_X6_givenWay s m args below meth c H locs 0 0 (mQi below args s 0 0 n0 E (r, S)) (F0 m 28 ls [.int t0]) := by
  have hx := C.1
  have hb := C.2.1
  intro t0 H locs ls hF hI hl
  exact m_iretiR C hI hF dX6_givenWay_28
set_option maxRecDepth 100000 in
set_option maxHeartbeats 4000000 in
theorem ok_X6_givenWay {l : Launch} {E : mE} {v0 : Int32} {v1 : Int32} {v2 : Int32} {S : mS} {r : Int32} (hF : f_X6_givenWay v0 v1 v2 = some r) : mMi l yX6_givenWay cX6_givenWay 4 (some .int) rm_X6_givenWay 0 0 [.int v0, .int v1, .int v2] E S (r, S) := by
  refine m_met_i (by decide) (Nat.le_of_ble_eq_true rfl) (fun p e s m args below meth c ls hin C hI hl => ?_)
  have hx := C.1
  have hb := C.2.1
  have hl : lv_has ls 4 [(0, .int v0), (1, .int v1), (2, .int v2)] := hl
  generalize s.heap = H at hI ⊢
  generalize ([] : List Loc) = locs at hI ⊢
  refine lv_iload_n hx hb dX6_givenWay_0 rfl (lv_at hl 0 rfl) ?_
  refine lv_iload_n hx hb dX6_givenWay_1 rfl (lv_at hl 1 rfl) ?_
  refine lv_iload_n hx hb dX6_givenWay_2 rfl (lv_at hl 2 rfl) ?_
  refine m_callSiR C cd_X6_176 hl.1 hI hF (fun _ h => ok_X6_farBetween h) rfl rfl ⟨rfl, rfl, Nat.le_of_ble_eq_true rfl, Nat.le_of_ble_eq_true rfl⟩ ⟨Nat.le_of_ble_eq_true rfl, Nat.le_of_ble_eq_true rfl⟩ (Nat.le_of_ble_eq_true rfl) dX6_givenWay_3 (fun r1 H locs hF hI => ?_)
  refine m_callSiR C cd_X6_315 hl.1 hI hF (fun _ h => ok_X6_sheepReach h) rfl rfl ⟨rfl, rfl, Nat.le_of_ble_eq_true rfl, Nat.le_of_ble_eq_true rfl⟩ ⟨Nat.le_of_ble_eq_true rfl, Nat.le_of_ble_eq_true rfl⟩ (Nat.le_of_ble_eq_true rfl) dX6_givenWay_6 (fun r2 H locs hF hI => ?_)
  refine lv_istore_n (lv' := [(3, .int r2), (0, .int v0), (1, .int v1), (2, .int v2)]) hx hb dX6_givenWay_9 rfl hl (by decide) rfl (fun ls hl => ?_)
  refine lv_iload_n hx hb dX6_givenWay_10 rfl (lv_at hl 0 rfl) ?_
  refine m_if_ne C (tgt := 18) hF dX6_givenWay_11 (by decide) (fun hF => ?_) (fun hF => ?_)
  · refine lv_iload_n hx hb dX6_givenWay_18 rfl (lv_at hl 2 rfl) ?_
    refine lv_iload_n hx hb dX6_givenWay_19 rfl (lv_at hl 2 rfl) ?_
    refine lv_iload_n hx hb dX6_givenWay_20 rfl (lv_at hl 3 rfl) ?_
    refine m_callSiR C cd_X6_324 hl.1 hI hF (fun _ h => ok_X6_wayFrom h) rfl rfl ⟨rfl, rfl, Nat.le_of_ble_eq_true rfl, Nat.le_of_ble_eq_true rfl⟩ ⟨Nat.le_of_ble_eq_true rfl, Nat.le_of_ble_eq_true rfl⟩ (Nat.le_of_ble_eq_true rfl) dX6_givenWay_21 (fun r3 H locs hF hI => ?_)
    refine lv_iload_n hx hb dX6_givenWay_24 rfl (lv_at hl 0 rfl) ?_
    refine m_callSiR C cd_X6_327 hl.1 hI hF (fun _ h => ok_X6_moved h) rfl rfl ⟨rfl, rfl, Nat.le_of_ble_eq_true rfl, Nat.le_of_ble_eq_true rfl⟩ ⟨Nat.le_of_ble_eq_true rfl, Nat.le_of_ble_eq_true rfl⟩ (Nat.le_of_ble_eq_true rfl) dX6_givenWay_25 (fun r4 H locs hF hI => ?_)
    exact (bl_X6_givenWay_28 C) r4 _ _ _ hF hI (lv_sub hl [] rfl)
  · refine lv_iload_n hx hb dX6_givenWay_14 rfl (lv_at hl 2 rfl) ?_
    refine lv_goto (tgt := 28) hx hb dX6_givenWay_15 (by decide) ?_
    exact (bl_X6_givenWay_28 C) v1 _ _ _ hF hI (lv_sub hl [] rfl)
noncomputable def f_X0_learnWays_11 (k42 : Int32 → Int32 → mS → Option mS) : Nat → Int32 → Int32 → Int32 → mS → Option mS := fun n => Nat.rec (motive := fun _ => Int32 → Int32 → Int32 → mS → Option mS) (fun _ _ _ _ => none) (fun _ rec v0 v1 v2 S => if 625 ≤ v2 then (k42 v0 v1 S) else (mGr 0 2 v0 S (fun r2 => mCp (f_X6_givenWay v1 (mRem v2 25) (v2 / 25)) (fun r3 => mXs r2 v2 r3 S (fun S4 => rec v0 v1 (v2 + 1) S4))))) n
theorem f_X0_learnWays_11_s (k42 : Int32 → Int32 → mS → Option mS) (n : Nat) (v0 : Int32) (v1 : Int32) (v2 : Int32) (S : mS) : f_X0_learnWays_11 k42 (n + 1) v0 v1 v2 S = if 625 ≤ v2 then (k42 v0 v1 S) else (mGr 0 2 v0 S (fun r2 => mCp (f_X6_givenWay v1 (mRem v2 25) (v2 / 25)) (fun r3 => mXs r2 v2 r3 S (fun S4 => (f_X0_learnWays_11 k42 n) v0 v1 (v2 + 1) S4)))) := rfl
noncomputable def f_X0_learnWays_42 (v0 : Int32) (v1 : Int32) (S : mS) : Option mS := mP 0 3 v0 v1 S (fun S5 => some S5)
noncomputable def f_X0_learnWays (v0 : Int32) (v1 : Int32) (S : mS) : Option mS := mG 0 3 v0 S (fun r1 => if v1 = r1 then (some S) else ((f_X0_learnWays_11 (f_X0_learnWays_42) 1000) v0 v1 0 S))
def rm_X0_learnWays : Room := { frames := 3, cells := 0, slots := 0, locals := 60 }
set_option maxRecDepth 100000 in
set_option maxHeartbeats 4000000 in
theorem bl_X0_learnWays_11 {p : Program} {l : Launch} {e : Env} {s : State} {m : MethodId} {args : Array Value} {below : List Frame} {meth : Method} {c : Code} {E : mE} {n0 : Nat} {F : mS} (C : mCx p s m args meth c cX0_learnWays 3 RX0 none E n0) {k42 : Int32 → Int32 → mS → Option mS} (hk42 : ∀ (v0 : Int32) (v1 : Int32) (S : mS) (H : Heap) (locs : List Loc) (ls : Array Slot), k42 v0 v1 S = some F → mIv s E S H locs 0 → lv_has ls 3 [(0, .ref (mA E.b v0)), (1, .int v1)] → W p l e rm_X0_learnWays s m args below meth c H locs 0 0 (mQv below args s 0 0 n0 E F) (F0 m 42 ls [])) : ∀ (n : Nat)  (v0 : Int32) (v1 : Int32) (v2 : Int32) (S : mS) (H : Heap) (locs : List Loc) (ls : Array Slot), f_X0_learnWays_11 k42 n v0 v1 v2 S = some F → mIv s E S H locs 0 → lv_has ls 3 [(0, .ref (mA E.b v0)), (1, .int v1), (2, .int v2)] → W p l e rm_X0_learnWays s m args below meth c H locs 0 0 (mQv below args s 0 0 n0 E F) (F0 m 11 ls []) := by
  have hx := C.1
  have hb := C.2.1
  intro n
  induction n with
  | zero =>
    intro v0 v1 v2 S H locs ls hF
    exact nomatch (show (none : Option mS) = some F from hF)
  | succ n ih =>
    intro v0 v1 v2 S H locs ls hF hI hl
    have hF := (f_X0_learnWays_11_s k42 n v0 v1 v2 S).symm.trans hF
    refine lv_iload_n hx hb dX0_learnWays_11 rfl (lv_at hl 2 rfl) ?_
    refine lv_sipush (v := 625) hx hb dX0_learnWays_12 (by decide) ?_
    refine m_icmp_ge C (tgt := 42) hF dX0_learnWays_15 (by decide) (fun hF => ?_) (fun hF => ?_)
    · exact hk42 v0 v1 S _ _ _ hF hI (lv_sub hl [0, 1] rfl)
    · refine lv_aload_n hx hb dX0_learnWays_18 rfl (lv_at hl 0 rfl) ?_
      refine m_getR C fd_X0_18 hI hF dX0_learnWays_19 (fun r2 hF => ?_)
      refine lv_iload_n hx hb dX0_learnWays_22 rfl (lv_at hl 2 rfl) ?_
      refine lv_iload_n hx hb dX0_learnWays_23 rfl (lv_at hl 1 rfl) ?_
      refine lv_iload_n hx hb dX0_learnWays_24 rfl (lv_at hl 2 rfl) ?_
      refine lv_bipush (v := 25) hx hb dX0_learnWays_25 (by decide) ?_
      refine m_irem C dX0_learnWays_27 (by decide) ?_
      refine lv_iload_n hx hb dX0_learnWays_28 rfl (lv_at hl 2 rfl) ?_
      refine lv_bipush (v := 25) hx hb dX0_learnWays_29 (by decide) ?_
      refine lv_idiv hx hb dX0_learnWays_31 (by decide) ?_
      refine m_callNiR C cd_X0_101 hl.1 hI hF (fun _ h => ok_X6_givenWay h) rfl rfl ⟨rfl, rfl, Nat.le_of_ble_eq_true rfl, Nat.le_of_ble_eq_true rfl⟩ ⟨Nat.le_of_ble_eq_true rfl, Nat.le_of_ble_eq_true rfl⟩ (Nat.le_of_ble_eq_true rfl) dX0_learnWays_32 (fun r3 H locs hF hI => ?_)
      refine m_iast C hI hF dX0_learnWays_35 (fun S4 H locs hF hI => ?_)
      refine lv_iinc (v := v2 + 1) (lv' := [(2, .int (v2 + 1)), (0, .ref (mA E.b v0)), (1, .int v1)]) hx hb dX0_learnWays_36 hl (k := 2) rfl rfl (by decide) rfl (fun ls hl => ?_)
      refine lv_goto (tgt := 11) hx hb dX0_learnWays_39 (by decide) ?_
      exact ih v0 v1 (v2 + 1) S4 _ _ _ hF hI (lv_sub hl [1, 2, 0] rfl)
set_option maxRecDepth 100000 in
set_option maxHeartbeats 4000000 in
theorem bl_X0_learnWays_42 {p : Program} {l : Launch} {e : Env} {s : State} {m : MethodId} {args : Array Value} {below : List Frame} {meth : Method} {c : Code} {E : mE} {n0 : Nat} {F : mS} (C : mCx p s m args meth c cX0_learnWays 3 RX0 none E n0) : ∀  (v0 : Int32) (v1 : Int32) (S : mS) (H : Heap) (locs : List Loc) (ls : Array Slot), f_X0_learnWays_42 v0 v1 S = some F → mIv s E S H locs 0 → lv_has ls 3 [(0, .ref (mA E.b v0)), (1, .int v1)] → W p l e rm_X0_learnWays s m args below meth c H locs 0 0 (mQv below args s 0 0 n0 E F) (F0 m 42 ls []) := by
  have hx := C.1
  have hb := C.2.1
  intro v0 v1 S H locs ls hF hI hl
  refine lv_aload_n hx hb dX0_learnWays_42 rfl (lv_at hl 0 rfl) ?_
  refine lv_iload_n hx hb dX0_learnWays_43 rfl (lv_at hl 1 rfl) ?_
  refine m_put C fd_X0_21 hI hF dX0_learnWays_44 (fun S5 H locs hF hI => ?_)
  exact m_vret C hI hF dX0_learnWays_47
set_option maxRecDepth 100000 in
set_option maxHeartbeats 4000000 in
theorem ok_X0_learnWays {l : Launch} {E : mE} {v0 : Int32} {v1 : Int32} {S : mS} {F : mS} (hF : f_X0_learnWays v0 v1 S = some F) : mMv l yX0_learnWays cX0_learnWays 3 none rm_X0_learnWays 0 0 [.ref (mA E.b v0), .int v1] E S F := by
  refine m_met_v (by decide) (Nat.le_of_ble_eq_true rfl) (fun p e s m args below meth c ls hin C hI hl => ?_)
  have hx := C.1
  have hb := C.2.1
  have hl : lv_has ls 3 [(0, .ref (mA E.b v0)), (1, .int v1)] := hl
  generalize s.heap = H at hI ⊢
  generalize ([] : List Loc) = locs at hI ⊢
  refine lv_iload_n hx hb dX0_learnWays_0 rfl (lv_at hl 1 rfl) ?_
  refine lv_aload_n hx hb dX0_learnWays_1 rfl (lv_at hl 0 rfl) ?_
  refine m_get C fd_X0_21 hI hF dX0_learnWays_2 (fun r1 hF => ?_)
  refine m_icmp_ne C (tgt := 9) hF dX0_learnWays_5 (by decide) (fun hF => ?_) (fun hF => ?_)
  · refine lv_iconst (v := 0) hx hb dX0_learnWays_9 (by decide) ?_
    refine lv_istore_n (lv' := [(2, .int 0), (0, .ref (mA E.b v0)), (1, .int v1)]) hx hb dX0_learnWays_10 rfl hl (by decide) rfl (fun ls hl => ?_)
    exact (bl_X0_learnWays_11 C (k42 := (f_X0_learnWays_42)) (bl_X0_learnWays_42 C) 1000) v0 v1 0 S _ _ _ hF hI (lv_sub hl [1, 2, 0] rfl)
  · exact m_vret C hI hF dX0_learnWays_8
noncomputable def f_J7_fill_53178_5 (k20 : mS → Option mS) : Nat → Int32 → Int32 → Int32 → Int32 → mS → Option mS := fun n => Nat.rec (motive := fun _ => Int32 → Int32 → Int32 → Int32 → mS → Option mS) (fun _ _ _ _ _ => none) (fun _ rec v0 v1 v2 v3 S => if v3 ≤ v2 then (k20 S) else (mXs v0 v2 v1 S (fun S2 => rec v0 v1 (v2 + 1) v3 S2))) n
theorem f_J7_fill_53178_5_s (k20 : mS → Option mS) (n : Nat) (v0 : Int32) (v1 : Int32) (v2 : Int32) (v3 : Int32) (S : mS) : f_J7_fill_53178_5 k20 (n + 1) v0 v1 v2 v3 S = if v3 ≤ v2 then (k20 S) else (mXs v0 v2 v1 S (fun S2 => (f_J7_fill_53178_5 k20 n) v0 v1 (v2 + 1) v3 S2)) := rfl
noncomputable def f_J7_fill_53178_20 (S : mS) : Option mS := some S
noncomputable def f_J7_fill_53178 (v0 : Int32) (v1 : Int32) (S : mS) : Option mS := mLe 8 v0 S (fun r1 => (f_J7_fill_53178_5 (f_J7_fill_53178_20) 1000) v0 v1 0 r1 S)
def rm_J7_fill_53178 : Room := { frames := 0, cells := 0, slots := 0, locals := 0 }
set_option maxRecDepth 100000 in
set_option maxHeartbeats 4000000 in
theorem bl_J7_fill_53178_5 {p : Program} {l : Launch} {e : Env} {s : State} {m : MethodId} {args : Array Value} {below : List Frame} {meth : Method} {c : Code} {E : mE} {n0 : Nat} {F : mS} (C : mCx p s m args meth c cJ7_fill_53178 4 RJ7 none E n0) {k20 : mS → Option mS} (hk20 : ∀ (S : mS) (H : Heap) (locs : List Loc) (ls : Array Slot), k20 S = some F → mIv s E S H locs 0 → lv_has ls 4 [] → W p l e rm_J7_fill_53178 s m args below meth c H locs 0 0 (mQv below args s 0 0 n0 E F) (F0 m 20 ls [])) : ∀ (n : Nat)  (v0 : Int32) (v1 : Int32) (v2 : Int32) (v3 : Int32) (S : mS) (H : Heap) (locs : List Loc) (ls : Array Slot), f_J7_fill_53178_5 k20 n v0 v1 v2 v3 S = some F → mIv s E S H locs 0 → lv_has ls 4 [(0, .ref (mA E.b v0)), (1, .int v1), (2, .int v2), (3, .int v3)] → W p l e rm_J7_fill_53178 s m args below meth c H locs 0 0 (mQv below args s 0 0 n0 E F) (F0 m 5 ls []) := by
  have hx := C.1
  have hb := C.2.1
  intro n
  induction n with
  | zero =>
    intro v0 v1 v2 v3 S H locs ls hF
    exact nomatch (show (none : Option mS) = some F from hF)
  | succ n ih =>
    intro v0 v1 v2 v3 S H locs ls hF hI hl
    have hF := (f_J7_fill_53178_5_s k20 n v0 v1 v2 v3 S).symm.trans hF
    refine lv_iload_n hx hb dJ7_fill_53178_5 rfl (lv_at hl 2 rfl) ?_
    refine lv_iload_n hx hb dJ7_fill_53178_6 rfl (lv_at hl 3 rfl) ?_
    refine m_icmp_ge C (tgt := 20) hF dJ7_fill_53178_7 (by decide) (fun hF => ?_) (fun hF => ?_)
    · exact hk20 S _ _ _ hF hI (lv_sub hl [] rfl)
    · refine lv_aload_n hx hb dJ7_fill_53178_10 rfl (lv_at hl 0 rfl) ?_
      refine lv_iload_n hx hb dJ7_fill_53178_11 rfl (lv_at hl 2 rfl) ?_
      refine lv_iload_n hx hb dJ7_fill_53178_12 rfl (lv_at hl 1 rfl) ?_
      refine m_iast C hI hF dJ7_fill_53178_13 (fun S2 H locs hF hI => ?_)
      refine lv_iinc (v := v2 + 1) (lv' := [(2, .int (v2 + 1)), (0, .ref (mA E.b v0)), (1, .int v1), (3, .int v3)]) hx hb dJ7_fill_53178_14 hl (k := 2) rfl rfl (by decide) rfl (fun ls hl => ?_)
      refine lv_goto (tgt := 5) hx hb dJ7_fill_53178_17 (by decide) ?_
      exact ih v0 v1 (v2 + 1) v3 S2 _ _ _ hF hI (lv_sub hl [1, 2, 0, 3] rfl)
set_option maxRecDepth 100000 in
set_option maxHeartbeats 4000000 in
theorem bl_J7_fill_53178_20 {p : Program} {l : Launch} {e : Env} {s : State} {m : MethodId} {args : Array Value} {below : List Frame} {meth : Method} {c : Code} {E : mE} {n0 : Nat} {F : mS} (C : mCx p s m args meth c cJ7_fill_53178 4 RJ7 none E n0) : ∀  (S : mS) (H : Heap) (locs : List Loc) (ls : Array Slot), f_J7_fill_53178_20 S = some F → mIv s E S H locs 0 → lv_has ls 4 [] → W p l e rm_J7_fill_53178 s m args below meth c H locs 0 0 (mQv below args s 0 0 n0 E F) (F0 m 20 ls []) := by
  have hx := C.1
  have hb := C.2.1
  intro S H locs ls hF hI hl
  exact m_vret C hI hF dJ7_fill_53178_20
set_option maxRecDepth 100000 in
set_option maxHeartbeats 4000000 in
theorem ok_J7_fill_53178 {l : Launch} {E : mE} {v0 : Int32} {v1 : Int32} {S : mS} {F : mS} (hF : f_J7_fill_53178 v0 v1 S = some F) : mMv l yJ7_fill_53178 cJ7_fill_53178 4 none rm_J7_fill_53178 0 0 [.ref (mA E.b v0), .int v1] E S F := by
  refine m_met_v (by decide) (Nat.le_of_ble_eq_true rfl) (fun p e s m args below meth c ls hin C hI hl => ?_)
  have hx := C.1
  have hb := C.2.1
  have hl : lv_has ls 4 [(0, .ref (mA E.b v0)), (1, .int v1)] := hl
  generalize s.heap = H at hI ⊢
  generalize ([] : List Loc) = locs at hI ⊢
  refine lv_iconst (v := 0) hx hb dJ7_fill_53178_0 (by decide) ?_
  refine lv_istore_n (lv' := [(2, .int 0), (0, .ref (mA E.b v0)), (1, .int v1)]) hx hb dJ7_fill_53178_1 rfl hl (by decide) rfl (fun ls hl => ?_)
  refine lv_aload_n hx hb dJ7_fill_53178_2 rfl (lv_at hl 1 rfl) ?_
  refine m_alen C hI hF dJ7_fill_53178_3 (fun r1 hF => ?_)
  refine lv_istore_n (lv' := [(3, .int r1), (2, .int 0), (0, .ref (mA E.b v0)), (1, .int v1)]) hx hb dJ7_fill_53178_4 rfl hl (by decide) rfl (fun ls hl => ?_)
  exact (bl_J7_fill_53178_5 C (k20 := (f_J7_fill_53178_20)) (bl_J7_fill_53178_20 C) 1000) v0 v1 0 r1 S _ _ _ hF hI (lv_sub hl [2, 3, 1, 0] rfl)
noncomputable def f_X6_hasBit_14 (t0 : Int32) : Option Int32 := mZ t0 (some t0)
noncomputable def f_X6_hasBit (v0 : Int32) (v1 : Int32) : Option Int32 := if ((v0 >>> (v1 &&& 31)) &&& 1) = 1 then ((f_X6_hasBit_14) 1) else ((f_X6_hasBit_14) 0)
def rm_X6_hasBit : Room := { frames := 0, cells := 0, slots := 0, locals := 0 }
set_option maxRecDepth 100000 in
set_option maxHeartbeats 4000000 in
theorem bl_X6_hasBit_14 {p : Program} {l : Launch} {e : Env} {s : State} {m : MethodId} {args : Array Value} {below : List Frame} {meth : Method} {c : Code} {E : mE} {n0 : Nat} {r : Int32} {S : mS} (C : mCx p s m args meth c cX6_hasBit 2 RX6 (some .boolean) E n0) : ∀  (t0 : Int32) (H : Heap) (locs : List Loc) (ls : Array Slot), f_X6_hasBit_14 t0 = some r → mIv s E S H locs 0 → lv_has ls 2 [] → W p l e rm_X6_hasBit s m args below meth c H locs 0 0 (mQi below args s 0 0 n0 E (r, S)) (F0 m 14 ls [.int t0]) := by
  have hx := C.1
  have hb := C.2.1
  intro t0 H locs ls hF hI hl
  exact m_iretzR C hI hF dX6_hasBit_14
set_option maxRecDepth 100000 in
set_option maxHeartbeats 4000000 in
theorem ok_X6_hasBit {l : Launch} {E : mE} {v0 : Int32} {v1 : Int32} {S : mS} {r : Int32} (hF : f_X6_hasBit v0 v1 = some r) : mMi l yX6_hasBit cX6_hasBit 2 (some .boolean) rm_X6_hasBit 0 0 [.int v0, .int v1] E S (r, S) := by
  refine m_met_i (by decide) (Nat.le_of_ble_eq_true rfl) (fun p e s m args below meth c ls hin C hI hl => ?_)
  have hx := C.1
  have hb := C.2.1
  have hl : lv_has ls 2 [(0, .int v0), (1, .int v1)] := hl
  generalize s.heap = H at hI ⊢
  generalize ([] : List Loc) = locs at hI ⊢
  refine lv_iload_n hx hb dX6_hasBit_0 rfl (lv_at hl 0 rfl) ?_
  refine lv_iload_n hx hb dX6_hasBit_1 rfl (lv_at hl 1 rfl) ?_
  refine lv_ishr hx hb dX6_hasBit_2 ?_
  refine lv_iconst (v := 1) hx hb dX6_hasBit_3 (by decide) ?_
  refine lv_iand hx hb dX6_hasBit_4 ?_
  refine lv_iconst (v := 1) hx hb dX6_hasBit_5 (by decide) ?_
  refine m_icmp_ne C (tgt := 13) hF dX6_hasBit_6 (by decide) (fun hF => ?_) (fun hF => ?_)
  · refine lv_iconst (v := 0) hx hb dX6_hasBit_13 (by decide) ?_
    exact (bl_X6_hasBit_14 C) 0 _ _ _ hF hI (lv_sub hl [] rfl)
  · refine lv_iconst (v := 1) hx hb dX6_hasBit_9 (by decide) ?_
    refine lv_goto (tgt := 14) hx hb dX6_hasBit_10 (by decide) ?_
    exact (bl_X6_hasBit_14 C) 1 _ _ _ hF hI (lv_sub hl [] rfl)
noncomputable def f_X0_isReached_2 (k34 : Option Int32) (S : mS) : Nat → Int32 → Int32 → Int32 → Int32 → Option Int32 := fun n => Nat.rec (motive := fun _ => Int32 → Int32 → Int32 → Int32 → Option Int32) (fun _ _ _ _ => none) (fun _ rec v0 v1 v2 v3 => if 25 ≤ v3 then (k34) else (mGr 0 0 v0 S (fun r1 => mX 8 r1 ((25 * v1) + v3) S (fun r2 => mCp (f_X6_hasBit r2 v2) (fun r3 => if r3 = 0 then (rec v0 v1 v2 (v3 + 1)) else (mZ 1 (some 1))))))) n
theorem f_X0_isReached_2_s (k34 : Option Int32) (S : mS) (n : Nat) (v0 : Int32) (v1 : Int32) (v2 : Int32) (v3 : Int32) : f_X0_isReached_2 k34 S (n + 1) v0 v1 v2 v3 = if 25 ≤ v3 then (k34) else (mGr 0 0 v0 S (fun r1 => mX 8 r1 ((25 * v1) + v3) S (fun r2 => mCp (f_X6_hasBit r2 v2) (fun r3 => if r3 = 0 then ((f_X0_isReached_2 k34 S n) v0 v1 v2 (v3 + 1)) else (mZ 1 (some 1)))))) := rfl
noncomputable def f_X0_isReached_34 (S : mS) : Option Int32 := mZ 0 (some 0)
noncomputable def f_X0_isReached (v0 : Int32) (v1 : Int32) (v2 : Int32) (S : mS) : Option Int32 := (f_X0_isReached_2 (f_X0_isReached_34 S) S 1000) v0 v1 v2 0
def rm_X0_isReached : Room := { frames := 1, cells := 0, slots := 0, locals := 21 }
set_option maxRecDepth 100000 in
set_option maxHeartbeats 4000000 in
theorem bl_X0_isReached_2 {p : Program} {l : Launch} {e : Env} {s : State} {m : MethodId} {args : Array Value} {below : List Frame} {meth : Method} {c : Code} {E : mE} {n0 : Nat} {r : Int32} {S : mS} (C : mCx p s m args meth c cX0_isReached 4 RX0 (some .boolean) E n0) {k34 : Option Int32} (hk34 : ∀ (H : Heap) (locs : List Loc) (ls : Array Slot), k34 = some r → mIv s E S H locs 0 → lv_has ls 4 [] → W p l e rm_X0_isReached s m args below meth c H locs 0 0 (mQi below args s 0 0 n0 E (r, S)) (F0 m 34 ls [])) : ∀ (n : Nat)  (v0 : Int32) (v1 : Int32) (v2 : Int32) (v3 : Int32) (H : Heap) (locs : List Loc) (ls : Array Slot), f_X0_isReached_2 k34 S n v0 v1 v2 v3 = some r → mIv s E S H locs 0 → lv_has ls 4 [(0, .ref (mA E.b v0)), (1, .int v1), (2, .int v2), (3, .int v3)] → W p l e rm_X0_isReached s m args below meth c H locs 0 0 (mQi below args s 0 0 n0 E (r, S)) (F0 m 2 ls []) := by
  have hx := C.1
  have hb := C.2.1
  intro n
  induction n with
  | zero =>
    intro v0 v1 v2 v3 H locs ls hF
    exact nomatch (show (none : Option Int32) = some r from hF)
  | succ n ih =>
    intro v0 v1 v2 v3 H locs ls hF hI hl
    have hF := (f_X0_isReached_2_s k34 S n v0 v1 v2 v3).symm.trans hF
    refine lv_iload_n hx hb dX0_isReached_2 rfl (lv_at hl 3 rfl) ?_
    refine lv_bipush (v := 25) hx hb dX0_isReached_3 (by decide) ?_
    refine m_icmp_ge C (tgt := 34) hF dX0_isReached_5 (by decide) (fun hF => ?_) (fun hF => ?_)
    · exact hk34  _ _ _ hF hI (lv_sub hl [] rfl)
    · refine lv_aload_n hx hb dX0_isReached_8 rfl (lv_at hl 0 rfl) ?_
      refine m_getR C fd_X0_9 hI hF dX0_isReached_9 (fun r1 hF => ?_)
      refine lv_bipush (v := 25) hx hb dX0_isReached_12 (by decide) ?_
      refine lv_iload_n hx hb dX0_isReached_14 rfl (lv_at hl 1 rfl) ?_
      refine lv_imul hx hb dX0_isReached_15 ?_
      refine lv_iload_n hx hb dX0_isReached_16 rfl (lv_at hl 3 rfl) ?_
      refine lv_iadd hx hb dX0_isReached_17 ?_
      refine m_iald C hI hF dX0_isReached_18 (fun r2 hF => ?_)
      refine lv_iload_n hx hb dX0_isReached_19 rfl (lv_at hl 2 rfl) ?_
      refine m_callNiR C cd_X0_98 hl.1 hI hF (fun _ h => ok_X6_hasBit h) rfl rfl ⟨rfl, rfl, Nat.le_of_ble_eq_true rfl, Nat.le_of_ble_eq_true rfl⟩ ⟨Nat.le_of_ble_eq_true rfl, Nat.le_of_ble_eq_true rfl⟩ (Nat.le_of_ble_eq_true rfl) dX0_isReached_20 (fun r3 H locs hF hI => ?_)
      refine m_if_eq C (tgt := 28) hF dX0_isReached_23 (by decide) (fun hF => ?_) (fun hF => ?_)
      · refine lv_iinc (v := v3 + 1) (lv' := [(3, .int (v3 + 1)), (0, .ref (mA E.b v0)), (1, .int v1), (2, .int v2)]) hx hb dX0_isReached_28 hl (k := 3) rfl rfl (by decide) rfl (fun ls hl => ?_)
        refine lv_goto (tgt := 2) hx hb dX0_isReached_31 (by decide) ?_
        exact ih v0 v1 v2 (v3 + 1) _ _ _ hF hI (lv_sub hl [1, 2, 3, 0] rfl)
      · refine lv_iconst (v := 1) hx hb dX0_isReached_26 (by decide) ?_
        exact m_iretzR C hI hF dX0_isReached_27
set_option maxRecDepth 100000 in
set_option maxHeartbeats 4000000 in
theorem bl_X0_isReached_34 {p : Program} {l : Launch} {e : Env} {s : State} {m : MethodId} {args : Array Value} {below : List Frame} {meth : Method} {c : Code} {E : mE} {n0 : Nat} {r : Int32} {S : mS} (C : mCx p s m args meth c cX0_isReached 4 RX0 (some .boolean) E n0) : ∀  (H : Heap) (locs : List Loc) (ls : Array Slot), f_X0_isReached_34 S = some r → mIv s E S H locs 0 → lv_has ls 4 [] → W p l e rm_X0_isReached s m args below meth c H locs 0 0 (mQi below args s 0 0 n0 E (r, S)) (F0 m 34 ls []) := by
  have hx := C.1
  have hb := C.2.1
  intro H locs ls hF hI hl
  refine lv_iconst (v := 0) hx hb dX0_isReached_34 (by decide) ?_
  exact m_iretzR C hI hF dX0_isReached_35
set_option maxRecDepth 100000 in
set_option maxHeartbeats 4000000 in
theorem ok_X0_isReached {l : Launch} {E : mE} {v0 : Int32} {v1 : Int32} {v2 : Int32} {S : mS} {r : Int32} (hF : f_X0_isReached v0 v1 v2 S = some r) : mMi l yX0_isReached cX0_isReached 4 (some .boolean) rm_X0_isReached 0 0 [.ref (mA E.b v0), .int v1, .int v2] E S (r, S) := by
  refine m_met_i (by decide) (Nat.le_of_ble_eq_true rfl) (fun p e s m args below meth c ls hin C hI hl => ?_)
  have hx := C.1
  have hb := C.2.1
  have hl : lv_has ls 4 [(0, .ref (mA E.b v0)), (1, .int v1), (2, .int v2)] := hl
  generalize s.heap = H at hI ⊢
  generalize ([] : List Loc) = locs at hI ⊢
  refine lv_iconst (v := 0) hx hb dX0_isReached_0 (by decide) ?_
  refine lv_istore_n (lv' := [(3, .int 0), (0, .ref (mA E.b v0)), (1, .int v1), (2, .int v2)]) hx hb dX0_isReached_1 rfl hl (by decide) rfl (fun ls hl => ?_)
  exact (bl_X0_isReached_2 C (k34 := (f_X0_isReached_34 S)) (bl_X0_isReached_34 C) 1000) v0 v1 v2 0 _ _ _ hF hI (lv_sub hl [1, 2, 3, 0] rfl)
noncomputable def f_X6_whistleReach_74 (t0 : Int32) : Option Int32 := some t0
noncomputable def f_X6_whistleReach_89 (t0 : Int32) : Option Int32 := some t0
noncomputable def f_X6_whistleReach_105 (t0 : Int32) : Option Int32 := some t0
noncomputable def f_X6_whistleReach_17 (v0 : Int32) (v1 : Int32) (v2 : Int32) (v3 : Int32) (t0 : Int32) : Option Int32 := if v0 = 1 then (some v3) else if v0 = 2 then (some t0) else if v0 = 3 then (if (mRem v1 5) = 0 then ((f_X6_whistleReach_74) (2 * v3)) else ((f_X6_whistleReach_74) v3)) else if v0 = 4 then (if (mRem v1 2) = 1 then ((f_X6_whistleReach_89) (v2 + 1)) else ((f_X6_whistleReach_89) v2)) else if v0 = 5 then (if v1 < 20 then ((f_X6_whistleReach_105) t0) else ((f_X6_whistleReach_105) (t0 + 1))) else (some v2)
noncomputable def f_X6_whistleReach (v0 : Int32) (v1 : Int32) : Option Int32 := if (mRem v1 3) = 0 then ((f_X6_whistleReach_17) v0 v1 1 (1 + 1) 0) else ((f_X6_whistleReach_17) v0 v1 1 (1 + 1) 1)
def rm_X6_whistleReach : Room := { frames := 0, cells := 0, slots := 0, locals := 0 }
set_option maxRecDepth 100000 in
set_option maxHeartbeats 4000000 in
theorem bl_X6_whistleReach_74 {p : Program} {l : Launch} {e : Env} {s : State} {m : MethodId} {args : Array Value} {below : List Frame} {meth : Method} {c : Code} {E : mE} {n0 : Nat} {r : Int32} {S : mS} (C : mCx p s m args meth c cX6_whistleReach 5 RX6 (some .int) E n0) : ∀  (t0 : Int32) (H : Heap) (locs : List Loc) (ls : Array Slot), f_X6_whistleReach_74 t0 = some r → mIv s E S H locs 0 → lv_has ls 5 [] → W p l e rm_X6_whistleReach s m args below meth c H locs 0 0 (mQi below args s 0 0 n0 E (r, S)) (F0 m 74 ls [.int t0]) := by
  have hx := C.1
  have hb := C.2.1
  intro t0 H locs ls hF hI hl
  exact m_iretiR C hI hF dX6_whistleReach_74
set_option maxRecDepth 100000 in
set_option maxHeartbeats 4000000 in
theorem bl_X6_whistleReach_89 {p : Program} {l : Launch} {e : Env} {s : State} {m : MethodId} {args : Array Value} {below : List Frame} {meth : Method} {c : Code} {E : mE} {n0 : Nat} {r : Int32} {S : mS} (C : mCx p s m args meth c cX6_whistleReach 5 RX6 (some .int) E n0) : ∀  (t0 : Int32) (H : Heap) (locs : List Loc) (ls : Array Slot), f_X6_whistleReach_89 t0 = some r → mIv s E S H locs 0 → lv_has ls 5 [] → W p l e rm_X6_whistleReach s m args below meth c H locs 0 0 (mQi below args s 0 0 n0 E (r, S)) (F0 m 89 ls [.int t0]) := by
  have hx := C.1
  have hb := C.2.1
  intro t0 H locs ls hF hI hl
  exact m_iretiR C hI hF dX6_whistleReach_89
set_option maxRecDepth 100000 in
set_option maxHeartbeats 4000000 in
theorem bl_X6_whistleReach_105 {p : Program} {l : Launch} {e : Env} {s : State} {m : MethodId} {args : Array Value} {below : List Frame} {meth : Method} {c : Code} {E : mE} {n0 : Nat} {r : Int32} {S : mS} (C : mCx p s m args meth c cX6_whistleReach 5 RX6 (some .int) E n0) : ∀  (t0 : Int32) (H : Heap) (locs : List Loc) (ls : Array Slot), f_X6_whistleReach_105 t0 = some r → mIv s E S H locs 0 → lv_has ls 5 [] → W p l e rm_X6_whistleReach s m args below meth c H locs 0 0 (mQi below args s 0 0 n0 E (r, S)) (F0 m 105 ls [.int t0]) := by
  have hx := C.1
  have hb := C.2.1
  intro t0 H locs ls hF hI hl
  exact m_iretiR C hI hF dX6_whistleReach_105
set_option maxRecDepth 100000 in
set_option maxHeartbeats 4000000 in
theorem bl_X6_whistleReach_17 {p : Program} {l : Launch} {e : Env} {s : State} {m : MethodId} {args : Array Value} {below : List Frame} {meth : Method} {c : Code} {E : mE} {n0 : Nat} {r : Int32} {S : mS} (C : mCx p s m args meth c cX6_whistleReach 5 RX6 (some .int) E n0) : ∀  (v0 : Int32) (v1 : Int32) (v2 : Int32) (v3 : Int32) (t0 : Int32) (H : Heap) (locs : List Loc) (ls : Array Slot), f_X6_whistleReach_17 v0 v1 v2 v3 t0 = some r → mIv s E S H locs 0 → lv_has ls 5 [(0, .int v0), (1, .int v1), (2, .int v2), (3, .int v3)] → W p l e rm_X6_whistleReach s m args below meth c H locs 0 0 (mQi below args s 0 0 n0 E (r, S)) (F0 m 17 ls [.int t0]) := by
  have hx := C.1
  have hb := C.2.1
  intro v0 v1 v2 v3 t0 H locs ls hF hI hl
  refine lv_istore (lv' := [(4, .int t0), (0, .int v0), (1, .int v1), (2, .int v2), (3, .int v3)]) hx hb dX6_whistleReach_17 hl (by decide) rfl (fun ls hl => ?_)
  refine lv_iload_n hx hb dX6_whistleReach_19 rfl (lv_at hl 1 rfl) ?_
  refine m_if hF (fun c1 hF => ?_) (fun c1 hF => ?_)
  · refine m_swIn C dX6_whistleReach_20 c1 1 rfl (by decide) (by decide) rfl (tgt := 56) (by decide) ?_
    refine lv_iload_n hx hb dX6_whistleReach_56 rfl (lv_at hl 4 rfl) ?_
    exact m_iretiR C hI hF dX6_whistleReach_57
  refine m_if hF (fun c2 hF => ?_) (fun c2 hF => ?_)
  · refine m_swIn C dX6_whistleReach_20 c2 2 rfl (by decide) (by decide) rfl (tgt := 58) (by decide) ?_
    refine lv_iload hx hb dX6_whistleReach_58 (lv_at hl 0 rfl) ?_
    exact m_iretiR C hI hF dX6_whistleReach_60
  refine m_if hF (fun c3 hF => ?_) (fun c3 hF => ?_)
  · refine m_swIn C dX6_whistleReach_20 c3 3 rfl (by decide) (by decide) rfl (tgt := 61) (by decide) ?_
    refine lv_iload_n hx hb dX6_whistleReach_61 rfl (lv_at hl 2 rfl) ?_
    refine lv_iconst (v := 5) hx hb dX6_whistleReach_62 (by decide) ?_
    refine m_irem C dX6_whistleReach_63 (by decide) ?_
    refine m_if_ne C (tgt := 73) hF dX6_whistleReach_64 (by decide) (fun hF => ?_) (fun hF => ?_)
    · refine lv_iload_n hx hb dX6_whistleReach_73 rfl (lv_at hl 4 rfl) ?_
      exact (bl_X6_whistleReach_74 C) v3 _ _ _ hF hI (lv_sub hl [] rfl)
    · refine lv_iconst (v := 2) hx hb dX6_whistleReach_67 (by decide) ?_
      refine lv_iload_n hx hb dX6_whistleReach_68 rfl (lv_at hl 4 rfl) ?_
      refine lv_imul hx hb dX6_whistleReach_69 ?_
      refine lv_goto (tgt := 74) hx hb dX6_whistleReach_70 (by decide) ?_
      exact (bl_X6_whistleReach_74 C) (2 * v3) _ _ _ hF hI (lv_sub hl [] rfl)
  refine m_if hF (fun c4 hF => ?_) (fun c4 hF => ?_)
  · refine m_swIn C dX6_whistleReach_20 c4 4 rfl (by decide) (by decide) rfl (tgt := 75) (by decide) ?_
    refine lv_iload_n hx hb dX6_whistleReach_75 rfl (lv_at hl 2 rfl) ?_
    refine lv_iconst (v := 2) hx hb dX6_whistleReach_76 (by decide) ?_
    refine m_irem C dX6_whistleReach_77 (by decide) ?_
    refine lv_iconst (v := 1) hx hb dX6_whistleReach_78 (by decide) ?_
    refine m_icmp_ne C (tgt := 88) hF dX6_whistleReach_79 (by decide) (fun hF => ?_) (fun hF => ?_)
    · refine lv_iload_n hx hb dX6_whistleReach_88 rfl (lv_at hl 3 rfl) ?_
      exact (bl_X6_whistleReach_89 C) v2 _ _ _ hF hI (lv_sub hl [] rfl)
    · refine lv_iload_n hx hb dX6_whistleReach_82 rfl (lv_at hl 3 rfl) ?_
      refine lv_iconst (v := 1) hx hb dX6_whistleReach_83 (by decide) ?_
      refine lv_iadd hx hb dX6_whistleReach_84 ?_
      refine lv_goto (tgt := 89) hx hb dX6_whistleReach_85 (by decide) ?_
      exact (bl_X6_whistleReach_89 C) (v2 + 1) _ _ _ hF hI (lv_sub hl [] rfl)
  refine m_if hF (fun c5 hF => ?_) (fun c5 hF => ?_)
  · refine m_swIn C dX6_whistleReach_20 c5 5 rfl (by decide) (by decide) rfl (tgt := 90) (by decide) ?_
    refine lv_iload_n hx hb dX6_whistleReach_90 rfl (lv_at hl 2 rfl) ?_
    refine lv_bipush (v := 20) hx hb dX6_whistleReach_91 (by decide) ?_
    refine m_icmp_lt C (tgt := 103) hF dX6_whistleReach_93 (by decide) (fun hF => ?_) (fun hF => ?_)
    · refine lv_iload hx hb dX6_whistleReach_103 (lv_at hl 0 rfl) ?_
      exact (bl_X6_whistleReach_105 C) t0 _ _ _ hF hI (lv_sub hl [] rfl)
    · refine lv_iload hx hb dX6_whistleReach_96 (lv_at hl 0 rfl) ?_
      refine lv_iconst (v := 1) hx hb dX6_whistleReach_98 (by decide) ?_
      refine lv_iadd hx hb dX6_whistleReach_99 ?_
      refine lv_goto (tgt := 105) hx hb dX6_whistleReach_100 (by decide) ?_
      exact (bl_X6_whistleReach_105 C) (t0 + 1) _ _ _ hF hI (lv_sub hl [] rfl)
  refine lv_tableOut (tgt := 106) hx hb dX6_whistleReach_20 (by have := lv_neT c1 (a := 1) rfl; have := lv_neT c2 (a := 2) rfl; have := lv_neT c3 (a := 3) rfl; have := lv_neT c4 (a := 4) rfl; have := lv_neT c5 (a := 5) rfl; omega) (by decide) ?_
  refine lv_iload_n hx hb dX6_whistleReach_106 rfl (lv_at hl 3 rfl) ?_
  exact m_iretiR C hI hF dX6_whistleReach_107
set_option maxRecDepth 100000 in
set_option maxHeartbeats 4000000 in
theorem ok_X6_whistleReach {l : Launch} {E : mE} {v0 : Int32} {v1 : Int32} {S : mS} {r : Int32} (hF : f_X6_whistleReach v0 v1 = some r) : mMi l yX6_whistleReach cX6_whistleReach 5 (some .int) rm_X6_whistleReach 0 0 [.int v0, .int v1] E S (r, S) := by
  refine m_met_i (by decide) (Nat.le_of_ble_eq_true rfl) (fun p e s m args below meth c ls hin C hI hl => ?_)
  have hx := C.1
  have hb := C.2.1
  have hl : lv_has ls 5 [(0, .int v0), (1, .int v1)] := hl
  generalize s.heap = H at hI ⊢
  generalize ([] : List Loc) = locs at hI ⊢
  refine lv_iconst (v := 1) hx hb dX6_whistleReach_0 (by decide) ?_
  refine lv_istore_n (lv' := [(2, .int 1), (0, .int v0), (1, .int v1)]) hx hb dX6_whistleReach_1 rfl hl (by decide) rfl (fun ls hl => ?_)
  refine lv_iload_n hx hb dX6_whistleReach_2 rfl (lv_at hl 0 rfl) ?_
  refine lv_iconst (v := 1) hx hb dX6_whistleReach_3 (by decide) ?_
  refine lv_iadd hx hb dX6_whistleReach_4 ?_
  refine lv_istore_n (lv' := [(3, .int (1 + 1)), (2, .int 1), (0, .int v0), (1, .int v1)]) hx hb dX6_whistleReach_5 rfl hl (by decide) rfl (fun ls hl => ?_)
  refine lv_iload_n hx hb dX6_whistleReach_6 rfl (lv_at hl 3 rfl) ?_
  refine lv_iconst (v := 3) hx hb dX6_whistleReach_7 (by decide) ?_
  refine m_irem C dX6_whistleReach_8 (by decide) ?_
  refine m_if_ne C (tgt := 16) hF dX6_whistleReach_9 (by decide) (fun hF => ?_) (fun hF => ?_)
  · refine lv_iload_n hx hb dX6_whistleReach_16 rfl (lv_at hl 1 rfl) ?_
    exact (bl_X6_whistleReach_17 C) v0 v1 1 (1 + 1) 1 _ _ _ hF hI (lv_sub hl [2, 3, 1, 0] rfl)
  · refine lv_iconst (v := 0) hx hb dX6_whistleReach_12 (by decide) ?_
    refine lv_goto (tgt := 17) hx hb dX6_whistleReach_13 (by decide) ?_
    exact (bl_X6_whistleReach_17 C) v0 v1 1 (1 + 1) 0 _ _ _ hF hI (lv_sub hl [2, 3, 1, 0] rfl)
noncomputable def f_X0_cellsIn (v0 : Int32) (v1 : Int32) (S : mS) : Option Int32 := mG 0 4 v0 S (fun r1 => mG 0 5 v0 S (fun r2 => mCp (f_X6_whistleReach r1 (r2 + v1)) (fun r3 => some r3)))
def rm_X0_cellsIn : Room := { frames := 1, cells := 0, slots := 0, locals := 24 }
set_option maxRecDepth 100000 in
set_option maxHeartbeats 4000000 in
theorem ok_X0_cellsIn {l : Launch} {E : mE} {v0 : Int32} {v1 : Int32} {S : mS} {r : Int32} (hF : f_X0_cellsIn v0 v1 S = some r) : mMi l yX0_cellsIn cX0_cellsIn 2 (some .int) rm_X0_cellsIn 0 0 [.ref (mA E.b v0), .int v1] E S (r, S) := by
  refine m_met_i (by decide) (Nat.le_of_ble_eq_true rfl) (fun p e s m args below meth c ls hin C hI hl => ?_)
  have hx := C.1
  have hb := C.2.1
  have hl : lv_has ls 2 [(0, .ref (mA E.b v0)), (1, .int v1)] := hl
  generalize s.heap = H at hI ⊢
  generalize ([] : List Loc) = locs at hI ⊢
  refine lv_aload_n hx hb dX0_cellsIn_0 rfl (lv_at hl 0 rfl) ?_
  refine m_get C fd_X0_44 hI hF dX0_cellsIn_1 (fun r1 hF => ?_)
  refine lv_aload_n hx hb dX0_cellsIn_4 rfl (lv_at hl 0 rfl) ?_
  refine m_get C fd_X0_49 hI hF dX0_cellsIn_5 (fun r2 hF => ?_)
  refine lv_iload_n hx hb dX0_cellsIn_8 rfl (lv_at hl 1 rfl) ?_
  refine lv_iadd hx hb dX0_cellsIn_9 ?_
  refine m_callNiR C cd_X0_104 hl.1 hI hF (fun _ h => ok_X6_whistleReach h) rfl rfl ⟨rfl, rfl, Nat.le_of_ble_eq_true rfl, Nat.le_of_ble_eq_true rfl⟩ ⟨Nat.le_of_ble_eq_true rfl, Nat.le_of_ble_eq_true rfl⟩ (Nat.le_of_ble_eq_true rfl) dX0_cellsIn_10 (fun r3 H locs hF hI => ?_)
  exact m_iretiR C hI hF dX0_cellsIn_13
noncomputable def f_X0_allGivenWay_42 (k5 : Int32 → Int32 → Int32 → Int32 → Int32 → Option Int32) (S : mS) (v0 : Int32) (v1 : Int32) (v2 : Int32) (v3 : Int32) (v4 : Int32) : Option Int32 := k5 v0 v1 v2 v3 (v4 + 1)
noncomputable def f_X0_allGivenWay_5 (k48 : Int32 → Option Int32) (S : mS) : Nat → Int32 → Int32 → Int32 → Int32 → Int32 → Option Int32 := fun n => Nat.rec (motive := fun _ => Int32 → Int32 → Int32 → Int32 → Int32 → Option Int32) (fun _ _ _ _ _ => none) (fun _ rec v0 v1 v2 v3 v4 => if v1 = 0 then (k48 v3) else (if 25 ≤ v4 then (k48 v3) else (mCp (f_X6_hasBit v1 v4) (fun r1 => if r1 = 0 then ((f_X0_allGivenWay_42 rec S) v0 v1 v2 v3 v4) else (mGr 0 2 v0 S (fun r2 => mX 8 r2 ((25 * v2) + v4) S (fun r3 => (f_X0_allGivenWay_42 rec S) v0 v1 v2 (v3 ||| (1 <<< (r3 &&& 31))) v4))))))) n
theorem f_X0_allGivenWay_5_s (k48 : Int32 → Option Int32) (S : mS) (n : Nat) (v0 : Int32) (v1 : Int32) (v2 : Int32) (v3 : Int32) (v4 : Int32) : f_X0_allGivenWay_5 k48 S (n + 1) v0 v1 v2 v3 v4 = if v1 = 0 then (k48 v3) else (if 25 ≤ v4 then (k48 v3) else (mCp (f_X6_hasBit v1 v4) (fun r1 => if r1 = 0 then ((f_X0_allGivenWay_42 (f_X0_allGivenWay_5 k48 S n) S) v0 v1 v2 v3 v4) else (mGr 0 2 v0 S (fun r2 => mX 8 r2 ((25 * v2) + v4) S (fun r3 => (f_X0_allGivenWay_42 (f_X0_allGivenWay_5 k48 S n) S) v0 v1 v2 (v3 ||| (1 <<< (r3 &&& 31))) v4)))))) := rfl
noncomputable def f_X0_allGivenWay_48 (S : mS) (v3 : Int32) : Option Int32 := some v3
noncomputable def f_X0_allGivenWay (v0 : Int32) (v1 : Int32) (v2 : Int32) (S : mS) : Option Int32 := (f_X0_allGivenWay_5 (f_X0_allGivenWay_48 S) S 1000) v0 v1 v2 0 0
def rm_X0_allGivenWay : Room := { frames := 1, cells := 0, slots := 0, locals := 21 }
set_option maxRecDepth 100000 in
set_option maxHeartbeats 4000000 in
theorem bl_X0_allGivenWay_42 {p : Program} {l : Launch} {e : Env} {s : State} {m : MethodId} {args : Array Value} {below : List Frame} {meth : Method} {c : Code} {E : mE} {n0 : Nat} {r : Int32} {S : mS} (C : mCx p s m args meth c cX0_allGivenWay 5 RX0 (some .int) E n0) {k5 : Int32 → Int32 → Int32 → Int32 → Int32 → Option Int32} (hk5 : ∀ (v0 : Int32) (v1 : Int32) (v2 : Int32) (v3 : Int32) (v4 : Int32) (H : Heap) (locs : List Loc) (ls : Array Slot), k5 v0 v1 v2 v3 v4 = some r → mIv s E S H locs 0 → lv_has ls 5 [(0, .ref (mA E.b v0)), (1, .int v1), (2, .int v2), (3, .int v3), (4, .int v4)] → W p l e rm_X0_allGivenWay s m args below meth c H locs 0 0 (mQi below args s 0 0 n0 E (r, S)) (F0 m 5 ls [])) : ∀  (v0 : Int32) (v1 : Int32) (v2 : Int32) (v3 : Int32) (v4 : Int32) (H : Heap) (locs : List Loc) (ls : Array Slot), f_X0_allGivenWay_42 k5 S v0 v1 v2 v3 v4 = some r → mIv s E S H locs 0 → lv_has ls 5 [(0, .ref (mA E.b v0)), (1, .int v1), (2, .int v2), (3, .int v3), (4, .int v4)] → W p l e rm_X0_allGivenWay s m args below meth c H locs 0 0 (mQi below args s 0 0 n0 E (r, S)) (F0 m 42 ls []) := by
  have hx := C.1
  have hb := C.2.1
  intro v0 v1 v2 v3 v4 H locs ls hF hI hl
  refine lv_iinc (v := v4 + 1) (lv' := [(4, .int (v4 + 1)), (0, .ref (mA E.b v0)), (1, .int v1), (2, .int v2), (3, .int v3)]) hx hb dX0_allGivenWay_42 hl (k := 4) rfl rfl (by decide) rfl (fun ls hl => ?_)
  refine lv_goto (tgt := 5) hx hb dX0_allGivenWay_45 (by decide) ?_
  exact hk5 v0 v1 v2 v3 (v4 + 1) _ _ _ hF hI (lv_sub hl [1, 2, 3, 4, 0] rfl)
set_option maxRecDepth 100000 in
set_option maxHeartbeats 4000000 in
theorem bl_X0_allGivenWay_5 {p : Program} {l : Launch} {e : Env} {s : State} {m : MethodId} {args : Array Value} {below : List Frame} {meth : Method} {c : Code} {E : mE} {n0 : Nat} {r : Int32} {S : mS} (C : mCx p s m args meth c cX0_allGivenWay 5 RX0 (some .int) E n0) {k48 : Int32 → Option Int32} (hk48 : ∀ (v3 : Int32) (H : Heap) (locs : List Loc) (ls : Array Slot), k48 v3 = some r → mIv s E S H locs 0 → lv_has ls 5 [(3, .int v3)] → W p l e rm_X0_allGivenWay s m args below meth c H locs 0 0 (mQi below args s 0 0 n0 E (r, S)) (F0 m 48 ls [])) : ∀ (n : Nat)  (v0 : Int32) (v1 : Int32) (v2 : Int32) (v3 : Int32) (v4 : Int32) (H : Heap) (locs : List Loc) (ls : Array Slot), f_X0_allGivenWay_5 k48 S n v0 v1 v2 v3 v4 = some r → mIv s E S H locs 0 → lv_has ls 5 [(0, .ref (mA E.b v0)), (1, .int v1), (2, .int v2), (3, .int v3), (4, .int v4)] → W p l e rm_X0_allGivenWay s m args below meth c H locs 0 0 (mQi below args s 0 0 n0 E (r, S)) (F0 m 5 ls []) := by
  have hx := C.1
  have hb := C.2.1
  intro n
  induction n with
  | zero =>
    intro v0 v1 v2 v3 v4 H locs ls hF
    exact nomatch (show (none : Option Int32) = some r from hF)
  | succ n ih =>
    intro v0 v1 v2 v3 v4 H locs ls hF hI hl
    have hF := (f_X0_allGivenWay_5_s k48 S n v0 v1 v2 v3 v4).symm.trans hF
    refine lv_iload_n hx hb dX0_allGivenWay_5 rfl (lv_at hl 1 rfl) ?_
    refine m_if_eq C (tgt := 48) hF dX0_allGivenWay_6 (by decide) (fun hF => ?_) (fun hF => ?_)
    · exact hk48 v3 _ _ _ hF hI (lv_sub hl [3] rfl)
    · refine lv_iload hx hb dX0_allGivenWay_9 (lv_at hl 4 rfl) ?_
      refine lv_bipush (v := 25) hx hb dX0_allGivenWay_11 (by decide) ?_
      refine m_icmp_ge C (tgt := 48) hF dX0_allGivenWay_13 (by decide) (fun hF => ?_) (fun hF => ?_)
      · exact hk48 v3 _ _ _ hF hI (lv_sub hl [3] rfl)
      · refine lv_iload_n hx hb dX0_allGivenWay_16 rfl (lv_at hl 1 rfl) ?_
        refine lv_iload hx hb dX0_allGivenWay_17 (lv_at hl 4 rfl) ?_
        refine m_callNiR C cd_X0_98 hl.1 hI hF (fun _ h => ok_X6_hasBit h) rfl rfl ⟨rfl, rfl, Nat.le_of_ble_eq_true rfl, Nat.le_of_ble_eq_true rfl⟩ ⟨Nat.le_of_ble_eq_true rfl, Nat.le_of_ble_eq_true rfl⟩ (Nat.le_of_ble_eq_true rfl) dX0_allGivenWay_19 (fun r1 H locs hF hI => ?_)
        refine m_if_eq C (tgt := 42) hF dX0_allGivenWay_22 (by decide) (fun hF => ?_) (fun hF => ?_)
        · exact (bl_X0_allGivenWay_42 C (k5 := (f_X0_allGivenWay_5 k48 S n)) ih) v0 v1 v2 v3 v4 _ _ _ hF hI (lv_sub hl [0, 1, 2, 3, 4] rfl)
        · refine lv_iload_n hx hb dX0_allGivenWay_25 rfl (lv_at hl 3 rfl) ?_
          refine lv_iconst (v := 1) hx hb dX0_allGivenWay_26 (by decide) ?_
          refine lv_aload_n hx hb dX0_allGivenWay_27 rfl (lv_at hl 0 rfl) ?_
          refine m_getR C fd_X0_18 hI hF dX0_allGivenWay_28 (fun r2 hF => ?_)
          refine lv_bipush (v := 25) hx hb dX0_allGivenWay_31 (by decide) ?_
          refine lv_iload_n hx hb dX0_allGivenWay_33 rfl (lv_at hl 2 rfl) ?_
          refine lv_imul hx hb dX0_allGivenWay_34 ?_
          refine lv_iload hx hb dX0_allGivenWay_35 (lv_at hl 4 rfl) ?_
          refine lv_iadd hx hb dX0_allGivenWay_37 ?_
          refine m_iald C hI hF dX0_allGivenWay_38 (fun r3 hF => ?_)
          refine lv_ishl hx hb dX0_allGivenWay_39 ?_
          refine lv_ior hx hb dX0_allGivenWay_40 ?_
          refine lv_istore_n (lv' := [(3, .int (v3 ||| (1 <<< (r3 &&& 31)))), (0, .ref (mA E.b v0)), (1, .int v1), (2, .int v2), (4, .int v4)]) hx hb dX0_allGivenWay_41 rfl hl (by decide) rfl (fun ls hl => ?_)
          exact (bl_X0_allGivenWay_42 C (k5 := (f_X0_allGivenWay_5 k48 S n)) ih) v0 v1 v2 (v3 ||| (1 <<< (r3 &&& 31))) v4 _ _ _ hF hI (lv_sub hl [1, 2, 3, 0, 4] rfl)
set_option maxRecDepth 100000 in
set_option maxHeartbeats 4000000 in
theorem bl_X0_allGivenWay_48 {p : Program} {l : Launch} {e : Env} {s : State} {m : MethodId} {args : Array Value} {below : List Frame} {meth : Method} {c : Code} {E : mE} {n0 : Nat} {r : Int32} {S : mS} (C : mCx p s m args meth c cX0_allGivenWay 5 RX0 (some .int) E n0) : ∀  (v3 : Int32) (H : Heap) (locs : List Loc) (ls : Array Slot), f_X0_allGivenWay_48 S v3 = some r → mIv s E S H locs 0 → lv_has ls 5 [(3, .int v3)] → W p l e rm_X0_allGivenWay s m args below meth c H locs 0 0 (mQi below args s 0 0 n0 E (r, S)) (F0 m 48 ls []) := by
  have hx := C.1
  have hb := C.2.1
  intro v3 H locs ls hF hI hl
  refine lv_iload_n hx hb dX0_allGivenWay_48 rfl (lv_at hl 0 rfl) ?_
  exact m_iretiR C hI hF dX0_allGivenWay_49
set_option maxRecDepth 100000 in
set_option maxHeartbeats 4000000 in
theorem ok_X0_allGivenWay {l : Launch} {E : mE} {v0 : Int32} {v1 : Int32} {v2 : Int32} {S : mS} {r : Int32} (hF : f_X0_allGivenWay v0 v1 v2 S = some r) : mMi l yX0_allGivenWay cX0_allGivenWay 5 (some .int) rm_X0_allGivenWay 0 0 [.ref (mA E.b v0), .int v1, .int v2] E S (r, S) := by
  refine m_met_i (by decide) (Nat.le_of_ble_eq_true rfl) (fun p e s m args below meth c ls hin C hI hl => ?_)
  have hx := C.1
  have hb := C.2.1
  have hl : lv_has ls 5 [(0, .ref (mA E.b v0)), (1, .int v1), (2, .int v2)] := hl
  generalize s.heap = H at hI ⊢
  generalize ([] : List Loc) = locs at hI ⊢
  refine lv_iconst (v := 0) hx hb dX0_allGivenWay_0 (by decide) ?_
  refine lv_istore_n (lv' := [(3, .int 0), (0, .ref (mA E.b v0)), (1, .int v1), (2, .int v2)]) hx hb dX0_allGivenWay_1 rfl hl (by decide) rfl (fun ls hl => ?_)
  refine lv_iconst (v := 0) hx hb dX0_allGivenWay_2 (by decide) ?_
  refine lv_istore (lv' := [(4, .int 0), (3, .int 0), (0, .ref (mA E.b v0)), (1, .int v1), (2, .int v2)]) hx hb dX0_allGivenWay_3 hl (by decide) rfl (fun ls hl => ?_)
  exact (bl_X0_allGivenWay_5 C (k48 := (f_X0_allGivenWay_48 S)) (bl_X0_allGivenWay_48 C) 1000) v0 v1 v2 0 0 _ _ _ hF hI (lv_sub hl [2, 3, 4, 1, 0] rfl)
noncomputable def f_X0_spread_38 (k72 : Int32 → Int32 → Int32 → Int32 → mS → Option mS) : Nat → Int32 → Int32 → Int32 → Int32 → Int32 → Int32 → mS → Option mS := fun n => Nat.rec (motive := fun _ => Int32 → Int32 → Int32 → Int32 → Int32 → Int32 → mS → Option mS) (fun _ _ _ _ _ _ _ => none) (fun _ rec v0 v1 v2 v3 v4 v5 S => if v4 = 0 then (k72 v0 v1 v2 v3 S) else (if 5 ≤ v5 then (k72 v0 v1 v2 v3 S) else (mGr 0 1 v0 S (fun r7 => mCp (f_X6_moved v3 v5 v2) (fun r8 => mX 8 r7 r8 S (fun r9 => mXs r7 r8 (r9 ||| v4) S (fun S10 => rec v0 v1 v2 v3 v4 (v5 + 1) S10))))))) n
theorem f_X0_spread_38_s (k72 : Int32 → Int32 → Int32 → Int32 → mS → Option mS) (n : Nat) (v0 : Int32) (v1 : Int32) (v2 : Int32) (v3 : Int32) (v4 : Int32) (v5 : Int32) (S : mS) : f_X0_spread_38 k72 (n + 1) v0 v1 v2 v3 v4 v5 S = if v4 = 0 then (k72 v0 v1 v2 v3 S) else (if 5 ≤ v5 then (k72 v0 v1 v2 v3 S) else (mGr 0 1 v0 S (fun r7 => mCp (f_X6_moved v3 v5 v2) (fun r8 => mX 8 r7 r8 S (fun r9 => mXs r7 r8 (r9 ||| v4) S (fun S10 => (f_X0_spread_38 k72 n) v0 v1 v2 v3 v4 (v5 + 1) S10)))))) := rfl
noncomputable def f_X0_spread_72 (k16 : Int32 → Int32 → Int32 → Int32 → mS → Option mS) (v0 : Int32) (v1 : Int32) (v2 : Int32) (v3 : Int32) (S : mS) : Option mS := k16 v0 v1 v2 (v3 + 1) S
noncomputable def f_X0_spread_16 (k78 : Int32 → Int32 → mS → Option mS) : Nat → Int32 → Int32 → Int32 → Int32 → mS → Option mS := fun n => Nat.rec (motive := fun _ => Int32 → Int32 → Int32 → Int32 → mS → Option mS) (fun _ _ _ _ _ => none) (fun _ rec v0 v1 v2 v3 S => if 25 ≤ v3 then (k78 v0 v1 S) else (mGr 0 0 v0 S (fun r5 => mX 8 r5 ((25 * v1) + v3) S (fun r6 => (f_X0_spread_38 (f_X0_spread_72 rec) 1000) v0 v1 v2 v3 r6 0 S)))) n
theorem f_X0_spread_16_s (k78 : Int32 → Int32 → mS → Option mS) (n : Nat) (v0 : Int32) (v1 : Int32) (v2 : Int32) (v3 : Int32) (S : mS) : f_X0_spread_16 k78 (n + 1) v0 v1 v2 v3 S = if 25 ≤ v3 then (k78 v0 v1 S) else (mGr 0 0 v0 S (fun r5 => mX 8 r5 ((25 * v1) + v3) S (fun r6 => (f_X0_spread_38 (f_X0_spread_72 (f_X0_spread_16 k78 n)) 1000) v0 v1 v2 v3 r6 0 S))) := rfl
noncomputable def f_X0_spread_80 (k116 : mS → Option mS) : Nat → Int32 → Int32 → Int32 → mS → Option mS := fun n => Nat.rec (motive := fun _ => Int32 → Int32 → Int32 → mS → Option mS) (fun _ _ _ _ => none) (fun _ rec v0 v1 v3 S => if 25 ≤ v3 then (k116 S) else (mGr 0 0 v0 S (fun r11 => mGr 0 1 v0 S (fun r12 => mX 8 r12 v3 S (fun r13 => mRc 0 v0 S (mCp (f_X0_allGivenWay v0 r13 v3 S) (fun r14 => mXs r11 ((25 * (v1 + 1)) + v3) r14 S (fun S15 => rec v0 v1 (v3 + 1) S15)))))))) n
theorem f_X0_spread_80_s (k116 : mS → Option mS) (n : Nat) (v0 : Int32) (v1 : Int32) (v3 : Int32) (S : mS) : f_X0_spread_80 k116 (n + 1) v0 v1 v3 S = if 25 ≤ v3 then (k116 S) else (mGr 0 0 v0 S (fun r11 => mGr 0 1 v0 S (fun r12 => mX 8 r12 v3 S (fun r13 => mRc 0 v0 S (mCp (f_X0_allGivenWay v0 r13 v3 S) (fun r14 => mXs r11 ((25 * (v1 + 1)) + v3) r14 S (fun S15 => (f_X0_spread_80 k116 n) v0 v1 (v3 + 1) S15))))))) := rfl
noncomputable def f_X0_spread_116 (S : mS) : Option mS := some S
noncomputable def f_X0_spread_78 (v0 : Int32) (v1 : Int32) (S : mS) : Option mS := (f_X0_spread_80 (f_X0_spread_116) 1000) v0 v1 0 S
noncomputable def f_X0_spread (v0 : Int32) (v1 : Int32) (S : mS) : Option mS := mRc 0 v0 S (mCp (f_X0_cellsIn v0 v1 S) (fun r1 => mGr 0 1 v0 S (fun r2 => mCv (f_J7_fill_53178 r2 0 S) (fun S4 => (f_X0_spread_16 (f_X0_spread_78) 1000) v0 v1 r1 0 S4))))
def rm_X0_spread : Room := { frames := 2, cells := 0, slots := 0, locals := 45 }
set_option maxRecDepth 100000 in
set_option maxHeartbeats 4000000 in
theorem bl_X0_spread_38 {p : Program} {l : Launch} {e : Env} {s : State} {m : MethodId} {args : Array Value} {below : List Frame} {meth : Method} {c : Code} {E : mE} {n0 : Nat} {F : mS} (C : mCx p s m args meth c cX0_spread 6 RX0 none E n0) {k72 : Int32 → Int32 → Int32 → Int32 → mS → Option mS} (hk72 : ∀ (v0 : Int32) (v1 : Int32) (v2 : Int32) (v3 : Int32) (S : mS) (H : Heap) (locs : List Loc) (ls : Array Slot), k72 v0 v1 v2 v3 S = some F → mIv s E S H locs 0 → lv_has ls 6 [(0, .ref (mA E.b v0)), (1, .int v1), (2, .int v2), (3, .int v3)] → W p l e rm_X0_spread s m args below meth c H locs 0 0 (mQv below args s 0 0 n0 E F) (F0 m 72 ls [])) : ∀ (n : Nat)  (v0 : Int32) (v1 : Int32) (v2 : Int32) (v3 : Int32) (v4 : Int32) (v5 : Int32) (S : mS) (H : Heap) (locs : List Loc) (ls : Array Slot), f_X0_spread_38 k72 n v0 v1 v2 v3 v4 v5 S = some F → mIv s E S H locs 0 → lv_has ls 6 [(0, .ref (mA E.b v0)), (1, .int v1), (2, .int v2), (3, .int v3), (4, .int v4), (5, .int v5)] → W p l e rm_X0_spread s m args below meth c H locs 0 0 (mQv below args s 0 0 n0 E F) (F0 m 38 ls []) := by
  have hx := C.1
  have hb := C.2.1
  intro n
  induction n with
  | zero =>
    intro v0 v1 v2 v3 v4 v5 S H locs ls hF
    exact nomatch (show (none : Option mS) = some F from hF)
  | succ n ih =>
    intro v0 v1 v2 v3 v4 v5 S H locs ls hF hI hl
    have hF := (f_X0_spread_38_s k72 n v0 v1 v2 v3 v4 v5 S).symm.trans hF
    refine lv_iload hx hb dX0_spread_38 (lv_at hl 4 rfl) ?_
    refine m_if_eq C (tgt := 72) hF dX0_spread_40 (by decide) (fun hF => ?_) (fun hF => ?_)
    · exact hk72 v0 v1 v2 v3 S _ _ _ hF hI (lv_sub hl [0, 1, 2, 3] rfl)
    · refine lv_iload hx hb dX0_spread_43 (lv_at hl 5 rfl) ?_
      refine lv_iconst (v := 5) hx hb dX0_spread_45 (by decide) ?_
      refine m_icmp_ge C (tgt := 72) hF dX0_spread_46 (by decide) (fun hF => ?_) (fun hF => ?_)
      · exact hk72 v0 v1 v2 v3 S _ _ _ hF hI (lv_sub hl [0, 1, 2, 3] rfl)
      · refine lv_aload_n hx hb dX0_spread_49 rfl (lv_at hl 0 rfl) ?_
        refine m_getR C fd_X0_15 hI hF dX0_spread_50 (fun r7 hF => ?_)
        refine lv_iload_n hx hb dX0_spread_53 rfl (lv_at hl 3 rfl) ?_
        refine lv_iload hx hb dX0_spread_54 (lv_at hl 5 rfl) ?_
        refine lv_iload_n hx hb dX0_spread_56 rfl (lv_at hl 2 rfl) ?_
        refine m_callNiR C cd_X0_95 hl.1 hI hF (fun _ h => ok_X6_moved h) rfl rfl ⟨rfl, rfl, Nat.le_of_ble_eq_true rfl, Nat.le_of_ble_eq_true rfl⟩ ⟨Nat.le_of_ble_eq_true rfl, Nat.le_of_ble_eq_true rfl⟩ (Nat.le_of_ble_eq_true rfl) dX0_spread_57 (fun r8 H locs hF hI => ?_)
        refine lv_dup2_11 hx hb dX0_spread_60 rfl rfl ?_
        refine m_iald C hI hF dX0_spread_61 (fun r9 hF => ?_)
        refine lv_iload hx hb dX0_spread_62 (lv_at hl 4 rfl) ?_
        refine lv_ior hx hb dX0_spread_64 ?_
        refine m_iast C hI hF dX0_spread_65 (fun S10 H locs hF hI => ?_)
        refine lv_iinc (v := v5 + 1) (lv' := [(5, .int (v5 + 1)), (0, .ref (mA E.b v0)), (1, .int v1), (2, .int v2), (3, .int v3), (4, .int v4)]) hx hb dX0_spread_66 hl (k := 5) rfl rfl (by decide) rfl (fun ls hl => ?_)
        refine lv_goto (tgt := 38) hx hb dX0_spread_69 (by decide) ?_
        exact ih v0 v1 v2 v3 v4 (v5 + 1) S10 _ _ _ hF hI (lv_sub hl [1, 2, 3, 4, 5, 0] rfl)
set_option maxRecDepth 100000 in
set_option maxHeartbeats 4000000 in
theorem bl_X0_spread_72 {p : Program} {l : Launch} {e : Env} {s : State} {m : MethodId} {args : Array Value} {below : List Frame} {meth : Method} {c : Code} {E : mE} {n0 : Nat} {F : mS} (C : mCx p s m args meth c cX0_spread 6 RX0 none E n0) {k16 : Int32 → Int32 → Int32 → Int32 → mS → Option mS} (hk16 : ∀ (v0 : Int32) (v1 : Int32) (v2 : Int32) (v3 : Int32) (S : mS) (H : Heap) (locs : List Loc) (ls : Array Slot), k16 v0 v1 v2 v3 S = some F → mIv s E S H locs 0 → lv_has ls 6 [(0, .ref (mA E.b v0)), (1, .int v1), (2, .int v2), (3, .int v3)] → W p l e rm_X0_spread s m args below meth c H locs 0 0 (mQv below args s 0 0 n0 E F) (F0 m 16 ls [])) : ∀  (v0 : Int32) (v1 : Int32) (v2 : Int32) (v3 : Int32) (S : mS) (H : Heap) (locs : List Loc) (ls : Array Slot), f_X0_spread_72 k16 v0 v1 v2 v3 S = some F → mIv s E S H locs 0 → lv_has ls 6 [(0, .ref (mA E.b v0)), (1, .int v1), (2, .int v2), (3, .int v3)] → W p l e rm_X0_spread s m args below meth c H locs 0 0 (mQv below args s 0 0 n0 E F) (F0 m 72 ls []) := by
  have hx := C.1
  have hb := C.2.1
  intro v0 v1 v2 v3 S H locs ls hF hI hl
  refine lv_iinc (v := v3 + 1) (lv' := [(3, .int (v3 + 1)), (0, .ref (mA E.b v0)), (1, .int v1), (2, .int v2)]) hx hb dX0_spread_72 hl (k := 3) rfl rfl (by decide) rfl (fun ls hl => ?_)
  refine lv_goto (tgt := 16) hx hb dX0_spread_75 (by decide) ?_
  exact hk16 v0 v1 v2 (v3 + 1) S _ _ _ hF hI (lv_sub hl [1, 2, 3, 0] rfl)
set_option maxRecDepth 100000 in
set_option maxHeartbeats 4000000 in
theorem bl_X0_spread_16 {p : Program} {l : Launch} {e : Env} {s : State} {m : MethodId} {args : Array Value} {below : List Frame} {meth : Method} {c : Code} {E : mE} {n0 : Nat} {F : mS} (C : mCx p s m args meth c cX0_spread 6 RX0 none E n0) {k78 : Int32 → Int32 → mS → Option mS} (hk78 : ∀ (v0 : Int32) (v1 : Int32) (S : mS) (H : Heap) (locs : List Loc) (ls : Array Slot), k78 v0 v1 S = some F → mIv s E S H locs 0 → lv_has ls 6 [(0, .ref (mA E.b v0)), (1, .int v1)] → W p l e rm_X0_spread s m args below meth c H locs 0 0 (mQv below args s 0 0 n0 E F) (F0 m 78 ls [])) : ∀ (n : Nat)  (v0 : Int32) (v1 : Int32) (v2 : Int32) (v3 : Int32) (S : mS) (H : Heap) (locs : List Loc) (ls : Array Slot), f_X0_spread_16 k78 n v0 v1 v2 v3 S = some F → mIv s E S H locs 0 → lv_has ls 6 [(0, .ref (mA E.b v0)), (1, .int v1), (2, .int v2), (3, .int v3)] → W p l e rm_X0_spread s m args below meth c H locs 0 0 (mQv below args s 0 0 n0 E F) (F0 m 16 ls []) := by
  have hx := C.1
  have hb := C.2.1
  intro n
  induction n with
  | zero =>
    intro v0 v1 v2 v3 S H locs ls hF
    exact nomatch (show (none : Option mS) = some F from hF)
  | succ n ih =>
    intro v0 v1 v2 v3 S H locs ls hF hI hl
    have hF := (f_X0_spread_16_s k78 n v0 v1 v2 v3 S).symm.trans hF
    refine lv_iload_n hx hb dX0_spread_16 rfl (lv_at hl 3 rfl) ?_
    refine lv_bipush (v := 25) hx hb dX0_spread_17 (by decide) ?_
    refine m_icmp_ge C (tgt := 78) hF dX0_spread_19 (by decide) (fun hF => ?_) (fun hF => ?_)
    · exact hk78 v0 v1 S _ _ _ hF hI (lv_sub hl [0, 1] rfl)
    · refine lv_aload_n hx hb dX0_spread_22 rfl (lv_at hl 0 rfl) ?_
      refine m_getR C fd_X0_9 hI hF dX0_spread_23 (fun r5 hF => ?_)
      refine lv_bipush (v := 25) hx hb dX0_spread_26 (by decide) ?_
      refine lv_iload_n hx hb dX0_spread_28 rfl (lv_at hl 1 rfl) ?_
      refine lv_imul hx hb dX0_spread_29 ?_
      refine lv_iload_n hx hb dX0_spread_30 rfl (lv_at hl 3 rfl) ?_
      refine lv_iadd hx hb dX0_spread_31 ?_
      refine m_iald C hI hF dX0_spread_32 (fun r6 hF => ?_)
      refine lv_istore (lv' := [(4, .int r6), (0, .ref (mA E.b v0)), (1, .int v1), (2, .int v2), (3, .int v3)]) hx hb dX0_spread_33 hl (by decide) rfl (fun ls hl => ?_)
      refine lv_iconst (v := 0) hx hb dX0_spread_35 (by decide) ?_
      refine lv_istore (lv' := [(5, .int 0), (4, .int r6), (0, .ref (mA E.b v0)), (1, .int v1), (2, .int v2), (3, .int v3)]) hx hb dX0_spread_36 hl (by decide) rfl (fun ls hl => ?_)
      exact (bl_X0_spread_38 C (k72 := (f_X0_spread_72 (f_X0_spread_16 k78 n))) (bl_X0_spread_72 C (k16 := (f_X0_spread_16 k78 n)) ih) 1000) v0 v1 v2 v3 r6 0 S _ _ _ hF hI (lv_sub hl [2, 3, 4, 5, 1, 0] rfl)
set_option maxRecDepth 100000 in
set_option maxHeartbeats 4000000 in
theorem bl_X0_spread_80 {p : Program} {l : Launch} {e : Env} {s : State} {m : MethodId} {args : Array Value} {below : List Frame} {meth : Method} {c : Code} {E : mE} {n0 : Nat} {F : mS} (C : mCx p s m args meth c cX0_spread 6 RX0 none E n0) {k116 : mS → Option mS} (hk116 : ∀ (S : mS) (H : Heap) (locs : List Loc) (ls : Array Slot), k116 S = some F → mIv s E S H locs 0 → lv_has ls 6 [] → W p l e rm_X0_spread s m args below meth c H locs 0 0 (mQv below args s 0 0 n0 E F) (F0 m 116 ls [])) : ∀ (n : Nat)  (v0 : Int32) (v1 : Int32) (v3 : Int32) (S : mS) (H : Heap) (locs : List Loc) (ls : Array Slot), f_X0_spread_80 k116 n v0 v1 v3 S = some F → mIv s E S H locs 0 → lv_has ls 6 [(0, .ref (mA E.b v0)), (1, .int v1), (3, .int v3)] → W p l e rm_X0_spread s m args below meth c H locs 0 0 (mQv below args s 0 0 n0 E F) (F0 m 80 ls []) := by
  have hx := C.1
  have hb := C.2.1
  intro n
  induction n with
  | zero =>
    intro v0 v1 v3 S H locs ls hF
    exact nomatch (show (none : Option mS) = some F from hF)
  | succ n ih =>
    intro v0 v1 v3 S H locs ls hF hI hl
    have hF := (f_X0_spread_80_s k116 n v0 v1 v3 S).symm.trans hF
    refine lv_iload_n hx hb dX0_spread_80 rfl (lv_at hl 2 rfl) ?_
    refine lv_bipush (v := 25) hx hb dX0_spread_81 (by decide) ?_
    refine m_icmp_ge C (tgt := 116) hF dX0_spread_83 (by decide) (fun hF => ?_) (fun hF => ?_)
    · exact hk116 S _ _ _ hF hI (lv_sub hl [] rfl)
    · refine lv_aload_n hx hb dX0_spread_86 rfl (lv_at hl 0 rfl) ?_
      refine m_getR C fd_X0_9 hI hF dX0_spread_87 (fun r11 hF => ?_)
      refine lv_bipush (v := 25) hx hb dX0_spread_90 (by decide) ?_
      refine lv_iload_n hx hb dX0_spread_92 rfl (lv_at hl 1 rfl) ?_
      refine lv_iconst (v := 1) hx hb dX0_spread_93 (by decide) ?_
      refine lv_iadd hx hb dX0_spread_94 ?_
      refine lv_imul hx hb dX0_spread_95 ?_
      refine lv_iload_n hx hb dX0_spread_96 rfl (lv_at hl 2 rfl) ?_
      refine lv_iadd hx hb dX0_spread_97 ?_
      refine lv_aload_n hx hb dX0_spread_98 rfl (lv_at hl 0 rfl) ?_
      refine lv_aload_n hx hb dX0_spread_99 rfl (lv_at hl 0 rfl) ?_
      refine m_getR C fd_X0_15 hI hF dX0_spread_100 (fun r12 hF => ?_)
      refine lv_iload_n hx hb dX0_spread_103 rfl (lv_at hl 2 rfl) ?_
      refine m_iald C hI hF dX0_spread_104 (fun r13 hF => ?_)
      refine lv_iload_n hx hb dX0_spread_105 rfl (lv_at hl 2 rfl) ?_
      refine m_callViR C cd_X0_107 ⟨rfl, by decide⟩ hl.1 hI hF (fun _ h => ok_X0_allGivenWay h) rfl rfl ⟨rfl, rfl, Nat.le_of_ble_eq_true rfl, Nat.le_of_ble_eq_true rfl⟩ ⟨Nat.le_of_ble_eq_true rfl, Nat.le_of_ble_eq_true rfl⟩ (Nat.le_of_ble_eq_true rfl) dX0_spread_106 (fun r14 H locs hF hI => ?_)
      refine m_iast C hI hF dX0_spread_109 (fun S15 H locs hF hI => ?_)
      refine lv_iinc (v := v3 + 1) (lv' := [(3, .int (v3 + 1)), (0, .ref (mA E.b v0)), (1, .int v1)]) hx hb dX0_spread_110 hl (k := 2) rfl rfl (by decide) rfl (fun ls hl => ?_)
      refine lv_goto (tgt := 80) hx hb dX0_spread_113 (by decide) ?_
      exact ih v0 v1 (v3 + 1) S15 _ _ _ hF hI (lv_sub hl [1, 2, 0] rfl)
set_option maxRecDepth 100000 in
set_option maxHeartbeats 4000000 in
theorem bl_X0_spread_116 {p : Program} {l : Launch} {e : Env} {s : State} {m : MethodId} {args : Array Value} {below : List Frame} {meth : Method} {c : Code} {E : mE} {n0 : Nat} {F : mS} (C : mCx p s m args meth c cX0_spread 6 RX0 none E n0) : ∀  (S : mS) (H : Heap) (locs : List Loc) (ls : Array Slot), f_X0_spread_116 S = some F → mIv s E S H locs 0 → lv_has ls 6 [] → W p l e rm_X0_spread s m args below meth c H locs 0 0 (mQv below args s 0 0 n0 E F) (F0 m 116 ls []) := by
  have hx := C.1
  have hb := C.2.1
  intro S H locs ls hF hI hl
  exact m_vret C hI hF dX0_spread_116
set_option maxRecDepth 100000 in
set_option maxHeartbeats 4000000 in
theorem bl_X0_spread_78 {p : Program} {l : Launch} {e : Env} {s : State} {m : MethodId} {args : Array Value} {below : List Frame} {meth : Method} {c : Code} {E : mE} {n0 : Nat} {F : mS} (C : mCx p s m args meth c cX0_spread 6 RX0 none E n0) : ∀  (v0 : Int32) (v1 : Int32) (S : mS) (H : Heap) (locs : List Loc) (ls : Array Slot), f_X0_spread_78 v0 v1 S = some F → mIv s E S H locs 0 → lv_has ls 6 [(0, .ref (mA E.b v0)), (1, .int v1)] → W p l e rm_X0_spread s m args below meth c H locs 0 0 (mQv below args s 0 0 n0 E F) (F0 m 78 ls []) := by
  have hx := C.1
  have hb := C.2.1
  intro v0 v1 S H locs ls hF hI hl
  refine lv_iconst (v := 0) hx hb dX0_spread_78 (by decide) ?_
  refine lv_istore_n (lv' := [(3, .int 0), (0, .ref (mA E.b v0)), (1, .int v1)]) hx hb dX0_spread_79 rfl hl (by decide) rfl (fun ls hl => ?_)
  exact (bl_X0_spread_80 C (k116 := (f_X0_spread_116)) (bl_X0_spread_116 C) 1000) v0 v1 0 S _ _ _ hF hI (lv_sub hl [1, 2, 0] rfl)
set_option maxRecDepth 100000 in
set_option maxHeartbeats 4000000 in
theorem ok_X0_spread {l : Launch} {E : mE} {v0 : Int32} {v1 : Int32} {S : mS} {F : mS} (hF : f_X0_spread v0 v1 S = some F) : mMv l yX0_spread cX0_spread 6 none rm_X0_spread 0 0 [.ref (mA E.b v0), .int v1] E S F := by
  refine m_met_v (by decide) (Nat.le_of_ble_eq_true rfl) (fun p e s m args below meth c ls hin C hI hl => ?_)
  have hx := C.1
  have hb := C.2.1
  have hl : lv_has ls 6 [(0, .ref (mA E.b v0)), (1, .int v1)] := hl
  generalize s.heap = H at hI ⊢
  generalize ([] : List Loc) = locs at hI ⊢
  refine lv_aload_n hx hb dX0_spread_0 rfl (lv_at hl 0 rfl) ?_
  refine lv_iload_n hx hb dX0_spread_1 rfl (lv_at hl 1 rfl) ?_
  refine m_callViR C cd_X0_91 ⟨rfl, by decide⟩ hl.1 hI hF (fun _ h => ok_X0_cellsIn h) rfl rfl ⟨rfl, rfl, Nat.le_of_ble_eq_true rfl, Nat.le_of_ble_eq_true rfl⟩ ⟨Nat.le_of_ble_eq_true rfl, Nat.le_of_ble_eq_true rfl⟩ (Nat.le_of_ble_eq_true rfl) dX0_spread_2 (fun r1 H locs hF hI => ?_)
  refine lv_istore_n (lv' := [(2, .int r1), (0, .ref (mA E.b v0)), (1, .int v1)]) hx hb dX0_spread_5 rfl hl (by decide) rfl (fun ls hl => ?_)
  refine lv_aload_n hx hb dX0_spread_6 rfl (lv_at hl 1 rfl) ?_
  refine m_getR C fd_X0_15 hI hF dX0_spread_7 (fun r2 hF => ?_)
  refine lv_iconst (v := 0) hx hb dX0_spread_10 (by decide) ?_
  refine m_callSv C cd_X0_64 hl.1 hI hF (fun _ h => ok_J7_fill_53178 h) rfl rfl ⟨rfl, rfl, Nat.le_of_ble_eq_true rfl, Nat.le_of_ble_eq_true rfl⟩ ⟨Nat.le_of_ble_eq_true rfl, Nat.le_of_ble_eq_true rfl⟩ (Nat.le_of_ble_eq_true rfl) dX0_spread_11 (fun S4 H locs hF hI => ?_)
  refine lv_iconst (v := 0) hx hb dX0_spread_14 (by decide) ?_
  refine lv_istore_n (lv' := [(3, .int 0), (2, .int r1), (0, .ref (mA E.b v0)), (1, .int v1)]) hx hb dX0_spread_15 rfl hl (by decide) rfl (fun ls hl => ?_)
  exact (bl_X0_spread_16 C (k78 := (f_X0_spread_78)) (bl_X0_spread_78 C) 1000) v0 v1 r1 0 S4 _ _ _ hF hI (lv_sub hl [2, 3, 1, 0] rfl)
noncomputable def f_X0_shortest_16 (S : mS) : Option (Int32 × mS) := some ((-6), S)
noncomputable def f_X0_shortest_127 (k93 : Int32 → Int32 → Int32 → mS → Option (Int32 × mS)) (v0 : Int32) (v4 : Int32) (v5 : Int32) (S : mS) : Option (Int32 × mS) := k93 v0 v4 (v5 + 1) S
noncomputable def f_X0_shortest_93 (k133 : mS → Option (Int32 × mS)) : Nat → Int32 → Int32 → Int32 → mS → Option (Int32 × mS) := fun n => Nat.rec (motive := fun _ => Int32 → Int32 → Int32 → mS → Option (Int32 × mS)) (fun _ _ _ _ => none) (fun _ rec v0 v4 v5 S => if 10 < v5 then (k133 S) else (mRc 0 v0 S (mCp (f_X0_isReached v0 v5 v4 S) (fun r25 => if r25 = 0 then (if 10 ≤ v5 then ((f_X0_shortest_127 rec) v0 v4 v5 S) else (mRc 0 v0 S (mCv (f_X0_spread v0 v5 S) (fun S27 => (f_X0_shortest_127 rec) v0 v4 v5 S27)))) else (some (v5, S)))))) n
theorem f_X0_shortest_93_s (k133 : mS → Option (Int32 × mS)) (n : Nat) (v0 : Int32) (v4 : Int32) (v5 : Int32) (S : mS) : f_X0_shortest_93 k133 (n + 1) v0 v4 v5 S = if 10 < v5 then (k133 S) else (mRc 0 v0 S (mCp (f_X0_isReached v0 v5 v4 S) (fun r25 => if r25 = 0 then (if 10 ≤ v5 then ((f_X0_shortest_127 (f_X0_shortest_93 k133 n)) v0 v4 v5 S) else (mRc 0 v0 S (mCv (f_X0_spread v0 v5 S) (fun S27 => (f_X0_shortest_127 (f_X0_shortest_93 k133 n)) v0 v4 v5 S27)))) else (some (v5, S))))) := rfl
noncomputable def f_X0_shortest_133 (S : mS) : Option (Int32 × mS) := some ((-6), S)
noncomputable def f_X0_shortest (v0 : Int32) (v1 : Int32) (v2 : Int32) (v3 : Int32) (v4 : Int32) (S : mS) : Option (Int32 × mS) := mRc 1 v1 S (mCp (f_X1_hasSheep v1 v2 S) (fun r1 => if r1 = 0 then ((f_X0_shortest_16) S) else (mRc 1 v1 S (mCp (f_X1_hasWhistle v1 v3 S) (fun r2 => if r2 = 0 then ((f_X0_shortest_16) S) else (mGr 1 2 v1 S (fun r3 => mX 8 r3 v2 S (fun r4 => mRc 0 v0 S (mCv (f_X0_learnWays v0 r4 S) (fun S6 => mGr 1 0 v1 S6 (fun r7 => mX 8 r7 v3 S6 (fun r8 => mP 0 4 v0 r8 S6 (fun S9 => mG 1 6 v1 S9 (fun r10 => mP 0 5 v0 r10 S9 (fun S11 => mGr 1 1 v1 S11 (fun r12 => mX 8 r12 v3 S11 (fun r13 => mP 0 6 v0 r13 S11 (fun S14 => mGr 1 3 v1 S14 (fun r15 => mX 8 r15 v2 S14 (fun r16 => mP 0 7 v0 r16 S14 (fun S17 => mGr 0 0 v0 S17 (fun r18 => mCv (f_J7_fill_53178 r18 0 S17) (fun S20 => mGr 0 0 v0 S20 (fun r21 => mG 0 6 v0 S20 (fun r22 => mG 0 7 v0 S20 (fun r23 => mXs r21 r22 (1 <<< (r23 &&& 31)) S20 (fun S24 => (f_X0_shortest_93 (f_X0_shortest_133) 1000) v0 v4 0 S24)))))))))))))))))))))))))))
def rm_X0_shortest : Room := { frames := 4, cells := 0, slots := 0, locals := 82 }
set_option maxRecDepth 100000 in
set_option maxHeartbeats 4000000 in
theorem bl_X0_shortest_16 {p : Program} {l : Launch} {e : Env} {s : State} {m : MethodId} {args : Array Value} {below : List Frame} {meth : Method} {c : Code} {E : mE} {n0 : Nat} {F : Int32 × mS} (C : mCx p s m args meth c cX0_shortest 6 RX0 (some .int) E n0) : ∀  (S : mS) (H : Heap) (locs : List Loc) (ls : Array Slot), f_X0_shortest_16 S = some F → mIv s E S H locs 0 → lv_has ls 6 [] → W p l e rm_X0_shortest s m args below meth c H locs 0 0 (mQi below args s 0 0 n0 E F) (F0 m 16 ls []) := by
  have hx := C.1
  have hb := C.2.1
  intro S H locs ls hF hI hl
  refine lv_bipush (v := (-6)) hx hb dX0_shortest_16 (by decide) ?_
  exact m_ireti C hI hF dX0_shortest_18
set_option maxRecDepth 100000 in
set_option maxHeartbeats 4000000 in
theorem bl_X0_shortest_127 {p : Program} {l : Launch} {e : Env} {s : State} {m : MethodId} {args : Array Value} {below : List Frame} {meth : Method} {c : Code} {E : mE} {n0 : Nat} {F : Int32 × mS} (C : mCx p s m args meth c cX0_shortest 6 RX0 (some .int) E n0) {k93 : Int32 → Int32 → Int32 → mS → Option (Int32 × mS)} (hk93 : ∀ (v0 : Int32) (v4 : Int32) (v5 : Int32) (S : mS) (H : Heap) (locs : List Loc) (ls : Array Slot), k93 v0 v4 v5 S = some F → mIv s E S H locs 0 → lv_has ls 6 [(0, .ref (mA E.b v0)), (4, .int v4), (5, .int v5)] → W p l e rm_X0_shortest s m args below meth c H locs 0 0 (mQi below args s 0 0 n0 E F) (F0 m 93 ls [])) : ∀  (v0 : Int32) (v4 : Int32) (v5 : Int32) (S : mS) (H : Heap) (locs : List Loc) (ls : Array Slot), f_X0_shortest_127 k93 v0 v4 v5 S = some F → mIv s E S H locs 0 → lv_has ls 6 [(0, .ref (mA E.b v0)), (4, .int v4), (5, .int v5)] → W p l e rm_X0_shortest s m args below meth c H locs 0 0 (mQi below args s 0 0 n0 E F) (F0 m 127 ls []) := by
  have hx := C.1
  have hb := C.2.1
  intro v0 v4 v5 S H locs ls hF hI hl
  refine lv_iinc (v := v5 + 1) (lv' := [(5, .int (v5 + 1)), (0, .ref (mA E.b v0)), (4, .int v4)]) hx hb dX0_shortest_127 hl (k := 2) rfl rfl (by decide) rfl (fun ls hl => ?_)
  refine lv_goto (tgt := 93) hx hb dX0_shortest_130 (by decide) ?_
  exact hk93 v0 v4 (v5 + 1) S _ _ _ hF hI (lv_sub hl [1, 2, 0] rfl)
set_option maxRecDepth 100000 in
set_option maxHeartbeats 4000000 in
theorem bl_X0_shortest_93 {p : Program} {l : Launch} {e : Env} {s : State} {m : MethodId} {args : Array Value} {below : List Frame} {meth : Method} {c : Code} {E : mE} {n0 : Nat} {F : Int32 × mS} (C : mCx p s m args meth c cX0_shortest 6 RX0 (some .int) E n0) {k133 : mS → Option (Int32 × mS)} (hk133 : ∀ (S : mS) (H : Heap) (locs : List Loc) (ls : Array Slot), k133 S = some F → mIv s E S H locs 0 → lv_has ls 6 [] → W p l e rm_X0_shortest s m args below meth c H locs 0 0 (mQi below args s 0 0 n0 E F) (F0 m 133 ls [])) : ∀ (n : Nat)  (v0 : Int32) (v4 : Int32) (v5 : Int32) (S : mS) (H : Heap) (locs : List Loc) (ls : Array Slot), f_X0_shortest_93 k133 n v0 v4 v5 S = some F → mIv s E S H locs 0 → lv_has ls 6 [(0, .ref (mA E.b v0)), (4, .int v4), (5, .int v5)] → W p l e rm_X0_shortest s m args below meth c H locs 0 0 (mQi below args s 0 0 n0 E F) (F0 m 93 ls []) := by
  have hx := C.1
  have hb := C.2.1
  intro n
  induction n with
  | zero =>
    intro v0 v4 v5 S H locs ls hF
    exact nomatch (show (none : Option (Int32 × mS)) = some F from hF)
  | succ n ih =>
    intro v0 v4 v5 S H locs ls hF hI hl
    have hF := (f_X0_shortest_93_s k133 n v0 v4 v5 S).symm.trans hF
    refine lv_iload hx hb dX0_shortest_93 (lv_at hl 2 rfl) ?_
    refine lv_bipush (v := 10) hx hb dX0_shortest_95 (by decide) ?_
    refine m_icmp_gt C (tgt := 133) hF dX0_shortest_97 (by decide) (fun hF => ?_) (fun hF => ?_)
    · exact hk133 S _ _ _ hF hI (lv_sub hl [] rfl)
    · refine lv_aload_n hx hb dX0_shortest_100 rfl (lv_at hl 0 rfl) ?_
      refine lv_iload hx hb dX0_shortest_101 (lv_at hl 2 rfl) ?_
      refine lv_iload hx hb dX0_shortest_103 (lv_at hl 1 rfl) ?_
      refine m_callViR C cd_X0_70 ⟨rfl, by decide⟩ hl.1 hI hF (fun _ h => ok_X0_isReached h) rfl rfl ⟨rfl, rfl, Nat.le_of_ble_eq_true rfl, Nat.le_of_ble_eq_true rfl⟩ ⟨Nat.le_of_ble_eq_true rfl, Nat.le_of_ble_eq_true rfl⟩ (Nat.le_of_ble_eq_true rfl) dX0_shortest_105 (fun r25 H locs hF hI => ?_)
      refine m_if_eq C (tgt := 114) hF dX0_shortest_108 (by decide) (fun hF => ?_) (fun hF => ?_)
      · refine lv_iload hx hb dX0_shortest_114 (lv_at hl 2 rfl) ?_
        refine lv_bipush (v := 10) hx hb dX0_shortest_116 (by decide) ?_
        refine m_icmp_ge C (tgt := 127) hF dX0_shortest_118 (by decide) (fun hF => ?_) (fun hF => ?_)
        · exact (bl_X0_shortest_127 C (k93 := (f_X0_shortest_93 k133 n)) ih) v0 v4 v5 S _ _ _ hF hI (lv_sub hl [0, 1, 2] rfl)
        · refine lv_aload_n hx hb dX0_shortest_121 rfl (lv_at hl 0 rfl) ?_
          refine lv_iload hx hb dX0_shortest_122 (lv_at hl 2 rfl) ?_
          refine m_callVv C cd_X0_74 ⟨rfl, by decide⟩ hl.1 hI hF (fun _ h => ok_X0_spread h) rfl rfl ⟨rfl, rfl, Nat.le_of_ble_eq_true rfl, Nat.le_of_ble_eq_true rfl⟩ ⟨Nat.le_of_ble_eq_true rfl, Nat.le_of_ble_eq_true rfl⟩ (Nat.le_of_ble_eq_true rfl) dX0_shortest_124 (fun S27 H locs hF hI => ?_)
          exact (bl_X0_shortest_127 C (k93 := (f_X0_shortest_93 k133 n)) ih) v0 v4 v5 S27 _ _ _ hF hI (lv_sub hl [0, 1, 2] rfl)
      · refine lv_iload hx hb dX0_shortest_111 (lv_at hl 2 rfl) ?_
        exact m_ireti C hI hF dX0_shortest_113
set_option maxRecDepth 100000 in
set_option maxHeartbeats 4000000 in
theorem bl_X0_shortest_133 {p : Program} {l : Launch} {e : Env} {s : State} {m : MethodId} {args : Array Value} {below : List Frame} {meth : Method} {c : Code} {E : mE} {n0 : Nat} {F : Int32 × mS} (C : mCx p s m args meth c cX0_shortest 6 RX0 (some .int) E n0) : ∀  (S : mS) (H : Heap) (locs : List Loc) (ls : Array Slot), f_X0_shortest_133 S = some F → mIv s E S H locs 0 → lv_has ls 6 [] → W p l e rm_X0_shortest s m args below meth c H locs 0 0 (mQi below args s 0 0 n0 E F) (F0 m 133 ls []) := by
  have hx := C.1
  have hb := C.2.1
  intro S H locs ls hF hI hl
  refine lv_bipush (v := (-6)) hx hb dX0_shortest_133 (by decide) ?_
  exact m_ireti C hI hF dX0_shortest_135
set_option maxRecDepth 100000 in
set_option maxHeartbeats 4000000 in
theorem ok_X0_shortest {l : Launch} {E : mE} {v0 : Int32} {v1 : Int32} {v2 : Int32} {v3 : Int32} {v4 : Int32} {S : mS} {F : Int32 × mS} (hF : f_X0_shortest v0 v1 v2 v3 v4 S = some F) : mMi l yX0_shortest cX0_shortest 6 (some .int) rm_X0_shortest 0 0 [.ref (mA E.b v0), .ref (mA E.b v1), .int v2, .int v3, .int v4] E S F := by
  refine m_met_i (by decide) (Nat.le_of_ble_eq_true rfl) (fun p e s m args below meth c ls hin C hI hl => ?_)
  have hx := C.1
  have hb := C.2.1
  have hl : lv_has ls 6 [(0, .ref (mA E.b v0)), (1, .ref (mA E.b v1)), (2, .int v2), (3, .int v3), (4, .int v4)] := hl
  generalize s.heap = H at hI ⊢
  generalize ([] : List Loc) = locs at hI ⊢
  refine lv_aload_n hx hb dX0_shortest_0 rfl (lv_at hl 1 rfl) ?_
  refine lv_iload_n hx hb dX0_shortest_1 rfl (lv_at hl 2 rfl) ?_
  refine m_callViR C cd_X0_25 ⟨rfl, by decide⟩ hl.1 hI hF (fun _ h => ok_X1_hasSheep h) rfl rfl ⟨rfl, rfl, Nat.le_of_ble_eq_true rfl, Nat.le_of_ble_eq_true rfl⟩ ⟨Nat.le_of_ble_eq_true rfl, Nat.le_of_ble_eq_true rfl⟩ (Nat.le_of_ble_eq_true rfl) dX0_shortest_2 (fun r1 H locs hF hI => ?_)
  refine m_if_eq C (tgt := 16) hF dX0_shortest_5 (by decide) (fun hF => ?_) (fun hF => ?_)
  · exact (bl_X0_shortest_16 C) S _ _ _ hF hI (lv_sub hl [] rfl)
  · refine lv_aload_n hx hb dX0_shortest_8 rfl (lv_at hl 1 rfl) ?_
    refine lv_iload_n hx hb dX0_shortest_9 rfl (lv_at hl 3 rfl) ?_
    refine m_callViR C cd_X0_31 ⟨rfl, by decide⟩ hl.1 hI hF (fun _ h => ok_X1_hasWhistle h) rfl rfl ⟨rfl, rfl, Nat.le_of_ble_eq_true rfl, Nat.le_of_ble_eq_true rfl⟩ ⟨Nat.le_of_ble_eq_true rfl, Nat.le_of_ble_eq_true rfl⟩ (Nat.le_of_ble_eq_true rfl) dX0_shortest_10 (fun r2 H locs hF hI => ?_)
    refine m_if_ne C (tgt := 19) hF dX0_shortest_13 (by decide) (fun hF => ?_) (fun hF => ?_)
    · refine lv_aload_n hx hb dX0_shortest_19 rfl (lv_at hl 0 rfl) ?_
      refine lv_aload_n hx hb dX0_shortest_20 rfl (lv_at hl 1 rfl) ?_
      refine m_getR C fd_X0_34 hI hF dX0_shortest_21 (fun r3 hF => ?_)
      refine lv_iload_n hx hb dX0_shortest_24 rfl (lv_at hl 2 rfl) ?_
      refine m_iald C hI hF dX0_shortest_25 (fun r4 hF => ?_)
      refine m_callVv C cd_X0_37 ⟨rfl, by decide⟩ hl.1 hI hF (fun _ h => ok_X0_learnWays h) rfl rfl ⟨rfl, rfl, Nat.le_of_ble_eq_true rfl, Nat.le_of_ble_eq_true rfl⟩ ⟨Nat.le_of_ble_eq_true rfl, Nat.le_of_ble_eq_true rfl⟩ (Nat.le_of_ble_eq_true rfl) dX0_shortest_26 (fun S6 H locs hF hI => ?_)
      refine lv_aload_n hx hb dX0_shortest_29 rfl (lv_at hl 0 rfl) ?_
      refine lv_aload_n hx hb dX0_shortest_30 rfl (lv_at hl 1 rfl) ?_
      refine m_getR C fd_X0_41 hI hF dX0_shortest_31 (fun r7 hF => ?_)
      refine lv_iload_n hx hb dX0_shortest_34 rfl (lv_at hl 3 rfl) ?_
      refine m_iald C hI hF dX0_shortest_35 (fun r8 hF => ?_)
      refine m_put C fd_X0_44 hI hF dX0_shortest_36 (fun S9 H locs hF hI => ?_)
      refine lv_aload_n hx hb dX0_shortest_39 rfl (lv_at hl 0 rfl) ?_
      refine lv_aload_n hx hb dX0_shortest_40 rfl (lv_at hl 1 rfl) ?_
      refine m_get C fd_X0_46 hI hF dX0_shortest_41 (fun r10 hF => ?_)
      refine m_put C fd_X0_49 hI hF dX0_shortest_44 (fun S11 H locs hF hI => ?_)
      refine lv_aload_n hx hb dX0_shortest_47 rfl (lv_at hl 0 rfl) ?_
      refine lv_aload_n hx hb dX0_shortest_48 rfl (lv_at hl 1 rfl) ?_
      refine m_getR C fd_X0_52 hI hF dX0_shortest_49 (fun r12 hF => ?_)
      refine lv_iload_n hx hb dX0_shortest_52 rfl (lv_at hl 3 rfl) ?_
      refine m_iald C hI hF dX0_shortest_53 (fun r13 hF => ?_)
      refine m_put C fd_X0_55 hI hF dX0_shortest_54 (fun S14 H locs hF hI => ?_)
      refine lv_aload_n hx hb dX0_shortest_57 rfl (lv_at hl 0 rfl) ?_
      refine lv_aload_n hx hb dX0_shortest_58 rfl (lv_at hl 1 rfl) ?_
      refine m_getR C fd_X0_58 hI hF dX0_shortest_59 (fun r15 hF => ?_)
      refine lv_iload_n hx hb dX0_shortest_62 rfl (lv_at hl 2 rfl) ?_
      refine m_iald C hI hF dX0_shortest_63 (fun r16 hF => ?_)
      refine m_put C fd_X0_61 hI hF dX0_shortest_64 (fun S17 H locs hF hI => ?_)
      refine lv_aload_n hx hb dX0_shortest_67 rfl (lv_at hl 0 rfl) ?_
      refine m_getR C fd_X0_9 hI hF dX0_shortest_68 (fun r18 hF => ?_)
      refine lv_iconst (v := 0) hx hb dX0_shortest_71 (by decide) ?_
      refine m_callSv C cd_X0_64 hl.1 hI hF (fun _ h => ok_J7_fill_53178 h) rfl rfl ⟨rfl, rfl, Nat.le_of_ble_eq_true rfl, Nat.le_of_ble_eq_true rfl⟩ ⟨Nat.le_of_ble_eq_true rfl, Nat.le_of_ble_eq_true rfl⟩ (Nat.le_of_ble_eq_true rfl) dX0_shortest_72 (fun S20 H locs hF hI => ?_)
      refine lv_aload_n hx hb dX0_shortest_75 rfl (lv_at hl 0 rfl) ?_
      refine m_getR C fd_X0_9 hI hF dX0_shortest_76 (fun r21 hF => ?_)
      refine lv_aload_n hx hb dX0_shortest_79 rfl (lv_at hl 0 rfl) ?_
      refine m_get C fd_X0_55 hI hF dX0_shortest_80 (fun r22 hF => ?_)
      refine lv_iconst (v := 1) hx hb dX0_shortest_83 (by decide) ?_
      refine lv_aload_n hx hb dX0_shortest_84 rfl (lv_at hl 0 rfl) ?_
      refine m_get C fd_X0_61 hI hF dX0_shortest_85 (fun r23 hF => ?_)
      refine lv_ishl hx hb dX0_shortest_88 ?_
      refine m_iast C hI hF dX0_shortest_89 (fun S24 H locs hF hI => ?_)
      refine lv_iconst (v := 0) hx hb dX0_shortest_90 (by decide) ?_
      refine lv_istore (lv' := [(5, .int 0), (0, .ref (mA E.b v0)), (1, .ref (mA E.b v1)), (2, .int v2), (3, .int v3), (4, .int v4)]) hx hb dX0_shortest_91 hl (by decide) rfl (fun ls hl => ?_)
      exact (bl_X0_shortest_93 C (k133 := (f_X0_shortest_133)) (bl_X0_shortest_133 C) 1000) v0 v4 0 S24 _ _ _ hF hI (lv_sub hl [1, 5, 0] rfl)
    · exact (bl_X0_shortest_16 C) S _ _ _ hF hI (lv_sub hl [] rfl)
noncomputable def f_X0_allThatComeTo_42 (k5 : Int32 → Int32 → Int32 → Int32 → Int32 → Option Int32) (S : mS) (v0 : Int32) (v1 : Int32) (v2 : Int32) (v3 : Int32) (v4 : Int32) : Option Int32 := k5 v0 v1 v2 v3 (v4 + 1)
noncomputable def f_X0_allThatComeTo_5 (k48 : Int32 → Option Int32) (S : mS) : Nat → Int32 → Int32 → Int32 → Int32 → Int32 → Option Int32 := fun n => Nat.rec (motive := fun _ => Int32 → Int32 → Int32 → Int32 → Int32 → Option Int32) (fun _ _ _ _ _ => none) (fun _ rec v0 v1 v2 v3 v4 => if v1 = 0 then (k48 v3) else (if 25 ≤ v4 then (k48 v3) else (mGr 0 2 v0 S (fun r1 => mX 8 r1 ((25 * v2) + v4) S (fun r2 => mCp (f_X6_hasBit v1 r2) (fun r3 => if r3 = 0 then ((f_X0_allThatComeTo_42 rec S) v0 v1 v2 v3 v4) else ((f_X0_allThatComeTo_42 rec S) v0 v1 v2 (v3 ||| (1 <<< (v4 &&& 31))) v4))))))) n
theorem f_X0_allThatComeTo_5_s (k48 : Int32 → Option Int32) (S : mS) (n : Nat) (v0 : Int32) (v1 : Int32) (v2 : Int32) (v3 : Int32) (v4 : Int32) : f_X0_allThatComeTo_5 k48 S (n + 1) v0 v1 v2 v3 v4 = if v1 = 0 then (k48 v3) else (if 25 ≤ v4 then (k48 v3) else (mGr 0 2 v0 S (fun r1 => mX 8 r1 ((25 * v2) + v4) S (fun r2 => mCp (f_X6_hasBit v1 r2) (fun r3 => if r3 = 0 then ((f_X0_allThatComeTo_42 (f_X0_allThatComeTo_5 k48 S n) S) v0 v1 v2 v3 v4) else ((f_X0_allThatComeTo_42 (f_X0_allThatComeTo_5 k48 S n) S) v0 v1 v2 (v3 ||| (1 <<< (v4 &&& 31))) v4)))))) := rfl
noncomputable def f_X0_allThatComeTo_48 (S : mS) (v3 : Int32) : Option Int32 := some v3
noncomputable def f_X0_allThatComeTo (v0 : Int32) (v1 : Int32) (v2 : Int32) (S : mS) : Option Int32 := (f_X0_allThatComeTo_5 (f_X0_allThatComeTo_48 S) S 1000) v0 v1 v2 0 0
def rm_X0_allThatComeTo : Room := { frames := 1, cells := 0, slots := 0, locals := 21 }
set_option maxRecDepth 100000 in
set_option maxHeartbeats 4000000 in
theorem bl_X0_allThatComeTo_42 {p : Program} {l : Launch} {e : Env} {s : State} {m : MethodId} {args : Array Value} {below : List Frame} {meth : Method} {c : Code} {E : mE} {n0 : Nat} {r : Int32} {S : mS} (C : mCx p s m args meth c cX0_allThatComeTo 5 RX0 (some .int) E n0) {k5 : Int32 → Int32 → Int32 → Int32 → Int32 → Option Int32} (hk5 : ∀ (v0 : Int32) (v1 : Int32) (v2 : Int32) (v3 : Int32) (v4 : Int32) (H : Heap) (locs : List Loc) (ls : Array Slot), k5 v0 v1 v2 v3 v4 = some r → mIv s E S H locs 0 → lv_has ls 5 [(0, .ref (mA E.b v0)), (1, .int v1), (2, .int v2), (3, .int v3), (4, .int v4)] → W p l e rm_X0_allThatComeTo s m args below meth c H locs 0 0 (mQi below args s 0 0 n0 E (r, S)) (F0 m 5 ls [])) : ∀  (v0 : Int32) (v1 : Int32) (v2 : Int32) (v3 : Int32) (v4 : Int32) (H : Heap) (locs : List Loc) (ls : Array Slot), f_X0_allThatComeTo_42 k5 S v0 v1 v2 v3 v4 = some r → mIv s E S H locs 0 → lv_has ls 5 [(0, .ref (mA E.b v0)), (1, .int v1), (2, .int v2), (3, .int v3), (4, .int v4)] → W p l e rm_X0_allThatComeTo s m args below meth c H locs 0 0 (mQi below args s 0 0 n0 E (r, S)) (F0 m 42 ls []) := by
  have hx := C.1
  have hb := C.2.1
  intro v0 v1 v2 v3 v4 H locs ls hF hI hl
  refine lv_iinc (v := v4 + 1) (lv' := [(4, .int (v4 + 1)), (0, .ref (mA E.b v0)), (1, .int v1), (2, .int v2), (3, .int v3)]) hx hb dX0_allThatComeTo_42 hl (k := 4) rfl rfl (by decide) rfl (fun ls hl => ?_)
  refine lv_goto (tgt := 5) hx hb dX0_allThatComeTo_45 (by decide) ?_
  exact hk5 v0 v1 v2 v3 (v4 + 1) _ _ _ hF hI (lv_sub hl [1, 2, 3, 4, 0] rfl)
set_option maxRecDepth 100000 in
set_option maxHeartbeats 4000000 in
theorem bl_X0_allThatComeTo_5 {p : Program} {l : Launch} {e : Env} {s : State} {m : MethodId} {args : Array Value} {below : List Frame} {meth : Method} {c : Code} {E : mE} {n0 : Nat} {r : Int32} {S : mS} (C : mCx p s m args meth c cX0_allThatComeTo 5 RX0 (some .int) E n0) {k48 : Int32 → Option Int32} (hk48 : ∀ (v3 : Int32) (H : Heap) (locs : List Loc) (ls : Array Slot), k48 v3 = some r → mIv s E S H locs 0 → lv_has ls 5 [(3, .int v3)] → W p l e rm_X0_allThatComeTo s m args below meth c H locs 0 0 (mQi below args s 0 0 n0 E (r, S)) (F0 m 48 ls [])) : ∀ (n : Nat)  (v0 : Int32) (v1 : Int32) (v2 : Int32) (v3 : Int32) (v4 : Int32) (H : Heap) (locs : List Loc) (ls : Array Slot), f_X0_allThatComeTo_5 k48 S n v0 v1 v2 v3 v4 = some r → mIv s E S H locs 0 → lv_has ls 5 [(0, .ref (mA E.b v0)), (1, .int v1), (2, .int v2), (3, .int v3), (4, .int v4)] → W p l e rm_X0_allThatComeTo s m args below meth c H locs 0 0 (mQi below args s 0 0 n0 E (r, S)) (F0 m 5 ls []) := by
  have hx := C.1
  have hb := C.2.1
  intro n
  induction n with
  | zero =>
    intro v0 v1 v2 v3 v4 H locs ls hF
    exact nomatch (show (none : Option Int32) = some r from hF)
  | succ n ih =>
    intro v0 v1 v2 v3 v4 H locs ls hF hI hl
    have hF := (f_X0_allThatComeTo_5_s k48 S n v0 v1 v2 v3 v4).symm.trans hF
    refine lv_iload_n hx hb dX0_allThatComeTo_5 rfl (lv_at hl 1 rfl) ?_
    refine m_if_eq C (tgt := 48) hF dX0_allThatComeTo_6 (by decide) (fun hF => ?_) (fun hF => ?_)
    · exact hk48 v3 _ _ _ hF hI (lv_sub hl [3] rfl)
    · refine lv_iload hx hb dX0_allThatComeTo_9 (lv_at hl 4 rfl) ?_
      refine lv_bipush (v := 25) hx hb dX0_allThatComeTo_11 (by decide) ?_
      refine m_icmp_ge C (tgt := 48) hF dX0_allThatComeTo_13 (by decide) (fun hF => ?_) (fun hF => ?_)
      · exact hk48 v3 _ _ _ hF hI (lv_sub hl [3] rfl)
      · refine lv_iload_n hx hb dX0_allThatComeTo_16 rfl (lv_at hl 1 rfl) ?_
        refine lv_aload_n hx hb dX0_allThatComeTo_17 rfl (lv_at hl 0 rfl) ?_
        refine m_getR C fd_X0_18 hI hF dX0_allThatComeTo_18 (fun r1 hF => ?_)
        refine lv_bipush (v := 25) hx hb dX0_allThatComeTo_21 (by decide) ?_
        refine lv_iload_n hx hb dX0_allThatComeTo_23 rfl (lv_at hl 2 rfl) ?_
        refine lv_imul hx hb dX0_allThatComeTo_24 ?_
        refine lv_iload hx hb dX0_allThatComeTo_25 (lv_at hl 4 rfl) ?_
        refine lv_iadd hx hb dX0_allThatComeTo_27 ?_
        refine m_iald C hI hF dX0_allThatComeTo_28 (fun r2 hF => ?_)
        refine m_callNiR C cd_X0_98 hl.1 hI hF (fun _ h => ok_X6_hasBit h) rfl rfl ⟨rfl, rfl, Nat.le_of_ble_eq_true rfl, Nat.le_of_ble_eq_true rfl⟩ ⟨Nat.le_of_ble_eq_true rfl, Nat.le_of_ble_eq_true rfl⟩ (Nat.le_of_ble_eq_true rfl) dX0_allThatComeTo_29 (fun r3 H locs hF hI => ?_)
        refine m_if_eq C (tgt := 42) hF dX0_allThatComeTo_32 (by decide) (fun hF => ?_) (fun hF => ?_)
        · exact (bl_X0_allThatComeTo_42 C (k5 := (f_X0_allThatComeTo_5 k48 S n)) ih) v0 v1 v2 v3 v4 _ _ _ hF hI (lv_sub hl [0, 1, 2, 3, 4] rfl)
        · refine lv_iload_n hx hb dX0_allThatComeTo_35 rfl (lv_at hl 3 rfl) ?_
          refine lv_iconst (v := 1) hx hb dX0_allThatComeTo_36 (by decide) ?_
          refine lv_iload hx hb dX0_allThatComeTo_37 (lv_at hl 4 rfl) ?_
          refine lv_ishl hx hb dX0_allThatComeTo_39 ?_
          refine lv_ior hx hb dX0_allThatComeTo_40 ?_
          refine lv_istore_n (lv' := [(3, .int (v3 ||| (1 <<< (v4 &&& 31)))), (0, .ref (mA E.b v0)), (1, .int v1), (2, .int v2), (4, .int v4)]) hx hb dX0_allThatComeTo_41 rfl hl (by decide) rfl (fun ls hl => ?_)
          exact (bl_X0_allThatComeTo_42 C (k5 := (f_X0_allThatComeTo_5 k48 S n)) ih) v0 v1 v2 (v3 ||| (1 <<< (v4 &&& 31))) v4 _ _ _ hF hI (lv_sub hl [1, 2, 3, 0, 4] rfl)
set_option maxRecDepth 100000 in
set_option maxHeartbeats 4000000 in
theorem bl_X0_allThatComeTo_48 {p : Program} {l : Launch} {e : Env} {s : State} {m : MethodId} {args : Array Value} {below : List Frame} {meth : Method} {c : Code} {E : mE} {n0 : Nat} {r : Int32} {S : mS} (C : mCx p s m args meth c cX0_allThatComeTo 5 RX0 (some .int) E n0) : ∀  (v3 : Int32) (H : Heap) (locs : List Loc) (ls : Array Slot), f_X0_allThatComeTo_48 S v3 = some r → mIv s E S H locs 0 → lv_has ls 5 [(3, .int v3)] → W p l e rm_X0_allThatComeTo s m args below meth c H locs 0 0 (mQi below args s 0 0 n0 E (r, S)) (F0 m 48 ls []) := by
  have hx := C.1
  have hb := C.2.1
  intro v3 H locs ls hF hI hl
  refine lv_iload_n hx hb dX0_allThatComeTo_48 rfl (lv_at hl 0 rfl) ?_
  exact m_iretiR C hI hF dX0_allThatComeTo_49
set_option maxRecDepth 100000 in
set_option maxHeartbeats 4000000 in
theorem ok_X0_allThatComeTo {l : Launch} {E : mE} {v0 : Int32} {v1 : Int32} {v2 : Int32} {S : mS} {r : Int32} (hF : f_X0_allThatComeTo v0 v1 v2 S = some r) : mMi l yX0_allThatComeTo cX0_allThatComeTo 5 (some .int) rm_X0_allThatComeTo 0 0 [.ref (mA E.b v0), .int v1, .int v2] E S (r, S) := by
  refine m_met_i (by decide) (Nat.le_of_ble_eq_true rfl) (fun p e s m args below meth c ls hin C hI hl => ?_)
  have hx := C.1
  have hb := C.2.1
  have hl : lv_has ls 5 [(0, .ref (mA E.b v0)), (1, .int v1), (2, .int v2)] := hl
  generalize s.heap = H at hI ⊢
  generalize ([] : List Loc) = locs at hI ⊢
  refine lv_iconst (v := 0) hx hb dX0_allThatComeTo_0 (by decide) ?_
  refine lv_istore_n (lv' := [(3, .int 0), (0, .ref (mA E.b v0)), (1, .int v1), (2, .int v2)]) hx hb dX0_allThatComeTo_1 rfl hl (by decide) rfl (fun ls hl => ?_)
  refine lv_iconst (v := 0) hx hb dX0_allThatComeTo_2 (by decide) ?_
  refine lv_istore (lv' := [(4, .int 0), (3, .int 0), (0, .ref (mA E.b v0)), (1, .int v1), (2, .int v2)]) hx hb dX0_allThatComeTo_3 hl (by decide) rfl (fun ls hl => ?_)
  exact (bl_X0_allThatComeTo_5 C (k48 := (f_X0_allThatComeTo_48 S)) (bl_X0_allThatComeTo_48 C) 1000) v0 v1 v2 0 0 _ _ _ hF hI (lv_sub hl [2, 3, 4, 1, 0] rfl)
noncomputable def f_X0_joinedAround_5 (k32 : Int32 → Option Int32) (S : mS) : Nat → Int32 → Int32 → Int32 → Int32 → Int32 → Option Int32 := fun n => Nat.rec (motive := fun _ => Int32 → Int32 → Int32 → Int32 → Int32 → Option Int32) (fun _ _ _ _ _ => none) (fun _ rec v0 v1 v2 v3 v4 => if 5 ≤ v4 then (k32 v3) else (mGr 0 1 v0 S (fun r1 => mCp (f_X6_moved v1 v4 v2) (fun r2 => mX 8 r1 r2 S (fun r3 => rec v0 v1 v2 (v3 ||| r3) (v4 + 1)))))) n
theorem f_X0_joinedAround_5_s (k32 : Int32 → Option Int32) (S : mS) (n : Nat) (v0 : Int32) (v1 : Int32) (v2 : Int32) (v3 : Int32) (v4 : Int32) : f_X0_joinedAround_5 k32 S (n + 1) v0 v1 v2 v3 v4 = if 5 ≤ v4 then (k32 v3) else (mGr 0 1 v0 S (fun r1 => mCp (f_X6_moved v1 v4 v2) (fun r2 => mX 8 r1 r2 S (fun r3 => (f_X0_joinedAround_5 k32 S n) v0 v1 v2 (v3 ||| r3) (v4 + 1))))) := rfl
noncomputable def f_X0_joinedAround_32 (S : mS) (v3 : Int32) : Option Int32 := some v3
noncomputable def f_X0_joinedAround (v0 : Int32) (v1 : Int32) (v2 : Int32) (S : mS) : Option Int32 := (f_X0_joinedAround_5 (f_X0_joinedAround_32 S) S 1000) v0 v1 v2 0 0
def rm_X0_joinedAround : Room := { frames := 2, cells := 0, slots := 0, locals := 37 }
set_option maxRecDepth 100000 in
set_option maxHeartbeats 4000000 in
theorem bl_X0_joinedAround_5 {p : Program} {l : Launch} {e : Env} {s : State} {m : MethodId} {args : Array Value} {below : List Frame} {meth : Method} {c : Code} {E : mE} {n0 : Nat} {r : Int32} {S : mS} (C : mCx p s m args meth c cX0_joinedAround 5 RX0 (some .int) E n0) {k32 : Int32 → Option Int32} (hk32 : ∀ (v3 : Int32) (H : Heap) (locs : List Loc) (ls : Array Slot), k32 v3 = some r → mIv s E S H locs 0 → lv_has ls 5 [(3, .int v3)] → W p l e rm_X0_joinedAround s m args below meth c H locs 0 0 (mQi below args s 0 0 n0 E (r, S)) (F0 m 32 ls [])) : ∀ (n : Nat)  (v0 : Int32) (v1 : Int32) (v2 : Int32) (v3 : Int32) (v4 : Int32) (H : Heap) (locs : List Loc) (ls : Array Slot), f_X0_joinedAround_5 k32 S n v0 v1 v2 v3 v4 = some r → mIv s E S H locs 0 → lv_has ls 5 [(0, .ref (mA E.b v0)), (1, .int v1), (2, .int v2), (3, .int v3), (4, .int v4)] → W p l e rm_X0_joinedAround s m args below meth c H locs 0 0 (mQi below args s 0 0 n0 E (r, S)) (F0 m 5 ls []) := by
  have hx := C.1
  have hb := C.2.1
  intro n
  induction n with
  | zero =>
    intro v0 v1 v2 v3 v4 H locs ls hF
    exact nomatch (show (none : Option Int32) = some r from hF)
  | succ n ih =>
    intro v0 v1 v2 v3 v4 H locs ls hF hI hl
    have hF := (f_X0_joinedAround_5_s k32 S n v0 v1 v2 v3 v4).symm.trans hF
    refine lv_iload hx hb dX0_joinedAround_5 (lv_at hl 4 rfl) ?_
    refine lv_iconst (v := 5) hx hb dX0_joinedAround_7 (by decide) ?_
    refine m_icmp_ge C (tgt := 32) hF dX0_joinedAround_8 (by decide) (fun hF => ?_) (fun hF => ?_)
    · exact hk32 v3 _ _ _ hF hI (lv_sub hl [3] rfl)
    · refine lv_iload_n hx hb dX0_joinedAround_11 rfl (lv_at hl 3 rfl) ?_
      refine lv_aload_n hx hb dX0_joinedAround_12 rfl (lv_at hl 0 rfl) ?_
      refine m_getR C fd_X0_15 hI hF dX0_joinedAround_13 (fun r1 hF => ?_)
      refine lv_iload_n hx hb dX0_joinedAround_16 rfl (lv_at hl 1 rfl) ?_
      refine lv_iload hx hb dX0_joinedAround_17 (lv_at hl 4 rfl) ?_
      refine lv_iload_n hx hb dX0_joinedAround_19 rfl (lv_at hl 2 rfl) ?_
      refine m_callNiR C cd_X0_95 hl.1 hI hF (fun _ h => ok_X6_moved h) rfl rfl ⟨rfl, rfl, Nat.le_of_ble_eq_true rfl, Nat.le_of_ble_eq_true rfl⟩ ⟨Nat.le_of_ble_eq_true rfl, Nat.le_of_ble_eq_true rfl⟩ (Nat.le_of_ble_eq_true rfl) dX0_joinedAround_20 (fun r2 H locs hF hI => ?_)
      refine m_iald C hI hF dX0_joinedAround_23 (fun r3 hF => ?_)
      refine lv_ior hx hb dX0_joinedAround_24 ?_
      refine lv_istore_n (lv' := [(3, .int (v3 ||| r3)), (0, .ref (mA E.b v0)), (1, .int v1), (2, .int v2), (4, .int v4)]) hx hb dX0_joinedAround_25 rfl hl (by decide) rfl (fun ls hl => ?_)
      refine lv_iinc (v := v4 + 1) (lv' := [(4, .int (v4 + 1)), (3, .int (v3 ||| r3)), (0, .ref (mA E.b v0)), (1, .int v1), (2, .int v2)]) hx hb dX0_joinedAround_26 hl (k := 4) rfl rfl (by decide) rfl (fun ls hl => ?_)
      refine lv_goto (tgt := 5) hx hb dX0_joinedAround_29 (by decide) ?_
      exact ih v0 v1 v2 (v3 ||| r3) (v4 + 1) _ _ _ hF hI (lv_sub hl [2, 3, 4, 1, 0] rfl)
set_option maxRecDepth 100000 in
set_option maxHeartbeats 4000000 in
theorem bl_X0_joinedAround_32 {p : Program} {l : Launch} {e : Env} {s : State} {m : MethodId} {args : Array Value} {below : List Frame} {meth : Method} {c : Code} {E : mE} {n0 : Nat} {r : Int32} {S : mS} (C : mCx p s m args meth c cX0_joinedAround 5 RX0 (some .int) E n0) : ∀  (v3 : Int32) (H : Heap) (locs : List Loc) (ls : Array Slot), f_X0_joinedAround_32 S v3 = some r → mIv s E S H locs 0 → lv_has ls 5 [(3, .int v3)] → W p l e rm_X0_joinedAround s m args below meth c H locs 0 0 (mQi below args s 0 0 n0 E (r, S)) (F0 m 32 ls []) := by
  have hx := C.1
  have hb := C.2.1
  intro v3 H locs ls hF hI hl
  refine lv_iload_n hx hb dX0_joinedAround_32 rfl (lv_at hl 0 rfl) ?_
  exact m_iretiR C hI hF dX0_joinedAround_33
set_option maxRecDepth 100000 in
set_option maxHeartbeats 4000000 in
theorem ok_X0_joinedAround {l : Launch} {E : mE} {v0 : Int32} {v1 : Int32} {v2 : Int32} {S : mS} {r : Int32} (hF : f_X0_joinedAround v0 v1 v2 S = some r) : mMi l yX0_joinedAround cX0_joinedAround 5 (some .int) rm_X0_joinedAround 0 0 [.ref (mA E.b v0), .int v1, .int v2] E S (r, S) := by
  refine m_met_i (by decide) (Nat.le_of_ble_eq_true rfl) (fun p e s m args below meth c ls hin C hI hl => ?_)
  have hx := C.1
  have hb := C.2.1
  have hl : lv_has ls 5 [(0, .ref (mA E.b v0)), (1, .int v1), (2, .int v2)] := hl
  generalize s.heap = H at hI ⊢
  generalize ([] : List Loc) = locs at hI ⊢
  refine lv_iconst (v := 0) hx hb dX0_joinedAround_0 (by decide) ?_
  refine lv_istore_n (lv' := [(3, .int 0), (0, .ref (mA E.b v0)), (1, .int v1), (2, .int v2)]) hx hb dX0_joinedAround_1 rfl hl (by decide) rfl (fun ls hl => ?_)
  refine lv_iconst (v := 0) hx hb dX0_joinedAround_2 (by decide) ?_
  refine lv_istore (lv' := [(4, .int 0), (3, .int 0), (0, .ref (mA E.b v0)), (1, .int v1), (2, .int v2)]) hx hb dX0_joinedAround_3 hl (by decide) rfl (fun ls hl => ?_)
  exact (bl_X0_joinedAround_5 C (k32 := (f_X0_joinedAround_32 S)) (bl_X0_joinedAround_32 C) 1000) v0 v1 v2 0 0 _ _ _ hF hI (lv_sub hl [2, 3, 4, 1, 0] rfl)
noncomputable def f_X0_keepThoseThatArrive_2 (k31 : Int32 → Int32 → mS → Option mS) : Nat → Int32 → Int32 → Int32 → Int32 → mS → Option mS := fun n => Nat.rec (motive := fun _ => Int32 → Int32 → Int32 → Int32 → mS → Option mS) (fun _ _ _ _ _ => none) (fun _ rec v0 v1 v2 v3 S => if 25 ≤ v3 then (k31 v0 v1 S) else (mGr 0 0 v0 S (fun r1 => mX 8 r1 ((25 * v1) + v3) S (fun r2 => mXs r1 ((25 * v1) + v3) (r2 &&& (1 <<< (v2 &&& 31))) S (fun S3 => rec v0 v1 v2 (v3 + 1) S3))))) n
theorem f_X0_keepThoseThatArrive_2_s (k31 : Int32 → Int32 → mS → Option mS) (n : Nat) (v0 : Int32) (v1 : Int32) (v2 : Int32) (v3 : Int32) (S : mS) : f_X0_keepThoseThatArrive_2 k31 (n + 1) v0 v1 v2 v3 S = if 25 ≤ v3 then (k31 v0 v1 S) else (mGr 0 0 v0 S (fun r1 => mX 8 r1 ((25 * v1) + v3) S (fun r2 => mXs r1 ((25 * v1) + v3) (r2 &&& (1 <<< (v2 &&& 31))) S (fun S3 => (f_X0_keepThoseThatArrive_2 k31 n) v0 v1 v2 (v3 + 1) S3)))) := rfl
noncomputable def f_X0_keepThoseThatArrive_42 (k82 : Int32 → Int32 → mS → Option mS) : Nat → Int32 → Int32 → Int32 → mS → Option mS := fun n => Nat.rec (motive := fun _ => Int32 → Int32 → Int32 → mS → Option mS) (fun _ _ _ _ => none) (fun _ rec v0 v3 v4 S => if 25 ≤ v4 then (k82 v0 v3 S) else (mGr 0 1 v0 S (fun r4 => mGr 0 0 v0 S (fun r5 => mX 8 r5 ((25 * (v3 + 1)) + v4) S (fun r6 => mRc 0 v0 S (mCp (f_X0_allThatComeTo v0 r6 v4 S) (fun r7 => mXs r4 v4 r7 S (fun S8 => rec v0 v3 (v4 + 1) S8)))))))) n
theorem f_X0_keepThoseThatArrive_42_s (k82 : Int32 → Int32 → mS → Option mS) (n : Nat) (v0 : Int32) (v3 : Int32) (v4 : Int32) (S : mS) : f_X0_keepThoseThatArrive_42 k82 (n + 1) v0 v3 v4 S = if 25 ≤ v4 then (k82 v0 v3 S) else (mGr 0 1 v0 S (fun r4 => mGr 0 0 v0 S (fun r5 => mX 8 r5 ((25 * (v3 + 1)) + v4) S (fun r6 => mRc 0 v0 S (mCp (f_X0_allThatComeTo v0 r6 v4 S) (fun r7 => mXs r4 v4 r7 S (fun S8 => (f_X0_keepThoseThatArrive_42 k82 n) v0 v3 (v4 + 1) S8))))))) := rfl
noncomputable def f_X0_keepThoseThatArrive_85 (k124 : Int32 → Int32 → mS → Option mS) : Nat → Int32 → Int32 → Int32 → mS → Option mS := fun n => Nat.rec (motive := fun _ => Int32 → Int32 → Int32 → mS → Option mS) (fun _ _ _ _ => none) (fun _ rec v0 v3 v4 S => if 25 ≤ v4 then (k124 v0 v3 S) else (mGr 0 0 v0 S (fun r9 => mX 8 r9 ((25 * v3) + v4) S (fun r10 => mRc 0 v0 S (mCp (f_X0_cellsIn v0 v3 S) (fun r11 => mRc 0 v0 S (mCp (f_X0_joinedAround v0 v4 r11 S) (fun r12 => mXs r9 ((25 * v3) + v4) (r10 &&& r12) S (fun S13 => rec v0 v3 (v4 + 1) S13))))))))) n
theorem f_X0_keepThoseThatArrive_85_s (k124 : Int32 → Int32 → mS → Option mS) (n : Nat) (v0 : Int32) (v3 : Int32) (v4 : Int32) (S : mS) : f_X0_keepThoseThatArrive_85 k124 (n + 1) v0 v3 v4 S = if 25 ≤ v4 then (k124 v0 v3 S) else (mGr 0 0 v0 S (fun r9 => mX 8 r9 ((25 * v3) + v4) S (fun r10 => mRc 0 v0 S (mCp (f_X0_cellsIn v0 v3 S) (fun r11 => mRc 0 v0 S (mCp (f_X0_joinedAround v0 v4 r11 S) (fun r12 => mXs r9 ((25 * v3) + v4) (r10 &&& r12) S (fun S13 => (f_X0_keepThoseThatArrive_85 k124 n) v0 v3 (v4 + 1) S13)))))))) := rfl
noncomputable def f_X0_keepThoseThatArrive_124 (k35 : Int32 → Int32 → mS → Option mS) (v0 : Int32) (v3 : Int32) (S : mS) : Option mS := k35 v0 (v3 + (-1)) S
noncomputable def f_X0_keepThoseThatArrive_82 (k35 : Int32 → Int32 → mS → Option mS) (v0 : Int32) (v3 : Int32) (S : mS) : Option mS := (f_X0_keepThoseThatArrive_85 (f_X0_keepThoseThatArrive_124 k35) 1000) v0 v3 0 S
noncomputable def f_X0_keepThoseThatArrive_35 (k130 : mS → Option mS) : Nat → Int32 → Int32 → mS → Option mS := fun n => Nat.rec (motive := fun _ => Int32 → Int32 → mS → Option mS) (fun _ _ _ => none) (fun _ rec v0 v3 S => if v3 < 0 then (k130 S) else ((f_X0_keepThoseThatArrive_42 (f_X0_keepThoseThatArrive_82 rec) 1000) v0 v3 0 S)) n
theorem f_X0_keepThoseThatArrive_35_s (k130 : mS → Option mS) (n : Nat) (v0 : Int32) (v3 : Int32) (S : mS) : f_X0_keepThoseThatArrive_35 k130 (n + 1) v0 v3 S = if v3 < 0 then (k130 S) else ((f_X0_keepThoseThatArrive_42 (f_X0_keepThoseThatArrive_82 (f_X0_keepThoseThatArrive_35 k130 n)) 1000) v0 v3 0 S) := rfl
noncomputable def f_X0_keepThoseThatArrive_130 (S : mS) : Option mS := some S
noncomputable def f_X0_keepThoseThatArrive_31 (v0 : Int32) (v1 : Int32) (S : mS) : Option mS := (f_X0_keepThoseThatArrive_35 (f_X0_keepThoseThatArrive_130) 1000) v0 (v1 - 1) S
noncomputable def f_X0_keepThoseThatArrive (v0 : Int32) (v1 : Int32) (v2 : Int32) (S : mS) : Option mS := (f_X0_keepThoseThatArrive_2 (f_X0_keepThoseThatArrive_31) 1000) v0 v1 v2 0 S
def rm_X0_keepThoseThatArrive : Room := { frames := 3, cells := 0, slots := 0, locals := 61 }
set_option maxRecDepth 100000 in
set_option maxHeartbeats 4000000 in
theorem bl_X0_keepThoseThatArrive_2 {p : Program} {l : Launch} {e : Env} {s : State} {m : MethodId} {args : Array Value} {below : List Frame} {meth : Method} {c : Code} {E : mE} {n0 : Nat} {F : mS} (C : mCx p s m args meth c cX0_keepThoseThatArrive 5 RX0 none E n0) {k31 : Int32 → Int32 → mS → Option mS} (hk31 : ∀ (v0 : Int32) (v1 : Int32) (S : mS) (H : Heap) (locs : List Loc) (ls : Array Slot), k31 v0 v1 S = some F → mIv s E S H locs 0 → lv_has ls 5 [(0, .ref (mA E.b v0)), (1, .int v1)] → W p l e rm_X0_keepThoseThatArrive s m args below meth c H locs 0 0 (mQv below args s 0 0 n0 E F) (F0 m 31 ls [])) : ∀ (n : Nat)  (v0 : Int32) (v1 : Int32) (v2 : Int32) (v3 : Int32) (S : mS) (H : Heap) (locs : List Loc) (ls : Array Slot), f_X0_keepThoseThatArrive_2 k31 n v0 v1 v2 v3 S = some F → mIv s E S H locs 0 → lv_has ls 5 [(0, .ref (mA E.b v0)), (1, .int v1), (2, .int v2), (3, .int v3)] → W p l e rm_X0_keepThoseThatArrive s m args below meth c H locs 0 0 (mQv below args s 0 0 n0 E F) (F0 m 2 ls []) := by
  have hx := C.1
  have hb := C.2.1
  intro n
  induction n with
  | zero =>
    intro v0 v1 v2 v3 S H locs ls hF
    exact nomatch (show (none : Option mS) = some F from hF)
  | succ n ih =>
    intro v0 v1 v2 v3 S H locs ls hF hI hl
    have hF := (f_X0_keepThoseThatArrive_2_s k31 n v0 v1 v2 v3 S).symm.trans hF
    refine lv_iload_n hx hb dX0_keepThoseThatArrive_2 rfl (lv_at hl 3 rfl) ?_
    refine lv_bipush (v := 25) hx hb dX0_keepThoseThatArrive_3 (by decide) ?_
    refine m_icmp_ge C (tgt := 31) hF dX0_keepThoseThatArrive_5 (by decide) (fun hF => ?_) (fun hF => ?_)
    · exact hk31 v0 v1 S _ _ _ hF hI (lv_sub hl [0, 1] rfl)
    · refine lv_aload_n hx hb dX0_keepThoseThatArrive_8 rfl (lv_at hl 0 rfl) ?_
      refine m_getR C fd_X0_9 hI hF dX0_keepThoseThatArrive_9 (fun r1 hF => ?_)
      refine lv_bipush (v := 25) hx hb dX0_keepThoseThatArrive_12 (by decide) ?_
      refine lv_iload_n hx hb dX0_keepThoseThatArrive_14 rfl (lv_at hl 1 rfl) ?_
      refine lv_imul hx hb dX0_keepThoseThatArrive_15 ?_
      refine lv_iload_n hx hb dX0_keepThoseThatArrive_16 rfl (lv_at hl 3 rfl) ?_
      refine lv_iadd hx hb dX0_keepThoseThatArrive_17 ?_
      refine lv_dup2_11 hx hb dX0_keepThoseThatArrive_18 rfl rfl ?_
      refine m_iald C hI hF dX0_keepThoseThatArrive_19 (fun r2 hF => ?_)
      refine lv_iconst (v := 1) hx hb dX0_keepThoseThatArrive_20 (by decide) ?_
      refine lv_iload_n hx hb dX0_keepThoseThatArrive_21 rfl (lv_at hl 2 rfl) ?_
      refine lv_ishl hx hb dX0_keepThoseThatArrive_22 ?_
      refine lv_iand hx hb dX0_keepThoseThatArrive_23 ?_
      refine m_iast C hI hF dX0_keepThoseThatArrive_24 (fun S3 H locs hF hI => ?_)
      refine lv_iinc (v := v3 + 1) (lv' := [(3, .int (v3 + 1)), (0, .ref (mA E.b v0)), (1, .int v1), (2, .int v2)]) hx hb dX0_keepThoseThatArrive_25 hl (k := 3) rfl rfl (by decide) rfl (fun ls hl => ?_)
      refine lv_goto (tgt := 2) hx hb dX0_keepThoseThatArrive_28 (by decide) ?_
      exact ih v0 v1 v2 (v3 + 1) S3 _ _ _ hF hI (lv_sub hl [1, 2, 3, 0] rfl)
set_option maxRecDepth 100000 in
set_option maxHeartbeats 4000000 in
theorem bl_X0_keepThoseThatArrive_42 {p : Program} {l : Launch} {e : Env} {s : State} {m : MethodId} {args : Array Value} {below : List Frame} {meth : Method} {c : Code} {E : mE} {n0 : Nat} {F : mS} (C : mCx p s m args meth c cX0_keepThoseThatArrive 5 RX0 none E n0) {k82 : Int32 → Int32 → mS → Option mS} (hk82 : ∀ (v0 : Int32) (v3 : Int32) (S : mS) (H : Heap) (locs : List Loc) (ls : Array Slot), k82 v0 v3 S = some F → mIv s E S H locs 0 → lv_has ls 5 [(0, .ref (mA E.b v0)), (3, .int v3)] → W p l e rm_X0_keepThoseThatArrive s m args below meth c H locs 0 0 (mQv below args s 0 0 n0 E F) (F0 m 82 ls [])) : ∀ (n : Nat)  (v0 : Int32) (v3 : Int32) (v4 : Int32) (S : mS) (H : Heap) (locs : List Loc) (ls : Array Slot), f_X0_keepThoseThatArrive_42 k82 n v0 v3 v4 S = some F → mIv s E S H locs 0 → lv_has ls 5 [(0, .ref (mA E.b v0)), (3, .int v3), (4, .int v4)] → W p l e rm_X0_keepThoseThatArrive s m args below meth c H locs 0 0 (mQv below args s 0 0 n0 E F) (F0 m 42 ls []) := by
  have hx := C.1
  have hb := C.2.1
  intro n
  induction n with
  | zero =>
    intro v0 v3 v4 S H locs ls hF
    exact nomatch (show (none : Option mS) = some F from hF)
  | succ n ih =>
    intro v0 v3 v4 S H locs ls hF hI hl
    have hF := (f_X0_keepThoseThatArrive_42_s k82 n v0 v3 v4 S).symm.trans hF
    refine lv_iload hx hb dX0_keepThoseThatArrive_42 (lv_at hl 2 rfl) ?_
    refine lv_bipush (v := 25) hx hb dX0_keepThoseThatArrive_44 (by decide) ?_
    refine m_icmp_ge C (tgt := 82) hF dX0_keepThoseThatArrive_46 (by decide) (fun hF => ?_) (fun hF => ?_)
    · exact hk82 v0 v3 S _ _ _ hF hI (lv_sub hl [0, 1] rfl)
    · refine lv_aload_n hx hb dX0_keepThoseThatArrive_49 rfl (lv_at hl 0 rfl) ?_
      refine m_getR C fd_X0_15 hI hF dX0_keepThoseThatArrive_50 (fun r4 hF => ?_)
      refine lv_iload hx hb dX0_keepThoseThatArrive_53 (lv_at hl 2 rfl) ?_
      refine lv_aload_n hx hb dX0_keepThoseThatArrive_55 rfl (lv_at hl 0 rfl) ?_
      refine lv_aload_n hx hb dX0_keepThoseThatArrive_56 rfl (lv_at hl 0 rfl) ?_
      refine m_getR C fd_X0_9 hI hF dX0_keepThoseThatArrive_57 (fun r5 hF => ?_)
      refine lv_bipush (v := 25) hx hb dX0_keepThoseThatArrive_60 (by decide) ?_
      refine lv_iload_n hx hb dX0_keepThoseThatArrive_62 rfl (lv_at hl 1 rfl) ?_
      refine lv_iconst (v := 1) hx hb dX0_keepThoseThatArrive_63 (by decide) ?_
      refine lv_iadd hx hb dX0_keepThoseThatArrive_64 ?_
      refine lv_imul hx hb dX0_keepThoseThatArrive_65 ?_
      refine lv_iload hx hb dX0_keepThoseThatArrive_66 (lv_at hl 2 rfl) ?_
      refine lv_iadd hx hb dX0_keepThoseThatArrive_68 ?_
      refine m_iald C hI hF dX0_keepThoseThatArrive_69 (fun r6 hF => ?_)
      refine lv_iload hx hb dX0_keepThoseThatArrive_70 (lv_at hl 2 rfl) ?_
      refine m_callViR C cd_X0_110 ⟨rfl, by decide⟩ hl.1 hI hF (fun _ h => ok_X0_allThatComeTo h) rfl rfl ⟨rfl, rfl, Nat.le_of_ble_eq_true rfl, Nat.le_of_ble_eq_true rfl⟩ ⟨Nat.le_of_ble_eq_true rfl, Nat.le_of_ble_eq_true rfl⟩ (Nat.le_of_ble_eq_true rfl) dX0_keepThoseThatArrive_72 (fun r7 H locs hF hI => ?_)
      refine m_iast C hI hF dX0_keepThoseThatArrive_75 (fun S8 H locs hF hI => ?_)
      refine lv_iinc (v := v4 + 1) (lv' := [(4, .int (v4 + 1)), (0, .ref (mA E.b v0)), (3, .int v3)]) hx hb dX0_keepThoseThatArrive_76 hl (k := 2) rfl rfl (by decide) rfl (fun ls hl => ?_)
      refine lv_goto (tgt := 42) hx hb dX0_keepThoseThatArrive_79 (by decide) ?_
      exact ih v0 v3 (v4 + 1) S8 _ _ _ hF hI (lv_sub hl [1, 2, 0] rfl)
set_option maxRecDepth 100000 in
set_option maxHeartbeats 4000000 in
theorem bl_X0_keepThoseThatArrive_85 {p : Program} {l : Launch} {e : Env} {s : State} {m : MethodId} {args : Array Value} {below : List Frame} {meth : Method} {c : Code} {E : mE} {n0 : Nat} {F : mS} (C : mCx p s m args meth c cX0_keepThoseThatArrive 5 RX0 none E n0) {k124 : Int32 → Int32 → mS → Option mS} (hk124 : ∀ (v0 : Int32) (v3 : Int32) (S : mS) (H : Heap) (locs : List Loc) (ls : Array Slot), k124 v0 v3 S = some F → mIv s E S H locs 0 → lv_has ls 5 [(0, .ref (mA E.b v0)), (3, .int v3)] → W p l e rm_X0_keepThoseThatArrive s m args below meth c H locs 0 0 (mQv below args s 0 0 n0 E F) (F0 m 124 ls [])) : ∀ (n : Nat)  (v0 : Int32) (v3 : Int32) (v4 : Int32) (S : mS) (H : Heap) (locs : List Loc) (ls : Array Slot), f_X0_keepThoseThatArrive_85 k124 n v0 v3 v4 S = some F → mIv s E S H locs 0 → lv_has ls 5 [(0, .ref (mA E.b v0)), (3, .int v3), (4, .int v4)] → W p l e rm_X0_keepThoseThatArrive s m args below meth c H locs 0 0 (mQv below args s 0 0 n0 E F) (F0 m 85 ls []) := by
  have hx := C.1
  have hb := C.2.1
  intro n
  induction n with
  | zero =>
    intro v0 v3 v4 S H locs ls hF
    exact nomatch (show (none : Option mS) = some F from hF)
  | succ n ih =>
    intro v0 v3 v4 S H locs ls hF hI hl
    have hF := (f_X0_keepThoseThatArrive_85_s k124 n v0 v3 v4 S).symm.trans hF
    refine lv_iload hx hb dX0_keepThoseThatArrive_85 (lv_at hl 2 rfl) ?_
    refine lv_bipush (v := 25) hx hb dX0_keepThoseThatArrive_87 (by decide) ?_
    refine m_icmp_ge C (tgt := 124) hF dX0_keepThoseThatArrive_89 (by decide) (fun hF => ?_) (fun hF => ?_)
    · exact hk124 v0 v3 S _ _ _ hF hI (lv_sub hl [0, 1] rfl)
    · refine lv_aload_n hx hb dX0_keepThoseThatArrive_92 rfl (lv_at hl 0 rfl) ?_
      refine m_getR C fd_X0_9 hI hF dX0_keepThoseThatArrive_93 (fun r9 hF => ?_)
      refine lv_bipush (v := 25) hx hb dX0_keepThoseThatArrive_96 (by decide) ?_
      refine lv_iload_n hx hb dX0_keepThoseThatArrive_98 rfl (lv_at hl 1 rfl) ?_
      refine lv_imul hx hb dX0_keepThoseThatArrive_99 ?_
      refine lv_iload hx hb dX0_keepThoseThatArrive_100 (lv_at hl 2 rfl) ?_
      refine lv_iadd hx hb dX0_keepThoseThatArrive_102 ?_
      refine lv_dup2_11 hx hb dX0_keepThoseThatArrive_103 rfl rfl ?_
      refine m_iald C hI hF dX0_keepThoseThatArrive_104 (fun r10 hF => ?_)
      refine lv_aload_n hx hb dX0_keepThoseThatArrive_105 rfl (lv_at hl 0 rfl) ?_
      refine lv_iload hx hb dX0_keepThoseThatArrive_106 (lv_at hl 2 rfl) ?_
      refine lv_aload_n hx hb dX0_keepThoseThatArrive_108 rfl (lv_at hl 0 rfl) ?_
      refine lv_iload_n hx hb dX0_keepThoseThatArrive_109 rfl (lv_at hl 1 rfl) ?_
      refine m_callViR C cd_X0_91 ⟨rfl, by decide⟩ hl.1 hI hF (fun _ h => ok_X0_cellsIn h) rfl rfl ⟨rfl, rfl, Nat.le_of_ble_eq_true rfl, Nat.le_of_ble_eq_true rfl⟩ ⟨Nat.le_of_ble_eq_true rfl, Nat.le_of_ble_eq_true rfl⟩ (Nat.le_of_ble_eq_true rfl) dX0_keepThoseThatArrive_110 (fun r11 H locs hF hI => ?_)
      refine m_callViR C cd_X0_113 ⟨rfl, by decide⟩ hl.1 hI hF (fun _ h => ok_X0_joinedAround h) rfl rfl ⟨rfl, rfl, Nat.le_of_ble_eq_true rfl, Nat.le_of_ble_eq_true rfl⟩ ⟨Nat.le_of_ble_eq_true rfl, Nat.le_of_ble_eq_true rfl⟩ (Nat.le_of_ble_eq_true rfl) dX0_keepThoseThatArrive_113 (fun r12 H locs hF hI => ?_)
      refine lv_iand hx hb dX0_keepThoseThatArrive_116 ?_
      refine m_iast C hI hF dX0_keepThoseThatArrive_117 (fun S13 H locs hF hI => ?_)
      refine lv_iinc (v := v4 + 1) (lv' := [(4, .int (v4 + 1)), (0, .ref (mA E.b v0)), (3, .int v3)]) hx hb dX0_keepThoseThatArrive_118 hl (k := 2) rfl rfl (by decide) rfl (fun ls hl => ?_)
      refine lv_goto (tgt := 85) hx hb dX0_keepThoseThatArrive_121 (by decide) ?_
      exact ih v0 v3 (v4 + 1) S13 _ _ _ hF hI (lv_sub hl [1, 2, 0] rfl)
set_option maxRecDepth 100000 in
set_option maxHeartbeats 4000000 in
theorem bl_X0_keepThoseThatArrive_124 {p : Program} {l : Launch} {e : Env} {s : State} {m : MethodId} {args : Array Value} {below : List Frame} {meth : Method} {c : Code} {E : mE} {n0 : Nat} {F : mS} (C : mCx p s m args meth c cX0_keepThoseThatArrive 5 RX0 none E n0) {k35 : Int32 → Int32 → mS → Option mS} (hk35 : ∀ (v0 : Int32) (v3 : Int32) (S : mS) (H : Heap) (locs : List Loc) (ls : Array Slot), k35 v0 v3 S = some F → mIv s E S H locs 0 → lv_has ls 5 [(0, .ref (mA E.b v0)), (3, .int v3)] → W p l e rm_X0_keepThoseThatArrive s m args below meth c H locs 0 0 (mQv below args s 0 0 n0 E F) (F0 m 35 ls [])) : ∀  (v0 : Int32) (v3 : Int32) (S : mS) (H : Heap) (locs : List Loc) (ls : Array Slot), f_X0_keepThoseThatArrive_124 k35 v0 v3 S = some F → mIv s E S H locs 0 → lv_has ls 5 [(0, .ref (mA E.b v0)), (3, .int v3)] → W p l e rm_X0_keepThoseThatArrive s m args below meth c H locs 0 0 (mQv below args s 0 0 n0 E F) (F0 m 124 ls []) := by
  have hx := C.1
  have hb := C.2.1
  intro v0 v3 S H locs ls hF hI hl
  refine lv_iinc (v := v3 + (-1)) (lv' := [(3, .int (v3 + (-1))), (0, .ref (mA E.b v0))]) hx hb dX0_keepThoseThatArrive_124 hl (k := 1) rfl rfl (by decide) rfl (fun ls hl => ?_)
  refine lv_goto (tgt := 35) hx hb dX0_keepThoseThatArrive_127 (by decide) ?_
  exact hk35 v0 (v3 + (-1)) S _ _ _ hF hI (lv_sub hl [1, 0] rfl)
set_option maxRecDepth 100000 in
set_option maxHeartbeats 4000000 in
theorem bl_X0_keepThoseThatArrive_82 {p : Program} {l : Launch} {e : Env} {s : State} {m : MethodId} {args : Array Value} {below : List Frame} {meth : Method} {c : Code} {E : mE} {n0 : Nat} {F : mS} (C : mCx p s m args meth c cX0_keepThoseThatArrive 5 RX0 none E n0) {k35 : Int32 → Int32 → mS → Option mS} (hk35 : ∀ (v0 : Int32) (v3 : Int32) (S : mS) (H : Heap) (locs : List Loc) (ls : Array Slot), k35 v0 v3 S = some F → mIv s E S H locs 0 → lv_has ls 5 [(0, .ref (mA E.b v0)), (3, .int v3)] → W p l e rm_X0_keepThoseThatArrive s m args below meth c H locs 0 0 (mQv below args s 0 0 n0 E F) (F0 m 35 ls [])) : ∀  (v0 : Int32) (v3 : Int32) (S : mS) (H : Heap) (locs : List Loc) (ls : Array Slot), f_X0_keepThoseThatArrive_82 k35 v0 v3 S = some F → mIv s E S H locs 0 → lv_has ls 5 [(0, .ref (mA E.b v0)), (3, .int v3)] → W p l e rm_X0_keepThoseThatArrive s m args below meth c H locs 0 0 (mQv below args s 0 0 n0 E F) (F0 m 82 ls []) := by
  have hx := C.1
  have hb := C.2.1
  intro v0 v3 S H locs ls hF hI hl
  refine lv_iconst (v := 0) hx hb dX0_keepThoseThatArrive_82 (by decide) ?_
  refine lv_istore (lv' := [(4, .int 0), (0, .ref (mA E.b v0)), (3, .int v3)]) hx hb dX0_keepThoseThatArrive_83 hl (by decide) rfl (fun ls hl => ?_)
  exact (bl_X0_keepThoseThatArrive_85 C (k124 := (f_X0_keepThoseThatArrive_124 k35)) (bl_X0_keepThoseThatArrive_124 C (k35 := k35) hk35) 1000) v0 v3 0 S _ _ _ hF hI (lv_sub hl [1, 2, 0] rfl)
set_option maxRecDepth 100000 in
set_option maxHeartbeats 4000000 in
theorem bl_X0_keepThoseThatArrive_35 {p : Program} {l : Launch} {e : Env} {s : State} {m : MethodId} {args : Array Value} {below : List Frame} {meth : Method} {c : Code} {E : mE} {n0 : Nat} {F : mS} (C : mCx p s m args meth c cX0_keepThoseThatArrive 5 RX0 none E n0) {k130 : mS → Option mS} (hk130 : ∀ (S : mS) (H : Heap) (locs : List Loc) (ls : Array Slot), k130 S = some F → mIv s E S H locs 0 → lv_has ls 5 [] → W p l e rm_X0_keepThoseThatArrive s m args below meth c H locs 0 0 (mQv below args s 0 0 n0 E F) (F0 m 130 ls [])) : ∀ (n : Nat)  (v0 : Int32) (v3 : Int32) (S : mS) (H : Heap) (locs : List Loc) (ls : Array Slot), f_X0_keepThoseThatArrive_35 k130 n v0 v3 S = some F → mIv s E S H locs 0 → lv_has ls 5 [(0, .ref (mA E.b v0)), (3, .int v3)] → W p l e rm_X0_keepThoseThatArrive s m args below meth c H locs 0 0 (mQv below args s 0 0 n0 E F) (F0 m 35 ls []) := by
  have hx := C.1
  have hb := C.2.1
  intro n
  induction n with
  | zero =>
    intro v0 v3 S H locs ls hF
    exact nomatch (show (none : Option mS) = some F from hF)
  | succ n ih =>
    intro v0 v3 S H locs ls hF hI hl
    have hF := (f_X0_keepThoseThatArrive_35_s k130 n v0 v3 S).symm.trans hF
    refine lv_iload_n hx hb dX0_keepThoseThatArrive_35 rfl (lv_at hl 1 rfl) ?_
    refine m_if_lt C (tgt := 130) hF dX0_keepThoseThatArrive_36 (by decide) (fun hF => ?_) (fun hF => ?_)
    · exact hk130 S _ _ _ hF hI (lv_sub hl [] rfl)
    · refine lv_iconst (v := 0) hx hb dX0_keepThoseThatArrive_39 (by decide) ?_
      refine lv_istore (lv' := [(4, .int 0), (0, .ref (mA E.b v0)), (3, .int v3)]) hx hb dX0_keepThoseThatArrive_40 hl (by decide) rfl (fun ls hl => ?_)
      exact (bl_X0_keepThoseThatArrive_42 C (k82 := (f_X0_keepThoseThatArrive_82 (f_X0_keepThoseThatArrive_35 k130 n))) (bl_X0_keepThoseThatArrive_82 C (k35 := (f_X0_keepThoseThatArrive_35 k130 n)) ih) 1000) v0 v3 0 S _ _ _ hF hI (lv_sub hl [1, 2, 0] rfl)
set_option maxRecDepth 100000 in
set_option maxHeartbeats 4000000 in
theorem bl_X0_keepThoseThatArrive_130 {p : Program} {l : Launch} {e : Env} {s : State} {m : MethodId} {args : Array Value} {below : List Frame} {meth : Method} {c : Code} {E : mE} {n0 : Nat} {F : mS} (C : mCx p s m args meth c cX0_keepThoseThatArrive 5 RX0 none E n0) : ∀  (S : mS) (H : Heap) (locs : List Loc) (ls : Array Slot), f_X0_keepThoseThatArrive_130 S = some F → mIv s E S H locs 0 → lv_has ls 5 [] → W p l e rm_X0_keepThoseThatArrive s m args below meth c H locs 0 0 (mQv below args s 0 0 n0 E F) (F0 m 130 ls []) := by
  have hx := C.1
  have hb := C.2.1
  intro S H locs ls hF hI hl
  exact m_vret C hI hF dX0_keepThoseThatArrive_130
set_option maxRecDepth 100000 in
set_option maxHeartbeats 4000000 in
theorem bl_X0_keepThoseThatArrive_31 {p : Program} {l : Launch} {e : Env} {s : State} {m : MethodId} {args : Array Value} {below : List Frame} {meth : Method} {c : Code} {E : mE} {n0 : Nat} {F : mS} (C : mCx p s m args meth c cX0_keepThoseThatArrive 5 RX0 none E n0) : ∀  (v0 : Int32) (v1 : Int32) (S : mS) (H : Heap) (locs : List Loc) (ls : Array Slot), f_X0_keepThoseThatArrive_31 v0 v1 S = some F → mIv s E S H locs 0 → lv_has ls 5 [(0, .ref (mA E.b v0)), (1, .int v1)] → W p l e rm_X0_keepThoseThatArrive s m args below meth c H locs 0 0 (mQv below args s 0 0 n0 E F) (F0 m 31 ls []) := by
  have hx := C.1
  have hb := C.2.1
  intro v0 v1 S H locs ls hF hI hl
  refine lv_iload_n hx hb dX0_keepThoseThatArrive_31 rfl (lv_at hl 1 rfl) ?_
  refine lv_iconst (v := 1) hx hb dX0_keepThoseThatArrive_32 (by decide) ?_
  refine lv_isub hx hb dX0_keepThoseThatArrive_33 ?_
  refine lv_istore_n (lv' := [(3, .int (v1 - 1)), (0, .ref (mA E.b v0)), (1, .int v1)]) hx hb dX0_keepThoseThatArrive_34 rfl hl (by decide) rfl (fun ls hl => ?_)
  exact (bl_X0_keepThoseThatArrive_35 C (k130 := (f_X0_keepThoseThatArrive_130)) (bl_X0_keepThoseThatArrive_130 C) 1000) v0 (v1 - 1) S _ _ _ hF hI (lv_sub hl [1, 0] rfl)
set_option maxRecDepth 100000 in
set_option maxHeartbeats 4000000 in
theorem ok_X0_keepThoseThatArrive {l : Launch} {E : mE} {v0 : Int32} {v1 : Int32} {v2 : Int32} {S : mS} {F : mS} (hF : f_X0_keepThoseThatArrive v0 v1 v2 S = some F) : mMv l yX0_keepThoseThatArrive cX0_keepThoseThatArrive 5 none rm_X0_keepThoseThatArrive 0 0 [.ref (mA E.b v0), .int v1, .int v2] E S F := by
  refine m_met_v (by decide) (Nat.le_of_ble_eq_true rfl) (fun p e s m args below meth c ls hin C hI hl => ?_)
  have hx := C.1
  have hb := C.2.1
  have hl : lv_has ls 5 [(0, .ref (mA E.b v0)), (1, .int v1), (2, .int v2)] := hl
  generalize s.heap = H at hI ⊢
  generalize ([] : List Loc) = locs at hI ⊢
  refine lv_iconst (v := 0) hx hb dX0_keepThoseThatArrive_0 (by decide) ?_
  refine lv_istore_n (lv' := [(3, .int 0), (0, .ref (mA E.b v0)), (1, .int v1), (2, .int v2)]) hx hb dX0_keepThoseThatArrive_1 rfl hl (by decide) rfl (fun ls hl => ?_)
  exact (bl_X0_keepThoseThatArrive_2 C (k31 := (f_X0_keepThoseThatArrive_31)) (bl_X0_keepThoseThatArrive_31 C) 1000) v0 v1 v2 0 S _ _ _ hF hI (lv_sub hl [1, 2, 3, 0] rfl)
noncomputable def f_X0_firstArriving_3 (k63 : Option Int32) (S : mS) : Nat → Int32 → Int32 → Int32 → Int32 → Int32 → Option Int32 := fun n => Nat.rec (motive := fun _ => Int32 → Int32 → Int32 → Int32 → Int32 → Option Int32) (fun _ _ _ _ _ => none) (fun _ rec v0 v1 v2 v3 v4 => if 5 ≤ v4 then (k63) else (mRc 0 v0 S (mCp (f_X0_cellsIn v0 v1 S) (fun r1 => mCp (f_X6_moved v2 v4 r1) (fun r2 => mGr 0 0 v0 S (fun r3 => mX 8 r3 ((25 * (v1 + 1)) + r2) S (fun r4 => mGr 0 2 v0 S (fun r5 => mX 8 r5 ((25 * r2) + v3) S (fun r6 => mCp (f_X6_hasBit r4 r6) (fun r7 => if r7 = 0 then (rec v0 v1 v2 v3 (v4 + 1)) else (some v4))))))))))) n
theorem f_X0_firstArriving_3_s (k63 : Option Int32) (S : mS) (n : Nat) (v0 : Int32) (v1 : Int32) (v2 : Int32) (v3 : Int32) (v4 : Int32) : f_X0_firstArriving_3 k63 S (n + 1) v0 v1 v2 v3 v4 = if 5 ≤ v4 then (k63) else (mRc 0 v0 S (mCp (f_X0_cellsIn v0 v1 S) (fun r1 => mCp (f_X6_moved v2 v4 r1) (fun r2 => mGr 0 0 v0 S (fun r3 => mX 8 r3 ((25 * (v1 + 1)) + r2) S (fun r4 => mGr 0 2 v0 S (fun r5 => mX 8 r5 ((25 * r2) + v3) S (fun r6 => mCp (f_X6_hasBit r4 r6) (fun r7 => if r7 = 0 then ((f_X0_firstArriving_3 k63 S n) v0 v1 v2 v3 (v4 + 1)) else (some v4)))))))))) := rfl
noncomputable def f_X0_firstArriving_63 (S : mS) : Option Int32 := some 4
noncomputable def f_X0_firstArriving (v0 : Int32) (v1 : Int32) (v2 : Int32) (v3 : Int32) (S : mS) : Option Int32 := (f_X0_firstArriving_3 (f_X0_firstArriving_63 S) S 1000) v0 v1 v2 v3 0
def rm_X0_firstArriving : Room := { frames := 2, cells := 0, slots := 0, locals := 45 }
set_option maxRecDepth 100000 in
set_option maxHeartbeats 4000000 in
theorem bl_X0_firstArriving_3 {p : Program} {l : Launch} {e : Env} {s : State} {m : MethodId} {args : Array Value} {below : List Frame} {meth : Method} {c : Code} {E : mE} {n0 : Nat} {r : Int32} {S : mS} (C : mCx p s m args meth c cX0_firstArriving 6 RX0 (some .int) E n0) {k63 : Option Int32} (hk63 : ∀ (H : Heap) (locs : List Loc) (ls : Array Slot), k63 = some r → mIv s E S H locs 0 → lv_has ls 6 [] → W p l e rm_X0_firstArriving s m args below meth c H locs 0 0 (mQi below args s 0 0 n0 E (r, S)) (F0 m 63 ls [])) : ∀ (n : Nat)  (v0 : Int32) (v1 : Int32) (v2 : Int32) (v3 : Int32) (v4 : Int32) (H : Heap) (locs : List Loc) (ls : Array Slot), f_X0_firstArriving_3 k63 S n v0 v1 v2 v3 v4 = some r → mIv s E S H locs 0 → lv_has ls 6 [(0, .ref (mA E.b v0)), (1, .int v1), (2, .int v2), (3, .int v3), (4, .int v4)] → W p l e rm_X0_firstArriving s m args below meth c H locs 0 0 (mQi below args s 0 0 n0 E (r, S)) (F0 m 3 ls []) := by
  have hx := C.1
  have hb := C.2.1
  intro n
  induction n with
  | zero =>
    intro v0 v1 v2 v3 v4 H locs ls hF
    exact nomatch (show (none : Option Int32) = some r from hF)
  | succ n ih =>
    intro v0 v1 v2 v3 v4 H locs ls hF hI hl
    have hF := (f_X0_firstArriving_3_s k63 S n v0 v1 v2 v3 v4).symm.trans hF
    refine lv_iload hx hb dX0_firstArriving_3 (lv_at hl 4 rfl) ?_
    refine lv_iconst (v := 5) hx hb dX0_firstArriving_5 (by decide) ?_
    refine m_icmp_ge C (tgt := 63) hF dX0_firstArriving_6 (by decide) (fun hF => ?_) (fun hF => ?_)
    · exact hk63  _ _ _ hF hI (lv_sub hl [] rfl)
    · refine lv_iload_n hx hb dX0_firstArriving_9 rfl (lv_at hl 2 rfl) ?_
      refine lv_iload hx hb dX0_firstArriving_10 (lv_at hl 4 rfl) ?_
      refine lv_aload_n hx hb dX0_firstArriving_12 rfl (lv_at hl 0 rfl) ?_
      refine lv_iload_n hx hb dX0_firstArriving_13 rfl (lv_at hl 1 rfl) ?_
      refine m_callViR C cd_X0_91 ⟨rfl, by decide⟩ hl.1 hI hF (fun _ h => ok_X0_cellsIn h) rfl rfl ⟨rfl, rfl, Nat.le_of_ble_eq_true rfl, Nat.le_of_ble_eq_true rfl⟩ ⟨Nat.le_of_ble_eq_true rfl, Nat.le_of_ble_eq_true rfl⟩ (Nat.le_of_ble_eq_true rfl) dX0_firstArriving_14 (fun r1 H locs hF hI => ?_)
      refine m_callNiR C cd_X0_95 hl.1 hI hF (fun _ h => ok_X6_moved h) rfl rfl ⟨rfl, rfl, Nat.le_of_ble_eq_true rfl, Nat.le_of_ble_eq_true rfl⟩ ⟨Nat.le_of_ble_eq_true rfl, Nat.le_of_ble_eq_true rfl⟩ (Nat.le_of_ble_eq_true rfl) dX0_firstArriving_17 (fun r2 H locs hF hI => ?_)
      refine lv_istore (lv' := [(5, .int r2), (0, .ref (mA E.b v0)), (1, .int v1), (2, .int v2), (3, .int v3), (4, .int v4)]) hx hb dX0_firstArriving_20 hl (by decide) rfl (fun ls hl => ?_)
      refine lv_aload_n hx hb dX0_firstArriving_22 rfl (lv_at hl 1 rfl) ?_
      refine m_getR C fd_X0_9 hI hF dX0_firstArriving_23 (fun r3 hF => ?_)
      refine lv_bipush (v := 25) hx hb dX0_firstArriving_26 (by decide) ?_
      refine lv_iload_n hx hb dX0_firstArriving_28 rfl (lv_at hl 2 rfl) ?_
      refine lv_iconst (v := 1) hx hb dX0_firstArriving_29 (by decide) ?_
      refine lv_iadd hx hb dX0_firstArriving_30 ?_
      refine lv_imul hx hb dX0_firstArriving_31 ?_
      refine lv_iload hx hb dX0_firstArriving_32 (lv_at hl 0 rfl) ?_
      refine lv_iadd hx hb dX0_firstArriving_34 ?_
      refine m_iald C hI hF dX0_firstArriving_35 (fun r4 hF => ?_)
      refine lv_aload_n hx hb dX0_firstArriving_36 rfl (lv_at hl 1 rfl) ?_
      refine m_getR C fd_X0_18 hI hF dX0_firstArriving_37 (fun r5 hF => ?_)
      refine lv_bipush (v := 25) hx hb dX0_firstArriving_40 (by decide) ?_
      refine lv_iload hx hb dX0_firstArriving_42 (lv_at hl 0 rfl) ?_
      refine lv_imul hx hb dX0_firstArriving_44 ?_
      refine lv_iload_n hx hb dX0_firstArriving_45 rfl (lv_at hl 4 rfl) ?_
      refine lv_iadd hx hb dX0_firstArriving_46 ?_
      refine m_iald C hI hF dX0_firstArriving_47 (fun r6 hF => ?_)
      refine m_callNiR C cd_X0_98 hl.1 hI hF (fun _ h => ok_X6_hasBit h) rfl rfl ⟨rfl, rfl, Nat.le_of_ble_eq_true rfl, Nat.le_of_ble_eq_true rfl⟩ ⟨Nat.le_of_ble_eq_true rfl, Nat.le_of_ble_eq_true rfl⟩ (Nat.le_of_ble_eq_true rfl) dX0_firstArriving_48 (fun r7 H locs hF hI => ?_)
      refine m_if_eq C (tgt := 57) hF dX0_firstArriving_51 (by decide) (fun hF => ?_) (fun hF => ?_)
      · refine lv_iinc (v := v4 + 1) (lv' := [(4, .int (v4 + 1)), (5, .int r2), (0, .ref (mA E.b v0)), (1, .int v1), (2, .int v2), (3, .int v3)]) hx hb dX0_firstArriving_57 hl (k := 5) rfl rfl (by decide) rfl (fun ls hl => ?_)
        refine lv_goto (tgt := 3) hx hb dX0_firstArriving_60 (by decide) ?_
        exact ih v0 v1 v2 v3 (v4 + 1) _ _ _ hF hI (lv_sub hl [2, 3, 4, 5, 0] rfl)
      · refine lv_iload hx hb dX0_firstArriving_54 (lv_at hl 5 rfl) ?_
        exact m_iretiR C hI hF dX0_firstArriving_56
set_option maxRecDepth 100000 in
set_option maxHeartbeats 4000000 in
theorem bl_X0_firstArriving_63 {p : Program} {l : Launch} {e : Env} {s : State} {m : MethodId} {args : Array Value} {below : List Frame} {meth : Method} {c : Code} {E : mE} {n0 : Nat} {r : Int32} {S : mS} (C : mCx p s m args meth c cX0_firstArriving 6 RX0 (some .int) E n0) : ∀  (H : Heap) (locs : List Loc) (ls : Array Slot), f_X0_firstArriving_63 S = some r → mIv s E S H locs 0 → lv_has ls 6 [] → W p l e rm_X0_firstArriving s m args below meth c H locs 0 0 (mQi below args s 0 0 n0 E (r, S)) (F0 m 63 ls []) := by
  have hx := C.1
  have hb := C.2.1
  intro H locs ls hF hI hl
  refine lv_iconst (v := 4) hx hb dX0_firstArriving_63 (by decide) ?_
  exact m_iretiR C hI hF dX0_firstArriving_64
set_option maxRecDepth 100000 in
set_option maxHeartbeats 4000000 in
theorem ok_X0_firstArriving {l : Launch} {E : mE} {v0 : Int32} {v1 : Int32} {v2 : Int32} {v3 : Int32} {S : mS} {r : Int32} (hF : f_X0_firstArriving v0 v1 v2 v3 S = some r) : mMi l yX0_firstArriving cX0_firstArriving 6 (some .int) rm_X0_firstArriving 0 0 [.ref (mA E.b v0), .int v1, .int v2, .int v3] E S (r, S) := by
  refine m_met_i (by decide) (Nat.le_of_ble_eq_true rfl) (fun p e s m args below meth c ls hin C hI hl => ?_)
  have hx := C.1
  have hb := C.2.1
  have hl : lv_has ls 6 [(0, .ref (mA E.b v0)), (1, .int v1), (2, .int v2), (3, .int v3)] := hl
  generalize s.heap = H at hI ⊢
  generalize ([] : List Loc) = locs at hI ⊢
  refine lv_iconst (v := 0) hx hb dX0_firstArriving_0 (by decide) ?_
  refine lv_istore (lv' := [(4, .int 0), (0, .ref (mA E.b v0)), (1, .int v1), (2, .int v2), (3, .int v3)]) hx hb dX0_firstArriving_1 hl (by decide) rfl (fun ls hl => ?_)
  exact (bl_X0_firstArriving_3 C (k63 := (f_X0_firstArriving_63 S)) (bl_X0_firstArriving_63 C) 1000) v0 v1 v2 v3 0 _ _ _ hF hI (lv_sub hl [1, 2, 3, 4, 0] rfl)
noncomputable def f_X0_callAt_29 (k90 : Int32 → mS → Option (Int32 × mS)) : Nat → Int32 → Int32 → Int32 → Int32 → Int32 → Int32 → mS → Option (Int32 × mS) := fun n => Nat.rec (motive := fun _ => Int32 → Int32 → Int32 → Int32 → Int32 → Int32 → mS → Option (Int32 × mS)) (fun _ _ _ _ _ _ _ => none) (fun _ rec v0 v1 v4 v5 v6 v7 S => if v1 < v7 then (k90 v6 S) else (if 10 ≤ v7 then (k90 v6 S) else (mRc 0 v0 S (mCp (f_X0_firstArriving v0 v7 v4 v5 S) (fun r5 => mRc 0 v0 S (mCp (f_X0_cellsIn v0 v7 S) (fun r6 => mCp (f_X6_moved v4 r5 r6) (fun r7 => mGr 0 2 v0 S (fun r8 => mX 8 r8 ((25 * r7) + v5) S (fun r9 => rec v0 v1 r7 r9 r5 (v7 + 1) S)))))))))) n
theorem f_X0_callAt_29_s (k90 : Int32 → mS → Option (Int32 × mS)) (n : Nat) (v0 : Int32) (v1 : Int32) (v4 : Int32) (v5 : Int32) (v6 : Int32) (v7 : Int32) (S : mS) : f_X0_callAt_29 k90 (n + 1) v0 v1 v4 v5 v6 v7 S = if v1 < v7 then (k90 v6 S) else (if 10 ≤ v7 then (k90 v6 S) else (mRc 0 v0 S (mCp (f_X0_firstArriving v0 v7 v4 v5 S) (fun r5 => mRc 0 v0 S (mCp (f_X0_cellsIn v0 v7 S) (fun r6 => mCp (f_X6_moved v4 r5 r6) (fun r7 => mGr 0 2 v0 S (fun r8 => mX 8 r8 ((25 * r7) + v5) S (fun r9 => (f_X0_callAt_29 k90 n) v0 v1 r7 r9 r5 (v7 + 1) S))))))))) := rfl
noncomputable def f_X0_callAt_90 (v6 : Int32) (S : mS) : Option (Int32 × mS) := some (v6, S)
noncomputable def f_X0_callAt (v0 : Int32) (v1 : Int32) (v2 : Int32) (v3 : Int32) (S : mS) : Option (Int32 × mS) := mRc 0 v0 S (mCv (f_X0_keepThoseThatArrive v0 (mMin v2 10) v3 S) (fun S2 => mG 0 6 v0 S2 (fun r3 => mG 0 7 v0 S2 (fun r4 => (f_X0_callAt_29 (f_X0_callAt_90) 1000) v0 v1 r3 r4 (-1) 0 S2))))
def rm_X0_callAt : Room := { frames := 4, cells := 0, slots := 0, locals := 85 }
set_option maxRecDepth 100000 in
set_option maxHeartbeats 4000000 in
theorem bl_X0_callAt_29 {p : Program} {l : Launch} {e : Env} {s : State} {m : MethodId} {args : Array Value} {below : List Frame} {meth : Method} {c : Code} {E : mE} {n0 : Nat} {F : Int32 × mS} (C : mCx p s m args meth c cX0_callAt 8 RX0 (some .int) E n0) {k90 : Int32 → mS → Option (Int32 × mS)} (hk90 : ∀ (v6 : Int32) (S : mS) (H : Heap) (locs : List Loc) (ls : Array Slot), k90 v6 S = some F → mIv s E S H locs 0 → lv_has ls 8 [(6, .int v6)] → W p l e rm_X0_callAt s m args below meth c H locs 0 0 (mQi below args s 0 0 n0 E F) (F0 m 90 ls [])) : ∀ (n : Nat)  (v0 : Int32) (v1 : Int32) (v4 : Int32) (v5 : Int32) (v6 : Int32) (v7 : Int32) (S : mS) (H : Heap) (locs : List Loc) (ls : Array Slot), f_X0_callAt_29 k90 n v0 v1 v4 v5 v6 v7 S = some F → mIv s E S H locs 0 → lv_has ls 8 [(0, .ref (mA E.b v0)), (1, .int v1), (4, .int v4), (5, .int v5), (6, .int v6), (7, .int v7)] → W p l e rm_X0_callAt s m args below meth c H locs 0 0 (mQi below args s 0 0 n0 E F) (F0 m 29 ls []) := by
  have hx := C.1
  have hb := C.2.1
  intro n
  induction n with
  | zero =>
    intro v0 v1 v4 v5 v6 v7 S H locs ls hF
    exact nomatch (show (none : Option (Int32 × mS)) = some F from hF)
  | succ n ih =>
    intro v0 v1 v4 v5 v6 v7 S H locs ls hF hI hl
    have hF := (f_X0_callAt_29_s k90 n v0 v1 v4 v5 v6 v7 S).symm.trans hF
    refine lv_iload hx hb dX0_callAt_29 (lv_at hl 5 rfl) ?_
    refine lv_iload_n hx hb dX0_callAt_31 rfl (lv_at hl 1 rfl) ?_
    refine m_icmp_gt C (tgt := 90) hF dX0_callAt_32 (by decide) (fun hF => ?_) (fun hF => ?_)
    · exact hk90 v6 S _ _ _ hF hI (lv_sub hl [4] rfl)
    · refine lv_iload hx hb dX0_callAt_35 (lv_at hl 5 rfl) ?_
      refine lv_bipush (v := 10) hx hb dX0_callAt_37 (by decide) ?_
      refine m_icmp_ge C (tgt := 90) hF dX0_callAt_39 (by decide) (fun hF => ?_) (fun hF => ?_)
      · exact hk90 v6 S _ _ _ hF hI (lv_sub hl [4] rfl)
      · refine lv_aload_n hx hb dX0_callAt_42 rfl (lv_at hl 0 rfl) ?_
        refine lv_iload hx hb dX0_callAt_43 (lv_at hl 5 rfl) ?_
        refine lv_iload hx hb dX0_callAt_45 (lv_at hl 2 rfl) ?_
        refine lv_iload hx hb dX0_callAt_47 (lv_at hl 3 rfl) ?_
        refine m_callViR C cd_X0_87 ⟨rfl, by decide⟩ hl.1 hI hF (fun _ h => ok_X0_firstArriving h) rfl rfl ⟨rfl, rfl, Nat.le_of_ble_eq_true rfl, Nat.le_of_ble_eq_true rfl⟩ ⟨Nat.le_of_ble_eq_true rfl, Nat.le_of_ble_eq_true rfl⟩ (Nat.le_of_ble_eq_true rfl) dX0_callAt_49 (fun r5 H locs hF hI => ?_)
        refine lv_istore (lv' := [(6, .int r5), (0, .ref (mA E.b v0)), (1, .int v1), (4, .int v4), (5, .int v5), (7, .int v7)]) hx hb dX0_callAt_52 hl (by decide) rfl (fun ls hl => ?_)
        refine lv_iload hx hb dX0_callAt_54 (lv_at hl 3 rfl) ?_
        refine lv_iload hx hb dX0_callAt_56 (lv_at hl 0 rfl) ?_
        refine lv_aload_n hx hb dX0_callAt_58 rfl (lv_at hl 1 rfl) ?_
        refine lv_iload hx hb dX0_callAt_59 (lv_at hl 5 rfl) ?_
        refine m_callViR C cd_X0_91 ⟨rfl, by decide⟩ hl.1 hI hF (fun _ h => ok_X0_cellsIn h) rfl rfl ⟨rfl, rfl, Nat.le_of_ble_eq_true rfl, Nat.le_of_ble_eq_true rfl⟩ ⟨Nat.le_of_ble_eq_true rfl, Nat.le_of_ble_eq_true rfl⟩ (Nat.le_of_ble_eq_true rfl) dX0_callAt_61 (fun r6 H locs hF hI => ?_)
        refine m_callNiR C cd_X0_95 hl.1 hI hF (fun _ h => ok_X6_moved h) rfl rfl ⟨rfl, rfl, Nat.le_of_ble_eq_true rfl, Nat.le_of_ble_eq_true rfl⟩ ⟨Nat.le_of_ble_eq_true rfl, Nat.le_of_ble_eq_true rfl⟩ (Nat.le_of_ble_eq_true rfl) dX0_callAt_64 (fun r7 H locs hF hI => ?_)
        refine lv_istore (lv' := [(4, .int r7), (6, .int r5), (0, .ref (mA E.b v0)), (1, .int v1), (5, .int v5), (7, .int v7)]) hx hb dX0_callAt_67 hl (by decide) rfl (fun ls hl => ?_)
        refine lv_aload_n hx hb dX0_callAt_69 rfl (lv_at hl 2 rfl) ?_
        refine m_getR C fd_X0_18 hI hF dX0_callAt_70 (fun r8 hF => ?_)
        refine lv_bipush (v := 25) hx hb dX0_callAt_73 (by decide) ?_
        refine lv_iload hx hb dX0_callAt_75 (lv_at hl 0 rfl) ?_
        refine lv_imul hx hb dX0_callAt_77 ?_
        refine lv_iload hx hb dX0_callAt_78 (lv_at hl 4 rfl) ?_
        refine lv_iadd hx hb dX0_callAt_80 ?_
        refine m_iald C hI hF dX0_callAt_81 (fun r9 hF => ?_)
        refine lv_istore (lv' := [(5, .int r9), (4, .int r7), (6, .int r5), (0, .ref (mA E.b v0)), (1, .int v1), (7, .int v7)]) hx hb dX0_callAt_82 hl (by decide) rfl (fun ls hl => ?_)
        refine lv_iinc (v := v7 + 1) (lv' := [(7, .int (v7 + 1)), (5, .int r9), (4, .int r7), (6, .int r5), (0, .ref (mA E.b v0)), (1, .int v1)]) hx hb dX0_callAt_84 hl (k := 5) rfl rfl (by decide) rfl (fun ls hl => ?_)
        refine lv_goto (tgt := 29) hx hb dX0_callAt_87 (by decide) ?_
        exact ih v0 v1 r7 r9 r5 (v7 + 1) S _ _ _ hF hI (lv_sub hl [4, 5, 2, 1, 3, 0] rfl)
set_option maxRecDepth 100000 in
set_option maxHeartbeats 4000000 in
theorem bl_X0_callAt_90 {p : Program} {l : Launch} {e : Env} {s : State} {m : MethodId} {args : Array Value} {below : List Frame} {meth : Method} {c : Code} {E : mE} {n0 : Nat} {F : Int32 × mS} (C : mCx p s m args meth c cX0_callAt 8 RX0 (some .int) E n0) : ∀  (v6 : Int32) (S : mS) (H : Heap) (locs : List Loc) (ls : Array Slot), f_X0_callAt_90 v6 S = some F → mIv s E S H locs 0 → lv_has ls 8 [(6, .int v6)] → W p l e rm_X0_callAt s m args below meth c H locs 0 0 (mQi below args s 0 0 n0 E F) (F0 m 90 ls []) := by
  have hx := C.1
  have hb := C.2.1
  intro v6 S H locs ls hF hI hl
  refine lv_iload hx hb dX0_callAt_90 (lv_at hl 0 rfl) ?_
  exact m_ireti C hI hF dX0_callAt_92
set_option maxRecDepth 100000 in
set_option maxHeartbeats 4000000 in
theorem ok_X0_callAt {l : Launch} {E : mE} {v0 : Int32} {v1 : Int32} {v2 : Int32} {v3 : Int32} {S : mS} {F : Int32 × mS} (hF : f_X0_callAt v0 v1 v2 v3 S = some F) : mMi l yX0_callAt cX0_callAt 8 (some .int) rm_X0_callAt 0 0 [.ref (mA E.b v0), .int v1, .int v2, .int v3] E S F := by
  refine m_met_i (by decide) (Nat.le_of_ble_eq_true rfl) (fun p e s m args below meth c ls hin C hI hl => ?_)
  have hx := C.1
  have hb := C.2.1
  have hl : lv_has ls 8 [(0, .ref (mA E.b v0)), (1, .int v1), (2, .int v2), (3, .int v3)] := hl
  generalize s.heap = H at hI ⊢
  generalize ([] : List Loc) = locs at hI ⊢
  refine lv_aload_n hx hb dX0_callAt_0 rfl (lv_at hl 0 rfl) ?_
  refine lv_iload_n hx hb dX0_callAt_1 rfl (lv_at hl 2 rfl) ?_
  refine lv_bipush (v := 10) hx hb dX0_callAt_2 (by decide) ?_
  refine m_min C mw_X0_77 hl.1 (Nat.le_of_ble_eq_true rfl) (Nat.le_of_ble_eq_true rfl) (Nat.le_of_ble_eq_true rfl) (Nat.le_of_ble_eq_true rfl) dX0_callAt_4 ?_
  refine lv_iload_n hx hb dX0_callAt_7 rfl (lv_at hl 3 rfl) ?_
  refine m_callVv C cd_X0_83 ⟨rfl, by decide⟩ hl.1 hI hF (fun _ h => ok_X0_keepThoseThatArrive h) rfl rfl ⟨rfl, rfl, Nat.le_of_ble_eq_true rfl, Nat.le_of_ble_eq_true rfl⟩ ⟨Nat.le_of_ble_eq_true rfl, Nat.le_of_ble_eq_true rfl⟩ (Nat.le_of_ble_eq_true rfl) dX0_callAt_8 (fun S2 H locs hF hI => ?_)
  refine lv_aload_n hx hb dX0_callAt_11 rfl (lv_at hl 0 rfl) ?_
  refine m_get C fd_X0_55 hI hF dX0_callAt_12 (fun r3 hF => ?_)
  refine lv_istore (lv' := [(4, .int r3), (0, .ref (mA E.b v0)), (1, .int v1), (2, .int v2), (3, .int v3)]) hx hb dX0_callAt_15 hl (by decide) rfl (fun ls hl => ?_)
  refine lv_aload_n hx hb dX0_callAt_17 rfl (lv_at hl 1 rfl) ?_
  refine m_get C fd_X0_61 hI hF dX0_callAt_18 (fun r4 hF => ?_)
  refine lv_istore (lv' := [(5, .int r4), (4, .int r3), (0, .ref (mA E.b v0)), (1, .int v1), (2, .int v2), (3, .int v3)]) hx hb dX0_callAt_21 hl (by decide) rfl (fun ls hl => ?_)
  refine lv_iconst (v := (-1)) hx hb dX0_callAt_23 (by decide) ?_
  refine lv_istore (lv' := [(6, .int (-1)), (5, .int r4), (4, .int r3), (0, .ref (mA E.b v0)), (1, .int v1), (2, .int v2), (3, .int v3)]) hx hb dX0_callAt_24 hl (by decide) rfl (fun ls hl => ?_)
  refine lv_iconst (v := 0) hx hb dX0_callAt_26 (by decide) ?_
  refine lv_istore (lv' := [(7, .int 0), (6, .int (-1)), (5, .int r4), (4, .int r3), (0, .ref (mA E.b v0)), (1, .int v1), (2, .int v2), (3, .int v3)]) hx hb dX0_callAt_27 hl (by decide) rfl (fun ls hl => ?_)
  exact (bl_X0_callAt_29 C (k90 := (f_X0_callAt_90)) (bl_X0_callAt_90 C) 1000) v0 v1 r3 r4 (-1) 0 S2 _ _ _ hF hI (lv_sub hl [4, 5, 3, 2, 1, 0] rfl)
noncomputable def f_X1_init (v0 : Int32) (S : mS) : Option mS := mNa 8 3 S (fun r1 S2 => mPr 1 0 v0 r1 S2 (fun S3 => mNa 8 3 S3 (fun r4 S5 => mPr 1 1 v0 r4 S5 (fun S6 => mNa 8 7 S6 (fun r7 S8 => mPr 1 2 v0 r7 S8 (fun S9 => mNa 8 7 S9 (fun r10 S11 => mPr 1 3 v0 r10 S11 (fun S12 => some S12))))))))
def rm_X1_init : Room := { frames := 1, cells := 4, slots := 20, locals := 12 }
set_option maxRecDepth 100000 in
set_option maxHeartbeats 4000000 in
theorem ok_X1_init {l : Launch} {E : mE} {v0 : Int32} {S : mS} {F : mS} (hF : f_X1_init v0 S = some F) : mMv l yX1_init cX1_init 1 none rm_X1_init 4 20 [.ref (mA E.b v0)] E S F := by
  refine m_met_v (by decide) (Nat.le_of_ble_eq_true rfl) (fun p e s m args below meth c ls hin C hI hl => ?_)
  have hx := C.1
  have hin2 := hin rfl
  have hb := C.2.1
  have hl : lv_has ls 1 [(0, .ref (mA E.b v0))] := hl
  generalize s.heap = H at hI ⊢
  generalize ([] : List Loc) = locs at hI ⊢
  refine lv_aload_n hx hb dX1_init_0 rfl (lv_at hl 0 rfl) ?_
  refine m_objInit C ow_X1_3 hl.1 (Nat.le_of_ble_eq_true rfl) (Nat.le_of_ble_eq_true rfl) dX1_init_1 ?_
  refine lv_aload_n hx hb dX1_init_4 rfl (lv_at hl 0 rfl) ?_
  refine lv_iconst (v := 3) hx hb dX1_init_5 (by decide) ?_
  refine m_newa C (atype := .int) (kd := 8) (ty := .int) (N := 3) aw_int rfl ⟨rfl, by decide, by decide, rfl, by decide⟩ (fun _ _ h => h) rfl (by decide) hI hF (Nat.le_of_ble_eq_true rfl) (Nat.le_of_ble_eq_true rfl) dX1_init_6 (fun r1 S2 H hF hI => ?_)
  refine m_putR C hin2 fd_X1_9 (fun _ => ⟨rfl, rfl⟩) hI hF dX1_init_8 (fun S3 H locs hF hI => ?_)
  refine lv_aload_n hx hb dX1_init_11 rfl (lv_at hl 0 rfl) ?_
  refine lv_iconst (v := 3) hx hb dX1_init_12 (by decide) ?_
  refine m_newa C (atype := .int) (kd := 8) (ty := .int) (N := 3) aw_int rfl ⟨rfl, by decide, by decide, rfl, by decide⟩ (fun _ _ h => h) rfl (by decide) hI hF (Nat.le_of_ble_eq_true rfl) (Nat.le_of_ble_eq_true rfl) dX1_init_13 (fun r4 S5 H hF hI => ?_)
  refine m_putR C hin2 fd_X1_15 (fun _ => ⟨rfl, rfl⟩) hI hF dX1_init_15 (fun S6 H locs hF hI => ?_)
  refine lv_aload_n hx hb dX1_init_18 rfl (lv_at hl 0 rfl) ?_
  refine lv_bipush (v := 7) hx hb dX1_init_19 (by decide) ?_
  refine m_newa C (atype := .int) (kd := 8) (ty := .int) (N := 7) aw_int rfl ⟨rfl, by decide, by decide, rfl, by decide⟩ (fun _ _ h => h) rfl (by decide) hI hF (Nat.le_of_ble_eq_true rfl) (Nat.le_of_ble_eq_true rfl) dX1_init_21 (fun r7 S8 H hF hI => ?_)
  refine m_putR C hin2 fd_X1_18 (fun _ => ⟨rfl, rfl⟩) hI hF dX1_init_23 (fun S9 H locs hF hI => ?_)
  refine lv_aload_n hx hb dX1_init_26 rfl (lv_at hl 0 rfl) ?_
  refine lv_bipush (v := 7) hx hb dX1_init_27 (by decide) ?_
  refine m_newa C (atype := .int) (kd := 8) (ty := .int) (N := 7) aw_int rfl ⟨rfl, by decide, by decide, rfl, by decide⟩ (fun _ _ h => h) rfl (by decide) hI hF (Nat.le_of_ble_eq_true rfl) (Nat.le_of_ble_eq_true rfl) dX1_init_29 (fun r10 S11 H hF hI => ?_)
  refine m_putR C hin2 fd_X1_21 (fun _ => ⟨rfl, rfl⟩) hI hF dX1_init_31 (fun S12 H locs hF hI => ?_)
  exact m_vret C hI hF dX1_init_34
noncomputable def f_X1_empty (v0 : Int32) (S : mS) : Option mS := mP 1 4 v0 0 S (fun S1 => mP 1 5 v0 0 S1 (fun S2 => mP 1 6 v0 0 S2 (fun S3 => some S3)))
def rm_X1_empty : Room := { frames := 0, cells := 0, slots := 0, locals := 0 }
set_option maxRecDepth 100000 in
set_option maxHeartbeats 4000000 in
theorem ok_X1_empty {l : Launch} {E : mE} {v0 : Int32} {S : mS} {F : mS} (hF : f_X1_empty v0 S = some F) : mMv l yX1_empty cX1_empty 1 none rm_X1_empty 0 0 [.ref (mA E.b v0)] E S F := by
  refine m_met_v (by decide) (Nat.le_of_ble_eq_true rfl) (fun p e s m args below meth c ls hin C hI hl => ?_)
  have hx := C.1
  have hb := C.2.1
  have hl : lv_has ls 1 [(0, .ref (mA E.b v0))] := hl
  generalize s.heap = H at hI ⊢
  generalize ([] : List Loc) = locs at hI ⊢
  refine lv_aload_n hx hb dX1_empty_0 rfl (lv_at hl 0 rfl) ?_
  refine lv_iconst (v := 0) hx hb dX1_empty_1 (by decide) ?_
  refine m_put C fd_X1_24 hI hF dX1_empty_2 (fun S1 H locs hF hI => ?_)
  refine lv_aload_n hx hb dX1_empty_5 rfl (lv_at hl 0 rfl) ?_
  refine lv_iconst (v := 0) hx hb dX1_empty_6 (by decide) ?_
  refine m_put C fd_X1_28 hI hF dX1_empty_7 (fun S2 H locs hF hI => ?_)
  refine lv_aload_n hx hb dX1_empty_10 rfl (lv_at hl 0 rfl) ?_
  refine lv_iconst (v := 0) hx hb dX1_empty_11 (by decide) ?_
  refine m_put C fd_X1_31 hI hF dX1_empty_12 (fun S3 H locs hF hI => ?_)
  exact m_vret C hI hF dX1_empty_15
noncomputable def f_X1_copy (v0 : Int32) (v1 : Int32) (S : mS) : Option mS := mGr 1 0 v1 S (fun r1 => mGr 1 0 v0 S (fun r2 => mCy r1 0 r2 0 3 S (fun S3 => mGr 1 1 v1 S3 (fun r4 => mGr 1 1 v0 S3 (fun r5 => mCy r4 0 r5 0 3 S3 (fun S6 => mGr 1 2 v1 S6 (fun r7 => mGr 1 2 v0 S6 (fun r8 => mCy r7 0 r8 0 7 S6 (fun S9 => mGr 1 3 v1 S9 (fun r10 => mGr 1 3 v0 S9 (fun r11 => mCy r10 0 r11 0 7 S9 (fun S12 => mG 1 4 v1 S12 (fun r13 => mP 1 4 v0 r13 S12 (fun S14 => mG 1 5 v1 S14 (fun r15 => mP 1 5 v0 r15 S14 (fun S16 => mG 1 6 v1 S16 (fun r17 => mP 1 6 v0 r17 S16 (fun S18 => some S18))))))))))))))))))
def rm_X1_copy : Room := { frames := 1, cells := 0, slots := 0, locals := 18 }
set_option maxRecDepth 100000 in
set_option maxHeartbeats 4000000 in
theorem ok_X1_copy {l : Launch} {E : mE} {v0 : Int32} {v1 : Int32} {S : mS} {F : mS} (hF : f_X1_copy v0 v1 S = some F) : mMv l yX1_copy cX1_copy 2 none rm_X1_copy 0 0 [.ref (mA E.b v0), .ref (mA E.b v1)] E S F := by
  refine m_met_v (by decide) (Nat.le_of_ble_eq_true rfl) (fun p e s m args below meth c ls hin C hI hl => ?_)
  have hx := C.1
  have hb := C.2.1
  have hl : lv_has ls 2 [(0, .ref (mA E.b v0)), (1, .ref (mA E.b v1))] := hl
  generalize s.heap = H at hI ⊢
  generalize ([] : List Loc) = locs at hI ⊢
  refine lv_aload_n hx hb dX1_copy_0 rfl (lv_at hl 1 rfl) ?_
  refine m_getR C fd_X1_9 hI hF dX1_copy_1 (fun r1 hF => ?_)
  refine lv_iconst (v := 0) hx hb dX1_copy_4 (by decide) ?_
  refine lv_aload_n hx hb dX1_copy_5 rfl (lv_at hl 0 rfl) ?_
  refine m_getR C fd_X1_9 hI hF dX1_copy_6 (fun r2 hF => ?_)
  refine lv_iconst (v := 0) hx hb dX1_copy_9 (by decide) ?_
  refine lv_iconst (v := 3) hx hb dX1_copy_10 (by decide) ?_
  refine m_copy C cw_X1_34 hl.1 hI hF (Nat.le_of_ble_eq_true rfl) (Nat.le_of_ble_eq_true rfl) dX1_copy_11 (fun S3 H locs hF hI => ?_)
  refine lv_aload_n hx hb dX1_copy_14 rfl (lv_at hl 1 rfl) ?_
  refine m_getR C fd_X1_15 hI hF dX1_copy_15 (fun r4 hF => ?_)
  refine lv_iconst (v := 0) hx hb dX1_copy_18 (by decide) ?_
  refine lv_aload_n hx hb dX1_copy_19 rfl (lv_at hl 0 rfl) ?_
  refine m_getR C fd_X1_15 hI hF dX1_copy_20 (fun r5 hF => ?_)
  refine lv_iconst (v := 0) hx hb dX1_copy_23 (by decide) ?_
  refine lv_iconst (v := 3) hx hb dX1_copy_24 (by decide) ?_
  refine m_copy C cw_X1_34 hl.1 hI hF (Nat.le_of_ble_eq_true rfl) (Nat.le_of_ble_eq_true rfl) dX1_copy_25 (fun S6 H locs hF hI => ?_)
  refine lv_aload_n hx hb dX1_copy_28 rfl (lv_at hl 1 rfl) ?_
  refine m_getR C fd_X1_18 hI hF dX1_copy_29 (fun r7 hF => ?_)
  refine lv_iconst (v := 0) hx hb dX1_copy_32 (by decide) ?_
  refine lv_aload_n hx hb dX1_copy_33 rfl (lv_at hl 0 rfl) ?_
  refine m_getR C fd_X1_18 hI hF dX1_copy_34 (fun r8 hF => ?_)
  refine lv_iconst (v := 0) hx hb dX1_copy_37 (by decide) ?_
  refine lv_bipush (v := 7) hx hb dX1_copy_38 (by decide) ?_
  refine m_copy C cw_X1_34 hl.1 hI hF (Nat.le_of_ble_eq_true rfl) (Nat.le_of_ble_eq_true rfl) dX1_copy_40 (fun S9 H locs hF hI => ?_)
  refine lv_aload_n hx hb dX1_copy_43 rfl (lv_at hl 1 rfl) ?_
  refine m_getR C fd_X1_21 hI hF dX1_copy_44 (fun r10 hF => ?_)
  refine lv_iconst (v := 0) hx hb dX1_copy_47 (by decide) ?_
  refine lv_aload_n hx hb dX1_copy_48 rfl (lv_at hl 0 rfl) ?_
  refine m_getR C fd_X1_21 hI hF dX1_copy_49 (fun r11 hF => ?_)
  refine lv_iconst (v := 0) hx hb dX1_copy_52 (by decide) ?_
  refine lv_bipush (v := 7) hx hb dX1_copy_53 (by decide) ?_
  refine m_copy C cw_X1_34 hl.1 hI hF (Nat.le_of_ble_eq_true rfl) (Nat.le_of_ble_eq_true rfl) dX1_copy_55 (fun S12 H locs hF hI => ?_)
  refine lv_aload_n hx hb dX1_copy_58 rfl (lv_at hl 0 rfl) ?_
  refine lv_aload_n hx hb dX1_copy_59 rfl (lv_at hl 1 rfl) ?_
  refine m_get C fd_X1_24 hI hF dX1_copy_60 (fun r13 hF => ?_)
  refine m_put C fd_X1_24 hI hF dX1_copy_63 (fun S14 H locs hF hI => ?_)
  refine lv_aload_n hx hb dX1_copy_66 rfl (lv_at hl 0 rfl) ?_
  refine lv_aload_n hx hb dX1_copy_67 rfl (lv_at hl 1 rfl) ?_
  refine m_get C fd_X1_28 hI hF dX1_copy_68 (fun r15 hF => ?_)
  refine m_put C fd_X1_28 hI hF dX1_copy_71 (fun S16 H locs hF hI => ?_)
  refine lv_aload_n hx hb dX1_copy_74 rfl (lv_at hl 0 rfl) ?_
  refine lv_aload_n hx hb dX1_copy_75 rfl (lv_at hl 1 rfl) ?_
  refine m_get C fd_X1_31 hI hF dX1_copy_76 (fun r17 hF => ?_)
  refine m_put C fd_X1_31 hI hF dX1_copy_79 (fun S18 H locs hF hI => ?_)
  exact m_vret C hI hF dX1_copy_82
noncomputable def f_X1_addWhistle (v0 : Int32) (v1 : Int32) (v2 : Int32) (S : mS) : Option (Int32 × mS) := mG 1 4 v0 S (fun r1 => if r1 < 3 then (mGr 1 0 v0 S (fun r2 => mG 1 4 v0 S (fun r3 => mXs r2 r3 v1 S (fun S4 => mGr 1 1 v0 S4 (fun r5 => mG 1 4 v0 S4 (fun r6 => mXs r5 r6 v2 S4 (fun S7 => mG 1 4 v0 S7 (fun r8 => mP 1 4 v0 (r8 + 1) S7 (fun S9 => mG 1 4 v0 S9 (fun r10 => some (r10 - 1, S9))))))))))) else (some ((-4), S)))
def rm_X1_addWhistle : Room := { frames := 0, cells := 0, slots := 0, locals := 0 }
set_option maxRecDepth 100000 in
set_option maxHeartbeats 4000000 in
theorem ok_X1_addWhistle {l : Launch} {E : mE} {v0 : Int32} {v1 : Int32} {v2 : Int32} {S : mS} {F : Int32 × mS} (hF : f_X1_addWhistle v0 v1 v2 S = some F) : mMi l yX1_addWhistle cX1_addWhistle 3 (some .int) rm_X1_addWhistle 0 0 [.ref (mA E.b v0), .int v1, .int v2] E S F := by
  refine m_met_i (by decide) (Nat.le_of_ble_eq_true rfl) (fun p e s m args below meth c ls hin C hI hl => ?_)
  have hx := C.1
  have hb := C.2.1
  have hl : lv_has ls 3 [(0, .ref (mA E.b v0)), (1, .int v1), (2, .int v2)] := hl
  generalize s.heap = H at hI ⊢
  generalize ([] : List Loc) = locs at hI ⊢
  refine lv_aload_n hx hb dX1_addWhistle_0 rfl (lv_at hl 0 rfl) ?_
  refine m_get C fd_X1_24 hI hF dX1_addWhistle_1 (fun r1 hF => ?_)
  refine lv_iconst (v := 3) hx hb dX1_addWhistle_4 (by decide) ?_
  refine m_icmp_lt C (tgt := 11) hF dX1_addWhistle_5 (by decide) (fun hF => ?_) (fun hF => ?_)
  · refine lv_aload_n hx hb dX1_addWhistle_11 rfl (lv_at hl 0 rfl) ?_
    refine m_getR C fd_X1_9 hI hF dX1_addWhistle_12 (fun r2 hF => ?_)
    refine lv_aload_n hx hb dX1_addWhistle_15 rfl (lv_at hl 0 rfl) ?_
    refine m_get C fd_X1_24 hI hF dX1_addWhistle_16 (fun r3 hF => ?_)
    refine lv_iload_n hx hb dX1_addWhistle_19 rfl (lv_at hl 1 rfl) ?_
    refine m_iast C hI hF dX1_addWhistle_20 (fun S4 H locs hF hI => ?_)
    refine lv_aload_n hx hb dX1_addWhistle_21 rfl (lv_at hl 0 rfl) ?_
    refine m_getR C fd_X1_15 hI hF dX1_addWhistle_22 (fun r5 hF => ?_)
    refine lv_aload_n hx hb dX1_addWhistle_25 rfl (lv_at hl 0 rfl) ?_
    refine m_get C fd_X1_24 hI hF dX1_addWhistle_26 (fun r6 hF => ?_)
    refine lv_iload_n hx hb dX1_addWhistle_29 rfl (lv_at hl 2 rfl) ?_
    refine m_iast C hI hF dX1_addWhistle_30 (fun S7 H locs hF hI => ?_)
    refine lv_aload_n hx hb dX1_addWhistle_31 rfl (lv_at hl 0 rfl) ?_
    refine lv_dup hx hb dX1_addWhistle_32 rfl ?_
    refine m_get C fd_X1_24 hI hF dX1_addWhistle_33 (fun r8 hF => ?_)
    refine lv_iconst (v := 1) hx hb dX1_addWhistle_36 (by decide) ?_
    refine lv_iadd hx hb dX1_addWhistle_37 ?_
    refine m_put C fd_X1_24 hI hF dX1_addWhistle_38 (fun S9 H locs hF hI => ?_)
    refine lv_aload_n hx hb dX1_addWhistle_41 rfl (lv_at hl 0 rfl) ?_
    refine m_get C fd_X1_24 hI hF dX1_addWhistle_42 (fun r10 hF => ?_)
    refine lv_iconst (v := 1) hx hb dX1_addWhistle_45 (by decide) ?_
    refine lv_isub hx hb dX1_addWhistle_46 ?_
    exact m_ireti C hI hF dX1_addWhistle_47
  · refine lv_bipush (v := (-4)) hx hb dX1_addWhistle_8 (by decide) ?_
    exact m_ireti C hI hF dX1_addWhistle_10
noncomputable def f_X1_addSheep (v0 : Int32) (v1 : Int32) (v2 : Int32) (S : mS) : Option (Int32 × mS) := mG 1 5 v0 S (fun r1 => if r1 < 7 then (mGr 1 2 v0 S (fun r2 => mG 1 5 v0 S (fun r3 => mXs r2 r3 v1 S (fun S4 => mGr 1 3 v0 S4 (fun r5 => mG 1 5 v0 S4 (fun r6 => mXs r5 r6 v2 S4 (fun S7 => mG 1 5 v0 S7 (fun r8 => mP 1 5 v0 (r8 + 1) S7 (fun S9 => mG 1 5 v0 S9 (fun r10 => some (r10 - 1, S9))))))))))) else (some ((-4), S)))
def rm_X1_addSheep : Room := { frames := 0, cells := 0, slots := 0, locals := 0 }
set_option maxRecDepth 100000 in
set_option maxHeartbeats 4000000 in
theorem ok_X1_addSheep {l : Launch} {E : mE} {v0 : Int32} {v1 : Int32} {v2 : Int32} {S : mS} {F : Int32 × mS} (hF : f_X1_addSheep v0 v1 v2 S = some F) : mMi l yX1_addSheep cX1_addSheep 3 (some .int) rm_X1_addSheep 0 0 [.ref (mA E.b v0), .int v1, .int v2] E S F := by
  refine m_met_i (by decide) (Nat.le_of_ble_eq_true rfl) (fun p e s m args below meth c ls hin C hI hl => ?_)
  have hx := C.1
  have hb := C.2.1
  have hl : lv_has ls 3 [(0, .ref (mA E.b v0)), (1, .int v1), (2, .int v2)] := hl
  generalize s.heap = H at hI ⊢
  generalize ([] : List Loc) = locs at hI ⊢
  refine lv_aload_n hx hb dX1_addSheep_0 rfl (lv_at hl 0 rfl) ?_
  refine m_get C fd_X1_28 hI hF dX1_addSheep_1 (fun r1 hF => ?_)
  refine lv_bipush (v := 7) hx hb dX1_addSheep_4 (by decide) ?_
  refine m_icmp_lt C (tgt := 12) hF dX1_addSheep_6 (by decide) (fun hF => ?_) (fun hF => ?_)
  · refine lv_aload_n hx hb dX1_addSheep_12 rfl (lv_at hl 0 rfl) ?_
    refine m_getR C fd_X1_18 hI hF dX1_addSheep_13 (fun r2 hF => ?_)
    refine lv_aload_n hx hb dX1_addSheep_16 rfl (lv_at hl 0 rfl) ?_
    refine m_get C fd_X1_28 hI hF dX1_addSheep_17 (fun r3 hF => ?_)
    refine lv_iload_n hx hb dX1_addSheep_20 rfl (lv_at hl 1 rfl) ?_
    refine m_iast C hI hF dX1_addSheep_21 (fun S4 H locs hF hI => ?_)
    refine lv_aload_n hx hb dX1_addSheep_22 rfl (lv_at hl 0 rfl) ?_
    refine m_getR C fd_X1_21 hI hF dX1_addSheep_23 (fun r5 hF => ?_)
    refine lv_aload_n hx hb dX1_addSheep_26 rfl (lv_at hl 0 rfl) ?_
    refine m_get C fd_X1_28 hI hF dX1_addSheep_27 (fun r6 hF => ?_)
    refine lv_iload_n hx hb dX1_addSheep_30 rfl (lv_at hl 2 rfl) ?_
    refine m_iast C hI hF dX1_addSheep_31 (fun S7 H locs hF hI => ?_)
    refine lv_aload_n hx hb dX1_addSheep_32 rfl (lv_at hl 0 rfl) ?_
    refine lv_dup hx hb dX1_addSheep_33 rfl ?_
    refine m_get C fd_X1_28 hI hF dX1_addSheep_34 (fun r8 hF => ?_)
    refine lv_iconst (v := 1) hx hb dX1_addSheep_37 (by decide) ?_
    refine lv_iadd hx hb dX1_addSheep_38 ?_
    refine m_put C fd_X1_28 hI hF dX1_addSheep_39 (fun S9 H locs hF hI => ?_)
    refine lv_aload_n hx hb dX1_addSheep_42 rfl (lv_at hl 0 rfl) ?_
    refine m_get C fd_X1_28 hI hF dX1_addSheep_43 (fun r10 hF => ?_)
    refine lv_iconst (v := 1) hx hb dX1_addSheep_46 (by decide) ?_
    refine lv_isub hx hb dX1_addSheep_47 ?_
    exact m_ireti C hI hF dX1_addSheep_48
  · refine lv_bipush (v := (-4)) hx hb dX1_addSheep_9 (by decide) ?_
    exact m_ireti C hI hF dX1_addSheep_11
noncomputable def f_X1_reach_25 (S : mS) (t0 : Int32) : Option Int32 := some t0
noncomputable def f_X1_reach (v0 : Int32) (v1 : Int32) (S : mS) : Option Int32 := mRc 1 v0 S (mCp (f_X1_hasWhistle v0 v1 S) (fun r1 => if r1 = 0 then ((f_X1_reach_25 S) 0) else (mGr 1 0 v0 S (fun r2 => mX 8 r2 v1 S (fun r3 => mG 1 6 v0 S (fun r4 => mCp (f_X6_whistleReach r3 r4) (fun r5 => (f_X1_reach_25 S) r5)))))))
def rm_X1_reach : Room := { frames := 2, cells := 0, slots := 0, locals := 43 }
set_option maxRecDepth 100000 in
set_option maxHeartbeats 4000000 in
theorem bl_X1_reach_25 {p : Program} {l : Launch} {e : Env} {s : State} {m : MethodId} {args : Array Value} {below : List Frame} {meth : Method} {c : Code} {E : mE} {n0 : Nat} {r : Int32} {S : mS} (C : mCx p s m args meth c cX1_reach 2 RX1 (some .int) E n0) : ∀  (t0 : Int32) (H : Heap) (locs : List Loc) (ls : Array Slot), f_X1_reach_25 S t0 = some r → mIv s E S H locs 0 → lv_has ls 2 [] → W p l e rm_X1_reach s m args below meth c H locs 0 0 (mQi below args s 0 0 n0 E (r, S)) (F0 m 25 ls [.int t0]) := by
  have hx := C.1
  have hb := C.2.1
  intro t0 H locs ls hF hI hl
  exact m_iretiR C hI hF dX1_reach_25
set_option maxRecDepth 100000 in
set_option maxHeartbeats 4000000 in
theorem ok_X1_reach {l : Launch} {E : mE} {v0 : Int32} {v1 : Int32} {S : mS} {r : Int32} (hF : f_X1_reach v0 v1 S = some r) : mMi l yX1_reach cX1_reach 2 (some .int) rm_X1_reach 0 0 [.ref (mA E.b v0), .int v1] E S (r, S) := by
  refine m_met_i (by decide) (Nat.le_of_ble_eq_true rfl) (fun p e s m args below meth c ls hin C hI hl => ?_)
  have hx := C.1
  have hb := C.2.1
  have hl : lv_has ls 2 [(0, .ref (mA E.b v0)), (1, .int v1)] := hl
  generalize s.heap = H at hI ⊢
  generalize ([] : List Loc) = locs at hI ⊢
  refine lv_aload_n hx hb dX1_reach_0 rfl (lv_at hl 0 rfl) ?_
  refine lv_iload_n hx hb dX1_reach_1 rfl (lv_at hl 1 rfl) ?_
  refine m_callViR C cd_X1_44 ⟨rfl, by decide⟩ hl.1 hI hF (fun _ h => ok_X1_hasWhistle h) rfl rfl ⟨rfl, rfl, Nat.le_of_ble_eq_true rfl, Nat.le_of_ble_eq_true rfl⟩ ⟨Nat.le_of_ble_eq_true rfl, Nat.le_of_ble_eq_true rfl⟩ (Nat.le_of_ble_eq_true rfl) dX1_reach_2 (fun r1 H locs hF hI => ?_)
  refine m_if_eq C (tgt := 24) hF dX1_reach_5 (by decide) (fun hF => ?_) (fun hF => ?_)
  · refine lv_iconst (v := 0) hx hb dX1_reach_24 (by decide) ?_
    exact (bl_X1_reach_25 C) 0 _ _ _ hF hI (lv_sub hl [] rfl)
  · refine lv_aload_n hx hb dX1_reach_8 rfl (lv_at hl 0 rfl) ?_
    refine m_getR C fd_X1_9 hI hF dX1_reach_9 (fun r2 hF => ?_)
    refine lv_iload_n hx hb dX1_reach_12 rfl (lv_at hl 1 rfl) ?_
    refine m_iald C hI hF dX1_reach_13 (fun r3 hF => ?_)
    refine lv_aload_n hx hb dX1_reach_14 rfl (lv_at hl 0 rfl) ?_
    refine m_get C fd_X1_31 hI hF dX1_reach_15 (fun r4 hF => ?_)
    refine m_callNiR C cd_X1_48 hl.1 hI hF (fun _ h => ok_X6_whistleReach h) rfl rfl ⟨rfl, rfl, Nat.le_of_ble_eq_true rfl, Nat.le_of_ble_eq_true rfl⟩ ⟨Nat.le_of_ble_eq_true rfl, Nat.le_of_ble_eq_true rfl⟩ (Nat.le_of_ble_eq_true rfl) dX1_reach_18 (fun r5 H locs hF hI => ?_)
    refine lv_goto (tgt := 25) hx hb dX1_reach_21 (by decide) ?_
    exact (bl_X1_reach_25 C) r5 _ _ _ hF hI (lv_sub hl [] rfl)
noncomputable def f_X1_whistleTo_35 (S : mS) (t0 : Int32) : Option Int32 := some t0
noncomputable def f_X1_whistleTo (v0 : Int32) (v1 : Int32) (v2 : Int32) (S : mS) : Option Int32 := mRc 1 v0 S (mCp (f_X1_hasWhistle v0 v1 S) (fun r1 => if r1 = 0 then ((f_X1_whistleTo_35 S) 0) else (mGr 1 1 v0 S (fun r2 => mX 8 r2 v1 S (fun r3 => mGr 1 0 v0 S (fun r4 => mX 8 r4 v1 S (fun r5 => mG 1 6 v0 S (fun r6 => mCp (f_X6_whistleReach r5 r6) (fun r7 => mCp (f_X6_moved r3 v2 r7) (fun r8 => (f_X1_whistleTo_35 S) r8))))))))))
def rm_X1_whistleTo : Room := { frames := 2, cells := 0, slots := 0, locals := 43 }
set_option maxRecDepth 100000 in
set_option maxHeartbeats 4000000 in
theorem bl_X1_whistleTo_35 {p : Program} {l : Launch} {e : Env} {s : State} {m : MethodId} {args : Array Value} {below : List Frame} {meth : Method} {c : Code} {E : mE} {n0 : Nat} {r : Int32} {S : mS} (C : mCx p s m args meth c cX1_whistleTo 3 RX1 (some .int) E n0) : ∀  (t0 : Int32) (H : Heap) (locs : List Loc) (ls : Array Slot), f_X1_whistleTo_35 S t0 = some r → mIv s E S H locs 0 → lv_has ls 3 [] → W p l e rm_X1_whistleTo s m args below meth c H locs 0 0 (mQi below args s 0 0 n0 E (r, S)) (F0 m 35 ls [.int t0]) := by
  have hx := C.1
  have hb := C.2.1
  intro t0 H locs ls hF hI hl
  exact m_iretiR C hI hF dX1_whistleTo_35
set_option maxRecDepth 100000 in
set_option maxHeartbeats 4000000 in
theorem ok_X1_whistleTo {l : Launch} {E : mE} {v0 : Int32} {v1 : Int32} {v2 : Int32} {S : mS} {r : Int32} (hF : f_X1_whistleTo v0 v1 v2 S = some r) : mMi l yX1_whistleTo cX1_whistleTo 3 (some .int) rm_X1_whistleTo 0 0 [.ref (mA E.b v0), .int v1, .int v2] E S (r, S) := by
  refine m_met_i (by decide) (Nat.le_of_ble_eq_true rfl) (fun p e s m args below meth c ls hin C hI hl => ?_)
  have hx := C.1
  have hb := C.2.1
  have hl : lv_has ls 3 [(0, .ref (mA E.b v0)), (1, .int v1), (2, .int v2)] := hl
  generalize s.heap = H at hI ⊢
  generalize ([] : List Loc) = locs at hI ⊢
  refine lv_aload_n hx hb dX1_whistleTo_0 rfl (lv_at hl 0 rfl) ?_
  refine lv_iload_n hx hb dX1_whistleTo_1 rfl (lv_at hl 1 rfl) ?_
  refine m_callViR C cd_X1_44 ⟨rfl, by decide⟩ hl.1 hI hF (fun _ h => ok_X1_hasWhistle h) rfl rfl ⟨rfl, rfl, Nat.le_of_ble_eq_true rfl, Nat.le_of_ble_eq_true rfl⟩ ⟨Nat.le_of_ble_eq_true rfl, Nat.le_of_ble_eq_true rfl⟩ (Nat.le_of_ble_eq_true rfl) dX1_whistleTo_2 (fun r1 H locs hF hI => ?_)
  refine m_if_eq C (tgt := 34) hF dX1_whistleTo_5 (by decide) (fun hF => ?_) (fun hF => ?_)
  · refine lv_iconst (v := 0) hx hb dX1_whistleTo_34 (by decide) ?_
    exact (bl_X1_whistleTo_35 C) 0 _ _ _ hF hI (lv_sub hl [] rfl)
  · refine lv_aload_n hx hb dX1_whistleTo_8 rfl (lv_at hl 0 rfl) ?_
    refine m_getR C fd_X1_15 hI hF dX1_whistleTo_9 (fun r2 hF => ?_)
    refine lv_iload_n hx hb dX1_whistleTo_12 rfl (lv_at hl 1 rfl) ?_
    refine m_iald C hI hF dX1_whistleTo_13 (fun r3 hF => ?_)
    refine lv_iload_n hx hb dX1_whistleTo_14 rfl (lv_at hl 2 rfl) ?_
    refine lv_aload_n hx hb dX1_whistleTo_15 rfl (lv_at hl 0 rfl) ?_
    refine m_getR C fd_X1_9 hI hF dX1_whistleTo_16 (fun r4 hF => ?_)
    refine lv_iload_n hx hb dX1_whistleTo_19 rfl (lv_at hl 1 rfl) ?_
    refine m_iald C hI hF dX1_whistleTo_20 (fun r5 hF => ?_)
    refine lv_aload_n hx hb dX1_whistleTo_21 rfl (lv_at hl 0 rfl) ?_
    refine m_get C fd_X1_31 hI hF dX1_whistleTo_22 (fun r6 hF => ?_)
    refine m_callNiR C cd_X1_48 hl.1 hI hF (fun _ h => ok_X6_whistleReach h) rfl rfl ⟨rfl, rfl, Nat.le_of_ble_eq_true rfl, Nat.le_of_ble_eq_true rfl⟩ ⟨Nat.le_of_ble_eq_true rfl, Nat.le_of_ble_eq_true rfl⟩ (Nat.le_of_ble_eq_true rfl) dX1_whistleTo_25 (fun r7 H locs hF hI => ?_)
    refine m_callNiR C cd_X1_52 hl.1 hI hF (fun _ h => ok_X6_moved h) rfl rfl ⟨rfl, rfl, Nat.le_of_ble_eq_true rfl, Nat.le_of_ble_eq_true rfl⟩ ⟨Nat.le_of_ble_eq_true rfl, Nat.le_of_ble_eq_true rfl⟩ (Nat.le_of_ble_eq_true rfl) dX1_whistleTo_28 (fun r8 H locs hF hI => ?_)
    refine lv_goto (tgt := 35) hx hb dX1_whistleTo_31 (by decide) ?_
    exact (bl_X1_whistleTo_35 C) r8 _ _ _ hF hI (lv_sub hl [] rfl)
noncomputable def f_X1_sheepTo_33 (S : mS) (t0 : Int32) : Option Int32 := some t0
noncomputable def f_X1_sheepTo (v0 : Int32) (v1 : Int32) (v2 : Int32) (v3 : Int32) (S : mS) : Option Int32 := mRc 1 v0 S (mCp (f_X1_hasSheep v0 v1 S) (fun r1 => if r1 = 0 then ((f_X1_sheepTo_33 S) 0) else (mGr 1 2 v0 S (fun r2 => mX 8 r2 v1 S (fun r3 => mGr 1 3 v0 S (fun r4 => mX 8 r4 v1 S (fun r5 => mRc 1 v0 S (mCp (f_X1_whistleTo v0 v2 v3 S) (fun r6 => mCp (f_X6_givenWay r3 r5 r6) (fun r7 => (f_X1_sheepTo_33 S) r7))))))))))
def rm_X1_sheepTo : Room := { frames := 3, cells := 0, slots := 0, locals := 65 }
set_option maxRecDepth 100000 in
set_option maxHeartbeats 4000000 in
theorem bl_X1_sheepTo_33 {p : Program} {l : Launch} {e : Env} {s : State} {m : MethodId} {args : Array Value} {below : List Frame} {meth : Method} {c : Code} {E : mE} {n0 : Nat} {r : Int32} {S : mS} (C : mCx p s m args meth c cX1_sheepTo 4 RX1 (some .int) E n0) : ∀  (t0 : Int32) (H : Heap) (locs : List Loc) (ls : Array Slot), f_X1_sheepTo_33 S t0 = some r → mIv s E S H locs 0 → lv_has ls 4 [] → W p l e rm_X1_sheepTo s m args below meth c H locs 0 0 (mQi below args s 0 0 n0 E (r, S)) (F0 m 33 ls [.int t0]) := by
  have hx := C.1
  have hb := C.2.1
  intro t0 H locs ls hF hI hl
  exact m_iretiR C hI hF dX1_sheepTo_33
set_option maxRecDepth 100000 in
set_option maxHeartbeats 4000000 in
theorem ok_X1_sheepTo {l : Launch} {E : mE} {v0 : Int32} {v1 : Int32} {v2 : Int32} {v3 : Int32} {S : mS} {r : Int32} (hF : f_X1_sheepTo v0 v1 v2 v3 S = some r) : mMi l yX1_sheepTo cX1_sheepTo 4 (some .int) rm_X1_sheepTo 0 0 [.ref (mA E.b v0), .int v1, .int v2, .int v3] E S (r, S) := by
  refine m_met_i (by decide) (Nat.le_of_ble_eq_true rfl) (fun p e s m args below meth c ls hin C hI hl => ?_)
  have hx := C.1
  have hb := C.2.1
  have hl : lv_has ls 4 [(0, .ref (mA E.b v0)), (1, .int v1), (2, .int v2), (3, .int v3)] := hl
  generalize s.heap = H at hI ⊢
  generalize ([] : List Loc) = locs at hI ⊢
  refine lv_aload_n hx hb dX1_sheepTo_0 rfl (lv_at hl 0 rfl) ?_
  refine lv_iload_n hx hb dX1_sheepTo_1 rfl (lv_at hl 1 rfl) ?_
  refine m_callViR C cd_X1_56 ⟨rfl, by decide⟩ hl.1 hI hF (fun _ h => ok_X1_hasSheep h) rfl rfl ⟨rfl, rfl, Nat.le_of_ble_eq_true rfl, Nat.le_of_ble_eq_true rfl⟩ ⟨Nat.le_of_ble_eq_true rfl, Nat.le_of_ble_eq_true rfl⟩ (Nat.le_of_ble_eq_true rfl) dX1_sheepTo_2 (fun r1 H locs hF hI => ?_)
  refine m_if_eq C (tgt := 32) hF dX1_sheepTo_5 (by decide) (fun hF => ?_) (fun hF => ?_)
  · refine lv_iconst (v := 0) hx hb dX1_sheepTo_32 (by decide) ?_
    exact (bl_X1_sheepTo_33 C) 0 _ _ _ hF hI (lv_sub hl [] rfl)
  · refine lv_aload_n hx hb dX1_sheepTo_8 rfl (lv_at hl 0 rfl) ?_
    refine m_getR C fd_X1_18 hI hF dX1_sheepTo_9 (fun r2 hF => ?_)
    refine lv_iload_n hx hb dX1_sheepTo_12 rfl (lv_at hl 1 rfl) ?_
    refine m_iald C hI hF dX1_sheepTo_13 (fun r3 hF => ?_)
    refine lv_aload_n hx hb dX1_sheepTo_14 rfl (lv_at hl 0 rfl) ?_
    refine m_getR C fd_X1_21 hI hF dX1_sheepTo_15 (fun r4 hF => ?_)
    refine lv_iload_n hx hb dX1_sheepTo_18 rfl (lv_at hl 1 rfl) ?_
    refine m_iald C hI hF dX1_sheepTo_19 (fun r5 hF => ?_)
    refine lv_aload_n hx hb dX1_sheepTo_20 rfl (lv_at hl 0 rfl) ?_
    refine lv_iload_n hx hb dX1_sheepTo_21 rfl (lv_at hl 2 rfl) ?_
    refine lv_iload_n hx hb dX1_sheepTo_22 rfl (lv_at hl 3 rfl) ?_
    refine m_callViR C cd_X1_59 ⟨rfl, by decide⟩ hl.1 hI hF (fun _ h => ok_X1_whistleTo h) rfl rfl ⟨rfl, rfl, Nat.le_of_ble_eq_true rfl, Nat.le_of_ble_eq_true rfl⟩ ⟨Nat.le_of_ble_eq_true rfl, Nat.le_of_ble_eq_true rfl⟩ (Nat.le_of_ble_eq_true rfl) dX1_sheepTo_23 (fun r6 H locs hF hI => ?_)
    refine m_callNiR C cd_X1_62 hl.1 hI hF (fun _ h => ok_X6_givenWay h) rfl rfl ⟨rfl, rfl, Nat.le_of_ble_eq_true rfl, Nat.le_of_ble_eq_true rfl⟩ ⟨Nat.le_of_ble_eq_true rfl, Nat.le_of_ble_eq_true rfl⟩ (Nat.le_of_ble_eq_true rfl) dX1_sheepTo_26 (fun r7 H locs hF hI => ?_)
    refine lv_goto (tgt := 33) hx hb dX1_sheepTo_29 (by decide) ?_
    exact (bl_X1_sheepTo_33 C) r7 _ _ _ hF hI (lv_sub hl [] rfl)
noncomputable def f_X1_call_89 (v0 : Int32) (v3 : Int32) (S : mS) : Option (Int32 × mS) := mG 1 6 v0 S (fun r2 => mP 1 6 v0 (r2 + 1) S (fun S3 => some (v3, S3)))
noncomputable def f_X1_call_74 (k25 : Int32 → Int32 → Int32 → Int32 → mS → Option (Int32 × mS)) (v0 : Int32) (v1 : Int32) (v3 : Int32) (v4 : Int32) (v5 : Int32) (S : mS) : Option (Int32 × mS) := mGr 1 3 v0 S (fun r17 => mXs r17 v4 v5 S (fun S18 => k25 v0 v1 v3 (v4 + 1) S18))
noncomputable def f_X1_call_25 (k89 : Int32 → Int32 → mS → Option (Int32 × mS)) : Nat → Int32 → Int32 → Int32 → Int32 → mS → Option (Int32 × mS) := fun n => Nat.rec (motive := fun _ => Int32 → Int32 → Int32 → Int32 → mS → Option (Int32 × mS)) (fun _ _ _ _ _ => none) (fun _ rec v0 v1 v3 v4 S => mG 1 5 v0 S (fun r7 => if r7 ≤ v4 then (k89 v0 v3 S) else (mGr 1 2 v0 S (fun r8 => mX 8 r8 v4 S (fun r9 => mGr 1 3 v0 S (fun r10 => mX 8 r10 v4 S (fun r11 => mGr 1 1 v0 S (fun r12 => mX 8 r12 v1 S (fun r13 => mCp (f_X6_givenWay r9 r11 r13) (fun r14 => mGr 1 3 v0 S (fun r15 => mX 8 r15 v4 S (fun r16 => if r14 = r16 then ((f_X1_call_74 rec) v0 v1 v3 v4 r14 S) else ((f_X1_call_74 rec) v0 v1 (v3 + 1) v4 r14 S))))))))))))) n
theorem f_X1_call_25_s (k89 : Int32 → Int32 → mS → Option (Int32 × mS)) (n : Nat) (v0 : Int32) (v1 : Int32) (v3 : Int32) (v4 : Int32) (S : mS) : f_X1_call_25 k89 (n + 1) v0 v1 v3 v4 S = mG 1 5 v0 S (fun r7 => if r7 ≤ v4 then (k89 v0 v3 S) else (mGr 1 2 v0 S (fun r8 => mX 8 r8 v4 S (fun r9 => mGr 1 3 v0 S (fun r10 => mX 8 r10 v4 S (fun r11 => mGr 1 1 v0 S (fun r12 => mX 8 r12 v1 S (fun r13 => mCp (f_X6_givenWay r9 r11 r13) (fun r14 => mGr 1 3 v0 S (fun r15 => mX 8 r15 v4 S (fun r16 => if r14 = r16 then ((f_X1_call_74 (f_X1_call_25 k89 n)) v0 v1 v3 v4 r14 S) else ((f_X1_call_74 (f_X1_call_25 k89 n)) v0 v1 (v3 + 1) v4 r14 S)))))))))))) := rfl
noncomputable def f_X1_call (v0 : Int32) (v1 : Int32) (v2 : Int32) (S : mS) : Option (Int32 × mS) := mRc 1 v0 S (mCp (f_X1_hasWhistle v0 v1 S) (fun r1 => if r1 = 0 then ((f_X1_call_89) v0 0 S) else (mGr 1 1 v0 S (fun r4 => mRc 1 v0 S (mCp (f_X1_whistleTo v0 v1 v2 S) (fun r5 => mXs r4 v1 r5 S (fun S6 => (f_X1_call_25 (f_X1_call_89) 1000) v0 v1 0 0 S6)))))))
def rm_X1_call : Room := { frames := 3, cells := 0, slots := 0, locals := 65 }
set_option maxRecDepth 100000 in
set_option maxHeartbeats 4000000 in
theorem bl_X1_call_89 {p : Program} {l : Launch} {e : Env} {s : State} {m : MethodId} {args : Array Value} {below : List Frame} {meth : Method} {c : Code} {E : mE} {n0 : Nat} {F : Int32 × mS} (C : mCx p s m args meth c cX1_call 6 RX1 (some .int) E n0) : ∀  (v0 : Int32) (v3 : Int32) (S : mS) (H : Heap) (locs : List Loc) (ls : Array Slot), f_X1_call_89 v0 v3 S = some F → mIv s E S H locs 0 → lv_has ls 6 [(0, .ref (mA E.b v0)), (3, .int v3)] → W p l e rm_X1_call s m args below meth c H locs 0 0 (mQi below args s 0 0 n0 E F) (F0 m 89 ls []) := by
  have hx := C.1
  have hb := C.2.1
  intro v0 v3 S H locs ls hF hI hl
  refine lv_aload_n hx hb dX1_call_89 rfl (lv_at hl 0 rfl) ?_
  refine lv_dup hx hb dX1_call_90 rfl ?_
  refine m_get C fd_X1_31 hI hF dX1_call_91 (fun r2 hF => ?_)
  refine lv_iconst (v := 1) hx hb dX1_call_94 (by decide) ?_
  refine lv_iadd hx hb dX1_call_95 ?_
  refine m_put C fd_X1_31 hI hF dX1_call_96 (fun S3 H locs hF hI => ?_)
  refine lv_iload_n hx hb dX1_call_99 rfl (lv_at hl 1 rfl) ?_
  exact m_ireti C hI hF dX1_call_100
set_option maxRecDepth 100000 in
set_option maxHeartbeats 4000000 in
theorem bl_X1_call_74 {p : Program} {l : Launch} {e : Env} {s : State} {m : MethodId} {args : Array Value} {below : List Frame} {meth : Method} {c : Code} {E : mE} {n0 : Nat} {F : Int32 × mS} (C : mCx p s m args meth c cX1_call 6 RX1 (some .int) E n0) {k25 : Int32 → Int32 → Int32 → Int32 → mS → Option (Int32 × mS)} (hk25 : ∀ (v0 : Int32) (v1 : Int32) (v3 : Int32) (v4 : Int32) (S : mS) (H : Heap) (locs : List Loc) (ls : Array Slot), k25 v0 v1 v3 v4 S = some F → mIv s E S H locs 0 → lv_has ls 6 [(0, .ref (mA E.b v0)), (1, .int v1), (3, .int v3), (4, .int v4)] → W p l e rm_X1_call s m args below meth c H locs 0 0 (mQi below args s 0 0 n0 E F) (F0 m 25 ls [])) : ∀  (v0 : Int32) (v1 : Int32) (v3 : Int32) (v4 : Int32) (v5 : Int32) (S : mS) (H : Heap) (locs : List Loc) (ls : Array Slot), f_X1_call_74 k25 v0 v1 v3 v4 v5 S = some F → mIv s E S H locs 0 → lv_has ls 6 [(0, .ref (mA E.b v0)), (1, .int v1), (3, .int v3), (4, .int v4), (5, .int v5)] → W p l e rm_X1_call s m args below meth c H locs 0 0 (mQi below args s 0 0 n0 E F) (F0 m 74 ls []) := by
  have hx := C.1
  have hb := C.2.1
  intro v0 v1 v3 v4 v5 S H locs ls hF hI hl
  refine lv_aload_n hx hb dX1_call_74 rfl (lv_at hl 0 rfl) ?_
  refine m_getR C fd_X1_21 hI hF dX1_call_75 (fun r17 hF => ?_)
  refine lv_iload hx hb dX1_call_78 (lv_at hl 3 rfl) ?_
  refine lv_iload hx hb dX1_call_80 (lv_at hl 4 rfl) ?_
  refine m_iast C hI hF dX1_call_82 (fun S18 H locs hF hI => ?_)
  refine lv_iinc (v := v4 + 1) (lv' := [(4, .int (v4 + 1)), (0, .ref (mA E.b v0)), (1, .int v1), (3, .int v3), (5, .int v5)]) hx hb dX1_call_83 hl (k := 3) rfl rfl (by decide) rfl (fun ls hl => ?_)
  refine lv_goto (tgt := 25) hx hb dX1_call_86 (by decide) ?_
  exact hk25 v0 v1 v3 (v4 + 1) S18 _ _ _ hF hI (lv_sub hl [1, 2, 3, 0] rfl)
set_option maxRecDepth 100000 in
set_option maxHeartbeats 4000000 in
theorem bl_X1_call_25 {p : Program} {l : Launch} {e : Env} {s : State} {m : MethodId} {args : Array Value} {below : List Frame} {meth : Method} {c : Code} {E : mE} {n0 : Nat} {F : Int32 × mS} (C : mCx p s m args meth c cX1_call 6 RX1 (some .int) E n0) {k89 : Int32 → Int32 → mS → Option (Int32 × mS)} (hk89 : ∀ (v0 : Int32) (v3 : Int32) (S : mS) (H : Heap) (locs : List Loc) (ls : Array Slot), k89 v0 v3 S = some F → mIv s E S H locs 0 → lv_has ls 6 [(0, .ref (mA E.b v0)), (3, .int v3)] → W p l e rm_X1_call s m args below meth c H locs 0 0 (mQi below args s 0 0 n0 E F) (F0 m 89 ls [])) : ∀ (n : Nat)  (v0 : Int32) (v1 : Int32) (v3 : Int32) (v4 : Int32) (S : mS) (H : Heap) (locs : List Loc) (ls : Array Slot), f_X1_call_25 k89 n v0 v1 v3 v4 S = some F → mIv s E S H locs 0 → lv_has ls 6 [(0, .ref (mA E.b v0)), (1, .int v1), (3, .int v3), (4, .int v4)] → W p l e rm_X1_call s m args below meth c H locs 0 0 (mQi below args s 0 0 n0 E F) (F0 m 25 ls []) := by
  have hx := C.1
  have hb := C.2.1
  intro n
  induction n with
  | zero =>
    intro v0 v1 v3 v4 S H locs ls hF
    exact nomatch (show (none : Option (Int32 × mS)) = some F from hF)
  | succ n ih =>
    intro v0 v1 v3 v4 S H locs ls hF hI hl
    have hF := (f_X1_call_25_s k89 n v0 v1 v3 v4 S).symm.trans hF
    refine lv_iload hx hb dX1_call_25 (lv_at hl 3 rfl) ?_
    refine lv_aload_n hx hb dX1_call_27 rfl (lv_at hl 0 rfl) ?_
    refine m_get C fd_X1_28 hI hF dX1_call_28 (fun r7 hF => ?_)
    refine m_icmp_ge C (tgt := 89) hF dX1_call_31 (by decide) (fun hF => ?_) (fun hF => ?_)
    · exact hk89 v0 v3 S _ _ _ hF hI (lv_sub hl [0, 2] rfl)
    · refine lv_aload_n hx hb dX1_call_34 rfl (lv_at hl 0 rfl) ?_
      refine m_getR C fd_X1_18 hI hF dX1_call_35 (fun r8 hF => ?_)
      refine lv_iload hx hb dX1_call_38 (lv_at hl 3 rfl) ?_
      refine m_iald C hI hF dX1_call_40 (fun r9 hF => ?_)
      refine lv_aload_n hx hb dX1_call_41 rfl (lv_at hl 0 rfl) ?_
      refine m_getR C fd_X1_21 hI hF dX1_call_42 (fun r10 hF => ?_)
      refine lv_iload hx hb dX1_call_45 (lv_at hl 3 rfl) ?_
      refine m_iald C hI hF dX1_call_47 (fun r11 hF => ?_)
      refine lv_aload_n hx hb dX1_call_48 rfl (lv_at hl 0 rfl) ?_
      refine m_getR C fd_X1_15 hI hF dX1_call_49 (fun r12 hF => ?_)
      refine lv_iload_n hx hb dX1_call_52 rfl (lv_at hl 1 rfl) ?_
      refine m_iald C hI hF dX1_call_53 (fun r13 hF => ?_)
      refine m_callNiR C cd_X1_62 hl.1 hI hF (fun _ h => ok_X6_givenWay h) rfl rfl ⟨rfl, rfl, Nat.le_of_ble_eq_true rfl, Nat.le_of_ble_eq_true rfl⟩ ⟨Nat.le_of_ble_eq_true rfl, Nat.le_of_ble_eq_true rfl⟩ (Nat.le_of_ble_eq_true rfl) dX1_call_54 (fun r14 H locs hF hI => ?_)
      refine lv_istore (lv' := [(5, .int r14), (0, .ref (mA E.b v0)), (1, .int v1), (3, .int v3), (4, .int v4)]) hx hb dX1_call_57 hl (by decide) rfl (fun ls hl => ?_)
      refine lv_iload hx hb dX1_call_59 (lv_at hl 0 rfl) ?_
      refine lv_aload_n hx hb dX1_call_61 rfl (lv_at hl 1 rfl) ?_
      refine m_getR C fd_X1_21 hI hF dX1_call_62 (fun r15 hF => ?_)
      refine lv_iload hx hb dX1_call_65 (lv_at hl 4 rfl) ?_
      refine m_iald C hI hF dX1_call_67 (fun r16 hF => ?_)
      refine m_icmp_eq C (tgt := 74) hF dX1_call_68 (by decide) (fun hF => ?_) (fun hF => ?_)
      · exact (bl_X1_call_74 C (k25 := (f_X1_call_25 k89 n)) ih) v0 v1 v3 v4 r14 S _ _ _ hF hI (lv_sub hl [1, 2, 3, 4, 0] rfl)
      · refine lv_iinc (v := v3 + 1) (lv' := [(3, .int (v3 + 1)), (5, .int r14), (0, .ref (mA E.b v0)), (1, .int v1), (4, .int v4)]) hx hb dX1_call_71 hl (k := 3) rfl rfl (by decide) rfl (fun ls hl => ?_)
        exact (bl_X1_call_74 C (k25 := (f_X1_call_25 k89 n)) ih) v0 v1 (v3 + 1) v4 r14 S _ _ _ hF hI (lv_sub hl [2, 3, 0, 4, 1] rfl)
set_option maxRecDepth 100000 in
set_option maxHeartbeats 4000000 in
theorem ok_X1_call {l : Launch} {E : mE} {v0 : Int32} {v1 : Int32} {v2 : Int32} {S : mS} {F : Int32 × mS} (hF : f_X1_call v0 v1 v2 S = some F) : mMi l yX1_call cX1_call 6 (some .int) rm_X1_call 0 0 [.ref (mA E.b v0), .int v1, .int v2] E S F := by
  refine m_met_i (by decide) (Nat.le_of_ble_eq_true rfl) (fun p e s m args below meth c ls hin C hI hl => ?_)
  have hx := C.1
  have hb := C.2.1
  have hl : lv_has ls 6 [(0, .ref (mA E.b v0)), (1, .int v1), (2, .int v2)] := hl
  generalize s.heap = H at hI ⊢
  generalize ([] : List Loc) = locs at hI ⊢
  refine lv_iconst (v := 0) hx hb dX1_call_0 (by decide) ?_
  refine lv_istore_n (lv' := [(3, .int 0), (0, .ref (mA E.b v0)), (1, .int v1), (2, .int v2)]) hx hb dX1_call_1 rfl hl (by decide) rfl (fun ls hl => ?_)
  refine lv_aload_n hx hb dX1_call_2 rfl (lv_at hl 1 rfl) ?_
  refine lv_iload_n hx hb dX1_call_3 rfl (lv_at hl 2 rfl) ?_
  refine m_callViR C cd_X1_44 ⟨rfl, by decide⟩ hl.1 hI hF (fun _ h => ok_X1_hasWhistle h) rfl rfl ⟨rfl, rfl, Nat.le_of_ble_eq_true rfl, Nat.le_of_ble_eq_true rfl⟩ ⟨Nat.le_of_ble_eq_true rfl, Nat.le_of_ble_eq_true rfl⟩ (Nat.le_of_ble_eq_true rfl) dX1_call_4 (fun r1 H locs hF hI => ?_)
  refine m_if_eq C (tgt := 89) hF dX1_call_7 (by decide) (fun hF => ?_) (fun hF => ?_)
  · exact (bl_X1_call_89 C) v0 0 S _ _ _ hF hI (lv_sub hl [1, 0] rfl)
  · refine lv_aload_n hx hb dX1_call_10 rfl (lv_at hl 1 rfl) ?_
    refine m_getR C fd_X1_15 hI hF dX1_call_11 (fun r4 hF => ?_)
    refine lv_iload_n hx hb dX1_call_14 rfl (lv_at hl 2 rfl) ?_
    refine lv_aload_n hx hb dX1_call_15 rfl (lv_at hl 1 rfl) ?_
    refine lv_iload_n hx hb dX1_call_16 rfl (lv_at hl 2 rfl) ?_
    refine lv_iload_n hx hb dX1_call_17 rfl (lv_at hl 3 rfl) ?_
    refine m_callViR C cd_X1_59 ⟨rfl, by decide⟩ hl.1 hI hF (fun _ h => ok_X1_whistleTo h) rfl rfl ⟨rfl, rfl, Nat.le_of_ble_eq_true rfl, Nat.le_of_ble_eq_true rfl⟩ ⟨Nat.le_of_ble_eq_true rfl, Nat.le_of_ble_eq_true rfl⟩ (Nat.le_of_ble_eq_true rfl) dX1_call_18 (fun r5 H locs hF hI => ?_)
    refine m_iast C hI hF dX1_call_21 (fun S6 H locs hF hI => ?_)
    refine lv_iconst (v := 0) hx hb dX1_call_22 (by decide) ?_
    refine lv_istore (lv' := [(4, .int 0), (3, .int 0), (0, .ref (mA E.b v0)), (1, .int v1), (2, .int v2)]) hx hb dX1_call_23 hl (by decide) rfl (fun ls hl => ?_)
    exact (bl_X1_call_25 C (k89 := (f_X1_call_89)) (bl_X1_call_89 C) 1000) v0 v1 0 0 S6 _ _ _ hF hI (lv_sub hl [2, 3, 1, 0] rfl)
noncomputable def f_X1_sheepIn_28 (k4 : Int32 → Int32 → Int32 → Int32 → Option Int32) (S : mS) (v0 : Int32) (v1 : Int32) (v2 : Int32) (v3 : Int32) : Option Int32 := k4 v0 v1 v2 (v3 + 1)
noncomputable def f_X1_sheepIn_4 (k34 : Int32 → Option Int32) (S : mS) : Nat → Int32 → Int32 → Int32 → Int32 → Option Int32 := fun n => Nat.rec (motive := fun _ => Int32 → Int32 → Int32 → Int32 → Option Int32) (fun _ _ _ _ => none) (fun _ rec v0 v1 v2 v3 => mG 1 5 v0 S (fun r1 => if r1 ≤ v3 then (k34 v2) else (mGr 1 3 v0 S (fun r2 => mX 8 r2 v3 S (fun r3 => if r3 = v1 then ((f_X1_sheepIn_28 rec S) v0 v1 (v2 ||| (1 <<< (v3 &&& 31))) v3) else ((f_X1_sheepIn_28 rec S) v0 v1 v2 v3)))))) n
theorem f_X1_sheepIn_4_s (k34 : Int32 → Option Int32) (S : mS) (n : Nat) (v0 : Int32) (v1 : Int32) (v2 : Int32) (v3 : Int32) : f_X1_sheepIn_4 k34 S (n + 1) v0 v1 v2 v3 = mG 1 5 v0 S (fun r1 => if r1 ≤ v3 then (k34 v2) else (mGr 1 3 v0 S (fun r2 => mX 8 r2 v3 S (fun r3 => if r3 = v1 then ((f_X1_sheepIn_28 (f_X1_sheepIn_4 k34 S n) S) v0 v1 (v2 ||| (1 <<< (v3 &&& 31))) v3) else ((f_X1_sheepIn_28 (f_X1_sheepIn_4 k34 S n) S) v0 v1 v2 v3))))) := rfl
noncomputable def f_X1_sheepIn_34 (S : mS) (v2 : Int32) : Option Int32 := some v2
noncomputable def f_X1_sheepIn (v0 : Int32) (v1 : Int32) (S : mS) : Option Int32 := (f_X1_sheepIn_4 (f_X1_sheepIn_34 S) S 1000) v0 v1 0 0
def rm_X1_sheepIn : Room := { frames := 0, cells := 0, slots := 0, locals := 0 }
set_option maxRecDepth 100000 in
set_option maxHeartbeats 4000000 in
theorem bl_X1_sheepIn_28 {p : Program} {l : Launch} {e : Env} {s : State} {m : MethodId} {args : Array Value} {below : List Frame} {meth : Method} {c : Code} {E : mE} {n0 : Nat} {r : Int32} {S : mS} (C : mCx p s m args meth c cX1_sheepIn 4 RX1 (some .int) E n0) {k4 : Int32 → Int32 → Int32 → Int32 → Option Int32} (hk4 : ∀ (v0 : Int32) (v1 : Int32) (v2 : Int32) (v3 : Int32) (H : Heap) (locs : List Loc) (ls : Array Slot), k4 v0 v1 v2 v3 = some r → mIv s E S H locs 0 → lv_has ls 4 [(0, .ref (mA E.b v0)), (1, .int v1), (2, .int v2), (3, .int v3)] → W p l e rm_X1_sheepIn s m args below meth c H locs 0 0 (mQi below args s 0 0 n0 E (r, S)) (F0 m 4 ls [])) : ∀  (v0 : Int32) (v1 : Int32) (v2 : Int32) (v3 : Int32) (H : Heap) (locs : List Loc) (ls : Array Slot), f_X1_sheepIn_28 k4 S v0 v1 v2 v3 = some r → mIv s E S H locs 0 → lv_has ls 4 [(0, .ref (mA E.b v0)), (1, .int v1), (2, .int v2), (3, .int v3)] → W p l e rm_X1_sheepIn s m args below meth c H locs 0 0 (mQi below args s 0 0 n0 E (r, S)) (F0 m 28 ls []) := by
  have hx := C.1
  have hb := C.2.1
  intro v0 v1 v2 v3 H locs ls hF hI hl
  refine lv_iinc (v := v3 + 1) (lv' := [(3, .int (v3 + 1)), (0, .ref (mA E.b v0)), (1, .int v1), (2, .int v2)]) hx hb dX1_sheepIn_28 hl (k := 3) rfl rfl (by decide) rfl (fun ls hl => ?_)
  refine lv_goto (tgt := 4) hx hb dX1_sheepIn_31 (by decide) ?_
  exact hk4 v0 v1 v2 (v3 + 1) _ _ _ hF hI (lv_sub hl [1, 2, 3, 0] rfl)
set_option maxRecDepth 100000 in
set_option maxHeartbeats 4000000 in
theorem bl_X1_sheepIn_4 {p : Program} {l : Launch} {e : Env} {s : State} {m : MethodId} {args : Array Value} {below : List Frame} {meth : Method} {c : Code} {E : mE} {n0 : Nat} {r : Int32} {S : mS} (C : mCx p s m args meth c cX1_sheepIn 4 RX1 (some .int) E n0) {k34 : Int32 → Option Int32} (hk34 : ∀ (v2 : Int32) (H : Heap) (locs : List Loc) (ls : Array Slot), k34 v2 = some r → mIv s E S H locs 0 → lv_has ls 4 [(2, .int v2)] → W p l e rm_X1_sheepIn s m args below meth c H locs 0 0 (mQi below args s 0 0 n0 E (r, S)) (F0 m 34 ls [])) : ∀ (n : Nat)  (v0 : Int32) (v1 : Int32) (v2 : Int32) (v3 : Int32) (H : Heap) (locs : List Loc) (ls : Array Slot), f_X1_sheepIn_4 k34 S n v0 v1 v2 v3 = some r → mIv s E S H locs 0 → lv_has ls 4 [(0, .ref (mA E.b v0)), (1, .int v1), (2, .int v2), (3, .int v3)] → W p l e rm_X1_sheepIn s m args below meth c H locs 0 0 (mQi below args s 0 0 n0 E (r, S)) (F0 m 4 ls []) := by
  have hx := C.1
  have hb := C.2.1
  intro n
  induction n with
  | zero =>
    intro v0 v1 v2 v3 H locs ls hF
    exact nomatch (show (none : Option Int32) = some r from hF)
  | succ n ih =>
    intro v0 v1 v2 v3 H locs ls hF hI hl
    have hF := (f_X1_sheepIn_4_s k34 S n v0 v1 v2 v3).symm.trans hF
    refine lv_iload_n hx hb dX1_sheepIn_4 rfl (lv_at hl 3 rfl) ?_
    refine lv_aload_n hx hb dX1_sheepIn_5 rfl (lv_at hl 0 rfl) ?_
    refine m_get C fd_X1_28 hI hF dX1_sheepIn_6 (fun r1 hF => ?_)
    refine m_icmp_ge C (tgt := 34) hF dX1_sheepIn_9 (by decide) (fun hF => ?_) (fun hF => ?_)
    · exact hk34 v2 _ _ _ hF hI (lv_sub hl [2] rfl)
    · refine lv_aload_n hx hb dX1_sheepIn_12 rfl (lv_at hl 0 rfl) ?_
      refine m_getR C fd_X1_21 hI hF dX1_sheepIn_13 (fun r2 hF => ?_)
      refine lv_iload_n hx hb dX1_sheepIn_16 rfl (lv_at hl 3 rfl) ?_
      refine m_iald C hI hF dX1_sheepIn_17 (fun r3 hF => ?_)
      refine lv_iload_n hx hb dX1_sheepIn_18 rfl (lv_at hl 1 rfl) ?_
      refine m_icmp_ne C (tgt := 28) hF dX1_sheepIn_19 (by decide) (fun hF => ?_) (fun hF => ?_)
      · exact (bl_X1_sheepIn_28 C (k4 := (f_X1_sheepIn_4 k34 S n)) ih) v0 v1 v2 v3 _ _ _ hF hI (lv_sub hl [0, 1, 2, 3] rfl)
      · refine lv_iload_n hx hb dX1_sheepIn_22 rfl (lv_at hl 2 rfl) ?_
        refine lv_iconst (v := 1) hx hb dX1_sheepIn_23 (by decide) ?_
        refine lv_iload_n hx hb dX1_sheepIn_24 rfl (lv_at hl 3 rfl) ?_
        refine lv_ishl hx hb dX1_sheepIn_25 ?_
        refine lv_ior hx hb dX1_sheepIn_26 ?_
        refine lv_istore_n (lv' := [(2, .int (v2 ||| (1 <<< (v3 &&& 31)))), (0, .ref (mA E.b v0)), (1, .int v1), (3, .int v3)]) hx hb dX1_sheepIn_27 rfl hl (by decide) rfl (fun ls hl => ?_)
        exact (bl_X1_sheepIn_28 C (k4 := (f_X1_sheepIn_4 k34 S n)) ih) v0 v1 (v2 ||| (1 <<< (v3 &&& 31))) v3 _ _ _ hF hI (lv_sub hl [1, 2, 0, 3] rfl)
set_option maxRecDepth 100000 in
set_option maxHeartbeats 4000000 in
theorem bl_X1_sheepIn_34 {p : Program} {l : Launch} {e : Env} {s : State} {m : MethodId} {args : Array Value} {below : List Frame} {meth : Method} {c : Code} {E : mE} {n0 : Nat} {r : Int32} {S : mS} (C : mCx p s m args meth c cX1_sheepIn 4 RX1 (some .int) E n0) : ∀  (v2 : Int32) (H : Heap) (locs : List Loc) (ls : Array Slot), f_X1_sheepIn_34 S v2 = some r → mIv s E S H locs 0 → lv_has ls 4 [(2, .int v2)] → W p l e rm_X1_sheepIn s m args below meth c H locs 0 0 (mQi below args s 0 0 n0 E (r, S)) (F0 m 34 ls []) := by
  have hx := C.1
  have hb := C.2.1
  intro v2 H locs ls hF hI hl
  refine lv_iload_n hx hb dX1_sheepIn_34 rfl (lv_at hl 0 rfl) ?_
  exact m_iretiR C hI hF dX1_sheepIn_35
set_option maxRecDepth 100000 in
set_option maxHeartbeats 4000000 in
theorem ok_X1_sheepIn {l : Launch} {E : mE} {v0 : Int32} {v1 : Int32} {S : mS} {r : Int32} (hF : f_X1_sheepIn v0 v1 S = some r) : mMi l yX1_sheepIn cX1_sheepIn 4 (some .int) rm_X1_sheepIn 0 0 [.ref (mA E.b v0), .int v1] E S (r, S) := by
  refine m_met_i (by decide) (Nat.le_of_ble_eq_true rfl) (fun p e s m args below meth c ls hin C hI hl => ?_)
  have hx := C.1
  have hb := C.2.1
  have hl : lv_has ls 4 [(0, .ref (mA E.b v0)), (1, .int v1)] := hl
  generalize s.heap = H at hI ⊢
  generalize ([] : List Loc) = locs at hI ⊢
  refine lv_iconst (v := 0) hx hb dX1_sheepIn_0 (by decide) ?_
  refine lv_istore_n (lv' := [(2, .int 0), (0, .ref (mA E.b v0)), (1, .int v1)]) hx hb dX1_sheepIn_1 rfl hl (by decide) rfl (fun ls hl => ?_)
  refine lv_iconst (v := 0) hx hb dX1_sheepIn_2 (by decide) ?_
  refine lv_istore_n (lv' := [(3, .int 0), (2, .int 0), (0, .ref (mA E.b v0)), (1, .int v1)]) hx hb dX1_sheepIn_3 rfl hl (by decide) rfl (fun ls hl => ?_)
  exact (bl_X1_sheepIn_4 C (k34 := (f_X1_sheepIn_34 S)) (bl_X1_sheepIn_34 C) 1000) v0 v1 0 0 _ _ _ hF hI (lv_sub hl [2, 3, 1, 0] rfl)
noncomputable def f_J6_bitCount_0f7a4 (v0 : Int32) : Option Int32 := some ((((((((v0 - ((mShu v0 1) &&& 1431655765)) &&& 858993459) + ((mShu (v0 - ((mShu v0 1) &&& 1431655765)) 2) &&& 858993459)) + (mShu (((v0 - ((mShu v0 1) &&& 1431655765)) &&& 858993459) + ((mShu (v0 - ((mShu v0 1) &&& 1431655765)) 2) &&& 858993459)) 4)) &&& 252645135) + (mShu (((((v0 - ((mShu v0 1) &&& 1431655765)) &&& 858993459) + ((mShu (v0 - ((mShu v0 1) &&& 1431655765)) 2) &&& 858993459)) + (mShu (((v0 - ((mShu v0 1) &&& 1431655765)) &&& 858993459) + ((mShu (v0 - ((mShu v0 1) &&& 1431655765)) 2) &&& 858993459)) 4)) &&& 252645135) 8)) + (mShu ((((((v0 - ((mShu v0 1) &&& 1431655765)) &&& 858993459) + ((mShu (v0 - ((mShu v0 1) &&& 1431655765)) 2) &&& 858993459)) + (mShu (((v0 - ((mShu v0 1) &&& 1431655765)) &&& 858993459) + ((mShu (v0 - ((mShu v0 1) &&& 1431655765)) 2) &&& 858993459)) 4)) &&& 252645135) + (mShu (((((v0 - ((mShu v0 1) &&& 1431655765)) &&& 858993459) + ((mShu (v0 - ((mShu v0 1) &&& 1431655765)) 2) &&& 858993459)) + (mShu (((v0 - ((mShu v0 1) &&& 1431655765)) &&& 858993459) + ((mShu (v0 - ((mShu v0 1) &&& 1431655765)) 2) &&& 858993459)) 4)) &&& 252645135) 8)) 16)) &&& 63)
def rm_J6_bitCount_0f7a4 : Room := { frames := 0, cells := 0, slots := 0, locals := 0 }
set_option maxRecDepth 100000 in
set_option maxHeartbeats 4000000 in
theorem ok_J6_bitCount_0f7a4 {l : Launch} {E : mE} {v0 : Int32} {S : mS} {r : Int32} (hF : f_J6_bitCount_0f7a4 v0 = some r) : mMi l yJ6_bitCount_0f7a4 cJ6_bitCount_0f7a4 1 (some .int) rm_J6_bitCount_0f7a4 0 0 [.int v0] E S (r, S) := by
  refine m_met_i (by decide) (Nat.le_of_ble_eq_true rfl) (fun p e s m args below meth c ls hin C hI hl => ?_)
  have hx := C.1
  have hb := C.2.1
  have hl : lv_has ls 1 [(0, .int v0)] := hl
  generalize s.heap = H at hI ⊢
  generalize ([] : List Loc) = locs at hI ⊢
  refine lv_iload_n hx hb dJ6_bitCount_0f7a4_0 rfl (lv_at hl 0 rfl) ?_
  refine lv_iload_n hx hb dJ6_bitCount_0f7a4_1 rfl (lv_at hl 0 rfl) ?_
  refine lv_iconst (v := 1) hx hb dJ6_bitCount_0f7a4_2 (by decide) ?_
  refine m_iushr C dJ6_bitCount_0f7a4_3 ?_
  refine lv_ldcw (v := 1431655765) hx hb C.2.2.2.1 (C.2.2.2.2.1 _ kw_J6_265) dJ6_bitCount_0f7a4_4 ?_
  refine lv_iand hx hb dJ6_bitCount_0f7a4_7 ?_
  refine lv_isub hx hb dJ6_bitCount_0f7a4_8 ?_
  refine lv_istore_n (lv' := [(0, .int (v0 - ((mShu v0 1) &&& 1431655765)))]) hx hb dJ6_bitCount_0f7a4_9 rfl hl (by decide) rfl (fun ls hl => ?_)
  refine lv_iload_n hx hb dJ6_bitCount_0f7a4_10 rfl (lv_at hl 0 rfl) ?_
  refine lv_ldcw (v := 858993459) hx hb C.2.2.2.1 (C.2.2.2.2.1 _ kw_J6_266) dJ6_bitCount_0f7a4_11 ?_
  refine lv_iand hx hb dJ6_bitCount_0f7a4_14 ?_
  refine lv_iload_n hx hb dJ6_bitCount_0f7a4_15 rfl (lv_at hl 0 rfl) ?_
  refine lv_iconst (v := 2) hx hb dJ6_bitCount_0f7a4_16 (by decide) ?_
  refine m_iushr C dJ6_bitCount_0f7a4_17 ?_
  refine lv_ldcw (v := 858993459) hx hb C.2.2.2.1 (C.2.2.2.2.1 _ kw_J6_266) dJ6_bitCount_0f7a4_18 ?_
  refine lv_iand hx hb dJ6_bitCount_0f7a4_21 ?_
  refine lv_iadd hx hb dJ6_bitCount_0f7a4_22 ?_
  refine lv_istore_n (lv' := [(0, .int (((v0 - ((mShu v0 1) &&& 1431655765)) &&& 858993459) + ((mShu (v0 - ((mShu v0 1) &&& 1431655765)) 2) &&& 858993459)))]) hx hb dJ6_bitCount_0f7a4_23 rfl hl (by decide) rfl (fun ls hl => ?_)
  refine lv_iload_n hx hb dJ6_bitCount_0f7a4_24 rfl (lv_at hl 0 rfl) ?_
  refine lv_iload_n hx hb dJ6_bitCount_0f7a4_25 rfl (lv_at hl 0 rfl) ?_
  refine lv_iconst (v := 4) hx hb dJ6_bitCount_0f7a4_26 (by decide) ?_
  refine m_iushr C dJ6_bitCount_0f7a4_27 ?_
  refine lv_iadd hx hb dJ6_bitCount_0f7a4_28 ?_
  refine lv_ldcw (v := 252645135) hx hb C.2.2.2.1 (C.2.2.2.2.1 _ kw_J6_267) dJ6_bitCount_0f7a4_29 ?_
  refine lv_iand hx hb dJ6_bitCount_0f7a4_32 ?_
  refine lv_istore_n (lv' := [(0, .int (((((v0 - ((mShu v0 1) &&& 1431655765)) &&& 858993459) + ((mShu (v0 - ((mShu v0 1) &&& 1431655765)) 2) &&& 858993459)) + (mShu (((v0 - ((mShu v0 1) &&& 1431655765)) &&& 858993459) + ((mShu (v0 - ((mShu v0 1) &&& 1431655765)) 2) &&& 858993459)) 4)) &&& 252645135))]) hx hb dJ6_bitCount_0f7a4_33 rfl hl (by decide) rfl (fun ls hl => ?_)
  refine lv_iload_n hx hb dJ6_bitCount_0f7a4_34 rfl (lv_at hl 0 rfl) ?_
  refine lv_iload_n hx hb dJ6_bitCount_0f7a4_35 rfl (lv_at hl 0 rfl) ?_
  refine lv_bipush (v := 8) hx hb dJ6_bitCount_0f7a4_36 (by decide) ?_
  refine m_iushr C dJ6_bitCount_0f7a4_38 ?_
  refine lv_iadd hx hb dJ6_bitCount_0f7a4_39 ?_
  refine lv_istore_n (lv' := [(0, .int ((((((v0 - ((mShu v0 1) &&& 1431655765)) &&& 858993459) + ((mShu (v0 - ((mShu v0 1) &&& 1431655765)) 2) &&& 858993459)) + (mShu (((v0 - ((mShu v0 1) &&& 1431655765)) &&& 858993459) + ((mShu (v0 - ((mShu v0 1) &&& 1431655765)) 2) &&& 858993459)) 4)) &&& 252645135) + (mShu (((((v0 - ((mShu v0 1) &&& 1431655765)) &&& 858993459) + ((mShu (v0 - ((mShu v0 1) &&& 1431655765)) 2) &&& 858993459)) + (mShu (((v0 - ((mShu v0 1) &&& 1431655765)) &&& 858993459) + ((mShu (v0 - ((mShu v0 1) &&& 1431655765)) 2) &&& 858993459)) 4)) &&& 252645135) 8)))]) hx hb dJ6_bitCount_0f7a4_40 rfl hl (by decide) rfl (fun ls hl => ?_)
  refine lv_iload_n hx hb dJ6_bitCount_0f7a4_41 rfl (lv_at hl 0 rfl) ?_
  refine lv_iload_n hx hb dJ6_bitCount_0f7a4_42 rfl (lv_at hl 0 rfl) ?_
  refine lv_bipush (v := 16) hx hb dJ6_bitCount_0f7a4_43 (by decide) ?_
  refine m_iushr C dJ6_bitCount_0f7a4_45 ?_
  refine lv_iadd hx hb dJ6_bitCount_0f7a4_46 ?_
  refine lv_istore_n (lv' := [(0, .int (((((((v0 - ((mShu v0 1) &&& 1431655765)) &&& 858993459) + ((mShu (v0 - ((mShu v0 1) &&& 1431655765)) 2) &&& 858993459)) + (mShu (((v0 - ((mShu v0 1) &&& 1431655765)) &&& 858993459) + ((mShu (v0 - ((mShu v0 1) &&& 1431655765)) 2) &&& 858993459)) 4)) &&& 252645135) + (mShu (((((v0 - ((mShu v0 1) &&& 1431655765)) &&& 858993459) + ((mShu (v0 - ((mShu v0 1) &&& 1431655765)) 2) &&& 858993459)) + (mShu (((v0 - ((mShu v0 1) &&& 1431655765)) &&& 858993459) + ((mShu (v0 - ((mShu v0 1) &&& 1431655765)) 2) &&& 858993459)) 4)) &&& 252645135) 8)) + (mShu ((((((v0 - ((mShu v0 1) &&& 1431655765)) &&& 858993459) + ((mShu (v0 - ((mShu v0 1) &&& 1431655765)) 2) &&& 858993459)) + (mShu (((v0 - ((mShu v0 1) &&& 1431655765)) &&& 858993459) + ((mShu (v0 - ((mShu v0 1) &&& 1431655765)) 2) &&& 858993459)) 4)) &&& 252645135) + (mShu (((((v0 - ((mShu v0 1) &&& 1431655765)) &&& 858993459) + ((mShu (v0 - ((mShu v0 1) &&& 1431655765)) 2) &&& 858993459)) + (mShu (((v0 - ((mShu v0 1) &&& 1431655765)) &&& 858993459) + ((mShu (v0 - ((mShu v0 1) &&& 1431655765)) 2) &&& 858993459)) 4)) &&& 252645135) 8)) 16)))]) hx hb dJ6_bitCount_0f7a4_47 rfl hl (by decide) rfl (fun ls hl => ?_)
  refine lv_iload_n hx hb dJ6_bitCount_0f7a4_48 rfl (lv_at hl 0 rfl) ?_
  refine lv_bipush (v := 63) hx hb dJ6_bitCount_0f7a4_49 (by decide) ?_
  refine lv_iand hx hb dJ6_bitCount_0f7a4_51 ?_
  exact m_iretiR C hI hF dJ6_bitCount_0f7a4_52
noncomputable def f_X1_manyIn (v0 : Int32) (v1 : Int32) (S : mS) : Option Int32 := mRc 1 v0 S (mCp (f_X1_sheepIn v0 v1 S) (fun r1 => mCp (f_J6_bitCount_0f7a4 r1) (fun r2 => some r2)))
def rm_X1_manyIn : Room := { frames := 1, cells := 0, slots := 0, locals := 23 }
set_option maxRecDepth 100000 in
set_option maxHeartbeats 4000000 in
theorem ok_X1_manyIn {l : Launch} {E : mE} {v0 : Int32} {v1 : Int32} {S : mS} {r : Int32} (hF : f_X1_manyIn v0 v1 S = some r) : mMi l yX1_manyIn cX1_manyIn 2 (some .int) rm_X1_manyIn 0 0 [.ref (mA E.b v0), .int v1] E S (r, S) := by
  refine m_met_i (by decide) (Nat.le_of_ble_eq_true rfl) (fun p e s m args below meth c ls hin C hI hl => ?_)
  have hx := C.1
  have hb := C.2.1
  have hl : lv_has ls 2 [(0, .ref (mA E.b v0)), (1, .int v1)] := hl
  generalize s.heap = H at hI ⊢
  generalize ([] : List Loc) = locs at hI ⊢
  refine lv_aload_n hx hb dX1_manyIn_0 rfl (lv_at hl 0 rfl) ?_
  refine lv_iload_n hx hb dX1_manyIn_1 rfl (lv_at hl 1 rfl) ?_
  refine m_callViR C cd_X1_65 ⟨rfl, by decide⟩ hl.1 hI hF (fun _ h => ok_X1_sheepIn h) rfl rfl ⟨rfl, rfl, Nat.le_of_ble_eq_true rfl, Nat.le_of_ble_eq_true rfl⟩ ⟨Nat.le_of_ble_eq_true rfl, Nat.le_of_ble_eq_true rfl⟩ (Nat.le_of_ble_eq_true rfl) dX1_manyIn_2 (fun r1 H locs hF hI => ?_)
  refine m_callSiR C cd_X1_69 hl.1 hI hF (fun _ h => ok_J6_bitCount_0f7a4 h) rfl rfl ⟨rfl, rfl, Nat.le_of_ble_eq_true rfl, Nat.le_of_ble_eq_true rfl⟩ ⟨Nat.le_of_ble_eq_true rfl, Nat.le_of_ble_eq_true rfl⟩ (Nat.le_of_ble_eq_true rfl) dX1_manyIn_5 (fun r2 H locs hF hI => ?_)
  exact m_iretiR C hI hF dX1_manyIn_8
noncomputable def f_X1_farTogether_4 (k31 : Int32 → Option Int32) (S : mS) : Nat → Int32 → Int32 → Int32 → Int32 → Option Int32 := fun n => Nat.rec (motive := fun _ => Int32 → Int32 → Int32 → Int32 → Option Int32) (fun _ _ _ _ => none) (fun _ rec v0 v1 v2 v3 => mG 1 5 v0 S (fun r1 => if r1 ≤ v3 then (k31 v2) else (mGr 1 3 v0 S (fun r2 => mX 8 r2 v3 S (fun r3 => mCp (f_X6_farBetween r3 v1) (fun r4 => rec v0 v1 (v2 + r4) (v3 + 1))))))) n
theorem f_X1_farTogether_4_s (k31 : Int32 → Option Int32) (S : mS) (n : Nat) (v0 : Int32) (v1 : Int32) (v2 : Int32) (v3 : Int32) : f_X1_farTogether_4 k31 S (n + 1) v0 v1 v2 v3 = mG 1 5 v0 S (fun r1 => if r1 ≤ v3 then (k31 v2) else (mGr 1 3 v0 S (fun r2 => mX 8 r2 v3 S (fun r3 => mCp (f_X6_farBetween r3 v1) (fun r4 => (f_X1_farTogether_4 k31 S n) v0 v1 (v2 + r4) (v3 + 1)))))) := rfl
noncomputable def f_X1_farTogether_31 (S : mS) (v2 : Int32) : Option Int32 := some v2
noncomputable def f_X1_farTogether (v0 : Int32) (v1 : Int32) (S : mS) : Option Int32 := (f_X1_farTogether_4 (f_X1_farTogether_31 S) S 1000) v0 v1 0 0
def rm_X1_farTogether : Room := { frames := 2, cells := 0, slots := 0, locals := 35 }
set_option maxRecDepth 100000 in
set_option maxHeartbeats 4000000 in
theorem bl_X1_farTogether_4 {p : Program} {l : Launch} {e : Env} {s : State} {m : MethodId} {args : Array Value} {below : List Frame} {meth : Method} {c : Code} {E : mE} {n0 : Nat} {r : Int32} {S : mS} (C : mCx p s m args meth c cX1_farTogether 4 RX1 (some .int) E n0) {k31 : Int32 → Option Int32} (hk31 : ∀ (v2 : Int32) (H : Heap) (locs : List Loc) (ls : Array Slot), k31 v2 = some r → mIv s E S H locs 0 → lv_has ls 4 [(2, .int v2)] → W p l e rm_X1_farTogether s m args below meth c H locs 0 0 (mQi below args s 0 0 n0 E (r, S)) (F0 m 31 ls [])) : ∀ (n : Nat)  (v0 : Int32) (v1 : Int32) (v2 : Int32) (v3 : Int32) (H : Heap) (locs : List Loc) (ls : Array Slot), f_X1_farTogether_4 k31 S n v0 v1 v2 v3 = some r → mIv s E S H locs 0 → lv_has ls 4 [(0, .ref (mA E.b v0)), (1, .int v1), (2, .int v2), (3, .int v3)] → W p l e rm_X1_farTogether s m args below meth c H locs 0 0 (mQi below args s 0 0 n0 E (r, S)) (F0 m 4 ls []) := by
  have hx := C.1
  have hb := C.2.1
  intro n
  induction n with
  | zero =>
    intro v0 v1 v2 v3 H locs ls hF
    exact nomatch (show (none : Option Int32) = some r from hF)
  | succ n ih =>
    intro v0 v1 v2 v3 H locs ls hF hI hl
    have hF := (f_X1_farTogether_4_s k31 S n v0 v1 v2 v3).symm.trans hF
    refine lv_iload_n hx hb dX1_farTogether_4 rfl (lv_at hl 3 rfl) ?_
    refine lv_aload_n hx hb dX1_farTogether_5 rfl (lv_at hl 0 rfl) ?_
    refine m_get C fd_X1_28 hI hF dX1_farTogether_6 (fun r1 hF => ?_)
    refine m_icmp_ge C (tgt := 31) hF dX1_farTogether_9 (by decide) (fun hF => ?_) (fun hF => ?_)
    · exact hk31 v2 _ _ _ hF hI (lv_sub hl [2] rfl)
    · refine lv_iload_n hx hb dX1_farTogether_12 rfl (lv_at hl 2 rfl) ?_
      refine lv_aload_n hx hb dX1_farTogether_13 rfl (lv_at hl 0 rfl) ?_
      refine m_getR C fd_X1_21 hI hF dX1_farTogether_14 (fun r2 hF => ?_)
      refine lv_iload_n hx hb dX1_farTogether_17 rfl (lv_at hl 3 rfl) ?_
      refine m_iald C hI hF dX1_farTogether_18 (fun r3 hF => ?_)
      refine lv_iload_n hx hb dX1_farTogether_19 rfl (lv_at hl 1 rfl) ?_
      refine m_callNiR C cd_X1_74 hl.1 hI hF (fun _ h => ok_X6_farBetween h) rfl rfl ⟨rfl, rfl, Nat.le_of_ble_eq_true rfl, Nat.le_of_ble_eq_true rfl⟩ ⟨Nat.le_of_ble_eq_true rfl, Nat.le_of_ble_eq_true rfl⟩ (Nat.le_of_ble_eq_true rfl) dX1_farTogether_20 (fun r4 H locs hF hI => ?_)
      refine lv_iadd hx hb dX1_farTogether_23 ?_
      refine lv_istore_n (lv' := [(2, .int (v2 + r4)), (0, .ref (mA E.b v0)), (1, .int v1), (3, .int v3)]) hx hb dX1_farTogether_24 rfl hl (by decide) rfl (fun ls hl => ?_)
      refine lv_iinc (v := v3 + 1) (lv' := [(3, .int (v3 + 1)), (2, .int (v2 + r4)), (0, .ref (mA E.b v0)), (1, .int v1)]) hx hb dX1_farTogether_25 hl (k := 3) rfl rfl (by decide) rfl (fun ls hl => ?_)
      refine lv_goto (tgt := 4) hx hb dX1_farTogether_28 (by decide) ?_
      exact ih v0 v1 (v2 + r4) (v3 + 1) _ _ _ hF hI (lv_sub hl [2, 3, 1, 0] rfl)
set_option maxRecDepth 100000 in
set_option maxHeartbeats 4000000 in
theorem bl_X1_farTogether_31 {p : Program} {l : Launch} {e : Env} {s : State} {m : MethodId} {args : Array Value} {below : List Frame} {meth : Method} {c : Code} {E : mE} {n0 : Nat} {r : Int32} {S : mS} (C : mCx p s m args meth c cX1_farTogether 4 RX1 (some .int) E n0) : ∀  (v2 : Int32) (H : Heap) (locs : List Loc) (ls : Array Slot), f_X1_farTogether_31 S v2 = some r → mIv s E S H locs 0 → lv_has ls 4 [(2, .int v2)] → W p l e rm_X1_farTogether s m args below meth c H locs 0 0 (mQi below args s 0 0 n0 E (r, S)) (F0 m 31 ls []) := by
  have hx := C.1
  have hb := C.2.1
  intro v2 H locs ls hF hI hl
  refine lv_iload_n hx hb dX1_farTogether_31 rfl (lv_at hl 0 rfl) ?_
  exact m_iretiR C hI hF dX1_farTogether_32
set_option maxRecDepth 100000 in
set_option maxHeartbeats 4000000 in
theorem ok_X1_farTogether {l : Launch} {E : mE} {v0 : Int32} {v1 : Int32} {S : mS} {r : Int32} (hF : f_X1_farTogether v0 v1 S = some r) : mMi l yX1_farTogether cX1_farTogether 4 (some .int) rm_X1_farTogether 0 0 [.ref (mA E.b v0), .int v1] E S (r, S) := by
  refine m_met_i (by decide) (Nat.le_of_ble_eq_true rfl) (fun p e s m args below meth c ls hin C hI hl => ?_)
  have hx := C.1
  have hb := C.2.1
  have hl : lv_has ls 4 [(0, .ref (mA E.b v0)), (1, .int v1)] := hl
  generalize s.heap = H at hI ⊢
  generalize ([] : List Loc) = locs at hI ⊢
  refine lv_iconst (v := 0) hx hb dX1_farTogether_0 (by decide) ?_
  refine lv_istore_n (lv' := [(2, .int 0), (0, .ref (mA E.b v0)), (1, .int v1)]) hx hb dX1_farTogether_1 rfl hl (by decide) rfl (fun ls hl => ?_)
  refine lv_iconst (v := 0) hx hb dX1_farTogether_2 (by decide) ?_
  refine lv_istore_n (lv' := [(3, .int 0), (2, .int 0), (0, .ref (mA E.b v0)), (1, .int v1)]) hx hb dX1_farTogether_3 rfl hl (by decide) rfl (fun ls hl => ?_)
  exact (bl_X1_farTogether_4 C (k31 := (f_X1_farTogether_31 S)) (bl_X1_farTogether_31 C) 1000) v0 v1 0 0 _ _ _ hF hI (lv_sub hl [2, 3, 1, 0] rfl)
noncomputable def f_X2_init (v0 : Int32) (S : mS) : Option mS := mNa 8 88 S (fun r1 S2 => mPr 2 0 v0 r1 S2 (fun S3 => some S3))
def rm_X2_init : Room := { frames := 1, cells := 1, slots := 88, locals := 12 }
set_option maxRecDepth 100000 in
set_option maxHeartbeats 4000000 in
theorem ok_X2_init {l : Launch} {E : mE} {v0 : Int32} {S : mS} {F : mS} (hF : f_X2_init v0 S = some F) : mMv l yX2_init cX2_init 1 none rm_X2_init 1 88 [.ref (mA E.b v0)] E S F := by
  refine m_met_v (by decide) (Nat.le_of_ble_eq_true rfl) (fun p e s m args below meth c ls hin C hI hl => ?_)
  have hx := C.1
  have hin2 := hin rfl
  have hb := C.2.1
  have hl : lv_has ls 1 [(0, .ref (mA E.b v0))] := hl
  generalize s.heap = H at hI ⊢
  generalize ([] : List Loc) = locs at hI ⊢
  refine lv_aload_n hx hb dX2_init_0 rfl (lv_at hl 0 rfl) ?_
  refine m_objInit C ow_X2_3 hl.1 (Nat.le_of_ble_eq_true rfl) (Nat.le_of_ble_eq_true rfl) dX2_init_1 ?_
  refine lv_aload_n hx hb dX2_init_4 rfl (lv_at hl 0 rfl) ?_
  refine lv_bipush (v := 88) hx hb dX2_init_5 (by decide) ?_
  refine m_newa C (atype := .int) (kd := 8) (ty := .int) (N := 88) aw_int rfl ⟨rfl, by decide, by decide, rfl, by decide⟩ (fun _ _ h => h) rfl (by decide) hI hF (Nat.le_of_ble_eq_true rfl) (Nat.le_of_ble_eq_true rfl) dX2_init_7 (fun r1 S2 H hF hI => ?_)
  refine m_putR C hin2 fd_X2_9 (fun _ => ⟨rfl, rfl⟩) hI hF dX2_init_9 (fun S3 H locs hF hI => ?_)
  exact m_vret C hI hF dX2_init_12
noncomputable def f_X2_push_31 (v0 : Int32) (v1 : Int32) (S : mS) : Option mS := mG 2 1 v0 S (fun r2 => mGr 2 0 v0 S (fun r3 => mG 1 6 v1 S (fun r4 => mXs r3 (r2 * 11) r4 S (fun S5 => mGr 1 1 v1 S5 (fun r6 => mGr 2 0 v0 S5 (fun r7 => mCy r6 0 r7 ((r2 * 11) + 1) 3 S5 (fun S8 => mGr 1 3 v1 S8 (fun r9 => mGr 2 0 v0 S8 (fun r10 => mCy r9 0 r10 (((r2 * 11) + 1) + 3) 7 S8 (fun S11 => mG 2 1 v0 S11 (fun r12 => mP 2 1 v0 (r12 + 1) S11 (fun S13 => some S13))))))))))))
noncomputable def f_X2_push (v0 : Int32) (v1 : Int32) (S : mS) : Option mS := mG 2 1 v0 S (fun r1 => if r1 < 8 then ((f_X2_push_31) v0 v1 S) else (mGr 2 0 v0 S (fun r14 => mGr 2 0 v0 S (fun r15 => mCy r14 11 r15 0 77 S (fun S16 => mP 2 1 v0 7 S16 (fun S17 => (f_X2_push_31) v0 v1 S17))))))
def rm_X2_push : Room := { frames := 1, cells := 0, slots := 0, locals := 18 }
set_option maxRecDepth 100000 in
set_option maxHeartbeats 4000000 in
theorem bl_X2_push_31 {p : Program} {l : Launch} {e : Env} {s : State} {m : MethodId} {args : Array Value} {below : List Frame} {meth : Method} {c : Code} {E : mE} {n0 : Nat} {F : mS} (C : mCx p s m args meth c cX2_push 3 RX2 none E n0) : ∀  (v0 : Int32) (v1 : Int32) (S : mS) (H : Heap) (locs : List Loc) (ls : Array Slot), f_X2_push_31 v0 v1 S = some F → mIv s E S H locs 0 → lv_has ls 3 [(0, .ref (mA E.b v0)), (1, .ref (mA E.b v1))] → W p l e rm_X2_push s m args below meth c H locs 0 0 (mQv below args s 0 0 n0 E F) (F0 m 31 ls []) := by
  have hx := C.1
  have hb := C.2.1
  intro v0 v1 S H locs ls hF hI hl
  refine lv_aload_n hx hb dX2_push_31 rfl (lv_at hl 0 rfl) ?_
  refine m_get C fd_X2_15 hI hF dX2_push_32 (fun r2 hF => ?_)
  refine lv_bipush (v := 11) hx hb dX2_push_35 (by decide) ?_
  refine lv_imul hx hb dX2_push_37 ?_
  refine lv_istore_n (lv' := [(2, .int (r2 * 11)), (0, .ref (mA E.b v0)), (1, .ref (mA E.b v1))]) hx hb dX2_push_38 rfl hl (by decide) rfl (fun ls hl => ?_)
  refine lv_aload_n hx hb dX2_push_39 rfl (lv_at hl 1 rfl) ?_
  refine m_getR C fd_X2_9 hI hF dX2_push_40 (fun r3 hF => ?_)
  refine lv_iload_n hx hb dX2_push_43 rfl (lv_at hl 0 rfl) ?_
  refine lv_aload_n hx hb dX2_push_44 rfl (lv_at hl 2 rfl) ?_
  refine m_get C fd_X2_25 hI hF dX2_push_45 (fun r4 hF => ?_)
  refine m_iast C hI hF dX2_push_48 (fun S5 H locs hF hI => ?_)
  refine lv_aload_n hx hb dX2_push_49 rfl (lv_at hl 2 rfl) ?_
  refine m_getR C fd_X2_30 hI hF dX2_push_50 (fun r6 hF => ?_)
  refine lv_iconst (v := 0) hx hb dX2_push_53 (by decide) ?_
  refine lv_aload_n hx hb dX2_push_54 rfl (lv_at hl 1 rfl) ?_
  refine m_getR C fd_X2_9 hI hF dX2_push_55 (fun r7 hF => ?_)
  refine lv_iload_n hx hb dX2_push_58 rfl (lv_at hl 0 rfl) ?_
  refine lv_iconst (v := 1) hx hb dX2_push_59 (by decide) ?_
  refine lv_iadd hx hb dX2_push_60 ?_
  refine lv_iconst (v := 3) hx hb dX2_push_61 (by decide) ?_
  refine m_copy C cw_X2_19 hl.1 hI hF (Nat.le_of_ble_eq_true rfl) (Nat.le_of_ble_eq_true rfl) dX2_push_62 (fun S8 H locs hF hI => ?_)
  refine lv_aload_n hx hb dX2_push_65 rfl (lv_at hl 2 rfl) ?_
  refine m_getR C fd_X2_33 hI hF dX2_push_66 (fun r9 hF => ?_)
  refine lv_iconst (v := 0) hx hb dX2_push_69 (by decide) ?_
  refine lv_aload_n hx hb dX2_push_70 rfl (lv_at hl 1 rfl) ?_
  refine m_getR C fd_X2_9 hI hF dX2_push_71 (fun r10 hF => ?_)
  refine lv_iload_n hx hb dX2_push_74 rfl (lv_at hl 0 rfl) ?_
  refine lv_iconst (v := 1) hx hb dX2_push_75 (by decide) ?_
  refine lv_iadd hx hb dX2_push_76 ?_
  refine lv_iconst (v := 3) hx hb dX2_push_77 (by decide) ?_
  refine lv_iadd hx hb dX2_push_78 ?_
  refine lv_bipush (v := 7) hx hb dX2_push_79 (by decide) ?_
  refine m_copy C cw_X2_19 hl.1 hI hF (Nat.le_of_ble_eq_true rfl) (Nat.le_of_ble_eq_true rfl) dX2_push_81 (fun S11 H locs hF hI => ?_)
  refine lv_aload_n hx hb dX2_push_84 rfl (lv_at hl 1 rfl) ?_
  refine lv_dup hx hb dX2_push_85 rfl ?_
  refine m_get C fd_X2_15 hI hF dX2_push_86 (fun r12 hF => ?_)
  refine lv_iconst (v := 1) hx hb dX2_push_89 (by decide) ?_
  refine lv_iadd hx hb dX2_push_90 ?_
  refine m_put C fd_X2_15 hI hF dX2_push_91 (fun S13 H locs hF hI => ?_)
  exact m_vret C hI hF dX2_push_94
set_option maxRecDepth 100000 in
set_option maxHeartbeats 4000000 in
theorem ok_X2_push {l : Launch} {E : mE} {v0 : Int32} {v1 : Int32} {S : mS} {F : mS} (hF : f_X2_push v0 v1 S = some F) : mMv l yX2_push cX2_push 3 none rm_X2_push 0 0 [.ref (mA E.b v0), .ref (mA E.b v1)] E S F := by
  refine m_met_v (by decide) (Nat.le_of_ble_eq_true rfl) (fun p e s m args below meth c ls hin C hI hl => ?_)
  have hx := C.1
  have hb := C.2.1
  have hl : lv_has ls 3 [(0, .ref (mA E.b v0)), (1, .ref (mA E.b v1))] := hl
  generalize s.heap = H at hI ⊢
  generalize ([] : List Loc) = locs at hI ⊢
  refine lv_aload_n hx hb dX2_push_0 rfl (lv_at hl 0 rfl) ?_
  refine m_get C fd_X2_15 hI hF dX2_push_1 (fun r1 hF => ?_)
  refine lv_bipush (v := 8) hx hb dX2_push_4 (by decide) ?_
  refine m_icmp_lt C (tgt := 31) hF dX2_push_6 (by decide) (fun hF => ?_) (fun hF => ?_)
  · exact (bl_X2_push_31 C) v0 v1 S _ _ _ hF hI (lv_sub hl [0, 1] rfl)
  · refine lv_aload_n hx hb dX2_push_9 rfl (lv_at hl 0 rfl) ?_
    refine m_getR C fd_X2_9 hI hF dX2_push_10 (fun r14 hF => ?_)
    refine lv_bipush (v := 11) hx hb dX2_push_13 (by decide) ?_
    refine lv_aload_n hx hb dX2_push_15 rfl (lv_at hl 0 rfl) ?_
    refine m_getR C fd_X2_9 hI hF dX2_push_16 (fun r15 hF => ?_)
    refine lv_iconst (v := 0) hx hb dX2_push_19 (by decide) ?_
    refine lv_bipush (v := 77) hx hb dX2_push_20 (by decide) ?_
    refine m_copy C cw_X2_19 hl.1 hI hF (Nat.le_of_ble_eq_true rfl) (Nat.le_of_ble_eq_true rfl) dX2_push_22 (fun S16 H locs hF hI => ?_)
    refine lv_aload_n hx hb dX2_push_25 rfl (lv_at hl 0 rfl) ?_
    refine lv_bipush (v := 7) hx hb dX2_push_26 (by decide) ?_
    refine m_put C fd_X2_15 hI hF dX2_push_28 (fun S17 H locs hF hI => ?_)
    exact (bl_X2_push_31 C) v0 v1 S17 _ _ _ hF hI (lv_sub hl [0, 1] rfl)
noncomputable def f_X2_pop_70 (S : mS) : Option mS := some S
noncomputable def f_X2_pop (v0 : Int32) (v1 : Int32) (S : mS) : Option mS := mG 2 1 v0 S (fun r1 => if r1 ≤ 0 then ((f_X2_pop_70) S) else (mG 2 1 v0 S (fun r2 => mP 2 1 v0 (r2 - 1) S (fun S3 => mG 2 1 v0 S3 (fun r4 => mGr 2 0 v0 S3 (fun r5 => mX 8 r5 (r4 * 11) S3 (fun r6 => mP 1 6 v1 r6 S3 (fun S7 => mGr 2 0 v0 S7 (fun r8 => mGr 1 1 v1 S7 (fun r9 => mCy r8 ((r4 * 11) + 1) r9 0 3 S7 (fun S10 => mGr 2 0 v0 S10 (fun r11 => mGr 1 3 v1 S10 (fun r12 => mCy r11 (((r4 * 11) + 1) + 3) r12 0 7 S10 (fun S13 => (f_X2_pop_70) S13))))))))))))))
def rm_X2_pop : Room := { frames := 1, cells := 0, slots := 0, locals := 18 }
set_option maxRecDepth 100000 in
set_option maxHeartbeats 4000000 in
theorem bl_X2_pop_70 {p : Program} {l : Launch} {e : Env} {s : State} {m : MethodId} {args : Array Value} {below : List Frame} {meth : Method} {c : Code} {E : mE} {n0 : Nat} {F : mS} (C : mCx p s m args meth c cX2_pop 3 RX2 none E n0) : ∀  (S : mS) (H : Heap) (locs : List Loc) (ls : Array Slot), f_X2_pop_70 S = some F → mIv s E S H locs 0 → lv_has ls 3 [] → W p l e rm_X2_pop s m args below meth c H locs 0 0 (mQv below args s 0 0 n0 E F) (F0 m 70 ls []) := by
  have hx := C.1
  have hb := C.2.1
  intro S H locs ls hF hI hl
  exact m_vret C hI hF dX2_pop_70
set_option maxRecDepth 100000 in
set_option maxHeartbeats 4000000 in
theorem ok_X2_pop {l : Launch} {E : mE} {v0 : Int32} {v1 : Int32} {S : mS} {F : mS} (hF : f_X2_pop v0 v1 S = some F) : mMv l yX2_pop cX2_pop 3 none rm_X2_pop 0 0 [.ref (mA E.b v0), .ref (mA E.b v1)] E S F := by
  refine m_met_v (by decide) (Nat.le_of_ble_eq_true rfl) (fun p e s m args below meth c ls hin C hI hl => ?_)
  have hx := C.1
  have hb := C.2.1
  have hl : lv_has ls 3 [(0, .ref (mA E.b v0)), (1, .ref (mA E.b v1))] := hl
  generalize s.heap = H at hI ⊢
  generalize ([] : List Loc) = locs at hI ⊢
  refine lv_aload_n hx hb dX2_pop_0 rfl (lv_at hl 0 rfl) ?_
  refine m_get C fd_X2_15 hI hF dX2_pop_1 (fun r1 hF => ?_)
  refine m_if_le C (tgt := 70) hF dX2_pop_4 (by decide) (fun hF => ?_) (fun hF => ?_)
  · exact (bl_X2_pop_70 C) S _ _ _ hF hI (lv_sub hl [] rfl)
  · refine lv_aload_n hx hb dX2_pop_7 rfl (lv_at hl 0 rfl) ?_
    refine lv_dup hx hb dX2_pop_8 rfl ?_
    refine m_get C fd_X2_15 hI hF dX2_pop_9 (fun r2 hF => ?_)
    refine lv_iconst (v := 1) hx hb dX2_pop_12 (by decide) ?_
    refine lv_isub hx hb dX2_pop_13 ?_
    refine m_put C fd_X2_15 hI hF dX2_pop_14 (fun S3 H locs hF hI => ?_)
    refine lv_aload_n hx hb dX2_pop_17 rfl (lv_at hl 0 rfl) ?_
    refine m_get C fd_X2_15 hI hF dX2_pop_18 (fun r4 hF => ?_)
    refine lv_bipush (v := 11) hx hb dX2_pop_21 (by decide) ?_
    refine lv_imul hx hb dX2_pop_23 ?_
    refine lv_istore_n (lv' := [(2, .int (r4 * 11)), (0, .ref (mA E.b v0)), (1, .ref (mA E.b v1))]) hx hb dX2_pop_24 rfl hl (by decide) rfl (fun ls hl => ?_)
    refine lv_aload_n hx hb dX2_pop_25 rfl (lv_at hl 2 rfl) ?_
    refine lv_aload_n hx hb dX2_pop_26 rfl (lv_at hl 1 rfl) ?_
    refine m_getR C fd_X2_9 hI hF dX2_pop_27 (fun r5 hF => ?_)
    refine lv_iload_n hx hb dX2_pop_30 rfl (lv_at hl 0 rfl) ?_
    refine m_iald C hI hF dX2_pop_31 (fun r6 hF => ?_)
    refine m_put C fd_X2_25 hI hF dX2_pop_32 (fun S7 H locs hF hI => ?_)
    refine lv_aload_n hx hb dX2_pop_35 rfl (lv_at hl 1 rfl) ?_
    refine m_getR C fd_X2_9 hI hF dX2_pop_36 (fun r8 hF => ?_)
    refine lv_iload_n hx hb dX2_pop_39 rfl (lv_at hl 0 rfl) ?_
    refine lv_iconst (v := 1) hx hb dX2_pop_40 (by decide) ?_
    refine lv_iadd hx hb dX2_pop_41 ?_
    refine lv_aload_n hx hb dX2_pop_42 rfl (lv_at hl 2 rfl) ?_
    refine m_getR C fd_X2_30 hI hF dX2_pop_43 (fun r9 hF => ?_)
    refine lv_iconst (v := 0) hx hb dX2_pop_46 (by decide) ?_
    refine lv_iconst (v := 3) hx hb dX2_pop_47 (by decide) ?_
    refine m_copy C cw_X2_19 hl.1 hI hF (Nat.le_of_ble_eq_true rfl) (Nat.le_of_ble_eq_true rfl) dX2_pop_48 (fun S10 H locs hF hI => ?_)
    refine lv_aload_n hx hb dX2_pop_51 rfl (lv_at hl 1 rfl) ?_
    refine m_getR C fd_X2_9 hI hF dX2_pop_52 (fun r11 hF => ?_)
    refine lv_iload_n hx hb dX2_pop_55 rfl (lv_at hl 0 rfl) ?_
    refine lv_iconst (v := 1) hx hb dX2_pop_56 (by decide) ?_
    refine lv_iadd hx hb dX2_pop_57 ?_
    refine lv_iconst (v := 3) hx hb dX2_pop_58 (by decide) ?_
    refine lv_iadd hx hb dX2_pop_59 ?_
    refine lv_aload_n hx hb dX2_pop_60 rfl (lv_at hl 2 rfl) ?_
    refine m_getR C fd_X2_33 hI hF dX2_pop_61 (fun r12 hF => ?_)
    refine lv_iconst (v := 0) hx hb dX2_pop_64 (by decide) ?_
    refine lv_bipush (v := 7) hx hb dX2_pop_65 (by decide) ?_
    refine m_copy C cw_X2_19 hl.1 hI hF (Nat.le_of_ble_eq_true rfl) (Nat.le_of_ble_eq_true rfl) dX2_pop_67 (fun S13 H locs hF hI => ?_)
    exact (bl_X2_pop_70 C) S13 _ _ _ hF hI (lv_sub hl [] rfl)
noncomputable def f_X2_copy (v0 : Int32) (v1 : Int32) (S : mS) : Option mS := mGr 2 0 v1 S (fun r1 => mGr 2 0 v0 S (fun r2 => mCy r1 0 r2 0 88 S (fun S3 => mG 2 1 v1 S3 (fun r4 => mP 2 1 v0 r4 S3 (fun S5 => some S5)))))
def rm_X2_copy : Room := { frames := 1, cells := 0, slots := 0, locals := 18 }
set_option maxRecDepth 100000 in
set_option maxHeartbeats 4000000 in
theorem ok_X2_copy {l : Launch} {E : mE} {v0 : Int32} {v1 : Int32} {S : mS} {F : mS} (hF : f_X2_copy v0 v1 S = some F) : mMv l yX2_copy cX2_copy 2 none rm_X2_copy 0 0 [.ref (mA E.b v0), .ref (mA E.b v1)] E S F := by
  refine m_met_v (by decide) (Nat.le_of_ble_eq_true rfl) (fun p e s m args below meth c ls hin C hI hl => ?_)
  have hx := C.1
  have hb := C.2.1
  have hl : lv_has ls 2 [(0, .ref (mA E.b v0)), (1, .ref (mA E.b v1))] := hl
  generalize s.heap = H at hI ⊢
  generalize ([] : List Loc) = locs at hI ⊢
  refine lv_aload_n hx hb dX2_copy_0 rfl (lv_at hl 1 rfl) ?_
  refine m_getR C fd_X2_9 hI hF dX2_copy_1 (fun r1 hF => ?_)
  refine lv_iconst (v := 0) hx hb dX2_copy_4 (by decide) ?_
  refine lv_aload_n hx hb dX2_copy_5 rfl (lv_at hl 0 rfl) ?_
  refine m_getR C fd_X2_9 hI hF dX2_copy_6 (fun r2 hF => ?_)
  refine lv_iconst (v := 0) hx hb dX2_copy_9 (by decide) ?_
  refine lv_bipush (v := 88) hx hb dX2_copy_10 (by decide) ?_
  refine m_copy C cw_X2_19 hl.1 hI hF (Nat.le_of_ble_eq_true rfl) (Nat.le_of_ble_eq_true rfl) dX2_copy_12 (fun S3 H locs hF hI => ?_)
  refine lv_aload_n hx hb dX2_copy_15 rfl (lv_at hl 0 rfl) ?_
  refine lv_aload_n hx hb dX2_copy_16 rfl (lv_at hl 1 rfl) ?_
  refine m_get C fd_X2_15 hI hF dX2_copy_17 (fun r4 hF => ?_)
  refine m_put C fd_X2_15 hI hF dX2_copy_20 (fun S5 H locs hF hI => ?_)
  exact m_vret C hI hF dX2_copy_23
noncomputable def f_X3_init (v0 : Int32) (v1 : Int32) (v2 : Int32) (S : mS) : Option mS := mNa 8 18 S (fun r1 S2 => mPr 3 2 v0 r1 S2 (fun S3 => mP 3 0 v0 (mMin v1 6) S3 (fun S4 => mP 3 1 v0 (mMin v2 3) S4 (fun S5 => some S5))))
def rm_X3_init : Room := { frames := 1, cells := 1, slots := 18, locals := 14 }
set_option maxRecDepth 100000 in
set_option maxHeartbeats 4000000 in
theorem ok_X3_init {l : Launch} {E : mE} {v0 : Int32} {v1 : Int32} {v2 : Int32} {S : mS} {F : mS} (hF : f_X3_init v0 v1 v2 S = some F) : mMv l yX3_init cX3_init 3 none rm_X3_init 1 18 [.ref (mA E.b v0), .int v1, .int v2] E S F := by
  refine m_met_v (by decide) (Nat.le_of_ble_eq_true rfl) (fun p e s m args below meth c ls hin C hI hl => ?_)
  have hx := C.1
  have hin2 := hin rfl
  have hb := C.2.1
  have hl : lv_has ls 3 [(0, .ref (mA E.b v0)), (1, .int v1), (2, .int v2)] := hl
  generalize s.heap = H at hI ⊢
  generalize ([] : List Loc) = locs at hI ⊢
  refine lv_aload_n hx hb dX3_init_0 rfl (lv_at hl 0 rfl) ?_
  refine m_objInit C ow_X3_3 hl.1 (Nat.le_of_ble_eq_true rfl) (Nat.le_of_ble_eq_true rfl) dX3_init_1 ?_
  refine lv_aload_n hx hb dX3_init_4 rfl (lv_at hl 0 rfl) ?_
  refine lv_bipush (v := 18) hx hb dX3_init_5 (by decide) ?_
  refine m_newa C (atype := .int) (kd := 8) (ty := .int) (N := 18) aw_int rfl ⟨rfl, by decide, by decide, rfl, by decide⟩ (fun _ _ h => h) rfl (by decide) hI hF (Nat.le_of_ble_eq_true rfl) (Nat.le_of_ble_eq_true rfl) dX3_init_7 (fun r1 S2 H hF hI => ?_)
  refine m_putR C hin2 fd_X3_9 (fun _ => ⟨rfl, rfl⟩) hI hF dX3_init_9 (fun S3 H locs hF hI => ?_)
  refine lv_aload_n hx hb dX3_init_12 rfl (lv_at hl 0 rfl) ?_
  refine lv_iload_n hx hb dX3_init_13 rfl (lv_at hl 1 rfl) ?_
  refine lv_bipush (v := 6) hx hb dX3_init_14 (by decide) ?_
  refine m_min C mw_X3_15 hl.1 (Nat.le_of_ble_eq_true rfl) (Nat.le_of_ble_eq_true rfl) (Nat.le_of_ble_eq_true rfl) (Nat.le_of_ble_eq_true rfl) dX3_init_16 ?_
  refine m_putK C hin2 fd_X3_21 hI hF dX3_init_19 (fun S4 H locs hF hI => ?_)
  refine lv_aload_n hx hb dX3_init_22 rfl (lv_at hl 0 rfl) ?_
  refine lv_iload_n hx hb dX3_init_23 rfl (lv_at hl 2 rfl) ?_
  refine lv_iconst (v := 3) hx hb dX3_init_24 (by decide) ?_
  refine m_min C mw_X3_15 hl.1 (Nat.le_of_ble_eq_true rfl) (Nat.le_of_ble_eq_true rfl) (Nat.le_of_ble_eq_true rfl) (Nat.le_of_ble_eq_true rfl) dX3_init_25 ?_
  refine m_putK C hin2 fd_X3_25 hI hF dX3_init_28 (fun S5 H locs hF hI => ?_)
  exact m_vret C hI hF dX3_init_31
noncomputable def f_X3_add_61 (S : mS) : Option mS := some S
noncomputable def f_X3_add (v0 : Int32) (v1 : Int32) (v2 : Int32) (v3 : Int32) (S : mS) : Option mS := mG 3 3 v0 S (fun r1 => mG 3 0 v0 S (fun r2 => if r2 ≤ r1 then ((f_X3_add_61) S) else (mGr 3 2 v0 S (fun r3 => mG 3 3 v0 S (fun r4 => mXs r3 (3 * r4) v1 S (fun S5 => mGr 3 2 v0 S5 (fun r6 => mG 3 3 v0 S5 (fun r7 => mXs r6 ((3 * r7) + 1) v2 S5 (fun S8 => mGr 3 2 v0 S8 (fun r9 => mG 3 3 v0 S8 (fun r10 => mXs r9 ((3 * r10) + 2) v3 S8 (fun S11 => mG 3 3 v0 S11 (fun r12 => mP 3 3 v0 (r12 + 1) S11 (fun S13 => (f_X3_add_61) S13))))))))))))))
def rm_X3_add : Room := { frames := 0, cells := 0, slots := 0, locals := 0 }
set_option maxRecDepth 100000 in
set_option maxHeartbeats 4000000 in
theorem bl_X3_add_61 {p : Program} {l : Launch} {e : Env} {s : State} {m : MethodId} {args : Array Value} {below : List Frame} {meth : Method} {c : Code} {E : mE} {n0 : Nat} {F : mS} (C : mCx p s m args meth c cX3_add 4 RX3 none E n0) : ∀  (S : mS) (H : Heap) (locs : List Loc) (ls : Array Slot), f_X3_add_61 S = some F → mIv s E S H locs 0 → lv_has ls 4 [] → W p l e rm_X3_add s m args below meth c H locs 0 0 (mQv below args s 0 0 n0 E F) (F0 m 61 ls []) := by
  have hx := C.1
  have hb := C.2.1
  intro S H locs ls hF hI hl
  exact m_vret C hI hF dX3_add_61
set_option maxRecDepth 100000 in
set_option maxHeartbeats 4000000 in
theorem ok_X3_add {l : Launch} {E : mE} {v0 : Int32} {v1 : Int32} {v2 : Int32} {v3 : Int32} {S : mS} {F : mS} (hF : f_X3_add v0 v1 v2 v3 S = some F) : mMv l yX3_add cX3_add 4 none rm_X3_add 0 0 [.ref (mA E.b v0), .int v1, .int v2, .int v3] E S F := by
  refine m_met_v (by decide) (Nat.le_of_ble_eq_true rfl) (fun p e s m args below meth c ls hin C hI hl => ?_)
  have hx := C.1
  have hb := C.2.1
  have hl : lv_has ls 4 [(0, .ref (mA E.b v0)), (1, .int v1), (2, .int v2), (3, .int v3)] := hl
  generalize s.heap = H at hI ⊢
  generalize ([] : List Loc) = locs at hI ⊢
  refine lv_aload_n hx hb dX3_add_0 rfl (lv_at hl 0 rfl) ?_
  refine m_get C fd_X3_28 hI hF dX3_add_1 (fun r1 hF => ?_)
  refine lv_aload_n hx hb dX3_add_4 rfl (lv_at hl 0 rfl) ?_
  refine m_get C fd_X3_21 hI hF dX3_add_5 (fun r2 hF => ?_)
  refine m_icmp_ge C (tgt := 61) hF dX3_add_8 (by decide) (fun hF => ?_) (fun hF => ?_)
  · exact (bl_X3_add_61 C) S _ _ _ hF hI (lv_sub hl [] rfl)
  · refine lv_aload_n hx hb dX3_add_11 rfl (lv_at hl 0 rfl) ?_
    refine m_getR C fd_X3_9 hI hF dX3_add_12 (fun r3 hF => ?_)
    refine lv_iconst (v := 3) hx hb dX3_add_15 (by decide) ?_
    refine lv_aload_n hx hb dX3_add_16 rfl (lv_at hl 0 rfl) ?_
    refine m_get C fd_X3_28 hI hF dX3_add_17 (fun r4 hF => ?_)
    refine lv_imul hx hb dX3_add_20 ?_
    refine lv_iload_n hx hb dX3_add_21 rfl (lv_at hl 1 rfl) ?_
    refine m_iast C hI hF dX3_add_22 (fun S5 H locs hF hI => ?_)
    refine lv_aload_n hx hb dX3_add_23 rfl (lv_at hl 0 rfl) ?_
    refine m_getR C fd_X3_9 hI hF dX3_add_24 (fun r6 hF => ?_)
    refine lv_iconst (v := 3) hx hb dX3_add_27 (by decide) ?_
    refine lv_aload_n hx hb dX3_add_28 rfl (lv_at hl 0 rfl) ?_
    refine m_get C fd_X3_28 hI hF dX3_add_29 (fun r7 hF => ?_)
    refine lv_imul hx hb dX3_add_32 ?_
    refine lv_iconst (v := 1) hx hb dX3_add_33 (by decide) ?_
    refine lv_iadd hx hb dX3_add_34 ?_
    refine lv_iload_n hx hb dX3_add_35 rfl (lv_at hl 2 rfl) ?_
    refine m_iast C hI hF dX3_add_36 (fun S8 H locs hF hI => ?_)
    refine lv_aload_n hx hb dX3_add_37 rfl (lv_at hl 0 rfl) ?_
    refine m_getR C fd_X3_9 hI hF dX3_add_38 (fun r9 hF => ?_)
    refine lv_iconst (v := 3) hx hb dX3_add_41 (by decide) ?_
    refine lv_aload_n hx hb dX3_add_42 rfl (lv_at hl 0 rfl) ?_
    refine m_get C fd_X3_28 hI hF dX3_add_43 (fun r10 hF => ?_)
    refine lv_imul hx hb dX3_add_46 ?_
    refine lv_iconst (v := 2) hx hb dX3_add_47 (by decide) ?_
    refine lv_iadd hx hb dX3_add_48 ?_
    refine lv_iload_n hx hb dX3_add_49 rfl (lv_at hl 3 rfl) ?_
    refine m_iast C hI hF dX3_add_50 (fun S11 H locs hF hI => ?_)
    refine lv_aload_n hx hb dX3_add_51 rfl (lv_at hl 0 rfl) ?_
    refine lv_dup hx hb dX3_add_52 rfl ?_
    refine m_get C fd_X3_28 hI hF dX3_add_53 (fun r12 hF => ?_)
    refine lv_iconst (v := 1) hx hb dX3_add_56 (by decide) ?_
    refine lv_iadd hx hb dX3_add_57 ?_
    refine m_put C fd_X3_28 hI hF dX3_add_58 (fun S13 H locs hF hI => ?_)
    exact (bl_X3_add_61 C) S13 _ _ _ hF hI (lv_sub hl [] rfl)
noncomputable def f_X3_get_52 (S : mS) (t0 : Int32) : Option Int32 := some t0
noncomputable def f_X3_get_33 (S : mS) (v0 : Int32) (v1 : Int32) (v2 : Int32) (t0 : Int32) : Option Int32 := if t0 = 0 then ((f_X3_get_52 S) 0) else (mGr 3 2 v0 S (fun r3 => mX 8 r3 ((3 * v1) + v2) S (fun r4 => (f_X3_get_52 S) r4)))
noncomputable def f_X3_get_32 (S : mS) (v0 : Int32) (v1 : Int32) (v2 : Int32) : Option Int32 := (f_X3_get_33 S) v0 v1 v2 0
noncomputable def f_X3_get (v0 : Int32) (v1 : Int32) (v2 : Int32) (S : mS) : Option Int32 := mG 3 3 v0 S (fun r1 => mCp (f_X6_isWithin v1 0 (r1 - 1)) (fun r2 => if r2 = 0 then ((f_X3_get_32 S) v0 v1 v2) else (mG 3 1 v0 S (fun r5 => mCp (f_X6_isWithin v2 0 (r5 - 1)) (fun r6 => if r6 = 0 then ((f_X3_get_32 S) v0 v1 v2) else ((f_X3_get_33 S) v0 v1 v2 1))))))
def rm_X3_get : Room := { frames := 1, cells := 0, slots := 0, locals := 22 }
set_option maxRecDepth 100000 in
set_option maxHeartbeats 4000000 in
theorem bl_X3_get_52 {p : Program} {l : Launch} {e : Env} {s : State} {m : MethodId} {args : Array Value} {below : List Frame} {meth : Method} {c : Code} {E : mE} {n0 : Nat} {r : Int32} {S : mS} (C : mCx p s m args meth c cX3_get 4 RX3 (some .int) E n0) : ∀  (t0 : Int32) (H : Heap) (locs : List Loc) (ls : Array Slot), f_X3_get_52 S t0 = some r → mIv s E S H locs 0 → lv_has ls 4 [] → W p l e rm_X3_get s m args below meth c H locs 0 0 (mQi below args s 0 0 n0 E (r, S)) (F0 m 52 ls [.int t0]) := by
  have hx := C.1
  have hb := C.2.1
  intro t0 H locs ls hF hI hl
  exact m_iretiR C hI hF dX3_get_52
set_option maxRecDepth 100000 in
set_option maxHeartbeats 4000000 in
theorem bl_X3_get_33 {p : Program} {l : Launch} {e : Env} {s : State} {m : MethodId} {args : Array Value} {below : List Frame} {meth : Method} {c : Code} {E : mE} {n0 : Nat} {r : Int32} {S : mS} (C : mCx p s m args meth c cX3_get 4 RX3 (some .int) E n0) : ∀  (v0 : Int32) (v1 : Int32) (v2 : Int32) (t0 : Int32) (H : Heap) (locs : List Loc) (ls : Array Slot), f_X3_get_33 S v0 v1 v2 t0 = some r → mIv s E S H locs 0 → lv_has ls 4 [(0, .ref (mA E.b v0)), (1, .int v1), (2, .int v2)] → W p l e rm_X3_get s m args below meth c H locs 0 0 (mQi below args s 0 0 n0 E (r, S)) (F0 m 33 ls [.int t0]) := by
  have hx := C.1
  have hb := C.2.1
  intro v0 v1 v2 t0 H locs ls hF hI hl
  refine lv_istore_n (lv' := [(3, .int t0), (0, .ref (mA E.b v0)), (1, .int v1), (2, .int v2)]) hx hb dX3_get_33 rfl hl (by decide) rfl (fun ls hl => ?_)
  refine lv_iload_n hx hb dX3_get_34 rfl (lv_at hl 0 rfl) ?_
  refine m_if_eq C (tgt := 51) hF dX3_get_35 (by decide) (fun hF => ?_) (fun hF => ?_)
  · refine lv_iconst (v := 0) hx hb dX3_get_51 (by decide) ?_
    exact (bl_X3_get_52 C) 0 _ _ _ hF hI (lv_sub hl [] rfl)
  · refine lv_aload_n hx hb dX3_get_38 rfl (lv_at hl 1 rfl) ?_
    refine m_getR C fd_X3_9 hI hF dX3_get_39 (fun r3 hF => ?_)
    refine lv_iconst (v := 3) hx hb dX3_get_42 (by decide) ?_
    refine lv_iload_n hx hb dX3_get_43 rfl (lv_at hl 2 rfl) ?_
    refine lv_imul hx hb dX3_get_44 ?_
    refine lv_iload_n hx hb dX3_get_45 rfl (lv_at hl 3 rfl) ?_
    refine lv_iadd hx hb dX3_get_46 ?_
    refine m_iald C hI hF dX3_get_47 (fun r4 hF => ?_)
    refine lv_goto (tgt := 52) hx hb dX3_get_48 (by decide) ?_
    exact (bl_X3_get_52 C) r4 _ _ _ hF hI (lv_sub hl [] rfl)
set_option maxRecDepth 100000 in
set_option maxHeartbeats 4000000 in
theorem bl_X3_get_32 {p : Program} {l : Launch} {e : Env} {s : State} {m : MethodId} {args : Array Value} {below : List Frame} {meth : Method} {c : Code} {E : mE} {n0 : Nat} {r : Int32} {S : mS} (C : mCx p s m args meth c cX3_get 4 RX3 (some .int) E n0) : ∀  (v0 : Int32) (v1 : Int32) (v2 : Int32) (H : Heap) (locs : List Loc) (ls : Array Slot), f_X3_get_32 S v0 v1 v2 = some r → mIv s E S H locs 0 → lv_has ls 4 [(0, .ref (mA E.b v0)), (1, .int v1), (2, .int v2)] → W p l e rm_X3_get s m args below meth c H locs 0 0 (mQi below args s 0 0 n0 E (r, S)) (F0 m 32 ls []) := by
  have hx := C.1
  have hb := C.2.1
  intro v0 v1 v2 H locs ls hF hI hl
  refine lv_iconst (v := 0) hx hb dX3_get_32 (by decide) ?_
  exact (bl_X3_get_33 C) v0 v1 v2 0 _ _ _ hF hI (lv_sub hl [0, 1, 2] rfl)
set_option maxRecDepth 100000 in
set_option maxHeartbeats 4000000 in
theorem ok_X3_get {l : Launch} {E : mE} {v0 : Int32} {v1 : Int32} {v2 : Int32} {S : mS} {r : Int32} (hF : f_X3_get v0 v1 v2 S = some r) : mMi l yX3_get cX3_get 4 (some .int) rm_X3_get 0 0 [.ref (mA E.b v0), .int v1, .int v2] E S (r, S) := by
  refine m_met_i (by decide) (Nat.le_of_ble_eq_true rfl) (fun p e s m args below meth c ls hin C hI hl => ?_)
  have hx := C.1
  have hb := C.2.1
  have hl : lv_has ls 4 [(0, .ref (mA E.b v0)), (1, .int v1), (2, .int v2)] := hl
  generalize s.heap = H at hI ⊢
  generalize ([] : List Loc) = locs at hI ⊢
  refine lv_iload_n hx hb dX3_get_0 rfl (lv_at hl 1 rfl) ?_
  refine lv_iconst (v := 0) hx hb dX3_get_1 (by decide) ?_
  refine lv_aload_n hx hb dX3_get_2 rfl (lv_at hl 0 rfl) ?_
  refine m_get C fd_X3_28 hI hF dX3_get_3 (fun r1 hF => ?_)
  refine lv_iconst (v := 1) hx hb dX3_get_6 (by decide) ?_
  refine lv_isub hx hb dX3_get_7 ?_
  refine m_callNiR C cd_X3_31 hl.1 hI hF (fun _ h => ok_X6_isWithin h) rfl rfl ⟨rfl, rfl, Nat.le_of_ble_eq_true rfl, Nat.le_of_ble_eq_true rfl⟩ ⟨Nat.le_of_ble_eq_true rfl, Nat.le_of_ble_eq_true rfl⟩ (Nat.le_of_ble_eq_true rfl) dX3_get_8 (fun r2 H locs hF hI => ?_)
  refine m_if_eq C (tgt := 32) hF dX3_get_11 (by decide) (fun hF => ?_) (fun hF => ?_)
  · exact (bl_X3_get_32 C) v0 v1 v2 _ _ _ hF hI (lv_sub hl [0, 1, 2] rfl)
  · refine lv_iload_n hx hb dX3_get_14 rfl (lv_at hl 2 rfl) ?_
    refine lv_iconst (v := 0) hx hb dX3_get_15 (by decide) ?_
    refine lv_aload_n hx hb dX3_get_16 rfl (lv_at hl 0 rfl) ?_
    refine m_get C fd_X3_25 hI hF dX3_get_17 (fun r5 hF => ?_)
    refine lv_iconst (v := 1) hx hb dX3_get_20 (by decide) ?_
    refine lv_isub hx hb dX3_get_21 ?_
    refine m_callNiR C cd_X3_31 hl.1 hI hF (fun _ h => ok_X6_isWithin h) rfl rfl ⟨rfl, rfl, Nat.le_of_ble_eq_true rfl, Nat.le_of_ble_eq_true rfl⟩ ⟨Nat.le_of_ble_eq_true rfl, Nat.le_of_ble_eq_true rfl⟩ (Nat.le_of_ble_eq_true rfl) dX3_get_22 (fun r6 H locs hF hI => ?_)
    refine m_if_eq C (tgt := 32) hF dX3_get_25 (by decide) (fun hF => ?_) (fun hF => ?_)
    · exact (bl_X3_get_32 C) v0 v1 v2 _ _ _ hF hI (lv_sub hl [0, 1, 2] rfl)
    · refine lv_iconst (v := 1) hx hb dX3_get_28 (by decide) ?_
      refine lv_goto (tgt := 33) hx hb dX3_get_29 (by decide) ?_
      exact (bl_X3_get_33 C) v0 v1 v2 1 _ _ _ hF hI (lv_sub hl [0, 1, 2] rfl)
noncomputable def f_X3_copy (v0 : Int32) (v1 : Int32) (S : mS) : Option mS := mGr 3 2 v1 S (fun r1 => mGr 3 2 v0 S (fun r2 => mCy r1 0 r2 0 18 S (fun S3 => mG 3 3 v1 S3 (fun r4 => mP 3 3 v0 r4 S3 (fun S5 => some S5)))))
def rm_X3_copy : Room := { frames := 1, cells := 0, slots := 0, locals := 18 }
set_option maxRecDepth 100000 in
set_option maxHeartbeats 4000000 in
theorem ok_X3_copy {l : Launch} {E : mE} {v0 : Int32} {v1 : Int32} {S : mS} {F : mS} (hF : f_X3_copy v0 v1 S = some F) : mMv l yX3_copy cX3_copy 2 none rm_X3_copy 0 0 [.ref (mA E.b v0), .ref (mA E.b v1)] E S F := by
  refine m_met_v (by decide) (Nat.le_of_ble_eq_true rfl) (fun p e s m args below meth c ls hin C hI hl => ?_)
  have hx := C.1
  have hb := C.2.1
  have hl : lv_has ls 2 [(0, .ref (mA E.b v0)), (1, .ref (mA E.b v1))] := hl
  generalize s.heap = H at hI ⊢
  generalize ([] : List Loc) = locs at hI ⊢
  refine lv_aload_n hx hb dX3_copy_0 rfl (lv_at hl 1 rfl) ?_
  refine m_getR C fd_X3_9 hI hF dX3_copy_1 (fun r1 hF => ?_)
  refine lv_iconst (v := 0) hx hb dX3_copy_4 (by decide) ?_
  refine lv_aload_n hx hb dX3_copy_5 rfl (lv_at hl 0 rfl) ?_
  refine m_getR C fd_X3_9 hI hF dX3_copy_6 (fun r2 hF => ?_)
  refine lv_iconst (v := 0) hx hb dX3_copy_9 (by decide) ?_
  refine lv_bipush (v := 18) hx hb dX3_copy_10 (by decide) ?_
  refine m_copy C cw_X3_35 hl.1 hI hF (Nat.le_of_ble_eq_true rfl) (Nat.le_of_ble_eq_true rfl) dX3_copy_12 (fun S3 H locs hF hI => ?_)
  refine lv_aload_n hx hb dX3_copy_15 rfl (lv_at hl 0 rfl) ?_
  refine lv_aload_n hx hb dX3_copy_16 rfl (lv_at hl 1 rfl) ?_
  refine m_get C fd_X3_28 hI hF dX3_copy_17 (fun r4 hF => ?_)
  refine m_put C fd_X3_28 hI hF dX3_copy_20 (fun S5 H locs hF hI => ?_)
  exact m_vret C hI hF dX3_copy_23
noncomputable def f_X4_init (v0 : Int32) (S : mS) : Option mS := mNa 9 150 S (fun r1 S2 => mPr 4 0 v0 r1 S2 (fun S3 => some S3))
def rm_X4_init : Room := { frames := 1, cells := 1, slots := 150, locals := 12 }
set_option maxRecDepth 100000 in
set_option maxHeartbeats 4000000 in
theorem ok_X4_init {l : Launch} {E : mE} {v0 : Int32} {S : mS} {F : mS} (hF : f_X4_init v0 S = some F) : mMv l yX4_init cX4_init 1 none rm_X4_init 1 150 [.ref (mA E.b v0)] E S F := by
  refine m_met_v (by decide) (Nat.le_of_ble_eq_true rfl) (fun p e s m args below meth c ls hin C hI hl => ?_)
  have hx := C.1
  have hin2 := hin rfl
  have hb := C.2.1
  have hl : lv_has ls 1 [(0, .ref (mA E.b v0))] := hl
  generalize s.heap = H at hI ⊢
  generalize ([] : List Loc) = locs at hI ⊢
  refine lv_aload_n hx hb dX4_init_0 rfl (lv_at hl 0 rfl) ?_
  refine m_objInit C ow_X4_3 hl.1 (Nat.le_of_ble_eq_true rfl) (Nat.le_of_ble_eq_true rfl) dX4_init_1 ?_
  refine lv_aload_n hx hb dX4_init_4 rfl (lv_at hl 0 rfl) ?_
  refine lv_sipush (v := 150) hx hb dX4_init_5 (by decide) ?_
  refine m_newa C (atype := .byte) (kd := 9) (ty := .byte) (N := 150) aw_byte rfl ⟨rfl, by decide, by decide, rfl, by decide⟩ (fun _ _ h => h) rfl (by decide) hI hF (Nat.le_of_ble_eq_true rfl) (Nat.le_of_ble_eq_true rfl) dX4_init_8 (fun r1 S2 H hF hI => ?_)
  refine m_putR C hin2 fd_X4_9 (fun _ => ⟨rfl, rfl⟩) hI hF dX4_init_10 (fun S3 H locs hF hI => ?_)
  exact m_vret C hI hF dX4_init_13
noncomputable def f_X4_add_31 (S : mS) : Option mS := some S
noncomputable def f_X4_add (v0 : Int32) (v1 : Int32) (S : mS) : Option mS := mG 4 1 v0 S (fun r1 => if 150 ≤ r1 then ((f_X4_add_31) S) else (mGr 4 0 v0 S (fun r2 => mG 4 1 v0 S (fun r3 => mXb r2 r3 (v1.toInt8.toInt32) S (fun S4 => mG 4 1 v0 S4 (fun r5 => mP 4 1 v0 (r5 + 1) S4 (fun S6 => (f_X4_add_31) S6)))))))
def rm_X4_add : Room := { frames := 0, cells := 0, slots := 0, locals := 0 }
set_option maxRecDepth 100000 in
set_option maxHeartbeats 4000000 in
theorem bl_X4_add_31 {p : Program} {l : Launch} {e : Env} {s : State} {m : MethodId} {args : Array Value} {below : List Frame} {meth : Method} {c : Code} {E : mE} {n0 : Nat} {F : mS} (C : mCx p s m args meth c cX4_add 2 RX4 none E n0) : ∀  (S : mS) (H : Heap) (locs : List Loc) (ls : Array Slot), f_X4_add_31 S = some F → mIv s E S H locs 0 → lv_has ls 2 [] → W p l e rm_X4_add s m args below meth c H locs 0 0 (mQv below args s 0 0 n0 E F) (F0 m 31 ls []) := by
  have hx := C.1
  have hb := C.2.1
  intro S H locs ls hF hI hl
  exact m_vret C hI hF dX4_add_31
set_option maxRecDepth 100000 in
set_option maxHeartbeats 4000000 in
theorem ok_X4_add {l : Launch} {E : mE} {v0 : Int32} {v1 : Int32} {S : mS} {F : mS} (hF : f_X4_add v0 v1 S = some F) : mMv l yX4_add cX4_add 2 none rm_X4_add 0 0 [.ref (mA E.b v0), .int v1] E S F := by
  refine m_met_v (by decide) (Nat.le_of_ble_eq_true rfl) (fun p e s m args below meth c ls hin C hI hl => ?_)
  have hx := C.1
  have hb := C.2.1
  have hl : lv_has ls 2 [(0, .ref (mA E.b v0)), (1, .int v1)] := hl
  generalize s.heap = H at hI ⊢
  generalize ([] : List Loc) = locs at hI ⊢
  refine lv_aload_n hx hb dX4_add_0 rfl (lv_at hl 0 rfl) ?_
  refine m_get C fd_X4_15 hI hF dX4_add_1 (fun r1 hF => ?_)
  refine lv_sipush (v := 150) hx hb dX4_add_4 (by decide) ?_
  refine m_icmp_ge C (tgt := 31) hF dX4_add_7 (by decide) (fun hF => ?_) (fun hF => ?_)
  · exact (bl_X4_add_31 C) S _ _ _ hF hI (lv_sub hl [] rfl)
  · refine lv_aload_n hx hb dX4_add_10 rfl (lv_at hl 0 rfl) ?_
    refine m_getR C fd_X4_9 hI hF dX4_add_11 (fun r2 hF => ?_)
    refine lv_aload_n hx hb dX4_add_14 rfl (lv_at hl 0 rfl) ?_
    refine m_get C fd_X4_15 hI hF dX4_add_15 (fun r3 hF => ?_)
    refine lv_iload_n hx hb dX4_add_18 rfl (lv_at hl 1 rfl) ?_
    refine lv_i2b hx hb dX4_add_19 rfl ?_
    refine m_bast C hI hF dX4_add_20 (fun S4 H locs hF hI => ?_)
    refine lv_aload_n hx hb dX4_add_21 rfl (lv_at hl 0 rfl) ?_
    refine lv_dup hx hb dX4_add_22 rfl ?_
    refine m_get C fd_X4_15 hI hF dX4_add_23 (fun r5 hF => ?_)
    refine lv_iconst (v := 1) hx hb dX4_add_26 (by decide) ?_
    refine lv_iadd hx hb dX4_add_27 ?_
    refine m_put C fd_X4_15 hI hF dX4_add_28 (fun S6 H locs hF hI => ?_)
    exact (bl_X4_add_31 C) S6 _ _ _ hF hI (lv_sub hl [] rfl)
noncomputable def f_X5_begin (v0 : Int32) (v1 : Int32) (S : mS) : Option mS := mGr 5 0 v0 S (fun r1 => mRc 1 r1 S (mCv (f_X1_empty r1 S) (fun S3 => mGr 5 1 v0 S3 (fun r4 => mP 3 3 r4 0 S3 (fun S5 => mGr 5 2 v0 S5 (fun r6 => mP 3 3 r6 0 S5 (fun S7 => mGr 5 3 v0 S7 (fun r8 => mP 3 3 r8 0 S7 (fun S9 => mGr 5 4 v0 S9 (fun r10 => mP 2 1 r10 0 S9 (fun S11 => mP 5 5 v0 v1 S11 (fun S12 => some S12))))))))))))
def rm_X5_begin : Room := { frames := 1, cells := 0, slots := 0, locals := 20 }
set_option maxRecDepth 100000 in
set_option maxHeartbeats 4000000 in
theorem ok_X5_begin {l : Launch} {E : mE} {v0 : Int32} {v1 : Int32} {S : mS} {F : mS} (hF : f_X5_begin v0 v1 S = some F) : mMv l yX5_begin cX5_begin 2 none rm_X5_begin 0 0 [.ref (mA E.b v0), .int v1] E S F := by
  refine m_met_v (by decide) (Nat.le_of_ble_eq_true rfl) (fun p e s m args below meth c ls hin C hI hl => ?_)
  have hx := C.1
  have hb := C.2.1
  have hl : lv_has ls 2 [(0, .ref (mA E.b v0)), (1, .int v1)] := hl
  generalize s.heap = H at hI ⊢
  generalize ([] : List Loc) = locs at hI ⊢
  refine lv_aload_n hx hb dX5_begin_0 rfl (lv_at hl 0 rfl) ?_
  refine m_getR C fd_X5_12 hI hF dX5_begin_1 (fun r1 hF => ?_)
  refine m_callVv C cd_X5_40 ⟨rfl, by decide⟩ hl.1 hI hF (fun _ h => ok_X1_empty h) rfl rfl ⟨rfl, rfl, Nat.le_of_ble_eq_true rfl, Nat.le_of_ble_eq_true rfl⟩ ⟨Nat.le_of_ble_eq_true rfl, Nat.le_of_ble_eq_true rfl⟩ (Nat.le_of_ble_eq_true rfl) dX5_begin_4 (fun S3 H locs hF hI => ?_)
  refine lv_aload_n hx hb dX5_begin_7 rfl (lv_at hl 0 rfl) ?_
  refine m_getR C fd_X5_23 hI hF dX5_begin_8 (fun r4 hF => ?_)
  refine lv_iconst (v := 0) hx hb dX5_begin_11 (by decide) ?_
  refine m_put C fd_X5_43 hI hF dX5_begin_12 (fun S5 H locs hF hI => ?_)
  refine lv_aload_n hx hb dX5_begin_15 rfl (lv_at hl 0 rfl) ?_
  refine m_getR C fd_X5_27 hI hF dX5_begin_16 (fun r6 hF => ?_)
  refine lv_iconst (v := 0) hx hb dX5_begin_19 (by decide) ?_
  refine m_put C fd_X5_43 hI hF dX5_begin_20 (fun S7 H locs hF hI => ?_)
  refine lv_aload_n hx hb dX5_begin_23 rfl (lv_at hl 0 rfl) ?_
  refine m_getR C fd_X5_30 hI hF dX5_begin_24 (fun r8 hF => ?_)
  refine lv_iconst (v := 0) hx hb dX5_begin_27 (by decide) ?_
  refine m_put C fd_X5_43 hI hF dX5_begin_28 (fun S9 H locs hF hI => ?_)
  refine lv_aload_n hx hb dX5_begin_31 rfl (lv_at hl 0 rfl) ?_
  refine m_getR C fd_X5_36 hI hF dX5_begin_32 (fun r10 hF => ?_)
  refine lv_iconst (v := 0) hx hb dX5_begin_35 (by decide) ?_
  refine m_put C fd_X5_47 hI hF dX5_begin_36 (fun S11 H locs hF hI => ?_)
  refine lv_aload_n hx hb dX5_begin_39 rfl (lv_at hl 0 rfl) ?_
  refine lv_iload_n hx hb dX5_begin_40 rfl (lv_at hl 1 rfl) ?_
  refine m_put C fd_X5_48 hI hF dX5_begin_41 (fun S12 H locs hF hI => ?_)
  exact m_vret C hI hF dX5_begin_44
noncomputable def f_X4_isLetter (v0 : Int32) : Option Int32 := mCp (f_X6_isWithin v0 97 122) (fun r1 => mZ r1 (some r1))
def rm_X4_isLetter : Room := { frames := 1, cells := 0, slots := 0, locals := 22 }
set_option maxRecDepth 100000 in
set_option maxHeartbeats 4000000 in
theorem ok_X4_isLetter {l : Launch} {E : mE} {v0 : Int32} {S : mS} {r : Int32} (hF : f_X4_isLetter v0 = some r) : mMi l yX4_isLetter cX4_isLetter 1 (some .boolean) rm_X4_isLetter 0 0 [.int v0] E S (r, S) := by
  refine m_met_i (by decide) (Nat.le_of_ble_eq_true rfl) (fun p e s m args below meth c ls hin C hI hl => ?_)
  have hx := C.1
  have hb := C.2.1
  have hl : lv_has ls 1 [(0, .int v0)] := hl
  generalize s.heap = H at hI ⊢
  generalize ([] : List Loc) = locs at hI ⊢
  refine lv_iload_n hx hb dX4_isLetter_0 rfl (lv_at hl 0 rfl) ?_
  refine lv_bipush (v := 97) hx hb dX4_isLetter_1 (by decide) ?_
  refine lv_bipush (v := 122) hx hb dX4_isLetter_3 (by decide) ?_
  refine m_callNiR C cd_X4_87 hl.1 hI hF (fun _ h => ok_X6_isWithin h) rfl rfl ⟨rfl, rfl, Nat.le_of_ble_eq_true rfl, Nat.le_of_ble_eq_true rfl⟩ ⟨Nat.le_of_ble_eq_true rfl, Nat.le_of_ble_eq_true rfl⟩ (Nat.le_of_ble_eq_true rfl) dX4_isLetter_5 (fun r1 H locs hF hI => ?_)
  exact m_iretzR C hI hF dX4_isLetter_8
noncomputable def f_X4_nameOf (v0 : Int32) : Option Nat := if v0 = 4 then (some 0) else if v0 = 5 then (some 1) else if v0 = 6 then (some 2) else if v0 = 7 then (some 3) else (some 4)
def rm_X4_nameOf : Room := { frames := 0, cells := 0, slots := 0, locals := 0 }
set_option maxRecDepth 100000 in
set_option maxHeartbeats 4000000 in
theorem ok_X4_nameOf {l : Launch} {E : mE} {v0 : Int32} {S : mS} {r : Nat} (hF : f_X4_nameOf v0 = some r) : mMs l yX4_nameOf cX4_nameOf 1 (some (.object "java/lang/String")) rm_X4_nameOf 0 0 [.int v0] E S (r, S) := by
  refine m_met_s (by decide) (Nat.le_of_ble_eq_true rfl) (fun p e s m args below meth c ls hin C hI hl => ?_)
  have hx := C.1
  have hb := C.2.1
  have hl : lv_has ls 1 [(0, .int v0)] := hl
  generalize s.heap = H at hI ⊢
  generalize ([] : List Loc) = locs at hI ⊢
  refine lv_iload_n hx hb dX4_nameOf_0 rfl (lv_at hl 0 rfl) ?_
  refine m_if hF (fun c4 hF => ?_) (fun c4 hF => ?_)
  · refine m_swIn C dX4_nameOf_1 c4 4 rfl (by decide) (by decide) rfl (tgt := 32) (by decide) ?_
    refine va_ldcS hx hb C.2.2.2.1 C.2.2.2.2.2.2.2.2.2.1.2.1.1 dX4_nameOf_32 ?_
    exact m_aretS C hI hF dX4_nameOf_34
  refine m_if hF (fun c5 hF => ?_) (fun c5 hF => ?_)
  · refine m_swIn C dX4_nameOf_1 c5 5 rfl (by decide) (by decide) rfl (tgt := 35) (by decide) ?_
    refine va_ldcS hx hb C.2.2.2.1 C.2.2.2.2.2.2.2.2.2.1.2.1.2.1 dX4_nameOf_35 ?_
    exact m_aretS C hI hF dX4_nameOf_37
  refine m_if hF (fun c6 hF => ?_) (fun c6 hF => ?_)
  · refine m_swIn C dX4_nameOf_1 c6 6 rfl (by decide) (by decide) rfl (tgt := 38) (by decide) ?_
    refine va_ldcS hx hb C.2.2.2.1 C.2.2.2.2.2.2.2.2.2.1.2.1.2.2.1 dX4_nameOf_38 ?_
    exact m_aretS C hI hF dX4_nameOf_40
  refine m_if hF (fun c7 hF => ?_) (fun c7 hF => ?_)
  · refine m_swIn C dX4_nameOf_1 c7 7 rfl (by decide) (by decide) rfl (tgt := 41) (by decide) ?_
    refine va_ldcS hx hb C.2.2.2.1 C.2.2.2.2.2.2.2.2.2.1.2.1.2.2.2.1 dX4_nameOf_41 ?_
    exact m_aretS C hI hF dX4_nameOf_43
  refine lv_tableOut (tgt := 44) hx hb dX4_nameOf_1 (by have := lv_neT c4 (a := 4) rfl; have := lv_neT c5 (a := 5) rfl; have := lv_neT c6 (a := 6) rfl; have := lv_neT c7 (a := 7) rfl; omega) (by decide) ?_
  refine va_ldcS hx hb C.2.2.2.1 C.2.2.2.2.2.2.2.2.2.1.2.1.2.2.2.2 dX4_nameOf_44 ?_
  exact m_aretS C hI hF dX4_nameOf_46
noncomputable def f_X4_spells_20 (k55 : Option Int32) (S : mS) : Nat → Int32 → Nat → Int32 → Option Int32 := fun n => Nat.rec (motive := fun _ => Int32 → Nat → Int32 → Option Int32) (fun _ _ _ => none) (fun _ rec v0 v1 v2 => mCp (f_len v1) (fun r4 => if r4 ≤ v2 then (k55) else (mGr 4 0 v0 S (fun r5 => mG 4 2 v0 S (fun r6 => mX 9 r5 (r6 + v2) S (fun r7 => mCp (f_chA v1 v2) (fun r8 => if r7 = r8 then (rec v0 v1 (v2 + 1)) else (mZ 0 (some 0))))))))) n
theorem f_X4_spells_20_s (k55 : Option Int32) (S : mS) (n : Nat) (v0 : Int32) (v1 : Nat) (v2 : Int32) : f_X4_spells_20 k55 S (n + 1) v0 v1 v2 = mCp (f_len v1) (fun r4 => if r4 ≤ v2 then (k55) else (mGr 4 0 v0 S (fun r5 => mG 4 2 v0 S (fun r6 => mX 9 r5 (r6 + v2) S (fun r7 => mCp (f_chA v1 v2) (fun r8 => if r7 = r8 then ((f_X4_spells_20 k55 S n) v0 v1 (v2 + 1)) else (mZ 0 (some 0)))))))) := rfl
noncomputable def f_X4_spells_55 (S : mS) : Option Int32 := mZ 1 (some 1)
noncomputable def f_X4_spells (v0 : Int32) (v1 : Nat) (S : mS) : Option Int32 := mG 4 3 v0 S (fun r1 => mG 4 2 v0 S (fun r2 => mCp (f_len v1) (fun r3 => if (r1 - r2) = r3 then ((f_X4_spells_20 (f_X4_spells_55 S) S 1000) v0 v1 0) else (mZ 0 (some 0)))))
def rm_X4_spells : Room := { frames := 4, cells := 0, slots := 0, locals := 85 }
set_option maxRecDepth 100000 in
set_option maxHeartbeats 4000000 in
theorem bl_X4_spells_20 {p : Program} {l : Launch} {e : Env} {s : State} {m : MethodId} {args : Array Value} {below : List Frame} {meth : Method} {c : Code} {E : mE} {n0 : Nat} {r : Int32} {S : mS} (C : mCx p s m args meth c cX4_spells 3 RX4 (some .boolean) E n0) {k55 : Option Int32} (hk55 : ∀ (H : Heap) (locs : List Loc) (ls : Array Slot), k55 = some r → mIv s E S H locs 0 → lv_has ls 3 [] → W p l e rm_X4_spells s m args below meth c H locs 0 0 (mQi below args s 0 0 n0 E (r, S)) (F0 m 55 ls [])) : ∀ (n : Nat)  (v0 : Int32) (v1 : Nat) (v2 : Int32) (H : Heap) (locs : List Loc) (ls : Array Slot), f_X4_spells_20 k55 S n v0 v1 v2 = some r → mIv s E S H locs 0 → lv_has ls 3 [(0, .ref (mA E.b v0)), (1, .ref (E.adK v1)), (2, .int v2)] → W p l e rm_X4_spells s m args below meth c H locs 0 0 (mQi below args s 0 0 n0 E (r, S)) (F0 m 20 ls []) := by
  have hx := C.1
  have hb := C.2.1
  intro n
  induction n with
  | zero =>
    intro v0 v1 v2 H locs ls hF
    exact nomatch (show (none : Option Int32) = some r from hF)
  | succ n ih =>
    intro v0 v1 v2 H locs ls hF hI hl
    have hF := (f_X4_spells_20_s k55 S n v0 v1 v2).symm.trans hF
    refine lv_iload_n hx hb dX4_spells_20 rfl (lv_at hl 2 rfl) ?_
    refine lv_aload_n hx hb dX4_spells_21 rfl (lv_at hl 1 rfl) ?_
    refine m_strLen C hl.1 hI hF ⟨Nat.le_of_ble_eq_true rfl, Nat.le_of_ble_eq_true rfl⟩ ⟨Nat.le_of_ble_eq_true rfl, Nat.le_of_ble_eq_true rfl⟩ (Nat.le_of_ble_eq_true rfl) dX4_spells_22 (fun r4 H locs hF hI => ?_)
    refine m_icmp_ge C (tgt := 55) hF dX4_spells_25 (by decide) (fun hF => ?_) (fun hF => ?_)
    · exact hk55  _ _ _ hF hI (lv_sub hl [] rfl)
    · refine lv_aload_n hx hb dX4_spells_28 rfl (lv_at hl 0 rfl) ?_
      refine m_getR C fd_X4_9 hI hF dX4_spells_29 (fun r5 hF => ?_)
      refine lv_aload_n hx hb dX4_spells_32 rfl (lv_at hl 0 rfl) ?_
      refine m_get C fd_X4_42 hI hF dX4_spells_33 (fun r6 hF => ?_)
      refine lv_iload_n hx hb dX4_spells_36 rfl (lv_at hl 2 rfl) ?_
      refine lv_iadd hx hb dX4_spells_37 ?_
      refine m_bald C hI hF dX4_spells_38 (fun r7 hF => ?_)
      refine lv_aload_n hx hb dX4_spells_39 rfl (lv_at hl 1 rfl) ?_
      refine lv_iload_n hx hb dX4_spells_40 rfl (lv_at hl 2 rfl) ?_
      refine m_strChA C hl.1 hI hF ⟨Nat.le_of_ble_eq_true rfl, Nat.le_of_ble_eq_true rfl⟩ ⟨Nat.le_of_ble_eq_true rfl, Nat.le_of_ble_eq_true rfl⟩ (Nat.le_of_ble_eq_true rfl) dX4_spells_41 (fun r8 H locs hF hI => ?_)
      refine m_icmp_eq C (tgt := 49) hF dX4_spells_44 (by decide) (fun hF => ?_) (fun hF => ?_)
      · refine lv_iinc (v := v2 + 1) (lv' := [(2, .int (v2 + 1)), (0, .ref (mA E.b v0)), (1, .ref (E.adK v1))]) hx hb dX4_spells_49 hl (k := 2) rfl rfl (by decide) rfl (fun ls hl => ?_)
        refine lv_goto (tgt := 20) hx hb dX4_spells_52 (by decide) ?_
        exact ih v0 v1 (v2 + 1) _ _ _ hF hI (lv_sub hl [1, 2, 0] rfl)
      · refine lv_iconst (v := 0) hx hb dX4_spells_47 (by decide) ?_
        exact m_iretzR C hI hF dX4_spells_48
set_option maxRecDepth 100000 in
set_option maxHeartbeats 4000000 in
theorem bl_X4_spells_55 {p : Program} {l : Launch} {e : Env} {s : State} {m : MethodId} {args : Array Value} {below : List Frame} {meth : Method} {c : Code} {E : mE} {n0 : Nat} {r : Int32} {S : mS} (C : mCx p s m args meth c cX4_spells 3 RX4 (some .boolean) E n0) : ∀  (H : Heap) (locs : List Loc) (ls : Array Slot), f_X4_spells_55 S = some r → mIv s E S H locs 0 → lv_has ls 3 [] → W p l e rm_X4_spells s m args below meth c H locs 0 0 (mQi below args s 0 0 n0 E (r, S)) (F0 m 55 ls []) := by
  have hx := C.1
  have hb := C.2.1
  intro H locs ls hF hI hl
  refine lv_iconst (v := 1) hx hb dX4_spells_55 (by decide) ?_
  exact m_iretzR C hI hF dX4_spells_56
set_option maxRecDepth 100000 in
set_option maxHeartbeats 4000000 in
theorem ok_X4_spells {l : Launch} {E : mE} {v0 : Int32} {v1 : Nat} {S : mS} {r : Int32} (hF : f_X4_spells v0 v1 S = some r) : mMi l yX4_spells cX4_spells 3 (some .boolean) rm_X4_spells 0 0 [.ref (mA E.b v0), .ref (E.adK v1)] E S (r, S) := by
  refine m_met_i (by decide) (Nat.le_of_ble_eq_true rfl) (fun p e s m args below meth c ls hin C hI hl => ?_)
  have hx := C.1
  have hb := C.2.1
  have hl : lv_has ls 3 [(0, .ref (mA E.b v0)), (1, .ref (E.adK v1))] := hl
  generalize s.heap = H at hI ⊢
  generalize ([] : List Loc) = locs at hI ⊢
  refine lv_aload_n hx hb dX4_spells_0 rfl (lv_at hl 0 rfl) ?_
  refine m_get C fd_X4_25 hI hF dX4_spells_1 (fun r1 hF => ?_)
  refine lv_aload_n hx hb dX4_spells_4 rfl (lv_at hl 0 rfl) ?_
  refine m_get C fd_X4_42 hI hF dX4_spells_5 (fun r2 hF => ?_)
  refine lv_isub hx hb dX4_spells_8 ?_
  refine lv_aload_n hx hb dX4_spells_9 rfl (lv_at hl 1 rfl) ?_
  refine m_strLen C hl.1 hI hF ⟨Nat.le_of_ble_eq_true rfl, Nat.le_of_ble_eq_true rfl⟩ ⟨Nat.le_of_ble_eq_true rfl, Nat.le_of_ble_eq_true rfl⟩ (Nat.le_of_ble_eq_true rfl) dX4_spells_10 (fun r3 H locs hF hI => ?_)
  refine m_icmp_eq C (tgt := 18) hF dX4_spells_13 (by decide) (fun hF => ?_) (fun hF => ?_)
  · refine lv_iconst (v := 0) hx hb dX4_spells_18 (by decide) ?_
    refine lv_istore_n (lv' := [(2, .int 0), (0, .ref (mA E.b v0)), (1, .ref (E.adK v1))]) hx hb dX4_spells_19 rfl hl (by decide) rfl (fun ls hl => ?_)
    exact (bl_X4_spells_20 C (k55 := (f_X4_spells_55 S)) (bl_X4_spells_55 C) 1000) v0 v1 0 _ _ _ hF hI (lv_sub hl [1, 2, 0] rfl)
  · refine lv_iconst (v := 0) hx hb dX4_spells_16 (by decide) ?_
    exact m_iretzR C hI hF dX4_spells_17
noncomputable def f_X4_takeWord_0 (k39 : Int32 → mS → Option mS) : Nat → Int32 → mS → Option mS := fun n => Nat.rec (motive := fun _ => Int32 → mS → Option mS) (fun _ _ => none) (fun _ rec v0 S => mG 4 3 v0 S (fun r1 => mG 4 1 v0 S (fun r2 => if r2 ≤ r1 then (k39 v0 S) else (mGr 4 0 v0 S (fun r3 => mG 4 3 v0 S (fun r4 => mX 9 r3 r4 S (fun r5 => mCp (f_X4_isLetter r5) (fun r6 => if r6 = 0 then (k39 v0 S) else (mG 4 3 v0 S (fun r7 => mP 4 3 v0 (r7 + 1) S (fun S8 => rec v0 S8))))))))))) n
theorem f_X4_takeWord_0_s (k39 : Int32 → mS → Option mS) (n : Nat) (v0 : Int32) (S : mS) : f_X4_takeWord_0 k39 (n + 1) v0 S = mG 4 3 v0 S (fun r1 => mG 4 1 v0 S (fun r2 => if r2 ≤ r1 then (k39 v0 S) else (mGr 4 0 v0 S (fun r3 => mG 4 3 v0 S (fun r4 => mX 9 r3 r4 S (fun r5 => mCp (f_X4_isLetter r5) (fun r6 => if r6 = 0 then (k39 v0 S) else (mG 4 3 v0 S (fun r7 => mP 4 3 v0 (r7 + 1) S (fun S8 => (f_X4_takeWord_0 k39 n) v0 S8)))))))))) := rfl
noncomputable def f_X4_takeWord_68 (k46 : Int32 → Int32 → mS → Option mS) (v0 : Int32) (v1 : Int32) (S : mS) : Option mS := k46 v0 (v1 + 1) S
noncomputable def f_X4_takeWord_46 (k74 : mS → Option mS) : Nat → Int32 → Int32 → mS → Option mS := fun n => Nat.rec (motive := fun _ => Int32 → Int32 → mS → Option mS) (fun _ _ _ => none) (fun _ rec v0 v1 S => if 8 < v1 then (k74 S) else (mCp (f_X4_nameOf v1) (fun r10 => mRc 4 v0 S (mCp (f_X4_spells v0 r10 S) (fun r11 => if r11 = 0 then ((f_X4_takeWord_68 rec) v0 v1 S) else (mP 4 4 v0 v1 S (fun S12 => (f_X4_takeWord_68 rec) v0 v1 S12))))))) n
theorem f_X4_takeWord_46_s (k74 : mS → Option mS) (n : Nat) (v0 : Int32) (v1 : Int32) (S : mS) : f_X4_takeWord_46 k74 (n + 1) v0 v1 S = if 8 < v1 then (k74 S) else (mCp (f_X4_nameOf v1) (fun r10 => mRc 4 v0 S (mCp (f_X4_spells v0 r10 S) (fun r11 => if r11 = 0 then ((f_X4_takeWord_68 (f_X4_takeWord_46 k74 n)) v0 v1 S) else (mP 4 4 v0 v1 S (fun S12 => (f_X4_takeWord_68 (f_X4_takeWord_46 k74 n)) v0 v1 S12)))))) := rfl
noncomputable def f_X4_takeWord_74 (S : mS) : Option mS := some S
noncomputable def f_X4_takeWord_39 (v0 : Int32) (S : mS) : Option mS := mP 4 4 v0 3 S (fun S9 => (f_X4_takeWord_46 (f_X4_takeWord_74) 1000) v0 4 S9)
noncomputable def f_X4_takeWord (v0 : Int32) (S : mS) : Option mS := (f_X4_takeWord_0 (f_X4_takeWord_39) 1000) v0 S
def rm_X4_takeWord : Room := { frames := 5, cells := 0, slots := 0, locals := 107 }
set_option maxRecDepth 100000 in
set_option maxHeartbeats 4000000 in
theorem bl_X4_takeWord_0 {p : Program} {l : Launch} {e : Env} {s : State} {m : MethodId} {args : Array Value} {below : List Frame} {meth : Method} {c : Code} {E : mE} {n0 : Nat} {F : mS} (C : mCx p s m args meth c cX4_takeWord 2 RX4 none E n0) {k39 : Int32 → mS → Option mS} (hk39 : ∀ (v0 : Int32) (S : mS) (H : Heap) (locs : List Loc) (ls : Array Slot), k39 v0 S = some F → mIv s E S H locs 0 → lv_has ls 2 [(0, .ref (mA E.b v0))] → W p l e rm_X4_takeWord s m args below meth c H locs 0 0 (mQv below args s 0 0 n0 E F) (F0 m 39 ls [])) : ∀ (n : Nat)  (v0 : Int32) (S : mS) (H : Heap) (locs : List Loc) (ls : Array Slot), f_X4_takeWord_0 k39 n v0 S = some F → mIv s E S H locs 0 → lv_has ls 2 [(0, .ref (mA E.b v0))] → W p l e rm_X4_takeWord s m args below meth c H locs 0 0 (mQv below args s 0 0 n0 E F) (F0 m 0 ls []) := by
  have hx := C.1
  have hb := C.2.1
  intro n
  induction n with
  | zero =>
    intro v0 S H locs ls hF
    exact nomatch (show (none : Option mS) = some F from hF)
  | succ n ih =>
    intro v0 S H locs ls hF hI hl
    have hF := (f_X4_takeWord_0_s k39 n v0 S).symm.trans hF
    refine lv_aload_n hx hb dX4_takeWord_0 rfl (lv_at hl 0 rfl) ?_
    refine m_get C fd_X4_25 hI hF dX4_takeWord_1 (fun r1 hF => ?_)
    refine lv_aload_n hx hb dX4_takeWord_4 rfl (lv_at hl 0 rfl) ?_
    refine m_get C fd_X4_15 hI hF dX4_takeWord_5 (fun r2 hF => ?_)
    refine m_icmp_ge C (tgt := 39) hF dX4_takeWord_8 (by decide) (fun hF => ?_) (fun hF => ?_)
    · exact hk39 v0 S _ _ _ hF hI (lv_sub hl [0] rfl)
    · refine lv_aload_n hx hb dX4_takeWord_11 rfl (lv_at hl 0 rfl) ?_
      refine m_getR C fd_X4_9 hI hF dX4_takeWord_12 (fun r3 hF => ?_)
      refine lv_aload_n hx hb dX4_takeWord_15 rfl (lv_at hl 0 rfl) ?_
      refine m_get C fd_X4_25 hI hF dX4_takeWord_16 (fun r4 hF => ?_)
      refine m_bald C hI hF dX4_takeWord_19 (fun r5 hF => ?_)
      refine m_callSiR C cd_X4_113 hl.1 hI hF (fun _ h => ok_X4_isLetter h) rfl rfl ⟨rfl, rfl, Nat.le_of_ble_eq_true rfl, Nat.le_of_ble_eq_true rfl⟩ ⟨Nat.le_of_ble_eq_true rfl, Nat.le_of_ble_eq_true rfl⟩ (Nat.le_of_ble_eq_true rfl) dX4_takeWord_20 (fun r6 H locs hF hI => ?_)
      refine m_if_eq C (tgt := 39) hF dX4_takeWord_23 (by decide) (fun hF => ?_) (fun hF => ?_)
      · exact hk39 v0 S _ _ _ hF hI (lv_sub hl [0] rfl)
      · refine lv_aload_n hx hb dX4_takeWord_26 rfl (lv_at hl 0 rfl) ?_
        refine lv_dup hx hb dX4_takeWord_27 rfl ?_
        refine m_get C fd_X4_25 hI hF dX4_takeWord_28 (fun r7 hF => ?_)
        refine lv_iconst (v := 1) hx hb dX4_takeWord_31 (by decide) ?_
        refine lv_iadd hx hb dX4_takeWord_32 ?_
        refine m_put C fd_X4_25 hI hF dX4_takeWord_33 (fun S8 H locs hF hI => ?_)
        refine lv_goto (tgt := 0) hx hb dX4_takeWord_36 (by decide) ?_
        exact ih v0 S8 _ _ _ hF hI (lv_sub hl [0] rfl)
set_option maxRecDepth 100000 in
set_option maxHeartbeats 4000000 in
theorem bl_X4_takeWord_68 {p : Program} {l : Launch} {e : Env} {s : State} {m : MethodId} {args : Array Value} {below : List Frame} {meth : Method} {c : Code} {E : mE} {n0 : Nat} {F : mS} (C : mCx p s m args meth c cX4_takeWord 2 RX4 none E n0) {k46 : Int32 → Int32 → mS → Option mS} (hk46 : ∀ (v0 : Int32) (v1 : Int32) (S : mS) (H : Heap) (locs : List Loc) (ls : Array Slot), k46 v0 v1 S = some F → mIv s E S H locs 0 → lv_has ls 2 [(0, .ref (mA E.b v0)), (1, .int v1)] → W p l e rm_X4_takeWord s m args below meth c H locs 0 0 (mQv below args s 0 0 n0 E F) (F0 m 46 ls [])) : ∀  (v0 : Int32) (v1 : Int32) (S : mS) (H : Heap) (locs : List Loc) (ls : Array Slot), f_X4_takeWord_68 k46 v0 v1 S = some F → mIv s E S H locs 0 → lv_has ls 2 [(0, .ref (mA E.b v0)), (1, .int v1)] → W p l e rm_X4_takeWord s m args below meth c H locs 0 0 (mQv below args s 0 0 n0 E F) (F0 m 68 ls []) := by
  have hx := C.1
  have hb := C.2.1
  intro v0 v1 S H locs ls hF hI hl
  refine lv_iinc (v := v1 + 1) (lv' := [(1, .int (v1 + 1)), (0, .ref (mA E.b v0))]) hx hb dX4_takeWord_68 hl (k := 1) rfl rfl (by decide) rfl (fun ls hl => ?_)
  refine lv_goto (tgt := 46) hx hb dX4_takeWord_71 (by decide) ?_
  exact hk46 v0 (v1 + 1) S _ _ _ hF hI (lv_sub hl [1, 0] rfl)
set_option maxRecDepth 100000 in
set_option maxHeartbeats 4000000 in
theorem bl_X4_takeWord_46 {p : Program} {l : Launch} {e : Env} {s : State} {m : MethodId} {args : Array Value} {below : List Frame} {meth : Method} {c : Code} {E : mE} {n0 : Nat} {F : mS} (C : mCx p s m args meth c cX4_takeWord 2 RX4 none E n0) {k74 : mS → Option mS} (hk74 : ∀ (S : mS) (H : Heap) (locs : List Loc) (ls : Array Slot), k74 S = some F → mIv s E S H locs 0 → lv_has ls 2 [] → W p l e rm_X4_takeWord s m args below meth c H locs 0 0 (mQv below args s 0 0 n0 E F) (F0 m 74 ls [])) : ∀ (n : Nat)  (v0 : Int32) (v1 : Int32) (S : mS) (H : Heap) (locs : List Loc) (ls : Array Slot), f_X4_takeWord_46 k74 n v0 v1 S = some F → mIv s E S H locs 0 → lv_has ls 2 [(0, .ref (mA E.b v0)), (1, .int v1)] → W p l e rm_X4_takeWord s m args below meth c H locs 0 0 (mQv below args s 0 0 n0 E F) (F0 m 46 ls []) := by
  have hx := C.1
  have hb := C.2.1
  intro n
  induction n with
  | zero =>
    intro v0 v1 S H locs ls hF
    exact nomatch (show (none : Option mS) = some F from hF)
  | succ n ih =>
    intro v0 v1 S H locs ls hF hI hl
    have hF := (f_X4_takeWord_46_s k74 n v0 v1 S).symm.trans hF
    refine lv_iload_n hx hb dX4_takeWord_46 rfl (lv_at hl 1 rfl) ?_
    refine lv_bipush (v := 8) hx hb dX4_takeWord_47 (by decide) ?_
    refine m_icmp_gt C (tgt := 74) hF dX4_takeWord_49 (by decide) (fun hF => ?_) (fun hF => ?_)
    · exact hk74 S _ _ _ hF hI (lv_sub hl [] rfl)
    · refine lv_aload_n hx hb dX4_takeWord_52 rfl (lv_at hl 0 rfl) ?_
      refine lv_iload_n hx hb dX4_takeWord_53 rfl (lv_at hl 1 rfl) ?_
      refine m_callSs C cd_X4_125 hl.1 hI hF (fun _ h => ok_X4_nameOf h) rfl rfl ⟨rfl, rfl, Nat.le_of_ble_eq_true rfl, Nat.le_of_ble_eq_true rfl⟩ ⟨Nat.le_of_ble_eq_true rfl, Nat.le_of_ble_eq_true rfl⟩ (Nat.le_of_ble_eq_true rfl) dX4_takeWord_54 (fun r10 H locs hF hI => ?_)
      refine m_callViR C cd_X4_129 ⟨rfl, by decide⟩ hl.1 hI hF (fun _ h => ok_X4_spells h) rfl rfl ⟨rfl, rfl, Nat.le_of_ble_eq_true rfl, Nat.le_of_ble_eq_true rfl⟩ ⟨Nat.le_of_ble_eq_true rfl, Nat.le_of_ble_eq_true rfl⟩ (Nat.le_of_ble_eq_true rfl) dX4_takeWord_57 (fun r11 H locs hF hI => ?_)
      refine m_if_eq C (tgt := 68) hF dX4_takeWord_60 (by decide) (fun hF => ?_) (fun hF => ?_)
      · exact (bl_X4_takeWord_68 C (k46 := (f_X4_takeWord_46 k74 n)) ih) v0 v1 S _ _ _ hF hI (lv_sub hl [0, 1] rfl)
      · refine lv_aload_n hx hb dX4_takeWord_63 rfl (lv_at hl 0 rfl) ?_
        refine lv_iload_n hx hb dX4_takeWord_64 rfl (lv_at hl 1 rfl) ?_
        refine m_put C fd_X4_31 hI hF dX4_takeWord_65 (fun S12 H locs hF hI => ?_)
        exact (bl_X4_takeWord_68 C (k46 := (f_X4_takeWord_46 k74 n)) ih) v0 v1 S12 _ _ _ hF hI (lv_sub hl [0, 1] rfl)
set_option maxRecDepth 100000 in
set_option maxHeartbeats 4000000 in
theorem bl_X4_takeWord_74 {p : Program} {l : Launch} {e : Env} {s : State} {m : MethodId} {args : Array Value} {below : List Frame} {meth : Method} {c : Code} {E : mE} {n0 : Nat} {F : mS} (C : mCx p s m args meth c cX4_takeWord 2 RX4 none E n0) : ∀  (S : mS) (H : Heap) (locs : List Loc) (ls : Array Slot), f_X4_takeWord_74 S = some F → mIv s E S H locs 0 → lv_has ls 2 [] → W p l e rm_X4_takeWord s m args below meth c H locs 0 0 (mQv below args s 0 0 n0 E F) (F0 m 74 ls []) := by
  have hx := C.1
  have hb := C.2.1
  intro S H locs ls hF hI hl
  exact m_vret C hI hF dX4_takeWord_74
set_option maxRecDepth 100000 in
set_option maxHeartbeats 4000000 in
theorem bl_X4_takeWord_39 {p : Program} {l : Launch} {e : Env} {s : State} {m : MethodId} {args : Array Value} {below : List Frame} {meth : Method} {c : Code} {E : mE} {n0 : Nat} {F : mS} (C : mCx p s m args meth c cX4_takeWord 2 RX4 none E n0) : ∀  (v0 : Int32) (S : mS) (H : Heap) (locs : List Loc) (ls : Array Slot), f_X4_takeWord_39 v0 S = some F → mIv s E S H locs 0 → lv_has ls 2 [(0, .ref (mA E.b v0))] → W p l e rm_X4_takeWord s m args below meth c H locs 0 0 (mQv below args s 0 0 n0 E F) (F0 m 39 ls []) := by
  have hx := C.1
  have hb := C.2.1
  intro v0 S H locs ls hF hI hl
  refine lv_aload_n hx hb dX4_takeWord_39 rfl (lv_at hl 0 rfl) ?_
  refine lv_iconst (v := 3) hx hb dX4_takeWord_40 (by decide) ?_
  refine m_put C fd_X4_31 hI hF dX4_takeWord_41 (fun S9 H locs hF hI => ?_)
  refine lv_iconst (v := 4) hx hb dX4_takeWord_44 (by decide) ?_
  refine lv_istore_n (lv' := [(1, .int 4), (0, .ref (mA E.b v0))]) hx hb dX4_takeWord_45 rfl hl (by decide) rfl (fun ls hl => ?_)
  exact (bl_X4_takeWord_46 C (k74 := (f_X4_takeWord_74)) (bl_X4_takeWord_74 C) 1000) v0 4 S9 _ _ _ hF hI (lv_sub hl [1, 0] rfl)
set_option maxRecDepth 100000 in
set_option maxHeartbeats 4000000 in
theorem ok_X4_takeWord {l : Launch} {E : mE} {v0 : Int32} {S : mS} {F : mS} (hF : f_X4_takeWord v0 S = some F) : mMv l yX4_takeWord cX4_takeWord 2 none rm_X4_takeWord 0 0 [.ref (mA E.b v0)] E S F := by
  refine m_met_v (by decide) (Nat.le_of_ble_eq_true rfl) (fun p e s m args below meth c ls hin C hI hl => ?_)
  have hx := C.1
  have hb := C.2.1
  have hl : lv_has ls 2 [(0, .ref (mA E.b v0))] := hl
  generalize s.heap = H at hI ⊢
  generalize ([] : List Loc) = locs at hI ⊢
  exact (bl_X4_takeWord_0 C (k39 := (f_X4_takeWord_39)) (bl_X4_takeWord_39 C) 1000) v0 S _ _ _ hF hI (lv_sub hl [0] rfl)
noncomputable def f_X4_isFigure (v0 : Int32) : Option Int32 := mCp (f_X6_isWithin v0 48 57) (fun r1 => mZ r1 (some r1))
def rm_X4_isFigure : Room := { frames := 1, cells := 0, slots := 0, locals := 22 }
set_option maxRecDepth 100000 in
set_option maxHeartbeats 4000000 in
theorem ok_X4_isFigure {l : Launch} {E : mE} {v0 : Int32} {S : mS} {r : Int32} (hF : f_X4_isFigure v0 = some r) : mMi l yX4_isFigure cX4_isFigure 1 (some .boolean) rm_X4_isFigure 0 0 [.int v0] E S (r, S) := by
  refine m_met_i (by decide) (Nat.le_of_ble_eq_true rfl) (fun p e s m args below meth c ls hin C hI hl => ?_)
  have hx := C.1
  have hb := C.2.1
  have hl : lv_has ls 1 [(0, .int v0)] := hl
  generalize s.heap = H at hI ⊢
  generalize ([] : List Loc) = locs at hI ⊢
  refine lv_iload_n hx hb dX4_isFigure_0 rfl (lv_at hl 0 rfl) ?_
  refine lv_bipush (v := 48) hx hb dX4_isFigure_1 (by decide) ?_
  refine lv_bipush (v := 57) hx hb dX4_isFigure_3 (by decide) ?_
  refine m_callNiR C cd_X4_87 hl.1 hI hF (fun _ h => ok_X6_isWithin h) rfl rfl ⟨rfl, rfl, Nat.le_of_ble_eq_true rfl, Nat.le_of_ble_eq_true rfl⟩ ⟨Nat.le_of_ble_eq_true rfl, Nat.le_of_ble_eq_true rfl⟩ (Nat.le_of_ble_eq_true rfl) dX4_isFigure_5 (fun r1 H locs hF hI => ?_)
  exact m_iretzR C hI hF dX4_isFigure_8
noncomputable def f_X4_takeNumber_68 (k5 : Int32 → mS → Option mS) (v0 : Int32) (S : mS) : Option mS := mG 4 3 v0 S (fun r10 => mP 4 3 v0 (r10 + 1) S (fun S11 => k5 v0 S11))
noncomputable def f_X4_takeNumber_5 (k81 : Int32 → mS → Option mS) : Nat → Int32 → mS → Option mS := fun n => Nat.rec (motive := fun _ => Int32 → mS → Option mS) (fun _ _ => none) (fun _ rec v0 S => mG 4 3 v0 S (fun r2 => mG 4 1 v0 S (fun r3 => if r3 ≤ r2 then (k81 v0 S) else (mGr 4 0 v0 S (fun r4 => mG 4 3 v0 S (fun r5 => mX 9 r4 r5 S (fun r6 => mCp (f_X4_isFigure r6) (fun r7 => if r7 = 0 then (k81 v0 S) else (mG 4 3 v0 S (fun r8 => mG 4 2 v0 S (fun r9 => if 2 ≤ (r8 - r9) then ((f_X4_takeNumber_68 rec) v0 S) else (mG 4 5 v0 S (fun r12 => mGr 4 0 v0 S (fun r13 => mG 4 3 v0 S (fun r14 => mX 9 r13 r14 S (fun r15 => mP 4 5 v0 (((10 * r12) + r15) - 48) S (fun S16 => (f_X4_takeNumber_68 rec) v0 S16))))))))))))))))) n
theorem f_X4_takeNumber_5_s (k81 : Int32 → mS → Option mS) (n : Nat) (v0 : Int32) (S : mS) : f_X4_takeNumber_5 k81 (n + 1) v0 S = mG 4 3 v0 S (fun r2 => mG 4 1 v0 S (fun r3 => if r3 ≤ r2 then (k81 v0 S) else (mGr 4 0 v0 S (fun r4 => mG 4 3 v0 S (fun r5 => mX 9 r4 r5 S (fun r6 => mCp (f_X4_isFigure r6) (fun r7 => if r7 = 0 then (k81 v0 S) else (mG 4 3 v0 S (fun r8 => mG 4 2 v0 S (fun r9 => if 2 ≤ (r8 - r9) then ((f_X4_takeNumber_68 (f_X4_takeNumber_5 k81 n)) v0 S) else (mG 4 5 v0 S (fun r12 => mGr 4 0 v0 S (fun r13 => mG 4 3 v0 S (fun r14 => mX 9 r13 r14 S (fun r15 => mP 4 5 v0 (((10 * r12) + r15) - 48) S (fun S16 => (f_X4_takeNumber_68 (f_X4_takeNumber_5 k81 n)) v0 S16)))))))))))))))) := rfl
noncomputable def f_X4_takeNumber_100 (t0 : Int32) (t1 : Int32) (S : mS) : Option mS := mP 4 4 t0 t1 S (fun S19 => some S19)
noncomputable def f_X4_takeNumber_81 (v0 : Int32) (S : mS) : Option mS := mG 4 3 v0 S (fun r17 => mG 4 2 v0 S (fun r18 => if 2 < (r17 - r18) then ((f_X4_takeNumber_100) v0 3 S) else ((f_X4_takeNumber_100) v0 1 S)))
noncomputable def f_X4_takeNumber (v0 : Int32) (S : mS) : Option mS := mP 4 5 v0 0 S (fun S1 => (f_X4_takeNumber_5 (f_X4_takeNumber_81) 1000) v0 S1)
def rm_X4_takeNumber : Room := { frames := 2, cells := 0, slots := 0, locals := 42 }
set_option maxRecDepth 100000 in
set_option maxHeartbeats 4000000 in
theorem bl_X4_takeNumber_68 {p : Program} {l : Launch} {e : Env} {s : State} {m : MethodId} {args : Array Value} {below : List Frame} {meth : Method} {c : Code} {E : mE} {n0 : Nat} {F : mS} (C : mCx p s m args meth c cX4_takeNumber 1 RX4 none E n0) {k5 : Int32 → mS → Option mS} (hk5 : ∀ (v0 : Int32) (S : mS) (H : Heap) (locs : List Loc) (ls : Array Slot), k5 v0 S = some F → mIv s E S H locs 0 → lv_has ls 1 [(0, .ref (mA E.b v0))] → W p l e rm_X4_takeNumber s m args below meth c H locs 0 0 (mQv below args s 0 0 n0 E F) (F0 m 5 ls [])) : ∀  (v0 : Int32) (S : mS) (H : Heap) (locs : List Loc) (ls : Array Slot), f_X4_takeNumber_68 k5 v0 S = some F → mIv s E S H locs 0 → lv_has ls 1 [(0, .ref (mA E.b v0))] → W p l e rm_X4_takeNumber s m args below meth c H locs 0 0 (mQv below args s 0 0 n0 E F) (F0 m 68 ls []) := by
  have hx := C.1
  have hb := C.2.1
  intro v0 S H locs ls hF hI hl
  refine lv_aload_n hx hb dX4_takeNumber_68 rfl (lv_at hl 0 rfl) ?_
  refine lv_dup hx hb dX4_takeNumber_69 rfl ?_
  refine m_get C fd_X4_25 hI hF dX4_takeNumber_70 (fun r10 hF => ?_)
  refine lv_iconst (v := 1) hx hb dX4_takeNumber_73 (by decide) ?_
  refine lv_iadd hx hb dX4_takeNumber_74 ?_
  refine m_put C fd_X4_25 hI hF dX4_takeNumber_75 (fun S11 H locs hF hI => ?_)
  refine lv_goto (tgt := 5) hx hb dX4_takeNumber_78 (by decide) ?_
  exact hk5 v0 S11 _ _ _ hF hI (lv_sub hl [0] rfl)
set_option maxRecDepth 100000 in
set_option maxHeartbeats 4000000 in
theorem bl_X4_takeNumber_5 {p : Program} {l : Launch} {e : Env} {s : State} {m : MethodId} {args : Array Value} {below : List Frame} {meth : Method} {c : Code} {E : mE} {n0 : Nat} {F : mS} (C : mCx p s m args meth c cX4_takeNumber 1 RX4 none E n0) {k81 : Int32 → mS → Option mS} (hk81 : ∀ (v0 : Int32) (S : mS) (H : Heap) (locs : List Loc) (ls : Array Slot), k81 v0 S = some F → mIv s E S H locs 0 → lv_has ls 1 [(0, .ref (mA E.b v0))] → W p l e rm_X4_takeNumber s m args below meth c H locs 0 0 (mQv below args s 0 0 n0 E F) (F0 m 81 ls [])) : ∀ (n : Nat)  (v0 : Int32) (S : mS) (H : Heap) (locs : List Loc) (ls : Array Slot), f_X4_takeNumber_5 k81 n v0 S = some F → mIv s E S H locs 0 → lv_has ls 1 [(0, .ref (mA E.b v0))] → W p l e rm_X4_takeNumber s m args below meth c H locs 0 0 (mQv below args s 0 0 n0 E F) (F0 m 5 ls []) := by
  have hx := C.1
  have hb := C.2.1
  intro n
  induction n with
  | zero =>
    intro v0 S H locs ls hF
    exact nomatch (show (none : Option mS) = some F from hF)
  | succ n ih =>
    intro v0 S H locs ls hF hI hl
    have hF := (f_X4_takeNumber_5_s k81 n v0 S).symm.trans hF
    refine lv_aload_n hx hb dX4_takeNumber_5 rfl (lv_at hl 0 rfl) ?_
    refine m_get C fd_X4_25 hI hF dX4_takeNumber_6 (fun r2 hF => ?_)
    refine lv_aload_n hx hb dX4_takeNumber_9 rfl (lv_at hl 0 rfl) ?_
    refine m_get C fd_X4_15 hI hF dX4_takeNumber_10 (fun r3 hF => ?_)
    refine m_icmp_ge C (tgt := 81) hF dX4_takeNumber_13 (by decide) (fun hF => ?_) (fun hF => ?_)
    · exact hk81 v0 S _ _ _ hF hI (lv_sub hl [0] rfl)
    · refine lv_aload_n hx hb dX4_takeNumber_16 rfl (lv_at hl 0 rfl) ?_
      refine m_getR C fd_X4_9 hI hF dX4_takeNumber_17 (fun r4 hF => ?_)
      refine lv_aload_n hx hb dX4_takeNumber_20 rfl (lv_at hl 0 rfl) ?_
      refine m_get C fd_X4_25 hI hF dX4_takeNumber_21 (fun r5 hF => ?_)
      refine m_bald C hI hF dX4_takeNumber_24 (fun r6 hF => ?_)
      refine m_callSiR C cd_X4_119 hl.1 hI hF (fun _ h => ok_X4_isFigure h) rfl rfl ⟨rfl, rfl, Nat.le_of_ble_eq_true rfl, Nat.le_of_ble_eq_true rfl⟩ ⟨Nat.le_of_ble_eq_true rfl, Nat.le_of_ble_eq_true rfl⟩ (Nat.le_of_ble_eq_true rfl) dX4_takeNumber_25 (fun r7 H locs hF hI => ?_)
      refine m_if_eq C (tgt := 81) hF dX4_takeNumber_28 (by decide) (fun hF => ?_) (fun hF => ?_)
      · exact hk81 v0 S _ _ _ hF hI (lv_sub hl [0] rfl)
      · refine lv_aload_n hx hb dX4_takeNumber_31 rfl (lv_at hl 0 rfl) ?_
        refine m_get C fd_X4_25 hI hF dX4_takeNumber_32 (fun r8 hF => ?_)
        refine lv_aload_n hx hb dX4_takeNumber_35 rfl (lv_at hl 0 rfl) ?_
        refine m_get C fd_X4_42 hI hF dX4_takeNumber_36 (fun r9 hF => ?_)
        refine lv_isub hx hb dX4_takeNumber_39 ?_
        refine lv_iconst (v := 2) hx hb dX4_takeNumber_40 (by decide) ?_
        refine m_icmp_ge C (tgt := 68) hF dX4_takeNumber_41 (by decide) (fun hF => ?_) (fun hF => ?_)
        · exact (bl_X4_takeNumber_68 C (k5 := (f_X4_takeNumber_5 k81 n)) ih) v0 S _ _ _ hF hI (lv_sub hl [0] rfl)
        · refine lv_aload_n hx hb dX4_takeNumber_44 rfl (lv_at hl 0 rfl) ?_
          refine lv_bipush (v := 10) hx hb dX4_takeNumber_45 (by decide) ?_
          refine lv_aload_n hx hb dX4_takeNumber_47 rfl (lv_at hl 0 rfl) ?_
          refine m_get C fd_X4_59 hI hF dX4_takeNumber_48 (fun r12 hF => ?_)
          refine lv_imul hx hb dX4_takeNumber_51 ?_
          refine lv_aload_n hx hb dX4_takeNumber_52 rfl (lv_at hl 0 rfl) ?_
          refine m_getR C fd_X4_9 hI hF dX4_takeNumber_53 (fun r13 hF => ?_)
          refine lv_aload_n hx hb dX4_takeNumber_56 rfl (lv_at hl 0 rfl) ?_
          refine m_get C fd_X4_25 hI hF dX4_takeNumber_57 (fun r14 hF => ?_)
          refine m_bald C hI hF dX4_takeNumber_60 (fun r15 hF => ?_)
          refine lv_iadd hx hb dX4_takeNumber_61 ?_
          refine lv_bipush (v := 48) hx hb dX4_takeNumber_62 (by decide) ?_
          refine lv_isub hx hb dX4_takeNumber_64 ?_
          refine m_put C fd_X4_59 hI hF dX4_takeNumber_65 (fun S16 H locs hF hI => ?_)
          exact (bl_X4_takeNumber_68 C (k5 := (f_X4_takeNumber_5 k81 n)) ih) v0 S16 _ _ _ hF hI (lv_sub hl [0] rfl)
set_option maxRecDepth 100000 in
set_option maxHeartbeats 4000000 in
theorem bl_X4_takeNumber_100 {p : Program} {l : Launch} {e : Env} {s : State} {m : MethodId} {args : Array Value} {below : List Frame} {meth : Method} {c : Code} {E : mE} {n0 : Nat} {F : mS} (C : mCx p s m args meth c cX4_takeNumber 1 RX4 none E n0) : ∀  (t0 : Int32) (t1 : Int32) (S : mS) (H : Heap) (locs : List Loc) (ls : Array Slot), f_X4_takeNumber_100 t0 t1 S = some F → mIv s E S H locs 0 → lv_has ls 1 [] → W p l e rm_X4_takeNumber s m args below meth c H locs 0 0 (mQv below args s 0 0 n0 E F) (F0 m 100 ls [.int t1, .ref (mA E.b t0)]) := by
  have hx := C.1
  have hb := C.2.1
  intro t0 t1 S H locs ls hF hI hl
  refine m_put C fd_X4_31 hI hF dX4_takeNumber_100 (fun S19 H locs hF hI => ?_)
  exact m_vret C hI hF dX4_takeNumber_103
set_option maxRecDepth 100000 in
set_option maxHeartbeats 4000000 in
theorem bl_X4_takeNumber_81 {p : Program} {l : Launch} {e : Env} {s : State} {m : MethodId} {args : Array Value} {below : List Frame} {meth : Method} {c : Code} {E : mE} {n0 : Nat} {F : mS} (C : mCx p s m args meth c cX4_takeNumber 1 RX4 none E n0) : ∀  (v0 : Int32) (S : mS) (H : Heap) (locs : List Loc) (ls : Array Slot), f_X4_takeNumber_81 v0 S = some F → mIv s E S H locs 0 → lv_has ls 1 [(0, .ref (mA E.b v0))] → W p l e rm_X4_takeNumber s m args below meth c H locs 0 0 (mQv below args s 0 0 n0 E F) (F0 m 81 ls []) := by
  have hx := C.1
  have hb := C.2.1
  intro v0 S H locs ls hF hI hl
  refine lv_aload_n hx hb dX4_takeNumber_81 rfl (lv_at hl 0 rfl) ?_
  refine lv_aload_n hx hb dX4_takeNumber_82 rfl (lv_at hl 0 rfl) ?_
  refine m_get C fd_X4_25 hI hF dX4_takeNumber_83 (fun r17 hF => ?_)
  refine lv_aload_n hx hb dX4_takeNumber_86 rfl (lv_at hl 0 rfl) ?_
  refine m_get C fd_X4_42 hI hF dX4_takeNumber_87 (fun r18 hF => ?_)
  refine lv_isub hx hb dX4_takeNumber_90 ?_
  refine lv_iconst (v := 2) hx hb dX4_takeNumber_91 (by decide) ?_
  refine m_icmp_gt C (tgt := 99) hF dX4_takeNumber_92 (by decide) (fun hF => ?_) (fun hF => ?_)
  · refine lv_iconst (v := 3) hx hb dX4_takeNumber_99 (by decide) ?_
    exact (bl_X4_takeNumber_100 C) v0 3 S _ _ _ hF hI (lv_sub hl [] rfl)
  · refine lv_iconst (v := 1) hx hb dX4_takeNumber_95 (by decide) ?_
    refine lv_goto (tgt := 100) hx hb dX4_takeNumber_96 (by decide) ?_
    exact (bl_X4_takeNumber_100 C) v0 1 S _ _ _ hF hI (lv_sub hl [] rfl)
set_option maxRecDepth 100000 in
set_option maxHeartbeats 4000000 in
theorem ok_X4_takeNumber {l : Launch} {E : mE} {v0 : Int32} {S : mS} {F : mS} (hF : f_X4_takeNumber v0 S = some F) : mMv l yX4_takeNumber cX4_takeNumber 1 none rm_X4_takeNumber 0 0 [.ref (mA E.b v0)] E S F := by
  refine m_met_v (by decide) (Nat.le_of_ble_eq_true rfl) (fun p e s m args below meth c ls hin C hI hl => ?_)
  have hx := C.1
  have hb := C.2.1
  have hl : lv_has ls 1 [(0, .ref (mA E.b v0))] := hl
  generalize s.heap = H at hI ⊢
  generalize ([] : List Loc) = locs at hI ⊢
  refine lv_aload_n hx hb dX4_takeNumber_0 rfl (lv_at hl 0 rfl) ?_
  refine lv_iconst (v := 0) hx hb dX4_takeNumber_1 (by decide) ?_
  refine m_put C fd_X4_59 hI hF dX4_takeNumber_2 (fun S1 H locs hF hI => ?_)
  exact (bl_X4_takeNumber_5 C (k81 := (f_X4_takeNumber_81)) (bl_X4_takeNumber_81 C) 1000) v0 S1 _ _ _ hF hI (lv_sub hl [0] rfl)
noncomputable def f_X4_next_8 (k46 : Int32 → mS → Option mS) : Nat → Int32 → mS → Option mS := fun n => Nat.rec (motive := fun _ => Int32 → mS → Option mS) (fun _ _ => none) (fun _ rec v0 S => mG 4 2 v0 S (fun r3 => mG 4 1 v0 S (fun r4 => if r4 ≤ r3 then (k46 v0 S) else (mGr 4 0 v0 S (fun r5 => mG 4 2 v0 S (fun r6 => mX 9 r5 r6 S (fun r7 => if r7 = 32 then (mG 4 2 v0 S (fun r8 => mP 4 2 v0 (r8 + 1) S (fun S9 => rec v0 S9))) else (k46 v0 S)))))))) n
theorem f_X4_next_8_s (k46 : Int32 → mS → Option mS) (n : Nat) (v0 : Int32) (S : mS) : f_X4_next_8 k46 (n + 1) v0 S = mG 4 2 v0 S (fun r3 => mG 4 1 v0 S (fun r4 => if r4 ≤ r3 then (k46 v0 S) else (mGr 4 0 v0 S (fun r5 => mG 4 2 v0 S (fun r6 => mX 9 r5 r6 S (fun r7 => if r7 = 32 then (mG 4 2 v0 S (fun r8 => mP 4 2 v0 (r8 + 1) S (fun S9 => (f_X4_next_8 k46 n) v0 S9))) else (k46 v0 S))))))) := rfl
noncomputable def f_X4_next_150 (S : mS) : Option mS := some S
noncomputable def f_X4_next_137 (v0 : Int32) (t0 : Int32) (t1 : Int32) (S : mS) : Option mS := mP 4 4 t0 t1 S (fun S25 => mG 4 2 v0 S25 (fun r26 => mP 4 3 v0 (r26 + 1) S25 (fun S27 => (f_X4_next_150) S27)))
noncomputable def f_X4_next_46 (v0 : Int32) (S : mS) : Option mS := mG 4 2 v0 S (fun r10 => mP 4 3 v0 r10 S (fun S11 => mG 4 2 v0 S11 (fun r12 => mG 4 1 v0 S11 (fun r13 => if r12 < r13 then (mGr 4 0 v0 S11 (fun r14 => mG 4 2 v0 S11 (fun r15 => mX 9 r14 r15 S11 (fun r16 => mCp (f_X4_isLetter r16) (fun r17 => if r17 = 0 then (mGr 4 0 v0 S11 (fun r18 => mG 4 2 v0 S11 (fun r19 => mX 9 r18 r19 S11 (fun r20 => mCp (f_X4_isFigure r20) (fun r21 => if r21 = 0 then (mGr 4 0 v0 S11 (fun r22 => mG 4 2 v0 S11 (fun r23 => mX 9 r22 r23 S11 (fun r24 => if r24 = 59 then ((f_X4_next_137) v0 v0 2 S11) else ((f_X4_next_137) v0 v0 3 S11))))) else (mRc 4 v0 S11 (mCv (f_X4_takeNumber v0 S11) (fun S29 => (f_X4_next_150) S29)))))))) else (mRc 4 v0 S11 (mCv (f_X4_takeWord v0 S11) (fun S31 => (f_X4_next_150) S31)))))))) else (mP 4 4 v0 0 S11 (fun S32 => (f_X4_next_150) S32))))))
noncomputable def f_X4_next (v0 : Int32) (S : mS) : Option mS := mG 4 3 v0 S (fun r1 => mP 4 2 v0 r1 S (fun S2 => (f_X4_next_8 (f_X4_next_46) 1000) v0 S2))
def rm_X4_next : Room := { frames := 6, cells := 0, slots := 0, locals := 128 }
set_option maxRecDepth 100000 in
set_option maxHeartbeats 4000000 in
theorem bl_X4_next_8 {p : Program} {l : Launch} {e : Env} {s : State} {m : MethodId} {args : Array Value} {below : List Frame} {meth : Method} {c : Code} {E : mE} {n0 : Nat} {F : mS} (C : mCx p s m args meth c cX4_next 1 RX4 none E n0) {k46 : Int32 → mS → Option mS} (hk46 : ∀ (v0 : Int32) (S : mS) (H : Heap) (locs : List Loc) (ls : Array Slot), k46 v0 S = some F → mIv s E S H locs 0 → lv_has ls 1 [(0, .ref (mA E.b v0))] → W p l e rm_X4_next s m args below meth c H locs 0 0 (mQv below args s 0 0 n0 E F) (F0 m 46 ls [])) : ∀ (n : Nat)  (v0 : Int32) (S : mS) (H : Heap) (locs : List Loc) (ls : Array Slot), f_X4_next_8 k46 n v0 S = some F → mIv s E S H locs 0 → lv_has ls 1 [(0, .ref (mA E.b v0))] → W p l e rm_X4_next s m args below meth c H locs 0 0 (mQv below args s 0 0 n0 E F) (F0 m 8 ls []) := by
  have hx := C.1
  have hb := C.2.1
  intro n
  induction n with
  | zero =>
    intro v0 S H locs ls hF
    exact nomatch (show (none : Option mS) = some F from hF)
  | succ n ih =>
    intro v0 S H locs ls hF hI hl
    have hF := (f_X4_next_8_s k46 n v0 S).symm.trans hF
    refine lv_aload_n hx hb dX4_next_8 rfl (lv_at hl 0 rfl) ?_
    refine m_get C fd_X4_42 hI hF dX4_next_9 (fun r3 hF => ?_)
    refine lv_aload_n hx hb dX4_next_12 rfl (lv_at hl 0 rfl) ?_
    refine m_get C fd_X4_15 hI hF dX4_next_13 (fun r4 hF => ?_)
    refine m_icmp_ge C (tgt := 46) hF dX4_next_16 (by decide) (fun hF => ?_) (fun hF => ?_)
    · exact hk46 v0 S _ _ _ hF hI (lv_sub hl [0] rfl)
    · refine lv_aload_n hx hb dX4_next_19 rfl (lv_at hl 0 rfl) ?_
      refine m_getR C fd_X4_9 hI hF dX4_next_20 (fun r5 hF => ?_)
      refine lv_aload_n hx hb dX4_next_23 rfl (lv_at hl 0 rfl) ?_
      refine m_get C fd_X4_42 hI hF dX4_next_24 (fun r6 hF => ?_)
      refine m_bald C hI hF dX4_next_27 (fun r7 hF => ?_)
      refine lv_bipush (v := 32) hx hb dX4_next_28 (by decide) ?_
      refine m_icmp_ne C (tgt := 46) hF dX4_next_30 (by decide) (fun hF => ?_) (fun hF => ?_)
      · exact hk46 v0 S _ _ _ hF hI (lv_sub hl [0] rfl)
      · refine lv_aload_n hx hb dX4_next_33 rfl (lv_at hl 0 rfl) ?_
        refine lv_dup hx hb dX4_next_34 rfl ?_
        refine m_get C fd_X4_42 hI hF dX4_next_35 (fun r8 hF => ?_)
        refine lv_iconst (v := 1) hx hb dX4_next_38 (by decide) ?_
        refine lv_iadd hx hb dX4_next_39 ?_
        refine m_put C fd_X4_42 hI hF dX4_next_40 (fun S9 H locs hF hI => ?_)
        refine lv_goto (tgt := 8) hx hb dX4_next_43 (by decide) ?_
        exact ih v0 S9 _ _ _ hF hI (lv_sub hl [0] rfl)
set_option maxRecDepth 100000 in
set_option maxHeartbeats 4000000 in
theorem bl_X4_next_150 {p : Program} {l : Launch} {e : Env} {s : State} {m : MethodId} {args : Array Value} {below : List Frame} {meth : Method} {c : Code} {E : mE} {n0 : Nat} {F : mS} (C : mCx p s m args meth c cX4_next 1 RX4 none E n0) : ∀  (S : mS) (H : Heap) (locs : List Loc) (ls : Array Slot), f_X4_next_150 S = some F → mIv s E S H locs 0 → lv_has ls 1 [] → W p l e rm_X4_next s m args below meth c H locs 0 0 (mQv below args s 0 0 n0 E F) (F0 m 150 ls []) := by
  have hx := C.1
  have hb := C.2.1
  intro S H locs ls hF hI hl
  exact m_vret C hI hF dX4_next_150
set_option maxRecDepth 100000 in
set_option maxHeartbeats 4000000 in
theorem bl_X4_next_137 {p : Program} {l : Launch} {e : Env} {s : State} {m : MethodId} {args : Array Value} {below : List Frame} {meth : Method} {c : Code} {E : mE} {n0 : Nat} {F : mS} (C : mCx p s m args meth c cX4_next 1 RX4 none E n0) : ∀  (v0 : Int32) (t0 : Int32) (t1 : Int32) (S : mS) (H : Heap) (locs : List Loc) (ls : Array Slot), f_X4_next_137 v0 t0 t1 S = some F → mIv s E S H locs 0 → lv_has ls 1 [(0, .ref (mA E.b v0))] → W p l e rm_X4_next s m args below meth c H locs 0 0 (mQv below args s 0 0 n0 E F) (F0 m 137 ls [.int t1, .ref (mA E.b t0)]) := by
  have hx := C.1
  have hb := C.2.1
  intro v0 t0 t1 S H locs ls hF hI hl
  refine m_put C fd_X4_31 hI hF dX4_next_137 (fun S25 H locs hF hI => ?_)
  refine lv_aload_n hx hb dX4_next_140 rfl (lv_at hl 0 rfl) ?_
  refine lv_aload_n hx hb dX4_next_141 rfl (lv_at hl 0 rfl) ?_
  refine m_get C fd_X4_42 hI hF dX4_next_142 (fun r26 hF => ?_)
  refine lv_iconst (v := 1) hx hb dX4_next_145 (by decide) ?_
  refine lv_iadd hx hb dX4_next_146 ?_
  refine m_put C fd_X4_25 hI hF dX4_next_147 (fun S27 H locs hF hI => ?_)
  exact (bl_X4_next_150 C) S27 _ _ _ hF hI (lv_sub hl [] rfl)
set_option maxRecDepth 100000 in
set_option maxHeartbeats 4000000 in
theorem bl_X4_next_46 {p : Program} {l : Launch} {e : Env} {s : State} {m : MethodId} {args : Array Value} {below : List Frame} {meth : Method} {c : Code} {E : mE} {n0 : Nat} {F : mS} (C : mCx p s m args meth c cX4_next 1 RX4 none E n0) : ∀  (v0 : Int32) (S : mS) (H : Heap) (locs : List Loc) (ls : Array Slot), f_X4_next_46 v0 S = some F → mIv s E S H locs 0 → lv_has ls 1 [(0, .ref (mA E.b v0))] → W p l e rm_X4_next s m args below meth c H locs 0 0 (mQv below args s 0 0 n0 E F) (F0 m 46 ls []) := by
  have hx := C.1
  have hb := C.2.1
  intro v0 S H locs ls hF hI hl
  refine lv_aload_n hx hb dX4_next_46 rfl (lv_at hl 0 rfl) ?_
  refine lv_aload_n hx hb dX4_next_47 rfl (lv_at hl 0 rfl) ?_
  refine m_get C fd_X4_42 hI hF dX4_next_48 (fun r10 hF => ?_)
  refine m_put C fd_X4_25 hI hF dX4_next_51 (fun S11 H locs hF hI => ?_)
  refine lv_aload_n hx hb dX4_next_54 rfl (lv_at hl 0 rfl) ?_
  refine m_get C fd_X4_42 hI hF dX4_next_55 (fun r12 hF => ?_)
  refine lv_aload_n hx hb dX4_next_58 rfl (lv_at hl 0 rfl) ?_
  refine m_get C fd_X4_15 hI hF dX4_next_59 (fun r13 hF => ?_)
  refine m_icmp_lt C (tgt := 73) hF dX4_next_62 (by decide) (fun hF => ?_) (fun hF => ?_)
  · refine lv_aload_n hx hb dX4_next_73 rfl (lv_at hl 0 rfl) ?_
    refine m_getR C fd_X4_9 hI hF dX4_next_74 (fun r14 hF => ?_)
    refine lv_aload_n hx hb dX4_next_77 rfl (lv_at hl 0 rfl) ?_
    refine m_get C fd_X4_42 hI hF dX4_next_78 (fun r15 hF => ?_)
    refine m_bald C hI hF dX4_next_81 (fun r16 hF => ?_)
    refine m_callSiR C cd_X4_113 hl.1 hI hF (fun _ h => ok_X4_isLetter h) rfl rfl ⟨rfl, rfl, Nat.le_of_ble_eq_true rfl, Nat.le_of_ble_eq_true rfl⟩ ⟨Nat.le_of_ble_eq_true rfl, Nat.le_of_ble_eq_true rfl⟩ (Nat.le_of_ble_eq_true rfl) dX4_next_82 (fun r17 H locs hF hI => ?_)
    refine m_if_eq C (tgt := 95) hF dX4_next_85 (by decide) (fun hF => ?_) (fun hF => ?_)
    · refine lv_aload_n hx hb dX4_next_95 rfl (lv_at hl 0 rfl) ?_
      refine m_getR C fd_X4_9 hI hF dX4_next_96 (fun r18 hF => ?_)
      refine lv_aload_n hx hb dX4_next_99 rfl (lv_at hl 0 rfl) ?_
      refine m_get C fd_X4_42 hI hF dX4_next_100 (fun r19 hF => ?_)
      refine m_bald C hI hF dX4_next_103 (fun r20 hF => ?_)
      refine m_callSiR C cd_X4_119 hl.1 hI hF (fun _ h => ok_X4_isFigure h) rfl rfl ⟨rfl, rfl, Nat.le_of_ble_eq_true rfl, Nat.le_of_ble_eq_true rfl⟩ ⟨Nat.le_of_ble_eq_true rfl, Nat.le_of_ble_eq_true rfl⟩ (Nat.le_of_ble_eq_true rfl) dX4_next_104 (fun r21 H locs hF hI => ?_)
      refine m_if_eq C (tgt := 117) hF dX4_next_107 (by decide) (fun hF => ?_) (fun hF => ?_)
      · refine lv_aload_n hx hb dX4_next_117 rfl (lv_at hl 0 rfl) ?_
        refine lv_aload_n hx hb dX4_next_118 rfl (lv_at hl 0 rfl) ?_
        refine m_getR C fd_X4_9 hI hF dX4_next_119 (fun r22 hF => ?_)
        refine lv_aload_n hx hb dX4_next_122 rfl (lv_at hl 0 rfl) ?_
        refine m_get C fd_X4_42 hI hF dX4_next_123 (fun r23 hF => ?_)
        refine m_bald C hI hF dX4_next_126 (fun r24 hF => ?_)
        refine lv_bipush (v := 59) hx hb dX4_next_127 (by decide) ?_
        refine m_icmp_ne C (tgt := 136) hF dX4_next_129 (by decide) (fun hF => ?_) (fun hF => ?_)
        · refine lv_iconst (v := 3) hx hb dX4_next_136 (by decide) ?_
          exact (bl_X4_next_137 C) v0 v0 3 S11 _ _ _ hF hI (lv_sub hl [0] rfl)
        · refine lv_iconst (v := 2) hx hb dX4_next_132 (by decide) ?_
          refine lv_goto (tgt := 137) hx hb dX4_next_133 (by decide) ?_
          exact (bl_X4_next_137 C) v0 v0 2 S11 _ _ _ hF hI (lv_sub hl [0] rfl)
      · refine lv_aload_n hx hb dX4_next_110 rfl (lv_at hl 0 rfl) ?_
        refine m_callVv C cd_X4_122 ⟨rfl, by decide⟩ hl.1 hI hF (fun _ h => ok_X4_takeNumber h) rfl rfl ⟨rfl, rfl, Nat.le_of_ble_eq_true rfl, Nat.le_of_ble_eq_true rfl⟩ ⟨Nat.le_of_ble_eq_true rfl, Nat.le_of_ble_eq_true rfl⟩ (Nat.le_of_ble_eq_true rfl) dX4_next_111 (fun S29 H locs hF hI => ?_)
        refine lv_goto (tgt := 150) hx hb dX4_next_114 (by decide) ?_
        exact (bl_X4_next_150 C) S29 _ _ _ hF hI (lv_sub hl [] rfl)
    · refine lv_aload_n hx hb dX4_next_88 rfl (lv_at hl 0 rfl) ?_
      refine m_callVv C cd_X4_116 ⟨rfl, by decide⟩ hl.1 hI hF (fun _ h => ok_X4_takeWord h) rfl rfl ⟨rfl, rfl, Nat.le_of_ble_eq_true rfl, Nat.le_of_ble_eq_true rfl⟩ ⟨Nat.le_of_ble_eq_true rfl, Nat.le_of_ble_eq_true rfl⟩ (Nat.le_of_ble_eq_true rfl) dX4_next_89 (fun S31 H locs hF hI => ?_)
      refine lv_goto (tgt := 150) hx hb dX4_next_92 (by decide) ?_
      exact (bl_X4_next_150 C) S31 _ _ _ hF hI (lv_sub hl [] rfl)
  · refine lv_aload_n hx hb dX4_next_65 rfl (lv_at hl 0 rfl) ?_
    refine lv_iconst (v := 0) hx hb dX4_next_66 (by decide) ?_
    refine m_put C fd_X4_31 hI hF dX4_next_67 (fun S32 H locs hF hI => ?_)
    refine lv_goto (tgt := 150) hx hb dX4_next_70 (by decide) ?_
    exact (bl_X4_next_150 C) S32 _ _ _ hF hI (lv_sub hl [] rfl)
set_option maxRecDepth 100000 in
set_option maxHeartbeats 4000000 in
theorem ok_X4_next {l : Launch} {E : mE} {v0 : Int32} {S : mS} {F : mS} (hF : f_X4_next v0 S = some F) : mMv l yX4_next cX4_next 1 none rm_X4_next 0 0 [.ref (mA E.b v0)] E S F := by
  refine m_met_v (by decide) (Nat.le_of_ble_eq_true rfl) (fun p e s m args below meth c ls hin C hI hl => ?_)
  have hx := C.1
  have hb := C.2.1
  have hl : lv_has ls 1 [(0, .ref (mA E.b v0))] := hl
  generalize s.heap = H at hI ⊢
  generalize ([] : List Loc) = locs at hI ⊢
  refine lv_aload_n hx hb dX4_next_0 rfl (lv_at hl 0 rfl) ?_
  refine lv_aload_n hx hb dX4_next_1 rfl (lv_at hl 0 rfl) ?_
  refine m_get C fd_X4_25 hI hF dX4_next_2 (fun r1 hF => ?_)
  refine m_put C fd_X4_42 hI hF dX4_next_5 (fun S2 H locs hF hI => ?_)
  exact (bl_X4_next_8 C (k46 := (f_X4_next_46)) (bl_X4_next_46 C) 1000) v0 S2 _ _ _ hF hI (lv_sub hl [0] rfl)
noncomputable def f_X4_mayBegin_59 (S : mS) (t0 : Int32) : Option Int32 := mZ t0 (some t0)
noncomputable def f_X4_mayBegin_58 (S : mS) : Option Int32 := (f_X4_mayBegin_59 S) 0
noncomputable def f_X4_mayBegin_78 (S : mS) (t0 : Int32) : Option Int32 := mZ t0 (some t0)
noncomputable def f_X4_mayBegin_77 (S : mS) : Option Int32 := (f_X4_mayBegin_78 S) 0
noncomputable def f_X4_mayBegin_88 (S : mS) (t0 : Int32) : Option Int32 := mZ t0 (some t0)
noncomputable def f_X4_mayBegin_79 (S : mS) (v2 : Int32) : Option Int32 := if v2 = 0 then ((f_X4_mayBegin_88 S) 1) else ((f_X4_mayBegin_88 S) 0)
noncomputable def f_X4_mayBegin (v0 : Int32) (v1 : Int32) (v2 : Int32) (S : mS) : Option Int32 := mG 4 6 v0 S (fun r1 => if r1 = 4 then (mZ v2 (some v2)) else if r1 = 5 then (if v2 = 0 then (mG 1 4 v1 S (fun r2 => if 3 ≤ r2 then ((f_X4_mayBegin_58 S)) else ((f_X4_mayBegin_59 S) 1))) else ((f_X4_mayBegin_58 S))) else if r1 = 6 then (if v2 = 0 then (mG 1 5 v1 S (fun r3 => if 7 ≤ r3 then ((f_X4_mayBegin_77 S)) else ((f_X4_mayBegin_78 S) 1))) else ((f_X4_mayBegin_77 S))) else if r1 = 7 then ((f_X4_mayBegin_79 S) v2) else if r1 = 8 then ((f_X4_mayBegin_79 S) v2) else (mZ 0 (some 0)))
def rm_X4_mayBegin : Room := { frames := 0, cells := 0, slots := 0, locals := 0 }
set_option maxRecDepth 100000 in
set_option maxHeartbeats 4000000 in
theorem bl_X4_mayBegin_59 {p : Program} {l : Launch} {e : Env} {s : State} {m : MethodId} {args : Array Value} {below : List Frame} {meth : Method} {c : Code} {E : mE} {n0 : Nat} {r : Int32} {S : mS} (C : mCx p s m args meth c cX4_mayBegin 3 RX4 (some .boolean) E n0) : ∀  (t0 : Int32) (H : Heap) (locs : List Loc) (ls : Array Slot), f_X4_mayBegin_59 S t0 = some r → mIv s E S H locs 0 → lv_has ls 3 [] → W p l e rm_X4_mayBegin s m args below meth c H locs 0 0 (mQi below args s 0 0 n0 E (r, S)) (F0 m 59 ls [.int t0]) := by
  have hx := C.1
  have hb := C.2.1
  intro t0 H locs ls hF hI hl
  exact m_iretzR C hI hF dX4_mayBegin_59
set_option maxRecDepth 100000 in
set_option maxHeartbeats 4000000 in
theorem bl_X4_mayBegin_58 {p : Program} {l : Launch} {e : Env} {s : State} {m : MethodId} {args : Array Value} {below : List Frame} {meth : Method} {c : Code} {E : mE} {n0 : Nat} {r : Int32} {S : mS} (C : mCx p s m args meth c cX4_mayBegin 3 RX4 (some .boolean) E n0) : ∀  (H : Heap) (locs : List Loc) (ls : Array Slot), f_X4_mayBegin_58 S = some r → mIv s E S H locs 0 → lv_has ls 3 [] → W p l e rm_X4_mayBegin s m args below meth c H locs 0 0 (mQi below args s 0 0 n0 E (r, S)) (F0 m 58 ls []) := by
  have hx := C.1
  have hb := C.2.1
  intro H locs ls hF hI hl
  refine lv_iconst (v := 0) hx hb dX4_mayBegin_58 (by decide) ?_
  exact (bl_X4_mayBegin_59 C) 0 _ _ _ hF hI (lv_sub hl [] rfl)
set_option maxRecDepth 100000 in
set_option maxHeartbeats 4000000 in
theorem bl_X4_mayBegin_78 {p : Program} {l : Launch} {e : Env} {s : State} {m : MethodId} {args : Array Value} {below : List Frame} {meth : Method} {c : Code} {E : mE} {n0 : Nat} {r : Int32} {S : mS} (C : mCx p s m args meth c cX4_mayBegin 3 RX4 (some .boolean) E n0) : ∀  (t0 : Int32) (H : Heap) (locs : List Loc) (ls : Array Slot), f_X4_mayBegin_78 S t0 = some r → mIv s E S H locs 0 → lv_has ls 3 [] → W p l e rm_X4_mayBegin s m args below meth c H locs 0 0 (mQi below args s 0 0 n0 E (r, S)) (F0 m 78 ls [.int t0]) := by
  have hx := C.1
  have hb := C.2.1
  intro t0 H locs ls hF hI hl
  exact m_iretzR C hI hF dX4_mayBegin_78
set_option maxRecDepth 100000 in
set_option maxHeartbeats 4000000 in
theorem bl_X4_mayBegin_77 {p : Program} {l : Launch} {e : Env} {s : State} {m : MethodId} {args : Array Value} {below : List Frame} {meth : Method} {c : Code} {E : mE} {n0 : Nat} {r : Int32} {S : mS} (C : mCx p s m args meth c cX4_mayBegin 3 RX4 (some .boolean) E n0) : ∀  (H : Heap) (locs : List Loc) (ls : Array Slot), f_X4_mayBegin_77 S = some r → mIv s E S H locs 0 → lv_has ls 3 [] → W p l e rm_X4_mayBegin s m args below meth c H locs 0 0 (mQi below args s 0 0 n0 E (r, S)) (F0 m 77 ls []) := by
  have hx := C.1
  have hb := C.2.1
  intro H locs ls hF hI hl
  refine lv_iconst (v := 0) hx hb dX4_mayBegin_77 (by decide) ?_
  exact (bl_X4_mayBegin_78 C) 0 _ _ _ hF hI (lv_sub hl [] rfl)
set_option maxRecDepth 100000 in
set_option maxHeartbeats 4000000 in
theorem bl_X4_mayBegin_88 {p : Program} {l : Launch} {e : Env} {s : State} {m : MethodId} {args : Array Value} {below : List Frame} {meth : Method} {c : Code} {E : mE} {n0 : Nat} {r : Int32} {S : mS} (C : mCx p s m args meth c cX4_mayBegin 3 RX4 (some .boolean) E n0) : ∀  (t0 : Int32) (H : Heap) (locs : List Loc) (ls : Array Slot), f_X4_mayBegin_88 S t0 = some r → mIv s E S H locs 0 → lv_has ls 3 [] → W p l e rm_X4_mayBegin s m args below meth c H locs 0 0 (mQi below args s 0 0 n0 E (r, S)) (F0 m 88 ls [.int t0]) := by
  have hx := C.1
  have hb := C.2.1
  intro t0 H locs ls hF hI hl
  exact m_iretzR C hI hF dX4_mayBegin_88
set_option maxRecDepth 100000 in
set_option maxHeartbeats 4000000 in
theorem bl_X4_mayBegin_79 {p : Program} {l : Launch} {e : Env} {s : State} {m : MethodId} {args : Array Value} {below : List Frame} {meth : Method} {c : Code} {E : mE} {n0 : Nat} {r : Int32} {S : mS} (C : mCx p s m args meth c cX4_mayBegin 3 RX4 (some .boolean) E n0) : ∀  (v2 : Int32) (H : Heap) (locs : List Loc) (ls : Array Slot), f_X4_mayBegin_79 S v2 = some r → mIv s E S H locs 0 → lv_has ls 3 [(2, .int v2)] → W p l e rm_X4_mayBegin s m args below meth c H locs 0 0 (mQi below args s 0 0 n0 E (r, S)) (F0 m 79 ls []) := by
  have hx := C.1
  have hb := C.2.1
  intro v2 H locs ls hF hI hl
  refine lv_iload_n hx hb dX4_mayBegin_79 rfl (lv_at hl 0 rfl) ?_
  refine m_if_ne C (tgt := 87) hF dX4_mayBegin_80 (by decide) (fun hF => ?_) (fun hF => ?_)
  · refine lv_iconst (v := 0) hx hb dX4_mayBegin_87 (by decide) ?_
    exact (bl_X4_mayBegin_88 C) 0 _ _ _ hF hI (lv_sub hl [] rfl)
  · refine lv_iconst (v := 1) hx hb dX4_mayBegin_83 (by decide) ?_
    refine lv_goto (tgt := 88) hx hb dX4_mayBegin_84 (by decide) ?_
    exact (bl_X4_mayBegin_88 C) 1 _ _ _ hF hI (lv_sub hl [] rfl)
set_option maxRecDepth 100000 in
set_option maxHeartbeats 4000000 in
theorem ok_X4_mayBegin {l : Launch} {E : mE} {v0 : Int32} {v1 : Int32} {v2 : Int32} {S : mS} {r : Int32} (hF : f_X4_mayBegin v0 v1 v2 S = some r) : mMi l yX4_mayBegin cX4_mayBegin 3 (some .boolean) rm_X4_mayBegin 0 0 [.ref (mA E.b v0), .ref (mA E.b v1), .int v2] E S (r, S) := by
  refine m_met_i (by decide) (Nat.le_of_ble_eq_true rfl) (fun p e s m args below meth c ls hin C hI hl => ?_)
  have hx := C.1
  have hb := C.2.1
  have hl : lv_has ls 3 [(0, .ref (mA E.b v0)), (1, .ref (mA E.b v1)), (2, .int v2)] := hl
  generalize s.heap = H at hI ⊢
  generalize ([] : List Loc) = locs at hI ⊢
  refine lv_aload_n hx hb dX4_mayBegin_0 rfl (lv_at hl 0 rfl) ?_
  refine m_get C fd_X4_49 hI hF dX4_mayBegin_1 (fun r1 hF => ?_)
  refine m_if hF (fun c4 hF => ?_) (fun c4 hF => ?_)
  · refine m_swIn C dX4_mayBegin_4 c4 4 rfl (by decide) (by decide) rfl (tgt := 40) (by decide) ?_
    refine lv_iload_n hx hb dX4_mayBegin_40 rfl (lv_at hl 2 rfl) ?_
    exact m_iretzR C hI hF dX4_mayBegin_41
  refine m_if hF (fun c5 hF => ?_) (fun c5 hF => ?_)
  · refine m_swIn C dX4_mayBegin_4 c5 5 rfl (by decide) (by decide) rfl (tgt := 42) (by decide) ?_
    refine lv_iload_n hx hb dX4_mayBegin_42 rfl (lv_at hl 2 rfl) ?_
    refine m_if_ne C (tgt := 58) hF dX4_mayBegin_43 (by decide) (fun hF => ?_) (fun hF => ?_)
    · exact (bl_X4_mayBegin_58 C)  _ _ _ hF hI (lv_sub hl [] rfl)
    · refine lv_aload_n hx hb dX4_mayBegin_46 rfl (lv_at hl 1 rfl) ?_
      refine m_get C fd_X4_72 hI hF dX4_mayBegin_47 (fun r2 hF => ?_)
      refine lv_iconst (v := 3) hx hb dX4_mayBegin_50 (by decide) ?_
      refine m_icmp_ge C (tgt := 58) hF dX4_mayBegin_51 (by decide) (fun hF => ?_) (fun hF => ?_)
      · exact (bl_X4_mayBegin_58 C)  _ _ _ hF hI (lv_sub hl [] rfl)
      · refine lv_iconst (v := 1) hx hb dX4_mayBegin_54 (by decide) ?_
        refine lv_goto (tgt := 59) hx hb dX4_mayBegin_55 (by decide) ?_
        exact (bl_X4_mayBegin_59 C) 1 _ _ _ hF hI (lv_sub hl [] rfl)
  refine m_if hF (fun c6 hF => ?_) (fun c6 hF => ?_)
  · refine m_swIn C dX4_mayBegin_4 c6 6 rfl (by decide) (by decide) rfl (tgt := 60) (by decide) ?_
    refine lv_iload_n hx hb dX4_mayBegin_60 rfl (lv_at hl 2 rfl) ?_
    refine m_if_ne C (tgt := 77) hF dX4_mayBegin_61 (by decide) (fun hF => ?_) (fun hF => ?_)
    · exact (bl_X4_mayBegin_77 C)  _ _ _ hF hI (lv_sub hl [] rfl)
    · refine lv_aload_n hx hb dX4_mayBegin_64 rfl (lv_at hl 1 rfl) ?_
      refine m_get C fd_X4_77 hI hF dX4_mayBegin_65 (fun r3 hF => ?_)
      refine lv_bipush (v := 7) hx hb dX4_mayBegin_68 (by decide) ?_
      refine m_icmp_ge C (tgt := 77) hF dX4_mayBegin_70 (by decide) (fun hF => ?_) (fun hF => ?_)
      · exact (bl_X4_mayBegin_77 C)  _ _ _ hF hI (lv_sub hl [] rfl)
      · refine lv_iconst (v := 1) hx hb dX4_mayBegin_73 (by decide) ?_
        refine lv_goto (tgt := 78) hx hb dX4_mayBegin_74 (by decide) ?_
        exact (bl_X4_mayBegin_78 C) 1 _ _ _ hF hI (lv_sub hl [] rfl)
  refine m_if hF (fun c7 hF => ?_) (fun c7 hF => ?_)
  · refine m_swIn C dX4_mayBegin_4 c7 7 rfl (by decide) (by decide) rfl (tgt := 79) (by decide) ?_
    exact (bl_X4_mayBegin_79 C) v2 _ _ _ hF hI (lv_sub hl [2] rfl)
  refine m_if hF (fun c8 hF => ?_) (fun c8 hF => ?_)
  · refine m_swIn C dX4_mayBegin_4 c8 8 rfl (by decide) (by decide) rfl (tgt := 79) (by decide) ?_
    exact (bl_X4_mayBegin_79 C) v2 _ _ _ hF hI (lv_sub hl [2] rfl)
  refine lv_tableOut (tgt := 89) hx hb dX4_mayBegin_4 (by have := lv_neT c4 (a := 4) rfl; have := lv_neT c5 (a := 5) rfl; have := lv_neT c6 (a := 6) rfl; have := lv_neT c7 (a := 7) rfl; have := lv_neT c8 (a := 8) rfl; omega) (by decide) ?_
  refine lv_iconst (v := 0) hx hb dX4_mayBegin_89 (by decide) ?_
  exact m_iretzR C hI hF dX4_mayBegin_90
noncomputable def f_X6_isCell (v0 : Int32) : Option Int32 := mCp (f_X6_isWithin v0 0 24) (fun r1 => mZ r1 (some r1))
def rm_X6_isCell : Room := { frames := 1, cells := 0, slots := 0, locals := 22 }
set_option maxRecDepth 100000 in
set_option maxHeartbeats 4000000 in
theorem ok_X6_isCell {l : Launch} {E : mE} {v0 : Int32} {S : mS} {r : Int32} (hF : f_X6_isCell v0 = some r) : mMi l yX6_isCell cX6_isCell 1 (some .boolean) rm_X6_isCell 0 0 [.int v0] E S (r, S) := by
  refine m_met_i (by decide) (Nat.le_of_ble_eq_true rfl) (fun p e s m args below meth c ls hin C hI hl => ?_)
  have hx := C.1
  have hb := C.2.1
  have hl : lv_has ls 1 [(0, .int v0)] := hl
  generalize s.heap = H at hI ⊢
  generalize ([] : List Loc) = locs at hI ⊢
  refine lv_iload_n hx hb dX6_isCell_0 rfl (lv_at hl 0 rfl) ?_
  refine lv_iconst (v := 0) hx hb dX6_isCell_1 (by decide) ?_
  refine lv_bipush (v := 24) hx hb dX6_isCell_2 (by decide) ?_
  refine m_callSiR C cd_X6_118 hl.1 hI hF (fun _ h => ok_X6_isWithin h) rfl rfl ⟨rfl, rfl, Nat.le_of_ble_eq_true rfl, Nat.le_of_ble_eq_true rfl⟩ ⟨Nat.le_of_ble_eq_true rfl, Nat.le_of_ble_eq_true rfl⟩ (Nat.le_of_ble_eq_true rfl) dX6_isCell_4 (fun r1 H locs hF hI => ?_)
  exact m_iretzR C hI hF dX6_isCell_7
noncomputable def f_X6_isKind (v0 : Int32) : Option Int32 := mCp (f_X6_isWithin v0 0 5) (fun r1 => mZ r1 (some r1))
def rm_X6_isKind : Room := { frames := 1, cells := 0, slots := 0, locals := 22 }
set_option maxRecDepth 100000 in
set_option maxHeartbeats 4000000 in
theorem ok_X6_isKind {l : Launch} {E : mE} {v0 : Int32} {S : mS} {r : Int32} (hF : f_X6_isKind v0 = some r) : mMi l yX6_isKind cX6_isKind 1 (some .boolean) rm_X6_isKind 0 0 [.int v0] E S (r, S) := by
  refine m_met_i (by decide) (Nat.le_of_ble_eq_true rfl) (fun p e s m args below meth c ls hin C hI hl => ?_)
  have hx := C.1
  have hb := C.2.1
  have hl : lv_has ls 1 [(0, .int v0)] := hl
  generalize s.heap = H at hI ⊢
  generalize ([] : List Loc) = locs at hI ⊢
  refine lv_iload_n hx hb dX6_isKind_0 rfl (lv_at hl 0 rfl) ?_
  refine lv_iconst (v := 0) hx hb dX6_isKind_1 (by decide) ?_
  refine lv_iconst (v := 5) hx hb dX6_isKind_2 (by decide) ?_
  refine m_callSiR C cd_X6_118 hl.1 hI hF (fun _ h => ok_X6_isWithin h) rfl rfl ⟨rfl, rfl, Nat.le_of_ble_eq_true rfl, Nat.le_of_ble_eq_true rfl⟩ ⟨Nat.le_of_ble_eq_true rfl, Nat.le_of_ble_eq_true rfl⟩ (Nat.le_of_ble_eq_true rfl) dX6_isKind_3 (fun r1 H locs hF hI => ?_)
  exact m_iretzR C hI hF dX6_isKind_6
noncomputable def f_X4_isFirstNumber_68 (S : mS) (v0 : Int32) : Option Int32 := mG 4 5 v0 S (fun r4 => mCp (f_X6_isKind r4) (fun r5 => mZ r5 (some r5)))
noncomputable def f_X4_isFirstNumber (v0 : Int32) (v1 : Int32) (S : mS) : Option Int32 := mG 4 6 v0 S (fun r1 => if r1 = 4 then (mG 4 5 v0 S (fun r2 => mCp (f_X6_isCell r2) (fun r3 => mZ r3 (some r3)))) else if r1 = 5 then ((f_X4_isFirstNumber_68 S) v0) else if r1 = 6 then ((f_X4_isFirstNumber_68 S) v0) else if r1 = 7 then (mG 4 5 v0 S (fun r6 => mRc 1 v1 S (mCp (f_X1_hasWhistle v1 r6 S) (fun r7 => mZ r7 (some r7))))) else if r1 = 8 then (mG 4 5 v0 S (fun r8 => mCp (f_X6_isWithin r8 1 99) (fun r9 => mZ r9 (some r9)))) else ((f_X4_isFirstNumber_68 S) v0))
def rm_X4_isFirstNumber : Room := { frames := 2, cells := 0, slots := 0, locals := 43 }
set_option maxRecDepth 100000 in
set_option maxHeartbeats 4000000 in
theorem bl_X4_isFirstNumber_68 {p : Program} {l : Launch} {e : Env} {s : State} {m : MethodId} {args : Array Value} {below : List Frame} {meth : Method} {c : Code} {E : mE} {n0 : Nat} {r : Int32} {S : mS} (C : mCx p s m args meth c cX4_isFirstNumber 2 RX4 (some .boolean) E n0) : ∀  (v0 : Int32) (H : Heap) (locs : List Loc) (ls : Array Slot), f_X4_isFirstNumber_68 S v0 = some r → mIv s E S H locs 0 → lv_has ls 2 [(0, .ref (mA E.b v0))] → W p l e rm_X4_isFirstNumber s m args below meth c H locs 0 0 (mQi below args s 0 0 n0 E (r, S)) (F0 m 68 ls []) := by
  have hx := C.1
  have hb := C.2.1
  intro v0 H locs ls hF hI hl
  refine lv_aload_n hx hb dX4_isFirstNumber_68 rfl (lv_at hl 0 rfl) ?_
  refine m_get C fd_X4_59 hI hF dX4_isFirstNumber_69 (fun r4 hF => ?_)
  refine m_callNiR C cd_X4_91 hl.1 hI hF (fun _ h => ok_X6_isKind h) rfl rfl ⟨rfl, rfl, Nat.le_of_ble_eq_true rfl, Nat.le_of_ble_eq_true rfl⟩ ⟨Nat.le_of_ble_eq_true rfl, Nat.le_of_ble_eq_true rfl⟩ (Nat.le_of_ble_eq_true rfl) dX4_isFirstNumber_72 (fun r5 H locs hF hI => ?_)
  exact m_iretzR C hI hF dX4_isFirstNumber_75
set_option maxRecDepth 100000 in
set_option maxHeartbeats 4000000 in
theorem ok_X4_isFirstNumber {l : Launch} {E : mE} {v0 : Int32} {v1 : Int32} {S : mS} {r : Int32} (hF : f_X4_isFirstNumber v0 v1 S = some r) : mMi l yX4_isFirstNumber cX4_isFirstNumber 2 (some .boolean) rm_X4_isFirstNumber 0 0 [.ref (mA E.b v0), .ref (mA E.b v1)] E S (r, S) := by
  refine m_met_i (by decide) (Nat.le_of_ble_eq_true rfl) (fun p e s m args below meth c ls hin C hI hl => ?_)
  have hx := C.1
  have hb := C.2.1
  have hl : lv_has ls 2 [(0, .ref (mA E.b v0)), (1, .ref (mA E.b v1))] := hl
  generalize s.heap = H at hI ⊢
  generalize ([] : List Loc) = locs at hI ⊢
  refine lv_aload_n hx hb dX4_isFirstNumber_0 rfl (lv_at hl 0 rfl) ?_
  refine m_get C fd_X4_49 hI hF dX4_isFirstNumber_1 (fun r1 hF => ?_)
  refine m_if hF (fun c4 hF => ?_) (fun c4 hF => ?_)
  · refine m_swIn C dX4_isFirstNumber_4 c4 4 rfl (by decide) (by decide) rfl (tgt := 40) (by decide) ?_
    refine lv_aload_n hx hb dX4_isFirstNumber_40 rfl (lv_at hl 0 rfl) ?_
    refine m_get C fd_X4_59 hI hF dX4_isFirstNumber_41 (fun r2 hF => ?_)
    refine m_callNiR C cd_X4_80 hl.1 hI hF (fun _ h => ok_X6_isCell h) rfl rfl ⟨rfl, rfl, Nat.le_of_ble_eq_true rfl, Nat.le_of_ble_eq_true rfl⟩ ⟨Nat.le_of_ble_eq_true rfl, Nat.le_of_ble_eq_true rfl⟩ (Nat.le_of_ble_eq_true rfl) dX4_isFirstNumber_44 (fun r3 H locs hF hI => ?_)
    exact m_iretzR C hI hF dX4_isFirstNumber_47
  refine m_if hF (fun c5 hF => ?_) (fun c5 hF => ?_)
  · refine m_swIn C dX4_isFirstNumber_4 c5 5 rfl (by decide) (by decide) rfl (tgt := 68) (by decide) ?_
    exact (bl_X4_isFirstNumber_68 C) v0 _ _ _ hF hI (lv_sub hl [0] rfl)
  refine m_if hF (fun c6 hF => ?_) (fun c6 hF => ?_)
  · refine m_swIn C dX4_isFirstNumber_4 c6 6 rfl (by decide) (by decide) rfl (tgt := 68) (by decide) ?_
    exact (bl_X4_isFirstNumber_68 C) v0 _ _ _ hF hI (lv_sub hl [0] rfl)
  refine m_if hF (fun c7 hF => ?_) (fun c7 hF => ?_)
  · refine m_swIn C dX4_isFirstNumber_4 c7 7 rfl (by decide) (by decide) rfl (tgt := 48) (by decide) ?_
    refine lv_aload_n hx hb dX4_isFirstNumber_48 rfl (lv_at hl 1 rfl) ?_
    refine lv_aload_n hx hb dX4_isFirstNumber_49 rfl (lv_at hl 0 rfl) ?_
    refine m_get C fd_X4_59 hI hF dX4_isFirstNumber_50 (fun r6 hF => ?_)
    refine m_callViR C cd_X4_84 ⟨rfl, by decide⟩ hl.1 hI hF (fun _ h => ok_X1_hasWhistle h) rfl rfl ⟨rfl, rfl, Nat.le_of_ble_eq_true rfl, Nat.le_of_ble_eq_true rfl⟩ ⟨Nat.le_of_ble_eq_true rfl, Nat.le_of_ble_eq_true rfl⟩ (Nat.le_of_ble_eq_true rfl) dX4_isFirstNumber_53 (fun r7 H locs hF hI => ?_)
    exact m_iretzR C hI hF dX4_isFirstNumber_56
  refine m_if hF (fun c8 hF => ?_) (fun c8 hF => ?_)
  · refine m_swIn C dX4_isFirstNumber_4 c8 8 rfl (by decide) (by decide) rfl (tgt := 57) (by decide) ?_
    refine lv_aload_n hx hb dX4_isFirstNumber_57 rfl (lv_at hl 0 rfl) ?_
    refine m_get C fd_X4_59 hI hF dX4_isFirstNumber_58 (fun r8 hF => ?_)
    refine lv_iconst (v := 1) hx hb dX4_isFirstNumber_61 (by decide) ?_
    refine lv_bipush (v := 99) hx hb dX4_isFirstNumber_62 (by decide) ?_
    refine m_callNiR C cd_X4_87 hl.1 hI hF (fun _ h => ok_X6_isWithin h) rfl rfl ⟨rfl, rfl, Nat.le_of_ble_eq_true rfl, Nat.le_of_ble_eq_true rfl⟩ ⟨Nat.le_of_ble_eq_true rfl, Nat.le_of_ble_eq_true rfl⟩ (Nat.le_of_ble_eq_true rfl) dX4_isFirstNumber_64 (fun r9 H locs hF hI => ?_)
    exact m_iretzR C hI hF dX4_isFirstNumber_67
  refine lv_tableOut (tgt := 68) hx hb dX4_isFirstNumber_4 (by have := lv_neT c4 (a := 4) rfl; have := lv_neT c5 (a := 5) rfl; have := lv_neT c6 (a := 6) rfl; have := lv_neT c7 (a := 7) rfl; have := lv_neT c8 (a := 8) rfl; omega) (by decide) ?_
  exact (bl_X4_isFirstNumber_68 C) v0 _ _ _ hF hI (lv_sub hl [0] rfl)
noncomputable def f_X6_isCall (v0 : Int32) : Option Int32 := mCp (f_X6_isWithin v0 0 4) (fun r1 => mZ r1 (some r1))
def rm_X6_isCall : Room := { frames := 1, cells := 0, slots := 0, locals := 22 }
set_option maxRecDepth 100000 in
set_option maxHeartbeats 4000000 in
theorem ok_X6_isCall {l : Launch} {E : mE} {v0 : Int32} {S : mS} {r : Int32} (hF : f_X6_isCall v0 = some r) : mMi l yX6_isCall cX6_isCall 1 (some .boolean) rm_X6_isCall 0 0 [.int v0] E S (r, S) := by
  refine m_met_i (by decide) (Nat.le_of_ble_eq_true rfl) (fun p e s m args below meth c ls hin C hI hl => ?_)
  have hx := C.1
  have hb := C.2.1
  have hl : lv_has ls 1 [(0, .int v0)] := hl
  generalize s.heap = H at hI ⊢
  generalize ([] : List Loc) = locs at hI ⊢
  refine lv_iload_n hx hb dX6_isCall_0 rfl (lv_at hl 0 rfl) ?_
  refine lv_iconst (v := 0) hx hb dX6_isCall_1 (by decide) ?_
  refine lv_iconst (v := 4) hx hb dX6_isCall_2 (by decide) ?_
  refine m_callSiR C cd_X6_118 hl.1 hI hF (fun _ h => ok_X6_isWithin h) rfl rfl ⟨rfl, rfl, Nat.le_of_ble_eq_true rfl, Nat.le_of_ble_eq_true rfl⟩ ⟨Nat.le_of_ble_eq_true rfl, Nat.le_of_ble_eq_true rfl⟩ (Nat.le_of_ble_eq_true rfl) dX6_isCall_3 (fun r1 H locs hF hI => ?_)
  exact m_iretzR C hI hF dX6_isCall_6
noncomputable def f_X4_isSecondNumber_26 (S : mS) (t0 : Int32) : Option Int32 := mZ t0 (some t0)
noncomputable def f_X4_isSecondNumber (v0 : Int32) (S : mS) : Option Int32 := mG 4 6 v0 S (fun r1 => if r1 = 7 then (mG 4 5 v0 S (fun r4 => mCp (f_X6_isCall r4) (fun r5 => (f_X4_isSecondNumber_26 S) r5))) else (mG 4 5 v0 S (fun r2 => mCp (f_X6_isCell r2) (fun r3 => (f_X4_isSecondNumber_26 S) r3))))
def rm_X4_isSecondNumber : Room := { frames := 2, cells := 0, slots := 0, locals := 42 }
set_option maxRecDepth 100000 in
set_option maxHeartbeats 4000000 in
theorem bl_X4_isSecondNumber_26 {p : Program} {l : Launch} {e : Env} {s : State} {m : MethodId} {args : Array Value} {below : List Frame} {meth : Method} {c : Code} {E : mE} {n0 : Nat} {r : Int32} {S : mS} (C : mCx p s m args meth c cX4_isSecondNumber 1 RX4 (some .boolean) E n0) : ∀  (t0 : Int32) (H : Heap) (locs : List Loc) (ls : Array Slot), f_X4_isSecondNumber_26 S t0 = some r → mIv s E S H locs 0 → lv_has ls 1 [] → W p l e rm_X4_isSecondNumber s m args below meth c H locs 0 0 (mQi below args s 0 0 n0 E (r, S)) (F0 m 26 ls [.int t0]) := by
  have hx := C.1
  have hb := C.2.1
  intro t0 H locs ls hF hI hl
  exact m_iretzR C hI hF dX4_isSecondNumber_26
set_option maxRecDepth 100000 in
set_option maxHeartbeats 4000000 in
theorem ok_X4_isSecondNumber {l : Launch} {E : mE} {v0 : Int32} {S : mS} {r : Int32} (hF : f_X4_isSecondNumber v0 S = some r) : mMi l yX4_isSecondNumber cX4_isSecondNumber 1 (some .boolean) rm_X4_isSecondNumber 0 0 [.ref (mA E.b v0)] E S (r, S) := by
  refine m_met_i (by decide) (Nat.le_of_ble_eq_true rfl) (fun p e s m args below meth c ls hin C hI hl => ?_)
  have hx := C.1
  have hb := C.2.1
  have hl : lv_has ls 1 [(0, .ref (mA E.b v0))] := hl
  generalize s.heap = H at hI ⊢
  generalize ([] : List Loc) = locs at hI ⊢
  refine lv_aload_n hx hb dX4_isSecondNumber_0 rfl (lv_at hl 0 rfl) ?_
  refine m_get C fd_X4_49 hI hF dX4_isSecondNumber_1 (fun r1 hF => ?_)
  refine lv_bipush (v := 7) hx hb dX4_isSecondNumber_4 (by decide) ?_
  refine m_icmp_ne C (tgt := 19) hF dX4_isSecondNumber_6 (by decide) (fun hF => ?_) (fun hF => ?_)
  · refine lv_aload_n hx hb dX4_isSecondNumber_19 rfl (lv_at hl 0 rfl) ?_
    refine m_get C fd_X4_59 hI hF dX4_isSecondNumber_20 (fun r2 hF => ?_)
    refine m_callNiR C cd_X4_80 hl.1 hI hF (fun _ h => ok_X6_isCell h) rfl rfl ⟨rfl, rfl, Nat.le_of_ble_eq_true rfl, Nat.le_of_ble_eq_true rfl⟩ ⟨Nat.le_of_ble_eq_true rfl, Nat.le_of_ble_eq_true rfl⟩ (Nat.le_of_ble_eq_true rfl) dX4_isSecondNumber_23 (fun r3 H locs hF hI => ?_)
    exact (bl_X4_isSecondNumber_26 C) r3 _ _ _ hF hI (lv_sub hl [] rfl)
  · refine lv_aload_n hx hb dX4_isSecondNumber_9 rfl (lv_at hl 0 rfl) ?_
    refine m_get C fd_X4_59 hI hF dX4_isSecondNumber_10 (fun r4 hF => ?_)
    refine m_callNiR C cd_X4_94 hl.1 hI hF (fun _ h => ok_X6_isCall h) rfl rfl ⟨rfl, rfl, Nat.le_of_ble_eq_true rfl, Nat.le_of_ble_eq_true rfl⟩ ⟨Nat.le_of_ble_eq_true rfl, Nat.le_of_ble_eq_true rfl⟩ (Nat.le_of_ble_eq_true rfl) dX4_isSecondNumber_13 (fun r5 H locs hF hI => ?_)
    refine lv_goto (tgt := 26) hx hb dX4_isSecondNumber_16 (by decide) ?_
    exact (bl_X4_isSecondNumber_26 C) r5 _ _ _ hF hI (lv_sub hl [] rfl)
noncomputable def f_X4_takeItem_39 (S : mS) : Option (Int32 × mS) := mZ 0 (some (0, S))
noncomputable def f_X4_takeItem_112 (t0 : Int32) (S : mS) : Option (Int32 × mS) := mZ t0 (some (t0, S))
noncomputable def f_X4_takeItem_95 (v0 : Int32) (S : mS) : Option (Int32 × mS) := mRc 4 v0 S (mCv (f_X4_next v0 S) (fun S12 => mG 4 4 v0 S12 (fun r13 => if r13 = 2 then ((f_X4_takeItem_112) 1 S12) else ((f_X4_takeItem_112) 0 S12))))
noncomputable def f_X4_takeItem_85 (S : mS) : Option (Int32 × mS) := mZ 0 (some (0, S))
noncomputable def f_X4_takeItem (v0 : Int32) (v1 : Int32) (v2 : Int32) (S : mS) : Option (Int32 × mS) := mG 4 4 v0 S (fun r1 => mP 4 6 v0 r1 S (fun S2 => mRc 4 v0 S2 (mCp (f_X4_mayBegin v0 v1 v2 S2) (fun r3 => if r3 = 0 then (mZ 0 (some (0, S2))) else (mRc 4 v0 S2 (mCv (f_X4_next v0 S2) (fun S5 => mG 4 4 v0 S5 (fun r6 => if r6 = 1 then (mRc 4 v0 S5 (mCp (f_X4_isFirstNumber v0 v1 S5) (fun r7 => if r7 = 0 then ((f_X4_takeItem_39) S5) else (mG 4 5 v0 S5 (fun r8 => mP 4 7 v0 r8 S5 (fun S9 => mG 4 6 v0 S9 (fun r10 => if r10 = 4 then ((f_X4_takeItem_95) v0 S9) else (mG 4 6 v0 S9 (fun r14 => if r14 = 8 then ((f_X4_takeItem_95) v0 S9) else (mRc 4 v0 S9 (mCv (f_X4_next v0 S9) (fun S16 => mG 4 4 v0 S16 (fun r17 => if r17 = 1 then (mRc 4 v0 S16 (mCp (f_X4_isSecondNumber v0 S16) (fun r18 => if r18 = 0 then ((f_X4_takeItem_85) S16) else (mG 4 5 v0 S16 (fun r19 => mP 4 8 v0 r19 S16 (fun S20 => (f_X4_takeItem_95) v0 S20)))))) else ((f_X4_takeItem_85) S16)))))))))))))) else ((f_X4_takeItem_39) S5)))))))))
def rm_X4_takeItem : Room := { frames := 7, cells := 0, slots := 0, locals := 148 }
set_option maxRecDepth 100000 in
set_option maxHeartbeats 4000000 in
theorem bl_X4_takeItem_39 {p : Program} {l : Launch} {e : Env} {s : State} {m : MethodId} {args : Array Value} {below : List Frame} {meth : Method} {c : Code} {E : mE} {n0 : Nat} {F : Int32 × mS} (C : mCx p s m args meth c cX4_takeItem 3 RX4 (some .boolean) E n0) : ∀  (S : mS) (H : Heap) (locs : List Loc) (ls : Array Slot), f_X4_takeItem_39 S = some F → mIv s E S H locs 0 → lv_has ls 3 [] → W p l e rm_X4_takeItem s m args below meth c H locs 0 0 (mQi below args s 0 0 n0 E F) (F0 m 39 ls []) := by
  have hx := C.1
  have hb := C.2.1
  intro S H locs ls hF hI hl
  refine lv_iconst (v := 0) hx hb dX4_takeItem_39 (by decide) ?_
  exact m_iretz C hI hF dX4_takeItem_40
set_option maxRecDepth 100000 in
set_option maxHeartbeats 4000000 in
theorem bl_X4_takeItem_112 {p : Program} {l : Launch} {e : Env} {s : State} {m : MethodId} {args : Array Value} {below : List Frame} {meth : Method} {c : Code} {E : mE} {n0 : Nat} {F : Int32 × mS} (C : mCx p s m args meth c cX4_takeItem 3 RX4 (some .boolean) E n0) : ∀  (t0 : Int32) (S : mS) (H : Heap) (locs : List Loc) (ls : Array Slot), f_X4_takeItem_112 t0 S = some F → mIv s E S H locs 0 → lv_has ls 3 [] → W p l e rm_X4_takeItem s m args below meth c H locs 0 0 (mQi below args s 0 0 n0 E F) (F0 m 112 ls [.int t0]) := by
  have hx := C.1
  have hb := C.2.1
  intro t0 S H locs ls hF hI hl
  exact m_iretz C hI hF dX4_takeItem_112
set_option maxRecDepth 100000 in
set_option maxHeartbeats 4000000 in
theorem bl_X4_takeItem_95 {p : Program} {l : Launch} {e : Env} {s : State} {m : MethodId} {args : Array Value} {below : List Frame} {meth : Method} {c : Code} {E : mE} {n0 : Nat} {F : Int32 × mS} (C : mCx p s m args meth c cX4_takeItem 3 RX4 (some .boolean) E n0) : ∀  (v0 : Int32) (S : mS) (H : Heap) (locs : List Loc) (ls : Array Slot), f_X4_takeItem_95 v0 S = some F → mIv s E S H locs 0 → lv_has ls 3 [(0, .ref (mA E.b v0))] → W p l e rm_X4_takeItem s m args below meth c H locs 0 0 (mQi below args s 0 0 n0 E F) (F0 m 95 ls []) := by
  have hx := C.1
  have hb := C.2.1
  intro v0 S H locs ls hF hI hl
  refine lv_aload_n hx hb dX4_takeItem_95 rfl (lv_at hl 0 rfl) ?_
  refine m_callVv C cd_X4_28 ⟨rfl, by decide⟩ hl.1 hI hF (fun _ h => ok_X4_next h) rfl rfl ⟨rfl, rfl, Nat.le_of_ble_eq_true rfl, Nat.le_of_ble_eq_true rfl⟩ ⟨Nat.le_of_ble_eq_true rfl, Nat.le_of_ble_eq_true rfl⟩ (Nat.le_of_ble_eq_true rfl) dX4_takeItem_96 (fun S12 H locs hF hI => ?_)
  refine lv_aload_n hx hb dX4_takeItem_99 rfl (lv_at hl 0 rfl) ?_
  refine m_get C fd_X4_31 hI hF dX4_takeItem_100 (fun r13 hF => ?_)
  refine lv_iconst (v := 2) hx hb dX4_takeItem_103 (by decide) ?_
  refine m_icmp_ne C (tgt := 111) hF dX4_takeItem_104 (by decide) (fun hF => ?_) (fun hF => ?_)
  · refine lv_iconst (v := 0) hx hb dX4_takeItem_111 (by decide) ?_
    exact (bl_X4_takeItem_112 C) 0 S12 _ _ _ hF hI (lv_sub hl [] rfl)
  · refine lv_iconst (v := 1) hx hb dX4_takeItem_107 (by decide) ?_
    refine lv_goto (tgt := 112) hx hb dX4_takeItem_108 (by decide) ?_
    exact (bl_X4_takeItem_112 C) 1 S12 _ _ _ hF hI (lv_sub hl [] rfl)
set_option maxRecDepth 100000 in
set_option maxHeartbeats 4000000 in
theorem bl_X4_takeItem_85 {p : Program} {l : Launch} {e : Env} {s : State} {m : MethodId} {args : Array Value} {below : List Frame} {meth : Method} {c : Code} {E : mE} {n0 : Nat} {F : Int32 × mS} (C : mCx p s m args meth c cX4_takeItem 3 RX4 (some .boolean) E n0) : ∀  (S : mS) (H : Heap) (locs : List Loc) (ls : Array Slot), f_X4_takeItem_85 S = some F → mIv s E S H locs 0 → lv_has ls 3 [] → W p l e rm_X4_takeItem s m args below meth c H locs 0 0 (mQi below args s 0 0 n0 E F) (F0 m 85 ls []) := by
  have hx := C.1
  have hb := C.2.1
  intro S H locs ls hF hI hl
  refine lv_iconst (v := 0) hx hb dX4_takeItem_85 (by decide) ?_
  exact m_iretz C hI hF dX4_takeItem_86
set_option maxRecDepth 100000 in
set_option maxHeartbeats 4000000 in
theorem ok_X4_takeItem {l : Launch} {E : mE} {v0 : Int32} {v1 : Int32} {v2 : Int32} {S : mS} {F : Int32 × mS} (hF : f_X4_takeItem v0 v1 v2 S = some F) : mMi l yX4_takeItem cX4_takeItem 3 (some .boolean) rm_X4_takeItem 0 0 [.ref (mA E.b v0), .ref (mA E.b v1), .int v2] E S F := by
  refine m_met_i (by decide) (Nat.le_of_ble_eq_true rfl) (fun p e s m args below meth c ls hin C hI hl => ?_)
  have hx := C.1
  have hb := C.2.1
  have hl : lv_has ls 3 [(0, .ref (mA E.b v0)), (1, .ref (mA E.b v1)), (2, .int v2)] := hl
  generalize s.heap = H at hI ⊢
  generalize ([] : List Loc) = locs at hI ⊢
  refine lv_aload_n hx hb dX4_takeItem_0 rfl (lv_at hl 0 rfl) ?_
  refine lv_aload_n hx hb dX4_takeItem_1 rfl (lv_at hl 0 rfl) ?_
  refine m_get C fd_X4_31 hI hF dX4_takeItem_2 (fun r1 hF => ?_)
  refine m_put C fd_X4_49 hI hF dX4_takeItem_5 (fun S2 H locs hF hI => ?_)
  refine lv_aload_n hx hb dX4_takeItem_8 rfl (lv_at hl 0 rfl) ?_
  refine lv_aload_n hx hb dX4_takeItem_9 rfl (lv_at hl 1 rfl) ?_
  refine lv_iload_n hx hb dX4_takeItem_10 rfl (lv_at hl 2 rfl) ?_
  refine m_callViR C cd_X4_52 ⟨rfl, by decide⟩ hl.1 hI hF (fun _ h => ok_X4_mayBegin h) rfl rfl ⟨rfl, rfl, Nat.le_of_ble_eq_true rfl, Nat.le_of_ble_eq_true rfl⟩ ⟨Nat.le_of_ble_eq_true rfl, Nat.le_of_ble_eq_true rfl⟩ (Nat.le_of_ble_eq_true rfl) dX4_takeItem_11 (fun r3 H locs hF hI => ?_)
  refine m_if_ne C (tgt := 19) hF dX4_takeItem_14 (by decide) (fun hF => ?_) (fun hF => ?_)
  · refine lv_aload_n hx hb dX4_takeItem_19 rfl (lv_at hl 0 rfl) ?_
    refine m_callVv C cd_X4_28 ⟨rfl, by decide⟩ hl.1 hI hF (fun _ h => ok_X4_next h) rfl rfl ⟨rfl, rfl, Nat.le_of_ble_eq_true rfl, Nat.le_of_ble_eq_true rfl⟩ ⟨Nat.le_of_ble_eq_true rfl, Nat.le_of_ble_eq_true rfl⟩ (Nat.le_of_ble_eq_true rfl) dX4_takeItem_20 (fun S5 H locs hF hI => ?_)
    refine lv_aload_n hx hb dX4_takeItem_23 rfl (lv_at hl 0 rfl) ?_
    refine m_get C fd_X4_31 hI hF dX4_takeItem_24 (fun r6 hF => ?_)
    refine lv_iconst (v := 1) hx hb dX4_takeItem_27 (by decide) ?_
    refine m_icmp_ne C (tgt := 39) hF dX4_takeItem_28 (by decide) (fun hF => ?_) (fun hF => ?_)
    · exact (bl_X4_takeItem_39 C) S5 _ _ _ hF hI (lv_sub hl [] rfl)
    · refine lv_aload_n hx hb dX4_takeItem_31 rfl (lv_at hl 0 rfl) ?_
      refine lv_aload_n hx hb dX4_takeItem_32 rfl (lv_at hl 1 rfl) ?_
      refine m_callViR C cd_X4_55 ⟨rfl, by decide⟩ hl.1 hI hF (fun _ h => ok_X4_isFirstNumber h) rfl rfl ⟨rfl, rfl, Nat.le_of_ble_eq_true rfl, Nat.le_of_ble_eq_true rfl⟩ ⟨Nat.le_of_ble_eq_true rfl, Nat.le_of_ble_eq_true rfl⟩ (Nat.le_of_ble_eq_true rfl) dX4_takeItem_33 (fun r7 H locs hF hI => ?_)
      refine m_if_ne C (tgt := 41) hF dX4_takeItem_36 (by decide) (fun hF => ?_) (fun hF => ?_)
      · refine lv_aload_n hx hb dX4_takeItem_41 rfl (lv_at hl 0 rfl) ?_
        refine lv_aload_n hx hb dX4_takeItem_42 rfl (lv_at hl 0 rfl) ?_
        refine m_get C fd_X4_59 hI hF dX4_takeItem_43 (fun r8 hF => ?_)
        refine m_put C fd_X4_62 hI hF dX4_takeItem_46 (fun S9 H locs hF hI => ?_)
        refine lv_aload_n hx hb dX4_takeItem_49 rfl (lv_at hl 0 rfl) ?_
        refine m_get C fd_X4_49 hI hF dX4_takeItem_50 (fun r10 hF => ?_)
        refine lv_iconst (v := 4) hx hb dX4_takeItem_53 (by decide) ?_
        refine m_icmp_eq C (tgt := 95) hF dX4_takeItem_54 (by decide) (fun hF => ?_) (fun hF => ?_)
        · exact (bl_X4_takeItem_95 C) v0 S9 _ _ _ hF hI (lv_sub hl [0] rfl)
        · refine lv_aload_n hx hb dX4_takeItem_57 rfl (lv_at hl 0 rfl) ?_
          refine m_get C fd_X4_49 hI hF dX4_takeItem_58 (fun r14 hF => ?_)
          refine lv_bipush (v := 8) hx hb dX4_takeItem_61 (by decide) ?_
          refine m_icmp_eq C (tgt := 95) hF dX4_takeItem_63 (by decide) (fun hF => ?_) (fun hF => ?_)
          · exact (bl_X4_takeItem_95 C) v0 S9 _ _ _ hF hI (lv_sub hl [0] rfl)
          · refine lv_aload_n hx hb dX4_takeItem_66 rfl (lv_at hl 0 rfl) ?_
            refine m_callVv C cd_X4_28 ⟨rfl, by decide⟩ hl.1 hI hF (fun _ h => ok_X4_next h) rfl rfl ⟨rfl, rfl, Nat.le_of_ble_eq_true rfl, Nat.le_of_ble_eq_true rfl⟩ ⟨Nat.le_of_ble_eq_true rfl, Nat.le_of_ble_eq_true rfl⟩ (Nat.le_of_ble_eq_true rfl) dX4_takeItem_67 (fun S16 H locs hF hI => ?_)
            refine lv_aload_n hx hb dX4_takeItem_70 rfl (lv_at hl 0 rfl) ?_
            refine m_get C fd_X4_31 hI hF dX4_takeItem_71 (fun r17 hF => ?_)
            refine lv_iconst (v := 1) hx hb dX4_takeItem_74 (by decide) ?_
            refine m_icmp_ne C (tgt := 85) hF dX4_takeItem_75 (by decide) (fun hF => ?_) (fun hF => ?_)
            · exact (bl_X4_takeItem_85 C) S16 _ _ _ hF hI (lv_sub hl [] rfl)
            · refine lv_aload_n hx hb dX4_takeItem_78 rfl (lv_at hl 0 rfl) ?_
              refine m_callViR C cd_X4_65 ⟨rfl, by decide⟩ hl.1 hI hF (fun _ h => ok_X4_isSecondNumber h) rfl rfl ⟨rfl, rfl, Nat.le_of_ble_eq_true rfl, Nat.le_of_ble_eq_true rfl⟩ ⟨Nat.le_of_ble_eq_true rfl, Nat.le_of_ble_eq_true rfl⟩ (Nat.le_of_ble_eq_true rfl) dX4_takeItem_79 (fun r18 H locs hF hI => ?_)
              refine m_if_ne C (tgt := 87) hF dX4_takeItem_82 (by decide) (fun hF => ?_) (fun hF => ?_)
              · refine lv_aload_n hx hb dX4_takeItem_87 rfl (lv_at hl 0 rfl) ?_
                refine lv_aload_n hx hb dX4_takeItem_88 rfl (lv_at hl 0 rfl) ?_
                refine m_get C fd_X4_59 hI hF dX4_takeItem_89 (fun r19 hF => ?_)
                refine m_put C fd_X4_69 hI hF dX4_takeItem_92 (fun S20 H locs hF hI => ?_)
                exact (bl_X4_takeItem_95 C) v0 S20 _ _ _ hF hI (lv_sub hl [0] rfl)
              · exact (bl_X4_takeItem_85 C) S16 _ _ _ hF hI (lv_sub hl [] rfl)
      · exact (bl_X4_takeItem_39 C) S5 _ _ _ hF hI (lv_sub hl [] rfl)
  · refine lv_iconst (v := 0) hx hb dX4_takeItem_17 (by decide) ?_
    exact m_iretz C hI hF dX4_takeItem_18
noncomputable def f_X4_carryOutItem_120 (S : mS) : Option mS := some S
noncomputable def f_X4_carryOutItem (v0 : Int32) (v1 : Int32) (S : mS) : Option mS := mG 4 6 v0 S (fun r1 => if r1 = 4 then (mG 4 7 v0 S (fun r2 => mP 5 5 v1 r2 S (fun S3 => (f_X4_carryOutItem_120) S3))) else if r1 = 5 then (mGr 5 0 v1 S (fun r4 => mG 4 7 v0 S (fun r5 => mG 4 8 v0 S (fun r6 => mRc 1 r4 S (mC (f_X1_addWhistle r4 r5 r6 S) (fun r7 S8 => (f_X4_carryOutItem_120) S8)))))) else if r1 = 6 then (mGr 5 0 v1 S (fun r9 => mG 4 7 v0 S (fun r10 => mG 4 8 v0 S (fun r11 => mRc 1 r9 S (mC (f_X1_addSheep r9 r10 r11 S) (fun r12 S13 => (f_X4_carryOutItem_120) S13)))))) else if r1 = 7 then (mGr 5 0 v1 S (fun r14 => mG 4 7 v0 S (fun r15 => mG 4 8 v0 S (fun r16 => mRc 1 r14 S (mC (f_X1_call r14 r15 r16 S) (fun r17 S18 => (f_X4_carryOutItem_120) S18)))))) else (mGr 5 0 v1 S (fun r19 => mG 1 6 r19 S (fun r20 => mG 4 7 v0 S (fun r21 => mP 1 6 r19 (r20 + r21) S (fun S22 => (f_X4_carryOutItem_120) S22))))))
def rm_X4_carryOutItem : Room := { frames := 4, cells := 0, slots := 0, locals := 90 }
set_option maxRecDepth 100000 in
set_option maxHeartbeats 4000000 in
theorem bl_X4_carryOutItem_120 {p : Program} {l : Launch} {e : Env} {s : State} {m : MethodId} {args : Array Value} {below : List Frame} {meth : Method} {c : Code} {E : mE} {n0 : Nat} {F : mS} (C : mCx p s m args meth c cX4_carryOutItem 2 RX4 none E n0) : ∀  (S : mS) (H : Heap) (locs : List Loc) (ls : Array Slot), f_X4_carryOutItem_120 S = some F → mIv s E S H locs 0 → lv_has ls 2 [] → W p l e rm_X4_carryOutItem s m args below meth c H locs 0 0 (mQv below args s 0 0 n0 E F) (F0 m 120 ls []) := by
  have hx := C.1
  have hb := C.2.1
  intro S H locs ls hF hI hl
  exact m_vret C hI hF dX4_carryOutItem_120
set_option maxRecDepth 100000 in
set_option maxHeartbeats 4000000 in
theorem ok_X4_carryOutItem {l : Launch} {E : mE} {v0 : Int32} {v1 : Int32} {S : mS} {F : mS} (hF : f_X4_carryOutItem v0 v1 S = some F) : mMv l yX4_carryOutItem cX4_carryOutItem 2 none rm_X4_carryOutItem 0 0 [.ref (mA E.b v0), .ref (mA E.b v1)] E S F := by
  refine m_met_v (by decide) (Nat.le_of_ble_eq_true rfl) (fun p e s m args below meth c ls hin C hI hl => ?_)
  have hx := C.1
  have hb := C.2.1
  have hl : lv_has ls 2 [(0, .ref (mA E.b v0)), (1, .ref (mA E.b v1))] := hl
  generalize s.heap = H at hI ⊢
  generalize ([] : List Loc) = locs at hI ⊢
  refine lv_aload_n hx hb dX4_carryOutItem_0 rfl (lv_at hl 0 rfl) ?_
  refine m_get C fd_X4_49 hI hF dX4_carryOutItem_1 (fun r1 hF => ?_)
  refine m_if hF (fun c4 hF => ?_) (fun c4 hF => ?_)
  · refine m_swIn C dX4_carryOutItem_4 c4 4 rfl (by decide) (by decide) rfl (tgt := 36) (by decide) ?_
    refine lv_aload_n hx hb dX4_carryOutItem_36 rfl (lv_at hl 1 rfl) ?_
    refine lv_aload_n hx hb dX4_carryOutItem_37 rfl (lv_at hl 0 rfl) ?_
    refine m_get C fd_X4_62 hI hF dX4_carryOutItem_38 (fun r2 hF => ?_)
    refine m_put C fd_X4_97 hI hF dX4_carryOutItem_41 (fun S3 H locs hF hI => ?_)
    refine lv_goto (tgt := 120) hx hb dX4_carryOutItem_44 (by decide) ?_
    exact (bl_X4_carryOutItem_120 C) S3 _ _ _ hF hI (lv_sub hl [] rfl)
  refine m_if hF (fun c5 hF => ?_) (fun c5 hF => ?_)
  · refine m_swIn C dX4_carryOutItem_4 c5 5 rfl (by decide) (by decide) rfl (tgt := 47) (by decide) ?_
    refine lv_aload_n hx hb dX4_carryOutItem_47 rfl (lv_at hl 1 rfl) ?_
    refine m_getR C fd_X4_34 hI hF dX4_carryOutItem_48 (fun r4 hF => ?_)
    refine lv_aload_n hx hb dX4_carryOutItem_51 rfl (lv_at hl 0 rfl) ?_
    refine m_get C fd_X4_62 hI hF dX4_carryOutItem_52 (fun r5 hF => ?_)
    refine lv_aload_n hx hb dX4_carryOutItem_55 rfl (lv_at hl 0 rfl) ?_
    refine m_get C fd_X4_69 hI hF dX4_carryOutItem_56 (fun r6 hF => ?_)
    refine m_callVi C cd_X4_100 ⟨rfl, by decide⟩ hl.1 hI hF (fun _ h => ok_X1_addWhistle h) rfl rfl ⟨rfl, rfl, Nat.le_of_ble_eq_true rfl, Nat.le_of_ble_eq_true rfl⟩ ⟨Nat.le_of_ble_eq_true rfl, Nat.le_of_ble_eq_true rfl⟩ (Nat.le_of_ble_eq_true rfl) dX4_carryOutItem_59 (fun r7 S8 H locs hF hI => ?_)
    refine lv_pop hx hb dX4_carryOutItem_62 rfl ?_
    refine lv_goto (tgt := 120) hx hb dX4_carryOutItem_63 (by decide) ?_
    exact (bl_X4_carryOutItem_120 C) S8 _ _ _ hF hI (lv_sub hl [] rfl)
  refine m_if hF (fun c6 hF => ?_) (fun c6 hF => ?_)
  · refine m_swIn C dX4_carryOutItem_4 c6 6 rfl (by decide) (by decide) rfl (tgt := 66) (by decide) ?_
    refine lv_aload_n hx hb dX4_carryOutItem_66 rfl (lv_at hl 1 rfl) ?_
    refine m_getR C fd_X4_34 hI hF dX4_carryOutItem_67 (fun r9 hF => ?_)
    refine lv_aload_n hx hb dX4_carryOutItem_70 rfl (lv_at hl 0 rfl) ?_
    refine m_get C fd_X4_62 hI hF dX4_carryOutItem_71 (fun r10 hF => ?_)
    refine lv_aload_n hx hb dX4_carryOutItem_74 rfl (lv_at hl 0 rfl) ?_
    refine m_get C fd_X4_69 hI hF dX4_carryOutItem_75 (fun r11 hF => ?_)
    refine m_callVi C cd_X4_104 ⟨rfl, by decide⟩ hl.1 hI hF (fun _ h => ok_X1_addSheep h) rfl rfl ⟨rfl, rfl, Nat.le_of_ble_eq_true rfl, Nat.le_of_ble_eq_true rfl⟩ ⟨Nat.le_of_ble_eq_true rfl, Nat.le_of_ble_eq_true rfl⟩ (Nat.le_of_ble_eq_true rfl) dX4_carryOutItem_78 (fun r12 S13 H locs hF hI => ?_)
    refine lv_pop hx hb dX4_carryOutItem_81 rfl ?_
    refine lv_goto (tgt := 120) hx hb dX4_carryOutItem_82 (by decide) ?_
    exact (bl_X4_carryOutItem_120 C) S13 _ _ _ hF hI (lv_sub hl [] rfl)
  refine m_if hF (fun c7 hF => ?_) (fun c7 hF => ?_)
  · refine m_swIn C dX4_carryOutItem_4 c7 7 rfl (by decide) (by decide) rfl (tgt := 85) (by decide) ?_
    refine lv_aload_n hx hb dX4_carryOutItem_85 rfl (lv_at hl 1 rfl) ?_
    refine m_getR C fd_X4_34 hI hF dX4_carryOutItem_86 (fun r14 hF => ?_)
    refine lv_aload_n hx hb dX4_carryOutItem_89 rfl (lv_at hl 0 rfl) ?_
    refine m_get C fd_X4_62 hI hF dX4_carryOutItem_90 (fun r15 hF => ?_)
    refine lv_aload_n hx hb dX4_carryOutItem_93 rfl (lv_at hl 0 rfl) ?_
    refine m_get C fd_X4_69 hI hF dX4_carryOutItem_94 (fun r16 hF => ?_)
    refine m_callVi C cd_X4_107 ⟨rfl, by decide⟩ hl.1 hI hF (fun _ h => ok_X1_call h) rfl rfl ⟨rfl, rfl, Nat.le_of_ble_eq_true rfl, Nat.le_of_ble_eq_true rfl⟩ ⟨Nat.le_of_ble_eq_true rfl, Nat.le_of_ble_eq_true rfl⟩ (Nat.le_of_ble_eq_true rfl) dX4_carryOutItem_97 (fun r17 S18 H locs hF hI => ?_)
    refine lv_pop hx hb dX4_carryOutItem_100 rfl ?_
    refine lv_goto (tgt := 120) hx hb dX4_carryOutItem_101 (by decide) ?_
    exact (bl_X4_carryOutItem_120 C) S18 _ _ _ hF hI (lv_sub hl [] rfl)
  refine lv_tableOut (tgt := 104) hx hb dX4_carryOutItem_4 (by have := lv_neT c4 (a := 4) rfl; have := lv_neT c5 (a := 5) rfl; have := lv_neT c6 (a := 6) rfl; have := lv_neT c7 (a := 7) rfl; omega) (by decide) ?_
  refine lv_aload_n hx hb dX4_carryOutItem_104 rfl (lv_at hl 1 rfl) ?_
  refine m_getR C fd_X4_34 hI hF dX4_carryOutItem_105 (fun r19 hF => ?_)
  refine lv_dup hx hb dX4_carryOutItem_108 rfl ?_
  refine m_get C fd_X4_110 hI hF dX4_carryOutItem_109 (fun r20 hF => ?_)
  refine lv_aload_n hx hb dX4_carryOutItem_112 rfl (lv_at hl 0 rfl) ?_
  refine m_get C fd_X4_62 hI hF dX4_carryOutItem_113 (fun r21 hF => ?_)
  refine lv_iadd hx hb dX4_carryOutItem_116 ?_
  refine m_put C fd_X4_110 hI hF dX4_carryOutItem_117 (fun S22 H locs hF hI => ?_)
  exact (bl_X4_carryOutItem_120 C) S22 _ _ _ hF hI (lv_sub hl [] rfl)
noncomputable def f_X4_carryOut_50 (k16 : Int32 → Int32 → Int32 → mS → Option (Int32 × mS)) (v0 : Int32) (v1 : Int32) (v2 : Int32) (t0 : Int32) (t1 : Int32) (t2 : Int32) (S : mS) : Option (Int32 × mS) := mRc 4 t0 S (mC (f_X4_takeItem t0 t1 t2 S) (fun r7 S8 => if r7 = 0 then (mG 4 2 v0 S8 (fun r13 => some ((-10) - r13, S8))) else (mRc 4 v0 S8 (mCv (f_X4_carryOutItem v0 v1 S8) (fun S10 => mRc 4 v0 S10 (mCv (f_X4_next v0 S10) (fun S12 => k16 v0 v1 (v2 + 1) S12)))))))
noncomputable def f_X4_carryOut_36 (k16 : Int32 → Int32 → Int32 → mS → Option (Int32 × mS)) (v0 : Int32) (v1 : Int32) (v2 : Int32) (S : mS) : Option (Int32 × mS) := mGr 5 0 v1 S (fun r6 => if v2 = 0 then ((f_X4_carryOut_50 k16) v0 v1 v2 v0 r6 1 S) else ((f_X4_carryOut_50 k16) v0 v1 v2 v0 r6 0 S))
noncomputable def f_X4_carryOut_16 (k79 : Int32 → mS → Option (Int32 × mS)) : Nat → Int32 → Int32 → Int32 → mS → Option (Int32 × mS) := fun n => Nat.rec (motive := fun _ => Int32 → Int32 → Int32 → mS → Option (Int32 × mS)) (fun _ _ _ _ => none) (fun _ rec v0 v1 v2 S => if 150 < v2 then (k79 v0 S) else (if v2 ≤ 0 then ((f_X4_carryOut_36 rec) v0 v1 v2 S) else (mG 4 4 v0 S (fun r14 => if r14 = 0 then (some (v2, S)) else ((f_X4_carryOut_36 rec) v0 v1 v2 S))))) n
theorem f_X4_carryOut_16_s (k79 : Int32 → mS → Option (Int32 × mS)) (n : Nat) (v0 : Int32) (v1 : Int32) (v2 : Int32) (S : mS) : f_X4_carryOut_16 k79 (n + 1) v0 v1 v2 S = if 150 < v2 then (k79 v0 S) else (if v2 ≤ 0 then ((f_X4_carryOut_36 (f_X4_carryOut_16 k79 n)) v0 v1 v2 S) else (mG 4 4 v0 S (fun r14 => if r14 = 0 then (some (v2, S)) else ((f_X4_carryOut_36 (f_X4_carryOut_16 k79 n)) v0 v1 v2 S)))) := rfl
noncomputable def f_X4_carryOut_79 (v0 : Int32) (S : mS) : Option (Int32 × mS) := mG 4 2 v0 S (fun r15 => some ((-10) - r15, S))
noncomputable def f_X4_carryOut (v0 : Int32) (v1 : Int32) (S : mS) : Option (Int32 × mS) := mRc 5 v1 S (mCv (f_X5_begin v1 0 S) (fun S2 => mP 4 3 v0 0 S2 (fun S3 => mRc 4 v0 S3 (mCv (f_X4_next v0 S3) (fun S5 => (f_X4_carryOut_16 (f_X4_carryOut_79) 1000) v0 v1 0 S5)))))
def rm_X4_carryOut : Room := { frames := 8, cells := 0, slots := 0, locals := 170 }
set_option maxRecDepth 100000 in
set_option maxHeartbeats 4000000 in
theorem bl_X4_carryOut_50 {p : Program} {l : Launch} {e : Env} {s : State} {m : MethodId} {args : Array Value} {below : List Frame} {meth : Method} {c : Code} {E : mE} {n0 : Nat} {F : Int32 × mS} (C : mCx p s m args meth c cX4_carryOut 3 RX4 (some .int) E n0) {k16 : Int32 → Int32 → Int32 → mS → Option (Int32 × mS)} (hk16 : ∀ (v0 : Int32) (v1 : Int32) (v2 : Int32) (S : mS) (H : Heap) (locs : List Loc) (ls : Array Slot), k16 v0 v1 v2 S = some F → mIv s E S H locs 0 → lv_has ls 3 [(0, .ref (mA E.b v0)), (1, .ref (mA E.b v1)), (2, .int v2)] → W p l e rm_X4_carryOut s m args below meth c H locs 0 0 (mQi below args s 0 0 n0 E F) (F0 m 16 ls [])) : ∀  (v0 : Int32) (v1 : Int32) (v2 : Int32) (t0 : Int32) (t1 : Int32) (t2 : Int32) (S : mS) (H : Heap) (locs : List Loc) (ls : Array Slot), f_X4_carryOut_50 k16 v0 v1 v2 t0 t1 t2 S = some F → mIv s E S H locs 0 → lv_has ls 3 [(0, .ref (mA E.b v0)), (1, .ref (mA E.b v1)), (2, .int v2)] → W p l e rm_X4_carryOut s m args below meth c H locs 0 0 (mQi below args s 0 0 n0 E F) (F0 m 50 ls [.int t2, .ref (mA E.b t1), .ref (mA E.b t0)]) := by
  have hx := C.1
  have hb := C.2.1
  intro v0 v1 v2 t0 t1 t2 S H locs ls hF hI hl
  refine m_callVi C cd_X4_38 ⟨rfl, by decide⟩ hl.1 hI hF (fun _ h => ok_X4_takeItem h) rfl rfl ⟨rfl, rfl, Nat.le_of_ble_eq_true rfl, Nat.le_of_ble_eq_true rfl⟩ ⟨Nat.le_of_ble_eq_true rfl, Nat.le_of_ble_eq_true rfl⟩ (Nat.le_of_ble_eq_true rfl) dX4_carryOut_50 (fun r7 S8 H locs hF hI => ?_)
  refine m_if_ne C (tgt := 64) hF dX4_carryOut_53 (by decide) (fun hF => ?_) (fun hF => ?_)
  · refine lv_aload_n hx hb dX4_carryOut_64 rfl (lv_at hl 0 rfl) ?_
    refine lv_aload_n hx hb dX4_carryOut_65 rfl (lv_at hl 1 rfl) ?_
    refine m_callVv C cd_X4_45 ⟨rfl, by decide⟩ hl.1 hI hF (fun _ h => ok_X4_carryOutItem h) rfl rfl ⟨rfl, rfl, Nat.le_of_ble_eq_true rfl, Nat.le_of_ble_eq_true rfl⟩ ⟨Nat.le_of_ble_eq_true rfl, Nat.le_of_ble_eq_true rfl⟩ (Nat.le_of_ble_eq_true rfl) dX4_carryOut_66 (fun S10 H locs hF hI => ?_)
    refine lv_aload_n hx hb dX4_carryOut_69 rfl (lv_at hl 0 rfl) ?_
    refine m_callVv C cd_X4_28 ⟨rfl, by decide⟩ hl.1 hI hF (fun _ h => ok_X4_next h) rfl rfl ⟨rfl, rfl, Nat.le_of_ble_eq_true rfl, Nat.le_of_ble_eq_true rfl⟩ ⟨Nat.le_of_ble_eq_true rfl, Nat.le_of_ble_eq_true rfl⟩ (Nat.le_of_ble_eq_true rfl) dX4_carryOut_70 (fun S12 H locs hF hI => ?_)
    refine lv_iinc (v := v2 + 1) (lv' := [(2, .int (v2 + 1)), (0, .ref (mA E.b v0)), (1, .ref (mA E.b v1))]) hx hb dX4_carryOut_73 hl (k := 2) rfl rfl (by decide) rfl (fun ls hl => ?_)
    refine lv_goto (tgt := 16) hx hb dX4_carryOut_76 (by decide) ?_
    exact hk16 v0 v1 (v2 + 1) S12 _ _ _ hF hI (lv_sub hl [1, 2, 0] rfl)
  · refine lv_bipush (v := (-10)) hx hb dX4_carryOut_56 (by decide) ?_
    refine lv_aload_n hx hb dX4_carryOut_58 rfl (lv_at hl 0 rfl) ?_
    refine m_get C fd_X4_42 hI hF dX4_carryOut_59 (fun r13 hF => ?_)
    refine lv_isub hx hb dX4_carryOut_62 ?_
    exact m_ireti C hI hF dX4_carryOut_63
set_option maxRecDepth 100000 in
set_option maxHeartbeats 4000000 in
theorem bl_X4_carryOut_36 {p : Program} {l : Launch} {e : Env} {s : State} {m : MethodId} {args : Array Value} {below : List Frame} {meth : Method} {c : Code} {E : mE} {n0 : Nat} {F : Int32 × mS} (C : mCx p s m args meth c cX4_carryOut 3 RX4 (some .int) E n0) {k16 : Int32 → Int32 → Int32 → mS → Option (Int32 × mS)} (hk16 : ∀ (v0 : Int32) (v1 : Int32) (v2 : Int32) (S : mS) (H : Heap) (locs : List Loc) (ls : Array Slot), k16 v0 v1 v2 S = some F → mIv s E S H locs 0 → lv_has ls 3 [(0, .ref (mA E.b v0)), (1, .ref (mA E.b v1)), (2, .int v2)] → W p l e rm_X4_carryOut s m args below meth c H locs 0 0 (mQi below args s 0 0 n0 E F) (F0 m 16 ls [])) : ∀  (v0 : Int32) (v1 : Int32) (v2 : Int32) (S : mS) (H : Heap) (locs : List Loc) (ls : Array Slot), f_X4_carryOut_36 k16 v0 v1 v2 S = some F → mIv s E S H locs 0 → lv_has ls 3 [(0, .ref (mA E.b v0)), (1, .ref (mA E.b v1)), (2, .int v2)] → W p l e rm_X4_carryOut s m args below meth c H locs 0 0 (mQi below args s 0 0 n0 E F) (F0 m 36 ls []) := by
  have hx := C.1
  have hb := C.2.1
  intro v0 v1 v2 S H locs ls hF hI hl
  refine lv_aload_n hx hb dX4_carryOut_36 rfl (lv_at hl 0 rfl) ?_
  refine lv_aload_n hx hb dX4_carryOut_37 rfl (lv_at hl 1 rfl) ?_
  refine m_getR C fd_X4_34 hI hF dX4_carryOut_38 (fun r6 hF => ?_)
  refine lv_iload_n hx hb dX4_carryOut_41 rfl (lv_at hl 2 rfl) ?_
  refine m_if_ne C (tgt := 49) hF dX4_carryOut_42 (by decide) (fun hF => ?_) (fun hF => ?_)
  · refine lv_iconst (v := 0) hx hb dX4_carryOut_49 (by decide) ?_
    exact (bl_X4_carryOut_50 C (k16 := k16) hk16) v0 v1 v2 v0 r6 0 S _ _ _ hF hI (lv_sub hl [0, 1, 2] rfl)
  · refine lv_iconst (v := 1) hx hb dX4_carryOut_45 (by decide) ?_
    refine lv_goto (tgt := 50) hx hb dX4_carryOut_46 (by decide) ?_
    exact (bl_X4_carryOut_50 C (k16 := k16) hk16) v0 v1 v2 v0 r6 1 S _ _ _ hF hI (lv_sub hl [0, 1, 2] rfl)
set_option maxRecDepth 100000 in
set_option maxHeartbeats 4000000 in
theorem bl_X4_carryOut_16 {p : Program} {l : Launch} {e : Env} {s : State} {m : MethodId} {args : Array Value} {below : List Frame} {meth : Method} {c : Code} {E : mE} {n0 : Nat} {F : Int32 × mS} (C : mCx p s m args meth c cX4_carryOut 3 RX4 (some .int) E n0) {k79 : Int32 → mS → Option (Int32 × mS)} (hk79 : ∀ (v0 : Int32) (S : mS) (H : Heap) (locs : List Loc) (ls : Array Slot), k79 v0 S = some F → mIv s E S H locs 0 → lv_has ls 3 [(0, .ref (mA E.b v0))] → W p l e rm_X4_carryOut s m args below meth c H locs 0 0 (mQi below args s 0 0 n0 E F) (F0 m 79 ls [])) : ∀ (n : Nat)  (v0 : Int32) (v1 : Int32) (v2 : Int32) (S : mS) (H : Heap) (locs : List Loc) (ls : Array Slot), f_X4_carryOut_16 k79 n v0 v1 v2 S = some F → mIv s E S H locs 0 → lv_has ls 3 [(0, .ref (mA E.b v0)), (1, .ref (mA E.b v1)), (2, .int v2)] → W p l e rm_X4_carryOut s m args below meth c H locs 0 0 (mQi below args s 0 0 n0 E F) (F0 m 16 ls []) := by
  have hx := C.1
  have hb := C.2.1
  intro n
  induction n with
  | zero =>
    intro v0 v1 v2 S H locs ls hF
    exact nomatch (show (none : Option (Int32 × mS)) = some F from hF)
  | succ n ih =>
    intro v0 v1 v2 S H locs ls hF hI hl
    have hF := (f_X4_carryOut_16_s k79 n v0 v1 v2 S).symm.trans hF
    refine lv_iload_n hx hb dX4_carryOut_16 rfl (lv_at hl 2 rfl) ?_
    refine lv_sipush (v := 150) hx hb dX4_carryOut_17 (by decide) ?_
    refine m_icmp_gt C (tgt := 79) hF dX4_carryOut_20 (by decide) (fun hF => ?_) (fun hF => ?_)
    · exact hk79 v0 S _ _ _ hF hI (lv_sub hl [0] rfl)
    · refine lv_iload_n hx hb dX4_carryOut_23 rfl (lv_at hl 2 rfl) ?_
      refine m_if_le C (tgt := 36) hF dX4_carryOut_24 (by decide) (fun hF => ?_) (fun hF => ?_)
      · exact (bl_X4_carryOut_36 C (k16 := (f_X4_carryOut_16 k79 n)) ih) v0 v1 v2 S _ _ _ hF hI (lv_sub hl [0, 1, 2] rfl)
      · refine lv_aload_n hx hb dX4_carryOut_27 rfl (lv_at hl 0 rfl) ?_
        refine m_get C fd_X4_31 hI hF dX4_carryOut_28 (fun r14 hF => ?_)
        refine m_if_ne C (tgt := 36) hF dX4_carryOut_31 (by decide) (fun hF => ?_) (fun hF => ?_)
        · exact (bl_X4_carryOut_36 C (k16 := (f_X4_carryOut_16 k79 n)) ih) v0 v1 v2 S _ _ _ hF hI (lv_sub hl [0, 1, 2] rfl)
        · refine lv_iload_n hx hb dX4_carryOut_34 rfl (lv_at hl 2 rfl) ?_
          exact m_ireti C hI hF dX4_carryOut_35
set_option maxRecDepth 100000 in
set_option maxHeartbeats 4000000 in
theorem bl_X4_carryOut_79 {p : Program} {l : Launch} {e : Env} {s : State} {m : MethodId} {args : Array Value} {below : List Frame} {meth : Method} {c : Code} {E : mE} {n0 : Nat} {F : Int32 × mS} (C : mCx p s m args meth c cX4_carryOut 3 RX4 (some .int) E n0) : ∀  (v0 : Int32) (S : mS) (H : Heap) (locs : List Loc) (ls : Array Slot), f_X4_carryOut_79 v0 S = some F → mIv s E S H locs 0 → lv_has ls 3 [(0, .ref (mA E.b v0))] → W p l e rm_X4_carryOut s m args below meth c H locs 0 0 (mQi below args s 0 0 n0 E F) (F0 m 79 ls []) := by
  have hx := C.1
  have hb := C.2.1
  intro v0 S H locs ls hF hI hl
  refine lv_bipush (v := (-10)) hx hb dX4_carryOut_79 (by decide) ?_
  refine lv_aload_n hx hb dX4_carryOut_81 rfl (lv_at hl 0 rfl) ?_
  refine m_get C fd_X4_42 hI hF dX4_carryOut_82 (fun r15 hF => ?_)
  refine lv_isub hx hb dX4_carryOut_85 ?_
  exact m_ireti C hI hF dX4_carryOut_86
set_option maxRecDepth 100000 in
set_option maxHeartbeats 4000000 in
theorem ok_X4_carryOut {l : Launch} {E : mE} {v0 : Int32} {v1 : Int32} {S : mS} {F : Int32 × mS} (hF : f_X4_carryOut v0 v1 S = some F) : mMi l yX4_carryOut cX4_carryOut 3 (some .int) rm_X4_carryOut 0 0 [.ref (mA E.b v0), .ref (mA E.b v1)] E S F := by
  refine m_met_i (by decide) (Nat.le_of_ble_eq_true rfl) (fun p e s m args below meth c ls hin C hI hl => ?_)
  have hx := C.1
  have hb := C.2.1
  have hl : lv_has ls 3 [(0, .ref (mA E.b v0)), (1, .ref (mA E.b v1))] := hl
  generalize s.heap = H at hI ⊢
  generalize ([] : List Loc) = locs at hI ⊢
  refine lv_aload_n hx hb dX4_carryOut_0 rfl (lv_at hl 1 rfl) ?_
  refine lv_iconst (v := 0) hx hb dX4_carryOut_1 (by decide) ?_
  refine m_callVv C cd_X4_19 ⟨rfl, by decide⟩ hl.1 hI hF (fun _ h => ok_X5_begin h) rfl rfl ⟨rfl, rfl, Nat.le_of_ble_eq_true rfl, Nat.le_of_ble_eq_true rfl⟩ ⟨Nat.le_of_ble_eq_true rfl, Nat.le_of_ble_eq_true rfl⟩ (Nat.le_of_ble_eq_true rfl) dX4_carryOut_2 (fun S2 H locs hF hI => ?_)
  refine lv_aload_n hx hb dX4_carryOut_5 rfl (lv_at hl 0 rfl) ?_
  refine lv_iconst (v := 0) hx hb dX4_carryOut_6 (by decide) ?_
  refine m_put C fd_X4_25 hI hF dX4_carryOut_7 (fun S3 H locs hF hI => ?_)
  refine lv_aload_n hx hb dX4_carryOut_10 rfl (lv_at hl 0 rfl) ?_
  refine m_callVv C cd_X4_28 ⟨rfl, by decide⟩ hl.1 hI hF (fun _ h => ok_X4_next h) rfl rfl ⟨rfl, rfl, Nat.le_of_ble_eq_true rfl, Nat.le_of_ble_eq_true rfl⟩ ⟨Nat.le_of_ble_eq_true rfl, Nat.le_of_ble_eq_true rfl⟩ (Nat.le_of_ble_eq_true rfl) dX4_carryOut_11 (fun S5 H locs hF hI => ?_)
  refine lv_iconst (v := 0) hx hb dX4_carryOut_14 (by decide) ?_
  refine lv_istore_n (lv' := [(2, .int 0), (0, .ref (mA E.b v0)), (1, .ref (mA E.b v1))]) hx hb dX4_carryOut_15 rfl hl (by decide) rfl (fun ls hl => ?_)
  exact (bl_X4_carryOut_16 C (k79 := (f_X4_carryOut_79)) (bl_X4_carryOut_79 C) 1000) v0 v1 0 S5 _ _ _ hF hI (lv_sub hl [1, 2, 0] rfl)
noncomputable def f_X5_init (v0 : Int32) (S : mS) : Option mS := mNw 1 S (fun r1 S2 => mCv (f_X1_init r1 S2) (fun S4 => mPr 5 0 v0 r1 S4 (fun S5 => mNw 3 S5 (fun r6 S7 => mCv (f_X3_init r6 5 2 S7) (fun S9 => mPr 5 1 v0 r6 S9 (fun S10 => mNw 3 S10 (fun r11 S12 => mCv (f_X3_init r11 6 3 S12) (fun S14 => mPr 5 2 v0 r11 S14 (fun S15 => mNw 3 S15 (fun r16 S17 => mCv (f_X3_init r16 6 3 S17) (fun S19 => mPr 5 3 v0 r16 S19 (fun S20 => mNw 2 S20 (fun r21 S22 => mCv (f_X2_init r21 S22) (fun S24 => mPr 5 4 v0 r21 S24 (fun S25 => some S25)))))))))))))))
def rm_X5_init : Room := { frames := 2, cells := 13, slots := 183, locals := 36 }
set_option maxRecDepth 100000 in
set_option maxHeartbeats 4000000 in
theorem ok_X5_init {l : Launch} {E : mE} {v0 : Int32} {S : mS} {F : mS} (hF : f_X5_init v0 S = some F) : mMv l yX5_init cX5_init 1 none rm_X5_init 13 183 [.ref (mA E.b v0)] E S F := by
  refine m_met_v (by decide) (Nat.le_of_ble_eq_true rfl) (fun p e s m args below meth c ls hin C hI hl => ?_)
  have hx := C.1
  have hin2 := hin rfl
  have hb := C.2.1
  have hl : lv_has ls 1 [(0, .ref (mA E.b v0))] := hl
  generalize s.heap = H at hI ⊢
  generalize ([] : List Loc) = locs at hI ⊢
  refine lv_aload_n hx hb dX5_init_0 rfl (lv_at hl 0 rfl) ?_
  refine m_objInit C ow_X5_3 hl.1 (Nat.le_of_ble_eq_true rfl) (Nat.le_of_ble_eq_true rfl) dX5_init_1 ?_
  refine lv_aload_n hx hb dX5_init_4 rfl (lv_at hl 0 rfl) ?_
  refine m_new C nw_X5_9 mcl_X1 (by decide +kernel) hI hF (Nat.le_of_ble_eq_true rfl) (Nat.le_of_ble_eq_true rfl) dX5_init_5 (fun r1 S2 H hF hI => ?_)
  refine lv_dup hx hb dX5_init_8 rfl ?_
  refine m_callJv C cd_X5_11 hl.1 hI hF (fun _ h => ok_X1_init h) rfl rfl ⟨rfl, rfl, Nat.le_of_ble_eq_true rfl, Nat.le_of_ble_eq_true rfl⟩ ⟨Nat.le_of_ble_eq_true rfl, Nat.le_of_ble_eq_true rfl⟩ (Nat.le_of_ble_eq_true rfl) dX5_init_9 (fun S4 H locs hF hI => ?_)
  refine m_putR C hin2 fd_X5_12 (fun _ => ⟨rfl, rfl⟩) hI hF dX5_init_12 (fun S5 H locs hF hI => ?_)
  refine lv_aload_n hx hb dX5_init_15 rfl (lv_at hl 0 rfl) ?_
  refine m_new C nw_X5_18 mcl_X3 (by decide +kernel) hI hF (Nat.le_of_ble_eq_true rfl) (Nat.le_of_ble_eq_true rfl) dX5_init_16 (fun r6 S7 H hF hI => ?_)
  refine lv_dup hx hb dX5_init_19 rfl ?_
  refine lv_iconst (v := 5) hx hb dX5_init_20 (by decide) ?_
  refine lv_iconst (v := 2) hx hb dX5_init_21 (by decide) ?_
  refine m_callIv C cd_X5_20 hl.1 hI hF (fun _ h => ok_X3_init h) rfl rfl ⟨rfl, rfl, Nat.le_of_ble_eq_true rfl, Nat.le_of_ble_eq_true rfl⟩ ⟨Nat.le_of_ble_eq_true rfl, Nat.le_of_ble_eq_true rfl⟩ (Nat.le_of_ble_eq_true rfl) dX5_init_22 (fun S9 H locs hF hI => ?_)
  refine m_putR C hin2 fd_X5_23 (fun _ => ⟨rfl, rfl⟩) hI hF dX5_init_25 (fun S10 H locs hF hI => ?_)
  refine lv_aload_n hx hb dX5_init_28 rfl (lv_at hl 0 rfl) ?_
  refine m_new C nw_X5_18 mcl_X3 (by decide +kernel) hI hF (Nat.le_of_ble_eq_true rfl) (Nat.le_of_ble_eq_true rfl) dX5_init_29 (fun r11 S12 H hF hI => ?_)
  refine lv_dup hx hb dX5_init_32 rfl ?_
  refine lv_bipush (v := 6) hx hb dX5_init_33 (by decide) ?_
  refine lv_iconst (v := 3) hx hb dX5_init_35 (by decide) ?_
  refine m_callIv C cd_X5_20 hl.1 hI hF (fun _ h => ok_X3_init h) rfl rfl ⟨rfl, rfl, Nat.le_of_ble_eq_true rfl, Nat.le_of_ble_eq_true rfl⟩ ⟨Nat.le_of_ble_eq_true rfl, Nat.le_of_ble_eq_true rfl⟩ (Nat.le_of_ble_eq_true rfl) dX5_init_36 (fun S14 H locs hF hI => ?_)
  refine m_putR C hin2 fd_X5_27 (fun _ => ⟨rfl, rfl⟩) hI hF dX5_init_39 (fun S15 H locs hF hI => ?_)
  refine lv_aload_n hx hb dX5_init_42 rfl (lv_at hl 0 rfl) ?_
  refine m_new C nw_X5_18 mcl_X3 (by decide +kernel) hI hF (Nat.le_of_ble_eq_true rfl) (Nat.le_of_ble_eq_true rfl) dX5_init_43 (fun r16 S17 H hF hI => ?_)
  refine lv_dup hx hb dX5_init_46 rfl ?_
  refine lv_bipush (v := 6) hx hb dX5_init_47 (by decide) ?_
  refine lv_iconst (v := 3) hx hb dX5_init_49 (by decide) ?_
  refine m_callIv C cd_X5_20 hl.1 hI hF (fun _ h => ok_X3_init h) rfl rfl ⟨rfl, rfl, Nat.le_of_ble_eq_true rfl, Nat.le_of_ble_eq_true rfl⟩ ⟨Nat.le_of_ble_eq_true rfl, Nat.le_of_ble_eq_true rfl⟩ (Nat.le_of_ble_eq_true rfl) dX5_init_50 (fun S19 H locs hF hI => ?_)
  refine m_putR C hin2 fd_X5_30 (fun _ => ⟨rfl, rfl⟩) hI hF dX5_init_53 (fun S20 H locs hF hI => ?_)
  refine lv_aload_n hx hb dX5_init_56 rfl (lv_at hl 0 rfl) ?_
  refine m_new C nw_X5_33 mcl_X2 (by decide +kernel) hI hF (Nat.le_of_ble_eq_true rfl) (Nat.le_of_ble_eq_true rfl) dX5_init_57 (fun r21 S22 H hF hI => ?_)
  refine lv_dup hx hb dX5_init_60 rfl ?_
  refine m_callJv C cd_X5_35 hl.1 hI hF (fun _ h => ok_X2_init h) rfl rfl ⟨rfl, rfl, Nat.le_of_ble_eq_true rfl, Nat.le_of_ble_eq_true rfl⟩ ⟨Nat.le_of_ble_eq_true rfl, Nat.le_of_ble_eq_true rfl⟩ (Nat.le_of_ble_eq_true rfl) dX5_init_61 (fun S24 H locs hF hI => ?_)
  refine m_putR C hin2 fd_X5_36 (fun _ => ⟨rfl, rfl⟩) hI hF dX5_init_64 (fun S25 H locs hF hI => ?_)
  exact m_vret C hI hF dX5_init_67
noncomputable def f_X5_copy (v0 : Int32) (v1 : Int32) (S : mS) : Option mS := mGr 5 0 v0 S (fun r1 => mGr 5 0 v1 S (fun r2 => mRc 1 r1 S (mCv (f_X1_copy r1 r2 S) (fun S4 => mGr 5 1 v0 S4 (fun r5 => mGr 5 1 v1 S4 (fun r6 => mRc 3 r5 S4 (mCv (f_X3_copy r5 r6 S4) (fun S8 => mGr 5 2 v0 S8 (fun r9 => mGr 5 2 v1 S8 (fun r10 => mRc 3 r9 S8 (mCv (f_X3_copy r9 r10 S8) (fun S12 => mGr 5 3 v0 S12 (fun r13 => mGr 5 3 v1 S12 (fun r14 => mRc 3 r13 S12 (mCv (f_X3_copy r13 r14 S12) (fun S16 => mGr 5 4 v0 S16 (fun r17 => mGr 5 4 v1 S16 (fun r18 => mRc 2 r17 S16 (mCv (f_X2_copy r17 r18 S16) (fun S20 => mG 5 5 v1 S20 (fun r21 => mP 5 5 v0 r21 S20 (fun S22 => some S22))))))))))))))))))))))
def rm_X5_copy : Room := { frames := 2, cells := 0, slots := 0, locals := 39 }
set_option maxRecDepth 100000 in
set_option maxHeartbeats 4000000 in
theorem ok_X5_copy {l : Launch} {E : mE} {v0 : Int32} {v1 : Int32} {S : mS} {F : mS} (hF : f_X5_copy v0 v1 S = some F) : mMv l yX5_copy cX5_copy 2 none rm_X5_copy 0 0 [.ref (mA E.b v0), .ref (mA E.b v1)] E S F := by
  refine m_met_v (by decide) (Nat.le_of_ble_eq_true rfl) (fun p e s m args below meth c ls hin C hI hl => ?_)
  have hx := C.1
  have hb := C.2.1
  have hl : lv_has ls 2 [(0, .ref (mA E.b v0)), (1, .ref (mA E.b v1))] := hl
  generalize s.heap = H at hI ⊢
  generalize ([] : List Loc) = locs at hI ⊢
  refine lv_aload_n hx hb dX5_copy_0 rfl (lv_at hl 0 rfl) ?_
  refine m_getR C fd_X5_12 hI hF dX5_copy_1 (fun r1 hF => ?_)
  refine lv_aload_n hx hb dX5_copy_4 rfl (lv_at hl 1 rfl) ?_
  refine m_getR C fd_X5_12 hI hF dX5_copy_5 (fun r2 hF => ?_)
  refine m_callVv C cd_X5_51 ⟨rfl, by decide⟩ hl.1 hI hF (fun _ h => ok_X1_copy h) rfl rfl ⟨rfl, rfl, Nat.le_of_ble_eq_true rfl, Nat.le_of_ble_eq_true rfl⟩ ⟨Nat.le_of_ble_eq_true rfl, Nat.le_of_ble_eq_true rfl⟩ (Nat.le_of_ble_eq_true rfl) dX5_copy_8 (fun S4 H locs hF hI => ?_)
  refine lv_aload_n hx hb dX5_copy_11 rfl (lv_at hl 0 rfl) ?_
  refine m_getR C fd_X5_23 hI hF dX5_copy_12 (fun r5 hF => ?_)
  refine lv_aload_n hx hb dX5_copy_15 rfl (lv_at hl 1 rfl) ?_
  refine m_getR C fd_X5_23 hI hF dX5_copy_16 (fun r6 hF => ?_)
  refine m_callVv C cd_X5_55 ⟨rfl, by decide⟩ hl.1 hI hF (fun _ h => ok_X3_copy h) rfl rfl ⟨rfl, rfl, Nat.le_of_ble_eq_true rfl, Nat.le_of_ble_eq_true rfl⟩ ⟨Nat.le_of_ble_eq_true rfl, Nat.le_of_ble_eq_true rfl⟩ (Nat.le_of_ble_eq_true rfl) dX5_copy_19 (fun S8 H locs hF hI => ?_)
  refine lv_aload_n hx hb dX5_copy_22 rfl (lv_at hl 0 rfl) ?_
  refine m_getR C fd_X5_27 hI hF dX5_copy_23 (fun r9 hF => ?_)
  refine lv_aload_n hx hb dX5_copy_26 rfl (lv_at hl 1 rfl) ?_
  refine m_getR C fd_X5_27 hI hF dX5_copy_27 (fun r10 hF => ?_)
  refine m_callVv C cd_X5_55 ⟨rfl, by decide⟩ hl.1 hI hF (fun _ h => ok_X3_copy h) rfl rfl ⟨rfl, rfl, Nat.le_of_ble_eq_true rfl, Nat.le_of_ble_eq_true rfl⟩ ⟨Nat.le_of_ble_eq_true rfl, Nat.le_of_ble_eq_true rfl⟩ (Nat.le_of_ble_eq_true rfl) dX5_copy_30 (fun S12 H locs hF hI => ?_)
  refine lv_aload_n hx hb dX5_copy_33 rfl (lv_at hl 0 rfl) ?_
  refine m_getR C fd_X5_30 hI hF dX5_copy_34 (fun r13 hF => ?_)
  refine lv_aload_n hx hb dX5_copy_37 rfl (lv_at hl 1 rfl) ?_
  refine m_getR C fd_X5_30 hI hF dX5_copy_38 (fun r14 hF => ?_)
  refine m_callVv C cd_X5_55 ⟨rfl, by decide⟩ hl.1 hI hF (fun _ h => ok_X3_copy h) rfl rfl ⟨rfl, rfl, Nat.le_of_ble_eq_true rfl, Nat.le_of_ble_eq_true rfl⟩ ⟨Nat.le_of_ble_eq_true rfl, Nat.le_of_ble_eq_true rfl⟩ (Nat.le_of_ble_eq_true rfl) dX5_copy_41 (fun S16 H locs hF hI => ?_)
  refine lv_aload_n hx hb dX5_copy_44 rfl (lv_at hl 0 rfl) ?_
  refine m_getR C fd_X5_36 hI hF dX5_copy_45 (fun r17 hF => ?_)
  refine lv_aload_n hx hb dX5_copy_48 rfl (lv_at hl 1 rfl) ?_
  refine m_getR C fd_X5_36 hI hF dX5_copy_49 (fun r18 hF => ?_)
  refine m_callVv C cd_X5_58 ⟨rfl, by decide⟩ hl.1 hI hF (fun _ h => ok_X2_copy h) rfl rfl ⟨rfl, rfl, Nat.le_of_ble_eq_true rfl, Nat.le_of_ble_eq_true rfl⟩ ⟨Nat.le_of_ble_eq_true rfl, Nat.le_of_ble_eq_true rfl⟩ (Nat.le_of_ble_eq_true rfl) dX5_copy_52 (fun S20 H locs hF hI => ?_)
  refine lv_aload_n hx hb dX5_copy_55 rfl (lv_at hl 0 rfl) ?_
  refine lv_aload_n hx hb dX5_copy_56 rfl (lv_at hl 1 rfl) ?_
  refine m_get C fd_X5_48 hI hF dX5_copy_57 (fun r21 hF => ?_)
  refine m_put C fd_X5_48 hI hF dX5_copy_60 (fun S22 H locs hF hI => ?_)
  exact m_vret C hI hF dX5_copy_63
noncomputable def f_X6_init (v0 : Int32) (S : mS) : Option mS := mNw 5 S (fun r1 S2 => mCv (f_X5_init r1 S2) (fun S4 => mPr 6 0 v0 r1 S4 (fun S5 => mNw 5 S5 (fun r6 S7 => mCv (f_X5_init r6 S7) (fun S9 => mPr 6 1 v0 r6 S9 (fun S10 => mNa 11 2 S10 (fun r11 S12 => mNw 5 S12 (fun r13 S14 => mCv (f_X5_init r13 S14) (fun S16 => mXq r11 0 r13 S16 (fun S17 => mNw 5 S17 (fun r18 S19 => mCv (f_X5_init r18 S19) (fun S21 => mXq r11 1 r18 S21 (fun S22 => mPr 6 2 v0 r11 S22 (fun S23 => mNa 10 2 S23 (fun r24 S25 => mPr 6 3 v0 r24 S25 (fun S26 => mNw 4 S26 (fun r27 S28 => mCv (f_X4_init r27 S28) (fun S30 => mPr 6 4 v0 r27 S30 (fun S31 => mNw 0 S31 (fun r32 S33 => mCv (f_X0_init r32 S33) (fun S35 => mPr 6 5 v0 r32 S35 (fun S36 => mNw 1 S36 (fun r37 S38 => mCv (f_X1_init r37 S38) (fun S40 => mPr 6 6 v0 r37 S40 (fun S41 => mNw 1 S41 (fun r42 S43 => mCv (f_X1_init r42 S43) (fun S45 => mPr 6 7 v0 r42 S45 (fun S46 => mNw 1 S46 (fun r47 S48 => mCv (f_X1_init r47 S48) (fun S50 => mPr 6 8 v0 r47 S50 (fun S51 => mNa 8 6 S51 (fun r52 S53 => mPr 6 9 v0 r52 S53 (fun S54 => mNa 8 30 S54 (fun r55 S56 => mPr 6 10 v0 r55 S56 (fun S57 => mNa 8 25 S57 (fun r58 S59 => mPr 6 11 v0 r58 S59 (fun S60 => mP 6 13 v0 1 S60 (fun S61 => some S61))))))))))))))))))))))))))))))))))))))
def rm_X6_init : Room := { frames := 3, cells := 82, slots := 1994, locals := 56 }
set_option maxRecDepth 100000 in
set_option maxHeartbeats 4000000 in
theorem ok_X6_init {l : Launch} {E : mE} {v0 : Int32} {S : mS} {F : mS} (hF : f_X6_init v0 S = some F) : mMv l yX6_init cX6_init 1 none rm_X6_init 82 1994 [.ref (mA E.b v0)] E S F := by
  refine m_met_v (by decide) (Nat.le_of_ble_eq_true rfl) (fun p e s m args below meth c ls hin C hI hl => ?_)
  have hx := C.1
  have hin2 := hin rfl
  have hb := C.2.1
  have hl : lv_has ls 1 [(0, .ref (mA E.b v0))] := hl
  generalize s.heap = H at hI ⊢
  generalize ([] : List Loc) = locs at hI ⊢
  refine lv_aload_n hx hb dX6_init_0 rfl (lv_at hl 0 rfl) ?_
  refine m_objInit C ow_X6_3 hl.1 (Nat.le_of_ble_eq_true rfl) (Nat.le_of_ble_eq_true rfl) dX6_init_1 ?_
  refine lv_aload_n hx hb dX6_init_4 rfl (lv_at hl 0 rfl) ?_
  refine m_new C nw_X6_9 mcl_X5 (by decide +kernel) hI hF (Nat.le_of_ble_eq_true rfl) (Nat.le_of_ble_eq_true rfl) dX6_init_5 (fun r1 S2 H hF hI => ?_)
  refine lv_dup hx hb dX6_init_8 rfl ?_
  refine m_callJv C cd_X6_11 hl.1 hI hF (fun _ h => ok_X5_init h) rfl rfl ⟨rfl, rfl, Nat.le_of_ble_eq_true rfl, Nat.le_of_ble_eq_true rfl⟩ ⟨Nat.le_of_ble_eq_true rfl, Nat.le_of_ble_eq_true rfl⟩ (Nat.le_of_ble_eq_true rfl) dX6_init_9 (fun S4 H locs hF hI => ?_)
  refine m_putR C hin2 fd_X6_12 (fun _ => ⟨rfl, rfl⟩) hI hF dX6_init_12 (fun S5 H locs hF hI => ?_)
  refine lv_aload_n hx hb dX6_init_15 rfl (lv_at hl 0 rfl) ?_
  refine m_new C nw_X6_9 mcl_X5 (by decide +kernel) hI hF (Nat.le_of_ble_eq_true rfl) (Nat.le_of_ble_eq_true rfl) dX6_init_16 (fun r6 S7 H hF hI => ?_)
  refine lv_dup hx hb dX6_init_19 rfl ?_
  refine m_callJv C cd_X6_11 hl.1 hI hF (fun _ h => ok_X5_init h) rfl rfl ⟨rfl, rfl, Nat.le_of_ble_eq_true rfl, Nat.le_of_ble_eq_true rfl⟩ ⟨Nat.le_of_ble_eq_true rfl, Nat.le_of_ble_eq_true rfl⟩ (Nat.le_of_ble_eq_true rfl) dX6_init_20 (fun S9 H locs hF hI => ?_)
  refine m_putR C hin2 fd_X6_16 (fun _ => ⟨rfl, rfl⟩) hI hF dX6_init_23 (fun S10 H locs hF hI => ?_)
  refine lv_aload_n hx hb dX6_init_26 rfl (lv_at hl 0 rfl) ?_
  refine lv_iconst (v := 2) hx hb dX6_init_27 (by decide) ?_
  refine m_newq C (N := 2) qw_X6_9 rfl (by decide) hI hF (Nat.le_of_ble_eq_true rfl) (Nat.le_of_ble_eq_true rfl) dX6_init_28 (fun r11 S12 H hF hI => ?_)
  refine lv_dup hx hb dX6_init_31 rfl ?_
  refine lv_iconst (v := 0) hx hb dX6_init_32 (by decide) ?_
  refine m_new C nw_X6_9 mcl_X5 (by decide +kernel) hI hF (Nat.le_of_ble_eq_true rfl) (Nat.le_of_ble_eq_true rfl) dX6_init_33 (fun r13 S14 H hF hI => ?_)
  refine lv_dup hx hb dX6_init_36 rfl ?_
  refine m_callJv C cd_X6_11 hl.1 hI hF (fun _ h => ok_X5_init h) rfl rfl ⟨rfl, rfl, Nat.le_of_ble_eq_true rfl, Nat.le_of_ble_eq_true rfl⟩ ⟨Nat.le_of_ble_eq_true rfl, Nat.le_of_ble_eq_true rfl⟩ (Nat.le_of_ble_eq_true rfl) dX6_init_37 (fun S16 H locs hF hI => ?_)
  refine m_aast C hI hF dX6_init_40 (fun S17 H locs hF hI => ?_)
  refine lv_dup hx hb dX6_init_41 rfl ?_
  refine lv_iconst (v := 1) hx hb dX6_init_42 (by decide) ?_
  refine m_new C nw_X6_9 mcl_X5 (by decide +kernel) hI hF (Nat.le_of_ble_eq_true rfl) (Nat.le_of_ble_eq_true rfl) dX6_init_43 (fun r18 S19 H hF hI => ?_)
  refine lv_dup hx hb dX6_init_46 rfl ?_
  refine m_callJv C cd_X6_11 hl.1 hI hF (fun _ h => ok_X5_init h) rfl rfl ⟨rfl, rfl, Nat.le_of_ble_eq_true rfl, Nat.le_of_ble_eq_true rfl⟩ ⟨Nat.le_of_ble_eq_true rfl, Nat.le_of_ble_eq_true rfl⟩ (Nat.le_of_ble_eq_true rfl) dX6_init_47 (fun S21 H locs hF hI => ?_)
  refine m_aast C hI hF dX6_init_50 (fun S22 H locs hF hI => ?_)
  refine m_putR C hin2 fd_X6_19 (fun _ => ⟨rfl, rfl⟩) hI hF dX6_init_51 (fun S23 H locs hF hI => ?_)
  refine lv_aload_n hx hb dX6_init_54 rfl (lv_at hl 0 rfl) ?_
  refine lv_iconst (v := 2) hx hb dX6_init_55 (by decide) ?_
  refine m_newa C (atype := .boolean) (kd := 10) (ty := .boolean) (N := 2) aw_boolean rfl ⟨rfl, by decide, by decide, rfl, by decide⟩ (fun _ _ h => h) rfl (by decide) hI hF (Nat.le_of_ble_eq_true rfl) (Nat.le_of_ble_eq_true rfl) dX6_init_56 (fun r24 S25 H hF hI => ?_)
  refine m_putR C hin2 fd_X6_23 (fun _ => ⟨rfl, rfl⟩) hI hF dX6_init_58 (fun S26 H locs hF hI => ?_)
  refine lv_aload_n hx hb dX6_init_61 rfl (lv_at hl 0 rfl) ?_
  refine m_new C nw_X6_27 mcl_X4 (by decide +kernel) hI hF (Nat.le_of_ble_eq_true rfl) (Nat.le_of_ble_eq_true rfl) dX6_init_62 (fun r27 S28 H hF hI => ?_)
  refine lv_dup hx hb dX6_init_65 rfl ?_
  refine m_callJv C cd_X6_29 hl.1 hI hF (fun _ h => ok_X4_init h) rfl rfl ⟨rfl, rfl, Nat.le_of_ble_eq_true rfl, Nat.le_of_ble_eq_true rfl⟩ ⟨Nat.le_of_ble_eq_true rfl, Nat.le_of_ble_eq_true rfl⟩ (Nat.le_of_ble_eq_true rfl) dX6_init_66 (fun S30 H locs hF hI => ?_)
  refine m_putR C hin2 fd_X6_30 (fun _ => ⟨rfl, rfl⟩) hI hF dX6_init_69 (fun S31 H locs hF hI => ?_)
  refine lv_aload_n hx hb dX6_init_72 rfl (lv_at hl 0 rfl) ?_
  refine m_new C nw_X6_34 mcl_X0 (by decide +kernel) hI hF (Nat.le_of_ble_eq_true rfl) (Nat.le_of_ble_eq_true rfl) dX6_init_73 (fun r32 S33 H hF hI => ?_)
  refine lv_dup hx hb dX6_init_76 rfl ?_
  refine m_callJv C cd_X6_36 hl.1 hI hF (fun _ h => ok_X0_init h) rfl rfl ⟨rfl, rfl, Nat.le_of_ble_eq_true rfl, Nat.le_of_ble_eq_true rfl⟩ ⟨Nat.le_of_ble_eq_true rfl, Nat.le_of_ble_eq_true rfl⟩ (Nat.le_of_ble_eq_true rfl) dX6_init_77 (fun S35 H locs hF hI => ?_)
  refine m_putR C hin2 fd_X6_37 (fun _ => ⟨rfl, rfl⟩) hI hF dX6_init_80 (fun S36 H locs hF hI => ?_)
  refine lv_aload_n hx hb dX6_init_83 rfl (lv_at hl 0 rfl) ?_
  refine m_new C nw_X6_41 mcl_X1 (by decide +kernel) hI hF (Nat.le_of_ble_eq_true rfl) (Nat.le_of_ble_eq_true rfl) dX6_init_84 (fun r37 S38 H hF hI => ?_)
  refine lv_dup hx hb dX6_init_87 rfl ?_
  refine m_callJv C cd_X6_43 hl.1 hI hF (fun _ h => ok_X1_init h) rfl rfl ⟨rfl, rfl, Nat.le_of_ble_eq_true rfl, Nat.le_of_ble_eq_true rfl⟩ ⟨Nat.le_of_ble_eq_true rfl, Nat.le_of_ble_eq_true rfl⟩ (Nat.le_of_ble_eq_true rfl) dX6_init_88 (fun S40 H locs hF hI => ?_)
  refine m_putR C hin2 fd_X6_44 (fun _ => ⟨rfl, rfl⟩) hI hF dX6_init_91 (fun S41 H locs hF hI => ?_)
  refine lv_aload_n hx hb dX6_init_94 rfl (lv_at hl 0 rfl) ?_
  refine m_new C nw_X6_41 mcl_X1 (by decide +kernel) hI hF (Nat.le_of_ble_eq_true rfl) (Nat.le_of_ble_eq_true rfl) dX6_init_95 (fun r42 S43 H hF hI => ?_)
  refine lv_dup hx hb dX6_init_98 rfl ?_
  refine m_callJv C cd_X6_43 hl.1 hI hF (fun _ h => ok_X1_init h) rfl rfl ⟨rfl, rfl, Nat.le_of_ble_eq_true rfl, Nat.le_of_ble_eq_true rfl⟩ ⟨Nat.le_of_ble_eq_true rfl, Nat.le_of_ble_eq_true rfl⟩ (Nat.le_of_ble_eq_true rfl) dX6_init_99 (fun S45 H locs hF hI => ?_)
  refine m_putR C hin2 fd_X6_48 (fun _ => ⟨rfl, rfl⟩) hI hF dX6_init_102 (fun S46 H locs hF hI => ?_)
  refine lv_aload_n hx hb dX6_init_105 rfl (lv_at hl 0 rfl) ?_
  refine m_new C nw_X6_41 mcl_X1 (by decide +kernel) hI hF (Nat.le_of_ble_eq_true rfl) (Nat.le_of_ble_eq_true rfl) dX6_init_106 (fun r47 S48 H hF hI => ?_)
  refine lv_dup hx hb dX6_init_109 rfl ?_
  refine m_callJv C cd_X6_43 hl.1 hI hF (fun _ h => ok_X1_init h) rfl rfl ⟨rfl, rfl, Nat.le_of_ble_eq_true rfl, Nat.le_of_ble_eq_true rfl⟩ ⟨Nat.le_of_ble_eq_true rfl, Nat.le_of_ble_eq_true rfl⟩ (Nat.le_of_ble_eq_true rfl) dX6_init_110 (fun S50 H locs hF hI => ?_)
  refine m_putR C hin2 fd_X6_51 (fun _ => ⟨rfl, rfl⟩) hI hF dX6_init_113 (fun S51 H locs hF hI => ?_)
  refine lv_aload_n hx hb dX6_init_116 rfl (lv_at hl 0 rfl) ?_
  refine lv_bipush (v := 6) hx hb dX6_init_117 (by decide) ?_
  refine m_newa C (atype := .int) (kd := 8) (ty := .int) (N := 6) aw_int rfl ⟨rfl, by decide, by decide, rfl, by decide⟩ (fun _ _ h => h) rfl (by decide) hI hF (Nat.le_of_ble_eq_true rfl) (Nat.le_of_ble_eq_true rfl) dX6_init_119 (fun r52 S53 H hF hI => ?_)
  refine m_putR C hin2 fd_X6_54 (fun _ => ⟨rfl, rfl⟩) hI hF dX6_init_121 (fun S54 H locs hF hI => ?_)
  refine lv_aload_n hx hb dX6_init_124 rfl (lv_at hl 0 rfl) ?_
  refine lv_bipush (v := 30) hx hb dX6_init_125 (by decide) ?_
  refine m_newa C (atype := .int) (kd := 8) (ty := .int) (N := 30) aw_int rfl ⟨rfl, by decide, by decide, rfl, by decide⟩ (fun _ _ h => h) rfl (by decide) hI hF (Nat.le_of_ble_eq_true rfl) (Nat.le_of_ble_eq_true rfl) dX6_init_127 (fun r55 S56 H hF hI => ?_)
  refine m_putR C hin2 fd_X6_58 (fun _ => ⟨rfl, rfl⟩) hI hF dX6_init_129 (fun S57 H locs hF hI => ?_)
  refine lv_aload_n hx hb dX6_init_132 rfl (lv_at hl 0 rfl) ?_
  refine lv_bipush (v := 25) hx hb dX6_init_133 (by decide) ?_
  refine m_newa C (atype := .int) (kd := 8) (ty := .int) (N := 25) aw_int rfl ⟨rfl, by decide, by decide, rfl, by decide⟩ (fun _ _ h => h) rfl (by decide) hI hF (Nat.le_of_ble_eq_true rfl) (Nat.le_of_ble_eq_true rfl) dX6_init_135 (fun r58 S59 H hF hI => ?_)
  refine m_putR C hin2 fd_X6_61 (fun _ => ⟨rfl, rfl⟩) hI hF dX6_init_137 (fun S60 H locs hF hI => ?_)
  refine lv_aload_n hx hb dX6_init_140 rfl (lv_at hl 0 rfl) ?_
  refine lv_iconst (v := 1) hx hb dX6_init_141 (by decide) ?_
  refine m_put C fd_X6_64 hI hF dX6_init_142 (fun S61 H locs hF hI => ?_)
  exact m_vret C hI hF dX6_init_145
noncomputable def f_X6_refuseBad (v0 : Int32) (v1 : Int32) (S : mS) : Option (Int32 × mS) := mG 6 14 v0 S (fun r1 => mP 6 14 v0 (r1 + 1) S (fun S2 => some (v1, S2)))
def rm_X6_refuseBad : Room := { frames := 0, cells := 0, slots := 0, locals := 0 }
set_option maxRecDepth 100000 in
set_option maxHeartbeats 4000000 in
theorem ok_X6_refuseBad {l : Launch} {E : mE} {v0 : Int32} {v1 : Int32} {S : mS} {F : Int32 × mS} (hF : f_X6_refuseBad v0 v1 S = some F) : mMi l yX6_refuseBad cX6_refuseBad 2 (some .int) rm_X6_refuseBad 0 0 [.ref (mA E.b v0), .int v1] E S F := by
  refine m_met_i (by decide) (Nat.le_of_ble_eq_true rfl) (fun p e s m args below meth c ls hin C hI hl => ?_)
  have hx := C.1
  have hb := C.2.1
  have hl : lv_has ls 2 [(0, .ref (mA E.b v0)), (1, .int v1)] := hl
  generalize s.heap = H at hI ⊢
  generalize ([] : List Loc) = locs at hI ⊢
  refine lv_aload_n hx hb dX6_refuseBad_0 rfl (lv_at hl 0 rfl) ?_
  refine lv_dup hx hb dX6_refuseBad_1 rfl ?_
  refine m_get C fd_X6_290 hI hF dX6_refuseBad_2 (fun r1 hF => ?_)
  refine lv_iconst (v := 1) hx hb dX6_refuseBad_5 (by decide) ?_
  refine lv_iadd hx hb dX6_refuseBad_6 ?_
  refine m_put C fd_X6_290 hI hF dX6_refuseBad_7 (fun S2 H locs hF hI => ?_)
  refine lv_iload_n hx hb dX6_refuseBad_10 rfl (lv_at hl 1 rfl) ?_
  exact m_ireti C hI hF dX6_refuseBad_11
noncomputable def f_X6_fell (v0 : Int32) (v1 : Int32) (S : mS) : Option (Int32 × mS) := mCp (f_X6_isCell v1) (fun r1 => if r1 = 0 then (mRc 6 v0 S (mC (f_X6_refuseBad v0 (-2) S) (fun r8 S9 => some (r8, S9)))) else (mGr 6 0 v0 S (fun r2 => mGr 5 0 r2 S (fun r3 => mG 1 5 r3 S (fun r4 => mGr 6 0 v0 S (fun r5 => mRc 5 r5 S (mCv (f_X5_begin r5 v1 S) (fun S7 => some (r4, S7)))))))))
def rm_X6_fell : Room := { frames := 2, cells := 0, slots := 0, locals := 42 }
set_option maxRecDepth 100000 in
set_option maxHeartbeats 4000000 in
theorem ok_X6_fell {l : Launch} {E : mE} {v0 : Int32} {v1 : Int32} {S : mS} {F : Int32 × mS} (hF : f_X6_fell v0 v1 S = some F) : mMi l yX6_fell cX6_fell 3 (some .int) rm_X6_fell 0 0 [.ref (mA E.b v0), .int v1] E S F := by
  refine m_met_i (by decide) (Nat.le_of_ble_eq_true rfl) (fun p e s m args below meth c ls hin C hI hl => ?_)
  have hx := C.1
  have hb := C.2.1
  have hl : lv_has ls 3 [(0, .ref (mA E.b v0)), (1, .int v1)] := hl
  generalize s.heap = H at hI ⊢
  generalize ([] : List Loc) = locs at hI ⊢
  refine lv_iload_n hx hb dX6_fell_0 rfl (lv_at hl 1 rfl) ?_
  refine m_callSiR C cd_X6_68 hl.1 hI hF (fun _ h => ok_X6_isCell h) rfl rfl ⟨rfl, rfl, Nat.le_of_ble_eq_true rfl, Nat.le_of_ble_eq_true rfl⟩ ⟨Nat.le_of_ble_eq_true rfl, Nat.le_of_ble_eq_true rfl⟩ (Nat.le_of_ble_eq_true rfl) dX6_fell_1 (fun r1 H locs hF hI => ?_)
  refine m_if_ne C (tgt := 14) hF dX6_fell_4 (by decide) (fun hF => ?_) (fun hF => ?_)
  · refine lv_aload_n hx hb dX6_fell_14 rfl (lv_at hl 0 rfl) ?_
    refine m_getR C fd_X6_12 hI hF dX6_fell_15 (fun r2 hF => ?_)
    refine m_getR C fd_X6_76 hI hF dX6_fell_18 (fun r3 hF => ?_)
    refine m_get C fd_X6_79 hI hF dX6_fell_21 (fun r4 hF => ?_)
    refine lv_istore_n (lv' := [(2, .int r4), (0, .ref (mA E.b v0)), (1, .int v1)]) hx hb dX6_fell_24 rfl hl (by decide) rfl (fun ls hl => ?_)
    refine lv_aload_n hx hb dX6_fell_25 rfl (lv_at hl 1 rfl) ?_
    refine m_getR C fd_X6_12 hI hF dX6_fell_26 (fun r5 hF => ?_)
    refine lv_iload_n hx hb dX6_fell_29 rfl (lv_at hl 2 rfl) ?_
    refine m_callVv C cd_X6_82 ⟨rfl, by decide⟩ hl.1 hI hF (fun _ h => ok_X5_begin h) rfl rfl ⟨rfl, rfl, Nat.le_of_ble_eq_true rfl, Nat.le_of_ble_eq_true rfl⟩ ⟨Nat.le_of_ble_eq_true rfl, Nat.le_of_ble_eq_true rfl⟩ (Nat.le_of_ble_eq_true rfl) dX6_fell_30 (fun S7 H locs hF hI => ?_)
    refine lv_iload_n hx hb dX6_fell_33 rfl (lv_at hl 0 rfl) ?_
    exact m_ireti C hI hF dX6_fell_34
  · refine lv_aload_n hx hb dX6_fell_7 rfl (lv_at hl 0 rfl) ?_
    refine lv_bipush (v := (-2)) hx hb dX6_fell_8 (by decide) ?_
    refine m_callVi C cd_X6_72 ⟨rfl, by decide⟩ hl.1 hI hF (fun _ h => ok_X6_refuseBad h) rfl rfl ⟨rfl, rfl, Nat.le_of_ble_eq_true rfl, Nat.le_of_ble_eq_true rfl⟩ ⟨Nat.le_of_ble_eq_true rfl, Nat.le_of_ble_eq_true rfl⟩ (Nat.le_of_ble_eq_true rfl) dX6_fell_10 (fun r8 S9 H locs hF hI => ?_)
    exact m_ireti C hI hF dX6_fell_13
noncomputable def f_X6_refuseFull (v0 : Int32) (S : mS) : Option (Int32 × mS) := mG 6 16 v0 S (fun r1 => mP 6 16 v0 (r1 + 1) S (fun S2 => some ((-4), S2)))
def rm_X6_refuseFull : Room := { frames := 0, cells := 0, slots := 0, locals := 0 }
set_option maxRecDepth 100000 in
set_option maxHeartbeats 4000000 in
theorem ok_X6_refuseFull {l : Launch} {E : mE} {v0 : Int32} {S : mS} {F : Int32 × mS} (hF : f_X6_refuseFull v0 S = some F) : mMi l yX6_refuseFull cX6_refuseFull 1 (some .int) rm_X6_refuseFull 0 0 [.ref (mA E.b v0)] E S F := by
  refine m_met_i (by decide) (Nat.le_of_ble_eq_true rfl) (fun p e s m args below meth c ls hin C hI hl => ?_)
  have hx := C.1
  have hb := C.2.1
  have hl : lv_has ls 1 [(0, .ref (mA E.b v0))] := hl
  generalize s.heap = H at hI ⊢
  generalize ([] : List Loc) = locs at hI ⊢
  refine lv_aload_n hx hb dX6_refuseFull_0 rfl (lv_at hl 0 rfl) ?_
  refine lv_dup hx hb dX6_refuseFull_1 rfl ?_
  refine m_get C fd_X6_296 hI hF dX6_refuseFull_2 (fun r1 hF => ?_)
  refine lv_iconst (v := 1) hx hb dX6_refuseFull_5 (by decide) ?_
  refine lv_iadd hx hb dX6_refuseFull_6 ?_
  refine m_put C fd_X6_296 hI hF dX6_refuseFull_7 (fun S2 H locs hF hI => ?_)
  refine lv_bipush (v := (-4)) hx hb dX6_refuseFull_10 (by decide) ?_
  exact m_ireti C hI hF dX6_refuseFull_12
noncomputable def f_X6_whistle_14 (v0 : Int32) (S : mS) : Option (Int32 × mS) := mRc 6 v0 S (mC (f_X6_refuseBad v0 (-2) S) (fun r2 S3 => some (r2, S3)))
noncomputable def f_X6_whistle (v0 : Int32) (v1 : Int32) (v2 : Int32) (S : mS) : Option (Int32 × mS) := mCp (f_X6_isKind v1) (fun r1 => if r1 = 0 then ((f_X6_whistle_14) v0 S) else (mCp (f_X6_isCell v2) (fun r4 => if r4 = 0 then ((f_X6_whistle_14) v0 S) else (mGr 6 0 v0 S (fun r5 => mGr 5 0 r5 S (fun r6 => mG 1 4 r6 S (fun r7 => if r7 < 3 then (mGr 6 0 v0 S (fun r8 => mGr 5 4 r8 S (fun r9 => mP 2 1 r9 0 S (fun S10 => mGr 6 0 v0 S10 (fun r11 => mGr 5 0 r11 S10 (fun r12 => mRc 1 r12 S10 (mC (f_X1_addWhistle r12 v1 v2 S10) (fun r13 S14 => some (r13, S14))))))))) else (mRc 6 v0 S (mC (f_X6_refuseFull v0 S) (fun r15 S16 => some (r15, S16)))))))))))
def rm_X6_whistle : Room := { frames := 2, cells := 0, slots := 0, locals := 42 }
set_option maxRecDepth 100000 in
set_option maxHeartbeats 4000000 in
theorem bl_X6_whistle_14 {p : Program} {l : Launch} {e : Env} {s : State} {m : MethodId} {args : Array Value} {below : List Frame} {meth : Method} {c : Code} {E : mE} {n0 : Nat} {F : Int32 × mS} (C : mCx p s m args meth c cX6_whistle 3 RX6 (some .int) E n0) : ∀  (v0 : Int32) (S : mS) (H : Heap) (locs : List Loc) (ls : Array Slot), f_X6_whistle_14 v0 S = some F → mIv s E S H locs 0 → lv_has ls 3 [(0, .ref (mA E.b v0))] → W p l e rm_X6_whistle s m args below meth c H locs 0 0 (mQi below args s 0 0 n0 E F) (F0 m 14 ls []) := by
  have hx := C.1
  have hb := C.2.1
  intro v0 S H locs ls hF hI hl
  refine lv_aload_n hx hb dX6_whistle_14 rfl (lv_at hl 0 rfl) ?_
  refine lv_bipush (v := (-2)) hx hb dX6_whistle_15 (by decide) ?_
  refine m_callVi C cd_X6_72 ⟨rfl, by decide⟩ hl.1 hI hF (fun _ h => ok_X6_refuseBad h) rfl rfl ⟨rfl, rfl, Nat.le_of_ble_eq_true rfl, Nat.le_of_ble_eq_true rfl⟩ ⟨Nat.le_of_ble_eq_true rfl, Nat.le_of_ble_eq_true rfl⟩ (Nat.le_of_ble_eq_true rfl) dX6_whistle_17 (fun r2 S3 H locs hF hI => ?_)
  exact m_ireti C hI hF dX6_whistle_20
set_option maxRecDepth 100000 in
set_option maxHeartbeats 4000000 in
theorem ok_X6_whistle {l : Launch} {E : mE} {v0 : Int32} {v1 : Int32} {v2 : Int32} {S : mS} {F : Int32 × mS} (hF : f_X6_whistle v0 v1 v2 S = some F) : mMi l yX6_whistle cX6_whistle 3 (some .int) rm_X6_whistle 0 0 [.ref (mA E.b v0), .int v1, .int v2] E S F := by
  refine m_met_i (by decide) (Nat.le_of_ble_eq_true rfl) (fun p e s m args below meth c ls hin C hI hl => ?_)
  have hx := C.1
  have hb := C.2.1
  have hl : lv_has ls 3 [(0, .ref (mA E.b v0)), (1, .int v1), (2, .int v2)] := hl
  generalize s.heap = H at hI ⊢
  generalize ([] : List Loc) = locs at hI ⊢
  refine lv_iload_n hx hb dX6_whistle_0 rfl (lv_at hl 1 rfl) ?_
  refine m_callSiR C cd_X6_86 hl.1 hI hF (fun _ h => ok_X6_isKind h) rfl rfl ⟨rfl, rfl, Nat.le_of_ble_eq_true rfl, Nat.le_of_ble_eq_true rfl⟩ ⟨Nat.le_of_ble_eq_true rfl, Nat.le_of_ble_eq_true rfl⟩ (Nat.le_of_ble_eq_true rfl) dX6_whistle_1 (fun r1 H locs hF hI => ?_)
  refine m_if_eq C (tgt := 14) hF dX6_whistle_4 (by decide) (fun hF => ?_) (fun hF => ?_)
  · exact (bl_X6_whistle_14 C) v0 S _ _ _ hF hI (lv_sub hl [0] rfl)
  · refine lv_iload_n hx hb dX6_whistle_7 rfl (lv_at hl 2 rfl) ?_
    refine m_callSiR C cd_X6_68 hl.1 hI hF (fun _ h => ok_X6_isCell h) rfl rfl ⟨rfl, rfl, Nat.le_of_ble_eq_true rfl, Nat.le_of_ble_eq_true rfl⟩ ⟨Nat.le_of_ble_eq_true rfl, Nat.le_of_ble_eq_true rfl⟩ (Nat.le_of_ble_eq_true rfl) dX6_whistle_8 (fun r4 H locs hF hI => ?_)
    refine m_if_ne C (tgt := 21) hF dX6_whistle_11 (by decide) (fun hF => ?_) (fun hF => ?_)
    · refine lv_aload_n hx hb dX6_whistle_21 rfl (lv_at hl 0 rfl) ?_
      refine m_getR C fd_X6_12 hI hF dX6_whistle_22 (fun r5 hF => ?_)
      refine m_getR C fd_X6_76 hI hF dX6_whistle_25 (fun r6 hF => ?_)
      refine m_get C fd_X6_89 hI hF dX6_whistle_28 (fun r7 hF => ?_)
      refine lv_iconst (v := 3) hx hb dX6_whistle_31 (by decide) ?_
      refine m_icmp_lt C (tgt := 40) hF dX6_whistle_32 (by decide) (fun hF => ?_) (fun hF => ?_)
      · refine lv_aload_n hx hb dX6_whistle_40 rfl (lv_at hl 0 rfl) ?_
        refine m_getR C fd_X6_12 hI hF dX6_whistle_41 (fun r8 hF => ?_)
        refine m_getR C fd_X6_96 hI hF dX6_whistle_44 (fun r9 hF => ?_)
        refine lv_iconst (v := 0) hx hb dX6_whistle_47 (by decide) ?_
        refine m_put C fd_X6_100 hI hF dX6_whistle_48 (fun S10 H locs hF hI => ?_)
        refine lv_aload_n hx hb dX6_whistle_51 rfl (lv_at hl 0 rfl) ?_
        refine m_getR C fd_X6_12 hI hF dX6_whistle_52 (fun r11 hF => ?_)
        refine m_getR C fd_X6_76 hI hF dX6_whistle_55 (fun r12 hF => ?_)
        refine lv_iload_n hx hb dX6_whistle_58 rfl (lv_at hl 1 rfl) ?_
        refine lv_iload_n hx hb dX6_whistle_59 rfl (lv_at hl 2 rfl) ?_
        refine m_callVi C cd_X6_105 ⟨rfl, by decide⟩ hl.1 hI hF (fun _ h => ok_X1_addWhistle h) rfl rfl ⟨rfl, rfl, Nat.le_of_ble_eq_true rfl, Nat.le_of_ble_eq_true rfl⟩ ⟨Nat.le_of_ble_eq_true rfl, Nat.le_of_ble_eq_true rfl⟩ (Nat.le_of_ble_eq_true rfl) dX6_whistle_60 (fun r13 S14 H locs hF hI => ?_)
        exact m_ireti C hI hF dX6_whistle_63
      · refine lv_aload_n hx hb dX6_whistle_35 rfl (lv_at hl 0 rfl) ?_
        refine m_callVi C cd_X6_92 ⟨rfl, by decide⟩ hl.1 hI hF (fun _ h => ok_X6_refuseFull h) rfl rfl ⟨rfl, rfl, Nat.le_of_ble_eq_true rfl, Nat.le_of_ble_eq_true rfl⟩ ⟨Nat.le_of_ble_eq_true rfl, Nat.le_of_ble_eq_true rfl⟩ (Nat.le_of_ble_eq_true rfl) dX6_whistle_36 (fun r15 S16 H locs hF hI => ?_)
        exact m_ireti C hI hF dX6_whistle_39
    · exact (bl_X6_whistle_14 C) v0 S _ _ _ hF hI (lv_sub hl [0] rfl)
noncomputable def f_X6_sheep_14 (v0 : Int32) (S : mS) : Option (Int32 × mS) := mRc 6 v0 S (mC (f_X6_refuseBad v0 (-2) S) (fun r2 S3 => some (r2, S3)))
noncomputable def f_X6_sheep (v0 : Int32) (v1 : Int32) (v2 : Int32) (S : mS) : Option (Int32 × mS) := mCp (f_X6_isKind v1) (fun r1 => if r1 = 0 then ((f_X6_sheep_14) v0 S) else (mCp (f_X6_isCell v2) (fun r4 => if r4 = 0 then ((f_X6_sheep_14) v0 S) else (mGr 6 0 v0 S (fun r5 => mGr 5 0 r5 S (fun r6 => mG 1 5 r6 S (fun r7 => if r7 < 7 then (mGr 6 0 v0 S (fun r8 => mGr 5 4 r8 S (fun r9 => mP 2 1 r9 0 S (fun S10 => mGr 6 0 v0 S10 (fun r11 => mGr 5 0 r11 S10 (fun r12 => mRc 1 r12 S10 (mC (f_X1_addSheep r12 v1 v2 S10) (fun r13 S14 => some (r13, S14))))))))) else (mRc 6 v0 S (mC (f_X6_refuseFull v0 S) (fun r15 S16 => some (r15, S16)))))))))))
def rm_X6_sheep : Room := { frames := 2, cells := 0, slots := 0, locals := 42 }
set_option maxRecDepth 100000 in
set_option maxHeartbeats 4000000 in
theorem bl_X6_sheep_14 {p : Program} {l : Launch} {e : Env} {s : State} {m : MethodId} {args : Array Value} {below : List Frame} {meth : Method} {c : Code} {E : mE} {n0 : Nat} {F : Int32 × mS} (C : mCx p s m args meth c cX6_sheep 3 RX6 (some .int) E n0) : ∀  (v0 : Int32) (S : mS) (H : Heap) (locs : List Loc) (ls : Array Slot), f_X6_sheep_14 v0 S = some F → mIv s E S H locs 0 → lv_has ls 3 [(0, .ref (mA E.b v0))] → W p l e rm_X6_sheep s m args below meth c H locs 0 0 (mQi below args s 0 0 n0 E F) (F0 m 14 ls []) := by
  have hx := C.1
  have hb := C.2.1
  intro v0 S H locs ls hF hI hl
  refine lv_aload_n hx hb dX6_sheep_14 rfl (lv_at hl 0 rfl) ?_
  refine lv_bipush (v := (-2)) hx hb dX6_sheep_15 (by decide) ?_
  refine m_callVi C cd_X6_72 ⟨rfl, by decide⟩ hl.1 hI hF (fun _ h => ok_X6_refuseBad h) rfl rfl ⟨rfl, rfl, Nat.le_of_ble_eq_true rfl, Nat.le_of_ble_eq_true rfl⟩ ⟨Nat.le_of_ble_eq_true rfl, Nat.le_of_ble_eq_true rfl⟩ (Nat.le_of_ble_eq_true rfl) dX6_sheep_17 (fun r2 S3 H locs hF hI => ?_)
  exact m_ireti C hI hF dX6_sheep_20
set_option maxRecDepth 100000 in
set_option maxHeartbeats 4000000 in
theorem ok_X6_sheep {l : Launch} {E : mE} {v0 : Int32} {v1 : Int32} {v2 : Int32} {S : mS} {F : Int32 × mS} (hF : f_X6_sheep v0 v1 v2 S = some F) : mMi l yX6_sheep cX6_sheep 3 (some .int) rm_X6_sheep 0 0 [.ref (mA E.b v0), .int v1, .int v2] E S F := by
  refine m_met_i (by decide) (Nat.le_of_ble_eq_true rfl) (fun p e s m args below meth c ls hin C hI hl => ?_)
  have hx := C.1
  have hb := C.2.1
  have hl : lv_has ls 3 [(0, .ref (mA E.b v0)), (1, .int v1), (2, .int v2)] := hl
  generalize s.heap = H at hI ⊢
  generalize ([] : List Loc) = locs at hI ⊢
  refine lv_iload_n hx hb dX6_sheep_0 rfl (lv_at hl 1 rfl) ?_
  refine m_callSiR C cd_X6_86 hl.1 hI hF (fun _ h => ok_X6_isKind h) rfl rfl ⟨rfl, rfl, Nat.le_of_ble_eq_true rfl, Nat.le_of_ble_eq_true rfl⟩ ⟨Nat.le_of_ble_eq_true rfl, Nat.le_of_ble_eq_true rfl⟩ (Nat.le_of_ble_eq_true rfl) dX6_sheep_1 (fun r1 H locs hF hI => ?_)
  refine m_if_eq C (tgt := 14) hF dX6_sheep_4 (by decide) (fun hF => ?_) (fun hF => ?_)
  · exact (bl_X6_sheep_14 C) v0 S _ _ _ hF hI (lv_sub hl [0] rfl)
  · refine lv_iload_n hx hb dX6_sheep_7 rfl (lv_at hl 2 rfl) ?_
    refine m_callSiR C cd_X6_68 hl.1 hI hF (fun _ h => ok_X6_isCell h) rfl rfl ⟨rfl, rfl, Nat.le_of_ble_eq_true rfl, Nat.le_of_ble_eq_true rfl⟩ ⟨Nat.le_of_ble_eq_true rfl, Nat.le_of_ble_eq_true rfl⟩ (Nat.le_of_ble_eq_true rfl) dX6_sheep_8 (fun r4 H locs hF hI => ?_)
    refine m_if_ne C (tgt := 21) hF dX6_sheep_11 (by decide) (fun hF => ?_) (fun hF => ?_)
    · refine lv_aload_n hx hb dX6_sheep_21 rfl (lv_at hl 0 rfl) ?_
      refine m_getR C fd_X6_12 hI hF dX6_sheep_22 (fun r5 hF => ?_)
      refine m_getR C fd_X6_76 hI hF dX6_sheep_25 (fun r6 hF => ?_)
      refine m_get C fd_X6_79 hI hF dX6_sheep_28 (fun r7 hF => ?_)
      refine lv_bipush (v := 7) hx hb dX6_sheep_31 (by decide) ?_
      refine m_icmp_lt C (tgt := 41) hF dX6_sheep_33 (by decide) (fun hF => ?_) (fun hF => ?_)
      · refine lv_aload_n hx hb dX6_sheep_41 rfl (lv_at hl 0 rfl) ?_
        refine m_getR C fd_X6_12 hI hF dX6_sheep_42 (fun r8 hF => ?_)
        refine m_getR C fd_X6_96 hI hF dX6_sheep_45 (fun r9 hF => ?_)
        refine lv_iconst (v := 0) hx hb dX6_sheep_48 (by decide) ?_
        refine m_put C fd_X6_100 hI hF dX6_sheep_49 (fun S10 H locs hF hI => ?_)
        refine lv_aload_n hx hb dX6_sheep_52 rfl (lv_at hl 0 rfl) ?_
        refine m_getR C fd_X6_12 hI hF dX6_sheep_53 (fun r11 hF => ?_)
        refine m_getR C fd_X6_76 hI hF dX6_sheep_56 (fun r12 hF => ?_)
        refine lv_iload_n hx hb dX6_sheep_59 rfl (lv_at hl 1 rfl) ?_
        refine lv_iload_n hx hb dX6_sheep_60 rfl (lv_at hl 2 rfl) ?_
        refine m_callVi C cd_X6_109 ⟨rfl, by decide⟩ hl.1 hI hF (fun _ h => ok_X1_addSheep h) rfl rfl ⟨rfl, rfl, Nat.le_of_ble_eq_true rfl, Nat.le_of_ble_eq_true rfl⟩ ⟨Nat.le_of_ble_eq_true rfl, Nat.le_of_ble_eq_true rfl⟩ (Nat.le_of_ble_eq_true rfl) dX6_sheep_61 (fun r13 S14 H locs hF hI => ?_)
        exact m_ireti C hI hF dX6_sheep_64
      · refine lv_aload_n hx hb dX6_sheep_36 rfl (lv_at hl 0 rfl) ?_
        refine m_callVi C cd_X6_92 ⟨rfl, by decide⟩ hl.1 hI hF (fun _ h => ok_X6_refuseFull h) rfl rfl ⟨rfl, rfl, Nat.le_of_ble_eq_true rfl, Nat.le_of_ble_eq_true rfl⟩ ⟨Nat.le_of_ble_eq_true rfl, Nat.le_of_ble_eq_true rfl⟩ (Nat.le_of_ble_eq_true rfl) dX6_sheep_37 (fun r15 S16 H locs hF hI => ?_)
        exact m_ireti C hI hF dX6_sheep_40
    · exact (bl_X6_sheep_14 C) v0 S _ _ _ hF hI (lv_sub hl [0] rfl)
noncomputable def f_X6_refuseNo (v0 : Int32) (S : mS) : Option (Int32 × mS) := mG 6 15 v0 S (fun r1 => mP 6 15 v0 (r1 + 1) S (fun S2 => some ((-3), S2)))
def rm_X6_refuseNo : Room := { frames := 0, cells := 0, slots := 0, locals := 0 }
set_option maxRecDepth 100000 in
set_option maxHeartbeats 4000000 in
theorem ok_X6_refuseNo {l : Launch} {E : mE} {v0 : Int32} {S : mS} {F : Int32 × mS} (hF : f_X6_refuseNo v0 S = some F) : mMi l yX6_refuseNo cX6_refuseNo 1 (some .int) rm_X6_refuseNo 0 0 [.ref (mA E.b v0)] E S F := by
  refine m_met_i (by decide) (Nat.le_of_ble_eq_true rfl) (fun p e s m args below meth c ls hin C hI hl => ?_)
  have hx := C.1
  have hb := C.2.1
  have hl : lv_has ls 1 [(0, .ref (mA E.b v0))] := hl
  generalize s.heap = H at hI ⊢
  generalize ([] : List Loc) = locs at hI ⊢
  refine lv_aload_n hx hb dX6_refuseNo_0 rfl (lv_at hl 0 rfl) ?_
  refine lv_dup hx hb dX6_refuseNo_1 rfl ?_
  refine m_get C fd_X6_293 hI hF dX6_refuseNo_2 (fun r1 hF => ?_)
  refine lv_iconst (v := 1) hx hb dX6_refuseNo_5 (by decide) ?_
  refine lv_iadd hx hb dX6_refuseNo_6 ?_
  refine m_put C fd_X6_293 hI hF dX6_refuseNo_7 (fun S2 H locs hF hI => ?_)
  refine lv_bipush (v := (-3)) hx hb dX6_refuseNo_10 (by decide) ?_
  exact m_ireti C hI hF dX6_refuseNo_12
noncomputable def f_X6_fold (v0 : Int32) (v1 : Int32) (S : mS) : Option (Int32 × mS) := mCp (f_X6_isCell v1) (fun r1 => if r1 = 0 then (mRc 6 v0 S (mC (f_X6_refuseBad v0 (-2) S) (fun r13 S14 => some (r13, S14)))) else (mGr 6 0 v0 S (fun r2 => mG 5 5 r2 S (fun r3 => if v1 = r3 then (mRc 6 v0 S (mC (f_X6_refuseNo v0 S) (fun r11 S12 => some (r11, S12)))) else (mGr 6 0 v0 S (fun r4 => mG 5 5 r4 S (fun r5 => mGr 6 0 v0 S (fun r6 => mP 5 5 r6 v1 S (fun S7 => mGr 6 0 v0 S7 (fun r8 => mGr 5 4 r8 S7 (fun r9 => mP 2 1 r9 0 S7 (fun S10 => some (r5, S10)))))))))))))
def rm_X6_fold : Room := { frames := 2, cells := 0, slots := 0, locals := 42 }
set_option maxRecDepth 100000 in
set_option maxHeartbeats 4000000 in
theorem ok_X6_fold {l : Launch} {E : mE} {v0 : Int32} {v1 : Int32} {S : mS} {F : Int32 × mS} (hF : f_X6_fold v0 v1 S = some F) : mMi l yX6_fold cX6_fold 3 (some .int) rm_X6_fold 0 0 [.ref (mA E.b v0), .int v1] E S F := by
  refine m_met_i (by decide) (Nat.le_of_ble_eq_true rfl) (fun p e s m args below meth c ls hin C hI hl => ?_)
  have hx := C.1
  have hb := C.2.1
  have hl : lv_has ls 3 [(0, .ref (mA E.b v0)), (1, .int v1)] := hl
  generalize s.heap = H at hI ⊢
  generalize ([] : List Loc) = locs at hI ⊢
  refine lv_iload_n hx hb dX6_fold_0 rfl (lv_at hl 1 rfl) ?_
  refine m_callSiR C cd_X6_68 hl.1 hI hF (fun _ h => ok_X6_isCell h) rfl rfl ⟨rfl, rfl, Nat.le_of_ble_eq_true rfl, Nat.le_of_ble_eq_true rfl⟩ ⟨Nat.le_of_ble_eq_true rfl, Nat.le_of_ble_eq_true rfl⟩ (Nat.le_of_ble_eq_true rfl) dX6_fold_1 (fun r1 H locs hF hI => ?_)
  refine m_if_ne C (tgt := 14) hF dX6_fold_4 (by decide) (fun hF => ?_) (fun hF => ?_)
  · refine lv_iload_n hx hb dX6_fold_14 rfl (lv_at hl 1 rfl) ?_
    refine lv_aload_n hx hb dX6_fold_15 rfl (lv_at hl 0 rfl) ?_
    refine m_getR C fd_X6_12 hI hF dX6_fold_16 (fun r2 hF => ?_)
    refine m_get C fd_X6_112 hI hF dX6_fold_19 (fun r3 hF => ?_)
    refine m_icmp_ne C (tgt := 30) hF dX6_fold_22 (by decide) (fun hF => ?_) (fun hF => ?_)
    · refine lv_aload_n hx hb dX6_fold_30 rfl (lv_at hl 0 rfl) ?_
      refine m_getR C fd_X6_12 hI hF dX6_fold_31 (fun r4 hF => ?_)
      refine m_get C fd_X6_112 hI hF dX6_fold_34 (fun r5 hF => ?_)
      refine lv_istore_n (lv' := [(2, .int r5), (0, .ref (mA E.b v0)), (1, .int v1)]) hx hb dX6_fold_37 rfl hl (by decide) rfl (fun ls hl => ?_)
      refine lv_aload_n hx hb dX6_fold_38 rfl (lv_at hl 1 rfl) ?_
      refine m_getR C fd_X6_12 hI hF dX6_fold_39 (fun r6 hF => ?_)
      refine lv_iload_n hx hb dX6_fold_42 rfl (lv_at hl 2 rfl) ?_
      refine m_put C fd_X6_112 hI hF dX6_fold_43 (fun S7 H locs hF hI => ?_)
      refine lv_aload_n hx hb dX6_fold_46 rfl (lv_at hl 1 rfl) ?_
      refine m_getR C fd_X6_12 hI hF dX6_fold_47 (fun r8 hF => ?_)
      refine m_getR C fd_X6_96 hI hF dX6_fold_50 (fun r9 hF => ?_)
      refine lv_iconst (v := 0) hx hb dX6_fold_53 (by decide) ?_
      refine m_put C fd_X6_100 hI hF dX6_fold_54 (fun S10 H locs hF hI => ?_)
      refine lv_iload_n hx hb dX6_fold_57 rfl (lv_at hl 0 rfl) ?_
      exact m_ireti C hI hF dX6_fold_58
    · refine lv_aload_n hx hb dX6_fold_25 rfl (lv_at hl 0 rfl) ?_
      refine m_callVi C cd_X6_115 ⟨rfl, by decide⟩ hl.1 hI hF (fun _ h => ok_X6_refuseNo h) rfl rfl ⟨rfl, rfl, Nat.le_of_ble_eq_true rfl, Nat.le_of_ble_eq_true rfl⟩ ⟨Nat.le_of_ble_eq_true rfl, Nat.le_of_ble_eq_true rfl⟩ (Nat.le_of_ble_eq_true rfl) dX6_fold_26 (fun r11 S12 H locs hF hI => ?_)
      exact m_ireti C hI hF dX6_fold_29
  · refine lv_aload_n hx hb dX6_fold_7 rfl (lv_at hl 0 rfl) ?_
    refine lv_bipush (v := (-2)) hx hb dX6_fold_8 (by decide) ?_
    refine m_callVi C cd_X6_72 ⟨rfl, by decide⟩ hl.1 hI hF (fun _ h => ok_X6_refuseBad h) rfl rfl ⟨rfl, rfl, Nat.le_of_ble_eq_true rfl, Nat.le_of_ble_eq_true rfl⟩ ⟨Nat.le_of_ble_eq_true rfl, Nat.le_of_ble_eq_true rfl⟩ (Nat.le_of_ble_eq_true rfl) dX6_fold_10 (fun r13 S14 H locs hF hI => ?_)
    exact m_ireti C hI hF dX6_fold_13
noncomputable def f_X6_type (v0 : Int32) (v1 : Int32) (S : mS) : Option (Int32 × mS) := mCp (f_X6_isWithin v1 0 127) (fun r1 => if r1 = 0 then (mRc 6 v0 S (mC (f_X6_refuseBad v0 (-2) S) (fun r11 S12 => some (r11, S12)))) else (mGr 6 4 v0 S (fun r2 => mG 4 1 r2 S (fun r3 => if r3 < 150 then (mGr 6 4 v0 S (fun r4 => mRc 4 r4 S (mCv (f_X4_add r4 v1 S) (fun S6 => mGr 6 4 v0 S6 (fun r7 => mG 4 1 r7 S6 (fun r8 => some (r8, S6))))))) else (mRc 6 v0 S (mC (f_X6_refuseFull v0 S) (fun r9 S10 => some (r9, S10))))))))
def rm_X6_type : Room := { frames := 1, cells := 0, slots := 0, locals := 22 }
set_option maxRecDepth 100000 in
set_option maxHeartbeats 4000000 in
theorem ok_X6_type {l : Launch} {E : mE} {v0 : Int32} {v1 : Int32} {S : mS} {F : Int32 × mS} (hF : f_X6_type v0 v1 S = some F) : mMi l yX6_type cX6_type 2 (some .int) rm_X6_type 0 0 [.ref (mA E.b v0), .int v1] E S F := by
  refine m_met_i (by decide) (Nat.le_of_ble_eq_true rfl) (fun p e s m args below meth c ls hin C hI hl => ?_)
  have hx := C.1
  have hb := C.2.1
  have hl : lv_has ls 2 [(0, .ref (mA E.b v0)), (1, .int v1)] := hl
  generalize s.heap = H at hI ⊢
  generalize ([] : List Loc) = locs at hI ⊢
  refine lv_iload_n hx hb dX6_type_0 rfl (lv_at hl 1 rfl) ?_
  refine lv_iconst (v := 0) hx hb dX6_type_1 (by decide) ?_
  refine lv_bipush (v := 127) hx hb dX6_type_2 (by decide) ?_
  refine m_callSiR C cd_X6_118 hl.1 hI hF (fun _ h => ok_X6_isWithin h) rfl rfl ⟨rfl, rfl, Nat.le_of_ble_eq_true rfl, Nat.le_of_ble_eq_true rfl⟩ ⟨Nat.le_of_ble_eq_true rfl, Nat.le_of_ble_eq_true rfl⟩ (Nat.le_of_ble_eq_true rfl) dX6_type_4 (fun r1 H locs hF hI => ?_)
  refine m_if_ne C (tgt := 17) hF dX6_type_7 (by decide) (fun hF => ?_) (fun hF => ?_)
  · refine lv_aload_n hx hb dX6_type_17 rfl (lv_at hl 0 rfl) ?_
    refine m_getR C fd_X6_30 hI hF dX6_type_18 (fun r2 hF => ?_)
    refine m_get C fd_X6_122 hI hF dX6_type_21 (fun r3 hF => ?_)
    refine lv_sipush (v := 150) hx hb dX6_type_24 (by decide) ?_
    refine m_icmp_lt C (tgt := 35) hF dX6_type_27 (by decide) (fun hF => ?_) (fun hF => ?_)
    · refine lv_aload_n hx hb dX6_type_35 rfl (lv_at hl 0 rfl) ?_
      refine m_getR C fd_X6_30 hI hF dX6_type_36 (fun r4 hF => ?_)
      refine lv_iload_n hx hb dX6_type_39 rfl (lv_at hl 1 rfl) ?_
      refine m_callVv C cd_X6_123 ⟨rfl, by decide⟩ hl.1 hI hF (fun _ h => ok_X4_add h) rfl rfl ⟨rfl, rfl, Nat.le_of_ble_eq_true rfl, Nat.le_of_ble_eq_true rfl⟩ ⟨Nat.le_of_ble_eq_true rfl, Nat.le_of_ble_eq_true rfl⟩ (Nat.le_of_ble_eq_true rfl) dX6_type_40 (fun S6 H locs hF hI => ?_)
      refine lv_aload_n hx hb dX6_type_43 rfl (lv_at hl 0 rfl) ?_
      refine m_getR C fd_X6_30 hI hF dX6_type_44 (fun r7 hF => ?_)
      refine m_get C fd_X6_122 hI hF dX6_type_47 (fun r8 hF => ?_)
      exact m_ireti C hI hF dX6_type_50
    · refine lv_aload_n hx hb dX6_type_30 rfl (lv_at hl 0 rfl) ?_
      refine m_callVi C cd_X6_92 ⟨rfl, by decide⟩ hl.1 hI hF (fun _ h => ok_X6_refuseFull h) rfl rfl ⟨rfl, rfl, Nat.le_of_ble_eq_true rfl, Nat.le_of_ble_eq_true rfl⟩ ⟨Nat.le_of_ble_eq_true rfl, Nat.le_of_ble_eq_true rfl⟩ (Nat.le_of_ble_eq_true rfl) dX6_type_31 (fun r9 S10 H locs hF hI => ?_)
      exact m_ireti C hI hF dX6_type_34
  · refine lv_aload_n hx hb dX6_type_10 rfl (lv_at hl 0 rfl) ?_
    refine lv_bipush (v := (-2)) hx hb dX6_type_11 (by decide) ?_
    refine m_callVi C cd_X6_72 ⟨rfl, by decide⟩ hl.1 hI hF (fun _ h => ok_X6_refuseBad h) rfl rfl ⟨rfl, rfl, Nat.le_of_ble_eq_true rfl, Nat.le_of_ble_eq_true rfl⟩ ⟨Nat.le_of_ble_eq_true rfl, Nat.le_of_ble_eq_true rfl⟩ (Nat.le_of_ble_eq_true rfl) dX6_type_13 (fun r11 S12 H locs hF hI => ?_)
    exact m_ireti C hI hF dX6_type_16
noncomputable def f_X6_clear (v0 : Int32) (S : mS) : Option (Int32 × mS) := mGr 6 4 v0 S (fun r1 => mG 4 1 r1 S (fun r2 => mGr 6 4 v0 S (fun r3 => mP 4 1 r3 0 S (fun S4 => some (r2, S4)))))
def rm_X6_clear : Room := { frames := 0, cells := 0, slots := 0, locals := 0 }
set_option maxRecDepth 100000 in
set_option maxHeartbeats 4000000 in
theorem ok_X6_clear {l : Launch} {E : mE} {v0 : Int32} {S : mS} {F : Int32 × mS} (hF : f_X6_clear v0 S = some F) : mMi l yX6_clear cX6_clear 2 (some .int) rm_X6_clear 0 0 [.ref (mA E.b v0)] E S F := by
  refine m_met_i (by decide) (Nat.le_of_ble_eq_true rfl) (fun p e s m args below meth c ls hin C hI hl => ?_)
  have hx := C.1
  have hb := C.2.1
  have hl : lv_has ls 2 [(0, .ref (mA E.b v0))] := hl
  generalize s.heap = H at hI ⊢
  generalize ([] : List Loc) = locs at hI ⊢
  refine lv_aload_n hx hb dX6_clear_0 rfl (lv_at hl 0 rfl) ?_
  refine m_getR C fd_X6_30 hI hF dX6_clear_1 (fun r1 hF => ?_)
  refine m_get C fd_X6_122 hI hF dX6_clear_4 (fun r2 hF => ?_)
  refine lv_istore_n (lv' := [(1, .int r2), (0, .ref (mA E.b v0))]) hx hb dX6_clear_7 rfl hl (by decide) rfl (fun ls hl => ?_)
  refine lv_aload_n hx hb dX6_clear_8 rfl (lv_at hl 1 rfl) ?_
  refine m_getR C fd_X6_30 hI hF dX6_clear_9 (fun r3 hF => ?_)
  refine lv_iconst (v := 0) hx hb dX6_clear_12 (by decide) ?_
  refine m_put C fd_X6_122 hI hF dX6_clear_13 (fun S4 H locs hF hI => ?_)
  refine lv_iload_n hx hb dX6_clear_16 rfl (lv_at hl 0 rfl) ?_
  exact m_ireti C hI hF dX6_clear_17
noncomputable def f_X6_read_27 (v1 : Int32) (S : mS) : Option (Int32 × mS) := some (v1, S)
noncomputable def f_X6_read (v0 : Int32) (S : mS) : Option (Int32 × mS) := mGr 6 4 v0 S (fun r1 => mGr 6 1 v0 S (fun r2 => mRc 4 r1 S (mC (f_X4_carryOut r1 r2 S) (fun r3 S4 => if r3 < 0 then ((f_X6_read_27) r3 S4) else (mGr 6 0 v0 S4 (fun r5 => mGr 6 1 v0 S4 (fun r6 => mRc 5 r5 S4 (mCv (f_X5_copy r5 r6 S4) (fun S8 => (f_X6_read_27) r3 S8)))))))))
def rm_X6_read : Room := { frames := 9, cells := 0, slots := 0, locals := 192 }
set_option maxRecDepth 100000 in
set_option maxHeartbeats 4000000 in
theorem bl_X6_read_27 {p : Program} {l : Launch} {e : Env} {s : State} {m : MethodId} {args : Array Value} {below : List Frame} {meth : Method} {c : Code} {E : mE} {n0 : Nat} {F : Int32 × mS} (C : mCx p s m args meth c cX6_read 2 RX6 (some .int) E n0) : ∀  (v1 : Int32) (S : mS) (H : Heap) (locs : List Loc) (ls : Array Slot), f_X6_read_27 v1 S = some F → mIv s E S H locs 0 → lv_has ls 2 [(1, .int v1)] → W p l e rm_X6_read s m args below meth c H locs 0 0 (mQi below args s 0 0 n0 E F) (F0 m 27 ls []) := by
  have hx := C.1
  have hb := C.2.1
  intro v1 S H locs ls hF hI hl
  refine lv_iload_n hx hb dX6_read_27 rfl (lv_at hl 0 rfl) ?_
  exact m_ireti C hI hF dX6_read_28
set_option maxRecDepth 100000 in
set_option maxHeartbeats 4000000 in
theorem ok_X6_read {l : Launch} {E : mE} {v0 : Int32} {S : mS} {F : Int32 × mS} (hF : f_X6_read v0 S = some F) : mMi l yX6_read cX6_read 2 (some .int) rm_X6_read 0 0 [.ref (mA E.b v0)] E S F := by
  refine m_met_i (by decide) (Nat.le_of_ble_eq_true rfl) (fun p e s m args below meth c ls hin C hI hl => ?_)
  have hx := C.1
  have hb := C.2.1
  have hl : lv_has ls 2 [(0, .ref (mA E.b v0))] := hl
  generalize s.heap = H at hI ⊢
  generalize ([] : List Loc) = locs at hI ⊢
  refine lv_aload_n hx hb dX6_read_0 rfl (lv_at hl 0 rfl) ?_
  refine m_getR C fd_X6_30 hI hF dX6_read_1 (fun r1 hF => ?_)
  refine lv_aload_n hx hb dX6_read_4 rfl (lv_at hl 0 rfl) ?_
  refine m_getR C fd_X6_16 hI hF dX6_read_5 (fun r2 hF => ?_)
  refine m_callVi C cd_X6_126 ⟨rfl, by decide⟩ hl.1 hI hF (fun _ h => ok_X4_carryOut h) rfl rfl ⟨rfl, rfl, Nat.le_of_ble_eq_true rfl, Nat.le_of_ble_eq_true rfl⟩ ⟨Nat.le_of_ble_eq_true rfl, Nat.le_of_ble_eq_true rfl⟩ (Nat.le_of_ble_eq_true rfl) dX6_read_8 (fun r3 S4 H locs hF hI => ?_)
  refine lv_istore_n (lv' := [(1, .int r3), (0, .ref (mA E.b v0))]) hx hb dX6_read_11 rfl hl (by decide) rfl (fun ls hl => ?_)
  refine lv_iload_n hx hb dX6_read_12 rfl (lv_at hl 0 rfl) ?_
  refine m_if_lt C (tgt := 27) hF dX6_read_13 (by decide) (fun hF => ?_) (fun hF => ?_)
  · exact (bl_X6_read_27 C) r3 S4 _ _ _ hF hI (lv_sub hl [0] rfl)
  · refine lv_aload_n hx hb dX6_read_16 rfl (lv_at hl 1 rfl) ?_
    refine m_getR C fd_X6_12 hI hF dX6_read_17 (fun r5 hF => ?_)
    refine lv_aload_n hx hb dX6_read_20 rfl (lv_at hl 1 rfl) ?_
    refine m_getR C fd_X6_16 hI hF dX6_read_21 (fun r6 hF => ?_)
    refine m_callVv C cd_X6_130 ⟨rfl, by decide⟩ hl.1 hI hF (fun _ h => ok_X5_copy h) rfl rfl ⟨rfl, rfl, Nat.le_of_ble_eq_true rfl, Nat.le_of_ble_eq_true rfl⟩ ⟨Nat.le_of_ble_eq_true rfl, Nat.le_of_ble_eq_true rfl⟩ (Nat.le_of_ble_eq_true rfl) dX6_read_24 (fun S8 H locs hF hI => ?_)
    exact (bl_X6_read_27 C) r3 S8 _ _ _ hF hI (lv_sub hl [0] rfl)
noncomputable def f_X6_calls_21 (v0 : Int32) (S : mS) : Option (Int32 × mS) := mRc 6 v0 S (mC (f_X6_refuseBad v0 (-2) S) (fun r4 S5 => some (r4, S5)))
noncomputable def f_X6_calls (v0 : Int32) (v1 : Int32) (v2 : Int32) (S : mS) : Option (Int32 × mS) := mGr 6 0 v0 S (fun r1 => mGr 5 0 r1 S (fun r2 => mRc 1 r2 S (mCp (f_X1_hasWhistle r2 v1 S) (fun r3 => if r3 = 0 then ((f_X6_calls_21) v0 S) else (mCp (f_X6_isCall v2) (fun r6 => if r6 = 0 then ((f_X6_calls_21) v0 S) else (mGr 6 0 v0 S (fun r7 => mGr 5 0 r7 S (fun r8 => mG 1 6 r8 S (fun r9 => if r9 < 9999 then (mGr 6 0 v0 S (fun r10 => mGr 5 4 r10 S (fun r11 => mGr 6 0 v0 S (fun r12 => mGr 5 0 r12 S (fun r13 => mRc 2 r11 S (mCv (f_X2_push r11 r13 S) (fun S15 => mGr 6 0 v0 S15 (fun r16 => mGr 5 0 r16 S15 (fun r17 => mRc 1 r17 S15 (mC (f_X1_call r17 v1 v2 S15) (fun r18 S19 => some (r18, S19)))))))))))) else (mRc 6 v0 S (mC (f_X6_refuseNo v0 S) (fun r20 S21 => some (r20, S21))))))))))))))
def rm_X6_calls : Room := { frames := 4, cells := 0, slots := 0, locals := 90 }
set_option maxRecDepth 100000 in
set_option maxHeartbeats 4000000 in
theorem bl_X6_calls_21 {p : Program} {l : Launch} {e : Env} {s : State} {m : MethodId} {args : Array Value} {below : List Frame} {meth : Method} {c : Code} {E : mE} {n0 : Nat} {F : Int32 × mS} (C : mCx p s m args meth c cX6_calls 3 RX6 (some .int) E n0) : ∀  (v0 : Int32) (S : mS) (H : Heap) (locs : List Loc) (ls : Array Slot), f_X6_calls_21 v0 S = some F → mIv s E S H locs 0 → lv_has ls 3 [(0, .ref (mA E.b v0))] → W p l e rm_X6_calls s m args below meth c H locs 0 0 (mQi below args s 0 0 n0 E F) (F0 m 21 ls []) := by
  have hx := C.1
  have hb := C.2.1
  intro v0 S H locs ls hF hI hl
  refine lv_aload_n hx hb dX6_calls_21 rfl (lv_at hl 0 rfl) ?_
  refine lv_bipush (v := (-2)) hx hb dX6_calls_22 (by decide) ?_
  refine m_callVi C cd_X6_72 ⟨rfl, by decide⟩ hl.1 hI hF (fun _ h => ok_X6_refuseBad h) rfl rfl ⟨rfl, rfl, Nat.le_of_ble_eq_true rfl, Nat.le_of_ble_eq_true rfl⟩ ⟨Nat.le_of_ble_eq_true rfl, Nat.le_of_ble_eq_true rfl⟩ (Nat.le_of_ble_eq_true rfl) dX6_calls_24 (fun r4 S5 H locs hF hI => ?_)
  exact m_ireti C hI hF dX6_calls_27
set_option maxRecDepth 100000 in
set_option maxHeartbeats 4000000 in
theorem ok_X6_calls {l : Launch} {E : mE} {v0 : Int32} {v1 : Int32} {v2 : Int32} {S : mS} {F : Int32 × mS} (hF : f_X6_calls v0 v1 v2 S = some F) : mMi l yX6_calls cX6_calls 3 (some .int) rm_X6_calls 0 0 [.ref (mA E.b v0), .int v1, .int v2] E S F := by
  refine m_met_i (by decide) (Nat.le_of_ble_eq_true rfl) (fun p e s m args below meth c ls hin C hI hl => ?_)
  have hx := C.1
  have hb := C.2.1
  have hl : lv_has ls 3 [(0, .ref (mA E.b v0)), (1, .int v1), (2, .int v2)] := hl
  generalize s.heap = H at hI ⊢
  generalize ([] : List Loc) = locs at hI ⊢
  refine lv_aload_n hx hb dX6_calls_0 rfl (lv_at hl 0 rfl) ?_
  refine m_getR C fd_X6_12 hI hF dX6_calls_1 (fun r1 hF => ?_)
  refine m_getR C fd_X6_76 hI hF dX6_calls_4 (fun r2 hF => ?_)
  refine lv_iload_n hx hb dX6_calls_7 rfl (lv_at hl 1 rfl) ?_
  refine m_callViR C cd_X6_134 ⟨rfl, by decide⟩ hl.1 hI hF (fun _ h => ok_X1_hasWhistle h) rfl rfl ⟨rfl, rfl, Nat.le_of_ble_eq_true rfl, Nat.le_of_ble_eq_true rfl⟩ ⟨Nat.le_of_ble_eq_true rfl, Nat.le_of_ble_eq_true rfl⟩ (Nat.le_of_ble_eq_true rfl) dX6_calls_8 (fun r3 H locs hF hI => ?_)
  refine m_if_eq C (tgt := 21) hF dX6_calls_11 (by decide) (fun hF => ?_) (fun hF => ?_)
  · exact (bl_X6_calls_21 C) v0 S _ _ _ hF hI (lv_sub hl [0] rfl)
  · refine lv_iload_n hx hb dX6_calls_14 rfl (lv_at hl 2 rfl) ?_
    refine m_callSiR C cd_X6_137 hl.1 hI hF (fun _ h => ok_X6_isCall h) rfl rfl ⟨rfl, rfl, Nat.le_of_ble_eq_true rfl, Nat.le_of_ble_eq_true rfl⟩ ⟨Nat.le_of_ble_eq_true rfl, Nat.le_of_ble_eq_true rfl⟩ (Nat.le_of_ble_eq_true rfl) dX6_calls_15 (fun r6 H locs hF hI => ?_)
    refine m_if_ne C (tgt := 28) hF dX6_calls_18 (by decide) (fun hF => ?_) (fun hF => ?_)
    · refine lv_aload_n hx hb dX6_calls_28 rfl (lv_at hl 0 rfl) ?_
      refine m_getR C fd_X6_12 hI hF dX6_calls_29 (fun r7 hF => ?_)
      refine m_getR C fd_X6_76 hI hF dX6_calls_32 (fun r8 hF => ?_)
      refine m_get C fd_X6_140 hI hF dX6_calls_35 (fun r9 hF => ?_)
      refine lv_sipush (v := 9999) hx hb dX6_calls_38 (by decide) ?_
      refine m_icmp_lt C (tgt := 49) hF dX6_calls_41 (by decide) (fun hF => ?_) (fun hF => ?_)
      · refine lv_aload_n hx hb dX6_calls_49 rfl (lv_at hl 0 rfl) ?_
        refine m_getR C fd_X6_12 hI hF dX6_calls_50 (fun r10 hF => ?_)
        refine m_getR C fd_X6_96 hI hF dX6_calls_53 (fun r11 hF => ?_)
        refine lv_aload_n hx hb dX6_calls_56 rfl (lv_at hl 0 rfl) ?_
        refine m_getR C fd_X6_12 hI hF dX6_calls_57 (fun r12 hF => ?_)
        refine m_getR C fd_X6_76 hI hF dX6_calls_60 (fun r13 hF => ?_)
        refine m_callVv C cd_X6_143 ⟨rfl, by decide⟩ hl.1 hI hF (fun _ h => ok_X2_push h) rfl rfl ⟨rfl, rfl, Nat.le_of_ble_eq_true rfl, Nat.le_of_ble_eq_true rfl⟩ ⟨Nat.le_of_ble_eq_true rfl, Nat.le_of_ble_eq_true rfl⟩ (Nat.le_of_ble_eq_true rfl) dX6_calls_63 (fun S15 H locs hF hI => ?_)
        refine lv_aload_n hx hb dX6_calls_66 rfl (lv_at hl 0 rfl) ?_
        refine m_getR C fd_X6_12 hI hF dX6_calls_67 (fun r16 hF => ?_)
        refine m_getR C fd_X6_76 hI hF dX6_calls_70 (fun r17 hF => ?_)
        refine lv_iload_n hx hb dX6_calls_73 rfl (lv_at hl 1 rfl) ?_
        refine lv_iload_n hx hb dX6_calls_74 rfl (lv_at hl 2 rfl) ?_
        refine m_callVi C cd_X6_147 ⟨rfl, by decide⟩ hl.1 hI hF (fun _ h => ok_X1_call h) rfl rfl ⟨rfl, rfl, Nat.le_of_ble_eq_true rfl, Nat.le_of_ble_eq_true rfl⟩ ⟨Nat.le_of_ble_eq_true rfl, Nat.le_of_ble_eq_true rfl⟩ (Nat.le_of_ble_eq_true rfl) dX6_calls_75 (fun r18 S19 H locs hF hI => ?_)
        exact m_ireti C hI hF dX6_calls_78
      · refine lv_aload_n hx hb dX6_calls_44 rfl (lv_at hl 0 rfl) ?_
        refine m_callVi C cd_X6_115 ⟨rfl, by decide⟩ hl.1 hI hF (fun _ h => ok_X6_refuseNo h) rfl rfl ⟨rfl, rfl, Nat.le_of_ble_eq_true rfl, Nat.le_of_ble_eq_true rfl⟩ ⟨Nat.le_of_ble_eq_true rfl, Nat.le_of_ble_eq_true rfl⟩ (Nat.le_of_ble_eq_true rfl) dX6_calls_45 (fun r20 S21 H locs hF hI => ?_)
        exact m_ireti C hI hF dX6_calls_48
    · exact (bl_X6_calls_21 C) v0 S _ _ _ hF hI (lv_sub hl [0] rfl)
noncomputable def f_X6_steps (v0 : Int32) (v1 : Int32) (S : mS) : Option (Int32 × mS) := mCp (f_X6_isWithin v1 1 99) (fun r1 => if r1 = 0 then (mRc 6 v0 S (mC (f_X6_refuseBad v0 (-2) S) (fun r17 S18 => some (r17, S18)))) else (mGr 6 0 v0 S (fun r2 => mGr 5 4 r2 S (fun r3 => mGr 6 0 v0 S (fun r4 => mGr 5 0 r4 S (fun r5 => mRc 2 r3 S (mCv (f_X2_push r3 r5 S) (fun S7 => mGr 6 0 v0 S7 (fun r8 => mGr 5 0 r8 S7 (fun r9 => mGr 6 0 v0 S7 (fun r10 => mGr 5 0 r10 S7 (fun r11 => mG 1 6 r11 S7 (fun r12 => mP 1 6 r9 (mMin 9999 (r12 + v1)) S7 (fun S13 => mGr 6 0 v0 S13 (fun r14 => mGr 5 0 r14 S13 (fun r15 => mG 1 6 r15 S13 (fun r16 => some (r16, S13))))))))))))))))))
def rm_X6_steps : Room := { frames := 2, cells := 0, slots := 0, locals := 40 }
set_option maxRecDepth 100000 in
set_option maxHeartbeats 4000000 in
theorem ok_X6_steps {l : Launch} {E : mE} {v0 : Int32} {v1 : Int32} {S : mS} {F : Int32 × mS} (hF : f_X6_steps v0 v1 S = some F) : mMi l yX6_steps cX6_steps 2 (some .int) rm_X6_steps 0 0 [.ref (mA E.b v0), .int v1] E S F := by
  refine m_met_i (by decide) (Nat.le_of_ble_eq_true rfl) (fun p e s m args below meth c ls hin C hI hl => ?_)
  have hx := C.1
  have hb := C.2.1
  have hl : lv_has ls 2 [(0, .ref (mA E.b v0)), (1, .int v1)] := hl
  generalize s.heap = H at hI ⊢
  generalize ([] : List Loc) = locs at hI ⊢
  refine lv_iload_n hx hb dX6_steps_0 rfl (lv_at hl 1 rfl) ?_
  refine lv_iconst (v := 1) hx hb dX6_steps_1 (by decide) ?_
  refine lv_bipush (v := 99) hx hb dX6_steps_2 (by decide) ?_
  refine m_callSiR C cd_X6_118 hl.1 hI hF (fun _ h => ok_X6_isWithin h) rfl rfl ⟨rfl, rfl, Nat.le_of_ble_eq_true rfl, Nat.le_of_ble_eq_true rfl⟩ ⟨Nat.le_of_ble_eq_true rfl, Nat.le_of_ble_eq_true rfl⟩ (Nat.le_of_ble_eq_true rfl) dX6_steps_4 (fun r1 H locs hF hI => ?_)
  refine m_if_ne C (tgt := 17) hF dX6_steps_7 (by decide) (fun hF => ?_) (fun hF => ?_)
  · refine lv_aload_n hx hb dX6_steps_17 rfl (lv_at hl 0 rfl) ?_
    refine m_getR C fd_X6_12 hI hF dX6_steps_18 (fun r2 hF => ?_)
    refine m_getR C fd_X6_96 hI hF dX6_steps_21 (fun r3 hF => ?_)
    refine lv_aload_n hx hb dX6_steps_24 rfl (lv_at hl 0 rfl) ?_
    refine m_getR C fd_X6_12 hI hF dX6_steps_25 (fun r4 hF => ?_)
    refine m_getR C fd_X6_76 hI hF dX6_steps_28 (fun r5 hF => ?_)
    refine m_callVv C cd_X6_143 ⟨rfl, by decide⟩ hl.1 hI hF (fun _ h => ok_X2_push h) rfl rfl ⟨rfl, rfl, Nat.le_of_ble_eq_true rfl, Nat.le_of_ble_eq_true rfl⟩ ⟨Nat.le_of_ble_eq_true rfl, Nat.le_of_ble_eq_true rfl⟩ (Nat.le_of_ble_eq_true rfl) dX6_steps_31 (fun S7 H locs hF hI => ?_)
    refine lv_aload_n hx hb dX6_steps_34 rfl (lv_at hl 0 rfl) ?_
    refine m_getR C fd_X6_12 hI hF dX6_steps_35 (fun r8 hF => ?_)
    refine m_getR C fd_X6_76 hI hF dX6_steps_38 (fun r9 hF => ?_)
    refine lv_sipush (v := 9999) hx hb dX6_steps_41 (by decide) ?_
    refine lv_aload_n hx hb dX6_steps_44 rfl (lv_at hl 0 rfl) ?_
    refine m_getR C fd_X6_12 hI hF dX6_steps_45 (fun r10 hF => ?_)
    refine m_getR C fd_X6_76 hI hF dX6_steps_48 (fun r11 hF => ?_)
    refine m_get C fd_X6_140 hI hF dX6_steps_51 (fun r12 hF => ?_)
    refine lv_iload_n hx hb dX6_steps_54 rfl (lv_at hl 1 rfl) ?_
    refine lv_iadd hx hb dX6_steps_55 ?_
    refine m_min C mw_X6_150 hl.1 (Nat.le_of_ble_eq_true rfl) (Nat.le_of_ble_eq_true rfl) (Nat.le_of_ble_eq_true rfl) (Nat.le_of_ble_eq_true rfl) dX6_steps_56 ?_
    refine m_put C fd_X6_140 hI hF dX6_steps_59 (fun S13 H locs hF hI => ?_)
    refine lv_aload_n hx hb dX6_steps_62 rfl (lv_at hl 0 rfl) ?_
    refine m_getR C fd_X6_12 hI hF dX6_steps_63 (fun r14 hF => ?_)
    refine m_getR C fd_X6_76 hI hF dX6_steps_66 (fun r15 hF => ?_)
    refine m_get C fd_X6_140 hI hF dX6_steps_69 (fun r16 hF => ?_)
    exact m_ireti C hI hF dX6_steps_72
  · refine lv_aload_n hx hb dX6_steps_10 rfl (lv_at hl 0 rfl) ?_
    refine lv_bipush (v := (-2)) hx hb dX6_steps_11 (by decide) ?_
    refine m_callVi C cd_X6_72 ⟨rfl, by decide⟩ hl.1 hI hF (fun _ h => ok_X6_refuseBad h) rfl rfl ⟨rfl, rfl, Nat.le_of_ble_eq_true rfl, Nat.le_of_ble_eq_true rfl⟩ ⟨Nat.le_of_ble_eq_true rfl, Nat.le_of_ble_eq_true rfl⟩ (Nat.le_of_ble_eq_true rfl) dX6_steps_13 (fun r17 S18 H locs hF hI => ?_)
    exact m_ireti C hI hF dX6_steps_16
noncomputable def f_X6_undo (v0 : Int32) (S : mS) : Option (Int32 × mS) := mGr 6 0 v0 S (fun r1 => mGr 5 4 r1 S (fun r2 => mG 2 1 r2 S (fun r3 => if r3 = 0 then (mRc 6 v0 S (mC (f_X6_refuseNo v0 S) (fun r13 S14 => some (r13, S14)))) else (mGr 6 0 v0 S (fun r4 => mGr 5 4 r4 S (fun r5 => mGr 6 0 v0 S (fun r6 => mGr 5 0 r6 S (fun r7 => mRc 2 r5 S (mCv (f_X2_pop r5 r7 S) (fun S9 => mGr 6 0 v0 S9 (fun r10 => mGr 5 0 r10 S9 (fun r11 => mG 1 6 r11 S9 (fun r12 => some (r12, S9))))))))))))))
def rm_X6_undo : Room := { frames := 2, cells := 0, slots := 0, locals := 40 }
set_option maxRecDepth 100000 in
set_option maxHeartbeats 4000000 in
theorem ok_X6_undo {l : Launch} {E : mE} {v0 : Int32} {S : mS} {F : Int32 × mS} (hF : f_X6_undo v0 S = some F) : mMi l yX6_undo cX6_undo 1 (some .int) rm_X6_undo 0 0 [.ref (mA E.b v0)] E S F := by
  refine m_met_i (by decide) (Nat.le_of_ble_eq_true rfl) (fun p e s m args below meth c ls hin C hI hl => ?_)
  have hx := C.1
  have hb := C.2.1
  have hl : lv_has ls 1 [(0, .ref (mA E.b v0))] := hl
  generalize s.heap = H at hI ⊢
  generalize ([] : List Loc) = locs at hI ⊢
  refine lv_aload_n hx hb dX6_undo_0 rfl (lv_at hl 0 rfl) ?_
  refine m_getR C fd_X6_12 hI hF dX6_undo_1 (fun r1 hF => ?_)
  refine m_getR C fd_X6_96 hI hF dX6_undo_4 (fun r2 hF => ?_)
  refine m_get C fd_X6_100 hI hF dX6_undo_7 (fun r3 hF => ?_)
  refine m_if_ne C (tgt := 18) hF dX6_undo_10 (by decide) (fun hF => ?_) (fun hF => ?_)
  · refine lv_aload_n hx hb dX6_undo_18 rfl (lv_at hl 0 rfl) ?_
    refine m_getR C fd_X6_12 hI hF dX6_undo_19 (fun r4 hF => ?_)
    refine m_getR C fd_X6_96 hI hF dX6_undo_22 (fun r5 hF => ?_)
    refine lv_aload_n hx hb dX6_undo_25 rfl (lv_at hl 0 rfl) ?_
    refine m_getR C fd_X6_12 hI hF dX6_undo_26 (fun r6 hF => ?_)
    refine m_getR C fd_X6_76 hI hF dX6_undo_29 (fun r7 hF => ?_)
    refine m_callVv C cd_X6_155 ⟨rfl, by decide⟩ hl.1 hI hF (fun _ h => ok_X2_pop h) rfl rfl ⟨rfl, rfl, Nat.le_of_ble_eq_true rfl, Nat.le_of_ble_eq_true rfl⟩ ⟨Nat.le_of_ble_eq_true rfl, Nat.le_of_ble_eq_true rfl⟩ (Nat.le_of_ble_eq_true rfl) dX6_undo_32 (fun S9 H locs hF hI => ?_)
    refine lv_aload_n hx hb dX6_undo_35 rfl (lv_at hl 0 rfl) ?_
    refine m_getR C fd_X6_12 hI hF dX6_undo_36 (fun r10 hF => ?_)
    refine m_getR C fd_X6_76 hI hF dX6_undo_39 (fun r11 hF => ?_)
    refine m_get C fd_X6_140 hI hF dX6_undo_42 (fun r12 hF => ?_)
    exact m_ireti C hI hF dX6_undo_45
  · refine lv_aload_n hx hb dX6_undo_13 rfl (lv_at hl 0 rfl) ?_
    refine m_callVi C cd_X6_115 ⟨rfl, by decide⟩ hl.1 hI hF (fun _ h => ok_X6_refuseNo h) rfl rfl ⟨rfl, rfl, Nat.le_of_ble_eq_true rfl, Nat.le_of_ble_eq_true rfl⟩ ⟨Nat.le_of_ble_eq_true rfl, Nat.le_of_ble_eq_true rfl⟩ (Nat.le_of_ble_eq_true rfl) dX6_undo_14 (fun r13 S14 H locs hF hI => ?_)
    exact m_ireti C hI hF dX6_undo_17
noncomputable def f_X6_of_23 (v0 : Int32) (S : mS) : Option (Int32 × mS) := mRc 6 v0 S (mC (f_X6_refuseBad v0 (-2) S) (fun r4 S5 => some (r4, S5)))
noncomputable def f_X6_of_78 (t0 : Int32) (S : mS) : Option (Int32 × mS) := some (t0, S)
noncomputable def f_X6_of (v0 : Int32) (v1 : Int32) (v2 : Int32) (S : mS) : Option (Int32 × mS) := mGr 6 0 v0 S (fun r1 => mGr 5 0 r1 S (fun r2 => mRc 1 r2 S (mCp (f_X1_hasWhistle r2 v1 S) (fun r3 => if r3 = 0 then ((f_X6_of_23) v0 S) else (mCp (f_X6_isWithin v2 0 2) (fun r6 => if r6 = 0 then ((f_X6_of_23) v0 S) else (if v2 = 0 then (mGr 6 0 v0 S (fun r14 => mGr 5 0 r14 S (fun r15 => mGr 1 0 r15 S (fun r16 => mX 8 r16 v1 S (fun r17 => some (r17, S)))))) else (if v2 = 1 then (mGr 6 0 v0 S (fun r10 => mGr 5 0 r10 S (fun r11 => mGr 1 1 r11 S (fun r12 => mX 8 r12 v1 S (fun r13 => (f_X6_of_78) r13 S))))) else (mGr 6 0 v0 S (fun r7 => mGr 5 0 r7 S (fun r8 => mRc 1 r8 S (mCp (f_X1_reach r8 v1 S) (fun r9 => (f_X6_of_78) r9 S)))))))))))))
def rm_X6_of : Room := { frames := 3, cells := 0, slots := 0, locals := 64 }
set_option maxRecDepth 100000 in
set_option maxHeartbeats 4000000 in
theorem bl_X6_of_23 {p : Program} {l : Launch} {e : Env} {s : State} {m : MethodId} {args : Array Value} {below : List Frame} {meth : Method} {c : Code} {E : mE} {n0 : Nat} {F : Int32 × mS} (C : mCx p s m args meth c cX6_of 3 RX6 (some .int) E n0) : ∀  (v0 : Int32) (S : mS) (H : Heap) (locs : List Loc) (ls : Array Slot), f_X6_of_23 v0 S = some F → mIv s E S H locs 0 → lv_has ls 3 [(0, .ref (mA E.b v0))] → W p l e rm_X6_of s m args below meth c H locs 0 0 (mQi below args s 0 0 n0 E F) (F0 m 23 ls []) := by
  have hx := C.1
  have hb := C.2.1
  intro v0 S H locs ls hF hI hl
  refine lv_aload_n hx hb dX6_of_23 rfl (lv_at hl 0 rfl) ?_
  refine lv_bipush (v := (-2)) hx hb dX6_of_24 (by decide) ?_
  refine m_callVi C cd_X6_72 ⟨rfl, by decide⟩ hl.1 hI hF (fun _ h => ok_X6_refuseBad h) rfl rfl ⟨rfl, rfl, Nat.le_of_ble_eq_true rfl, Nat.le_of_ble_eq_true rfl⟩ ⟨Nat.le_of_ble_eq_true rfl, Nat.le_of_ble_eq_true rfl⟩ (Nat.le_of_ble_eq_true rfl) dX6_of_26 (fun r4 S5 H locs hF hI => ?_)
  exact m_ireti C hI hF dX6_of_29
set_option maxRecDepth 100000 in
set_option maxHeartbeats 4000000 in
theorem bl_X6_of_78 {p : Program} {l : Launch} {e : Env} {s : State} {m : MethodId} {args : Array Value} {below : List Frame} {meth : Method} {c : Code} {E : mE} {n0 : Nat} {F : Int32 × mS} (C : mCx p s m args meth c cX6_of 3 RX6 (some .int) E n0) : ∀  (t0 : Int32) (S : mS) (H : Heap) (locs : List Loc) (ls : Array Slot), f_X6_of_78 t0 S = some F → mIv s E S H locs 0 → lv_has ls 3 [] → W p l e rm_X6_of s m args below meth c H locs 0 0 (mQi below args s 0 0 n0 E F) (F0 m 78 ls [.int t0]) := by
  have hx := C.1
  have hb := C.2.1
  intro t0 S H locs ls hF hI hl
  exact m_ireti C hI hF dX6_of_78
set_option maxRecDepth 100000 in
set_option maxHeartbeats 4000000 in
theorem ok_X6_of {l : Launch} {E : mE} {v0 : Int32} {v1 : Int32} {v2 : Int32} {S : mS} {F : Int32 × mS} (hF : f_X6_of v0 v1 v2 S = some F) : mMi l yX6_of cX6_of 3 (some .int) rm_X6_of 0 0 [.ref (mA E.b v0), .int v1, .int v2] E S F := by
  refine m_met_i (by decide) (Nat.le_of_ble_eq_true rfl) (fun p e s m args below meth c ls hin C hI hl => ?_)
  have hx := C.1
  have hb := C.2.1
  have hl : lv_has ls 3 [(0, .ref (mA E.b v0)), (1, .int v1), (2, .int v2)] := hl
  generalize s.heap = H at hI ⊢
  generalize ([] : List Loc) = locs at hI ⊢
  refine lv_aload_n hx hb dX6_of_0 rfl (lv_at hl 0 rfl) ?_
  refine m_getR C fd_X6_12 hI hF dX6_of_1 (fun r1 hF => ?_)
  refine m_getR C fd_X6_76 hI hF dX6_of_4 (fun r2 hF => ?_)
  refine lv_iload_n hx hb dX6_of_7 rfl (lv_at hl 1 rfl) ?_
  refine m_callViR C cd_X6_134 ⟨rfl, by decide⟩ hl.1 hI hF (fun _ h => ok_X1_hasWhistle h) rfl rfl ⟨rfl, rfl, Nat.le_of_ble_eq_true rfl, Nat.le_of_ble_eq_true rfl⟩ ⟨Nat.le_of_ble_eq_true rfl, Nat.le_of_ble_eq_true rfl⟩ (Nat.le_of_ble_eq_true rfl) dX6_of_8 (fun r3 H locs hF hI => ?_)
  refine m_if_eq C (tgt := 23) hF dX6_of_11 (by decide) (fun hF => ?_) (fun hF => ?_)
  · exact (bl_X6_of_23 C) v0 S _ _ _ hF hI (lv_sub hl [0] rfl)
  · refine lv_iload_n hx hb dX6_of_14 rfl (lv_at hl 2 rfl) ?_
    refine lv_iconst (v := 0) hx hb dX6_of_15 (by decide) ?_
    refine lv_iconst (v := 2) hx hb dX6_of_16 (by decide) ?_
    refine m_callSiR C cd_X6_118 hl.1 hI hF (fun _ h => ok_X6_isWithin h) rfl rfl ⟨rfl, rfl, Nat.le_of_ble_eq_true rfl, Nat.le_of_ble_eq_true rfl⟩ ⟨Nat.le_of_ble_eq_true rfl, Nat.le_of_ble_eq_true rfl⟩ (Nat.le_of_ble_eq_true rfl) dX6_of_17 (fun r6 H locs hF hI => ?_)
    refine m_if_ne C (tgt := 30) hF dX6_of_20 (by decide) (fun hF => ?_) (fun hF => ?_)
    · refine lv_iload_n hx hb dX6_of_30 rfl (lv_at hl 2 rfl) ?_
      refine m_if_ne C (tgt := 47) hF dX6_of_31 (by decide) (fun hF => ?_) (fun hF => ?_)
      · refine lv_iload_n hx hb dX6_of_47 rfl (lv_at hl 2 rfl) ?_
        refine lv_iconst (v := 1) hx hb dX6_of_48 (by decide) ?_
        refine m_icmp_ne C (tgt := 67) hF dX6_of_49 (by decide) (fun hF => ?_) (fun hF => ?_)
        · refine lv_aload_n hx hb dX6_of_67 rfl (lv_at hl 0 rfl) ?_
          refine m_getR C fd_X6_12 hI hF dX6_of_68 (fun r7 hF => ?_)
          refine m_getR C fd_X6_76 hI hF dX6_of_71 (fun r8 hF => ?_)
          refine lv_iload_n hx hb dX6_of_74 rfl (lv_at hl 1 rfl) ?_
          refine m_callViR C cd_X6_164 ⟨rfl, by decide⟩ hl.1 hI hF (fun _ h => ok_X1_reach h) rfl rfl ⟨rfl, rfl, Nat.le_of_ble_eq_true rfl, Nat.le_of_ble_eq_true rfl⟩ ⟨Nat.le_of_ble_eq_true rfl, Nat.le_of_ble_eq_true rfl⟩ (Nat.le_of_ble_eq_true rfl) dX6_of_75 (fun r9 H locs hF hI => ?_)
          exact (bl_X6_of_78 C) r9 S _ _ _ hF hI (lv_sub hl [] rfl)
        · refine lv_aload_n hx hb dX6_of_52 rfl (lv_at hl 0 rfl) ?_
          refine m_getR C fd_X6_12 hI hF dX6_of_53 (fun r10 hF => ?_)
          refine m_getR C fd_X6_76 hI hF dX6_of_56 (fun r11 hF => ?_)
          refine m_getR C fd_X6_161 hI hF dX6_of_59 (fun r12 hF => ?_)
          refine lv_iload_n hx hb dX6_of_62 rfl (lv_at hl 1 rfl) ?_
          refine m_iald C hI hF dX6_of_63 (fun r13 hF => ?_)
          refine lv_goto (tgt := 78) hx hb dX6_of_64 (by decide) ?_
          exact (bl_X6_of_78 C) r13 S _ _ _ hF hI (lv_sub hl [] rfl)
      · refine lv_aload_n hx hb dX6_of_34 rfl (lv_at hl 0 rfl) ?_
        refine m_getR C fd_X6_12 hI hF dX6_of_35 (fun r14 hF => ?_)
        refine m_getR C fd_X6_76 hI hF dX6_of_38 (fun r15 hF => ?_)
        refine m_getR C fd_X6_158 hI hF dX6_of_41 (fun r16 hF => ?_)
        refine lv_iload_n hx hb dX6_of_44 rfl (lv_at hl 1 rfl) ?_
        refine m_iald C hI hF dX6_of_45 (fun r17 hF => ?_)
        exact m_ireti C hI hF dX6_of_46
    · exact (bl_X6_of_23 C) v0 S _ _ _ hF hI (lv_sub hl [0] rfl)
noncomputable def f_X6_about_23 (v0 : Int32) (S : mS) : Option (Int32 × mS) := mRc 6 v0 S (mC (f_X6_refuseBad v0 (-2) S) (fun r4 S5 => some (r4, S5)))
noncomputable def f_X6_about_80 (t0 : Int32) (S : mS) : Option (Int32 × mS) := some (t0, S)
noncomputable def f_X6_about (v0 : Int32) (v1 : Int32) (v2 : Int32) (S : mS) : Option (Int32 × mS) := mGr 6 0 v0 S (fun r1 => mGr 5 0 r1 S (fun r2 => mRc 1 r2 S (mCp (f_X1_hasSheep r2 v1 S) (fun r3 => if r3 = 0 then ((f_X6_about_23) v0 S) else (mCp (f_X6_isWithin v2 0 2) (fun r6 => if r6 = 0 then ((f_X6_about_23) v0 S) else (if v2 = 0 then (mGr 6 0 v0 S (fun r14 => mGr 5 0 r14 S (fun r15 => mGr 1 2 r15 S (fun r16 => mX 8 r16 v1 S (fun r17 => some (r17, S)))))) else (mGr 6 0 v0 S (fun r7 => mGr 5 0 r7 S (fun r8 => mGr 1 3 r8 S (fun r9 => mX 8 r9 v1 S (fun r10 => if v2 = 1 then ((f_X6_about_80) r10 S) else (mGr 6 0 v0 S (fun r11 => mG 5 5 r11 S (fun r12 => mCp (f_X6_farBetween r10 r12) (fun r13 => (f_X6_about_80) r13 S))))))))))))))))
def rm_X6_about : Room := { frames := 2, cells := 0, slots := 0, locals := 43 }
set_option maxRecDepth 100000 in
set_option maxHeartbeats 4000000 in
theorem bl_X6_about_23 {p : Program} {l : Launch} {e : Env} {s : State} {m : MethodId} {args : Array Value} {below : List Frame} {meth : Method} {c : Code} {E : mE} {n0 : Nat} {F : Int32 × mS} (C : mCx p s m args meth c cX6_about 4 RX6 (some .int) E n0) : ∀  (v0 : Int32) (S : mS) (H : Heap) (locs : List Loc) (ls : Array Slot), f_X6_about_23 v0 S = some F → mIv s E S H locs 0 → lv_has ls 4 [(0, .ref (mA E.b v0))] → W p l e rm_X6_about s m args below meth c H locs 0 0 (mQi below args s 0 0 n0 E F) (F0 m 23 ls []) := by
  have hx := C.1
  have hb := C.2.1
  intro v0 S H locs ls hF hI hl
  refine lv_aload_n hx hb dX6_about_23 rfl (lv_at hl 0 rfl) ?_
  refine lv_bipush (v := (-2)) hx hb dX6_about_24 (by decide) ?_
  refine m_callVi C cd_X6_72 ⟨rfl, by decide⟩ hl.1 hI hF (fun _ h => ok_X6_refuseBad h) rfl rfl ⟨rfl, rfl, Nat.le_of_ble_eq_true rfl, Nat.le_of_ble_eq_true rfl⟩ ⟨Nat.le_of_ble_eq_true rfl, Nat.le_of_ble_eq_true rfl⟩ (Nat.le_of_ble_eq_true rfl) dX6_about_26 (fun r4 S5 H locs hF hI => ?_)
  exact m_ireti C hI hF dX6_about_29
set_option maxRecDepth 100000 in
set_option maxHeartbeats 4000000 in
theorem bl_X6_about_80 {p : Program} {l : Launch} {e : Env} {s : State} {m : MethodId} {args : Array Value} {below : List Frame} {meth : Method} {c : Code} {E : mE} {n0 : Nat} {F : Int32 × mS} (C : mCx p s m args meth c cX6_about 4 RX6 (some .int) E n0) : ∀  (t0 : Int32) (S : mS) (H : Heap) (locs : List Loc) (ls : Array Slot), f_X6_about_80 t0 S = some F → mIv s E S H locs 0 → lv_has ls 4 [] → W p l e rm_X6_about s m args below meth c H locs 0 0 (mQi below args s 0 0 n0 E F) (F0 m 80 ls [.int t0]) := by
  have hx := C.1
  have hb := C.2.1
  intro t0 S H locs ls hF hI hl
  exact m_ireti C hI hF dX6_about_80
set_option maxRecDepth 100000 in
set_option maxHeartbeats 4000000 in
theorem ok_X6_about {l : Launch} {E : mE} {v0 : Int32} {v1 : Int32} {v2 : Int32} {S : mS} {F : Int32 × mS} (hF : f_X6_about v0 v1 v2 S = some F) : mMi l yX6_about cX6_about 4 (some .int) rm_X6_about 0 0 [.ref (mA E.b v0), .int v1, .int v2] E S F := by
  refine m_met_i (by decide) (Nat.le_of_ble_eq_true rfl) (fun p e s m args below meth c ls hin C hI hl => ?_)
  have hx := C.1
  have hb := C.2.1
  have hl : lv_has ls 4 [(0, .ref (mA E.b v0)), (1, .int v1), (2, .int v2)] := hl
  generalize s.heap = H at hI ⊢
  generalize ([] : List Loc) = locs at hI ⊢
  refine lv_aload_n hx hb dX6_about_0 rfl (lv_at hl 0 rfl) ?_
  refine m_getR C fd_X6_12 hI hF dX6_about_1 (fun r1 hF => ?_)
  refine m_getR C fd_X6_76 hI hF dX6_about_4 (fun r2 hF => ?_)
  refine lv_iload_n hx hb dX6_about_7 rfl (lv_at hl 1 rfl) ?_
  refine m_callViR C cd_X6_167 ⟨rfl, by decide⟩ hl.1 hI hF (fun _ h => ok_X1_hasSheep h) rfl rfl ⟨rfl, rfl, Nat.le_of_ble_eq_true rfl, Nat.le_of_ble_eq_true rfl⟩ ⟨Nat.le_of_ble_eq_true rfl, Nat.le_of_ble_eq_true rfl⟩ (Nat.le_of_ble_eq_true rfl) dX6_about_8 (fun r3 H locs hF hI => ?_)
  refine m_if_eq C (tgt := 23) hF dX6_about_11 (by decide) (fun hF => ?_) (fun hF => ?_)
  · exact (bl_X6_about_23 C) v0 S _ _ _ hF hI (lv_sub hl [0] rfl)
  · refine lv_iload_n hx hb dX6_about_14 rfl (lv_at hl 2 rfl) ?_
    refine lv_iconst (v := 0) hx hb dX6_about_15 (by decide) ?_
    refine lv_iconst (v := 2) hx hb dX6_about_16 (by decide) ?_
    refine m_callSiR C cd_X6_118 hl.1 hI hF (fun _ h => ok_X6_isWithin h) rfl rfl ⟨rfl, rfl, Nat.le_of_ble_eq_true rfl, Nat.le_of_ble_eq_true rfl⟩ ⟨Nat.le_of_ble_eq_true rfl, Nat.le_of_ble_eq_true rfl⟩ (Nat.le_of_ble_eq_true rfl) dX6_about_17 (fun r6 H locs hF hI => ?_)
    refine m_if_ne C (tgt := 30) hF dX6_about_20 (by decide) (fun hF => ?_) (fun hF => ?_)
    · refine lv_iload_n hx hb dX6_about_30 rfl (lv_at hl 2 rfl) ?_
      refine m_if_ne C (tgt := 47) hF dX6_about_31 (by decide) (fun hF => ?_) (fun hF => ?_)
      · refine lv_aload_n hx hb dX6_about_47 rfl (lv_at hl 0 rfl) ?_
        refine m_getR C fd_X6_12 hI hF dX6_about_48 (fun r7 hF => ?_)
        refine m_getR C fd_X6_76 hI hF dX6_about_51 (fun r8 hF => ?_)
        refine m_getR C fd_X6_173 hI hF dX6_about_54 (fun r9 hF => ?_)
        refine lv_iload_n hx hb dX6_about_57 rfl (lv_at hl 1 rfl) ?_
        refine m_iald C hI hF dX6_about_58 (fun r10 hF => ?_)
        refine lv_istore_n (lv' := [(3, .int r10), (0, .ref (mA E.b v0)), (1, .int v1), (2, .int v2)]) hx hb dX6_about_59 rfl hl (by decide) rfl (fun ls hl => ?_)
        refine lv_iload_n hx hb dX6_about_60 rfl (lv_at hl 3 rfl) ?_
        refine lv_iconst (v := 1) hx hb dX6_about_61 (by decide) ?_
        refine m_icmp_ne C (tgt := 69) hF dX6_about_62 (by decide) (fun hF => ?_) (fun hF => ?_)
        · refine lv_iload_n hx hb dX6_about_69 rfl (lv_at hl 0 rfl) ?_
          refine lv_aload_n hx hb dX6_about_70 rfl (lv_at hl 1 rfl) ?_
          refine m_getR C fd_X6_12 hI hF dX6_about_71 (fun r11 hF => ?_)
          refine m_get C fd_X6_112 hI hF dX6_about_74 (fun r12 hF => ?_)
          refine m_callSiR C cd_X6_176 hl.1 hI hF (fun _ h => ok_X6_farBetween h) rfl rfl ⟨rfl, rfl, Nat.le_of_ble_eq_true rfl, Nat.le_of_ble_eq_true rfl⟩ ⟨Nat.le_of_ble_eq_true rfl, Nat.le_of_ble_eq_true rfl⟩ (Nat.le_of_ble_eq_true rfl) dX6_about_77 (fun r13 H locs hF hI => ?_)
          exact (bl_X6_about_80 C) r13 S _ _ _ hF hI (lv_sub hl [] rfl)
        · refine lv_iload_n hx hb dX6_about_65 rfl (lv_at hl 0 rfl) ?_
          refine lv_goto (tgt := 80) hx hb dX6_about_66 (by decide) ?_
          exact (bl_X6_about_80 C) r10 S _ _ _ hF hI (lv_sub hl [] rfl)
      · refine lv_aload_n hx hb dX6_about_34 rfl (lv_at hl 0 rfl) ?_
        refine m_getR C fd_X6_12 hI hF dX6_about_35 (fun r14 hF => ?_)
        refine m_getR C fd_X6_76 hI hF dX6_about_38 (fun r15 hF => ?_)
        refine m_getR C fd_X6_170 hI hF dX6_about_41 (fun r16 hF => ?_)
        refine lv_iload_n hx hb dX6_about_44 rfl (lv_at hl 1 rfl) ?_
        refine m_iald C hI hF dX6_about_45 (fun r17 hF => ?_)
        exact m_ireti C hI hF dX6_about_46
    · exact (bl_X6_about_23 C) v0 S _ _ _ hF hI (lv_sub hl [0] rfl)
noncomputable def f_X6_goes_21 (v0 : Int32) (S : mS) : Option (Int32 × mS) := mRc 6 v0 S (mC (f_X6_refuseBad v0 (-2) S) (fun r4 S5 => some (r4, S5)))
noncomputable def f_X6_goes (v0 : Int32) (v1 : Int32) (v2 : Int32) (S : mS) : Option (Int32 × mS) := mGr 6 0 v0 S (fun r1 => mGr 5 0 r1 S (fun r2 => mRc 1 r2 S (mCp (f_X1_hasWhistle r2 v1 S) (fun r3 => if r3 = 0 then ((f_X6_goes_21) v0 S) else (mCp (f_X6_isCall v2) (fun r6 => if r6 = 0 then ((f_X6_goes_21) v0 S) else (mGr 6 0 v0 S (fun r7 => mGr 5 0 r7 S (fun r8 => mRc 1 r8 S (mCp (f_X1_whistleTo r8 v1 v2 S) (fun r9 => some (r9, S))))))))))))
def rm_X6_goes : Room := { frames := 3, cells := 0, slots := 0, locals := 65 }
set_option maxRecDepth 100000 in
set_option maxHeartbeats 4000000 in
theorem bl_X6_goes_21 {p : Program} {l : Launch} {e : Env} {s : State} {m : MethodId} {args : Array Value} {below : List Frame} {meth : Method} {c : Code} {E : mE} {n0 : Nat} {F : Int32 × mS} (C : mCx p s m args meth c cX6_goes 3 RX6 (some .int) E n0) : ∀  (v0 : Int32) (S : mS) (H : Heap) (locs : List Loc) (ls : Array Slot), f_X6_goes_21 v0 S = some F → mIv s E S H locs 0 → lv_has ls 3 [(0, .ref (mA E.b v0))] → W p l e rm_X6_goes s m args below meth c H locs 0 0 (mQi below args s 0 0 n0 E F) (F0 m 21 ls []) := by
  have hx := C.1
  have hb := C.2.1
  intro v0 S H locs ls hF hI hl
  refine lv_aload_n hx hb dX6_goes_21 rfl (lv_at hl 0 rfl) ?_
  refine lv_bipush (v := (-2)) hx hb dX6_goes_22 (by decide) ?_
  refine m_callVi C cd_X6_72 ⟨rfl, by decide⟩ hl.1 hI hF (fun _ h => ok_X6_refuseBad h) rfl rfl ⟨rfl, rfl, Nat.le_of_ble_eq_true rfl, Nat.le_of_ble_eq_true rfl⟩ ⟨Nat.le_of_ble_eq_true rfl, Nat.le_of_ble_eq_true rfl⟩ (Nat.le_of_ble_eq_true rfl) dX6_goes_24 (fun r4 S5 H locs hF hI => ?_)
  exact m_ireti C hI hF dX6_goes_27
set_option maxRecDepth 100000 in
set_option maxHeartbeats 4000000 in
theorem ok_X6_goes {l : Launch} {E : mE} {v0 : Int32} {v1 : Int32} {v2 : Int32} {S : mS} {F : Int32 × mS} (hF : f_X6_goes v0 v1 v2 S = some F) : mMi l yX6_goes cX6_goes 3 (some .int) rm_X6_goes 0 0 [.ref (mA E.b v0), .int v1, .int v2] E S F := by
  refine m_met_i (by decide) (Nat.le_of_ble_eq_true rfl) (fun p e s m args below meth c ls hin C hI hl => ?_)
  have hx := C.1
  have hb := C.2.1
  have hl : lv_has ls 3 [(0, .ref (mA E.b v0)), (1, .int v1), (2, .int v2)] := hl
  generalize s.heap = H at hI ⊢
  generalize ([] : List Loc) = locs at hI ⊢
  refine lv_aload_n hx hb dX6_goes_0 rfl (lv_at hl 0 rfl) ?_
  refine m_getR C fd_X6_12 hI hF dX6_goes_1 (fun r1 hF => ?_)
  refine m_getR C fd_X6_76 hI hF dX6_goes_4 (fun r2 hF => ?_)
  refine lv_iload_n hx hb dX6_goes_7 rfl (lv_at hl 1 rfl) ?_
  refine m_callViR C cd_X6_134 ⟨rfl, by decide⟩ hl.1 hI hF (fun _ h => ok_X1_hasWhistle h) rfl rfl ⟨rfl, rfl, Nat.le_of_ble_eq_true rfl, Nat.le_of_ble_eq_true rfl⟩ ⟨Nat.le_of_ble_eq_true rfl, Nat.le_of_ble_eq_true rfl⟩ (Nat.le_of_ble_eq_true rfl) dX6_goes_8 (fun r3 H locs hF hI => ?_)
  refine m_if_eq C (tgt := 21) hF dX6_goes_11 (by decide) (fun hF => ?_) (fun hF => ?_)
  · exact (bl_X6_goes_21 C) v0 S _ _ _ hF hI (lv_sub hl [0] rfl)
  · refine lv_iload_n hx hb dX6_goes_14 rfl (lv_at hl 2 rfl) ?_
    refine m_callSiR C cd_X6_137 hl.1 hI hF (fun _ h => ok_X6_isCall h) rfl rfl ⟨rfl, rfl, Nat.le_of_ble_eq_true rfl, Nat.le_of_ble_eq_true rfl⟩ ⟨Nat.le_of_ble_eq_true rfl, Nat.le_of_ble_eq_true rfl⟩ (Nat.le_of_ble_eq_true rfl) dX6_goes_15 (fun r6 H locs hF hI => ?_)
    refine m_if_ne C (tgt := 28) hF dX6_goes_18 (by decide) (fun hF => ?_) (fun hF => ?_)
    · refine lv_aload_n hx hb dX6_goes_28 rfl (lv_at hl 0 rfl) ?_
      refine m_getR C fd_X6_12 hI hF dX6_goes_29 (fun r7 hF => ?_)
      refine m_getR C fd_X6_76 hI hF dX6_goes_32 (fun r8 hF => ?_)
      refine lv_iload_n hx hb dX6_goes_35 rfl (lv_at hl 1 rfl) ?_
      refine lv_iload_n hx hb dX6_goes_36 rfl (lv_at hl 2 rfl) ?_
      refine m_callViR C cd_X6_179 ⟨rfl, by decide⟩ hl.1 hI hF (fun _ h => ok_X1_whistleTo h) rfl rfl ⟨rfl, rfl, Nat.le_of_ble_eq_true rfl, Nat.le_of_ble_eq_true rfl⟩ ⟨Nat.le_of_ble_eq_true rfl, Nat.le_of_ble_eq_true rfl⟩ (Nat.le_of_ble_eq_true rfl) dX6_goes_37 (fun r9 H locs hF hI => ?_)
      exact m_ireti C hI hF dX6_goes_40
    · exact (bl_X6_goes_21 C) v0 S _ _ _ hF hI (lv_sub hl [0] rfl)
noncomputable def f_X6_gives_35 (v0 : Int32) (S : mS) : Option (Int32 × mS) := mRc 6 v0 S (mC (f_X6_refuseBad v0 (-2) S) (fun r4 S5 => some (r4, S5)))
noncomputable def f_X6_gives (v0 : Int32) (v1 : Int32) (v2 : Int32) (v3 : Int32) (S : mS) : Option (Int32 × mS) := mGr 6 0 v0 S (fun r1 => mGr 5 0 r1 S (fun r2 => mRc 1 r2 S (mCp (f_X1_hasSheep r2 v1 S) (fun r3 => if r3 = 0 then ((f_X6_gives_35) v0 S) else (mGr 6 0 v0 S (fun r6 => mGr 5 0 r6 S (fun r7 => mRc 1 r7 S (mCp (f_X1_hasWhistle r7 v2 S) (fun r8 => if r8 = 0 then ((f_X6_gives_35) v0 S) else (mCp (f_X6_isCall v3) (fun r9 => if r9 = 0 then ((f_X6_gives_35) v0 S) else (mGr 6 0 v0 S (fun r10 => mGr 5 0 r10 S (fun r11 => mRc 1 r11 S (mCp (f_X1_sheepTo r11 v1 v2 v3 S) (fun r12 => some (r12, S)))))))))))))))))
def rm_X6_gives : Room := { frames := 4, cells := 0, slots := 0, locals := 88 }
set_option maxRecDepth 100000 in
set_option maxHeartbeats 4000000 in
theorem bl_X6_gives_35 {p : Program} {l : Launch} {e : Env} {s : State} {m : MethodId} {args : Array Value} {below : List Frame} {meth : Method} {c : Code} {E : mE} {n0 : Nat} {F : Int32 × mS} (C : mCx p s m args meth c cX6_gives 4 RX6 (some .int) E n0) : ∀  (v0 : Int32) (S : mS) (H : Heap) (locs : List Loc) (ls : Array Slot), f_X6_gives_35 v0 S = some F → mIv s E S H locs 0 → lv_has ls 4 [(0, .ref (mA E.b v0))] → W p l e rm_X6_gives s m args below meth c H locs 0 0 (mQi below args s 0 0 n0 E F) (F0 m 35 ls []) := by
  have hx := C.1
  have hb := C.2.1
  intro v0 S H locs ls hF hI hl
  refine lv_aload_n hx hb dX6_gives_35 rfl (lv_at hl 0 rfl) ?_
  refine lv_bipush (v := (-2)) hx hb dX6_gives_36 (by decide) ?_
  refine m_callVi C cd_X6_72 ⟨rfl, by decide⟩ hl.1 hI hF (fun _ h => ok_X6_refuseBad h) rfl rfl ⟨rfl, rfl, Nat.le_of_ble_eq_true rfl, Nat.le_of_ble_eq_true rfl⟩ ⟨Nat.le_of_ble_eq_true rfl, Nat.le_of_ble_eq_true rfl⟩ (Nat.le_of_ble_eq_true rfl) dX6_gives_38 (fun r4 S5 H locs hF hI => ?_)
  exact m_ireti C hI hF dX6_gives_41
set_option maxRecDepth 100000 in
set_option maxHeartbeats 4000000 in
theorem ok_X6_gives {l : Launch} {E : mE} {v0 : Int32} {v1 : Int32} {v2 : Int32} {v3 : Int32} {S : mS} {F : Int32 × mS} (hF : f_X6_gives v0 v1 v2 v3 S = some F) : mMi l yX6_gives cX6_gives 4 (some .int) rm_X6_gives 0 0 [.ref (mA E.b v0), .int v1, .int v2, .int v3] E S F := by
  refine m_met_i (by decide) (Nat.le_of_ble_eq_true rfl) (fun p e s m args below meth c ls hin C hI hl => ?_)
  have hx := C.1
  have hb := C.2.1
  have hl : lv_has ls 4 [(0, .ref (mA E.b v0)), (1, .int v1), (2, .int v2), (3, .int v3)] := hl
  generalize s.heap = H at hI ⊢
  generalize ([] : List Loc) = locs at hI ⊢
  refine lv_aload_n hx hb dX6_gives_0 rfl (lv_at hl 0 rfl) ?_
  refine m_getR C fd_X6_12 hI hF dX6_gives_1 (fun r1 hF => ?_)
  refine m_getR C fd_X6_76 hI hF dX6_gives_4 (fun r2 hF => ?_)
  refine lv_iload_n hx hb dX6_gives_7 rfl (lv_at hl 1 rfl) ?_
  refine m_callViR C cd_X6_167 ⟨rfl, by decide⟩ hl.1 hI hF (fun _ h => ok_X1_hasSheep h) rfl rfl ⟨rfl, rfl, Nat.le_of_ble_eq_true rfl, Nat.le_of_ble_eq_true rfl⟩ ⟨Nat.le_of_ble_eq_true rfl, Nat.le_of_ble_eq_true rfl⟩ (Nat.le_of_ble_eq_true rfl) dX6_gives_8 (fun r3 H locs hF hI => ?_)
  refine m_if_eq C (tgt := 35) hF dX6_gives_11 (by decide) (fun hF => ?_) (fun hF => ?_)
  · exact (bl_X6_gives_35 C) v0 S _ _ _ hF hI (lv_sub hl [0] rfl)
  · refine lv_aload_n hx hb dX6_gives_14 rfl (lv_at hl 0 rfl) ?_
    refine m_getR C fd_X6_12 hI hF dX6_gives_15 (fun r6 hF => ?_)
    refine m_getR C fd_X6_76 hI hF dX6_gives_18 (fun r7 hF => ?_)
    refine lv_iload_n hx hb dX6_gives_21 rfl (lv_at hl 2 rfl) ?_
    refine m_callViR C cd_X6_134 ⟨rfl, by decide⟩ hl.1 hI hF (fun _ h => ok_X1_hasWhistle h) rfl rfl ⟨rfl, rfl, Nat.le_of_ble_eq_true rfl, Nat.le_of_ble_eq_true rfl⟩ ⟨Nat.le_of_ble_eq_true rfl, Nat.le_of_ble_eq_true rfl⟩ (Nat.le_of_ble_eq_true rfl) dX6_gives_22 (fun r8 H locs hF hI => ?_)
    refine m_if_eq C (tgt := 35) hF dX6_gives_25 (by decide) (fun hF => ?_) (fun hF => ?_)
    · exact (bl_X6_gives_35 C) v0 S _ _ _ hF hI (lv_sub hl [0] rfl)
    · refine lv_iload_n hx hb dX6_gives_28 rfl (lv_at hl 3 rfl) ?_
      refine m_callSiR C cd_X6_137 hl.1 hI hF (fun _ h => ok_X6_isCall h) rfl rfl ⟨rfl, rfl, Nat.le_of_ble_eq_true rfl, Nat.le_of_ble_eq_true rfl⟩ ⟨Nat.le_of_ble_eq_true rfl, Nat.le_of_ble_eq_true rfl⟩ (Nat.le_of_ble_eq_true rfl) dX6_gives_29 (fun r9 H locs hF hI => ?_)
      refine m_if_ne C (tgt := 42) hF dX6_gives_32 (by decide) (fun hF => ?_) (fun hF => ?_)
      · refine lv_aload_n hx hb dX6_gives_42 rfl (lv_at hl 0 rfl) ?_
        refine m_getR C fd_X6_12 hI hF dX6_gives_43 (fun r10 hF => ?_)
        refine m_getR C fd_X6_76 hI hF dX6_gives_46 (fun r11 hF => ?_)
        refine lv_iload_n hx hb dX6_gives_49 rfl (lv_at hl 1 rfl) ?_
        refine lv_iload_n hx hb dX6_gives_50 rfl (lv_at hl 2 rfl) ?_
        refine lv_iload_n hx hb dX6_gives_51 rfl (lv_at hl 3 rfl) ?_
        refine m_callViR C cd_X6_182 ⟨rfl, by decide⟩ hl.1 hI hF (fun _ h => ok_X1_sheepTo h) rfl rfl ⟨rfl, rfl, Nat.le_of_ble_eq_true rfl, Nat.le_of_ble_eq_true rfl⟩ ⟨Nat.le_of_ble_eq_true rfl, Nat.le_of_ble_eq_true rfl⟩ (Nat.le_of_ble_eq_true rfl) dX6_gives_52 (fun r12 H locs hF hI => ?_)
        exact m_ireti C hI hF dX6_gives_55
      · exact (bl_X6_gives_35 C) v0 S _ _ _ hF hI (lv_sub hl [0] rfl)
noncomputable def f_X6_folded (v0 : Int32) (S : mS) : Option Int32 := mGr 6 0 v0 S (fun r1 => mGr 5 0 r1 S (fun r2 => mGr 6 0 v0 S (fun r3 => mG 5 5 r3 S (fun r4 => mRc 1 r2 S (mCp (f_X1_sheepIn r2 r4 S) (fun r5 => some r5))))))
def rm_X6_folded : Room := { frames := 1, cells := 0, slots := 0, locals := 23 }
set_option maxRecDepth 100000 in
set_option maxHeartbeats 4000000 in
theorem ok_X6_folded {l : Launch} {E : mE} {v0 : Int32} {S : mS} {r : Int32} (hF : f_X6_folded v0 S = some r) : mMi l yX6_folded cX6_folded 1 (some .int) rm_X6_folded 0 0 [.ref (mA E.b v0)] E S (r, S) := by
  refine m_met_i (by decide) (Nat.le_of_ble_eq_true rfl) (fun p e s m args below meth c ls hin C hI hl => ?_)
  have hx := C.1
  have hb := C.2.1
  have hl : lv_has ls 1 [(0, .ref (mA E.b v0))] := hl
  generalize s.heap = H at hI ⊢
  generalize ([] : List Loc) = locs at hI ⊢
  refine lv_aload_n hx hb dX6_folded_0 rfl (lv_at hl 0 rfl) ?_
  refine m_getR C fd_X6_12 hI hF dX6_folded_1 (fun r1 hF => ?_)
  refine m_getR C fd_X6_76 hI hF dX6_folded_4 (fun r2 hF => ?_)
  refine lv_aload_n hx hb dX6_folded_7 rfl (lv_at hl 0 rfl) ?_
  refine m_getR C fd_X6_12 hI hF dX6_folded_8 (fun r3 hF => ?_)
  refine m_get C fd_X6_112 hI hF dX6_folded_11 (fun r4 hF => ?_)
  refine m_callViR C cd_X6_186 ⟨rfl, by decide⟩ hl.1 hI hF (fun _ h => ok_X1_sheepIn h) rfl rfl ⟨rfl, rfl, Nat.le_of_ble_eq_true rfl, Nat.le_of_ble_eq_true rfl⟩ ⟨Nat.le_of_ble_eq_true rfl, Nat.le_of_ble_eq_true rfl⟩ (Nat.le_of_ble_eq_true rfl) dX6_folded_14 (fun r5 H locs hF hI => ?_)
  exact m_iretiR C hI hF dX6_folded_17
noncomputable def f_X6_drive_59 (v0 : Int32) (S : mS) : Option (Int32 × mS) := mRc 6 v0 S (mC (f_X6_refuseBad v0 (-10) S) (fun r4 S5 => some (r4, S5)))
noncomputable def f_X6_drive_99 (v6 : Int32) (S : mS) : Option (Int32 × mS) := some (v6, S)
noncomputable def f_X6_drive_126 (t0 : Int32) (S : mS) : Option (Int32 × mS) := some (t0, S)
noncomputable def f_X6_drive_17 (v0 : Int32) (v1 : Int32) (v2 : Int32) (v3 : Int32) (v4 : Int32) (t0 : Int32) (S : mS) : Option (Int32 × mS) := mGr 6 0 v0 S (fun r1 => mGr 5 0 r1 S (fun r2 => mRc 1 r2 S (mCp (f_X1_hasSheep r2 v1 S) (fun r3 => if r3 = 0 then ((f_X6_drive_59) v0 S) else (mGr 6 0 v0 S (fun r6 => mGr 5 0 r6 S (fun r7 => mRc 1 r7 S (mCp (f_X1_hasWhistle r7 v2 S) (fun r8 => if r8 = 0 then ((f_X6_drive_59) v0 S) else (mCp (f_X6_isCell v3) (fun r9 => if r9 = 0 then ((f_X6_drive_59) v0 S) else (if t0 = 0 then ((f_X6_drive_59) v0 S) else (mGr 6 5 v0 S (fun r10 => mGr 6 0 v0 S (fun r11 => mGr 5 0 r11 S (fun r12 => mRc 0 r10 S (mC (f_X0_shortest r10 r12 v1 v2 v3 S) (fun r13 S14 => if r13 = (-6) then ((f_X6_drive_99) r13 S14) else (if v4 = (-2) then ((f_X6_drive_99) r13 S14) else (if r13 ≤ v4 then ((f_X6_drive_126) (-5) S14) else (mGr 6 5 v0 S14 (fun r15 => mRc 0 r15 S14 (mC (f_X0_callAt r15 v4 r13 v3 S14) (fun r16 S17 => (f_X6_drive_126) r16 S17))))))))))))))))))))))))
noncomputable def f_X6_drive_12 (v0 : Int32) (v1 : Int32) (v2 : Int32) (v3 : Int32) (v4 : Int32) (S : mS) : Option (Int32 × mS) := (f_X6_drive_17) v0 v1 v2 v3 v4 1 S
noncomputable def f_X6_drive (v0 : Int32) (v1 : Int32) (v2 : Int32) (v3 : Int32) (v4 : Int32) (S : mS) : Option (Int32 × mS) := if v4 = (-2) then ((f_X6_drive_12) v0 v1 v2 v3 v4 S) else (if v4 < 0 then ((f_X6_drive_17) v0 v1 v2 v3 v4 0 S) else ((f_X6_drive_12) v0 v1 v2 v3 v4 S))
def rm_X6_drive : Room := { frames := 5, cells := 0, slots := 0, locals := 112 }
set_option maxRecDepth 100000 in
set_option maxHeartbeats 4000000 in
theorem bl_X6_drive_59 {p : Program} {l : Launch} {e : Env} {s : State} {m : MethodId} {args : Array Value} {below : List Frame} {meth : Method} {c : Code} {E : mE} {n0 : Nat} {F : Int32 × mS} (C : mCx p s m args meth c cX6_drive 7 RX6 (some .int) E n0) : ∀  (v0 : Int32) (S : mS) (H : Heap) (locs : List Loc) (ls : Array Slot), f_X6_drive_59 v0 S = some F → mIv s E S H locs 0 → lv_has ls 7 [(0, .ref (mA E.b v0))] → W p l e rm_X6_drive s m args below meth c H locs 0 0 (mQi below args s 0 0 n0 E F) (F0 m 59 ls []) := by
  have hx := C.1
  have hb := C.2.1
  intro v0 S H locs ls hF hI hl
  refine lv_aload_n hx hb dX6_drive_59 rfl (lv_at hl 0 rfl) ?_
  refine lv_bipush (v := (-10)) hx hb dX6_drive_60 (by decide) ?_
  refine m_callVi C cd_X6_72 ⟨rfl, by decide⟩ hl.1 hI hF (fun _ h => ok_X6_refuseBad h) rfl rfl ⟨rfl, rfl, Nat.le_of_ble_eq_true rfl, Nat.le_of_ble_eq_true rfl⟩ ⟨Nat.le_of_ble_eq_true rfl, Nat.le_of_ble_eq_true rfl⟩ (Nat.le_of_ble_eq_true rfl) dX6_drive_62 (fun r4 S5 H locs hF hI => ?_)
  exact m_ireti C hI hF dX6_drive_65
set_option maxRecDepth 100000 in
set_option maxHeartbeats 4000000 in
theorem bl_X6_drive_99 {p : Program} {l : Launch} {e : Env} {s : State} {m : MethodId} {args : Array Value} {below : List Frame} {meth : Method} {c : Code} {E : mE} {n0 : Nat} {F : Int32 × mS} (C : mCx p s m args meth c cX6_drive 7 RX6 (some .int) E n0) : ∀  (v6 : Int32) (S : mS) (H : Heap) (locs : List Loc) (ls : Array Slot), f_X6_drive_99 v6 S = some F → mIv s E S H locs 0 → lv_has ls 7 [(6, .int v6)] → W p l e rm_X6_drive s m args below meth c H locs 0 0 (mQi below args s 0 0 n0 E F) (F0 m 99 ls []) := by
  have hx := C.1
  have hb := C.2.1
  intro v6 S H locs ls hF hI hl
  refine lv_iload hx hb dX6_drive_99 (lv_at hl 0 rfl) ?_
  exact m_ireti C hI hF dX6_drive_101
set_option maxRecDepth 100000 in
set_option maxHeartbeats 4000000 in
theorem bl_X6_drive_126 {p : Program} {l : Launch} {e : Env} {s : State} {m : MethodId} {args : Array Value} {below : List Frame} {meth : Method} {c : Code} {E : mE} {n0 : Nat} {F : Int32 × mS} (C : mCx p s m args meth c cX6_drive 7 RX6 (some .int) E n0) : ∀  (t0 : Int32) (S : mS) (H : Heap) (locs : List Loc) (ls : Array Slot), f_X6_drive_126 t0 S = some F → mIv s E S H locs 0 → lv_has ls 7 [] → W p l e rm_X6_drive s m args below meth c H locs 0 0 (mQi below args s 0 0 n0 E F) (F0 m 126 ls [.int t0]) := by
  have hx := C.1
  have hb := C.2.1
  intro t0 S H locs ls hF hI hl
  exact m_ireti C hI hF dX6_drive_126
set_option maxRecDepth 100000 in
set_option maxHeartbeats 4000000 in
theorem bl_X6_drive_17 {p : Program} {l : Launch} {e : Env} {s : State} {m : MethodId} {args : Array Value} {below : List Frame} {meth : Method} {c : Code} {E : mE} {n0 : Nat} {F : Int32 × mS} (C : mCx p s m args meth c cX6_drive 7 RX6 (some .int) E n0) : ∀  (v0 : Int32) (v1 : Int32) (v2 : Int32) (v3 : Int32) (v4 : Int32) (t0 : Int32) (S : mS) (H : Heap) (locs : List Loc) (ls : Array Slot), f_X6_drive_17 v0 v1 v2 v3 v4 t0 S = some F → mIv s E S H locs 0 → lv_has ls 7 [(0, .ref (mA E.b v0)), (1, .int v1), (2, .int v2), (3, .int v3), (4, .int v4)] → W p l e rm_X6_drive s m args below meth c H locs 0 0 (mQi below args s 0 0 n0 E F) (F0 m 17 ls [.int t0]) := by
  have hx := C.1
  have hb := C.2.1
  intro v0 v1 v2 v3 v4 t0 S H locs ls hF hI hl
  refine lv_istore (lv' := [(5, .int t0), (0, .ref (mA E.b v0)), (1, .int v1), (2, .int v2), (3, .int v3), (4, .int v4)]) hx hb dX6_drive_17 hl (by decide) rfl (fun ls hl => ?_)
  refine lv_aload_n hx hb dX6_drive_19 rfl (lv_at hl 1 rfl) ?_
  refine m_getR C fd_X6_12 hI hF dX6_drive_20 (fun r1 hF => ?_)
  refine m_getR C fd_X6_76 hI hF dX6_drive_23 (fun r2 hF => ?_)
  refine lv_iload_n hx hb dX6_drive_26 rfl (lv_at hl 2 rfl) ?_
  refine m_callViR C cd_X6_167 ⟨rfl, by decide⟩ hl.1 hI hF (fun _ h => ok_X1_hasSheep h) rfl rfl ⟨rfl, rfl, Nat.le_of_ble_eq_true rfl, Nat.le_of_ble_eq_true rfl⟩ ⟨Nat.le_of_ble_eq_true rfl, Nat.le_of_ble_eq_true rfl⟩ (Nat.le_of_ble_eq_true rfl) dX6_drive_27 (fun r3 H locs hF hI => ?_)
  refine m_if_eq C (tgt := 59) hF dX6_drive_30 (by decide) (fun hF => ?_) (fun hF => ?_)
  · exact (bl_X6_drive_59 C) v0 S _ _ _ hF hI (lv_sub hl [1] rfl)
  · refine lv_aload_n hx hb dX6_drive_33 rfl (lv_at hl 1 rfl) ?_
    refine m_getR C fd_X6_12 hI hF dX6_drive_34 (fun r6 hF => ?_)
    refine m_getR C fd_X6_76 hI hF dX6_drive_37 (fun r7 hF => ?_)
    refine lv_iload_n hx hb dX6_drive_40 rfl (lv_at hl 3 rfl) ?_
    refine m_callViR C cd_X6_134 ⟨rfl, by decide⟩ hl.1 hI hF (fun _ h => ok_X1_hasWhistle h) rfl rfl ⟨rfl, rfl, Nat.le_of_ble_eq_true rfl, Nat.le_of_ble_eq_true rfl⟩ ⟨Nat.le_of_ble_eq_true rfl, Nat.le_of_ble_eq_true rfl⟩ (Nat.le_of_ble_eq_true rfl) dX6_drive_41 (fun r8 H locs hF hI => ?_)
    refine m_if_eq C (tgt := 59) hF dX6_drive_44 (by decide) (fun hF => ?_) (fun hF => ?_)
    · exact (bl_X6_drive_59 C) v0 S _ _ _ hF hI (lv_sub hl [1] rfl)
    · refine lv_iload_n hx hb dX6_drive_47 rfl (lv_at hl 4 rfl) ?_
      refine m_callSiR C cd_X6_68 hl.1 hI hF (fun _ h => ok_X6_isCell h) rfl rfl ⟨rfl, rfl, Nat.le_of_ble_eq_true rfl, Nat.le_of_ble_eq_true rfl⟩ ⟨Nat.le_of_ble_eq_true rfl, Nat.le_of_ble_eq_true rfl⟩ (Nat.le_of_ble_eq_true rfl) dX6_drive_48 (fun r9 H locs hF hI => ?_)
      refine m_if_eq C (tgt := 59) hF dX6_drive_51 (by decide) (fun hF => ?_) (fun hF => ?_)
      · exact (bl_X6_drive_59 C) v0 S _ _ _ hF hI (lv_sub hl [1] rfl)
      · refine lv_iload hx hb dX6_drive_54 (lv_at hl 0 rfl) ?_
        refine m_if_ne C (tgt := 66) hF dX6_drive_56 (by decide) (fun hF => ?_) (fun hF => ?_)
        · refine lv_aload_n hx hb dX6_drive_66 rfl (lv_at hl 1 rfl) ?_
          refine m_getR C fd_X6_37 hI hF dX6_drive_67 (fun r10 hF => ?_)
          refine lv_aload_n hx hb dX6_drive_70 rfl (lv_at hl 1 rfl) ?_
          refine m_getR C fd_X6_12 hI hF dX6_drive_71 (fun r11 hF => ?_)
          refine m_getR C fd_X6_76 hI hF dX6_drive_74 (fun r12 hF => ?_)
          refine lv_iload_n hx hb dX6_drive_77 rfl (lv_at hl 2 rfl) ?_
          refine lv_iload_n hx hb dX6_drive_78 rfl (lv_at hl 3 rfl) ?_
          refine lv_iload_n hx hb dX6_drive_79 rfl (lv_at hl 4 rfl) ?_
          refine m_callVi C cd_X6_189 ⟨rfl, by decide⟩ hl.1 hI hF (fun _ h => ok_X0_shortest h) rfl rfl ⟨rfl, rfl, Nat.le_of_ble_eq_true rfl, Nat.le_of_ble_eq_true rfl⟩ ⟨Nat.le_of_ble_eq_true rfl, Nat.le_of_ble_eq_true rfl⟩ (Nat.le_of_ble_eq_true rfl) dX6_drive_80 (fun r13 S14 H locs hF hI => ?_)
          refine lv_istore (lv' := [(6, .int r13), (5, .int t0), (0, .ref (mA E.b v0)), (1, .int v1), (2, .int v2), (3, .int v3), (4, .int v4)]) hx hb dX6_drive_83 hl (by decide) rfl (fun ls hl => ?_)
          refine lv_iload hx hb dX6_drive_85 (lv_at hl 0 rfl) ?_
          refine lv_bipush (v := (-6)) hx hb dX6_drive_87 (by decide) ?_
          refine m_icmp_eq C (tgt := 99) hF dX6_drive_89 (by decide) (fun hF => ?_) (fun hF => ?_)
          · exact (bl_X6_drive_99 C) r13 S14 _ _ _ hF hI (lv_sub hl [0] rfl)
          · refine lv_iload hx hb dX6_drive_92 (lv_at hl 6 rfl) ?_
            refine lv_bipush (v := (-2)) hx hb dX6_drive_94 (by decide) ?_
            refine m_icmp_ne C (tgt := 102) hF dX6_drive_96 (by decide) (fun hF => ?_) (fun hF => ?_)
            · refine lv_iload hx hb dX6_drive_102 (lv_at hl 6 rfl) ?_
              refine lv_iload hx hb dX6_drive_104 (lv_at hl 0 rfl) ?_
              refine m_icmp_ge C (tgt := 124) hF dX6_drive_106 (by decide) (fun hF => ?_) (fun hF => ?_)
              · refine lv_bipush (v := (-5)) hx hb dX6_drive_124 (by decide) ?_
                exact (bl_X6_drive_126 C) (-5) S14 _ _ _ hF hI (lv_sub hl [] rfl)
              · refine lv_aload_n hx hb dX6_drive_109 rfl (lv_at hl 2 rfl) ?_
                refine m_getR C fd_X6_37 hI hF dX6_drive_110 (fun r15 hF => ?_)
                refine lv_iload hx hb dX6_drive_113 (lv_at hl 6 rfl) ?_
                refine lv_iload hx hb dX6_drive_115 (lv_at hl 0 rfl) ?_
                refine lv_iload_n hx hb dX6_drive_117 rfl (lv_at hl 5 rfl) ?_
                refine m_callVi C cd_X6_193 ⟨rfl, by decide⟩ hl.1 hI hF (fun _ h => ok_X0_callAt h) rfl rfl ⟨rfl, rfl, Nat.le_of_ble_eq_true rfl, Nat.le_of_ble_eq_true rfl⟩ ⟨Nat.le_of_ble_eq_true rfl, Nat.le_of_ble_eq_true rfl⟩ (Nat.le_of_ble_eq_true rfl) dX6_drive_118 (fun r16 S17 H locs hF hI => ?_)
                refine lv_goto (tgt := 126) hx hb dX6_drive_121 (by decide) ?_
                exact (bl_X6_drive_126 C) r16 S17 _ _ _ hF hI (lv_sub hl [] rfl)
            · exact (bl_X6_drive_99 C) r13 S14 _ _ _ hF hI (lv_sub hl [0] rfl)
        · exact (bl_X6_drive_59 C) v0 S _ _ _ hF hI (lv_sub hl [1] rfl)
set_option maxRecDepth 100000 in
set_option maxHeartbeats 4000000 in
theorem bl_X6_drive_12 {p : Program} {l : Launch} {e : Env} {s : State} {m : MethodId} {args : Array Value} {below : List Frame} {meth : Method} {c : Code} {E : mE} {n0 : Nat} {F : Int32 × mS} (C : mCx p s m args meth c cX6_drive 7 RX6 (some .int) E n0) : ∀  (v0 : Int32) (v1 : Int32) (v2 : Int32) (v3 : Int32) (v4 : Int32) (S : mS) (H : Heap) (locs : List Loc) (ls : Array Slot), f_X6_drive_12 v0 v1 v2 v3 v4 S = some F → mIv s E S H locs 0 → lv_has ls 7 [(0, .ref (mA E.b v0)), (1, .int v1), (2, .int v2), (3, .int v3), (4, .int v4)] → W p l e rm_X6_drive s m args below meth c H locs 0 0 (mQi below args s 0 0 n0 E F) (F0 m 12 ls []) := by
  have hx := C.1
  have hb := C.2.1
  intro v0 v1 v2 v3 v4 S H locs ls hF hI hl
  refine lv_iconst (v := 1) hx hb dX6_drive_12 (by decide) ?_
  refine lv_goto (tgt := 17) hx hb dX6_drive_13 (by decide) ?_
  exact (bl_X6_drive_17 C) v0 v1 v2 v3 v4 1 S _ _ _ hF hI (lv_sub hl [0, 1, 2, 3, 4] rfl)
set_option maxRecDepth 100000 in
set_option maxHeartbeats 4000000 in
theorem ok_X6_drive {l : Launch} {E : mE} {v0 : Int32} {v1 : Int32} {v2 : Int32} {v3 : Int32} {v4 : Int32} {S : mS} {F : Int32 × mS} (hF : f_X6_drive v0 v1 v2 v3 v4 S = some F) : mMi l yX6_drive cX6_drive 7 (some .int) rm_X6_drive 0 0 [.ref (mA E.b v0), .int v1, .int v2, .int v3, .int v4] E S F := by
  refine m_met_i (by decide) (Nat.le_of_ble_eq_true rfl) (fun p e s m args below meth c ls hin C hI hl => ?_)
  have hx := C.1
  have hb := C.2.1
  have hl : lv_has ls 7 [(0, .ref (mA E.b v0)), (1, .int v1), (2, .int v2), (3, .int v3), (4, .int v4)] := hl
  generalize s.heap = H at hI ⊢
  generalize ([] : List Loc) = locs at hI ⊢
  refine lv_iload hx hb dX6_drive_0 (lv_at hl 4 rfl) ?_
  refine lv_bipush (v := (-2)) hx hb dX6_drive_2 (by decide) ?_
  refine m_icmp_eq C (tgt := 12) hF dX6_drive_4 (by decide) (fun hF => ?_) (fun hF => ?_)
  · exact (bl_X6_drive_12 C) v0 v1 v2 v3 v4 S _ _ _ hF hI (lv_sub hl [0, 1, 2, 3, 4] rfl)
  · refine lv_iload hx hb dX6_drive_7 (lv_at hl 4 rfl) ?_
    refine m_if_lt C (tgt := 16) hF dX6_drive_9 (by decide) (fun hF => ?_) (fun hF => ?_)
    · refine lv_iconst (v := 0) hx hb dX6_drive_16 (by decide) ?_
      exact (bl_X6_drive_17 C) v0 v1 v2 v3 v4 0 S _ _ _ hF hI (lv_sub hl [0, 1, 2, 3, 4] rfl)
    · exact (bl_X6_drive_12 C) v0 v1 v2 v3 v4 S _ _ _ hF hI (lv_sub hl [0, 1, 2, 3, 4] rfl)
noncomputable def f_X6_firstLeast_31 (k12 : Int32 → Int32 → Int32 → Int32 → Option Int32) (S : mS) (v0 : Int32) (v2 : Int32) (v3 : Int32) (v4 : Int32) : Option Int32 := k12 v0 v2 v3 (v4 + 1)
noncomputable def f_X6_firstLeast_12 (k37 : Int32 → Option Int32) (S : mS) : Nat → Int32 → Int32 → Int32 → Int32 → Option Int32 := fun n => Nat.rec (motive := fun _ => Int32 → Int32 → Int32 → Int32 → Option Int32) (fun _ _ _ _ => none) (fun _ rec v0 v2 v3 v4 => if v2 ≤ v4 then (k37 v3) else (mX 8 v0 v4 S (fun r2 => mX 8 v0 v3 S (fun r3 => if r3 ≤ r2 then ((f_X6_firstLeast_31 rec S) v0 v2 v3 v4) else ((f_X6_firstLeast_31 rec S) v0 v2 v4 v4))))) n
theorem f_X6_firstLeast_12_s (k37 : Int32 → Option Int32) (S : mS) (n : Nat) (v0 : Int32) (v2 : Int32) (v3 : Int32) (v4 : Int32) : f_X6_firstLeast_12 k37 S (n + 1) v0 v2 v3 v4 = if v2 ≤ v4 then (k37 v3) else (mX 8 v0 v4 S (fun r2 => mX 8 v0 v3 S (fun r3 => if r3 ≤ r2 then ((f_X6_firstLeast_31 (f_X6_firstLeast_12 k37 S n) S) v0 v2 v3 v4) else ((f_X6_firstLeast_31 (f_X6_firstLeast_12 k37 S n) S) v0 v2 v4 v4)))) := rfl
noncomputable def f_X6_firstLeast_37 (S : mS) (v3 : Int32) : Option Int32 := some v3
noncomputable def f_X6_firstLeast (v0 : Int32) (v1 : Int32) (S : mS) : Option Int32 := mLe 8 v0 S (fun r1 => (f_X6_firstLeast_12 (f_X6_firstLeast_37 S) S 1000) v0 (mMin v1 r1) 0 1)
def rm_X6_firstLeast : Room := { frames := 1, cells := 0, slots := 0, locals := 13 }
set_option maxRecDepth 100000 in
set_option maxHeartbeats 4000000 in
theorem bl_X6_firstLeast_31 {p : Program} {l : Launch} {e : Env} {s : State} {m : MethodId} {args : Array Value} {below : List Frame} {meth : Method} {c : Code} {E : mE} {n0 : Nat} {r : Int32} {S : mS} (C : mCx p s m args meth c cX6_firstLeast 5 RX6 (some .int) E n0) {k12 : Int32 → Int32 → Int32 → Int32 → Option Int32} (hk12 : ∀ (v0 : Int32) (v2 : Int32) (v3 : Int32) (v4 : Int32) (H : Heap) (locs : List Loc) (ls : Array Slot), k12 v0 v2 v3 v4 = some r → mIv s E S H locs 0 → lv_has ls 5 [(0, .ref (mA E.b v0)), (2, .int v2), (3, .int v3), (4, .int v4)] → W p l e rm_X6_firstLeast s m args below meth c H locs 0 0 (mQi below args s 0 0 n0 E (r, S)) (F0 m 12 ls [])) : ∀  (v0 : Int32) (v2 : Int32) (v3 : Int32) (v4 : Int32) (H : Heap) (locs : List Loc) (ls : Array Slot), f_X6_firstLeast_31 k12 S v0 v2 v3 v4 = some r → mIv s E S H locs 0 → lv_has ls 5 [(0, .ref (mA E.b v0)), (2, .int v2), (3, .int v3), (4, .int v4)] → W p l e rm_X6_firstLeast s m args below meth c H locs 0 0 (mQi below args s 0 0 n0 E (r, S)) (F0 m 31 ls []) := by
  have hx := C.1
  have hb := C.2.1
  intro v0 v2 v3 v4 H locs ls hF hI hl
  refine lv_iinc (v := v4 + 1) (lv' := [(4, .int (v4 + 1)), (0, .ref (mA E.b v0)), (2, .int v2), (3, .int v3)]) hx hb dX6_firstLeast_31 hl (k := 3) rfl rfl (by decide) rfl (fun ls hl => ?_)
  refine lv_goto (tgt := 12) hx hb dX6_firstLeast_34 (by decide) ?_
  exact hk12 v0 v2 v3 (v4 + 1) _ _ _ hF hI (lv_sub hl [1, 2, 3, 0] rfl)
set_option maxRecDepth 100000 in
set_option maxHeartbeats 4000000 in
theorem bl_X6_firstLeast_12 {p : Program} {l : Launch} {e : Env} {s : State} {m : MethodId} {args : Array Value} {below : List Frame} {meth : Method} {c : Code} {E : mE} {n0 : Nat} {r : Int32} {S : mS} (C : mCx p s m args meth c cX6_firstLeast 5 RX6 (some .int) E n0) {k37 : Int32 → Option Int32} (hk37 : ∀ (v3 : Int32) (H : Heap) (locs : List Loc) (ls : Array Slot), k37 v3 = some r → mIv s E S H locs 0 → lv_has ls 5 [(3, .int v3)] → W p l e rm_X6_firstLeast s m args below meth c H locs 0 0 (mQi below args s 0 0 n0 E (r, S)) (F0 m 37 ls [])) : ∀ (n : Nat)  (v0 : Int32) (v2 : Int32) (v3 : Int32) (v4 : Int32) (H : Heap) (locs : List Loc) (ls : Array Slot), f_X6_firstLeast_12 k37 S n v0 v2 v3 v4 = some r → mIv s E S H locs 0 → lv_has ls 5 [(0, .ref (mA E.b v0)), (2, .int v2), (3, .int v3), (4, .int v4)] → W p l e rm_X6_firstLeast s m args below meth c H locs 0 0 (mQi below args s 0 0 n0 E (r, S)) (F0 m 12 ls []) := by
  have hx := C.1
  have hb := C.2.1
  intro n
  induction n with
  | zero =>
    intro v0 v2 v3 v4 H locs ls hF
    exact nomatch (show (none : Option Int32) = some r from hF)
  | succ n ih =>
    intro v0 v2 v3 v4 H locs ls hF hI hl
    have hF := (f_X6_firstLeast_12_s k37 S n v0 v2 v3 v4).symm.trans hF
    refine lv_iload hx hb dX6_firstLeast_12 (lv_at hl 3 rfl) ?_
    refine lv_iload_n hx hb dX6_firstLeast_14 rfl (lv_at hl 1 rfl) ?_
    refine m_icmp_ge C (tgt := 37) hF dX6_firstLeast_15 (by decide) (fun hF => ?_) (fun hF => ?_)
    · exact hk37 v3 _ _ _ hF hI (lv_sub hl [2] rfl)
    · refine lv_aload_n hx hb dX6_firstLeast_18 rfl (lv_at hl 0 rfl) ?_
      refine lv_iload hx hb dX6_firstLeast_19 (lv_at hl 3 rfl) ?_
      refine m_iald C hI hF dX6_firstLeast_21 (fun r2 hF => ?_)
      refine lv_aload_n hx hb dX6_firstLeast_22 rfl (lv_at hl 0 rfl) ?_
      refine lv_iload_n hx hb dX6_firstLeast_23 rfl (lv_at hl 2 rfl) ?_
      refine m_iald C hI hF dX6_firstLeast_24 (fun r3 hF => ?_)
      refine m_icmp_ge C (tgt := 31) hF dX6_firstLeast_25 (by decide) (fun hF => ?_) (fun hF => ?_)
      · exact (bl_X6_firstLeast_31 C (k12 := (f_X6_firstLeast_12 k37 S n)) ih) v0 v2 v3 v4 _ _ _ hF hI (lv_sub hl [0, 1, 2, 3] rfl)
      · refine lv_iload hx hb dX6_firstLeast_28 (lv_at hl 3 rfl) ?_
        refine lv_istore_n (lv' := [(3, .int v4), (0, .ref (mA E.b v0)), (2, .int v2), (4, .int v4)]) hx hb dX6_firstLeast_30 rfl hl (by decide) rfl (fun ls hl => ?_)
        exact (bl_X6_firstLeast_31 C (k12 := (f_X6_firstLeast_12 k37 S n)) ih) v0 v2 v4 v4 _ _ _ hF hI (lv_sub hl [1, 2, 0, 3] rfl)
set_option maxRecDepth 100000 in
set_option maxHeartbeats 4000000 in
theorem bl_X6_firstLeast_37 {p : Program} {l : Launch} {e : Env} {s : State} {m : MethodId} {args : Array Value} {below : List Frame} {meth : Method} {c : Code} {E : mE} {n0 : Nat} {r : Int32} {S : mS} (C : mCx p s m args meth c cX6_firstLeast 5 RX6 (some .int) E n0) : ∀  (v3 : Int32) (H : Heap) (locs : List Loc) (ls : Array Slot), f_X6_firstLeast_37 S v3 = some r → mIv s E S H locs 0 → lv_has ls 5 [(3, .int v3)] → W p l e rm_X6_firstLeast s m args below meth c H locs 0 0 (mQi below args s 0 0 n0 E (r, S)) (F0 m 37 ls []) := by
  have hx := C.1
  have hb := C.2.1
  intro v3 H locs ls hF hI hl
  refine lv_iload_n hx hb dX6_firstLeast_37 rfl (lv_at hl 0 rfl) ?_
  exact m_iretiR C hI hF dX6_firstLeast_38
set_option maxRecDepth 100000 in
set_option maxHeartbeats 4000000 in
theorem ok_X6_firstLeast {l : Launch} {E : mE} {v0 : Int32} {v1 : Int32} {S : mS} {r : Int32} (hF : f_X6_firstLeast v0 v1 S = some r) : mMi l yX6_firstLeast cX6_firstLeast 5 (some .int) rm_X6_firstLeast 0 0 [.ref (mA E.b v0), .int v1] E S (r, S) := by
  refine m_met_i (by decide) (Nat.le_of_ble_eq_true rfl) (fun p e s m args below meth c ls hin C hI hl => ?_)
  have hx := C.1
  have hb := C.2.1
  have hl : lv_has ls 5 [(0, .ref (mA E.b v0)), (1, .int v1)] := hl
  generalize s.heap = H at hI ⊢
  generalize ([] : List Loc) = locs at hI ⊢
  refine lv_iload_n hx hb dX6_firstLeast_0 rfl (lv_at hl 1 rfl) ?_
  refine lv_aload_n hx hb dX6_firstLeast_1 rfl (lv_at hl 0 rfl) ?_
  refine m_alen C hI hF dX6_firstLeast_2 (fun r1 hF => ?_)
  refine m_min C mw_X6_150 hl.1 (Nat.le_of_ble_eq_true rfl) (Nat.le_of_ble_eq_true rfl) (Nat.le_of_ble_eq_true rfl) (Nat.le_of_ble_eq_true rfl) dX6_firstLeast_3 ?_
  refine lv_istore_n (lv' := [(2, .int (mMin v1 r1)), (0, .ref (mA E.b v0)), (1, .int v1)]) hx hb dX6_firstLeast_6 rfl hl (by decide) rfl (fun ls hl => ?_)
  refine lv_iconst (v := 0) hx hb dX6_firstLeast_7 (by decide) ?_
  refine lv_istore_n (lv' := [(3, .int 0), (2, .int (mMin v1 r1)), (0, .ref (mA E.b v0)), (1, .int v1)]) hx hb dX6_firstLeast_8 rfl hl (by decide) rfl (fun ls hl => ?_)
  refine lv_iconst (v := 1) hx hb dX6_firstLeast_9 (by decide) ?_
  refine lv_istore (lv' := [(4, .int 1), (3, .int 0), (2, .int (mMin v1 r1)), (0, .ref (mA E.b v0)), (1, .int v1)]) hx hb dX6_firstLeast_10 hl (by decide) rfl (fun ls hl => ?_)
  exact (bl_X6_firstLeast_12 C (k37 := (f_X6_firstLeast_37 S)) (bl_X6_firstLeast_37 C) 1000) v0 (mMin v1 r1) 0 1 _ _ _ hF hI (lv_sub hl [3, 2, 1, 0] rfl)
noncomputable def f_X6_near_23 (v0 : Int32) (S : mS) : Option (Int32 × mS) := mRc 6 v0 S (mC (f_X6_refuseBad v0 (-2) S) (fun r4 S5 => some (r4, S5)))
noncomputable def f_X6_near_32 (k87 : Int32 → Int32 → mS → Option (Int32 × mS)) : Nat → Int32 → Int32 → Int32 → Int32 → mS → Option (Int32 × mS) := fun n => Nat.rec (motive := fun _ => Int32 → Int32 → Int32 → Int32 → mS → Option (Int32 × mS)) (fun _ _ _ _ _ => none) (fun _ rec v0 v1 v2 v3 S => if 5 ≤ v3 then (k87 v0 v2 S) else (mGr 6 6 v0 S (fun r7 => mGr 6 0 v0 S (fun r8 => mGr 5 0 r8 S (fun r9 => mRc 1 r7 S (mCv (f_X1_copy r7 r9 S) (fun S11 => mGr 6 6 v0 S11 (fun r12 => mRc 1 r12 S11 (mC (f_X1_call r12 v1 v3 S11) (fun r13 S14 => mGr 6 10 v0 S14 (fun r15 => mGr 6 6 v0 S14 (fun r16 => mGr 6 0 v0 S14 (fun r17 => mG 5 5 r17 S14 (fun r18 => mRc 1 r16 S14 (mCp (f_X1_farTogether r16 r18 S14) (fun r19 => mXs r15 v3 r19 S14 (fun S20 => rec v0 v1 v2 (v3 + 1) S20))))))))))))))))) n
theorem f_X6_near_32_s (k87 : Int32 → Int32 → mS → Option (Int32 × mS)) (n : Nat) (v0 : Int32) (v1 : Int32) (v2 : Int32) (v3 : Int32) (S : mS) : f_X6_near_32 k87 (n + 1) v0 v1 v2 v3 S = if 5 ≤ v3 then (k87 v0 v2 S) else (mGr 6 6 v0 S (fun r7 => mGr 6 0 v0 S (fun r8 => mGr 5 0 r8 S (fun r9 => mRc 1 r7 S (mCv (f_X1_copy r7 r9 S) (fun S11 => mGr 6 6 v0 S11 (fun r12 => mRc 1 r12 S11 (mC (f_X1_call r12 v1 v3 S11) (fun r13 S14 => mGr 6 10 v0 S14 (fun r15 => mGr 6 6 v0 S14 (fun r16 => mGr 6 0 v0 S14 (fun r17 => mG 5 5 r17 S14 (fun r18 => mRc 1 r16 S14 (mCp (f_X1_farTogether r16 r18 S14) (fun r19 => mXs r15 v3 r19 S14 (fun S20 => (f_X6_near_32 k87 n) v0 v1 v2 (v3 + 1) S20)))))))))))))))) := rfl
noncomputable def f_X6_near_110 (t0 : Int32) (S : mS) : Option (Int32 × mS) := some (t0, S)
noncomputable def f_X6_near_87 (v0 : Int32) (v2 : Int32) (S : mS) : Option (Int32 × mS) := mGr 6 10 v0 S (fun r21 => mCp (f_X6_firstLeast r21 5 S) (fun r22 => if v2 = 0 then ((f_X6_near_110) r22 S) else (mGr 6 10 v0 S (fun r23 => mX 8 r23 r22 S (fun r24 => (f_X6_near_110) r24 S)))))
noncomputable def f_X6_near (v0 : Int32) (v1 : Int32) (v2 : Int32) (S : mS) : Option (Int32 × mS) := mGr 6 0 v0 S (fun r1 => mGr 5 0 r1 S (fun r2 => mRc 1 r2 S (mCp (f_X1_hasWhistle r2 v1 S) (fun r3 => if r3 = 0 then ((f_X6_near_23) v0 S) else (mCp (f_X6_isWithin v2 0 1) (fun r6 => if r6 = 0 then ((f_X6_near_23) v0 S) else ((f_X6_near_32 (f_X6_near_87) 1000) v0 v1 v2 0 S)))))))
def rm_X6_near : Room := { frames := 4, cells := 0, slots := 0, locals := 90 }
set_option maxRecDepth 100000 in
set_option maxHeartbeats 4000000 in
theorem bl_X6_near_23 {p : Program} {l : Launch} {e : Env} {s : State} {m : MethodId} {args : Array Value} {below : List Frame} {meth : Method} {c : Code} {E : mE} {n0 : Nat} {F : Int32 × mS} (C : mCx p s m args meth c cX6_near 4 RX6 (some .int) E n0) : ∀  (v0 : Int32) (S : mS) (H : Heap) (locs : List Loc) (ls : Array Slot), f_X6_near_23 v0 S = some F → mIv s E S H locs 0 → lv_has ls 4 [(0, .ref (mA E.b v0))] → W p l e rm_X6_near s m args below meth c H locs 0 0 (mQi below args s 0 0 n0 E F) (F0 m 23 ls []) := by
  have hx := C.1
  have hb := C.2.1
  intro v0 S H locs ls hF hI hl
  refine lv_aload_n hx hb dX6_near_23 rfl (lv_at hl 0 rfl) ?_
  refine lv_bipush (v := (-2)) hx hb dX6_near_24 (by decide) ?_
  refine m_callVi C cd_X6_72 ⟨rfl, by decide⟩ hl.1 hI hF (fun _ h => ok_X6_refuseBad h) rfl rfl ⟨rfl, rfl, Nat.le_of_ble_eq_true rfl, Nat.le_of_ble_eq_true rfl⟩ ⟨Nat.le_of_ble_eq_true rfl, Nat.le_of_ble_eq_true rfl⟩ (Nat.le_of_ble_eq_true rfl) dX6_near_26 (fun r4 S5 H locs hF hI => ?_)
  exact m_ireti C hI hF dX6_near_29
set_option maxRecDepth 100000 in
set_option maxHeartbeats 4000000 in
theorem bl_X6_near_32 {p : Program} {l : Launch} {e : Env} {s : State} {m : MethodId} {args : Array Value} {below : List Frame} {meth : Method} {c : Code} {E : mE} {n0 : Nat} {F : Int32 × mS} (C : mCx p s m args meth c cX6_near 4 RX6 (some .int) E n0) {k87 : Int32 → Int32 → mS → Option (Int32 × mS)} (hk87 : ∀ (v0 : Int32) (v2 : Int32) (S : mS) (H : Heap) (locs : List Loc) (ls : Array Slot), k87 v0 v2 S = some F → mIv s E S H locs 0 → lv_has ls 4 [(0, .ref (mA E.b v0)), (2, .int v2)] → W p l e rm_X6_near s m args below meth c H locs 0 0 (mQi below args s 0 0 n0 E F) (F0 m 87 ls [])) : ∀ (n : Nat)  (v0 : Int32) (v1 : Int32) (v2 : Int32) (v3 : Int32) (S : mS) (H : Heap) (locs : List Loc) (ls : Array Slot), f_X6_near_32 k87 n v0 v1 v2 v3 S = some F → mIv s E S H locs 0 → lv_has ls 4 [(0, .ref (mA E.b v0)), (1, .int v1), (2, .int v2), (3, .int v3)] → W p l e rm_X6_near s m args below meth c H locs 0 0 (mQi below args s 0 0 n0 E F) (F0 m 32 ls []) := by
  have hx := C.1
  have hb := C.2.1
  intro n
  induction n with
  | zero =>
    intro v0 v1 v2 v3 S H locs ls hF
    exact nomatch (show (none : Option (Int32 × mS)) = some F from hF)
  | succ n ih =>
    intro v0 v1 v2 v3 S H locs ls hF hI hl
    have hF := (f_X6_near_32_s k87 n v0 v1 v2 v3 S).symm.trans hF
    refine lv_iload_n hx hb dX6_near_32 rfl (lv_at hl 3 rfl) ?_
    refine lv_iconst (v := 5) hx hb dX6_near_33 (by decide) ?_
    refine m_icmp_ge C (tgt := 87) hF dX6_near_34 (by decide) (fun hF => ?_) (fun hF => ?_)
    · exact hk87 v0 v2 S _ _ _ hF hI (lv_sub hl [0, 2] rfl)
    · refine lv_aload_n hx hb dX6_near_37 rfl (lv_at hl 0 rfl) ?_
      refine m_getR C fd_X6_44 hI hF dX6_near_38 (fun r7 hF => ?_)
      refine lv_aload_n hx hb dX6_near_41 rfl (lv_at hl 0 rfl) ?_
      refine m_getR C fd_X6_12 hI hF dX6_near_42 (fun r8 hF => ?_)
      refine m_getR C fd_X6_76 hI hF dX6_near_45 (fun r9 hF => ?_)
      refine m_callVv C cd_X6_196 ⟨rfl, by decide⟩ hl.1 hI hF (fun _ h => ok_X1_copy h) rfl rfl ⟨rfl, rfl, Nat.le_of_ble_eq_true rfl, Nat.le_of_ble_eq_true rfl⟩ ⟨Nat.le_of_ble_eq_true rfl, Nat.le_of_ble_eq_true rfl⟩ (Nat.le_of_ble_eq_true rfl) dX6_near_48 (fun S11 H locs hF hI => ?_)
      refine lv_aload_n hx hb dX6_near_51 rfl (lv_at hl 0 rfl) ?_
      refine m_getR C fd_X6_44 hI hF dX6_near_52 (fun r12 hF => ?_)
      refine lv_iload_n hx hb dX6_near_55 rfl (lv_at hl 1 rfl) ?_
      refine lv_iload_n hx hb dX6_near_56 rfl (lv_at hl 3 rfl) ?_
      refine m_callVi C cd_X6_147 ⟨rfl, by decide⟩ hl.1 hI hF (fun _ h => ok_X1_call h) rfl rfl ⟨rfl, rfl, Nat.le_of_ble_eq_true rfl, Nat.le_of_ble_eq_true rfl⟩ ⟨Nat.le_of_ble_eq_true rfl, Nat.le_of_ble_eq_true rfl⟩ (Nat.le_of_ble_eq_true rfl) dX6_near_57 (fun r13 S14 H locs hF hI => ?_)
      refine lv_pop hx hb dX6_near_60 rfl ?_
      refine lv_aload_n hx hb dX6_near_61 rfl (lv_at hl 0 rfl) ?_
      refine m_getR C fd_X6_58 hI hF dX6_near_62 (fun r15 hF => ?_)
      refine lv_iload_n hx hb dX6_near_65 rfl (lv_at hl 3 rfl) ?_
      refine lv_aload_n hx hb dX6_near_66 rfl (lv_at hl 0 rfl) ?_
      refine m_getR C fd_X6_44 hI hF dX6_near_67 (fun r16 hF => ?_)
      refine lv_aload_n hx hb dX6_near_70 rfl (lv_at hl 0 rfl) ?_
      refine m_getR C fd_X6_12 hI hF dX6_near_71 (fun r17 hF => ?_)
      refine m_get C fd_X6_112 hI hF dX6_near_74 (fun r18 hF => ?_)
      refine m_callViR C cd_X6_198 ⟨rfl, by decide⟩ hl.1 hI hF (fun _ h => ok_X1_farTogether h) rfl rfl ⟨rfl, rfl, Nat.le_of_ble_eq_true rfl, Nat.le_of_ble_eq_true rfl⟩ ⟨Nat.le_of_ble_eq_true rfl, Nat.le_of_ble_eq_true rfl⟩ (Nat.le_of_ble_eq_true rfl) dX6_near_77 (fun r19 H locs hF hI => ?_)
      refine m_iast C hI hF dX6_near_80 (fun S20 H locs hF hI => ?_)
      refine lv_iinc (v := v3 + 1) (lv' := [(3, .int (v3 + 1)), (0, .ref (mA E.b v0)), (1, .int v1), (2, .int v2)]) hx hb dX6_near_81 hl (k := 3) rfl rfl (by decide) rfl (fun ls hl => ?_)
      refine lv_goto (tgt := 32) hx hb dX6_near_84 (by decide) ?_
      exact ih v0 v1 v2 (v3 + 1) S20 _ _ _ hF hI (lv_sub hl [1, 2, 3, 0] rfl)
set_option maxRecDepth 100000 in
set_option maxHeartbeats 4000000 in
theorem bl_X6_near_110 {p : Program} {l : Launch} {e : Env} {s : State} {m : MethodId} {args : Array Value} {below : List Frame} {meth : Method} {c : Code} {E : mE} {n0 : Nat} {F : Int32 × mS} (C : mCx p s m args meth c cX6_near 4 RX6 (some .int) E n0) : ∀  (t0 : Int32) (S : mS) (H : Heap) (locs : List Loc) (ls : Array Slot), f_X6_near_110 t0 S = some F → mIv s E S H locs 0 → lv_has ls 4 [] → W p l e rm_X6_near s m args below meth c H locs 0 0 (mQi below args s 0 0 n0 E F) (F0 m 110 ls [.int t0]) := by
  have hx := C.1
  have hb := C.2.1
  intro t0 S H locs ls hF hI hl
  exact m_ireti C hI hF dX6_near_110
set_option maxRecDepth 100000 in
set_option maxHeartbeats 4000000 in
theorem bl_X6_near_87 {p : Program} {l : Launch} {e : Env} {s : State} {m : MethodId} {args : Array Value} {below : List Frame} {meth : Method} {c : Code} {E : mE} {n0 : Nat} {F : Int32 × mS} (C : mCx p s m args meth c cX6_near 4 RX6 (some .int) E n0) : ∀  (v0 : Int32) (v2 : Int32) (S : mS) (H : Heap) (locs : List Loc) (ls : Array Slot), f_X6_near_87 v0 v2 S = some F → mIv s E S H locs 0 → lv_has ls 4 [(0, .ref (mA E.b v0)), (2, .int v2)] → W p l e rm_X6_near s m args below meth c H locs 0 0 (mQi below args s 0 0 n0 E F) (F0 m 87 ls []) := by
  have hx := C.1
  have hb := C.2.1
  intro v0 v2 S H locs ls hF hI hl
  refine lv_aload_n hx hb dX6_near_87 rfl (lv_at hl 0 rfl) ?_
  refine m_getR C fd_X6_58 hI hF dX6_near_88 (fun r21 hF => ?_)
  refine lv_iconst (v := 5) hx hb dX6_near_91 (by decide) ?_
  refine m_callSiR C cd_X6_201 hl.1 hI hF (fun _ h => ok_X6_firstLeast h) rfl rfl ⟨rfl, rfl, Nat.le_of_ble_eq_true rfl, Nat.le_of_ble_eq_true rfl⟩ ⟨Nat.le_of_ble_eq_true rfl, Nat.le_of_ble_eq_true rfl⟩ (Nat.le_of_ble_eq_true rfl) dX6_near_92 (fun r22 H locs hF hI => ?_)
  refine lv_istore_n (lv' := [(3, .int r22), (0, .ref (mA E.b v0)), (2, .int v2)]) hx hb dX6_near_95 rfl hl (by decide) rfl (fun ls hl => ?_)
  refine lv_iload_n hx hb dX6_near_96 rfl (lv_at hl 2 rfl) ?_
  refine m_if_ne C (tgt := 104) hF dX6_near_97 (by decide) (fun hF => ?_) (fun hF => ?_)
  · refine lv_aload_n hx hb dX6_near_104 rfl (lv_at hl 1 rfl) ?_
    refine m_getR C fd_X6_58 hI hF dX6_near_105 (fun r23 hF => ?_)
    refine lv_iload_n hx hb dX6_near_108 rfl (lv_at hl 0 rfl) ?_
    refine m_iald C hI hF dX6_near_109 (fun r24 hF => ?_)
    exact (bl_X6_near_110 C) r24 S _ _ _ hF hI (lv_sub hl [] rfl)
  · refine lv_iload_n hx hb dX6_near_100 rfl (lv_at hl 0 rfl) ?_
    refine lv_goto (tgt := 110) hx hb dX6_near_101 (by decide) ?_
    exact (bl_X6_near_110 C) r22 S _ _ _ hF hI (lv_sub hl [] rfl)
set_option maxRecDepth 100000 in
set_option maxHeartbeats 4000000 in
theorem ok_X6_near {l : Launch} {E : mE} {v0 : Int32} {v1 : Int32} {v2 : Int32} {S : mS} {F : Int32 × mS} (hF : f_X6_near v0 v1 v2 S = some F) : mMi l yX6_near cX6_near 4 (some .int) rm_X6_near 0 0 [.ref (mA E.b v0), .int v1, .int v2] E S F := by
  refine m_met_i (by decide) (Nat.le_of_ble_eq_true rfl) (fun p e s m args below meth c ls hin C hI hl => ?_)
  have hx := C.1
  have hb := C.2.1
  have hl : lv_has ls 4 [(0, .ref (mA E.b v0)), (1, .int v1), (2, .int v2)] := hl
  generalize s.heap = H at hI ⊢
  generalize ([] : List Loc) = locs at hI ⊢
  refine lv_aload_n hx hb dX6_near_0 rfl (lv_at hl 0 rfl) ?_
  refine m_getR C fd_X6_12 hI hF dX6_near_1 (fun r1 hF => ?_)
  refine m_getR C fd_X6_76 hI hF dX6_near_4 (fun r2 hF => ?_)
  refine lv_iload_n hx hb dX6_near_7 rfl (lv_at hl 1 rfl) ?_
  refine m_callViR C cd_X6_134 ⟨rfl, by decide⟩ hl.1 hI hF (fun _ h => ok_X1_hasWhistle h) rfl rfl ⟨rfl, rfl, Nat.le_of_ble_eq_true rfl, Nat.le_of_ble_eq_true rfl⟩ ⟨Nat.le_of_ble_eq_true rfl, Nat.le_of_ble_eq_true rfl⟩ (Nat.le_of_ble_eq_true rfl) dX6_near_8 (fun r3 H locs hF hI => ?_)
  refine m_if_eq C (tgt := 23) hF dX6_near_11 (by decide) (fun hF => ?_) (fun hF => ?_)
  · exact (bl_X6_near_23 C) v0 S _ _ _ hF hI (lv_sub hl [0] rfl)
  · refine lv_iload_n hx hb dX6_near_14 rfl (lv_at hl 2 rfl) ?_
    refine lv_iconst (v := 0) hx hb dX6_near_15 (by decide) ?_
    refine lv_iconst (v := 1) hx hb dX6_near_16 (by decide) ?_
    refine m_callSiR C cd_X6_118 hl.1 hI hF (fun _ h => ok_X6_isWithin h) rfl rfl ⟨rfl, rfl, Nat.le_of_ble_eq_true rfl, Nat.le_of_ble_eq_true rfl⟩ ⟨Nat.le_of_ble_eq_true rfl, Nat.le_of_ble_eq_true rfl⟩ (Nat.le_of_ble_eq_true rfl) dX6_near_17 (fun r6 H locs hF hI => ?_)
    refine m_if_ne C (tgt := 30) hF dX6_near_20 (by decide) (fun hF => ?_) (fun hF => ?_)
    · refine lv_iconst (v := 0) hx hb dX6_near_30 (by decide) ?_
      refine lv_istore_n (lv' := [(3, .int 0), (0, .ref (mA E.b v0)), (1, .int v1), (2, .int v2)]) hx hb dX6_near_31 rfl hl (by decide) rfl (fun ls hl => ?_)
      exact (bl_X6_near_32 C (k87 := (f_X6_near_87)) (bl_X6_near_87 C) 1000) v0 v1 v2 0 S _ _ _ hF hI (lv_sub hl [1, 2, 3, 0] rfl)
    · exact (bl_X6_near_23 C) v0 S _ _ _ hF hI (lv_sub hl [0] rfl)
noncomputable def f_X6_firstOf (v0 : Int32) : Option Int32 := some (v0 / 25)
def rm_X6_firstOf : Room := { frames := 0, cells := 0, slots := 0, locals := 0 }
set_option maxRecDepth 100000 in
set_option maxHeartbeats 4000000 in
theorem ok_X6_firstOf {l : Launch} {E : mE} {v0 : Int32} {S : mS} {r : Int32} (hF : f_X6_firstOf v0 = some r) : mMi l yX6_firstOf cX6_firstOf 1 (some .int) rm_X6_firstOf 0 0 [.int v0] E S (r, S) := by
  refine m_met_i (by decide) (Nat.le_of_ble_eq_true rfl) (fun p e s m args below meth c ls hin C hI hl => ?_)
  have hx := C.1
  have hb := C.2.1
  have hl : lv_has ls 1 [(0, .int v0)] := hl
  generalize s.heap = H at hI ⊢
  generalize ([] : List Loc) = locs at hI ⊢
  refine lv_iload_n hx hb dX6_firstOf_0 rfl (lv_at hl 0 rfl) ?_
  refine lv_bipush (v := 25) hx hb dX6_firstOf_1 (by decide) ?_
  refine lv_idiv hx hb dX6_firstOf_3 (by decide) ?_
  exact m_iretiR C hI hF dX6_firstOf_4
noncomputable def f_X6_secondOf (v0 : Int32) : Option Int32 := some (mRem (v0 / 5) 5)
def rm_X6_secondOf : Room := { frames := 0, cells := 0, slots := 0, locals := 0 }
set_option maxRecDepth 100000 in
set_option maxHeartbeats 4000000 in
theorem ok_X6_secondOf {l : Launch} {E : mE} {v0 : Int32} {S : mS} {r : Int32} (hF : f_X6_secondOf v0 = some r) : mMi l yX6_secondOf cX6_secondOf 1 (some .int) rm_X6_secondOf 0 0 [.int v0] E S (r, S) := by
  refine m_met_i (by decide) (Nat.le_of_ble_eq_true rfl) (fun p e s m args below meth c ls hin C hI hl => ?_)
  have hx := C.1
  have hb := C.2.1
  have hl : lv_has ls 1 [(0, .int v0)] := hl
  generalize s.heap = H at hI ⊢
  generalize ([] : List Loc) = locs at hI ⊢
  refine lv_iload_n hx hb dX6_secondOf_0 rfl (lv_at hl 0 rfl) ?_
  refine lv_iconst (v := 5) hx hb dX6_secondOf_1 (by decide) ?_
  refine lv_idiv hx hb dX6_secondOf_2 (by decide) ?_
  refine lv_iconst (v := 5) hx hb dX6_secondOf_3 (by decide) ?_
  refine m_irem C dX6_secondOf_4 (by decide) ?_
  exact m_iretiR C hI hF dX6_secondOf_5
noncomputable def f_X6_thirdOf (v0 : Int32) : Option Int32 := some (mRem v0 5)
def rm_X6_thirdOf : Room := { frames := 0, cells := 0, slots := 0, locals := 0 }
set_option maxRecDepth 100000 in
set_option maxHeartbeats 4000000 in
theorem ok_X6_thirdOf {l : Launch} {E : mE} {v0 : Int32} {S : mS} {r : Int32} (hF : f_X6_thirdOf v0 = some r) : mMi l yX6_thirdOf cX6_thirdOf 1 (some .int) rm_X6_thirdOf 0 0 [.int v0] E S (r, S) := by
  refine m_met_i (by decide) (Nat.le_of_ble_eq_true rfl) (fun p e s m args below meth c ls hin C hI hl => ?_)
  have hx := C.1
  have hb := C.2.1
  have hl : lv_has ls 1 [(0, .int v0)] := hl
  generalize s.heap = H at hI ⊢
  generalize ([] : List Loc) = locs at hI ⊢
  refine lv_iload_n hx hb dX6_thirdOf_0 rfl (lv_at hl 0 rfl) ?_
  refine lv_iconst (v := 5) hx hb dX6_thirdOf_1 (by decide) ?_
  refine m_irem C dX6_thirdOf_2 (by decide) ?_
  exact m_iretiR C hI hF dX6_thirdOf_3
noncomputable def f_X6_foldedByThree_64 (v0 : Int32) (v1 : Int32) (v2 : Int32) (S : mS) : Option (Int32 × mS) := mGr 6 8 v0 S (fun r1 => mGr 6 7 v0 S (fun r2 => mRc 1 r1 S (mCv (f_X1_copy r1 r2 S) (fun S4 => mGr 6 8 v0 S4 (fun r5 => mCp (f_X6_thirdOf v2) (fun r6 => mRc 1 r5 S4 (mC (f_X1_call r5 v1 r6 S4) (fun r7 S8 => mGr 6 8 v0 S8 (fun r9 => mGr 6 0 v0 S8 (fun r10 => mG 5 5 r10 S8 (fun r11 => mRc 1 r9 S8 (mCp (f_X1_manyIn r9 r11 S8) (fun r12 => some (r12, S8))))))))))))))
noncomputable def f_X6_foldedByThree_34 (v0 : Int32) (v1 : Int32) (v2 : Int32) (S : mS) : Option (Int32 × mS) := if (mRem v2 5) = 0 then (mGr 6 7 v0 S (fun r13 => mGr 6 6 v0 S (fun r14 => mRc 1 r13 S (mCv (f_X1_copy r13 r14 S) (fun S16 => mGr 6 7 v0 S16 (fun r17 => mCp (f_X6_secondOf v2) (fun r18 => mRc 1 r17 S16 (mC (f_X1_call r17 v1 r18 S16) (fun r19 S20 => (f_X6_foldedByThree_64) v0 v1 v2 S20))))))))) else ((f_X6_foldedByThree_64) v0 v1 v2 S)
noncomputable def f_X6_foldedByThree (v0 : Int32) (v1 : Int32) (v2 : Int32) (S : mS) : Option (Int32 × mS) := if (mRem v2 25) = 0 then (mGr 6 6 v0 S (fun r21 => mGr 6 0 v0 S (fun r22 => mGr 5 0 r22 S (fun r23 => mRc 1 r21 S (mCv (f_X1_copy r21 r23 S) (fun S25 => mGr 6 6 v0 S25 (fun r26 => mCp (f_X6_firstOf v2) (fun r27 => mRc 1 r26 S25 (mC (f_X1_call r26 v1 r27 S25) (fun r28 S29 => (f_X6_foldedByThree_34) v0 v1 v2 S29)))))))))) else ((f_X6_foldedByThree_34) v0 v1 v2 S)
def rm_X6_foldedByThree : Room := { frames := 4, cells := 0, slots := 0, locals := 90 }
set_option maxRecDepth 100000 in
set_option maxHeartbeats 4000000 in
theorem bl_X6_foldedByThree_64 {p : Program} {l : Launch} {e : Env} {s : State} {m : MethodId} {args : Array Value} {below : List Frame} {meth : Method} {c : Code} {E : mE} {n0 : Nat} {F : Int32 × mS} (C : mCx p s m args meth c cX6_foldedByThree 3 RX6 (some .int) E n0) : ∀  (v0 : Int32) (v1 : Int32) (v2 : Int32) (S : mS) (H : Heap) (locs : List Loc) (ls : Array Slot), f_X6_foldedByThree_64 v0 v1 v2 S = some F → mIv s E S H locs 0 → lv_has ls 3 [(0, .ref (mA E.b v0)), (1, .int v1), (2, .int v2)] → W p l e rm_X6_foldedByThree s m args below meth c H locs 0 0 (mQi below args s 0 0 n0 E F) (F0 m 64 ls []) := by
  have hx := C.1
  have hb := C.2.1
  intro v0 v1 v2 S H locs ls hF hI hl
  refine lv_aload_n hx hb dX6_foldedByThree_64 rfl (lv_at hl 0 rfl) ?_
  refine m_getR C fd_X6_51 hI hF dX6_foldedByThree_65 (fun r1 hF => ?_)
  refine lv_aload_n hx hb dX6_foldedByThree_68 rfl (lv_at hl 0 rfl) ?_
  refine m_getR C fd_X6_48 hI hF dX6_foldedByThree_69 (fun r2 hF => ?_)
  refine m_callVv C cd_X6_196 ⟨rfl, by decide⟩ hl.1 hI hF (fun _ h => ok_X1_copy h) rfl rfl ⟨rfl, rfl, Nat.le_of_ble_eq_true rfl, Nat.le_of_ble_eq_true rfl⟩ ⟨Nat.le_of_ble_eq_true rfl, Nat.le_of_ble_eq_true rfl⟩ (Nat.le_of_ble_eq_true rfl) dX6_foldedByThree_72 (fun S4 H locs hF hI => ?_)
  refine lv_aload_n hx hb dX6_foldedByThree_75 rfl (lv_at hl 0 rfl) ?_
  refine m_getR C fd_X6_51 hI hF dX6_foldedByThree_76 (fun r5 hF => ?_)
  refine lv_iload_n hx hb dX6_foldedByThree_79 rfl (lv_at hl 1 rfl) ?_
  refine lv_iload_n hx hb dX6_foldedByThree_80 rfl (lv_at hl 2 rfl) ?_
  refine m_callSiR C cd_X6_214 hl.1 hI hF (fun _ h => ok_X6_thirdOf h) rfl rfl ⟨rfl, rfl, Nat.le_of_ble_eq_true rfl, Nat.le_of_ble_eq_true rfl⟩ ⟨Nat.le_of_ble_eq_true rfl, Nat.le_of_ble_eq_true rfl⟩ (Nat.le_of_ble_eq_true rfl) dX6_foldedByThree_81 (fun r6 H locs hF hI => ?_)
  refine m_callVi C cd_X6_147 ⟨rfl, by decide⟩ hl.1 hI hF (fun _ h => ok_X1_call h) rfl rfl ⟨rfl, rfl, Nat.le_of_ble_eq_true rfl, Nat.le_of_ble_eq_true rfl⟩ ⟨Nat.le_of_ble_eq_true rfl, Nat.le_of_ble_eq_true rfl⟩ (Nat.le_of_ble_eq_true rfl) dX6_foldedByThree_84 (fun r7 S8 H locs hF hI => ?_)
  refine lv_pop hx hb dX6_foldedByThree_87 rfl ?_
  refine lv_aload_n hx hb dX6_foldedByThree_88 rfl (lv_at hl 0 rfl) ?_
  refine m_getR C fd_X6_51 hI hF dX6_foldedByThree_89 (fun r9 hF => ?_)
  refine lv_aload_n hx hb dX6_foldedByThree_92 rfl (lv_at hl 0 rfl) ?_
  refine m_getR C fd_X6_12 hI hF dX6_foldedByThree_93 (fun r10 hF => ?_)
  refine m_get C fd_X6_112 hI hF dX6_foldedByThree_96 (fun r11 hF => ?_)
  refine m_callViR C cd_X6_281 ⟨rfl, by decide⟩ hl.1 hI hF (fun _ h => ok_X1_manyIn h) rfl rfl ⟨rfl, rfl, Nat.le_of_ble_eq_true rfl, Nat.le_of_ble_eq_true rfl⟩ ⟨Nat.le_of_ble_eq_true rfl, Nat.le_of_ble_eq_true rfl⟩ (Nat.le_of_ble_eq_true rfl) dX6_foldedByThree_99 (fun r12 H locs hF hI => ?_)
  exact m_ireti C hI hF dX6_foldedByThree_102
set_option maxRecDepth 100000 in
set_option maxHeartbeats 4000000 in
theorem bl_X6_foldedByThree_34 {p : Program} {l : Launch} {e : Env} {s : State} {m : MethodId} {args : Array Value} {below : List Frame} {meth : Method} {c : Code} {E : mE} {n0 : Nat} {F : Int32 × mS} (C : mCx p s m args meth c cX6_foldedByThree 3 RX6 (some .int) E n0) : ∀  (v0 : Int32) (v1 : Int32) (v2 : Int32) (S : mS) (H : Heap) (locs : List Loc) (ls : Array Slot), f_X6_foldedByThree_34 v0 v1 v2 S = some F → mIv s E S H locs 0 → lv_has ls 3 [(0, .ref (mA E.b v0)), (1, .int v1), (2, .int v2)] → W p l e rm_X6_foldedByThree s m args below meth c H locs 0 0 (mQi below args s 0 0 n0 E F) (F0 m 34 ls []) := by
  have hx := C.1
  have hb := C.2.1
  intro v0 v1 v2 S H locs ls hF hI hl
  refine lv_iload_n hx hb dX6_foldedByThree_34 rfl (lv_at hl 2 rfl) ?_
  refine lv_iconst (v := 5) hx hb dX6_foldedByThree_35 (by decide) ?_
  refine m_irem C dX6_foldedByThree_36 (by decide) ?_
  refine m_if_ne C (tgt := 64) hF dX6_foldedByThree_37 (by decide) (fun hF => ?_) (fun hF => ?_)
  · exact (bl_X6_foldedByThree_64 C) v0 v1 v2 S _ _ _ hF hI (lv_sub hl [0, 1, 2] rfl)
  · refine lv_aload_n hx hb dX6_foldedByThree_40 rfl (lv_at hl 0 rfl) ?_
    refine m_getR C fd_X6_48 hI hF dX6_foldedByThree_41 (fun r13 hF => ?_)
    refine lv_aload_n hx hb dX6_foldedByThree_44 rfl (lv_at hl 0 rfl) ?_
    refine m_getR C fd_X6_44 hI hF dX6_foldedByThree_45 (fun r14 hF => ?_)
    refine m_callVv C cd_X6_196 ⟨rfl, by decide⟩ hl.1 hI hF (fun _ h => ok_X1_copy h) rfl rfl ⟨rfl, rfl, Nat.le_of_ble_eq_true rfl, Nat.le_of_ble_eq_true rfl⟩ ⟨Nat.le_of_ble_eq_true rfl, Nat.le_of_ble_eq_true rfl⟩ (Nat.le_of_ble_eq_true rfl) dX6_foldedByThree_48 (fun S16 H locs hF hI => ?_)
    refine lv_aload_n hx hb dX6_foldedByThree_51 rfl (lv_at hl 0 rfl) ?_
    refine m_getR C fd_X6_48 hI hF dX6_foldedByThree_52 (fun r17 hF => ?_)
    refine lv_iload_n hx hb dX6_foldedByThree_55 rfl (lv_at hl 1 rfl) ?_
    refine lv_iload_n hx hb dX6_foldedByThree_56 rfl (lv_at hl 2 rfl) ?_
    refine m_callSiR C cd_X6_211 hl.1 hI hF (fun _ h => ok_X6_secondOf h) rfl rfl ⟨rfl, rfl, Nat.le_of_ble_eq_true rfl, Nat.le_of_ble_eq_true rfl⟩ ⟨Nat.le_of_ble_eq_true rfl, Nat.le_of_ble_eq_true rfl⟩ (Nat.le_of_ble_eq_true rfl) dX6_foldedByThree_57 (fun r18 H locs hF hI => ?_)
    refine m_callVi C cd_X6_147 ⟨rfl, by decide⟩ hl.1 hI hF (fun _ h => ok_X1_call h) rfl rfl ⟨rfl, rfl, Nat.le_of_ble_eq_true rfl, Nat.le_of_ble_eq_true rfl⟩ ⟨Nat.le_of_ble_eq_true rfl, Nat.le_of_ble_eq_true rfl⟩ (Nat.le_of_ble_eq_true rfl) dX6_foldedByThree_60 (fun r19 S20 H locs hF hI => ?_)
    refine lv_pop hx hb dX6_foldedByThree_63 rfl ?_
    exact (bl_X6_foldedByThree_64 C) v0 v1 v2 S20 _ _ _ hF hI (lv_sub hl [0, 1, 2] rfl)
set_option maxRecDepth 100000 in
set_option maxHeartbeats 4000000 in
theorem ok_X6_foldedByThree {l : Launch} {E : mE} {v0 : Int32} {v1 : Int32} {v2 : Int32} {S : mS} {F : Int32 × mS} (hF : f_X6_foldedByThree v0 v1 v2 S = some F) : mMi l yX6_foldedByThree cX6_foldedByThree 3 (some .int) rm_X6_foldedByThree 0 0 [.ref (mA E.b v0), .int v1, .int v2] E S F := by
  refine m_met_i (by decide) (Nat.le_of_ble_eq_true rfl) (fun p e s m args below meth c ls hin C hI hl => ?_)
  have hx := C.1
  have hb := C.2.1
  have hl : lv_has ls 3 [(0, .ref (mA E.b v0)), (1, .int v1), (2, .int v2)] := hl
  generalize s.heap = H at hI ⊢
  generalize ([] : List Loc) = locs at hI ⊢
  refine lv_iload_n hx hb dX6_foldedByThree_0 rfl (lv_at hl 2 rfl) ?_
  refine lv_bipush (v := 25) hx hb dX6_foldedByThree_1 (by decide) ?_
  refine m_irem C dX6_foldedByThree_3 (by decide) ?_
  refine m_if_ne C (tgt := 34) hF dX6_foldedByThree_4 (by decide) (fun hF => ?_) (fun hF => ?_)
  · exact (bl_X6_foldedByThree_34 C) v0 v1 v2 S _ _ _ hF hI (lv_sub hl [0, 1, 2] rfl)
  · refine lv_aload_n hx hb dX6_foldedByThree_7 rfl (lv_at hl 0 rfl) ?_
    refine m_getR C fd_X6_44 hI hF dX6_foldedByThree_8 (fun r21 hF => ?_)
    refine lv_aload_n hx hb dX6_foldedByThree_11 rfl (lv_at hl 0 rfl) ?_
    refine m_getR C fd_X6_12 hI hF dX6_foldedByThree_12 (fun r22 hF => ?_)
    refine m_getR C fd_X6_76 hI hF dX6_foldedByThree_15 (fun r23 hF => ?_)
    refine m_callVv C cd_X6_196 ⟨rfl, by decide⟩ hl.1 hI hF (fun _ h => ok_X1_copy h) rfl rfl ⟨rfl, rfl, Nat.le_of_ble_eq_true rfl, Nat.le_of_ble_eq_true rfl⟩ ⟨Nat.le_of_ble_eq_true rfl, Nat.le_of_ble_eq_true rfl⟩ (Nat.le_of_ble_eq_true rfl) dX6_foldedByThree_18 (fun S25 H locs hF hI => ?_)
    refine lv_aload_n hx hb dX6_foldedByThree_21 rfl (lv_at hl 0 rfl) ?_
    refine m_getR C fd_X6_44 hI hF dX6_foldedByThree_22 (fun r26 hF => ?_)
    refine lv_iload_n hx hb dX6_foldedByThree_25 rfl (lv_at hl 1 rfl) ?_
    refine lv_iload_n hx hb dX6_foldedByThree_26 rfl (lv_at hl 2 rfl) ?_
    refine m_callSiR C cd_X6_208 hl.1 hI hF (fun _ h => ok_X6_firstOf h) rfl rfl ⟨rfl, rfl, Nat.le_of_ble_eq_true rfl, Nat.le_of_ble_eq_true rfl⟩ ⟨Nat.le_of_ble_eq_true rfl, Nat.le_of_ble_eq_true rfl⟩ (Nat.le_of_ble_eq_true rfl) dX6_foldedByThree_27 (fun r27 H locs hF hI => ?_)
    refine m_callVi C cd_X6_147 ⟨rfl, by decide⟩ hl.1 hI hF (fun _ h => ok_X1_call h) rfl rfl ⟨rfl, rfl, Nat.le_of_ble_eq_true rfl, Nat.le_of_ble_eq_true rfl⟩ ⟨Nat.le_of_ble_eq_true rfl, Nat.le_of_ble_eq_true rfl⟩ (Nat.le_of_ble_eq_true rfl) dX6_foldedByThree_30 (fun r28 S29 H locs hF hI => ?_)
    refine lv_pop hx hb dX6_foldedByThree_33 rfl ?_
    exact (bl_X6_foldedByThree_34 C) v0 v1 v2 S29 _ _ _ hF hI (lv_sub hl [0, 1, 2] rfl)
noncomputable def f_X6_gather_23 (v0 : Int32) (S : mS) : Option (Int32 × mS) := mRc 6 v0 S (mC (f_X6_refuseBad v0 (-2) S) (fun r4 S5 => some (r4, S5)))
noncomputable def f_X6_gather_67 (k38 : Int32 → Int32 → Int32 → Int32 → Int32 → Int32 → mS → Option (Int32 × mS)) (v0 : Int32) (v1 : Int32) (v2 : Int32) (v3 : Int32) (v4 : Int32) (v5 : Int32) (S : mS) : Option (Int32 × mS) := k38 v0 v1 v2 v3 v4 (v5 + 1) S
noncomputable def f_X6_gather_38 (k73 : Int32 → Int32 → Int32 → mS → Option (Int32 × mS)) : Nat → Int32 → Int32 → Int32 → Int32 → Int32 → Int32 → mS → Option (Int32 × mS) := fun n => Nat.rec (motive := fun _ => Int32 → Int32 → Int32 → Int32 → Int32 → Int32 → mS → Option (Int32 × mS)) (fun _ _ _ _ _ _ _ => none) (fun _ rec v0 v1 v2 v3 v4 v5 S => if 125 ≤ v5 then (k73 v2 v3 v4 S) else (mRc 6 v0 S (mC (f_X6_foldedByThree v0 v1 v5 S) (fun r7 S8 => if r7 ≤ v3 then ((f_X6_gather_67 rec) v0 v1 v2 v3 v4 v5 S8) else ((f_X6_gather_67 rec) v0 v1 v2 r7 v5 v5 S8))))) n
theorem f_X6_gather_38_s (k73 : Int32 → Int32 → Int32 → mS → Option (Int32 × mS)) (n : Nat) (v0 : Int32) (v1 : Int32) (v2 : Int32) (v3 : Int32) (v4 : Int32) (v5 : Int32) (S : mS) : f_X6_gather_38 k73 (n + 1) v0 v1 v2 v3 v4 v5 S = if 125 ≤ v5 then (k73 v2 v3 v4 S) else (mRc 6 v0 S (mC (f_X6_foldedByThree v0 v1 v5 S) (fun r7 S8 => if r7 ≤ v3 then ((f_X6_gather_67 (f_X6_gather_38 k73 n)) v0 v1 v2 v3 v4 v5 S8) else ((f_X6_gather_67 (f_X6_gather_38 k73 n)) v0 v1 v2 r7 v5 v5 S8)))) := rfl
noncomputable def f_X6_gather_104 (t0 : Int32) (S : mS) : Option (Int32 × mS) := some (t0, S)
noncomputable def f_X6_gather_73 (v2 : Int32) (v3 : Int32) (v4 : Int32) (S : mS) : Option (Int32 × mS) := if v2 = 0 then ((f_X6_gather_104) v3 S) else (mCp (f_X6_firstOf v4) (fun r9 => mCp (f_X6_secondOf v4) (fun r10 => mCp (f_X6_thirdOf v4) (fun r11 => (f_X6_gather_104) (((100 * r9) + (10 * r10)) + r11) S))))
noncomputable def f_X6_gather (v0 : Int32) (v1 : Int32) (v2 : Int32) (S : mS) : Option (Int32 × mS) := mGr 6 0 v0 S (fun r1 => mGr 5 0 r1 S (fun r2 => mRc 1 r2 S (mCp (f_X1_hasWhistle r2 v1 S) (fun r3 => if r3 = 0 then ((f_X6_gather_23) v0 S) else (mCp (f_X6_isWithin v2 0 1) (fun r6 => if r6 = 0 then ((f_X6_gather_23) v0 S) else ((f_X6_gather_38 (f_X6_gather_73) 1000) v0 v1 v2 (-1) 0 0 S)))))))
def rm_X6_gather : Room := { frames := 5, cells := 0, slots := 0, locals := 112 }
set_option maxRecDepth 100000 in
set_option maxHeartbeats 4000000 in
theorem bl_X6_gather_23 {p : Program} {l : Launch} {e : Env} {s : State} {m : MethodId} {args : Array Value} {below : List Frame} {meth : Method} {c : Code} {E : mE} {n0 : Nat} {F : Int32 × mS} (C : mCx p s m args meth c cX6_gather 7 RX6 (some .int) E n0) : ∀  (v0 : Int32) (S : mS) (H : Heap) (locs : List Loc) (ls : Array Slot), f_X6_gather_23 v0 S = some F → mIv s E S H locs 0 → lv_has ls 7 [(0, .ref (mA E.b v0))] → W p l e rm_X6_gather s m args below meth c H locs 0 0 (mQi below args s 0 0 n0 E F) (F0 m 23 ls []) := by
  have hx := C.1
  have hb := C.2.1
  intro v0 S H locs ls hF hI hl
  refine lv_aload_n hx hb dX6_gather_23 rfl (lv_at hl 0 rfl) ?_
  refine lv_bipush (v := (-2)) hx hb dX6_gather_24 (by decide) ?_
  refine m_callVi C cd_X6_72 ⟨rfl, by decide⟩ hl.1 hI hF (fun _ h => ok_X6_refuseBad h) rfl rfl ⟨rfl, rfl, Nat.le_of_ble_eq_true rfl, Nat.le_of_ble_eq_true rfl⟩ ⟨Nat.le_of_ble_eq_true rfl, Nat.le_of_ble_eq_true rfl⟩ (Nat.le_of_ble_eq_true rfl) dX6_gather_26 (fun r4 S5 H locs hF hI => ?_)
  exact m_ireti C hI hF dX6_gather_29
set_option maxRecDepth 100000 in
set_option maxHeartbeats 4000000 in
theorem bl_X6_gather_67 {p : Program} {l : Launch} {e : Env} {s : State} {m : MethodId} {args : Array Value} {below : List Frame} {meth : Method} {c : Code} {E : mE} {n0 : Nat} {F : Int32 × mS} (C : mCx p s m args meth c cX6_gather 7 RX6 (some .int) E n0) {k38 : Int32 → Int32 → Int32 → Int32 → Int32 → Int32 → mS → Option (Int32 × mS)} (hk38 : ∀ (v0 : Int32) (v1 : Int32) (v2 : Int32) (v3 : Int32) (v4 : Int32) (v5 : Int32) (S : mS) (H : Heap) (locs : List Loc) (ls : Array Slot), k38 v0 v1 v2 v3 v4 v5 S = some F → mIv s E S H locs 0 → lv_has ls 7 [(0, .ref (mA E.b v0)), (1, .int v1), (2, .int v2), (3, .int v3), (4, .int v4), (5, .int v5)] → W p l e rm_X6_gather s m args below meth c H locs 0 0 (mQi below args s 0 0 n0 E F) (F0 m 38 ls [])) : ∀  (v0 : Int32) (v1 : Int32) (v2 : Int32) (v3 : Int32) (v4 : Int32) (v5 : Int32) (S : mS) (H : Heap) (locs : List Loc) (ls : Array Slot), f_X6_gather_67 k38 v0 v1 v2 v3 v4 v5 S = some F → mIv s E S H locs 0 → lv_has ls 7 [(0, .ref (mA E.b v0)), (1, .int v1), (2, .int v2), (3, .int v3), (4, .int v4), (5, .int v5)] → W p l e rm_X6_gather s m args below meth c H locs 0 0 (mQi below args s 0 0 n0 E F) (F0 m 67 ls []) := by
  have hx := C.1
  have hb := C.2.1
  intro v0 v1 v2 v3 v4 v5 S H locs ls hF hI hl
  refine lv_iinc (v := v5 + 1) (lv' := [(5, .int (v5 + 1)), (0, .ref (mA E.b v0)), (1, .int v1), (2, .int v2), (3, .int v3), (4, .int v4)]) hx hb dX6_gather_67 hl (k := 5) rfl rfl (by decide) rfl (fun ls hl => ?_)
  refine lv_goto (tgt := 38) hx hb dX6_gather_70 (by decide) ?_
  exact hk38 v0 v1 v2 v3 v4 (v5 + 1) S _ _ _ hF hI (lv_sub hl [1, 2, 3, 4, 5, 0] rfl)
set_option maxRecDepth 100000 in
set_option maxHeartbeats 4000000 in
theorem bl_X6_gather_38 {p : Program} {l : Launch} {e : Env} {s : State} {m : MethodId} {args : Array Value} {below : List Frame} {meth : Method} {c : Code} {E : mE} {n0 : Nat} {F : Int32 × mS} (C : mCx p s m args meth c cX6_gather 7 RX6 (some .int) E n0) {k73 : Int32 → Int32 → Int32 → mS → Option (Int32 × mS)} (hk73 : ∀ (v2 : Int32) (v3 : Int32) (v4 : Int32) (S : mS) (H : Heap) (locs : List Loc) (ls : Array Slot), k73 v2 v3 v4 S = some F → mIv s E S H locs 0 → lv_has ls 7 [(2, .int v2), (3, .int v3), (4, .int v4)] → W p l e rm_X6_gather s m args below meth c H locs 0 0 (mQi below args s 0 0 n0 E F) (F0 m 73 ls [])) : ∀ (n : Nat)  (v0 : Int32) (v1 : Int32) (v2 : Int32) (v3 : Int32) (v4 : Int32) (v5 : Int32) (S : mS) (H : Heap) (locs : List Loc) (ls : Array Slot), f_X6_gather_38 k73 n v0 v1 v2 v3 v4 v5 S = some F → mIv s E S H locs 0 → lv_has ls 7 [(0, .ref (mA E.b v0)), (1, .int v1), (2, .int v2), (3, .int v3), (4, .int v4), (5, .int v5)] → W p l e rm_X6_gather s m args below meth c H locs 0 0 (mQi below args s 0 0 n0 E F) (F0 m 38 ls []) := by
  have hx := C.1
  have hb := C.2.1
  intro n
  induction n with
  | zero =>
    intro v0 v1 v2 v3 v4 v5 S H locs ls hF
    exact nomatch (show (none : Option (Int32 × mS)) = some F from hF)
  | succ n ih =>
    intro v0 v1 v2 v3 v4 v5 S H locs ls hF hI hl
    have hF := (f_X6_gather_38_s k73 n v0 v1 v2 v3 v4 v5 S).symm.trans hF
    refine lv_iload hx hb dX6_gather_38 (lv_at hl 5 rfl) ?_
    refine lv_bipush (v := 125) hx hb dX6_gather_40 (by decide) ?_
    refine m_icmp_ge C (tgt := 73) hF dX6_gather_42 (by decide) (fun hF => ?_) (fun hF => ?_)
    · exact hk73 v2 v3 v4 S _ _ _ hF hI (lv_sub hl [2, 3, 4] rfl)
    · refine lv_aload_n hx hb dX6_gather_45 rfl (lv_at hl 0 rfl) ?_
      refine lv_iload_n hx hb dX6_gather_46 rfl (lv_at hl 1 rfl) ?_
      refine lv_iload hx hb dX6_gather_47 (lv_at hl 5 rfl) ?_
      refine m_callVi C cd_X6_205 ⟨rfl, by decide⟩ hl.1 hI hF (fun _ h => ok_X6_foldedByThree h) rfl rfl ⟨rfl, rfl, Nat.le_of_ble_eq_true rfl, Nat.le_of_ble_eq_true rfl⟩ ⟨Nat.le_of_ble_eq_true rfl, Nat.le_of_ble_eq_true rfl⟩ (Nat.le_of_ble_eq_true rfl) dX6_gather_49 (fun r7 S8 H locs hF hI => ?_)
      refine lv_istore (lv' := [(6, .int r7), (0, .ref (mA E.b v0)), (1, .int v1), (2, .int v2), (3, .int v3), (4, .int v4), (5, .int v5)]) hx hb dX6_gather_52 hl (by decide) rfl (fun ls hl => ?_)
      refine lv_iload hx hb dX6_gather_54 (lv_at hl 0 rfl) ?_
      refine lv_iload_n hx hb dX6_gather_56 rfl (lv_at hl 4 rfl) ?_
      refine m_icmp_le C (tgt := 67) hF dX6_gather_57 (by decide) (fun hF => ?_) (fun hF => ?_)
      · exact (bl_X6_gather_67 C (k38 := (f_X6_gather_38 k73 n)) ih) v0 v1 v2 v3 v4 v5 S8 _ _ _ hF hI (lv_sub hl [1, 2, 3, 4, 5, 6] rfl)
      · refine lv_iload hx hb dX6_gather_60 (lv_at hl 0 rfl) ?_
        refine lv_istore_n (lv' := [(3, .int r7), (6, .int r7), (0, .ref (mA E.b v0)), (1, .int v1), (2, .int v2), (4, .int v4), (5, .int v5)]) hx hb dX6_gather_62 rfl hl (by decide) rfl (fun ls hl => ?_)
        refine lv_iload hx hb dX6_gather_63 (lv_at hl 6 rfl) ?_
        refine lv_istore (lv' := [(4, .int v5), (3, .int r7), (6, .int r7), (0, .ref (mA E.b v0)), (1, .int v1), (2, .int v2), (5, .int v5)]) hx hb dX6_gather_65 hl (by decide) rfl (fun ls hl => ?_)
        exact (bl_X6_gather_67 C (k38 := (f_X6_gather_38 k73 n)) ih) v0 v1 v2 r7 v5 v5 S8 _ _ _ hF hI (lv_sub hl [3, 4, 5, 1, 0, 6] rfl)
set_option maxRecDepth 100000 in
set_option maxHeartbeats 4000000 in
theorem bl_X6_gather_104 {p : Program} {l : Launch} {e : Env} {s : State} {m : MethodId} {args : Array Value} {below : List Frame} {meth : Method} {c : Code} {E : mE} {n0 : Nat} {F : Int32 × mS} (C : mCx p s m args meth c cX6_gather 7 RX6 (some .int) E n0) : ∀  (t0 : Int32) (S : mS) (H : Heap) (locs : List Loc) (ls : Array Slot), f_X6_gather_104 t0 S = some F → mIv s E S H locs 0 → lv_has ls 7 [] → W p l e rm_X6_gather s m args below meth c H locs 0 0 (mQi below args s 0 0 n0 E F) (F0 m 104 ls [.int t0]) := by
  have hx := C.1
  have hb := C.2.1
  intro t0 S H locs ls hF hI hl
  exact m_ireti C hI hF dX6_gather_104
set_option maxRecDepth 100000 in
set_option maxHeartbeats 4000000 in
theorem bl_X6_gather_73 {p : Program} {l : Launch} {e : Env} {s : State} {m : MethodId} {args : Array Value} {below : List Frame} {meth : Method} {c : Code} {E : mE} {n0 : Nat} {F : Int32 × mS} (C : mCx p s m args meth c cX6_gather 7 RX6 (some .int) E n0) : ∀  (v2 : Int32) (v3 : Int32) (v4 : Int32) (S : mS) (H : Heap) (locs : List Loc) (ls : Array Slot), f_X6_gather_73 v2 v3 v4 S = some F → mIv s E S H locs 0 → lv_has ls 7 [(2, .int v2), (3, .int v3), (4, .int v4)] → W p l e rm_X6_gather s m args below meth c H locs 0 0 (mQi below args s 0 0 n0 E F) (F0 m 73 ls []) := by
  have hx := C.1
  have hb := C.2.1
  intro v2 v3 v4 S H locs ls hF hI hl
  refine lv_iload_n hx hb dX6_gather_73 rfl (lv_at hl 0 rfl) ?_
  refine m_if_ne C (tgt := 81) hF dX6_gather_74 (by decide) (fun hF => ?_) (fun hF => ?_)
  · refine lv_bipush (v := 100) hx hb dX6_gather_81 (by decide) ?_
    refine lv_iload hx hb dX6_gather_83 (lv_at hl 2 rfl) ?_
    refine m_callSiR C cd_X6_208 hl.1 hI hF (fun _ h => ok_X6_firstOf h) rfl rfl ⟨rfl, rfl, Nat.le_of_ble_eq_true rfl, Nat.le_of_ble_eq_true rfl⟩ ⟨Nat.le_of_ble_eq_true rfl, Nat.le_of_ble_eq_true rfl⟩ (Nat.le_of_ble_eq_true rfl) dX6_gather_85 (fun r9 H locs hF hI => ?_)
    refine lv_imul hx hb dX6_gather_88 ?_
    refine lv_bipush (v := 10) hx hb dX6_gather_89 (by decide) ?_
    refine lv_iload hx hb dX6_gather_91 (lv_at hl 2 rfl) ?_
    refine m_callSiR C cd_X6_211 hl.1 hI hF (fun _ h => ok_X6_secondOf h) rfl rfl ⟨rfl, rfl, Nat.le_of_ble_eq_true rfl, Nat.le_of_ble_eq_true rfl⟩ ⟨Nat.le_of_ble_eq_true rfl, Nat.le_of_ble_eq_true rfl⟩ (Nat.le_of_ble_eq_true rfl) dX6_gather_93 (fun r10 H locs hF hI => ?_)
    refine lv_imul hx hb dX6_gather_96 ?_
    refine lv_iadd hx hb dX6_gather_97 ?_
    refine lv_iload hx hb dX6_gather_98 (lv_at hl 2 rfl) ?_
    refine m_callSiR C cd_X6_214 hl.1 hI hF (fun _ h => ok_X6_thirdOf h) rfl rfl ⟨rfl, rfl, Nat.le_of_ble_eq_true rfl, Nat.le_of_ble_eq_true rfl⟩ ⟨Nat.le_of_ble_eq_true rfl, Nat.le_of_ble_eq_true rfl⟩ (Nat.le_of_ble_eq_true rfl) dX6_gather_100 (fun r11 H locs hF hI => ?_)
    refine lv_iadd hx hb dX6_gather_103 ?_
    exact (bl_X6_gather_104 C) (((100 * r9) + (10 * r10)) + r11) S _ _ _ hF hI (lv_sub hl [] rfl)
  · refine lv_iload_n hx hb dX6_gather_77 rfl (lv_at hl 1 rfl) ?_
    refine lv_goto (tgt := 104) hx hb dX6_gather_78 (by decide) ?_
    exact (bl_X6_gather_104 C) v3 S _ _ _ hF hI (lv_sub hl [] rfl)
set_option maxRecDepth 100000 in
set_option maxHeartbeats 4000000 in
theorem ok_X6_gather {l : Launch} {E : mE} {v0 : Int32} {v1 : Int32} {v2 : Int32} {S : mS} {F : Int32 × mS} (hF : f_X6_gather v0 v1 v2 S = some F) : mMi l yX6_gather cX6_gather 7 (some .int) rm_X6_gather 0 0 [.ref (mA E.b v0), .int v1, .int v2] E S F := by
  refine m_met_i (by decide) (Nat.le_of_ble_eq_true rfl) (fun p e s m args below meth c ls hin C hI hl => ?_)
  have hx := C.1
  have hb := C.2.1
  have hl : lv_has ls 7 [(0, .ref (mA E.b v0)), (1, .int v1), (2, .int v2)] := hl
  generalize s.heap = H at hI ⊢
  generalize ([] : List Loc) = locs at hI ⊢
  refine lv_aload_n hx hb dX6_gather_0 rfl (lv_at hl 0 rfl) ?_
  refine m_getR C fd_X6_12 hI hF dX6_gather_1 (fun r1 hF => ?_)
  refine m_getR C fd_X6_76 hI hF dX6_gather_4 (fun r2 hF => ?_)
  refine lv_iload_n hx hb dX6_gather_7 rfl (lv_at hl 1 rfl) ?_
  refine m_callViR C cd_X6_134 ⟨rfl, by decide⟩ hl.1 hI hF (fun _ h => ok_X1_hasWhistle h) rfl rfl ⟨rfl, rfl, Nat.le_of_ble_eq_true rfl, Nat.le_of_ble_eq_true rfl⟩ ⟨Nat.le_of_ble_eq_true rfl, Nat.le_of_ble_eq_true rfl⟩ (Nat.le_of_ble_eq_true rfl) dX6_gather_8 (fun r3 H locs hF hI => ?_)
  refine m_if_eq C (tgt := 23) hF dX6_gather_11 (by decide) (fun hF => ?_) (fun hF => ?_)
  · exact (bl_X6_gather_23 C) v0 S _ _ _ hF hI (lv_sub hl [0] rfl)
  · refine lv_iload_n hx hb dX6_gather_14 rfl (lv_at hl 2 rfl) ?_
    refine lv_iconst (v := 0) hx hb dX6_gather_15 (by decide) ?_
    refine lv_iconst (v := 1) hx hb dX6_gather_16 (by decide) ?_
    refine m_callSiR C cd_X6_118 hl.1 hI hF (fun _ h => ok_X6_isWithin h) rfl rfl ⟨rfl, rfl, Nat.le_of_ble_eq_true rfl, Nat.le_of_ble_eq_true rfl⟩ ⟨Nat.le_of_ble_eq_true rfl, Nat.le_of_ble_eq_true rfl⟩ (Nat.le_of_ble_eq_true rfl) dX6_gather_17 (fun r6 H locs hF hI => ?_)
    refine m_if_ne C (tgt := 30) hF dX6_gather_20 (by decide) (fun hF => ?_) (fun hF => ?_)
    · refine lv_iconst (v := (-1)) hx hb dX6_gather_30 (by decide) ?_
      refine lv_istore_n (lv' := [(3, .int (-1)), (0, .ref (mA E.b v0)), (1, .int v1), (2, .int v2)]) hx hb dX6_gather_31 rfl hl (by decide) rfl (fun ls hl => ?_)
      refine lv_iconst (v := 0) hx hb dX6_gather_32 (by decide) ?_
      refine lv_istore (lv' := [(4, .int 0), (3, .int (-1)), (0, .ref (mA E.b v0)), (1, .int v1), (2, .int v2)]) hx hb dX6_gather_33 hl (by decide) rfl (fun ls hl => ?_)
      refine lv_iconst (v := 0) hx hb dX6_gather_35 (by decide) ?_
      refine lv_istore (lv' := [(5, .int 0), (4, .int 0), (3, .int (-1)), (0, .ref (mA E.b v0)), (1, .int v1), (2, .int v2)]) hx hb dX6_gather_36 hl (by decide) rfl (fun ls hl => ?_)
      exact (bl_X6_gather_38 C (k73 := (f_X6_gather_73)) (bl_X6_gather_73 C) 1000) v0 v1 v2 (-1) 0 0 S _ _ _ hF hI (lv_sub hl [3, 4, 5, 2, 1, 0] rfl)
    · exact (bl_X6_gather_23 C) v0 S _ _ _ hF hI (lv_sub hl [0] rfl)
noncomputable def f_X6_addTo (v0 : Int32) (v1 : Int32) (v2 : Int32) (v3 : Int32) (v4 : Int32) (S : mS) : Option (Int32 × mS) := mG 3 3 v1 S (fun r1 => mG 3 0 v1 S (fun r2 => if r1 < r2 then (mRc 3 v1 S (mCv (f_X3_add v1 v2 v3 v4 S) (fun S4 => mG 3 3 v1 S4 (fun r5 => some (r5, S4))))) else (mRc 6 v0 S (mC (f_X6_refuseFull v0 S) (fun r6 S7 => some (r6, S7))))))
def rm_X6_addTo : Room := { frames := 1, cells := 0, slots := 0, locals := 23 }
set_option maxRecDepth 100000 in
set_option maxHeartbeats 4000000 in
theorem ok_X6_addTo {l : Launch} {E : mE} {v0 : Int32} {v1 : Int32} {v2 : Int32} {v3 : Int32} {v4 : Int32} {S : mS} {F : Int32 × mS} (hF : f_X6_addTo v0 v1 v2 v3 v4 S = some F) : mMi l yX6_addTo cX6_addTo 5 (some .int) rm_X6_addTo 0 0 [.ref (mA E.b v0), .ref (mA E.b v1), .int v2, .int v3, .int v4] E S F := by
  refine m_met_i (by decide) (Nat.le_of_ble_eq_true rfl) (fun p e s m args below meth c ls hin C hI hl => ?_)
  have hx := C.1
  have hb := C.2.1
  have hl : lv_has ls 5 [(0, .ref (mA E.b v0)), (1, .ref (mA E.b v1)), (2, .int v2), (3, .int v3), (4, .int v4)] := hl
  generalize s.heap = H at hI ⊢
  generalize ([] : List Loc) = locs at hI ⊢
  refine lv_aload_n hx hb dX6_addTo_0 rfl (lv_at hl 1 rfl) ?_
  refine m_get C fd_X6_241 hI hF dX6_addTo_1 (fun r1 hF => ?_)
  refine lv_aload_n hx hb dX6_addTo_4 rfl (lv_at hl 1 rfl) ?_
  refine m_get C fd_X6_336 hI hF dX6_addTo_5 (fun r2 hF => ?_)
  refine m_icmp_lt C (tgt := 16) hF dX6_addTo_8 (by decide) (fun hF => ?_) (fun hF => ?_)
  · refine lv_aload_n hx hb dX6_addTo_16 rfl (lv_at hl 1 rfl) ?_
    refine lv_iload_n hx hb dX6_addTo_17 rfl (lv_at hl 2 rfl) ?_
    refine lv_iload_n hx hb dX6_addTo_18 rfl (lv_at hl 3 rfl) ?_
    refine lv_iload hx hb dX6_addTo_19 (lv_at hl 4 rfl) ?_
    refine m_callVv C cd_X6_339 ⟨rfl, by decide⟩ hl.1 hI hF (fun _ h => ok_X3_add h) rfl rfl ⟨rfl, rfl, Nat.le_of_ble_eq_true rfl, Nat.le_of_ble_eq_true rfl⟩ ⟨Nat.le_of_ble_eq_true rfl, Nat.le_of_ble_eq_true rfl⟩ (Nat.le_of_ble_eq_true rfl) dX6_addTo_21 (fun S4 H locs hF hI => ?_)
    refine lv_aload_n hx hb dX6_addTo_24 rfl (lv_at hl 1 rfl) ?_
    refine m_get C fd_X6_241 hI hF dX6_addTo_25 (fun r5 hF => ?_)
    exact m_ireti C hI hF dX6_addTo_28
  · refine lv_aload_n hx hb dX6_addTo_11 rfl (lv_at hl 0 rfl) ?_
    refine m_callVi C cd_X6_92 ⟨rfl, by decide⟩ hl.1 hI hF (fun _ h => ok_X6_refuseFull h) rfl rfl ⟨rfl, rfl, Nat.le_of_ble_eq_true rfl, Nat.le_of_ble_eq_true rfl⟩ ⟨Nat.le_of_ble_eq_true rfl, Nat.le_of_ble_eq_true rfl⟩ (Nat.le_of_ble_eq_true rfl) dX6_addTo_12 (fun r6 S7 H locs hF hI => ?_)
    exact m_ireti C hI hF dX6_addTo_15
noncomputable def f_X6_seen_21 (v0 : Int32) (S : mS) : Option (Int32 × mS) := mRc 6 v0 S (mC (f_X6_refuseBad v0 (-2) S) (fun r4 S5 => some (r4, S5)))
noncomputable def f_X6_seen (v0 : Int32) (v1 : Int32) (v2 : Int32) (S : mS) : Option (Int32 × mS) := mGr 6 0 v0 S (fun r1 => mGr 5 0 r1 S (fun r2 => mRc 1 r2 S (mCp (f_X1_hasSheep r2 v1 S) (fun r3 => if r3 = 0 then ((f_X6_seen_21) v0 S) else (mCp (f_X6_isCell v2) (fun r6 => if r6 = 0 then ((f_X6_seen_21) v0 S) else (mGr 6 0 v0 S (fun r7 => mGr 5 1 r7 S (fun r8 => mRc 6 v0 S (mC (f_X6_addTo v0 r8 v1 v2 0 S) (fun r9 S10 => some (r9, S10))))))))))))
def rm_X6_seen : Room := { frames := 2, cells := 0, slots := 0, locals := 47 }
set_option maxRecDepth 100000 in
set_option maxHeartbeats 4000000 in
theorem bl_X6_seen_21 {p : Program} {l : Launch} {e : Env} {s : State} {m : MethodId} {args : Array Value} {below : List Frame} {meth : Method} {c : Code} {E : mE} {n0 : Nat} {F : Int32 × mS} (C : mCx p s m args meth c cX6_seen 3 RX6 (some .int) E n0) : ∀  (v0 : Int32) (S : mS) (H : Heap) (locs : List Loc) (ls : Array Slot), f_X6_seen_21 v0 S = some F → mIv s E S H locs 0 → lv_has ls 3 [(0, .ref (mA E.b v0))] → W p l e rm_X6_seen s m args below meth c H locs 0 0 (mQi below args s 0 0 n0 E F) (F0 m 21 ls []) := by
  have hx := C.1
  have hb := C.2.1
  intro v0 S H locs ls hF hI hl
  refine lv_aload_n hx hb dX6_seen_21 rfl (lv_at hl 0 rfl) ?_
  refine lv_bipush (v := (-2)) hx hb dX6_seen_22 (by decide) ?_
  refine m_callVi C cd_X6_72 ⟨rfl, by decide⟩ hl.1 hI hF (fun _ h => ok_X6_refuseBad h) rfl rfl ⟨rfl, rfl, Nat.le_of_ble_eq_true rfl, Nat.le_of_ble_eq_true rfl⟩ ⟨Nat.le_of_ble_eq_true rfl, Nat.le_of_ble_eq_true rfl⟩ (Nat.le_of_ble_eq_true rfl) dX6_seen_24 (fun r4 S5 H locs hF hI => ?_)
  exact m_ireti C hI hF dX6_seen_27
set_option maxRecDepth 100000 in
set_option maxHeartbeats 4000000 in
theorem ok_X6_seen {l : Launch} {E : mE} {v0 : Int32} {v1 : Int32} {v2 : Int32} {S : mS} {F : Int32 × mS} (hF : f_X6_seen v0 v1 v2 S = some F) : mMi l yX6_seen cX6_seen 3 (some .int) rm_X6_seen 0 0 [.ref (mA E.b v0), .int v1, .int v2] E S F := by
  refine m_met_i (by decide) (Nat.le_of_ble_eq_true rfl) (fun p e s m args below meth c ls hin C hI hl => ?_)
  have hx := C.1
  have hb := C.2.1
  have hl : lv_has ls 3 [(0, .ref (mA E.b v0)), (1, .int v1), (2, .int v2)] := hl
  generalize s.heap = H at hI ⊢
  generalize ([] : List Loc) = locs at hI ⊢
  refine lv_aload_n hx hb dX6_seen_0 rfl (lv_at hl 0 rfl) ?_
  refine m_getR C fd_X6_12 hI hF dX6_seen_1 (fun r1 hF => ?_)
  refine m_getR C fd_X6_76 hI hF dX6_seen_4 (fun r2 hF => ?_)
  refine lv_iload_n hx hb dX6_seen_7 rfl (lv_at hl 1 rfl) ?_
  refine m_callViR C cd_X6_167 ⟨rfl, by decide⟩ hl.1 hI hF (fun _ h => ok_X1_hasSheep h) rfl rfl ⟨rfl, rfl, Nat.le_of_ble_eq_true rfl, Nat.le_of_ble_eq_true rfl⟩ ⟨Nat.le_of_ble_eq_true rfl, Nat.le_of_ble_eq_true rfl⟩ (Nat.le_of_ble_eq_true rfl) dX6_seen_8 (fun r3 H locs hF hI => ?_)
  refine m_if_eq C (tgt := 21) hF dX6_seen_11 (by decide) (fun hF => ?_) (fun hF => ?_)
  · exact (bl_X6_seen_21 C) v0 S _ _ _ hF hI (lv_sub hl [0] rfl)
  · refine lv_iload_n hx hb dX6_seen_14 rfl (lv_at hl 2 rfl) ?_
    refine m_callSiR C cd_X6_68 hl.1 hI hF (fun _ h => ok_X6_isCell h) rfl rfl ⟨rfl, rfl, Nat.le_of_ble_eq_true rfl, Nat.le_of_ble_eq_true rfl⟩ ⟨Nat.le_of_ble_eq_true rfl, Nat.le_of_ble_eq_true rfl⟩ (Nat.le_of_ble_eq_true rfl) dX6_seen_15 (fun r6 H locs hF hI => ?_)
    refine m_if_ne C (tgt := 28) hF dX6_seen_18 (by decide) (fun hF => ?_) (fun hF => ?_)
    · refine lv_aload_n hx hb dX6_seen_28 rfl (lv_at hl 0 rfl) ?_
      refine lv_aload_n hx hb dX6_seen_29 rfl (lv_at hl 0 rfl) ?_
      refine m_getR C fd_X6_12 hI hF dX6_seen_30 (fun r7 hF => ?_)
      refine m_getR C fd_X6_217 hI hF dX6_seen_33 (fun r8 hF => ?_)
      refine lv_iload_n hx hb dX6_seen_36 rfl (lv_at hl 1 rfl) ?_
      refine lv_iload_n hx hb dX6_seen_37 rfl (lv_at hl 2 rfl) ?_
      refine lv_iconst (v := 0) hx hb dX6_seen_38 (by decide) ?_
      refine m_callVi C cd_X6_221 ⟨rfl, by decide⟩ hl.1 hI hF (fun _ h => ok_X6_addTo h) rfl rfl ⟨rfl, rfl, Nat.le_of_ble_eq_true rfl, Nat.le_of_ble_eq_true rfl⟩ ⟨Nat.le_of_ble_eq_true rfl, Nat.le_of_ble_eq_true rfl⟩ (Nat.le_of_ble_eq_true rfl) dX6_seen_39 (fun r9 S10 H locs hF hI => ?_)
      exact m_ireti C hI hF dX6_seen_42
    · exact (bl_X6_seen_21 C) v0 S _ _ _ hF hI (lv_sub hl [0] rfl)
noncomputable def f_X6_fitsSights_2 (k63 : Option Int32) (S : mS) : Nat → Int32 → Int32 → Int32 → Int32 → Option Int32 := fun n => Nat.rec (motive := fun _ => Int32 → Int32 → Int32 → Int32 → Option Int32) (fun _ _ _ _ => none) (fun _ rec v0 v1 v2 v3 => mGr 6 0 v0 S (fun r1 => mGr 5 1 r1 S (fun r2 => mG 3 3 r2 S (fun r3 => if r3 ≤ v3 then (k63) else (mGr 6 0 v0 S (fun r4 => mGr 5 0 r4 S (fun r5 => mGr 6 0 v0 S (fun r6 => mGr 5 1 r6 S (fun r7 => mRc 3 r7 S (mCp (f_X3_get r7 v3 0 S) (fun r8 => mRc 1 r5 S (mCp (f_X1_sheepTo r5 r8 v1 v2 S) (fun r9 => mGr 6 0 v0 S (fun r10 => mGr 5 1 r10 S (fun r11 => mRc 3 r11 S (mCp (f_X3_get r11 v3 1 S) (fun r12 => if r9 = r12 then (rec v0 v1 v2 (v3 + 1)) else (mZ 0 (some 0))))))))))))))))))) n
theorem f_X6_fitsSights_2_s (k63 : Option Int32) (S : mS) (n : Nat) (v0 : Int32) (v1 : Int32) (v2 : Int32) (v3 : Int32) : f_X6_fitsSights_2 k63 S (n + 1) v0 v1 v2 v3 = mGr 6 0 v0 S (fun r1 => mGr 5 1 r1 S (fun r2 => mG 3 3 r2 S (fun r3 => if r3 ≤ v3 then (k63) else (mGr 6 0 v0 S (fun r4 => mGr 5 0 r4 S (fun r5 => mGr 6 0 v0 S (fun r6 => mGr 5 1 r6 S (fun r7 => mRc 3 r7 S (mCp (f_X3_get r7 v3 0 S) (fun r8 => mRc 1 r5 S (mCp (f_X1_sheepTo r5 r8 v1 v2 S) (fun r9 => mGr 6 0 v0 S (fun r10 => mGr 5 1 r10 S (fun r11 => mRc 3 r11 S (mCp (f_X3_get r11 v3 1 S) (fun r12 => if r9 = r12 then ((f_X6_fitsSights_2 k63 S n) v0 v1 v2 (v3 + 1)) else (mZ 0 (some 0)))))))))))))))))) := rfl
noncomputable def f_X6_fitsSights_63 (S : mS) : Option Int32 := mZ 1 (some 1)
noncomputable def f_X6_fitsSights (v0 : Int32) (v1 : Int32) (v2 : Int32) (S : mS) : Option Int32 := (f_X6_fitsSights_2 (f_X6_fitsSights_63 S) S 1000) v0 v1 v2 0
def rm_X6_fitsSights : Room := { frames := 4, cells := 0, slots := 0, locals := 88 }
set_option maxRecDepth 100000 in
set_option maxHeartbeats 4000000 in
theorem bl_X6_fitsSights_2 {p : Program} {l : Launch} {e : Env} {s : State} {m : MethodId} {args : Array Value} {below : List Frame} {meth : Method} {c : Code} {E : mE} {n0 : Nat} {r : Int32} {S : mS} (C : mCx p s m args meth c cX6_fitsSights 4 RX6 (some .boolean) E n0) {k63 : Option Int32} (hk63 : ∀ (H : Heap) (locs : List Loc) (ls : Array Slot), k63 = some r → mIv s E S H locs 0 → lv_has ls 4 [] → W p l e rm_X6_fitsSights s m args below meth c H locs 0 0 (mQi below args s 0 0 n0 E (r, S)) (F0 m 63 ls [])) : ∀ (n : Nat)  (v0 : Int32) (v1 : Int32) (v2 : Int32) (v3 : Int32) (H : Heap) (locs : List Loc) (ls : Array Slot), f_X6_fitsSights_2 k63 S n v0 v1 v2 v3 = some r → mIv s E S H locs 0 → lv_has ls 4 [(0, .ref (mA E.b v0)), (1, .int v1), (2, .int v2), (3, .int v3)] → W p l e rm_X6_fitsSights s m args below meth c H locs 0 0 (mQi below args s 0 0 n0 E (r, S)) (F0 m 2 ls []) := by
  have hx := C.1
  have hb := C.2.1
  intro n
  induction n with
  | zero =>
    intro v0 v1 v2 v3 H locs ls hF
    exact nomatch (show (none : Option Int32) = some r from hF)
  | succ n ih =>
    intro v0 v1 v2 v3 H locs ls hF hI hl
    have hF := (f_X6_fitsSights_2_s k63 S n v0 v1 v2 v3).symm.trans hF
    refine lv_iload_n hx hb dX6_fitsSights_2 rfl (lv_at hl 3 rfl) ?_
    refine lv_aload_n hx hb dX6_fitsSights_3 rfl (lv_at hl 0 rfl) ?_
    refine m_getR C fd_X6_12 hI hF dX6_fitsSights_4 (fun r1 hF => ?_)
    refine m_getR C fd_X6_217 hI hF dX6_fitsSights_7 (fun r2 hF => ?_)
    refine m_get C fd_X6_241 hI hF dX6_fitsSights_10 (fun r3 hF => ?_)
    refine m_icmp_ge C (tgt := 63) hF dX6_fitsSights_13 (by decide) (fun hF => ?_) (fun hF => ?_)
    · exact hk63  _ _ _ hF hI (lv_sub hl [] rfl)
    · refine lv_aload_n hx hb dX6_fitsSights_16 rfl (lv_at hl 0 rfl) ?_
      refine m_getR C fd_X6_12 hI hF dX6_fitsSights_17 (fun r4 hF => ?_)
      refine m_getR C fd_X6_76 hI hF dX6_fitsSights_20 (fun r5 hF => ?_)
      refine lv_aload_n hx hb dX6_fitsSights_23 rfl (lv_at hl 0 rfl) ?_
      refine m_getR C fd_X6_12 hI hF dX6_fitsSights_24 (fun r6 hF => ?_)
      refine m_getR C fd_X6_217 hI hF dX6_fitsSights_27 (fun r7 hF => ?_)
      refine lv_iload_n hx hb dX6_fitsSights_30 rfl (lv_at hl 3 rfl) ?_
      refine lv_iconst (v := 0) hx hb dX6_fitsSights_31 (by decide) ?_
      refine m_callViR C cd_X6_345 ⟨rfl, by decide⟩ hl.1 hI hF (fun _ h => ok_X3_get h) rfl rfl ⟨rfl, rfl, Nat.le_of_ble_eq_true rfl, Nat.le_of_ble_eq_true rfl⟩ ⟨Nat.le_of_ble_eq_true rfl, Nat.le_of_ble_eq_true rfl⟩ (Nat.le_of_ble_eq_true rfl) dX6_fitsSights_32 (fun r8 H locs hF hI => ?_)
      refine lv_iload_n hx hb dX6_fitsSights_35 rfl (lv_at hl 1 rfl) ?_
      refine lv_iload_n hx hb dX6_fitsSights_36 rfl (lv_at hl 2 rfl) ?_
      refine m_callViR C cd_X6_182 ⟨rfl, by decide⟩ hl.1 hI hF (fun _ h => ok_X1_sheepTo h) rfl rfl ⟨rfl, rfl, Nat.le_of_ble_eq_true rfl, Nat.le_of_ble_eq_true rfl⟩ ⟨Nat.le_of_ble_eq_true rfl, Nat.le_of_ble_eq_true rfl⟩ (Nat.le_of_ble_eq_true rfl) dX6_fitsSights_37 (fun r9 H locs hF hI => ?_)
      refine lv_aload_n hx hb dX6_fitsSights_40 rfl (lv_at hl 0 rfl) ?_
      refine m_getR C fd_X6_12 hI hF dX6_fitsSights_41 (fun r10 hF => ?_)
      refine m_getR C fd_X6_217 hI hF dX6_fitsSights_44 (fun r11 hF => ?_)
      refine lv_iload_n hx hb dX6_fitsSights_47 rfl (lv_at hl 3 rfl) ?_
      refine lv_iconst (v := 1) hx hb dX6_fitsSights_48 (by decide) ?_
      refine m_callViR C cd_X6_345 ⟨rfl, by decide⟩ hl.1 hI hF (fun _ h => ok_X3_get h) rfl rfl ⟨rfl, rfl, Nat.le_of_ble_eq_true rfl, Nat.le_of_ble_eq_true rfl⟩ ⟨Nat.le_of_ble_eq_true rfl, Nat.le_of_ble_eq_true rfl⟩ (Nat.le_of_ble_eq_true rfl) dX6_fitsSights_49 (fun r12 H locs hF hI => ?_)
      refine m_icmp_eq C (tgt := 57) hF dX6_fitsSights_52 (by decide) (fun hF => ?_) (fun hF => ?_)
      · refine lv_iinc (v := v3 + 1) (lv' := [(3, .int (v3 + 1)), (0, .ref (mA E.b v0)), (1, .int v1), (2, .int v2)]) hx hb dX6_fitsSights_57 hl (k := 3) rfl rfl (by decide) rfl (fun ls hl => ?_)
        refine lv_goto (tgt := 2) hx hb dX6_fitsSights_60 (by decide) ?_
        exact ih v0 v1 v2 (v3 + 1) _ _ _ hF hI (lv_sub hl [1, 2, 3, 0] rfl)
      · refine lv_iconst (v := 0) hx hb dX6_fitsSights_55 (by decide) ?_
        exact m_iretzR C hI hF dX6_fitsSights_56
set_option maxRecDepth 100000 in
set_option maxHeartbeats 4000000 in
theorem bl_X6_fitsSights_63 {p : Program} {l : Launch} {e : Env} {s : State} {m : MethodId} {args : Array Value} {below : List Frame} {meth : Method} {c : Code} {E : mE} {n0 : Nat} {r : Int32} {S : mS} (C : mCx p s m args meth c cX6_fitsSights 4 RX6 (some .boolean) E n0) : ∀  (H : Heap) (locs : List Loc) (ls : Array Slot), f_X6_fitsSights_63 S = some r → mIv s E S H locs 0 → lv_has ls 4 [] → W p l e rm_X6_fitsSights s m args below meth c H locs 0 0 (mQi below args s 0 0 n0 E (r, S)) (F0 m 63 ls []) := by
  have hx := C.1
  have hb := C.2.1
  intro H locs ls hF hI hl
  refine lv_iconst (v := 1) hx hb dX6_fitsSights_63 (by decide) ?_
  exact m_iretzR C hI hF dX6_fitsSights_64
set_option maxRecDepth 100000 in
set_option maxHeartbeats 4000000 in
theorem ok_X6_fitsSights {l : Launch} {E : mE} {v0 : Int32} {v1 : Int32} {v2 : Int32} {S : mS} {r : Int32} (hF : f_X6_fitsSights v0 v1 v2 S = some r) : mMi l yX6_fitsSights cX6_fitsSights 4 (some .boolean) rm_X6_fitsSights 0 0 [.ref (mA E.b v0), .int v1, .int v2] E S (r, S) := by
  refine m_met_i (by decide) (Nat.le_of_ble_eq_true rfl) (fun p e s m args below meth c ls hin C hI hl => ?_)
  have hx := C.1
  have hb := C.2.1
  have hl : lv_has ls 4 [(0, .ref (mA E.b v0)), (1, .int v1), (2, .int v2)] := hl
  generalize s.heap = H at hI ⊢
  generalize ([] : List Loc) = locs at hI ⊢
  refine lv_iconst (v := 0) hx hb dX6_fitsSights_0 (by decide) ?_
  refine lv_istore_n (lv' := [(3, .int 0), (0, .ref (mA E.b v0)), (1, .int v1), (2, .int v2)]) hx hb dX6_fitsSights_1 rfl hl (by decide) rfl (fun ls hl => ?_)
  exact (bl_X6_fitsSights_2 C (k63 := (f_X6_fitsSights_63 S)) (bl_X6_fitsSights_63 C) 1000) v0 v1 v2 0 _ _ _ hF hI (lv_sub hl [1, 2, 3, 0] rfl)
noncomputable def f_X6_fittingCalls_24 (k4 : Int32 → Int32 → Int32 → Int32 → Option Int32) (S : mS) (v0 : Int32) (v1 : Int32) (v2 : Int32) (v3 : Int32) : Option Int32 := k4 v0 v1 v2 (v3 + 1)
noncomputable def f_X6_fittingCalls_4 (k30 : Int32 → Option Int32) (S : mS) : Nat → Int32 → Int32 → Int32 → Int32 → Option Int32 := fun n => Nat.rec (motive := fun _ => Int32 → Int32 → Int32 → Int32 → Option Int32) (fun _ _ _ _ => none) (fun _ rec v0 v1 v2 v3 => if 5 ≤ v3 then (k30 v2) else (mRc 6 v0 S (mCp (f_X6_fitsSights v0 v1 v3 S) (fun r1 => if r1 = 0 then ((f_X6_fittingCalls_24 rec S) v0 v1 v2 v3) else ((f_X6_fittingCalls_24 rec S) v0 v1 (v2 ||| (1 <<< (v3 &&& 31))) v3))))) n
theorem f_X6_fittingCalls_4_s (k30 : Int32 → Option Int32) (S : mS) (n : Nat) (v0 : Int32) (v1 : Int32) (v2 : Int32) (v3 : Int32) : f_X6_fittingCalls_4 k30 S (n + 1) v0 v1 v2 v3 = if 5 ≤ v3 then (k30 v2) else (mRc 6 v0 S (mCp (f_X6_fitsSights v0 v1 v3 S) (fun r1 => if r1 = 0 then ((f_X6_fittingCalls_24 (f_X6_fittingCalls_4 k30 S n) S) v0 v1 v2 v3) else ((f_X6_fittingCalls_24 (f_X6_fittingCalls_4 k30 S n) S) v0 v1 (v2 ||| (1 <<< (v3 &&& 31))) v3)))) := rfl
noncomputable def f_X6_fittingCalls_30 (S : mS) (v2 : Int32) : Option Int32 := some v2
noncomputable def f_X6_fittingCalls (v0 : Int32) (v1 : Int32) (S : mS) : Option Int32 := (f_X6_fittingCalls_4 (f_X6_fittingCalls_30 S) S 1000) v0 v1 0 0
def rm_X6_fittingCalls : Room := { frames := 5, cells := 0, slots := 0, locals := 111 }
set_option maxRecDepth 100000 in
set_option maxHeartbeats 4000000 in
theorem bl_X6_fittingCalls_24 {p : Program} {l : Launch} {e : Env} {s : State} {m : MethodId} {args : Array Value} {below : List Frame} {meth : Method} {c : Code} {E : mE} {n0 : Nat} {r : Int32} {S : mS} (C : mCx p s m args meth c cX6_fittingCalls 4 RX6 (some .int) E n0) {k4 : Int32 → Int32 → Int32 → Int32 → Option Int32} (hk4 : ∀ (v0 : Int32) (v1 : Int32) (v2 : Int32) (v3 : Int32) (H : Heap) (locs : List Loc) (ls : Array Slot), k4 v0 v1 v2 v3 = some r → mIv s E S H locs 0 → lv_has ls 4 [(0, .ref (mA E.b v0)), (1, .int v1), (2, .int v2), (3, .int v3)] → W p l e rm_X6_fittingCalls s m args below meth c H locs 0 0 (mQi below args s 0 0 n0 E (r, S)) (F0 m 4 ls [])) : ∀  (v0 : Int32) (v1 : Int32) (v2 : Int32) (v3 : Int32) (H : Heap) (locs : List Loc) (ls : Array Slot), f_X6_fittingCalls_24 k4 S v0 v1 v2 v3 = some r → mIv s E S H locs 0 → lv_has ls 4 [(0, .ref (mA E.b v0)), (1, .int v1), (2, .int v2), (3, .int v3)] → W p l e rm_X6_fittingCalls s m args below meth c H locs 0 0 (mQi below args s 0 0 n0 E (r, S)) (F0 m 24 ls []) := by
  have hx := C.1
  have hb := C.2.1
  intro v0 v1 v2 v3 H locs ls hF hI hl
  refine lv_iinc (v := v3 + 1) (lv' := [(3, .int (v3 + 1)), (0, .ref (mA E.b v0)), (1, .int v1), (2, .int v2)]) hx hb dX6_fittingCalls_24 hl (k := 3) rfl rfl (by decide) rfl (fun ls hl => ?_)
  refine lv_goto (tgt := 4) hx hb dX6_fittingCalls_27 (by decide) ?_
  exact hk4 v0 v1 v2 (v3 + 1) _ _ _ hF hI (lv_sub hl [1, 2, 3, 0] rfl)
set_option maxRecDepth 100000 in
set_option maxHeartbeats 4000000 in
theorem bl_X6_fittingCalls_4 {p : Program} {l : Launch} {e : Env} {s : State} {m : MethodId} {args : Array Value} {below : List Frame} {meth : Method} {c : Code} {E : mE} {n0 : Nat} {r : Int32} {S : mS} (C : mCx p s m args meth c cX6_fittingCalls 4 RX6 (some .int) E n0) {k30 : Int32 → Option Int32} (hk30 : ∀ (v2 : Int32) (H : Heap) (locs : List Loc) (ls : Array Slot), k30 v2 = some r → mIv s E S H locs 0 → lv_has ls 4 [(2, .int v2)] → W p l e rm_X6_fittingCalls s m args below meth c H locs 0 0 (mQi below args s 0 0 n0 E (r, S)) (F0 m 30 ls [])) : ∀ (n : Nat)  (v0 : Int32) (v1 : Int32) (v2 : Int32) (v3 : Int32) (H : Heap) (locs : List Loc) (ls : Array Slot), f_X6_fittingCalls_4 k30 S n v0 v1 v2 v3 = some r → mIv s E S H locs 0 → lv_has ls 4 [(0, .ref (mA E.b v0)), (1, .int v1), (2, .int v2), (3, .int v3)] → W p l e rm_X6_fittingCalls s m args below meth c H locs 0 0 (mQi below args s 0 0 n0 E (r, S)) (F0 m 4 ls []) := by
  have hx := C.1
  have hb := C.2.1
  intro n
  induction n with
  | zero =>
    intro v0 v1 v2 v3 H locs ls hF
    exact nomatch (show (none : Option Int32) = some r from hF)
  | succ n ih =>
    intro v0 v1 v2 v3 H locs ls hF hI hl
    have hF := (f_X6_fittingCalls_4_s k30 S n v0 v1 v2 v3).symm.trans hF
    refine lv_iload_n hx hb dX6_fittingCalls_4 rfl (lv_at hl 3 rfl) ?_
    refine lv_iconst (v := 5) hx hb dX6_fittingCalls_5 (by decide) ?_
    refine m_icmp_ge C (tgt := 30) hF dX6_fittingCalls_6 (by decide) (fun hF => ?_) (fun hF => ?_)
    · exact hk30 v2 _ _ _ hF hI (lv_sub hl [2] rfl)
    · refine lv_aload_n hx hb dX6_fittingCalls_9 rfl (lv_at hl 0 rfl) ?_
      refine lv_iload_n hx hb dX6_fittingCalls_10 rfl (lv_at hl 1 rfl) ?_
      refine lv_iload_n hx hb dX6_fittingCalls_11 rfl (lv_at hl 3 rfl) ?_
      refine m_callViR C cd_X6_342 ⟨rfl, by decide⟩ hl.1 hI hF (fun _ h => ok_X6_fitsSights h) rfl rfl ⟨rfl, rfl, Nat.le_of_ble_eq_true rfl, Nat.le_of_ble_eq_true rfl⟩ ⟨Nat.le_of_ble_eq_true rfl, Nat.le_of_ble_eq_true rfl⟩ (Nat.le_of_ble_eq_true rfl) dX6_fittingCalls_12 (fun r1 H locs hF hI => ?_)
      refine m_if_eq C (tgt := 24) hF dX6_fittingCalls_15 (by decide) (fun hF => ?_) (fun hF => ?_)
      · exact (bl_X6_fittingCalls_24 C (k4 := (f_X6_fittingCalls_4 k30 S n)) ih) v0 v1 v2 v3 _ _ _ hF hI (lv_sub hl [0, 1, 2, 3] rfl)
      · refine lv_iload_n hx hb dX6_fittingCalls_18 rfl (lv_at hl 2 rfl) ?_
        refine lv_iconst (v := 1) hx hb dX6_fittingCalls_19 (by decide) ?_
        refine lv_iload_n hx hb dX6_fittingCalls_20 rfl (lv_at hl 3 rfl) ?_
        refine lv_ishl hx hb dX6_fittingCalls_21 ?_
        refine lv_ior hx hb dX6_fittingCalls_22 ?_
        refine lv_istore_n (lv' := [(2, .int (v2 ||| (1 <<< (v3 &&& 31)))), (0, .ref (mA E.b v0)), (1, .int v1), (3, .int v3)]) hx hb dX6_fittingCalls_23 rfl hl (by decide) rfl (fun ls hl => ?_)
        exact (bl_X6_fittingCalls_24 C (k4 := (f_X6_fittingCalls_4 k30 S n)) ih) v0 v1 (v2 ||| (1 <<< (v3 &&& 31))) v3 _ _ _ hF hI (lv_sub hl [1, 2, 0, 3] rfl)
set_option maxRecDepth 100000 in
set_option maxHeartbeats 4000000 in
theorem bl_X6_fittingCalls_30 {p : Program} {l : Launch} {e : Env} {s : State} {m : MethodId} {args : Array Value} {below : List Frame} {meth : Method} {c : Code} {E : mE} {n0 : Nat} {r : Int32} {S : mS} (C : mCx p s m args meth c cX6_fittingCalls 4 RX6 (some .int) E n0) : ∀  (v2 : Int32) (H : Heap) (locs : List Loc) (ls : Array Slot), f_X6_fittingCalls_30 S v2 = some r → mIv s E S H locs 0 → lv_has ls 4 [(2, .int v2)] → W p l e rm_X6_fittingCalls s m args below meth c H locs 0 0 (mQi below args s 0 0 n0 E (r, S)) (F0 m 30 ls []) := by
  have hx := C.1
  have hb := C.2.1
  intro v2 H locs ls hF hI hl
  refine lv_iload_n hx hb dX6_fittingCalls_30 rfl (lv_at hl 0 rfl) ?_
  exact m_iretiR C hI hF dX6_fittingCalls_31
set_option maxRecDepth 100000 in
set_option maxHeartbeats 4000000 in
theorem ok_X6_fittingCalls {l : Launch} {E : mE} {v0 : Int32} {v1 : Int32} {S : mS} {r : Int32} (hF : f_X6_fittingCalls v0 v1 S = some r) : mMi l yX6_fittingCalls cX6_fittingCalls 4 (some .int) rm_X6_fittingCalls 0 0 [.ref (mA E.b v0), .int v1] E S (r, S) := by
  refine m_met_i (by decide) (Nat.le_of_ble_eq_true rfl) (fun p e s m args below meth c ls hin C hI hl => ?_)
  have hx := C.1
  have hb := C.2.1
  have hl : lv_has ls 4 [(0, .ref (mA E.b v0)), (1, .int v1)] := hl
  generalize s.heap = H at hI ⊢
  generalize ([] : List Loc) = locs at hI ⊢
  refine lv_iconst (v := 0) hx hb dX6_fittingCalls_0 (by decide) ?_
  refine lv_istore_n (lv' := [(2, .int 0), (0, .ref (mA E.b v0)), (1, .int v1)]) hx hb dX6_fittingCalls_1 rfl hl (by decide) rfl (fun ls hl => ?_)
  refine lv_iconst (v := 0) hx hb dX6_fittingCalls_2 (by decide) ?_
  refine lv_istore_n (lv' := [(3, .int 0), (2, .int 0), (0, .ref (mA E.b v0)), (1, .int v1)]) hx hb dX6_fittingCalls_3 rfl hl (by decide) rfl (fun ls hl => ?_)
  exact (bl_X6_fittingCalls_4 C (k30 := (f_X6_fittingCalls_30 S)) (bl_X6_fittingCalls_30 C) 1000) v0 v1 0 0 _ _ _ hF hI (lv_sub hl [2, 3, 1, 0] rfl)
noncomputable def f_X6_which_28 (t0 : Int32) (S : mS) : Option (Int32 × mS) := some (t0, S)
noncomputable def f_X6_which (v0 : Int32) (v1 : Int32) (S : mS) : Option (Int32 × mS) := mGr 6 0 v0 S (fun r1 => mGr 5 0 r1 S (fun r2 => mRc 1 r2 S (mCp (f_X1_hasWhistle r2 v1 S) (fun r3 => if r3 = 0 then (mRc 6 v0 S (mC (f_X6_refuseBad v0 (-2) S) (fun r4 S5 => (f_X6_which_28) r4 S5))) else (mRc 6 v0 S (mCp (f_X6_fittingCalls v0 v1 S) (fun r6 => (f_X6_which_28) r6 S)))))))
def rm_X6_which : Room := { frames := 6, cells := 0, slots := 0, locals := 134 }
set_option maxRecDepth 100000 in
set_option maxHeartbeats 4000000 in
theorem bl_X6_which_28 {p : Program} {l : Launch} {e : Env} {s : State} {m : MethodId} {args : Array Value} {below : List Frame} {meth : Method} {c : Code} {E : mE} {n0 : Nat} {F : Int32 × mS} (C : mCx p s m args meth c cX6_which 2 RX6 (some .int) E n0) : ∀  (t0 : Int32) (S : mS) (H : Heap) (locs : List Loc) (ls : Array Slot), f_X6_which_28 t0 S = some F → mIv s E S H locs 0 → lv_has ls 2 [] → W p l e rm_X6_which s m args below meth c H locs 0 0 (mQi below args s 0 0 n0 E F) (F0 m 28 ls [.int t0]) := by
  have hx := C.1
  have hb := C.2.1
  intro t0 S H locs ls hF hI hl
  exact m_ireti C hI hF dX6_which_28
set_option maxRecDepth 100000 in
set_option maxHeartbeats 4000000 in
theorem ok_X6_which {l : Launch} {E : mE} {v0 : Int32} {v1 : Int32} {S : mS} {F : Int32 × mS} (hF : f_X6_which v0 v1 S = some F) : mMi l yX6_which cX6_which 2 (some .int) rm_X6_which 0 0 [.ref (mA E.b v0), .int v1] E S F := by
  refine m_met_i (by decide) (Nat.le_of_ble_eq_true rfl) (fun p e s m args below meth c ls hin C hI hl => ?_)
  have hx := C.1
  have hb := C.2.1
  have hl : lv_has ls 2 [(0, .ref (mA E.b v0)), (1, .int v1)] := hl
  generalize s.heap = H at hI ⊢
  generalize ([] : List Loc) = locs at hI ⊢
  refine lv_aload_n hx hb dX6_which_0 rfl (lv_at hl 0 rfl) ?_
  refine m_getR C fd_X6_12 hI hF dX6_which_1 (fun r1 hF => ?_)
  refine m_getR C fd_X6_76 hI hF dX6_which_4 (fun r2 hF => ?_)
  refine lv_iload_n hx hb dX6_which_7 rfl (lv_at hl 1 rfl) ?_
  refine m_callViR C cd_X6_134 ⟨rfl, by decide⟩ hl.1 hI hF (fun _ h => ok_X1_hasWhistle h) rfl rfl ⟨rfl, rfl, Nat.le_of_ble_eq_true rfl, Nat.le_of_ble_eq_true rfl⟩ ⟨Nat.le_of_ble_eq_true rfl, Nat.le_of_ble_eq_true rfl⟩ (Nat.le_of_ble_eq_true rfl) dX6_which_8 (fun r3 H locs hF hI => ?_)
  refine m_if_eq C (tgt := 22) hF dX6_which_11 (by decide) (fun hF => ?_) (fun hF => ?_)
  · refine lv_aload_n hx hb dX6_which_22 rfl (lv_at hl 0 rfl) ?_
    refine lv_bipush (v := (-2)) hx hb dX6_which_23 (by decide) ?_
    refine m_callVi C cd_X6_72 ⟨rfl, by decide⟩ hl.1 hI hF (fun _ h => ok_X6_refuseBad h) rfl rfl ⟨rfl, rfl, Nat.le_of_ble_eq_true rfl, Nat.le_of_ble_eq_true rfl⟩ ⟨Nat.le_of_ble_eq_true rfl, Nat.le_of_ble_eq_true rfl⟩ (Nat.le_of_ble_eq_true rfl) dX6_which_25 (fun r4 S5 H locs hF hI => ?_)
    exact (bl_X6_which_28 C) r4 S5 _ _ _ hF hI (lv_sub hl [] rfl)
  · refine lv_aload_n hx hb dX6_which_14 rfl (lv_at hl 0 rfl) ?_
    refine lv_iload_n hx hb dX6_which_15 rfl (lv_at hl 1 rfl) ?_
    refine m_callViR C cd_X6_225 ⟨rfl, by decide⟩ hl.1 hI hF (fun _ h => ok_X6_fittingCalls h) rfl rfl ⟨rfl, rfl, Nat.le_of_ble_eq_true rfl, Nat.le_of_ble_eq_true rfl⟩ ⟨Nat.le_of_ble_eq_true rfl, Nat.le_of_ble_eq_true rfl⟩ (Nat.le_of_ble_eq_true rfl) dX6_which_16 (fun r6 H locs hF hI => ?_)
    refine lv_goto (tgt := 28) hx hb dX6_which_19 (by decide) ?_
    exact (bl_X6_which_28 C) r6 S _ _ _ hF hI (lv_sub hl [] rfl)
noncomputable def f_X6_whose_72 (k40 : Int32 → Int32 → Int32 → Int32 → Int32 → Int32 → mS → Option (Int32 × mS)) (v0 : Int32) (v1 : Int32) (v2 : Int32) (v3 : Int32) (v4 : Int32) (v5 : Int32) (S : mS) : Option (Int32 × mS) := k40 v0 v1 v2 v3 v4 (v5 + 1) S
noncomputable def f_X6_whose_40 (k78 : Int32 → Int32 → Int32 → Int32 → mS → Option (Int32 × mS)) : Nat → Int32 → Int32 → Int32 → Int32 → Int32 → Int32 → mS → Option (Int32 × mS) := fun n => Nat.rec (motive := fun _ => Int32 → Int32 → Int32 → Int32 → Int32 → Int32 → mS → Option (Int32 × mS)) (fun _ _ _ _ _ _ _ => none) (fun _ rec v0 v1 v2 v3 v4 v5 S => if 5 ≤ v5 then (k78 v0 v1 v2 v3 S) else (mCp (f_X6_hasBit v4 v5) (fun r5 => if r5 = 0 then ((f_X6_whose_72 rec) v0 v1 v2 v3 v4 v5 S) else (if v2 = v1 then (some ((10 * v3) + v5, S)) else ((f_X6_whose_72 rec) v0 v1 (v2 + 1) v3 v4 v5 S))))) n
theorem f_X6_whose_40_s (k78 : Int32 → Int32 → Int32 → Int32 → mS → Option (Int32 × mS)) (n : Nat) (v0 : Int32) (v1 : Int32) (v2 : Int32) (v3 : Int32) (v4 : Int32) (v5 : Int32) (S : mS) : f_X6_whose_40 k78 (n + 1) v0 v1 v2 v3 v4 v5 S = if 5 ≤ v5 then (k78 v0 v1 v2 v3 S) else (mCp (f_X6_hasBit v4 v5) (fun r5 => if r5 = 0 then ((f_X6_whose_72 (f_X6_whose_40 k78 n)) v0 v1 v2 v3 v4 v5 S) else (if v2 = v1 then (some ((10 * v3) + v5, S)) else ((f_X6_whose_72 (f_X6_whose_40 k78 n)) v0 v1 (v2 + 1) v3 v4 v5 S)))) := rfl
noncomputable def f_X6_whose_78 (k16 : Int32 → Int32 → Int32 → Int32 → mS → Option (Int32 × mS)) (v0 : Int32) (v1 : Int32) (v2 : Int32) (v3 : Int32) (S : mS) : Option (Int32 × mS) := k16 v0 v1 v2 (v3 + 1) S
noncomputable def f_X6_whose_16 (k84 : Int32 → Int32 → mS → Option (Int32 × mS)) : Nat → Int32 → Int32 → Int32 → Int32 → mS → Option (Int32 × mS) := fun n => Nat.rec (motive := fun _ => Int32 → Int32 → Int32 → Int32 → mS → Option (Int32 × mS)) (fun _ _ _ _ _ => none) (fun _ rec v0 v1 v2 v3 S => mGr 6 0 v0 S (fun r1 => mGr 5 0 r1 S (fun r2 => mG 1 4 r2 S (fun r3 => if r3 ≤ v3 then (k84 v1 v2 S) else (mRc 6 v0 S (mCp (f_X6_fittingCalls v0 v3 S) (fun r4 => (f_X6_whose_40 (f_X6_whose_78 rec) 1000) v0 v1 v2 v3 r4 0 S))))))) n
theorem f_X6_whose_16_s (k84 : Int32 → Int32 → mS → Option (Int32 × mS)) (n : Nat) (v0 : Int32) (v1 : Int32) (v2 : Int32) (v3 : Int32) (S : mS) : f_X6_whose_16 k84 (n + 1) v0 v1 v2 v3 S = mGr 6 0 v0 S (fun r1 => mGr 5 0 r1 S (fun r2 => mG 1 4 r2 S (fun r3 => if r3 ≤ v3 then (k84 v1 v2 S) else (mRc 6 v0 S (mCp (f_X6_fittingCalls v0 v3 S) (fun r4 => (f_X6_whose_40 (f_X6_whose_78 (f_X6_whose_16 k84 n)) 1000) v0 v1 v2 v3 r4 0 S)))))) := rfl
noncomputable def f_X6_whose_95 (t0 : Int32) (S : mS) : Option (Int32 × mS) := some (t0, S)
noncomputable def f_X6_whose_84 (v1 : Int32) (v2 : Int32) (S : mS) : Option (Int32 × mS) := if v1 = (-1) then ((f_X6_whose_95) v2 S) else ((f_X6_whose_95) (-5) S)
noncomputable def f_X6_whose (v0 : Int32) (v1 : Int32) (S : mS) : Option (Int32 × mS) := if (-1) ≤ v1 then ((f_X6_whose_16 (f_X6_whose_84) 1000) v0 v1 0 0 S) else (mRc 6 v0 S (mC (f_X6_refuseBad v0 (-10) S) (fun r6 S7 => some (r6, S7))))
def rm_X6_whose : Room := { frames := 6, cells := 0, slots := 0, locals := 134 }
set_option maxRecDepth 100000 in
set_option maxHeartbeats 4000000 in
theorem bl_X6_whose_72 {p : Program} {l : Launch} {e : Env} {s : State} {m : MethodId} {args : Array Value} {below : List Frame} {meth : Method} {c : Code} {E : mE} {n0 : Nat} {F : Int32 × mS} (C : mCx p s m args meth c cX6_whose 6 RX6 (some .int) E n0) {k40 : Int32 → Int32 → Int32 → Int32 → Int32 → Int32 → mS → Option (Int32 × mS)} (hk40 : ∀ (v0 : Int32) (v1 : Int32) (v2 : Int32) (v3 : Int32) (v4 : Int32) (v5 : Int32) (S : mS) (H : Heap) (locs : List Loc) (ls : Array Slot), k40 v0 v1 v2 v3 v4 v5 S = some F → mIv s E S H locs 0 → lv_has ls 6 [(0, .ref (mA E.b v0)), (1, .int v1), (2, .int v2), (3, .int v3), (4, .int v4), (5, .int v5)] → W p l e rm_X6_whose s m args below meth c H locs 0 0 (mQi below args s 0 0 n0 E F) (F0 m 40 ls [])) : ∀  (v0 : Int32) (v1 : Int32) (v2 : Int32) (v3 : Int32) (v4 : Int32) (v5 : Int32) (S : mS) (H : Heap) (locs : List Loc) (ls : Array Slot), f_X6_whose_72 k40 v0 v1 v2 v3 v4 v5 S = some F → mIv s E S H locs 0 → lv_has ls 6 [(0, .ref (mA E.b v0)), (1, .int v1), (2, .int v2), (3, .int v3), (4, .int v4), (5, .int v5)] → W p l e rm_X6_whose s m args below meth c H locs 0 0 (mQi below args s 0 0 n0 E F) (F0 m 72 ls []) := by
  have hx := C.1
  have hb := C.2.1
  intro v0 v1 v2 v3 v4 v5 S H locs ls hF hI hl
  refine lv_iinc (v := v5 + 1) (lv' := [(5, .int (v5 + 1)), (0, .ref (mA E.b v0)), (1, .int v1), (2, .int v2), (3, .int v3), (4, .int v4)]) hx hb dX6_whose_72 hl (k := 5) rfl rfl (by decide) rfl (fun ls hl => ?_)
  refine lv_goto (tgt := 40) hx hb dX6_whose_75 (by decide) ?_
  exact hk40 v0 v1 v2 v3 v4 (v5 + 1) S _ _ _ hF hI (lv_sub hl [1, 2, 3, 4, 5, 0] rfl)
set_option maxRecDepth 100000 in
set_option maxHeartbeats 4000000 in
theorem bl_X6_whose_40 {p : Program} {l : Launch} {e : Env} {s : State} {m : MethodId} {args : Array Value} {below : List Frame} {meth : Method} {c : Code} {E : mE} {n0 : Nat} {F : Int32 × mS} (C : mCx p s m args meth c cX6_whose 6 RX6 (some .int) E n0) {k78 : Int32 → Int32 → Int32 → Int32 → mS → Option (Int32 × mS)} (hk78 : ∀ (v0 : Int32) (v1 : Int32) (v2 : Int32) (v3 : Int32) (S : mS) (H : Heap) (locs : List Loc) (ls : Array Slot), k78 v0 v1 v2 v3 S = some F → mIv s E S H locs 0 → lv_has ls 6 [(0, .ref (mA E.b v0)), (1, .int v1), (2, .int v2), (3, .int v3)] → W p l e rm_X6_whose s m args below meth c H locs 0 0 (mQi below args s 0 0 n0 E F) (F0 m 78 ls [])) : ∀ (n : Nat)  (v0 : Int32) (v1 : Int32) (v2 : Int32) (v3 : Int32) (v4 : Int32) (v5 : Int32) (S : mS) (H : Heap) (locs : List Loc) (ls : Array Slot), f_X6_whose_40 k78 n v0 v1 v2 v3 v4 v5 S = some F → mIv s E S H locs 0 → lv_has ls 6 [(0, .ref (mA E.b v0)), (1, .int v1), (2, .int v2), (3, .int v3), (4, .int v4), (5, .int v5)] → W p l e rm_X6_whose s m args below meth c H locs 0 0 (mQi below args s 0 0 n0 E F) (F0 m 40 ls []) := by
  have hx := C.1
  have hb := C.2.1
  intro n
  induction n with
  | zero =>
    intro v0 v1 v2 v3 v4 v5 S H locs ls hF
    exact nomatch (show (none : Option (Int32 × mS)) = some F from hF)
  | succ n ih =>
    intro v0 v1 v2 v3 v4 v5 S H locs ls hF hI hl
    have hF := (f_X6_whose_40_s k78 n v0 v1 v2 v3 v4 v5 S).symm.trans hF
    refine lv_iload hx hb dX6_whose_40 (lv_at hl 5 rfl) ?_
    refine lv_iconst (v := 5) hx hb dX6_whose_42 (by decide) ?_
    refine m_icmp_ge C (tgt := 78) hF dX6_whose_43 (by decide) (fun hF => ?_) (fun hF => ?_)
    · exact hk78 v0 v1 v2 v3 S _ _ _ hF hI (lv_sub hl [0, 1, 2, 3] rfl)
    · refine lv_iload hx hb dX6_whose_46 (lv_at hl 4 rfl) ?_
      refine lv_iload hx hb dX6_whose_48 (lv_at hl 5 rfl) ?_
      refine m_callSiR C cd_X6_228 hl.1 hI hF (fun _ h => ok_X6_hasBit h) rfl rfl ⟨rfl, rfl, Nat.le_of_ble_eq_true rfl, Nat.le_of_ble_eq_true rfl⟩ ⟨Nat.le_of_ble_eq_true rfl, Nat.le_of_ble_eq_true rfl⟩ (Nat.le_of_ble_eq_true rfl) dX6_whose_50 (fun r5 H locs hF hI => ?_)
      refine m_if_eq C (tgt := 72) hF dX6_whose_53 (by decide) (fun hF => ?_) (fun hF => ?_)
      · exact (bl_X6_whose_72 C (k40 := (f_X6_whose_40 k78 n)) ih) v0 v1 v2 v3 v4 v5 S _ _ _ hF hI (lv_sub hl [0, 1, 2, 3, 4, 5] rfl)
      · refine lv_iload_n hx hb dX6_whose_56 rfl (lv_at hl 2 rfl) ?_
        refine lv_iload_n hx hb dX6_whose_57 rfl (lv_at hl 1 rfl) ?_
        refine m_icmp_ne C (tgt := 69) hF dX6_whose_58 (by decide) (fun hF => ?_) (fun hF => ?_)
        · refine lv_iinc (v := v2 + 1) (lv' := [(2, .int (v2 + 1)), (0, .ref (mA E.b v0)), (1, .int v1), (3, .int v3), (4, .int v4), (5, .int v5)]) hx hb dX6_whose_69 hl (k := 2) rfl rfl (by decide) rfl (fun ls hl => ?_)
          exact (bl_X6_whose_72 C (k40 := (f_X6_whose_40 k78 n)) ih) v0 v1 (v2 + 1) v3 v4 v5 S _ _ _ hF hI (lv_sub hl [1, 2, 0, 3, 4, 5] rfl)
        · refine lv_bipush (v := 10) hx hb dX6_whose_61 (by decide) ?_
          refine lv_iload_n hx hb dX6_whose_63 rfl (lv_at hl 3 rfl) ?_
          refine lv_imul hx hb dX6_whose_64 ?_
          refine lv_iload hx hb dX6_whose_65 (lv_at hl 5 rfl) ?_
          refine lv_iadd hx hb dX6_whose_67 ?_
          exact m_ireti C hI hF dX6_whose_68
set_option maxRecDepth 100000 in
set_option maxHeartbeats 4000000 in
theorem bl_X6_whose_78 {p : Program} {l : Launch} {e : Env} {s : State} {m : MethodId} {args : Array Value} {below : List Frame} {meth : Method} {c : Code} {E : mE} {n0 : Nat} {F : Int32 × mS} (C : mCx p s m args meth c cX6_whose 6 RX6 (some .int) E n0) {k16 : Int32 → Int32 → Int32 → Int32 → mS → Option (Int32 × mS)} (hk16 : ∀ (v0 : Int32) (v1 : Int32) (v2 : Int32) (v3 : Int32) (S : mS) (H : Heap) (locs : List Loc) (ls : Array Slot), k16 v0 v1 v2 v3 S = some F → mIv s E S H locs 0 → lv_has ls 6 [(0, .ref (mA E.b v0)), (1, .int v1), (2, .int v2), (3, .int v3)] → W p l e rm_X6_whose s m args below meth c H locs 0 0 (mQi below args s 0 0 n0 E F) (F0 m 16 ls [])) : ∀  (v0 : Int32) (v1 : Int32) (v2 : Int32) (v3 : Int32) (S : mS) (H : Heap) (locs : List Loc) (ls : Array Slot), f_X6_whose_78 k16 v0 v1 v2 v3 S = some F → mIv s E S H locs 0 → lv_has ls 6 [(0, .ref (mA E.b v0)), (1, .int v1), (2, .int v2), (3, .int v3)] → W p l e rm_X6_whose s m args below meth c H locs 0 0 (mQi below args s 0 0 n0 E F) (F0 m 78 ls []) := by
  have hx := C.1
  have hb := C.2.1
  intro v0 v1 v2 v3 S H locs ls hF hI hl
  refine lv_iinc (v := v3 + 1) (lv' := [(3, .int (v3 + 1)), (0, .ref (mA E.b v0)), (1, .int v1), (2, .int v2)]) hx hb dX6_whose_78 hl (k := 3) rfl rfl (by decide) rfl (fun ls hl => ?_)
  refine lv_goto (tgt := 16) hx hb dX6_whose_81 (by decide) ?_
  exact hk16 v0 v1 v2 (v3 + 1) S _ _ _ hF hI (lv_sub hl [1, 2, 3, 0] rfl)
set_option maxRecDepth 100000 in
set_option maxHeartbeats 4000000 in
theorem bl_X6_whose_16 {p : Program} {l : Launch} {e : Env} {s : State} {m : MethodId} {args : Array Value} {below : List Frame} {meth : Method} {c : Code} {E : mE} {n0 : Nat} {F : Int32 × mS} (C : mCx p s m args meth c cX6_whose 6 RX6 (some .int) E n0) {k84 : Int32 → Int32 → mS → Option (Int32 × mS)} (hk84 : ∀ (v1 : Int32) (v2 : Int32) (S : mS) (H : Heap) (locs : List Loc) (ls : Array Slot), k84 v1 v2 S = some F → mIv s E S H locs 0 → lv_has ls 6 [(1, .int v1), (2, .int v2)] → W p l e rm_X6_whose s m args below meth c H locs 0 0 (mQi below args s 0 0 n0 E F) (F0 m 84 ls [])) : ∀ (n : Nat)  (v0 : Int32) (v1 : Int32) (v2 : Int32) (v3 : Int32) (S : mS) (H : Heap) (locs : List Loc) (ls : Array Slot), f_X6_whose_16 k84 n v0 v1 v2 v3 S = some F → mIv s E S H locs 0 → lv_has ls 6 [(0, .ref (mA E.b v0)), (1, .int v1), (2, .int v2), (3, .int v3)] → W p l e rm_X6_whose s m args below meth c H locs 0 0 (mQi below args s 0 0 n0 E F) (F0 m 16 ls []) := by
  have hx := C.1
  have hb := C.2.1
  intro n
  induction n with
  | zero =>
    intro v0 v1 v2 v3 S H locs ls hF
    exact nomatch (show (none : Option (Int32 × mS)) = some F from hF)
  | succ n ih =>
    intro v0 v1 v2 v3 S H locs ls hF hI hl
    have hF := (f_X6_whose_16_s k84 n v0 v1 v2 v3 S).symm.trans hF
    refine lv_iload_n hx hb dX6_whose_16 rfl (lv_at hl 3 rfl) ?_
    refine lv_aload_n hx hb dX6_whose_17 rfl (lv_at hl 0 rfl) ?_
    refine m_getR C fd_X6_12 hI hF dX6_whose_18 (fun r1 hF => ?_)
    refine m_getR C fd_X6_76 hI hF dX6_whose_21 (fun r2 hF => ?_)
    refine m_get C fd_X6_89 hI hF dX6_whose_24 (fun r3 hF => ?_)
    refine m_icmp_ge C (tgt := 84) hF dX6_whose_27 (by decide) (fun hF => ?_) (fun hF => ?_)
    · exact hk84 v1 v2 S _ _ _ hF hI (lv_sub hl [1, 2] rfl)
    · refine lv_aload_n hx hb dX6_whose_30 rfl (lv_at hl 0 rfl) ?_
      refine lv_iload_n hx hb dX6_whose_31 rfl (lv_at hl 3 rfl) ?_
      refine m_callViR C cd_X6_225 ⟨rfl, by decide⟩ hl.1 hI hF (fun _ h => ok_X6_fittingCalls h) rfl rfl ⟨rfl, rfl, Nat.le_of_ble_eq_true rfl, Nat.le_of_ble_eq_true rfl⟩ ⟨Nat.le_of_ble_eq_true rfl, Nat.le_of_ble_eq_true rfl⟩ (Nat.le_of_ble_eq_true rfl) dX6_whose_32 (fun r4 H locs hF hI => ?_)
      refine lv_istore (lv' := [(4, .int r4), (0, .ref (mA E.b v0)), (1, .int v1), (2, .int v2), (3, .int v3)]) hx hb dX6_whose_35 hl (by decide) rfl (fun ls hl => ?_)
      refine lv_iconst (v := 0) hx hb dX6_whose_37 (by decide) ?_
      refine lv_istore (lv' := [(5, .int 0), (4, .int r4), (0, .ref (mA E.b v0)), (1, .int v1), (2, .int v2), (3, .int v3)]) hx hb dX6_whose_38 hl (by decide) rfl (fun ls hl => ?_)
      exact (bl_X6_whose_40 C (k78 := (f_X6_whose_78 (f_X6_whose_16 k84 n))) (bl_X6_whose_78 C (k16 := (f_X6_whose_16 k84 n)) ih) 1000) v0 v1 v2 v3 r4 0 S _ _ _ hF hI (lv_sub hl [2, 3, 4, 5, 1, 0] rfl)
set_option maxRecDepth 100000 in
set_option maxHeartbeats 4000000 in
theorem bl_X6_whose_95 {p : Program} {l : Launch} {e : Env} {s : State} {m : MethodId} {args : Array Value} {below : List Frame} {meth : Method} {c : Code} {E : mE} {n0 : Nat} {F : Int32 × mS} (C : mCx p s m args meth c cX6_whose 6 RX6 (some .int) E n0) : ∀  (t0 : Int32) (S : mS) (H : Heap) (locs : List Loc) (ls : Array Slot), f_X6_whose_95 t0 S = some F → mIv s E S H locs 0 → lv_has ls 6 [] → W p l e rm_X6_whose s m args below meth c H locs 0 0 (mQi below args s 0 0 n0 E F) (F0 m 95 ls [.int t0]) := by
  have hx := C.1
  have hb := C.2.1
  intro t0 S H locs ls hF hI hl
  exact m_ireti C hI hF dX6_whose_95
set_option maxRecDepth 100000 in
set_option maxHeartbeats 4000000 in
theorem bl_X6_whose_84 {p : Program} {l : Launch} {e : Env} {s : State} {m : MethodId} {args : Array Value} {below : List Frame} {meth : Method} {c : Code} {E : mE} {n0 : Nat} {F : Int32 × mS} (C : mCx p s m args meth c cX6_whose 6 RX6 (some .int) E n0) : ∀  (v1 : Int32) (v2 : Int32) (S : mS) (H : Heap) (locs : List Loc) (ls : Array Slot), f_X6_whose_84 v1 v2 S = some F → mIv s E S H locs 0 → lv_has ls 6 [(1, .int v1), (2, .int v2)] → W p l e rm_X6_whose s m args below meth c H locs 0 0 (mQi below args s 0 0 n0 E F) (F0 m 84 ls []) := by
  have hx := C.1
  have hb := C.2.1
  intro v1 v2 S H locs ls hF hI hl
  refine lv_iload_n hx hb dX6_whose_84 rfl (lv_at hl 0 rfl) ?_
  refine lv_iconst (v := (-1)) hx hb dX6_whose_85 (by decide) ?_
  refine m_icmp_ne C (tgt := 93) hF dX6_whose_86 (by decide) (fun hF => ?_) (fun hF => ?_)
  · refine lv_bipush (v := (-5)) hx hb dX6_whose_93 (by decide) ?_
    exact (bl_X6_whose_95 C) (-5) S _ _ _ hF hI (lv_sub hl [] rfl)
  · refine lv_iload_n hx hb dX6_whose_89 rfl (lv_at hl 1 rfl) ?_
    refine lv_goto (tgt := 95) hx hb dX6_whose_90 (by decide) ?_
    exact (bl_X6_whose_95 C) v2 S _ _ _ hF hI (lv_sub hl [] rfl)
set_option maxRecDepth 100000 in
set_option maxHeartbeats 4000000 in
theorem ok_X6_whose {l : Launch} {E : mE} {v0 : Int32} {v1 : Int32} {S : mS} {F : Int32 × mS} (hF : f_X6_whose v0 v1 S = some F) : mMi l yX6_whose cX6_whose 6 (some .int) rm_X6_whose 0 0 [.ref (mA E.b v0), .int v1] E S F := by
  refine m_met_i (by decide) (Nat.le_of_ble_eq_true rfl) (fun p e s m args below meth c ls hin C hI hl => ?_)
  have hx := C.1
  have hb := C.2.1
  have hl : lv_has ls 6 [(0, .ref (mA E.b v0)), (1, .int v1)] := hl
  generalize s.heap = H at hI ⊢
  generalize ([] : List Loc) = locs at hI ⊢
  refine lv_iload_n hx hb dX6_whose_0 rfl (lv_at hl 1 rfl) ?_
  refine lv_iconst (v := (-1)) hx hb dX6_whose_1 (by decide) ?_
  refine m_icmp_ge C (tgt := 12) hF dX6_whose_2 (by decide) (fun hF => ?_) (fun hF => ?_)
  · refine lv_iconst (v := 0) hx hb dX6_whose_12 (by decide) ?_
    refine lv_istore_n (lv' := [(2, .int 0), (0, .ref (mA E.b v0)), (1, .int v1)]) hx hb dX6_whose_13 rfl hl (by decide) rfl (fun ls hl => ?_)
    refine lv_iconst (v := 0) hx hb dX6_whose_14 (by decide) ?_
    refine lv_istore_n (lv' := [(3, .int 0), (2, .int 0), (0, .ref (mA E.b v0)), (1, .int v1)]) hx hb dX6_whose_15 rfl hl (by decide) rfl (fun ls hl => ?_)
    exact (bl_X6_whose_16 C (k84 := (f_X6_whose_84)) (bl_X6_whose_84 C) 1000) v0 v1 0 0 S _ _ _ hF hI (lv_sub hl [2, 3, 1, 0] rfl)
  · refine lv_aload_n hx hb dX6_whose_5 rfl (lv_at hl 0 rfl) ?_
    refine lv_bipush (v := (-10)) hx hb dX6_whose_6 (by decide) ?_
    refine m_callVi C cd_X6_72 ⟨rfl, by decide⟩ hl.1 hI hF (fun _ h => ok_X6_refuseBad h) rfl rfl ⟨rfl, rfl, Nat.le_of_ble_eq_true rfl, Nat.le_of_ble_eq_true rfl⟩ ⟨Nat.le_of_ble_eq_true rfl, Nat.le_of_ble_eq_true rfl⟩ (Nat.le_of_ble_eq_true rfl) dX6_whose_8 (fun r6 S7 H locs hF hI => ?_)
    exact m_ireti C hI hF dX6_whose_11
noncomputable def f_X6_mostAlike_44 (k24 : Int32 → Int32 → Int32 → Int32 → Int32 → Int32 → Option Int32) (S : mS) (v0 : Int32) (v2 : Int32) (v3 : Int32) (v4 : Int32) (v5 : Int32) (v6 : Int32) : Option Int32 := k24 v0 v2 v3 v4 v5 (v6 + 1)
noncomputable def f_X6_mostAlike_24 (k50 : Int32 → Int32 → Int32 → Int32 → Int32 → Option Int32) (S : mS) : Nat → Int32 → Int32 → Int32 → Int32 → Int32 → Int32 → Option Int32 := fun n => Nat.rec (motive := fun _ => Int32 → Int32 → Int32 → Int32 → Int32 → Int32 → Option Int32) (fun _ _ _ _ _ _ => none) (fun _ rec v0 v2 v3 v4 v5 v6 => if v2 ≤ v6 then (k50 v0 v2 v3 v4 v5) else (mX 8 v0 v6 S (fun r2 => mX 8 v0 v4 S (fun r3 => if r2 = r3 then ((f_X6_mostAlike_44 rec S) v0 v2 v3 v4 (v5 + 1) v6) else ((f_X6_mostAlike_44 rec S) v0 v2 v3 v4 v5 v6))))) n
theorem f_X6_mostAlike_24_s (k50 : Int32 → Int32 → Int32 → Int32 → Int32 → Option Int32) (S : mS) (n : Nat) (v0 : Int32) (v2 : Int32) (v3 : Int32) (v4 : Int32) (v5 : Int32) (v6 : Int32) : f_X6_mostAlike_24 k50 S (n + 1) v0 v2 v3 v4 v5 v6 = if v2 ≤ v6 then (k50 v0 v2 v3 v4 v5) else (mX 8 v0 v6 S (fun r2 => mX 8 v0 v4 S (fun r3 => if r2 = r3 then ((f_X6_mostAlike_44 (f_X6_mostAlike_24 k50 S n) S) v0 v2 v3 v4 (v5 + 1) v6) else ((f_X6_mostAlike_44 (f_X6_mostAlike_24 k50 S n) S) v0 v2 v3 v4 v5 v6)))) := rfl
noncomputable def f_X6_mostAlike_50 (k12 : Int32 → Int32 → Int32 → Int32 → Option Int32) (S : mS) (v0 : Int32) (v2 : Int32) (v3 : Int32) (v4 : Int32) (v5 : Int32) : Option Int32 := k12 v0 v2 (mMax v3 v5) (v4 + 1)
noncomputable def f_X6_mostAlike_12 (k63 : Int32 → Option Int32) (S : mS) : Nat → Int32 → Int32 → Int32 → Int32 → Option Int32 := fun n => Nat.rec (motive := fun _ => Int32 → Int32 → Int32 → Int32 → Option Int32) (fun _ _ _ _ => none) (fun _ rec v0 v2 v3 v4 => if v2 ≤ v4 then (k63 v3) else ((f_X6_mostAlike_24 (f_X6_mostAlike_50 rec S) S 1000) v0 v2 v3 v4 0 0)) n
theorem f_X6_mostAlike_12_s (k63 : Int32 → Option Int32) (S : mS) (n : Nat) (v0 : Int32) (v2 : Int32) (v3 : Int32) (v4 : Int32) : f_X6_mostAlike_12 k63 S (n + 1) v0 v2 v3 v4 = if v2 ≤ v4 then (k63 v3) else ((f_X6_mostAlike_24 (f_X6_mostAlike_50 (f_X6_mostAlike_12 k63 S n) S) S 1000) v0 v2 v3 v4 0 0) := rfl
noncomputable def f_X6_mostAlike_63 (S : mS) (v3 : Int32) : Option Int32 := some v3
noncomputable def f_X6_mostAlike (v0 : Int32) (v1 : Int32) (S : mS) : Option Int32 := mLe 8 v0 S (fun r1 => (f_X6_mostAlike_12 (f_X6_mostAlike_63 S) S 1000) v0 (mMin v1 r1) 0 0)
def rm_X6_mostAlike : Room := { frames := 1, cells := 0, slots := 0, locals := 13 }
set_option maxRecDepth 100000 in
set_option maxHeartbeats 4000000 in
theorem bl_X6_mostAlike_44 {p : Program} {l : Launch} {e : Env} {s : State} {m : MethodId} {args : Array Value} {below : List Frame} {meth : Method} {c : Code} {E : mE} {n0 : Nat} {r : Int32} {S : mS} (C : mCx p s m args meth c cX6_mostAlike 7 RX6 (some .int) E n0) {k24 : Int32 → Int32 → Int32 → Int32 → Int32 → Int32 → Option Int32} (hk24 : ∀ (v0 : Int32) (v2 : Int32) (v3 : Int32) (v4 : Int32) (v5 : Int32) (v6 : Int32) (H : Heap) (locs : List Loc) (ls : Array Slot), k24 v0 v2 v3 v4 v5 v6 = some r → mIv s E S H locs 0 → lv_has ls 7 [(0, .ref (mA E.b v0)), (2, .int v2), (3, .int v3), (4, .int v4), (5, .int v5), (6, .int v6)] → W p l e rm_X6_mostAlike s m args below meth c H locs 0 0 (mQi below args s 0 0 n0 E (r, S)) (F0 m 24 ls [])) : ∀  (v0 : Int32) (v2 : Int32) (v3 : Int32) (v4 : Int32) (v5 : Int32) (v6 : Int32) (H : Heap) (locs : List Loc) (ls : Array Slot), f_X6_mostAlike_44 k24 S v0 v2 v3 v4 v5 v6 = some r → mIv s E S H locs 0 → lv_has ls 7 [(0, .ref (mA E.b v0)), (2, .int v2), (3, .int v3), (4, .int v4), (5, .int v5), (6, .int v6)] → W p l e rm_X6_mostAlike s m args below meth c H locs 0 0 (mQi below args s 0 0 n0 E (r, S)) (F0 m 44 ls []) := by
  have hx := C.1
  have hb := C.2.1
  intro v0 v2 v3 v4 v5 v6 H locs ls hF hI hl
  refine lv_iinc (v := v6 + 1) (lv' := [(6, .int (v6 + 1)), (0, .ref (mA E.b v0)), (2, .int v2), (3, .int v3), (4, .int v4), (5, .int v5)]) hx hb dX6_mostAlike_44 hl (k := 5) rfl rfl (by decide) rfl (fun ls hl => ?_)
  refine lv_goto (tgt := 24) hx hb dX6_mostAlike_47 (by decide) ?_
  exact hk24 v0 v2 v3 v4 v5 (v6 + 1) _ _ _ hF hI (lv_sub hl [1, 2, 3, 4, 5, 0] rfl)
set_option maxRecDepth 100000 in
set_option maxHeartbeats 4000000 in
theorem bl_X6_mostAlike_24 {p : Program} {l : Launch} {e : Env} {s : State} {m : MethodId} {args : Array Value} {below : List Frame} {meth : Method} {c : Code} {E : mE} {n0 : Nat} {r : Int32} {S : mS} (C : mCx p s m args meth c cX6_mostAlike 7 RX6 (some .int) E n0) {k50 : Int32 → Int32 → Int32 → Int32 → Int32 → Option Int32} (hk50 : ∀ (v0 : Int32) (v2 : Int32) (v3 : Int32) (v4 : Int32) (v5 : Int32) (H : Heap) (locs : List Loc) (ls : Array Slot), k50 v0 v2 v3 v4 v5 = some r → mIv s E S H locs 0 → lv_has ls 7 [(0, .ref (mA E.b v0)), (2, .int v2), (3, .int v3), (4, .int v4), (5, .int v5)] → W p l e rm_X6_mostAlike s m args below meth c H locs 0 0 (mQi below args s 0 0 n0 E (r, S)) (F0 m 50 ls [])) : ∀ (n : Nat)  (v0 : Int32) (v2 : Int32) (v3 : Int32) (v4 : Int32) (v5 : Int32) (v6 : Int32) (H : Heap) (locs : List Loc) (ls : Array Slot), f_X6_mostAlike_24 k50 S n v0 v2 v3 v4 v5 v6 = some r → mIv s E S H locs 0 → lv_has ls 7 [(0, .ref (mA E.b v0)), (2, .int v2), (3, .int v3), (4, .int v4), (5, .int v5), (6, .int v6)] → W p l e rm_X6_mostAlike s m args below meth c H locs 0 0 (mQi below args s 0 0 n0 E (r, S)) (F0 m 24 ls []) := by
  have hx := C.1
  have hb := C.2.1
  intro n
  induction n with
  | zero =>
    intro v0 v2 v3 v4 v5 v6 H locs ls hF
    exact nomatch (show (none : Option Int32) = some r from hF)
  | succ n ih =>
    intro v0 v2 v3 v4 v5 v6 H locs ls hF hI hl
    have hF := (f_X6_mostAlike_24_s k50 S n v0 v2 v3 v4 v5 v6).symm.trans hF
    refine lv_iload hx hb dX6_mostAlike_24 (lv_at hl 5 rfl) ?_
    refine lv_iload_n hx hb dX6_mostAlike_26 rfl (lv_at hl 1 rfl) ?_
    refine m_icmp_ge C (tgt := 50) hF dX6_mostAlike_27 (by decide) (fun hF => ?_) (fun hF => ?_)
    · exact hk50 v0 v2 v3 v4 v5 _ _ _ hF hI (lv_sub hl [0, 1, 2, 3, 4] rfl)
    · refine lv_aload_n hx hb dX6_mostAlike_30 rfl (lv_at hl 0 rfl) ?_
      refine lv_iload hx hb dX6_mostAlike_31 (lv_at hl 5 rfl) ?_
      refine m_iald C hI hF dX6_mostAlike_33 (fun r2 hF => ?_)
      refine lv_aload_n hx hb dX6_mostAlike_34 rfl (lv_at hl 0 rfl) ?_
      refine lv_iload hx hb dX6_mostAlike_35 (lv_at hl 3 rfl) ?_
      refine m_iald C hI hF dX6_mostAlike_37 (fun r3 hF => ?_)
      refine m_icmp_ne C (tgt := 44) hF dX6_mostAlike_38 (by decide) (fun hF => ?_) (fun hF => ?_)
      · exact (bl_X6_mostAlike_44 C (k24 := (f_X6_mostAlike_24 k50 S n)) ih) v0 v2 v3 v4 v5 v6 _ _ _ hF hI (lv_sub hl [0, 1, 2, 3, 4, 5] rfl)
      · refine lv_iinc (v := v5 + 1) (lv' := [(5, .int (v5 + 1)), (0, .ref (mA E.b v0)), (2, .int v2), (3, .int v3), (4, .int v4), (6, .int v6)]) hx hb dX6_mostAlike_41 hl (k := 4) rfl rfl (by decide) rfl (fun ls hl => ?_)
        exact (bl_X6_mostAlike_44 C (k24 := (f_X6_mostAlike_24 k50 S n)) ih) v0 v2 v3 v4 (v5 + 1) v6 _ _ _ hF hI (lv_sub hl [1, 2, 3, 4, 0, 5] rfl)
set_option maxRecDepth 100000 in
set_option maxHeartbeats 4000000 in
theorem bl_X6_mostAlike_50 {p : Program} {l : Launch} {e : Env} {s : State} {m : MethodId} {args : Array Value} {below : List Frame} {meth : Method} {c : Code} {E : mE} {n0 : Nat} {r : Int32} {S : mS} (C : mCx p s m args meth c cX6_mostAlike 7 RX6 (some .int) E n0) {k12 : Int32 → Int32 → Int32 → Int32 → Option Int32} (hk12 : ∀ (v0 : Int32) (v2 : Int32) (v3 : Int32) (v4 : Int32) (H : Heap) (locs : List Loc) (ls : Array Slot), k12 v0 v2 v3 v4 = some r → mIv s E S H locs 0 → lv_has ls 7 [(0, .ref (mA E.b v0)), (2, .int v2), (3, .int v3), (4, .int v4)] → W p l e rm_X6_mostAlike s m args below meth c H locs 0 0 (mQi below args s 0 0 n0 E (r, S)) (F0 m 12 ls [])) : ∀  (v0 : Int32) (v2 : Int32) (v3 : Int32) (v4 : Int32) (v5 : Int32) (H : Heap) (locs : List Loc) (ls : Array Slot), f_X6_mostAlike_50 k12 S v0 v2 v3 v4 v5 = some r → mIv s E S H locs 0 → lv_has ls 7 [(0, .ref (mA E.b v0)), (2, .int v2), (3, .int v3), (4, .int v4), (5, .int v5)] → W p l e rm_X6_mostAlike s m args below meth c H locs 0 0 (mQi below args s 0 0 n0 E (r, S)) (F0 m 50 ls []) := by
  have hx := C.1
  have hb := C.2.1
  intro v0 v2 v3 v4 v5 H locs ls hF hI hl
  refine lv_iload_n hx hb dX6_mostAlike_50 rfl (lv_at hl 2 rfl) ?_
  refine lv_iload hx hb dX6_mostAlike_51 (lv_at hl 4 rfl) ?_
  refine m_max C mw_X6_312 hl.1 (Nat.le_of_ble_eq_true rfl) (Nat.le_of_ble_eq_true rfl) (Nat.le_of_ble_eq_true rfl) (Nat.le_of_ble_eq_true rfl) dX6_mostAlike_53 ?_
  refine lv_istore_n (lv' := [(3, .int (mMax v3 v5)), (0, .ref (mA E.b v0)), (2, .int v2), (4, .int v4), (5, .int v5)]) hx hb dX6_mostAlike_56 rfl hl (by decide) rfl (fun ls hl => ?_)
  refine lv_iinc (v := v4 + 1) (lv' := [(4, .int (v4 + 1)), (3, .int (mMax v3 v5)), (0, .ref (mA E.b v0)), (2, .int v2), (5, .int v5)]) hx hb dX6_mostAlike_57 hl (k := 3) rfl rfl (by decide) rfl (fun ls hl => ?_)
  refine lv_goto (tgt := 12) hx hb dX6_mostAlike_60 (by decide) ?_
  exact hk12 v0 v2 (mMax v3 v5) (v4 + 1) _ _ _ hF hI (lv_sub hl [2, 3, 1, 0] rfl)
set_option maxRecDepth 100000 in
set_option maxHeartbeats 4000000 in
theorem bl_X6_mostAlike_12 {p : Program} {l : Launch} {e : Env} {s : State} {m : MethodId} {args : Array Value} {below : List Frame} {meth : Method} {c : Code} {E : mE} {n0 : Nat} {r : Int32} {S : mS} (C : mCx p s m args meth c cX6_mostAlike 7 RX6 (some .int) E n0) {k63 : Int32 → Option Int32} (hk63 : ∀ (v3 : Int32) (H : Heap) (locs : List Loc) (ls : Array Slot), k63 v3 = some r → mIv s E S H locs 0 → lv_has ls 7 [(3, .int v3)] → W p l e rm_X6_mostAlike s m args below meth c H locs 0 0 (mQi below args s 0 0 n0 E (r, S)) (F0 m 63 ls [])) : ∀ (n : Nat)  (v0 : Int32) (v2 : Int32) (v3 : Int32) (v4 : Int32) (H : Heap) (locs : List Loc) (ls : Array Slot), f_X6_mostAlike_12 k63 S n v0 v2 v3 v4 = some r → mIv s E S H locs 0 → lv_has ls 7 [(0, .ref (mA E.b v0)), (2, .int v2), (3, .int v3), (4, .int v4)] → W p l e rm_X6_mostAlike s m args below meth c H locs 0 0 (mQi below args s 0 0 n0 E (r, S)) (F0 m 12 ls []) := by
  have hx := C.1
  have hb := C.2.1
  intro n
  induction n with
  | zero =>
    intro v0 v2 v3 v4 H locs ls hF
    exact nomatch (show (none : Option Int32) = some r from hF)
  | succ n ih =>
    intro v0 v2 v3 v4 H locs ls hF hI hl
    have hF := (f_X6_mostAlike_12_s k63 S n v0 v2 v3 v4).symm.trans hF
    refine lv_iload hx hb dX6_mostAlike_12 (lv_at hl 3 rfl) ?_
    refine lv_iload_n hx hb dX6_mostAlike_14 rfl (lv_at hl 1 rfl) ?_
    refine m_icmp_ge C (tgt := 63) hF dX6_mostAlike_15 (by decide) (fun hF => ?_) (fun hF => ?_)
    · exact hk63 v3 _ _ _ hF hI (lv_sub hl [2] rfl)
    · refine lv_iconst (v := 0) hx hb dX6_mostAlike_18 (by decide) ?_
      refine lv_istore (lv' := [(5, .int 0), (0, .ref (mA E.b v0)), (2, .int v2), (3, .int v3), (4, .int v4)]) hx hb dX6_mostAlike_19 hl (by decide) rfl (fun ls hl => ?_)
      refine lv_iconst (v := 0) hx hb dX6_mostAlike_21 (by decide) ?_
      refine lv_istore (lv' := [(6, .int 0), (5, .int 0), (0, .ref (mA E.b v0)), (2, .int v2), (3, .int v3), (4, .int v4)]) hx hb dX6_mostAlike_22 hl (by decide) rfl (fun ls hl => ?_)
      exact (bl_X6_mostAlike_24 C (k50 := (f_X6_mostAlike_50 (f_X6_mostAlike_12 k63 S n) S)) (bl_X6_mostAlike_50 C (k12 := (f_X6_mostAlike_12 k63 S n)) ih) 1000) v0 v2 v3 v4 0 0 _ _ _ hF hI (lv_sub hl [2, 3, 4, 5, 1, 0] rfl)
set_option maxRecDepth 100000 in
set_option maxHeartbeats 4000000 in
theorem bl_X6_mostAlike_63 {p : Program} {l : Launch} {e : Env} {s : State} {m : MethodId} {args : Array Value} {below : List Frame} {meth : Method} {c : Code} {E : mE} {n0 : Nat} {r : Int32} {S : mS} (C : mCx p s m args meth c cX6_mostAlike 7 RX6 (some .int) E n0) : ∀  (v3 : Int32) (H : Heap) (locs : List Loc) (ls : Array Slot), f_X6_mostAlike_63 S v3 = some r → mIv s E S H locs 0 → lv_has ls 7 [(3, .int v3)] → W p l e rm_X6_mostAlike s m args below meth c H locs 0 0 (mQi below args s 0 0 n0 E (r, S)) (F0 m 63 ls []) := by
  have hx := C.1
  have hb := C.2.1
  intro v3 H locs ls hF hI hl
  refine lv_iload_n hx hb dX6_mostAlike_63 rfl (lv_at hl 0 rfl) ?_
  exact m_iretiR C hI hF dX6_mostAlike_64
set_option maxRecDepth 100000 in
set_option maxHeartbeats 4000000 in
theorem ok_X6_mostAlike {l : Launch} {E : mE} {v0 : Int32} {v1 : Int32} {S : mS} {r : Int32} (hF : f_X6_mostAlike v0 v1 S = some r) : mMi l yX6_mostAlike cX6_mostAlike 7 (some .int) rm_X6_mostAlike 0 0 [.ref (mA E.b v0), .int v1] E S (r, S) := by
  refine m_met_i (by decide) (Nat.le_of_ble_eq_true rfl) (fun p e s m args below meth c ls hin C hI hl => ?_)
  have hx := C.1
  have hb := C.2.1
  have hl : lv_has ls 7 [(0, .ref (mA E.b v0)), (1, .int v1)] := hl
  generalize s.heap = H at hI ⊢
  generalize ([] : List Loc) = locs at hI ⊢
  refine lv_iload_n hx hb dX6_mostAlike_0 rfl (lv_at hl 1 rfl) ?_
  refine lv_aload_n hx hb dX6_mostAlike_1 rfl (lv_at hl 0 rfl) ?_
  refine m_alen C hI hF dX6_mostAlike_2 (fun r1 hF => ?_)
  refine m_min C mw_X6_150 hl.1 (Nat.le_of_ble_eq_true rfl) (Nat.le_of_ble_eq_true rfl) (Nat.le_of_ble_eq_true rfl) (Nat.le_of_ble_eq_true rfl) dX6_mostAlike_3 ?_
  refine lv_istore_n (lv' := [(2, .int (mMin v1 r1)), (0, .ref (mA E.b v0)), (1, .int v1)]) hx hb dX6_mostAlike_6 rfl hl (by decide) rfl (fun ls hl => ?_)
  refine lv_iconst (v := 0) hx hb dX6_mostAlike_7 (by decide) ?_
  refine lv_istore_n (lv' := [(3, .int 0), (2, .int (mMin v1 r1)), (0, .ref (mA E.b v0)), (1, .int v1)]) hx hb dX6_mostAlike_8 rfl hl (by decide) rfl (fun ls hl => ?_)
  refine lv_iconst (v := 0) hx hb dX6_mostAlike_9 (by decide) ?_
  refine lv_istore (lv' := [(4, .int 0), (3, .int 0), (2, .int (mMin v1 r1)), (0, .ref (mA E.b v0)), (1, .int v1)]) hx hb dX6_mostAlike_10 hl (by decide) rfl (fun ls hl => ?_)
  exact (bl_X6_mostAlike_12 C (k63 := (f_X6_mostAlike_63 S)) (bl_X6_mostAlike_63 C) 1000) v0 (mMin v1 r1) 0 0 _ _ _ hF hI (lv_sub hl [3, 2, 1, 0] rfl)
noncomputable def f_X6_mostToOneCell_45 (k6 : Int32 → Int32 → Int32 → Int32 → Int32 → Int32 → mS → Option (Int32 × mS)) (v0 : Int32) (v1 : Int32) (v2 : Int32) (v3 : Int32) (v4 : Int32) (v5 : Int32) (S : mS) : Option (Int32 × mS) := k6 v0 v1 v2 v3 v4 (v5 + 1) S
noncomputable def f_X6_mostToOneCell_6 (k51 : Int32 → Int32 → mS → Option (Int32 × mS)) : Nat → Int32 → Int32 → Int32 → Int32 → Int32 → Int32 → mS → Option (Int32 × mS) := fun n => Nat.rec (motive := fun _ => Int32 → Int32 → Int32 → Int32 → Int32 → Int32 → mS → Option (Int32 × mS)) (fun _ _ _ _ _ _ _ => none) (fun _ rec v0 v1 v2 v3 v4 v5 S => if 5 ≤ v5 then (k51 v0 v4 S) else (mCp (f_X6_hasBit v3 v5) (fun r1 => if r1 = 0 then ((f_X6_mostToOneCell_45 rec) v0 v1 v2 v3 v4 v5 S) else (mGr 6 9 v0 S (fun r2 => mGr 6 0 v0 S (fun r3 => mGr 5 0 r3 S (fun r4 => mRc 1 r4 S (mCp (f_X1_sheepTo r4 v1 v2 v5 S) (fun r5 => mXs r2 v4 r5 S (fun S6 => (f_X6_mostToOneCell_45 rec) v0 v1 v2 v3 (v4 + 1) v5 S6)))))))))) n
theorem f_X6_mostToOneCell_6_s (k51 : Int32 → Int32 → mS → Option (Int32 × mS)) (n : Nat) (v0 : Int32) (v1 : Int32) (v2 : Int32) (v3 : Int32) (v4 : Int32) (v5 : Int32) (S : mS) : f_X6_mostToOneCell_6 k51 (n + 1) v0 v1 v2 v3 v4 v5 S = if 5 ≤ v5 then (k51 v0 v4 S) else (mCp (f_X6_hasBit v3 v5) (fun r1 => if r1 = 0 then ((f_X6_mostToOneCell_45 (f_X6_mostToOneCell_6 k51 n)) v0 v1 v2 v3 v4 v5 S) else (mGr 6 9 v0 S (fun r2 => mGr 6 0 v0 S (fun r3 => mGr 5 0 r3 S (fun r4 => mRc 1 r4 S (mCp (f_X1_sheepTo r4 v1 v2 v5 S) (fun r5 => mXs r2 v4 r5 S (fun S6 => (f_X6_mostToOneCell_45 (f_X6_mostToOneCell_6 k51 n)) v0 v1 v2 v3 (v4 + 1) v5 S6))))))))) := rfl
noncomputable def f_X6_mostToOneCell_51 (v0 : Int32) (v4 : Int32) (S : mS) : Option (Int32 × mS) := mGr 6 9 v0 S (fun r7 => mCp (f_X6_mostAlike r7 v4 S) (fun r8 => some (r8, S)))
noncomputable def f_X6_mostToOneCell (v0 : Int32) (v1 : Int32) (v2 : Int32) (v3 : Int32) (S : mS) : Option (Int32 × mS) := (f_X6_mostToOneCell_6 (f_X6_mostToOneCell_51) 1000) v0 v1 v2 v3 0 0 S
def rm_X6_mostToOneCell : Room := { frames := 4, cells := 0, slots := 0, locals := 88 }
set_option maxRecDepth 100000 in
set_option maxHeartbeats 4000000 in
theorem bl_X6_mostToOneCell_45 {p : Program} {l : Launch} {e : Env} {s : State} {m : MethodId} {args : Array Value} {below : List Frame} {meth : Method} {c : Code} {E : mE} {n0 : Nat} {F : Int32 × mS} (C : mCx p s m args meth c cX6_mostToOneCell 6 RX6 (some .int) E n0) {k6 : Int32 → Int32 → Int32 → Int32 → Int32 → Int32 → mS → Option (Int32 × mS)} (hk6 : ∀ (v0 : Int32) (v1 : Int32) (v2 : Int32) (v3 : Int32) (v4 : Int32) (v5 : Int32) (S : mS) (H : Heap) (locs : List Loc) (ls : Array Slot), k6 v0 v1 v2 v3 v4 v5 S = some F → mIv s E S H locs 0 → lv_has ls 6 [(0, .ref (mA E.b v0)), (1, .int v1), (2, .int v2), (3, .int v3), (4, .int v4), (5, .int v5)] → W p l e rm_X6_mostToOneCell s m args below meth c H locs 0 0 (mQi below args s 0 0 n0 E F) (F0 m 6 ls [])) : ∀  (v0 : Int32) (v1 : Int32) (v2 : Int32) (v3 : Int32) (v4 : Int32) (v5 : Int32) (S : mS) (H : Heap) (locs : List Loc) (ls : Array Slot), f_X6_mostToOneCell_45 k6 v0 v1 v2 v3 v4 v5 S = some F → mIv s E S H locs 0 → lv_has ls 6 [(0, .ref (mA E.b v0)), (1, .int v1), (2, .int v2), (3, .int v3), (4, .int v4), (5, .int v5)] → W p l e rm_X6_mostToOneCell s m args below meth c H locs 0 0 (mQi below args s 0 0 n0 E F) (F0 m 45 ls []) := by
  have hx := C.1
  have hb := C.2.1
  intro v0 v1 v2 v3 v4 v5 S H locs ls hF hI hl
  refine lv_iinc (v := v5 + 1) (lv' := [(5, .int (v5 + 1)), (0, .ref (mA E.b v0)), (1, .int v1), (2, .int v2), (3, .int v3), (4, .int v4)]) hx hb dX6_mostToOneCell_45 hl (k := 5) rfl rfl (by decide) rfl (fun ls hl => ?_)
  refine lv_goto (tgt := 6) hx hb dX6_mostToOneCell_48 (by decide) ?_
  exact hk6 v0 v1 v2 v3 v4 (v5 + 1) S _ _ _ hF hI (lv_sub hl [1, 2, 3, 4, 5, 0] rfl)
set_option maxRecDepth 100000 in
set_option maxHeartbeats 4000000 in
theorem bl_X6_mostToOneCell_6 {p : Program} {l : Launch} {e : Env} {s : State} {m : MethodId} {args : Array Value} {below : List Frame} {meth : Method} {c : Code} {E : mE} {n0 : Nat} {F : Int32 × mS} (C : mCx p s m args meth c cX6_mostToOneCell 6 RX6 (some .int) E n0) {k51 : Int32 → Int32 → mS → Option (Int32 × mS)} (hk51 : ∀ (v0 : Int32) (v4 : Int32) (S : mS) (H : Heap) (locs : List Loc) (ls : Array Slot), k51 v0 v4 S = some F → mIv s E S H locs 0 → lv_has ls 6 [(0, .ref (mA E.b v0)), (4, .int v4)] → W p l e rm_X6_mostToOneCell s m args below meth c H locs 0 0 (mQi below args s 0 0 n0 E F) (F0 m 51 ls [])) : ∀ (n : Nat)  (v0 : Int32) (v1 : Int32) (v2 : Int32) (v3 : Int32) (v4 : Int32) (v5 : Int32) (S : mS) (H : Heap) (locs : List Loc) (ls : Array Slot), f_X6_mostToOneCell_6 k51 n v0 v1 v2 v3 v4 v5 S = some F → mIv s E S H locs 0 → lv_has ls 6 [(0, .ref (mA E.b v0)), (1, .int v1), (2, .int v2), (3, .int v3), (4, .int v4), (5, .int v5)] → W p l e rm_X6_mostToOneCell s m args below meth c H locs 0 0 (mQi below args s 0 0 n0 E F) (F0 m 6 ls []) := by
  have hx := C.1
  have hb := C.2.1
  intro n
  induction n with
  | zero =>
    intro v0 v1 v2 v3 v4 v5 S H locs ls hF
    exact nomatch (show (none : Option (Int32 × mS)) = some F from hF)
  | succ n ih =>
    intro v0 v1 v2 v3 v4 v5 S H locs ls hF hI hl
    have hF := (f_X6_mostToOneCell_6_s k51 n v0 v1 v2 v3 v4 v5 S).symm.trans hF
    refine lv_iload hx hb dX6_mostToOneCell_6 (lv_at hl 5 rfl) ?_
    refine lv_iconst (v := 5) hx hb dX6_mostToOneCell_8 (by decide) ?_
    refine m_icmp_ge C (tgt := 51) hF dX6_mostToOneCell_9 (by decide) (fun hF => ?_) (fun hF => ?_)
    · exact hk51 v0 v4 S _ _ _ hF hI (lv_sub hl [0, 4] rfl)
    · refine lv_iload_n hx hb dX6_mostToOneCell_12 rfl (lv_at hl 3 rfl) ?_
      refine lv_iload hx hb dX6_mostToOneCell_13 (lv_at hl 5 rfl) ?_
      refine m_callSiR C cd_X6_228 hl.1 hI hF (fun _ h => ok_X6_hasBit h) rfl rfl ⟨rfl, rfl, Nat.le_of_ble_eq_true rfl, Nat.le_of_ble_eq_true rfl⟩ ⟨Nat.le_of_ble_eq_true rfl, Nat.le_of_ble_eq_true rfl⟩ (Nat.le_of_ble_eq_true rfl) dX6_mostToOneCell_15 (fun r1 H locs hF hI => ?_)
      refine m_if_eq C (tgt := 45) hF dX6_mostToOneCell_18 (by decide) (fun hF => ?_) (fun hF => ?_)
      · exact (bl_X6_mostToOneCell_45 C (k6 := (f_X6_mostToOneCell_6 k51 n)) ih) v0 v1 v2 v3 v4 v5 S _ _ _ hF hI (lv_sub hl [0, 1, 2, 3, 4, 5] rfl)
      · refine lv_aload_n hx hb dX6_mostToOneCell_21 rfl (lv_at hl 0 rfl) ?_
        refine m_getR C fd_X6_54 hI hF dX6_mostToOneCell_22 (fun r2 hF => ?_)
        refine lv_iload hx hb dX6_mostToOneCell_25 (lv_at hl 4 rfl) ?_
        refine lv_aload_n hx hb dX6_mostToOneCell_27 rfl (lv_at hl 0 rfl) ?_
        refine m_getR C fd_X6_12 hI hF dX6_mostToOneCell_28 (fun r3 hF => ?_)
        refine m_getR C fd_X6_76 hI hF dX6_mostToOneCell_31 (fun r4 hF => ?_)
        refine lv_iload_n hx hb dX6_mostToOneCell_34 rfl (lv_at hl 1 rfl) ?_
        refine lv_iload_n hx hb dX6_mostToOneCell_35 rfl (lv_at hl 2 rfl) ?_
        refine lv_iload hx hb dX6_mostToOneCell_36 (lv_at hl 5 rfl) ?_
        refine m_callViR C cd_X6_182 ⟨rfl, by decide⟩ hl.1 hI hF (fun _ h => ok_X1_sheepTo h) rfl rfl ⟨rfl, rfl, Nat.le_of_ble_eq_true rfl, Nat.le_of_ble_eq_true rfl⟩ ⟨Nat.le_of_ble_eq_true rfl, Nat.le_of_ble_eq_true rfl⟩ (Nat.le_of_ble_eq_true rfl) dX6_mostToOneCell_38 (fun r5 H locs hF hI => ?_)
        refine m_iast C hI hF dX6_mostToOneCell_41 (fun S6 H locs hF hI => ?_)
        refine lv_iinc (v := v4 + 1) (lv' := [(4, .int (v4 + 1)), (0, .ref (mA E.b v0)), (1, .int v1), (2, .int v2), (3, .int v3), (5, .int v5)]) hx hb dX6_mostToOneCell_42 hl (k := 4) rfl rfl (by decide) rfl (fun ls hl => ?_)
        exact (bl_X6_mostToOneCell_45 C (k6 := (f_X6_mostToOneCell_6 k51 n)) ih) v0 v1 v2 v3 (v4 + 1) v5 S6 _ _ _ hF hI (lv_sub hl [1, 2, 3, 4, 0, 5] rfl)
set_option maxRecDepth 100000 in
set_option maxHeartbeats 4000000 in
theorem bl_X6_mostToOneCell_51 {p : Program} {l : Launch} {e : Env} {s : State} {m : MethodId} {args : Array Value} {below : List Frame} {meth : Method} {c : Code} {E : mE} {n0 : Nat} {F : Int32 × mS} (C : mCx p s m args meth c cX6_mostToOneCell 6 RX6 (some .int) E n0) : ∀  (v0 : Int32) (v4 : Int32) (S : mS) (H : Heap) (locs : List Loc) (ls : Array Slot), f_X6_mostToOneCell_51 v0 v4 S = some F → mIv s E S H locs 0 → lv_has ls 6 [(0, .ref (mA E.b v0)), (4, .int v4)] → W p l e rm_X6_mostToOneCell s m args below meth c H locs 0 0 (mQi below args s 0 0 n0 E F) (F0 m 51 ls []) := by
  have hx := C.1
  have hb := C.2.1
  intro v0 v4 S H locs ls hF hI hl
  refine lv_aload_n hx hb dX6_mostToOneCell_51 rfl (lv_at hl 0 rfl) ?_
  refine m_getR C fd_X6_54 hI hF dX6_mostToOneCell_52 (fun r7 hF => ?_)
  refine lv_iload hx hb dX6_mostToOneCell_55 (lv_at hl 1 rfl) ?_
  refine m_callSiR C cd_X6_355 hl.1 hI hF (fun _ h => ok_X6_mostAlike h) rfl rfl ⟨rfl, rfl, Nat.le_of_ble_eq_true rfl, Nat.le_of_ble_eq_true rfl⟩ ⟨Nat.le_of_ble_eq_true rfl, Nat.le_of_ble_eq_true rfl⟩ (Nat.le_of_ble_eq_true rfl) dX6_mostToOneCell_57 (fun r8 H locs hF hI => ?_)
  exact m_ireti C hI hF dX6_mostToOneCell_60
set_option maxRecDepth 100000 in
set_option maxHeartbeats 4000000 in
theorem ok_X6_mostToOneCell {l : Launch} {E : mE} {v0 : Int32} {v1 : Int32} {v2 : Int32} {v3 : Int32} {S : mS} {F : Int32 × mS} (hF : f_X6_mostToOneCell v0 v1 v2 v3 S = some F) : mMi l yX6_mostToOneCell cX6_mostToOneCell 6 (some .int) rm_X6_mostToOneCell 0 0 [.ref (mA E.b v0), .int v1, .int v2, .int v3] E S F := by
  refine m_met_i (by decide) (Nat.le_of_ble_eq_true rfl) (fun p e s m args below meth c ls hin C hI hl => ?_)
  have hx := C.1
  have hb := C.2.1
  have hl : lv_has ls 6 [(0, .ref (mA E.b v0)), (1, .int v1), (2, .int v2), (3, .int v3)] := hl
  generalize s.heap = H at hI ⊢
  generalize ([] : List Loc) = locs at hI ⊢
  refine lv_iconst (v := 0) hx hb dX6_mostToOneCell_0 (by decide) ?_
  refine lv_istore (lv' := [(4, .int 0), (0, .ref (mA E.b v0)), (1, .int v1), (2, .int v2), (3, .int v3)]) hx hb dX6_mostToOneCell_1 hl (by decide) rfl (fun ls hl => ?_)
  refine lv_iconst (v := 0) hx hb dX6_mostToOneCell_3 (by decide) ?_
  refine lv_istore (lv' := [(5, .int 0), (4, .int 0), (0, .ref (mA E.b v0)), (1, .int v1), (2, .int v2), (3, .int v3)]) hx hb dX6_mostToOneCell_4 hl (by decide) rfl (fun ls hl => ?_)
  exact (bl_X6_mostToOneCell_6 C (k51 := (f_X6_mostToOneCell_51)) (bl_X6_mostToOneCell_51 C) 1000) v0 v1 v2 v3 0 0 S _ _ _ hF hI (lv_sub hl [2, 3, 4, 5, 1, 0] rfl)
noncomputable def f_X6_tell_44 (S : mS) : Option (Int32 × mS) := some ((-1), S)
noncomputable def f_X6_tell_48 (k81 : Int32 → mS → Option (Int32 × mS)) : Nat → Int32 → Int32 → Int32 → Int32 → mS → Option (Int32 × mS) := fun n => Nat.rec (motive := fun _ => Int32 → Int32 → Int32 → Int32 → mS → Option (Int32 × mS)) (fun _ _ _ _ _ => none) (fun _ rec v0 v1 v2 v3 S => mGr 6 0 v0 S (fun r8 => mGr 5 0 r8 S (fun r9 => mG 1 5 r9 S (fun r10 => if r10 ≤ v3 then (k81 v0 S) else (mGr 6 10 v0 S (fun r11 => mRc 6 v0 S (mC (f_X6_mostToOneCell v0 v3 v1 v2 S) (fun r12 S13 => mXs r11 v3 r12 S13 (fun S14 => rec v0 v1 v2 (v3 + 1) S14))))))))) n
theorem f_X6_tell_48_s (k81 : Int32 → mS → Option (Int32 × mS)) (n : Nat) (v0 : Int32) (v1 : Int32) (v2 : Int32) (v3 : Int32) (S : mS) : f_X6_tell_48 k81 (n + 1) v0 v1 v2 v3 S = mGr 6 0 v0 S (fun r8 => mGr 5 0 r8 S (fun r9 => mG 1 5 r9 S (fun r10 => if r10 ≤ v3 then (k81 v0 S) else (mGr 6 10 v0 S (fun r11 => mRc 6 v0 S (mC (f_X6_mostToOneCell v0 v3 v1 v2 S) (fun r12 S13 => mXs r11 v3 r12 S13 (fun S14 => (f_X6_tell_48 k81 n) v0 v1 v2 (v3 + 1) S14)))))))) := rfl
noncomputable def f_X6_tell_81 (v0 : Int32) (S : mS) : Option (Int32 × mS) := mGr 6 10 v0 S (fun r15 => mGr 6 0 v0 S (fun r16 => mGr 5 0 r16 S (fun r17 => mG 1 5 r17 S (fun r18 => mCp (f_X6_firstLeast r15 r18 S) (fun r19 => some (r19, S))))))
noncomputable def f_X6_tell (v0 : Int32) (v1 : Int32) (S : mS) : Option (Int32 × mS) := mGr 6 0 v0 S (fun r1 => mGr 5 0 r1 S (fun r2 => mRc 1 r2 S (mCp (f_X1_hasWhistle r2 v1 S) (fun r3 => if r3 = 0 then (mRc 6 v0 S (mC (f_X6_refuseBad v0 (-2) S) (fun r20 S21 => some (r20, S21)))) else (mRc 6 v0 S (mCp (f_X6_fittingCalls v0 v1 S) (fun r4 => if r4 = 0 then ((f_X6_tell_44) S) else (mGr 6 0 v0 S (fun r5 => mGr 5 0 r5 S (fun r6 => mG 1 5 r6 S (fun r7 => if r7 = 0 then ((f_X6_tell_44) S) else ((f_X6_tell_48 (f_X6_tell_81) 1000) v0 v1 r4 0 S))))))))))))
def rm_X6_tell : Room := { frames := 6, cells := 0, slots := 0, locals := 134 }
set_option maxRecDepth 100000 in
set_option maxHeartbeats 4000000 in
theorem bl_X6_tell_44 {p : Program} {l : Launch} {e : Env} {s : State} {m : MethodId} {args : Array Value} {below : List Frame} {meth : Method} {c : Code} {E : mE} {n0 : Nat} {F : Int32 × mS} (C : mCx p s m args meth c cX6_tell 4 RX6 (some .int) E n0) : ∀  (S : mS) (H : Heap) (locs : List Loc) (ls : Array Slot), f_X6_tell_44 S = some F → mIv s E S H locs 0 → lv_has ls 4 [] → W p l e rm_X6_tell s m args below meth c H locs 0 0 (mQi below args s 0 0 n0 E F) (F0 m 44 ls []) := by
  have hx := C.1
  have hb := C.2.1
  intro S H locs ls hF hI hl
  refine lv_iconst (v := (-1)) hx hb dX6_tell_44 (by decide) ?_
  exact m_ireti C hI hF dX6_tell_45
set_option maxRecDepth 100000 in
set_option maxHeartbeats 4000000 in
theorem bl_X6_tell_48 {p : Program} {l : Launch} {e : Env} {s : State} {m : MethodId} {args : Array Value} {below : List Frame} {meth : Method} {c : Code} {E : mE} {n0 : Nat} {F : Int32 × mS} (C : mCx p s m args meth c cX6_tell 4 RX6 (some .int) E n0) {k81 : Int32 → mS → Option (Int32 × mS)} (hk81 : ∀ (v0 : Int32) (S : mS) (H : Heap) (locs : List Loc) (ls : Array Slot), k81 v0 S = some F → mIv s E S H locs 0 → lv_has ls 4 [(0, .ref (mA E.b v0))] → W p l e rm_X6_tell s m args below meth c H locs 0 0 (mQi below args s 0 0 n0 E F) (F0 m 81 ls [])) : ∀ (n : Nat)  (v0 : Int32) (v1 : Int32) (v2 : Int32) (v3 : Int32) (S : mS) (H : Heap) (locs : List Loc) (ls : Array Slot), f_X6_tell_48 k81 n v0 v1 v2 v3 S = some F → mIv s E S H locs 0 → lv_has ls 4 [(0, .ref (mA E.b v0)), (1, .int v1), (2, .int v2), (3, .int v3)] → W p l e rm_X6_tell s m args below meth c H locs 0 0 (mQi below args s 0 0 n0 E F) (F0 m 48 ls []) := by
  have hx := C.1
  have hb := C.2.1
  intro n
  induction n with
  | zero =>
    intro v0 v1 v2 v3 S H locs ls hF
    exact nomatch (show (none : Option (Int32 × mS)) = some F from hF)
  | succ n ih =>
    intro v0 v1 v2 v3 S H locs ls hF hI hl
    have hF := (f_X6_tell_48_s k81 n v0 v1 v2 v3 S).symm.trans hF
    refine lv_iload_n hx hb dX6_tell_48 rfl (lv_at hl 3 rfl) ?_
    refine lv_aload_n hx hb dX6_tell_49 rfl (lv_at hl 0 rfl) ?_
    refine m_getR C fd_X6_12 hI hF dX6_tell_50 (fun r8 hF => ?_)
    refine m_getR C fd_X6_76 hI hF dX6_tell_53 (fun r9 hF => ?_)
    refine m_get C fd_X6_79 hI hF dX6_tell_56 (fun r10 hF => ?_)
    refine m_icmp_ge C (tgt := 81) hF dX6_tell_59 (by decide) (fun hF => ?_) (fun hF => ?_)
    · exact hk81 v0 S _ _ _ hF hI (lv_sub hl [0] rfl)
    · refine lv_aload_n hx hb dX6_tell_62 rfl (lv_at hl 0 rfl) ?_
      refine m_getR C fd_X6_58 hI hF dX6_tell_63 (fun r11 hF => ?_)
      refine lv_iload_n hx hb dX6_tell_66 rfl (lv_at hl 3 rfl) ?_
      refine lv_aload_n hx hb dX6_tell_67 rfl (lv_at hl 0 rfl) ?_
      refine lv_iload_n hx hb dX6_tell_68 rfl (lv_at hl 3 rfl) ?_
      refine lv_iload_n hx hb dX6_tell_69 rfl (lv_at hl 1 rfl) ?_
      refine lv_iload_n hx hb dX6_tell_70 rfl (lv_at hl 2 rfl) ?_
      refine m_callVi C cd_X6_232 ⟨rfl, by decide⟩ hl.1 hI hF (fun _ h => ok_X6_mostToOneCell h) rfl rfl ⟨rfl, rfl, Nat.le_of_ble_eq_true rfl, Nat.le_of_ble_eq_true rfl⟩ ⟨Nat.le_of_ble_eq_true rfl, Nat.le_of_ble_eq_true rfl⟩ (Nat.le_of_ble_eq_true rfl) dX6_tell_71 (fun r12 S13 H locs hF hI => ?_)
      refine m_iast C hI hF dX6_tell_74 (fun S14 H locs hF hI => ?_)
      refine lv_iinc (v := v3 + 1) (lv' := [(3, .int (v3 + 1)), (0, .ref (mA E.b v0)), (1, .int v1), (2, .int v2)]) hx hb dX6_tell_75 hl (k := 3) rfl rfl (by decide) rfl (fun ls hl => ?_)
      refine lv_goto (tgt := 48) hx hb dX6_tell_78 (by decide) ?_
      exact ih v0 v1 v2 (v3 + 1) S14 _ _ _ hF hI (lv_sub hl [1, 2, 3, 0] rfl)
set_option maxRecDepth 100000 in
set_option maxHeartbeats 4000000 in
theorem bl_X6_tell_81 {p : Program} {l : Launch} {e : Env} {s : State} {m : MethodId} {args : Array Value} {below : List Frame} {meth : Method} {c : Code} {E : mE} {n0 : Nat} {F : Int32 × mS} (C : mCx p s m args meth c cX6_tell 4 RX6 (some .int) E n0) : ∀  (v0 : Int32) (S : mS) (H : Heap) (locs : List Loc) (ls : Array Slot), f_X6_tell_81 v0 S = some F → mIv s E S H locs 0 → lv_has ls 4 [(0, .ref (mA E.b v0))] → W p l e rm_X6_tell s m args below meth c H locs 0 0 (mQi below args s 0 0 n0 E F) (F0 m 81 ls []) := by
  have hx := C.1
  have hb := C.2.1
  intro v0 S H locs ls hF hI hl
  refine lv_aload_n hx hb dX6_tell_81 rfl (lv_at hl 0 rfl) ?_
  refine m_getR C fd_X6_58 hI hF dX6_tell_82 (fun r15 hF => ?_)
  refine lv_aload_n hx hb dX6_tell_85 rfl (lv_at hl 0 rfl) ?_
  refine m_getR C fd_X6_12 hI hF dX6_tell_86 (fun r16 hF => ?_)
  refine m_getR C fd_X6_76 hI hF dX6_tell_89 (fun r17 hF => ?_)
  refine m_get C fd_X6_79 hI hF dX6_tell_92 (fun r18 hF => ?_)
  refine m_callSiR C cd_X6_201 hl.1 hI hF (fun _ h => ok_X6_firstLeast h) rfl rfl ⟨rfl, rfl, Nat.le_of_ble_eq_true rfl, Nat.le_of_ble_eq_true rfl⟩ ⟨Nat.le_of_ble_eq_true rfl, Nat.le_of_ble_eq_true rfl⟩ (Nat.le_of_ble_eq_true rfl) dX6_tell_95 (fun r19 H locs hF hI => ?_)
  exact m_ireti C hI hF dX6_tell_98
set_option maxRecDepth 100000 in
set_option maxHeartbeats 4000000 in
theorem ok_X6_tell {l : Launch} {E : mE} {v0 : Int32} {v1 : Int32} {S : mS} {F : Int32 × mS} (hF : f_X6_tell v0 v1 S = some F) : mMi l yX6_tell cX6_tell 4 (some .int) rm_X6_tell 0 0 [.ref (mA E.b v0), .int v1] E S F := by
  refine m_met_i (by decide) (Nat.le_of_ble_eq_true rfl) (fun p e s m args below meth c ls hin C hI hl => ?_)
  have hx := C.1
  have hb := C.2.1
  have hl : lv_has ls 4 [(0, .ref (mA E.b v0)), (1, .int v1)] := hl
  generalize s.heap = H at hI ⊢
  generalize ([] : List Loc) = locs at hI ⊢
  refine lv_aload_n hx hb dX6_tell_0 rfl (lv_at hl 0 rfl) ?_
  refine m_getR C fd_X6_12 hI hF dX6_tell_1 (fun r1 hF => ?_)
  refine m_getR C fd_X6_76 hI hF dX6_tell_4 (fun r2 hF => ?_)
  refine lv_iload_n hx hb dX6_tell_7 rfl (lv_at hl 1 rfl) ?_
  refine m_callViR C cd_X6_134 ⟨rfl, by decide⟩ hl.1 hI hF (fun _ h => ok_X1_hasWhistle h) rfl rfl ⟨rfl, rfl, Nat.le_of_ble_eq_true rfl, Nat.le_of_ble_eq_true rfl⟩ ⟨Nat.le_of_ble_eq_true rfl, Nat.le_of_ble_eq_true rfl⟩ (Nat.le_of_ble_eq_true rfl) dX6_tell_8 (fun r3 H locs hF hI => ?_)
  refine m_if_ne C (tgt := 21) hF dX6_tell_11 (by decide) (fun hF => ?_) (fun hF => ?_)
  · refine lv_aload_n hx hb dX6_tell_21 rfl (lv_at hl 0 rfl) ?_
    refine lv_iload_n hx hb dX6_tell_22 rfl (lv_at hl 1 rfl) ?_
    refine m_callViR C cd_X6_225 ⟨rfl, by decide⟩ hl.1 hI hF (fun _ h => ok_X6_fittingCalls h) rfl rfl ⟨rfl, rfl, Nat.le_of_ble_eq_true rfl, Nat.le_of_ble_eq_true rfl⟩ ⟨Nat.le_of_ble_eq_true rfl, Nat.le_of_ble_eq_true rfl⟩ (Nat.le_of_ble_eq_true rfl) dX6_tell_23 (fun r4 H locs hF hI => ?_)
    refine lv_istore_n (lv' := [(2, .int r4), (0, .ref (mA E.b v0)), (1, .int v1)]) hx hb dX6_tell_26 rfl hl (by decide) rfl (fun ls hl => ?_)
    refine lv_iload_n hx hb dX6_tell_27 rfl (lv_at hl 0 rfl) ?_
    refine m_if_eq C (tgt := 44) hF dX6_tell_28 (by decide) (fun hF => ?_) (fun hF => ?_)
    · exact (bl_X6_tell_44 C) S _ _ _ hF hI (lv_sub hl [] rfl)
    · refine lv_aload_n hx hb dX6_tell_31 rfl (lv_at hl 1 rfl) ?_
      refine m_getR C fd_X6_12 hI hF dX6_tell_32 (fun r5 hF => ?_)
      refine m_getR C fd_X6_76 hI hF dX6_tell_35 (fun r6 hF => ?_)
      refine m_get C fd_X6_79 hI hF dX6_tell_38 (fun r7 hF => ?_)
      refine m_if_ne C (tgt := 46) hF dX6_tell_41 (by decide) (fun hF => ?_) (fun hF => ?_)
      · refine lv_iconst (v := 0) hx hb dX6_tell_46 (by decide) ?_
        refine lv_istore_n (lv' := [(3, .int 0), (2, .int r4), (0, .ref (mA E.b v0)), (1, .int v1)]) hx hb dX6_tell_47 rfl hl (by decide) rfl (fun ls hl => ?_)
        exact (bl_X6_tell_48 C (k81 := (f_X6_tell_81)) (bl_X6_tell_81 C) 1000) v0 v1 r4 0 S _ _ _ hF hI (lv_sub hl [2, 3, 1, 0] rfl)
      · exact (bl_X6_tell_44 C) S _ _ _ hF hI (lv_sub hl [] rfl)
  · refine lv_aload_n hx hb dX6_tell_14 rfl (lv_at hl 0 rfl) ?_
    refine lv_bipush (v := (-2)) hx hb dX6_tell_15 (by decide) ?_
    refine m_callVi C cd_X6_72 ⟨rfl, by decide⟩ hl.1 hI hF (fun _ h => ok_X6_refuseBad h) rfl rfl ⟨rfl, rfl, Nat.le_of_ble_eq_true rfl, Nat.le_of_ble_eq_true rfl⟩ ⟨Nat.le_of_ble_eq_true rfl, Nat.le_of_ble_eq_true rfl⟩ (Nat.le_of_ble_eq_true rfl) dX6_tell_17 (fun r20 S21 H locs hF hI => ?_)
    exact m_ireti C hI hF dX6_tell_20
noncomputable def f_X6_note_34 (v0 : Int32) (S : mS) : Option (Int32 × mS) := mRc 6 v0 S (mC (f_X6_refuseBad v0 (-2) S) (fun r4 S5 => some (r4, S5)))
noncomputable def f_X6_note (v0 : Int32) (v1 : Int32) (v2 : Int32) (v3 : Int32) (S : mS) : Option (Int32 × mS) := mGr 6 0 v0 S (fun r1 => mGr 5 0 r1 S (fun r2 => mRc 1 r2 S (mCp (f_X1_hasWhistle r2 v1 S) (fun r3 => if r3 = 0 then ((f_X6_note_34) v0 S) else (mCp (f_X6_isWithin v2 0 99) (fun r6 => if r6 = 0 then ((f_X6_note_34) v0 S) else (mCp (f_X6_isWithin v3 0 20) (fun r7 => if r7 = 0 then ((f_X6_note_34) v0 S) else (mGr 6 0 v0 S (fun r8 => mGr 5 2 r8 S (fun r9 => mRc 6 v0 S (mC (f_X6_addTo v0 r9 v1 v2 v3 S) (fun r10 S11 => some (r10, S11))))))))))))))
def rm_X6_note : Room := { frames := 2, cells := 0, slots := 0, locals := 47 }
set_option maxRecDepth 100000 in
set_option maxHeartbeats 4000000 in
theorem bl_X6_note_34 {p : Program} {l : Launch} {e : Env} {s : State} {m : MethodId} {args : Array Value} {below : List Frame} {meth : Method} {c : Code} {E : mE} {n0 : Nat} {F : Int32 × mS} (C : mCx p s m args meth c cX6_note 4 RX6 (some .int) E n0) : ∀  (v0 : Int32) (S : mS) (H : Heap) (locs : List Loc) (ls : Array Slot), f_X6_note_34 v0 S = some F → mIv s E S H locs 0 → lv_has ls 4 [(0, .ref (mA E.b v0))] → W p l e rm_X6_note s m args below meth c H locs 0 0 (mQi below args s 0 0 n0 E F) (F0 m 34 ls []) := by
  have hx := C.1
  have hb := C.2.1
  intro v0 S H locs ls hF hI hl
  refine lv_aload_n hx hb dX6_note_34 rfl (lv_at hl 0 rfl) ?_
  refine lv_bipush (v := (-2)) hx hb dX6_note_35 (by decide) ?_
  refine m_callVi C cd_X6_72 ⟨rfl, by decide⟩ hl.1 hI hF (fun _ h => ok_X6_refuseBad h) rfl rfl ⟨rfl, rfl, Nat.le_of_ble_eq_true rfl, Nat.le_of_ble_eq_true rfl⟩ ⟨Nat.le_of_ble_eq_true rfl, Nat.le_of_ble_eq_true rfl⟩ (Nat.le_of_ble_eq_true rfl) dX6_note_37 (fun r4 S5 H locs hF hI => ?_)
  exact m_ireti C hI hF dX6_note_40
set_option maxRecDepth 100000 in
set_option maxHeartbeats 4000000 in
theorem ok_X6_note {l : Launch} {E : mE} {v0 : Int32} {v1 : Int32} {v2 : Int32} {v3 : Int32} {S : mS} {F : Int32 × mS} (hF : f_X6_note v0 v1 v2 v3 S = some F) : mMi l yX6_note cX6_note 4 (some .int) rm_X6_note 0 0 [.ref (mA E.b v0), .int v1, .int v2, .int v3] E S F := by
  refine m_met_i (by decide) (Nat.le_of_ble_eq_true rfl) (fun p e s m args below meth c ls hin C hI hl => ?_)
  have hx := C.1
  have hb := C.2.1
  have hl : lv_has ls 4 [(0, .ref (mA E.b v0)), (1, .int v1), (2, .int v2), (3, .int v3)] := hl
  generalize s.heap = H at hI ⊢
  generalize ([] : List Loc) = locs at hI ⊢
  refine lv_aload_n hx hb dX6_note_0 rfl (lv_at hl 0 rfl) ?_
  refine m_getR C fd_X6_12 hI hF dX6_note_1 (fun r1 hF => ?_)
  refine m_getR C fd_X6_76 hI hF dX6_note_4 (fun r2 hF => ?_)
  refine lv_iload_n hx hb dX6_note_7 rfl (lv_at hl 1 rfl) ?_
  refine m_callViR C cd_X6_134 ⟨rfl, by decide⟩ hl.1 hI hF (fun _ h => ok_X1_hasWhistle h) rfl rfl ⟨rfl, rfl, Nat.le_of_ble_eq_true rfl, Nat.le_of_ble_eq_true rfl⟩ ⟨Nat.le_of_ble_eq_true rfl, Nat.le_of_ble_eq_true rfl⟩ (Nat.le_of_ble_eq_true rfl) dX6_note_8 (fun r3 H locs hF hI => ?_)
  refine m_if_eq C (tgt := 34) hF dX6_note_11 (by decide) (fun hF => ?_) (fun hF => ?_)
  · exact (bl_X6_note_34 C) v0 S _ _ _ hF hI (lv_sub hl [0] rfl)
  · refine lv_iload_n hx hb dX6_note_14 rfl (lv_at hl 2 rfl) ?_
    refine lv_iconst (v := 0) hx hb dX6_note_15 (by decide) ?_
    refine lv_bipush (v := 99) hx hb dX6_note_16 (by decide) ?_
    refine m_callSiR C cd_X6_118 hl.1 hI hF (fun _ h => ok_X6_isWithin h) rfl rfl ⟨rfl, rfl, Nat.le_of_ble_eq_true rfl, Nat.le_of_ble_eq_true rfl⟩ ⟨Nat.le_of_ble_eq_true rfl, Nat.le_of_ble_eq_true rfl⟩ (Nat.le_of_ble_eq_true rfl) dX6_note_18 (fun r6 H locs hF hI => ?_)
    refine m_if_eq C (tgt := 34) hF dX6_note_21 (by decide) (fun hF => ?_) (fun hF => ?_)
    · exact (bl_X6_note_34 C) v0 S _ _ _ hF hI (lv_sub hl [0] rfl)
    · refine lv_iload_n hx hb dX6_note_24 rfl (lv_at hl 3 rfl) ?_
      refine lv_iconst (v := 0) hx hb dX6_note_25 (by decide) ?_
      refine lv_bipush (v := 20) hx hb dX6_note_26 (by decide) ?_
      refine m_callSiR C cd_X6_118 hl.1 hI hF (fun _ h => ok_X6_isWithin h) rfl rfl ⟨rfl, rfl, Nat.le_of_ble_eq_true rfl, Nat.le_of_ble_eq_true rfl⟩ ⟨Nat.le_of_ble_eq_true rfl, Nat.le_of_ble_eq_true rfl⟩ (Nat.le_of_ble_eq_true rfl) dX6_note_28 (fun r7 H locs hF hI => ?_)
      refine m_if_ne C (tgt := 41) hF dX6_note_31 (by decide) (fun hF => ?_) (fun hF => ?_)
      · refine lv_aload_n hx hb dX6_note_41 rfl (lv_at hl 0 rfl) ?_
        refine lv_aload_n hx hb dX6_note_42 rfl (lv_at hl 0 rfl) ?_
        refine m_getR C fd_X6_12 hI hF dX6_note_43 (fun r8 hF => ?_)
        refine m_getR C fd_X6_235 hI hF dX6_note_46 (fun r9 hF => ?_)
        refine lv_iload_n hx hb dX6_note_49 rfl (lv_at hl 1 rfl) ?_
        refine lv_iload_n hx hb dX6_note_50 rfl (lv_at hl 2 rfl) ?_
        refine lv_iload_n hx hb dX6_note_51 rfl (lv_at hl 3 rfl) ?_
        refine m_callVi C cd_X6_221 ⟨rfl, by decide⟩ hl.1 hI hF (fun _ h => ok_X6_addTo h) rfl rfl ⟨rfl, rfl, Nat.le_of_ble_eq_true rfl, Nat.le_of_ble_eq_true rfl⟩ ⟨Nat.le_of_ble_eq_true rfl, Nat.le_of_ble_eq_true rfl⟩ (Nat.le_of_ble_eq_true rfl) dX6_note_52 (fun r10 S11 H locs hF hI => ?_)
        exact m_ireti C hI hF dX6_note_55
      · exact (bl_X6_note_34 C) v0 S _ _ _ hF hI (lv_sub hl [0] rfl)
noncomputable def f_X6_mark_34 (v0 : Int32) (S : mS) : Option (Int32 × mS) := mRc 6 v0 S (mC (f_X6_refuseBad v0 (-2) S) (fun r4 S5 => some (r4, S5)))
noncomputable def f_X6_mark (v0 : Int32) (v1 : Int32) (v2 : Int32) (v3 : Int32) (S : mS) : Option (Int32 × mS) := mGr 6 0 v0 S (fun r1 => mGr 5 0 r1 S (fun r2 => mRc 1 r2 S (mCp (f_X1_hasSheep r2 v1 S) (fun r3 => if r3 = 0 then ((f_X6_mark_34) v0 S) else (mCp (f_X6_isWithin v2 0 8) (fun r6 => if r6 = 0 then ((f_X6_mark_34) v0 S) else (mCp (f_X6_isWithin v3 0 9) (fun r7 => if r7 = 0 then ((f_X6_mark_34) v0 S) else (mGr 6 0 v0 S (fun r8 => mGr 5 3 r8 S (fun r9 => mRc 6 v0 S (mC (f_X6_addTo v0 r9 v1 v2 v3 S) (fun r10 S11 => some (r10, S11))))))))))))))
def rm_X6_mark : Room := { frames := 2, cells := 0, slots := 0, locals := 47 }
set_option maxRecDepth 100000 in
set_option maxHeartbeats 4000000 in
theorem bl_X6_mark_34 {p : Program} {l : Launch} {e : Env} {s : State} {m : MethodId} {args : Array Value} {below : List Frame} {meth : Method} {c : Code} {E : mE} {n0 : Nat} {F : Int32 × mS} (C : mCx p s m args meth c cX6_mark 4 RX6 (some .int) E n0) : ∀  (v0 : Int32) (S : mS) (H : Heap) (locs : List Loc) (ls : Array Slot), f_X6_mark_34 v0 S = some F → mIv s E S H locs 0 → lv_has ls 4 [(0, .ref (mA E.b v0))] → W p l e rm_X6_mark s m args below meth c H locs 0 0 (mQi below args s 0 0 n0 E F) (F0 m 34 ls []) := by
  have hx := C.1
  have hb := C.2.1
  intro v0 S H locs ls hF hI hl
  refine lv_aload_n hx hb dX6_mark_34 rfl (lv_at hl 0 rfl) ?_
  refine lv_bipush (v := (-2)) hx hb dX6_mark_35 (by decide) ?_
  refine m_callVi C cd_X6_72 ⟨rfl, by decide⟩ hl.1 hI hF (fun _ h => ok_X6_refuseBad h) rfl rfl ⟨rfl, rfl, Nat.le_of_ble_eq_true rfl, Nat.le_of_ble_eq_true rfl⟩ ⟨Nat.le_of_ble_eq_true rfl, Nat.le_of_ble_eq_true rfl⟩ (Nat.le_of_ble_eq_true rfl) dX6_mark_37 (fun r4 S5 H locs hF hI => ?_)
  exact m_ireti C hI hF dX6_mark_40
set_option maxRecDepth 100000 in
set_option maxHeartbeats 4000000 in
theorem ok_X6_mark {l : Launch} {E : mE} {v0 : Int32} {v1 : Int32} {v2 : Int32} {v3 : Int32} {S : mS} {F : Int32 × mS} (hF : f_X6_mark v0 v1 v2 v3 S = some F) : mMi l yX6_mark cX6_mark 4 (some .int) rm_X6_mark 0 0 [.ref (mA E.b v0), .int v1, .int v2, .int v3] E S F := by
  refine m_met_i (by decide) (Nat.le_of_ble_eq_true rfl) (fun p e s m args below meth c ls hin C hI hl => ?_)
  have hx := C.1
  have hb := C.2.1
  have hl : lv_has ls 4 [(0, .ref (mA E.b v0)), (1, .int v1), (2, .int v2), (3, .int v3)] := hl
  generalize s.heap = H at hI ⊢
  generalize ([] : List Loc) = locs at hI ⊢
  refine lv_aload_n hx hb dX6_mark_0 rfl (lv_at hl 0 rfl) ?_
  refine m_getR C fd_X6_12 hI hF dX6_mark_1 (fun r1 hF => ?_)
  refine m_getR C fd_X6_76 hI hF dX6_mark_4 (fun r2 hF => ?_)
  refine lv_iload_n hx hb dX6_mark_7 rfl (lv_at hl 1 rfl) ?_
  refine m_callViR C cd_X6_167 ⟨rfl, by decide⟩ hl.1 hI hF (fun _ h => ok_X1_hasSheep h) rfl rfl ⟨rfl, rfl, Nat.le_of_ble_eq_true rfl, Nat.le_of_ble_eq_true rfl⟩ ⟨Nat.le_of_ble_eq_true rfl, Nat.le_of_ble_eq_true rfl⟩ (Nat.le_of_ble_eq_true rfl) dX6_mark_8 (fun r3 H locs hF hI => ?_)
  refine m_if_eq C (tgt := 34) hF dX6_mark_11 (by decide) (fun hF => ?_) (fun hF => ?_)
  · exact (bl_X6_mark_34 C) v0 S _ _ _ hF hI (lv_sub hl [0] rfl)
  · refine lv_iload_n hx hb dX6_mark_14 rfl (lv_at hl 2 rfl) ?_
    refine lv_iconst (v := 0) hx hb dX6_mark_15 (by decide) ?_
    refine lv_bipush (v := 8) hx hb dX6_mark_16 (by decide) ?_
    refine m_callSiR C cd_X6_118 hl.1 hI hF (fun _ h => ok_X6_isWithin h) rfl rfl ⟨rfl, rfl, Nat.le_of_ble_eq_true rfl, Nat.le_of_ble_eq_true rfl⟩ ⟨Nat.le_of_ble_eq_true rfl, Nat.le_of_ble_eq_true rfl⟩ (Nat.le_of_ble_eq_true rfl) dX6_mark_18 (fun r6 H locs hF hI => ?_)
    refine m_if_eq C (tgt := 34) hF dX6_mark_21 (by decide) (fun hF => ?_) (fun hF => ?_)
    · exact (bl_X6_mark_34 C) v0 S _ _ _ hF hI (lv_sub hl [0] rfl)
    · refine lv_iload_n hx hb dX6_mark_24 rfl (lv_at hl 3 rfl) ?_
      refine lv_iconst (v := 0) hx hb dX6_mark_25 (by decide) ?_
      refine lv_bipush (v := 9) hx hb dX6_mark_26 (by decide) ?_
      refine m_callSiR C cd_X6_118 hl.1 hI hF (fun _ h => ok_X6_isWithin h) rfl rfl ⟨rfl, rfl, Nat.le_of_ble_eq_true rfl, Nat.le_of_ble_eq_true rfl⟩ ⟨Nat.le_of_ble_eq_true rfl, Nat.le_of_ble_eq_true rfl⟩ (Nat.le_of_ble_eq_true rfl) dX6_mark_28 (fun r7 H locs hF hI => ?_)
      refine m_if_ne C (tgt := 41) hF dX6_mark_31 (by decide) (fun hF => ?_) (fun hF => ?_)
      · refine lv_aload_n hx hb dX6_mark_41 rfl (lv_at hl 0 rfl) ?_
        refine lv_aload_n hx hb dX6_mark_42 rfl (lv_at hl 0 rfl) ?_
        refine m_getR C fd_X6_12 hI hF dX6_mark_43 (fun r8 hF => ?_)
        refine m_getR C fd_X6_238 hI hF dX6_mark_46 (fun r9 hF => ?_)
        refine lv_iload_n hx hb dX6_mark_49 rfl (lv_at hl 1 rfl) ?_
        refine lv_iload_n hx hb dX6_mark_50 rfl (lv_at hl 2 rfl) ?_
        refine lv_iload_n hx hb dX6_mark_51 rfl (lv_at hl 3 rfl) ?_
        refine m_callVi C cd_X6_221 ⟨rfl, by decide⟩ hl.1 hI hF (fun _ h => ok_X6_addTo h) rfl rfl ⟨rfl, rfl, Nat.le_of_ble_eq_true rfl, Nat.le_of_ble_eq_true rfl⟩ ⟨Nat.le_of_ble_eq_true rfl, Nat.le_of_ble_eq_true rfl⟩ (Nat.le_of_ble_eq_true rfl) dX6_mark_52 (fun r10 S11 H locs hF hI => ?_)
        exact m_ireti C hI hF dX6_mark_55
      · exact (bl_X6_mark_34 C) v0 S _ _ _ hF hI (lv_sub hl [0] rfl)
noncomputable def f_X6_forget_51 (v2 : Int32) (S : mS) : Option (Int32 × mS) := mG 3 3 v2 S (fun r4 => mP 3 3 v2 0 S (fun S5 => some (r4, S5)))
noncomputable def f_X6_forget_50 (t0 : Int32) (S : mS) : Option (Int32 × mS) := (f_X6_forget_51) t0 S
noncomputable def f_X6_forget (v0 : Int32) (v1 : Int32) (S : mS) : Option (Int32 × mS) := mCp (f_X6_isWithin v1 0 2) (fun r1 => if r1 = 0 then (mRc 6 v0 S (mC (f_X6_refuseBad v0 (-2) S) (fun r10 S11 => some (r10, S11)))) else (mGr 6 0 v0 S (fun r2 => mGr 5 1 r2 S (fun r3 => if v1 = 0 then ((f_X6_forget_51) r3 S) else (if v1 = 1 then (mGr 6 0 v0 S (fun r8 => mGr 5 2 r8 S (fun r9 => (f_X6_forget_50) r9 S))) else (mGr 6 0 v0 S (fun r6 => mGr 5 3 r6 S (fun r7 => (f_X6_forget_50) r7 S))))))))
def rm_X6_forget : Room := { frames := 1, cells := 0, slots := 0, locals := 22 }
set_option maxRecDepth 100000 in
set_option maxHeartbeats 4000000 in
theorem bl_X6_forget_51 {p : Program} {l : Launch} {e : Env} {s : State} {m : MethodId} {args : Array Value} {below : List Frame} {meth : Method} {c : Code} {E : mE} {n0 : Nat} {F : Int32 × mS} (C : mCx p s m args meth c cX6_forget 4 RX6 (some .int) E n0) : ∀  (v2 : Int32) (S : mS) (H : Heap) (locs : List Loc) (ls : Array Slot), f_X6_forget_51 v2 S = some F → mIv s E S H locs 0 → lv_has ls 4 [(2, .ref (mA E.b v2))] → W p l e rm_X6_forget s m args below meth c H locs 0 0 (mQi below args s 0 0 n0 E F) (F0 m 51 ls []) := by
  have hx := C.1
  have hb := C.2.1
  intro v2 S H locs ls hF hI hl
  refine lv_aload_n hx hb dX6_forget_51 rfl (lv_at hl 0 rfl) ?_
  refine m_get C fd_X6_241 hI hF dX6_forget_52 (fun r4 hF => ?_)
  refine lv_istore_n (lv' := [(3, .int r4), (2, .ref (mA E.b v2))]) hx hb dX6_forget_55 rfl hl (by decide) rfl (fun ls hl => ?_)
  refine lv_aload_n hx hb dX6_forget_56 rfl (lv_at hl 1 rfl) ?_
  refine lv_iconst (v := 0) hx hb dX6_forget_57 (by decide) ?_
  refine m_put C fd_X6_241 hI hF dX6_forget_58 (fun S5 H locs hF hI => ?_)
  refine lv_iload_n hx hb dX6_forget_61 rfl (lv_at hl 0 rfl) ?_
  exact m_ireti C hI hF dX6_forget_62
set_option maxRecDepth 100000 in
set_option maxHeartbeats 4000000 in
theorem bl_X6_forget_50 {p : Program} {l : Launch} {e : Env} {s : State} {m : MethodId} {args : Array Value} {below : List Frame} {meth : Method} {c : Code} {E : mE} {n0 : Nat} {F : Int32 × mS} (C : mCx p s m args meth c cX6_forget 4 RX6 (some .int) E n0) : ∀  (t0 : Int32) (S : mS) (H : Heap) (locs : List Loc) (ls : Array Slot), f_X6_forget_50 t0 S = some F → mIv s E S H locs 0 → lv_has ls 4 [] → W p l e rm_X6_forget s m args below meth c H locs 0 0 (mQi below args s 0 0 n0 E F) (F0 m 50 ls [.ref (mA E.b t0)]) := by
  have hx := C.1
  have hb := C.2.1
  intro t0 S H locs ls hF hI hl
  refine lv_astore_n (lv' := [(2, .ref (mA E.b t0))]) hx hb dX6_forget_50 rfl hl (by decide) rfl (fun ls hl => ?_)
  exact (bl_X6_forget_51 C) t0 S _ _ _ hF hI (lv_sub hl [0] rfl)
set_option maxRecDepth 100000 in
set_option maxHeartbeats 4000000 in
theorem ok_X6_forget {l : Launch} {E : mE} {v0 : Int32} {v1 : Int32} {S : mS} {F : Int32 × mS} (hF : f_X6_forget v0 v1 S = some F) : mMi l yX6_forget cX6_forget 4 (some .int) rm_X6_forget 0 0 [.ref (mA E.b v0), .int v1] E S F := by
  refine m_met_i (by decide) (Nat.le_of_ble_eq_true rfl) (fun p e s m args below meth c ls hin C hI hl => ?_)
  have hx := C.1
  have hb := C.2.1
  have hl : lv_has ls 4 [(0, .ref (mA E.b v0)), (1, .int v1)] := hl
  generalize s.heap = H at hI ⊢
  generalize ([] : List Loc) = locs at hI ⊢
  refine lv_iload_n hx hb dX6_forget_0 rfl (lv_at hl 1 rfl) ?_
  refine lv_iconst (v := 0) hx hb dX6_forget_1 (by decide) ?_
  refine lv_iconst (v := 2) hx hb dX6_forget_2 (by decide) ?_
  refine m_callSiR C cd_X6_118 hl.1 hI hF (fun _ h => ok_X6_isWithin h) rfl rfl ⟨rfl, rfl, Nat.le_of_ble_eq_true rfl, Nat.le_of_ble_eq_true rfl⟩ ⟨Nat.le_of_ble_eq_true rfl, Nat.le_of_ble_eq_true rfl⟩ (Nat.le_of_ble_eq_true rfl) dX6_forget_3 (fun r1 H locs hF hI => ?_)
  refine m_if_ne C (tgt := 16) hF dX6_forget_6 (by decide) (fun hF => ?_) (fun hF => ?_)
  · refine lv_aload_n hx hb dX6_forget_16 rfl (lv_at hl 0 rfl) ?_
    refine m_getR C fd_X6_12 hI hF dX6_forget_17 (fun r2 hF => ?_)
    refine m_getR C fd_X6_217 hI hF dX6_forget_20 (fun r3 hF => ?_)
    refine lv_astore_n (lv' := [(2, .ref (mA E.b r3)), (0, .ref (mA E.b v0)), (1, .int v1)]) hx hb dX6_forget_23 rfl hl (by decide) rfl (fun ls hl => ?_)
    refine lv_iload_n hx hb dX6_forget_24 rfl (lv_at hl 2 rfl) ?_
    refine m_if_eq C (tgt := 51) hF dX6_forget_25 (by decide) (fun hF => ?_) (fun hF => ?_)
    · exact (bl_X6_forget_51 C) r3 S _ _ _ hF hI (lv_sub hl [0] rfl)
    · refine lv_iload_n hx hb dX6_forget_28 rfl (lv_at hl 2 rfl) ?_
      refine lv_iconst (v := 1) hx hb dX6_forget_29 (by decide) ?_
      refine m_icmp_ne C (tgt := 43) hF dX6_forget_30 (by decide) (fun hF => ?_) (fun hF => ?_)
      · refine lv_aload_n hx hb dX6_forget_43 rfl (lv_at hl 1 rfl) ?_
        refine m_getR C fd_X6_12 hI hF dX6_forget_44 (fun r6 hF => ?_)
        refine m_getR C fd_X6_238 hI hF dX6_forget_47 (fun r7 hF => ?_)
        exact (bl_X6_forget_50 C) r7 S _ _ _ hF hI (lv_sub hl [] rfl)
      · refine lv_aload_n hx hb dX6_forget_33 rfl (lv_at hl 1 rfl) ?_
        refine m_getR C fd_X6_12 hI hF dX6_forget_34 (fun r8 hF => ?_)
        refine m_getR C fd_X6_235 hI hF dX6_forget_37 (fun r9 hF => ?_)
        refine lv_goto (tgt := 50) hx hb dX6_forget_40 (by decide) ?_
        exact (bl_X6_forget_50 C) r9 S _ _ _ hF hI (lv_sub hl [] rfl)
  · refine lv_aload_n hx hb dX6_forget_9 rfl (lv_at hl 0 rfl) ?_
    refine lv_bipush (v := (-2)) hx hb dX6_forget_10 (by decide) ?_
    refine m_callVi C cd_X6_72 ⟨rfl, by decide⟩ hl.1 hI hF (fun _ h => ok_X6_refuseBad h) rfl rfl ⟨rfl, rfl, Nat.le_of_ble_eq_true rfl, Nat.le_of_ble_eq_true rfl⟩ ⟨Nat.le_of_ble_eq_true rfl, Nat.le_of_ble_eq_true rfl⟩ (Nat.le_of_ble_eq_true rfl) dX6_forget_12 (fun r10 S11 H locs hF hI => ?_)
    exact m_ireti C hI hF dX6_forget_15
noncomputable def f_X6_kindReach_17 (t0 : Int32) : Option Int32 := some t0
noncomputable def f_X6_kindReach (v0 : Int32) (v1 : Int32) (v2 : Int32) : Option Int32 := if v0 = 0 then (mCp (f_X6_whistleReach v1 v2) (fun r1 => (f_X6_kindReach_17) r1)) else (mCp (f_X6_sheepReach v1 v2) (fun r2 => (f_X6_kindReach_17) r2))
def rm_X6_kindReach : Room := { frames := 2, cells := 0, slots := 0, locals := 37 }
set_option maxRecDepth 100000 in
set_option maxHeartbeats 4000000 in
theorem bl_X6_kindReach_17 {p : Program} {l : Launch} {e : Env} {s : State} {m : MethodId} {args : Array Value} {below : List Frame} {meth : Method} {c : Code} {E : mE} {n0 : Nat} {r : Int32} {S : mS} (C : mCx p s m args meth c cX6_kindReach 3 RX6 (some .int) E n0) : ∀  (t0 : Int32) (H : Heap) (locs : List Loc) (ls : Array Slot), f_X6_kindReach_17 t0 = some r → mIv s E S H locs 0 → lv_has ls 3 [] → W p l e rm_X6_kindReach s m args below meth c H locs 0 0 (mQi below args s 0 0 n0 E (r, S)) (F0 m 17 ls [.int t0]) := by
  have hx := C.1
  have hb := C.2.1
  intro t0 H locs ls hF hI hl
  exact m_iretiR C hI hF dX6_kindReach_17
set_option maxRecDepth 100000 in
set_option maxHeartbeats 4000000 in
theorem ok_X6_kindReach {l : Launch} {E : mE} {v0 : Int32} {v1 : Int32} {v2 : Int32} {S : mS} {r : Int32} (hF : f_X6_kindReach v0 v1 v2 = some r) : mMi l yX6_kindReach cX6_kindReach 3 (some .int) rm_X6_kindReach 0 0 [.int v0, .int v1, .int v2] E S (r, S) := by
  refine m_met_i (by decide) (Nat.le_of_ble_eq_true rfl) (fun p e s m args below meth c ls hin C hI hl => ?_)
  have hx := C.1
  have hb := C.2.1
  have hl : lv_has ls 3 [(0, .int v0), (1, .int v1), (2, .int v2)] := hl
  generalize s.heap = H at hI ⊢
  generalize ([] : List Loc) = locs at hI ⊢
  refine lv_iload_n hx hb dX6_kindReach_0 rfl (lv_at hl 0 rfl) ?_
  refine m_if_eq C (tgt := 12) hF dX6_kindReach_1 (by decide) (fun hF => ?_) (fun hF => ?_)
  · refine lv_iload_n hx hb dX6_kindReach_12 rfl (lv_at hl 1 rfl) ?_
    refine lv_iload_n hx hb dX6_kindReach_13 rfl (lv_at hl 2 rfl) ?_
    refine m_callSiR C cd_X6_318 hl.1 hI hF (fun _ h => ok_X6_whistleReach h) rfl rfl ⟨rfl, rfl, Nat.le_of_ble_eq_true rfl, Nat.le_of_ble_eq_true rfl⟩ ⟨Nat.le_of_ble_eq_true rfl, Nat.le_of_ble_eq_true rfl⟩ (Nat.le_of_ble_eq_true rfl) dX6_kindReach_14 (fun r1 H locs hF hI => ?_)
    exact (bl_X6_kindReach_17 C) r1 _ _ _ hF hI (lv_sub hl [] rfl)
  · refine lv_iload_n hx hb dX6_kindReach_4 rfl (lv_at hl 1 rfl) ?_
    refine lv_iload_n hx hb dX6_kindReach_5 rfl (lv_at hl 2 rfl) ?_
    refine m_callSiR C cd_X6_315 hl.1 hI hF (fun _ h => ok_X6_sheepReach h) rfl rfl ⟨rfl, rfl, Nat.le_of_ble_eq_true rfl, Nat.le_of_ble_eq_true rfl⟩ ⟨Nat.le_of_ble_eq_true rfl, Nat.le_of_ble_eq_true rfl⟩ (Nat.le_of_ble_eq_true rfl) dX6_kindReach_6 (fun r2 H locs hF hI => ?_)
    refine lv_goto (tgt := 17) hx hb dX6_kindReach_9 (by decide) ?_
    exact (bl_X6_kindReach_17 C) r2 _ _ _ hF hI (lv_sub hl [] rfl)
noncomputable def f_X6_fitsRows_59 (k3 : Int32 → Int32 → Int32 → Int32 → Int32 → Option Int32) (S : mS) (v0 : Int32) (v1 : Int32) (v2 : Int32) (v3 : Int32) (v4 : Int32) : Option Int32 := k3 v0 v1 v2 v3 (v4 + 1)
noncomputable def f_X6_fitsRows_39 (k3 : Int32 → Int32 → Int32 → Int32 → Int32 → Option Int32) (S : mS) (v0 : Int32) (v1 : Int32) (v2 : Int32) (v3 : Int32) (v4 : Int32) (t0 : Int32) : Option Int32 := mRc 3 v0 S (mCp (f_X3_get v0 v4 0 S) (fun r5 => if r5 = v1 then (if t0 = 0 then (mZ 0 (some 0)) else ((f_X6_fitsRows_59 k3 S) v0 v1 v2 v3 v4)) else ((f_X6_fitsRows_59 k3 S) v0 v1 v2 v3 v4)))
noncomputable def f_X6_fitsRows_3 (k65 : Option Int32) (S : mS) : Nat → Int32 → Int32 → Int32 → Int32 → Int32 → Option Int32 := fun n => Nat.rec (motive := fun _ => Int32 → Int32 → Int32 → Int32 → Int32 → Option Int32) (fun _ _ _ _ _ => none) (fun _ rec v0 v1 v2 v3 v4 => mG 3 3 v0 S (fun r1 => if r1 ≤ v4 then (k65) else (mRc 3 v0 S (mCp (f_X3_get v0 v4 1 S) (fun r2 => mCp (f_X6_kindReach v2 v3 r2) (fun r3 => mRc 3 v0 S (mCp (f_X3_get v0 v4 2 S) (fun r4 => if r3 = r4 then ((f_X6_fitsRows_39 rec S) v0 v1 v2 v3 v4 1) else ((f_X6_fitsRows_39 rec S) v0 v1 v2 v3 v4 0))))))))) n
theorem f_X6_fitsRows_3_s (k65 : Option Int32) (S : mS) (n : Nat) (v0 : Int32) (v1 : Int32) (v2 : Int32) (v3 : Int32) (v4 : Int32) : f_X6_fitsRows_3 k65 S (n + 1) v0 v1 v2 v3 v4 = mG 3 3 v0 S (fun r1 => if r1 ≤ v4 then (k65) else (mRc 3 v0 S (mCp (f_X3_get v0 v4 1 S) (fun r2 => mCp (f_X6_kindReach v2 v3 r2) (fun r3 => mRc 3 v0 S (mCp (f_X3_get v0 v4 2 S) (fun r4 => if r3 = r4 then ((f_X6_fitsRows_39 (f_X6_fitsRows_3 k65 S n) S) v0 v1 v2 v3 v4 1) else ((f_X6_fitsRows_39 (f_X6_fitsRows_3 k65 S n) S) v0 v1 v2 v3 v4 0)))))))) := rfl
noncomputable def f_X6_fitsRows_65 (S : mS) : Option Int32 := mZ 1 (some 1)
noncomputable def f_X6_fitsRows (v0 : Int32) (v1 : Int32) (v2 : Int32) (v3 : Int32) (S : mS) : Option Int32 := (f_X6_fitsRows_3 (f_X6_fitsRows_65 S) S 1000) v0 v1 v2 v3 0
def rm_X6_fitsRows : Room := { frames := 3, cells := 0, slots := 0, locals := 59 }
set_option maxRecDepth 100000 in
set_option maxHeartbeats 4000000 in
theorem bl_X6_fitsRows_59 {p : Program} {l : Launch} {e : Env} {s : State} {m : MethodId} {args : Array Value} {below : List Frame} {meth : Method} {c : Code} {E : mE} {n0 : Nat} {r : Int32} {S : mS} (C : mCx p s m args meth c cX6_fitsRows 6 RX6 (some .boolean) E n0) {k3 : Int32 → Int32 → Int32 → Int32 → Int32 → Option Int32} (hk3 : ∀ (v0 : Int32) (v1 : Int32) (v2 : Int32) (v3 : Int32) (v4 : Int32) (H : Heap) (locs : List Loc) (ls : Array Slot), k3 v0 v1 v2 v3 v4 = some r → mIv s E S H locs 0 → lv_has ls 6 [(0, .ref (mA E.b v0)), (1, .int v1), (2, .int v2), (3, .int v3), (4, .int v4)] → W p l e rm_X6_fitsRows s m args below meth c H locs 0 0 (mQi below args s 0 0 n0 E (r, S)) (F0 m 3 ls [])) : ∀  (v0 : Int32) (v1 : Int32) (v2 : Int32) (v3 : Int32) (v4 : Int32) (H : Heap) (locs : List Loc) (ls : Array Slot), f_X6_fitsRows_59 k3 S v0 v1 v2 v3 v4 = some r → mIv s E S H locs 0 → lv_has ls 6 [(0, .ref (mA E.b v0)), (1, .int v1), (2, .int v2), (3, .int v3), (4, .int v4)] → W p l e rm_X6_fitsRows s m args below meth c H locs 0 0 (mQi below args s 0 0 n0 E (r, S)) (F0 m 59 ls []) := by
  have hx := C.1
  have hb := C.2.1
  intro v0 v1 v2 v3 v4 H locs ls hF hI hl
  refine lv_iinc (v := v4 + 1) (lv' := [(4, .int (v4 + 1)), (0, .ref (mA E.b v0)), (1, .int v1), (2, .int v2), (3, .int v3)]) hx hb dX6_fitsRows_59 hl (k := 4) rfl rfl (by decide) rfl (fun ls hl => ?_)
  refine lv_goto (tgt := 3) hx hb dX6_fitsRows_62 (by decide) ?_
  exact hk3 v0 v1 v2 v3 (v4 + 1) _ _ _ hF hI (lv_sub hl [1, 2, 3, 4, 0] rfl)
set_option maxRecDepth 100000 in
set_option maxHeartbeats 4000000 in
theorem bl_X6_fitsRows_39 {p : Program} {l : Launch} {e : Env} {s : State} {m : MethodId} {args : Array Value} {below : List Frame} {meth : Method} {c : Code} {E : mE} {n0 : Nat} {r : Int32} {S : mS} (C : mCx p s m args meth c cX6_fitsRows 6 RX6 (some .boolean) E n0) {k3 : Int32 → Int32 → Int32 → Int32 → Int32 → Option Int32} (hk3 : ∀ (v0 : Int32) (v1 : Int32) (v2 : Int32) (v3 : Int32) (v4 : Int32) (H : Heap) (locs : List Loc) (ls : Array Slot), k3 v0 v1 v2 v3 v4 = some r → mIv s E S H locs 0 → lv_has ls 6 [(0, .ref (mA E.b v0)), (1, .int v1), (2, .int v2), (3, .int v3), (4, .int v4)] → W p l e rm_X6_fitsRows s m args below meth c H locs 0 0 (mQi below args s 0 0 n0 E (r, S)) (F0 m 3 ls [])) : ∀  (v0 : Int32) (v1 : Int32) (v2 : Int32) (v3 : Int32) (v4 : Int32) (t0 : Int32) (H : Heap) (locs : List Loc) (ls : Array Slot), f_X6_fitsRows_39 k3 S v0 v1 v2 v3 v4 t0 = some r → mIv s E S H locs 0 → lv_has ls 6 [(0, .ref (mA E.b v0)), (1, .int v1), (2, .int v2), (3, .int v3), (4, .int v4)] → W p l e rm_X6_fitsRows s m args below meth c H locs 0 0 (mQi below args s 0 0 n0 E (r, S)) (F0 m 39 ls [.int t0]) := by
  have hx := C.1
  have hb := C.2.1
  intro v0 v1 v2 v3 v4 t0 H locs ls hF hI hl
  refine lv_istore (lv' := [(5, .int t0), (0, .ref (mA E.b v0)), (1, .int v1), (2, .int v2), (3, .int v3), (4, .int v4)]) hx hb dX6_fitsRows_39 hl (by decide) rfl (fun ls hl => ?_)
  refine lv_aload_n hx hb dX6_fitsRows_41 rfl (lv_at hl 1 rfl) ?_
  refine lv_iload hx hb dX6_fitsRows_42 (lv_at hl 5 rfl) ?_
  refine lv_iconst (v := 0) hx hb dX6_fitsRows_44 (by decide) ?_
  refine m_callViR C cd_X6_345 ⟨rfl, by decide⟩ hl.1 hI hF (fun _ h => ok_X3_get h) rfl rfl ⟨rfl, rfl, Nat.le_of_ble_eq_true rfl, Nat.le_of_ble_eq_true rfl⟩ ⟨Nat.le_of_ble_eq_true rfl, Nat.le_of_ble_eq_true rfl⟩ (Nat.le_of_ble_eq_true rfl) dX6_fitsRows_45 (fun r5 H locs hF hI => ?_)
  refine lv_iload_n hx hb dX6_fitsRows_48 rfl (lv_at hl 2 rfl) ?_
  refine m_icmp_ne C (tgt := 59) hF dX6_fitsRows_49 (by decide) (fun hF => ?_) (fun hF => ?_)
  · exact (bl_X6_fitsRows_59 C (k3 := k3) hk3) v0 v1 v2 v3 v4 _ _ _ hF hI (lv_sub hl [1, 2, 3, 4, 5] rfl)
  · refine lv_iload hx hb dX6_fitsRows_52 (lv_at hl 0 rfl) ?_
    refine m_if_ne C (tgt := 59) hF dX6_fitsRows_54 (by decide) (fun hF => ?_) (fun hF => ?_)
    · exact (bl_X6_fitsRows_59 C (k3 := k3) hk3) v0 v1 v2 v3 v4 _ _ _ hF hI (lv_sub hl [1, 2, 3, 4, 5] rfl)
    · refine lv_iconst (v := 0) hx hb dX6_fitsRows_57 (by decide) ?_
      exact m_iretzR C hI hF dX6_fitsRows_58
set_option maxRecDepth 100000 in
set_option maxHeartbeats 4000000 in
theorem bl_X6_fitsRows_3 {p : Program} {l : Launch} {e : Env} {s : State} {m : MethodId} {args : Array Value} {below : List Frame} {meth : Method} {c : Code} {E : mE} {n0 : Nat} {r : Int32} {S : mS} (C : mCx p s m args meth c cX6_fitsRows 6 RX6 (some .boolean) E n0) {k65 : Option Int32} (hk65 : ∀ (H : Heap) (locs : List Loc) (ls : Array Slot), k65 = some r → mIv s E S H locs 0 → lv_has ls 6 [] → W p l e rm_X6_fitsRows s m args below meth c H locs 0 0 (mQi below args s 0 0 n0 E (r, S)) (F0 m 65 ls [])) : ∀ (n : Nat)  (v0 : Int32) (v1 : Int32) (v2 : Int32) (v3 : Int32) (v4 : Int32) (H : Heap) (locs : List Loc) (ls : Array Slot), f_X6_fitsRows_3 k65 S n v0 v1 v2 v3 v4 = some r → mIv s E S H locs 0 → lv_has ls 6 [(0, .ref (mA E.b v0)), (1, .int v1), (2, .int v2), (3, .int v3), (4, .int v4)] → W p l e rm_X6_fitsRows s m args below meth c H locs 0 0 (mQi below args s 0 0 n0 E (r, S)) (F0 m 3 ls []) := by
  have hx := C.1
  have hb := C.2.1
  intro n
  induction n with
  | zero =>
    intro v0 v1 v2 v3 v4 H locs ls hF
    exact nomatch (show (none : Option Int32) = some r from hF)
  | succ n ih =>
    intro v0 v1 v2 v3 v4 H locs ls hF hI hl
    have hF := (f_X6_fitsRows_3_s k65 S n v0 v1 v2 v3 v4).symm.trans hF
    refine lv_iload hx hb dX6_fitsRows_3 (lv_at hl 4 rfl) ?_
    refine lv_aload_n hx hb dX6_fitsRows_5 rfl (lv_at hl 0 rfl) ?_
    refine m_get C fd_X6_241 hI hF dX6_fitsRows_6 (fun r1 hF => ?_)
    refine m_icmp_ge C (tgt := 65) hF dX6_fitsRows_9 (by decide) (fun hF => ?_) (fun hF => ?_)
    · exact hk65  _ _ _ hF hI (lv_sub hl [] rfl)
    · refine lv_iload_n hx hb dX6_fitsRows_12 rfl (lv_at hl 2 rfl) ?_
      refine lv_iload_n hx hb dX6_fitsRows_13 rfl (lv_at hl 3 rfl) ?_
      refine lv_aload_n hx hb dX6_fitsRows_14 rfl (lv_at hl 0 rfl) ?_
      refine lv_iload hx hb dX6_fitsRows_15 (lv_at hl 4 rfl) ?_
      refine lv_iconst (v := 1) hx hb dX6_fitsRows_17 (by decide) ?_
      refine m_callViR C cd_X6_345 ⟨rfl, by decide⟩ hl.1 hI hF (fun _ h => ok_X3_get h) rfl rfl ⟨rfl, rfl, Nat.le_of_ble_eq_true rfl, Nat.le_of_ble_eq_true rfl⟩ ⟨Nat.le_of_ble_eq_true rfl, Nat.le_of_ble_eq_true rfl⟩ (Nat.le_of_ble_eq_true rfl) dX6_fitsRows_18 (fun r2 H locs hF hI => ?_)
      refine m_callSiR C cd_X6_352 hl.1 hI hF (fun _ h => ok_X6_kindReach h) rfl rfl ⟨rfl, rfl, Nat.le_of_ble_eq_true rfl, Nat.le_of_ble_eq_true rfl⟩ ⟨Nat.le_of_ble_eq_true rfl, Nat.le_of_ble_eq_true rfl⟩ (Nat.le_of_ble_eq_true rfl) dX6_fitsRows_21 (fun r3 H locs hF hI => ?_)
      refine lv_aload_n hx hb dX6_fitsRows_24 rfl (lv_at hl 0 rfl) ?_
      refine lv_iload hx hb dX6_fitsRows_25 (lv_at hl 4 rfl) ?_
      refine lv_iconst (v := 2) hx hb dX6_fitsRows_27 (by decide) ?_
      refine m_callViR C cd_X6_345 ⟨rfl, by decide⟩ hl.1 hI hF (fun _ h => ok_X3_get h) rfl rfl ⟨rfl, rfl, Nat.le_of_ble_eq_true rfl, Nat.le_of_ble_eq_true rfl⟩ ⟨Nat.le_of_ble_eq_true rfl, Nat.le_of_ble_eq_true rfl⟩ (Nat.le_of_ble_eq_true rfl) dX6_fitsRows_28 (fun r4 H locs hF hI => ?_)
      refine m_icmp_ne C (tgt := 38) hF dX6_fitsRows_31 (by decide) (fun hF => ?_) (fun hF => ?_)
      · refine lv_iconst (v := 0) hx hb dX6_fitsRows_38 (by decide) ?_
        exact (bl_X6_fitsRows_39 C (k3 := (f_X6_fitsRows_3 k65 S n)) ih) v0 v1 v2 v3 v4 0 _ _ _ hF hI (lv_sub hl [0, 1, 2, 3, 4] rfl)
      · refine lv_iconst (v := 1) hx hb dX6_fitsRows_34 (by decide) ?_
        refine lv_goto (tgt := 39) hx hb dX6_fitsRows_35 (by decide) ?_
        exact (bl_X6_fitsRows_39 C (k3 := (f_X6_fitsRows_3 k65 S n)) ih) v0 v1 v2 v3 v4 1 _ _ _ hF hI (lv_sub hl [0, 1, 2, 3, 4] rfl)
set_option maxRecDepth 100000 in
set_option maxHeartbeats 4000000 in
theorem bl_X6_fitsRows_65 {p : Program} {l : Launch} {e : Env} {s : State} {m : MethodId} {args : Array Value} {below : List Frame} {meth : Method} {c : Code} {E : mE} {n0 : Nat} {r : Int32} {S : mS} (C : mCx p s m args meth c cX6_fitsRows 6 RX6 (some .boolean) E n0) : ∀  (H : Heap) (locs : List Loc) (ls : Array Slot), f_X6_fitsRows_65 S = some r → mIv s E S H locs 0 → lv_has ls 6 [] → W p l e rm_X6_fitsRows s m args below meth c H locs 0 0 (mQi below args s 0 0 n0 E (r, S)) (F0 m 65 ls []) := by
  have hx := C.1
  have hb := C.2.1
  intro H locs ls hF hI hl
  refine lv_iconst (v := 1) hx hb dX6_fitsRows_65 (by decide) ?_
  exact m_iretzR C hI hF dX6_fitsRows_66
set_option maxRecDepth 100000 in
set_option maxHeartbeats 4000000 in
theorem ok_X6_fitsRows {l : Launch} {E : mE} {v0 : Int32} {v1 : Int32} {v2 : Int32} {v3 : Int32} {S : mS} {r : Int32} (hF : f_X6_fitsRows v0 v1 v2 v3 S = some r) : mMi l yX6_fitsRows cX6_fitsRows 6 (some .boolean) rm_X6_fitsRows 0 0 [.ref (mA E.b v0), .int v1, .int v2, .int v3] E S (r, S) := by
  refine m_met_i (by decide) (Nat.le_of_ble_eq_true rfl) (fun p e s m args below meth c ls hin C hI hl => ?_)
  have hx := C.1
  have hb := C.2.1
  have hl : lv_has ls 6 [(0, .ref (mA E.b v0)), (1, .int v1), (2, .int v2), (3, .int v3)] := hl
  generalize s.heap = H at hI ⊢
  generalize ([] : List Loc) = locs at hI ⊢
  refine lv_iconst (v := 0) hx hb dX6_fitsRows_0 (by decide) ?_
  refine lv_istore (lv' := [(4, .int 0), (0, .ref (mA E.b v0)), (1, .int v1), (2, .int v2), (3, .int v3)]) hx hb dX6_fitsRows_1 hl (by decide) rfl (fun ls hl => ?_)
  exact (bl_X6_fitsRows_3 C (k65 := (f_X6_fitsRows_65 S)) (bl_X6_fitsRows_65 C) 1000) v0 v1 v2 v3 0 _ _ _ hF hI (lv_sub hl [1, 2, 3, 4, 0] rfl)
noncomputable def f_X6_fittingKinds_55 (k28 : Int32 → Int32 → Int32 → Int32 → Int32 → Option Int32) (S : mS) (v1 : Int32) (v2 : Int32) (v3 : Int32) (v4 : Int32) (v5 : Int32) : Option Int32 := k28 v1 v2 v3 v4 (v5 + 1)
noncomputable def f_X6_fittingKinds_28 (k61 : Int32 → Option Int32) (S : mS) : Nat → Int32 → Int32 → Int32 → Int32 → Int32 → Option Int32 := fun n => Nat.rec (motive := fun _ => Int32 → Int32 → Int32 → Int32 → Int32 → Option Int32) (fun _ _ _ _ _ => none) (fun _ rec v1 v2 v3 v4 v5 => if 6 ≤ v5 then (k61 v4) else (mCp (f_X6_fitsRows v3 v2 v1 v5 S) (fun r3 => if r3 = 0 then ((f_X6_fittingKinds_55 rec S) v1 v2 v3 v4 v5) else ((f_X6_fittingKinds_55 rec S) v1 v2 v3 (v4 ||| (1 <<< (v5 &&& 31))) v5)))) n
theorem f_X6_fittingKinds_28_s (k61 : Int32 → Option Int32) (S : mS) (n : Nat) (v1 : Int32) (v2 : Int32) (v3 : Int32) (v4 : Int32) (v5 : Int32) : f_X6_fittingKinds_28 k61 S (n + 1) v1 v2 v3 v4 v5 = if 6 ≤ v5 then (k61 v4) else (mCp (f_X6_fitsRows v3 v2 v1 v5 S) (fun r3 => if r3 = 0 then ((f_X6_fittingKinds_55 (f_X6_fittingKinds_28 k61 S n) S) v1 v2 v3 v4 v5) else ((f_X6_fittingKinds_55 (f_X6_fittingKinds_28 k61 S n) S) v1 v2 v3 (v4 ||| (1 <<< (v5 &&& 31))) v5))) := rfl
noncomputable def f_X6_fittingKinds_61 (S : mS) (v4 : Int32) : Option Int32 := some v4
noncomputable def f_X6_fittingKinds_21 (S : mS) (v1 : Int32) (v2 : Int32) (t0 : Int32) : Option Int32 := (f_X6_fittingKinds_28 (f_X6_fittingKinds_61 S) S 1000) v1 v2 t0 0 0
noncomputable def f_X6_fittingKinds (v0 : Int32) (v1 : Int32) (v2 : Int32) (S : mS) : Option Int32 := if v1 = 0 then (mGr 6 0 v0 S (fun r1 => mGr 5 2 r1 S (fun r2 => (f_X6_fittingKinds_21 S) v1 v2 r2))) else (mGr 6 0 v0 S (fun r4 => mGr 5 3 r4 S (fun r5 => (f_X6_fittingKinds_21 S) v1 v2 r5)))
def rm_X6_fittingKinds : Room := { frames := 4, cells := 0, slots := 0, locals := 84 }
set_option maxRecDepth 100000 in
set_option maxHeartbeats 4000000 in
theorem bl_X6_fittingKinds_55 {p : Program} {l : Launch} {e : Env} {s : State} {m : MethodId} {args : Array Value} {below : List Frame} {meth : Method} {c : Code} {E : mE} {n0 : Nat} {r : Int32} {S : mS} (C : mCx p s m args meth c cX6_fittingKinds 6 RX6 (some .int) E n0) {k28 : Int32 → Int32 → Int32 → Int32 → Int32 → Option Int32} (hk28 : ∀ (v1 : Int32) (v2 : Int32) (v3 : Int32) (v4 : Int32) (v5 : Int32) (H : Heap) (locs : List Loc) (ls : Array Slot), k28 v1 v2 v3 v4 v5 = some r → mIv s E S H locs 0 → lv_has ls 6 [(1, .int v1), (2, .int v2), (3, .ref (mA E.b v3)), (4, .int v4), (5, .int v5)] → W p l e rm_X6_fittingKinds s m args below meth c H locs 0 0 (mQi below args s 0 0 n0 E (r, S)) (F0 m 28 ls [])) : ∀  (v1 : Int32) (v2 : Int32) (v3 : Int32) (v4 : Int32) (v5 : Int32) (H : Heap) (locs : List Loc) (ls : Array Slot), f_X6_fittingKinds_55 k28 S v1 v2 v3 v4 v5 = some r → mIv s E S H locs 0 → lv_has ls 6 [(1, .int v1), (2, .int v2), (3, .ref (mA E.b v3)), (4, .int v4), (5, .int v5)] → W p l e rm_X6_fittingKinds s m args below meth c H locs 0 0 (mQi below args s 0 0 n0 E (r, S)) (F0 m 55 ls []) := by
  have hx := C.1
  have hb := C.2.1
  intro v1 v2 v3 v4 v5 H locs ls hF hI hl
  refine lv_iinc (v := v5 + 1) (lv' := [(5, .int (v5 + 1)), (1, .int v1), (2, .int v2), (3, .ref (mA E.b v3)), (4, .int v4)]) hx hb dX6_fittingKinds_55 hl (k := 4) rfl rfl (by decide) rfl (fun ls hl => ?_)
  refine lv_goto (tgt := 28) hx hb dX6_fittingKinds_58 (by decide) ?_
  exact hk28 v1 v2 v3 v4 (v5 + 1) _ _ _ hF hI (lv_sub hl [1, 2, 3, 4, 0] rfl)
set_option maxRecDepth 100000 in
set_option maxHeartbeats 4000000 in
theorem bl_X6_fittingKinds_28 {p : Program} {l : Launch} {e : Env} {s : State} {m : MethodId} {args : Array Value} {below : List Frame} {meth : Method} {c : Code} {E : mE} {n0 : Nat} {r : Int32} {S : mS} (C : mCx p s m args meth c cX6_fittingKinds 6 RX6 (some .int) E n0) {k61 : Int32 → Option Int32} (hk61 : ∀ (v4 : Int32) (H : Heap) (locs : List Loc) (ls : Array Slot), k61 v4 = some r → mIv s E S H locs 0 → lv_has ls 6 [(4, .int v4)] → W p l e rm_X6_fittingKinds s m args below meth c H locs 0 0 (mQi below args s 0 0 n0 E (r, S)) (F0 m 61 ls [])) : ∀ (n : Nat)  (v1 : Int32) (v2 : Int32) (v3 : Int32) (v4 : Int32) (v5 : Int32) (H : Heap) (locs : List Loc) (ls : Array Slot), f_X6_fittingKinds_28 k61 S n v1 v2 v3 v4 v5 = some r → mIv s E S H locs 0 → lv_has ls 6 [(1, .int v1), (2, .int v2), (3, .ref (mA E.b v3)), (4, .int v4), (5, .int v5)] → W p l e rm_X6_fittingKinds s m args below meth c H locs 0 0 (mQi below args s 0 0 n0 E (r, S)) (F0 m 28 ls []) := by
  have hx := C.1
  have hb := C.2.1
  intro n
  induction n with
  | zero =>
    intro v1 v2 v3 v4 v5 H locs ls hF
    exact nomatch (show (none : Option Int32) = some r from hF)
  | succ n ih =>
    intro v1 v2 v3 v4 v5 H locs ls hF hI hl
    have hF := (f_X6_fittingKinds_28_s k61 S n v1 v2 v3 v4 v5).symm.trans hF
    refine lv_iload hx hb dX6_fittingKinds_28 (lv_at hl 4 rfl) ?_
    refine lv_bipush (v := 6) hx hb dX6_fittingKinds_30 (by decide) ?_
    refine m_icmp_ge C (tgt := 61) hF dX6_fittingKinds_32 (by decide) (fun hF => ?_) (fun hF => ?_)
    · exact hk61 v4 _ _ _ hF hI (lv_sub hl [3] rfl)
    · refine lv_aload_n hx hb dX6_fittingKinds_35 rfl (lv_at hl 2 rfl) ?_
      refine lv_iload_n hx hb dX6_fittingKinds_36 rfl (lv_at hl 1 rfl) ?_
      refine lv_iload_n hx hb dX6_fittingKinds_37 rfl (lv_at hl 0 rfl) ?_
      refine lv_iload hx hb dX6_fittingKinds_38 (lv_at hl 4 rfl) ?_
      refine m_callSiR C cd_X6_348 hl.1 hI hF (fun _ h => ok_X6_fitsRows h) rfl rfl ⟨rfl, rfl, Nat.le_of_ble_eq_true rfl, Nat.le_of_ble_eq_true rfl⟩ ⟨Nat.le_of_ble_eq_true rfl, Nat.le_of_ble_eq_true rfl⟩ (Nat.le_of_ble_eq_true rfl) dX6_fittingKinds_40 (fun r3 H locs hF hI => ?_)
      refine m_if_eq C (tgt := 55) hF dX6_fittingKinds_43 (by decide) (fun hF => ?_) (fun hF => ?_)
      · exact (bl_X6_fittingKinds_55 C (k28 := (f_X6_fittingKinds_28 k61 S n)) ih) v1 v2 v3 v4 v5 _ _ _ hF hI (lv_sub hl [0, 1, 2, 3, 4] rfl)
      · refine lv_iload hx hb dX6_fittingKinds_46 (lv_at hl 3 rfl) ?_
        refine lv_iconst (v := 1) hx hb dX6_fittingKinds_48 (by decide) ?_
        refine lv_iload hx hb dX6_fittingKinds_49 (lv_at hl 4 rfl) ?_
        refine lv_ishl hx hb dX6_fittingKinds_51 ?_
        refine lv_ior hx hb dX6_fittingKinds_52 ?_
        refine lv_istore (lv' := [(4, .int (v4 ||| (1 <<< (v5 &&& 31)))), (1, .int v1), (2, .int v2), (3, .ref (mA E.b v3)), (5, .int v5)]) hx hb dX6_fittingKinds_53 hl (by decide) rfl (fun ls hl => ?_)
        exact (bl_X6_fittingKinds_55 C (k28 := (f_X6_fittingKinds_28 k61 S n)) ih) v1 v2 v3 (v4 ||| (1 <<< (v5 &&& 31))) v5 _ _ _ hF hI (lv_sub hl [1, 2, 3, 0, 4] rfl)
set_option maxRecDepth 100000 in
set_option maxHeartbeats 4000000 in
theorem bl_X6_fittingKinds_61 {p : Program} {l : Launch} {e : Env} {s : State} {m : MethodId} {args : Array Value} {below : List Frame} {meth : Method} {c : Code} {E : mE} {n0 : Nat} {r : Int32} {S : mS} (C : mCx p s m args meth c cX6_fittingKinds 6 RX6 (some .int) E n0) : ∀  (v4 : Int32) (H : Heap) (locs : List Loc) (ls : Array Slot), f_X6_fittingKinds_61 S v4 = some r → mIv s E S H locs 0 → lv_has ls 6 [(4, .int v4)] → W p l e rm_X6_fittingKinds s m args below meth c H locs 0 0 (mQi below args s 0 0 n0 E (r, S)) (F0 m 61 ls []) := by
  have hx := C.1
  have hb := C.2.1
  intro v4 H locs ls hF hI hl
  refine lv_iload hx hb dX6_fittingKinds_61 (lv_at hl 0 rfl) ?_
  exact m_iretiR C hI hF dX6_fittingKinds_63
set_option maxRecDepth 100000 in
set_option maxHeartbeats 4000000 in
theorem bl_X6_fittingKinds_21 {p : Program} {l : Launch} {e : Env} {s : State} {m : MethodId} {args : Array Value} {below : List Frame} {meth : Method} {c : Code} {E : mE} {n0 : Nat} {r : Int32} {S : mS} (C : mCx p s m args meth c cX6_fittingKinds 6 RX6 (some .int) E n0) : ∀  (v1 : Int32) (v2 : Int32) (t0 : Int32) (H : Heap) (locs : List Loc) (ls : Array Slot), f_X6_fittingKinds_21 S v1 v2 t0 = some r → mIv s E S H locs 0 → lv_has ls 6 [(1, .int v1), (2, .int v2)] → W p l e rm_X6_fittingKinds s m args below meth c H locs 0 0 (mQi below args s 0 0 n0 E (r, S)) (F0 m 21 ls [.ref (mA E.b t0)]) := by
  have hx := C.1
  have hb := C.2.1
  intro v1 v2 t0 H locs ls hF hI hl
  refine lv_astore_n (lv' := [(3, .ref (mA E.b t0)), (1, .int v1), (2, .int v2)]) hx hb dX6_fittingKinds_21 rfl hl (by decide) rfl (fun ls hl => ?_)
  refine lv_iconst (v := 0) hx hb dX6_fittingKinds_22 (by decide) ?_
  refine lv_istore (lv' := [(4, .int 0), (3, .ref (mA E.b t0)), (1, .int v1), (2, .int v2)]) hx hb dX6_fittingKinds_23 hl (by decide) rfl (fun ls hl => ?_)
  refine lv_iconst (v := 0) hx hb dX6_fittingKinds_25 (by decide) ?_
  refine lv_istore (lv' := [(5, .int 0), (4, .int 0), (3, .ref (mA E.b t0)), (1, .int v1), (2, .int v2)]) hx hb dX6_fittingKinds_26 hl (by decide) rfl (fun ls hl => ?_)
  exact (bl_X6_fittingKinds_28 C (k61 := (f_X6_fittingKinds_61 S)) (bl_X6_fittingKinds_61 C) 1000) v1 v2 t0 0 0 _ _ _ hF hI (lv_sub hl [3, 4, 2, 1, 0] rfl)
set_option maxRecDepth 100000 in
set_option maxHeartbeats 4000000 in
theorem ok_X6_fittingKinds {l : Launch} {E : mE} {v0 : Int32} {v1 : Int32} {v2 : Int32} {S : mS} {r : Int32} (hF : f_X6_fittingKinds v0 v1 v2 S = some r) : mMi l yX6_fittingKinds cX6_fittingKinds 6 (some .int) rm_X6_fittingKinds 0 0 [.ref (mA E.b v0), .int v1, .int v2] E S (r, S) := by
  refine m_met_i (by decide) (Nat.le_of_ble_eq_true rfl) (fun p e s m args below meth c ls hin C hI hl => ?_)
  have hx := C.1
  have hb := C.2.1
  have hl : lv_has ls 6 [(0, .ref (mA E.b v0)), (1, .int v1), (2, .int v2)] := hl
  generalize s.heap = H at hI ⊢
  generalize ([] : List Loc) = locs at hI ⊢
  refine lv_iload_n hx hb dX6_fittingKinds_0 rfl (lv_at hl 1 rfl) ?_
  refine m_if_eq C (tgt := 14) hF dX6_fittingKinds_1 (by decide) (fun hF => ?_) (fun hF => ?_)
  · refine lv_aload_n hx hb dX6_fittingKinds_14 rfl (lv_at hl 0 rfl) ?_
    refine m_getR C fd_X6_12 hI hF dX6_fittingKinds_15 (fun r1 hF => ?_)
    refine m_getR C fd_X6_235 hI hF dX6_fittingKinds_18 (fun r2 hF => ?_)
    exact (bl_X6_fittingKinds_21 C) v1 v2 r2 _ _ _ hF hI (lv_sub hl [1, 2] rfl)
  · refine lv_aload_n hx hb dX6_fittingKinds_4 rfl (lv_at hl 0 rfl) ?_
    refine m_getR C fd_X6_12 hI hF dX6_fittingKinds_5 (fun r4 hF => ?_)
    refine m_getR C fd_X6_238 hI hF dX6_fittingKinds_8 (fun r5 hF => ?_)
    refine lv_goto (tgt := 21) hx hb dX6_fittingKinds_11 (by decide) ?_
    exact (bl_X6_fittingKinds_21 C) v1 v2 r5 _ _ _ hF hI (lv_sub hl [1, 2] rfl)
noncomputable def f_X6_is_29 (t0 : Int32) (S : mS) : Option (Int32 × mS) := some (t0, S)
noncomputable def f_X6_is (v0 : Int32) (v1 : Int32) (S : mS) : Option (Int32 × mS) := mGr 6 0 v0 S (fun r1 => mGr 5 0 r1 S (fun r2 => mRc 1 r2 S (mCp (f_X1_hasWhistle r2 v1 S) (fun r3 => if r3 = 0 then (mRc 6 v0 S (mC (f_X6_refuseBad v0 (-2) S) (fun r4 S5 => (f_X6_is_29) r4 S5))) else (mRc 6 v0 S (mCp (f_X6_fittingKinds v0 0 v1 S) (fun r6 => (f_X6_is_29) r6 S)))))))
def rm_X6_is : Room := { frames := 5, cells := 0, slots := 0, locals := 109 }
set_option maxRecDepth 100000 in
set_option maxHeartbeats 4000000 in
theorem bl_X6_is_29 {p : Program} {l : Launch} {e : Env} {s : State} {m : MethodId} {args : Array Value} {below : List Frame} {meth : Method} {c : Code} {E : mE} {n0 : Nat} {F : Int32 × mS} (C : mCx p s m args meth c cX6_is 2 RX6 (some .int) E n0) : ∀  (t0 : Int32) (S : mS) (H : Heap) (locs : List Loc) (ls : Array Slot), f_X6_is_29 t0 S = some F → mIv s E S H locs 0 → lv_has ls 2 [] → W p l e rm_X6_is s m args below meth c H locs 0 0 (mQi below args s 0 0 n0 E F) (F0 m 29 ls [.int t0]) := by
  have hx := C.1
  have hb := C.2.1
  intro t0 S H locs ls hF hI hl
  exact m_ireti C hI hF dX6_is_29
set_option maxRecDepth 100000 in
set_option maxHeartbeats 4000000 in
theorem ok_X6_is {l : Launch} {E : mE} {v0 : Int32} {v1 : Int32} {S : mS} {F : Int32 × mS} (hF : f_X6_is v0 v1 S = some F) : mMi l yX6_is cX6_is 2 (some .int) rm_X6_is 0 0 [.ref (mA E.b v0), .int v1] E S F := by
  refine m_met_i (by decide) (Nat.le_of_ble_eq_true rfl) (fun p e s m args below meth c ls hin C hI hl => ?_)
  have hx := C.1
  have hb := C.2.1
  have hl : lv_has ls 2 [(0, .ref (mA E.b v0)), (1, .int v1)] := hl
  generalize s.heap = H at hI ⊢
  generalize ([] : List Loc) = locs at hI ⊢
  refine lv_aload_n hx hb dX6_is_0 rfl (lv_at hl 0 rfl) ?_
  refine m_getR C fd_X6_12 hI hF dX6_is_1 (fun r1 hF => ?_)
  refine m_getR C fd_X6_76 hI hF dX6_is_4 (fun r2 hF => ?_)
  refine lv_iload_n hx hb dX6_is_7 rfl (lv_at hl 1 rfl) ?_
  refine m_callViR C cd_X6_134 ⟨rfl, by decide⟩ hl.1 hI hF (fun _ h => ok_X1_hasWhistle h) rfl rfl ⟨rfl, rfl, Nat.le_of_ble_eq_true rfl, Nat.le_of_ble_eq_true rfl⟩ ⟨Nat.le_of_ble_eq_true rfl, Nat.le_of_ble_eq_true rfl⟩ (Nat.le_of_ble_eq_true rfl) dX6_is_8 (fun r3 H locs hF hI => ?_)
  refine m_if_eq C (tgt := 23) hF dX6_is_11 (by decide) (fun hF => ?_) (fun hF => ?_)
  · refine lv_aload_n hx hb dX6_is_23 rfl (lv_at hl 0 rfl) ?_
    refine lv_bipush (v := (-2)) hx hb dX6_is_24 (by decide) ?_
    refine m_callVi C cd_X6_72 ⟨rfl, by decide⟩ hl.1 hI hF (fun _ h => ok_X6_refuseBad h) rfl rfl ⟨rfl, rfl, Nat.le_of_ble_eq_true rfl, Nat.le_of_ble_eq_true rfl⟩ ⟨Nat.le_of_ble_eq_true rfl, Nat.le_of_ble_eq_true rfl⟩ (Nat.le_of_ble_eq_true rfl) dX6_is_26 (fun r4 S5 H locs hF hI => ?_)
    exact (bl_X6_is_29 C) r4 S5 _ _ _ hF hI (lv_sub hl [] rfl)
  · refine lv_aload_n hx hb dX6_is_14 rfl (lv_at hl 0 rfl) ?_
    refine lv_iconst (v := 0) hx hb dX6_is_15 (by decide) ?_
    refine lv_iload_n hx hb dX6_is_16 rfl (lv_at hl 1 rfl) ?_
    refine m_callViR C cd_X6_244 ⟨rfl, by decide⟩ hl.1 hI hF (fun _ h => ok_X6_fittingKinds h) rfl rfl ⟨rfl, rfl, Nat.le_of_ble_eq_true rfl, Nat.le_of_ble_eq_true rfl⟩ ⟨Nat.le_of_ble_eq_true rfl, Nat.le_of_ble_eq_true rfl⟩ (Nat.le_of_ble_eq_true rfl) dX6_is_17 (fun r6 H locs hF hI => ?_)
    refine lv_goto (tgt := 29) hx hb dX6_is_20 (by decide) ?_
    exact (bl_X6_is_29 C) r6 S _ _ _ hF hI (lv_sub hl [] rfl)
noncomputable def f_X6_mostKindsAlike_39 (k6 : Int32 → Int32 → Int32 → Int32 → Int32 → Int32 → mS → Option (Int32 × mS)) (v0 : Int32) (v1 : Int32) (v2 : Int32) (v3 : Int32) (v4 : Int32) (v5 : Int32) (S : mS) : Option (Int32 × mS) := k6 v0 v1 v2 v3 v4 (v5 + 1) S
noncomputable def f_X6_mostKindsAlike_6 (k45 : Int32 → Int32 → mS → Option (Int32 × mS)) : Nat → Int32 → Int32 → Int32 → Int32 → Int32 → Int32 → mS → Option (Int32 × mS) := fun n => Nat.rec (motive := fun _ => Int32 → Int32 → Int32 → Int32 → Int32 → Int32 → mS → Option (Int32 × mS)) (fun _ _ _ _ _ _ _ => none) (fun _ rec v0 v1 v2 v3 v4 v5 S => if 6 ≤ v5 then (k45 v0 v4 S) else (mCp (f_X6_hasBit v2 v5) (fun r1 => if r1 = 0 then ((f_X6_mostKindsAlike_39 rec) v0 v1 v2 v3 v4 v5 S) else (mGr 6 9 v0 S (fun r2 => mCp (f_X6_kindReach v1 v5 v3) (fun r3 => mXs r2 v4 r3 S (fun S4 => (f_X6_mostKindsAlike_39 rec) v0 v1 v2 v3 (v4 + 1) v5 S4))))))) n
theorem f_X6_mostKindsAlike_6_s (k45 : Int32 → Int32 → mS → Option (Int32 × mS)) (n : Nat) (v0 : Int32) (v1 : Int32) (v2 : Int32) (v3 : Int32) (v4 : Int32) (v5 : Int32) (S : mS) : f_X6_mostKindsAlike_6 k45 (n + 1) v0 v1 v2 v3 v4 v5 S = if 6 ≤ v5 then (k45 v0 v4 S) else (mCp (f_X6_hasBit v2 v5) (fun r1 => if r1 = 0 then ((f_X6_mostKindsAlike_39 (f_X6_mostKindsAlike_6 k45 n)) v0 v1 v2 v3 v4 v5 S) else (mGr 6 9 v0 S (fun r2 => mCp (f_X6_kindReach v1 v5 v3) (fun r3 => mXs r2 v4 r3 S (fun S4 => (f_X6_mostKindsAlike_39 (f_X6_mostKindsAlike_6 k45 n)) v0 v1 v2 v3 (v4 + 1) v5 S4)))))) := rfl
noncomputable def f_X6_mostKindsAlike_45 (v0 : Int32) (v4 : Int32) (S : mS) : Option (Int32 × mS) := mGr 6 9 v0 S (fun r5 => mCp (f_X6_mostAlike r5 v4 S) (fun r6 => some (r6, S)))
noncomputable def f_X6_mostKindsAlike (v0 : Int32) (v1 : Int32) (v2 : Int32) (v3 : Int32) (S : mS) : Option (Int32 × mS) := (f_X6_mostKindsAlike_6 (f_X6_mostKindsAlike_45) 1000) v0 v1 v2 v3 0 0 S
def rm_X6_mostKindsAlike : Room := { frames := 3, cells := 0, slots := 0, locals := 59 }
set_option maxRecDepth 100000 in
set_option maxHeartbeats 4000000 in
theorem bl_X6_mostKindsAlike_39 {p : Program} {l : Launch} {e : Env} {s : State} {m : MethodId} {args : Array Value} {below : List Frame} {meth : Method} {c : Code} {E : mE} {n0 : Nat} {F : Int32 × mS} (C : mCx p s m args meth c cX6_mostKindsAlike 6 RX6 (some .int) E n0) {k6 : Int32 → Int32 → Int32 → Int32 → Int32 → Int32 → mS → Option (Int32 × mS)} (hk6 : ∀ (v0 : Int32) (v1 : Int32) (v2 : Int32) (v3 : Int32) (v4 : Int32) (v5 : Int32) (S : mS) (H : Heap) (locs : List Loc) (ls : Array Slot), k6 v0 v1 v2 v3 v4 v5 S = some F → mIv s E S H locs 0 → lv_has ls 6 [(0, .ref (mA E.b v0)), (1, .int v1), (2, .int v2), (3, .int v3), (4, .int v4), (5, .int v5)] → W p l e rm_X6_mostKindsAlike s m args below meth c H locs 0 0 (mQi below args s 0 0 n0 E F) (F0 m 6 ls [])) : ∀  (v0 : Int32) (v1 : Int32) (v2 : Int32) (v3 : Int32) (v4 : Int32) (v5 : Int32) (S : mS) (H : Heap) (locs : List Loc) (ls : Array Slot), f_X6_mostKindsAlike_39 k6 v0 v1 v2 v3 v4 v5 S = some F → mIv s E S H locs 0 → lv_has ls 6 [(0, .ref (mA E.b v0)), (1, .int v1), (2, .int v2), (3, .int v3), (4, .int v4), (5, .int v5)] → W p l e rm_X6_mostKindsAlike s m args below meth c H locs 0 0 (mQi below args s 0 0 n0 E F) (F0 m 39 ls []) := by
  have hx := C.1
  have hb := C.2.1
  intro v0 v1 v2 v3 v4 v5 S H locs ls hF hI hl
  refine lv_iinc (v := v5 + 1) (lv' := [(5, .int (v5 + 1)), (0, .ref (mA E.b v0)), (1, .int v1), (2, .int v2), (3, .int v3), (4, .int v4)]) hx hb dX6_mostKindsAlike_39 hl (k := 5) rfl rfl (by decide) rfl (fun ls hl => ?_)
  refine lv_goto (tgt := 6) hx hb dX6_mostKindsAlike_42 (by decide) ?_
  exact hk6 v0 v1 v2 v3 v4 (v5 + 1) S _ _ _ hF hI (lv_sub hl [1, 2, 3, 4, 5, 0] rfl)
set_option maxRecDepth 100000 in
set_option maxHeartbeats 4000000 in
theorem bl_X6_mostKindsAlike_6 {p : Program} {l : Launch} {e : Env} {s : State} {m : MethodId} {args : Array Value} {below : List Frame} {meth : Method} {c : Code} {E : mE} {n0 : Nat} {F : Int32 × mS} (C : mCx p s m args meth c cX6_mostKindsAlike 6 RX6 (some .int) E n0) {k45 : Int32 → Int32 → mS → Option (Int32 × mS)} (hk45 : ∀ (v0 : Int32) (v4 : Int32) (S : mS) (H : Heap) (locs : List Loc) (ls : Array Slot), k45 v0 v4 S = some F → mIv s E S H locs 0 → lv_has ls 6 [(0, .ref (mA E.b v0)), (4, .int v4)] → W p l e rm_X6_mostKindsAlike s m args below meth c H locs 0 0 (mQi below args s 0 0 n0 E F) (F0 m 45 ls [])) : ∀ (n : Nat)  (v0 : Int32) (v1 : Int32) (v2 : Int32) (v3 : Int32) (v4 : Int32) (v5 : Int32) (S : mS) (H : Heap) (locs : List Loc) (ls : Array Slot), f_X6_mostKindsAlike_6 k45 n v0 v1 v2 v3 v4 v5 S = some F → mIv s E S H locs 0 → lv_has ls 6 [(0, .ref (mA E.b v0)), (1, .int v1), (2, .int v2), (3, .int v3), (4, .int v4), (5, .int v5)] → W p l e rm_X6_mostKindsAlike s m args below meth c H locs 0 0 (mQi below args s 0 0 n0 E F) (F0 m 6 ls []) := by
  have hx := C.1
  have hb := C.2.1
  intro n
  induction n with
  | zero =>
    intro v0 v1 v2 v3 v4 v5 S H locs ls hF
    exact nomatch (show (none : Option (Int32 × mS)) = some F from hF)
  | succ n ih =>
    intro v0 v1 v2 v3 v4 v5 S H locs ls hF hI hl
    have hF := (f_X6_mostKindsAlike_6_s k45 n v0 v1 v2 v3 v4 v5 S).symm.trans hF
    refine lv_iload hx hb dX6_mostKindsAlike_6 (lv_at hl 5 rfl) ?_
    refine lv_bipush (v := 6) hx hb dX6_mostKindsAlike_8 (by decide) ?_
    refine m_icmp_ge C (tgt := 45) hF dX6_mostKindsAlike_10 (by decide) (fun hF => ?_) (fun hF => ?_)
    · exact hk45 v0 v4 S _ _ _ hF hI (lv_sub hl [0, 4] rfl)
    · refine lv_iload_n hx hb dX6_mostKindsAlike_13 rfl (lv_at hl 2 rfl) ?_
      refine lv_iload hx hb dX6_mostKindsAlike_14 (lv_at hl 5 rfl) ?_
      refine m_callSiR C cd_X6_228 hl.1 hI hF (fun _ h => ok_X6_hasBit h) rfl rfl ⟨rfl, rfl, Nat.le_of_ble_eq_true rfl, Nat.le_of_ble_eq_true rfl⟩ ⟨Nat.le_of_ble_eq_true rfl, Nat.le_of_ble_eq_true rfl⟩ (Nat.le_of_ble_eq_true rfl) dX6_mostKindsAlike_16 (fun r1 H locs hF hI => ?_)
      refine m_if_eq C (tgt := 39) hF dX6_mostKindsAlike_19 (by decide) (fun hF => ?_) (fun hF => ?_)
      · exact (bl_X6_mostKindsAlike_39 C (k6 := (f_X6_mostKindsAlike_6 k45 n)) ih) v0 v1 v2 v3 v4 v5 S _ _ _ hF hI (lv_sub hl [0, 1, 2, 3, 4, 5] rfl)
      · refine lv_aload_n hx hb dX6_mostKindsAlike_22 rfl (lv_at hl 0 rfl) ?_
        refine m_getR C fd_X6_54 hI hF dX6_mostKindsAlike_23 (fun r2 hF => ?_)
        refine lv_iload hx hb dX6_mostKindsAlike_26 (lv_at hl 4 rfl) ?_
        refine lv_iload_n hx hb dX6_mostKindsAlike_28 rfl (lv_at hl 1 rfl) ?_
        refine lv_iload hx hb dX6_mostKindsAlike_29 (lv_at hl 5 rfl) ?_
        refine lv_iload_n hx hb dX6_mostKindsAlike_31 rfl (lv_at hl 3 rfl) ?_
        refine m_callSiR C cd_X6_352 hl.1 hI hF (fun _ h => ok_X6_kindReach h) rfl rfl ⟨rfl, rfl, Nat.le_of_ble_eq_true rfl, Nat.le_of_ble_eq_true rfl⟩ ⟨Nat.le_of_ble_eq_true rfl, Nat.le_of_ble_eq_true rfl⟩ (Nat.le_of_ble_eq_true rfl) dX6_mostKindsAlike_32 (fun r3 H locs hF hI => ?_)
        refine m_iast C hI hF dX6_mostKindsAlike_35 (fun S4 H locs hF hI => ?_)
        refine lv_iinc (v := v4 + 1) (lv' := [(4, .int (v4 + 1)), (0, .ref (mA E.b v0)), (1, .int v1), (2, .int v2), (3, .int v3), (5, .int v5)]) hx hb dX6_mostKindsAlike_36 hl (k := 4) rfl rfl (by decide) rfl (fun ls hl => ?_)
        exact (bl_X6_mostKindsAlike_39 C (k6 := (f_X6_mostKindsAlike_6 k45 n)) ih) v0 v1 v2 v3 (v4 + 1) v5 S4 _ _ _ hF hI (lv_sub hl [1, 2, 3, 4, 0, 5] rfl)
set_option maxRecDepth 100000 in
set_option maxHeartbeats 4000000 in
theorem bl_X6_mostKindsAlike_45 {p : Program} {l : Launch} {e : Env} {s : State} {m : MethodId} {args : Array Value} {below : List Frame} {meth : Method} {c : Code} {E : mE} {n0 : Nat} {F : Int32 × mS} (C : mCx p s m args meth c cX6_mostKindsAlike 6 RX6 (some .int) E n0) : ∀  (v0 : Int32) (v4 : Int32) (S : mS) (H : Heap) (locs : List Loc) (ls : Array Slot), f_X6_mostKindsAlike_45 v0 v4 S = some F → mIv s E S H locs 0 → lv_has ls 6 [(0, .ref (mA E.b v0)), (4, .int v4)] → W p l e rm_X6_mostKindsAlike s m args below meth c H locs 0 0 (mQi below args s 0 0 n0 E F) (F0 m 45 ls []) := by
  have hx := C.1
  have hb := C.2.1
  intro v0 v4 S H locs ls hF hI hl
  refine lv_aload_n hx hb dX6_mostKindsAlike_45 rfl (lv_at hl 0 rfl) ?_
  refine m_getR C fd_X6_54 hI hF dX6_mostKindsAlike_46 (fun r5 hF => ?_)
  refine lv_iload hx hb dX6_mostKindsAlike_49 (lv_at hl 1 rfl) ?_
  refine m_callSiR C cd_X6_355 hl.1 hI hF (fun _ h => ok_X6_mostAlike h) rfl rfl ⟨rfl, rfl, Nat.le_of_ble_eq_true rfl, Nat.le_of_ble_eq_true rfl⟩ ⟨Nat.le_of_ble_eq_true rfl, Nat.le_of_ble_eq_true rfl⟩ (Nat.le_of_ble_eq_true rfl) dX6_mostKindsAlike_51 (fun r6 H locs hF hI => ?_)
  exact m_ireti C hI hF dX6_mostKindsAlike_54
set_option maxRecDepth 100000 in
set_option maxHeartbeats 4000000 in
theorem ok_X6_mostKindsAlike {l : Launch} {E : mE} {v0 : Int32} {v1 : Int32} {v2 : Int32} {v3 : Int32} {S : mS} {F : Int32 × mS} (hF : f_X6_mostKindsAlike v0 v1 v2 v3 S = some F) : mMi l yX6_mostKindsAlike cX6_mostKindsAlike 6 (some .int) rm_X6_mostKindsAlike 0 0 [.ref (mA E.b v0), .int v1, .int v2, .int v3] E S F := by
  refine m_met_i (by decide) (Nat.le_of_ble_eq_true rfl) (fun p e s m args below meth c ls hin C hI hl => ?_)
  have hx := C.1
  have hb := C.2.1
  have hl : lv_has ls 6 [(0, .ref (mA E.b v0)), (1, .int v1), (2, .int v2), (3, .int v3)] := hl
  generalize s.heap = H at hI ⊢
  generalize ([] : List Loc) = locs at hI ⊢
  refine lv_iconst (v := 0) hx hb dX6_mostKindsAlike_0 (by decide) ?_
  refine lv_istore (lv' := [(4, .int 0), (0, .ref (mA E.b v0)), (1, .int v1), (2, .int v2), (3, .int v3)]) hx hb dX6_mostKindsAlike_1 hl (by decide) rfl (fun ls hl => ?_)
  refine lv_iconst (v := 0) hx hb dX6_mostKindsAlike_3 (by decide) ?_
  refine lv_istore (lv' := [(5, .int 0), (4, .int 0), (0, .ref (mA E.b v0)), (1, .int v1), (2, .int v2), (3, .int v3)]) hx hb dX6_mostKindsAlike_4 hl (by decide) rfl (fun ls hl => ?_)
  exact (bl_X6_mostKindsAlike_6 C (k45 := (f_X6_mostKindsAlike_45)) (bl_X6_mostKindsAlike_45 C) 1000) v0 v1 v2 v3 0 0 S _ _ _ hF hI (lv_sub hl [2, 3, 4, 5, 1, 0] rfl)
noncomputable def f_X6_partingKindsBest_20 (k48 : Int32 → Int32 → mS → Option (Int32 × mS)) : Nat → Int32 → Int32 → Int32 → Int32 → Int32 → mS → Option (Int32 × mS) := fun n => Nat.rec (motive := fun _ => Int32 → Int32 → Int32 → Int32 → Int32 → mS → Option (Int32 × mS)) (fun _ _ _ _ _ _ => none) (fun _ rec v0 v1 v2 v4 v5 S => if v4 ≤ v5 then (k48 v0 v4 S) else (mGr 6 10 v0 S (fun r3 => mRc 6 v0 S (mC (f_X6_mostKindsAlike v0 v1 v2 v5 S) (fun r4 S5 => mXs r3 v5 r4 S5 (fun S6 => rec v0 v1 v2 v4 (v5 + 1) S6)))))) n
theorem f_X6_partingKindsBest_20_s (k48 : Int32 → Int32 → mS → Option (Int32 × mS)) (n : Nat) (v0 : Int32) (v1 : Int32) (v2 : Int32) (v4 : Int32) (v5 : Int32) (S : mS) : f_X6_partingKindsBest_20 k48 (n + 1) v0 v1 v2 v4 v5 S = if v4 ≤ v5 then (k48 v0 v4 S) else (mGr 6 10 v0 S (fun r3 => mRc 6 v0 S (mC (f_X6_mostKindsAlike v0 v1 v2 v5 S) (fun r4 S5 => mXs r3 v5 r4 S5 (fun S6 => (f_X6_partingKindsBest_20 k48 n) v0 v1 v2 v4 (v5 + 1) S6))))) := rfl
noncomputable def f_X6_partingKindsBest_48 (v0 : Int32) (v4 : Int32) (S : mS) : Option (Int32 × mS) := mGr 6 10 v0 S (fun r7 => mCp (f_X6_firstLeast r7 v4 S) (fun r8 => some (r8, S)))
noncomputable def f_X6_partingKindsBest (v0 : Int32) (v1 : Int32) (v2 : Int32) (v3 : Int32) (S : mS) : Option (Int32 × mS) := if v2 = 0 then (some ((-1), S)) else (mGr 6 10 v0 S (fun r1 => mLe 8 r1 S (fun r2 => (f_X6_partingKindsBest_20 (f_X6_partingKindsBest_48) 1000) v0 v1 v2 (mMin v3 r2) 0 S)))
def rm_X6_partingKindsBest : Room := { frames := 4, cells := 0, slots := 0, locals := 84 }
set_option maxRecDepth 100000 in
set_option maxHeartbeats 4000000 in
theorem bl_X6_partingKindsBest_20 {p : Program} {l : Launch} {e : Env} {s : State} {m : MethodId} {args : Array Value} {below : List Frame} {meth : Method} {c : Code} {E : mE} {n0 : Nat} {F : Int32 × mS} (C : mCx p s m args meth c cX6_partingKindsBest 6 RX6 (some .int) E n0) {k48 : Int32 → Int32 → mS → Option (Int32 × mS)} (hk48 : ∀ (v0 : Int32) (v4 : Int32) (S : mS) (H : Heap) (locs : List Loc) (ls : Array Slot), k48 v0 v4 S = some F → mIv s E S H locs 0 → lv_has ls 6 [(0, .ref (mA E.b v0)), (4, .int v4)] → W p l e rm_X6_partingKindsBest s m args below meth c H locs 0 0 (mQi below args s 0 0 n0 E F) (F0 m 48 ls [])) : ∀ (n : Nat)  (v0 : Int32) (v1 : Int32) (v2 : Int32) (v4 : Int32) (v5 : Int32) (S : mS) (H : Heap) (locs : List Loc) (ls : Array Slot), f_X6_partingKindsBest_20 k48 n v0 v1 v2 v4 v5 S = some F → mIv s E S H locs 0 → lv_has ls 6 [(0, .ref (mA E.b v0)), (1, .int v1), (2, .int v2), (4, .int v4), (5, .int v5)] → W p l e rm_X6_partingKindsBest s m args below meth c H locs 0 0 (mQi below args s 0 0 n0 E F) (F0 m 20 ls []) := by
  have hx := C.1
  have hb := C.2.1
  intro n
  induction n with
  | zero =>
    intro v0 v1 v2 v4 v5 S H locs ls hF
    exact nomatch (show (none : Option (Int32 × mS)) = some F from hF)
  | succ n ih =>
    intro v0 v1 v2 v4 v5 S H locs ls hF hI hl
    have hF := (f_X6_partingKindsBest_20_s k48 n v0 v1 v2 v4 v5 S).symm.trans hF
    refine lv_iload hx hb dX6_partingKindsBest_20 (lv_at hl 4 rfl) ?_
    refine lv_iload hx hb dX6_partingKindsBest_22 (lv_at hl 3 rfl) ?_
    refine m_icmp_ge C (tgt := 48) hF dX6_partingKindsBest_24 (by decide) (fun hF => ?_) (fun hF => ?_)
    · exact hk48 v0 v4 S _ _ _ hF hI (lv_sub hl [0, 3] rfl)
    · refine lv_aload_n hx hb dX6_partingKindsBest_27 rfl (lv_at hl 0 rfl) ?_
      refine m_getR C fd_X6_58 hI hF dX6_partingKindsBest_28 (fun r3 hF => ?_)
      refine lv_iload hx hb dX6_partingKindsBest_31 (lv_at hl 4 rfl) ?_
      refine lv_aload_n hx hb dX6_partingKindsBest_33 rfl (lv_at hl 0 rfl) ?_
      refine lv_iload_n hx hb dX6_partingKindsBest_34 rfl (lv_at hl 1 rfl) ?_
      refine lv_iload_n hx hb dX6_partingKindsBest_35 rfl (lv_at hl 2 rfl) ?_
      refine lv_iload hx hb dX6_partingKindsBest_36 (lv_at hl 4 rfl) ?_
      refine m_callVi C cd_X6_358 ⟨rfl, by decide⟩ hl.1 hI hF (fun _ h => ok_X6_mostKindsAlike h) rfl rfl ⟨rfl, rfl, Nat.le_of_ble_eq_true rfl, Nat.le_of_ble_eq_true rfl⟩ ⟨Nat.le_of_ble_eq_true rfl, Nat.le_of_ble_eq_true rfl⟩ (Nat.le_of_ble_eq_true rfl) dX6_partingKindsBest_38 (fun r4 S5 H locs hF hI => ?_)
      refine m_iast C hI hF dX6_partingKindsBest_41 (fun S6 H locs hF hI => ?_)
      refine lv_iinc (v := v5 + 1) (lv' := [(5, .int (v5 + 1)), (0, .ref (mA E.b v0)), (1, .int v1), (2, .int v2), (4, .int v4)]) hx hb dX6_partingKindsBest_42 hl (k := 4) rfl rfl (by decide) rfl (fun ls hl => ?_)
      refine lv_goto (tgt := 20) hx hb dX6_partingKindsBest_45 (by decide) ?_
      exact ih v0 v1 v2 v4 (v5 + 1) S6 _ _ _ hF hI (lv_sub hl [1, 2, 3, 4, 0] rfl)
set_option maxRecDepth 100000 in
set_option maxHeartbeats 4000000 in
theorem bl_X6_partingKindsBest_48 {p : Program} {l : Launch} {e : Env} {s : State} {m : MethodId} {args : Array Value} {below : List Frame} {meth : Method} {c : Code} {E : mE} {n0 : Nat} {F : Int32 × mS} (C : mCx p s m args meth c cX6_partingKindsBest 6 RX6 (some .int) E n0) : ∀  (v0 : Int32) (v4 : Int32) (S : mS) (H : Heap) (locs : List Loc) (ls : Array Slot), f_X6_partingKindsBest_48 v0 v4 S = some F → mIv s E S H locs 0 → lv_has ls 6 [(0, .ref (mA E.b v0)), (4, .int v4)] → W p l e rm_X6_partingKindsBest s m args below meth c H locs 0 0 (mQi below args s 0 0 n0 E F) (F0 m 48 ls []) := by
  have hx := C.1
  have hb := C.2.1
  intro v0 v4 S H locs ls hF hI hl
  refine lv_aload_n hx hb dX6_partingKindsBest_48 rfl (lv_at hl 0 rfl) ?_
  refine m_getR C fd_X6_58 hI hF dX6_partingKindsBest_49 (fun r7 hF => ?_)
  refine lv_iload hx hb dX6_partingKindsBest_52 (lv_at hl 1 rfl) ?_
  refine m_callSiR C cd_X6_201 hl.1 hI hF (fun _ h => ok_X6_firstLeast h) rfl rfl ⟨rfl, rfl, Nat.le_of_ble_eq_true rfl, Nat.le_of_ble_eq_true rfl⟩ ⟨Nat.le_of_ble_eq_true rfl, Nat.le_of_ble_eq_true rfl⟩ (Nat.le_of_ble_eq_true rfl) dX6_partingKindsBest_54 (fun r8 H locs hF hI => ?_)
  exact m_ireti C hI hF dX6_partingKindsBest_57
set_option maxRecDepth 100000 in
set_option maxHeartbeats 4000000 in
theorem ok_X6_partingKindsBest {l : Launch} {E : mE} {v0 : Int32} {v1 : Int32} {v2 : Int32} {v3 : Int32} {S : mS} {F : Int32 × mS} (hF : f_X6_partingKindsBest v0 v1 v2 v3 S = some F) : mMi l yX6_partingKindsBest cX6_partingKindsBest 6 (some .int) rm_X6_partingKindsBest 0 0 [.ref (mA E.b v0), .int v1, .int v2, .int v3] E S F := by
  refine m_met_i (by decide) (Nat.le_of_ble_eq_true rfl) (fun p e s m args below meth c ls hin C hI hl => ?_)
  have hx := C.1
  have hb := C.2.1
  have hl : lv_has ls 6 [(0, .ref (mA E.b v0)), (1, .int v1), (2, .int v2), (3, .int v3)] := hl
  generalize s.heap = H at hI ⊢
  generalize ([] : List Loc) = locs at hI ⊢
  refine lv_iload_n hx hb dX6_partingKindsBest_0 rfl (lv_at hl 2 rfl) ?_
  refine m_if_ne C (tgt := 6) hF dX6_partingKindsBest_1 (by decide) (fun hF => ?_) (fun hF => ?_)
  · refine lv_iload_n hx hb dX6_partingKindsBest_6 rfl (lv_at hl 3 rfl) ?_
    refine lv_aload_n hx hb dX6_partingKindsBest_7 rfl (lv_at hl 0 rfl) ?_
    refine m_getR C fd_X6_58 hI hF dX6_partingKindsBest_8 (fun r1 hF => ?_)
    refine m_alen C hI hF dX6_partingKindsBest_11 (fun r2 hF => ?_)
    refine m_min C mw_X6_150 hl.1 (Nat.le_of_ble_eq_true rfl) (Nat.le_of_ble_eq_true rfl) (Nat.le_of_ble_eq_true rfl) (Nat.le_of_ble_eq_true rfl) dX6_partingKindsBest_12 ?_
    refine lv_istore (lv' := [(4, .int (mMin v3 r2)), (0, .ref (mA E.b v0)), (1, .int v1), (2, .int v2), (3, .int v3)]) hx hb dX6_partingKindsBest_15 hl (by decide) rfl (fun ls hl => ?_)
    refine lv_iconst (v := 0) hx hb dX6_partingKindsBest_17 (by decide) ?_
    refine lv_istore (lv' := [(5, .int 0), (4, .int (mMin v3 r2)), (0, .ref (mA E.b v0)), (1, .int v1), (2, .int v2), (3, .int v3)]) hx hb dX6_partingKindsBest_18 hl (by decide) rfl (fun ls hl => ?_)
    exact (bl_X6_partingKindsBest_20 C (k48 := (f_X6_partingKindsBest_48)) (bl_X6_partingKindsBest_48 C) 1000) v0 v1 v2 (mMin v3 r2) 0 S _ _ _ hF hI (lv_sub hl [2, 3, 4, 1, 0] rfl)
  · refine lv_iconst (v := (-1)) hx hb dX6_partingKindsBest_4 (by decide) ?_
    exact m_ireti C hI hF dX6_partingKindsBest_5
noncomputable def f_X6_look (v0 : Int32) (v1 : Int32) (S : mS) : Option (Int32 × mS) := mGr 6 0 v0 S (fun r1 => mGr 5 0 r1 S (fun r2 => mRc 1 r2 S (mCp (f_X1_hasWhistle r2 v1 S) (fun r3 => if r3 = 0 then (mRc 6 v0 S (mC (f_X6_refuseBad v0 (-2) S) (fun r7 S8 => some (r7, S8)))) else (mRc 6 v0 S (mCp (f_X6_fittingKinds v0 0 v1 S) (fun r4 => mRc 6 v0 S (mC (f_X6_partingKindsBest v0 0 r4 30 S) (fun r5 S6 => some (r5, S6))))))))))
def rm_X6_look : Room := { frames := 5, cells := 0, slots := 0, locals := 109 }
set_option maxRecDepth 100000 in
set_option maxHeartbeats 4000000 in
theorem ok_X6_look {l : Launch} {E : mE} {v0 : Int32} {v1 : Int32} {S : mS} {F : Int32 × mS} (hF : f_X6_look v0 v1 S = some F) : mMi l yX6_look cX6_look 2 (some .int) rm_X6_look 0 0 [.ref (mA E.b v0), .int v1] E S F := by
  refine m_met_i (by decide) (Nat.le_of_ble_eq_true rfl) (fun p e s m args below meth c ls hin C hI hl => ?_)
  have hx := C.1
  have hb := C.2.1
  have hl : lv_has ls 2 [(0, .ref (mA E.b v0)), (1, .int v1)] := hl
  generalize s.heap = H at hI ⊢
  generalize ([] : List Loc) = locs at hI ⊢
  refine lv_aload_n hx hb dX6_look_0 rfl (lv_at hl 0 rfl) ?_
  refine m_getR C fd_X6_12 hI hF dX6_look_1 (fun r1 hF => ?_)
  refine m_getR C fd_X6_76 hI hF dX6_look_4 (fun r2 hF => ?_)
  refine lv_iload_n hx hb dX6_look_7 rfl (lv_at hl 1 rfl) ?_
  refine m_callViR C cd_X6_134 ⟨rfl, by decide⟩ hl.1 hI hF (fun _ h => ok_X1_hasWhistle h) rfl rfl ⟨rfl, rfl, Nat.le_of_ble_eq_true rfl, Nat.le_of_ble_eq_true rfl⟩ ⟨Nat.le_of_ble_eq_true rfl, Nat.le_of_ble_eq_true rfl⟩ (Nat.le_of_ble_eq_true rfl) dX6_look_8 (fun r3 H locs hF hI => ?_)
  refine m_if_ne C (tgt := 21) hF dX6_look_11 (by decide) (fun hF => ?_) (fun hF => ?_)
  · refine lv_aload_n hx hb dX6_look_21 rfl (lv_at hl 0 rfl) ?_
    refine lv_iconst (v := 0) hx hb dX6_look_22 (by decide) ?_
    refine lv_aload_n hx hb dX6_look_23 rfl (lv_at hl 0 rfl) ?_
    refine lv_iconst (v := 0) hx hb dX6_look_24 (by decide) ?_
    refine lv_iload_n hx hb dX6_look_25 rfl (lv_at hl 1 rfl) ?_
    refine m_callViR C cd_X6_244 ⟨rfl, by decide⟩ hl.1 hI hF (fun _ h => ok_X6_fittingKinds h) rfl rfl ⟨rfl, rfl, Nat.le_of_ble_eq_true rfl, Nat.le_of_ble_eq_true rfl⟩ ⟨Nat.le_of_ble_eq_true rfl, Nat.le_of_ble_eq_true rfl⟩ (Nat.le_of_ble_eq_true rfl) dX6_look_26 (fun r4 H locs hF hI => ?_)
    refine lv_bipush (v := 30) hx hb dX6_look_29 (by decide) ?_
    refine m_callVi C cd_X6_248 ⟨rfl, by decide⟩ hl.1 hI hF (fun _ h => ok_X6_partingKindsBest h) rfl rfl ⟨rfl, rfl, Nat.le_of_ble_eq_true rfl, Nat.le_of_ble_eq_true rfl⟩ ⟨Nat.le_of_ble_eq_true rfl, Nat.le_of_ble_eq_true rfl⟩ (Nat.le_of_ble_eq_true rfl) dX6_look_31 (fun r5 S6 H locs hF hI => ?_)
    exact m_ireti C hI hF dX6_look_34
  · refine lv_aload_n hx hb dX6_look_14 rfl (lv_at hl 0 rfl) ?_
    refine lv_bipush (v := (-2)) hx hb dX6_look_15 (by decide) ?_
    refine m_callVi C cd_X6_72 ⟨rfl, by decide⟩ hl.1 hI hF (fun _ h => ok_X6_refuseBad h) rfl rfl ⟨rfl, rfl, Nat.le_of_ble_eq_true rfl, Nat.le_of_ble_eq_true rfl⟩ ⟨Nat.le_of_ble_eq_true rfl, Nat.le_of_ble_eq_true rfl⟩ (Nat.le_of_ble_eq_true rfl) dX6_look_17 (fun r7 S8 H locs hF hI => ?_)
    exact m_ireti C hI hF dX6_look_20
noncomputable def f_X6_kinds_29 (t0 : Int32) (S : mS) : Option (Int32 × mS) := some (t0, S)
noncomputable def f_X6_kinds (v0 : Int32) (v1 : Int32) (S : mS) : Option (Int32 × mS) := mGr 6 0 v0 S (fun r1 => mGr 5 0 r1 S (fun r2 => mRc 1 r2 S (mCp (f_X1_hasSheep r2 v1 S) (fun r3 => if r3 = 0 then (mRc 6 v0 S (mC (f_X6_refuseBad v0 (-2) S) (fun r4 S5 => (f_X6_kinds_29) r4 S5))) else (mRc 6 v0 S (mCp (f_X6_fittingKinds v0 1 v1 S) (fun r6 => (f_X6_kinds_29) r6 S)))))))
def rm_X6_kinds : Room := { frames := 5, cells := 0, slots := 0, locals := 109 }
set_option maxRecDepth 100000 in
set_option maxHeartbeats 4000000 in
theorem bl_X6_kinds_29 {p : Program} {l : Launch} {e : Env} {s : State} {m : MethodId} {args : Array Value} {below : List Frame} {meth : Method} {c : Code} {E : mE} {n0 : Nat} {F : Int32 × mS} (C : mCx p s m args meth c cX6_kinds 2 RX6 (some .int) E n0) : ∀  (t0 : Int32) (S : mS) (H : Heap) (locs : List Loc) (ls : Array Slot), f_X6_kinds_29 t0 S = some F → mIv s E S H locs 0 → lv_has ls 2 [] → W p l e rm_X6_kinds s m args below meth c H locs 0 0 (mQi below args s 0 0 n0 E F) (F0 m 29 ls [.int t0]) := by
  have hx := C.1
  have hb := C.2.1
  intro t0 S H locs ls hF hI hl
  exact m_ireti C hI hF dX6_kinds_29
set_option maxRecDepth 100000 in
set_option maxHeartbeats 4000000 in
theorem ok_X6_kinds {l : Launch} {E : mE} {v0 : Int32} {v1 : Int32} {S : mS} {F : Int32 × mS} (hF : f_X6_kinds v0 v1 S = some F) : mMi l yX6_kinds cX6_kinds 2 (some .int) rm_X6_kinds 0 0 [.ref (mA E.b v0), .int v1] E S F := by
  refine m_met_i (by decide) (Nat.le_of_ble_eq_true rfl) (fun p e s m args below meth c ls hin C hI hl => ?_)
  have hx := C.1
  have hb := C.2.1
  have hl : lv_has ls 2 [(0, .ref (mA E.b v0)), (1, .int v1)] := hl
  generalize s.heap = H at hI ⊢
  generalize ([] : List Loc) = locs at hI ⊢
  refine lv_aload_n hx hb dX6_kinds_0 rfl (lv_at hl 0 rfl) ?_
  refine m_getR C fd_X6_12 hI hF dX6_kinds_1 (fun r1 hF => ?_)
  refine m_getR C fd_X6_76 hI hF dX6_kinds_4 (fun r2 hF => ?_)
  refine lv_iload_n hx hb dX6_kinds_7 rfl (lv_at hl 1 rfl) ?_
  refine m_callViR C cd_X6_167 ⟨rfl, by decide⟩ hl.1 hI hF (fun _ h => ok_X1_hasSheep h) rfl rfl ⟨rfl, rfl, Nat.le_of_ble_eq_true rfl, Nat.le_of_ble_eq_true rfl⟩ ⟨Nat.le_of_ble_eq_true rfl, Nat.le_of_ble_eq_true rfl⟩ (Nat.le_of_ble_eq_true rfl) dX6_kinds_8 (fun r3 H locs hF hI => ?_)
  refine m_if_eq C (tgt := 23) hF dX6_kinds_11 (by decide) (fun hF => ?_) (fun hF => ?_)
  · refine lv_aload_n hx hb dX6_kinds_23 rfl (lv_at hl 0 rfl) ?_
    refine lv_bipush (v := (-2)) hx hb dX6_kinds_24 (by decide) ?_
    refine m_callVi C cd_X6_72 ⟨rfl, by decide⟩ hl.1 hI hF (fun _ h => ok_X6_refuseBad h) rfl rfl ⟨rfl, rfl, Nat.le_of_ble_eq_true rfl, Nat.le_of_ble_eq_true rfl⟩ ⟨Nat.le_of_ble_eq_true rfl, Nat.le_of_ble_eq_true rfl⟩ (Nat.le_of_ble_eq_true rfl) dX6_kinds_26 (fun r4 S5 H locs hF hI => ?_)
    exact (bl_X6_kinds_29 C) r4 S5 _ _ _ hF hI (lv_sub hl [] rfl)
  · refine lv_aload_n hx hb dX6_kinds_14 rfl (lv_at hl 0 rfl) ?_
    refine lv_iconst (v := 1) hx hb dX6_kinds_15 (by decide) ?_
    refine lv_iload_n hx hb dX6_kinds_16 rfl (lv_at hl 1 rfl) ?_
    refine m_callViR C cd_X6_244 ⟨rfl, by decide⟩ hl.1 hI hF (fun _ h => ok_X6_fittingKinds h) rfl rfl ⟨rfl, rfl, Nat.le_of_ble_eq_true rfl, Nat.le_of_ble_eq_true rfl⟩ ⟨Nat.le_of_ble_eq_true rfl, Nat.le_of_ble_eq_true rfl⟩ (Nat.le_of_ble_eq_true rfl) dX6_kinds_17 (fun r6 H locs hF hI => ?_)
    refine lv_goto (tgt := 29) hx hb dX6_kinds_20 (by decide) ?_
    exact (bl_X6_kinds_29 C) r6 S _ _ _ hF hI (lv_sub hl [] rfl)
noncomputable def f_X6_ask (v0 : Int32) (v1 : Int32) (S : mS) : Option (Int32 × mS) := mGr 6 0 v0 S (fun r1 => mGr 5 0 r1 S (fun r2 => mRc 1 r2 S (mCp (f_X1_hasSheep r2 v1 S) (fun r3 => if r3 = 0 then (mRc 6 v0 S (mC (f_X6_refuseBad v0 (-2) S) (fun r7 S8 => some (r7, S8)))) else (mRc 6 v0 S (mCp (f_X6_fittingKinds v0 1 v1 S) (fun r4 => mRc 6 v0 S (mC (f_X6_partingKindsBest v0 1 r4 9 S) (fun r5 S6 => some (r5, S6))))))))))
def rm_X6_ask : Room := { frames := 5, cells := 0, slots := 0, locals := 109 }
set_option maxRecDepth 100000 in
set_option maxHeartbeats 4000000 in
theorem ok_X6_ask {l : Launch} {E : mE} {v0 : Int32} {v1 : Int32} {S : mS} {F : Int32 × mS} (hF : f_X6_ask v0 v1 S = some F) : mMi l yX6_ask cX6_ask 2 (some .int) rm_X6_ask 0 0 [.ref (mA E.b v0), .int v1] E S F := by
  refine m_met_i (by decide) (Nat.le_of_ble_eq_true rfl) (fun p e s m args below meth c ls hin C hI hl => ?_)
  have hx := C.1
  have hb := C.2.1
  have hl : lv_has ls 2 [(0, .ref (mA E.b v0)), (1, .int v1)] := hl
  generalize s.heap = H at hI ⊢
  generalize ([] : List Loc) = locs at hI ⊢
  refine lv_aload_n hx hb dX6_ask_0 rfl (lv_at hl 0 rfl) ?_
  refine m_getR C fd_X6_12 hI hF dX6_ask_1 (fun r1 hF => ?_)
  refine m_getR C fd_X6_76 hI hF dX6_ask_4 (fun r2 hF => ?_)
  refine lv_iload_n hx hb dX6_ask_7 rfl (lv_at hl 1 rfl) ?_
  refine m_callViR C cd_X6_167 ⟨rfl, by decide⟩ hl.1 hI hF (fun _ h => ok_X1_hasSheep h) rfl rfl ⟨rfl, rfl, Nat.le_of_ble_eq_true rfl, Nat.le_of_ble_eq_true rfl⟩ ⟨Nat.le_of_ble_eq_true rfl, Nat.le_of_ble_eq_true rfl⟩ (Nat.le_of_ble_eq_true rfl) dX6_ask_8 (fun r3 H locs hF hI => ?_)
  refine m_if_ne C (tgt := 21) hF dX6_ask_11 (by decide) (fun hF => ?_) (fun hF => ?_)
  · refine lv_aload_n hx hb dX6_ask_21 rfl (lv_at hl 0 rfl) ?_
    refine lv_iconst (v := 1) hx hb dX6_ask_22 (by decide) ?_
    refine lv_aload_n hx hb dX6_ask_23 rfl (lv_at hl 0 rfl) ?_
    refine lv_iconst (v := 1) hx hb dX6_ask_24 (by decide) ?_
    refine lv_iload_n hx hb dX6_ask_25 rfl (lv_at hl 1 rfl) ?_
    refine m_callViR C cd_X6_244 ⟨rfl, by decide⟩ hl.1 hI hF (fun _ h => ok_X6_fittingKinds h) rfl rfl ⟨rfl, rfl, Nat.le_of_ble_eq_true rfl, Nat.le_of_ble_eq_true rfl⟩ ⟨Nat.le_of_ble_eq_true rfl, Nat.le_of_ble_eq_true rfl⟩ (Nat.le_of_ble_eq_true rfl) dX6_ask_26 (fun r4 H locs hF hI => ?_)
    refine lv_bipush (v := 9) hx hb dX6_ask_29 (by decide) ?_
    refine m_callVi C cd_X6_248 ⟨rfl, by decide⟩ hl.1 hI hF (fun _ h => ok_X6_partingKindsBest h) rfl rfl ⟨rfl, rfl, Nat.le_of_ble_eq_true rfl, Nat.le_of_ble_eq_true rfl⟩ ⟨Nat.le_of_ble_eq_true rfl, Nat.le_of_ble_eq_true rfl⟩ (Nat.le_of_ble_eq_true rfl) dX6_ask_31 (fun r5 S6 H locs hF hI => ?_)
    exact m_ireti C hI hF dX6_ask_34
  · refine lv_aload_n hx hb dX6_ask_14 rfl (lv_at hl 0 rfl) ?_
    refine lv_bipush (v := (-2)) hx hb dX6_ask_15 (by decide) ?_
    refine m_callVi C cd_X6_72 ⟨rfl, by decide⟩ hl.1 hI hF (fun _ h => ok_X6_refuseBad h) rfl rfl ⟨rfl, rfl, Nat.le_of_ble_eq_true rfl, Nat.le_of_ble_eq_true rfl⟩ ⟨Nat.le_of_ble_eq_true rfl, Nat.le_of_ble_eq_true rfl⟩ (Nat.le_of_ble_eq_true rfl) dX6_ask_17 (fun r7 S8 H locs hF hI => ?_)
    exact m_ireti C hI hF dX6_ask_20
noncomputable def f_X6_foldByBoth_34 (k93 : Int32 → Int32 → Int32 → Int32 → mS → Option mS) : Nat → Int32 → Int32 → Int32 → Int32 → Int32 → mS → Option mS := fun n => Nat.rec (motive := fun _ => Int32 → Int32 → Int32 → Int32 → Int32 → mS → Option mS) (fun _ _ _ _ _ _ => none) (fun _ rec v0 v1 v2 v3 v4 S => if 5 ≤ v4 then (k93 v0 v1 v2 v3 S) else (mGr 6 7 v0 S (fun r9 => mGr 6 6 v0 S (fun r10 => mRc 1 r9 S (mCv (f_X1_copy r9 r10 S) (fun S12 => mGr 6 7 v0 S12 (fun r13 => mRc 1 r13 S12 (mC (f_X1_call r13 v2 v4 S12) (fun r14 S15 => mGr 6 11 v0 S15 (fun r16 => mGr 6 7 v0 S15 (fun r17 => mGr 6 0 v0 S15 (fun r18 => mG 5 5 r18 S15 (fun r19 => mRc 1 r17 S15 (mCp (f_X1_manyIn r17 r19 S15) (fun r20 => mXs r16 ((5 * v3) + v4) r20 S15 (fun S21 => rec v0 v1 v2 v3 (v4 + 1) S21)))))))))))))))) n
theorem f_X6_foldByBoth_34_s (k93 : Int32 → Int32 → Int32 → Int32 → mS → Option mS) (n : Nat) (v0 : Int32) (v1 : Int32) (v2 : Int32) (v3 : Int32) (v4 : Int32) (S : mS) : f_X6_foldByBoth_34 k93 (n + 1) v0 v1 v2 v3 v4 S = if 5 ≤ v4 then (k93 v0 v1 v2 v3 S) else (mGr 6 7 v0 S (fun r9 => mGr 6 6 v0 S (fun r10 => mRc 1 r9 S (mCv (f_X1_copy r9 r10 S) (fun S12 => mGr 6 7 v0 S12 (fun r13 => mRc 1 r13 S12 (mC (f_X1_call r13 v2 v4 S12) (fun r14 S15 => mGr 6 11 v0 S15 (fun r16 => mGr 6 7 v0 S15 (fun r17 => mGr 6 0 v0 S15 (fun r18 => mG 5 5 r18 S15 (fun r19 => mRc 1 r17 S15 (mCp (f_X1_manyIn r17 r19 S15) (fun r20 => mXs r16 ((5 * v3) + v4) r20 S15 (fun S21 => (f_X6_foldByBoth_34 k93 n) v0 v1 v2 v3 (v4 + 1) S21))))))))))))))) := rfl
noncomputable def f_X6_foldByBoth_93 (k2 : Int32 → Int32 → Int32 → Int32 → mS → Option mS) (v0 : Int32) (v1 : Int32) (v2 : Int32) (v3 : Int32) (S : mS) : Option mS := k2 v0 v1 v2 (v3 + 1) S
noncomputable def f_X6_foldByBoth_2 (k99 : mS → Option mS) : Nat → Int32 → Int32 → Int32 → Int32 → mS → Option mS := fun n => Nat.rec (motive := fun _ => Int32 → Int32 → Int32 → Int32 → mS → Option mS) (fun _ _ _ _ _ => none) (fun _ rec v0 v1 v2 v3 S => if 5 ≤ v3 then (k99 S) else (mGr 6 6 v0 S (fun r1 => mGr 6 0 v0 S (fun r2 => mGr 5 0 r2 S (fun r3 => mRc 1 r1 S (mCv (f_X1_copy r1 r3 S) (fun S5 => mGr 6 6 v0 S5 (fun r6 => mRc 1 r6 S5 (mC (f_X1_call r6 v1 v3 S5) (fun r7 S8 => (f_X6_foldByBoth_34 (f_X6_foldByBoth_93 rec) 1000) v0 v1 v2 v3 0 S8)))))))))) n
theorem f_X6_foldByBoth_2_s (k99 : mS → Option mS) (n : Nat) (v0 : Int32) (v1 : Int32) (v2 : Int32) (v3 : Int32) (S : mS) : f_X6_foldByBoth_2 k99 (n + 1) v0 v1 v2 v3 S = if 5 ≤ v3 then (k99 S) else (mGr 6 6 v0 S (fun r1 => mGr 6 0 v0 S (fun r2 => mGr 5 0 r2 S (fun r3 => mRc 1 r1 S (mCv (f_X1_copy r1 r3 S) (fun S5 => mGr 6 6 v0 S5 (fun r6 => mRc 1 r6 S5 (mC (f_X1_call r6 v1 v3 S5) (fun r7 S8 => (f_X6_foldByBoth_34 (f_X6_foldByBoth_93 (f_X6_foldByBoth_2 k99 n)) 1000) v0 v1 v2 v3 0 S8))))))))) := rfl
noncomputable def f_X6_foldByBoth_99 (S : mS) : Option mS := some S
noncomputable def f_X6_foldByBoth (v0 : Int32) (v1 : Int32) (v2 : Int32) (S : mS) : Option mS := (f_X6_foldByBoth_2 (f_X6_foldByBoth_99) 1000) v0 v1 v2 0 S
def rm_X6_foldByBoth : Room := { frames := 4, cells := 0, slots := 0, locals := 90 }
set_option maxRecDepth 100000 in
set_option maxHeartbeats 4000000 in
theorem bl_X6_foldByBoth_34 {p : Program} {l : Launch} {e : Env} {s : State} {m : MethodId} {args : Array Value} {below : List Frame} {meth : Method} {c : Code} {E : mE} {n0 : Nat} {F : mS} (C : mCx p s m args meth c cX6_foldByBoth 5 RX6 none E n0) {k93 : Int32 → Int32 → Int32 → Int32 → mS → Option mS} (hk93 : ∀ (v0 : Int32) (v1 : Int32) (v2 : Int32) (v3 : Int32) (S : mS) (H : Heap) (locs : List Loc) (ls : Array Slot), k93 v0 v1 v2 v3 S = some F → mIv s E S H locs 0 → lv_has ls 5 [(0, .ref (mA E.b v0)), (1, .int v1), (2, .int v2), (3, .int v3)] → W p l e rm_X6_foldByBoth s m args below meth c H locs 0 0 (mQv below args s 0 0 n0 E F) (F0 m 93 ls [])) : ∀ (n : Nat)  (v0 : Int32) (v1 : Int32) (v2 : Int32) (v3 : Int32) (v4 : Int32) (S : mS) (H : Heap) (locs : List Loc) (ls : Array Slot), f_X6_foldByBoth_34 k93 n v0 v1 v2 v3 v4 S = some F → mIv s E S H locs 0 → lv_has ls 5 [(0, .ref (mA E.b v0)), (1, .int v1), (2, .int v2), (3, .int v3), (4, .int v4)] → W p l e rm_X6_foldByBoth s m args below meth c H locs 0 0 (mQv below args s 0 0 n0 E F) (F0 m 34 ls []) := by
  have hx := C.1
  have hb := C.2.1
  intro n
  induction n with
  | zero =>
    intro v0 v1 v2 v3 v4 S H locs ls hF
    exact nomatch (show (none : Option mS) = some F from hF)
  | succ n ih =>
    intro v0 v1 v2 v3 v4 S H locs ls hF hI hl
    have hF := (f_X6_foldByBoth_34_s k93 n v0 v1 v2 v3 v4 S).symm.trans hF
    refine lv_iload hx hb dX6_foldByBoth_34 (lv_at hl 4 rfl) ?_
    refine lv_iconst (v := 5) hx hb dX6_foldByBoth_36 (by decide) ?_
    refine m_icmp_ge C (tgt := 93) hF dX6_foldByBoth_37 (by decide) (fun hF => ?_) (fun hF => ?_)
    · exact hk93 v0 v1 v2 v3 S _ _ _ hF hI (lv_sub hl [0, 1, 2, 3] rfl)
    · refine lv_aload_n hx hb dX6_foldByBoth_40 rfl (lv_at hl 0 rfl) ?_
      refine m_getR C fd_X6_48 hI hF dX6_foldByBoth_41 (fun r9 hF => ?_)
      refine lv_aload_n hx hb dX6_foldByBoth_44 rfl (lv_at hl 0 rfl) ?_
      refine m_getR C fd_X6_44 hI hF dX6_foldByBoth_45 (fun r10 hF => ?_)
      refine m_callVv C cd_X6_196 ⟨rfl, by decide⟩ hl.1 hI hF (fun _ h => ok_X1_copy h) rfl rfl ⟨rfl, rfl, Nat.le_of_ble_eq_true rfl, Nat.le_of_ble_eq_true rfl⟩ ⟨Nat.le_of_ble_eq_true rfl, Nat.le_of_ble_eq_true rfl⟩ (Nat.le_of_ble_eq_true rfl) dX6_foldByBoth_48 (fun S12 H locs hF hI => ?_)
      refine lv_aload_n hx hb dX6_foldByBoth_51 rfl (lv_at hl 0 rfl) ?_
      refine m_getR C fd_X6_48 hI hF dX6_foldByBoth_52 (fun r13 hF => ?_)
      refine lv_iload_n hx hb dX6_foldByBoth_55 rfl (lv_at hl 2 rfl) ?_
      refine lv_iload hx hb dX6_foldByBoth_56 (lv_at hl 4 rfl) ?_
      refine m_callVi C cd_X6_147 ⟨rfl, by decide⟩ hl.1 hI hF (fun _ h => ok_X1_call h) rfl rfl ⟨rfl, rfl, Nat.le_of_ble_eq_true rfl, Nat.le_of_ble_eq_true rfl⟩ ⟨Nat.le_of_ble_eq_true rfl, Nat.le_of_ble_eq_true rfl⟩ (Nat.le_of_ble_eq_true rfl) dX6_foldByBoth_58 (fun r14 S15 H locs hF hI => ?_)
      refine lv_pop hx hb dX6_foldByBoth_61 rfl ?_
      refine lv_aload_n hx hb dX6_foldByBoth_62 rfl (lv_at hl 0 rfl) ?_
      refine m_getR C fd_X6_61 hI hF dX6_foldByBoth_63 (fun r16 hF => ?_)
      refine lv_iconst (v := 5) hx hb dX6_foldByBoth_66 (by decide) ?_
      refine lv_iload_n hx hb dX6_foldByBoth_67 rfl (lv_at hl 3 rfl) ?_
      refine lv_imul hx hb dX6_foldByBoth_68 ?_
      refine lv_iload hx hb dX6_foldByBoth_69 (lv_at hl 4 rfl) ?_
      refine lv_iadd hx hb dX6_foldByBoth_71 ?_
      refine lv_aload_n hx hb dX6_foldByBoth_72 rfl (lv_at hl 0 rfl) ?_
      refine m_getR C fd_X6_48 hI hF dX6_foldByBoth_73 (fun r17 hF => ?_)
      refine lv_aload_n hx hb dX6_foldByBoth_76 rfl (lv_at hl 0 rfl) ?_
      refine m_getR C fd_X6_12 hI hF dX6_foldByBoth_77 (fun r18 hF => ?_)
      refine m_get C fd_X6_112 hI hF dX6_foldByBoth_80 (fun r19 hF => ?_)
      refine m_callViR C cd_X6_281 ⟨rfl, by decide⟩ hl.1 hI hF (fun _ h => ok_X1_manyIn h) rfl rfl ⟨rfl, rfl, Nat.le_of_ble_eq_true rfl, Nat.le_of_ble_eq_true rfl⟩ ⟨Nat.le_of_ble_eq_true rfl, Nat.le_of_ble_eq_true rfl⟩ (Nat.le_of_ble_eq_true rfl) dX6_foldByBoth_83 (fun r20 H locs hF hI => ?_)
      refine m_iast C hI hF dX6_foldByBoth_86 (fun S21 H locs hF hI => ?_)
      refine lv_iinc (v := v4 + 1) (lv' := [(4, .int (v4 + 1)), (0, .ref (mA E.b v0)), (1, .int v1), (2, .int v2), (3, .int v3)]) hx hb dX6_foldByBoth_87 hl (k := 4) rfl rfl (by decide) rfl (fun ls hl => ?_)
      refine lv_goto (tgt := 34) hx hb dX6_foldByBoth_90 (by decide) ?_
      exact ih v0 v1 v2 v3 (v4 + 1) S21 _ _ _ hF hI (lv_sub hl [1, 2, 3, 4, 0] rfl)
set_option maxRecDepth 100000 in
set_option maxHeartbeats 4000000 in
theorem bl_X6_foldByBoth_93 {p : Program} {l : Launch} {e : Env} {s : State} {m : MethodId} {args : Array Value} {below : List Frame} {meth : Method} {c : Code} {E : mE} {n0 : Nat} {F : mS} (C : mCx p s m args meth c cX6_foldByBoth 5 RX6 none E n0) {k2 : Int32 → Int32 → Int32 → Int32 → mS → Option mS} (hk2 : ∀ (v0 : Int32) (v1 : Int32) (v2 : Int32) (v3 : Int32) (S : mS) (H : Heap) (locs : List Loc) (ls : Array Slot), k2 v0 v1 v2 v3 S = some F → mIv s E S H locs 0 → lv_has ls 5 [(0, .ref (mA E.b v0)), (1, .int v1), (2, .int v2), (3, .int v3)] → W p l e rm_X6_foldByBoth s m args below meth c H locs 0 0 (mQv below args s 0 0 n0 E F) (F0 m 2 ls [])) : ∀  (v0 : Int32) (v1 : Int32) (v2 : Int32) (v3 : Int32) (S : mS) (H : Heap) (locs : List Loc) (ls : Array Slot), f_X6_foldByBoth_93 k2 v0 v1 v2 v3 S = some F → mIv s E S H locs 0 → lv_has ls 5 [(0, .ref (mA E.b v0)), (1, .int v1), (2, .int v2), (3, .int v3)] → W p l e rm_X6_foldByBoth s m args below meth c H locs 0 0 (mQv below args s 0 0 n0 E F) (F0 m 93 ls []) := by
  have hx := C.1
  have hb := C.2.1
  intro v0 v1 v2 v3 S H locs ls hF hI hl
  refine lv_iinc (v := v3 + 1) (lv' := [(3, .int (v3 + 1)), (0, .ref (mA E.b v0)), (1, .int v1), (2, .int v2)]) hx hb dX6_foldByBoth_93 hl (k := 3) rfl rfl (by decide) rfl (fun ls hl => ?_)
  refine lv_goto (tgt := 2) hx hb dX6_foldByBoth_96 (by decide) ?_
  exact hk2 v0 v1 v2 (v3 + 1) S _ _ _ hF hI (lv_sub hl [1, 2, 3, 0] rfl)
set_option maxRecDepth 100000 in
set_option maxHeartbeats 4000000 in
theorem bl_X6_foldByBoth_2 {p : Program} {l : Launch} {e : Env} {s : State} {m : MethodId} {args : Array Value} {below : List Frame} {meth : Method} {c : Code} {E : mE} {n0 : Nat} {F : mS} (C : mCx p s m args meth c cX6_foldByBoth 5 RX6 none E n0) {k99 : mS → Option mS} (hk99 : ∀ (S : mS) (H : Heap) (locs : List Loc) (ls : Array Slot), k99 S = some F → mIv s E S H locs 0 → lv_has ls 5 [] → W p l e rm_X6_foldByBoth s m args below meth c H locs 0 0 (mQv below args s 0 0 n0 E F) (F0 m 99 ls [])) : ∀ (n : Nat)  (v0 : Int32) (v1 : Int32) (v2 : Int32) (v3 : Int32) (S : mS) (H : Heap) (locs : List Loc) (ls : Array Slot), f_X6_foldByBoth_2 k99 n v0 v1 v2 v3 S = some F → mIv s E S H locs 0 → lv_has ls 5 [(0, .ref (mA E.b v0)), (1, .int v1), (2, .int v2), (3, .int v3)] → W p l e rm_X6_foldByBoth s m args below meth c H locs 0 0 (mQv below args s 0 0 n0 E F) (F0 m 2 ls []) := by
  have hx := C.1
  have hb := C.2.1
  intro n
  induction n with
  | zero =>
    intro v0 v1 v2 v3 S H locs ls hF
    exact nomatch (show (none : Option mS) = some F from hF)
  | succ n ih =>
    intro v0 v1 v2 v3 S H locs ls hF hI hl
    have hF := (f_X6_foldByBoth_2_s k99 n v0 v1 v2 v3 S).symm.trans hF
    refine lv_iload_n hx hb dX6_foldByBoth_2 rfl (lv_at hl 3 rfl) ?_
    refine lv_iconst (v := 5) hx hb dX6_foldByBoth_3 (by decide) ?_
    refine m_icmp_ge C (tgt := 99) hF dX6_foldByBoth_4 (by decide) (fun hF => ?_) (fun hF => ?_)
    · exact hk99 S _ _ _ hF hI (lv_sub hl [] rfl)
    · refine lv_aload_n hx hb dX6_foldByBoth_7 rfl (lv_at hl 0 rfl) ?_
      refine m_getR C fd_X6_44 hI hF dX6_foldByBoth_8 (fun r1 hF => ?_)
      refine lv_aload_n hx hb dX6_foldByBoth_11 rfl (lv_at hl 0 rfl) ?_
      refine m_getR C fd_X6_12 hI hF dX6_foldByBoth_12 (fun r2 hF => ?_)
      refine m_getR C fd_X6_76 hI hF dX6_foldByBoth_15 (fun r3 hF => ?_)
      refine m_callVv C cd_X6_196 ⟨rfl, by decide⟩ hl.1 hI hF (fun _ h => ok_X1_copy h) rfl rfl ⟨rfl, rfl, Nat.le_of_ble_eq_true rfl, Nat.le_of_ble_eq_true rfl⟩ ⟨Nat.le_of_ble_eq_true rfl, Nat.le_of_ble_eq_true rfl⟩ (Nat.le_of_ble_eq_true rfl) dX6_foldByBoth_18 (fun S5 H locs hF hI => ?_)
      refine lv_aload_n hx hb dX6_foldByBoth_21 rfl (lv_at hl 0 rfl) ?_
      refine m_getR C fd_X6_44 hI hF dX6_foldByBoth_22 (fun r6 hF => ?_)
      refine lv_iload_n hx hb dX6_foldByBoth_25 rfl (lv_at hl 1 rfl) ?_
      refine lv_iload_n hx hb dX6_foldByBoth_26 rfl (lv_at hl 3 rfl) ?_
      refine m_callVi C cd_X6_147 ⟨rfl, by decide⟩ hl.1 hI hF (fun _ h => ok_X1_call h) rfl rfl ⟨rfl, rfl, Nat.le_of_ble_eq_true rfl, Nat.le_of_ble_eq_true rfl⟩ ⟨Nat.le_of_ble_eq_true rfl, Nat.le_of_ble_eq_true rfl⟩ (Nat.le_of_ble_eq_true rfl) dX6_foldByBoth_27 (fun r7 S8 H locs hF hI => ?_)
      refine lv_pop hx hb dX6_foldByBoth_30 rfl ?_
      refine lv_iconst (v := 0) hx hb dX6_foldByBoth_31 (by decide) ?_
      refine lv_istore (lv' := [(4, .int 0), (0, .ref (mA E.b v0)), (1, .int v1), (2, .int v2), (3, .int v3)]) hx hb dX6_foldByBoth_32 hl (by decide) rfl (fun ls hl => ?_)
      exact (bl_X6_foldByBoth_34 C (k93 := (f_X6_foldByBoth_93 (f_X6_foldByBoth_2 k99 n))) (bl_X6_foldByBoth_93 C (k2 := (f_X6_foldByBoth_2 k99 n)) ih) 1000) v0 v1 v2 v3 0 S8 _ _ _ hF hI (lv_sub hl [1, 2, 3, 4, 0] rfl)
set_option maxRecDepth 100000 in
set_option maxHeartbeats 4000000 in
theorem bl_X6_foldByBoth_99 {p : Program} {l : Launch} {e : Env} {s : State} {m : MethodId} {args : Array Value} {below : List Frame} {meth : Method} {c : Code} {E : mE} {n0 : Nat} {F : mS} (C : mCx p s m args meth c cX6_foldByBoth 5 RX6 none E n0) : ∀  (S : mS) (H : Heap) (locs : List Loc) (ls : Array Slot), f_X6_foldByBoth_99 S = some F → mIv s E S H locs 0 → lv_has ls 5 [] → W p l e rm_X6_foldByBoth s m args below meth c H locs 0 0 (mQv below args s 0 0 n0 E F) (F0 m 99 ls []) := by
  have hx := C.1
  have hb := C.2.1
  intro S H locs ls hF hI hl
  exact m_vret C hI hF dX6_foldByBoth_99
set_option maxRecDepth 100000 in
set_option maxHeartbeats 4000000 in
theorem ok_X6_foldByBoth {l : Launch} {E : mE} {v0 : Int32} {v1 : Int32} {v2 : Int32} {S : mS} {F : mS} (hF : f_X6_foldByBoth v0 v1 v2 S = some F) : mMv l yX6_foldByBoth cX6_foldByBoth 5 none rm_X6_foldByBoth 0 0 [.ref (mA E.b v0), .int v1, .int v2] E S F := by
  refine m_met_v (by decide) (Nat.le_of_ble_eq_true rfl) (fun p e s m args below meth c ls hin C hI hl => ?_)
  have hx := C.1
  have hb := C.2.1
  have hl : lv_has ls 5 [(0, .ref (mA E.b v0)), (1, .int v1), (2, .int v2)] := hl
  generalize s.heap = H at hI ⊢
  generalize ([] : List Loc) = locs at hI ⊢
  refine lv_iconst (v := 0) hx hb dX6_foldByBoth_0 (by decide) ?_
  refine lv_istore_n (lv' := [(3, .int 0), (0, .ref (mA E.b v0)), (1, .int v1), (2, .int v2)]) hx hb dX6_foldByBoth_1 rfl hl (by decide) rfl (fun ls hl => ?_)
  exact (bl_X6_foldByBoth_2 C (k99 := (f_X6_foldByBoth_99)) (bl_X6_foldByBoth_99 C) 1000) v0 v1 v2 0 S _ _ _ hF hI (lv_sub hl [1, 2, 3, 0] rfl)
noncomputable def f_X6_gainOfFirst_20 (S : mS) (t0 : Int32) (t1 : Int32) : Option Int32 := some (t0 - t1)
noncomputable def f_X6_gainOfFirst (v0 : Int32) (v1 : Int32) (v2 : Int32) (S : mS) : Option Int32 := mGr 6 11 v0 S (fun r1 => mX 8 r1 ((5 * v1) + v2) S (fun r2 => if v1 = 4 then ((f_X6_gainOfFirst_20 S) r2 0) else ((f_X6_gainOfFirst_20 S) r2 1)))
def rm_X6_gainOfFirst : Room := { frames := 0, cells := 0, slots := 0, locals := 0 }
set_option maxRecDepth 100000 in
set_option maxHeartbeats 4000000 in
theorem bl_X6_gainOfFirst_20 {p : Program} {l : Launch} {e : Env} {s : State} {m : MethodId} {args : Array Value} {below : List Frame} {meth : Method} {c : Code} {E : mE} {n0 : Nat} {r : Int32} {S : mS} (C : mCx p s m args meth c cX6_gainOfFirst 3 RX6 (some .int) E n0) : ∀  (t0 : Int32) (t1 : Int32) (H : Heap) (locs : List Loc) (ls : Array Slot), f_X6_gainOfFirst_20 S t0 t1 = some r → mIv s E S H locs 0 → lv_has ls 3 [] → W p l e rm_X6_gainOfFirst s m args below meth c H locs 0 0 (mQi below args s 0 0 n0 E (r, S)) (F0 m 20 ls [.int t1, .int t0]) := by
  have hx := C.1
  have hb := C.2.1
  intro t0 t1 H locs ls hF hI hl
  refine lv_isub hx hb dX6_gainOfFirst_20 ?_
  exact m_iretiR C hI hF dX6_gainOfFirst_21
set_option maxRecDepth 100000 in
set_option maxHeartbeats 4000000 in
theorem ok_X6_gainOfFirst {l : Launch} {E : mE} {v0 : Int32} {v1 : Int32} {v2 : Int32} {S : mS} {r : Int32} (hF : f_X6_gainOfFirst v0 v1 v2 S = some r) : mMi l yX6_gainOfFirst cX6_gainOfFirst 3 (some .int) rm_X6_gainOfFirst 0 0 [.ref (mA E.b v0), .int v1, .int v2] E S (r, S) := by
  refine m_met_i (by decide) (Nat.le_of_ble_eq_true rfl) (fun p e s m args below meth c ls hin C hI hl => ?_)
  have hx := C.1
  have hb := C.2.1
  have hl : lv_has ls 3 [(0, .ref (mA E.b v0)), (1, .int v1), (2, .int v2)] := hl
  generalize s.heap = H at hI ⊢
  generalize ([] : List Loc) = locs at hI ⊢
  refine lv_aload_n hx hb dX6_gainOfFirst_0 rfl (lv_at hl 0 rfl) ?_
  refine m_getR C fd_X6_61 hI hF dX6_gainOfFirst_1 (fun r1 hF => ?_)
  refine lv_iconst (v := 5) hx hb dX6_gainOfFirst_4 (by decide) ?_
  refine lv_iload_n hx hb dX6_gainOfFirst_5 rfl (lv_at hl 1 rfl) ?_
  refine lv_imul hx hb dX6_gainOfFirst_6 ?_
  refine lv_iload_n hx hb dX6_gainOfFirst_7 rfl (lv_at hl 2 rfl) ?_
  refine lv_iadd hx hb dX6_gainOfFirst_8 ?_
  refine m_iald C hI hF dX6_gainOfFirst_9 (fun r2 hF => ?_)
  refine lv_iload_n hx hb dX6_gainOfFirst_10 rfl (lv_at hl 1 rfl) ?_
  refine lv_iconst (v := 4) hx hb dX6_gainOfFirst_11 (by decide) ?_
  refine m_icmp_ne C (tgt := 19) hF dX6_gainOfFirst_12 (by decide) (fun hF => ?_) (fun hF => ?_)
  · refine lv_iconst (v := 1) hx hb dX6_gainOfFirst_19 (by decide) ?_
    exact (bl_X6_gainOfFirst_20 C) r2 1 _ _ _ hF hI (lv_sub hl [] rfl)
  · refine lv_iconst (v := 0) hx hb dX6_gainOfFirst_15 (by decide) ?_
    refine lv_goto (tgt := 20) hx hb dX6_gainOfFirst_16 (by decide) ?_
    exact (bl_X6_gainOfFirst_20 C) r2 0 _ _ _ hF hI (lv_sub hl [] rfl)
noncomputable def f_X6_gainOfSecond_31 (S : mS) (t0 : Int32) (t1 : Int32) : Option Int32 := some (t0 - t1)
noncomputable def f_X6_gainOfSecond (v0 : Int32) (v1 : Int32) (v2 : Int32) (S : mS) : Option Int32 := mGr 6 0 v0 S (fun r1 => mGr 5 0 r1 S (fun r2 => mG 1 5 r2 S (fun r3 => mGr 6 11 v0 S (fun r4 => mX 8 r4 ((5 * v1) + v2) S (fun r5 => if v2 = 4 then ((f_X6_gainOfSecond_31 S) (r3 - r5) 0) else ((f_X6_gainOfSecond_31 S) (r3 - r5) 1))))))
def rm_X6_gainOfSecond : Room := { frames := 0, cells := 0, slots := 0, locals := 0 }
set_option maxRecDepth 100000 in
set_option maxHeartbeats 4000000 in
theorem bl_X6_gainOfSecond_31 {p : Program} {l : Launch} {e : Env} {s : State} {m : MethodId} {args : Array Value} {below : List Frame} {meth : Method} {c : Code} {E : mE} {n0 : Nat} {r : Int32} {S : mS} (C : mCx p s m args meth c cX6_gainOfSecond 3 RX6 (some .int) E n0) : ∀  (t0 : Int32) (t1 : Int32) (H : Heap) (locs : List Loc) (ls : Array Slot), f_X6_gainOfSecond_31 S t0 t1 = some r → mIv s E S H locs 0 → lv_has ls 3 [] → W p l e rm_X6_gainOfSecond s m args below meth c H locs 0 0 (mQi below args s 0 0 n0 E (r, S)) (F0 m 31 ls [.int t1, .int t0]) := by
  have hx := C.1
  have hb := C.2.1
  intro t0 t1 H locs ls hF hI hl
  refine lv_isub hx hb dX6_gainOfSecond_31 ?_
  exact m_iretiR C hI hF dX6_gainOfSecond_32
set_option maxRecDepth 100000 in
set_option maxHeartbeats 4000000 in
theorem ok_X6_gainOfSecond {l : Launch} {E : mE} {v0 : Int32} {v1 : Int32} {v2 : Int32} {S : mS} {r : Int32} (hF : f_X6_gainOfSecond v0 v1 v2 S = some r) : mMi l yX6_gainOfSecond cX6_gainOfSecond 3 (some .int) rm_X6_gainOfSecond 0 0 [.ref (mA E.b v0), .int v1, .int v2] E S (r, S) := by
  refine m_met_i (by decide) (Nat.le_of_ble_eq_true rfl) (fun p e s m args below meth c ls hin C hI hl => ?_)
  have hx := C.1
  have hb := C.2.1
  have hl : lv_has ls 3 [(0, .ref (mA E.b v0)), (1, .int v1), (2, .int v2)] := hl
  generalize s.heap = H at hI ⊢
  generalize ([] : List Loc) = locs at hI ⊢
  refine lv_aload_n hx hb dX6_gainOfSecond_0 rfl (lv_at hl 0 rfl) ?_
  refine m_getR C fd_X6_12 hI hF dX6_gainOfSecond_1 (fun r1 hF => ?_)
  refine m_getR C fd_X6_76 hI hF dX6_gainOfSecond_4 (fun r2 hF => ?_)
  refine m_get C fd_X6_79 hI hF dX6_gainOfSecond_7 (fun r3 hF => ?_)
  refine lv_aload_n hx hb dX6_gainOfSecond_10 rfl (lv_at hl 0 rfl) ?_
  refine m_getR C fd_X6_61 hI hF dX6_gainOfSecond_11 (fun r4 hF => ?_)
  refine lv_iconst (v := 5) hx hb dX6_gainOfSecond_14 (by decide) ?_
  refine lv_iload_n hx hb dX6_gainOfSecond_15 rfl (lv_at hl 1 rfl) ?_
  refine lv_imul hx hb dX6_gainOfSecond_16 ?_
  refine lv_iload_n hx hb dX6_gainOfSecond_17 rfl (lv_at hl 2 rfl) ?_
  refine lv_iadd hx hb dX6_gainOfSecond_18 ?_
  refine m_iald C hI hF dX6_gainOfSecond_19 (fun r5 hF => ?_)
  refine lv_isub hx hb dX6_gainOfSecond_20 ?_
  refine lv_iload_n hx hb dX6_gainOfSecond_21 rfl (lv_at hl 2 rfl) ?_
  refine lv_iconst (v := 4) hx hb dX6_gainOfSecond_22 (by decide) ?_
  refine m_icmp_ne C (tgt := 30) hF dX6_gainOfSecond_23 (by decide) (fun hF => ?_) (fun hF => ?_)
  · refine lv_iconst (v := 1) hx hb dX6_gainOfSecond_30 (by decide) ?_
    exact (bl_X6_gainOfSecond_31 C) (r3 - r5) 1 _ _ _ hF hI (lv_sub hl [] rfl)
  · refine lv_iconst (v := 0) hx hb dX6_gainOfSecond_26 (by decide) ?_
    refine lv_goto (tgt := 31) hx hb dX6_gainOfSecond_27 (by decide) ?_
    exact (bl_X6_gainOfSecond_31 C) (r3 - r5) 0 _ _ _ hF hI (lv_sub hl [] rfl)
noncomputable def f_X6_rests_2 (k37 : Option Int32) (k45 : Option Int32) (S : mS) : Nat → Int32 → Int32 → Int32 → Int32 → Option Int32 := fun n => Nat.rec (motive := fun _ => Int32 → Int32 → Int32 → Int32 → Option Int32) (fun _ _ _ _ => none) (fun _ rec v0 v1 v2 v3 => if 5 ≤ v3 then (k45) else (mRc 6 v0 S (mCp (f_X6_gainOfFirst v0 v3 v2 S) (fun r1 => mRc 6 v0 S (mCp (f_X6_gainOfFirst v0 v1 v2 S) (fun r2 => if r2 < r1 then (k37) else (mRc 6 v0 S (mCp (f_X6_gainOfSecond v0 v1 v3 S) (fun r3 => mRc 6 v0 S (mCp (f_X6_gainOfSecond v0 v1 v2 S) (fun r4 => if r3 ≤ r4 then (rec v0 v1 v2 (v3 + 1)) else (k37)))))))))))) n
theorem f_X6_rests_2_s (k37 : Option Int32) (k45 : Option Int32) (S : mS) (n : Nat) (v0 : Int32) (v1 : Int32) (v2 : Int32) (v3 : Int32) : f_X6_rests_2 k37 k45 S (n + 1) v0 v1 v2 v3 = if 5 ≤ v3 then (k45) else (mRc 6 v0 S (mCp (f_X6_gainOfFirst v0 v3 v2 S) (fun r1 => mRc 6 v0 S (mCp (f_X6_gainOfFirst v0 v1 v2 S) (fun r2 => if r2 < r1 then (k37) else (mRc 6 v0 S (mCp (f_X6_gainOfSecond v0 v1 v3 S) (fun r3 => mRc 6 v0 S (mCp (f_X6_gainOfSecond v0 v1 v2 S) (fun r4 => if r3 ≤ r4 then ((f_X6_rests_2 k37 k45 S n) v0 v1 v2 (v3 + 1)) else (k37))))))))))) := rfl
noncomputable def f_X6_rests_37 (S : mS) : Option Int32 := mZ 0 (some 0)
noncomputable def f_X6_rests_45 (S : mS) : Option Int32 := mZ 1 (some 1)
noncomputable def f_X6_rests (v0 : Int32) (v1 : Int32) (v2 : Int32) (S : mS) : Option Int32 := (f_X6_rests_2 (f_X6_rests_37 S) (f_X6_rests_45 S) S 1000) v0 v1 v2 0
def rm_X6_rests : Room := { frames := 1, cells := 0, slots := 0, locals := 22 }
set_option maxRecDepth 100000 in
set_option maxHeartbeats 4000000 in
theorem bl_X6_rests_2 {p : Program} {l : Launch} {e : Env} {s : State} {m : MethodId} {args : Array Value} {below : List Frame} {meth : Method} {c : Code} {E : mE} {n0 : Nat} {r : Int32} {S : mS} (C : mCx p s m args meth c cX6_rests 4 RX6 (some .boolean) E n0) {k37 : Option Int32} {k45 : Option Int32} (hk37 : ∀ (H : Heap) (locs : List Loc) (ls : Array Slot), k37 = some r → mIv s E S H locs 0 → lv_has ls 4 [] → W p l e rm_X6_rests s m args below meth c H locs 0 0 (mQi below args s 0 0 n0 E (r, S)) (F0 m 37 ls [])) (hk45 : ∀ (H : Heap) (locs : List Loc) (ls : Array Slot), k45 = some r → mIv s E S H locs 0 → lv_has ls 4 [] → W p l e rm_X6_rests s m args below meth c H locs 0 0 (mQi below args s 0 0 n0 E (r, S)) (F0 m 45 ls [])) : ∀ (n : Nat)  (v0 : Int32) (v1 : Int32) (v2 : Int32) (v3 : Int32) (H : Heap) (locs : List Loc) (ls : Array Slot), f_X6_rests_2 k37 k45 S n v0 v1 v2 v3 = some r → mIv s E S H locs 0 → lv_has ls 4 [(0, .ref (mA E.b v0)), (1, .int v1), (2, .int v2), (3, .int v3)] → W p l e rm_X6_rests s m args below meth c H locs 0 0 (mQi below args s 0 0 n0 E (r, S)) (F0 m 2 ls []) := by
  have hx := C.1
  have hb := C.2.1
  intro n
  induction n with
  | zero =>
    intro v0 v1 v2 v3 H locs ls hF
    exact nomatch (show (none : Option Int32) = some r from hF)
  | succ n ih =>
    intro v0 v1 v2 v3 H locs ls hF hI hl
    have hF := (f_X6_rests_2_s k37 k45 S n v0 v1 v2 v3).symm.trans hF
    refine lv_iload_n hx hb dX6_rests_2 rfl (lv_at hl 3 rfl) ?_
    refine lv_iconst (v := 5) hx hb dX6_rests_3 (by decide) ?_
    refine m_icmp_ge C (tgt := 45) hF dX6_rests_4 (by decide) (fun hF => ?_) (fun hF => ?_)
    · exact hk45  _ _ _ hF hI (lv_sub hl [] rfl)
    · refine lv_aload_n hx hb dX6_rests_7 rfl (lv_at hl 0 rfl) ?_
      refine lv_iload_n hx hb dX6_rests_8 rfl (lv_at hl 3 rfl) ?_
      refine lv_iload_n hx hb dX6_rests_9 rfl (lv_at hl 2 rfl) ?_
      refine m_callViR C cd_X6_330 ⟨rfl, by decide⟩ hl.1 hI hF (fun _ h => ok_X6_gainOfFirst h) rfl rfl ⟨rfl, rfl, Nat.le_of_ble_eq_true rfl, Nat.le_of_ble_eq_true rfl⟩ ⟨Nat.le_of_ble_eq_true rfl, Nat.le_of_ble_eq_true rfl⟩ (Nat.le_of_ble_eq_true rfl) dX6_rests_10 (fun r1 H locs hF hI => ?_)
      refine lv_aload_n hx hb dX6_rests_13 rfl (lv_at hl 0 rfl) ?_
      refine lv_iload_n hx hb dX6_rests_14 rfl (lv_at hl 1 rfl) ?_
      refine lv_iload_n hx hb dX6_rests_15 rfl (lv_at hl 2 rfl) ?_
      refine m_callViR C cd_X6_330 ⟨rfl, by decide⟩ hl.1 hI hF (fun _ h => ok_X6_gainOfFirst h) rfl rfl ⟨rfl, rfl, Nat.le_of_ble_eq_true rfl, Nat.le_of_ble_eq_true rfl⟩ ⟨Nat.le_of_ble_eq_true rfl, Nat.le_of_ble_eq_true rfl⟩ (Nat.le_of_ble_eq_true rfl) dX6_rests_16 (fun r2 H locs hF hI => ?_)
      refine m_icmp_gt C (tgt := 37) hF dX6_rests_19 (by decide) (fun hF => ?_) (fun hF => ?_)
      · exact hk37  _ _ _ hF hI (lv_sub hl [] rfl)
      · refine lv_aload_n hx hb dX6_rests_22 rfl (lv_at hl 0 rfl) ?_
        refine lv_iload_n hx hb dX6_rests_23 rfl (lv_at hl 1 rfl) ?_
        refine lv_iload_n hx hb dX6_rests_24 rfl (lv_at hl 3 rfl) ?_
        refine m_callViR C cd_X6_333 ⟨rfl, by decide⟩ hl.1 hI hF (fun _ h => ok_X6_gainOfSecond h) rfl rfl ⟨rfl, rfl, Nat.le_of_ble_eq_true rfl, Nat.le_of_ble_eq_true rfl⟩ ⟨Nat.le_of_ble_eq_true rfl, Nat.le_of_ble_eq_true rfl⟩ (Nat.le_of_ble_eq_true rfl) dX6_rests_25 (fun r3 H locs hF hI => ?_)
        refine lv_aload_n hx hb dX6_rests_28 rfl (lv_at hl 0 rfl) ?_
        refine lv_iload_n hx hb dX6_rests_29 rfl (lv_at hl 1 rfl) ?_
        refine lv_iload_n hx hb dX6_rests_30 rfl (lv_at hl 2 rfl) ?_
        refine m_callViR C cd_X6_333 ⟨rfl, by decide⟩ hl.1 hI hF (fun _ h => ok_X6_gainOfSecond h) rfl rfl ⟨rfl, rfl, Nat.le_of_ble_eq_true rfl, Nat.le_of_ble_eq_true rfl⟩ ⟨Nat.le_of_ble_eq_true rfl, Nat.le_of_ble_eq_true rfl⟩ (Nat.le_of_ble_eq_true rfl) dX6_rests_31 (fun r4 H locs hF hI => ?_)
        refine m_icmp_le C (tgt := 39) hF dX6_rests_34 (by decide) (fun hF => ?_) (fun hF => ?_)
        · refine lv_iinc (v := v3 + 1) (lv' := [(3, .int (v3 + 1)), (0, .ref (mA E.b v0)), (1, .int v1), (2, .int v2)]) hx hb dX6_rests_39 hl (k := 3) rfl rfl (by decide) rfl (fun ls hl => ?_)
          refine lv_goto (tgt := 2) hx hb dX6_rests_42 (by decide) ?_
          exact ih v0 v1 v2 (v3 + 1) _ _ _ hF hI (lv_sub hl [1, 2, 3, 0] rfl)
        · exact hk37  _ _ _ hF hI (lv_sub hl [] rfl)
set_option maxRecDepth 100000 in
set_option maxHeartbeats 4000000 in
theorem bl_X6_rests_37 {p : Program} {l : Launch} {e : Env} {s : State} {m : MethodId} {args : Array Value} {below : List Frame} {meth : Method} {c : Code} {E : mE} {n0 : Nat} {r : Int32} {S : mS} (C : mCx p s m args meth c cX6_rests 4 RX6 (some .boolean) E n0) : ∀  (H : Heap) (locs : List Loc) (ls : Array Slot), f_X6_rests_37 S = some r → mIv s E S H locs 0 → lv_has ls 4 [] → W p l e rm_X6_rests s m args below meth c H locs 0 0 (mQi below args s 0 0 n0 E (r, S)) (F0 m 37 ls []) := by
  have hx := C.1
  have hb := C.2.1
  intro H locs ls hF hI hl
  refine lv_iconst (v := 0) hx hb dX6_rests_37 (by decide) ?_
  exact m_iretzR C hI hF dX6_rests_38
set_option maxRecDepth 100000 in
set_option maxHeartbeats 4000000 in
theorem bl_X6_rests_45 {p : Program} {l : Launch} {e : Env} {s : State} {m : MethodId} {args : Array Value} {below : List Frame} {meth : Method} {c : Code} {E : mE} {n0 : Nat} {r : Int32} {S : mS} (C : mCx p s m args meth c cX6_rests 4 RX6 (some .boolean) E n0) : ∀  (H : Heap) (locs : List Loc) (ls : Array Slot), f_X6_rests_45 S = some r → mIv s E S H locs 0 → lv_has ls 4 [] → W p l e rm_X6_rests s m args below meth c H locs 0 0 (mQi below args s 0 0 n0 E (r, S)) (F0 m 45 ls []) := by
  have hx := C.1
  have hb := C.2.1
  intro H locs ls hF hI hl
  refine lv_iconst (v := 1) hx hb dX6_rests_45 (by decide) ?_
  exact m_iretzR C hI hF dX6_rests_46
set_option maxRecDepth 100000 in
set_option maxHeartbeats 4000000 in
theorem ok_X6_rests {l : Launch} {E : mE} {v0 : Int32} {v1 : Int32} {v2 : Int32} {S : mS} {r : Int32} (hF : f_X6_rests v0 v1 v2 S = some r) : mMi l yX6_rests cX6_rests 4 (some .boolean) rm_X6_rests 0 0 [.ref (mA E.b v0), .int v1, .int v2] E S (r, S) := by
  refine m_met_i (by decide) (Nat.le_of_ble_eq_true rfl) (fun p e s m args below meth c ls hin C hI hl => ?_)
  have hx := C.1
  have hb := C.2.1
  have hl : lv_has ls 4 [(0, .ref (mA E.b v0)), (1, .int v1), (2, .int v2)] := hl
  generalize s.heap = H at hI ⊢
  generalize ([] : List Loc) = locs at hI ⊢
  refine lv_iconst (v := 0) hx hb dX6_rests_0 (by decide) ?_
  refine lv_istore_n (lv' := [(3, .int 0), (0, .ref (mA E.b v0)), (1, .int v1), (2, .int v2)]) hx hb dX6_rests_1 rfl hl (by decide) rfl (fun ls hl => ?_)
  exact (bl_X6_rests_2 C (k37 := (f_X6_rests_37 S)) (k45 := (f_X6_rests_45 S)) (bl_X6_rests_37 C) (bl_X6_rests_45 C) 1000) v0 v1 v2 0 _ _ _ hF hI (lv_sub hl [1, 2, 3, 0] rfl)
noncomputable def f_X6_shepherds_38 (v0 : Int32) (S : mS) : Option (Int32 × mS) := mRc 6 v0 S (mC (f_X6_refuseBad v0 (-10) S) (fun r4 S5 => some (r4, S5)))
noncomputable def f_X6_shepherds_101 (k66 : Int32 → Int32 → Int32 → Int32 → Int32 → mS → Option (Int32 × mS)) (v0 : Int32) (v3 : Int32) (v4 : Int32) (v5 : Int32) (v6 : Int32) (S : mS) : Option (Int32 × mS) := k66 v0 v3 v4 v5 (v6 + 1) S
noncomputable def f_X6_shepherds_66 (k107 : Int32 → Int32 → Int32 → Int32 → mS → Option (Int32 × mS)) : Nat → Int32 → Int32 → Int32 → Int32 → Int32 → mS → Option (Int32 × mS) := fun n => Nat.rec (motive := fun _ => Int32 → Int32 → Int32 → Int32 → Int32 → mS → Option (Int32 × mS)) (fun _ _ _ _ _ _ => none) (fun _ rec v0 v3 v4 v5 v6 S => if 5 ≤ v6 then (k107 v0 v3 v4 v5 S) else (mRc 6 v0 S (mCp (f_X6_rests v0 v5 v6 S) (fun r11 => if r11 = 0 then ((f_X6_shepherds_101 rec) v0 v3 v4 v5 v6 S) else (if v4 = v3 then (some ((10 * v5) + v6, S)) else ((f_X6_shepherds_101 rec) v0 v3 (v4 + 1) v5 v6 S)))))) n
theorem f_X6_shepherds_66_s (k107 : Int32 → Int32 → Int32 → Int32 → mS → Option (Int32 × mS)) (n : Nat) (v0 : Int32) (v3 : Int32) (v4 : Int32) (v5 : Int32) (v6 : Int32) (S : mS) : f_X6_shepherds_66 k107 (n + 1) v0 v3 v4 v5 v6 S = if 5 ≤ v6 then (k107 v0 v3 v4 v5 S) else (mRc 6 v0 S (mCp (f_X6_rests v0 v5 v6 S) (fun r11 => if r11 = 0 then ((f_X6_shepherds_101 (f_X6_shepherds_66 k107 n)) v0 v3 v4 v5 v6 S) else (if v4 = v3 then (some ((10 * v5) + v6, S)) else ((f_X6_shepherds_101 (f_X6_shepherds_66 k107 n)) v0 v3 (v4 + 1) v5 v6 S))))) := rfl
noncomputable def f_X6_shepherds_107 (k57 : Int32 → Int32 → Int32 → Int32 → mS → Option (Int32 × mS)) (v0 : Int32) (v3 : Int32) (v4 : Int32) (v5 : Int32) (S : mS) : Option (Int32 × mS) := k57 v0 v3 v4 (v5 + 1) S
noncomputable def f_X6_shepherds_57 (k113 : Int32 → Int32 → mS → Option (Int32 × mS)) : Nat → Int32 → Int32 → Int32 → Int32 → mS → Option (Int32 × mS) := fun n => Nat.rec (motive := fun _ => Int32 → Int32 → Int32 → Int32 → mS → Option (Int32 × mS)) (fun _ _ _ _ _ => none) (fun _ rec v0 v3 v4 v5 S => if 5 ≤ v5 then (k113 v3 v4 S) else ((f_X6_shepherds_66 (f_X6_shepherds_107 rec) 1000) v0 v3 v4 v5 0 S)) n
theorem f_X6_shepherds_57_s (k113 : Int32 → Int32 → mS → Option (Int32 × mS)) (n : Nat) (v0 : Int32) (v3 : Int32) (v4 : Int32) (v5 : Int32) (S : mS) : f_X6_shepherds_57 k113 (n + 1) v0 v3 v4 v5 S = if 5 ≤ v5 then (k113 v3 v4 S) else ((f_X6_shepherds_66 (f_X6_shepherds_107 (f_X6_shepherds_57 k113 n)) 1000) v0 v3 v4 v5 0 S) := rfl
noncomputable def f_X6_shepherds_125 (t0 : Int32) (S : mS) : Option (Int32 × mS) := some (t0, S)
noncomputable def f_X6_shepherds_113 (v3 : Int32) (v4 : Int32) (S : mS) : Option (Int32 × mS) := if v3 = (-1) then ((f_X6_shepherds_125) v4 S) else ((f_X6_shepherds_125) (-5) S)
noncomputable def f_X6_shepherds (v0 : Int32) (v1 : Int32) (v2 : Int32) (v3 : Int32) (S : mS) : Option (Int32 × mS) := mGr 6 0 v0 S (fun r1 => mGr 5 0 r1 S (fun r2 => mRc 1 r2 S (mCp (f_X1_hasWhistle r2 v1 S) (fun r3 => if r3 = 0 then ((f_X6_shepherds_38) v0 S) else (mGr 6 0 v0 S (fun r6 => mGr 5 0 r6 S (fun r7 => mRc 1 r7 S (mCp (f_X1_hasWhistle r7 v2 S) (fun r8 => if r8 = 0 then ((f_X6_shepherds_38) v0 S) else (if v1 = v2 then ((f_X6_shepherds_38) v0 S) else (if (-1) ≤ v3 then (mRc 6 v0 S (mCv (f_X6_foldByBoth v0 v1 v2 S) (fun S10 => (f_X6_shepherds_57 (f_X6_shepherds_113) 1000) v0 v3 0 0 S10))) else ((f_X6_shepherds_38) v0 S))))))))))))
def rm_X6_shepherds : Room := { frames := 5, cells := 0, slots := 0, locals := 114 }
set_option maxRecDepth 100000 in
set_option maxHeartbeats 4000000 in
theorem bl_X6_shepherds_38 {p : Program} {l : Launch} {e : Env} {s : State} {m : MethodId} {args : Array Value} {below : List Frame} {meth : Method} {c : Code} {E : mE} {n0 : Nat} {F : Int32 × mS} (C : mCx p s m args meth c cX6_shepherds 7 RX6 (some .int) E n0) : ∀  (v0 : Int32) (S : mS) (H : Heap) (locs : List Loc) (ls : Array Slot), f_X6_shepherds_38 v0 S = some F → mIv s E S H locs 0 → lv_has ls 7 [(0, .ref (mA E.b v0))] → W p l e rm_X6_shepherds s m args below meth c H locs 0 0 (mQi below args s 0 0 n0 E F) (F0 m 38 ls []) := by
  have hx := C.1
  have hb := C.2.1
  intro v0 S H locs ls hF hI hl
  refine lv_aload_n hx hb dX6_shepherds_38 rfl (lv_at hl 0 rfl) ?_
  refine lv_bipush (v := (-10)) hx hb dX6_shepherds_39 (by decide) ?_
  refine m_callVi C cd_X6_72 ⟨rfl, by decide⟩ hl.1 hI hF (fun _ h => ok_X6_refuseBad h) rfl rfl ⟨rfl, rfl, Nat.le_of_ble_eq_true rfl, Nat.le_of_ble_eq_true rfl⟩ ⟨Nat.le_of_ble_eq_true rfl, Nat.le_of_ble_eq_true rfl⟩ (Nat.le_of_ble_eq_true rfl) dX6_shepherds_41 (fun r4 S5 H locs hF hI => ?_)
  exact m_ireti C hI hF dX6_shepherds_44
set_option maxRecDepth 100000 in
set_option maxHeartbeats 4000000 in
theorem bl_X6_shepherds_101 {p : Program} {l : Launch} {e : Env} {s : State} {m : MethodId} {args : Array Value} {below : List Frame} {meth : Method} {c : Code} {E : mE} {n0 : Nat} {F : Int32 × mS} (C : mCx p s m args meth c cX6_shepherds 7 RX6 (some .int) E n0) {k66 : Int32 → Int32 → Int32 → Int32 → Int32 → mS → Option (Int32 × mS)} (hk66 : ∀ (v0 : Int32) (v3 : Int32) (v4 : Int32) (v5 : Int32) (v6 : Int32) (S : mS) (H : Heap) (locs : List Loc) (ls : Array Slot), k66 v0 v3 v4 v5 v6 S = some F → mIv s E S H locs 0 → lv_has ls 7 [(0, .ref (mA E.b v0)), (3, .int v3), (4, .int v4), (5, .int v5), (6, .int v6)] → W p l e rm_X6_shepherds s m args below meth c H locs 0 0 (mQi below args s 0 0 n0 E F) (F0 m 66 ls [])) : ∀  (v0 : Int32) (v3 : Int32) (v4 : Int32) (v5 : Int32) (v6 : Int32) (S : mS) (H : Heap) (locs : List Loc) (ls : Array Slot), f_X6_shepherds_101 k66 v0 v3 v4 v5 v6 S = some F → mIv s E S H locs 0 → lv_has ls 7 [(0, .ref (mA E.b v0)), (3, .int v3), (4, .int v4), (5, .int v5), (6, .int v6)] → W p l e rm_X6_shepherds s m args below meth c H locs 0 0 (mQi below args s 0 0 n0 E F) (F0 m 101 ls []) := by
  have hx := C.1
  have hb := C.2.1
  intro v0 v3 v4 v5 v6 S H locs ls hF hI hl
  refine lv_iinc (v := v6 + 1) (lv' := [(6, .int (v6 + 1)), (0, .ref (mA E.b v0)), (3, .int v3), (4, .int v4), (5, .int v5)]) hx hb dX6_shepherds_101 hl (k := 4) rfl rfl (by decide) rfl (fun ls hl => ?_)
  refine lv_goto (tgt := 66) hx hb dX6_shepherds_104 (by decide) ?_
  exact hk66 v0 v3 v4 v5 (v6 + 1) S _ _ _ hF hI (lv_sub hl [1, 2, 3, 4, 0] rfl)
set_option maxRecDepth 100000 in
set_option maxHeartbeats 4000000 in
theorem bl_X6_shepherds_66 {p : Program} {l : Launch} {e : Env} {s : State} {m : MethodId} {args : Array Value} {below : List Frame} {meth : Method} {c : Code} {E : mE} {n0 : Nat} {F : Int32 × mS} (C : mCx p s m args meth c cX6_shepherds 7 RX6 (some .int) E n0) {k107 : Int32 → Int32 → Int32 → Int32 → mS → Option (Int32 × mS)} (hk107 : ∀ (v0 : Int32) (v3 : Int32) (v4 : Int32) (v5 : Int32) (S : mS) (H : Heap) (locs : List Loc) (ls : Array Slot), k107 v0 v3 v4 v5 S = some F → mIv s E S H locs 0 → lv_has ls 7 [(0, .ref (mA E.b v0)), (3, .int v3), (4, .int v4), (5, .int v5)] → W p l e rm_X6_shepherds s m args below meth c H locs 0 0 (mQi below args s 0 0 n0 E F) (F0 m 107 ls [])) : ∀ (n : Nat)  (v0 : Int32) (v3 : Int32) (v4 : Int32) (v5 : Int32) (v6 : Int32) (S : mS) (H : Heap) (locs : List Loc) (ls : Array Slot), f_X6_shepherds_66 k107 n v0 v3 v4 v5 v6 S = some F → mIv s E S H locs 0 → lv_has ls 7 [(0, .ref (mA E.b v0)), (3, .int v3), (4, .int v4), (5, .int v5), (6, .int v6)] → W p l e rm_X6_shepherds s m args below meth c H locs 0 0 (mQi below args s 0 0 n0 E F) (F0 m 66 ls []) := by
  have hx := C.1
  have hb := C.2.1
  intro n
  induction n with
  | zero =>
    intro v0 v3 v4 v5 v6 S H locs ls hF
    exact nomatch (show (none : Option (Int32 × mS)) = some F from hF)
  | succ n ih =>
    intro v0 v3 v4 v5 v6 S H locs ls hF hI hl
    have hF := (f_X6_shepherds_66_s k107 n v0 v3 v4 v5 v6 S).symm.trans hF
    refine lv_iload hx hb dX6_shepherds_66 (lv_at hl 4 rfl) ?_
    refine lv_iconst (v := 5) hx hb dX6_shepherds_68 (by decide) ?_
    refine m_icmp_ge C (tgt := 107) hF dX6_shepherds_69 (by decide) (fun hF => ?_) (fun hF => ?_)
    · exact hk107 v0 v3 v4 v5 S _ _ _ hF hI (lv_sub hl [0, 1, 2, 3] rfl)
    · refine lv_aload_n hx hb dX6_shepherds_72 rfl (lv_at hl 0 rfl) ?_
      refine lv_iload hx hb dX6_shepherds_73 (lv_at hl 3 rfl) ?_
      refine lv_iload hx hb dX6_shepherds_75 (lv_at hl 4 rfl) ?_
      refine m_callViR C cd_X6_256 ⟨rfl, by decide⟩ hl.1 hI hF (fun _ h => ok_X6_rests h) rfl rfl ⟨rfl, rfl, Nat.le_of_ble_eq_true rfl, Nat.le_of_ble_eq_true rfl⟩ ⟨Nat.le_of_ble_eq_true rfl, Nat.le_of_ble_eq_true rfl⟩ (Nat.le_of_ble_eq_true rfl) dX6_shepherds_77 (fun r11 H locs hF hI => ?_)
      refine m_if_eq C (tgt := 101) hF dX6_shepherds_80 (by decide) (fun hF => ?_) (fun hF => ?_)
      · exact (bl_X6_shepherds_101 C (k66 := (f_X6_shepherds_66 k107 n)) ih) v0 v3 v4 v5 v6 S _ _ _ hF hI (lv_sub hl [0, 1, 2, 3, 4] rfl)
      · refine lv_iload hx hb dX6_shepherds_83 (lv_at hl 2 rfl) ?_
        refine lv_iload_n hx hb dX6_shepherds_85 rfl (lv_at hl 1 rfl) ?_
        refine m_icmp_ne C (tgt := 98) hF dX6_shepherds_86 (by decide) (fun hF => ?_) (fun hF => ?_)
        · refine lv_iinc (v := v4 + 1) (lv' := [(4, .int (v4 + 1)), (0, .ref (mA E.b v0)), (3, .int v3), (5, .int v5), (6, .int v6)]) hx hb dX6_shepherds_98 hl (k := 2) rfl rfl (by decide) rfl (fun ls hl => ?_)
          exact (bl_X6_shepherds_101 C (k66 := (f_X6_shepherds_66 k107 n)) ih) v0 v3 (v4 + 1) v5 v6 S _ _ _ hF hI (lv_sub hl [1, 2, 0, 3, 4] rfl)
        · refine lv_bipush (v := 10) hx hb dX6_shepherds_89 (by decide) ?_
          refine lv_iload hx hb dX6_shepherds_91 (lv_at hl 3 rfl) ?_
          refine lv_imul hx hb dX6_shepherds_93 ?_
          refine lv_iload hx hb dX6_shepherds_94 (lv_at hl 4 rfl) ?_
          refine lv_iadd hx hb dX6_shepherds_96 ?_
          exact m_ireti C hI hF dX6_shepherds_97
set_option maxRecDepth 100000 in
set_option maxHeartbeats 4000000 in
theorem bl_X6_shepherds_107 {p : Program} {l : Launch} {e : Env} {s : State} {m : MethodId} {args : Array Value} {below : List Frame} {meth : Method} {c : Code} {E : mE} {n0 : Nat} {F : Int32 × mS} (C : mCx p s m args meth c cX6_shepherds 7 RX6 (some .int) E n0) {k57 : Int32 → Int32 → Int32 → Int32 → mS → Option (Int32 × mS)} (hk57 : ∀ (v0 : Int32) (v3 : Int32) (v4 : Int32) (v5 : Int32) (S : mS) (H : Heap) (locs : List Loc) (ls : Array Slot), k57 v0 v3 v4 v5 S = some F → mIv s E S H locs 0 → lv_has ls 7 [(0, .ref (mA E.b v0)), (3, .int v3), (4, .int v4), (5, .int v5)] → W p l e rm_X6_shepherds s m args below meth c H locs 0 0 (mQi below args s 0 0 n0 E F) (F0 m 57 ls [])) : ∀  (v0 : Int32) (v3 : Int32) (v4 : Int32) (v5 : Int32) (S : mS) (H : Heap) (locs : List Loc) (ls : Array Slot), f_X6_shepherds_107 k57 v0 v3 v4 v5 S = some F → mIv s E S H locs 0 → lv_has ls 7 [(0, .ref (mA E.b v0)), (3, .int v3), (4, .int v4), (5, .int v5)] → W p l e rm_X6_shepherds s m args below meth c H locs 0 0 (mQi below args s 0 0 n0 E F) (F0 m 107 ls []) := by
  have hx := C.1
  have hb := C.2.1
  intro v0 v3 v4 v5 S H locs ls hF hI hl
  refine lv_iinc (v := v5 + 1) (lv' := [(5, .int (v5 + 1)), (0, .ref (mA E.b v0)), (3, .int v3), (4, .int v4)]) hx hb dX6_shepherds_107 hl (k := 3) rfl rfl (by decide) rfl (fun ls hl => ?_)
  refine lv_goto (tgt := 57) hx hb dX6_shepherds_110 (by decide) ?_
  exact hk57 v0 v3 v4 (v5 + 1) S _ _ _ hF hI (lv_sub hl [1, 2, 3, 0] rfl)
set_option maxRecDepth 100000 in
set_option maxHeartbeats 4000000 in
theorem bl_X6_shepherds_57 {p : Program} {l : Launch} {e : Env} {s : State} {m : MethodId} {args : Array Value} {below : List Frame} {meth : Method} {c : Code} {E : mE} {n0 : Nat} {F : Int32 × mS} (C : mCx p s m args meth c cX6_shepherds 7 RX6 (some .int) E n0) {k113 : Int32 → Int32 → mS → Option (Int32 × mS)} (hk113 : ∀ (v3 : Int32) (v4 : Int32) (S : mS) (H : Heap) (locs : List Loc) (ls : Array Slot), k113 v3 v4 S = some F → mIv s E S H locs 0 → lv_has ls 7 [(3, .int v3), (4, .int v4)] → W p l e rm_X6_shepherds s m args below meth c H locs 0 0 (mQi below args s 0 0 n0 E F) (F0 m 113 ls [])) : ∀ (n : Nat)  (v0 : Int32) (v3 : Int32) (v4 : Int32) (v5 : Int32) (S : mS) (H : Heap) (locs : List Loc) (ls : Array Slot), f_X6_shepherds_57 k113 n v0 v3 v4 v5 S = some F → mIv s E S H locs 0 → lv_has ls 7 [(0, .ref (mA E.b v0)), (3, .int v3), (4, .int v4), (5, .int v5)] → W p l e rm_X6_shepherds s m args below meth c H locs 0 0 (mQi below args s 0 0 n0 E F) (F0 m 57 ls []) := by
  have hx := C.1
  have hb := C.2.1
  intro n
  induction n with
  | zero =>
    intro v0 v3 v4 v5 S H locs ls hF
    exact nomatch (show (none : Option (Int32 × mS)) = some F from hF)
  | succ n ih =>
    intro v0 v3 v4 v5 S H locs ls hF hI hl
    have hF := (f_X6_shepherds_57_s k113 n v0 v3 v4 v5 S).symm.trans hF
    refine lv_iload hx hb dX6_shepherds_57 (lv_at hl 3 rfl) ?_
    refine lv_iconst (v := 5) hx hb dX6_shepherds_59 (by decide) ?_
    refine m_icmp_ge C (tgt := 113) hF dX6_shepherds_60 (by decide) (fun hF => ?_) (fun hF => ?_)
    · exact hk113 v3 v4 S _ _ _ hF hI (lv_sub hl [1, 2] rfl)
    · refine lv_iconst (v := 0) hx hb dX6_shepherds_63 (by decide) ?_
      refine lv_istore (lv' := [(6, .int 0), (0, .ref (mA E.b v0)), (3, .int v3), (4, .int v4), (5, .int v5)]) hx hb dX6_shepherds_64 hl (by decide) rfl (fun ls hl => ?_)
      exact (bl_X6_shepherds_66 C (k107 := (f_X6_shepherds_107 (f_X6_shepherds_57 k113 n))) (bl_X6_shepherds_107 C (k57 := (f_X6_shepherds_57 k113 n)) ih) 1000) v0 v3 v4 v5 0 S _ _ _ hF hI (lv_sub hl [1, 2, 3, 4, 0] rfl)
set_option maxRecDepth 100000 in
set_option maxHeartbeats 4000000 in
theorem bl_X6_shepherds_125 {p : Program} {l : Launch} {e : Env} {s : State} {m : MethodId} {args : Array Value} {below : List Frame} {meth : Method} {c : Code} {E : mE} {n0 : Nat} {F : Int32 × mS} (C : mCx p s m args meth c cX6_shepherds 7 RX6 (some .int) E n0) : ∀  (t0 : Int32) (S : mS) (H : Heap) (locs : List Loc) (ls : Array Slot), f_X6_shepherds_125 t0 S = some F → mIv s E S H locs 0 → lv_has ls 7 [] → W p l e rm_X6_shepherds s m args below meth c H locs 0 0 (mQi below args s 0 0 n0 E F) (F0 m 125 ls [.int t0]) := by
  have hx := C.1
  have hb := C.2.1
  intro t0 S H locs ls hF hI hl
  exact m_ireti C hI hF dX6_shepherds_125
set_option maxRecDepth 100000 in
set_option maxHeartbeats 4000000 in
theorem bl_X6_shepherds_113 {p : Program} {l : Launch} {e : Env} {s : State} {m : MethodId} {args : Array Value} {below : List Frame} {meth : Method} {c : Code} {E : mE} {n0 : Nat} {F : Int32 × mS} (C : mCx p s m args meth c cX6_shepherds 7 RX6 (some .int) E n0) : ∀  (v3 : Int32) (v4 : Int32) (S : mS) (H : Heap) (locs : List Loc) (ls : Array Slot), f_X6_shepherds_113 v3 v4 S = some F → mIv s E S H locs 0 → lv_has ls 7 [(3, .int v3), (4, .int v4)] → W p l e rm_X6_shepherds s m args below meth c H locs 0 0 (mQi below args s 0 0 n0 E F) (F0 m 113 ls []) := by
  have hx := C.1
  have hb := C.2.1
  intro v3 v4 S H locs ls hF hI hl
  refine lv_iload_n hx hb dX6_shepherds_113 rfl (lv_at hl 0 rfl) ?_
  refine lv_iconst (v := (-1)) hx hb dX6_shepherds_114 (by decide) ?_
  refine m_icmp_ne C (tgt := 123) hF dX6_shepherds_115 (by decide) (fun hF => ?_) (fun hF => ?_)
  · refine lv_bipush (v := (-5)) hx hb dX6_shepherds_123 (by decide) ?_
    exact (bl_X6_shepherds_125 C) (-5) S _ _ _ hF hI (lv_sub hl [] rfl)
  · refine lv_iload hx hb dX6_shepherds_118 (lv_at hl 1 rfl) ?_
    refine lv_goto (tgt := 125) hx hb dX6_shepherds_120 (by decide) ?_
    exact (bl_X6_shepherds_125 C) v4 S _ _ _ hF hI (lv_sub hl [] rfl)
set_option maxRecDepth 100000 in
set_option maxHeartbeats 4000000 in
theorem ok_X6_shepherds {l : Launch} {E : mE} {v0 : Int32} {v1 : Int32} {v2 : Int32} {v3 : Int32} {S : mS} {F : Int32 × mS} (hF : f_X6_shepherds v0 v1 v2 v3 S = some F) : mMi l yX6_shepherds cX6_shepherds 7 (some .int) rm_X6_shepherds 0 0 [.ref (mA E.b v0), .int v1, .int v2, .int v3] E S F := by
  refine m_met_i (by decide) (Nat.le_of_ble_eq_true rfl) (fun p e s m args below meth c ls hin C hI hl => ?_)
  have hx := C.1
  have hb := C.2.1
  have hl : lv_has ls 7 [(0, .ref (mA E.b v0)), (1, .int v1), (2, .int v2), (3, .int v3)] := hl
  generalize s.heap = H at hI ⊢
  generalize ([] : List Loc) = locs at hI ⊢
  refine lv_aload_n hx hb dX6_shepherds_0 rfl (lv_at hl 0 rfl) ?_
  refine m_getR C fd_X6_12 hI hF dX6_shepherds_1 (fun r1 hF => ?_)
  refine m_getR C fd_X6_76 hI hF dX6_shepherds_4 (fun r2 hF => ?_)
  refine lv_iload_n hx hb dX6_shepherds_7 rfl (lv_at hl 1 rfl) ?_
  refine m_callViR C cd_X6_134 ⟨rfl, by decide⟩ hl.1 hI hF (fun _ h => ok_X1_hasWhistle h) rfl rfl ⟨rfl, rfl, Nat.le_of_ble_eq_true rfl, Nat.le_of_ble_eq_true rfl⟩ ⟨Nat.le_of_ble_eq_true rfl, Nat.le_of_ble_eq_true rfl⟩ (Nat.le_of_ble_eq_true rfl) dX6_shepherds_8 (fun r3 H locs hF hI => ?_)
  refine m_if_eq C (tgt := 38) hF dX6_shepherds_11 (by decide) (fun hF => ?_) (fun hF => ?_)
  · exact (bl_X6_shepherds_38 C) v0 S _ _ _ hF hI (lv_sub hl [0] rfl)
  · refine lv_aload_n hx hb dX6_shepherds_14 rfl (lv_at hl 0 rfl) ?_
    refine m_getR C fd_X6_12 hI hF dX6_shepherds_15 (fun r6 hF => ?_)
    refine m_getR C fd_X6_76 hI hF dX6_shepherds_18 (fun r7 hF => ?_)
    refine lv_iload_n hx hb dX6_shepherds_21 rfl (lv_at hl 2 rfl) ?_
    refine m_callViR C cd_X6_134 ⟨rfl, by decide⟩ hl.1 hI hF (fun _ h => ok_X1_hasWhistle h) rfl rfl ⟨rfl, rfl, Nat.le_of_ble_eq_true rfl, Nat.le_of_ble_eq_true rfl⟩ ⟨Nat.le_of_ble_eq_true rfl, Nat.le_of_ble_eq_true rfl⟩ (Nat.le_of_ble_eq_true rfl) dX6_shepherds_22 (fun r8 H locs hF hI => ?_)
    refine m_if_eq C (tgt := 38) hF dX6_shepherds_25 (by decide) (fun hF => ?_) (fun hF => ?_)
    · exact (bl_X6_shepherds_38 C) v0 S _ _ _ hF hI (lv_sub hl [0] rfl)
    · refine lv_iload_n hx hb dX6_shepherds_28 rfl (lv_at hl 1 rfl) ?_
      refine lv_iload_n hx hb dX6_shepherds_29 rfl (lv_at hl 2 rfl) ?_
      refine m_icmp_eq C (tgt := 38) hF dX6_shepherds_30 (by decide) (fun hF => ?_) (fun hF => ?_)
      · exact (bl_X6_shepherds_38 C) v0 S _ _ _ hF hI (lv_sub hl [0] rfl)
      · refine lv_iload_n hx hb dX6_shepherds_33 rfl (lv_at hl 3 rfl) ?_
        refine lv_iconst (v := (-1)) hx hb dX6_shepherds_34 (by decide) ?_
        refine m_icmp_ge C (tgt := 45) hF dX6_shepherds_35 (by decide) (fun hF => ?_) (fun hF => ?_)
        · refine lv_aload_n hx hb dX6_shepherds_45 rfl (lv_at hl 0 rfl) ?_
          refine lv_iload_n hx hb dX6_shepherds_46 rfl (lv_at hl 1 rfl) ?_
          refine lv_iload_n hx hb dX6_shepherds_47 rfl (lv_at hl 2 rfl) ?_
          refine m_callVv C cd_X6_252 ⟨rfl, by decide⟩ hl.1 hI hF (fun _ h => ok_X6_foldByBoth h) rfl rfl ⟨rfl, rfl, Nat.le_of_ble_eq_true rfl, Nat.le_of_ble_eq_true rfl⟩ ⟨Nat.le_of_ble_eq_true rfl, Nat.le_of_ble_eq_true rfl⟩ (Nat.le_of_ble_eq_true rfl) dX6_shepherds_48 (fun S10 H locs hF hI => ?_)
          refine lv_iconst (v := 0) hx hb dX6_shepherds_51 (by decide) ?_
          refine lv_istore (lv' := [(4, .int 0), (0, .ref (mA E.b v0)), (1, .int v1), (2, .int v2), (3, .int v3)]) hx hb dX6_shepherds_52 hl (by decide) rfl (fun ls hl => ?_)
          refine lv_iconst (v := 0) hx hb dX6_shepherds_54 (by decide) ?_
          refine lv_istore (lv' := [(5, .int 0), (4, .int 0), (0, .ref (mA E.b v0)), (1, .int v1), (2, .int v2), (3, .int v3)]) hx hb dX6_shepherds_55 hl (by decide) rfl (fun ls hl => ?_)
          exact (bl_X6_shepherds_57 C (k113 := (f_X6_shepherds_113)) (bl_X6_shepherds_113 C) 1000) v0 v3 0 0 S10 _ _ _ hF hI (lv_sub hl [2, 5, 1, 0] rfl)
        · exact (bl_X6_shepherds_38 C) v0 S _ _ _ hF hI (lv_sub hl [0] rfl)
noncomputable def f_X6_isFoldedByTwo (v0 : Int32) (v1 : Int32) (v2 : Int32) (v3 : Int32) (v4 : Int32) (S : mS) : Option (Int32 × mS) := mGr 6 6 v0 S (fun r1 => mGr 6 0 v0 S (fun r2 => mGr 5 0 r2 S (fun r3 => mRc 1 r1 S (mCv (f_X1_copy r1 r3 S) (fun S5 => mGr 6 6 v0 S5 (fun r6 => mRc 1 r6 S5 (mC (f_X1_call r6 v2 v3 S5) (fun r7 S8 => mGr 6 6 v0 S8 (fun r9 => mRc 1 r9 S8 (mC (f_X1_call r9 v2 v4 S8) (fun r10 S11 => mGr 6 6 v0 S11 (fun r12 => mGr 6 0 v0 S11 (fun r13 => mG 5 5 r13 S11 (fun r14 => mRc 1 r12 S11 (mCp (f_X1_sheepIn r12 r14 S11) (fun r15 => mCp (f_X6_hasBit r15 v1) (fun r16 => mZ r16 (some (r16, S11)))))))))))))))))))
def rm_X6_isFoldedByTwo : Room := { frames := 4, cells := 0, slots := 0, locals := 90 }
set_option maxRecDepth 100000 in
set_option maxHeartbeats 4000000 in
theorem ok_X6_isFoldedByTwo {l : Launch} {E : mE} {v0 : Int32} {v1 : Int32} {v2 : Int32} {v3 : Int32} {v4 : Int32} {S : mS} {F : Int32 × mS} (hF : f_X6_isFoldedByTwo v0 v1 v2 v3 v4 S = some F) : mMi l yX6_isFoldedByTwo cX6_isFoldedByTwo 5 (some .boolean) rm_X6_isFoldedByTwo 0 0 [.ref (mA E.b v0), .int v1, .int v2, .int v3, .int v4] E S F := by
  refine m_met_i (by decide) (Nat.le_of_ble_eq_true rfl) (fun p e s m args below meth c ls hin C hI hl => ?_)
  have hx := C.1
  have hb := C.2.1
  have hl : lv_has ls 5 [(0, .ref (mA E.b v0)), (1, .int v1), (2, .int v2), (3, .int v3), (4, .int v4)] := hl
  generalize s.heap = H at hI ⊢
  generalize ([] : List Loc) = locs at hI ⊢
  refine lv_aload_n hx hb dX6_isFoldedByTwo_0 rfl (lv_at hl 0 rfl) ?_
  refine m_getR C fd_X6_44 hI hF dX6_isFoldedByTwo_1 (fun r1 hF => ?_)
  refine lv_aload_n hx hb dX6_isFoldedByTwo_4 rfl (lv_at hl 0 rfl) ?_
  refine m_getR C fd_X6_12 hI hF dX6_isFoldedByTwo_5 (fun r2 hF => ?_)
  refine m_getR C fd_X6_76 hI hF dX6_isFoldedByTwo_8 (fun r3 hF => ?_)
  refine m_callVv C cd_X6_196 ⟨rfl, by decide⟩ hl.1 hI hF (fun _ h => ok_X1_copy h) rfl rfl ⟨rfl, rfl, Nat.le_of_ble_eq_true rfl, Nat.le_of_ble_eq_true rfl⟩ ⟨Nat.le_of_ble_eq_true rfl, Nat.le_of_ble_eq_true rfl⟩ (Nat.le_of_ble_eq_true rfl) dX6_isFoldedByTwo_11 (fun S5 H locs hF hI => ?_)
  refine lv_aload_n hx hb dX6_isFoldedByTwo_14 rfl (lv_at hl 0 rfl) ?_
  refine m_getR C fd_X6_44 hI hF dX6_isFoldedByTwo_15 (fun r6 hF => ?_)
  refine lv_iload_n hx hb dX6_isFoldedByTwo_18 rfl (lv_at hl 2 rfl) ?_
  refine lv_iload_n hx hb dX6_isFoldedByTwo_19 rfl (lv_at hl 3 rfl) ?_
  refine m_callVi C cd_X6_147 ⟨rfl, by decide⟩ hl.1 hI hF (fun _ h => ok_X1_call h) rfl rfl ⟨rfl, rfl, Nat.le_of_ble_eq_true rfl, Nat.le_of_ble_eq_true rfl⟩ ⟨Nat.le_of_ble_eq_true rfl, Nat.le_of_ble_eq_true rfl⟩ (Nat.le_of_ble_eq_true rfl) dX6_isFoldedByTwo_20 (fun r7 S8 H locs hF hI => ?_)
  refine lv_pop hx hb dX6_isFoldedByTwo_23 rfl ?_
  refine lv_aload_n hx hb dX6_isFoldedByTwo_24 rfl (lv_at hl 0 rfl) ?_
  refine m_getR C fd_X6_44 hI hF dX6_isFoldedByTwo_25 (fun r9 hF => ?_)
  refine lv_iload_n hx hb dX6_isFoldedByTwo_28 rfl (lv_at hl 2 rfl) ?_
  refine lv_iload hx hb dX6_isFoldedByTwo_29 (lv_at hl 4 rfl) ?_
  refine m_callVi C cd_X6_147 ⟨rfl, by decide⟩ hl.1 hI hF (fun _ h => ok_X1_call h) rfl rfl ⟨rfl, rfl, Nat.le_of_ble_eq_true rfl, Nat.le_of_ble_eq_true rfl⟩ ⟨Nat.le_of_ble_eq_true rfl, Nat.le_of_ble_eq_true rfl⟩ (Nat.le_of_ble_eq_true rfl) dX6_isFoldedByTwo_31 (fun r10 S11 H locs hF hI => ?_)
  refine lv_pop hx hb dX6_isFoldedByTwo_34 rfl ?_
  refine lv_aload_n hx hb dX6_isFoldedByTwo_35 rfl (lv_at hl 0 rfl) ?_
  refine m_getR C fd_X6_44 hI hF dX6_isFoldedByTwo_36 (fun r12 hF => ?_)
  refine lv_aload_n hx hb dX6_isFoldedByTwo_39 rfl (lv_at hl 0 rfl) ?_
  refine m_getR C fd_X6_12 hI hF dX6_isFoldedByTwo_40 (fun r13 hF => ?_)
  refine m_get C fd_X6_112 hI hF dX6_isFoldedByTwo_43 (fun r14 hF => ?_)
  refine m_callViR C cd_X6_186 ⟨rfl, by decide⟩ hl.1 hI hF (fun _ h => ok_X1_sheepIn h) rfl rfl ⟨rfl, rfl, Nat.le_of_ble_eq_true rfl, Nat.le_of_ble_eq_true rfl⟩ ⟨Nat.le_of_ble_eq_true rfl, Nat.le_of_ble_eq_true rfl⟩ (Nat.le_of_ble_eq_true rfl) dX6_isFoldedByTwo_46 (fun r15 H locs hF hI => ?_)
  refine lv_iload_n hx hb dX6_isFoldedByTwo_49 rfl (lv_at hl 1 rfl) ?_
  refine m_callSiR C cd_X6_228 hl.1 hI hF (fun _ h => ok_X6_hasBit h) rfl rfl ⟨rfl, rfl, Nat.le_of_ble_eq_true rfl, Nat.le_of_ble_eq_true rfl⟩ ⟨Nat.le_of_ble_eq_true rfl, Nat.le_of_ble_eq_true rfl⟩ (Nat.le_of_ble_eq_true rfl) dX6_isFoldedByTwo_50 (fun r16 H locs hF hI => ?_)
  exact m_iretz C hI hF dX6_isFoldedByTwo_53
noncomputable def f_X6_keepFraction_21 (k3 : Int32 → Int32 → Int32 → mS → Option mS) (v0 : Int32) (v1 : Int32) (v2 : Int32) (S : mS) : Option mS := k3 v0 v1 (v2 + (-1)) S
noncomputable def f_X6_keepFraction_3 (k27 : Int32 → Int32 → Int32 → mS → Option mS) : Nat → Int32 → Int32 → Int32 → mS → Option mS := fun n => Nat.rec (motive := fun _ => Int32 → Int32 → Int32 → mS → Option mS) (fun _ _ _ _ => none) (fun _ rec v0 v1 v2 S => if v2 ≤ 1 then (k27 v0 v1 v2 S) else (mNz v2 (if (mRem v1 v2) = 0 then (mNz v2 (if (mRem 100 v2) = 0 then (k27 v0 v1 v2 S) else ((f_X6_keepFraction_21 rec) v0 v1 v2 S))) else ((f_X6_keepFraction_21 rec) v0 v1 v2 S)))) n
theorem f_X6_keepFraction_3_s (k27 : Int32 → Int32 → Int32 → mS → Option mS) (n : Nat) (v0 : Int32) (v1 : Int32) (v2 : Int32) (S : mS) : f_X6_keepFraction_3 k27 (n + 1) v0 v1 v2 S = if v2 ≤ 1 then (k27 v0 v1 v2 S) else (mNz v2 (if (mRem v1 v2) = 0 then (mNz v2 (if (mRem 100 v2) = 0 then (k27 v0 v1 v2 S) else ((f_X6_keepFraction_21 (f_X6_keepFraction_3 k27 n)) v0 v1 v2 S))) else ((f_X6_keepFraction_21 (f_X6_keepFraction_3 k27 n)) v0 v1 v2 S))) := rfl
noncomputable def f_X6_keepFraction_27 (v0 : Int32) (v1 : Int32) (v2 : Int32) (S : mS) : Option mS := mNz v2 (mP 6 12 v0 (v1 / v2) S (fun S1 => mNz v2 (mP 6 13 v0 (100 / v2) S1 (fun S2 => some S2))))
noncomputable def f_X6_keepFraction (v0 : Int32) (v1 : Int32) (S : mS) : Option mS := (f_X6_keepFraction_3 (f_X6_keepFraction_27) 1000) v0 v1 100 S
def rm_X6_keepFraction : Room := { frames := 0, cells := 0, slots := 0, locals := 0 }
set_option maxRecDepth 100000 in
set_option maxHeartbeats 4000000 in
theorem bl_X6_keepFraction_21 {p : Program} {l : Launch} {e : Env} {s : State} {m : MethodId} {args : Array Value} {below : List Frame} {meth : Method} {c : Code} {E : mE} {n0 : Nat} {F : mS} (C : mCx p s m args meth c cX6_keepFraction 3 RX6 none E n0) {k3 : Int32 → Int32 → Int32 → mS → Option mS} (hk3 : ∀ (v0 : Int32) (v1 : Int32) (v2 : Int32) (S : mS) (H : Heap) (locs : List Loc) (ls : Array Slot), k3 v0 v1 v2 S = some F → mIv s E S H locs 0 → lv_has ls 3 [(0, .ref (mA E.b v0)), (1, .int v1), (2, .int v2)] → W p l e rm_X6_keepFraction s m args below meth c H locs 0 0 (mQv below args s 0 0 n0 E F) (F0 m 3 ls [])) : ∀  (v0 : Int32) (v1 : Int32) (v2 : Int32) (S : mS) (H : Heap) (locs : List Loc) (ls : Array Slot), f_X6_keepFraction_21 k3 v0 v1 v2 S = some F → mIv s E S H locs 0 → lv_has ls 3 [(0, .ref (mA E.b v0)), (1, .int v1), (2, .int v2)] → W p l e rm_X6_keepFraction s m args below meth c H locs 0 0 (mQv below args s 0 0 n0 E F) (F0 m 21 ls []) := by
  have hx := C.1
  have hb := C.2.1
  intro v0 v1 v2 S H locs ls hF hI hl
  refine lv_iinc (v := v2 + (-1)) (lv' := [(2, .int (v2 + (-1))), (0, .ref (mA E.b v0)), (1, .int v1)]) hx hb dX6_keepFraction_21 hl (k := 2) rfl rfl (by decide) rfl (fun ls hl => ?_)
  refine lv_goto (tgt := 3) hx hb dX6_keepFraction_24 (by decide) ?_
  exact hk3 v0 v1 (v2 + (-1)) S _ _ _ hF hI (lv_sub hl [1, 2, 0] rfl)
set_option maxRecDepth 100000 in
set_option maxHeartbeats 4000000 in
theorem bl_X6_keepFraction_3 {p : Program} {l : Launch} {e : Env} {s : State} {m : MethodId} {args : Array Value} {below : List Frame} {meth : Method} {c : Code} {E : mE} {n0 : Nat} {F : mS} (C : mCx p s m args meth c cX6_keepFraction 3 RX6 none E n0) {k27 : Int32 → Int32 → Int32 → mS → Option mS} (hk27 : ∀ (v0 : Int32) (v1 : Int32) (v2 : Int32) (S : mS) (H : Heap) (locs : List Loc) (ls : Array Slot), k27 v0 v1 v2 S = some F → mIv s E S H locs 0 → lv_has ls 3 [(0, .ref (mA E.b v0)), (1, .int v1), (2, .int v2)] → W p l e rm_X6_keepFraction s m args below meth c H locs 0 0 (mQv below args s 0 0 n0 E F) (F0 m 27 ls [])) : ∀ (n : Nat)  (v0 : Int32) (v1 : Int32) (v2 : Int32) (S : mS) (H : Heap) (locs : List Loc) (ls : Array Slot), f_X6_keepFraction_3 k27 n v0 v1 v2 S = some F → mIv s E S H locs 0 → lv_has ls 3 [(0, .ref (mA E.b v0)), (1, .int v1), (2, .int v2)] → W p l e rm_X6_keepFraction s m args below meth c H locs 0 0 (mQv below args s 0 0 n0 E F) (F0 m 3 ls []) := by
  have hx := C.1
  have hb := C.2.1
  intro n
  induction n with
  | zero =>
    intro v0 v1 v2 S H locs ls hF
    exact nomatch (show (none : Option mS) = some F from hF)
  | succ n ih =>
    intro v0 v1 v2 S H locs ls hF hI hl
    have hF := (f_X6_keepFraction_3_s k27 n v0 v1 v2 S).symm.trans hF
    refine lv_iload_n hx hb dX6_keepFraction_3 rfl (lv_at hl 2 rfl) ?_
    refine lv_iconst (v := 1) hx hb dX6_keepFraction_4 (by decide) ?_
    refine m_icmp_le C (tgt := 27) hF dX6_keepFraction_5 (by decide) (fun hF => ?_) (fun hF => ?_)
    · exact hk27 v0 v1 v2 S _ _ _ hF hI (lv_sub hl [0, 1, 2] rfl)
    · refine lv_iload_n hx hb dX6_keepFraction_8 rfl (lv_at hl 1 rfl) ?_
      refine lv_iload_n hx hb dX6_keepFraction_9 rfl (lv_at hl 2 rfl) ?_
      refine m_nz hF (fun hz hF => ?_)
      refine m_irem C dX6_keepFraction_10 hz ?_
      refine m_if_ne C (tgt := 21) hF dX6_keepFraction_11 (by decide) (fun hF => ?_) (fun hF => ?_)
      · exact (bl_X6_keepFraction_21 C (k3 := (f_X6_keepFraction_3 k27 n)) ih) v0 v1 v2 S _ _ _ hF hI (lv_sub hl [0, 1, 2] rfl)
      · refine lv_bipush (v := 100) hx hb dX6_keepFraction_14 (by decide) ?_
        refine lv_iload_n hx hb dX6_keepFraction_16 rfl (lv_at hl 2 rfl) ?_
        refine m_nz hF (fun hz hF => ?_)
        refine m_irem C dX6_keepFraction_17 hz ?_
        refine m_if_eq C (tgt := 27) hF dX6_keepFraction_18 (by decide) (fun hF => ?_) (fun hF => ?_)
        · exact hk27 v0 v1 v2 S _ _ _ hF hI (lv_sub hl [0, 1, 2] rfl)
        · exact (bl_X6_keepFraction_21 C (k3 := (f_X6_keepFraction_3 k27 n)) ih) v0 v1 v2 S _ _ _ hF hI (lv_sub hl [0, 1, 2] rfl)
set_option maxRecDepth 100000 in
set_option maxHeartbeats 4000000 in
theorem bl_X6_keepFraction_27 {p : Program} {l : Launch} {e : Env} {s : State} {m : MethodId} {args : Array Value} {below : List Frame} {meth : Method} {c : Code} {E : mE} {n0 : Nat} {F : mS} (C : mCx p s m args meth c cX6_keepFraction 3 RX6 none E n0) : ∀  (v0 : Int32) (v1 : Int32) (v2 : Int32) (S : mS) (H : Heap) (locs : List Loc) (ls : Array Slot), f_X6_keepFraction_27 v0 v1 v2 S = some F → mIv s E S H locs 0 → lv_has ls 3 [(0, .ref (mA E.b v0)), (1, .int v1), (2, .int v2)] → W p l e rm_X6_keepFraction s m args below meth c H locs 0 0 (mQv below args s 0 0 n0 E F) (F0 m 27 ls []) := by
  have hx := C.1
  have hb := C.2.1
  intro v0 v1 v2 S H locs ls hF hI hl
  refine lv_aload_n hx hb dX6_keepFraction_27 rfl (lv_at hl 0 rfl) ?_
  refine lv_iload_n hx hb dX6_keepFraction_28 rfl (lv_at hl 1 rfl) ?_
  refine lv_iload_n hx hb dX6_keepFraction_29 rfl (lv_at hl 2 rfl) ?_
  refine m_nz hF (fun hz hF => ?_)
  refine lv_idiv hx hb dX6_keepFraction_30 hz ?_
  refine m_put C fd_X6_284 hI hF dX6_keepFraction_31 (fun S1 H locs hF hI => ?_)
  refine lv_aload_n hx hb dX6_keepFraction_34 rfl (lv_at hl 0 rfl) ?_
  refine lv_bipush (v := 100) hx hb dX6_keepFraction_35 (by decide) ?_
  refine lv_iload_n hx hb dX6_keepFraction_37 rfl (lv_at hl 2 rfl) ?_
  refine m_nz hF (fun hz hF => ?_)
  refine lv_idiv hx hb dX6_keepFraction_38 hz ?_
  refine m_put C fd_X6_64 hI hF dX6_keepFraction_39 (fun S2 H locs hF hI => ?_)
  exact m_vret C hI hF dX6_keepFraction_42
set_option maxRecDepth 100000 in
set_option maxHeartbeats 4000000 in
theorem ok_X6_keepFraction {l : Launch} {E : mE} {v0 : Int32} {v1 : Int32} {S : mS} {F : mS} (hF : f_X6_keepFraction v0 v1 S = some F) : mMv l yX6_keepFraction cX6_keepFraction 3 none rm_X6_keepFraction 0 0 [.ref (mA E.b v0), .int v1] E S F := by
  refine m_met_v (by decide) (Nat.le_of_ble_eq_true rfl) (fun p e s m args below meth c ls hin C hI hl => ?_)
  have hx := C.1
  have hb := C.2.1
  have hl : lv_has ls 3 [(0, .ref (mA E.b v0)), (1, .int v1)] := hl
  generalize s.heap = H at hI ⊢
  generalize ([] : List Loc) = locs at hI ⊢
  refine lv_bipush (v := 100) hx hb dX6_keepFraction_0 (by decide) ?_
  refine lv_istore_n (lv' := [(2, .int 100), (0, .ref (mA E.b v0)), (1, .int v1)]) hx hb dX6_keepFraction_2 rfl hl (by decide) rfl (fun ls hl => ?_)
  exact (bl_X6_keepFraction_3 C (k27 := (f_X6_keepFraction_27)) (bl_X6_keepFraction_27 C) 1000) v0 v1 100 S _ _ _ hF hI (lv_sub hl [1, 2, 0] rfl)
noncomputable def f_X6_misheard_54 (v0 : Int32) (S : mS) : Option (Int32 × mS) := mRc 6 v0 S (mC (f_X6_refuseBad v0 (-2) S) (fun r4 S5 => some (r4, S5)))
noncomputable def f_X6_misheard_149 (k67 : Int32 → Int32 → Int32 → Int32 → Int32 → Int32 → Int32 → Int32 → mS → Option (Int32 × mS)) (v0 : Int32) (v1 : Int32) (v2 : Int32) (v3 : Int32) (v4 : Int32) (v5 : Int32) (v6 : Int32) (v7 : Int32) (S : mS) : Option (Int32 × mS) := k67 v0 v1 v2 v3 v4 v5 v6 (v7 + 1) S
noncomputable def f_X6_misheard_117 (k67 : Int32 → Int32 → Int32 → Int32 → Int32 → Int32 → Int32 → Int32 → mS → Option (Int32 × mS)) (v0 : Int32) (v1 : Int32) (v2 : Int32) (v3 : Int32) (v4 : Int32) (v5 : Int32) (v6 : Int32) (v7 : Int32) (v8 : Int32) (v9 : Int32) (t0 : Int32) (t1 : Int32) (S : mS) : Option (Int32 × mS) := mRc 6 v0 S (mC (f_X6_isFoldedByTwo v0 v1 v2 (mRem (v3 + v8) 5) (mRem (v4 + v9) 5) S) (fun r12 S13 => if r12 = 0 then ((f_X6_misheard_149 k67) v0 v1 v2 v3 v4 v5 v6 v7 S13) else ((f_X6_misheard_149 k67) v0 v1 v2 v3 v4 v5 (v6 + (t0 * t1)) v7 S13)))
noncomputable def f_X6_misheard_101 (k67 : Int32 → Int32 → Int32 → Int32 → Int32 → Int32 → Int32 → Int32 → mS → Option (Int32 × mS)) (v0 : Int32) (v1 : Int32) (v2 : Int32) (v3 : Int32) (v4 : Int32) (v5 : Int32) (v6 : Int32) (v7 : Int32) (v8 : Int32) (v9 : Int32) (t0 : Int32) (S : mS) : Option (Int32 × mS) := if v9 = 1 then ((f_X6_misheard_117 k67) v0 v1 v2 v3 v4 v5 v6 v7 v8 v9 t0 v5 S) else ((f_X6_misheard_117 k67) v0 v1 v2 v3 v4 v5 v6 v7 v8 v9 t0 (10 - v5) S)
noncomputable def f_X6_misheard_67 (k155 : Int32 → Int32 → mS → Option (Int32 × mS)) : Nat → Int32 → Int32 → Int32 → Int32 → Int32 → Int32 → Int32 → Int32 → mS → Option (Int32 × mS) := fun n => Nat.rec (motive := fun _ => Int32 → Int32 → Int32 → Int32 → Int32 → Int32 → Int32 → Int32 → mS → Option (Int32 × mS)) (fun _ _ _ _ _ _ _ _ _ => none) (fun _ rec v0 v1 v2 v3 v4 v5 v6 v7 S => if 4 ≤ v7 then (k155 v0 v6 S) else (if (v7 / 2) = 1 then ((f_X6_misheard_101 rec) v0 v1 v2 v3 v4 v5 v6 v7 (v7 / 2) (mRem v7 2) v5 S) else ((f_X6_misheard_101 rec) v0 v1 v2 v3 v4 v5 v6 v7 (v7 / 2) (mRem v7 2) (10 - v5) S))) n
theorem f_X6_misheard_67_s (k155 : Int32 → Int32 → mS → Option (Int32 × mS)) (n : Nat) (v0 : Int32) (v1 : Int32) (v2 : Int32) (v3 : Int32) (v4 : Int32) (v5 : Int32) (v6 : Int32) (v7 : Int32) (S : mS) : f_X6_misheard_67 k155 (n + 1) v0 v1 v2 v3 v4 v5 v6 v7 S = if 4 ≤ v7 then (k155 v0 v6 S) else (if (v7 / 2) = 1 then ((f_X6_misheard_101 (f_X6_misheard_67 k155 n)) v0 v1 v2 v3 v4 v5 v6 v7 (v7 / 2) (mRem v7 2) v5 S) else ((f_X6_misheard_101 (f_X6_misheard_67 k155 n)) v0 v1 v2 v3 v4 v5 v6 v7 (v7 / 2) (mRem v7 2) (10 - v5) S)) := rfl
noncomputable def f_X6_misheard_155 (v0 : Int32) (v6 : Int32) (S : mS) : Option (Int32 × mS) := mRc 6 v0 S (mCv (f_X6_keepFraction v0 v6 S) (fun S15 => some (1, S15)))
noncomputable def f_X6_misheard (v0 : Int32) (v1 : Int32) (v2 : Int32) (v3 : Int32) (v4 : Int32) (v5 : Int32) (S : mS) : Option (Int32 × mS) := mGr 6 0 v0 S (fun r1 => mGr 5 0 r1 S (fun r2 => mRc 1 r2 S (mCp (f_X1_hasSheep r2 v1 S) (fun r3 => if r3 = 0 then ((f_X6_misheard_54) v0 S) else (mGr 6 0 v0 S (fun r6 => mGr 5 0 r6 S (fun r7 => mRc 1 r7 S (mCp (f_X1_hasWhistle r7 v2 S) (fun r8 => if r8 = 0 then ((f_X6_misheard_54) v0 S) else (mCp (f_X6_isCall v3) (fun r9 => if r9 = 0 then ((f_X6_misheard_54) v0 S) else (mCp (f_X6_isCall v4) (fun r10 => if r10 = 0 then ((f_X6_misheard_54) v0 S) else (mCp (f_X6_isWithin v5 0 10) (fun r11 => if r11 = 0 then ((f_X6_misheard_54) v0 S) else ((f_X6_misheard_67 (f_X6_misheard_155) 1000) v0 v1 v2 v3 v4 v5 0 0 S))))))))))))))))
def rm_X6_misheard : Room := { frames := 5, cells := 0, slots := 0, locals := 114 }
set_option maxRecDepth 100000 in
set_option maxHeartbeats 4000000 in
theorem bl_X6_misheard_54 {p : Program} {l : Launch} {e : Env} {s : State} {m : MethodId} {args : Array Value} {below : List Frame} {meth : Method} {c : Code} {E : mE} {n0 : Nat} {F : Int32 × mS} (C : mCx p s m args meth c cX6_misheard 11 RX6 (some .int) E n0) : ∀  (v0 : Int32) (S : mS) (H : Heap) (locs : List Loc) (ls : Array Slot), f_X6_misheard_54 v0 S = some F → mIv s E S H locs 0 → lv_has ls 11 [(0, .ref (mA E.b v0))] → W p l e rm_X6_misheard s m args below meth c H locs 0 0 (mQi below args s 0 0 n0 E F) (F0 m 54 ls []) := by
  have hx := C.1
  have hb := C.2.1
  intro v0 S H locs ls hF hI hl
  refine lv_aload_n hx hb dX6_misheard_54 rfl (lv_at hl 0 rfl) ?_
  refine lv_bipush (v := (-2)) hx hb dX6_misheard_55 (by decide) ?_
  refine m_callVi C cd_X6_72 ⟨rfl, by decide⟩ hl.1 hI hF (fun _ h => ok_X6_refuseBad h) rfl rfl ⟨rfl, rfl, Nat.le_of_ble_eq_true rfl, Nat.le_of_ble_eq_true rfl⟩ ⟨Nat.le_of_ble_eq_true rfl, Nat.le_of_ble_eq_true rfl⟩ (Nat.le_of_ble_eq_true rfl) dX6_misheard_57 (fun r4 S5 H locs hF hI => ?_)
  exact m_ireti C hI hF dX6_misheard_60
set_option maxRecDepth 100000 in
set_option maxHeartbeats 4000000 in
theorem bl_X6_misheard_149 {p : Program} {l : Launch} {e : Env} {s : State} {m : MethodId} {args : Array Value} {below : List Frame} {meth : Method} {c : Code} {E : mE} {n0 : Nat} {F : Int32 × mS} (C : mCx p s m args meth c cX6_misheard 11 RX6 (some .int) E n0) {k67 : Int32 → Int32 → Int32 → Int32 → Int32 → Int32 → Int32 → Int32 → mS → Option (Int32 × mS)} (hk67 : ∀ (v0 : Int32) (v1 : Int32) (v2 : Int32) (v3 : Int32) (v4 : Int32) (v5 : Int32) (v6 : Int32) (v7 : Int32) (S : mS) (H : Heap) (locs : List Loc) (ls : Array Slot), k67 v0 v1 v2 v3 v4 v5 v6 v7 S = some F → mIv s E S H locs 0 → lv_has ls 11 [(0, .ref (mA E.b v0)), (1, .int v1), (2, .int v2), (3, .int v3), (4, .int v4), (5, .int v5), (6, .int v6), (7, .int v7)] → W p l e rm_X6_misheard s m args below meth c H locs 0 0 (mQi below args s 0 0 n0 E F) (F0 m 67 ls [])) : ∀  (v0 : Int32) (v1 : Int32) (v2 : Int32) (v3 : Int32) (v4 : Int32) (v5 : Int32) (v6 : Int32) (v7 : Int32) (S : mS) (H : Heap) (locs : List Loc) (ls : Array Slot), f_X6_misheard_149 k67 v0 v1 v2 v3 v4 v5 v6 v7 S = some F → mIv s E S H locs 0 → lv_has ls 11 [(0, .ref (mA E.b v0)), (1, .int v1), (2, .int v2), (3, .int v3), (4, .int v4), (5, .int v5), (6, .int v6), (7, .int v7)] → W p l e rm_X6_misheard s m args below meth c H locs 0 0 (mQi below args s 0 0 n0 E F) (F0 m 149 ls []) := by
  have hx := C.1
  have hb := C.2.1
  intro v0 v1 v2 v3 v4 v5 v6 v7 S H locs ls hF hI hl
  refine lv_iinc (v := v7 + 1) (lv' := [(7, .int (v7 + 1)), (0, .ref (mA E.b v0)), (1, .int v1), (2, .int v2), (3, .int v3), (4, .int v4), (5, .int v5), (6, .int v6)]) hx hb dX6_misheard_149 hl (k := 7) rfl rfl (by decide) rfl (fun ls hl => ?_)
  refine lv_goto (tgt := 67) hx hb dX6_misheard_152 (by decide) ?_
  exact hk67 v0 v1 v2 v3 v4 v5 v6 (v7 + 1) S _ _ _ hF hI (lv_sub hl [1, 2, 3, 4, 5, 6, 7, 0] rfl)
set_option maxRecDepth 100000 in
set_option maxHeartbeats 4000000 in
theorem bl_X6_misheard_117 {p : Program} {l : Launch} {e : Env} {s : State} {m : MethodId} {args : Array Value} {below : List Frame} {meth : Method} {c : Code} {E : mE} {n0 : Nat} {F : Int32 × mS} (C : mCx p s m args meth c cX6_misheard 11 RX6 (some .int) E n0) {k67 : Int32 → Int32 → Int32 → Int32 → Int32 → Int32 → Int32 → Int32 → mS → Option (Int32 × mS)} (hk67 : ∀ (v0 : Int32) (v1 : Int32) (v2 : Int32) (v3 : Int32) (v4 : Int32) (v5 : Int32) (v6 : Int32) (v7 : Int32) (S : mS) (H : Heap) (locs : List Loc) (ls : Array Slot), k67 v0 v1 v2 v3 v4 v5 v6 v7 S = some F → mIv s E S H locs 0 → lv_has ls 11 [(0, .ref (mA E.b v0)), (1, .int v1), (2, .int v2), (3, .int v3), (4, .int v4), (5, .int v5), (6, .int v6), (7, .int v7)] → W p l e rm_X6_misheard s m args below meth c H locs 0 0 (mQi below args s 0 0 n0 E F) (F0 m 67 ls [])) : ∀  (v0 : Int32) (v1 : Int32) (v2 : Int32) (v3 : Int32) (v4 : Int32) (v5 : Int32) (v6 : Int32) (v7 : Int32) (v8 : Int32) (v9 : Int32) (t0 : Int32) (t1 : Int32) (S : mS) (H : Heap) (locs : List Loc) (ls : Array Slot), f_X6_misheard_117 k67 v0 v1 v2 v3 v4 v5 v6 v7 v8 v9 t0 t1 S = some F → mIv s E S H locs 0 → lv_has ls 11 [(0, .ref (mA E.b v0)), (1, .int v1), (2, .int v2), (3, .int v3), (4, .int v4), (5, .int v5), (6, .int v6), (7, .int v7), (8, .int v8), (9, .int v9)] → W p l e rm_X6_misheard s m args below meth c H locs 0 0 (mQi below args s 0 0 n0 E F) (F0 m 117 ls [.int t1, .int t0]) := by
  have hx := C.1
  have hb := C.2.1
  intro v0 v1 v2 v3 v4 v5 v6 v7 v8 v9 t0 t1 S H locs ls hF hI hl
  refine lv_imul hx hb dX6_misheard_117 ?_
  refine lv_istore (lv' := [(10, .int (t0 * t1)), (0, .ref (mA E.b v0)), (1, .int v1), (2, .int v2), (3, .int v3), (4, .int v4), (5, .int v5), (6, .int v6), (7, .int v7), (8, .int v8), (9, .int v9)]) hx hb dX6_misheard_118 hl (by decide) rfl (fun ls hl => ?_)
  refine lv_aload_n hx hb dX6_misheard_120 rfl (lv_at hl 1 rfl) ?_
  refine lv_iload_n hx hb dX6_misheard_121 rfl (lv_at hl 2 rfl) ?_
  refine lv_iload_n hx hb dX6_misheard_122 rfl (lv_at hl 3 rfl) ?_
  refine lv_iload_n hx hb dX6_misheard_123 rfl (lv_at hl 4 rfl) ?_
  refine lv_iload hx hb dX6_misheard_124 (lv_at hl 9 rfl) ?_
  refine lv_iadd hx hb dX6_misheard_126 ?_
  refine lv_iconst (v := 5) hx hb dX6_misheard_127 (by decide) ?_
  refine m_irem C dX6_misheard_128 (by decide) ?_
  refine lv_iload hx hb dX6_misheard_129 (lv_at hl 5 rfl) ?_
  refine lv_iload hx hb dX6_misheard_131 (lv_at hl 10 rfl) ?_
  refine lv_iadd hx hb dX6_misheard_133 ?_
  refine lv_iconst (v := 5) hx hb dX6_misheard_134 (by decide) ?_
  refine m_irem C dX6_misheard_135 (by decide) ?_
  refine m_callVi C cd_X6_259 ⟨rfl, by decide⟩ hl.1 hI hF (fun _ h => ok_X6_isFoldedByTwo h) rfl rfl ⟨rfl, rfl, Nat.le_of_ble_eq_true rfl, Nat.le_of_ble_eq_true rfl⟩ ⟨Nat.le_of_ble_eq_true rfl, Nat.le_of_ble_eq_true rfl⟩ (Nat.le_of_ble_eq_true rfl) dX6_misheard_136 (fun r12 S13 H locs hF hI => ?_)
  refine m_if_eq C (tgt := 149) hF dX6_misheard_139 (by decide) (fun hF => ?_) (fun hF => ?_)
  · exact (bl_X6_misheard_149 C (k67 := k67) hk67) v0 v1 v2 v3 v4 v5 v6 v7 S13 _ _ _ hF hI (lv_sub hl [1, 2, 3, 4, 5, 6, 7, 8] rfl)
  · refine lv_iload hx hb dX6_misheard_142 (lv_at hl 7 rfl) ?_
    refine lv_iload hx hb dX6_misheard_144 (lv_at hl 0 rfl) ?_
    refine lv_iadd hx hb dX6_misheard_146 ?_
    refine lv_istore (lv' := [(6, .int (v6 + (t0 * t1))), (10, .int (t0 * t1)), (0, .ref (mA E.b v0)), (1, .int v1), (2, .int v2), (3, .int v3), (4, .int v4), (5, .int v5), (7, .int v7), (8, .int v8), (9, .int v9)]) hx hb dX6_misheard_147 hl (by decide) rfl (fun ls hl => ?_)
    exact (bl_X6_misheard_149 C (k67 := k67) hk67) v0 v1 v2 v3 v4 v5 (v6 + (t0 * t1)) v7 S13 _ _ _ hF hI (lv_sub hl [2, 3, 4, 5, 6, 7, 0, 8] rfl)
set_option maxRecDepth 100000 in
set_option maxHeartbeats 4000000 in
theorem bl_X6_misheard_101 {p : Program} {l : Launch} {e : Env} {s : State} {m : MethodId} {args : Array Value} {below : List Frame} {meth : Method} {c : Code} {E : mE} {n0 : Nat} {F : Int32 × mS} (C : mCx p s m args meth c cX6_misheard 11 RX6 (some .int) E n0) {k67 : Int32 → Int32 → Int32 → Int32 → Int32 → Int32 → Int32 → Int32 → mS → Option (Int32 × mS)} (hk67 : ∀ (v0 : Int32) (v1 : Int32) (v2 : Int32) (v3 : Int32) (v4 : Int32) (v5 : Int32) (v6 : Int32) (v7 : Int32) (S : mS) (H : Heap) (locs : List Loc) (ls : Array Slot), k67 v0 v1 v2 v3 v4 v5 v6 v7 S = some F → mIv s E S H locs 0 → lv_has ls 11 [(0, .ref (mA E.b v0)), (1, .int v1), (2, .int v2), (3, .int v3), (4, .int v4), (5, .int v5), (6, .int v6), (7, .int v7)] → W p l e rm_X6_misheard s m args below meth c H locs 0 0 (mQi below args s 0 0 n0 E F) (F0 m 67 ls [])) : ∀  (v0 : Int32) (v1 : Int32) (v2 : Int32) (v3 : Int32) (v4 : Int32) (v5 : Int32) (v6 : Int32) (v7 : Int32) (v8 : Int32) (v9 : Int32) (t0 : Int32) (S : mS) (H : Heap) (locs : List Loc) (ls : Array Slot), f_X6_misheard_101 k67 v0 v1 v2 v3 v4 v5 v6 v7 v8 v9 t0 S = some F → mIv s E S H locs 0 → lv_has ls 11 [(0, .ref (mA E.b v0)), (1, .int v1), (2, .int v2), (3, .int v3), (4, .int v4), (5, .int v5), (6, .int v6), (7, .int v7), (8, .int v8), (9, .int v9)] → W p l e rm_X6_misheard s m args below meth c H locs 0 0 (mQi below args s 0 0 n0 E F) (F0 m 101 ls [.int t0]) := by
  have hx := C.1
  have hb := C.2.1
  intro v0 v1 v2 v3 v4 v5 v6 v7 v8 v9 t0 S H locs ls hF hI hl
  refine lv_iload hx hb dX6_misheard_101 (lv_at hl 9 rfl) ?_
  refine lv_iconst (v := 1) hx hb dX6_misheard_103 (by decide) ?_
  refine m_icmp_ne C (tgt := 112) hF dX6_misheard_104 (by decide) (fun hF => ?_) (fun hF => ?_)
  · refine lv_bipush (v := 10) hx hb dX6_misheard_112 (by decide) ?_
    refine lv_iload hx hb dX6_misheard_114 (lv_at hl 5 rfl) ?_
    refine lv_isub hx hb dX6_misheard_116 ?_
    exact (bl_X6_misheard_117 C (k67 := k67) hk67) v0 v1 v2 v3 v4 v5 v6 v7 v8 v9 t0 (10 - v5) S _ _ _ hF hI (lv_sub hl [0, 1, 2, 3, 4, 5, 6, 7, 8, 9] rfl)
  · refine lv_iload hx hb dX6_misheard_107 (lv_at hl 5 rfl) ?_
    refine lv_goto (tgt := 117) hx hb dX6_misheard_109 (by decide) ?_
    exact (bl_X6_misheard_117 C (k67 := k67) hk67) v0 v1 v2 v3 v4 v5 v6 v7 v8 v9 t0 v5 S _ _ _ hF hI (lv_sub hl [0, 1, 2, 3, 4, 5, 6, 7, 8, 9] rfl)
set_option maxRecDepth 100000 in
set_option maxHeartbeats 4000000 in
theorem bl_X6_misheard_67 {p : Program} {l : Launch} {e : Env} {s : State} {m : MethodId} {args : Array Value} {below : List Frame} {meth : Method} {c : Code} {E : mE} {n0 : Nat} {F : Int32 × mS} (C : mCx p s m args meth c cX6_misheard 11 RX6 (some .int) E n0) {k155 : Int32 → Int32 → mS → Option (Int32 × mS)} (hk155 : ∀ (v0 : Int32) (v6 : Int32) (S : mS) (H : Heap) (locs : List Loc) (ls : Array Slot), k155 v0 v6 S = some F → mIv s E S H locs 0 → lv_has ls 11 [(0, .ref (mA E.b v0)), (6, .int v6)] → W p l e rm_X6_misheard s m args below meth c H locs 0 0 (mQi below args s 0 0 n0 E F) (F0 m 155 ls [])) : ∀ (n : Nat)  (v0 : Int32) (v1 : Int32) (v2 : Int32) (v3 : Int32) (v4 : Int32) (v5 : Int32) (v6 : Int32) (v7 : Int32) (S : mS) (H : Heap) (locs : List Loc) (ls : Array Slot), f_X6_misheard_67 k155 n v0 v1 v2 v3 v4 v5 v6 v7 S = some F → mIv s E S H locs 0 → lv_has ls 11 [(0, .ref (mA E.b v0)), (1, .int v1), (2, .int v2), (3, .int v3), (4, .int v4), (5, .int v5), (6, .int v6), (7, .int v7)] → W p l e rm_X6_misheard s m args below meth c H locs 0 0 (mQi below args s 0 0 n0 E F) (F0 m 67 ls []) := by
  have hx := C.1
  have hb := C.2.1
  intro n
  induction n with
  | zero =>
    intro v0 v1 v2 v3 v4 v5 v6 v7 S H locs ls hF
    exact nomatch (show (none : Option (Int32 × mS)) = some F from hF)
  | succ n ih =>
    intro v0 v1 v2 v3 v4 v5 v6 v7 S H locs ls hF hI hl
    have hF := (f_X6_misheard_67_s k155 n v0 v1 v2 v3 v4 v5 v6 v7 S).symm.trans hF
    refine lv_iload hx hb dX6_misheard_67 (lv_at hl 7 rfl) ?_
    refine lv_iconst (v := 4) hx hb dX6_misheard_69 (by decide) ?_
    refine m_icmp_ge C (tgt := 155) hF dX6_misheard_70 (by decide) (fun hF => ?_) (fun hF => ?_)
    · exact hk155 v0 v6 S _ _ _ hF hI (lv_sub hl [0, 6] rfl)
    · refine lv_iload hx hb dX6_misheard_73 (lv_at hl 7 rfl) ?_
      refine lv_iconst (v := 2) hx hb dX6_misheard_75 (by decide) ?_
      refine lv_idiv hx hb dX6_misheard_76 (by decide) ?_
      refine lv_istore (lv' := [(8, .int (v7 / 2)), (0, .ref (mA E.b v0)), (1, .int v1), (2, .int v2), (3, .int v3), (4, .int v4), (5, .int v5), (6, .int v6), (7, .int v7)]) hx hb dX6_misheard_77 hl (by decide) rfl (fun ls hl => ?_)
      refine lv_iload hx hb dX6_misheard_79 (lv_at hl 8 rfl) ?_
      refine lv_iconst (v := 2) hx hb dX6_misheard_81 (by decide) ?_
      refine m_irem C dX6_misheard_82 (by decide) ?_
      refine lv_istore (lv' := [(9, .int (mRem v7 2)), (8, .int (v7 / 2)), (0, .ref (mA E.b v0)), (1, .int v1), (2, .int v2), (3, .int v3), (4, .int v4), (5, .int v5), (6, .int v6), (7, .int v7)]) hx hb dX6_misheard_83 hl (by decide) rfl (fun ls hl => ?_)
      refine lv_iload hx hb dX6_misheard_85 (lv_at hl 1 rfl) ?_
      refine lv_iconst (v := 1) hx hb dX6_misheard_87 (by decide) ?_
      refine m_icmp_ne C (tgt := 96) hF dX6_misheard_88 (by decide) (fun hF => ?_) (fun hF => ?_)
      · refine lv_bipush (v := 10) hx hb dX6_misheard_96 (by decide) ?_
        refine lv_iload hx hb dX6_misheard_98 (lv_at hl 7 rfl) ?_
        refine lv_isub hx hb dX6_misheard_100 ?_
        exact (bl_X6_misheard_101 C (k67 := (f_X6_misheard_67 k155 n)) ih) v0 v1 v2 v3 v4 v5 v6 v7 (v7 / 2) (mRem v7 2) (10 - v5) S _ _ _ hF hI (lv_sub hl [2, 3, 4, 5, 6, 7, 8, 9, 1, 0] rfl)
      · refine lv_iload hx hb dX6_misheard_91 (lv_at hl 7 rfl) ?_
        refine lv_goto (tgt := 101) hx hb dX6_misheard_93 (by decide) ?_
        exact (bl_X6_misheard_101 C (k67 := (f_X6_misheard_67 k155 n)) ih) v0 v1 v2 v3 v4 v5 v6 v7 (v7 / 2) (mRem v7 2) v5 S _ _ _ hF hI (lv_sub hl [2, 3, 4, 5, 6, 7, 8, 9, 1, 0] rfl)
set_option maxRecDepth 100000 in
set_option maxHeartbeats 4000000 in
theorem bl_X6_misheard_155 {p : Program} {l : Launch} {e : Env} {s : State} {m : MethodId} {args : Array Value} {below : List Frame} {meth : Method} {c : Code} {E : mE} {n0 : Nat} {F : Int32 × mS} (C : mCx p s m args meth c cX6_misheard 11 RX6 (some .int) E n0) : ∀  (v0 : Int32) (v6 : Int32) (S : mS) (H : Heap) (locs : List Loc) (ls : Array Slot), f_X6_misheard_155 v0 v6 S = some F → mIv s E S H locs 0 → lv_has ls 11 [(0, .ref (mA E.b v0)), (6, .int v6)] → W p l e rm_X6_misheard s m args below meth c H locs 0 0 (mQi below args s 0 0 n0 E F) (F0 m 155 ls []) := by
  have hx := C.1
  have hb := C.2.1
  intro v0 v6 S H locs ls hF hI hl
  refine lv_aload_n hx hb dX6_misheard_155 rfl (lv_at hl 0 rfl) ?_
  refine lv_iload hx hb dX6_misheard_156 (lv_at hl 1 rfl) ?_
  refine m_callVv C cd_X6_263 ⟨rfl, by decide⟩ hl.1 hI hF (fun _ h => ok_X6_keepFraction h) rfl rfl ⟨rfl, rfl, Nat.le_of_ble_eq_true rfl, Nat.le_of_ble_eq_true rfl⟩ ⟨Nat.le_of_ble_eq_true rfl, Nat.le_of_ble_eq_true rfl⟩ (Nat.le_of_ble_eq_true rfl) dX6_misheard_158 (fun S15 H locs hF hI => ?_)
  refine lv_iconst (v := 1) hx hb dX6_misheard_161 (by decide) ?_
  exact m_ireti C hI hF dX6_misheard_162
set_option maxRecDepth 100000 in
set_option maxHeartbeats 4000000 in
theorem ok_X6_misheard {l : Launch} {E : mE} {v0 : Int32} {v1 : Int32} {v2 : Int32} {v3 : Int32} {v4 : Int32} {v5 : Int32} {S : mS} {F : Int32 × mS} (hF : f_X6_misheard v0 v1 v2 v3 v4 v5 S = some F) : mMi l yX6_misheard cX6_misheard 11 (some .int) rm_X6_misheard 0 0 [.ref (mA E.b v0), .int v1, .int v2, .int v3, .int v4, .int v5] E S F := by
  refine m_met_i (by decide) (Nat.le_of_ble_eq_true rfl) (fun p e s m args below meth c ls hin C hI hl => ?_)
  have hx := C.1
  have hb := C.2.1
  have hl : lv_has ls 11 [(0, .ref (mA E.b v0)), (1, .int v1), (2, .int v2), (3, .int v3), (4, .int v4), (5, .int v5)] := hl
  generalize s.heap = H at hI ⊢
  generalize ([] : List Loc) = locs at hI ⊢
  refine lv_aload_n hx hb dX6_misheard_0 rfl (lv_at hl 0 rfl) ?_
  refine m_getR C fd_X6_12 hI hF dX6_misheard_1 (fun r1 hF => ?_)
  refine m_getR C fd_X6_76 hI hF dX6_misheard_4 (fun r2 hF => ?_)
  refine lv_iload_n hx hb dX6_misheard_7 rfl (lv_at hl 1 rfl) ?_
  refine m_callViR C cd_X6_167 ⟨rfl, by decide⟩ hl.1 hI hF (fun _ h => ok_X1_hasSheep h) rfl rfl ⟨rfl, rfl, Nat.le_of_ble_eq_true rfl, Nat.le_of_ble_eq_true rfl⟩ ⟨Nat.le_of_ble_eq_true rfl, Nat.le_of_ble_eq_true rfl⟩ (Nat.le_of_ble_eq_true rfl) dX6_misheard_8 (fun r3 H locs hF hI => ?_)
  refine m_if_eq C (tgt := 54) hF dX6_misheard_11 (by decide) (fun hF => ?_) (fun hF => ?_)
  · exact (bl_X6_misheard_54 C) v0 S _ _ _ hF hI (lv_sub hl [0] rfl)
  · refine lv_aload_n hx hb dX6_misheard_14 rfl (lv_at hl 0 rfl) ?_
    refine m_getR C fd_X6_12 hI hF dX6_misheard_15 (fun r6 hF => ?_)
    refine m_getR C fd_X6_76 hI hF dX6_misheard_18 (fun r7 hF => ?_)
    refine lv_iload_n hx hb dX6_misheard_21 rfl (lv_at hl 2 rfl) ?_
    refine m_callViR C cd_X6_134 ⟨rfl, by decide⟩ hl.1 hI hF (fun _ h => ok_X1_hasWhistle h) rfl rfl ⟨rfl, rfl, Nat.le_of_ble_eq_true rfl, Nat.le_of_ble_eq_true rfl⟩ ⟨Nat.le_of_ble_eq_true rfl, Nat.le_of_ble_eq_true rfl⟩ (Nat.le_of_ble_eq_true rfl) dX6_misheard_22 (fun r8 H locs hF hI => ?_)
    refine m_if_eq C (tgt := 54) hF dX6_misheard_25 (by decide) (fun hF => ?_) (fun hF => ?_)
    · exact (bl_X6_misheard_54 C) v0 S _ _ _ hF hI (lv_sub hl [0] rfl)
    · refine lv_iload_n hx hb dX6_misheard_28 rfl (lv_at hl 3 rfl) ?_
      refine m_callSiR C cd_X6_137 hl.1 hI hF (fun _ h => ok_X6_isCall h) rfl rfl ⟨rfl, rfl, Nat.le_of_ble_eq_true rfl, Nat.le_of_ble_eq_true rfl⟩ ⟨Nat.le_of_ble_eq_true rfl, Nat.le_of_ble_eq_true rfl⟩ (Nat.le_of_ble_eq_true rfl) dX6_misheard_29 (fun r9 H locs hF hI => ?_)
      refine m_if_eq C (tgt := 54) hF dX6_misheard_32 (by decide) (fun hF => ?_) (fun hF => ?_)
      · exact (bl_X6_misheard_54 C) v0 S _ _ _ hF hI (lv_sub hl [0] rfl)
      · refine lv_iload hx hb dX6_misheard_35 (lv_at hl 4 rfl) ?_
        refine m_callSiR C cd_X6_137 hl.1 hI hF (fun _ h => ok_X6_isCall h) rfl rfl ⟨rfl, rfl, Nat.le_of_ble_eq_true rfl, Nat.le_of_ble_eq_true rfl⟩ ⟨Nat.le_of_ble_eq_true rfl, Nat.le_of_ble_eq_true rfl⟩ (Nat.le_of_ble_eq_true rfl) dX6_misheard_37 (fun r10 H locs hF hI => ?_)
        refine m_if_eq C (tgt := 54) hF dX6_misheard_40 (by decide) (fun hF => ?_) (fun hF => ?_)
        · exact (bl_X6_misheard_54 C) v0 S _ _ _ hF hI (lv_sub hl [0] rfl)
        · refine lv_iload hx hb dX6_misheard_43 (lv_at hl 5 rfl) ?_
          refine lv_iconst (v := 0) hx hb dX6_misheard_45 (by decide) ?_
          refine lv_bipush (v := 10) hx hb dX6_misheard_46 (by decide) ?_
          refine m_callSiR C cd_X6_118 hl.1 hI hF (fun _ h => ok_X6_isWithin h) rfl rfl ⟨rfl, rfl, Nat.le_of_ble_eq_true rfl, Nat.le_of_ble_eq_true rfl⟩ ⟨Nat.le_of_ble_eq_true rfl, Nat.le_of_ble_eq_true rfl⟩ (Nat.le_of_ble_eq_true rfl) dX6_misheard_48 (fun r11 H locs hF hI => ?_)
          refine m_if_ne C (tgt := 61) hF dX6_misheard_51 (by decide) (fun hF => ?_) (fun hF => ?_)
          · refine lv_iconst (v := 0) hx hb dX6_misheard_61 (by decide) ?_
            refine lv_istore (lv' := [(6, .int 0), (0, .ref (mA E.b v0)), (1, .int v1), (2, .int v2), (3, .int v3), (4, .int v4), (5, .int v5)]) hx hb dX6_misheard_62 hl (by decide) rfl (fun ls hl => ?_)
            refine lv_iconst (v := 0) hx hb dX6_misheard_64 (by decide) ?_
            refine lv_istore (lv' := [(7, .int 0), (6, .int 0), (0, .ref (mA E.b v0)), (1, .int v1), (2, .int v2), (3, .int v3), (4, .int v4), (5, .int v5)]) hx hb dX6_misheard_65 hl (by decide) rfl (fun ls hl => ?_)
            exact (bl_X6_misheard_67 C (k155 := (f_X6_misheard_155)) (bl_X6_misheard_155 C) 1000) v0 v1 v2 v3 v4 v5 0 0 S _ _ _ hF hI (lv_sub hl [2, 3, 4, 5, 6, 7, 1, 0] rfl)
          · exact (bl_X6_misheard_54 C) v0 S _ _ _ hF hI (lv_sub hl [0] rfl)
noncomputable def f_X6_winters_21 (v0 : Int32) (S : mS) : Option (Int32 × mS) := mRc 6 v0 S (mC (f_X6_refuseBad v0 (-2) S) (fun r2 S3 => some (r2, S3)))
noncomputable def f_X6_winters_132 (k48 : Int32 → Int32 → Int64 → Int32 → mS → Option (Int32 × mS)) (v0 : Int32) (v2 : Int32) (v3 : Int64) (v5 : Int32) (S : mS) : Option (Int32 × mS) := k48 v0 v2 v3 (v5 + 1) S
noncomputable def f_X6_winters_48 (k138 : Int32 → mS → Option (Int32 × mS)) : Nat → Int32 → Int32 → Int64 → Int32 → mS → Option (Int32 × mS) := fun n => Nat.rec (motive := fun _ => Int32 → Int32 → Int64 → Int32 → mS → Option (Int32 × mS)) (fun _ _ _ _ _ => none) (fun _ rec v0 v2 v3 v5 S => if v2 ≤ v5 then (k138 v0 S) else (mGr 6 6 v0 S (fun r10 => mRc 1 r10 S (mCp (f_X1_hasWhistle r10 ((mRemL ((mRemL ((v3 * 1103515245) + 12345) 2147483648) / 65536) 3).toInt32) S) (fun r11 => if r11 = 0 then (mGr 6 6 v0 S (fun r12 => mG 1 6 r12 S (fun r13 => mP 1 6 r12 (r13 + 1) S (fun S14 => (f_X6_winters_132 rec) v0 v2 (mRemL ((v3 * 1103515245) + 12345) 2147483648) v5 S14)))) else (mGr 6 6 v0 S (fun r15 => mRc 1 r15 S (mC (f_X1_call r15 ((mRemL ((mRemL ((v3 * 1103515245) + 12345) 2147483648) / 65536) 3).toInt32) ((mRemL ((mRemL ((v3 * 1103515245) + 12345) 2147483648) / 1048576) 5).toInt32) S) (fun r16 S17 => (f_X6_winters_132 rec) v0 v2 (mRemL ((v3 * 1103515245) + 12345) 2147483648) v5 S17))))))))) n
theorem f_X6_winters_48_s (k138 : Int32 → mS → Option (Int32 × mS)) (n : Nat) (v0 : Int32) (v2 : Int32) (v3 : Int64) (v5 : Int32) (S : mS) : f_X6_winters_48 k138 (n + 1) v0 v2 v3 v5 S = if v2 ≤ v5 then (k138 v0 S) else (mGr 6 6 v0 S (fun r10 => mRc 1 r10 S (mCp (f_X1_hasWhistle r10 ((mRemL ((mRemL ((v3 * 1103515245) + 12345) 2147483648) / 65536) 3).toInt32) S) (fun r11 => if r11 = 0 then (mGr 6 6 v0 S (fun r12 => mG 1 6 r12 S (fun r13 => mP 1 6 r12 (r13 + 1) S (fun S14 => (f_X6_winters_132 (f_X6_winters_48 k138 n)) v0 v2 (mRemL ((v3 * 1103515245) + 12345) 2147483648) v5 S14)))) else (mGr 6 6 v0 S (fun r15 => mRc 1 r15 S (mC (f_X1_call r15 ((mRemL ((mRemL ((v3 * 1103515245) + 12345) 2147483648) / 65536) 3).toInt32) ((mRemL ((mRemL ((v3 * 1103515245) + 12345) 2147483648) / 1048576) 5).toInt32) S) (fun r16 S17 => (f_X6_winters_132 (f_X6_winters_48 k138 n)) v0 v2 (mRemL ((v3 * 1103515245) + 12345) 2147483648) v5 S17)))))))) := rfl
noncomputable def f_X6_winters_138 (v0 : Int32) (S : mS) : Option (Int32 × mS) := mGr 6 6 v0 S (fun r18 => mGr 6 0 v0 S (fun r19 => mG 5 5 r19 S (fun r20 => mRc 1 r18 S (mCp (f_X1_manyIn r18 r20 S) (fun r21 => some (r21, S))))))
noncomputable def f_X6_winters (v0 : Int32) (v1 : Int32) (v2 : Int32) (S : mS) : Option (Int32 × mS) := mCp (f_X6_isWithin v1 0 999999) (fun r1 => if r1 = 0 then ((f_X6_winters_21) v0 S) else (mCp (f_X6_isWithin v2 0 60) (fun r4 => if r4 = 0 then ((f_X6_winters_21) v0 S) else (mGr 6 6 v0 S (fun r5 => mGr 6 0 v0 S (fun r6 => mGr 5 0 r6 S (fun r7 => mRc 1 r5 S (mCv (f_X1_copy r5 r7 S) (fun S9 => (f_X6_winters_48 (f_X6_winters_138) 1000) v0 v2 (v1.toInt64) 0 S9)))))))))
def rm_X6_winters : Room := { frames := 4, cells := 0, slots := 0, locals := 90 }
set_option maxRecDepth 100000 in
set_option maxHeartbeats 4000000 in
theorem bl_X6_winters_21 {p : Program} {l : Launch} {e : Env} {s : State} {m : MethodId} {args : Array Value} {below : List Frame} {meth : Method} {c : Code} {E : mE} {n0 : Nat} {F : Int32 × mS} (C : mCx p s m args meth c cX6_winters 8 RX6 (some .int) E n0) : ∀  (v0 : Int32) (S : mS) (H : Heap) (locs : List Loc) (ls : Array Slot), f_X6_winters_21 v0 S = some F → mIv s E S H locs 0 → lv_has ls 8 [(0, .ref (mA E.b v0))] → W p l e rm_X6_winters s m args below meth c H locs 0 0 (mQi below args s 0 0 n0 E F) (F0 m 21 ls []) := by
  have hx := C.1
  have hb := C.2.1
  intro v0 S H locs ls hF hI hl
  refine lv_aload_n hx hb dX6_winters_21 rfl (lv_at hl 0 rfl) ?_
  refine lv_bipush (v := (-2)) hx hb dX6_winters_22 (by decide) ?_
  refine m_callVi C cd_X6_72 ⟨rfl, by decide⟩ hl.1 hI hF (fun _ h => ok_X6_refuseBad h) rfl rfl ⟨rfl, rfl, Nat.le_of_ble_eq_true rfl, Nat.le_of_ble_eq_true rfl⟩ ⟨Nat.le_of_ble_eq_true rfl, Nat.le_of_ble_eq_true rfl⟩ (Nat.le_of_ble_eq_true rfl) dX6_winters_24 (fun r2 S3 H locs hF hI => ?_)
  exact m_ireti C hI hF dX6_winters_27
set_option maxRecDepth 100000 in
set_option maxHeartbeats 4000000 in
theorem bl_X6_winters_132 {p : Program} {l : Launch} {e : Env} {s : State} {m : MethodId} {args : Array Value} {below : List Frame} {meth : Method} {c : Code} {E : mE} {n0 : Nat} {F : Int32 × mS} (C : mCx p s m args meth c cX6_winters 8 RX6 (some .int) E n0) {k48 : Int32 → Int32 → Int64 → Int32 → mS → Option (Int32 × mS)} (hk48 : ∀ (v0 : Int32) (v2 : Int32) (v3 : Int64) (v5 : Int32) (S : mS) (H : Heap) (locs : List Loc) (ls : Array Slot), k48 v0 v2 v3 v5 S = some F → mIv s E S H locs 0 → lv_has ls 8 [(0, .ref (mA E.b v0)), (2, .int v2), (3, .long v3), (5, .int v5)] → W p l e rm_X6_winters s m args below meth c H locs 0 0 (mQi below args s 0 0 n0 E F) (F0 m 48 ls [])) : ∀  (v0 : Int32) (v2 : Int32) (v3 : Int64) (v5 : Int32) (S : mS) (H : Heap) (locs : List Loc) (ls : Array Slot), f_X6_winters_132 k48 v0 v2 v3 v5 S = some F → mIv s E S H locs 0 → lv_has ls 8 [(0, .ref (mA E.b v0)), (2, .int v2), (3, .long v3), (5, .int v5)] → W p l e rm_X6_winters s m args below meth c H locs 0 0 (mQi below args s 0 0 n0 E F) (F0 m 132 ls []) := by
  have hx := C.1
  have hb := C.2.1
  intro v0 v2 v3 v5 S H locs ls hF hI hl
  refine lv_iinc (v := v5 + 1) (lv' := [(5, .int (v5 + 1)), (0, .ref (mA E.b v0)), (2, .int v2), (3, .long v3)]) hx hb dX6_winters_132 hl (k := 3) rfl rfl (by decide) rfl (fun ls hl => ?_)
  refine lv_goto (tgt := 48) hx hb dX6_winters_135 (by decide) ?_
  exact hk48 v0 v2 v3 (v5 + 1) S _ _ _ hF hI (lv_sub hl [1, 2, 3, 0] rfl)
set_option maxRecDepth 100000 in
set_option maxHeartbeats 4000000 in
theorem bl_X6_winters_48 {p : Program} {l : Launch} {e : Env} {s : State} {m : MethodId} {args : Array Value} {below : List Frame} {meth : Method} {c : Code} {E : mE} {n0 : Nat} {F : Int32 × mS} (C : mCx p s m args meth c cX6_winters 8 RX6 (some .int) E n0) {k138 : Int32 → mS → Option (Int32 × mS)} (hk138 : ∀ (v0 : Int32) (S : mS) (H : Heap) (locs : List Loc) (ls : Array Slot), k138 v0 S = some F → mIv s E S H locs 0 → lv_has ls 8 [(0, .ref (mA E.b v0))] → W p l e rm_X6_winters s m args below meth c H locs 0 0 (mQi below args s 0 0 n0 E F) (F0 m 138 ls [])) : ∀ (n : Nat)  (v0 : Int32) (v2 : Int32) (v3 : Int64) (v5 : Int32) (S : mS) (H : Heap) (locs : List Loc) (ls : Array Slot), f_X6_winters_48 k138 n v0 v2 v3 v5 S = some F → mIv s E S H locs 0 → lv_has ls 8 [(0, .ref (mA E.b v0)), (2, .int v2), (3, .long v3), (5, .int v5)] → W p l e rm_X6_winters s m args below meth c H locs 0 0 (mQi below args s 0 0 n0 E F) (F0 m 48 ls []) := by
  have hx := C.1
  have hb := C.2.1
  intro n
  induction n with
  | zero =>
    intro v0 v2 v3 v5 S H locs ls hF
    exact nomatch (show (none : Option (Int32 × mS)) = some F from hF)
  | succ n ih =>
    intro v0 v2 v3 v5 S H locs ls hF hI hl
    have hF := (f_X6_winters_48_s k138 n v0 v2 v3 v5 S).symm.trans hF
    refine lv_iload hx hb dX6_winters_48 (lv_at hl 3 rfl) ?_
    refine lv_iload_n hx hb dX6_winters_50 rfl (lv_at hl 1 rfl) ?_
    refine m_icmp_ge C (tgt := 138) hF dX6_winters_51 (by decide) (fun hF => ?_) (fun hF => ?_)
    · exact hk138 v0 S _ _ _ hF hI (lv_sub hl [0] rfl)
    · refine lv_lload_n hx hb dX6_winters_54 rfl (lv_at hl 2 rfl) ?_
      refine lv_ldc2 (v := 1103515245) hx hb C.2.2.2.1 (C.2.2.2.2.1 _ kw_X6_267) dX6_winters_55 ?_
      refine lv_lmul hx hb dX6_winters_58 ?_
      refine lv_ldc2 (v := 12345) hx hb C.2.2.2.1 (C.2.2.2.2.1 _ kw_X6_269) dX6_winters_59 ?_
      refine lv_ladd hx hb dX6_winters_62 ?_
      refine lv_ldc2 (v := 2147483648) hx hb C.2.2.2.1 (C.2.2.2.2.1 _ kw_X6_271) dX6_winters_63 ?_
      refine m_lrem C dX6_winters_66 (by decide) ?_
      refine lv_lstore_n (lv' := [(3, .long (mRemL ((v3 * 1103515245) + 12345) 2147483648)), (0, .ref (mA E.b v0)), (2, .int v2), (5, .int v5)]) hx hb dX6_winters_67 rfl hl (by decide) rfl (fun ls hl => ?_)
      refine lv_lload_n hx hb dX6_winters_68 rfl (lv_at hl 0 rfl) ?_
      refine lv_ldc2 (v := 65536) hx hb C.2.2.2.1 (C.2.2.2.2.1 _ kw_X6_273) dX6_winters_69 ?_
      refine lv_ldiv hx hb dX6_winters_72 (by decide) ?_
      refine lv_ldc2 (v := 3) hx hb C.2.2.2.1 (C.2.2.2.2.1 _ kw_X6_275) dX6_winters_73 ?_
      refine m_lrem C dX6_winters_76 (by decide) ?_
      refine lv_l2i hx hb dX6_winters_77 rfl ?_
      refine lv_istore (lv' := [(6, .int ((mRemL ((mRemL ((v3 * 1103515245) + 12345) 2147483648) / 65536) 3).toInt32)), (3, .long (mRemL ((v3 * 1103515245) + 12345) 2147483648)), (0, .ref (mA E.b v0)), (2, .int v2), (5, .int v5)]) hx hb dX6_winters_78 hl (by decide) rfl (fun ls hl => ?_)
      refine lv_lload_n hx hb dX6_winters_80 rfl (lv_at hl 1 rfl) ?_
      refine lv_ldc2 (v := 1048576) hx hb C.2.2.2.1 (C.2.2.2.2.1 _ kw_X6_277) dX6_winters_81 ?_
      refine lv_ldiv hx hb dX6_winters_84 (by decide) ?_
      refine lv_ldc2 (v := 5) hx hb C.2.2.2.1 (C.2.2.2.2.1 _ kw_X6_279) dX6_winters_85 ?_
      refine m_lrem C dX6_winters_88 (by decide) ?_
      refine lv_l2i hx hb dX6_winters_89 rfl ?_
      refine lv_istore (lv' := [(7, .int ((mRemL ((mRemL ((v3 * 1103515245) + 12345) 2147483648) / 1048576) 5).toInt32)), (6, .int ((mRemL ((mRemL ((v3 * 1103515245) + 12345) 2147483648) / 65536) 3).toInt32)), (3, .long (mRemL ((v3 * 1103515245) + 12345) 2147483648)), (0, .ref (mA E.b v0)), (2, .int v2), (5, .int v5)]) hx hb dX6_winters_90 hl (by decide) rfl (fun ls hl => ?_)
      refine lv_aload_n hx hb dX6_winters_92 rfl (lv_at hl 3 rfl) ?_
      refine m_getR C fd_X6_44 hI hF dX6_winters_93 (fun r10 hF => ?_)
      refine lv_iload hx hb dX6_winters_96 (lv_at hl 1 rfl) ?_
      refine m_callViR C cd_X6_134 ⟨rfl, by decide⟩ hl.1 hI hF (fun _ h => ok_X1_hasWhistle h) rfl rfl ⟨rfl, rfl, Nat.le_of_ble_eq_true rfl, Nat.le_of_ble_eq_true rfl⟩ ⟨Nat.le_of_ble_eq_true rfl, Nat.le_of_ble_eq_true rfl⟩ (Nat.le_of_ble_eq_true rfl) dX6_winters_98 (fun r11 H locs hF hI => ?_)
      refine m_if_eq C (tgt := 119) hF dX6_winters_101 (by decide) (fun hF => ?_) (fun hF => ?_)
      · refine lv_aload_n hx hb dX6_winters_119 rfl (lv_at hl 3 rfl) ?_
        refine m_getR C fd_X6_44 hI hF dX6_winters_120 (fun r12 hF => ?_)
        refine lv_dup hx hb dX6_winters_123 rfl ?_
        refine m_get C fd_X6_140 hI hF dX6_winters_124 (fun r13 hF => ?_)
        refine lv_iconst (v := 1) hx hb dX6_winters_127 (by decide) ?_
        refine lv_iadd hx hb dX6_winters_128 ?_
        refine m_put C fd_X6_140 hI hF dX6_winters_129 (fun S14 H locs hF hI => ?_)
        exact (bl_X6_winters_132 C (k48 := (f_X6_winters_48 k138 n)) ih) v0 v2 (mRemL ((v3 * 1103515245) + 12345) 2147483648) v5 S14 _ _ _ hF hI (lv_sub hl [3, 4, 2, 5] rfl)
      · refine lv_aload_n hx hb dX6_winters_104 rfl (lv_at hl 3 rfl) ?_
        refine m_getR C fd_X6_44 hI hF dX6_winters_105 (fun r15 hF => ?_)
        refine lv_iload hx hb dX6_winters_108 (lv_at hl 1 rfl) ?_
        refine lv_iload hx hb dX6_winters_110 (lv_at hl 0 rfl) ?_
        refine m_callVi C cd_X6_147 ⟨rfl, by decide⟩ hl.1 hI hF (fun _ h => ok_X1_call h) rfl rfl ⟨rfl, rfl, Nat.le_of_ble_eq_true rfl, Nat.le_of_ble_eq_true rfl⟩ ⟨Nat.le_of_ble_eq_true rfl, Nat.le_of_ble_eq_true rfl⟩ (Nat.le_of_ble_eq_true rfl) dX6_winters_112 (fun r16 S17 H locs hF hI => ?_)
        refine lv_pop hx hb dX6_winters_115 rfl ?_
        refine lv_goto (tgt := 132) hx hb dX6_winters_116 (by decide) ?_
        exact (bl_X6_winters_132 C (k48 := (f_X6_winters_48 k138 n)) ih) v0 v2 (mRemL ((v3 * 1103515245) + 12345) 2147483648) v5 S17 _ _ _ hF hI (lv_sub hl [3, 4, 2, 5] rfl)
set_option maxRecDepth 100000 in
set_option maxHeartbeats 4000000 in
theorem bl_X6_winters_138 {p : Program} {l : Launch} {e : Env} {s : State} {m : MethodId} {args : Array Value} {below : List Frame} {meth : Method} {c : Code} {E : mE} {n0 : Nat} {F : Int32 × mS} (C : mCx p s m args meth c cX6_winters 8 RX6 (some .int) E n0) : ∀  (v0 : Int32) (S : mS) (H : Heap) (locs : List Loc) (ls : Array Slot), f_X6_winters_138 v0 S = some F → mIv s E S H locs 0 → lv_has ls 8 [(0, .ref (mA E.b v0))] → W p l e rm_X6_winters s m args below meth c H locs 0 0 (mQi below args s 0 0 n0 E F) (F0 m 138 ls []) := by
  have hx := C.1
  have hb := C.2.1
  intro v0 S H locs ls hF hI hl
  refine lv_aload_n hx hb dX6_winters_138 rfl (lv_at hl 0 rfl) ?_
  refine m_getR C fd_X6_44 hI hF dX6_winters_139 (fun r18 hF => ?_)
  refine lv_aload_n hx hb dX6_winters_142 rfl (lv_at hl 0 rfl) ?_
  refine m_getR C fd_X6_12 hI hF dX6_winters_143 (fun r19 hF => ?_)
  refine m_get C fd_X6_112 hI hF dX6_winters_146 (fun r20 hF => ?_)
  refine m_callViR C cd_X6_281 ⟨rfl, by decide⟩ hl.1 hI hF (fun _ h => ok_X1_manyIn h) rfl rfl ⟨rfl, rfl, Nat.le_of_ble_eq_true rfl, Nat.le_of_ble_eq_true rfl⟩ ⟨Nat.le_of_ble_eq_true rfl, Nat.le_of_ble_eq_true rfl⟩ (Nat.le_of_ble_eq_true rfl) dX6_winters_149 (fun r21 H locs hF hI => ?_)
  exact m_ireti C hI hF dX6_winters_152
set_option maxRecDepth 100000 in
set_option maxHeartbeats 4000000 in
theorem ok_X6_winters {l : Launch} {E : mE} {v0 : Int32} {v1 : Int32} {v2 : Int32} {S : mS} {F : Int32 × mS} (hF : f_X6_winters v0 v1 v2 S = some F) : mMi l yX6_winters cX6_winters 8 (some .int) rm_X6_winters 0 0 [.ref (mA E.b v0), .int v1, .int v2] E S F := by
  refine m_met_i (by decide) (Nat.le_of_ble_eq_true rfl) (fun p e s m args below meth c ls hin C hI hl => ?_)
  have hx := C.1
  have hb := C.2.1
  have hl : lv_has ls 8 [(0, .ref (mA E.b v0)), (1, .int v1), (2, .int v2)] := hl
  generalize s.heap = H at hI ⊢
  generalize ([] : List Loc) = locs at hI ⊢
  refine lv_iload_n hx hb dX6_winters_0 rfl (lv_at hl 1 rfl) ?_
  refine lv_iconst (v := 0) hx hb dX6_winters_1 (by decide) ?_
  refine lv_ldcw (v := 999999) hx hb C.2.2.2.1 (C.2.2.2.2.1 _ kw_X6_266) dX6_winters_2 ?_
  refine m_callSiR C cd_X6_118 hl.1 hI hF (fun _ h => ok_X6_isWithin h) rfl rfl ⟨rfl, rfl, Nat.le_of_ble_eq_true rfl, Nat.le_of_ble_eq_true rfl⟩ ⟨Nat.le_of_ble_eq_true rfl, Nat.le_of_ble_eq_true rfl⟩ (Nat.le_of_ble_eq_true rfl) dX6_winters_5 (fun r1 H locs hF hI => ?_)
  refine m_if_eq C (tgt := 21) hF dX6_winters_8 (by decide) (fun hF => ?_) (fun hF => ?_)
  · exact (bl_X6_winters_21 C) v0 S _ _ _ hF hI (lv_sub hl [0] rfl)
  · refine lv_iload_n hx hb dX6_winters_11 rfl (lv_at hl 2 rfl) ?_
    refine lv_iconst (v := 0) hx hb dX6_winters_12 (by decide) ?_
    refine lv_bipush (v := 60) hx hb dX6_winters_13 (by decide) ?_
    refine m_callSiR C cd_X6_118 hl.1 hI hF (fun _ h => ok_X6_isWithin h) rfl rfl ⟨rfl, rfl, Nat.le_of_ble_eq_true rfl, Nat.le_of_ble_eq_true rfl⟩ ⟨Nat.le_of_ble_eq_true rfl, Nat.le_of_ble_eq_true rfl⟩ (Nat.le_of_ble_eq_true rfl) dX6_winters_15 (fun r4 H locs hF hI => ?_)
    refine m_if_ne C (tgt := 28) hF dX6_winters_18 (by decide) (fun hF => ?_) (fun hF => ?_)
    · refine lv_aload_n hx hb dX6_winters_28 rfl (lv_at hl 0 rfl) ?_
      refine m_getR C fd_X6_44 hI hF dX6_winters_29 (fun r5 hF => ?_)
      refine lv_aload_n hx hb dX6_winters_32 rfl (lv_at hl 0 rfl) ?_
      refine m_getR C fd_X6_12 hI hF dX6_winters_33 (fun r6 hF => ?_)
      refine m_getR C fd_X6_76 hI hF dX6_winters_36 (fun r7 hF => ?_)
      refine m_callVv C cd_X6_196 ⟨rfl, by decide⟩ hl.1 hI hF (fun _ h => ok_X1_copy h) rfl rfl ⟨rfl, rfl, Nat.le_of_ble_eq_true rfl, Nat.le_of_ble_eq_true rfl⟩ ⟨Nat.le_of_ble_eq_true rfl, Nat.le_of_ble_eq_true rfl⟩ (Nat.le_of_ble_eq_true rfl) dX6_winters_39 (fun S9 H locs hF hI => ?_)
      refine lv_iload_n hx hb dX6_winters_42 rfl (lv_at hl 1 rfl) ?_
      refine lv_i2l hx hb dX6_winters_43 rfl ?_
      refine lv_lstore_n (lv' := [(3, .long (v1.toInt64)), (0, .ref (mA E.b v0)), (1, .int v1), (2, .int v2)]) hx hb dX6_winters_44 rfl hl (by decide) rfl (fun ls hl => ?_)
      refine lv_iconst (v := 0) hx hb dX6_winters_45 (by decide) ?_
      refine lv_istore (lv' := [(5, .int 0), (3, .long (v1.toInt64)), (0, .ref (mA E.b v0)), (1, .int v1), (2, .int v2)]) hx hb dX6_winters_46 hl (by decide) rfl (fun ls hl => ?_)
      exact (bl_X6_winters_48 C (k138 := (f_X6_winters_138)) (bl_X6_winters_138 C) 1000) v0 v2 (v1.toInt64) 0 S9 _ _ _ hF hI (lv_sub hl [2, 4, 1, 0] rfl)
    · exact (bl_X6_winters_21 C) v0 S _ _ _ hF hI (lv_sub hl [0] rfl)
noncomputable def f_X6_part_34 (t0 : Int64) (S : mS) : Option (Int64 × mS) := some (t0, S)
noncomputable def f_X6_part (v0 : Int32) (v1 : Int32) (S : mS) : Option (Int64 × mS) := mCp (f_X6_isWithin v1 0 1) (fun r1 => if r1 = 0 then (mRc 6 v0 S (mC (f_X6_refuseBad v0 (-2) S) (fun r4 S5 => some (r4.toInt64, S5)))) else (if v1 = 0 then (mG 6 12 v0 S (fun r3 => (f_X6_part_34) (r3.toInt64) S)) else (mG 6 13 v0 S (fun r2 => (f_X6_part_34) (r2.toInt64) S))))
def rm_X6_part : Room := { frames := 1, cells := 0, slots := 0, locals := 22 }
set_option maxRecDepth 100000 in
set_option maxHeartbeats 4000000 in
theorem bl_X6_part_34 {p : Program} {l : Launch} {e : Env} {s : State} {m : MethodId} {args : Array Value} {below : List Frame} {meth : Method} {c : Code} {E : mE} {n0 : Nat} {F : Int64 × mS} (C : mCx p s m args meth c cX6_part 2 RX6 (some .long) E n0) : ∀  (t0 : Int64) (S : mS) (H : Heap) (locs : List Loc) (ls : Array Slot), f_X6_part_34 t0 S = some F → mIv s E S H locs 0 → lv_has ls 2 [] → W p l e rm_X6_part s m args below meth c H locs 0 0 (mQl below args s 0 0 n0 E F) (F0 m 34 ls [.long t0]) := by
  have hx := C.1
  have hb := C.2.1
  intro t0 S H locs ls hF hI hl
  exact m_lret C hI hF dX6_part_34
set_option maxRecDepth 100000 in
set_option maxHeartbeats 4000000 in
theorem ok_X6_part {l : Launch} {E : mE} {v0 : Int32} {v1 : Int32} {S : mS} {F : Int64 × mS} (hF : f_X6_part v0 v1 S = some F) : mMl l yX6_part cX6_part 2 (some .long) rm_X6_part 0 0 [.ref (mA E.b v0), .int v1] E S F := by
  refine m_met_l (by decide) (Nat.le_of_ble_eq_true rfl) (fun p e s m args below meth c ls hin C hI hl => ?_)
  have hx := C.1
  have hb := C.2.1
  have hl : lv_has ls 2 [(0, .ref (mA E.b v0)), (1, .int v1)] := hl
  generalize s.heap = H at hI ⊢
  generalize ([] : List Loc) = locs at hI ⊢
  refine lv_iload_n hx hb dX6_part_0 rfl (lv_at hl 1 rfl) ?_
  refine lv_iconst (v := 0) hx hb dX6_part_1 (by decide) ?_
  refine lv_iconst (v := 1) hx hb dX6_part_2 (by decide) ?_
  refine m_callSiR C cd_X6_118 hl.1 hI hF (fun _ h => ok_X6_isWithin h) rfl rfl ⟨rfl, rfl, Nat.le_of_ble_eq_true rfl, Nat.le_of_ble_eq_true rfl⟩ ⟨Nat.le_of_ble_eq_true rfl, Nat.le_of_ble_eq_true rfl⟩ (Nat.le_of_ble_eq_true rfl) dX6_part_3 (fun r1 H locs hF hI => ?_)
  refine m_if_ne C (tgt := 17) hF dX6_part_6 (by decide) (fun hF => ?_) (fun hF => ?_)
  · refine lv_iload_n hx hb dX6_part_17 rfl (lv_at hl 1 rfl) ?_
    refine m_if_ne C (tgt := 29) hF dX6_part_18 (by decide) (fun hF => ?_) (fun hF => ?_)
    · refine lv_aload_n hx hb dX6_part_29 rfl (lv_at hl 0 rfl) ?_
      refine m_get C fd_X6_64 hI hF dX6_part_30 (fun r2 hF => ?_)
      refine lv_i2l hx hb dX6_part_33 rfl ?_
      exact (bl_X6_part_34 C) (r2.toInt64) S _ _ _ hF hI (lv_sub hl [] rfl)
    · refine lv_aload_n hx hb dX6_part_21 rfl (lv_at hl 0 rfl) ?_
      refine m_get C fd_X6_284 hI hF dX6_part_22 (fun r3 hF => ?_)
      refine lv_i2l hx hb dX6_part_25 rfl ?_
      refine lv_goto (tgt := 34) hx hb dX6_part_26 (by decide) ?_
      exact (bl_X6_part_34 C) (r3.toInt64) S _ _ _ hF hI (lv_sub hl [] rfl)
  · refine lv_aload_n hx hb dX6_part_9 rfl (lv_at hl 0 rfl) ?_
    refine lv_bipush (v := (-2)) hx hb dX6_part_10 (by decide) ?_
    refine m_callVi C cd_X6_72 ⟨rfl, by decide⟩ hl.1 hI hF (fun _ h => ok_X6_refuseBad h) rfl rfl ⟨rfl, rfl, Nat.le_of_ble_eq_true rfl, Nat.le_of_ble_eq_true rfl⟩ ⟨Nat.le_of_ble_eq_true rfl, Nat.le_of_ble_eq_true rfl⟩ (Nat.le_of_ble_eq_true rfl) dX6_part_12 (fun r4 S5 H locs hF hI => ?_)
    refine lv_i2l hx hb dX6_part_15 rfl ?_
    exact m_lret C hI hF dX6_part_16
noncomputable def f_X6_isImage (v0 : Int32) : Option Int32 := mCp (f_X6_isWithin v0 0 1) (fun r1 => mZ r1 (some r1))
def rm_X6_isImage : Room := { frames := 1, cells := 0, slots := 0, locals := 22 }
set_option maxRecDepth 100000 in
set_option maxHeartbeats 4000000 in
theorem ok_X6_isImage {l : Launch} {E : mE} {v0 : Int32} {S : mS} {r : Int32} (hF : f_X6_isImage v0 = some r) : mMi l yX6_isImage cX6_isImage 1 (some .boolean) rm_X6_isImage 0 0 [.int v0] E S (r, S) := by
  refine m_met_i (by decide) (Nat.le_of_ble_eq_true rfl) (fun p e s m args below meth c ls hin C hI hl => ?_)
  have hx := C.1
  have hb := C.2.1
  have hl : lv_has ls 1 [(0, .int v0)] := hl
  generalize s.heap = H at hI ⊢
  generalize ([] : List Loc) = locs at hI ⊢
  refine lv_iload_n hx hb dX6_isImage_0 rfl (lv_at hl 0 rfl) ?_
  refine lv_iconst (v := 0) hx hb dX6_isImage_1 (by decide) ?_
  refine lv_iconst (v := 1) hx hb dX6_isImage_2 (by decide) ?_
  refine m_callSiR C cd_X6_118 hl.1 hI hF (fun _ h => ok_X6_isWithin h) rfl rfl ⟨rfl, rfl, Nat.le_of_ble_eq_true rfl, Nat.le_of_ble_eq_true rfl⟩ ⟨Nat.le_of_ble_eq_true rfl, Nat.le_of_ble_eq_true rfl⟩ (Nat.le_of_ble_eq_true rfl) dX6_isImage_3 (fun r1 H locs hF hI => ?_)
  exact m_iretzR C hI hF dX6_isImage_6
noncomputable def f_X6_image (v0 : Int32) (v1 : Int32) (S : mS) : Option (Int32 × mS) := mCp (f_X6_isImage v1) (fun r1 => if r1 = 0 then (mRc 6 v0 S (mC (f_X6_refuseBad v0 (-2) S) (fun r9 S10 => some (r9, S10)))) else (mGr 6 2 v0 S (fun r2 => mXr r2 v1 S (fun r3 => mGr 6 0 v0 S (fun r4 => mRc 5 r3 S (mCv (f_X5_copy r3 r4 S) (fun S6 => mGr 6 3 v0 S6 (fun r7 => mXz r7 v1 1 S6 (fun S8 => some (1, S8))))))))))
def rm_X6_image : Room := { frames := 3, cells := 0, slots := 0, locals := 60 }
set_option maxRecDepth 100000 in
set_option maxHeartbeats 4000000 in
theorem ok_X6_image {l : Launch} {E : mE} {v0 : Int32} {v1 : Int32} {S : mS} {F : Int32 × mS} (hF : f_X6_image v0 v1 S = some F) : mMi l yX6_image cX6_image 2 (some .int) rm_X6_image 0 0 [.ref (mA E.b v0), .int v1] E S F := by
  refine m_met_i (by decide) (Nat.le_of_ble_eq_true rfl) (fun p e s m args below meth c ls hin C hI hl => ?_)
  have hx := C.1
  have hb := C.2.1
  have hl : lv_has ls 2 [(0, .ref (mA E.b v0)), (1, .int v1)] := hl
  generalize s.heap = H at hI ⊢
  generalize ([] : List Loc) = locs at hI ⊢
  refine lv_iload_n hx hb dX6_image_0 rfl (lv_at hl 1 rfl) ?_
  refine m_callSiR C cd_X6_287 hl.1 hI hF (fun _ h => ok_X6_isImage h) rfl rfl ⟨rfl, rfl, Nat.le_of_ble_eq_true rfl, Nat.le_of_ble_eq_true rfl⟩ ⟨Nat.le_of_ble_eq_true rfl, Nat.le_of_ble_eq_true rfl⟩ (Nat.le_of_ble_eq_true rfl) dX6_image_1 (fun r1 H locs hF hI => ?_)
  refine m_if_ne C (tgt := 14) hF dX6_image_4 (by decide) (fun hF => ?_) (fun hF => ?_)
  · refine lv_aload_n hx hb dX6_image_14 rfl (lv_at hl 0 rfl) ?_
    refine m_getR C fd_X6_19 hI hF dX6_image_15 (fun r2 hF => ?_)
    refine lv_iload_n hx hb dX6_image_18 rfl (lv_at hl 1 rfl) ?_
    refine m_aald C hI hF dX6_image_19 (fun r3 hF => ?_)
    refine lv_aload_n hx hb dX6_image_20 rfl (lv_at hl 0 rfl) ?_
    refine m_getR C fd_X6_12 hI hF dX6_image_21 (fun r4 hF => ?_)
    refine m_callVv C cd_X6_130 ⟨rfl, by decide⟩ hl.1 hI hF (fun _ h => ok_X5_copy h) rfl rfl ⟨rfl, rfl, Nat.le_of_ble_eq_true rfl, Nat.le_of_ble_eq_true rfl⟩ ⟨Nat.le_of_ble_eq_true rfl, Nat.le_of_ble_eq_true rfl⟩ (Nat.le_of_ble_eq_true rfl) dX6_image_24 (fun S6 H locs hF hI => ?_)
    refine lv_aload_n hx hb dX6_image_27 rfl (lv_at hl 0 rfl) ?_
    refine m_getR C fd_X6_23 hI hF dX6_image_28 (fun r7 hF => ?_)
    refine lv_iload_n hx hb dX6_image_31 rfl (lv_at hl 1 rfl) ?_
    refine lv_iconst (v := 1) hx hb dX6_image_32 (by decide) ?_
    refine m_zast C hI hF dX6_image_33 (fun S8 H locs hF hI => ?_)
    refine lv_iconst (v := 1) hx hb dX6_image_34 (by decide) ?_
    exact m_ireti C hI hF dX6_image_35
  · refine lv_aload_n hx hb dX6_image_7 rfl (lv_at hl 0 rfl) ?_
    refine lv_bipush (v := (-2)) hx hb dX6_image_8 (by decide) ?_
    refine m_callVi C cd_X6_72 ⟨rfl, by decide⟩ hl.1 hI hF (fun _ h => ok_X6_refuseBad h) rfl rfl ⟨rfl, rfl, Nat.le_of_ble_eq_true rfl, Nat.le_of_ble_eq_true rfl⟩ ⟨Nat.le_of_ble_eq_true rfl, Nat.le_of_ble_eq_true rfl⟩ (Nat.le_of_ble_eq_true rfl) dX6_image_10 (fun r9 S10 H locs hF hI => ?_)
    exact m_ireti C hI hF dX6_image_13
noncomputable def f_X6_from (v0 : Int32) (v1 : Int32) (S : mS) : Option (Int32 × mS) := mCp (f_X6_isImage v1) (fun r1 => if r1 = 0 then (mRc 6 v0 S (mC (f_X6_refuseBad v0 (-2) S) (fun r11 S12 => some (r11, S12)))) else (mGr 6 3 v0 S (fun r2 => mX 10 r2 v1 S (fun r3 => if r3 = 0 then (mRc 6 v0 S (mC (f_X6_refuseNo v0 S) (fun r9 S10 => some (r9, S10)))) else (mGr 6 0 v0 S (fun r4 => mGr 6 2 v0 S (fun r5 => mXr r5 v1 S (fun r6 => mRc 5 r4 S (mCv (f_X5_copy r4 r6 S) (fun S8 => some (1, S8)))))))))))
def rm_X6_from : Room := { frames := 3, cells := 0, slots := 0, locals := 60 }
set_option maxRecDepth 100000 in
set_option maxHeartbeats 4000000 in
theorem ok_X6_from {l : Launch} {E : mE} {v0 : Int32} {v1 : Int32} {S : mS} {F : Int32 × mS} (hF : f_X6_from v0 v1 S = some F) : mMi l yX6_from cX6_from 2 (some .int) rm_X6_from 0 0 [.ref (mA E.b v0), .int v1] E S F := by
  refine m_met_i (by decide) (Nat.le_of_ble_eq_true rfl) (fun p e s m args below meth c ls hin C hI hl => ?_)
  have hx := C.1
  have hb := C.2.1
  have hl : lv_has ls 2 [(0, .ref (mA E.b v0)), (1, .int v1)] := hl
  generalize s.heap = H at hI ⊢
  generalize ([] : List Loc) = locs at hI ⊢
  refine lv_iload_n hx hb dX6_from_0 rfl (lv_at hl 1 rfl) ?_
  refine m_callSiR C cd_X6_287 hl.1 hI hF (fun _ h => ok_X6_isImage h) rfl rfl ⟨rfl, rfl, Nat.le_of_ble_eq_true rfl, Nat.le_of_ble_eq_true rfl⟩ ⟨Nat.le_of_ble_eq_true rfl, Nat.le_of_ble_eq_true rfl⟩ (Nat.le_of_ble_eq_true rfl) dX6_from_1 (fun r1 H locs hF hI => ?_)
  refine m_if_ne C (tgt := 14) hF dX6_from_4 (by decide) (fun hF => ?_) (fun hF => ?_)
  · refine lv_aload_n hx hb dX6_from_14 rfl (lv_at hl 0 rfl) ?_
    refine m_getR C fd_X6_23 hI hF dX6_from_15 (fun r2 hF => ?_)
    refine lv_iload_n hx hb dX6_from_18 rfl (lv_at hl 1 rfl) ?_
    refine m_zald C hI hF dX6_from_19 (fun r3 hF => ?_)
    refine m_if_ne C (tgt := 28) hF dX6_from_20 (by decide) (fun hF => ?_) (fun hF => ?_)
    · refine lv_aload_n hx hb dX6_from_28 rfl (lv_at hl 0 rfl) ?_
      refine m_getR C fd_X6_12 hI hF dX6_from_29 (fun r4 hF => ?_)
      refine lv_aload_n hx hb dX6_from_32 rfl (lv_at hl 0 rfl) ?_
      refine m_getR C fd_X6_19 hI hF dX6_from_33 (fun r5 hF => ?_)
      refine lv_iload_n hx hb dX6_from_36 rfl (lv_at hl 1 rfl) ?_
      refine m_aald C hI hF dX6_from_37 (fun r6 hF => ?_)
      refine m_callVv C cd_X6_130 ⟨rfl, by decide⟩ hl.1 hI hF (fun _ h => ok_X5_copy h) rfl rfl ⟨rfl, rfl, Nat.le_of_ble_eq_true rfl, Nat.le_of_ble_eq_true rfl⟩ ⟨Nat.le_of_ble_eq_true rfl, Nat.le_of_ble_eq_true rfl⟩ (Nat.le_of_ble_eq_true rfl) dX6_from_38 (fun S8 H locs hF hI => ?_)
      refine lv_iconst (v := 1) hx hb dX6_from_41 (by decide) ?_
      exact m_ireti C hI hF dX6_from_42
    · refine lv_aload_n hx hb dX6_from_23 rfl (lv_at hl 0 rfl) ?_
      refine m_callVi C cd_X6_115 ⟨rfl, by decide⟩ hl.1 hI hF (fun _ h => ok_X6_refuseNo h) rfl rfl ⟨rfl, rfl, Nat.le_of_ble_eq_true rfl, Nat.le_of_ble_eq_true rfl⟩ ⟨Nat.le_of_ble_eq_true rfl, Nat.le_of_ble_eq_true rfl⟩ (Nat.le_of_ble_eq_true rfl) dX6_from_24 (fun r9 S10 H locs hF hI => ?_)
      exact m_ireti C hI hF dX6_from_27
  · refine lv_aload_n hx hb dX6_from_7 rfl (lv_at hl 0 rfl) ?_
    refine lv_bipush (v := (-2)) hx hb dX6_from_8 (by decide) ?_
    refine m_callVi C cd_X6_72 ⟨rfl, by decide⟩ hl.1 hI hF (fun _ h => ok_X6_refuseBad h) rfl rfl ⟨rfl, rfl, Nat.le_of_ble_eq_true rfl, Nat.le_of_ble_eq_true rfl⟩ ⟨Nat.le_of_ble_eq_true rfl, Nat.le_of_ble_eq_true rfl⟩ (Nat.le_of_ble_eq_true rfl) dX6_from_10 (fun r11 S12 H locs hF hI => ?_)
    exact m_ireti C hI hF dX6_from_13
noncomputable def f_X6_status (v0 : Int32) (v1 : Int32) (S : mS) : Option (Int32 × mS) := if v1 = 0 then (mG 6 14 v0 S (fun r1 => some (r1, S))) else if v1 = 1 then (mG 6 15 v0 S (fun r2 => some (r2, S))) else if v1 = 2 then (mG 6 16 v0 S (fun r3 => some (r3, S))) else (mRc 6 v0 S (mC (f_X6_refuseBad v0 (-1) S) (fun r4 S5 => some (r4, S5))))
def rm_X6_status : Room := { frames := 1, cells := 0, slots := 0, locals := 21 }
set_option maxRecDepth 100000 in
set_option maxHeartbeats 4000000 in
theorem ok_X6_status {l : Launch} {E : mE} {v0 : Int32} {v1 : Int32} {S : mS} {F : Int32 × mS} (hF : f_X6_status v0 v1 S = some F) : mMi l yX6_status cX6_status 2 (some .int) rm_X6_status 0 0 [.ref (mA E.b v0), .int v1] E S F := by
  refine m_met_i (by decide) (Nat.le_of_ble_eq_true rfl) (fun p e s m args below meth c ls hin C hI hl => ?_)
  have hx := C.1
  have hb := C.2.1
  have hl : lv_has ls 2 [(0, .ref (mA E.b v0)), (1, .int v1)] := hl
  generalize s.heap = H at hI ⊢
  generalize ([] : List Loc) = locs at hI ⊢
  refine lv_iload_n hx hb dX6_status_0 rfl (lv_at hl 1 rfl) ?_
  refine m_if hF (fun c0 hF => ?_) (fun c0 hF => ?_)
  · refine m_swIn C dX6_status_1 c0 0 rfl (by decide) (by decide) rfl (tgt := 28) (by decide) ?_
    refine lv_aload_n hx hb dX6_status_28 rfl (lv_at hl 0 rfl) ?_
    refine m_get C fd_X6_290 hI hF dX6_status_29 (fun r1 hF => ?_)
    exact m_ireti C hI hF dX6_status_32
  refine m_if hF (fun c1 hF => ?_) (fun c1 hF => ?_)
  · refine m_swIn C dX6_status_1 c1 1 rfl (by decide) (by decide) rfl (tgt := 33) (by decide) ?_
    refine lv_aload_n hx hb dX6_status_33 rfl (lv_at hl 0 rfl) ?_
    refine m_get C fd_X6_293 hI hF dX6_status_34 (fun r2 hF => ?_)
    exact m_ireti C hI hF dX6_status_37
  refine m_if hF (fun c2 hF => ?_) (fun c2 hF => ?_)
  · refine m_swIn C dX6_status_1 c2 2 rfl (by decide) (by decide) rfl (tgt := 38) (by decide) ?_
    refine lv_aload_n hx hb dX6_status_38 rfl (lv_at hl 0 rfl) ?_
    refine m_get C fd_X6_296 hI hF dX6_status_39 (fun r3 hF => ?_)
    exact m_ireti C hI hF dX6_status_42
  refine lv_tableOut (tgt := 43) hx hb dX6_status_1 (by have := lv_neT c0 (a := 0) rfl; have := lv_neT c1 (a := 1) rfl; have := lv_neT c2 (a := 2) rfl; omega) (by decide) ?_
  refine lv_aload_n hx hb dX6_status_43 rfl (lv_at hl 0 rfl) ?_
  refine lv_iconst (v := (-1)) hx hb dX6_status_44 (by decide) ?_
  refine m_callVi C cd_X6_72 ⟨rfl, by decide⟩ hl.1 hI hF (fun _ h => ok_X6_refuseBad h) rfl rfl ⟨rfl, rfl, Nat.le_of_ble_eq_true rfl, Nat.le_of_ble_eq_true rfl⟩ ⟨Nat.le_of_ble_eq_true rfl, Nat.le_of_ble_eq_true rfl⟩ (Nat.le_of_ble_eq_true rfl) dX6_status_45 (fun r4 S5 H locs hF hI => ?_)
  exact m_ireti C hI hF dX6_status_48
noncomputable def f_X6_howMany (v0 : Int32) (v1 : Int32) (S : mS) : Option Int32 := if v1 = 0 then (mGr 6 0 v0 S (fun r1 => mGr 5 0 r1 S (fun r2 => mG 1 5 r2 S (fun r3 => some r3)))) else if v1 = 1 then (mGr 6 0 v0 S (fun r4 => mGr 5 0 r4 S (fun r5 => mG 1 4 r5 S (fun r6 => some r6)))) else if v1 = 2 then (mGr 6 0 v0 S (fun r7 => mGr 5 0 r7 S (fun r8 => mG 1 6 r8 S (fun r9 => some r9)))) else if v1 = 3 then (mGr 6 0 v0 S (fun r10 => mG 5 5 r10 S (fun r11 => some r11))) else if v1 = 4 then (mGr 6 0 v0 S (fun r12 => mGr 5 0 r12 S (fun r13 => mGr 6 0 v0 S (fun r14 => mG 5 5 r14 S (fun r15 => mRc 1 r13 S (mCp (f_X1_manyIn r13 r15 S) (fun r16 => some r16))))))) else if v1 = 5 then (mGr 6 0 v0 S (fun r17 => mGr 5 1 r17 S (fun r18 => mG 3 3 r18 S (fun r19 => some r19)))) else if v1 = 6 then (mGr 6 0 v0 S (fun r20 => mGr 5 2 r20 S (fun r21 => mG 3 3 r21 S (fun r22 => some r22)))) else if v1 = 7 then (mGr 6 0 v0 S (fun r23 => mGr 5 3 r23 S (fun r24 => mG 3 3 r24 S (fun r25 => some r25)))) else if v1 = 8 then (mGr 6 0 v0 S (fun r26 => mGr 5 4 r26 S (fun r27 => mG 2 1 r27 S (fun r28 => some r28)))) else (mGr 6 4 v0 S (fun r29 => mG 4 1 r29 S (fun r30 => some r30)))
def rm_X6_howMany : Room := { frames := 2, cells := 0, slots := 0, locals := 44 }
set_option maxRecDepth 100000 in
set_option maxHeartbeats 4000000 in
theorem ok_X6_howMany {l : Launch} {E : mE} {v0 : Int32} {v1 : Int32} {S : mS} {r : Int32} (hF : f_X6_howMany v0 v1 S = some r) : mMi l yX6_howMany cX6_howMany 2 (some .int) rm_X6_howMany 0 0 [.ref (mA E.b v0), .int v1] E S (r, S) := by
  refine m_met_i (by decide) (Nat.le_of_ble_eq_true rfl) (fun p e s m args below meth c ls hin C hI hl => ?_)
  have hx := C.1
  have hb := C.2.1
  have hl : lv_has ls 2 [(0, .ref (mA E.b v0)), (1, .int v1)] := hl
  generalize s.heap = H at hI ⊢
  generalize ([] : List Loc) = locs at hI ⊢
  refine lv_iload_n hx hb dX6_howMany_0 rfl (lv_at hl 1 rfl) ?_
  refine m_if hF (fun c0 hF => ?_) (fun c0 hF => ?_)
  · refine m_swIn C dX6_howMany_1 c0 0 rfl (by decide) (by decide) rfl (tgt := 52) (by decide) ?_
    refine lv_aload_n hx hb dX6_howMany_52 rfl (lv_at hl 0 rfl) ?_
    refine m_getR C fd_X6_12 hI hF dX6_howMany_53 (fun r1 hF => ?_)
    refine m_getR C fd_X6_76 hI hF dX6_howMany_56 (fun r2 hF => ?_)
    refine m_get C fd_X6_79 hI hF dX6_howMany_59 (fun r3 hF => ?_)
    exact m_iretiR C hI hF dX6_howMany_62
  refine m_if hF (fun c1 hF => ?_) (fun c1 hF => ?_)
  · refine m_swIn C dX6_howMany_1 c1 1 rfl (by decide) (by decide) rfl (tgt := 63) (by decide) ?_
    refine lv_aload_n hx hb dX6_howMany_63 rfl (lv_at hl 0 rfl) ?_
    refine m_getR C fd_X6_12 hI hF dX6_howMany_64 (fun r4 hF => ?_)
    refine m_getR C fd_X6_76 hI hF dX6_howMany_67 (fun r5 hF => ?_)
    refine m_get C fd_X6_89 hI hF dX6_howMany_70 (fun r6 hF => ?_)
    exact m_iretiR C hI hF dX6_howMany_73
  refine m_if hF (fun c2 hF => ?_) (fun c2 hF => ?_)
  · refine m_swIn C dX6_howMany_1 c2 2 rfl (by decide) (by decide) rfl (tgt := 74) (by decide) ?_
    refine lv_aload_n hx hb dX6_howMany_74 rfl (lv_at hl 0 rfl) ?_
    refine m_getR C fd_X6_12 hI hF dX6_howMany_75 (fun r7 hF => ?_)
    refine m_getR C fd_X6_76 hI hF dX6_howMany_78 (fun r8 hF => ?_)
    refine m_get C fd_X6_140 hI hF dX6_howMany_81 (fun r9 hF => ?_)
    exact m_iretiR C hI hF dX6_howMany_84
  refine m_if hF (fun c3 hF => ?_) (fun c3 hF => ?_)
  · refine m_swIn C dX6_howMany_1 c3 3 rfl (by decide) (by decide) rfl (tgt := 85) (by decide) ?_
    refine lv_aload_n hx hb dX6_howMany_85 rfl (lv_at hl 0 rfl) ?_
    refine m_getR C fd_X6_12 hI hF dX6_howMany_86 (fun r10 hF => ?_)
    refine m_get C fd_X6_112 hI hF dX6_howMany_89 (fun r11 hF => ?_)
    exact m_iretiR C hI hF dX6_howMany_92
  refine m_if hF (fun c4 hF => ?_) (fun c4 hF => ?_)
  · refine m_swIn C dX6_howMany_1 c4 4 rfl (by decide) (by decide) rfl (tgt := 93) (by decide) ?_
    refine lv_aload_n hx hb dX6_howMany_93 rfl (lv_at hl 0 rfl) ?_
    refine m_getR C fd_X6_12 hI hF dX6_howMany_94 (fun r12 hF => ?_)
    refine m_getR C fd_X6_76 hI hF dX6_howMany_97 (fun r13 hF => ?_)
    refine lv_aload_n hx hb dX6_howMany_100 rfl (lv_at hl 0 rfl) ?_
    refine m_getR C fd_X6_12 hI hF dX6_howMany_101 (fun r14 hF => ?_)
    refine m_get C fd_X6_112 hI hF dX6_howMany_104 (fun r15 hF => ?_)
    refine m_callViR C cd_X6_281 ⟨rfl, by decide⟩ hl.1 hI hF (fun _ h => ok_X1_manyIn h) rfl rfl ⟨rfl, rfl, Nat.le_of_ble_eq_true rfl, Nat.le_of_ble_eq_true rfl⟩ ⟨Nat.le_of_ble_eq_true rfl, Nat.le_of_ble_eq_true rfl⟩ (Nat.le_of_ble_eq_true rfl) dX6_howMany_107 (fun r16 H locs hF hI => ?_)
    exact m_iretiR C hI hF dX6_howMany_110
  refine m_if hF (fun c5 hF => ?_) (fun c5 hF => ?_)
  · refine m_swIn C dX6_howMany_1 c5 5 rfl (by decide) (by decide) rfl (tgt := 111) (by decide) ?_
    refine lv_aload_n hx hb dX6_howMany_111 rfl (lv_at hl 0 rfl) ?_
    refine m_getR C fd_X6_12 hI hF dX6_howMany_112 (fun r17 hF => ?_)
    refine m_getR C fd_X6_217 hI hF dX6_howMany_115 (fun r18 hF => ?_)
    refine m_get C fd_X6_241 hI hF dX6_howMany_118 (fun r19 hF => ?_)
    exact m_iretiR C hI hF dX6_howMany_121
  refine m_if hF (fun c6 hF => ?_) (fun c6 hF => ?_)
  · refine m_swIn C dX6_howMany_1 c6 6 rfl (by decide) (by decide) rfl (tgt := 122) (by decide) ?_
    refine lv_aload_n hx hb dX6_howMany_122 rfl (lv_at hl 0 rfl) ?_
    refine m_getR C fd_X6_12 hI hF dX6_howMany_123 (fun r20 hF => ?_)
    refine m_getR C fd_X6_235 hI hF dX6_howMany_126 (fun r21 hF => ?_)
    refine m_get C fd_X6_241 hI hF dX6_howMany_129 (fun r22 hF => ?_)
    exact m_iretiR C hI hF dX6_howMany_132
  refine m_if hF (fun c7 hF => ?_) (fun c7 hF => ?_)
  · refine m_swIn C dX6_howMany_1 c7 7 rfl (by decide) (by decide) rfl (tgt := 133) (by decide) ?_
    refine lv_aload_n hx hb dX6_howMany_133 rfl (lv_at hl 0 rfl) ?_
    refine m_getR C fd_X6_12 hI hF dX6_howMany_134 (fun r23 hF => ?_)
    refine m_getR C fd_X6_238 hI hF dX6_howMany_137 (fun r24 hF => ?_)
    refine m_get C fd_X6_241 hI hF dX6_howMany_140 (fun r25 hF => ?_)
    exact m_iretiR C hI hF dX6_howMany_143
  refine m_if hF (fun c8 hF => ?_) (fun c8 hF => ?_)
  · refine m_swIn C dX6_howMany_1 c8 8 rfl (by decide) (by decide) rfl (tgt := 144) (by decide) ?_
    refine lv_aload_n hx hb dX6_howMany_144 rfl (lv_at hl 0 rfl) ?_
    refine m_getR C fd_X6_12 hI hF dX6_howMany_145 (fun r26 hF => ?_)
    refine m_getR C fd_X6_96 hI hF dX6_howMany_148 (fun r27 hF => ?_)
    refine m_get C fd_X6_100 hI hF dX6_howMany_151 (fun r28 hF => ?_)
    exact m_iretiR C hI hF dX6_howMany_154
  refine lv_tableOut (tgt := 155) hx hb dX6_howMany_1 (by have := lv_neT c0 (a := 0) rfl; have := lv_neT c1 (a := 1) rfl; have := lv_neT c2 (a := 2) rfl; have := lv_neT c3 (a := 3) rfl; have := lv_neT c4 (a := 4) rfl; have := lv_neT c5 (a := 5) rfl; have := lv_neT c6 (a := 6) rfl; have := lv_neT c7 (a := 7) rfl; have := lv_neT c8 (a := 8) rfl; omega) (by decide) ?_
  refine lv_aload_n hx hb dX6_howMany_155 rfl (lv_at hl 0 rfl) ?_
  refine m_getR C fd_X6_30 hI hF dX6_howMany_156 (fun r29 hF => ?_)
  refine m_get C fd_X6_122 hI hF dX6_howMany_159 (fun r30 hF => ?_)
  exact m_iretiR C hI hF dX6_howMany_162
noncomputable def f_X6_count_24 (t0 : Int32) (S : mS) : Option (Int32 × mS) := some (t0, S)
noncomputable def f_X6_count (v0 : Int32) (v1 : Int32) (S : mS) : Option (Int32 × mS) := mCp (f_X6_isWithin v1 0 9) (fun r1 => if r1 = 0 then (mRc 6 v0 S (mC (f_X6_refuseBad v0 (-2) S) (fun r2 S3 => (f_X6_count_24) r2 S3))) else (mRc 6 v0 S (mCp (f_X6_howMany v0 v1 S) (fun r4 => (f_X6_count_24) r4 S))))
def rm_X6_count : Room := { frames := 3, cells := 0, slots := 0, locals := 65 }
set_option maxRecDepth 100000 in
set_option maxHeartbeats 4000000 in
theorem bl_X6_count_24 {p : Program} {l : Launch} {e : Env} {s : State} {m : MethodId} {args : Array Value} {below : List Frame} {meth : Method} {c : Code} {E : mE} {n0 : Nat} {F : Int32 × mS} (C : mCx p s m args meth c cX6_count 2 RX6 (some .int) E n0) : ∀  (t0 : Int32) (S : mS) (H : Heap) (locs : List Loc) (ls : Array Slot), f_X6_count_24 t0 S = some F → mIv s E S H locs 0 → lv_has ls 2 [] → W p l e rm_X6_count s m args below meth c H locs 0 0 (mQi below args s 0 0 n0 E F) (F0 m 24 ls [.int t0]) := by
  have hx := C.1
  have hb := C.2.1
  intro t0 S H locs ls hF hI hl
  exact m_ireti C hI hF dX6_count_24
set_option maxRecDepth 100000 in
set_option maxHeartbeats 4000000 in
theorem ok_X6_count {l : Launch} {E : mE} {v0 : Int32} {v1 : Int32} {S : mS} {F : Int32 × mS} (hF : f_X6_count v0 v1 S = some F) : mMi l yX6_count cX6_count 2 (some .int) rm_X6_count 0 0 [.ref (mA E.b v0), .int v1] E S F := by
  refine m_met_i (by decide) (Nat.le_of_ble_eq_true rfl) (fun p e s m args below meth c ls hin C hI hl => ?_)
  have hx := C.1
  have hb := C.2.1
  have hl : lv_has ls 2 [(0, .ref (mA E.b v0)), (1, .int v1)] := hl
  generalize s.heap = H at hI ⊢
  generalize ([] : List Loc) = locs at hI ⊢
  refine lv_iload_n hx hb dX6_count_0 rfl (lv_at hl 1 rfl) ?_
  refine lv_iconst (v := 0) hx hb dX6_count_1 (by decide) ?_
  refine lv_bipush (v := 9) hx hb dX6_count_2 (by decide) ?_
  refine m_callSiR C cd_X6_118 hl.1 hI hF (fun _ h => ok_X6_isWithin h) rfl rfl ⟨rfl, rfl, Nat.le_of_ble_eq_true rfl, Nat.le_of_ble_eq_true rfl⟩ ⟨Nat.le_of_ble_eq_true rfl, Nat.le_of_ble_eq_true rfl⟩ (Nat.le_of_ble_eq_true rfl) dX6_count_4 (fun r1 H locs hF hI => ?_)
  refine m_if_eq C (tgt := 18) hF dX6_count_7 (by decide) (fun hF => ?_) (fun hF => ?_)
  · refine lv_aload_n hx hb dX6_count_18 rfl (lv_at hl 0 rfl) ?_
    refine lv_bipush (v := (-2)) hx hb dX6_count_19 (by decide) ?_
    refine m_callVi C cd_X6_72 ⟨rfl, by decide⟩ hl.1 hI hF (fun _ h => ok_X6_refuseBad h) rfl rfl ⟨rfl, rfl, Nat.le_of_ble_eq_true rfl, Nat.le_of_ble_eq_true rfl⟩ ⟨Nat.le_of_ble_eq_true rfl, Nat.le_of_ble_eq_true rfl⟩ (Nat.le_of_ble_eq_true rfl) dX6_count_21 (fun r2 S3 H locs hF hI => ?_)
    exact (bl_X6_count_24 C) r2 S3 _ _ _ hF hI (lv_sub hl [] rfl)
  · refine lv_aload_n hx hb dX6_count_10 rfl (lv_at hl 0 rfl) ?_
    refine lv_iload_n hx hb dX6_count_11 rfl (lv_at hl 1 rfl) ?_
    refine m_callViR C cd_X6_299 ⟨rfl, by decide⟩ hl.1 hI hF (fun _ h => ok_X6_howMany h) rfl rfl ⟨rfl, rfl, Nat.le_of_ble_eq_true rfl, Nat.le_of_ble_eq_true rfl⟩ ⟨Nat.le_of_ble_eq_true rfl, Nat.le_of_ble_eq_true rfl⟩ (Nat.le_of_ble_eq_true rfl) dX6_count_12 (fun r4 H locs hF hI => ?_)
    refine lv_goto (tgt := 24) hx hb dX6_count_15 (by decide) ?_
    exact (bl_X6_count_24 C) r4 S _ _ _ hF hI (lv_sub hl [] rfl)
noncomputable def f_X6_digested (v0 : Int64) (v2 : Int64) : Option Int64 := some ((31 * v0) + v2)
def rm_X6_digested : Room := { frames := 0, cells := 0, slots := 0, locals := 0 }
set_option maxRecDepth 100000 in
set_option maxHeartbeats 4000000 in
theorem ok_X6_digested {l : Launch} {E : mE} {v0 : Int64} {v2 : Int64} {S : mS} {r : Int64} (hF : f_X6_digested v0 v2 = some r) : mMl l yX6_digested cX6_digested 4 (some .long) rm_X6_digested 0 0 [.long v0, .long v2] E S (r, S) := by
  refine m_met_l (by decide) (Nat.le_of_ble_eq_true rfl) (fun p e s m args below meth c ls hin C hI hl => ?_)
  have hx := C.1
  have hb := C.2.1
  have hl : lv_has ls 4 [(0, .long v0), (2, .long v2)] := hl
  generalize s.heap = H at hI ⊢
  generalize ([] : List Loc) = locs at hI ⊢
  refine lv_ldc2 (v := 31) hx hb C.2.2.2.1 (C.2.2.2.2.1 _ kw_X6_361) dX6_digested_0 ?_
  refine lv_lload_n hx hb dX6_digested_3 rfl (lv_at hl 0 rfl) ?_
  refine lv_lmul hx hb dX6_digested_4 ?_
  refine lv_lload_n hx hb dX6_digested_5 rfl (lv_at hl 1 rfl) ?_
  refine lv_ladd hx hb dX6_digested_6 ?_
  exact m_lretR C hI hF dX6_digested_7
noncomputable def f_X6_digestedRows_17 (k46 : Int32 → Int64 → Int32 → Option Int64) (S : mS) : Nat → Int32 → Int64 → Int32 → Int32 → Option Int64 := fun n => Nat.rec (motive := fun _ => Int32 → Int64 → Int32 → Int32 → Option Int64) (fun _ _ _ _ => none) (fun _ rec v2 v3 v5 v6 => mG 3 1 v2 S (fun r2 => if r2 ≤ v6 then (k46 v2 v3 v5) else (mRc 3 v2 S (mCp (f_X3_get v2 v5 v6 S) (fun r3 => mCp (f_X6_digested v3 (r3.toInt64)) (fun r4 => rec v2 r4 v5 (v6 + 1))))))) n
theorem f_X6_digestedRows_17_s (k46 : Int32 → Int64 → Int32 → Option Int64) (S : mS) (n : Nat) (v2 : Int32) (v3 : Int64) (v5 : Int32) (v6 : Int32) : f_X6_digestedRows_17 k46 S (n + 1) v2 v3 v5 v6 = mG 3 1 v2 S (fun r2 => if r2 ≤ v6 then (k46 v2 v3 v5) else (mRc 3 v2 S (mCp (f_X3_get v2 v5 v6 S) (fun r3 => mCp (f_X6_digested v3 (r3.toInt64)) (fun r4 => (f_X6_digestedRows_17 k46 S n) v2 r4 v5 (v6 + 1)))))) := rfl
noncomputable def f_X6_digestedRows_46 (k5 : Int32 → Int64 → Int32 → Option Int64) (S : mS) (v2 : Int32) (v3 : Int64) (v5 : Int32) : Option Int64 := k5 v2 v3 (v5 + 1)
noncomputable def f_X6_digestedRows_5 (k52 : Int64 → Option Int64) (S : mS) : Nat → Int32 → Int64 → Int32 → Option Int64 := fun n => Nat.rec (motive := fun _ => Int32 → Int64 → Int32 → Option Int64) (fun _ _ _ => none) (fun _ rec v2 v3 v5 => mG 3 3 v2 S (fun r1 => if r1 ≤ v5 then (k52 v3) else ((f_X6_digestedRows_17 (f_X6_digestedRows_46 rec S) S 1000) v2 v3 v5 0))) n
theorem f_X6_digestedRows_5_s (k52 : Int64 → Option Int64) (S : mS) (n : Nat) (v2 : Int32) (v3 : Int64) (v5 : Int32) : f_X6_digestedRows_5 k52 S (n + 1) v2 v3 v5 = mG 3 3 v2 S (fun r1 => if r1 ≤ v5 then (k52 v3) else ((f_X6_digestedRows_17 (f_X6_digestedRows_46 (f_X6_digestedRows_5 k52 S n) S) S 1000) v2 v3 v5 0)) := rfl
noncomputable def f_X6_digestedRows_52 (S : mS) (v3 : Int64) : Option Int64 := some v3
noncomputable def f_X6_digestedRows (v0 : Int64) (v2 : Int32) (S : mS) : Option Int64 := (f_X6_digestedRows_5 (f_X6_digestedRows_52 S) S 1000) v2 v0 0
def rm_X6_digestedRows : Room := { frames := 2, cells := 0, slots := 0, locals := 45 }
set_option maxRecDepth 100000 in
set_option maxHeartbeats 4000000 in
theorem bl_X6_digestedRows_17 {p : Program} {l : Launch} {e : Env} {s : State} {m : MethodId} {args : Array Value} {below : List Frame} {meth : Method} {c : Code} {E : mE} {n0 : Nat} {r : Int64} {S : mS} (C : mCx p s m args meth c cX6_digestedRows 7 RX6 (some .long) E n0) {k46 : Int32 → Int64 → Int32 → Option Int64} (hk46 : ∀ (v2 : Int32) (v3 : Int64) (v5 : Int32) (H : Heap) (locs : List Loc) (ls : Array Slot), k46 v2 v3 v5 = some r → mIv s E S H locs 0 → lv_has ls 7 [(2, .ref (mA E.b v2)), (3, .long v3), (5, .int v5)] → W p l e rm_X6_digestedRows s m args below meth c H locs 0 0 (mQl below args s 0 0 n0 E (r, S)) (F0 m 46 ls [])) : ∀ (n : Nat)  (v2 : Int32) (v3 : Int64) (v5 : Int32) (v6 : Int32) (H : Heap) (locs : List Loc) (ls : Array Slot), f_X6_digestedRows_17 k46 S n v2 v3 v5 v6 = some r → mIv s E S H locs 0 → lv_has ls 7 [(2, .ref (mA E.b v2)), (3, .long v3), (5, .int v5), (6, .int v6)] → W p l e rm_X6_digestedRows s m args below meth c H locs 0 0 (mQl below args s 0 0 n0 E (r, S)) (F0 m 17 ls []) := by
  have hx := C.1
  have hb := C.2.1
  intro n
  induction n with
  | zero =>
    intro v2 v3 v5 v6 H locs ls hF
    exact nomatch (show (none : Option Int64) = some r from hF)
  | succ n ih =>
    intro v2 v3 v5 v6 H locs ls hF hI hl
    have hF := (f_X6_digestedRows_17_s k46 S n v2 v3 v5 v6).symm.trans hF
    refine lv_iload hx hb dX6_digestedRows_17 (lv_at hl 3 rfl) ?_
    refine lv_aload_n hx hb dX6_digestedRows_19 rfl (lv_at hl 0 rfl) ?_
    refine m_get C fd_X6_363 hI hF dX6_digestedRows_20 (fun r2 hF => ?_)
    refine m_icmp_ge C (tgt := 46) hF dX6_digestedRows_23 (by decide) (fun hF => ?_) (fun hF => ?_)
    · exact hk46 v2 v3 v5 _ _ _ hF hI (lv_sub hl [0, 1, 2] rfl)
    · refine lv_lload_n hx hb dX6_digestedRows_26 rfl (lv_at hl 1 rfl) ?_
      refine lv_aload_n hx hb dX6_digestedRows_27 rfl (lv_at hl 0 rfl) ?_
      refine lv_iload hx hb dX6_digestedRows_28 (lv_at hl 2 rfl) ?_
      refine lv_iload hx hb dX6_digestedRows_30 (lv_at hl 3 rfl) ?_
      refine m_callViR C cd_X6_345 ⟨rfl, by decide⟩ hl.1 hI hF (fun _ h => ok_X3_get h) rfl rfl ⟨rfl, rfl, Nat.le_of_ble_eq_true rfl, Nat.le_of_ble_eq_true rfl⟩ ⟨Nat.le_of_ble_eq_true rfl, Nat.le_of_ble_eq_true rfl⟩ (Nat.le_of_ble_eq_true rfl) dX6_digestedRows_32 (fun r3 H locs hF hI => ?_)
      refine lv_i2l hx hb dX6_digestedRows_35 rfl ?_
      refine m_callSlR C cd_X6_304 hl.1 hI hF (fun _ h => ok_X6_digested h) rfl rfl ⟨rfl, rfl, Nat.le_of_ble_eq_true rfl, Nat.le_of_ble_eq_true rfl⟩ ⟨Nat.le_of_ble_eq_true rfl, Nat.le_of_ble_eq_true rfl⟩ (Nat.le_of_ble_eq_true rfl) dX6_digestedRows_36 (fun r4 H locs hF hI => ?_)
      refine lv_lstore_n (lv' := [(3, .long r4), (2, .ref (mA E.b v2)), (5, .int v5), (6, .int v6)]) hx hb dX6_digestedRows_39 rfl hl (by decide) rfl (fun ls hl => ?_)
      refine lv_iinc (v := v6 + 1) (lv' := [(6, .int (v6 + 1)), (3, .long r4), (2, .ref (mA E.b v2)), (5, .int v5)]) hx hb dX6_digestedRows_40 hl (k := 3) rfl rfl (by decide) rfl (fun ls hl => ?_)
      refine lv_goto (tgt := 17) hx hb dX6_digestedRows_43 (by decide) ?_
      exact ih v2 r4 v5 (v6 + 1) _ _ _ hF hI (lv_sub hl [2, 1, 3, 0] rfl)
set_option maxRecDepth 100000 in
set_option maxHeartbeats 4000000 in
theorem bl_X6_digestedRows_46 {p : Program} {l : Launch} {e : Env} {s : State} {m : MethodId} {args : Array Value} {below : List Frame} {meth : Method} {c : Code} {E : mE} {n0 : Nat} {r : Int64} {S : mS} (C : mCx p s m args meth c cX6_digestedRows 7 RX6 (some .long) E n0) {k5 : Int32 → Int64 → Int32 → Option Int64} (hk5 : ∀ (v2 : Int32) (v3 : Int64) (v5 : Int32) (H : Heap) (locs : List Loc) (ls : Array Slot), k5 v2 v3 v5 = some r → mIv s E S H locs 0 → lv_has ls 7 [(2, .ref (mA E.b v2)), (3, .long v3), (5, .int v5)] → W p l e rm_X6_digestedRows s m args below meth c H locs 0 0 (mQl below args s 0 0 n0 E (r, S)) (F0 m 5 ls [])) : ∀  (v2 : Int32) (v3 : Int64) (v5 : Int32) (H : Heap) (locs : List Loc) (ls : Array Slot), f_X6_digestedRows_46 k5 S v2 v3 v5 = some r → mIv s E S H locs 0 → lv_has ls 7 [(2, .ref (mA E.b v2)), (3, .long v3), (5, .int v5)] → W p l e rm_X6_digestedRows s m args below meth c H locs 0 0 (mQl below args s 0 0 n0 E (r, S)) (F0 m 46 ls []) := by
  have hx := C.1
  have hb := C.2.1
  intro v2 v3 v5 H locs ls hF hI hl
  refine lv_iinc (v := v5 + 1) (lv' := [(5, .int (v5 + 1)), (2, .ref (mA E.b v2)), (3, .long v3)]) hx hb dX6_digestedRows_46 hl (k := 2) rfl rfl (by decide) rfl (fun ls hl => ?_)
  refine lv_goto (tgt := 5) hx hb dX6_digestedRows_49 (by decide) ?_
  exact hk5 v2 v3 (v5 + 1) _ _ _ hF hI (lv_sub hl [1, 2, 0] rfl)
set_option maxRecDepth 100000 in
set_option maxHeartbeats 4000000 in
theorem bl_X6_digestedRows_5 {p : Program} {l : Launch} {e : Env} {s : State} {m : MethodId} {args : Array Value} {below : List Frame} {meth : Method} {c : Code} {E : mE} {n0 : Nat} {r : Int64} {S : mS} (C : mCx p s m args meth c cX6_digestedRows 7 RX6 (some .long) E n0) {k52 : Int64 → Option Int64} (hk52 : ∀ (v3 : Int64) (H : Heap) (locs : List Loc) (ls : Array Slot), k52 v3 = some r → mIv s E S H locs 0 → lv_has ls 7 [(3, .long v3)] → W p l e rm_X6_digestedRows s m args below meth c H locs 0 0 (mQl below args s 0 0 n0 E (r, S)) (F0 m 52 ls [])) : ∀ (n : Nat)  (v2 : Int32) (v3 : Int64) (v5 : Int32) (H : Heap) (locs : List Loc) (ls : Array Slot), f_X6_digestedRows_5 k52 S n v2 v3 v5 = some r → mIv s E S H locs 0 → lv_has ls 7 [(2, .ref (mA E.b v2)), (3, .long v3), (5, .int v5)] → W p l e rm_X6_digestedRows s m args below meth c H locs 0 0 (mQl below args s 0 0 n0 E (r, S)) (F0 m 5 ls []) := by
  have hx := C.1
  have hb := C.2.1
  intro n
  induction n with
  | zero =>
    intro v2 v3 v5 H locs ls hF
    exact nomatch (show (none : Option Int64) = some r from hF)
  | succ n ih =>
    intro v2 v3 v5 H locs ls hF hI hl
    have hF := (f_X6_digestedRows_5_s k52 S n v2 v3 v5).symm.trans hF
    refine lv_iload hx hb dX6_digestedRows_5 (lv_at hl 2 rfl) ?_
    refine lv_aload_n hx hb dX6_digestedRows_7 rfl (lv_at hl 0 rfl) ?_
    refine m_get C fd_X6_241 hI hF dX6_digestedRows_8 (fun r1 hF => ?_)
    refine m_icmp_ge C (tgt := 52) hF dX6_digestedRows_11 (by decide) (fun hF => ?_) (fun hF => ?_)
    · exact hk52 v3 _ _ _ hF hI (lv_sub hl [1] rfl)
    · refine lv_iconst (v := 0) hx hb dX6_digestedRows_14 (by decide) ?_
      refine lv_istore (lv' := [(6, .int 0), (2, .ref (mA E.b v2)), (3, .long v3), (5, .int v5)]) hx hb dX6_digestedRows_15 hl (by decide) rfl (fun ls hl => ?_)
      exact (bl_X6_digestedRows_17 C (k46 := (f_X6_digestedRows_46 (f_X6_digestedRows_5 k52 S n) S)) (bl_X6_digestedRows_46 C (k5 := (f_X6_digestedRows_5 k52 S n)) ih) 1000) v2 v3 v5 0 _ _ _ hF hI (lv_sub hl [1, 2, 3, 0] rfl)
set_option maxRecDepth 100000 in
set_option maxHeartbeats 4000000 in
theorem bl_X6_digestedRows_52 {p : Program} {l : Launch} {e : Env} {s : State} {m : MethodId} {args : Array Value} {below : List Frame} {meth : Method} {c : Code} {E : mE} {n0 : Nat} {r : Int64} {S : mS} (C : mCx p s m args meth c cX6_digestedRows 7 RX6 (some .long) E n0) : ∀  (v3 : Int64) (H : Heap) (locs : List Loc) (ls : Array Slot), f_X6_digestedRows_52 S v3 = some r → mIv s E S H locs 0 → lv_has ls 7 [(3, .long v3)] → W p l e rm_X6_digestedRows s m args below meth c H locs 0 0 (mQl below args s 0 0 n0 E (r, S)) (F0 m 52 ls []) := by
  have hx := C.1
  have hb := C.2.1
  intro v3 H locs ls hF hI hl
  refine lv_lload_n hx hb dX6_digestedRows_52 rfl (lv_at hl 0 rfl) ?_
  exact m_lretR C hI hF dX6_digestedRows_53
set_option maxRecDepth 100000 in
set_option maxHeartbeats 4000000 in
theorem ok_X6_digestedRows {l : Launch} {E : mE} {v0 : Int64} {v2 : Int32} {S : mS} {r : Int64} (hF : f_X6_digestedRows v0 v2 S = some r) : mMl l yX6_digestedRows cX6_digestedRows 7 (some .long) rm_X6_digestedRows 0 0 [.long v0, .ref (mA E.b v2)] E S (r, S) := by
  refine m_met_l (by decide) (Nat.le_of_ble_eq_true rfl) (fun p e s m args below meth c ls hin C hI hl => ?_)
  have hx := C.1
  have hb := C.2.1
  have hl : lv_has ls 7 [(0, .long v0), (2, .ref (mA E.b v2))] := hl
  generalize s.heap = H at hI ⊢
  generalize ([] : List Loc) = locs at hI ⊢
  refine lv_lload_n hx hb dX6_digestedRows_0 rfl (lv_at hl 0 rfl) ?_
  refine lv_lstore_n (lv' := [(3, .long v0), (0, .long v0), (2, .ref (mA E.b v2))]) hx hb dX6_digestedRows_1 rfl hl (by decide) rfl (fun ls hl => ?_)
  refine lv_iconst (v := 0) hx hb dX6_digestedRows_2 (by decide) ?_
  refine lv_istore (lv' := [(5, .int 0), (3, .long v0), (0, .long v0), (2, .ref (mA E.b v2))]) hx hb dX6_digestedRows_3 hl (by decide) rfl (fun ls hl => ?_)
  exact (bl_X6_digestedRows_5 C (k52 := (f_X6_digestedRows_52 S)) (bl_X6_digestedRows_52 C) 1000) v2 v0 0 _ _ _ hF hI (lv_sub hl [3, 1, 0] rfl)
noncomputable def f_X6_digest_6 (k29 : Int32 → Int64 → Option Int64) (S : mS) : Nat → Int32 → Int64 → Int32 → Option Int64 := fun n => Nat.rec (motive := fun _ => Int32 → Int64 → Int32 → Option Int64) (fun _ _ _ => none) (fun _ rec v0 v1 v3 => if 10 ≤ v3 then (k29 v0 v1) else (mRc 6 v0 S (mCp (f_X6_howMany v0 v3 S) (fun r1 => mCp (f_X6_digested v1 (r1.toInt64)) (fun r2 => rec v0 r2 (v3 + 1)))))) n
theorem f_X6_digest_6_s (k29 : Int32 → Int64 → Option Int64) (S : mS) (n : Nat) (v0 : Int32) (v1 : Int64) (v3 : Int32) : f_X6_digest_6 k29 S (n + 1) v0 v1 v3 = if 10 ≤ v3 then (k29 v0 v1) else (mRc 6 v0 S (mCp (f_X6_howMany v0 v3 S) (fun r1 => mCp (f_X6_digested v1 (r1.toInt64)) (fun r2 => (f_X6_digest_6 k29 S n) v0 r2 (v3 + 1))))) := rfl
noncomputable def f_X6_digest_31 (k85 : Int32 → Int64 → Option Int64) (S : mS) : Nat → Int32 → Int64 → Int32 → Option Int64 := fun n => Nat.rec (motive := fun _ => Int32 → Int64 → Int32 → Option Int64) (fun _ _ _ => none) (fun _ rec v0 v1 v3 => mGr 6 0 v0 S (fun r3 => mGr 5 0 r3 S (fun r4 => mG 1 4 r4 S (fun r5 => if r5 ≤ v3 then (k85 v0 v1) else (mGr 6 0 v0 S (fun r6 => mGr 5 0 r6 S (fun r7 => mGr 1 0 r7 S (fun r8 => mX 8 r8 v3 S (fun r9 => mCp (f_X6_digested v1 (r9.toInt64)) (fun r10 => mGr 6 0 v0 S (fun r11 => mGr 5 0 r11 S (fun r12 => mGr 1 1 r12 S (fun r13 => mX 8 r13 v3 S (fun r14 => mCp (f_X6_digested r10 (r14.toInt64)) (fun r15 => rec v0 r15 (v3 + 1)))))))))))))))) n
theorem f_X6_digest_31_s (k85 : Int32 → Int64 → Option Int64) (S : mS) (n : Nat) (v0 : Int32) (v1 : Int64) (v3 : Int32) : f_X6_digest_31 k85 S (n + 1) v0 v1 v3 = mGr 6 0 v0 S (fun r3 => mGr 5 0 r3 S (fun r4 => mG 1 4 r4 S (fun r5 => if r5 ≤ v3 then (k85 v0 v1) else (mGr 6 0 v0 S (fun r6 => mGr 5 0 r6 S (fun r7 => mGr 1 0 r7 S (fun r8 => mX 8 r8 v3 S (fun r9 => mCp (f_X6_digested v1 (r9.toInt64)) (fun r10 => mGr 6 0 v0 S (fun r11 => mGr 5 0 r11 S (fun r12 => mGr 1 1 r12 S (fun r13 => mX 8 r13 v3 S (fun r14 => mCp (f_X6_digested r10 (r14.toInt64)) (fun r15 => (f_X6_digest_31 k85 S n) v0 r15 (v3 + 1))))))))))))))) := rfl
noncomputable def f_X6_digest_87 (k141 : Int32 → Int64 → Option Int64) (S : mS) : Nat → Int32 → Int64 → Int32 → Option Int64 := fun n => Nat.rec (motive := fun _ => Int32 → Int64 → Int32 → Option Int64) (fun _ _ _ => none) (fun _ rec v0 v1 v3 => mGr 6 0 v0 S (fun r16 => mGr 5 0 r16 S (fun r17 => mG 1 5 r17 S (fun r18 => if r18 ≤ v3 then (k141 v0 v1) else (mGr 6 0 v0 S (fun r19 => mGr 5 0 r19 S (fun r20 => mGr 1 2 r20 S (fun r21 => mX 8 r21 v3 S (fun r22 => mCp (f_X6_digested v1 (r22.toInt64)) (fun r23 => mGr 6 0 v0 S (fun r24 => mGr 5 0 r24 S (fun r25 => mGr 1 3 r25 S (fun r26 => mX 8 r26 v3 S (fun r27 => mCp (f_X6_digested r23 (r27.toInt64)) (fun r28 => rec v0 r28 (v3 + 1)))))))))))))))) n
theorem f_X6_digest_87_s (k141 : Int32 → Int64 → Option Int64) (S : mS) (n : Nat) (v0 : Int32) (v1 : Int64) (v3 : Int32) : f_X6_digest_87 k141 S (n + 1) v0 v1 v3 = mGr 6 0 v0 S (fun r16 => mGr 5 0 r16 S (fun r17 => mG 1 5 r17 S (fun r18 => if r18 ≤ v3 then (k141 v0 v1) else (mGr 6 0 v0 S (fun r19 => mGr 5 0 r19 S (fun r20 => mGr 1 2 r20 S (fun r21 => mX 8 r21 v3 S (fun r22 => mCp (f_X6_digested v1 (r22.toInt64)) (fun r23 => mGr 6 0 v0 S (fun r24 => mGr 5 0 r24 S (fun r25 => mGr 1 3 r25 S (fun r26 => mX 8 r26 v3 S (fun r27 => mCp (f_X6_digested r23 (r27.toInt64)) (fun r28 => (f_X6_digest_87 k141 S n) v0 r28 (v3 + 1))))))))))))))) := rfl
noncomputable def f_X6_digest_141 (S : mS) (v0 : Int32) (v1 : Int64) : Option Int64 := mGr 6 0 v0 S (fun r29 => mGr 5 1 r29 S (fun r30 => mCp (f_X6_digestedRows v1 r30 S) (fun r31 => mGr 6 0 v0 S (fun r32 => mGr 5 2 r32 S (fun r33 => mCp (f_X6_digestedRows r31 r33 S) (fun r34 => mGr 6 0 v0 S (fun r35 => mGr 5 3 r35 S (fun r36 => mCp (f_X6_digestedRows r34 r36 S) (fun r37 => mG 6 12 v0 S (fun r38 => mCp (f_X6_digested r37 (r38.toInt64)) (fun r39 => mG 6 13 v0 S (fun r40 => mCp (f_X6_digested r39 (r40.toInt64)) (fun r41 => some r41)))))))))))))
noncomputable def f_X6_digest_85 (S : mS) (v0 : Int32) (v1 : Int64) : Option Int64 := (f_X6_digest_87 (f_X6_digest_141 S) S 1000) v0 v1 0
noncomputable def f_X6_digest_29 (S : mS) (v0 : Int32) (v1 : Int64) : Option Int64 := (f_X6_digest_31 (f_X6_digest_85 S) S 1000) v0 v1 0
noncomputable def f_X6_digest (v0 : Int32) (S : mS) : Option Int64 := (f_X6_digest_6 (f_X6_digest_29 S) S 1000) v0 1669 0
def rm_X6_digest : Room := { frames := 3, cells := 0, slots := 0, locals := 71 }
set_option maxRecDepth 100000 in
set_option maxHeartbeats 4000000 in
theorem bl_X6_digest_6 {p : Program} {l : Launch} {e : Env} {s : State} {m : MethodId} {args : Array Value} {below : List Frame} {meth : Method} {c : Code} {E : mE} {n0 : Nat} {r : Int64} {S : mS} (C : mCx p s m args meth c cX6_digest 4 RX6 (some .long) E n0) {k29 : Int32 → Int64 → Option Int64} (hk29 : ∀ (v0 : Int32) (v1 : Int64) (H : Heap) (locs : List Loc) (ls : Array Slot), k29 v0 v1 = some r → mIv s E S H locs 0 → lv_has ls 4 [(0, .ref (mA E.b v0)), (1, .long v1)] → W p l e rm_X6_digest s m args below meth c H locs 0 0 (mQl below args s 0 0 n0 E (r, S)) (F0 m 29 ls [])) : ∀ (n : Nat)  (v0 : Int32) (v1 : Int64) (v3 : Int32) (H : Heap) (locs : List Loc) (ls : Array Slot), f_X6_digest_6 k29 S n v0 v1 v3 = some r → mIv s E S H locs 0 → lv_has ls 4 [(0, .ref (mA E.b v0)), (1, .long v1), (3, .int v3)] → W p l e rm_X6_digest s m args below meth c H locs 0 0 (mQl below args s 0 0 n0 E (r, S)) (F0 m 6 ls []) := by
  have hx := C.1
  have hb := C.2.1
  intro n
  induction n with
  | zero =>
    intro v0 v1 v3 H locs ls hF
    exact nomatch (show (none : Option Int64) = some r from hF)
  | succ n ih =>
    intro v0 v1 v3 H locs ls hF hI hl
    have hF := (f_X6_digest_6_s k29 S n v0 v1 v3).symm.trans hF
    refine lv_iload_n hx hb dX6_digest_6 rfl (lv_at hl 2 rfl) ?_
    refine lv_bipush (v := 10) hx hb dX6_digest_7 (by decide) ?_
    refine m_icmp_ge C (tgt := 29) hF dX6_digest_9 (by decide) (fun hF => ?_) (fun hF => ?_)
    · exact hk29 v0 v1 _ _ _ hF hI (lv_sub hl [0, 1] rfl)
    · refine lv_lload_n hx hb dX6_digest_12 rfl (lv_at hl 1 rfl) ?_
      refine lv_aload_n hx hb dX6_digest_13 rfl (lv_at hl 0 rfl) ?_
      refine lv_iload_n hx hb dX6_digest_14 rfl (lv_at hl 2 rfl) ?_
      refine m_callViR C cd_X6_299 ⟨rfl, by decide⟩ hl.1 hI hF (fun _ h => ok_X6_howMany h) rfl rfl ⟨rfl, rfl, Nat.le_of_ble_eq_true rfl, Nat.le_of_ble_eq_true rfl⟩ ⟨Nat.le_of_ble_eq_true rfl, Nat.le_of_ble_eq_true rfl⟩ (Nat.le_of_ble_eq_true rfl) dX6_digest_15 (fun r1 H locs hF hI => ?_)
      refine lv_i2l hx hb dX6_digest_18 rfl ?_
      refine m_callSlR C cd_X6_304 hl.1 hI hF (fun _ h => ok_X6_digested h) rfl rfl ⟨rfl, rfl, Nat.le_of_ble_eq_true rfl, Nat.le_of_ble_eq_true rfl⟩ ⟨Nat.le_of_ble_eq_true rfl, Nat.le_of_ble_eq_true rfl⟩ (Nat.le_of_ble_eq_true rfl) dX6_digest_19 (fun r2 H locs hF hI => ?_)
      refine lv_lstore_n (lv' := [(1, .long r2), (0, .ref (mA E.b v0)), (3, .int v3)]) hx hb dX6_digest_22 rfl hl (by decide) rfl (fun ls hl => ?_)
      refine lv_iinc (v := v3 + 1) (lv' := [(3, .int (v3 + 1)), (1, .long r2), (0, .ref (mA E.b v0))]) hx hb dX6_digest_23 hl (k := 2) rfl rfl (by decide) rfl (fun ls hl => ?_)
      refine lv_goto (tgt := 6) hx hb dX6_digest_26 (by decide) ?_
      exact ih v0 r2 (v3 + 1) _ _ _ hF hI (lv_sub hl [2, 1, 0] rfl)
set_option maxRecDepth 100000 in
set_option maxHeartbeats 4000000 in
theorem bl_X6_digest_31 {p : Program} {l : Launch} {e : Env} {s : State} {m : MethodId} {args : Array Value} {below : List Frame} {meth : Method} {c : Code} {E : mE} {n0 : Nat} {r : Int64} {S : mS} (C : mCx p s m args meth c cX6_digest 4 RX6 (some .long) E n0) {k85 : Int32 → Int64 → Option Int64} (hk85 : ∀ (v0 : Int32) (v1 : Int64) (H : Heap) (locs : List Loc) (ls : Array Slot), k85 v0 v1 = some r → mIv s E S H locs 0 → lv_has ls 4 [(0, .ref (mA E.b v0)), (1, .long v1)] → W p l e rm_X6_digest s m args below meth c H locs 0 0 (mQl below args s 0 0 n0 E (r, S)) (F0 m 85 ls [])) : ∀ (n : Nat)  (v0 : Int32) (v1 : Int64) (v3 : Int32) (H : Heap) (locs : List Loc) (ls : Array Slot), f_X6_digest_31 k85 S n v0 v1 v3 = some r → mIv s E S H locs 0 → lv_has ls 4 [(0, .ref (mA E.b v0)), (1, .long v1), (3, .int v3)] → W p l e rm_X6_digest s m args below meth c H locs 0 0 (mQl below args s 0 0 n0 E (r, S)) (F0 m 31 ls []) := by
  have hx := C.1
  have hb := C.2.1
  intro n
  induction n with
  | zero =>
    intro v0 v1 v3 H locs ls hF
    exact nomatch (show (none : Option Int64) = some r from hF)
  | succ n ih =>
    intro v0 v1 v3 H locs ls hF hI hl
    have hF := (f_X6_digest_31_s k85 S n v0 v1 v3).symm.trans hF
    refine lv_iload_n hx hb dX6_digest_31 rfl (lv_at hl 2 rfl) ?_
    refine lv_aload_n hx hb dX6_digest_32 rfl (lv_at hl 0 rfl) ?_
    refine m_getR C fd_X6_12 hI hF dX6_digest_33 (fun r3 hF => ?_)
    refine m_getR C fd_X6_76 hI hF dX6_digest_36 (fun r4 hF => ?_)
    refine m_get C fd_X6_89 hI hF dX6_digest_39 (fun r5 hF => ?_)
    refine m_icmp_ge C (tgt := 85) hF dX6_digest_42 (by decide) (fun hF => ?_) (fun hF => ?_)
    · exact hk85 v0 v1 _ _ _ hF hI (lv_sub hl [0, 1] rfl)
    · refine lv_lload_n hx hb dX6_digest_45 rfl (lv_at hl 1 rfl) ?_
      refine lv_aload_n hx hb dX6_digest_46 rfl (lv_at hl 0 rfl) ?_
      refine m_getR C fd_X6_12 hI hF dX6_digest_47 (fun r6 hF => ?_)
      refine m_getR C fd_X6_76 hI hF dX6_digest_50 (fun r7 hF => ?_)
      refine m_getR C fd_X6_158 hI hF dX6_digest_53 (fun r8 hF => ?_)
      refine lv_iload_n hx hb dX6_digest_56 rfl (lv_at hl 2 rfl) ?_
      refine m_iald C hI hF dX6_digest_57 (fun r9 hF => ?_)
      refine lv_i2l hx hb dX6_digest_58 rfl ?_
      refine m_callSlR C cd_X6_304 hl.1 hI hF (fun _ h => ok_X6_digested h) rfl rfl ⟨rfl, rfl, Nat.le_of_ble_eq_true rfl, Nat.le_of_ble_eq_true rfl⟩ ⟨Nat.le_of_ble_eq_true rfl, Nat.le_of_ble_eq_true rfl⟩ (Nat.le_of_ble_eq_true rfl) dX6_digest_59 (fun r10 H locs hF hI => ?_)
      refine lv_aload_n hx hb dX6_digest_62 rfl (lv_at hl 0 rfl) ?_
      refine m_getR C fd_X6_12 hI hF dX6_digest_63 (fun r11 hF => ?_)
      refine m_getR C fd_X6_76 hI hF dX6_digest_66 (fun r12 hF => ?_)
      refine m_getR C fd_X6_161 hI hF dX6_digest_69 (fun r13 hF => ?_)
      refine lv_iload_n hx hb dX6_digest_72 rfl (lv_at hl 2 rfl) ?_
      refine m_iald C hI hF dX6_digest_73 (fun r14 hF => ?_)
      refine lv_i2l hx hb dX6_digest_74 rfl ?_
      refine m_callSlR C cd_X6_304 hl.1 hI hF (fun _ h => ok_X6_digested h) rfl rfl ⟨rfl, rfl, Nat.le_of_ble_eq_true rfl, Nat.le_of_ble_eq_true rfl⟩ ⟨Nat.le_of_ble_eq_true rfl, Nat.le_of_ble_eq_true rfl⟩ (Nat.le_of_ble_eq_true rfl) dX6_digest_75 (fun r15 H locs hF hI => ?_)
      refine lv_lstore_n (lv' := [(1, .long r15), (0, .ref (mA E.b v0)), (3, .int v3)]) hx hb dX6_digest_78 rfl hl (by decide) rfl (fun ls hl => ?_)
      refine lv_iinc (v := v3 + 1) (lv' := [(3, .int (v3 + 1)), (1, .long r15), (0, .ref (mA E.b v0))]) hx hb dX6_digest_79 hl (k := 2) rfl rfl (by decide) rfl (fun ls hl => ?_)
      refine lv_goto (tgt := 31) hx hb dX6_digest_82 (by decide) ?_
      exact ih v0 r15 (v3 + 1) _ _ _ hF hI (lv_sub hl [2, 1, 0] rfl)
set_option maxRecDepth 100000 in
set_option maxHeartbeats 4000000 in
theorem bl_X6_digest_87 {p : Program} {l : Launch} {e : Env} {s : State} {m : MethodId} {args : Array Value} {below : List Frame} {meth : Method} {c : Code} {E : mE} {n0 : Nat} {r : Int64} {S : mS} (C : mCx p s m args meth c cX6_digest 4 RX6 (some .long) E n0) {k141 : Int32 → Int64 → Option Int64} (hk141 : ∀ (v0 : Int32) (v1 : Int64) (H : Heap) (locs : List Loc) (ls : Array Slot), k141 v0 v1 = some r → mIv s E S H locs 0 → lv_has ls 4 [(0, .ref (mA E.b v0)), (1, .long v1)] → W p l e rm_X6_digest s m args below meth c H locs 0 0 (mQl below args s 0 0 n0 E (r, S)) (F0 m 141 ls [])) : ∀ (n : Nat)  (v0 : Int32) (v1 : Int64) (v3 : Int32) (H : Heap) (locs : List Loc) (ls : Array Slot), f_X6_digest_87 k141 S n v0 v1 v3 = some r → mIv s E S H locs 0 → lv_has ls 4 [(0, .ref (mA E.b v0)), (1, .long v1), (3, .int v3)] → W p l e rm_X6_digest s m args below meth c H locs 0 0 (mQl below args s 0 0 n0 E (r, S)) (F0 m 87 ls []) := by
  have hx := C.1
  have hb := C.2.1
  intro n
  induction n with
  | zero =>
    intro v0 v1 v3 H locs ls hF
    exact nomatch (show (none : Option Int64) = some r from hF)
  | succ n ih =>
    intro v0 v1 v3 H locs ls hF hI hl
    have hF := (f_X6_digest_87_s k141 S n v0 v1 v3).symm.trans hF
    refine lv_iload_n hx hb dX6_digest_87 rfl (lv_at hl 2 rfl) ?_
    refine lv_aload_n hx hb dX6_digest_88 rfl (lv_at hl 0 rfl) ?_
    refine m_getR C fd_X6_12 hI hF dX6_digest_89 (fun r16 hF => ?_)
    refine m_getR C fd_X6_76 hI hF dX6_digest_92 (fun r17 hF => ?_)
    refine m_get C fd_X6_79 hI hF dX6_digest_95 (fun r18 hF => ?_)
    refine m_icmp_ge C (tgt := 141) hF dX6_digest_98 (by decide) (fun hF => ?_) (fun hF => ?_)
    · exact hk141 v0 v1 _ _ _ hF hI (lv_sub hl [0, 1] rfl)
    · refine lv_lload_n hx hb dX6_digest_101 rfl (lv_at hl 1 rfl) ?_
      refine lv_aload_n hx hb dX6_digest_102 rfl (lv_at hl 0 rfl) ?_
      refine m_getR C fd_X6_12 hI hF dX6_digest_103 (fun r19 hF => ?_)
      refine m_getR C fd_X6_76 hI hF dX6_digest_106 (fun r20 hF => ?_)
      refine m_getR C fd_X6_170 hI hF dX6_digest_109 (fun r21 hF => ?_)
      refine lv_iload_n hx hb dX6_digest_112 rfl (lv_at hl 2 rfl) ?_
      refine m_iald C hI hF dX6_digest_113 (fun r22 hF => ?_)
      refine lv_i2l hx hb dX6_digest_114 rfl ?_
      refine m_callSlR C cd_X6_304 hl.1 hI hF (fun _ h => ok_X6_digested h) rfl rfl ⟨rfl, rfl, Nat.le_of_ble_eq_true rfl, Nat.le_of_ble_eq_true rfl⟩ ⟨Nat.le_of_ble_eq_true rfl, Nat.le_of_ble_eq_true rfl⟩ (Nat.le_of_ble_eq_true rfl) dX6_digest_115 (fun r23 H locs hF hI => ?_)
      refine lv_aload_n hx hb dX6_digest_118 rfl (lv_at hl 0 rfl) ?_
      refine m_getR C fd_X6_12 hI hF dX6_digest_119 (fun r24 hF => ?_)
      refine m_getR C fd_X6_76 hI hF dX6_digest_122 (fun r25 hF => ?_)
      refine m_getR C fd_X6_173 hI hF dX6_digest_125 (fun r26 hF => ?_)
      refine lv_iload_n hx hb dX6_digest_128 rfl (lv_at hl 2 rfl) ?_
      refine m_iald C hI hF dX6_digest_129 (fun r27 hF => ?_)
      refine lv_i2l hx hb dX6_digest_130 rfl ?_
      refine m_callSlR C cd_X6_304 hl.1 hI hF (fun _ h => ok_X6_digested h) rfl rfl ⟨rfl, rfl, Nat.le_of_ble_eq_true rfl, Nat.le_of_ble_eq_true rfl⟩ ⟨Nat.le_of_ble_eq_true rfl, Nat.le_of_ble_eq_true rfl⟩ (Nat.le_of_ble_eq_true rfl) dX6_digest_131 (fun r28 H locs hF hI => ?_)
      refine lv_lstore_n (lv' := [(1, .long r28), (0, .ref (mA E.b v0)), (3, .int v3)]) hx hb dX6_digest_134 rfl hl (by decide) rfl (fun ls hl => ?_)
      refine lv_iinc (v := v3 + 1) (lv' := [(3, .int (v3 + 1)), (1, .long r28), (0, .ref (mA E.b v0))]) hx hb dX6_digest_135 hl (k := 2) rfl rfl (by decide) rfl (fun ls hl => ?_)
      refine lv_goto (tgt := 87) hx hb dX6_digest_138 (by decide) ?_
      exact ih v0 r28 (v3 + 1) _ _ _ hF hI (lv_sub hl [2, 1, 0] rfl)
set_option maxRecDepth 100000 in
set_option maxHeartbeats 4000000 in
theorem bl_X6_digest_141 {p : Program} {l : Launch} {e : Env} {s : State} {m : MethodId} {args : Array Value} {below : List Frame} {meth : Method} {c : Code} {E : mE} {n0 : Nat} {r : Int64} {S : mS} (C : mCx p s m args meth c cX6_digest 4 RX6 (some .long) E n0) : ∀  (v0 : Int32) (v1 : Int64) (H : Heap) (locs : List Loc) (ls : Array Slot), f_X6_digest_141 S v0 v1 = some r → mIv s E S H locs 0 → lv_has ls 4 [(0, .ref (mA E.b v0)), (1, .long v1)] → W p l e rm_X6_digest s m args below meth c H locs 0 0 (mQl below args s 0 0 n0 E (r, S)) (F0 m 141 ls []) := by
  have hx := C.1
  have hb := C.2.1
  intro v0 v1 H locs ls hF hI hl
  refine lv_lload_n hx hb dX6_digest_141 rfl (lv_at hl 1 rfl) ?_
  refine lv_aload_n hx hb dX6_digest_142 rfl (lv_at hl 0 rfl) ?_
  refine m_getR C fd_X6_12 hI hF dX6_digest_143 (fun r29 hF => ?_)
  refine m_getR C fd_X6_217 hI hF dX6_digest_146 (fun r30 hF => ?_)
  refine m_callSlR C cd_X6_308 hl.1 hI hF (fun _ h => ok_X6_digestedRows h) rfl rfl ⟨rfl, rfl, Nat.le_of_ble_eq_true rfl, Nat.le_of_ble_eq_true rfl⟩ ⟨Nat.le_of_ble_eq_true rfl, Nat.le_of_ble_eq_true rfl⟩ (Nat.le_of_ble_eq_true rfl) dX6_digest_149 (fun r31 H locs hF hI => ?_)
  refine lv_lstore_n (lv' := [(1, .long r31), (0, .ref (mA E.b v0))]) hx hb dX6_digest_152 rfl hl (by decide) rfl (fun ls hl => ?_)
  refine lv_lload_n hx hb dX6_digest_153 rfl (lv_at hl 0 rfl) ?_
  refine lv_aload_n hx hb dX6_digest_154 rfl (lv_at hl 1 rfl) ?_
  refine m_getR C fd_X6_12 hI hF dX6_digest_155 (fun r32 hF => ?_)
  refine m_getR C fd_X6_235 hI hF dX6_digest_158 (fun r33 hF => ?_)
  refine m_callSlR C cd_X6_308 hl.1 hI hF (fun _ h => ok_X6_digestedRows h) rfl rfl ⟨rfl, rfl, Nat.le_of_ble_eq_true rfl, Nat.le_of_ble_eq_true rfl⟩ ⟨Nat.le_of_ble_eq_true rfl, Nat.le_of_ble_eq_true rfl⟩ (Nat.le_of_ble_eq_true rfl) dX6_digest_161 (fun r34 H locs hF hI => ?_)
  refine lv_lstore_n (lv' := [(1, .long r34), (0, .ref (mA E.b v0))]) hx hb dX6_digest_164 rfl hl (by decide) rfl (fun ls hl => ?_)
  refine lv_lload_n hx hb dX6_digest_165 rfl (lv_at hl 0 rfl) ?_
  refine lv_aload_n hx hb dX6_digest_166 rfl (lv_at hl 1 rfl) ?_
  refine m_getR C fd_X6_12 hI hF dX6_digest_167 (fun r35 hF => ?_)
  refine m_getR C fd_X6_238 hI hF dX6_digest_170 (fun r36 hF => ?_)
  refine m_callSlR C cd_X6_308 hl.1 hI hF (fun _ h => ok_X6_digestedRows h) rfl rfl ⟨rfl, rfl, Nat.le_of_ble_eq_true rfl, Nat.le_of_ble_eq_true rfl⟩ ⟨Nat.le_of_ble_eq_true rfl, Nat.le_of_ble_eq_true rfl⟩ (Nat.le_of_ble_eq_true rfl) dX6_digest_173 (fun r37 H locs hF hI => ?_)
  refine lv_lstore_n (lv' := [(1, .long r37), (0, .ref (mA E.b v0))]) hx hb dX6_digest_176 rfl hl (by decide) rfl (fun ls hl => ?_)
  refine lv_lload_n hx hb dX6_digest_177 rfl (lv_at hl 0 rfl) ?_
  refine lv_aload_n hx hb dX6_digest_178 rfl (lv_at hl 1 rfl) ?_
  refine m_get C fd_X6_284 hI hF dX6_digest_179 (fun r38 hF => ?_)
  refine lv_i2l hx hb dX6_digest_182 rfl ?_
  refine m_callSlR C cd_X6_304 hl.1 hI hF (fun _ h => ok_X6_digested h) rfl rfl ⟨rfl, rfl, Nat.le_of_ble_eq_true rfl, Nat.le_of_ble_eq_true rfl⟩ ⟨Nat.le_of_ble_eq_true rfl, Nat.le_of_ble_eq_true rfl⟩ (Nat.le_of_ble_eq_true rfl) dX6_digest_183 (fun r39 H locs hF hI => ?_)
  refine lv_aload_n hx hb dX6_digest_186 rfl (lv_at hl 1 rfl) ?_
  refine m_get C fd_X6_64 hI hF dX6_digest_187 (fun r40 hF => ?_)
  refine lv_i2l hx hb dX6_digest_190 rfl ?_
  refine m_callSlR C cd_X6_304 hl.1 hI hF (fun _ h => ok_X6_digested h) rfl rfl ⟨rfl, rfl, Nat.le_of_ble_eq_true rfl, Nat.le_of_ble_eq_true rfl⟩ ⟨Nat.le_of_ble_eq_true rfl, Nat.le_of_ble_eq_true rfl⟩ (Nat.le_of_ble_eq_true rfl) dX6_digest_191 (fun r41 H locs hF hI => ?_)
  exact m_lretR C hI hF dX6_digest_194
set_option maxRecDepth 100000 in
set_option maxHeartbeats 4000000 in
theorem bl_X6_digest_85 {p : Program} {l : Launch} {e : Env} {s : State} {m : MethodId} {args : Array Value} {below : List Frame} {meth : Method} {c : Code} {E : mE} {n0 : Nat} {r : Int64} {S : mS} (C : mCx p s m args meth c cX6_digest 4 RX6 (some .long) E n0) : ∀  (v0 : Int32) (v1 : Int64) (H : Heap) (locs : List Loc) (ls : Array Slot), f_X6_digest_85 S v0 v1 = some r → mIv s E S H locs 0 → lv_has ls 4 [(0, .ref (mA E.b v0)), (1, .long v1)] → W p l e rm_X6_digest s m args below meth c H locs 0 0 (mQl below args s 0 0 n0 E (r, S)) (F0 m 85 ls []) := by
  have hx := C.1
  have hb := C.2.1
  intro v0 v1 H locs ls hF hI hl
  refine lv_iconst (v := 0) hx hb dX6_digest_85 (by decide) ?_
  refine lv_istore_n (lv' := [(3, .int 0), (0, .ref (mA E.b v0)), (1, .long v1)]) hx hb dX6_digest_86 rfl hl (by decide) rfl (fun ls hl => ?_)
  exact (bl_X6_digest_87 C (k141 := (f_X6_digest_141 S)) (bl_X6_digest_141 C) 1000) v0 v1 0 _ _ _ hF hI (lv_sub hl [1, 2, 0] rfl)
set_option maxRecDepth 100000 in
set_option maxHeartbeats 4000000 in
theorem bl_X6_digest_29 {p : Program} {l : Launch} {e : Env} {s : State} {m : MethodId} {args : Array Value} {below : List Frame} {meth : Method} {c : Code} {E : mE} {n0 : Nat} {r : Int64} {S : mS} (C : mCx p s m args meth c cX6_digest 4 RX6 (some .long) E n0) : ∀  (v0 : Int32) (v1 : Int64) (H : Heap) (locs : List Loc) (ls : Array Slot), f_X6_digest_29 S v0 v1 = some r → mIv s E S H locs 0 → lv_has ls 4 [(0, .ref (mA E.b v0)), (1, .long v1)] → W p l e rm_X6_digest s m args below meth c H locs 0 0 (mQl below args s 0 0 n0 E (r, S)) (F0 m 29 ls []) := by
  have hx := C.1
  have hb := C.2.1
  intro v0 v1 H locs ls hF hI hl
  refine lv_iconst (v := 0) hx hb dX6_digest_29 (by decide) ?_
  refine lv_istore_n (lv' := [(3, .int 0), (0, .ref (mA E.b v0)), (1, .long v1)]) hx hb dX6_digest_30 rfl hl (by decide) rfl (fun ls hl => ?_)
  exact (bl_X6_digest_31 C (k85 := (f_X6_digest_85 S)) (bl_X6_digest_85 C) 1000) v0 v1 0 _ _ _ hF hI (lv_sub hl [1, 2, 0] rfl)
set_option maxRecDepth 100000 in
set_option maxHeartbeats 4000000 in
theorem ok_X6_digest {l : Launch} {E : mE} {v0 : Int32} {S : mS} {r : Int64} (hF : f_X6_digest v0 S = some r) : mMl l yX6_digest cX6_digest 4 (some .long) rm_X6_digest 0 0 [.ref (mA E.b v0)] E S (r, S) := by
  refine m_met_l (by decide) (Nat.le_of_ble_eq_true rfl) (fun p e s m args below meth c ls hin C hI hl => ?_)
  have hx := C.1
  have hb := C.2.1
  have hl : lv_has ls 4 [(0, .ref (mA E.b v0))] := hl
  generalize s.heap = H at hI ⊢
  generalize ([] : List Loc) = locs at hI ⊢
  refine lv_ldc2 (v := 1669) hx hb C.2.2.2.1 (C.2.2.2.2.1 _ kw_X6_302) dX6_digest_0 ?_
  refine lv_lstore_n (lv' := [(1, .long 1669), (0, .ref (mA E.b v0))]) hx hb dX6_digest_3 rfl hl (by decide) rfl (fun ls hl => ?_)
  refine lv_iconst (v := 0) hx hb dX6_digest_4 (by decide) ?_
  refine lv_istore_n (lv' := [(3, .int 0), (1, .long 1669), (0, .ref (mA E.b v0))]) hx hb dX6_digest_5 rfl hl (by decide) rfl (fun ls hl => ?_)
  exact (bl_X6_digest_6 C (k29 := (f_X6_digest_29 S)) (bl_X6_digest_29 C) 1000) v0 1669 0 _ _ _ hF hI (lv_sub hl [2, 1, 0] rfl)
