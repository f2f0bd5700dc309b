noncomputable def f_X7_bad (v0 : Int32) (S : mS) : Option (Int32 × mS) := mGr 7 0 v0 S (fun r1 => mX 8 r1 0 S (fun r2 => mXs r1 0 (r2 + 1) S (fun S3 => some ((-2), S3))))
def rm_X7_bad : Room := { frames := 0, cells := 0, slots := 0, locals := 0 }
set_option maxRecDepth 100000 in
set_option maxHeartbeats 4000000 in
theorem ok_X7_bad {l : Launch} {E : mE} {v0 : Int32} {S : mS} {F : Int32 × mS} (hF : f_X7_bad v0 S = some F) : mMi l yX7_bad cX7_bad 1 (some .int) rm_X7_bad 0 0 [.ref (mA E.b v0)] E S F := by
  refine m_met_i (by decide) (Nat.le_of_ble_eq_true rfl) (fun p e s m args below meth c ls hin C hI hl => ?_)
  have hx := C.1
  have hb := C.2.1
  have hl : lv_has ls 1 [(0, .ref (mA E.b v0))] := hl
  generalize s.heap = H at hI ⊢
  generalize ([] : List Loc) = locs at hI ⊢
  refine lv_aload_n hx hb dX7_bad_0 rfl (lv_at hl 0 rfl) ?_
  refine m_getR C fd_X7_1 hI hF dX7_bad_1 (fun r1 hF => ?_)
  refine lv_iconst (v := 0) hx hb dX7_bad_4 (by decide) ?_
  refine lv_dup2_11 hx hb dX7_bad_5 rfl rfl ?_
  refine m_iald C hI hF dX7_bad_6 (fun r2 hF => ?_)
  refine lv_iconst (v := 1) hx hb dX7_bad_7 (by decide) ?_
  refine lv_iadd hx hb dX7_bad_8 ?_
  refine m_iast C hI hF dX7_bad_9 (fun S3 H locs hF hI => ?_)
  refine lv_bipush (v := (-2)) hx hb dX7_bad_10 (by decide) ?_
  exact m_ireti C hI hF dX7_bad_12
noncomputable def f_X7_no (v0 : Int32) (S : mS) : Option (Int32 × mS) := mGr 7 0 v0 S (fun r1 => mX 8 r1 1 S (fun r2 => mXs r1 1 (r2 + 1) S (fun S3 => some ((-3), S3))))
def rm_X7_no : Room := { frames := 0, cells := 0, slots := 0, locals := 0 }
set_option maxRecDepth 100000 in
set_option maxHeartbeats 4000000 in
theorem ok_X7_no {l : Launch} {E : mE} {v0 : Int32} {S : mS} {F : Int32 × mS} (hF : f_X7_no v0 S = some F) : mMi l yX7_no cX7_no 1 (some .int) rm_X7_no 0 0 [.ref (mA E.b v0)] E S F := by
  refine m_met_i (by decide) (Nat.le_of_ble_eq_true rfl) (fun p e s m args below meth c ls hin C hI hl => ?_)
  have hx := C.1
  have hb := C.2.1
  have hl : lv_has ls 1 [(0, .ref (mA E.b v0))] := hl
  generalize s.heap = H at hI ⊢
  generalize ([] : List Loc) = locs at hI ⊢
  refine lv_aload_n hx hb dX7_no_0 rfl (lv_at hl 0 rfl) ?_
  refine m_getR C fd_X7_1 hI hF dX7_no_1 (fun r1 hF => ?_)
  refine lv_iconst (v := 1) hx hb dX7_no_4 (by decide) ?_
  refine lv_dup2_11 hx hb dX7_no_5 rfl rfl ?_
  refine m_iald C hI hF dX7_no_6 (fun r2 hF => ?_)
  refine lv_iconst (v := 1) hx hb dX7_no_7 (by decide) ?_
  refine lv_iadd hx hb dX7_no_8 ?_
  refine m_iast C hI hF dX7_no_9 (fun S3 H locs hF hI => ?_)
  refine lv_bipush (v := (-3)) hx hb dX7_no_10 (by decide) ?_
  exact m_ireti C hI hF dX7_no_12
noncomputable def f_X7_full (v0 : Int32) (S : mS) : Option (Int32 × mS) := mGr 7 0 v0 S (fun r1 => mX 8 r1 2 S (fun r2 => mXs r1 2 (r2 + 1) S (fun S3 => some ((-4), S3))))
def rm_X7_full : Room := { frames := 0, cells := 0, slots := 0, locals := 0 }
set_option maxRecDepth 100000 in
set_option maxHeartbeats 4000000 in
theorem ok_X7_full {l : Launch} {E : mE} {v0 : Int32} {S : mS} {F : Int32 × mS} (hF : f_X7_full v0 S = some F) : mMi l yX7_full cX7_full 1 (some .int) rm_X7_full 0 0 [.ref (mA E.b v0)] E S F := by
  refine m_met_i (by decide) (Nat.le_of_ble_eq_true rfl) (fun p e s m args below meth c ls hin C hI hl => ?_)
  have hx := C.1
  have hb := C.2.1
  have hl : lv_has ls 1 [(0, .ref (mA E.b v0))] := hl
  generalize s.heap = H at hI ⊢
  generalize ([] : List Loc) = locs at hI ⊢
  refine lv_aload_n hx hb dX7_full_0 rfl (lv_at hl 0 rfl) ?_
  refine m_getR C fd_X7_1 hI hF dX7_full_1 (fun r1 hF => ?_)
  refine lv_iconst (v := 2) hx hb dX7_full_4 (by decide) ?_
  refine lv_dup2_11 hx hb dX7_full_5 rfl rfl ?_
  refine m_iald C hI hF dX7_full_6 (fun r2 hF => ?_)
  refine lv_iconst (v := 1) hx hb dX7_full_7 (by decide) ?_
  refine lv_iadd hx hb dX7_full_8 ?_
  refine m_iast C hI hF dX7_full_9 (fun S3 H locs hF hI => ?_)
  refine lv_bipush (v := (-4)) hx hb dX7_full_10 (by decide) ?_
  exact m_ireti C hI hF dX7_full_12
noncomputable def f_X7_in_15 (t0 : Int32) : Option Int32 := mZ t0 (some t0)
noncomputable def f_X7_in_14 : Option Int32 := (f_X7_in_15) 0
noncomputable def f_X7_in (v0 : Int32) (v1 : Int32) (v2 : Int32) : Option Int32 := if v0 < v1 then ((f_X7_in_14)) else (if v2 < v0 then ((f_X7_in_14)) else ((f_X7_in_15) 1))
def rm_X7_in : Room := { frames := 0, cells := 0, slots := 0, locals := 0 }
set_option maxRecDepth 100000 in
set_option maxHeartbeats 4000000 in
theorem bl_X7_in_15 {p : Program} {l : Launch} {e : Env} {s : State} {m : MethodId} {args : Array Value} {below : List Frame} {meth : Method} {c : Code} {E : mE} {n0 : Nat} {r : Int32} {S : mS} (C : mCx p s m args meth c cX7_in 3 RX7 (some .boolean) E n0) : ∀  (t0 : Int32) (H : Heap) (locs : List Loc) (ls : Array Slot), f_X7_in_15 t0 = some r → mIv s E S H locs 0 → lv_has ls 3 [] → W p l e rm_X7_in s m args below meth c H locs 0 0 (mQi below args s 0 0 n0 E (r, S)) (F0 m 15 ls [.int t0]) := by
  have hx := C.1
  have hb := C.2.1
  intro t0 H locs ls hF hI hl
  exact m_iretzR C hI hF dX7_in_15
set_option maxRecDepth 100000 in
set_option maxHeartbeats 4000000 in
theorem bl_X7_in_14 {p : Program} {l : Launch} {e : Env} {s : State} {m : MethodId} {args : Array Value} {below : List Frame} {meth : Method} {c : Code} {E : mE} {n0 : Nat} {r : Int32} {S : mS} (C : mCx p s m args meth c cX7_in 3 RX7 (some .boolean) E n0) : ∀  (H : Heap) (locs : List Loc) (ls : Array Slot), f_X7_in_14 = some r → mIv s E S H locs 0 → lv_has ls 3 [] → W p l e rm_X7_in s m args below meth c H locs 0 0 (mQi below args s 0 0 n0 E (r, S)) (F0 m 14 ls []) := by
  have hx := C.1
  have hb := C.2.1
  intro H locs ls hF hI hl
  refine lv_iconst (v := 0) hx hb dX7_in_14 (by decide) ?_
  exact (bl_X7_in_15 C) 0 _ _ _ hF hI (lv_sub hl [] rfl)
set_option maxRecDepth 100000 in
set_option maxHeartbeats 4000000 in
theorem ok_X7_in {l : Launch} {E : mE} {v0 : Int32} {v1 : Int32} {v2 : Int32} {S : mS} {r : Int32} (hF : f_X7_in v0 v1 v2 = some r) : mMi l yX7_in cX7_in 3 (some .boolean) rm_X7_in 0 0 [.int v0, .int v1, .int v2] E S (r, S) := by
  refine m_met_i (by decide) (Nat.le_of_ble_eq_true rfl) (fun p e s m args below meth c ls hin C hI hl => ?_)
  have hx := C.1
  have hb := C.2.1
  have hl : lv_has ls 3 [(0, .int v0), (1, .int v1), (2, .int v2)] := hl
  generalize s.heap = H at hI ⊢
  generalize ([] : List Loc) = locs at hI ⊢
  refine lv_iload_n hx hb dX7_in_0 rfl (lv_at hl 0 rfl) ?_
  refine lv_iload_n hx hb dX7_in_1 rfl (lv_at hl 1 rfl) ?_
  refine m_icmp_lt C (tgt := 14) hF dX7_in_2 (by decide) (fun hF => ?_) (fun hF => ?_)
  · exact (bl_X7_in_14 C)  _ _ _ hF hI (lv_sub hl [] rfl)
  · refine lv_iload_n hx hb dX7_in_5 rfl (lv_at hl 0 rfl) ?_
    refine lv_iload_n hx hb dX7_in_6 rfl (lv_at hl 2 rfl) ?_
    refine m_icmp_gt C (tgt := 14) hF dX7_in_7 (by decide) (fun hF => ?_) (fun hF => ?_)
    · exact (bl_X7_in_14 C)  _ _ _ hF hI (lv_sub hl [] rfl)
    · refine lv_iconst (v := 1) hx hb dX7_in_10 (by decide) ?_
      refine lv_goto (tgt := 15) hx hb dX7_in_11 (by decide) ?_
      exact (bl_X7_in_15 C) 1 _ _ _ hF hI (lv_sub hl [] rfl)
noncomputable def f_X7_has_14 (t0 : Int32) : Option Int32 := mZ t0 (some t0)
noncomputable def f_X7_has (v0 : Int32) (v1 : Int32) : Option Int32 := if ((v0 >>> (v1 &&& 31)) &&& 1) = 1 then ((f_X7_has_14) 1) else ((f_X7_has_14) 0)
def rm_X7_has : Room := { frames := 0, cells := 0, slots := 0, locals := 0 }
set_option maxRecDepth 100000 in
set_option maxHeartbeats 4000000 in
theorem bl_X7_has_14 {p : Program} {l : Launch} {e : Env} {s : State} {m : MethodId} {args : Array Value} {below : List Frame} {meth : Method} {c : Code} {E : mE} {n0 : Nat} {r : Int32} {S : mS} (C : mCx p s m args meth c cX7_has 2 RX7 (some .boolean) E n0) : ∀  (t0 : Int32) (H : Heap) (locs : List Loc) (ls : Array Slot), f_X7_has_14 t0 = some r → mIv s E S H locs 0 → lv_has ls 2 [] → W p l e rm_X7_has s m args below meth c H locs 0 0 (mQi below args s 0 0 n0 E (r, S)) (F0 m 14 ls [.int t0]) := by
  have hx := C.1
  have hb := C.2.1
  intro t0 H locs ls hF hI hl
  exact m_iretzR C hI hF dX7_has_14
set_option maxRecDepth 100000 in
set_option maxHeartbeats 4000000 in
theorem ok_X7_has {l : Launch} {E : mE} {v0 : Int32} {v1 : Int32} {S : mS} {r : Int32} (hF : f_X7_has v0 v1 = some r) : mMi l yX7_has cX7_has 2 (some .boolean) rm_X7_has 0 0 [.int v0, .int v1] E S (r, S) := by
  refine m_met_i (by decide) (Nat.le_of_ble_eq_true rfl) (fun p e s m args below meth c ls hin C hI hl => ?_)
  have hx := C.1
  have hb := C.2.1
  have hl : lv_has ls 2 [(0, .int v0), (1, .int v1)] := hl
  generalize s.heap = H at hI ⊢
  generalize ([] : List Loc) = locs at hI ⊢
  refine lv_iload_n hx hb dX7_has_0 rfl (lv_at hl 0 rfl) ?_
  refine lv_iload_n hx hb dX7_has_1 rfl (lv_at hl 1 rfl) ?_
  refine lv_ishr hx hb dX7_has_2 ?_
  refine lv_iconst (v := 1) hx hb dX7_has_3 (by decide) ?_
  refine lv_iand hx hb dX7_has_4 ?_
  refine lv_iconst (v := 1) hx hb dX7_has_5 (by decide) ?_
  refine m_icmp_ne C (tgt := 13) hF dX7_has_6 (by decide) (fun hF => ?_) (fun hF => ?_)
  · refine lv_iconst (v := 0) hx hb dX7_has_13 (by decide) ?_
    exact (bl_X7_has_14 C) 0 _ _ _ hF hI (lv_sub hl [] rfl)
  · refine lv_iconst (v := 1) hx hb dX7_has_9 (by decide) ?_
    refine lv_goto (tgt := 14) hx hb dX7_has_10 (by decide) ?_
    exact (bl_X7_has_14 C) 1 _ _ _ hF hI (lv_sub hl [] rfl)
noncomputable def f_X7_lesser_10 (t0 : Int32) : Option Int32 := some t0
noncomputable def f_X7_lesser (v0 : Int32) (v1 : Int32) : Option Int32 := if v1 ≤ v0 then ((f_X7_lesser_10) v1) else ((f_X7_lesser_10) v0)
def rm_X7_lesser : Room := { frames := 0, cells := 0, slots := 0, locals := 0 }
set_option maxRecDepth 100000 in
set_option maxHeartbeats 4000000 in
theorem bl_X7_lesser_10 {p : Program} {l : Launch} {e : Env} {s : State} {m : MethodId} {args : Array Value} {below : List Frame} {meth : Method} {c : Code} {E : mE} {n0 : Nat} {r : Int32} {S : mS} (C : mCx p s m args meth c cX7_lesser 2 RX7 (some .int) E n0) : ∀  (t0 : Int32) (H : Heap) (locs : List Loc) (ls : Array Slot), f_X7_lesser_10 t0 = some r → mIv s E S H locs 0 → lv_has ls 2 [] → W p l e rm_X7_lesser s m args below meth c H locs 0 0 (mQi below args s 0 0 n0 E (r, S)) (F0 m 10 ls [.int t0]) := by
  have hx := C.1
  have hb := C.2.1
  intro t0 H locs ls hF hI hl
  exact m_iretiR C hI hF dX7_lesser_10
set_option maxRecDepth 100000 in
set_option maxHeartbeats 4000000 in
theorem ok_X7_lesser {l : Launch} {E : mE} {v0 : Int32} {v1 : Int32} {S : mS} {r : Int32} (hF : f_X7_lesser v0 v1 = some r) : mMi l yX7_lesser cX7_lesser 2 (some .int) rm_X7_lesser 0 0 [.int v0, .int v1] E S (r, S) := by
  refine m_met_i (by decide) (Nat.le_of_ble_eq_true rfl) (fun p e s m args below meth c ls hin C hI hl => ?_)
  have hx := C.1
  have hb := C.2.1
  have hl : lv_has ls 2 [(0, .int v0), (1, .int v1)] := hl
  generalize s.heap = H at hI ⊢
  generalize ([] : List Loc) = locs at hI ⊢
  refine lv_iload_n hx hb dX7_lesser_0 rfl (lv_at hl 0 rfl) ?_
  refine lv_iload_n hx hb dX7_lesser_1 rfl (lv_at hl 1 rfl) ?_
  refine m_icmp_ge C (tgt := 9) hF dX7_lesser_2 (by decide) (fun hF => ?_) (fun hF => ?_)
  · refine lv_iload_n hx hb dX7_lesser_9 rfl (lv_at hl 1 rfl) ?_
    exact (bl_X7_lesser_10 C) v1 _ _ _ hF hI (lv_sub hl [] rfl)
  · refine lv_iload_n hx hb dX7_lesser_5 rfl (lv_at hl 0 rfl) ?_
    refine lv_goto (tgt := 10) hx hb dX7_lesser_6 (by decide) ?_
    exact (bl_X7_lesser_10 C) v0 _ _ _ hF hI (lv_sub hl [] rfl)
noncomputable def f_X7_greater_10 (t0 : Int32) : Option Int32 := some t0
noncomputable def f_X7_greater (v0 : Int32) (v1 : Int32) : Option Int32 := if v0 ≤ v1 then ((f_X7_greater_10) v1) else ((f_X7_greater_10) v0)
def rm_X7_greater : Room := { frames := 0, cells := 0, slots := 0, locals := 0 }
set_option maxRecDepth 100000 in
set_option maxHeartbeats 4000000 in
theorem bl_X7_greater_10 {p : Program} {l : Launch} {e : Env} {s : State} {m : MethodId} {args : Array Value} {below : List Frame} {meth : Method} {c : Code} {E : mE} {n0 : Nat} {r : Int32} {S : mS} (C : mCx p s m args meth c cX7_greater 2 RX7 (some .int) E n0) : ∀  (t0 : Int32) (H : Heap) (locs : List Loc) (ls : Array Slot), f_X7_greater_10 t0 = some r → mIv s E S H locs 0 → lv_has ls 2 [] → W p l e rm_X7_greater s m args below meth c H locs 0 0 (mQi below args s 0 0 n0 E (r, S)) (F0 m 10 ls [.int t0]) := by
  have hx := C.1
  have hb := C.2.1
  intro t0 H locs ls hF hI hl
  exact m_iretiR C hI hF dX7_greater_10
set_option maxRecDepth 100000 in
set_option maxHeartbeats 4000000 in
theorem ok_X7_greater {l : Launch} {E : mE} {v0 : Int32} {v1 : Int32} {S : mS} {r : Int32} (hF : f_X7_greater v0 v1 = some r) : mMi l yX7_greater cX7_greater 2 (some .int) rm_X7_greater 0 0 [.int v0, .int v1] E S (r, S) := by
  refine m_met_i (by decide) (Nat.le_of_ble_eq_true rfl) (fun p e s m args below meth c ls hin C hI hl => ?_)
  have hx := C.1
  have hb := C.2.1
  have hl : lv_has ls 2 [(0, .int v0), (1, .int v1)] := hl
  generalize s.heap = H at hI ⊢
  generalize ([] : List Loc) = locs at hI ⊢
  refine lv_iload_n hx hb dX7_greater_0 rfl (lv_at hl 0 rfl) ?_
  refine lv_iload_n hx hb dX7_greater_1 rfl (lv_at hl 1 rfl) ?_
  refine m_icmp_le C (tgt := 9) hF dX7_greater_2 (by decide) (fun hF => ?_) (fun hF => ?_)
  · refine lv_iload_n hx hb dX7_greater_9 rfl (lv_at hl 1 rfl) ?_
    exact (bl_X7_greater_10 C) v1 _ _ _ hF hI (lv_sub hl [] rfl)
  · refine lv_iload_n hx hb dX7_greater_5 rfl (lv_at hl 0 rfl) ?_
    refine lv_goto (tgt := 10) hx hb dX7_greater_6 (by decide) ?_
    exact (bl_X7_greater_10 C) v0 _ _ _ hF hI (lv_sub hl [] rfl)
noncomputable def f_X7_off_14 (t0 : Int32) : Option Int32 := some t0
noncomputable def f_X7_off (v0 : Int32) (v1 : Int32) : Option Int32 := if v0 ≤ v1 then ((f_X7_off_14) (v1 - v0)) else ((f_X7_off_14) (v0 - v1))
def rm_X7_off : Room := { frames := 0, cells := 0, slots := 0, locals := 0 }
set_option maxRecDepth 100000 in
set_option maxHeartbeats 4000000 in
theorem bl_X7_off_14 {p : Program} {l : Launch} {e : Env} {s : State} {m : MethodId} {args : Array Value} {below : List Frame} {meth : Method} {c : Code} {E : mE} {n0 : Nat} {r : Int32} {S : mS} (C : mCx p s m args meth c cX7_off 2 RX7 (some .int) E n0) : ∀  (t0 : Int32) (H : Heap) (locs : List Loc) (ls : Array Slot), f_X7_off_14 t0 = some r → mIv s E S H locs 0 → lv_has ls 2 [] → W p l e rm_X7_off s m args below meth c H locs 0 0 (mQi below args s 0 0 n0 E (r, S)) (F0 m 14 ls [.int t0]) := by
  have hx := C.1
  have hb := C.2.1
  intro t0 H locs ls hF hI hl
  exact m_iretiR C hI hF dX7_off_14
set_option maxRecDepth 100000 in
set_option maxHeartbeats 4000000 in
theorem ok_X7_off {l : Launch} {E : mE} {v0 : Int32} {v1 : Int32} {S : mS} {r : Int32} (hF : f_X7_off v0 v1 = some r) : mMi l yX7_off cX7_off 2 (some .int) rm_X7_off 0 0 [.int v0, .int v1] E S (r, S) := by
  refine m_met_i (by decide) (Nat.le_of_ble_eq_true rfl) (fun p e s m args below meth c ls hin C hI hl => ?_)
  have hx := C.1
  have hb := C.2.1
  have hl : lv_has ls 2 [(0, .int v0), (1, .int v1)] := hl
  generalize s.heap = H at hI ⊢
  generalize ([] : List Loc) = locs at hI ⊢
  refine lv_iload_n hx hb dX7_off_0 rfl (lv_at hl 0 rfl) ?_
  refine lv_iload_n hx hb dX7_off_1 rfl (lv_at hl 1 rfl) ?_
  refine m_icmp_le C (tgt := 11) hF dX7_off_2 (by decide) (fun hF => ?_) (fun hF => ?_)
  · refine lv_iload_n hx hb dX7_off_11 rfl (lv_at hl 1 rfl) ?_
    refine lv_iload_n hx hb dX7_off_12 rfl (lv_at hl 0 rfl) ?_
    refine lv_isub hx hb dX7_off_13 ?_
    exact (bl_X7_off_14 C) (v1 - v0) _ _ _ hF hI (lv_sub hl [] rfl)
  · refine lv_iload_n hx hb dX7_off_5 rfl (lv_at hl 0 rfl) ?_
    refine lv_iload_n hx hb dX7_off_6 rfl (lv_at hl 1 rfl) ?_
    refine lv_isub hx hb dX7_off_7 ?_
    refine lv_goto (tgt := 14) hx hb dX7_off_8 (by decide) ?_
    exact (bl_X7_off_14 C) (v0 - v1) _ _ _ hF hI (lv_sub hl [] rfl)
noncomputable def f_X7_far (v0 : Int32) (v1 : Int32) : Option Int32 := mCp (f_X7_off (v0 / 5) (v1 / 5)) (fun r1 => mCp (f_X7_off (mRem v0 5) (mRem v1 5)) (fun r2 => some (r1 + r2)))
def rm_X7_far : Room := { frames := 1, cells := 0, slots := 0, locals := 21 }
set_option maxRecDepth 100000 in
set_option maxHeartbeats 4000000 in
theorem ok_X7_far {l : Launch} {E : mE} {v0 : Int32} {v1 : Int32} {S : mS} {r : Int32} (hF : f_X7_far v0 v1 = some r) : mMi l yX7_far cX7_far 2 (some .int) rm_X7_far 0 0 [.int v0, .int v1] E S (r, S) := by
  refine m_met_i (by decide) (Nat.le_of_ble_eq_true rfl) (fun p e s m args below meth c ls hin C hI hl => ?_)
  have hx := C.1
  have hb := C.2.1
  have hl : lv_has ls 2 [(0, .int v0), (1, .int v1)] := hl
  generalize s.heap = H at hI ⊢
  generalize ([] : List Loc) = locs at hI ⊢
  refine lv_iload_n hx hb dX7_far_0 rfl (lv_at hl 0 rfl) ?_
  refine lv_iconst (v := 5) hx hb dX7_far_1 (by decide) ?_
  refine lv_idiv hx hb dX7_far_2 (by decide) ?_
  refine lv_iload_n hx hb dX7_far_3 rfl (lv_at hl 1 rfl) ?_
  refine lv_iconst (v := 5) hx hb dX7_far_4 (by decide) ?_
  refine lv_idiv hx hb dX7_far_5 (by decide) ?_
  refine m_callSiR C cd_X7_7 hl.1 hI hF (fun _ h => ok_X7_off h) rfl rfl ⟨rfl, rfl, Nat.le_of_ble_eq_true rfl, Nat.le_of_ble_eq_true rfl⟩ ⟨Nat.le_of_ble_eq_true rfl, Nat.le_of_ble_eq_true rfl⟩ (Nat.le_of_ble_eq_true rfl) dX7_far_6 (fun r1 H locs hF hI => ?_)
  refine lv_iload_n hx hb dX7_far_9 rfl (lv_at hl 0 rfl) ?_
  refine lv_iconst (v := 5) hx hb dX7_far_10 (by decide) ?_
  refine m_irem C dX7_far_11 (by decide) ?_
  refine lv_iload_n hx hb dX7_far_12 rfl (lv_at hl 1 rfl) ?_
  refine lv_iconst (v := 5) hx hb dX7_far_13 (by decide) ?_
  refine m_irem C dX7_far_14 (by decide) ?_
  refine m_callSiR C cd_X7_7 hl.1 hI hF (fun _ h => ok_X7_off h) rfl rfl ⟨rfl, rfl, Nat.le_of_ble_eq_true rfl, Nat.le_of_ble_eq_true rfl⟩ ⟨Nat.le_of_ble_eq_true rfl, Nat.le_of_ble_eq_true rfl⟩ (Nat.le_of_ble_eq_true rfl) dX7_far_15 (fun r2 H locs hF hI => ?_)
  refine lv_iadd hx hb dX7_far_18 ?_
  exact m_iretiR C hI hF dX7_far_19
noncomputable def f_X7_begin (v0 : Int32) (v1 : Int32) (S : mS) : Option mS := mP 7 1 v0 0 S (fun S1 => mP 7 2 v0 0 S1 (fun S2 => mP 7 3 v0 v1 S2 (fun S3 => mP 7 4 v0 0 S3 (fun S4 => mP 7 5 v0 0 S4 (fun S5 => mP 7 6 v0 0 S5 (fun S6 => mP 7 7 v0 0 S6 (fun S7 => mP 7 21 v0 0 S7 (fun S8 => some S8))))))))
def rm_X7_begin : Room := { frames := 0, cells := 0, slots := 0, locals := 0 }
set_option maxRecDepth 100000 in
set_option maxHeartbeats 4000000 in
theorem ok_X7_begin {l : Launch} {E : mE} {v0 : Int32} {v1 : Int32} {S : mS} {F : mS} (hF : f_X7_begin v0 v1 S = some F) : mMv l yX7_begin cX7_begin 2 none rm_X7_begin 0 0 [.ref (mA E.b v0), .int v1] E S F := by
  refine m_met_v (by decide) (Nat.le_of_ble_eq_true rfl) (fun p e s m args below meth c ls hin C hI hl => ?_)
  have hx := C.1
  have hb := C.2.1
  have hl : lv_has ls 2 [(0, .ref (mA E.b v0)), (1, .int v1)] := hl
  generalize s.heap = H at hI ⊢
  generalize ([] : List Loc) = locs at hI ⊢
  refine lv_aload_n hx hb dX7_begin_0 rfl (lv_at hl 0 rfl) ?_
  refine lv_iconst (v := 0) hx hb dX7_begin_1 (by decide) ?_
  refine m_put C fd_X7_70 hI hF dX7_begin_2 (fun S1 H locs hF hI => ?_)
  refine lv_aload_n hx hb dX7_begin_5 rfl (lv_at hl 0 rfl) ?_
  refine lv_iconst (v := 0) hx hb dX7_begin_6 (by decide) ?_
  refine m_put C fd_X7_74 hI hF dX7_begin_7 (fun S2 H locs hF hI => ?_)
  refine lv_aload_n hx hb dX7_begin_10 rfl (lv_at hl 0 rfl) ?_
  refine lv_iload_n hx hb dX7_begin_11 rfl (lv_at hl 1 rfl) ?_
  refine m_put C fd_X7_77 hI hF dX7_begin_12 (fun S3 H locs hF hI => ?_)
  refine lv_aload_n hx hb dX7_begin_15 rfl (lv_at hl 0 rfl) ?_
  refine lv_iconst (v := 0) hx hb dX7_begin_16 (by decide) ?_
  refine m_put C fd_X7_80 hI hF dX7_begin_17 (fun S4 H locs hF hI => ?_)
  refine lv_aload_n hx hb dX7_begin_20 rfl (lv_at hl 0 rfl) ?_
  refine lv_iconst (v := 0) hx hb dX7_begin_21 (by decide) ?_
  refine m_put C fd_X7_83 hI hF dX7_begin_22 (fun S5 H locs hF hI => ?_)
  refine lv_aload_n hx hb dX7_begin_25 rfl (lv_at hl 0 rfl) ?_
  refine lv_iconst (v := 0) hx hb dX7_begin_26 (by decide) ?_
  refine m_put C fd_X7_86 hI hF dX7_begin_27 (fun S6 H locs hF hI => ?_)
  refine lv_aload_n hx hb dX7_begin_30 rfl (lv_at hl 0 rfl) ?_
  refine lv_iconst (v := 0) hx hb dX7_begin_31 (by decide) ?_
  refine m_put C fd_X7_89 hI hF dX7_begin_32 (fun S7 H locs hF hI => ?_)
  refine lv_aload_n hx hb dX7_begin_35 rfl (lv_at hl 0 rfl) ?_
  refine lv_iconst (v := 0) hx hb dX7_begin_36 (by decide) ?_
  refine m_put C fd_X7_92 hI hF dX7_begin_37 (fun S8 H locs hF hI => ?_)
  exact m_vret C hI hF dX7_begin_40
noncomputable def f_X7_init (v0 : Int32) (S : mS) : Option mS := mNa 8 3 S (fun r1 S2 => mPr 7 0 v0 r1 S2 (fun S3 => mNa 8 3 S3 (fun r4 S5 => mPr 7 8 v0 r4 S5 (fun S6 => mNa 8 3 S6 (fun r7 S8 => mPr 7 9 v0 r7 S8 (fun S9 => mNa 8 7 S9 (fun r10 S11 => mPr 7 10 v0 r10 S11 (fun S12 => mNa 8 7 S12 (fun r13 S14 => mPr 7 11 v0 r13 S14 (fun S15 => mNa 8 10 S15 (fun r16 S17 => mPr 7 12 v0 r16 S17 (fun S18 => mNa 8 18 S18 (fun r19 S20 => mPr 7 13 v0 r19 S20 (fun S21 => mNa 8 18 S21 (fun r22 S23 => mPr 7 14 v0 r22 S23 (fun S24 => mNa 8 150 S24 (fun r25 S26 => mPr 7 15 v0 r25 S26 (fun S27 => mNa 8 170 S27 (fun r28 S29 => mPr 7 19 v0 r28 S29 (fun S30 => mNa 8 88 S30 (fun r31 S32 => mPr 7 20 v0 r31 S32 (fun S33 => mNa 8 22 S33 (fun r34 S35 => mPr 7 22 v0 r34 S35 (fun S36 => mNa 8 275 S36 (fun r37 S38 => mPr 7 23 v0 r37 S38 (fun S39 => mNa 8 25 S39 (fun r40 S41 => mPr 7 24 v0 r40 S41 (fun S42 => mPl 7 26 v0 1 S42 (fun S43 => mNa 8 340 S43 (fun r44 S45 => mPr 7 27 v0 r44 S45 (fun S46 => mNa 8 2 S46 (fun r47 S48 => mPr 7 28 v0 r47 S48 (fun S49 => mRc 7 v0 S49 (mCv (f_X7_begin v0 0 S49) (fun S51 => some S51)))))))))))))))))))))))))))))))))))
def rm_X7_init : Room := { frames := 1, cells := 16, slots := 1141, locals := 21 }
set_option maxRecDepth 100000 in
set_option maxHeartbeats 4000000 in
theorem ok_X7_init {l : Launch} {E : mE} {v0 : Int32} {S : mS} {F : mS} (hF : f_X7_init v0 S = some F) : mMv l yX7_init cX7_init 1 none rm_X7_init 16 1141 [.ref (mA E.b v0)] E S F := by
  refine m_met_v (by decide) (Nat.le_of_ble_eq_true rfl) (fun p e s m args below meth c ls hin C hI hl => ?_)
  have hx := C.1
  have hin2 := hin rfl
  have hb := C.2.1
  have hl : lv_has ls 1 [(0, .ref (mA E.b v0))] := hl
  generalize s.heap = H at hI ⊢
  generalize ([] : List Loc) = locs at hI ⊢
  refine lv_aload_n hx hb dX7_init_0 rfl (lv_at hl 0 rfl) ?_
  refine m_objInit C ow_X7_11 hl.1 (Nat.le_of_ble_eq_true rfl) (Nat.le_of_ble_eq_true rfl) dX7_init_1 ?_
  refine lv_aload_n hx hb dX7_init_4 rfl (lv_at hl 0 rfl) ?_
  refine lv_iconst (v := 3) hx hb dX7_init_5 (by decide) ?_
  refine m_newa C (atype := .int) (kd := 8) (ty := .int) (N := 3) aw_int rfl ⟨rfl, by decide, by decide, rfl, by decide⟩ (fun _ _ h => h) rfl (by decide) hI hF (Nat.le_of_ble_eq_true rfl) (Nat.le_of_ble_eq_true rfl) dX7_init_6 (fun r1 S2 H hF hI => ?_)
  refine m_putR C hin2 fd_X7_1 (fun _ => ⟨rfl, rfl⟩) hI hF dX7_init_8 (fun S3 H locs hF hI => ?_)
  refine lv_aload_n hx hb dX7_init_11 rfl (lv_at hl 0 rfl) ?_
  refine lv_iconst (v := 3) hx hb dX7_init_12 (by decide) ?_
  refine m_newa C (atype := .int) (kd := 8) (ty := .int) (N := 3) aw_int rfl ⟨rfl, by decide, by decide, rfl, by decide⟩ (fun _ _ h => h) rfl (by decide) hI hF (Nat.le_of_ble_eq_true rfl) (Nat.le_of_ble_eq_true rfl) dX7_init_13 (fun r4 S5 H hF hI => ?_)
  refine m_putR C hin2 fd_X7_17 (fun _ => ⟨rfl, rfl⟩) hI hF dX7_init_15 (fun S6 H locs hF hI => ?_)
  refine lv_aload_n hx hb dX7_init_18 rfl (lv_at hl 0 rfl) ?_
  refine lv_iconst (v := 3) hx hb dX7_init_19 (by decide) ?_
  refine m_newa C (atype := .int) (kd := 8) (ty := .int) (N := 3) aw_int rfl ⟨rfl, by decide, by decide, rfl, by decide⟩ (fun _ _ h => h) rfl (by decide) hI hF (Nat.le_of_ble_eq_true rfl) (Nat.le_of_ble_eq_true rfl) dX7_init_20 (fun r7 S8 H hF hI => ?_)
  refine m_putR C hin2 fd_X7_20 (fun _ => ⟨rfl, rfl⟩) hI hF dX7_init_22 (fun S9 H locs hF hI => ?_)
  refine lv_aload_n hx hb dX7_init_25 rfl (lv_at hl 0 rfl) ?_
  refine lv_bipush (v := 7) hx hb dX7_init_26 (by decide) ?_
  refine m_newa C (atype := .int) (kd := 8) (ty := .int) (N := 7) aw_int rfl ⟨rfl, by decide, by decide, rfl, by decide⟩ (fun _ _ h => h) rfl (by decide) hI hF (Nat.le_of_ble_eq_true rfl) (Nat.le_of_ble_eq_true rfl) dX7_init_28 (fun r10 S11 H hF hI => ?_)
  refine m_putR C hin2 fd_X7_23 (fun _ => ⟨rfl, rfl⟩) hI hF dX7_init_30 (fun S12 H locs hF hI => ?_)
  refine lv_aload_n hx hb dX7_init_33 rfl (lv_at hl 0 rfl) ?_
  refine lv_bipush (v := 7) hx hb dX7_init_34 (by decide) ?_
  refine m_newa C (atype := .int) (kd := 8) (ty := .int) (N := 7) aw_int rfl ⟨rfl, by decide, by decide, rfl, by decide⟩ (fun _ _ h => h) rfl (by decide) hI hF (Nat.le_of_ble_eq_true rfl) (Nat.le_of_ble_eq_true rfl) dX7_init_36 (fun r13 S14 H hF hI => ?_)
  refine m_putR C hin2 fd_X7_26 (fun _ => ⟨rfl, rfl⟩) hI hF dX7_init_38 (fun S15 H locs hF hI => ?_)
  refine lv_aload_n hx hb dX7_init_41 rfl (lv_at hl 0 rfl) ?_
  refine lv_bipush (v := 10) hx hb dX7_init_42 (by decide) ?_
  refine m_newa C (atype := .int) (kd := 8) (ty := .int) (N := 10) aw_int rfl ⟨rfl, by decide, by decide, rfl, by decide⟩ (fun _ _ h => h) rfl (by decide) hI hF (Nat.le_of_ble_eq_true rfl) (Nat.le_of_ble_eq_true rfl) dX7_init_44 (fun r16 S17 H hF hI => ?_)
  refine m_putR C hin2 fd_X7_29 (fun _ => ⟨rfl, rfl⟩) hI hF dX7_init_46 (fun S18 H locs hF hI => ?_)
  refine lv_aload_n hx hb dX7_init_49 rfl (lv_at hl 0 rfl) ?_
  refine lv_bipush (v := 18) hx hb dX7_init_50 (by decide) ?_
  refine m_newa C (atype := .int) (kd := 8) (ty := .int) (N := 18) aw_int rfl ⟨rfl, by decide, by decide, rfl, by decide⟩ (fun _ _ h => h) rfl (by decide) hI hF (Nat.le_of_ble_eq_true rfl) (Nat.le_of_ble_eq_true rfl) dX7_init_52 (fun r19 S20 H hF hI => ?_)
  refine m_putR C hin2 fd_X7_32 (fun _ => ⟨rfl, rfl⟩) hI hF dX7_init_54 (fun S21 H locs hF hI => ?_)
  refine lv_aload_n hx hb dX7_init_57 rfl (lv_at hl 0 rfl) ?_
  refine lv_bipush (v := 18) hx hb dX7_init_58 (by decide) ?_
  refine m_newa C (atype := .int) (kd := 8) (ty := .int) (N := 18) aw_int rfl ⟨rfl, by decide, by decide, rfl, by decide⟩ (fun _ _ h => h) rfl (by decide) hI hF (Nat.le_of_ble_eq_true rfl) (Nat.le_of_ble_eq_true rfl) dX7_init_60 (fun r22 S23 H hF hI => ?_)
  refine m_putR C hin2 fd_X7_35 (fun _ => ⟨rfl, rfl⟩) hI hF dX7_init_62 (fun S24 H locs hF hI => ?_)
  refine lv_aload_n hx hb dX7_init_65 rfl (lv_at hl 0 rfl) ?_
  refine lv_sipush (v := 150) hx hb dX7_init_66 (by decide) ?_
  refine m_newa C (atype := .int) (kd := 8) (ty := .int) (N := 150) aw_int rfl ⟨rfl, by decide, by decide, rfl, by decide⟩ (fun _ _ h => h) rfl (by decide) hI hF (Nat.le_of_ble_eq_true rfl) (Nat.le_of_ble_eq_true rfl) dX7_init_69 (fun r25 S26 H hF hI => ?_)
  refine m_putR C hin2 fd_X7_38 (fun _ => ⟨rfl, rfl⟩) hI hF dX7_init_71 (fun S27 H locs hF hI => ?_)
  refine lv_aload_n hx hb dX7_init_74 rfl (lv_at hl 0 rfl) ?_
  refine lv_sipush (v := 170) hx hb dX7_init_75 (by decide) ?_
  refine m_newa C (atype := .int) (kd := 8) (ty := .int) (N := 170) aw_int rfl ⟨rfl, by decide, by decide, rfl, by decide⟩ (fun _ _ h => h) rfl (by decide) hI hF (Nat.le_of_ble_eq_true rfl) (Nat.le_of_ble_eq_true rfl) dX7_init_78 (fun r28 S29 H hF hI => ?_)
  refine m_putR C hin2 fd_X7_41 (fun _ => ⟨rfl, rfl⟩) hI hF dX7_init_80 (fun S30 H locs hF hI => ?_)
  refine lv_aload_n hx hb dX7_init_83 rfl (lv_at hl 0 rfl) ?_
  refine lv_bipush (v := 88) hx hb dX7_init_84 (by decide) ?_
  refine m_newa C (atype := .int) (kd := 8) (ty := .int) (N := 88) aw_int rfl ⟨rfl, by decide, by decide, rfl, by decide⟩ (fun _ _ h => h) rfl (by decide) hI hF (Nat.le_of_ble_eq_true rfl) (Nat.le_of_ble_eq_true rfl) dX7_init_86 (fun r31 S32 H hF hI => ?_)
  refine m_putR C hin2 fd_X7_44 (fun _ => ⟨rfl, rfl⟩) hI hF dX7_init_88 (fun S33 H locs hF hI => ?_)
  refine lv_aload_n hx hb dX7_init_91 rfl (lv_at hl 0 rfl) ?_
  refine lv_bipush (v := 22) hx hb dX7_init_92 (by decide) ?_
  refine m_newa C (atype := .int) (kd := 8) (ty := .int) (N := 22) aw_int rfl ⟨rfl, by decide, by decide, rfl, by decide⟩ (fun _ _ h => h) rfl (by decide) hI hF (Nat.le_of_ble_eq_true rfl) (Nat.le_of_ble_eq_true rfl) dX7_init_94 (fun r34 S35 H hF hI => ?_)
  refine m_putR C hin2 fd_X7_47 (fun _ => ⟨rfl, rfl⟩) hI hF dX7_init_96 (fun S36 H locs hF hI => ?_)
  refine lv_aload_n hx hb dX7_init_99 rfl (lv_at hl 0 rfl) ?_
  refine lv_sipush (v := 275) hx hb dX7_init_100 (by decide) ?_
  refine m_newa C (atype := .int) (kd := 8) (ty := .int) (N := 275) aw_int rfl ⟨rfl, by decide, by decide, rfl, by decide⟩ (fun _ _ h => h) rfl (by decide) hI hF (Nat.le_of_ble_eq_true rfl) (Nat.le_of_ble_eq_true rfl) dX7_init_103 (fun r37 S38 H hF hI => ?_)
  refine m_putR C hin2 fd_X7_50 (fun _ => ⟨rfl, rfl⟩) hI hF dX7_init_105 (fun S39 H locs hF hI => ?_)
  refine lv_aload_n hx hb dX7_init_108 rfl (lv_at hl 0 rfl) ?_
  refine lv_bipush (v := 25) hx hb dX7_init_109 (by decide) ?_
  refine m_newa C (atype := .int) (kd := 8) (ty := .int) (N := 25) aw_int rfl ⟨rfl, by decide, by decide, rfl, by decide⟩ (fun _ _ h => h) rfl (by decide) hI hF (Nat.le_of_ble_eq_true rfl) (Nat.le_of_ble_eq_true rfl) dX7_init_111 (fun r40 S41 H hF hI => ?_)
  refine m_putR C hin2 fd_X7_53 (fun _ => ⟨rfl, rfl⟩) hI hF dX7_init_113 (fun S42 H locs hF hI => ?_)
  refine lv_aload_n hx hb dX7_init_116 rfl (lv_at hl 0 rfl) ?_
  refine lv_lconst (v := 1) hx hb dX7_init_117 (by decide) ?_
  refine m_putL C fd_X7_56 hI hF dX7_init_118 (fun S43 H locs hF hI => ?_)
  refine lv_aload_n hx hb dX7_init_121 rfl (lv_at hl 0 rfl) ?_
  refine lv_sipush (v := 340) hx hb dX7_init_122 (by decide) ?_
  refine m_newa C (atype := .int) (kd := 8) (ty := .int) (N := 340) aw_int rfl ⟨rfl, by decide, by decide, rfl, by decide⟩ (fun _ _ h => h) rfl (by decide) hI hF (Nat.le_of_ble_eq_true rfl) (Nat.le_of_ble_eq_true rfl) dX7_init_125 (fun r44 S45 H hF hI => ?_)
  refine m_putR C hin2 fd_X7_60 (fun _ => ⟨rfl, rfl⟩) hI hF dX7_init_127 (fun S46 H locs hF hI => ?_)
  refine lv_aload_n hx hb dX7_init_130 rfl (lv_at hl 0 rfl) ?_
  refine lv_iconst (v := 2) hx hb dX7_init_131 (by decide) ?_
  refine m_newa C (atype := .int) (kd := 8) (ty := .int) (N := 2) aw_int rfl ⟨rfl, by decide, by decide, rfl, by decide⟩ (fun _ _ h => h) rfl (by decide) hI hF (Nat.le_of_ble_eq_true rfl) (Nat.le_of_ble_eq_true rfl) dX7_init_132 (fun r47 S48 H hF hI => ?_)
  refine m_putR C hin2 fd_X7_63 (fun _ => ⟨rfl, rfl⟩) hI hF dX7_init_134 (fun S49 H locs hF hI => ?_)
  refine lv_aload_n hx hb dX7_init_137 rfl (lv_at hl 0 rfl) ?_
  refine lv_iconst (v := 0) hx hb dX7_init_138 (by decide) ?_
  refine m_callVv C cd_X7_66 ⟨rfl, by decide⟩ hl.1 hI hF (fun _ h => ok_X7_begin h) rfl rfl ⟨rfl, rfl, Nat.le_of_ble_eq_true rfl, Nat.le_of_ble_eq_true rfl⟩ ⟨Nat.le_of_ble_eq_true rfl, Nat.le_of_ble_eq_true rfl⟩ (Nat.le_of_ble_eq_true rfl) dX7_init_139 (fun S51 H locs hF hI => ?_)
  exact m_vret C hI hF dX7_init_142
noncomputable def f_X7_isCell (v0 : Int32) : Option Int32 := mCp (f_X7_in v0 0 24) (fun r1 => mZ r1 (some r1))
def rm_X7_isCell : Room := { frames := 1, cells := 0, slots := 0, locals := 22 }
set_option maxRecDepth 100000 in
set_option maxHeartbeats 4000000 in
theorem ok_X7_isCell {l : Launch} {E : mE} {v0 : Int32} {S : mS} {r : Int32} (hF : f_X7_isCell v0 = some r) : mMi l yX7_isCell cX7_isCell 1 (some .boolean) rm_X7_isCell 0 0 [.int v0] E S (r, S) := by
  refine m_met_i (by decide) (Nat.le_of_ble_eq_true rfl) (fun p e s m args below meth c ls hin C hI hl => ?_)
  have hx := C.1
  have hb := C.2.1
  have hl : lv_has ls 1 [(0, .int v0)] := hl
  generalize s.heap = H at hI ⊢
  generalize ([] : List Loc) = locs at hI ⊢
  refine lv_iload_n hx hb dX7_isCell_0 rfl (lv_at hl 0 rfl) ?_
  refine lv_iconst (v := 0) hx hb dX7_isCell_1 (by decide) ?_
  refine lv_bipush (v := 24) hx hb dX7_isCell_2 (by decide) ?_
  refine m_callSiR C cd_X7_95 hl.1 hI hF (fun _ h => ok_X7_in h) rfl rfl ⟨rfl, rfl, Nat.le_of_ble_eq_true rfl, Nat.le_of_ble_eq_true rfl⟩ ⟨Nat.le_of_ble_eq_true rfl, Nat.le_of_ble_eq_true rfl⟩ (Nat.le_of_ble_eq_true rfl) dX7_isCell_4 (fun r1 H locs hF hI => ?_)
  exact m_iretzR C hI hF dX7_isCell_7
noncomputable def f_X7_isWhistle (v0 : Int32) (v1 : Int32) (S : mS) : Option Int32 := mG 7 1 v0 S (fun r1 => mCp (f_X7_in v1 0 (r1 - 1)) (fun r2 => mZ r2 (some r2)))
def rm_X7_isWhistle : Room := { frames := 1, cells := 0, slots := 0, locals := 22 }
set_option maxRecDepth 100000 in
set_option maxHeartbeats 4000000 in
theorem ok_X7_isWhistle {l : Launch} {E : mE} {v0 : Int32} {v1 : Int32} {S : mS} {r : Int32} (hF : f_X7_isWhistle v0 v1 S = some r) : mMi l yX7_isWhistle cX7_isWhistle 2 (some .boolean) rm_X7_isWhistle 0 0 [.ref (mA E.b v0), .int v1] E S (r, S) := by
  refine m_met_i (by decide) (Nat.le_of_ble_eq_true rfl) (fun p e s m args below meth c ls hin C hI hl => ?_)
  have hx := C.1
  have hb := C.2.1
  have hl : lv_has ls 2 [(0, .ref (mA E.b v0)), (1, .int v1)] := hl
  generalize s.heap = H at hI ⊢
  generalize ([] : List Loc) = locs at hI ⊢
  refine lv_iload_n hx hb dX7_isWhistle_0 rfl (lv_at hl 1 rfl) ?_
  refine lv_iconst (v := 0) hx hb dX7_isWhistle_1 (by decide) ?_
  refine lv_aload_n hx hb dX7_isWhistle_2 rfl (lv_at hl 0 rfl) ?_
  refine m_get C fd_X7_70 hI hF dX7_isWhistle_3 (fun r1 hF => ?_)
  refine lv_iconst (v := 1) hx hb dX7_isWhistle_6 (by decide) ?_
  refine lv_isub hx hb dX7_isWhistle_7 ?_
  refine m_callSiR C cd_X7_95 hl.1 hI hF (fun _ h => ok_X7_in h) rfl rfl ⟨rfl, rfl, Nat.le_of_ble_eq_true rfl, Nat.le_of_ble_eq_true rfl⟩ ⟨Nat.le_of_ble_eq_true rfl, Nat.le_of_ble_eq_true rfl⟩ (Nat.le_of_ble_eq_true rfl) dX7_isWhistle_8 (fun r2 H locs hF hI => ?_)
  exact m_iretzR C hI hF dX7_isWhistle_11
noncomputable def f_X7_isSheep (v0 : Int32) (v1 : Int32) (S : mS) : Option Int32 := mG 7 2 v0 S (fun r1 => mCp (f_X7_in v1 0 (r1 - 1)) (fun r2 => mZ r2 (some r2)))
def rm_X7_isSheep : Room := { frames := 1, cells := 0, slots := 0, locals := 22 }
set_option maxRecDepth 100000 in
set_option maxHeartbeats 4000000 in
theorem ok_X7_isSheep {l : Launch} {E : mE} {v0 : Int32} {v1 : Int32} {S : mS} {r : Int32} (hF : f_X7_isSheep v0 v1 S = some r) : mMi l yX7_isSheep cX7_isSheep 2 (some .boolean) rm_X7_isSheep 0 0 [.ref (mA E.b v0), .int v1] E S (r, S) := by
  refine m_met_i (by decide) (Nat.le_of_ble_eq_true rfl) (fun p e s m args below meth c ls hin C hI hl => ?_)
  have hx := C.1
  have hb := C.2.1
  have hl : lv_has ls 2 [(0, .ref (mA E.b v0)), (1, .int v1)] := hl
  generalize s.heap = H at hI ⊢
  generalize ([] : List Loc) = locs at hI ⊢
  refine lv_iload_n hx hb dX7_isSheep_0 rfl (lv_at hl 1 rfl) ?_
  refine lv_iconst (v := 0) hx hb dX7_isSheep_1 (by decide) ?_
  refine lv_aload_n hx hb dX7_isSheep_2 rfl (lv_at hl 0 rfl) ?_
  refine m_get C fd_X7_74 hI hF dX7_isSheep_3 (fun r1 hF => ?_)
  refine lv_iconst (v := 1) hx hb dX7_isSheep_6 (by decide) ?_
  refine lv_isub hx hb dX7_isSheep_7 ?_
  refine m_callSiR C cd_X7_95 hl.1 hI hF (fun _ h => ok_X7_in h) rfl rfl ⟨rfl, rfl, Nat.le_of_ble_eq_true rfl, Nat.le_of_ble_eq_true rfl⟩ ⟨Nat.le_of_ble_eq_true rfl, Nat.le_of_ble_eq_true rfl⟩ (Nat.le_of_ble_eq_true rfl) dX7_isSheep_8 (fun r2 H locs hF hI => ?_)
  exact m_iretzR C hI hF dX7_isSheep_11
noncomputable def f_X7_isCall (v0 : Int32) : Option Int32 := mCp (f_X7_in v0 0 4) (fun r1 => mZ r1 (some r1))
def rm_X7_isCall : Room := { frames := 1, cells := 0, slots := 0, locals := 22 }
set_option maxRecDepth 100000 in
set_option maxHeartbeats 4000000 in
theorem ok_X7_isCall {l : Launch} {E : mE} {v0 : Int32} {S : mS} {r : Int32} (hF : f_X7_isCall v0 = some r) : mMi l yX7_isCall cX7_isCall 1 (some .boolean) rm_X7_isCall 0 0 [.int v0] E S (r, S) := by
  refine m_met_i (by decide) (Nat.le_of_ble_eq_true rfl) (fun p e s m args below meth c ls hin C hI hl => ?_)
  have hx := C.1
  have hb := C.2.1
  have hl : lv_has ls 1 [(0, .int v0)] := hl
  generalize s.heap = H at hI ⊢
  generalize ([] : List Loc) = locs at hI ⊢
  refine lv_iload_n hx hb dX7_isCall_0 rfl (lv_at hl 0 rfl) ?_
  refine lv_iconst (v := 0) hx hb dX7_isCall_1 (by decide) ?_
  refine lv_iconst (v := 4) hx hb dX7_isCall_2 (by decide) ?_
  refine m_callSiR C cd_X7_95 hl.1 hI hF (fun _ h => ok_X7_in h) rfl rfl ⟨rfl, rfl, Nat.le_of_ble_eq_true rfl, Nat.le_of_ble_eq_true rfl⟩ ⟨Nat.le_of_ble_eq_true rfl, Nat.le_of_ble_eq_true rfl⟩ (Nat.le_of_ble_eq_true rfl) dX7_isCall_3 (fun r1 H locs hF hI => ?_)
  exact m_iretzR C hI hF dX7_isCall_6
noncomputable def f_X7_fell (v0 : Int32) (v1 : Int32) (S : mS) : Option (Int32 × mS) := mCp (f_X7_isCell v1) (fun r1 => if r1 = 0 then (mRc 7 v0 S (mC (f_X7_bad v0 S) (fun r5 S6 => some (r5, S6)))) else (mG 7 2 v0 S (fun r2 => mRc 7 v0 S (mCv (f_X7_begin v0 v1 S) (fun S4 => some (r2, S4))))))
def rm_X7_fell : Room := { frames := 2, cells := 0, slots := 0, locals := 42 }
set_option maxRecDepth 100000 in
set_option maxHeartbeats 4000000 in
theorem ok_X7_fell {l : Launch} {E : mE} {v0 : Int32} {v1 : Int32} {S : mS} {F : Int32 × mS} (hF : f_X7_fell v0 v1 S = some F) : mMi l yX7_fell cX7_fell 3 (some .int) rm_X7_fell 0 0 [.ref (mA E.b v0), .int v1] E S F := by
  refine m_met_i (by decide) (Nat.le_of_ble_eq_true rfl) (fun p e s m args below meth c ls hin C hI hl => ?_)
  have hx := C.1
  have hb := C.2.1
  have hl : lv_has ls 3 [(0, .ref (mA E.b v0)), (1, .int v1)] := hl
  generalize s.heap = H at hI ⊢
  generalize ([] : List Loc) = locs at hI ⊢
  refine lv_iload_n hx hb dX7_fell_0 rfl (lv_at hl 1 rfl) ?_
  refine m_callSiR C cd_X7_99 hl.1 hI hF (fun _ h => ok_X7_isCell h) rfl rfl ⟨rfl, rfl, Nat.le_of_ble_eq_true rfl, Nat.le_of_ble_eq_true rfl⟩ ⟨Nat.le_of_ble_eq_true rfl, Nat.le_of_ble_eq_true rfl⟩ (Nat.le_of_ble_eq_true rfl) dX7_fell_1 (fun r1 H locs hF hI => ?_)
  refine m_if_ne C (tgt := 12) hF dX7_fell_4 (by decide) (fun hF => ?_) (fun hF => ?_)
  · refine lv_aload_n hx hb dX7_fell_12 rfl (lv_at hl 0 rfl) ?_
    refine m_get C fd_X7_74 hI hF dX7_fell_13 (fun r2 hF => ?_)
    refine lv_istore_n (lv' := [(2, .int r2), (0, .ref (mA E.b v0)), (1, .int v1)]) hx hb dX7_fell_16 rfl hl (by decide) rfl (fun ls hl => ?_)
    refine lv_aload_n hx hb dX7_fell_17 rfl (lv_at hl 1 rfl) ?_
    refine lv_iload_n hx hb dX7_fell_18 rfl (lv_at hl 2 rfl) ?_
    refine m_callVv C cd_X7_66 ⟨rfl, by decide⟩ hl.1 hI hF (fun _ h => ok_X7_begin h) rfl rfl ⟨rfl, rfl, Nat.le_of_ble_eq_true rfl, Nat.le_of_ble_eq_true rfl⟩ ⟨Nat.le_of_ble_eq_true rfl, Nat.le_of_ble_eq_true rfl⟩ (Nat.le_of_ble_eq_true rfl) dX7_fell_19 (fun S4 H locs hF hI => ?_)
    refine lv_iload_n hx hb dX7_fell_22 rfl (lv_at hl 0 rfl) ?_
    exact m_ireti C hI hF dX7_fell_23
  · refine lv_aload_n hx hb dX7_fell_7 rfl (lv_at hl 0 rfl) ?_
    refine m_callVi C cd_X7_103 ⟨rfl, by decide⟩ hl.1 hI hF (fun _ h => ok_X7_bad h) rfl rfl ⟨rfl, rfl, Nat.le_of_ble_eq_true rfl, Nat.le_of_ble_eq_true rfl⟩ ⟨Nat.le_of_ble_eq_true rfl, Nat.le_of_ble_eq_true rfl⟩ (Nat.le_of_ble_eq_true rfl) dX7_fell_8 (fun r5 S6 H locs hF hI => ?_)
    exact m_ireti C hI hF dX7_fell_11
noncomputable def f_X7_addWhistle (v0 : Int32) (v1 : Int32) (v2 : Int32) (S : mS) : Option (Int32 × mS) := mGr 7 8 v0 S (fun r1 => mG 7 1 v0 S (fun r2 => mXs r1 r2 v1 S (fun S3 => mGr 7 9 v0 S3 (fun r4 => mG 7 1 v0 S3 (fun r5 => mXs r4 r5 v2 S3 (fun S6 => mG 7 1 v0 S6 (fun r7 => mP 7 1 v0 (r7 + 1) S6 (fun S8 => mP 7 21 v0 0 S8 (fun S9 => mG 7 1 v0 S9 (fun r10 => some (r10 - 1, S9)))))))))))
def rm_X7_addWhistle : Room := { frames := 0, cells := 0, slots := 0, locals := 0 }
set_option maxRecDepth 100000 in
set_option maxHeartbeats 4000000 in
theorem ok_X7_addWhistle {l : Launch} {E : mE} {v0 : Int32} {v1 : Int32} {v2 : Int32} {S : mS} {F : Int32 × mS} (hF : f_X7_addWhistle v0 v1 v2 S = some F) : mMi l yX7_addWhistle cX7_addWhistle 3 (some .int) rm_X7_addWhistle 0 0 [.ref (mA E.b v0), .int v1, .int v2] E S F := by
  refine m_met_i (by decide) (Nat.le_of_ble_eq_true rfl) (fun p e s m args below meth c ls hin C hI hl => ?_)
  have hx := C.1
  have hb := C.2.1
  have hl : lv_has ls 3 [(0, .ref (mA E.b v0)), (1, .int v1), (2, .int v2)] := hl
  generalize s.heap = H at hI ⊢
  generalize ([] : List Loc) = locs at hI ⊢
  refine lv_aload_n hx hb dX7_addWhistle_0 rfl (lv_at hl 0 rfl) ?_
  refine m_getR C fd_X7_17 hI hF dX7_addWhistle_1 (fun r1 hF => ?_)
  refine lv_aload_n hx hb dX7_addWhistle_4 rfl (lv_at hl 0 rfl) ?_
  refine m_get C fd_X7_70 hI hF dX7_addWhistle_5 (fun r2 hF => ?_)
  refine lv_iload_n hx hb dX7_addWhistle_8 rfl (lv_at hl 1 rfl) ?_
  refine m_iast C hI hF dX7_addWhistle_9 (fun S3 H locs hF hI => ?_)
  refine lv_aload_n hx hb dX7_addWhistle_10 rfl (lv_at hl 0 rfl) ?_
  refine m_getR C fd_X7_20 hI hF dX7_addWhistle_11 (fun r4 hF => ?_)
  refine lv_aload_n hx hb dX7_addWhistle_14 rfl (lv_at hl 0 rfl) ?_
  refine m_get C fd_X7_70 hI hF dX7_addWhistle_15 (fun r5 hF => ?_)
  refine lv_iload_n hx hb dX7_addWhistle_18 rfl (lv_at hl 2 rfl) ?_
  refine m_iast C hI hF dX7_addWhistle_19 (fun S6 H locs hF hI => ?_)
  refine lv_aload_n hx hb dX7_addWhistle_20 rfl (lv_at hl 0 rfl) ?_
  refine lv_dup hx hb dX7_addWhistle_21 rfl ?_
  refine m_get C fd_X7_70 hI hF dX7_addWhistle_22 (fun r7 hF => ?_)
  refine lv_iconst (v := 1) hx hb dX7_addWhistle_25 (by decide) ?_
  refine lv_iadd hx hb dX7_addWhistle_26 ?_
  refine m_put C fd_X7_70 hI hF dX7_addWhistle_27 (fun S8 H locs hF hI => ?_)
  refine lv_aload_n hx hb dX7_addWhistle_30 rfl (lv_at hl 0 rfl) ?_
  refine lv_iconst (v := 0) hx hb dX7_addWhistle_31 (by decide) ?_
  refine m_put C fd_X7_92 hI hF dX7_addWhistle_32 (fun S9 H locs hF hI => ?_)
  refine lv_aload_n hx hb dX7_addWhistle_35 rfl (lv_at hl 0 rfl) ?_
  refine m_get C fd_X7_70 hI hF dX7_addWhistle_36 (fun r10 hF => ?_)
  refine lv_iconst (v := 1) hx hb dX7_addWhistle_39 (by decide) ?_
  refine lv_isub hx hb dX7_addWhistle_40 ?_
  exact m_ireti C hI hF dX7_addWhistle_41
noncomputable def f_X7_whistle_16 (v0 : Int32) (S : mS) : Option (Int32 × mS) := mRc 7 v0 S (mC (f_X7_bad v0 S) (fun r2 S3 => some (r2, S3)))
noncomputable def f_X7_whistle_42 (t0 : Int32) (S : mS) : Option (Int32 × mS) := some (t0, S)
noncomputable def f_X7_whistle (v0 : Int32) (v1 : Int32) (v2 : Int32) (S : mS) : Option (Int32 × mS) := mCp (f_X7_in v1 0 5) (fun r1 => if r1 = 0 then ((f_X7_whistle_16) v0 S) else (mCp (f_X7_isCell v2) (fun r4 => if r4 = 0 then ((f_X7_whistle_16) v0 S) else (mG 7 1 v0 S (fun r5 => if r5 = 3 then (mRc 7 v0 S (mC (f_X7_full v0 S) (fun r8 S9 => (f_X7_whistle_42) r8 S9))) else (mRc 7 v0 S (mC (f_X7_addWhistle v0 v1 v2 S) (fun r6 S7 => (f_X7_whistle_42) r6 S7))))))))
def rm_X7_whistle : Room := { frames := 2, cells := 0, slots := 0, locals := 42 }
set_option maxRecDepth 100000 in
set_option maxHeartbeats 4000000 in
theorem bl_X7_whistle_16 {p : Program} {l : Launch} {e : Env} {s : State} {m : MethodId} {args : Array Value} {below : List Frame} {meth : Method} {c : Code} {E : mE} {n0 : Nat} {F : Int32 × mS} (C : mCx p s m args meth c cX7_whistle 3 RX7 (some .int) E n0) : ∀  (v0 : Int32) (S : mS) (H : Heap) (locs : List Loc) (ls : Array Slot), f_X7_whistle_16 v0 S = some F → mIv s E S H locs 0 → lv_has ls 3 [(0, .ref (mA E.b v0))] → W p l e rm_X7_whistle s m args below meth c H locs 0 0 (mQi below args s 0 0 n0 E F) (F0 m 16 ls []) := by
  have hx := C.1
  have hb := C.2.1
  intro v0 S H locs ls hF hI hl
  refine lv_aload_n hx hb dX7_whistle_16 rfl (lv_at hl 0 rfl) ?_
  refine m_callVi C cd_X7_103 ⟨rfl, by decide⟩ hl.1 hI hF (fun _ h => ok_X7_bad h) rfl rfl ⟨rfl, rfl, Nat.le_of_ble_eq_true rfl, Nat.le_of_ble_eq_true rfl⟩ ⟨Nat.le_of_ble_eq_true rfl, Nat.le_of_ble_eq_true rfl⟩ (Nat.le_of_ble_eq_true rfl) dX7_whistle_17 (fun r2 S3 H locs hF hI => ?_)
  exact m_ireti C hI hF dX7_whistle_20
set_option maxRecDepth 100000 in
set_option maxHeartbeats 4000000 in
theorem bl_X7_whistle_42 {p : Program} {l : Launch} {e : Env} {s : State} {m : MethodId} {args : Array Value} {below : List Frame} {meth : Method} {c : Code} {E : mE} {n0 : Nat} {F : Int32 × mS} (C : mCx p s m args meth c cX7_whistle 3 RX7 (some .int) E n0) : ∀  (t0 : Int32) (S : mS) (H : Heap) (locs : List Loc) (ls : Array Slot), f_X7_whistle_42 t0 S = some F → mIv s E S H locs 0 → lv_has ls 3 [] → W p l e rm_X7_whistle s m args below meth c H locs 0 0 (mQi below args s 0 0 n0 E F) (F0 m 42 ls [.int t0]) := by
  have hx := C.1
  have hb := C.2.1
  intro t0 S H locs ls hF hI hl
  exact m_ireti C hI hF dX7_whistle_42
set_option maxRecDepth 100000 in
set_option maxHeartbeats 4000000 in
theorem ok_X7_whistle {l : Launch} {E : mE} {v0 : Int32} {v1 : Int32} {v2 : Int32} {S : mS} {F : Int32 × mS} (hF : f_X7_whistle v0 v1 v2 S = some F) : mMi l yX7_whistle cX7_whistle 3 (some .int) rm_X7_whistle 0 0 [.ref (mA E.b v0), .int v1, .int v2] E S F := by
  refine m_met_i (by decide) (Nat.le_of_ble_eq_true rfl) (fun p e s m args below meth c ls hin C hI hl => ?_)
  have hx := C.1
  have hb := C.2.1
  have hl : lv_has ls 3 [(0, .ref (mA E.b v0)), (1, .int v1), (2, .int v2)] := hl
  generalize s.heap = H at hI ⊢
  generalize ([] : List Loc) = locs at hI ⊢
  refine lv_iload_n hx hb dX7_whistle_0 rfl (lv_at hl 1 rfl) ?_
  refine lv_iconst (v := 0) hx hb dX7_whistle_1 (by decide) ?_
  refine lv_iconst (v := 5) hx hb dX7_whistle_2 (by decide) ?_
  refine m_callSiR C cd_X7_95 hl.1 hI hF (fun _ h => ok_X7_in h) rfl rfl ⟨rfl, rfl, Nat.le_of_ble_eq_true rfl, Nat.le_of_ble_eq_true rfl⟩ ⟨Nat.le_of_ble_eq_true rfl, Nat.le_of_ble_eq_true rfl⟩ (Nat.le_of_ble_eq_true rfl) dX7_whistle_3 (fun r1 H locs hF hI => ?_)
  refine m_if_eq C (tgt := 16) hF dX7_whistle_6 (by decide) (fun hF => ?_) (fun hF => ?_)
  · exact (bl_X7_whistle_16 C) v0 S _ _ _ hF hI (lv_sub hl [0] rfl)
  · refine lv_iload_n hx hb dX7_whistle_9 rfl (lv_at hl 2 rfl) ?_
    refine m_callSiR C cd_X7_99 hl.1 hI hF (fun _ h => ok_X7_isCell h) rfl rfl ⟨rfl, rfl, Nat.le_of_ble_eq_true rfl, Nat.le_of_ble_eq_true rfl⟩ ⟨Nat.le_of_ble_eq_true rfl, Nat.le_of_ble_eq_true rfl⟩ (Nat.le_of_ble_eq_true rfl) dX7_whistle_10 (fun r4 H locs hF hI => ?_)
    refine m_if_ne C (tgt := 21) hF dX7_whistle_13 (by decide) (fun hF => ?_) (fun hF => ?_)
    · refine lv_aload_n hx hb dX7_whistle_21 rfl (lv_at hl 0 rfl) ?_
      refine m_get C fd_X7_70 hI hF dX7_whistle_22 (fun r5 hF => ?_)
      refine lv_iconst (v := 3) hx hb dX7_whistle_25 (by decide) ?_
      refine m_icmp_ne C (tgt := 36) hF dX7_whistle_26 (by decide) (fun hF => ?_) (fun hF => ?_)
      · refine lv_aload_n hx hb dX7_whistle_36 rfl (lv_at hl 0 rfl) ?_
        refine lv_iload_n hx hb dX7_whistle_37 rfl (lv_at hl 1 rfl) ?_
        refine lv_iload_n hx hb dX7_whistle_38 rfl (lv_at hl 2 rfl) ?_
        refine m_callVi C cd_X7_110 ⟨rfl, by decide⟩ hl.1 hI hF (fun _ h => ok_X7_addWhistle h) rfl rfl ⟨rfl, rfl, Nat.le_of_ble_eq_true rfl, Nat.le_of_ble_eq_true rfl⟩ ⟨Nat.le_of_ble_eq_true rfl, Nat.le_of_ble_eq_true rfl⟩ (Nat.le_of_ble_eq_true rfl) dX7_whistle_39 (fun r6 S7 H locs hF hI => ?_)
        exact (bl_X7_whistle_42 C) r6 S7 _ _ _ hF hI (lv_sub hl [] rfl)
      · refine lv_aload_n hx hb dX7_whistle_29 rfl (lv_at hl 0 rfl) ?_
        refine m_callVi C cd_X7_107 ⟨rfl, by decide⟩ hl.1 hI hF (fun _ h => ok_X7_full h) rfl rfl ⟨rfl, rfl, Nat.le_of_ble_eq_true rfl, Nat.le_of_ble_eq_true rfl⟩ ⟨Nat.le_of_ble_eq_true rfl, Nat.le_of_ble_eq_true rfl⟩ (Nat.le_of_ble_eq_true rfl) dX7_whistle_30 (fun r8 S9 H locs hF hI => ?_)
        refine lv_goto (tgt := 42) hx hb dX7_whistle_33 (by decide) ?_
        exact (bl_X7_whistle_42 C) r8 S9 _ _ _ hF hI (lv_sub hl [] rfl)
    · exact (bl_X7_whistle_16 C) v0 S _ _ _ hF hI (lv_sub hl [0] rfl)
noncomputable def f_X7_addSheep (v0 : Int32) (v1 : Int32) (v2 : Int32) (S : mS) : Option (Int32 × mS) := mGr 7 10 v0 S (fun r1 => mG 7 2 v0 S (fun r2 => mXs r1 r2 v1 S (fun S3 => mGr 7 11 v0 S3 (fun r4 => mG 7 2 v0 S3 (fun r5 => mXs r4 r5 v2 S3 (fun S6 => mG 7 2 v0 S6 (fun r7 => mP 7 2 v0 (r7 + 1) S6 (fun S8 => mP 7 21 v0 0 S8 (fun S9 => mG 7 2 v0 S9 (fun r10 => some (r10 - 1, S9)))))))))))
def rm_X7_addSheep : Room := { frames := 0, cells := 0, slots := 0, locals := 0 }
set_option maxRecDepth 100000 in
set_option maxHeartbeats 4000000 in
theorem ok_X7_addSheep {l : Launch} {E : mE} {v0 : Int32} {v1 : Int32} {v2 : Int32} {S : mS} {F : Int32 × mS} (hF : f_X7_addSheep v0 v1 v2 S = some F) : mMi l yX7_addSheep cX7_addSheep 3 (some .int) rm_X7_addSheep 0 0 [.ref (mA E.b v0), .int v1, .int v2] E S F := by
  refine m_met_i (by decide) (Nat.le_of_ble_eq_true rfl) (fun p e s m args below meth c ls hin C hI hl => ?_)
  have hx := C.1
  have hb := C.2.1
  have hl : lv_has ls 3 [(0, .ref (mA E.b v0)), (1, .int v1), (2, .int v2)] := hl
  generalize s.heap = H at hI ⊢
  generalize ([] : List Loc) = locs at hI ⊢
  refine lv_aload_n hx hb dX7_addSheep_0 rfl (lv_at hl 0 rfl) ?_
  refine m_getR C fd_X7_23 hI hF dX7_addSheep_1 (fun r1 hF => ?_)
  refine lv_aload_n hx hb dX7_addSheep_4 rfl (lv_at hl 0 rfl) ?_
  refine m_get C fd_X7_74 hI hF dX7_addSheep_5 (fun r2 hF => ?_)
  refine lv_iload_n hx hb dX7_addSheep_8 rfl (lv_at hl 1 rfl) ?_
  refine m_iast C hI hF dX7_addSheep_9 (fun S3 H locs hF hI => ?_)
  refine lv_aload_n hx hb dX7_addSheep_10 rfl (lv_at hl 0 rfl) ?_
  refine m_getR C fd_X7_26 hI hF dX7_addSheep_11 (fun r4 hF => ?_)
  refine lv_aload_n hx hb dX7_addSheep_14 rfl (lv_at hl 0 rfl) ?_
  refine m_get C fd_X7_74 hI hF dX7_addSheep_15 (fun r5 hF => ?_)
  refine lv_iload_n hx hb dX7_addSheep_18 rfl (lv_at hl 2 rfl) ?_
  refine m_iast C hI hF dX7_addSheep_19 (fun S6 H locs hF hI => ?_)
  refine lv_aload_n hx hb dX7_addSheep_20 rfl (lv_at hl 0 rfl) ?_
  refine lv_dup hx hb dX7_addSheep_21 rfl ?_
  refine m_get C fd_X7_74 hI hF dX7_addSheep_22 (fun r7 hF => ?_)
  refine lv_iconst (v := 1) hx hb dX7_addSheep_25 (by decide) ?_
  refine lv_iadd hx hb dX7_addSheep_26 ?_
  refine m_put C fd_X7_74 hI hF dX7_addSheep_27 (fun S8 H locs hF hI => ?_)
  refine lv_aload_n hx hb dX7_addSheep_30 rfl (lv_at hl 0 rfl) ?_
  refine lv_iconst (v := 0) hx hb dX7_addSheep_31 (by decide) ?_
  refine m_put C fd_X7_92 hI hF dX7_addSheep_32 (fun S9 H locs hF hI => ?_)
  refine lv_aload_n hx hb dX7_addSheep_35 rfl (lv_at hl 0 rfl) ?_
  refine m_get C fd_X7_74 hI hF dX7_addSheep_36 (fun r10 hF => ?_)
  refine lv_iconst (v := 1) hx hb dX7_addSheep_39 (by decide) ?_
  refine lv_isub hx hb dX7_addSheep_40 ?_
  exact m_ireti C hI hF dX7_addSheep_41
noncomputable def f_X7_sheep_16 (v0 : Int32) (S : mS) : Option (Int32 × mS) := mRc 7 v0 S (mC (f_X7_bad v0 S) (fun r2 S3 => some (r2, S3)))
noncomputable def f_X7_sheep_43 (t0 : Int32) (S : mS) : Option (Int32 × mS) := some (t0, S)
noncomputable def f_X7_sheep (v0 : Int32) (v1 : Int32) (v2 : Int32) (S : mS) : Option (Int32 × mS) := mCp (f_X7_in v1 0 5) (fun r1 => if r1 = 0 then ((f_X7_sheep_16) v0 S) else (mCp (f_X7_isCell v2) (fun r4 => if r4 = 0 then ((f_X7_sheep_16) v0 S) else (mG 7 2 v0 S (fun r5 => if r5 = 7 then (mRc 7 v0 S (mC (f_X7_full v0 S) (fun r8 S9 => (f_X7_sheep_43) r8 S9))) else (mRc 7 v0 S (mC (f_X7_addSheep v0 v1 v2 S) (fun r6 S7 => (f_X7_sheep_43) r6 S7))))))))
def rm_X7_sheep : Room := { frames := 2, cells := 0, slots := 0, locals := 42 }
set_option maxRecDepth 100000 in
set_option maxHeartbeats 4000000 in
theorem bl_X7_sheep_16 {p : Program} {l : Launch} {e : Env} {s : State} {m : MethodId} {args : Array Value} {below : List Frame} {meth : Method} {c : Code} {E : mE} {n0 : Nat} {F : Int32 × mS} (C : mCx p s m args meth c cX7_sheep 3 RX7 (some .int) E n0) : ∀  (v0 : Int32) (S : mS) (H : Heap) (locs : List Loc) (ls : Array Slot), f_X7_sheep_16 v0 S = some F → mIv s E S H locs 0 → lv_has ls 3 [(0, .ref (mA E.b v0))] → W p l e rm_X7_sheep s m args below meth c H locs 0 0 (mQi below args s 0 0 n0 E F) (F0 m 16 ls []) := by
  have hx := C.1
  have hb := C.2.1
  intro v0 S H locs ls hF hI hl
  refine lv_aload_n hx hb dX7_sheep_16 rfl (lv_at hl 0 rfl) ?_
  refine m_callVi C cd_X7_103 ⟨rfl, by decide⟩ hl.1 hI hF (fun _ h => ok_X7_bad h) rfl rfl ⟨rfl, rfl, Nat.le_of_ble_eq_true rfl, Nat.le_of_ble_eq_true rfl⟩ ⟨Nat.le_of_ble_eq_true rfl, Nat.le_of_ble_eq_true rfl⟩ (Nat.le_of_ble_eq_true rfl) dX7_sheep_17 (fun r2 S3 H locs hF hI => ?_)
  exact m_ireti C hI hF dX7_sheep_20
set_option maxRecDepth 100000 in
set_option maxHeartbeats 4000000 in
theorem bl_X7_sheep_43 {p : Program} {l : Launch} {e : Env} {s : State} {m : MethodId} {args : Array Value} {below : List Frame} {meth : Method} {c : Code} {E : mE} {n0 : Nat} {F : Int32 × mS} (C : mCx p s m args meth c cX7_sheep 3 RX7 (some .int) E n0) : ∀  (t0 : Int32) (S : mS) (H : Heap) (locs : List Loc) (ls : Array Slot), f_X7_sheep_43 t0 S = some F → mIv s E S H locs 0 → lv_has ls 3 [] → W p l e rm_X7_sheep s m args below meth c H locs 0 0 (mQi below args s 0 0 n0 E F) (F0 m 43 ls [.int t0]) := by
  have hx := C.1
  have hb := C.2.1
  intro t0 S H locs ls hF hI hl
  exact m_ireti C hI hF dX7_sheep_43
set_option maxRecDepth 100000 in
set_option maxHeartbeats 4000000 in
theorem ok_X7_sheep {l : Launch} {E : mE} {v0 : Int32} {v1 : Int32} {v2 : Int32} {S : mS} {F : Int32 × mS} (hF : f_X7_sheep v0 v1 v2 S = some F) : mMi l yX7_sheep cX7_sheep 3 (some .int) rm_X7_sheep 0 0 [.ref (mA E.b v0), .int v1, .int v2] E S F := by
  refine m_met_i (by decide) (Nat.le_of_ble_eq_true rfl) (fun p e s m args below meth c ls hin C hI hl => ?_)
  have hx := C.1
  have hb := C.2.1
  have hl : lv_has ls 3 [(0, .ref (mA E.b v0)), (1, .int v1), (2, .int v2)] := hl
  generalize s.heap = H at hI ⊢
  generalize ([] : List Loc) = locs at hI ⊢
  refine lv_iload_n hx hb dX7_sheep_0 rfl (lv_at hl 1 rfl) ?_
  refine lv_iconst (v := 0) hx hb dX7_sheep_1 (by decide) ?_
  refine lv_iconst (v := 5) hx hb dX7_sheep_2 (by decide) ?_
  refine m_callSiR C cd_X7_95 hl.1 hI hF (fun _ h => ok_X7_in h) rfl rfl ⟨rfl, rfl, Nat.le_of_ble_eq_true rfl, Nat.le_of_ble_eq_true rfl⟩ ⟨Nat.le_of_ble_eq_true rfl, Nat.le_of_ble_eq_true rfl⟩ (Nat.le_of_ble_eq_true rfl) dX7_sheep_3 (fun r1 H locs hF hI => ?_)
  refine m_if_eq C (tgt := 16) hF dX7_sheep_6 (by decide) (fun hF => ?_) (fun hF => ?_)
  · exact (bl_X7_sheep_16 C) v0 S _ _ _ hF hI (lv_sub hl [0] rfl)
  · refine lv_iload_n hx hb dX7_sheep_9 rfl (lv_at hl 2 rfl) ?_
    refine m_callSiR C cd_X7_99 hl.1 hI hF (fun _ h => ok_X7_isCell h) rfl rfl ⟨rfl, rfl, Nat.le_of_ble_eq_true rfl, Nat.le_of_ble_eq_true rfl⟩ ⟨Nat.le_of_ble_eq_true rfl, Nat.le_of_ble_eq_true rfl⟩ (Nat.le_of_ble_eq_true rfl) dX7_sheep_10 (fun r4 H locs hF hI => ?_)
    refine m_if_ne C (tgt := 21) hF dX7_sheep_13 (by decide) (fun hF => ?_) (fun hF => ?_)
    · refine lv_aload_n hx hb dX7_sheep_21 rfl (lv_at hl 0 rfl) ?_
      refine m_get C fd_X7_74 hI hF dX7_sheep_22 (fun r5 hF => ?_)
      refine lv_bipush (v := 7) hx hb dX7_sheep_25 (by decide) ?_
      refine m_icmp_ne C (tgt := 37) hF dX7_sheep_27 (by decide) (fun hF => ?_) (fun hF => ?_)
      · refine lv_aload_n hx hb dX7_sheep_37 rfl (lv_at hl 0 rfl) ?_
        refine lv_iload_n hx hb dX7_sheep_38 rfl (lv_at hl 1 rfl) ?_
        refine lv_iload_n hx hb dX7_sheep_39 rfl (lv_at hl 2 rfl) ?_
        refine m_callVi C cd_X7_113 ⟨rfl, by decide⟩ hl.1 hI hF (fun _ h => ok_X7_addSheep h) rfl rfl ⟨rfl, rfl, Nat.le_of_ble_eq_true rfl, Nat.le_of_ble_eq_true rfl⟩ ⟨Nat.le_of_ble_eq_true rfl, Nat.le_of_ble_eq_true rfl⟩ (Nat.le_of_ble_eq_true rfl) dX7_sheep_40 (fun r6 S7 H locs hF hI => ?_)
        exact (bl_X7_sheep_43 C) r6 S7 _ _ _ hF hI (lv_sub hl [] rfl)
      · refine lv_aload_n hx hb dX7_sheep_30 rfl (lv_at hl 0 rfl) ?_
        refine m_callVi C cd_X7_107 ⟨rfl, by decide⟩ hl.1 hI hF (fun _ h => ok_X7_full h) rfl rfl ⟨rfl, rfl, Nat.le_of_ble_eq_true rfl, Nat.le_of_ble_eq_true rfl⟩ ⟨Nat.le_of_ble_eq_true rfl, Nat.le_of_ble_eq_true rfl⟩ (Nat.le_of_ble_eq_true rfl) dX7_sheep_31 (fun r8 S9 H locs hF hI => ?_)
        refine lv_goto (tgt := 43) hx hb dX7_sheep_34 (by decide) ?_
        exact (bl_X7_sheep_43 C) r8 S9 _ _ _ hF hI (lv_sub hl [] rfl)
    · exact (bl_X7_sheep_16 C) v0 S _ _ _ hF hI (lv_sub hl [0] rfl)
noncomputable def f_X7_fold (v0 : Int32) (v1 : Int32) (S : mS) : Option (Int32 × mS) := mCp (f_X7_isCell v1) (fun r1 => if r1 = 0 then (mRc 7 v0 S (mC (f_X7_bad v0 S) (fun r8 S9 => some (r8, S9)))) else (mG 7 3 v0 S (fun r2 => if r2 = v1 then (mRc 7 v0 S (mC (f_X7_no v0 S) (fun r6 S7 => some (r6, S7)))) else (mG 7 3 v0 S (fun r3 => mP 7 3 v0 v1 S (fun S4 => mP 7 21 v0 0 S4 (fun S5 => some (r3, S5))))))))
def rm_X7_fold : Room := { frames := 2, cells := 0, slots := 0, locals := 42 }
set_option maxRecDepth 100000 in
set_option maxHeartbeats 4000000 in
theorem ok_X7_fold {l : Launch} {E : mE} {v0 : Int32} {v1 : Int32} {S : mS} {F : Int32 × mS} (hF : f_X7_fold v0 v1 S = some F) : mMi l yX7_fold cX7_fold 3 (some .int) rm_X7_fold 0 0 [.ref (mA E.b v0), .int v1] E S F := by
  refine m_met_i (by decide) (Nat.le_of_ble_eq_true rfl) (fun p e s m args below meth c ls hin C hI hl => ?_)
  have hx := C.1
  have hb := C.2.1
  have hl : lv_has ls 3 [(0, .ref (mA E.b v0)), (1, .int v1)] := hl
  generalize s.heap = H at hI ⊢
  generalize ([] : List Loc) = locs at hI ⊢
  refine lv_iload_n hx hb dX7_fold_0 rfl (lv_at hl 1 rfl) ?_
  refine m_callSiR C cd_X7_99 hl.1 hI hF (fun _ h => ok_X7_isCell h) rfl rfl ⟨rfl, rfl, Nat.le_of_ble_eq_true rfl, Nat.le_of_ble_eq_true rfl⟩ ⟨Nat.le_of_ble_eq_true rfl, Nat.le_of_ble_eq_true rfl⟩ (Nat.le_of_ble_eq_true rfl) dX7_fold_1 (fun r1 H locs hF hI => ?_)
  refine m_if_ne C (tgt := 12) hF dX7_fold_4 (by decide) (fun hF => ?_) (fun hF => ?_)
  · refine lv_aload_n hx hb dX7_fold_12 rfl (lv_at hl 0 rfl) ?_
    refine m_get C fd_X7_77 hI hF dX7_fold_13 (fun r2 hF => ?_)
    refine lv_iload_n hx hb dX7_fold_16 rfl (lv_at hl 1 rfl) ?_
    refine m_icmp_ne C (tgt := 25) hF dX7_fold_17 (by decide) (fun hF => ?_) (fun hF => ?_)
    · refine lv_aload_n hx hb dX7_fold_25 rfl (lv_at hl 0 rfl) ?_
      refine m_get C fd_X7_77 hI hF dX7_fold_26 (fun r3 hF => ?_)
      refine lv_istore_n (lv' := [(2, .int r3), (0, .ref (mA E.b v0)), (1, .int v1)]) hx hb dX7_fold_29 rfl hl (by decide) rfl (fun ls hl => ?_)
      refine lv_aload_n hx hb dX7_fold_30 rfl (lv_at hl 1 rfl) ?_
      refine lv_iload_n hx hb dX7_fold_31 rfl (lv_at hl 2 rfl) ?_
      refine m_put C fd_X7_77 hI hF dX7_fold_32 (fun S4 H locs hF hI => ?_)
      refine lv_aload_n hx hb dX7_fold_35 rfl (lv_at hl 1 rfl) ?_
      refine lv_iconst (v := 0) hx hb dX7_fold_36 (by decide) ?_
      refine m_put C fd_X7_92 hI hF dX7_fold_37 (fun S5 H locs hF hI => ?_)
      refine lv_iload_n hx hb dX7_fold_40 rfl (lv_at hl 0 rfl) ?_
      exact m_ireti C hI hF dX7_fold_41
    · refine lv_aload_n hx hb dX7_fold_20 rfl (lv_at hl 0 rfl) ?_
      refine m_callVi C cd_X7_116 ⟨rfl, by decide⟩ hl.1 hI hF (fun _ h => ok_X7_no h) rfl rfl ⟨rfl, rfl, Nat.le_of_ble_eq_true rfl, Nat.le_of_ble_eq_true rfl⟩ ⟨Nat.le_of_ble_eq_true rfl, Nat.le_of_ble_eq_true rfl⟩ (Nat.le_of_ble_eq_true rfl) dX7_fold_21 (fun r6 S7 H locs hF hI => ?_)
      exact m_ireti C hI hF dX7_fold_24
  · refine lv_aload_n hx hb dX7_fold_7 rfl (lv_at hl 0 rfl) ?_
    refine m_callVi C cd_X7_103 ⟨rfl, by decide⟩ hl.1 hI hF (fun _ h => ok_X7_bad h) rfl rfl ⟨rfl, rfl, Nat.le_of_ble_eq_true rfl, Nat.le_of_ble_eq_true rfl⟩ ⟨Nat.le_of_ble_eq_true rfl, Nat.le_of_ble_eq_true rfl⟩ (Nat.le_of_ble_eq_true rfl) dX7_fold_8 (fun r8 S9 H locs hF hI => ?_)
    exact m_ireti C hI hF dX7_fold_11
noncomputable def f_X7_type (v0 : Int32) (v1 : Int32) (S : mS) : Option (Int32 × mS) := mCp (f_X7_in v1 0 127) (fun r1 => if r1 = 0 then (mRc 7 v0 S (mC (f_X7_bad v0 S) (fun r11 S12 => some (r11, S12)))) else (mG 7 16 v0 S (fun r2 => if r2 = 150 then (mRc 7 v0 S (mC (f_X7_full v0 S) (fun r9 S10 => some (r9, S10)))) else (mGr 7 15 v0 S (fun r3 => mG 7 16 v0 S (fun r4 => mXs r3 r4 v1 S (fun S5 => mG 7 16 v0 S5 (fun r6 => mP 7 16 v0 (r6 + 1) S5 (fun S7 => mG 7 16 v0 S7 (fun r8 => some (r8, S7)))))))))))
def rm_X7_type : Room := { frames := 1, cells := 0, slots := 0, locals := 22 }
set_option maxRecDepth 100000 in
set_option maxHeartbeats 4000000 in
theorem ok_X7_type {l : Launch} {E : mE} {v0 : Int32} {v1 : Int32} {S : mS} {F : Int32 × mS} (hF : f_X7_type v0 v1 S = some F) : mMi l yX7_type cX7_type 2 (some .int) rm_X7_type 0 0 [.ref (mA E.b v0), .int v1] E S F := by
  refine m_met_i (by decide) (Nat.le_of_ble_eq_true rfl) (fun p e s m args below meth c ls hin C hI hl => ?_)
  have hx := C.1
  have hb := C.2.1
  have hl : lv_has ls 2 [(0, .ref (mA E.b v0)), (1, .int v1)] := hl
  generalize s.heap = H at hI ⊢
  generalize ([] : List Loc) = locs at hI ⊢
  refine lv_iload_n hx hb dX7_type_0 rfl (lv_at hl 1 rfl) ?_
  refine lv_iconst (v := 0) hx hb dX7_type_1 (by decide) ?_
  refine lv_bipush (v := 127) hx hb dX7_type_2 (by decide) ?_
  refine m_callSiR C cd_X7_95 hl.1 hI hF (fun _ h => ok_X7_in h) rfl rfl ⟨rfl, rfl, Nat.le_of_ble_eq_true rfl, Nat.le_of_ble_eq_true rfl⟩ ⟨Nat.le_of_ble_eq_true rfl, Nat.le_of_ble_eq_true rfl⟩ (Nat.le_of_ble_eq_true rfl) dX7_type_4 (fun r1 H locs hF hI => ?_)
  refine m_if_ne C (tgt := 15) hF dX7_type_7 (by decide) (fun hF => ?_) (fun hF => ?_)
  · refine lv_aload_n hx hb dX7_type_15 rfl (lv_at hl 0 rfl) ?_
    refine m_get C fd_X7_119 hI hF dX7_type_16 (fun r2 hF => ?_)
    refine lv_sipush (v := 150) hx hb dX7_type_19 (by decide) ?_
    refine m_icmp_ne C (tgt := 30) hF dX7_type_22 (by decide) (fun hF => ?_) (fun hF => ?_)
    · refine lv_aload_n hx hb dX7_type_30 rfl (lv_at hl 0 rfl) ?_
      refine m_getR C fd_X7_38 hI hF dX7_type_31 (fun r3 hF => ?_)
      refine lv_aload_n hx hb dX7_type_34 rfl (lv_at hl 0 rfl) ?_
      refine m_get C fd_X7_119 hI hF dX7_type_35 (fun r4 hF => ?_)
      refine lv_iload_n hx hb dX7_type_38 rfl (lv_at hl 1 rfl) ?_
      refine m_iast C hI hF dX7_type_39 (fun S5 H locs hF hI => ?_)
      refine lv_aload_n hx hb dX7_type_40 rfl (lv_at hl 0 rfl) ?_
      refine lv_dup hx hb dX7_type_41 rfl ?_
      refine m_get C fd_X7_119 hI hF dX7_type_42 (fun r6 hF => ?_)
      refine lv_iconst (v := 1) hx hb dX7_type_45 (by decide) ?_
      refine lv_iadd hx hb dX7_type_46 ?_
      refine m_put C fd_X7_119 hI hF dX7_type_47 (fun S7 H locs hF hI => ?_)
      refine lv_aload_n hx hb dX7_type_50 rfl (lv_at hl 0 rfl) ?_
      refine m_get C fd_X7_119 hI hF dX7_type_51 (fun r8 hF => ?_)
      exact m_ireti C hI hF dX7_type_54
    · refine lv_aload_n hx hb dX7_type_25 rfl (lv_at hl 0 rfl) ?_
      refine m_callVi C cd_X7_107 ⟨rfl, by decide⟩ hl.1 hI hF (fun _ h => ok_X7_full h) rfl rfl ⟨rfl, rfl, Nat.le_of_ble_eq_true rfl, Nat.le_of_ble_eq_true rfl⟩ ⟨Nat.le_of_ble_eq_true rfl, Nat.le_of_ble_eq_true rfl⟩ (Nat.le_of_ble_eq_true rfl) dX7_type_26 (fun r9 S10 H locs hF hI => ?_)
      exact m_ireti C hI hF dX7_type_29
  · refine lv_aload_n hx hb dX7_type_10 rfl (lv_at hl 0 rfl) ?_
    refine m_callVi C cd_X7_103 ⟨rfl, by decide⟩ hl.1 hI hF (fun _ h => ok_X7_bad h) rfl rfl ⟨rfl, rfl, Nat.le_of_ble_eq_true rfl, Nat.le_of_ble_eq_true rfl⟩ ⟨Nat.le_of_ble_eq_true rfl, Nat.le_of_ble_eq_true rfl⟩ (Nat.le_of_ble_eq_true rfl) dX7_type_11 (fun r11 S12 H locs hF hI => ?_)
    exact m_ireti C hI hF dX7_type_14
noncomputable def f_X7_clear (v0 : Int32) (S : mS) : Option (Int32 × mS) := mG 7 16 v0 S (fun r1 => mP 7 16 v0 0 S (fun S2 => some (r1, S2)))
def rm_X7_clear : Room := { frames := 0, cells := 0, slots := 0, locals := 0 }
set_option maxRecDepth 100000 in
set_option maxHeartbeats 4000000 in
theorem ok_X7_clear {l : Launch} {E : mE} {v0 : Int32} {S : mS} {F : Int32 × mS} (hF : f_X7_clear v0 S = some F) : mMi l yX7_clear cX7_clear 2 (some .int) rm_X7_clear 0 0 [.ref (mA E.b v0)] E S F := by
  refine m_met_i (by decide) (Nat.le_of_ble_eq_true rfl) (fun p e s m args below meth c ls hin C hI hl => ?_)
  have hx := C.1
  have hb := C.2.1
  have hl : lv_has ls 2 [(0, .ref (mA E.b v0))] := hl
  generalize s.heap = H at hI ⊢
  generalize ([] : List Loc) = locs at hI ⊢
  refine lv_aload_n hx hb dX7_clear_0 rfl (lv_at hl 0 rfl) ?_
  refine m_get C fd_X7_119 hI hF dX7_clear_1 (fun r1 hF => ?_)
  refine lv_istore_n (lv' := [(1, .int r1), (0, .ref (mA E.b v0))]) hx hb dX7_clear_4 rfl hl (by decide) rfl (fun ls hl => ?_)
  refine lv_aload_n hx hb dX7_clear_5 rfl (lv_at hl 1 rfl) ?_
  refine lv_iconst (v := 0) hx hb dX7_clear_6 (by decide) ?_
  refine m_put C fd_X7_119 hI hF dX7_clear_7 (fun S2 H locs hF hI => ?_)
  refine lv_iload_n hx hb dX7_clear_10 rfl (lv_at hl 0 rfl) ?_
  exact m_ireti C hI hF dX7_clear_11
noncomputable def f_X7_here_24 (S : mS) (t0 : Int32) : Option Int32 := some t0
noncomputable def f_X7_here (v0 : Int32) (S : mS) : Option Int32 := mG 7 17 v0 S (fun r1 => mG 7 16 v0 S (fun r2 => if r2 ≤ r1 then ((f_X7_here_24 S) (-1)) else (mGr 7 15 v0 S (fun r3 => mG 7 17 v0 S (fun r4 => mX 8 r3 r4 S (fun r5 => (f_X7_here_24 S) r5))))))
def rm_X7_here : Room := { frames := 0, cells := 0, slots := 0, locals := 0 }
set_option maxRecDepth 100000 in
set_option maxHeartbeats 4000000 in
theorem bl_X7_here_24 {p : Program} {l : Launch} {e : Env} {s : State} {m : MethodId} {args : Array Value} {below : List Frame} {meth : Method} {c : Code} {E : mE} {n0 : Nat} {r : Int32} {S : mS} (C : mCx p s m args meth c cX7_here 1 RX7 (some .int) E n0) : ∀  (t0 : Int32) (H : Heap) (locs : List Loc) (ls : Array Slot), f_X7_here_24 S t0 = some r → mIv s E S H locs 0 → lv_has ls 1 [] → W p l e rm_X7_here s m args below meth c H locs 0 0 (mQi below args s 0 0 n0 E (r, S)) (F0 m 24 ls [.int t0]) := by
  have hx := C.1
  have hb := C.2.1
  intro t0 H locs ls hF hI hl
  exact m_iretiR C hI hF dX7_here_24
set_option maxRecDepth 100000 in
set_option maxHeartbeats 4000000 in
theorem ok_X7_here {l : Launch} {E : mE} {v0 : Int32} {S : mS} {r : Int32} (hF : f_X7_here v0 S = some r) : mMi l yX7_here cX7_here 1 (some .int) rm_X7_here 0 0 [.ref (mA E.b v0)] E S (r, S) := by
  refine m_met_i (by decide) (Nat.le_of_ble_eq_true rfl) (fun p e s m args below meth c ls hin C hI hl => ?_)
  have hx := C.1
  have hb := C.2.1
  have hl : lv_has ls 1 [(0, .ref (mA E.b v0))] := hl
  generalize s.heap = H at hI ⊢
  generalize ([] : List Loc) = locs at hI ⊢
  refine lv_aload_n hx hb dX7_here_0 rfl (lv_at hl 0 rfl) ?_
  refine m_get C fd_X7_122 hI hF dX7_here_1 (fun r1 hF => ?_)
  refine lv_aload_n hx hb dX7_here_4 rfl (lv_at hl 0 rfl) ?_
  refine m_get C fd_X7_119 hI hF dX7_here_5 (fun r2 hF => ?_)
  refine m_icmp_ge C (tgt := 23) hF dX7_here_8 (by decide) (fun hF => ?_) (fun hF => ?_)
  · refine lv_iconst (v := (-1)) hx hb dX7_here_23 (by decide) ?_
    exact (bl_X7_here_24 C) (-1) _ _ _ hF hI (lv_sub hl [] rfl)
  · refine lv_aload_n hx hb dX7_here_11 rfl (lv_at hl 0 rfl) ?_
    refine m_getR C fd_X7_38 hI hF dX7_here_12 (fun r3 hF => ?_)
    refine lv_aload_n hx hb dX7_here_15 rfl (lv_at hl 0 rfl) ?_
    refine m_get C fd_X7_122 hI hF dX7_here_16 (fun r4 hF => ?_)
    refine m_iald C hI hF dX7_here_19 (fun r5 hF => ?_)
    refine lv_goto (tgt := 24) hx hb dX7_here_20 (by decide) ?_
    exact (bl_X7_here_24 C) r5 _ _ _ hF hI (lv_sub hl [] rfl)
noncomputable def f_X7_skip_0 (k22 : mS → Option mS) : Nat → Int32 → mS → Option mS := fun n => Nat.rec (motive := fun _ => Int32 → mS → Option mS) (fun _ _ => none) (fun _ rec v0 S => mRc 7 v0 S (mCp (f_X7_here v0 S) (fun r1 => if r1 = 32 then (mG 7 17 v0 S (fun r2 => mP 7 17 v0 (r2 + 1) S (fun S3 => rec v0 S3))) else (k22 S)))) n
theorem f_X7_skip_0_s (k22 : mS → Option mS) (n : Nat) (v0 : Int32) (S : mS) : f_X7_skip_0 k22 (n + 1) v0 S = mRc 7 v0 S (mCp (f_X7_here v0 S) (fun r1 => if r1 = 32 then (mG 7 17 v0 S (fun r2 => mP 7 17 v0 (r2 + 1) S (fun S3 => (f_X7_skip_0 k22 n) v0 S3))) else (k22 S))) := rfl
noncomputable def f_X7_skip_22 (S : mS) : Option mS := some S
noncomputable def f_X7_skip (v0 : Int32) (S : mS) : Option mS := (f_X7_skip_0 (f_X7_skip_22) 1000) v0 S
def rm_X7_skip : Room := { frames := 1, cells := 0, slots := 0, locals := 20 }
set_option maxRecDepth 100000 in
set_option maxHeartbeats 4000000 in
theorem bl_X7_skip_0 {p : Program} {l : Launch} {e : Env} {s : State} {m : MethodId} {args : Array Value} {below : List Frame} {meth : Method} {c : Code} {E : mE} {n0 : Nat} {F : mS} (C : mCx p s m args meth c cX7_skip 1 RX7 none E n0) {k22 : mS → Option mS} (hk22 : ∀ (S : mS) (H : Heap) (locs : List Loc) (ls : Array Slot), k22 S = some F → mIv s E S H locs 0 → lv_has ls 1 [] → W p l e rm_X7_skip s m args below meth c H locs 0 0 (mQv below args s 0 0 n0 E F) (F0 m 22 ls [])) : ∀ (n : Nat)  (v0 : Int32) (S : mS) (H : Heap) (locs : List Loc) (ls : Array Slot), f_X7_skip_0 k22 n v0 S = some F → mIv s E S H locs 0 → lv_has ls 1 [(0, .ref (mA E.b v0))] → W p l e rm_X7_skip s m args below meth c H locs 0 0 (mQv below args s 0 0 n0 E F) (F0 m 0 ls []) := by
  have hx := C.1
  have hb := C.2.1
  intro n
  induction n with
  | zero =>
    intro v0 S H locs ls hF
    exact nomatch (show (none : Option mS) = some F from hF)
  | succ n ih =>
    intro v0 S H locs ls hF hI hl
    have hF := (f_X7_skip_0_s k22 n v0 S).symm.trans hF
    refine lv_aload_n hx hb dX7_skip_0 rfl (lv_at hl 0 rfl) ?_
    refine m_callViR C cd_X7_125 ⟨rfl, by decide⟩ hl.1 hI hF (fun _ h => ok_X7_here h) rfl rfl ⟨rfl, rfl, Nat.le_of_ble_eq_true rfl, Nat.le_of_ble_eq_true rfl⟩ ⟨Nat.le_of_ble_eq_true rfl, Nat.le_of_ble_eq_true rfl⟩ (Nat.le_of_ble_eq_true rfl) dX7_skip_1 (fun r1 H locs hF hI => ?_)
    refine lv_bipush (v := 32) hx hb dX7_skip_4 (by decide) ?_
    refine m_icmp_ne C (tgt := 22) hF dX7_skip_6 (by decide) (fun hF => ?_) (fun hF => ?_)
    · exact hk22 S _ _ _ hF hI (lv_sub hl [] rfl)
    · refine lv_aload_n hx hb dX7_skip_9 rfl (lv_at hl 0 rfl) ?_
      refine lv_dup hx hb dX7_skip_10 rfl ?_
      refine m_get C fd_X7_122 hI hF dX7_skip_11 (fun r2 hF => ?_)
      refine lv_iconst (v := 1) hx hb dX7_skip_14 (by decide) ?_
      refine lv_iadd hx hb dX7_skip_15 ?_
      refine m_put C fd_X7_122 hI hF dX7_skip_16 (fun S3 H locs hF hI => ?_)
      refine lv_goto (tgt := 0) hx hb dX7_skip_19 (by decide) ?_
      exact ih v0 S3 _ _ _ hF hI (lv_sub hl [0] rfl)
set_option maxRecDepth 100000 in
set_option maxHeartbeats 4000000 in
theorem bl_X7_skip_22 {p : Program} {l : Launch} {e : Env} {s : State} {m : MethodId} {args : Array Value} {below : List Frame} {meth : Method} {c : Code} {E : mE} {n0 : Nat} {F : mS} (C : mCx p s m args meth c cX7_skip 1 RX7 none E n0) : ∀  (S : mS) (H : Heap) (locs : List Loc) (ls : Array Slot), f_X7_skip_22 S = some F → mIv s E S H locs 0 → lv_has ls 1 [] → W p l e rm_X7_skip s m args below meth c H locs 0 0 (mQv below args s 0 0 n0 E F) (F0 m 22 ls []) := by
  have hx := C.1
  have hb := C.2.1
  intro S H locs ls hF hI hl
  exact m_vret C hI hF dX7_skip_22
set_option maxRecDepth 100000 in
set_option maxHeartbeats 4000000 in
theorem ok_X7_skip {l : Launch} {E : mE} {v0 : Int32} {S : mS} {F : mS} (hF : f_X7_skip v0 S = some F) : mMv l yX7_skip cX7_skip 1 none rm_X7_skip 0 0 [.ref (mA E.b v0)] E S F := by
  refine m_met_v (by decide) (Nat.le_of_ble_eq_true rfl) (fun p e s m args below meth c ls hin C hI hl => ?_)
  have hx := C.1
  have hb := C.2.1
  have hl : lv_has ls 1 [(0, .ref (mA E.b v0))] := hl
  generalize s.heap = H at hI ⊢
  generalize ([] : List Loc) = locs at hI ⊢
  exact (bl_X7_skip_0 C (k22 := (f_X7_skip_22)) (bl_X7_skip_22 C) 1000) v0 S _ _ _ hF hI (lv_sub hl [0] rfl)
noncomputable def f_X7_isLetter (v0 : Int32) : Option Int32 := mCp (f_X7_in v0 97 122) (fun r1 => mZ r1 (some r1))
def rm_X7_isLetter : Room := { frames := 1, cells := 0, slots := 0, locals := 22 }
set_option maxRecDepth 100000 in
set_option maxHeartbeats 4000000 in
theorem ok_X7_isLetter {l : Launch} {E : mE} {v0 : Int32} {S : mS} {r : Int32} (hF : f_X7_isLetter v0 = some r) : mMi l yX7_isLetter cX7_isLetter 1 (some .boolean) rm_X7_isLetter 0 0 [.int v0] E S (r, S) := by
  refine m_met_i (by decide) (Nat.le_of_ble_eq_true rfl) (fun p e s m args below meth c ls hin C hI hl => ?_)
  have hx := C.1
  have hb := C.2.1
  have hl : lv_has ls 1 [(0, .int v0)] := hl
  generalize s.heap = H at hI ⊢
  generalize ([] : List Loc) = locs at hI ⊢
  refine lv_iload_n hx hb dX7_isLetter_0 rfl (lv_at hl 0 rfl) ?_
  refine lv_bipush (v := 97) hx hb dX7_isLetter_1 (by decide) ?_
  refine lv_bipush (v := 122) hx hb dX7_isLetter_3 (by decide) ?_
  refine m_callSiR C cd_X7_95 hl.1 hI hF (fun _ h => ok_X7_in h) rfl rfl ⟨rfl, rfl, Nat.le_of_ble_eq_true rfl, Nat.le_of_ble_eq_true rfl⟩ ⟨Nat.le_of_ble_eq_true rfl, Nat.le_of_ble_eq_true rfl⟩ (Nat.le_of_ble_eq_true rfl) dX7_isLetter_5 (fun r1 H locs hF hI => ?_)
  exact m_iretzR C hI hF dX7_isLetter_8
noncomputable def f_X7_isFigure (v0 : Int32) : Option Int32 := mCp (f_X7_in v0 48 57) (fun r1 => mZ r1 (some r1))
def rm_X7_isFigure : Room := { frames := 1, cells := 0, slots := 0, locals := 22 }
set_option maxRecDepth 100000 in
set_option maxHeartbeats 4000000 in
theorem ok_X7_isFigure {l : Launch} {E : mE} {v0 : Int32} {S : mS} {r : Int32} (hF : f_X7_isFigure v0 = some r) : mMi l yX7_isFigure cX7_isFigure 1 (some .boolean) rm_X7_isFigure 0 0 [.int v0] E S (r, S) := by
  refine m_met_i (by decide) (Nat.le_of_ble_eq_true rfl) (fun p e s m args below meth c ls hin C hI hl => ?_)
  have hx := C.1
  have hb := C.2.1
  have hl : lv_has ls 1 [(0, .int v0)] := hl
  generalize s.heap = H at hI ⊢
  generalize ([] : List Loc) = locs at hI ⊢
  refine lv_iload_n hx hb dX7_isFigure_0 rfl (lv_at hl 0 rfl) ?_
  refine lv_bipush (v := 48) hx hb dX7_isFigure_1 (by decide) ?_
  refine lv_bipush (v := 57) hx hb dX7_isFigure_3 (by decide) ?_
  refine m_callSiR C cd_X7_95 hl.1 hI hF (fun _ h => ok_X7_in h) rfl rfl ⟨rfl, rfl, Nat.le_of_ble_eq_true rfl, Nat.le_of_ble_eq_true rfl⟩ ⟨Nat.le_of_ble_eq_true rfl, Nat.le_of_ble_eq_true rfl⟩ (Nat.le_of_ble_eq_true rfl) dX7_isFigure_5 (fun r1 H locs hF hI => ?_)
  exact m_iretzR C hI hF dX7_isFigure_8
noncomputable def f_X7_wordSize_2 (k38 : Int32 → Option Int32) (S : mS) : Nat → Int32 → Int32 → Option Int32 := fun n => Nat.rec (motive := fun _ => Int32 → Int32 → Option Int32) (fun _ _ => none) (fun _ rec v0 v1 => mG 7 17 v0 S (fun r1 => mG 7 16 v0 S (fun r2 => if r2 ≤ (r1 + v1) then (k38 v1) else (mGr 7 15 v0 S (fun r3 => mG 7 17 v0 S (fun r4 => mX 8 r3 (r4 + v1) S (fun r5 => mCp (f_X7_isLetter r5) (fun r6 => if r6 = 0 then (k38 v1) else (rec v0 (v1 + 1)))))))))) n
theorem f_X7_wordSize_2_s (k38 : Int32 → Option Int32) (S : mS) (n : Nat) (v0 : Int32) (v1 : Int32) : f_X7_wordSize_2 k38 S (n + 1) v0 v1 = mG 7 17 v0 S (fun r1 => mG 7 16 v0 S (fun r2 => if r2 ≤ (r1 + v1) then (k38 v1) else (mGr 7 15 v0 S (fun r3 => mG 7 17 v0 S (fun r4 => mX 8 r3 (r4 + v1) S (fun r5 => mCp (f_X7_isLetter r5) (fun r6 => if r6 = 0 then (k38 v1) else ((f_X7_wordSize_2 k38 S n) v0 (v1 + 1))))))))) := rfl
noncomputable def f_X7_wordSize_38 (S : mS) (v1 : Int32) : Option Int32 := some v1
noncomputable def f_X7_wordSize (v0 : Int32) (S : mS) : Option Int32 := (f_X7_wordSize_2 (f_X7_wordSize_38 S) S 1000) v0 0
def rm_X7_wordSize : Room := { frames := 2, cells := 0, slots := 0, locals := 42 }
set_option maxRecDepth 100000 in
set_option maxHeartbeats 4000000 in
theorem bl_X7_wordSize_2 {p : Program} {l : Launch} {e : Env} {s : State} {m : MethodId} {args : Array Value} {below : List Frame} {meth : Method} {c : Code} {E : mE} {n0 : Nat} {r : Int32} {S : mS} (C : mCx p s m args meth c cX7_wordSize 2 RX7 (some .int) E n0) {k38 : Int32 → Option Int32} (hk38 : ∀ (v1 : Int32) (H : Heap) (locs : List Loc) (ls : Array Slot), k38 v1 = some r → mIv s E S H locs 0 → lv_has ls 2 [(1, .int v1)] → W p l e rm_X7_wordSize s m args below meth c H locs 0 0 (mQi below args s 0 0 n0 E (r, S)) (F0 m 38 ls [])) : ∀ (n : Nat)  (v0 : Int32) (v1 : Int32) (H : Heap) (locs : List Loc) (ls : Array Slot), f_X7_wordSize_2 k38 S n v0 v1 = some r → mIv s E S H locs 0 → lv_has ls 2 [(0, .ref (mA E.b v0)), (1, .int v1)] → W p l e rm_X7_wordSize s m args below meth c H locs 0 0 (mQi below args s 0 0 n0 E (r, S)) (F0 m 2 ls []) := by
  have hx := C.1
  have hb := C.2.1
  intro n
  induction n with
  | zero =>
    intro v0 v1 H locs ls hF
    exact nomatch (show (none : Option Int32) = some r from hF)
  | succ n ih =>
    intro v0 v1 H locs ls hF hI hl
    have hF := (f_X7_wordSize_2_s k38 S n v0 v1).symm.trans hF
    refine lv_aload_n hx hb dX7_wordSize_2 rfl (lv_at hl 0 rfl) ?_
    refine m_get C fd_X7_122 hI hF dX7_wordSize_3 (fun r1 hF => ?_)
    refine lv_iload_n hx hb dX7_wordSize_6 rfl (lv_at hl 1 rfl) ?_
    refine lv_iadd hx hb dX7_wordSize_7 ?_
    refine lv_aload_n hx hb dX7_wordSize_8 rfl (lv_at hl 0 rfl) ?_
    refine m_get C fd_X7_119 hI hF dX7_wordSize_9 (fun r2 hF => ?_)
    refine m_icmp_ge C (tgt := 38) hF dX7_wordSize_12 (by decide) (fun hF => ?_) (fun hF => ?_)
    · exact hk38 v1 _ _ _ hF hI (lv_sub hl [1] rfl)
    · refine lv_aload_n hx hb dX7_wordSize_15 rfl (lv_at hl 0 rfl) ?_
      refine m_getR C fd_X7_38 hI hF dX7_wordSize_16 (fun r3 hF => ?_)
      refine lv_aload_n hx hb dX7_wordSize_19 rfl (lv_at hl 0 rfl) ?_
      refine m_get C fd_X7_122 hI hF dX7_wordSize_20 (fun r4 hF => ?_)
      refine lv_iload_n hx hb dX7_wordSize_23 rfl (lv_at hl 1 rfl) ?_
      refine lv_iadd hx hb dX7_wordSize_24 ?_
      refine m_iald C hI hF dX7_wordSize_25 (fun r5 hF => ?_)
      refine m_callSiR C cd_X7_128 hl.1 hI hF (fun _ h => ok_X7_isLetter h) rfl rfl ⟨rfl, rfl, Nat.le_of_ble_eq_true rfl, Nat.le_of_ble_eq_true rfl⟩ ⟨Nat.le_of_ble_eq_true rfl, Nat.le_of_ble_eq_true rfl⟩ (Nat.le_of_ble_eq_true rfl) dX7_wordSize_26 (fun r6 H locs hF hI => ?_)
      refine m_if_eq C (tgt := 38) hF dX7_wordSize_29 (by decide) (fun hF => ?_) (fun hF => ?_)
      · exact hk38 v1 _ _ _ hF hI (lv_sub hl [1] rfl)
      · refine lv_iinc (v := v1 + 1) (lv' := [(1, .int (v1 + 1)), (0, .ref (mA E.b v0))]) hx hb dX7_wordSize_32 hl (k := 1) rfl rfl (by decide) rfl (fun ls hl => ?_)
        refine lv_goto (tgt := 2) hx hb dX7_wordSize_35 (by decide) ?_
        exact ih v0 (v1 + 1) _ _ _ hF hI (lv_sub hl [1, 0] rfl)
set_option maxRecDepth 100000 in
set_option maxHeartbeats 4000000 in
theorem bl_X7_wordSize_38 {p : Program} {l : Launch} {e : Env} {s : State} {m : MethodId} {args : Array Value} {below : List Frame} {meth : Method} {c : Code} {E : mE} {n0 : Nat} {r : Int32} {S : mS} (C : mCx p s m args meth c cX7_wordSize 2 RX7 (some .int) E n0) : ∀  (v1 : Int32) (H : Heap) (locs : List Loc) (ls : Array Slot), f_X7_wordSize_38 S v1 = some r → mIv s E S H locs 0 → lv_has ls 2 [(1, .int v1)] → W p l e rm_X7_wordSize s m args below meth c H locs 0 0 (mQi below args s 0 0 n0 E (r, S)) (F0 m 38 ls []) := by
  have hx := C.1
  have hb := C.2.1
  intro v1 H locs ls hF hI hl
  refine lv_iload_n hx hb dX7_wordSize_38 rfl (lv_at hl 0 rfl) ?_
  exact m_iretiR C hI hF dX7_wordSize_39
set_option maxRecDepth 100000 in
set_option maxHeartbeats 4000000 in
theorem ok_X7_wordSize {l : Launch} {E : mE} {v0 : Int32} {S : mS} {r : Int32} (hF : f_X7_wordSize v0 S = some r) : mMi l yX7_wordSize cX7_wordSize 2 (some .int) rm_X7_wordSize 0 0 [.ref (mA E.b v0)] E S (r, S) := by
  refine m_met_i (by decide) (Nat.le_of_ble_eq_true rfl) (fun p e s m args below meth c ls hin C hI hl => ?_)
  have hx := C.1
  have hb := C.2.1
  have hl : lv_has ls 2 [(0, .ref (mA E.b v0))] := hl
  generalize s.heap = H at hI ⊢
  generalize ([] : List Loc) = locs at hI ⊢
  refine lv_iconst (v := 0) hx hb dX7_wordSize_0 (by decide) ?_
  refine lv_istore_n (lv' := [(1, .int 0), (0, .ref (mA E.b v0))]) hx hb dX7_wordSize_1 rfl hl (by decide) rfl (fun ls hl => ?_)
  exact (bl_X7_wordSize_2 C (k38 := (f_X7_wordSize_38 S)) (bl_X7_wordSize_38 C) 1000) v0 0 _ _ _ hF hI (lv_sub hl [1, 0] rfl)
noncomputable def f_X7_letter (v0 : Int32) (v1 : Int32) (S : mS) : Option Int32 := mGr 7 15 v0 S (fun r1 => mG 7 17 v0 S (fun r2 => mX 8 r1 (r2 + v1) S (fun r3 => some r3)))
def rm_X7_letter : Room := { frames := 0, cells := 0, slots := 0, locals := 0 }
set_option maxRecDepth 100000 in
set_option maxHeartbeats 4000000 in
theorem ok_X7_letter {l : Launch} {E : mE} {v0 : Int32} {v1 : Int32} {S : mS} {r : Int32} (hF : f_X7_letter v0 v1 S = some r) : mMi l yX7_letter cX7_letter 2 (some .int) rm_X7_letter 0 0 [.ref (mA E.b v0), .int v1] E S (r, S) := by
  refine m_met_i (by decide) (Nat.le_of_ble_eq_true rfl) (fun p e s m args below meth c ls hin C hI hl => ?_)
  have hx := C.1
  have hb := C.2.1
  have hl : lv_has ls 2 [(0, .ref (mA E.b v0)), (1, .int v1)] := hl
  generalize s.heap = H at hI ⊢
  generalize ([] : List Loc) = locs at hI ⊢
  refine lv_aload_n hx hb dX7_letter_0 rfl (lv_at hl 0 rfl) ?_
  refine m_getR C fd_X7_38 hI hF dX7_letter_1 (fun r1 hF => ?_)
  refine lv_aload_n hx hb dX7_letter_4 rfl (lv_at hl 0 rfl) ?_
  refine m_get C fd_X7_122 hI hF dX7_letter_5 (fun r2 hF => ?_)
  refine lv_iload_n hx hb dX7_letter_8 rfl (lv_at hl 1 rfl) ?_
  refine lv_iadd hx hb dX7_letter_9 ?_
  refine m_iald C hI hF dX7_letter_10 (fun r3 hF => ?_)
  exact m_iretiR C hI hF dX7_letter_11
noncomputable def f_X7_wordHere_305 (S : mS) (t0 : Int32) : Option Int32 := some t0
noncomputable def f_X7_wordHere_304 (S : mS) : Option Int32 := (f_X7_wordHere_305 S) (-1)
noncomputable def f_X7_wordHere_264 (S : mS) (v0 : Int32) (t0 : Int32) : Option Int32 := if t0 = 0 then ((f_X7_wordHere_304 S)) else (mRc 7 v0 S (mCp (f_X7_letter v0 4 S) (fun r3 => if r3 = 116 then (mRc 7 v0 S (mCp (f_X7_letter v0 5 S) (fun r4 => if r4 = 108 then (mRc 7 v0 S (mCp (f_X7_letter v0 6 S) (fun r5 => if r5 = 101 then ((f_X7_wordHere_305 S) 1) else ((f_X7_wordHere_304 S))))) else ((f_X7_wordHere_304 S))))) else ((f_X7_wordHere_304 S)))))
noncomputable def f_X7_wordHere_263 (S : mS) (v0 : Int32) : Option Int32 := (f_X7_wordHere_264 S) v0 0
noncomputable def f_X7_wordHere_210 (S : mS) (t0 : Int32) : Option Int32 := some t0
noncomputable def f_X7_wordHere_209 (S : mS) : Option Int32 := (f_X7_wordHere_210 S) (-1)
noncomputable def f_X7_wordHere_155 (S : mS) (v0 : Int32) : Option Int32 := mRc 7 v0 S (mCp (f_X7_letter v0 0 S) (fun r10 => if r10 = 115 then (mRc 7 v0 S (mCp (f_X7_letter v0 1 S) (fun r11 => if r11 = 116 then (mRc 7 v0 S (mCp (f_X7_letter v0 2 S) (fun r12 => if r12 = 101 then (mRc 7 v0 S (mCp (f_X7_letter v0 3 S) (fun r13 => if r13 = 112 then (mRc 7 v0 S (mCp (f_X7_letter v0 4 S) (fun r14 => if r14 = 115 then ((f_X7_wordHere_210 S) 4) else ((f_X7_wordHere_209 S))))) else ((f_X7_wordHere_209 S))))) else ((f_X7_wordHere_209 S))))) else ((f_X7_wordHere_209 S))))) else ((f_X7_wordHere_209 S))))
noncomputable def f_X7_wordHere_97 (S : mS) (t0 : Int32) : Option Int32 := some t0
noncomputable def f_X7_wordHere_96 (S : mS) : Option Int32 := (f_X7_wordHere_97 S) (-1)
noncomputable def f_X7_wordHere_52 (S : mS) (v0 : Int32) : Option Int32 := mRc 7 v0 S (mCp (f_X7_letter v0 0 S) (fun r20 => if r20 = 99 then (mRc 7 v0 S (mCp (f_X7_letter v0 1 S) (fun r21 => if r21 = 97 then (mRc 7 v0 S (mCp (f_X7_letter v0 2 S) (fun r22 => if r22 = 108 then (mRc 7 v0 S (mCp (f_X7_letter v0 3 S) (fun r23 => if r23 = 108 then ((f_X7_wordHere_97 S) 3) else ((f_X7_wordHere_96 S))))) else ((f_X7_wordHere_96 S))))) else ((f_X7_wordHere_96 S))))) else ((f_X7_wordHere_96 S))))
noncomputable def f_X7_wordHere (v0 : Int32) (S : mS) : Option Int32 := mRc 7 v0 S (mCp (f_X7_wordSize v0 S) (fun r1 => if r1 = 4 then (mRc 7 v0 S (mCp (f_X7_letter v0 0 S) (fun r19 => if r19 = 102 then (mRc 7 v0 S (mCp (f_X7_letter v0 1 S) (fun r24 => if r24 = 101 then (mRc 7 v0 S (mCp (f_X7_letter v0 2 S) (fun r25 => if r25 = 108 then (mRc 7 v0 S (mCp (f_X7_letter v0 3 S) (fun r26 => if r26 = 108 then (some 0) else ((f_X7_wordHere_52 S) v0)))) else ((f_X7_wordHere_52 S) v0)))) else ((f_X7_wordHere_52 S) v0)))) else ((f_X7_wordHere_52 S) v0)))) else (if r1 = 5 then (mRc 7 v0 S (mCp (f_X7_letter v0 0 S) (fun r9 => if r9 = 115 then (mRc 7 v0 S (mCp (f_X7_letter v0 1 S) (fun r15 => if r15 = 104 then (mRc 7 v0 S (mCp (f_X7_letter v0 2 S) (fun r16 => if r16 = 101 then (mRc 7 v0 S (mCp (f_X7_letter v0 3 S) (fun r17 => if r17 = 101 then (mRc 7 v0 S (mCp (f_X7_letter v0 4 S) (fun r18 => if r18 = 112 then (some 2) else ((f_X7_wordHere_155 S) v0)))) else ((f_X7_wordHere_155 S) v0)))) else ((f_X7_wordHere_155 S) v0)))) else ((f_X7_wordHere_155 S) v0)))) else ((f_X7_wordHere_155 S) v0)))) else (if r1 = 7 then (mRc 7 v0 S (mCp (f_X7_letter v0 0 S) (fun r2 => if r2 = 119 then (mRc 7 v0 S (mCp (f_X7_letter v0 1 S) (fun r6 => if r6 = 104 then (mRc 7 v0 S (mCp (f_X7_letter v0 2 S) (fun r7 => if r7 = 105 then (mRc 7 v0 S (mCp (f_X7_letter v0 3 S) (fun r8 => if r8 = 115 then ((f_X7_wordHere_264 S) v0 1) else ((f_X7_wordHere_263 S) v0)))) else ((f_X7_wordHere_263 S) v0)))) else ((f_X7_wordHere_263 S) v0)))) else ((f_X7_wordHere_263 S) v0)))) else (some (-1))))))
def rm_X7_wordHere : Room := { frames := 3, cells := 0, slots := 0, locals := 63 }
set_option maxRecDepth 100000 in
set_option maxHeartbeats 4000000 in
theorem bl_X7_wordHere_305 {p : Program} {l : Launch} {e : Env} {s : State} {m : MethodId} {args : Array Value} {below : List Frame} {meth : Method} {c : Code} {E : mE} {n0 : Nat} {r : Int32} {S : mS} (C : mCx p s m args meth c cX7_wordHere 3 RX7 (some .int) E n0) : ∀  (t0 : Int32) (H : Heap) (locs : List Loc) (ls : Array Slot), f_X7_wordHere_305 S t0 = some r → mIv s E S H locs 0 → lv_has ls 3 [] → W p l e rm_X7_wordHere s m args below meth c H locs 0 0 (mQi below args s 0 0 n0 E (r, S)) (F0 m 305 ls [.int t0]) := by
  have hx := C.1
  have hb := C.2.1
  intro t0 H locs ls hF hI hl
  exact m_iretiR C hI hF dX7_wordHere_305
set_option maxRecDepth 100000 in
set_option maxHeartbeats 4000000 in
theorem bl_X7_wordHere_304 {p : Program} {l : Launch} {e : Env} {s : State} {m : MethodId} {args : Array Value} {below : List Frame} {meth : Method} {c : Code} {E : mE} {n0 : Nat} {r : Int32} {S : mS} (C : mCx p s m args meth c cX7_wordHere 3 RX7 (some .int) E n0) : ∀  (H : Heap) (locs : List Loc) (ls : Array Slot), f_X7_wordHere_304 S = some r → mIv s E S H locs 0 → lv_has ls 3 [] → W p l e rm_X7_wordHere s m args below meth c H locs 0 0 (mQi below args s 0 0 n0 E (r, S)) (F0 m 304 ls []) := by
  have hx := C.1
  have hb := C.2.1
  intro H locs ls hF hI hl
  refine lv_iconst (v := (-1)) hx hb dX7_wordHere_304 (by decide) ?_
  exact (bl_X7_wordHere_305 C) (-1) _ _ _ hF hI (lv_sub hl [] rfl)
set_option maxRecDepth 100000 in
set_option maxHeartbeats 4000000 in
theorem bl_X7_wordHere_264 {p : Program} {l : Launch} {e : Env} {s : State} {m : MethodId} {args : Array Value} {below : List Frame} {meth : Method} {c : Code} {E : mE} {n0 : Nat} {r : Int32} {S : mS} (C : mCx p s m args meth c cX7_wordHere 3 RX7 (some .int) E n0) : ∀  (v0 : Int32) (t0 : Int32) (H : Heap) (locs : List Loc) (ls : Array Slot), f_X7_wordHere_264 S v0 t0 = some r → mIv s E S H locs 0 → lv_has ls 3 [(0, .ref (mA E.b v0))] → W p l e rm_X7_wordHere s m args below meth c H locs 0 0 (mQi below args s 0 0 n0 E (r, S)) (F0 m 264 ls [.int t0]) := by
  have hx := C.1
  have hb := C.2.1
  intro v0 t0 H locs ls hF hI hl
  refine lv_istore_n (lv' := [(2, .int t0), (0, .ref (mA E.b v0))]) hx hb dX7_wordHere_264 rfl hl (by decide) rfl (fun ls hl => ?_)
  refine lv_iload_n hx hb dX7_wordHere_265 rfl (lv_at hl 0 rfl) ?_
  refine m_if_eq C (tgt := 304) hF dX7_wordHere_266 (by decide) (fun hF => ?_) (fun hF => ?_)
  · exact (bl_X7_wordHere_304 C)  _ _ _ hF hI (lv_sub hl [] rfl)
  · refine lv_aload_n hx hb dX7_wordHere_269 rfl (lv_at hl 1 rfl) ?_
    refine lv_iconst (v := 4) hx hb dX7_wordHere_270 (by decide) ?_
    refine m_callViR C cd_X7_134 ⟨rfl, by decide⟩ hl.1 hI hF (fun _ h => ok_X7_letter h) rfl rfl ⟨rfl, rfl, Nat.le_of_ble_eq_true rfl, Nat.le_of_ble_eq_true rfl⟩ ⟨Nat.le_of_ble_eq_true rfl, Nat.le_of_ble_eq_true rfl⟩ (Nat.le_of_ble_eq_true rfl) dX7_wordHere_271 (fun r3 H locs hF hI => ?_)
    refine lv_bipush (v := 116) hx hb dX7_wordHere_274 (by decide) ?_
    refine m_icmp_ne C (tgt := 304) hF dX7_wordHere_276 (by decide) (fun hF => ?_) (fun hF => ?_)
    · exact (bl_X7_wordHere_304 C)  _ _ _ hF hI (lv_sub hl [] rfl)
    · refine lv_aload_n hx hb dX7_wordHere_279 rfl (lv_at hl 1 rfl) ?_
      refine lv_iconst (v := 5) hx hb dX7_wordHere_280 (by decide) ?_
      refine m_callViR C cd_X7_134 ⟨rfl, by decide⟩ hl.1 hI hF (fun _ h => ok_X7_letter h) rfl rfl ⟨rfl, rfl, Nat.le_of_ble_eq_true rfl, Nat.le_of_ble_eq_true rfl⟩ ⟨Nat.le_of_ble_eq_true rfl, Nat.le_of_ble_eq_true rfl⟩ (Nat.le_of_ble_eq_true rfl) dX7_wordHere_281 (fun r4 H locs hF hI => ?_)
      refine lv_bipush (v := 108) hx hb dX7_wordHere_284 (by decide) ?_
      refine m_icmp_ne C (tgt := 304) hF dX7_wordHere_286 (by decide) (fun hF => ?_) (fun hF => ?_)
      · exact (bl_X7_wordHere_304 C)  _ _ _ hF hI (lv_sub hl [] rfl)
      · refine lv_aload_n hx hb dX7_wordHere_289 rfl (lv_at hl 1 rfl) ?_
        refine lv_bipush (v := 6) hx hb dX7_wordHere_290 (by decide) ?_
        refine m_callViR C cd_X7_134 ⟨rfl, by decide⟩ hl.1 hI hF (fun _ h => ok_X7_letter h) rfl rfl ⟨rfl, rfl, Nat.le_of_ble_eq_true rfl, Nat.le_of_ble_eq_true rfl⟩ ⟨Nat.le_of_ble_eq_true rfl, Nat.le_of_ble_eq_true rfl⟩ (Nat.le_of_ble_eq_true rfl) dX7_wordHere_292 (fun r5 H locs hF hI => ?_)
        refine lv_bipush (v := 101) hx hb dX7_wordHere_295 (by decide) ?_
        refine m_icmp_ne C (tgt := 304) hF dX7_wordHere_297 (by decide) (fun hF => ?_) (fun hF => ?_)
        · exact (bl_X7_wordHere_304 C)  _ _ _ hF hI (lv_sub hl [] rfl)
        · refine lv_iconst (v := 1) hx hb dX7_wordHere_300 (by decide) ?_
          refine lv_goto (tgt := 305) hx hb dX7_wordHere_301 (by decide) ?_
          exact (bl_X7_wordHere_305 C) 1 _ _ _ hF hI (lv_sub hl [] rfl)
set_option maxRecDepth 100000 in
set_option maxHeartbeats 4000000 in
theorem bl_X7_wordHere_263 {p : Program} {l : Launch} {e : Env} {s : State} {m : MethodId} {args : Array Value} {below : List Frame} {meth : Method} {c : Code} {E : mE} {n0 : Nat} {r : Int32} {S : mS} (C : mCx p s m args meth c cX7_wordHere 3 RX7 (some .int) E n0) : ∀  (v0 : Int32) (H : Heap) (locs : List Loc) (ls : Array Slot), f_X7_wordHere_263 S v0 = some r → mIv s E S H locs 0 → lv_has ls 3 [(0, .ref (mA E.b v0))] → W p l e rm_X7_wordHere s m args below meth c H locs 0 0 (mQi below args s 0 0 n0 E (r, S)) (F0 m 263 ls []) := by
  have hx := C.1
  have hb := C.2.1
  intro v0 H locs ls hF hI hl
  refine lv_iconst (v := 0) hx hb dX7_wordHere_263 (by decide) ?_
  exact (bl_X7_wordHere_264 C) v0 0 _ _ _ hF hI (lv_sub hl [0] rfl)
set_option maxRecDepth 100000 in
set_option maxHeartbeats 4000000 in
theorem bl_X7_wordHere_210 {p : Program} {l : Launch} {e : Env} {s : State} {m : MethodId} {args : Array Value} {below : List Frame} {meth : Method} {c : Code} {E : mE} {n0 : Nat} {r : Int32} {S : mS} (C : mCx p s m args meth c cX7_wordHere 3 RX7 (some .int) E n0) : ∀  (t0 : Int32) (H : Heap) (locs : List Loc) (ls : Array Slot), f_X7_wordHere_210 S t0 = some r → mIv s E S H locs 0 → lv_has ls 3 [] → W p l e rm_X7_wordHere s m args below meth c H locs 0 0 (mQi below args s 0 0 n0 E (r, S)) (F0 m 210 ls [.int t0]) := by
  have hx := C.1
  have hb := C.2.1
  intro t0 H locs ls hF hI hl
  exact m_iretiR C hI hF dX7_wordHere_210
set_option maxRecDepth 100000 in
set_option maxHeartbeats 4000000 in
theorem bl_X7_wordHere_209 {p : Program} {l : Launch} {e : Env} {s : State} {m : MethodId} {args : Array Value} {below : List Frame} {meth : Method} {c : Code} {E : mE} {n0 : Nat} {r : Int32} {S : mS} (C : mCx p s m args meth c cX7_wordHere 3 RX7 (some .int) E n0) : ∀  (H : Heap) (locs : List Loc) (ls : Array Slot), f_X7_wordHere_209 S = some r → mIv s E S H locs 0 → lv_has ls 3 [] → W p l e rm_X7_wordHere s m args below meth c H locs 0 0 (mQi below args s 0 0 n0 E (r, S)) (F0 m 209 ls []) := by
  have hx := C.1
  have hb := C.2.1
  intro H locs ls hF hI hl
  refine lv_iconst (v := (-1)) hx hb dX7_wordHere_209 (by decide) ?_
  exact (bl_X7_wordHere_210 C) (-1) _ _ _ hF hI (lv_sub hl [] rfl)
set_option maxRecDepth 100000 in
set_option maxHeartbeats 4000000 in
theorem bl_X7_wordHere_155 {p : Program} {l : Launch} {e : Env} {s : State} {m : MethodId} {args : Array Value} {below : List Frame} {meth : Method} {c : Code} {E : mE} {n0 : Nat} {r : Int32} {S : mS} (C : mCx p s m args meth c cX7_wordHere 3 RX7 (some .int) E n0) : ∀  (v0 : Int32) (H : Heap) (locs : List Loc) (ls : Array Slot), f_X7_wordHere_155 S v0 = some r → mIv s E S H locs 0 → lv_has ls 3 [(0, .ref (mA E.b v0))] → W p l e rm_X7_wordHere s m args below meth c H locs 0 0 (mQi below args s 0 0 n0 E (r, S)) (F0 m 155 ls []) := by
  have hx := C.1
  have hb := C.2.1
  intro v0 H locs ls hF hI hl
  refine lv_aload_n hx hb dX7_wordHere_155 rfl (lv_at hl 0 rfl) ?_
  refine lv_iconst (v := 0) hx hb dX7_wordHere_156 (by decide) ?_
  refine m_callViR C cd_X7_134 ⟨rfl, by decide⟩ hl.1 hI hF (fun _ h => ok_X7_letter h) rfl rfl ⟨rfl, rfl, Nat.le_of_ble_eq_true rfl, Nat.le_of_ble_eq_true rfl⟩ ⟨Nat.le_of_ble_eq_true rfl, Nat.le_of_ble_eq_true rfl⟩ (Nat.le_of_ble_eq_true rfl) dX7_wordHere_157 (fun r10 H locs hF hI => ?_)
  refine lv_bipush (v := 115) hx hb dX7_wordHere_160 (by decide) ?_
  refine m_icmp_ne C (tgt := 209) hF dX7_wordHere_162 (by decide) (fun hF => ?_) (fun hF => ?_)
  · exact (bl_X7_wordHere_209 C)  _ _ _ hF hI (lv_sub hl [] rfl)
  · refine lv_aload_n hx hb dX7_wordHere_165 rfl (lv_at hl 0 rfl) ?_
    refine lv_iconst (v := 1) hx hb dX7_wordHere_166 (by decide) ?_
    refine m_callViR C cd_X7_134 ⟨rfl, by decide⟩ hl.1 hI hF (fun _ h => ok_X7_letter h) rfl rfl ⟨rfl, rfl, Nat.le_of_ble_eq_true rfl, Nat.le_of_ble_eq_true rfl⟩ ⟨Nat.le_of_ble_eq_true rfl, Nat.le_of_ble_eq_true rfl⟩ (Nat.le_of_ble_eq_true rfl) dX7_wordHere_167 (fun r11 H locs hF hI => ?_)
    refine lv_bipush (v := 116) hx hb dX7_wordHere_170 (by decide) ?_
    refine m_icmp_ne C (tgt := 209) hF dX7_wordHere_172 (by decide) (fun hF => ?_) (fun hF => ?_)
    · exact (bl_X7_wordHere_209 C)  _ _ _ hF hI (lv_sub hl [] rfl)
    · refine lv_aload_n hx hb dX7_wordHere_175 rfl (lv_at hl 0 rfl) ?_
      refine lv_iconst (v := 2) hx hb dX7_wordHere_176 (by decide) ?_
      refine m_callViR C cd_X7_134 ⟨rfl, by decide⟩ hl.1 hI hF (fun _ h => ok_X7_letter h) rfl rfl ⟨rfl, rfl, Nat.le_of_ble_eq_true rfl, Nat.le_of_ble_eq_true rfl⟩ ⟨Nat.le_of_ble_eq_true rfl, Nat.le_of_ble_eq_true rfl⟩ (Nat.le_of_ble_eq_true rfl) dX7_wordHere_177 (fun r12 H locs hF hI => ?_)
      refine lv_bipush (v := 101) hx hb dX7_wordHere_180 (by decide) ?_
      refine m_icmp_ne C (tgt := 209) hF dX7_wordHere_182 (by decide) (fun hF => ?_) (fun hF => ?_)
      · exact (bl_X7_wordHere_209 C)  _ _ _ hF hI (lv_sub hl [] rfl)
      · refine lv_aload_n hx hb dX7_wordHere_185 rfl (lv_at hl 0 rfl) ?_
        refine lv_iconst (v := 3) hx hb dX7_wordHere_186 (by decide) ?_
        refine m_callViR C cd_X7_134 ⟨rfl, by decide⟩ hl.1 hI hF (fun _ h => ok_X7_letter h) rfl rfl ⟨rfl, rfl, Nat.le_of_ble_eq_true rfl, Nat.le_of_ble_eq_true rfl⟩ ⟨Nat.le_of_ble_eq_true rfl, Nat.le_of_ble_eq_true rfl⟩ (Nat.le_of_ble_eq_true rfl) dX7_wordHere_187 (fun r13 H locs hF hI => ?_)
        refine lv_bipush (v := 112) hx hb dX7_wordHere_190 (by decide) ?_
        refine m_icmp_ne C (tgt := 209) hF dX7_wordHere_192 (by decide) (fun hF => ?_) (fun hF => ?_)
        · exact (bl_X7_wordHere_209 C)  _ _ _ hF hI (lv_sub hl [] rfl)
        · refine lv_aload_n hx hb dX7_wordHere_195 rfl (lv_at hl 0 rfl) ?_
          refine lv_iconst (v := 4) hx hb dX7_wordHere_196 (by decide) ?_
          refine m_callViR C cd_X7_134 ⟨rfl, by decide⟩ hl.1 hI hF (fun _ h => ok_X7_letter h) rfl rfl ⟨rfl, rfl, Nat.le_of_ble_eq_true rfl, Nat.le_of_ble_eq_true rfl⟩ ⟨Nat.le_of_ble_eq_true rfl, Nat.le_of_ble_eq_true rfl⟩ (Nat.le_of_ble_eq_true rfl) dX7_wordHere_197 (fun r14 H locs hF hI => ?_)
          refine lv_bipush (v := 115) hx hb dX7_wordHere_200 (by decide) ?_
          refine m_icmp_ne C (tgt := 209) hF dX7_wordHere_202 (by decide) (fun hF => ?_) (fun hF => ?_)
          · exact (bl_X7_wordHere_209 C)  _ _ _ hF hI (lv_sub hl [] rfl)
          · refine lv_iconst (v := 4) hx hb dX7_wordHere_205 (by decide) ?_
            refine lv_goto (tgt := 210) hx hb dX7_wordHere_206 (by decide) ?_
            exact (bl_X7_wordHere_210 C) 4 _ _ _ hF hI (lv_sub hl [] rfl)
set_option maxRecDepth 100000 in
set_option maxHeartbeats 4000000 in
theorem bl_X7_wordHere_97 {p : Program} {l : Launch} {e : Env} {s : State} {m : MethodId} {args : Array Value} {below : List Frame} {meth : Method} {c : Code} {E : mE} {n0 : Nat} {r : Int32} {S : mS} (C : mCx p s m args meth c cX7_wordHere 3 RX7 (some .int) E n0) : ∀  (t0 : Int32) (H : Heap) (locs : List Loc) (ls : Array Slot), f_X7_wordHere_97 S t0 = some r → mIv s E S H locs 0 → lv_has ls 3 [] → W p l e rm_X7_wordHere s m args below meth c H locs 0 0 (mQi below args s 0 0 n0 E (r, S)) (F0 m 97 ls [.int t0]) := by
  have hx := C.1
  have hb := C.2.1
  intro t0 H locs ls hF hI hl
  exact m_iretiR C hI hF dX7_wordHere_97
set_option maxRecDepth 100000 in
set_option maxHeartbeats 4000000 in
theorem bl_X7_wordHere_96 {p : Program} {l : Launch} {e : Env} {s : State} {m : MethodId} {args : Array Value} {below : List Frame} {meth : Method} {c : Code} {E : mE} {n0 : Nat} {r : Int32} {S : mS} (C : mCx p s m args meth c cX7_wordHere 3 RX7 (some .int) E n0) : ∀  (H : Heap) (locs : List Loc) (ls : Array Slot), f_X7_wordHere_96 S = some r → mIv s E S H locs 0 → lv_has ls 3 [] → W p l e rm_X7_wordHere s m args below meth c H locs 0 0 (mQi below args s 0 0 n0 E (r, S)) (F0 m 96 ls []) := by
  have hx := C.1
  have hb := C.2.1
  intro H locs ls hF hI hl
  refine lv_iconst (v := (-1)) hx hb dX7_wordHere_96 (by decide) ?_
  exact (bl_X7_wordHere_97 C) (-1) _ _ _ hF hI (lv_sub hl [] rfl)
set_option maxRecDepth 100000 in
set_option maxHeartbeats 4000000 in
theorem bl_X7_wordHere_52 {p : Program} {l : Launch} {e : Env} {s : State} {m : MethodId} {args : Array Value} {below : List Frame} {meth : Method} {c : Code} {E : mE} {n0 : Nat} {r : Int32} {S : mS} (C : mCx p s m args meth c cX7_wordHere 3 RX7 (some .int) E n0) : ∀  (v0 : Int32) (H : Heap) (locs : List Loc) (ls : Array Slot), f_X7_wordHere_52 S v0 = some r → mIv s E S H locs 0 → lv_has ls 3 [(0, .ref (mA E.b v0))] → W p l e rm_X7_wordHere s m args below meth c H locs 0 0 (mQi below args s 0 0 n0 E (r, S)) (F0 m 52 ls []) := by
  have hx := C.1
  have hb := C.2.1
  intro v0 H locs ls hF hI hl
  refine lv_aload_n hx hb dX7_wordHere_52 rfl (lv_at hl 0 rfl) ?_
  refine lv_iconst (v := 0) hx hb dX7_wordHere_53 (by decide) ?_
  refine m_callViR C cd_X7_134 ⟨rfl, by decide⟩ hl.1 hI hF (fun _ h => ok_X7_letter h) rfl rfl ⟨rfl, rfl, Nat.le_of_ble_eq_true rfl, Nat.le_of_ble_eq_true rfl⟩ ⟨Nat.le_of_ble_eq_true rfl, Nat.le_of_ble_eq_true rfl⟩ (Nat.le_of_ble_eq_true rfl) dX7_wordHere_54 (fun r20 H locs hF hI => ?_)
  refine lv_bipush (v := 99) hx hb dX7_wordHere_57 (by decide) ?_
  refine m_icmp_ne C (tgt := 96) hF dX7_wordHere_59 (by decide) (fun hF => ?_) (fun hF => ?_)
  · exact (bl_X7_wordHere_96 C)  _ _ _ hF hI (lv_sub hl [] rfl)
  · refine lv_aload_n hx hb dX7_wordHere_62 rfl (lv_at hl 0 rfl) ?_
    refine lv_iconst (v := 1) hx hb dX7_wordHere_63 (by decide) ?_
    refine m_callViR C cd_X7_134 ⟨rfl, by decide⟩ hl.1 hI hF (fun _ h => ok_X7_letter h) rfl rfl ⟨rfl, rfl, Nat.le_of_ble_eq_true rfl, Nat.le_of_ble_eq_true rfl⟩ ⟨Nat.le_of_ble_eq_true rfl, Nat.le_of_ble_eq_true rfl⟩ (Nat.le_of_ble_eq_true rfl) dX7_wordHere_64 (fun r21 H locs hF hI => ?_)
    refine lv_bipush (v := 97) hx hb dX7_wordHere_67 (by decide) ?_
    refine m_icmp_ne C (tgt := 96) hF dX7_wordHere_69 (by decide) (fun hF => ?_) (fun hF => ?_)
    · exact (bl_X7_wordHere_96 C)  _ _ _ hF hI (lv_sub hl [] rfl)
    · refine lv_aload_n hx hb dX7_wordHere_72 rfl (lv_at hl 0 rfl) ?_
      refine lv_iconst (v := 2) hx hb dX7_wordHere_73 (by decide) ?_
      refine m_callViR C cd_X7_134 ⟨rfl, by decide⟩ hl.1 hI hF (fun _ h => ok_X7_letter h) rfl rfl ⟨rfl, rfl, Nat.le_of_ble_eq_true rfl, Nat.le_of_ble_eq_true rfl⟩ ⟨Nat.le_of_ble_eq_true rfl, Nat.le_of_ble_eq_true rfl⟩ (Nat.le_of_ble_eq_true rfl) dX7_wordHere_74 (fun r22 H locs hF hI => ?_)
      refine lv_bipush (v := 108) hx hb dX7_wordHere_77 (by decide) ?_
      refine m_icmp_ne C (tgt := 96) hF dX7_wordHere_79 (by decide) (fun hF => ?_) (fun hF => ?_)
      · exact (bl_X7_wordHere_96 C)  _ _ _ hF hI (lv_sub hl [] rfl)
      · refine lv_aload_n hx hb dX7_wordHere_82 rfl (lv_at hl 0 rfl) ?_
        refine lv_iconst (v := 3) hx hb dX7_wordHere_83 (by decide) ?_
        refine m_callViR C cd_X7_134 ⟨rfl, by decide⟩ hl.1 hI hF (fun _ h => ok_X7_letter h) rfl rfl ⟨rfl, rfl, Nat.le_of_ble_eq_true rfl, Nat.le_of_ble_eq_true rfl⟩ ⟨Nat.le_of_ble_eq_true rfl, Nat.le_of_ble_eq_true rfl⟩ (Nat.le_of_ble_eq_true rfl) dX7_wordHere_84 (fun r23 H locs hF hI => ?_)
        refine lv_bipush (v := 108) hx hb dX7_wordHere_87 (by decide) ?_
        refine m_icmp_ne C (tgt := 96) hF dX7_wordHere_89 (by decide) (fun hF => ?_) (fun hF => ?_)
        · exact (bl_X7_wordHere_96 C)  _ _ _ hF hI (lv_sub hl [] rfl)
        · refine lv_iconst (v := 3) hx hb dX7_wordHere_92 (by decide) ?_
          refine lv_goto (tgt := 97) hx hb dX7_wordHere_93 (by decide) ?_
          exact (bl_X7_wordHere_97 C) 3 _ _ _ hF hI (lv_sub hl [] rfl)
set_option maxRecDepth 100000 in
set_option maxHeartbeats 4000000 in
theorem ok_X7_wordHere {l : Launch} {E : mE} {v0 : Int32} {S : mS} {r : Int32} (hF : f_X7_wordHere v0 S = some r) : mMi l yX7_wordHere cX7_wordHere 3 (some .int) rm_X7_wordHere 0 0 [.ref (mA E.b v0)] E S (r, S) := by
  refine m_met_i (by decide) (Nat.le_of_ble_eq_true rfl) (fun p e s m args below meth c ls hin C hI hl => ?_)
  have hx := C.1
  have hb := C.2.1
  have hl : lv_has ls 3 [(0, .ref (mA E.b v0))] := hl
  generalize s.heap = H at hI ⊢
  generalize ([] : List Loc) = locs at hI ⊢
  refine lv_aload_n hx hb dX7_wordHere_0 rfl (lv_at hl 0 rfl) ?_
  refine m_callViR C cd_X7_131 ⟨rfl, by decide⟩ hl.1 hI hF (fun _ h => ok_X7_wordSize h) rfl rfl ⟨rfl, rfl, Nat.le_of_ble_eq_true rfl, Nat.le_of_ble_eq_true rfl⟩ ⟨Nat.le_of_ble_eq_true rfl, Nat.le_of_ble_eq_true rfl⟩ (Nat.le_of_ble_eq_true rfl) dX7_wordHere_1 (fun r1 H locs hF hI => ?_)
  refine lv_istore_n (lv' := [(1, .int r1), (0, .ref (mA E.b v0))]) hx hb dX7_wordHere_4 rfl hl (by decide) rfl (fun ls hl => ?_)
  refine lv_iload_n hx hb dX7_wordHere_5 rfl (lv_at hl 0 rfl) ?_
  refine lv_iconst (v := 4) hx hb dX7_wordHere_6 (by decide) ?_
  refine m_icmp_ne C (tgt := 98) hF dX7_wordHere_7 (by decide) (fun hF => ?_) (fun hF => ?_)
  · refine lv_iload_n hx hb dX7_wordHere_98 rfl (lv_at hl 0 rfl) ?_
    refine lv_iconst (v := 5) hx hb dX7_wordHere_99 (by decide) ?_
    refine m_icmp_ne C (tgt := 211) hF dX7_wordHere_100 (by decide) (fun hF => ?_) (fun hF => ?_)
    · refine lv_iload_n hx hb dX7_wordHere_211 rfl (lv_at hl 0 rfl) ?_
      refine lv_bipush (v := 7) hx hb dX7_wordHere_212 (by decide) ?_
      refine m_icmp_eq C (tgt := 219) hF dX7_wordHere_214 (by decide) (fun hF => ?_) (fun hF => ?_)
      · refine lv_aload_n hx hb dX7_wordHere_219 rfl (lv_at hl 1 rfl) ?_
        refine lv_iconst (v := 0) hx hb dX7_wordHere_220 (by decide) ?_
        refine m_callViR C cd_X7_134 ⟨rfl, by decide⟩ hl.1 hI hF (fun _ h => ok_X7_letter h) rfl rfl ⟨rfl, rfl, Nat.le_of_ble_eq_true rfl, Nat.le_of_ble_eq_true rfl⟩ ⟨Nat.le_of_ble_eq_true rfl, Nat.le_of_ble_eq_true rfl⟩ (Nat.le_of_ble_eq_true rfl) dX7_wordHere_221 (fun r2 H locs hF hI => ?_)
        refine lv_bipush (v := 119) hx hb dX7_wordHere_224 (by decide) ?_
        refine m_icmp_ne C (tgt := 263) hF dX7_wordHere_226 (by decide) (fun hF => ?_) (fun hF => ?_)
        · exact (bl_X7_wordHere_263 C) v0 _ _ _ hF hI (lv_sub hl [1] rfl)
        · refine lv_aload_n hx hb dX7_wordHere_229 rfl (lv_at hl 1 rfl) ?_
          refine lv_iconst (v := 1) hx hb dX7_wordHere_230 (by decide) ?_
          refine m_callViR C cd_X7_134 ⟨rfl, by decide⟩ hl.1 hI hF (fun _ h => ok_X7_letter h) rfl rfl ⟨rfl, rfl, Nat.le_of_ble_eq_true rfl, Nat.le_of_ble_eq_true rfl⟩ ⟨Nat.le_of_ble_eq_true rfl, Nat.le_of_ble_eq_true rfl⟩ (Nat.le_of_ble_eq_true rfl) dX7_wordHere_231 (fun r6 H locs hF hI => ?_)
          refine lv_bipush (v := 104) hx hb dX7_wordHere_234 (by decide) ?_
          refine m_icmp_ne C (tgt := 263) hF dX7_wordHere_236 (by decide) (fun hF => ?_) (fun hF => ?_)
          · exact (bl_X7_wordHere_263 C) v0 _ _ _ hF hI (lv_sub hl [1] rfl)
          · refine lv_aload_n hx hb dX7_wordHere_239 rfl (lv_at hl 1 rfl) ?_
            refine lv_iconst (v := 2) hx hb dX7_wordHere_240 (by decide) ?_
            refine m_callViR C cd_X7_134 ⟨rfl, by decide⟩ hl.1 hI hF (fun _ h => ok_X7_letter h) rfl rfl ⟨rfl, rfl, Nat.le_of_ble_eq_true rfl, Nat.le_of_ble_eq_true rfl⟩ ⟨Nat.le_of_ble_eq_true rfl, Nat.le_of_ble_eq_true rfl⟩ (Nat.le_of_ble_eq_true rfl) dX7_wordHere_241 (fun r7 H locs hF hI => ?_)
            refine lv_bipush (v := 105) hx hb dX7_wordHere_244 (by decide) ?_
            refine m_icmp_ne C (tgt := 263) hF dX7_wordHere_246 (by decide) (fun hF => ?_) (fun hF => ?_)
            · exact (bl_X7_wordHere_263 C) v0 _ _ _ hF hI (lv_sub hl [1] rfl)
            · refine lv_aload_n hx hb dX7_wordHere_249 rfl (lv_at hl 1 rfl) ?_
              refine lv_iconst (v := 3) hx hb dX7_wordHere_250 (by decide) ?_
              refine m_callViR C cd_X7_134 ⟨rfl, by decide⟩ hl.1 hI hF (fun _ h => ok_X7_letter h) rfl rfl ⟨rfl, rfl, Nat.le_of_ble_eq_true rfl, Nat.le_of_ble_eq_true rfl⟩ ⟨Nat.le_of_ble_eq_true rfl, Nat.le_of_ble_eq_true rfl⟩ (Nat.le_of_ble_eq_true rfl) dX7_wordHere_251 (fun r8 H locs hF hI => ?_)
              refine lv_bipush (v := 115) hx hb dX7_wordHere_254 (by decide) ?_
              refine m_icmp_ne C (tgt := 263) hF dX7_wordHere_256 (by decide) (fun hF => ?_) (fun hF => ?_)
              · exact (bl_X7_wordHere_263 C) v0 _ _ _ hF hI (lv_sub hl [1] rfl)
              · refine lv_iconst (v := 1) hx hb dX7_wordHere_259 (by decide) ?_
                refine lv_goto (tgt := 264) hx hb dX7_wordHere_260 (by decide) ?_
                exact (bl_X7_wordHere_264 C) v0 1 _ _ _ hF hI (lv_sub hl [1] rfl)
      · refine lv_iconst (v := (-1)) hx hb dX7_wordHere_217 (by decide) ?_
        exact m_iretiR C hI hF dX7_wordHere_218
    · refine lv_aload_n hx hb dX7_wordHere_103 rfl (lv_at hl 1 rfl) ?_
      refine lv_iconst (v := 0) hx hb dX7_wordHere_104 (by decide) ?_
      refine m_callViR C cd_X7_134 ⟨rfl, by decide⟩ hl.1 hI hF (fun _ h => ok_X7_letter h) rfl rfl ⟨rfl, rfl, Nat.le_of_ble_eq_true rfl, Nat.le_of_ble_eq_true rfl⟩ ⟨Nat.le_of_ble_eq_true rfl, Nat.le_of_ble_eq_true rfl⟩ (Nat.le_of_ble_eq_true rfl) dX7_wordHere_105 (fun r9 H locs hF hI => ?_)
      refine lv_bipush (v := 115) hx hb dX7_wordHere_108 (by decide) ?_
      refine m_icmp_ne C (tgt := 155) hF dX7_wordHere_110 (by decide) (fun hF => ?_) (fun hF => ?_)
      · exact (bl_X7_wordHere_155 C) v0 _ _ _ hF hI (lv_sub hl [1] rfl)
      · refine lv_aload_n hx hb dX7_wordHere_113 rfl (lv_at hl 1 rfl) ?_
        refine lv_iconst (v := 1) hx hb dX7_wordHere_114 (by decide) ?_
        refine m_callViR C cd_X7_134 ⟨rfl, by decide⟩ hl.1 hI hF (fun _ h => ok_X7_letter h) rfl rfl ⟨rfl, rfl, Nat.le_of_ble_eq_true rfl, Nat.le_of_ble_eq_true rfl⟩ ⟨Nat.le_of_ble_eq_true rfl, Nat.le_of_ble_eq_true rfl⟩ (Nat.le_of_ble_eq_true rfl) dX7_wordHere_115 (fun r15 H locs hF hI => ?_)
        refine lv_bipush (v := 104) hx hb dX7_wordHere_118 (by decide) ?_
        refine m_icmp_ne C (tgt := 155) hF dX7_wordHere_120 (by decide) (fun hF => ?_) (fun hF => ?_)
        · exact (bl_X7_wordHere_155 C) v0 _ _ _ hF hI (lv_sub hl [1] rfl)
        · refine lv_aload_n hx hb dX7_wordHere_123 rfl (lv_at hl 1 rfl) ?_
          refine lv_iconst (v := 2) hx hb dX7_wordHere_124 (by decide) ?_
          refine m_callViR C cd_X7_134 ⟨rfl, by decide⟩ hl.1 hI hF (fun _ h => ok_X7_letter h) rfl rfl ⟨rfl, rfl, Nat.le_of_ble_eq_true rfl, Nat.le_of_ble_eq_true rfl⟩ ⟨Nat.le_of_ble_eq_true rfl, Nat.le_of_ble_eq_true rfl⟩ (Nat.le_of_ble_eq_true rfl) dX7_wordHere_125 (fun r16 H locs hF hI => ?_)
          refine lv_bipush (v := 101) hx hb dX7_wordHere_128 (by decide) ?_
          refine m_icmp_ne C (tgt := 155) hF dX7_wordHere_130 (by decide) (fun hF => ?_) (fun hF => ?_)
          · exact (bl_X7_wordHere_155 C) v0 _ _ _ hF hI (lv_sub hl [1] rfl)
          · refine lv_aload_n hx hb dX7_wordHere_133 rfl (lv_at hl 1 rfl) ?_
            refine lv_iconst (v := 3) hx hb dX7_wordHere_134 (by decide) ?_
            refine m_callViR C cd_X7_134 ⟨rfl, by decide⟩ hl.1 hI hF (fun _ h => ok_X7_letter h) rfl rfl ⟨rfl, rfl, Nat.le_of_ble_eq_true rfl, Nat.le_of_ble_eq_true rfl⟩ ⟨Nat.le_of_ble_eq_true rfl, Nat.le_of_ble_eq_true rfl⟩ (Nat.le_of_ble_eq_true rfl) dX7_wordHere_135 (fun r17 H locs hF hI => ?_)
            refine lv_bipush (v := 101) hx hb dX7_wordHere_138 (by decide) ?_
            refine m_icmp_ne C (tgt := 155) hF dX7_wordHere_140 (by decide) (fun hF => ?_) (fun hF => ?_)
            · exact (bl_X7_wordHere_155 C) v0 _ _ _ hF hI (lv_sub hl [1] rfl)
            · refine lv_aload_n hx hb dX7_wordHere_143 rfl (lv_at hl 1 rfl) ?_
              refine lv_iconst (v := 4) hx hb dX7_wordHere_144 (by decide) ?_
              refine m_callViR C cd_X7_134 ⟨rfl, by decide⟩ hl.1 hI hF (fun _ h => ok_X7_letter h) rfl rfl ⟨rfl, rfl, Nat.le_of_ble_eq_true rfl, Nat.le_of_ble_eq_true rfl⟩ ⟨Nat.le_of_ble_eq_true rfl, Nat.le_of_ble_eq_true rfl⟩ (Nat.le_of_ble_eq_true rfl) dX7_wordHere_145 (fun r18 H locs hF hI => ?_)
              refine lv_bipush (v := 112) hx hb dX7_wordHere_148 (by decide) ?_
              refine m_icmp_ne C (tgt := 155) hF dX7_wordHere_150 (by decide) (fun hF => ?_) (fun hF => ?_)
              · exact (bl_X7_wordHere_155 C) v0 _ _ _ hF hI (lv_sub hl [1] rfl)
              · refine lv_iconst (v := 2) hx hb dX7_wordHere_153 (by decide) ?_
                exact m_iretiR C hI hF dX7_wordHere_154
  · refine lv_aload_n hx hb dX7_wordHere_10 rfl (lv_at hl 1 rfl) ?_
    refine lv_iconst (v := 0) hx hb dX7_wordHere_11 (by decide) ?_
    refine m_callViR C cd_X7_134 ⟨rfl, by decide⟩ hl.1 hI hF (fun _ h => ok_X7_letter h) rfl rfl ⟨rfl, rfl, Nat.le_of_ble_eq_true rfl, Nat.le_of_ble_eq_true rfl⟩ ⟨Nat.le_of_ble_eq_true rfl, Nat.le_of_ble_eq_true rfl⟩ (Nat.le_of_ble_eq_true rfl) dX7_wordHere_12 (fun r19 H locs hF hI => ?_)
    refine lv_bipush (v := 102) hx hb dX7_wordHere_15 (by decide) ?_
    refine m_icmp_ne C (tgt := 52) hF dX7_wordHere_17 (by decide) (fun hF => ?_) (fun hF => ?_)
    · exact (bl_X7_wordHere_52 C) v0 _ _ _ hF hI (lv_sub hl [1] rfl)
    · refine lv_aload_n hx hb dX7_wordHere_20 rfl (lv_at hl 1 rfl) ?_
      refine lv_iconst (v := 1) hx hb dX7_wordHere_21 (by decide) ?_
      refine m_callViR C cd_X7_134 ⟨rfl, by decide⟩ hl.1 hI hF (fun _ h => ok_X7_letter h) rfl rfl ⟨rfl, rfl, Nat.le_of_ble_eq_true rfl, Nat.le_of_ble_eq_true rfl⟩ ⟨Nat.le_of_ble_eq_true rfl, Nat.le_of_ble_eq_true rfl⟩ (Nat.le_of_ble_eq_true rfl) dX7_wordHere_22 (fun r24 H locs hF hI => ?_)
      refine lv_bipush (v := 101) hx hb dX7_wordHere_25 (by decide) ?_
      refine m_icmp_ne C (tgt := 52) hF dX7_wordHere_27 (by decide) (fun hF => ?_) (fun hF => ?_)
      · exact (bl_X7_wordHere_52 C) v0 _ _ _ hF hI (lv_sub hl [1] rfl)
      · refine lv_aload_n hx hb dX7_wordHere_30 rfl (lv_at hl 1 rfl) ?_
        refine lv_iconst (v := 2) hx hb dX7_wordHere_31 (by decide) ?_
        refine m_callViR C cd_X7_134 ⟨rfl, by decide⟩ hl.1 hI hF (fun _ h => ok_X7_letter h) rfl rfl ⟨rfl, rfl, Nat.le_of_ble_eq_true rfl, Nat.le_of_ble_eq_true rfl⟩ ⟨Nat.le_of_ble_eq_true rfl, Nat.le_of_ble_eq_true rfl⟩ (Nat.le_of_ble_eq_true rfl) dX7_wordHere_32 (fun r25 H locs hF hI => ?_)
        refine lv_bipush (v := 108) hx hb dX7_wordHere_35 (by decide) ?_
        refine m_icmp_ne C (tgt := 52) hF dX7_wordHere_37 (by decide) (fun hF => ?_) (fun hF => ?_)
        · exact (bl_X7_wordHere_52 C) v0 _ _ _ hF hI (lv_sub hl [1] rfl)
        · refine lv_aload_n hx hb dX7_wordHere_40 rfl (lv_at hl 1 rfl) ?_
          refine lv_iconst (v := 3) hx hb dX7_wordHere_41 (by decide) ?_
          refine m_callViR C cd_X7_134 ⟨rfl, by decide⟩ hl.1 hI hF (fun _ h => ok_X7_letter h) rfl rfl ⟨rfl, rfl, Nat.le_of_ble_eq_true rfl, Nat.le_of_ble_eq_true rfl⟩ ⟨Nat.le_of_ble_eq_true rfl, Nat.le_of_ble_eq_true rfl⟩ (Nat.le_of_ble_eq_true rfl) dX7_wordHere_42 (fun r26 H locs hF hI => ?_)
          refine lv_bipush (v := 108) hx hb dX7_wordHere_45 (by decide) ?_
          refine m_icmp_ne C (tgt := 52) hF dX7_wordHere_47 (by decide) (fun hF => ?_) (fun hF => ?_)
          · exact (bl_X7_wordHere_52 C) v0 _ _ _ hF hI (lv_sub hl [1] rfl)
          · refine lv_iconst (v := 0) hx hb dX7_wordHere_50 (by decide) ?_
            exact m_iretiR C hI hF dX7_wordHere_51
noncomputable def f_X7_number_69 (k9 : Int32 → Int32 → Int32 → Int32 → Int32 → mS → Option (Int32 × mS)) (v0 : Int32) (v1 : Int32) (v2 : Int32) (v3 : Int32) (t0 : Int32) (S : mS) : Option (Int32 × mS) := k9 v0 v1 v2 (v3 + 1) t0 S
noncomputable def f_X7_number_9 (k77 : Int32 → Int32 → Int32 → Int32 → Int32 → mS → Option (Int32 × mS)) : Nat → Int32 → Int32 → Int32 → Int32 → Int32 → mS → Option (Int32 × mS) := fun n => Nat.rec (motive := fun _ => Int32 → Int32 → Int32 → Int32 → Int32 → mS → Option (Int32 × mS)) (fun _ _ _ _ _ _ => none) (fun _ rec v0 v1 v2 v3 v4 S => mG 7 17 v0 S (fun r3 => mG 7 16 v0 S (fun r4 => if r4 ≤ (r3 + v3) then (k77 v0 v1 v2 v3 v4 S) else (mGr 7 15 v0 S (fun r5 => mG 7 17 v0 S (fun r6 => mX 8 r5 (r6 + v3) S (fun r7 => mCp (f_X7_isFigure r7) (fun r8 => if r8 = 0 then (k77 v0 v1 v2 v3 v4 S) else (if 2 ≤ v3 then ((f_X7_number_69 rec) v0 v1 v2 v3 v4 S) else (mGr 7 15 v0 S (fun r9 => mG 7 17 v0 S (fun r10 => mX 8 r9 (r10 + v3) S (fun r11 => (f_X7_number_69 rec) v0 v1 v2 v3 (((10 * v4) + r11) - 48) S))))))))))))) n
theorem f_X7_number_9_s (k77 : Int32 → Int32 → Int32 → Int32 → Int32 → mS → Option (Int32 × mS)) (n : Nat) (v0 : Int32) (v1 : Int32) (v2 : Int32) (v3 : Int32) (v4 : Int32) (S : mS) : f_X7_number_9 k77 (n + 1) v0 v1 v2 v3 v4 S = mG 7 17 v0 S (fun r3 => mG 7 16 v0 S (fun r4 => if r4 ≤ (r3 + v3) then (k77 v0 v1 v2 v3 v4 S) else (mGr 7 15 v0 S (fun r5 => mG 7 17 v0 S (fun r6 => mX 8 r5 (r6 + v3) S (fun r7 => mCp (f_X7_isFigure r7) (fun r8 => if r8 = 0 then (k77 v0 v1 v2 v3 v4 S) else (if 2 ≤ v3 then ((f_X7_number_69 (f_X7_number_9 k77 n)) v0 v1 v2 v3 v4 S) else (mGr 7 15 v0 S (fun r9 => mG 7 17 v0 S (fun r10 => mX 8 r9 (r10 + v3) S (fun r11 => (f_X7_number_69 (f_X7_number_9 k77 n)) v0 v1 v2 v3 (((10 * v4) + r11) - 48) S)))))))))))) := rfl
noncomputable def f_X7_number_96 (S : mS) : Option (Int32 × mS) := mZ 0 (some (0, S))
noncomputable def f_X7_number_77 (v0 : Int32) (v1 : Int32) (v2 : Int32) (v3 : Int32) (v4 : Int32) (S : mS) : Option (Int32 × mS) := mCp (f_X7_in v3 1 2) (fun r12 => if r12 = 0 then ((f_X7_number_96) S) else (mCp (f_X7_in v4 v1 v2) (fun r13 => if r13 = 0 then ((f_X7_number_96) S) else (mP 7 18 v0 v4 S (fun S14 => mG 7 17 v0 S14 (fun r15 => mP 7 17 v0 (r15 + v3) S14 (fun S16 => mZ 1 (some (1, S16)))))))))
noncomputable def f_X7_number (v0 : Int32) (v1 : Int32) (v2 : Int32) (S : mS) : Option (Int32 × mS) := mRc 7 v0 S (mCv (f_X7_skip v0 S) (fun S2 => (f_X7_number_9 (f_X7_number_77) 1000) v0 v1 v2 0 0 S2))
def rm_X7_number : Room := { frames := 2, cells := 0, slots := 0, locals := 42 }
set_option maxRecDepth 100000 in
set_option maxHeartbeats 4000000 in
theorem bl_X7_number_69 {p : Program} {l : Launch} {e : Env} {s : State} {m : MethodId} {args : Array Value} {below : List Frame} {meth : Method} {c : Code} {E : mE} {n0 : Nat} {F : Int32 × mS} (C : mCx p s m args meth c cX7_number 5 RX7 (some .boolean) E n0) {k9 : Int32 → Int32 → Int32 → Int32 → Int32 → mS → Option (Int32 × mS)} (hk9 : ∀ (v0 : Int32) (v1 : Int32) (v2 : Int32) (v3 : Int32) (v4 : Int32) (S : mS) (H : Heap) (locs : List Loc) (ls : Array Slot), k9 v0 v1 v2 v3 v4 S = some F → mIv s E S H locs 0 → lv_has ls 5 [(0, .ref (mA E.b v0)), (1, .int v1), (2, .int v2), (3, .int v3), (4, .int v4)] → W p l e rm_X7_number s m args below meth c H locs 0 0 (mQi below args s 0 0 n0 E F) (F0 m 9 ls [])) : ∀  (v0 : Int32) (v1 : Int32) (v2 : Int32) (v3 : Int32) (t0 : Int32) (S : mS) (H : Heap) (locs : List Loc) (ls : Array Slot), f_X7_number_69 k9 v0 v1 v2 v3 t0 S = some F → mIv s E S H locs 0 → lv_has ls 5 [(0, .ref (mA E.b v0)), (1, .int v1), (2, .int v2), (3, .int v3)] → W p l e rm_X7_number s m args below meth c H locs 0 0 (mQi below args s 0 0 n0 E F) (F0 m 69 ls [.int t0]) := by
  have hx := C.1
  have hb := C.2.1
  intro v0 v1 v2 v3 t0 S H locs ls hF hI hl
  refine lv_istore (lv' := [(4, .int t0), (0, .ref (mA E.b v0)), (1, .int v1), (2, .int v2), (3, .int v3)]) hx hb dX7_number_69 hl (by decide) rfl (fun ls hl => ?_)
  refine lv_iinc (v := v3 + 1) (lv' := [(3, .int (v3 + 1)), (4, .int t0), (0, .ref (mA E.b v0)), (1, .int v1), (2, .int v2)]) hx hb dX7_number_71 hl (k := 4) rfl rfl (by decide) rfl (fun ls hl => ?_)
  refine lv_goto (tgt := 9) hx hb dX7_number_74 (by decide) ?_
  exact hk9 v0 v1 v2 (v3 + 1) t0 S _ _ _ hF hI (lv_sub hl [2, 3, 4, 0, 1] rfl)
set_option maxRecDepth 100000 in
set_option maxHeartbeats 4000000 in
theorem bl_X7_number_9 {p : Program} {l : Launch} {e : Env} {s : State} {m : MethodId} {args : Array Value} {below : List Frame} {meth : Method} {c : Code} {E : mE} {n0 : Nat} {F : Int32 × mS} (C : mCx p s m args meth c cX7_number 5 RX7 (some .boolean) E n0) {k77 : Int32 → Int32 → Int32 → Int32 → Int32 → mS → Option (Int32 × mS)} (hk77 : ∀ (v0 : Int32) (v1 : Int32) (v2 : Int32) (v3 : Int32) (v4 : Int32) (S : mS) (H : Heap) (locs : List Loc) (ls : Array Slot), k77 v0 v1 v2 v3 v4 S = some F → mIv s E S H locs 0 → lv_has ls 5 [(0, .ref (mA E.b v0)), (1, .int v1), (2, .int v2), (3, .int v3), (4, .int v4)] → W p l e rm_X7_number s m args below meth c H locs 0 0 (mQi below args s 0 0 n0 E F) (F0 m 77 ls [])) : ∀ (n : Nat)  (v0 : Int32) (v1 : Int32) (v2 : Int32) (v3 : Int32) (v4 : Int32) (S : mS) (H : Heap) (locs : List Loc) (ls : Array Slot), f_X7_number_9 k77 n v0 v1 v2 v3 v4 S = some F → mIv s E S H locs 0 → lv_has ls 5 [(0, .ref (mA E.b v0)), (1, .int v1), (2, .int v2), (3, .int v3), (4, .int v4)] → W p l e rm_X7_number s m args below meth c H locs 0 0 (mQi below args s 0 0 n0 E F) (F0 m 9 ls []) := by
  have hx := C.1
  have hb := C.2.1
  intro n
  induction n with
  | zero =>
    intro v0 v1 v2 v3 v4 S H locs ls hF
    exact nomatch (show (none : Option (Int32 × mS)) = some F from hF)
  | succ n ih =>
    intro v0 v1 v2 v3 v4 S H locs ls hF hI hl
    have hF := (f_X7_number_9_s k77 n v0 v1 v2 v3 v4 S).symm.trans hF
    refine lv_aload_n hx hb dX7_number_9 rfl (lv_at hl 0 rfl) ?_
    refine m_get C fd_X7_122 hI hF dX7_number_10 (fun r3 hF => ?_)
    refine lv_iload_n hx hb dX7_number_13 rfl (lv_at hl 3 rfl) ?_
    refine lv_iadd hx hb dX7_number_14 ?_
    refine lv_aload_n hx hb dX7_number_15 rfl (lv_at hl 0 rfl) ?_
    refine m_get C fd_X7_119 hI hF dX7_number_16 (fun r4 hF => ?_)
    refine m_icmp_ge C (tgt := 77) hF dX7_number_19 (by decide) (fun hF => ?_) (fun hF => ?_)
    · exact hk77 v0 v1 v2 v3 v4 S _ _ _ hF hI (lv_sub hl [0, 1, 2, 3, 4] rfl)
    · refine lv_aload_n hx hb dX7_number_22 rfl (lv_at hl 0 rfl) ?_
      refine m_getR C fd_X7_38 hI hF dX7_number_23 (fun r5 hF => ?_)
      refine lv_aload_n hx hb dX7_number_26 rfl (lv_at hl 0 rfl) ?_
      refine m_get C fd_X7_122 hI hF dX7_number_27 (fun r6 hF => ?_)
      refine lv_iload_n hx hb dX7_number_30 rfl (lv_at hl 3 rfl) ?_
      refine lv_iadd hx hb dX7_number_31 ?_
      refine m_iald C hI hF dX7_number_32 (fun r7 hF => ?_)
      refine m_callSiR C cd_X7_141 hl.1 hI hF (fun _ h => ok_X7_isFigure h) rfl rfl ⟨rfl, rfl, Nat.le_of_ble_eq_true rfl, Nat.le_of_ble_eq_true rfl⟩ ⟨Nat.le_of_ble_eq_true rfl, Nat.le_of_ble_eq_true rfl⟩ (Nat.le_of_ble_eq_true rfl) dX7_number_33 (fun r8 H locs hF hI => ?_)
      refine m_if_eq C (tgt := 77) hF dX7_number_36 (by decide) (fun hF => ?_) (fun hF => ?_)
      · exact hk77 v0 v1 v2 v3 v4 S _ _ _ hF hI (lv_sub hl [0, 1, 2, 3, 4] rfl)
      · refine lv_iload_n hx hb dX7_number_39 rfl (lv_at hl 3 rfl) ?_
        refine lv_iconst (v := 2) hx hb dX7_number_40 (by decide) ?_
        refine m_icmp_ge C (tgt := 67) hF dX7_number_41 (by decide) (fun hF => ?_) (fun hF => ?_)
        · refine lv_iload hx hb dX7_number_67 (lv_at hl 4 rfl) ?_
          exact (bl_X7_number_69 C (k9 := (f_X7_number_9 k77 n)) ih) v0 v1 v2 v3 v4 S _ _ _ hF hI (lv_sub hl [0, 1, 2, 3] rfl)
        · refine lv_bipush (v := 10) hx hb dX7_number_44 (by decide) ?_
          refine lv_iload hx hb dX7_number_46 (lv_at hl 4 rfl) ?_
          refine lv_imul hx hb dX7_number_48 ?_
          refine lv_aload_n hx hb dX7_number_49 rfl (lv_at hl 0 rfl) ?_
          refine m_getR C fd_X7_38 hI hF dX7_number_50 (fun r9 hF => ?_)
          refine lv_aload_n hx hb dX7_number_53 rfl (lv_at hl 0 rfl) ?_
          refine m_get C fd_X7_122 hI hF dX7_number_54 (fun r10 hF => ?_)
          refine lv_iload_n hx hb dX7_number_57 rfl (lv_at hl 3 rfl) ?_
          refine lv_iadd hx hb dX7_number_58 ?_
          refine m_iald C hI hF dX7_number_59 (fun r11 hF => ?_)
          refine lv_iadd hx hb dX7_number_60 ?_
          refine lv_bipush (v := 48) hx hb dX7_number_61 (by decide) ?_
          refine lv_isub hx hb dX7_number_63 ?_
          refine lv_goto (tgt := 69) hx hb dX7_number_64 (by decide) ?_
          exact (bl_X7_number_69 C (k9 := (f_X7_number_9 k77 n)) ih) v0 v1 v2 v3 (((10 * v4) + r11) - 48) S _ _ _ hF hI (lv_sub hl [0, 1, 2, 3] rfl)
set_option maxRecDepth 100000 in
set_option maxHeartbeats 4000000 in
theorem bl_X7_number_96 {p : Program} {l : Launch} {e : Env} {s : State} {m : MethodId} {args : Array Value} {below : List Frame} {meth : Method} {c : Code} {E : mE} {n0 : Nat} {F : Int32 × mS} (C : mCx p s m args meth c cX7_number 5 RX7 (some .boolean) E n0) : ∀  (S : mS) (H : Heap) (locs : List Loc) (ls : Array Slot), f_X7_number_96 S = some F → mIv s E S H locs 0 → lv_has ls 5 [] → W p l e rm_X7_number s m args below meth c H locs 0 0 (mQi below args s 0 0 n0 E F) (F0 m 96 ls []) := by
  have hx := C.1
  have hb := C.2.1
  intro S H locs ls hF hI hl
  refine lv_iconst (v := 0) hx hb dX7_number_96 (by decide) ?_
  exact m_iretz C hI hF dX7_number_97
set_option maxRecDepth 100000 in
set_option maxHeartbeats 4000000 in
theorem bl_X7_number_77 {p : Program} {l : Launch} {e : Env} {s : State} {m : MethodId} {args : Array Value} {below : List Frame} {meth : Method} {c : Code} {E : mE} {n0 : Nat} {F : Int32 × mS} (C : mCx p s m args meth c cX7_number 5 RX7 (some .boolean) E n0) : ∀  (v0 : Int32) (v1 : Int32) (v2 : Int32) (v3 : Int32) (v4 : Int32) (S : mS) (H : Heap) (locs : List Loc) (ls : Array Slot), f_X7_number_77 v0 v1 v2 v3 v4 S = some F → mIv s E S H locs 0 → lv_has ls 5 [(0, .ref (mA E.b v0)), (1, .int v1), (2, .int v2), (3, .int v3), (4, .int v4)] → W p l e rm_X7_number s m args below meth c H locs 0 0 (mQi below args s 0 0 n0 E F) (F0 m 77 ls []) := by
  have hx := C.1
  have hb := C.2.1
  intro v0 v1 v2 v3 v4 S H locs ls hF hI hl
  refine lv_iload_n hx hb dX7_number_77 rfl (lv_at hl 3 rfl) ?_
  refine lv_iconst (v := 1) hx hb dX7_number_78 (by decide) ?_
  refine lv_iconst (v := 2) hx hb dX7_number_79 (by decide) ?_
  refine m_callSiR C cd_X7_95 hl.1 hI hF (fun _ h => ok_X7_in h) rfl rfl ⟨rfl, rfl, Nat.le_of_ble_eq_true rfl, Nat.le_of_ble_eq_true rfl⟩ ⟨Nat.le_of_ble_eq_true rfl, Nat.le_of_ble_eq_true rfl⟩ (Nat.le_of_ble_eq_true rfl) dX7_number_80 (fun r12 H locs hF hI => ?_)
  refine m_if_eq C (tgt := 96) hF dX7_number_83 (by decide) (fun hF => ?_) (fun hF => ?_)
  · exact (bl_X7_number_96 C) S _ _ _ hF hI (lv_sub hl [] rfl)
  · refine lv_iload hx hb dX7_number_86 (lv_at hl 4 rfl) ?_
    refine lv_iload_n hx hb dX7_number_88 rfl (lv_at hl 1 rfl) ?_
    refine lv_iload_n hx hb dX7_number_89 rfl (lv_at hl 2 rfl) ?_
    refine m_callSiR C cd_X7_95 hl.1 hI hF (fun _ h => ok_X7_in h) rfl rfl ⟨rfl, rfl, Nat.le_of_ble_eq_true rfl, Nat.le_of_ble_eq_true rfl⟩ ⟨Nat.le_of_ble_eq_true rfl, Nat.le_of_ble_eq_true rfl⟩ (Nat.le_of_ble_eq_true rfl) dX7_number_90 (fun r13 H locs hF hI => ?_)
    refine m_if_ne C (tgt := 98) hF dX7_number_93 (by decide) (fun hF => ?_) (fun hF => ?_)
    · refine lv_aload_n hx hb dX7_number_98 rfl (lv_at hl 0 rfl) ?_
      refine lv_iload hx hb dX7_number_99 (lv_at hl 4 rfl) ?_
      refine m_put C fd_X7_144 hI hF dX7_number_101 (fun S14 H locs hF hI => ?_)
      refine lv_aload_n hx hb dX7_number_104 rfl (lv_at hl 0 rfl) ?_
      refine lv_dup hx hb dX7_number_105 rfl ?_
      refine m_get C fd_X7_122 hI hF dX7_number_106 (fun r15 hF => ?_)
      refine lv_iload_n hx hb dX7_number_109 rfl (lv_at hl 3 rfl) ?_
      refine lv_iadd hx hb dX7_number_110 ?_
      refine m_put C fd_X7_122 hI hF dX7_number_111 (fun S16 H locs hF hI => ?_)
      refine lv_iconst (v := 1) hx hb dX7_number_114 (by decide) ?_
      exact m_iretz C hI hF dX7_number_115
    · exact (bl_X7_number_96 C) S _ _ _ hF hI (lv_sub hl [] rfl)
set_option maxRecDepth 100000 in
set_option maxHeartbeats 4000000 in
theorem ok_X7_number {l : Launch} {E : mE} {v0 : Int32} {v1 : Int32} {v2 : Int32} {S : mS} {F : Int32 × mS} (hF : f_X7_number v0 v1 v2 S = some F) : mMi l yX7_number cX7_number 5 (some .boolean) rm_X7_number 0 0 [.ref (mA E.b v0), .int v1, .int v2] E S F := by
  refine m_met_i (by decide) (Nat.le_of_ble_eq_true rfl) (fun p e s m args below meth c ls hin C hI hl => ?_)
  have hx := C.1
  have hb := C.2.1
  have hl : lv_has ls 5 [(0, .ref (mA E.b v0)), (1, .int v1), (2, .int v2)] := hl
  generalize s.heap = H at hI ⊢
  generalize ([] : List Loc) = locs at hI ⊢
  refine lv_aload_n hx hb dX7_number_0 rfl (lv_at hl 0 rfl) ?_
  refine m_callVv C cd_X7_138 ⟨rfl, by decide⟩ hl.1 hI hF (fun _ h => ok_X7_skip h) rfl rfl ⟨rfl, rfl, Nat.le_of_ble_eq_true rfl, Nat.le_of_ble_eq_true rfl⟩ ⟨Nat.le_of_ble_eq_true rfl, Nat.le_of_ble_eq_true rfl⟩ (Nat.le_of_ble_eq_true rfl) dX7_number_1 (fun S2 H locs hF hI => ?_)
  refine lv_iconst (v := 0) hx hb dX7_number_4 (by decide) ?_
  refine lv_istore_n (lv' := [(3, .int 0), (0, .ref (mA E.b v0)), (1, .int v1), (2, .int v2)]) hx hb dX7_number_5 rfl hl (by decide) rfl (fun ls hl => ?_)
  refine lv_iconst (v := 0) hx hb dX7_number_6 (by decide) ?_
  refine lv_istore (lv' := [(4, .int 0), (3, .int 0), (0, .ref (mA E.b v0)), (1, .int v1), (2, .int v2)]) hx hb dX7_number_7 hl (by decide) rfl (fun ls hl => ?_)
  exact (bl_X7_number_9 C (k77 := (f_X7_number_77)) (bl_X7_number_77 C) 1000) v0 v1 v2 0 0 S2 _ _ _ hF hI (lv_sub hl [2, 3, 4, 1, 0] rfl)
noncomputable def f_X7_ends (v0 : Int32) (S : mS) : Option (Int32 × mS) := mRc 7 v0 S (mCv (f_X7_skip v0 S) (fun S2 => mRc 7 v0 S2 (mCp (f_X7_here v0 S2) (fun r3 => if r3 = 59 then (mG 7 17 v0 S2 (fun r4 => mP 7 17 v0 (r4 + 1) S2 (fun S5 => mZ 1 (some (1, S5))))) else (mZ 0 (some (0, S2)))))))
def rm_X7_ends : Room := { frames := 2, cells := 0, slots := 0, locals := 40 }
set_option maxRecDepth 100000 in
set_option maxHeartbeats 4000000 in
theorem ok_X7_ends {l : Launch} {E : mE} {v0 : Int32} {S : mS} {F : Int32 × mS} (hF : f_X7_ends v0 S = some F) : mMi l yX7_ends cX7_ends 1 (some .boolean) rm_X7_ends 0 0 [.ref (mA E.b v0)] E S F := by
  refine m_met_i (by decide) (Nat.le_of_ble_eq_true rfl) (fun p e s m args below meth c ls hin C hI hl => ?_)
  have hx := C.1
  have hb := C.2.1
  have hl : lv_has ls 1 [(0, .ref (mA E.b v0))] := hl
  generalize s.heap = H at hI ⊢
  generalize ([] : List Loc) = locs at hI ⊢
  refine lv_aload_n hx hb dX7_ends_0 rfl (lv_at hl 0 rfl) ?_
  refine m_callVv C cd_X7_138 ⟨rfl, by decide⟩ hl.1 hI hF (fun _ h => ok_X7_skip h) rfl rfl ⟨rfl, rfl, Nat.le_of_ble_eq_true rfl, Nat.le_of_ble_eq_true rfl⟩ ⟨Nat.le_of_ble_eq_true rfl, Nat.le_of_ble_eq_true rfl⟩ (Nat.le_of_ble_eq_true rfl) dX7_ends_1 (fun S2 H locs hF hI => ?_)
  refine lv_aload_n hx hb dX7_ends_4 rfl (lv_at hl 0 rfl) ?_
  refine m_callViR C cd_X7_125 ⟨rfl, by decide⟩ hl.1 hI hF (fun _ h => ok_X7_here h) rfl rfl ⟨rfl, rfl, Nat.le_of_ble_eq_true rfl, Nat.le_of_ble_eq_true rfl⟩ ⟨Nat.le_of_ble_eq_true rfl, Nat.le_of_ble_eq_true rfl⟩ (Nat.le_of_ble_eq_true rfl) dX7_ends_5 (fun r3 H locs hF hI => ?_)
  refine lv_bipush (v := 59) hx hb dX7_ends_8 (by decide) ?_
  refine m_icmp_eq C (tgt := 15) hF dX7_ends_10 (by decide) (fun hF => ?_) (fun hF => ?_)
  · refine lv_aload_n hx hb dX7_ends_15 rfl (lv_at hl 0 rfl) ?_
    refine lv_dup hx hb dX7_ends_16 rfl ?_
    refine m_get C fd_X7_122 hI hF dX7_ends_17 (fun r4 hF => ?_)
    refine lv_iconst (v := 1) hx hb dX7_ends_20 (by decide) ?_
    refine lv_iadd hx hb dX7_ends_21 ?_
    refine m_put C fd_X7_122 hI hF dX7_ends_22 (fun S5 H locs hF hI => ?_)
    refine lv_iconst (v := 1) hx hb dX7_ends_25 (by decide) ?_
    exact m_iretz C hI hF dX7_ends_26
  · refine lv_iconst (v := 0) hx hb dX7_ends_13 (by decide) ?_
    exact m_iretz C hI hF dX7_ends_14
noncomputable def f_X7_readsOne_71 (S : mS) : Option (Int32 × mS) := mZ 1 (some (1, S))
noncomputable def f_X7_readsOne_11 (v0 : Int32) (v1 : Int32) (t0 : Int32) (t1 : Int32) (t2 : Int32) (S : mS) : Option (Int32 × mS) := mRc 7 t0 S (mC (f_X7_number t0 t1 t2 S) (fun r1 S2 => if r1 = 0 then (mZ 0 (some (0, S2))) else (mG 7 18 v0 S2 (fun r3 => mRc 7 v0 S2 (mC (f_X7_number v0 0 24 S2) (fun r4 S5 => if r4 = 0 then (mZ 0 (some (0, S5))) else (mG 7 18 v0 S5 (fun r6 => mRc 7 v0 S5 (mC (f_X7_ends v0 S5) (fun r7 S8 => if r7 = 0 then (mZ 0 (some (0, S8))) else (if v1 = 0 then (mRc 7 v0 S8 (mC (f_X7_addWhistle v0 r3 r6 S8) (fun r9 S10 => (f_X7_readsOne_71) S10))) else (mRc 7 v0 S8 (mC (f_X7_addSheep v0 r3 r6 S8) (fun r11 S12 => (f_X7_readsOne_71) S12))))))))))))))
noncomputable def f_X7_readsOne (v0 : Int32) (v1 : Int32) (S : mS) : Option (Int32 × mS) := if v1 = 0 then ((f_X7_readsOne_11) v0 v1 v0 0 5 S) else ((f_X7_readsOne_11) v0 v1 v0 0 5 S)
def rm_X7_readsOne : Room := { frames := 3, cells := 0, slots := 0, locals := 66 }
set_option maxRecDepth 100000 in
set_option maxHeartbeats 4000000 in
theorem bl_X7_readsOne_71 {p : Program} {l : Launch} {e : Env} {s : State} {m : MethodId} {args : Array Value} {below : List Frame} {meth : Method} {c : Code} {E : mE} {n0 : Nat} {F : Int32 × mS} (C : mCx p s m args meth c cX7_readsOne 4 RX7 (some .boolean) E n0) : ∀  (S : mS) (H : Heap) (locs : List Loc) (ls : Array Slot), f_X7_readsOne_71 S = some F → mIv s E S H locs 0 → lv_has ls 4 [] → W p l e rm_X7_readsOne s m args below meth c H locs 0 0 (mQi below args s 0 0 n0 E F) (F0 m 71 ls []) := by
  have hx := C.1
  have hb := C.2.1
  intro S H locs ls hF hI hl
  refine lv_iconst (v := 1) hx hb dX7_readsOne_71 (by decide) ?_
  exact m_iretz C hI hF dX7_readsOne_72
set_option maxRecDepth 100000 in
set_option maxHeartbeats 4000000 in
theorem bl_X7_readsOne_11 {p : Program} {l : Launch} {e : Env} {s : State} {m : MethodId} {args : Array Value} {below : List Frame} {meth : Method} {c : Code} {E : mE} {n0 : Nat} {F : Int32 × mS} (C : mCx p s m args meth c cX7_readsOne 4 RX7 (some .boolean) E n0) : ∀  (v0 : Int32) (v1 : Int32) (t0 : Int32) (t1 : Int32) (t2 : Int32) (S : mS) (H : Heap) (locs : List Loc) (ls : Array Slot), f_X7_readsOne_11 v0 v1 t0 t1 t2 S = some F → mIv s E S H locs 0 → lv_has ls 4 [(0, .ref (mA E.b v0)), (1, .int v1)] → W p l e rm_X7_readsOne s m args below meth c H locs 0 0 (mQi below args s 0 0 n0 E F) (F0 m 11 ls [.int t2, .int t1, .ref (mA E.b t0)]) := by
  have hx := C.1
  have hb := C.2.1
  intro v0 v1 t0 t1 t2 S H locs ls hF hI hl
  refine m_callVi C cd_X7_147 ⟨rfl, by decide⟩ hl.1 hI hF (fun _ h => ok_X7_number h) rfl rfl ⟨rfl, rfl, Nat.le_of_ble_eq_true rfl, Nat.le_of_ble_eq_true rfl⟩ ⟨Nat.le_of_ble_eq_true rfl, Nat.le_of_ble_eq_true rfl⟩ (Nat.le_of_ble_eq_true rfl) dX7_readsOne_11 (fun r1 S2 H locs hF hI => ?_)
  refine m_if_ne C (tgt := 19) hF dX7_readsOne_14 (by decide) (fun hF => ?_) (fun hF => ?_)
  · refine lv_aload_n hx hb dX7_readsOne_19 rfl (lv_at hl 0 rfl) ?_
    refine m_get C fd_X7_144 hI hF dX7_readsOne_20 (fun r3 hF => ?_)
    refine lv_istore_n (lv' := [(2, .int r3), (0, .ref (mA E.b v0)), (1, .int v1)]) hx hb dX7_readsOne_23 rfl hl (by decide) rfl (fun ls hl => ?_)
    refine lv_aload_n hx hb dX7_readsOne_24 rfl (lv_at hl 1 rfl) ?_
    refine lv_iconst (v := 0) hx hb dX7_readsOne_25 (by decide) ?_
    refine lv_bipush (v := 24) hx hb dX7_readsOne_26 (by decide) ?_
    refine m_callVi C cd_X7_147 ⟨rfl, by decide⟩ hl.1 hI hF (fun _ h => ok_X7_number h) rfl rfl ⟨rfl, rfl, Nat.le_of_ble_eq_true rfl, Nat.le_of_ble_eq_true rfl⟩ ⟨Nat.le_of_ble_eq_true rfl, Nat.le_of_ble_eq_true rfl⟩ (Nat.le_of_ble_eq_true rfl) dX7_readsOne_28 (fun r4 S5 H locs hF hI => ?_)
    refine m_if_ne C (tgt := 36) hF dX7_readsOne_31 (by decide) (fun hF => ?_) (fun hF => ?_)
    · refine lv_aload_n hx hb dX7_readsOne_36 rfl (lv_at hl 1 rfl) ?_
      refine m_get C fd_X7_144 hI hF dX7_readsOne_37 (fun r6 hF => ?_)
      refine lv_istore_n (lv' := [(3, .int r6), (2, .int r3), (0, .ref (mA E.b v0)), (1, .int v1)]) hx hb dX7_readsOne_40 rfl hl (by decide) rfl (fun ls hl => ?_)
      refine lv_aload_n hx hb dX7_readsOne_41 rfl (lv_at hl 2 rfl) ?_
      refine m_callVi C cd_X7_151 ⟨rfl, by decide⟩ hl.1 hI hF (fun _ h => ok_X7_ends h) rfl rfl ⟨rfl, rfl, Nat.le_of_ble_eq_true rfl, Nat.le_of_ble_eq_true rfl⟩ ⟨Nat.le_of_ble_eq_true rfl, Nat.le_of_ble_eq_true rfl⟩ (Nat.le_of_ble_eq_true rfl) dX7_readsOne_42 (fun r7 S8 H locs hF hI => ?_)
      refine m_if_ne C (tgt := 50) hF dX7_readsOne_45 (by decide) (fun hF => ?_) (fun hF => ?_)
      · refine lv_iload_n hx hb dX7_readsOne_50 rfl (lv_at hl 3 rfl) ?_
        refine m_if_eq C (tgt := 64) hF dX7_readsOne_51 (by decide) (fun hF => ?_) (fun hF => ?_)
        · refine lv_aload_n hx hb dX7_readsOne_64 rfl (lv_at hl 2 rfl) ?_
          refine lv_iload_n hx hb dX7_readsOne_65 rfl (lv_at hl 1 rfl) ?_
          refine lv_iload_n hx hb dX7_readsOne_66 rfl (lv_at hl 0 rfl) ?_
          refine m_callVi C cd_X7_110 ⟨rfl, by decide⟩ hl.1 hI hF (fun _ h => ok_X7_addWhistle h) rfl rfl ⟨rfl, rfl, Nat.le_of_ble_eq_true rfl, Nat.le_of_ble_eq_true rfl⟩ ⟨Nat.le_of_ble_eq_true rfl, Nat.le_of_ble_eq_true rfl⟩ (Nat.le_of_ble_eq_true rfl) dX7_readsOne_67 (fun r9 S10 H locs hF hI => ?_)
          refine lv_pop hx hb dX7_readsOne_70 rfl ?_
          exact (bl_X7_readsOne_71 C) S10 _ _ _ hF hI (lv_sub hl [] rfl)
        · refine lv_aload_n hx hb dX7_readsOne_54 rfl (lv_at hl 2 rfl) ?_
          refine lv_iload_n hx hb dX7_readsOne_55 rfl (lv_at hl 1 rfl) ?_
          refine lv_iload_n hx hb dX7_readsOne_56 rfl (lv_at hl 0 rfl) ?_
          refine m_callVi C cd_X7_113 ⟨rfl, by decide⟩ hl.1 hI hF (fun _ h => ok_X7_addSheep h) rfl rfl ⟨rfl, rfl, Nat.le_of_ble_eq_true rfl, Nat.le_of_ble_eq_true rfl⟩ ⟨Nat.le_of_ble_eq_true rfl, Nat.le_of_ble_eq_true rfl⟩ (Nat.le_of_ble_eq_true rfl) dX7_readsOne_57 (fun r11 S12 H locs hF hI => ?_)
          refine lv_pop hx hb dX7_readsOne_60 rfl ?_
          refine lv_goto (tgt := 71) hx hb dX7_readsOne_61 (by decide) ?_
          exact (bl_X7_readsOne_71 C) S12 _ _ _ hF hI (lv_sub hl [] rfl)
      · refine lv_iconst (v := 0) hx hb dX7_readsOne_48 (by decide) ?_
        exact m_iretz C hI hF dX7_readsOne_49
    · refine lv_iconst (v := 0) hx hb dX7_readsOne_34 (by decide) ?_
      exact m_iretz C hI hF dX7_readsOne_35
  · refine lv_iconst (v := 0) hx hb dX7_readsOne_17 (by decide) ?_
    exact m_iretz C hI hF dX7_readsOne_18
set_option maxRecDepth 100000 in
set_option maxHeartbeats 4000000 in
theorem ok_X7_readsOne {l : Launch} {E : mE} {v0 : Int32} {v1 : Int32} {S : mS} {F : Int32 × mS} (hF : f_X7_readsOne v0 v1 S = some F) : mMi l yX7_readsOne cX7_readsOne 4 (some .boolean) rm_X7_readsOne 0 0 [.ref (mA E.b v0), .int v1] E S F := by
  refine m_met_i (by decide) (Nat.le_of_ble_eq_true rfl) (fun p e s m args below meth c ls hin C hI hl => ?_)
  have hx := C.1
  have hb := C.2.1
  have hl : lv_has ls 4 [(0, .ref (mA E.b v0)), (1, .int v1)] := hl
  generalize s.heap = H at hI ⊢
  generalize ([] : List Loc) = locs at hI ⊢
  refine lv_aload_n hx hb dX7_readsOne_0 rfl (lv_at hl 0 rfl) ?_
  refine lv_iconst (v := 0) hx hb dX7_readsOne_1 (by decide) ?_
  refine lv_iload_n hx hb dX7_readsOne_2 rfl (lv_at hl 1 rfl) ?_
  refine m_if_eq C (tgt := 10) hF dX7_readsOne_3 (by decide) (fun hF => ?_) (fun hF => ?_)
  · refine lv_iconst (v := 5) hx hb dX7_readsOne_10 (by decide) ?_
    exact (bl_X7_readsOne_11 C) v0 v1 v0 0 5 S _ _ _ hF hI (lv_sub hl [0, 1] rfl)
  · refine lv_iconst (v := 5) hx hb dX7_readsOne_6 (by decide) ?_
    refine lv_goto (tgt := 11) hx hb dX7_readsOne_7 (by decide) ?_
    exact (bl_X7_readsOne_11 C) v0 v1 v0 0 5 S _ _ _ hF hI (lv_sub hl [0, 1] rfl)
noncomputable def f_X7_goesBy_63 (t0 : Int32) : Option Int32 := some t0
noncomputable def f_X7_goesBy_83 (t0 : Int32) : Option Int32 := some t0
noncomputable def f_X7_goesBy_11 (v0 : Int32) (v1 : Int32) (t0 : Int32) : Option Int32 := if v0 = 1 then (some 2) else if v0 = 2 then (some t0) else if v0 = 3 then (if (mRem v1 5) = 0 then ((f_X7_goesBy_63) 4) else ((f_X7_goesBy_63) 2)) else if v0 = 4 then (some (1 + (mRem v1 2))) else if v0 = 5 then (if v1 < 20 then ((f_X7_goesBy_83) t0) else ((f_X7_goesBy_83) (t0 + 1))) else (some 1)
noncomputable def f_X7_goesBy (v0 : Int32) (v1 : Int32) : Option Int32 := if (mRem v1 3) = 0 then ((f_X7_goesBy_11) v0 v1 0) else ((f_X7_goesBy_11) v0 v1 1)
def rm_X7_goesBy : Room := { frames := 0, cells := 0, slots := 0, locals := 0 }
set_option maxRecDepth 100000 in
set_option maxHeartbeats 4000000 in
theorem bl_X7_goesBy_63 {p : Program} {l : Launch} {e : Env} {s : State} {m : MethodId} {args : Array Value} {below : List Frame} {meth : Method} {c : Code} {E : mE} {n0 : Nat} {r : Int32} {S : mS} (C : mCx p s m args meth c cX7_goesBy 3 RX7 (some .int) E n0) : ∀  (t0 : Int32) (H : Heap) (locs : List Loc) (ls : Array Slot), f_X7_goesBy_63 t0 = some r → mIv s E S H locs 0 → lv_has ls 3 [] → W p l e rm_X7_goesBy s m args below meth c H locs 0 0 (mQi below args s 0 0 n0 E (r, S)) (F0 m 63 ls [.int t0]) := by
  have hx := C.1
  have hb := C.2.1
  intro t0 H locs ls hF hI hl
  exact m_iretiR C hI hF dX7_goesBy_63
set_option maxRecDepth 100000 in
set_option maxHeartbeats 4000000 in
theorem bl_X7_goesBy_83 {p : Program} {l : Launch} {e : Env} {s : State} {m : MethodId} {args : Array Value} {below : List Frame} {meth : Method} {c : Code} {E : mE} {n0 : Nat} {r : Int32} {S : mS} (C : mCx p s m args meth c cX7_goesBy 3 RX7 (some .int) E n0) : ∀  (t0 : Int32) (H : Heap) (locs : List Loc) (ls : Array Slot), f_X7_goesBy_83 t0 = some r → mIv s E S H locs 0 → lv_has ls 3 [] → W p l e rm_X7_goesBy s m args below meth c H locs 0 0 (mQi below args s 0 0 n0 E (r, S)) (F0 m 83 ls [.int t0]) := by
  have hx := C.1
  have hb := C.2.1
  intro t0 H locs ls hF hI hl
  exact m_iretiR C hI hF dX7_goesBy_83
set_option maxRecDepth 100000 in
set_option maxHeartbeats 4000000 in
theorem bl_X7_goesBy_11 {p : Program} {l : Launch} {e : Env} {s : State} {m : MethodId} {args : Array Value} {below : List Frame} {meth : Method} {c : Code} {E : mE} {n0 : Nat} {r : Int32} {S : mS} (C : mCx p s m args meth c cX7_goesBy 3 RX7 (some .int) E n0) : ∀  (v0 : Int32) (v1 : Int32) (t0 : Int32) (H : Heap) (locs : List Loc) (ls : Array Slot), f_X7_goesBy_11 v0 v1 t0 = some r → mIv s E S H locs 0 → lv_has ls 3 [(0, .int v0), (1, .int v1)] → W p l e rm_X7_goesBy s m args below meth c H locs 0 0 (mQi below args s 0 0 n0 E (r, S)) (F0 m 11 ls [.int t0]) := by
  have hx := C.1
  have hb := C.2.1
  intro v0 v1 t0 H locs ls hF hI hl
  refine lv_istore_n (lv' := [(2, .int t0), (0, .int v0), (1, .int v1)]) hx hb dX7_goesBy_11 rfl hl (by decide) rfl (fun ls hl => ?_)
  refine lv_iload_n hx hb dX7_goesBy_12 rfl (lv_at hl 1 rfl) ?_
  refine m_if hF (fun c1 hF => ?_) (fun c1 hF => ?_)
  · refine m_swIn C dX7_goesBy_13 c1 1 rfl (by decide) (by decide) rfl (tgt := 48) (by decide) ?_
    refine lv_iconst (v := 2) hx hb dX7_goesBy_48 (by decide) ?_
    exact m_iretiR C hI hF dX7_goesBy_49
  refine m_if hF (fun c2 hF => ?_) (fun c2 hF => ?_)
  · refine m_swIn C dX7_goesBy_13 c2 2 rfl (by decide) (by decide) rfl (tgt := 50) (by decide) ?_
    refine lv_iload_n hx hb dX7_goesBy_50 rfl (lv_at hl 0 rfl) ?_
    exact m_iretiR C hI hF dX7_goesBy_51
  refine m_if hF (fun c3 hF => ?_) (fun c3 hF => ?_)
  · refine m_swIn C dX7_goesBy_13 c3 3 rfl (by decide) (by decide) rfl (tgt := 52) (by decide) ?_
    refine lv_iload_n hx hb dX7_goesBy_52 rfl (lv_at hl 2 rfl) ?_
    refine lv_iconst (v := 5) hx hb dX7_goesBy_53 (by decide) ?_
    refine m_irem C dX7_goesBy_54 (by decide) ?_
    refine m_if_ne C (tgt := 62) hF dX7_goesBy_55 (by decide) (fun hF => ?_) (fun hF => ?_)
    · refine lv_iconst (v := 2) hx hb dX7_goesBy_62 (by decide) ?_
      exact (bl_X7_goesBy_63 C) 2 _ _ _ hF hI (lv_sub hl [] rfl)
    · refine lv_iconst (v := 4) hx hb dX7_goesBy_58 (by decide) ?_
      refine lv_goto (tgt := 63) hx hb dX7_goesBy_59 (by decide) ?_
      exact (bl_X7_goesBy_63 C) 4 _ _ _ hF hI (lv_sub hl [] rfl)
  refine m_if hF (fun c4 hF => ?_) (fun c4 hF => ?_)
  · refine m_swIn C dX7_goesBy_13 c4 4 rfl (by decide) (by decide) rfl (tgt := 64) (by decide) ?_
    refine lv_iconst (v := 1) hx hb dX7_goesBy_64 (by decide) ?_
    refine lv_iload_n hx hb dX7_goesBy_65 rfl (lv_at hl 2 rfl) ?_
    refine lv_iconst (v := 2) hx hb dX7_goesBy_66 (by decide) ?_
    refine m_irem C dX7_goesBy_67 (by decide) ?_
    refine lv_iadd hx hb dX7_goesBy_68 ?_
    exact m_iretiR C hI hF dX7_goesBy_69
  refine m_if hF (fun c5 hF => ?_) (fun c5 hF => ?_)
  · refine m_swIn C dX7_goesBy_13 c5 5 rfl (by decide) (by decide) rfl (tgt := 70) (by decide) ?_
    refine lv_iload_n hx hb dX7_goesBy_70 rfl (lv_at hl 2 rfl) ?_
    refine lv_bipush (v := 20) hx hb dX7_goesBy_71 (by decide) ?_
    refine m_icmp_lt C (tgt := 82) hF dX7_goesBy_73 (by decide) (fun hF => ?_) (fun hF => ?_)
    · refine lv_iload_n hx hb dX7_goesBy_82 rfl (lv_at hl 0 rfl) ?_
      exact (bl_X7_goesBy_83 C) t0 _ _ _ hF hI (lv_sub hl [] rfl)
    · refine lv_iload_n hx hb dX7_goesBy_76 rfl (lv_at hl 0 rfl) ?_
      refine lv_iconst (v := 1) hx hb dX7_goesBy_77 (by decide) ?_
      refine lv_iadd hx hb dX7_goesBy_78 ?_
      refine lv_goto (tgt := 83) hx hb dX7_goesBy_79 (by decide) ?_
      exact (bl_X7_goesBy_83 C) (t0 + 1) _ _ _ hF hI (lv_sub hl [] rfl)
  refine lv_tableOut (tgt := 84) hx hb dX7_goesBy_13 (by have := lv_neT c1 (a := 1) rfl; have := lv_neT c2 (a := 2) rfl; have := lv_neT c3 (a := 3) rfl; have := lv_neT c4 (a := 4) rfl; have := lv_neT c5 (a := 5) rfl; omega) (by decide) ?_
  refine lv_iconst (v := 1) hx hb dX7_goesBy_84 (by decide) ?_
  exact m_iretiR C hI hF dX7_goesBy_85
set_option maxRecDepth 100000 in
set_option maxHeartbeats 4000000 in
theorem ok_X7_goesBy {l : Launch} {E : mE} {v0 : Int32} {v1 : Int32} {S : mS} {r : Int32} (hF : f_X7_goesBy v0 v1 = some r) : mMi l yX7_goesBy cX7_goesBy 3 (some .int) rm_X7_goesBy 0 0 [.int v0, .int v1] E S (r, S) := by
  refine m_met_i (by decide) (Nat.le_of_ble_eq_true rfl) (fun p e s m args below meth c ls hin C hI hl => ?_)
  have hx := C.1
  have hb := C.2.1
  have hl : lv_has ls 3 [(0, .int v0), (1, .int v1)] := hl
  generalize s.heap = H at hI ⊢
  generalize ([] : List Loc) = locs at hI ⊢
  refine lv_iload_n hx hb dX7_goesBy_0 rfl (lv_at hl 1 rfl) ?_
  refine lv_iconst (v := 3) hx hb dX7_goesBy_1 (by decide) ?_
  refine m_irem C dX7_goesBy_2 (by decide) ?_
  refine m_if_ne C (tgt := 10) hF dX7_goesBy_3 (by decide) (fun hF => ?_) (fun hF => ?_)
  · refine lv_iconst (v := 1) hx hb dX7_goesBy_10 (by decide) ?_
    exact (bl_X7_goesBy_11 C) v0 v1 1 _ _ _ hF hI (lv_sub hl [0, 1] rfl)
  · refine lv_iconst (v := 0) hx hb dX7_goesBy_6 (by decide) ?_
    refine lv_goto (tgt := 11) hx hb dX7_goesBy_7 (by decide) ?_
    exact (bl_X7_goesBy_11 C) v0 v1 0 _ _ _ hF hI (lv_sub hl [0, 1] rfl)
noncomputable def f_X7_clip_18 (t0 : Int32) : Option Int32 := some t0
noncomputable def f_X7_clip (v0 : Int32) : Option Int32 := if 0 ≤ v0 then (if v0 < 5 then ((f_X7_clip_18) v0) else ((f_X7_clip_18) 4)) else ((f_X7_clip_18) 0)
def rm_X7_clip : Room := { frames := 0, cells := 0, slots := 0, locals := 0 }
set_option maxRecDepth 100000 in
set_option maxHeartbeats 4000000 in
theorem bl_X7_clip_18 {p : Program} {l : Launch} {e : Env} {s : State} {m : MethodId} {args : Array Value} {below : List Frame} {meth : Method} {c : Code} {E : mE} {n0 : Nat} {r : Int32} {S : mS} (C : mCx p s m args meth c cX7_clip 1 RX7 (some .int) E n0) : ∀  (t0 : Int32) (H : Heap) (locs : List Loc) (ls : Array Slot), f_X7_clip_18 t0 = some r → mIv s E S H locs 0 → lv_has ls 1 [] → W p l e rm_X7_clip s m args below meth c H locs 0 0 (mQi below args s 0 0 n0 E (r, S)) (F0 m 18 ls [.int t0]) := by
  have hx := C.1
  have hb := C.2.1
  intro t0 H locs ls hF hI hl
  exact m_iretiR C hI hF dX7_clip_18
set_option maxRecDepth 100000 in
set_option maxHeartbeats 4000000 in
theorem ok_X7_clip {l : Launch} {E : mE} {v0 : Int32} {S : mS} {r : Int32} (hF : f_X7_clip v0 = some r) : mMi l yX7_clip cX7_clip 1 (some .int) rm_X7_clip 0 0 [.int v0] E S (r, S) := by
  refine m_met_i (by decide) (Nat.le_of_ble_eq_true rfl) (fun p e s m args below meth c ls hin C hI hl => ?_)
  have hx := C.1
  have hb := C.2.1
  have hl : lv_has ls 1 [(0, .int v0)] := hl
  generalize s.heap = H at hI ⊢
  generalize ([] : List Loc) = locs at hI ⊢
  refine lv_iload_n hx hb dX7_clip_0 rfl (lv_at hl 0 rfl) ?_
  refine m_if_ge C (tgt := 8) hF dX7_clip_1 (by decide) (fun hF => ?_) (fun hF => ?_)
  · refine lv_iload_n hx hb dX7_clip_8 rfl (lv_at hl 0 rfl) ?_
    refine lv_iconst (v := 5) hx hb dX7_clip_9 (by decide) ?_
    refine m_icmp_lt C (tgt := 17) hF dX7_clip_10 (by decide) (fun hF => ?_) (fun hF => ?_)
    · refine lv_iload_n hx hb dX7_clip_17 rfl (lv_at hl 0 rfl) ?_
      exact (bl_X7_clip_18 C) v0 _ _ _ hF hI (lv_sub hl [] rfl)
    · refine lv_iconst (v := 4) hx hb dX7_clip_13 (by decide) ?_
      refine lv_goto (tgt := 18) hx hb dX7_clip_14 (by decide) ?_
      exact (bl_X7_clip_18 C) 4 _ _ _ hF hI (lv_sub hl [] rfl)
  · refine lv_iconst (v := 0) hx hb dX7_clip_4 (by decide) ?_
    refine lv_goto (tgt := 18) hx hb dX7_clip_5 (by decide) ?_
    exact (bl_X7_clip_18 C) 0 _ _ _ hF hI (lv_sub hl [] rfl)
noncomputable def f_X7_moved_47 (v3 : Int32) (t0 : Int32) (t1 : Int32) : Option Int32 := mCp (f_X7_clip v3) (fun r1 => mCp (f_X7_clip (t0 + t1)) (fun r2 => some ((5 * r1) + r2)))
noncomputable def f_X7_moved_22 (v0 : Int32) (v1 : Int32) (v2 : Int32) (t0 : Int32) (t1 : Int32) : Option Int32 := if v1 = 1 then ((f_X7_moved_47) (t0 + t1) (mRem v0 5) v2) else (if v1 = 3 then ((f_X7_moved_47) (t0 + t1) (mRem v0 5) (-v2)) else ((f_X7_moved_47) (t0 + t1) (mRem v0 5) 0))
noncomputable def f_X7_moved (v0 : Int32) (v1 : Int32) (v2 : Int32) : Option Int32 := if v1 = 0 then ((f_X7_moved_22) v0 v1 v2 (v0 / 5) (-v2)) else (if v1 = 2 then ((f_X7_moved_22) v0 v1 v2 (v0 / 5) v2) else ((f_X7_moved_22) v0 v1 v2 (v0 / 5) 0))
def rm_X7_moved : Room := { frames := 1, cells := 0, slots := 0, locals := 20 }
set_option maxRecDepth 100000 in
set_option maxHeartbeats 4000000 in
theorem bl_X7_moved_47 {p : Program} {l : Launch} {e : Env} {s : State} {m : MethodId} {args : Array Value} {below : List Frame} {meth : Method} {c : Code} {E : mE} {n0 : Nat} {r : Int32} {S : mS} (C : mCx p s m args meth c cX7_moved 5 RX7 (some .int) E n0) : ∀  (v3 : Int32) (t0 : Int32) (t1 : Int32) (H : Heap) (locs : List Loc) (ls : Array Slot), f_X7_moved_47 v3 t0 t1 = some r → mIv s E S H locs 0 → lv_has ls 5 [(3, .int v3)] → W p l e rm_X7_moved s m args below meth c H locs 0 0 (mQi below args s 0 0 n0 E (r, S)) (F0 m 47 ls [.int t1, .int t0]) := by
  have hx := C.1
  have hb := C.2.1
  intro v3 t0 t1 H locs ls hF hI hl
  refine lv_iadd hx hb dX7_moved_47 ?_
  refine lv_istore (lv' := [(4, .int (t0 + t1)), (3, .int v3)]) hx hb dX7_moved_48 hl (by decide) rfl (fun ls hl => ?_)
  refine lv_iconst (v := 5) hx hb dX7_moved_50 (by decide) ?_
  refine lv_iload_n hx hb dX7_moved_51 rfl (lv_at hl 1 rfl) ?_
  refine m_callSiR C cd_X7_193 hl.1 hI hF (fun _ h => ok_X7_clip h) rfl rfl ⟨rfl, rfl, Nat.le_of_ble_eq_true rfl, Nat.le_of_ble_eq_true rfl⟩ ⟨Nat.le_of_ble_eq_true rfl, Nat.le_of_ble_eq_true rfl⟩ (Nat.le_of_ble_eq_true rfl) dX7_moved_52 (fun r1 H locs hF hI => ?_)
  refine lv_imul hx hb dX7_moved_55 ?_
  refine lv_iload hx hb dX7_moved_56 (lv_at hl 0 rfl) ?_
  refine m_callSiR C cd_X7_193 hl.1 hI hF (fun _ h => ok_X7_clip h) rfl rfl ⟨rfl, rfl, Nat.le_of_ble_eq_true rfl, Nat.le_of_ble_eq_true rfl⟩ ⟨Nat.le_of_ble_eq_true rfl, Nat.le_of_ble_eq_true rfl⟩ (Nat.le_of_ble_eq_true rfl) dX7_moved_58 (fun r2 H locs hF hI => ?_)
  refine lv_iadd hx hb dX7_moved_61 ?_
  exact m_iretiR C hI hF dX7_moved_62
set_option maxRecDepth 100000 in
set_option maxHeartbeats 4000000 in
theorem bl_X7_moved_22 {p : Program} {l : Launch} {e : Env} {s : State} {m : MethodId} {args : Array Value} {below : List Frame} {meth : Method} {c : Code} {E : mE} {n0 : Nat} {r : Int32} {S : mS} (C : mCx p s m args meth c cX7_moved 5 RX7 (some .int) E n0) : ∀  (v0 : Int32) (v1 : Int32) (v2 : Int32) (t0 : Int32) (t1 : Int32) (H : Heap) (locs : List Loc) (ls : Array Slot), f_X7_moved_22 v0 v1 v2 t0 t1 = some r → mIv s E S H locs 0 → lv_has ls 5 [(0, .int v0), (1, .int v1), (2, .int v2)] → W p l e rm_X7_moved s m args below meth c H locs 0 0 (mQi below args s 0 0 n0 E (r, S)) (F0 m 22 ls [.int t1, .int t0]) := by
  have hx := C.1
  have hb := C.2.1
  intro v0 v1 v2 t0 t1 H locs ls hF hI hl
  refine lv_iadd hx hb dX7_moved_22 ?_
  refine lv_istore_n (lv' := [(3, .int (t0 + t1)), (0, .int v0), (1, .int v1), (2, .int v2)]) hx hb dX7_moved_23 rfl hl (by decide) rfl (fun ls hl => ?_)
  refine lv_iload_n hx hb dX7_moved_24 rfl (lv_at hl 1 rfl) ?_
  refine lv_iconst (v := 5) hx hb dX7_moved_25 (by decide) ?_
  refine m_irem C dX7_moved_26 (by decide) ?_
  refine lv_iload_n hx hb dX7_moved_27 rfl (lv_at hl 2 rfl) ?_
  refine lv_iconst (v := 1) hx hb dX7_moved_28 (by decide) ?_
  refine m_icmp_ne C (tgt := 36) hF dX7_moved_29 (by decide) (fun hF => ?_) (fun hF => ?_)
  · refine lv_iload_n hx hb dX7_moved_36 rfl (lv_at hl 2 rfl) ?_
    refine lv_iconst (v := 3) hx hb dX7_moved_37 (by decide) ?_
    refine m_icmp_ne C (tgt := 46) hF dX7_moved_38 (by decide) (fun hF => ?_) (fun hF => ?_)
    · refine lv_iconst (v := 0) hx hb dX7_moved_46 (by decide) ?_
      exact (bl_X7_moved_47 C) (t0 + t1) (mRem v0 5) 0 _ _ _ hF hI (lv_sub hl [0] rfl)
    · refine lv_iload_n hx hb dX7_moved_41 rfl (lv_at hl 3 rfl) ?_
      refine lv_ineg hx hb dX7_moved_42 ?_
      refine lv_goto (tgt := 47) hx hb dX7_moved_43 (by decide) ?_
      exact (bl_X7_moved_47 C) (t0 + t1) (mRem v0 5) (-v2) _ _ _ hF hI (lv_sub hl [0] rfl)
  · refine lv_iload_n hx hb dX7_moved_32 rfl (lv_at hl 3 rfl) ?_
    refine lv_goto (tgt := 47) hx hb dX7_moved_33 (by decide) ?_
    exact (bl_X7_moved_47 C) (t0 + t1) (mRem v0 5) v2 _ _ _ hF hI (lv_sub hl [0] rfl)
set_option maxRecDepth 100000 in
set_option maxHeartbeats 4000000 in
theorem ok_X7_moved {l : Launch} {E : mE} {v0 : Int32} {v1 : Int32} {v2 : Int32} {S : mS} {r : Int32} (hF : f_X7_moved v0 v1 v2 = some r) : mMi l yX7_moved cX7_moved 5 (some .int) rm_X7_moved 0 0 [.int v0, .int v1, .int v2] E S (r, S) := by
  refine m_met_i (by decide) (Nat.le_of_ble_eq_true rfl) (fun p e s m args below meth c ls hin C hI hl => ?_)
  have hx := C.1
  have hb := C.2.1
  have hl : lv_has ls 5 [(0, .int v0), (1, .int v1), (2, .int v2)] := hl
  generalize s.heap = H at hI ⊢
  generalize ([] : List Loc) = locs at hI ⊢
  refine lv_iload_n hx hb dX7_moved_0 rfl (lv_at hl 0 rfl) ?_
  refine lv_iconst (v := 5) hx hb dX7_moved_1 (by decide) ?_
  refine lv_idiv hx hb dX7_moved_2 (by decide) ?_
  refine lv_iload_n hx hb dX7_moved_3 rfl (lv_at hl 1 rfl) ?_
  refine m_if_ne C (tgt := 12) hF dX7_moved_4 (by decide) (fun hF => ?_) (fun hF => ?_)
  · refine lv_iload_n hx hb dX7_moved_12 rfl (lv_at hl 1 rfl) ?_
    refine lv_iconst (v := 2) hx hb dX7_moved_13 (by decide) ?_
    refine m_icmp_ne C (tgt := 21) hF dX7_moved_14 (by decide) (fun hF => ?_) (fun hF => ?_)
    · refine lv_iconst (v := 0) hx hb dX7_moved_21 (by decide) ?_
      exact (bl_X7_moved_22 C) v0 v1 v2 (v0 / 5) 0 _ _ _ hF hI (lv_sub hl [0, 1, 2] rfl)
    · refine lv_iload_n hx hb dX7_moved_17 rfl (lv_at hl 2 rfl) ?_
      refine lv_goto (tgt := 22) hx hb dX7_moved_18 (by decide) ?_
      exact (bl_X7_moved_22 C) v0 v1 v2 (v0 / 5) v2 _ _ _ hF hI (lv_sub hl [0, 1, 2] rfl)
  · refine lv_iload_n hx hb dX7_moved_7 rfl (lv_at hl 2 rfl) ?_
    refine lv_ineg hx hb dX7_moved_8 ?_
    refine lv_goto (tgt := 22) hx hb dX7_moved_9 (by decide) ?_
    exact (bl_X7_moved_22 C) v0 v1 v2 (v0 / 5) (-v2) _ _ _ hF hI (lv_sub hl [0, 1, 2] rfl)
noncomputable def f_X7_whistleThen_25 (S : mS) (t0 : Int32) : Option Int32 := some t0
noncomputable def f_X7_whistleThen (v0 : Int32) (v1 : Int32) (v2 : Int32) (v3 : Int32) (v4 : Int32) (S : mS) : Option Int32 := if v3 = 4 then ((f_X7_whistleThen_25 S) v2) else (mGr 7 8 v0 S (fun r1 => mX 8 r1 v1 S (fun r2 => mCp (f_X7_goesBy r2 v4) (fun r3 => mCp (f_X7_moved v2 v3 r3) (fun r4 => (f_X7_whistleThen_25 S) r4)))))
def rm_X7_whistleThen : Room := { frames := 2, cells := 0, slots := 0, locals := 44 }
set_option maxRecDepth 100000 in
set_option maxHeartbeats 4000000 in
theorem bl_X7_whistleThen_25 {p : Program} {l : Launch} {e : Env} {s : State} {m : MethodId} {args : Array Value} {below : List Frame} {meth : Method} {c : Code} {E : mE} {n0 : Nat} {r : Int32} {S : mS} (C : mCx p s m args meth c cX7_whistleThen 5 RX7 (some .int) E n0) : ∀  (t0 : Int32) (H : Heap) (locs : List Loc) (ls : Array Slot), f_X7_whistleThen_25 S t0 = some r → mIv s E S H locs 0 → lv_has ls 5 [] → W p l e rm_X7_whistleThen s m args below meth c H locs 0 0 (mQi below args s 0 0 n0 E (r, S)) (F0 m 25 ls [.int t0]) := by
  have hx := C.1
  have hb := C.2.1
  intro t0 H locs ls hF hI hl
  exact m_iretiR C hI hF dX7_whistleThen_25
set_option maxRecDepth 100000 in
set_option maxHeartbeats 4000000 in
theorem ok_X7_whistleThen {l : Launch} {E : mE} {v0 : Int32} {v1 : Int32} {v2 : Int32} {v3 : Int32} {v4 : Int32} {S : mS} {r : Int32} (hF : f_X7_whistleThen v0 v1 v2 v3 v4 S = some r) : mMi l yX7_whistleThen cX7_whistleThen 5 (some .int) rm_X7_whistleThen 0 0 [.ref (mA E.b v0), .int v1, .int v2, .int v3, .int v4] E S (r, S) := by
  refine m_met_i (by decide) (Nat.le_of_ble_eq_true rfl) (fun p e s m args below meth c ls hin C hI hl => ?_)
  have hx := C.1
  have hb := C.2.1
  have hl : lv_has ls 5 [(0, .ref (mA E.b v0)), (1, .int v1), (2, .int v2), (3, .int v3), (4, .int v4)] := hl
  generalize s.heap = H at hI ⊢
  generalize ([] : List Loc) = locs at hI ⊢
  refine lv_iload_n hx hb dX7_whistleThen_0 rfl (lv_at hl 3 rfl) ?_
  refine lv_iconst (v := 4) hx hb dX7_whistleThen_1 (by decide) ?_
  refine m_icmp_ne C (tgt := 9) hF dX7_whistleThen_2 (by decide) (fun hF => ?_) (fun hF => ?_)
  · refine lv_iload_n hx hb dX7_whistleThen_9 rfl (lv_at hl 2 rfl) ?_
    refine lv_iload_n hx hb dX7_whistleThen_10 rfl (lv_at hl 3 rfl) ?_
    refine lv_aload_n hx hb dX7_whistleThen_11 rfl (lv_at hl 0 rfl) ?_
    refine m_getR C fd_X7_17 hI hF dX7_whistleThen_12 (fun r1 hF => ?_)
    refine lv_iload_n hx hb dX7_whistleThen_15 rfl (lv_at hl 1 rfl) ?_
    refine m_iald C hI hF dX7_whistleThen_16 (fun r2 hF => ?_)
    refine lv_iload hx hb dX7_whistleThen_17 (lv_at hl 4 rfl) ?_
    refine m_callSiR C cd_X7_196 hl.1 hI hF (fun _ h => ok_X7_goesBy h) rfl rfl ⟨rfl, rfl, Nat.le_of_ble_eq_true rfl, Nat.le_of_ble_eq_true rfl⟩ ⟨Nat.le_of_ble_eq_true rfl, Nat.le_of_ble_eq_true rfl⟩ (Nat.le_of_ble_eq_true rfl) dX7_whistleThen_19 (fun r3 H locs hF hI => ?_)
    refine m_callSiR C cd_X7_199 hl.1 hI hF (fun _ h => ok_X7_moved h) rfl rfl ⟨rfl, rfl, Nat.le_of_ble_eq_true rfl, Nat.le_of_ble_eq_true rfl⟩ ⟨Nat.le_of_ble_eq_true rfl, Nat.le_of_ble_eq_true rfl⟩ (Nat.le_of_ble_eq_true rfl) dX7_whistleThen_22 (fun r4 H locs hF hI => ?_)
    exact (bl_X7_whistleThen_25 C) r4 _ _ _ hF hI (lv_sub hl [] rfl)
  · refine lv_iload_n hx hb dX7_whistleThen_5 rfl (lv_at hl 2 rfl) ?_
    refine lv_goto (tgt := 25) hx hb dX7_whistleThen_6 (by decide) ?_
    exact (bl_X7_whistleThen_25 C) v2 _ _ _ hF hI (lv_sub hl [] rfl)
noncomputable def f_X7_givesBy_83 (t0 : Int32) : Option Int32 := some t0
noncomputable def f_X7_givesBy_98 (t0 : Int32) : Option Int32 := some t0
noncomputable def f_X7_givesBy_35 (v0 : Int32) (v1 : Int32) (v2 : Int32) (v3 : Int32) (t0 : Int32) : Option Int32 := if v0 = 1 then (some v3) else if v0 = 2 then (if v1 = 0 then ((f_X7_givesBy_83) v2) else ((f_X7_givesBy_83) 0)) else if v0 = 3 then (if 3 < v1 then ((f_X7_givesBy_98) v3) else (mCp (f_X7_greater 1 v3) (fun r1 => (f_X7_givesBy_98) r1))) else if v0 = 4 then (some t0) else if v0 = 5 then (mCp (f_X7_lesser 3 (2 * t0)) (fun r2 => some r2)) else (some v2)
noncomputable def f_X7_givesBy_22 (v0 : Int32) (v1 : Int32) (v2 : Int32) (t0 : Int32) : Option Int32 := if 2 < v1 then ((f_X7_givesBy_35) v0 v1 v2 t0 v2) else ((f_X7_givesBy_35) v0 v1 v2 t0 (v2 + 1))
noncomputable def f_X7_givesBy_10 (v0 : Int32) (v1 : Int32) (t0 : Int32) : Option Int32 := if v1 = 0 then ((f_X7_givesBy_22) v0 v1 t0 (t0 + 2)) else ((f_X7_givesBy_22) v0 v1 t0 t0)
noncomputable def f_X7_givesBy (v0 : Int32) (v1 : Int32) : Option Int32 := if 1 < v1 then ((f_X7_givesBy_10) v0 v1 0) else ((f_X7_givesBy_10) v0 v1 1)
def rm_X7_givesBy : Room := { frames := 1, cells := 0, slots := 0, locals := 21 }
set_option maxRecDepth 100000 in
set_option maxHeartbeats 4000000 in
theorem bl_X7_givesBy_83 {p : Program} {l : Launch} {e : Env} {s : State} {m : MethodId} {args : Array Value} {below : List Frame} {meth : Method} {c : Code} {E : mE} {n0 : Nat} {r : Int32} {S : mS} (C : mCx p s m args meth c cX7_givesBy 5 RX7 (some .int) E n0) : ∀  (t0 : Int32) (H : Heap) (locs : List Loc) (ls : Array Slot), f_X7_givesBy_83 t0 = some r → mIv s E S H locs 0 → lv_has ls 5 [] → W p l e rm_X7_givesBy s m args below meth c H locs 0 0 (mQi below args s 0 0 n0 E (r, S)) (F0 m 83 ls [.int t0]) := by
  have hx := C.1
  have hb := C.2.1
  intro t0 H locs ls hF hI hl
  exact m_iretiR C hI hF dX7_givesBy_83
set_option maxRecDepth 100000 in
set_option maxHeartbeats 4000000 in
theorem bl_X7_givesBy_98 {p : Program} {l : Launch} {e : Env} {s : State} {m : MethodId} {args : Array Value} {below : List Frame} {meth : Method} {c : Code} {E : mE} {n0 : Nat} {r : Int32} {S : mS} (C : mCx p s m args meth c cX7_givesBy 5 RX7 (some .int) E n0) : ∀  (t0 : Int32) (H : Heap) (locs : List Loc) (ls : Array Slot), f_X7_givesBy_98 t0 = some r → mIv s E S H locs 0 → lv_has ls 5 [] → W p l e rm_X7_givesBy s m args below meth c H locs 0 0 (mQi below args s 0 0 n0 E (r, S)) (F0 m 98 ls [.int t0]) := by
  have hx := C.1
  have hb := C.2.1
  intro t0 H locs ls hF hI hl
  exact m_iretiR C hI hF dX7_givesBy_98
set_option maxRecDepth 100000 in
set_option maxHeartbeats 4000000 in
theorem bl_X7_givesBy_35 {p : Program} {l : Launch} {e : Env} {s : State} {m : MethodId} {args : Array Value} {below : List Frame} {meth : Method} {c : Code} {E : mE} {n0 : Nat} {r : Int32} {S : mS} (C : mCx p s m args meth c cX7_givesBy 5 RX7 (some .int) E n0) : ∀  (v0 : Int32) (v1 : Int32) (v2 : Int32) (v3 : Int32) (t0 : Int32) (H : Heap) (locs : List Loc) (ls : Array Slot), f_X7_givesBy_35 v0 v1 v2 v3 t0 = some r → mIv s E S H locs 0 → lv_has ls 5 [(0, .int v0), (1, .int v1), (2, .int v2), (3, .int v3)] → W p l e rm_X7_givesBy s m args below meth c H locs 0 0 (mQi below args s 0 0 n0 E (r, S)) (F0 m 35 ls [.int t0]) := by
  have hx := C.1
  have hb := C.2.1
  intro v0 v1 v2 v3 t0 H locs ls hF hI hl
  refine lv_istore (lv' := [(4, .int t0), (0, .int v0), (1, .int v1), (2, .int v2), (3, .int v3)]) hx hb dX7_givesBy_35 hl (by decide) rfl (fun ls hl => ?_)
  refine lv_iload_n hx hb dX7_givesBy_37 rfl (lv_at hl 1 rfl) ?_
  refine m_if hF (fun c1 hF => ?_) (fun c1 hF => ?_)
  · refine m_swIn C dX7_givesBy_38 c1 1 rfl (by decide) (by decide) rfl (tgt := 72) (by decide) ?_
    refine lv_iload_n hx hb dX7_givesBy_72 rfl (lv_at hl 4 rfl) ?_
    exact m_iretiR C hI hF dX7_givesBy_73
  refine m_if hF (fun c2 hF => ?_) (fun c2 hF => ?_)
  · refine m_swIn C dX7_givesBy_38 c2 2 rfl (by decide) (by decide) rfl (tgt := 74) (by decide) ?_
    refine lv_iload_n hx hb dX7_givesBy_74 rfl (lv_at hl 2 rfl) ?_
    refine m_if_ne C (tgt := 82) hF dX7_givesBy_75 (by decide) (fun hF => ?_) (fun hF => ?_)
    · refine lv_iconst (v := 0) hx hb dX7_givesBy_82 (by decide) ?_
      exact (bl_X7_givesBy_83 C) 0 _ _ _ hF hI (lv_sub hl [] rfl)
    · refine lv_iload_n hx hb dX7_givesBy_78 rfl (lv_at hl 3 rfl) ?_
      refine lv_goto (tgt := 83) hx hb dX7_givesBy_79 (by decide) ?_
      exact (bl_X7_givesBy_83 C) v2 _ _ _ hF hI (lv_sub hl [] rfl)
  refine m_if hF (fun c3 hF => ?_) (fun c3 hF => ?_)
  · refine m_swIn C dX7_givesBy_38 c3 3 rfl (by decide) (by decide) rfl (tgt := 84) (by decide) ?_
    refine lv_iload_n hx hb dX7_givesBy_84 rfl (lv_at hl 2 rfl) ?_
    refine lv_iconst (v := 3) hx hb dX7_givesBy_85 (by decide) ?_
    refine m_icmp_gt C (tgt := 97) hF dX7_givesBy_86 (by decide) (fun hF => ?_) (fun hF => ?_)
    · refine lv_iload_n hx hb dX7_givesBy_97 rfl (lv_at hl 4 rfl) ?_
      exact (bl_X7_givesBy_98 C) v3 _ _ _ hF hI (lv_sub hl [] rfl)
    · refine lv_iconst (v := 1) hx hb dX7_givesBy_89 (by decide) ?_
      refine lv_iload_n hx hb dX7_givesBy_90 rfl (lv_at hl 4 rfl) ?_
      refine m_callSiR C cd_X7_190 hl.1 hI hF (fun _ h => ok_X7_greater h) rfl rfl ⟨rfl, rfl, Nat.le_of_ble_eq_true rfl, Nat.le_of_ble_eq_true rfl⟩ ⟨Nat.le_of_ble_eq_true rfl, Nat.le_of_ble_eq_true rfl⟩ (Nat.le_of_ble_eq_true rfl) dX7_givesBy_91 (fun r1 H locs hF hI => ?_)
      refine lv_goto (tgt := 98) hx hb dX7_givesBy_94 (by decide) ?_
      exact (bl_X7_givesBy_98 C) r1 _ _ _ hF hI (lv_sub hl [] rfl)
  refine m_if hF (fun c4 hF => ?_) (fun c4 hF => ?_)
  · refine m_swIn C dX7_givesBy_38 c4 4 rfl (by decide) (by decide) rfl (tgt := 99) (by decide) ?_
    refine lv_iload hx hb dX7_givesBy_99 (lv_at hl 0 rfl) ?_
    exact m_iretiR C hI hF dX7_givesBy_101
  refine m_if hF (fun c5 hF => ?_) (fun c5 hF => ?_)
  · refine m_swIn C dX7_givesBy_38 c5 5 rfl (by decide) (by decide) rfl (tgt := 102) (by decide) ?_
    refine lv_iconst (v := 3) hx hb dX7_givesBy_102 (by decide) ?_
    refine lv_iconst (v := 2) hx hb dX7_givesBy_103 (by decide) ?_
    refine lv_iload hx hb dX7_givesBy_104 (lv_at hl 0 rfl) ?_
    refine lv_imul hx hb dX7_givesBy_106 ?_
    refine m_callSiR C cd_X7_158 hl.1 hI hF (fun _ h => ok_X7_lesser h) rfl rfl ⟨rfl, rfl, Nat.le_of_ble_eq_true rfl, Nat.le_of_ble_eq_true rfl⟩ ⟨Nat.le_of_ble_eq_true rfl, Nat.le_of_ble_eq_true rfl⟩ (Nat.le_of_ble_eq_true rfl) dX7_givesBy_107 (fun r2 H locs hF hI => ?_)
    exact m_iretiR C hI hF dX7_givesBy_110
  refine lv_tableOut (tgt := 111) hx hb dX7_givesBy_38 (by have := lv_neT c1 (a := 1) rfl; have := lv_neT c2 (a := 2) rfl; have := lv_neT c3 (a := 3) rfl; have := lv_neT c4 (a := 4) rfl; have := lv_neT c5 (a := 5) rfl; omega) (by decide) ?_
  refine lv_iload_n hx hb dX7_givesBy_111 rfl (lv_at hl 3 rfl) ?_
  exact m_iretiR C hI hF dX7_givesBy_112
set_option maxRecDepth 100000 in
set_option maxHeartbeats 4000000 in
theorem bl_X7_givesBy_22 {p : Program} {l : Launch} {e : Env} {s : State} {m : MethodId} {args : Array Value} {below : List Frame} {meth : Method} {c : Code} {E : mE} {n0 : Nat} {r : Int32} {S : mS} (C : mCx p s m args meth c cX7_givesBy 5 RX7 (some .int) E n0) : ∀  (v0 : Int32) (v1 : Int32) (v2 : Int32) (t0 : Int32) (H : Heap) (locs : List Loc) (ls : Array Slot), f_X7_givesBy_22 v0 v1 v2 t0 = some r → mIv s E S H locs 0 → lv_has ls 5 [(0, .int v0), (1, .int v1), (2, .int v2)] → W p l e rm_X7_givesBy s m args below meth c H locs 0 0 (mQi below args s 0 0 n0 E (r, S)) (F0 m 22 ls [.int t0]) := by
  have hx := C.1
  have hb := C.2.1
  intro v0 v1 v2 t0 H locs ls hF hI hl
  refine lv_istore_n (lv' := [(3, .int t0), (0, .int v0), (1, .int v1), (2, .int v2)]) hx hb dX7_givesBy_22 rfl hl (by decide) rfl (fun ls hl => ?_)
  refine lv_iload_n hx hb dX7_givesBy_23 rfl (lv_at hl 2 rfl) ?_
  refine lv_iconst (v := 2) hx hb dX7_givesBy_24 (by decide) ?_
  refine m_icmp_gt C (tgt := 34) hF dX7_givesBy_25 (by decide) (fun hF => ?_) (fun hF => ?_)
  · refine lv_iload_n hx hb dX7_givesBy_34 rfl (lv_at hl 3 rfl) ?_
    exact (bl_X7_givesBy_35 C) v0 v1 v2 t0 v2 _ _ _ hF hI (lv_sub hl [1, 2, 3, 0] rfl)
  · refine lv_iload_n hx hb dX7_givesBy_28 rfl (lv_at hl 3 rfl) ?_
    refine lv_iconst (v := 1) hx hb dX7_givesBy_29 (by decide) ?_
    refine lv_iadd hx hb dX7_givesBy_30 ?_
    refine lv_goto (tgt := 35) hx hb dX7_givesBy_31 (by decide) ?_
    exact (bl_X7_givesBy_35 C) v0 v1 v2 t0 (v2 + 1) _ _ _ hF hI (lv_sub hl [1, 2, 3, 0] rfl)
set_option maxRecDepth 100000 in
set_option maxHeartbeats 4000000 in
theorem bl_X7_givesBy_10 {p : Program} {l : Launch} {e : Env} {s : State} {m : MethodId} {args : Array Value} {below : List Frame} {meth : Method} {c : Code} {E : mE} {n0 : Nat} {r : Int32} {S : mS} (C : mCx p s m args meth c cX7_givesBy 5 RX7 (some .int) E n0) : ∀  (v0 : Int32) (v1 : Int32) (t0 : Int32) (H : Heap) (locs : List Loc) (ls : Array Slot), f_X7_givesBy_10 v0 v1 t0 = some r → mIv s E S H locs 0 → lv_has ls 5 [(0, .int v0), (1, .int v1)] → W p l e rm_X7_givesBy s m args below meth c H locs 0 0 (mQi below args s 0 0 n0 E (r, S)) (F0 m 10 ls [.int t0]) := by
  have hx := C.1
  have hb := C.2.1
  intro v0 v1 t0 H locs ls hF hI hl
  refine lv_istore_n (lv' := [(2, .int t0), (0, .int v0), (1, .int v1)]) hx hb dX7_givesBy_10 rfl hl (by decide) rfl (fun ls hl => ?_)
  refine lv_iload_n hx hb dX7_givesBy_11 rfl (lv_at hl 2 rfl) ?_
  refine m_if_ne C (tgt := 21) hF dX7_givesBy_12 (by decide) (fun hF => ?_) (fun hF => ?_)
  · refine lv_iload_n hx hb dX7_givesBy_21 rfl (lv_at hl 0 rfl) ?_
    exact (bl_X7_givesBy_22 C) v0 v1 t0 t0 _ _ _ hF hI (lv_sub hl [1, 2, 0] rfl)
  · refine lv_iload_n hx hb dX7_givesBy_15 rfl (lv_at hl 0 rfl) ?_
    refine lv_iconst (v := 2) hx hb dX7_givesBy_16 (by decide) ?_
    refine lv_iadd hx hb dX7_givesBy_17 ?_
    refine lv_goto (tgt := 22) hx hb dX7_givesBy_18 (by decide) ?_
    exact (bl_X7_givesBy_22 C) v0 v1 t0 (t0 + 2) _ _ _ hF hI (lv_sub hl [1, 2, 0] rfl)
set_option maxRecDepth 100000 in
set_option maxHeartbeats 4000000 in
theorem ok_X7_givesBy {l : Launch} {E : mE} {v0 : Int32} {v1 : Int32} {S : mS} {r : Int32} (hF : f_X7_givesBy v0 v1 = some r) : mMi l yX7_givesBy cX7_givesBy 5 (some .int) rm_X7_givesBy 0 0 [.int v0, .int v1] E S (r, S) := by
  refine m_met_i (by decide) (Nat.le_of_ble_eq_true rfl) (fun p e s m args below meth c ls hin C hI hl => ?_)
  have hx := C.1
  have hb := C.2.1
  have hl : lv_has ls 5 [(0, .int v0), (1, .int v1)] := hl
  generalize s.heap = H at hI ⊢
  generalize ([] : List Loc) = locs at hI ⊢
  refine lv_iload_n hx hb dX7_givesBy_0 rfl (lv_at hl 1 rfl) ?_
  refine lv_iconst (v := 1) hx hb dX7_givesBy_1 (by decide) ?_
  refine m_icmp_gt C (tgt := 9) hF dX7_givesBy_2 (by decide) (fun hF => ?_) (fun hF => ?_)
  · refine lv_iconst (v := 0) hx hb dX7_givesBy_9 (by decide) ?_
    exact (bl_X7_givesBy_10 C) v0 v1 0 _ _ _ hF hI (lv_sub hl [0, 1] rfl)
  · refine lv_iconst (v := 1) hx hb dX7_givesBy_5 (by decide) ?_
    refine lv_goto (tgt := 10) hx hb dX7_givesBy_6 (by decide) ?_
    exact (bl_X7_givesBy_10 C) v0 v1 1 _ _ _ hF hI (lv_sub hl [0, 1] rfl)
noncomputable def f_X7_sheepThen_95 (S : mS) (v4 : Int32) (t0 : Int32) (t1 : Int32) : Option Int32 := mCp (f_X7_moved t0 t1 v4) (fun r6 => some r6)
noncomputable def f_X7_sheepThen_64 (S : mS) (v2 : Int32) (v4 : Int32) (v5 : Int32) (v6 : Int32) (t0 : Int32) : Option Int32 := if t0 = 0 then (if v6 < 0 then ((f_X7_sheepThen_95 S) v4 v2 3) else ((f_X7_sheepThen_95 S) v4 v2 1)) else (if v5 ≤ 0 then ((f_X7_sheepThen_95 S) v4 v2 0) else ((f_X7_sheepThen_95 S) v4 v2 2))
noncomputable def f_X7_sheepThen_63 (S : mS) (v2 : Int32) (v4 : Int32) (v5 : Int32) (v6 : Int32) : Option Int32 := (f_X7_sheepThen_64 S) v2 v4 v5 v6 0
noncomputable def f_X7_sheepThen (v0 : Int32) (v1 : Int32) (v2 : Int32) (v3 : Int32) (S : mS) : Option Int32 := mGr 7 10 v0 S (fun r1 => mX 8 r1 v1 S (fun r2 => mCp (f_X7_far v2 v3) (fun r3 => mCp (f_X7_givesBy r2 r3) (fun r4 => mCp (f_X7_off ((v2 / 5) - (v3 / 5)) 0) (fun r5 => if r5 < 1 then ((f_X7_sheepThen_63 S) v2 r4 ((v2 / 5) - (v3 / 5)) ((mRem v2 5) - (mRem v3 5))) else (mCp (f_X7_off ((mRem v2 5) - (mRem v3 5)) 0) (fun r7 => if r5 < r7 then ((f_X7_sheepThen_63 S) v2 r4 ((v2 / 5) - (v3 / 5)) ((mRem v2 5) - (mRem v3 5))) else ((f_X7_sheepThen_64 S) v2 r4 ((v2 / 5) - (v3 / 5)) ((mRem v2 5) - (mRem v3 5)) 1))))))))
def rm_X7_sheepThen : Room := { frames := 2, cells := 0, slots := 0, locals := 45 }
set_option maxRecDepth 100000 in
set_option maxHeartbeats 4000000 in
theorem bl_X7_sheepThen_95 {p : Program} {l : Launch} {e : Env} {s : State} {m : MethodId} {args : Array Value} {below : List Frame} {meth : Method} {c : Code} {E : mE} {n0 : Nat} {r : Int32} {S : mS} (C : mCx p s m args meth c cX7_sheepThen 9 RX7 (some .int) E n0) : ∀  (v4 : Int32) (t0 : Int32) (t1 : Int32) (H : Heap) (locs : List Loc) (ls : Array Slot), f_X7_sheepThen_95 S v4 t0 t1 = some r → mIv s E S H locs 0 → lv_has ls 9 [(4, .int v4)] → W p l e rm_X7_sheepThen s m args below meth c H locs 0 0 (mQi below args s 0 0 n0 E (r, S)) (F0 m 95 ls [.int t1, .int t0]) := by
  have hx := C.1
  have hb := C.2.1
  intro v4 t0 t1 H locs ls hF hI hl
  refine lv_iload hx hb dX7_sheepThen_95 (lv_at hl 0 rfl) ?_
  refine m_callSiR C cd_X7_199 hl.1 hI hF (fun _ h => ok_X7_moved h) rfl rfl ⟨rfl, rfl, Nat.le_of_ble_eq_true rfl, Nat.le_of_ble_eq_true rfl⟩ ⟨Nat.le_of_ble_eq_true rfl, Nat.le_of_ble_eq_true rfl⟩ (Nat.le_of_ble_eq_true rfl) dX7_sheepThen_97 (fun r6 H locs hF hI => ?_)
  exact m_iretiR C hI hF dX7_sheepThen_100
set_option maxRecDepth 100000 in
set_option maxHeartbeats 4000000 in
theorem bl_X7_sheepThen_64 {p : Program} {l : Launch} {e : Env} {s : State} {m : MethodId} {args : Array Value} {below : List Frame} {meth : Method} {c : Code} {E : mE} {n0 : Nat} {r : Int32} {S : mS} (C : mCx p s m args meth c cX7_sheepThen 9 RX7 (some .int) E n0) : ∀  (v2 : Int32) (v4 : Int32) (v5 : Int32) (v6 : Int32) (t0 : Int32) (H : Heap) (locs : List Loc) (ls : Array Slot), f_X7_sheepThen_64 S v2 v4 v5 v6 t0 = some r → mIv s E S H locs 0 → lv_has ls 9 [(2, .int v2), (4, .int v4), (5, .int v5), (6, .int v6)] → W p l e rm_X7_sheepThen s m args below meth c H locs 0 0 (mQi below args s 0 0 n0 E (r, S)) (F0 m 64 ls [.int t0]) := by
  have hx := C.1
  have hb := C.2.1
  intro v2 v4 v5 v6 t0 H locs ls hF hI hl
  refine lv_istore (lv' := [(8, .int t0), (2, .int v2), (4, .int v4), (5, .int v5), (6, .int v6)]) hx hb dX7_sheepThen_64 hl (by decide) rfl (fun ls hl => ?_)
  refine lv_iload_n hx hb dX7_sheepThen_66 rfl (lv_at hl 1 rfl) ?_
  refine lv_iload hx hb dX7_sheepThen_67 (lv_at hl 0 rfl) ?_
  refine m_if_eq C (tgt := 85) hF dX7_sheepThen_69 (by decide) (fun hF => ?_) (fun hF => ?_)
  · refine lv_iload hx hb dX7_sheepThen_85 (lv_at hl 4 rfl) ?_
    refine m_if_lt C (tgt := 94) hF dX7_sheepThen_87 (by decide) (fun hF => ?_) (fun hF => ?_)
    · refine lv_iconst (v := 3) hx hb dX7_sheepThen_94 (by decide) ?_
      exact (bl_X7_sheepThen_95 C) v4 v2 3 _ _ _ hF hI (lv_sub hl [2] rfl)
    · refine lv_iconst (v := 1) hx hb dX7_sheepThen_90 (by decide) ?_
      refine lv_goto (tgt := 95) hx hb dX7_sheepThen_91 (by decide) ?_
      exact (bl_X7_sheepThen_95 C) v4 v2 1 _ _ _ hF hI (lv_sub hl [2] rfl)
  · refine lv_iload hx hb dX7_sheepThen_72 (lv_at hl 3 rfl) ?_
    refine m_if_le C (tgt := 81) hF dX7_sheepThen_74 (by decide) (fun hF => ?_) (fun hF => ?_)
    · refine lv_iconst (v := 0) hx hb dX7_sheepThen_81 (by decide) ?_
      refine lv_goto (tgt := 95) hx hb dX7_sheepThen_82 (by decide) ?_
      exact (bl_X7_sheepThen_95 C) v4 v2 0 _ _ _ hF hI (lv_sub hl [2] rfl)
    · refine lv_iconst (v := 2) hx hb dX7_sheepThen_77 (by decide) ?_
      refine lv_goto (tgt := 95) hx hb dX7_sheepThen_78 (by decide) ?_
      exact (bl_X7_sheepThen_95 C) v4 v2 2 _ _ _ hF hI (lv_sub hl [2] rfl)
set_option maxRecDepth 100000 in
set_option maxHeartbeats 4000000 in
theorem bl_X7_sheepThen_63 {p : Program} {l : Launch} {e : Env} {s : State} {m : MethodId} {args : Array Value} {below : List Frame} {meth : Method} {c : Code} {E : mE} {n0 : Nat} {r : Int32} {S : mS} (C : mCx p s m args meth c cX7_sheepThen 9 RX7 (some .int) E n0) : ∀  (v2 : Int32) (v4 : Int32) (v5 : Int32) (v6 : Int32) (H : Heap) (locs : List Loc) (ls : Array Slot), f_X7_sheepThen_63 S v2 v4 v5 v6 = some r → mIv s E S H locs 0 → lv_has ls 9 [(2, .int v2), (4, .int v4), (5, .int v5), (6, .int v6)] → W p l e rm_X7_sheepThen s m args below meth c H locs 0 0 (mQi below args s 0 0 n0 E (r, S)) (F0 m 63 ls []) := by
  have hx := C.1
  have hb := C.2.1
  intro v2 v4 v5 v6 H locs ls hF hI hl
  refine lv_iconst (v := 0) hx hb dX7_sheepThen_63 (by decide) ?_
  exact (bl_X7_sheepThen_64 C) v2 v4 v5 v6 0 _ _ _ hF hI (lv_sub hl [0, 1, 2, 3] rfl)
set_option maxRecDepth 100000 in
set_option maxHeartbeats 4000000 in
theorem ok_X7_sheepThen {l : Launch} {E : mE} {v0 : Int32} {v1 : Int32} {v2 : Int32} {v3 : Int32} {S : mS} {r : Int32} (hF : f_X7_sheepThen v0 v1 v2 v3 S = some r) : mMi l yX7_sheepThen cX7_sheepThen 9 (some .int) rm_X7_sheepThen 0 0 [.ref (mA E.b v0), .int v1, .int v2, .int v3] E S (r, S) := by
  refine m_met_i (by decide) (Nat.le_of_ble_eq_true rfl) (fun p e s m args below meth c ls hin C hI hl => ?_)
  have hx := C.1
  have hb := C.2.1
  have hl : lv_has ls 9 [(0, .ref (mA E.b v0)), (1, .int v1), (2, .int v2), (3, .int v3)] := hl
  generalize s.heap = H at hI ⊢
  generalize ([] : List Loc) = locs at hI ⊢
  refine lv_aload_n hx hb dX7_sheepThen_0 rfl (lv_at hl 0 rfl) ?_
  refine m_getR C fd_X7_23 hI hF dX7_sheepThen_1 (fun r1 hF => ?_)
  refine lv_iload_n hx hb dX7_sheepThen_4 rfl (lv_at hl 1 rfl) ?_
  refine m_iald C hI hF dX7_sheepThen_5 (fun r2 hF => ?_)
  refine lv_iload_n hx hb dX7_sheepThen_6 rfl (lv_at hl 2 rfl) ?_
  refine lv_iload_n hx hb dX7_sheepThen_7 rfl (lv_at hl 3 rfl) ?_
  refine m_callSiR C cd_X7_203 hl.1 hI hF (fun _ h => ok_X7_far h) rfl rfl ⟨rfl, rfl, Nat.le_of_ble_eq_true rfl, Nat.le_of_ble_eq_true rfl⟩ ⟨Nat.le_of_ble_eq_true rfl, Nat.le_of_ble_eq_true rfl⟩ (Nat.le_of_ble_eq_true rfl) dX7_sheepThen_8 (fun r3 H locs hF hI => ?_)
  refine m_callSiR C cd_X7_206 hl.1 hI hF (fun _ h => ok_X7_givesBy h) rfl rfl ⟨rfl, rfl, Nat.le_of_ble_eq_true rfl, Nat.le_of_ble_eq_true rfl⟩ ⟨Nat.le_of_ble_eq_true rfl, Nat.le_of_ble_eq_true rfl⟩ (Nat.le_of_ble_eq_true rfl) dX7_sheepThen_11 (fun r4 H locs hF hI => ?_)
  refine lv_istore (lv' := [(4, .int r4), (0, .ref (mA E.b v0)), (1, .int v1), (2, .int v2), (3, .int v3)]) hx hb dX7_sheepThen_14 hl (by decide) rfl (fun ls hl => ?_)
  refine lv_iload_n hx hb dX7_sheepThen_16 rfl (lv_at hl 3 rfl) ?_
  refine lv_iconst (v := 5) hx hb dX7_sheepThen_17 (by decide) ?_
  refine lv_idiv hx hb dX7_sheepThen_18 (by decide) ?_
  refine lv_iload_n hx hb dX7_sheepThen_19 rfl (lv_at hl 4 rfl) ?_
  refine lv_iconst (v := 5) hx hb dX7_sheepThen_20 (by decide) ?_
  refine lv_idiv hx hb dX7_sheepThen_21 (by decide) ?_
  refine lv_isub hx hb dX7_sheepThen_22 ?_
  refine lv_istore (lv' := [(5, .int ((v2 / 5) - (v3 / 5))), (4, .int r4), (0, .ref (mA E.b v0)), (1, .int v1), (2, .int v2), (3, .int v3)]) hx hb dX7_sheepThen_23 hl (by decide) rfl (fun ls hl => ?_)
  refine lv_iload_n hx hb dX7_sheepThen_25 rfl (lv_at hl 4 rfl) ?_
  refine lv_iconst (v := 5) hx hb dX7_sheepThen_26 (by decide) ?_
  refine m_irem C dX7_sheepThen_27 (by decide) ?_
  refine lv_iload_n hx hb dX7_sheepThen_28 rfl (lv_at hl 5 rfl) ?_
  refine lv_iconst (v := 5) hx hb dX7_sheepThen_29 (by decide) ?_
  refine m_irem C dX7_sheepThen_30 (by decide) ?_
  refine lv_isub hx hb dX7_sheepThen_31 ?_
  refine lv_istore (lv' := [(6, .int ((mRem v2 5) - (mRem v3 5))), (5, .int ((v2 / 5) - (v3 / 5))), (4, .int r4), (0, .ref (mA E.b v0)), (1, .int v1), (2, .int v2), (3, .int v3)]) hx hb dX7_sheepThen_32 hl (by decide) rfl (fun ls hl => ?_)
  refine lv_iload hx hb dX7_sheepThen_34 (lv_at hl 1 rfl) ?_
  refine lv_iconst (v := 0) hx hb dX7_sheepThen_36 (by decide) ?_
  refine m_callSiR C cd_X7_7 hl.1 hI hF (fun _ h => ok_X7_off h) rfl rfl ⟨rfl, rfl, Nat.le_of_ble_eq_true rfl, Nat.le_of_ble_eq_true rfl⟩ ⟨Nat.le_of_ble_eq_true rfl, Nat.le_of_ble_eq_true rfl⟩ (Nat.le_of_ble_eq_true rfl) dX7_sheepThen_37 (fun r5 H locs hF hI => ?_)
  refine lv_istore (lv' := [(7, .int r5), (6, .int ((mRem v2 5) - (mRem v3 5))), (5, .int ((v2 / 5) - (v3 / 5))), (4, .int r4), (0, .ref (mA E.b v0)), (1, .int v1), (2, .int v2), (3, .int v3)]) hx hb dX7_sheepThen_40 hl (by decide) rfl (fun ls hl => ?_)
  refine lv_iload hx hb dX7_sheepThen_42 (lv_at hl 0 rfl) ?_
  refine lv_iconst (v := 1) hx hb dX7_sheepThen_44 (by decide) ?_
  refine m_icmp_lt C (tgt := 63) hF dX7_sheepThen_45 (by decide) (fun hF => ?_) (fun hF => ?_)
  · exact (bl_X7_sheepThen_63 C) v2 r4 ((v2 / 5) - (v3 / 5)) ((mRem v2 5) - (mRem v3 5)) _ _ _ hF hI (lv_sub hl [6, 3, 2, 1] rfl)
  · refine lv_iload hx hb dX7_sheepThen_48 (lv_at hl 0 rfl) ?_
    refine lv_iload hx hb dX7_sheepThen_50 (lv_at hl 1 rfl) ?_
    refine lv_iconst (v := 0) hx hb dX7_sheepThen_52 (by decide) ?_
    refine m_callSiR C cd_X7_7 hl.1 hI hF (fun _ h => ok_X7_off h) rfl rfl ⟨rfl, rfl, Nat.le_of_ble_eq_true rfl, Nat.le_of_ble_eq_true rfl⟩ ⟨Nat.le_of_ble_eq_true rfl, Nat.le_of_ble_eq_true rfl⟩ (Nat.le_of_ble_eq_true rfl) dX7_sheepThen_53 (fun r7 H locs hF hI => ?_)
    refine m_icmp_lt C (tgt := 63) hF dX7_sheepThen_56 (by decide) (fun hF => ?_) (fun hF => ?_)
    · exact (bl_X7_sheepThen_63 C) v2 r4 ((v2 / 5) - (v3 / 5)) ((mRem v2 5) - (mRem v3 5)) _ _ _ hF hI (lv_sub hl [6, 3, 2, 1] rfl)
    · refine lv_iconst (v := 1) hx hb dX7_sheepThen_59 (by decide) ?_
      refine lv_goto (tgt := 64) hx hb dX7_sheepThen_60 (by decide) ?_
      exact (bl_X7_sheepThen_64 C) v2 r4 ((v2 / 5) - (v3 / 5)) ((mRem v2 5) - (mRem v3 5)) 1 _ _ _ hF hI (lv_sub hl [6, 3, 2, 1] rfl)
noncomputable def f_X7_comes_75 (k27 : Int32 → Int32 → Int32 → Int32 → mS → Option (Int32 × mS)) (v0 : Int32) (v1 : Int32) (v4 : Int32) (v5 : Int32) (t0 : Int32) (t1 : Int32) (S : mS) : Option (Int32 × mS) := mGr 7 11 v0 S (fun r15 => mXs r15 v4 v5 S (fun S16 => k27 v0 v1 (t0 + t1) (v4 + 1) S16))
noncomputable def f_X7_comes_27 (k92 : Int32 → Int32 → mS → Option (Int32 × mS)) : Nat → Int32 → Int32 → Int32 → Int32 → mS → Option (Int32 × mS) := fun n => Nat.rec (motive := fun _ => Int32 → Int32 → Int32 → Int32 → mS → Option (Int32 × mS)) (fun _ _ _ _ _ => none) (fun _ rec v0 v1 v3 v4 S => mG 7 2 v0 S (fun r7 => if r7 ≤ v4 then (k92 v0 v3 S) else (mGr 7 11 v0 S (fun r8 => mX 8 r8 v4 S (fun r9 => mGr 7 9 v0 S (fun r10 => mX 8 r10 v1 S (fun r11 => mRc 7 v0 S (mCp (f_X7_sheepThen v0 v4 r9 r11 S) (fun r12 => mGr 7 11 v0 S (fun r13 => mX 8 r13 v4 S (fun r14 => if r12 = r14 then ((f_X7_comes_75 rec) v0 v1 v4 r12 v3 0 S) else ((f_X7_comes_75 rec) v0 v1 v4 r12 v3 1 S)))))))))))) n
theorem f_X7_comes_27_s (k92 : Int32 → Int32 → mS → Option (Int32 × mS)) (n : Nat) (v0 : Int32) (v1 : Int32) (v3 : Int32) (v4 : Int32) (S : mS) : f_X7_comes_27 k92 (n + 1) v0 v1 v3 v4 S = mG 7 2 v0 S (fun r7 => if r7 ≤ v4 then (k92 v0 v3 S) else (mGr 7 11 v0 S (fun r8 => mX 8 r8 v4 S (fun r9 => mGr 7 9 v0 S (fun r10 => mX 8 r10 v1 S (fun r11 => mRc 7 v0 S (mCp (f_X7_sheepThen v0 v4 r9 r11 S) (fun r12 => mGr 7 11 v0 S (fun r13 => mX 8 r13 v4 S (fun r14 => if r12 = r14 then ((f_X7_comes_75 (f_X7_comes_27 k92 n)) v0 v1 v4 r12 v3 0 S) else ((f_X7_comes_75 (f_X7_comes_27 k92 n)) v0 v1 v4 r12 v3 1 S))))))))))) := rfl
noncomputable def f_X7_comes_92 (v0 : Int32) (v3 : Int32) (S : mS) : Option (Int32 × mS) := mG 7 4 v0 S (fun r17 => mP 7 4 v0 (r17 + 1) S (fun S18 => some (v3, S18)))
noncomputable def f_X7_comes (v0 : Int32) (v1 : Int32) (v2 : Int32) (S : mS) : Option (Int32 × mS) := mGr 7 9 v0 S (fun r1 => mGr 7 9 v0 S (fun r2 => mX 8 r2 v1 S (fun r3 => mG 7 4 v0 S (fun r4 => mRc 7 v0 S (mCp (f_X7_whistleThen v0 v1 r3 v2 r4 S) (fun r5 => mXs r1 v1 r5 S (fun S6 => (f_X7_comes_27 (f_X7_comes_92) 1000) v0 v1 0 0 S6)))))))
def rm_X7_comes : Room := { frames := 3, cells := 0, slots := 0, locals := 73 }
set_option maxRecDepth 100000 in
set_option maxHeartbeats 4000000 in
theorem bl_X7_comes_75 {p : Program} {l : Launch} {e : Env} {s : State} {m : MethodId} {args : Array Value} {below : List Frame} {meth : Method} {c : Code} {E : mE} {n0 : Nat} {F : Int32 × mS} (C : mCx p s m args meth c cX7_comes 6 RX7 (some .int) E n0) {k27 : Int32 → Int32 → Int32 → Int32 → mS → Option (Int32 × mS)} (hk27 : ∀ (v0 : Int32) (v1 : Int32) (v3 : Int32) (v4 : Int32) (S : mS) (H : Heap) (locs : List Loc) (ls : Array Slot), k27 v0 v1 v3 v4 S = some F → mIv s E S H locs 0 → lv_has ls 6 [(0, .ref (mA E.b v0)), (1, .int v1), (3, .int v3), (4, .int v4)] → W p l e rm_X7_comes s m args below meth c H locs 0 0 (mQi below args s 0 0 n0 E F) (F0 m 27 ls [])) : ∀  (v0 : Int32) (v1 : Int32) (v4 : Int32) (v5 : Int32) (t0 : Int32) (t1 : Int32) (S : mS) (H : Heap) (locs : List Loc) (ls : Array Slot), f_X7_comes_75 k27 v0 v1 v4 v5 t0 t1 S = some F → mIv s E S H locs 0 → lv_has ls 6 [(0, .ref (mA E.b v0)), (1, .int v1), (4, .int v4), (5, .int v5)] → W p l e rm_X7_comes s m args below meth c H locs 0 0 (mQi below args s 0 0 n0 E F) (F0 m 75 ls [.int t1, .int t0]) := by
  have hx := C.1
  have hb := C.2.1
  intro v0 v1 v4 v5 t0 t1 S H locs ls hF hI hl
  refine lv_iadd hx hb dX7_comes_75 ?_
  refine lv_istore_n (lv' := [(3, .int (t0 + t1)), (0, .ref (mA E.b v0)), (1, .int v1), (4, .int v4), (5, .int v5)]) hx hb dX7_comes_76 rfl hl (by decide) rfl (fun ls hl => ?_)
  refine lv_aload_n hx hb dX7_comes_77 rfl (lv_at hl 1 rfl) ?_
  refine m_getR C fd_X7_26 hI hF dX7_comes_78 (fun r15 hF => ?_)
  refine lv_iload hx hb dX7_comes_81 (lv_at hl 3 rfl) ?_
  refine lv_iload hx hb dX7_comes_83 (lv_at hl 4 rfl) ?_
  refine m_iast C hI hF dX7_comes_85 (fun S16 H locs hF hI => ?_)
  refine lv_iinc (v := v4 + 1) (lv' := [(4, .int (v4 + 1)), (3, .int (t0 + t1)), (0, .ref (mA E.b v0)), (1, .int v1), (5, .int v5)]) hx hb dX7_comes_86 hl (k := 3) rfl rfl (by decide) rfl (fun ls hl => ?_)
  refine lv_goto (tgt := 27) hx hb dX7_comes_89 (by decide) ?_
  exact hk27 v0 v1 (t0 + t1) (v4 + 1) S16 _ _ _ hF hI (lv_sub hl [2, 3, 1, 0] rfl)
set_option maxRecDepth 100000 in
set_option maxHeartbeats 4000000 in
theorem bl_X7_comes_27 {p : Program} {l : Launch} {e : Env} {s : State} {m : MethodId} {args : Array Value} {below : List Frame} {meth : Method} {c : Code} {E : mE} {n0 : Nat} {F : Int32 × mS} (C : mCx p s m args meth c cX7_comes 6 RX7 (some .int) E n0) {k92 : Int32 → Int32 → mS → Option (Int32 × mS)} (hk92 : ∀ (v0 : Int32) (v3 : Int32) (S : mS) (H : Heap) (locs : List Loc) (ls : Array Slot), k92 v0 v3 S = some F → mIv s E S H locs 0 → lv_has ls 6 [(0, .ref (mA E.b v0)), (3, .int v3)] → W p l e rm_X7_comes s m args below meth c H locs 0 0 (mQi below args s 0 0 n0 E F) (F0 m 92 ls [])) : ∀ (n : Nat)  (v0 : Int32) (v1 : Int32) (v3 : Int32) (v4 : Int32) (S : mS) (H : Heap) (locs : List Loc) (ls : Array Slot), f_X7_comes_27 k92 n v0 v1 v3 v4 S = some F → mIv s E S H locs 0 → lv_has ls 6 [(0, .ref (mA E.b v0)), (1, .int v1), (3, .int v3), (4, .int v4)] → W p l e rm_X7_comes s m args below meth c H locs 0 0 (mQi below args s 0 0 n0 E F) (F0 m 27 ls []) := by
  have hx := C.1
  have hb := C.2.1
  intro n
  induction n with
  | zero =>
    intro v0 v1 v3 v4 S H locs ls hF
    exact nomatch (show (none : Option (Int32 × mS)) = some F from hF)
  | succ n ih =>
    intro v0 v1 v3 v4 S H locs ls hF hI hl
    have hF := (f_X7_comes_27_s k92 n v0 v1 v3 v4 S).symm.trans hF
    refine lv_iload hx hb dX7_comes_27 (lv_at hl 3 rfl) ?_
    refine lv_aload_n hx hb dX7_comes_29 rfl (lv_at hl 0 rfl) ?_
    refine m_get C fd_X7_74 hI hF dX7_comes_30 (fun r7 hF => ?_)
    refine m_icmp_ge C (tgt := 92) hF dX7_comes_33 (by decide) (fun hF => ?_) (fun hF => ?_)
    · exact hk92 v0 v3 S _ _ _ hF hI (lv_sub hl [0, 2] rfl)
    · refine lv_aload_n hx hb dX7_comes_36 rfl (lv_at hl 0 rfl) ?_
      refine lv_iload hx hb dX7_comes_37 (lv_at hl 3 rfl) ?_
      refine lv_aload_n hx hb dX7_comes_39 rfl (lv_at hl 0 rfl) ?_
      refine m_getR C fd_X7_26 hI hF dX7_comes_40 (fun r8 hF => ?_)
      refine lv_iload hx hb dX7_comes_43 (lv_at hl 3 rfl) ?_
      refine m_iald C hI hF dX7_comes_45 (fun r9 hF => ?_)
      refine lv_aload_n hx hb dX7_comes_46 rfl (lv_at hl 0 rfl) ?_
      refine m_getR C fd_X7_20 hI hF dX7_comes_47 (fun r10 hF => ?_)
      refine lv_iload_n hx hb dX7_comes_50 rfl (lv_at hl 1 rfl) ?_
      refine m_iald C hI hF dX7_comes_51 (fun r11 hF => ?_)
      refine m_callViR C cd_X7_213 ⟨rfl, by decide⟩ hl.1 hI hF (fun _ h => ok_X7_sheepThen h) rfl rfl ⟨rfl, rfl, Nat.le_of_ble_eq_true rfl, Nat.le_of_ble_eq_true rfl⟩ ⟨Nat.le_of_ble_eq_true rfl, Nat.le_of_ble_eq_true rfl⟩ (Nat.le_of_ble_eq_true rfl) dX7_comes_52 (fun r12 H locs hF hI => ?_)
      refine lv_istore (lv' := [(5, .int r12), (0, .ref (mA E.b v0)), (1, .int v1), (3, .int v3), (4, .int v4)]) hx hb dX7_comes_55 hl (by decide) rfl (fun ls hl => ?_)
      refine lv_iload_n hx hb dX7_comes_57 rfl (lv_at hl 3 rfl) ?_
      refine lv_iload hx hb dX7_comes_58 (lv_at hl 0 rfl) ?_
      refine lv_aload_n hx hb dX7_comes_60 rfl (lv_at hl 1 rfl) ?_
      refine m_getR C fd_X7_26 hI hF dX7_comes_61 (fun r13 hF => ?_)
      refine lv_iload hx hb dX7_comes_64 (lv_at hl 4 rfl) ?_
      refine m_iald C hI hF dX7_comes_66 (fun r14 hF => ?_)
      refine m_icmp_ne C (tgt := 74) hF dX7_comes_67 (by decide) (fun hF => ?_) (fun hF => ?_)
      · refine lv_iconst (v := 1) hx hb dX7_comes_74 (by decide) ?_
        exact (bl_X7_comes_75 C (k27 := (f_X7_comes_27 k92 n)) ih) v0 v1 v4 r12 v3 1 S _ _ _ hF hI (lv_sub hl [1, 2, 4, 0] rfl)
      · refine lv_iconst (v := 0) hx hb dX7_comes_70 (by decide) ?_
        refine lv_goto (tgt := 75) hx hb dX7_comes_71 (by decide) ?_
        exact (bl_X7_comes_75 C (k27 := (f_X7_comes_27 k92 n)) ih) v0 v1 v4 r12 v3 0 S _ _ _ hF hI (lv_sub hl [1, 2, 4, 0] rfl)
set_option maxRecDepth 100000 in
set_option maxHeartbeats 4000000 in
theorem bl_X7_comes_92 {p : Program} {l : Launch} {e : Env} {s : State} {m : MethodId} {args : Array Value} {below : List Frame} {meth : Method} {c : Code} {E : mE} {n0 : Nat} {F : Int32 × mS} (C : mCx p s m args meth c cX7_comes 6 RX7 (some .int) E n0) : ∀  (v0 : Int32) (v3 : Int32) (S : mS) (H : Heap) (locs : List Loc) (ls : Array Slot), f_X7_comes_92 v0 v3 S = some F → mIv s E S H locs 0 → lv_has ls 6 [(0, .ref (mA E.b v0)), (3, .int v3)] → W p l e rm_X7_comes s m args below meth c H locs 0 0 (mQi below args s 0 0 n0 E F) (F0 m 92 ls []) := by
  have hx := C.1
  have hb := C.2.1
  intro v0 v3 S H locs ls hF hI hl
  refine lv_aload_n hx hb dX7_comes_92 rfl (lv_at hl 0 rfl) ?_
  refine lv_dup hx hb dX7_comes_93 rfl ?_
  refine m_get C fd_X7_80 hI hF dX7_comes_94 (fun r17 hF => ?_)
  refine lv_iconst (v := 1) hx hb dX7_comes_97 (by decide) ?_
  refine lv_iadd hx hb dX7_comes_98 ?_
  refine m_put C fd_X7_80 hI hF dX7_comes_99 (fun S18 H locs hF hI => ?_)
  refine lv_iload_n hx hb dX7_comes_102 rfl (lv_at hl 1 rfl) ?_
  exact m_ireti C hI hF dX7_comes_103
set_option maxRecDepth 100000 in
set_option maxHeartbeats 4000000 in
theorem ok_X7_comes {l : Launch} {E : mE} {v0 : Int32} {v1 : Int32} {v2 : Int32} {S : mS} {F : Int32 × mS} (hF : f_X7_comes v0 v1 v2 S = some F) : mMi l yX7_comes cX7_comes 6 (some .int) rm_X7_comes 0 0 [.ref (mA E.b v0), .int v1, .int v2] E S F := by
  refine m_met_i (by decide) (Nat.le_of_ble_eq_true rfl) (fun p e s m args below meth c ls hin C hI hl => ?_)
  have hx := C.1
  have hb := C.2.1
  have hl : lv_has ls 6 [(0, .ref (mA E.b v0)), (1, .int v1), (2, .int v2)] := hl
  generalize s.heap = H at hI ⊢
  generalize ([] : List Loc) = locs at hI ⊢
  refine lv_aload_n hx hb dX7_comes_0 rfl (lv_at hl 0 rfl) ?_
  refine m_getR C fd_X7_20 hI hF dX7_comes_1 (fun r1 hF => ?_)
  refine lv_iload_n hx hb dX7_comes_4 rfl (lv_at hl 1 rfl) ?_
  refine lv_aload_n hx hb dX7_comes_5 rfl (lv_at hl 0 rfl) ?_
  refine lv_iload_n hx hb dX7_comes_6 rfl (lv_at hl 1 rfl) ?_
  refine lv_aload_n hx hb dX7_comes_7 rfl (lv_at hl 0 rfl) ?_
  refine m_getR C fd_X7_20 hI hF dX7_comes_8 (fun r2 hF => ?_)
  refine lv_iload_n hx hb dX7_comes_11 rfl (lv_at hl 1 rfl) ?_
  refine m_iald C hI hF dX7_comes_12 (fun r3 hF => ?_)
  refine lv_iload_n hx hb dX7_comes_13 rfl (lv_at hl 2 rfl) ?_
  refine lv_aload_n hx hb dX7_comes_14 rfl (lv_at hl 0 rfl) ?_
  refine m_get C fd_X7_80 hI hF dX7_comes_15 (fun r4 hF => ?_)
  refine m_callViR C cd_X7_209 ⟨rfl, by decide⟩ hl.1 hI hF (fun _ h => ok_X7_whistleThen h) rfl rfl ⟨rfl, rfl, Nat.le_of_ble_eq_true rfl, Nat.le_of_ble_eq_true rfl⟩ ⟨Nat.le_of_ble_eq_true rfl, Nat.le_of_ble_eq_true rfl⟩ (Nat.le_of_ble_eq_true rfl) dX7_comes_18 (fun r5 H locs hF hI => ?_)
  refine m_iast C hI hF dX7_comes_21 (fun S6 H locs hF hI => ?_)
  refine lv_iconst (v := 0) hx hb dX7_comes_22 (by decide) ?_
  refine lv_istore_n (lv' := [(3, .int 0), (0, .ref (mA E.b v0)), (1, .int v1), (2, .int v2)]) hx hb dX7_comes_23 rfl hl (by decide) rfl (fun ls hl => ?_)
  refine lv_iconst (v := 0) hx hb dX7_comes_24 (by decide) ?_
  refine lv_istore (lv' := [(4, .int 0), (3, .int 0), (0, .ref (mA E.b v0)), (1, .int v1), (2, .int v2)]) hx hb dX7_comes_25 hl (by decide) rfl (fun ls hl => ?_)
  exact (bl_X7_comes_27 C (k92 := (f_X7_comes_92)) (bl_X7_comes_92 C) 1000) v0 v1 0 0 S6 _ _ _ hF hI (lv_sub hl [2, 3, 1, 0] rfl)
noncomputable def f_X7_readsCall (v0 : Int32) (S : mS) : Option (Int32 × mS) := mG 7 1 v0 S (fun r1 => mRc 7 v0 S (mC (f_X7_number v0 0 (r1 - 1) S) (fun r2 S3 => if r2 = 0 then (mZ 0 (some (0, S3))) else (mG 7 18 v0 S3 (fun r4 => mRc 7 v0 S3 (mC (f_X7_number v0 0 4 S3) (fun r5 S6 => if r5 = 0 then (mZ 0 (some (0, S6))) else (mG 7 18 v0 S6 (fun r7 => mRc 7 v0 S6 (mC (f_X7_comes v0 r4 r7 S6) (fun r8 S9 => mRc 7 v0 S9 (mC (f_X7_ends v0 S9) (fun r10 S11 => mZ r10 (some (r10, S11)))))))))))))))
def rm_X7_readsCall : Room := { frames := 4, cells := 0, slots := 0, locals := 98 }
set_option maxRecDepth 100000 in
set_option maxHeartbeats 4000000 in
theorem ok_X7_readsCall {l : Launch} {E : mE} {v0 : Int32} {S : mS} {F : Int32 × mS} (hF : f_X7_readsCall v0 S = some F) : mMi l yX7_readsCall cX7_readsCall 2 (some .boolean) rm_X7_readsCall 0 0 [.ref (mA E.b v0)] E S F := by
  refine m_met_i (by decide) (Nat.le_of_ble_eq_true rfl) (fun p e s m args below meth c ls hin C hI hl => ?_)
  have hx := C.1
  have hb := C.2.1
  have hl : lv_has ls 2 [(0, .ref (mA E.b v0))] := hl
  generalize s.heap = H at hI ⊢
  generalize ([] : List Loc) = locs at hI ⊢
  refine lv_aload_n hx hb dX7_readsCall_0 rfl (lv_at hl 0 rfl) ?_
  refine lv_iconst (v := 0) hx hb dX7_readsCall_1 (by decide) ?_
  refine lv_aload_n hx hb dX7_readsCall_2 rfl (lv_at hl 0 rfl) ?_
  refine m_get C fd_X7_70 hI hF dX7_readsCall_3 (fun r1 hF => ?_)
  refine lv_iconst (v := 1) hx hb dX7_readsCall_6 (by decide) ?_
  refine lv_isub hx hb dX7_readsCall_7 ?_
  refine m_callVi C cd_X7_147 ⟨rfl, by decide⟩ hl.1 hI hF (fun _ h => ok_X7_number h) rfl rfl ⟨rfl, rfl, Nat.le_of_ble_eq_true rfl, Nat.le_of_ble_eq_true rfl⟩ ⟨Nat.le_of_ble_eq_true rfl, Nat.le_of_ble_eq_true rfl⟩ (Nat.le_of_ble_eq_true rfl) dX7_readsCall_8 (fun r2 S3 H locs hF hI => ?_)
  refine m_if_ne C (tgt := 16) hF dX7_readsCall_11 (by decide) (fun hF => ?_) (fun hF => ?_)
  · refine lv_aload_n hx hb dX7_readsCall_16 rfl (lv_at hl 0 rfl) ?_
    refine m_get C fd_X7_144 hI hF dX7_readsCall_17 (fun r4 hF => ?_)
    refine lv_istore_n (lv' := [(1, .int r4), (0, .ref (mA E.b v0))]) hx hb dX7_readsCall_20 rfl hl (by decide) rfl (fun ls hl => ?_)
    refine lv_aload_n hx hb dX7_readsCall_21 rfl (lv_at hl 1 rfl) ?_
    refine lv_iconst (v := 0) hx hb dX7_readsCall_22 (by decide) ?_
    refine lv_iconst (v := 4) hx hb dX7_readsCall_23 (by decide) ?_
    refine m_callVi C cd_X7_147 ⟨rfl, by decide⟩ hl.1 hI hF (fun _ h => ok_X7_number h) rfl rfl ⟨rfl, rfl, Nat.le_of_ble_eq_true rfl, Nat.le_of_ble_eq_true rfl⟩ ⟨Nat.le_of_ble_eq_true rfl, Nat.le_of_ble_eq_true rfl⟩ (Nat.le_of_ble_eq_true rfl) dX7_readsCall_24 (fun r5 S6 H locs hF hI => ?_)
    refine m_if_ne C (tgt := 32) hF dX7_readsCall_27 (by decide) (fun hF => ?_) (fun hF => ?_)
    · refine lv_aload_n hx hb dX7_readsCall_32 rfl (lv_at hl 1 rfl) ?_
      refine lv_iload_n hx hb dX7_readsCall_33 rfl (lv_at hl 0 rfl) ?_
      refine lv_aload_n hx hb dX7_readsCall_34 rfl (lv_at hl 1 rfl) ?_
      refine m_get C fd_X7_144 hI hF dX7_readsCall_35 (fun r7 hF => ?_)
      refine m_callVi C cd_X7_155 ⟨rfl, by decide⟩ hl.1 hI hF (fun _ h => ok_X7_comes h) rfl rfl ⟨rfl, rfl, Nat.le_of_ble_eq_true rfl, Nat.le_of_ble_eq_true rfl⟩ ⟨Nat.le_of_ble_eq_true rfl, Nat.le_of_ble_eq_true rfl⟩ (Nat.le_of_ble_eq_true rfl) dX7_readsCall_38 (fun r8 S9 H locs hF hI => ?_)
      refine lv_pop hx hb dX7_readsCall_41 rfl ?_
      refine lv_aload_n hx hb dX7_readsCall_42 rfl (lv_at hl 1 rfl) ?_
      refine m_callVi C cd_X7_151 ⟨rfl, by decide⟩ hl.1 hI hF (fun _ h => ok_X7_ends h) rfl rfl ⟨rfl, rfl, Nat.le_of_ble_eq_true rfl, Nat.le_of_ble_eq_true rfl⟩ ⟨Nat.le_of_ble_eq_true rfl, Nat.le_of_ble_eq_true rfl⟩ (Nat.le_of_ble_eq_true rfl) dX7_readsCall_43 (fun r10 S11 H locs hF hI => ?_)
      exact m_iretz C hI hF dX7_readsCall_46
    · refine lv_iconst (v := 0) hx hb dX7_readsCall_30 (by decide) ?_
      exact m_iretz C hI hF dX7_readsCall_31
  · refine lv_iconst (v := 0) hx hb dX7_readsCall_14 (by decide) ?_
    exact m_iretz C hI hF dX7_readsCall_15
noncomputable def f_X7_readsSteps (v0 : Int32) (S : mS) : Option (Int32 × mS) := mRc 7 v0 S (mC (f_X7_number v0 1 99 S) (fun r1 S2 => if r1 = 0 then (mZ 0 (some (0, S2))) else (mG 7 4 v0 S2 (fun r3 => mG 7 18 v0 S2 (fun r4 => mCp (f_X7_lesser 9999 (r3 + r4)) (fun r5 => mP 7 4 v0 r5 S2 (fun S6 => mRc 7 v0 S6 (mC (f_X7_ends v0 S6) (fun r7 S8 => mZ r7 (some (r7, S8)))))))))))
def rm_X7_readsSteps : Room := { frames := 3, cells := 0, slots := 0, locals := 66 }
set_option maxRecDepth 100000 in
set_option maxHeartbeats 4000000 in
theorem ok_X7_readsSteps {l : Launch} {E : mE} {v0 : Int32} {S : mS} {F : Int32 × mS} (hF : f_X7_readsSteps v0 S = some F) : mMi l yX7_readsSteps cX7_readsSteps 1 (some .boolean) rm_X7_readsSteps 0 0 [.ref (mA E.b v0)] E S F := by
  refine m_met_i (by decide) (Nat.le_of_ble_eq_true rfl) (fun p e s m args below meth c ls hin C hI hl => ?_)
  have hx := C.1
  have hb := C.2.1
  have hl : lv_has ls 1 [(0, .ref (mA E.b v0))] := hl
  generalize s.heap = H at hI ⊢
  generalize ([] : List Loc) = locs at hI ⊢
  refine lv_aload_n hx hb dX7_readsSteps_0 rfl (lv_at hl 0 rfl) ?_
  refine lv_iconst (v := 1) hx hb dX7_readsSteps_1 (by decide) ?_
  refine lv_bipush (v := 99) hx hb dX7_readsSteps_2 (by decide) ?_
  refine m_callVi C cd_X7_147 ⟨rfl, by decide⟩ hl.1 hI hF (fun _ h => ok_X7_number h) rfl rfl ⟨rfl, rfl, Nat.le_of_ble_eq_true rfl, Nat.le_of_ble_eq_true rfl⟩ ⟨Nat.le_of_ble_eq_true rfl, Nat.le_of_ble_eq_true rfl⟩ (Nat.le_of_ble_eq_true rfl) dX7_readsSteps_4 (fun r1 S2 H locs hF hI => ?_)
  refine m_if_ne C (tgt := 12) hF dX7_readsSteps_7 (by decide) (fun hF => ?_) (fun hF => ?_)
  · refine lv_aload_n hx hb dX7_readsSteps_12 rfl (lv_at hl 0 rfl) ?_
    refine lv_sipush (v := 9999) hx hb dX7_readsSteps_13 (by decide) ?_
    refine lv_aload_n hx hb dX7_readsSteps_16 rfl (lv_at hl 0 rfl) ?_
    refine m_get C fd_X7_80 hI hF dX7_readsSteps_17 (fun r3 hF => ?_)
    refine lv_aload_n hx hb dX7_readsSteps_20 rfl (lv_at hl 0 rfl) ?_
    refine m_get C fd_X7_144 hI hF dX7_readsSteps_21 (fun r4 hF => ?_)
    refine lv_iadd hx hb dX7_readsSteps_24 ?_
    refine m_callSiR C cd_X7_158 hl.1 hI hF (fun _ h => ok_X7_lesser h) rfl rfl ⟨rfl, rfl, Nat.le_of_ble_eq_true rfl, Nat.le_of_ble_eq_true rfl⟩ ⟨Nat.le_of_ble_eq_true rfl, Nat.le_of_ble_eq_true rfl⟩ (Nat.le_of_ble_eq_true rfl) dX7_readsSteps_25 (fun r5 H locs hF hI => ?_)
    refine m_put C fd_X7_80 hI hF dX7_readsSteps_28 (fun S6 H locs hF hI => ?_)
    refine lv_aload_n hx hb dX7_readsSteps_31 rfl (lv_at hl 0 rfl) ?_
    refine m_callVi C cd_X7_151 ⟨rfl, by decide⟩ hl.1 hI hF (fun _ h => ok_X7_ends h) rfl rfl ⟨rfl, rfl, Nat.le_of_ble_eq_true rfl, Nat.le_of_ble_eq_true rfl⟩ ⟨Nat.le_of_ble_eq_true rfl, Nat.le_of_ble_eq_true rfl⟩ (Nat.le_of_ble_eq_true rfl) dX7_readsSteps_32 (fun r7 S8 H locs hF hI => ?_)
    exact m_iretz C hI hF dX7_readsSteps_35
  · refine lv_iconst (v := 0) hx hb dX7_readsSteps_10 (by decide) ?_
    exact m_iretz C hI hF dX7_readsSteps_11
noncomputable def f_X7_readsItem_37 (S : mS) : Option (Int32 × mS) := mZ 0 (some (0, S))
noncomputable def f_X7_readsItem_90 (t0 : Int32) (S : mS) : Option (Int32 × mS) := mZ t0 (some (t0, S))
noncomputable def f_X7_readsItem_87 (t0 : Int32) (t1 : Int32) (S : mS) : Option (Int32 × mS) := mRc 7 t0 S (mC (f_X7_readsOne t0 t1 S) (fun r5 S6 => (f_X7_readsItem_90) r5 S6))
noncomputable def f_X7_readsItem_39 (v0 : Int32) (v1 : Int32) (S : mS) : Option (Int32 × mS) := mG 7 17 v0 S (fun r2 => mRc 7 v0 S (mCp (f_X7_wordSize v0 S) (fun r3 => mP 7 17 v0 (r2 + r3) S (fun S4 => if v1 = 3 then (mRc 7 v0 S4 (mC (f_X7_readsCall v0 S4) (fun r9 S10 => (f_X7_readsItem_90) r9 S10))) else (if v1 = 4 then (mRc 7 v0 S4 (mC (f_X7_readsSteps v0 S4) (fun r7 S8 => (f_X7_readsItem_90) r7 S8))) else (if v1 = 2 then ((f_X7_readsItem_87) v0 1 S4) else ((f_X7_readsItem_87) v0 0 S4)))))))
noncomputable def f_X7_readsItem_23 (v0 : Int32) (v1 : Int32) (S : mS) : Option (Int32 × mS) := if v1 = 2 then (mG 7 2 v0 S (fun r11 => if r11 = 7 then ((f_X7_readsItem_37) S) else ((f_X7_readsItem_39) v0 v1 S))) else ((f_X7_readsItem_39) v0 v1 S)
noncomputable def f_X7_readsItem (v0 : Int32) (S : mS) : Option (Int32 × mS) := mRc 7 v0 S (mCp (f_X7_wordHere v0 S) (fun r1 => if r1 < 1 then ((f_X7_readsItem_37) S) else (if r1 = 1 then (mG 7 1 v0 S (fun r12 => if r12 = 3 then ((f_X7_readsItem_37) S) else ((f_X7_readsItem_23) v0 r1 S))) else ((f_X7_readsItem_23) v0 r1 S))))
def rm_X7_readsItem : Room := { frames := 5, cells := 0, slots := 0, locals := 119 }
set_option maxRecDepth 100000 in
set_option maxHeartbeats 4000000 in
theorem bl_X7_readsItem_37 {p : Program} {l : Launch} {e : Env} {s : State} {m : MethodId} {args : Array Value} {below : List Frame} {meth : Method} {c : Code} {E : mE} {n0 : Nat} {F : Int32 × mS} (C : mCx p s m args meth c cX7_readsItem 2 RX7 (some .boolean) E n0) : ∀  (S : mS) (H : Heap) (locs : List Loc) (ls : Array Slot), f_X7_readsItem_37 S = some F → mIv s E S H locs 0 → lv_has ls 2 [] → W p l e rm_X7_readsItem s m args below meth c H locs 0 0 (mQi below args s 0 0 n0 E F) (F0 m 37 ls []) := by
  have hx := C.1
  have hb := C.2.1
  intro S H locs ls hF hI hl
  refine lv_iconst (v := 0) hx hb dX7_readsItem_37 (by decide) ?_
  exact m_iretz C hI hF dX7_readsItem_38
set_option maxRecDepth 100000 in
set_option maxHeartbeats 4000000 in
theorem bl_X7_readsItem_90 {p : Program} {l : Launch} {e : Env} {s : State} {m : MethodId} {args : Array Value} {below : List Frame} {meth : Method} {c : Code} {E : mE} {n0 : Nat} {F : Int32 × mS} (C : mCx p s m args meth c cX7_readsItem 2 RX7 (some .boolean) E n0) : ∀  (t0 : Int32) (S : mS) (H : Heap) (locs : List Loc) (ls : Array Slot), f_X7_readsItem_90 t0 S = some F → mIv s E S H locs 0 → lv_has ls 2 [] → W p l e rm_X7_readsItem s m args below meth c H locs 0 0 (mQi below args s 0 0 n0 E F) (F0 m 90 ls [.int t0]) := by
  have hx := C.1
  have hb := C.2.1
  intro t0 S H locs ls hF hI hl
  exact m_iretz C hI hF dX7_readsItem_90
set_option maxRecDepth 100000 in
set_option maxHeartbeats 4000000 in
theorem bl_X7_readsItem_87 {p : Program} {l : Launch} {e : Env} {s : State} {m : MethodId} {args : Array Value} {below : List Frame} {meth : Method} {c : Code} {E : mE} {n0 : Nat} {F : Int32 × mS} (C : mCx p s m args meth c cX7_readsItem 2 RX7 (some .boolean) E n0) : ∀  (t0 : Int32) (t1 : Int32) (S : mS) (H : Heap) (locs : List Loc) (ls : Array Slot), f_X7_readsItem_87 t0 t1 S = some F → mIv s E S H locs 0 → lv_has ls 2 [] → W p l e rm_X7_readsItem s m args below meth c H locs 0 0 (mQi below args s 0 0 n0 E F) (F0 m 87 ls [.int t1, .ref (mA E.b t0)]) := by
  have hx := C.1
  have hb := C.2.1
  intro t0 t1 S H locs ls hF hI hl
  refine m_callVi C cd_X7_170 ⟨rfl, by decide⟩ hl.1 hI hF (fun _ h => ok_X7_readsOne h) rfl rfl ⟨rfl, rfl, Nat.le_of_ble_eq_true rfl, Nat.le_of_ble_eq_true rfl⟩ ⟨Nat.le_of_ble_eq_true rfl, Nat.le_of_ble_eq_true rfl⟩ (Nat.le_of_ble_eq_true rfl) dX7_readsItem_87 (fun r5 S6 H locs hF hI => ?_)
  exact (bl_X7_readsItem_90 C) r5 S6 _ _ _ hF hI (lv_sub hl [] rfl)
set_option maxRecDepth 100000 in
set_option maxHeartbeats 4000000 in
theorem bl_X7_readsItem_39 {p : Program} {l : Launch} {e : Env} {s : State} {m : MethodId} {args : Array Value} {below : List Frame} {meth : Method} {c : Code} {E : mE} {n0 : Nat} {F : Int32 × mS} (C : mCx p s m args meth c cX7_readsItem 2 RX7 (some .boolean) E n0) : ∀  (v0 : Int32) (v1 : Int32) (S : mS) (H : Heap) (locs : List Loc) (ls : Array Slot), f_X7_readsItem_39 v0 v1 S = some F → mIv s E S H locs 0 → lv_has ls 2 [(0, .ref (mA E.b v0)), (1, .int v1)] → W p l e rm_X7_readsItem s m args below meth c H locs 0 0 (mQi below args s 0 0 n0 E F) (F0 m 39 ls []) := by
  have hx := C.1
  have hb := C.2.1
  intro v0 v1 S H locs ls hF hI hl
  refine lv_aload_n hx hb dX7_readsItem_39 rfl (lv_at hl 0 rfl) ?_
  refine lv_dup hx hb dX7_readsItem_40 rfl ?_
  refine m_get C fd_X7_122 hI hF dX7_readsItem_41 (fun r2 hF => ?_)
  refine lv_aload_n hx hb dX7_readsItem_44 rfl (lv_at hl 0 rfl) ?_
  refine m_callViR C cd_X7_131 ⟨rfl, by decide⟩ hl.1 hI hF (fun _ h => ok_X7_wordSize h) rfl rfl ⟨rfl, rfl, Nat.le_of_ble_eq_true rfl, Nat.le_of_ble_eq_true rfl⟩ ⟨Nat.le_of_ble_eq_true rfl, Nat.le_of_ble_eq_true rfl⟩ (Nat.le_of_ble_eq_true rfl) dX7_readsItem_45 (fun r3 H locs hF hI => ?_)
  refine lv_iadd hx hb dX7_readsItem_48 ?_
  refine m_put C fd_X7_122 hI hF dX7_readsItem_49 (fun S4 H locs hF hI => ?_)
  refine lv_iload_n hx hb dX7_readsItem_52 rfl (lv_at hl 1 rfl) ?_
  refine lv_iconst (v := 3) hx hb dX7_readsItem_53 (by decide) ?_
  refine m_icmp_ne C (tgt := 64) hF dX7_readsItem_54 (by decide) (fun hF => ?_) (fun hF => ?_)
  · refine lv_iload_n hx hb dX7_readsItem_64 rfl (lv_at hl 1 rfl) ?_
    refine lv_iconst (v := 4) hx hb dX7_readsItem_65 (by decide) ?_
    refine m_icmp_ne C (tgt := 76) hF dX7_readsItem_66 (by decide) (fun hF => ?_) (fun hF => ?_)
    · refine lv_aload_n hx hb dX7_readsItem_76 rfl (lv_at hl 0 rfl) ?_
      refine lv_iload_n hx hb dX7_readsItem_77 rfl (lv_at hl 1 rfl) ?_
      refine lv_iconst (v := 2) hx hb dX7_readsItem_78 (by decide) ?_
      refine m_icmp_ne C (tgt := 86) hF dX7_readsItem_79 (by decide) (fun hF => ?_) (fun hF => ?_)
      · refine lv_iconst (v := 0) hx hb dX7_readsItem_86 (by decide) ?_
        exact (bl_X7_readsItem_87 C) v0 0 S4 _ _ _ hF hI (lv_sub hl [] rfl)
      · refine lv_iconst (v := 1) hx hb dX7_readsItem_82 (by decide) ?_
        refine lv_goto (tgt := 87) hx hb dX7_readsItem_83 (by decide) ?_
        exact (bl_X7_readsItem_87 C) v0 1 S4 _ _ _ hF hI (lv_sub hl [] rfl)
    · refine lv_aload_n hx hb dX7_readsItem_69 rfl (lv_at hl 0 rfl) ?_
      refine m_callVi C cd_X7_167 ⟨rfl, by decide⟩ hl.1 hI hF (fun _ h => ok_X7_readsSteps h) rfl rfl ⟨rfl, rfl, Nat.le_of_ble_eq_true rfl, Nat.le_of_ble_eq_true rfl⟩ ⟨Nat.le_of_ble_eq_true rfl, Nat.le_of_ble_eq_true rfl⟩ (Nat.le_of_ble_eq_true rfl) dX7_readsItem_70 (fun r7 S8 H locs hF hI => ?_)
      refine lv_goto (tgt := 90) hx hb dX7_readsItem_73 (by decide) ?_
      exact (bl_X7_readsItem_90 C) r7 S8 _ _ _ hF hI (lv_sub hl [] rfl)
  · refine lv_aload_n hx hb dX7_readsItem_57 rfl (lv_at hl 0 rfl) ?_
    refine m_callVi C cd_X7_164 ⟨rfl, by decide⟩ hl.1 hI hF (fun _ h => ok_X7_readsCall h) rfl rfl ⟨rfl, rfl, Nat.le_of_ble_eq_true rfl, Nat.le_of_ble_eq_true rfl⟩ ⟨Nat.le_of_ble_eq_true rfl, Nat.le_of_ble_eq_true rfl⟩ (Nat.le_of_ble_eq_true rfl) dX7_readsItem_58 (fun r9 S10 H locs hF hI => ?_)
    refine lv_goto (tgt := 90) hx hb dX7_readsItem_61 (by decide) ?_
    exact (bl_X7_readsItem_90 C) r9 S10 _ _ _ hF hI (lv_sub hl [] rfl)
set_option maxRecDepth 100000 in
set_option maxHeartbeats 4000000 in
theorem bl_X7_readsItem_23 {p : Program} {l : Launch} {e : Env} {s : State} {m : MethodId} {args : Array Value} {below : List Frame} {meth : Method} {c : Code} {E : mE} {n0 : Nat} {F : Int32 × mS} (C : mCx p s m args meth c cX7_readsItem 2 RX7 (some .boolean) E n0) : ∀  (v0 : Int32) (v1 : Int32) (S : mS) (H : Heap) (locs : List Loc) (ls : Array Slot), f_X7_readsItem_23 v0 v1 S = some F → mIv s E S H locs 0 → lv_has ls 2 [(0, .ref (mA E.b v0)), (1, .int v1)] → W p l e rm_X7_readsItem s m args below meth c H locs 0 0 (mQi below args s 0 0 n0 E F) (F0 m 23 ls []) := by
  have hx := C.1
  have hb := C.2.1
  intro v0 v1 S H locs ls hF hI hl
  refine lv_iload_n hx hb dX7_readsItem_23 rfl (lv_at hl 1 rfl) ?_
  refine lv_iconst (v := 2) hx hb dX7_readsItem_24 (by decide) ?_
  refine m_icmp_ne C (tgt := 39) hF dX7_readsItem_25 (by decide) (fun hF => ?_) (fun hF => ?_)
  · exact (bl_X7_readsItem_39 C) v0 v1 S _ _ _ hF hI (lv_sub hl [0, 1] rfl)
  · refine lv_aload_n hx hb dX7_readsItem_28 rfl (lv_at hl 0 rfl) ?_
    refine m_get C fd_X7_74 hI hF dX7_readsItem_29 (fun r11 hF => ?_)
    refine lv_bipush (v := 7) hx hb dX7_readsItem_32 (by decide) ?_
    refine m_icmp_ne C (tgt := 39) hF dX7_readsItem_34 (by decide) (fun hF => ?_) (fun hF => ?_)
    · exact (bl_X7_readsItem_39 C) v0 v1 S _ _ _ hF hI (lv_sub hl [0, 1] rfl)
    · exact (bl_X7_readsItem_37 C) S _ _ _ hF hI (lv_sub hl [] rfl)
set_option maxRecDepth 100000 in
set_option maxHeartbeats 4000000 in
theorem ok_X7_readsItem {l : Launch} {E : mE} {v0 : Int32} {S : mS} {F : Int32 × mS} (hF : f_X7_readsItem v0 S = some F) : mMi l yX7_readsItem cX7_readsItem 2 (some .boolean) rm_X7_readsItem 0 0 [.ref (mA E.b v0)] E S F := by
  refine m_met_i (by decide) (Nat.le_of_ble_eq_true rfl) (fun p e s m args below meth c ls hin C hI hl => ?_)
  have hx := C.1
  have hb := C.2.1
  have hl : lv_has ls 2 [(0, .ref (mA E.b v0))] := hl
  generalize s.heap = H at hI ⊢
  generalize ([] : List Loc) = locs at hI ⊢
  refine lv_aload_n hx hb dX7_readsItem_0 rfl (lv_at hl 0 rfl) ?_
  refine m_callViR C cd_X7_161 ⟨rfl, by decide⟩ hl.1 hI hF (fun _ h => ok_X7_wordHere h) rfl rfl ⟨rfl, rfl, Nat.le_of_ble_eq_true rfl, Nat.le_of_ble_eq_true rfl⟩ ⟨Nat.le_of_ble_eq_true rfl, Nat.le_of_ble_eq_true rfl⟩ (Nat.le_of_ble_eq_true rfl) dX7_readsItem_1 (fun r1 H locs hF hI => ?_)
  refine lv_istore_n (lv' := [(1, .int r1), (0, .ref (mA E.b v0))]) hx hb dX7_readsItem_4 rfl hl (by decide) rfl (fun ls hl => ?_)
  refine lv_iload_n hx hb dX7_readsItem_5 rfl (lv_at hl 0 rfl) ?_
  refine lv_iconst (v := 1) hx hb dX7_readsItem_6 (by decide) ?_
  refine m_icmp_lt C (tgt := 37) hF dX7_readsItem_7 (by decide) (fun hF => ?_) (fun hF => ?_)
  · exact (bl_X7_readsItem_37 C) S _ _ _ hF hI (lv_sub hl [] rfl)
  · refine lv_iload_n hx hb dX7_readsItem_10 rfl (lv_at hl 0 rfl) ?_
    refine lv_iconst (v := 1) hx hb dX7_readsItem_11 (by decide) ?_
    refine m_icmp_ne C (tgt := 23) hF dX7_readsItem_12 (by decide) (fun hF => ?_) (fun hF => ?_)
    · exact (bl_X7_readsItem_23 C) v0 r1 S _ _ _ hF hI (lv_sub hl [1, 0] rfl)
    · refine lv_aload_n hx hb dX7_readsItem_15 rfl (lv_at hl 1 rfl) ?_
      refine m_get C fd_X7_70 hI hF dX7_readsItem_16 (fun r12 hF => ?_)
      refine lv_iconst (v := 3) hx hb dX7_readsItem_19 (by decide) ?_
      refine m_icmp_eq C (tgt := 37) hF dX7_readsItem_20 (by decide) (fun hF => ?_) (fun hF => ?_)
      · exact (bl_X7_readsItem_37 C) S _ _ _ hF hI (lv_sub hl [] rfl)
      · exact (bl_X7_readsItem_23 C) v0 r1 S _ _ _ hF hI (lv_sub hl [1, 0] rfl)
noncomputable def f_X7_readsFirst (v0 : Int32) (S : mS) : Option (Int32 × mS) := mRc 7 v0 S (mCv (f_X7_skip v0 S) (fun S2 => mRc 7 v0 S2 (mCp (f_X7_wordHere v0 S2) (fun r3 => if r3 = 0 then (mG 7 17 v0 S2 (fun r4 => mP 7 17 v0 (r4 + 4) S2 (fun S5 => mRc 7 v0 S5 (mC (f_X7_number v0 0 24 S5) (fun r6 S7 => if r6 = 0 then (mZ 0 (some (0, S7))) else (mG 7 18 v0 S7 (fun r8 => mRc 7 v0 S7 (mCv (f_X7_begin v0 r8 S7) (fun S10 => mRc 7 v0 S10 (mC (f_X7_ends v0 S10) (fun r11 S12 => mZ r11 (some (r11, S12))))))))))))) else (mZ 0 (some (0, S2)))))))
def rm_X7_readsFirst : Room := { frames := 4, cells := 0, slots := 0, locals := 85 }
set_option maxRecDepth 100000 in
set_option maxHeartbeats 4000000 in
theorem ok_X7_readsFirst {l : Launch} {E : mE} {v0 : Int32} {S : mS} {F : Int32 × mS} (hF : f_X7_readsFirst v0 S = some F) : mMi l yX7_readsFirst cX7_readsFirst 1 (some .boolean) rm_X7_readsFirst 0 0 [.ref (mA E.b v0)] E S F := by
  refine m_met_i (by decide) (Nat.le_of_ble_eq_true rfl) (fun p e s m args below meth c ls hin C hI hl => ?_)
  have hx := C.1
  have hb := C.2.1
  have hl : lv_has ls 1 [(0, .ref (mA E.b v0))] := hl
  generalize s.heap = H at hI ⊢
  generalize ([] : List Loc) = locs at hI ⊢
  refine lv_aload_n hx hb dX7_readsFirst_0 rfl (lv_at hl 0 rfl) ?_
  refine m_callVv C cd_X7_138 ⟨rfl, by decide⟩ hl.1 hI hF (fun _ h => ok_X7_skip h) rfl rfl ⟨rfl, rfl, Nat.le_of_ble_eq_true rfl, Nat.le_of_ble_eq_true rfl⟩ ⟨Nat.le_of_ble_eq_true rfl, Nat.le_of_ble_eq_true rfl⟩ (Nat.le_of_ble_eq_true rfl) dX7_readsFirst_1 (fun S2 H locs hF hI => ?_)
  refine lv_aload_n hx hb dX7_readsFirst_4 rfl (lv_at hl 0 rfl) ?_
  refine m_callViR C cd_X7_161 ⟨rfl, by decide⟩ hl.1 hI hF (fun _ h => ok_X7_wordHere h) rfl rfl ⟨rfl, rfl, Nat.le_of_ble_eq_true rfl, Nat.le_of_ble_eq_true rfl⟩ ⟨Nat.le_of_ble_eq_true rfl, Nat.le_of_ble_eq_true rfl⟩ (Nat.le_of_ble_eq_true rfl) dX7_readsFirst_5 (fun r3 H locs hF hI => ?_)
  refine m_if_eq C (tgt := 13) hF dX7_readsFirst_8 (by decide) (fun hF => ?_) (fun hF => ?_)
  · refine lv_aload_n hx hb dX7_readsFirst_13 rfl (lv_at hl 0 rfl) ?_
    refine lv_dup hx hb dX7_readsFirst_14 rfl ?_
    refine m_get C fd_X7_122 hI hF dX7_readsFirst_15 (fun r4 hF => ?_)
    refine lv_iconst (v := 4) hx hb dX7_readsFirst_18 (by decide) ?_
    refine lv_iadd hx hb dX7_readsFirst_19 ?_
    refine m_put C fd_X7_122 hI hF dX7_readsFirst_20 (fun S5 H locs hF hI => ?_)
    refine lv_aload_n hx hb dX7_readsFirst_23 rfl (lv_at hl 0 rfl) ?_
    refine lv_iconst (v := 0) hx hb dX7_readsFirst_24 (by decide) ?_
    refine lv_bipush (v := 24) hx hb dX7_readsFirst_25 (by decide) ?_
    refine m_callVi C cd_X7_147 ⟨rfl, by decide⟩ hl.1 hI hF (fun _ h => ok_X7_number h) rfl rfl ⟨rfl, rfl, Nat.le_of_ble_eq_true rfl, Nat.le_of_ble_eq_true rfl⟩ ⟨Nat.le_of_ble_eq_true rfl, Nat.le_of_ble_eq_true rfl⟩ (Nat.le_of_ble_eq_true rfl) dX7_readsFirst_27 (fun r6 S7 H locs hF hI => ?_)
    refine m_if_ne C (tgt := 35) hF dX7_readsFirst_30 (by decide) (fun hF => ?_) (fun hF => ?_)
    · refine lv_aload_n hx hb dX7_readsFirst_35 rfl (lv_at hl 0 rfl) ?_
      refine lv_aload_n hx hb dX7_readsFirst_36 rfl (lv_at hl 0 rfl) ?_
      refine m_get C fd_X7_144 hI hF dX7_readsFirst_37 (fun r8 hF => ?_)
      refine m_callVv C cd_X7_66 ⟨rfl, by decide⟩ hl.1 hI hF (fun _ h => ok_X7_begin h) rfl rfl ⟨rfl, rfl, Nat.le_of_ble_eq_true rfl, Nat.le_of_ble_eq_true rfl⟩ ⟨Nat.le_of_ble_eq_true rfl, Nat.le_of_ble_eq_true rfl⟩ (Nat.le_of_ble_eq_true rfl) dX7_readsFirst_40 (fun S10 H locs hF hI => ?_)
      refine lv_aload_n hx hb dX7_readsFirst_43 rfl (lv_at hl 0 rfl) ?_
      refine m_callVi C cd_X7_151 ⟨rfl, by decide⟩ hl.1 hI hF (fun _ h => ok_X7_ends h) rfl rfl ⟨rfl, rfl, Nat.le_of_ble_eq_true rfl, Nat.le_of_ble_eq_true rfl⟩ ⟨Nat.le_of_ble_eq_true rfl, Nat.le_of_ble_eq_true rfl⟩ (Nat.le_of_ble_eq_true rfl) dX7_readsFirst_44 (fun r11 S12 H locs hF hI => ?_)
      exact m_iretz C hI hF dX7_readsFirst_47
    · refine lv_iconst (v := 0) hx hb dX7_readsFirst_33 (by decide) ?_
      exact m_iretz C hI hF dX7_readsFirst_34
  · refine lv_iconst (v := 0) hx hb dX7_readsFirst_11 (by decide) ?_
    exact m_iretz C hI hF dX7_readsFirst_12
noncomputable def f_X7_readsFell_20 (k50 : Int32 → mS → Option (Int32 × mS)) : Nat → Int32 → Int32 → mS → Option (Int32 × mS) := fun n => Nat.rec (motive := fun _ => Int32 → Int32 → mS → Option (Int32 × mS)) (fun _ _ _ => none) (fun _ rec v0 v1 S => mG 7 17 v0 S (fun r6 => mG 7 16 v0 S (fun r7 => if r7 ≤ r6 then (k50 v1 S) else (mRc 7 v0 S (mC (f_X7_readsItem v0 S) (fun r8 S9 => if r8 = 0 then (some ((-1), S9)) else (mRc 7 v0 S9 (mCv (f_X7_skip v0 S9) (fun S11 => rec v0 (v1 + 1) S11))))))))) n
theorem f_X7_readsFell_20_s (k50 : Int32 → mS → Option (Int32 × mS)) (n : Nat) (v0 : Int32) (v1 : Int32) (S : mS) : f_X7_readsFell_20 k50 (n + 1) v0 v1 S = mG 7 17 v0 S (fun r6 => mG 7 16 v0 S (fun r7 => if r7 ≤ r6 then (k50 v1 S) else (mRc 7 v0 S (mC (f_X7_readsItem v0 S) (fun r8 S9 => if r8 = 0 then (some ((-1), S9)) else (mRc 7 v0 S9 (mCv (f_X7_skip v0 S9) (fun S11 => (f_X7_readsFell_20 k50 n) v0 (v1 + 1) S11)))))))) := rfl
noncomputable def f_X7_readsFell_50 (v1 : Int32) (S : mS) : Option (Int32 × mS) := some (v1, S)
noncomputable def f_X7_readsFell (v0 : Int32) (S : mS) : Option (Int32 × mS) := mP 7 17 v0 0 S (fun S1 => mRc 7 v0 S1 (mC (f_X7_readsFirst v0 S1) (fun r2 S3 => if r2 = 0 then (some ((-1), S3)) else (mRc 7 v0 S3 (mCv (f_X7_skip v0 S3) (fun S5 => (f_X7_readsFell_20 (f_X7_readsFell_50) 1000) v0 1 S5))))))
def rm_X7_readsFell : Room := { frames := 6, cells := 0, slots := 0, locals := 140 }
set_option maxRecDepth 100000 in
set_option maxHeartbeats 4000000 in
theorem bl_X7_readsFell_20 {p : Program} {l : Launch} {e : Env} {s : State} {m : MethodId} {args : Array Value} {below : List Frame} {meth : Method} {c : Code} {E : mE} {n0 : Nat} {F : Int32 × mS} (C : mCx p s m args meth c cX7_readsFell 2 RX7 (some .int) E n0) {k50 : Int32 → mS → Option (Int32 × mS)} (hk50 : ∀ (v1 : Int32) (S : mS) (H : Heap) (locs : List Loc) (ls : Array Slot), k50 v1 S = some F → mIv s E S H locs 0 → lv_has ls 2 [(1, .int v1)] → W p l e rm_X7_readsFell s m args below meth c H locs 0 0 (mQi below args s 0 0 n0 E F) (F0 m 50 ls [])) : ∀ (n : Nat)  (v0 : Int32) (v1 : Int32) (S : mS) (H : Heap) (locs : List Loc) (ls : Array Slot), f_X7_readsFell_20 k50 n v0 v1 S = some F → mIv s E S H locs 0 → lv_has ls 2 [(0, .ref (mA E.b v0)), (1, .int v1)] → W p l e rm_X7_readsFell s m args below meth c H locs 0 0 (mQi below args s 0 0 n0 E F) (F0 m 20 ls []) := by
  have hx := C.1
  have hb := C.2.1
  intro n
  induction n with
  | zero =>
    intro v0 v1 S H locs ls hF
    exact nomatch (show (none : Option (Int32 × mS)) = some F from hF)
  | succ n ih =>
    intro v0 v1 S H locs ls hF hI hl
    have hF := (f_X7_readsFell_20_s k50 n v0 v1 S).symm.trans hF
    refine lv_aload_n hx hb dX7_readsFell_20 rfl (lv_at hl 0 rfl) ?_
    refine m_get C fd_X7_122 hI hF dX7_readsFell_21 (fun r6 hF => ?_)
    refine lv_aload_n hx hb dX7_readsFell_24 rfl (lv_at hl 0 rfl) ?_
    refine m_get C fd_X7_119 hI hF dX7_readsFell_25 (fun r7 hF => ?_)
    refine m_icmp_ge C (tgt := 50) hF dX7_readsFell_28 (by decide) (fun hF => ?_) (fun hF => ?_)
    · exact hk50 v1 S _ _ _ hF hI (lv_sub hl [1] rfl)
    · refine lv_aload_n hx hb dX7_readsFell_31 rfl (lv_at hl 0 rfl) ?_
      refine m_callVi C cd_X7_177 ⟨rfl, by decide⟩ hl.1 hI hF (fun _ h => ok_X7_readsItem h) rfl rfl ⟨rfl, rfl, Nat.le_of_ble_eq_true rfl, Nat.le_of_ble_eq_true rfl⟩ ⟨Nat.le_of_ble_eq_true rfl, Nat.le_of_ble_eq_true rfl⟩ (Nat.le_of_ble_eq_true rfl) dX7_readsFell_32 (fun r8 S9 H locs hF hI => ?_)
      refine m_if_ne C (tgt := 40) hF dX7_readsFell_35 (by decide) (fun hF => ?_) (fun hF => ?_)
      · refine lv_iinc (v := v1 + 1) (lv' := [(1, .int (v1 + 1)), (0, .ref (mA E.b v0))]) hx hb dX7_readsFell_40 hl (k := 1) rfl rfl (by decide) rfl (fun ls hl => ?_)
        refine lv_aload_n hx hb dX7_readsFell_43 rfl (lv_at hl 1 rfl) ?_
        refine m_callVv C cd_X7_138 ⟨rfl, by decide⟩ hl.1 hI hF (fun _ h => ok_X7_skip h) rfl rfl ⟨rfl, rfl, Nat.le_of_ble_eq_true rfl, Nat.le_of_ble_eq_true rfl⟩ ⟨Nat.le_of_ble_eq_true rfl, Nat.le_of_ble_eq_true rfl⟩ (Nat.le_of_ble_eq_true rfl) dX7_readsFell_44 (fun S11 H locs hF hI => ?_)
        refine lv_goto (tgt := 20) hx hb dX7_readsFell_47 (by decide) ?_
        exact ih v0 (v1 + 1) S11 _ _ _ hF hI (lv_sub hl [1, 0] rfl)
      · refine lv_iconst (v := (-1)) hx hb dX7_readsFell_38 (by decide) ?_
        exact m_ireti C hI hF dX7_readsFell_39
set_option maxRecDepth 100000 in
set_option maxHeartbeats 4000000 in
theorem bl_X7_readsFell_50 {p : Program} {l : Launch} {e : Env} {s : State} {m : MethodId} {args : Array Value} {below : List Frame} {meth : Method} {c : Code} {E : mE} {n0 : Nat} {F : Int32 × mS} (C : mCx p s m args meth c cX7_readsFell 2 RX7 (some .int) E n0) : ∀  (v1 : Int32) (S : mS) (H : Heap) (locs : List Loc) (ls : Array Slot), f_X7_readsFell_50 v1 S = some F → mIv s E S H locs 0 → lv_has ls 2 [(1, .int v1)] → W p l e rm_X7_readsFell s m args below meth c H locs 0 0 (mQi below args s 0 0 n0 E F) (F0 m 50 ls []) := by
  have hx := C.1
  have hb := C.2.1
  intro v1 S H locs ls hF hI hl
  refine lv_iload_n hx hb dX7_readsFell_50 rfl (lv_at hl 0 rfl) ?_
  exact m_ireti C hI hF dX7_readsFell_51
set_option maxRecDepth 100000 in
set_option maxHeartbeats 4000000 in
theorem ok_X7_readsFell {l : Launch} {E : mE} {v0 : Int32} {S : mS} {F : Int32 × mS} (hF : f_X7_readsFell v0 S = some F) : mMi l yX7_readsFell cX7_readsFell 2 (some .int) rm_X7_readsFell 0 0 [.ref (mA E.b v0)] E S F := by
  refine m_met_i (by decide) (Nat.le_of_ble_eq_true rfl) (fun p e s m args below meth c ls hin C hI hl => ?_)
  have hx := C.1
  have hb := C.2.1
  have hl : lv_has ls 2 [(0, .ref (mA E.b v0))] := hl
  generalize s.heap = H at hI ⊢
  generalize ([] : List Loc) = locs at hI ⊢
  refine lv_aload_n hx hb dX7_readsFell_0 rfl (lv_at hl 0 rfl) ?_
  refine lv_iconst (v := 0) hx hb dX7_readsFell_1 (by decide) ?_
  refine m_put C fd_X7_122 hI hF dX7_readsFell_2 (fun S1 H locs hF hI => ?_)
  refine lv_aload_n hx hb dX7_readsFell_5 rfl (lv_at hl 0 rfl) ?_
  refine m_callVi C cd_X7_174 ⟨rfl, by decide⟩ hl.1 hI hF (fun _ h => ok_X7_readsFirst h) rfl rfl ⟨rfl, rfl, Nat.le_of_ble_eq_true rfl, Nat.le_of_ble_eq_true rfl⟩ ⟨Nat.le_of_ble_eq_true rfl, Nat.le_of_ble_eq_true rfl⟩ (Nat.le_of_ble_eq_true rfl) dX7_readsFell_6 (fun r2 S3 H locs hF hI => ?_)
  refine m_if_ne C (tgt := 14) hF dX7_readsFell_9 (by decide) (fun hF => ?_) (fun hF => ?_)
  · refine lv_iconst (v := 1) hx hb dX7_readsFell_14 (by decide) ?_
    refine lv_istore_n (lv' := [(1, .int 1), (0, .ref (mA E.b v0))]) hx hb dX7_readsFell_15 rfl hl (by decide) rfl (fun ls hl => ?_)
    refine lv_aload_n hx hb dX7_readsFell_16 rfl (lv_at hl 1 rfl) ?_
    refine m_callVv C cd_X7_138 ⟨rfl, by decide⟩ hl.1 hI hF (fun _ h => ok_X7_skip h) rfl rfl ⟨rfl, rfl, Nat.le_of_ble_eq_true rfl, Nat.le_of_ble_eq_true rfl⟩ ⟨Nat.le_of_ble_eq_true rfl, Nat.le_of_ble_eq_true rfl⟩ (Nat.le_of_ble_eq_true rfl) dX7_readsFell_17 (fun S5 H locs hF hI => ?_)
    exact (bl_X7_readsFell_20 C (k50 := (f_X7_readsFell_50)) (bl_X7_readsFell_50 C) 1000) v0 1 S5 _ _ _ hF hI (lv_sub hl [1, 0] rfl)
  · refine lv_iconst (v := (-1)) hx hb dX7_readsFell_12 (by decide) ?_
    exact m_ireti C hI hF dX7_readsFell_13
noncomputable def f_X7_lays_9 (k33 : Int32 → Int32 → Int32 → mS → Option mS) : Nat → Int32 → Int32 → Int32 → Int32 → mS → Option mS := fun n => Nat.rec (motive := fun _ => Int32 → Int32 → Int32 → Int32 → mS → Option mS) (fun _ _ _ _ _ => none) (fun _ rec v0 v1 v2 v3 S => if 3 ≤ v3 then (k33 v0 v1 v2 S) else (mGr 7 9 v0 S (fun r3 => mX 8 r3 v3 S (fun r4 => mXs v1 ((v2 + 1) + v3) r4 S (fun S5 => rec v0 v1 v2 (v3 + 1) S5))))) n
theorem f_X7_lays_9_s (k33 : Int32 → Int32 → Int32 → mS → Option mS) (n : Nat) (v0 : Int32) (v1 : Int32) (v2 : Int32) (v3 : Int32) (S : mS) : f_X7_lays_9 k33 (n + 1) v0 v1 v2 v3 S = if 3 ≤ v3 then (k33 v0 v1 v2 S) else (mGr 7 9 v0 S (fun r3 => mX 8 r3 v3 S (fun r4 => mXs v1 ((v2 + 1) + v3) r4 S (fun S5 => (f_X7_lays_9 k33 n) v0 v1 v2 (v3 + 1) S5)))) := rfl
noncomputable def f_X7_lays_35 (k60 : mS → Option mS) : Nat → Int32 → Int32 → Int32 → Int32 → mS → Option mS := fun n => Nat.rec (motive := fun _ => Int32 → Int32 → Int32 → Int32 → mS → Option mS) (fun _ _ _ _ _ => none) (fun _ rec v0 v1 v2 v3 S => if 7 ≤ v3 then (k60 S) else (mGr 7 11 v0 S (fun r6 => mX 8 r6 v3 S (fun r7 => mXs v1 ((v2 + 4) + v3) r7 S (fun S8 => rec v0 v1 v2 (v3 + 1) S8))))) n
theorem f_X7_lays_35_s (k60 : mS → Option mS) (n : Nat) (v0 : Int32) (v1 : Int32) (v2 : Int32) (v3 : Int32) (S : mS) : f_X7_lays_35 k60 (n + 1) v0 v1 v2 v3 S = if 7 ≤ v3 then (k60 S) else (mGr 7 11 v0 S (fun r6 => mX 8 r6 v3 S (fun r7 => mXs v1 ((v2 + 4) + v3) r7 S (fun S8 => (f_X7_lays_35 k60 n) v0 v1 v2 (v3 + 1) S8)))) := rfl
noncomputable def f_X7_lays_60 (S : mS) : Option mS := some S
noncomputable def f_X7_lays_33 (v0 : Int32) (v1 : Int32) (v2 : Int32) (S : mS) : Option mS := (f_X7_lays_35 (f_X7_lays_60) 1000) v0 v1 v2 0 S
noncomputable def f_X7_lays (v0 : Int32) (v1 : Int32) (v2 : Int32) (S : mS) : Option mS := mG 7 4 v0 S (fun r1 => mXs v1 v2 r1 S (fun S2 => (f_X7_lays_9 (f_X7_lays_33) 1000) v0 v1 v2 0 S2))
def rm_X7_lays : Room := { frames := 0, cells := 0, slots := 0, locals := 0 }
set_option maxRecDepth 100000 in
set_option maxHeartbeats 4000000 in
theorem bl_X7_lays_9 {p : Program} {l : Launch} {e : Env} {s : State} {m : MethodId} {args : Array Value} {below : List Frame} {meth : Method} {c : Code} {E : mE} {n0 : Nat} {F : mS} (C : mCx p s m args meth c cX7_lays 4 RX7 none E n0) {k33 : Int32 → Int32 → Int32 → mS → Option mS} (hk33 : ∀ (v0 : Int32) (v1 : Int32) (v2 : Int32) (S : mS) (H : Heap) (locs : List Loc) (ls : Array Slot), k33 v0 v1 v2 S = some F → mIv s E S H locs 0 → lv_has ls 4 [(0, .ref (mA E.b v0)), (1, .ref (mA E.b v1)), (2, .int v2)] → W p l e rm_X7_lays s m args below meth c H locs 0 0 (mQv below args s 0 0 n0 E F) (F0 m 33 ls [])) : ∀ (n : Nat)  (v0 : Int32) (v1 : Int32) (v2 : Int32) (v3 : Int32) (S : mS) (H : Heap) (locs : List Loc) (ls : Array Slot), f_X7_lays_9 k33 n v0 v1 v2 v3 S = some F → mIv s E S H locs 0 → lv_has ls 4 [(0, .ref (mA E.b v0)), (1, .ref (mA E.b v1)), (2, .int v2), (3, .int v3)] → W p l e rm_X7_lays s m args below meth c H locs 0 0 (mQv below args s 0 0 n0 E F) (F0 m 9 ls []) := by
  have hx := C.1
  have hb := C.2.1
  intro n
  induction n with
  | zero =>
    intro v0 v1 v2 v3 S H locs ls hF
    exact nomatch (show (none : Option mS) = some F from hF)
  | succ n ih =>
    intro v0 v1 v2 v3 S H locs ls hF hI hl
    have hF := (f_X7_lays_9_s k33 n v0 v1 v2 v3 S).symm.trans hF
    refine lv_iload_n hx hb dX7_lays_9 rfl (lv_at hl 3 rfl) ?_
    refine lv_iconst (v := 3) hx hb dX7_lays_10 (by decide) ?_
    refine m_icmp_ge C (tgt := 33) hF dX7_lays_11 (by decide) (fun hF => ?_) (fun hF => ?_)
    · exact hk33 v0 v1 v2 S _ _ _ hF hI (lv_sub hl [0, 1, 2] rfl)
    · refine lv_aload_n hx hb dX7_lays_14 rfl (lv_at hl 1 rfl) ?_
      refine lv_iload_n hx hb dX7_lays_15 rfl (lv_at hl 2 rfl) ?_
      refine lv_iconst (v := 1) hx hb dX7_lays_16 (by decide) ?_
      refine lv_iadd hx hb dX7_lays_17 ?_
      refine lv_iload_n hx hb dX7_lays_18 rfl (lv_at hl 3 rfl) ?_
      refine lv_iadd hx hb dX7_lays_19 ?_
      refine lv_aload_n hx hb dX7_lays_20 rfl (lv_at hl 0 rfl) ?_
      refine m_getR C fd_X7_20 hI hF dX7_lays_21 (fun r3 hF => ?_)
      refine lv_iload_n hx hb dX7_lays_24 rfl (lv_at hl 3 rfl) ?_
      refine m_iald C hI hF dX7_lays_25 (fun r4 hF => ?_)
      refine m_iast C hI hF dX7_lays_26 (fun S5 H locs hF hI => ?_)
      refine lv_iinc (v := v3 + 1) (lv' := [(3, .int (v3 + 1)), (0, .ref (mA E.b v0)), (1, .ref (mA E.b v1)), (2, .int v2)]) hx hb dX7_lays_27 hl (k := 3) rfl rfl (by decide) rfl (fun ls hl => ?_)
      refine lv_goto (tgt := 9) hx hb dX7_lays_30 (by decide) ?_
      exact ih v0 v1 v2 (v3 + 1) S5 _ _ _ hF hI (lv_sub hl [1, 2, 3, 0] rfl)
set_option maxRecDepth 100000 in
set_option maxHeartbeats 4000000 in
theorem bl_X7_lays_35 {p : Program} {l : Launch} {e : Env} {s : State} {m : MethodId} {args : Array Value} {below : List Frame} {meth : Method} {c : Code} {E : mE} {n0 : Nat} {F : mS} (C : mCx p s m args meth c cX7_lays 4 RX7 none E n0) {k60 : mS → Option mS} (hk60 : ∀ (S : mS) (H : Heap) (locs : List Loc) (ls : Array Slot), k60 S = some F → mIv s E S H locs 0 → lv_has ls 4 [] → W p l e rm_X7_lays s m args below meth c H locs 0 0 (mQv below args s 0 0 n0 E F) (F0 m 60 ls [])) : ∀ (n : Nat)  (v0 : Int32) (v1 : Int32) (v2 : Int32) (v3 : Int32) (S : mS) (H : Heap) (locs : List Loc) (ls : Array Slot), f_X7_lays_35 k60 n v0 v1 v2 v3 S = some F → mIv s E S H locs 0 → lv_has ls 4 [(0, .ref (mA E.b v0)), (1, .ref (mA E.b v1)), (2, .int v2), (3, .int v3)] → W p l e rm_X7_lays s m args below meth c H locs 0 0 (mQv below args s 0 0 n0 E F) (F0 m 35 ls []) := by
  have hx := C.1
  have hb := C.2.1
  intro n
  induction n with
  | zero =>
    intro v0 v1 v2 v3 S H locs ls hF
    exact nomatch (show (none : Option mS) = some F from hF)
  | succ n ih =>
    intro v0 v1 v2 v3 S H locs ls hF hI hl
    have hF := (f_X7_lays_35_s k60 n v0 v1 v2 v3 S).symm.trans hF
    refine lv_iload_n hx hb dX7_lays_35 rfl (lv_at hl 3 rfl) ?_
    refine lv_bipush (v := 7) hx hb dX7_lays_36 (by decide) ?_
    refine m_icmp_ge C (tgt := 60) hF dX7_lays_38 (by decide) (fun hF => ?_) (fun hF => ?_)
    · exact hk60 S _ _ _ hF hI (lv_sub hl [] rfl)
    · refine lv_aload_n hx hb dX7_lays_41 rfl (lv_at hl 1 rfl) ?_
      refine lv_iload_n hx hb dX7_lays_42 rfl (lv_at hl 2 rfl) ?_
      refine lv_iconst (v := 4) hx hb dX7_lays_43 (by decide) ?_
      refine lv_iadd hx hb dX7_lays_44 ?_
      refine lv_iload_n hx hb dX7_lays_45 rfl (lv_at hl 3 rfl) ?_
      refine lv_iadd hx hb dX7_lays_46 ?_
      refine lv_aload_n hx hb dX7_lays_47 rfl (lv_at hl 0 rfl) ?_
      refine m_getR C fd_X7_26 hI hF dX7_lays_48 (fun r6 hF => ?_)
      refine lv_iload_n hx hb dX7_lays_51 rfl (lv_at hl 3 rfl) ?_
      refine m_iald C hI hF dX7_lays_52 (fun r7 hF => ?_)
      refine m_iast C hI hF dX7_lays_53 (fun S8 H locs hF hI => ?_)
      refine lv_iinc (v := v3 + 1) (lv' := [(3, .int (v3 + 1)), (0, .ref (mA E.b v0)), (1, .ref (mA E.b v1)), (2, .int v2)]) hx hb dX7_lays_54 hl (k := 3) rfl rfl (by decide) rfl (fun ls hl => ?_)
      refine lv_goto (tgt := 35) hx hb dX7_lays_57 (by decide) ?_
      exact ih v0 v1 v2 (v3 + 1) S8 _ _ _ hF hI (lv_sub hl [1, 2, 3, 0] rfl)
set_option maxRecDepth 100000 in
set_option maxHeartbeats 4000000 in
theorem bl_X7_lays_60 {p : Program} {l : Launch} {e : Env} {s : State} {m : MethodId} {args : Array Value} {below : List Frame} {meth : Method} {c : Code} {E : mE} {n0 : Nat} {F : mS} (C : mCx p s m args meth c cX7_lays 4 RX7 none E n0) : ∀  (S : mS) (H : Heap) (locs : List Loc) (ls : Array Slot), f_X7_lays_60 S = some F → mIv s E S H locs 0 → lv_has ls 4 [] → W p l e rm_X7_lays s m args below meth c H locs 0 0 (mQv below args s 0 0 n0 E F) (F0 m 60 ls []) := by
  have hx := C.1
  have hb := C.2.1
  intro S H locs ls hF hI hl
  exact m_vret C hI hF dX7_lays_60
set_option maxRecDepth 100000 in
set_option maxHeartbeats 4000000 in
theorem bl_X7_lays_33 {p : Program} {l : Launch} {e : Env} {s : State} {m : MethodId} {args : Array Value} {below : List Frame} {meth : Method} {c : Code} {E : mE} {n0 : Nat} {F : mS} (C : mCx p s m args meth c cX7_lays 4 RX7 none E n0) : ∀  (v0 : Int32) (v1 : Int32) (v2 : Int32) (S : mS) (H : Heap) (locs : List Loc) (ls : Array Slot), f_X7_lays_33 v0 v1 v2 S = some F → mIv s E S H locs 0 → lv_has ls 4 [(0, .ref (mA E.b v0)), (1, .ref (mA E.b v1)), (2, .int v2)] → W p l e rm_X7_lays s m args below meth c H locs 0 0 (mQv below args s 0 0 n0 E F) (F0 m 33 ls []) := by
  have hx := C.1
  have hb := C.2.1
  intro v0 v1 v2 S H locs ls hF hI hl
  refine lv_iconst (v := 0) hx hb dX7_lays_33 (by decide) ?_
  refine lv_istore_n (lv' := [(3, .int 0), (0, .ref (mA E.b v0)), (1, .ref (mA E.b v1)), (2, .int v2)]) hx hb dX7_lays_34 rfl hl (by decide) rfl (fun ls hl => ?_)
  exact (bl_X7_lays_35 C (k60 := (f_X7_lays_60)) (bl_X7_lays_60 C) 1000) v0 v1 v2 0 S _ _ _ hF hI (lv_sub hl [1, 2, 3, 0] rfl)
set_option maxRecDepth 100000 in
set_option maxHeartbeats 4000000 in
theorem ok_X7_lays {l : Launch} {E : mE} {v0 : Int32} {v1 : Int32} {v2 : Int32} {S : mS} {F : mS} (hF : f_X7_lays v0 v1 v2 S = some F) : mMv l yX7_lays cX7_lays 4 none rm_X7_lays 0 0 [.ref (mA E.b v0), .ref (mA E.b v1), .int v2] E S F := by
  refine m_met_v (by decide) (Nat.le_of_ble_eq_true rfl) (fun p e s m args below meth c ls hin C hI hl => ?_)
  have hx := C.1
  have hb := C.2.1
  have hl : lv_has ls 4 [(0, .ref (mA E.b v0)), (1, .ref (mA E.b v1)), (2, .int v2)] := hl
  generalize s.heap = H at hI ⊢
  generalize ([] : List Loc) = locs at hI ⊢
  refine lv_aload_n hx hb dX7_lays_0 rfl (lv_at hl 1 rfl) ?_
  refine lv_iload_n hx hb dX7_lays_1 rfl (lv_at hl 2 rfl) ?_
  refine lv_aload_n hx hb dX7_lays_2 rfl (lv_at hl 0 rfl) ?_
  refine m_get C fd_X7_80 hI hF dX7_lays_3 (fun r1 hF => ?_)
  refine m_iast C hI hF dX7_lays_6 (fun S2 H locs hF hI => ?_)
  refine lv_iconst (v := 0) hx hb dX7_lays_7 (by decide) ?_
  refine lv_istore_n (lv' := [(3, .int 0), (0, .ref (mA E.b v0)), (1, .ref (mA E.b v1)), (2, .int v2)]) hx hb dX7_lays_8 rfl hl (by decide) rfl (fun ls hl => ?_)
  exact (bl_X7_lays_9 C (k33 := (f_X7_lays_33)) (bl_X7_lays_33 C) 1000) v0 v1 v2 0 S2 _ _ _ hF hI (lv_sub hl [1, 2, 3, 0] rfl)
noncomputable def f_X7_layAll_78 (k103 : Int32 → Int32 → Int32 → mS → Option mS) : Nat → Int32 → Int32 → Int32 → Int32 → mS → Option mS := fun n => Nat.rec (motive := fun _ => Int32 → Int32 → Int32 → Int32 → mS → Option mS) (fun _ _ _ _ _ => none) (fun _ rec v0 v1 v2 v3 S => if 3 ≤ v3 then (k103 v0 v1 v2 S) else (mGr 7 8 v0 S (fun r17 => mX 8 r17 v3 S (fun r18 => mXs v1 ((v2 + 18) + v3) r18 S (fun S19 => rec v0 v1 v2 (v3 + 1) S19))))) n
theorem f_X7_layAll_78_s (k103 : Int32 → Int32 → Int32 → mS → Option mS) (n : Nat) (v0 : Int32) (v1 : Int32) (v2 : Int32) (v3 : Int32) (S : mS) : f_X7_layAll_78 k103 (n + 1) v0 v1 v2 v3 S = if 3 ≤ v3 then (k103 v0 v1 v2 S) else (mGr 7 8 v0 S (fun r17 => mX 8 r17 v3 S (fun r18 => mXs v1 ((v2 + 18) + v3) r18 S (fun S19 => (f_X7_layAll_78 k103 n) v0 v1 v2 (v3 + 1) S19)))) := rfl
noncomputable def f_X7_layAll_105 (k131 : Int32 → Int32 → Int32 → mS → Option mS) : Nat → Int32 → Int32 → Int32 → Int32 → mS → Option mS := fun n => Nat.rec (motive := fun _ => Int32 → Int32 → Int32 → Int32 → mS → Option mS) (fun _ _ _ _ _ => none) (fun _ rec v0 v1 v2 v3 S => if 7 ≤ v3 then (k131 v0 v1 v2 S) else (mGr 7 10 v0 S (fun r20 => mX 8 r20 v3 S (fun r21 => mXs v1 ((v2 + 21) + v3) r21 S (fun S22 => rec v0 v1 v2 (v3 + 1) S22))))) n
theorem f_X7_layAll_105_s (k131 : Int32 → Int32 → Int32 → mS → Option mS) (n : Nat) (v0 : Int32) (v1 : Int32) (v2 : Int32) (v3 : Int32) (S : mS) : f_X7_layAll_105 k131 (n + 1) v0 v1 v2 v3 S = if 7 ≤ v3 then (k131 v0 v1 v2 S) else (mGr 7 10 v0 S (fun r20 => mX 8 r20 v3 S (fun r21 => mXs v1 ((v2 + 21) + v3) r21 S (fun S22 => (f_X7_layAll_105 k131 n) v0 v1 v2 (v3 + 1) S22)))) := rfl
noncomputable def f_X7_layAll_133 (k159 : Int32 → Int32 → Int32 → mS → Option mS) : Nat → Int32 → Int32 → Int32 → Int32 → mS → Option mS := fun n => Nat.rec (motive := fun _ => Int32 → Int32 → Int32 → Int32 → mS → Option mS) (fun _ _ _ _ _ => none) (fun _ rec v0 v1 v2 v3 S => if 10 ≤ v3 then (k159 v0 v1 v2 S) else (mGr 7 12 v0 S (fun r23 => mX 8 r23 v3 S (fun r24 => mXs v1 ((v2 + 28) + v3) r24 S (fun S25 => rec v0 v1 v2 (v3 + 1) S25))))) n
theorem f_X7_layAll_133_s (k159 : Int32 → Int32 → Int32 → mS → Option mS) (n : Nat) (v0 : Int32) (v1 : Int32) (v2 : Int32) (v3 : Int32) (S : mS) : f_X7_layAll_133 k159 (n + 1) v0 v1 v2 v3 S = if 10 ≤ v3 then (k159 v0 v1 v2 S) else (mGr 7 12 v0 S (fun r23 => mX 8 r23 v3 S (fun r24 => mXs v1 ((v2 + 28) + v3) r24 S (fun S25 => (f_X7_layAll_133 k159 n) v0 v1 v2 (v3 + 1) S25)))) := rfl
noncomputable def f_X7_layAll_161 (k201 : Int32 → Int32 → Int32 → mS → Option mS) : Nat → Int32 → Int32 → Int32 → Int32 → mS → Option mS := fun n => Nat.rec (motive := fun _ => Int32 → Int32 → Int32 → Int32 → mS → Option mS) (fun _ _ _ _ _ => none) (fun _ rec v0 v1 v2 v3 S => if 18 ≤ v3 then (k201 v0 v1 v2 S) else (mGr 7 13 v0 S (fun r26 => mX 8 r26 v3 S (fun r27 => mXs v1 ((v2 + 38) + v3) r27 S (fun S28 => mGr 7 14 v0 S28 (fun r29 => mX 8 r29 v3 S28 (fun r30 => mXs v1 ((v2 + 56) + v3) r30 S28 (fun S31 => rec v0 v1 v2 (v3 + 1) S31)))))))) n
theorem f_X7_layAll_161_s (k201 : Int32 → Int32 → Int32 → mS → Option mS) (n : Nat) (v0 : Int32) (v1 : Int32) (v2 : Int32) (v3 : Int32) (S : mS) : f_X7_layAll_161 k201 (n + 1) v0 v1 v2 v3 S = if 18 ≤ v3 then (k201 v0 v1 v2 S) else (mGr 7 13 v0 S (fun r26 => mX 8 r26 v3 S (fun r27 => mXs v1 ((v2 + 38) + v3) r27 S (fun S28 => mGr 7 14 v0 S28 (fun r29 => mX 8 r29 v3 S28 (fun r30 => mXs v1 ((v2 + 56) + v3) r30 S28 (fun S31 => (f_X7_layAll_161 k201 n) v0 v1 v2 (v3 + 1) S31))))))) := rfl
noncomputable def f_X7_layAll_203 (k229 : mS → Option mS) : Nat → Int32 → Int32 → Int32 → Int32 → mS → Option mS := fun n => Nat.rec (motive := fun _ => Int32 → Int32 → Int32 → Int32 → mS → Option mS) (fun _ _ _ _ _ => none) (fun _ rec v0 v1 v2 v3 S => if 88 ≤ v3 then (k229 S) else (mGr 7 20 v0 S (fun r32 => mX 8 r32 v3 S (fun r33 => mXs v1 ((v2 + 74) + v3) r33 S (fun S34 => rec v0 v1 v2 (v3 + 1) S34))))) n
theorem f_X7_layAll_203_s (k229 : mS → Option mS) (n : Nat) (v0 : Int32) (v1 : Int32) (v2 : Int32) (v3 : Int32) (S : mS) : f_X7_layAll_203 k229 (n + 1) v0 v1 v2 v3 S = if 88 ≤ v3 then (k229 S) else (mGr 7 20 v0 S (fun r32 => mX 8 r32 v3 S (fun r33 => mXs v1 ((v2 + 74) + v3) r33 S (fun S34 => (f_X7_layAll_203 k229 n) v0 v1 v2 (v3 + 1) S34)))) := rfl
noncomputable def f_X7_layAll_229 (S : mS) : Option mS := some S
noncomputable def f_X7_layAll_201 (v0 : Int32) (v1 : Int32) (v2 : Int32) (S : mS) : Option mS := (f_X7_layAll_203 (f_X7_layAll_229) 1000) v0 v1 v2 0 S
noncomputable def f_X7_layAll_159 (v0 : Int32) (v1 : Int32) (v2 : Int32) (S : mS) : Option mS := (f_X7_layAll_161 (f_X7_layAll_201) 1000) v0 v1 v2 0 S
noncomputable def f_X7_layAll_131 (v0 : Int32) (v1 : Int32) (v2 : Int32) (S : mS) : Option mS := (f_X7_layAll_133 (f_X7_layAll_159) 1000) v0 v1 v2 0 S
noncomputable def f_X7_layAll_103 (v0 : Int32) (v1 : Int32) (v2 : Int32) (S : mS) : Option mS := (f_X7_layAll_105 (f_X7_layAll_131) 1000) v0 v1 v2 0 S
noncomputable def f_X7_layAll (v0 : Int32) (v1 : Int32) (v2 : Int32) (S : mS) : Option mS := mRc 7 v0 S (mCv (f_X7_lays v0 v1 v2 S) (fun S2 => mG 7 1 v0 S2 (fun r3 => mXs v1 (v2 + 11) r3 S2 (fun S4 => mG 7 2 v0 S4 (fun r5 => mXs v1 (v2 + 12) r5 S4 (fun S6 => mG 7 3 v0 S6 (fun r7 => mXs v1 (v2 + 13) r7 S6 (fun S8 => mG 7 5 v0 S8 (fun r9 => mXs v1 (v2 + 14) r9 S8 (fun S10 => mG 7 6 v0 S10 (fun r11 => mXs v1 (v2 + 15) r11 S10 (fun S12 => mG 7 7 v0 S12 (fun r13 => mXs v1 (v2 + 16) r13 S12 (fun S14 => mG 7 21 v0 S14 (fun r15 => mXs v1 (v2 + 17) r15 S14 (fun S16 => (f_X7_layAll_78 (f_X7_layAll_103) 1000) v0 v1 v2 0 S16))))))))))))))))
def rm_X7_layAll : Room := { frames := 1, cells := 0, slots := 0, locals := 23 }
set_option maxRecDepth 100000 in
set_option maxHeartbeats 4000000 in
theorem bl_X7_layAll_78 {p : Program} {l : Launch} {e : Env} {s : State} {m : MethodId} {args : Array Value} {below : List Frame} {meth : Method} {c : Code} {E : mE} {n0 : Nat} {F : mS} (C : mCx p s m args meth c cX7_layAll 4 RX7 none E n0) {k103 : Int32 → Int32 → Int32 → mS → Option mS} (hk103 : ∀ (v0 : Int32) (v1 : Int32) (v2 : Int32) (S : mS) (H : Heap) (locs : List Loc) (ls : Array Slot), k103 v0 v1 v2 S = some F → mIv s E S H locs 0 → lv_has ls 4 [(0, .ref (mA E.b v0)), (1, .ref (mA E.b v1)), (2, .int v2)] → W p l e rm_X7_layAll s m args below meth c H locs 0 0 (mQv below args s 0 0 n0 E F) (F0 m 103 ls [])) : ∀ (n : Nat)  (v0 : Int32) (v1 : Int32) (v2 : Int32) (v3 : Int32) (S : mS) (H : Heap) (locs : List Loc) (ls : Array Slot), f_X7_layAll_78 k103 n v0 v1 v2 v3 S = some F → mIv s E S H locs 0 → lv_has ls 4 [(0, .ref (mA E.b v0)), (1, .ref (mA E.b v1)), (2, .int v2), (3, .int v3)] → W p l e rm_X7_layAll s m args below meth c H locs 0 0 (mQv below args s 0 0 n0 E F) (F0 m 78 ls []) := by
  have hx := C.1
  have hb := C.2.1
  intro n
  induction n with
  | zero =>
    intro v0 v1 v2 v3 S H locs ls hF
    exact nomatch (show (none : Option mS) = some F from hF)
  | succ n ih =>
    intro v0 v1 v2 v3 S H locs ls hF hI hl
    have hF := (f_X7_layAll_78_s k103 n v0 v1 v2 v3 S).symm.trans hF
    refine lv_iload_n hx hb dX7_layAll_78 rfl (lv_at hl 3 rfl) ?_
    refine lv_iconst (v := 3) hx hb dX7_layAll_79 (by decide) ?_
    refine m_icmp_ge C (tgt := 103) hF dX7_layAll_80 (by decide) (fun hF => ?_) (fun hF => ?_)
    · exact hk103 v0 v1 v2 S _ _ _ hF hI (lv_sub hl [0, 1, 2] rfl)
    · refine lv_aload_n hx hb dX7_layAll_83 rfl (lv_at hl 1 rfl) ?_
      refine lv_iload_n hx hb dX7_layAll_84 rfl (lv_at hl 2 rfl) ?_
      refine lv_bipush (v := 18) hx hb dX7_layAll_85 (by decide) ?_
      refine lv_iadd hx hb dX7_layAll_87 ?_
      refine lv_iload_n hx hb dX7_layAll_88 rfl (lv_at hl 3 rfl) ?_
      refine lv_iadd hx hb dX7_layAll_89 ?_
      refine lv_aload_n hx hb dX7_layAll_90 rfl (lv_at hl 0 rfl) ?_
      refine m_getR C fd_X7_17 hI hF dX7_layAll_91 (fun r17 hF => ?_)
      refine lv_iload_n hx hb dX7_layAll_94 rfl (lv_at hl 3 rfl) ?_
      refine m_iald C hI hF dX7_layAll_95 (fun r18 hF => ?_)
      refine m_iast C hI hF dX7_layAll_96 (fun S19 H locs hF hI => ?_)
      refine lv_iinc (v := v3 + 1) (lv' := [(3, .int (v3 + 1)), (0, .ref (mA E.b v0)), (1, .ref (mA E.b v1)), (2, .int v2)]) hx hb dX7_layAll_97 hl (k := 3) rfl rfl (by decide) rfl (fun ls hl => ?_)
      refine lv_goto (tgt := 78) hx hb dX7_layAll_100 (by decide) ?_
      exact ih v0 v1 v2 (v3 + 1) S19 _ _ _ hF hI (lv_sub hl [1, 2, 3, 0] rfl)
set_option maxRecDepth 100000 in
set_option maxHeartbeats 4000000 in
theorem bl_X7_layAll_105 {p : Program} {l : Launch} {e : Env} {s : State} {m : MethodId} {args : Array Value} {below : List Frame} {meth : Method} {c : Code} {E : mE} {n0 : Nat} {F : mS} (C : mCx p s m args meth c cX7_layAll 4 RX7 none E n0) {k131 : Int32 → Int32 → Int32 → mS → Option mS} (hk131 : ∀ (v0 : Int32) (v1 : Int32) (v2 : Int32) (S : mS) (H : Heap) (locs : List Loc) (ls : Array Slot), k131 v0 v1 v2 S = some F → mIv s E S H locs 0 → lv_has ls 4 [(0, .ref (mA E.b v0)), (1, .ref (mA E.b v1)), (2, .int v2)] → W p l e rm_X7_layAll s m args below meth c H locs 0 0 (mQv below args s 0 0 n0 E F) (F0 m 131 ls [])) : ∀ (n : Nat)  (v0 : Int32) (v1 : Int32) (v2 : Int32) (v3 : Int32) (S : mS) (H : Heap) (locs : List Loc) (ls : Array Slot), f_X7_layAll_105 k131 n v0 v1 v2 v3 S = some F → mIv s E S H locs 0 → lv_has ls 4 [(0, .ref (mA E.b v0)), (1, .ref (mA E.b v1)), (2, .int v2), (3, .int v3)] → W p l e rm_X7_layAll s m args below meth c H locs 0 0 (mQv below args s 0 0 n0 E F) (F0 m 105 ls []) := by
  have hx := C.1
  have hb := C.2.1
  intro n
  induction n with
  | zero =>
    intro v0 v1 v2 v3 S H locs ls hF
    exact nomatch (show (none : Option mS) = some F from hF)
  | succ n ih =>
    intro v0 v1 v2 v3 S H locs ls hF hI hl
    have hF := (f_X7_layAll_105_s k131 n v0 v1 v2 v3 S).symm.trans hF
    refine lv_iload_n hx hb dX7_layAll_105 rfl (lv_at hl 3 rfl) ?_
    refine lv_bipush (v := 7) hx hb dX7_layAll_106 (by decide) ?_
    refine m_icmp_ge C (tgt := 131) hF dX7_layAll_108 (by decide) (fun hF => ?_) (fun hF => ?_)
    · exact hk131 v0 v1 v2 S _ _ _ hF hI (lv_sub hl [0, 1, 2] rfl)
    · refine lv_aload_n hx hb dX7_layAll_111 rfl (lv_at hl 1 rfl) ?_
      refine lv_iload_n hx hb dX7_layAll_112 rfl (lv_at hl 2 rfl) ?_
      refine lv_bipush (v := 21) hx hb dX7_layAll_113 (by decide) ?_
      refine lv_iadd hx hb dX7_layAll_115 ?_
      refine lv_iload_n hx hb dX7_layAll_116 rfl (lv_at hl 3 rfl) ?_
      refine lv_iadd hx hb dX7_layAll_117 ?_
      refine lv_aload_n hx hb dX7_layAll_118 rfl (lv_at hl 0 rfl) ?_
      refine m_getR C fd_X7_23 hI hF dX7_layAll_119 (fun r20 hF => ?_)
      refine lv_iload_n hx hb dX7_layAll_122 rfl (lv_at hl 3 rfl) ?_
      refine m_iald C hI hF dX7_layAll_123 (fun r21 hF => ?_)
      refine m_iast C hI hF dX7_layAll_124 (fun S22 H locs hF hI => ?_)
      refine lv_iinc (v := v3 + 1) (lv' := [(3, .int (v3 + 1)), (0, .ref (mA E.b v0)), (1, .ref (mA E.b v1)), (2, .int v2)]) hx hb dX7_layAll_125 hl (k := 3) rfl rfl (by decide) rfl (fun ls hl => ?_)
      refine lv_goto (tgt := 105) hx hb dX7_layAll_128 (by decide) ?_
      exact ih v0 v1 v2 (v3 + 1) S22 _ _ _ hF hI (lv_sub hl [1, 2, 3, 0] rfl)
set_option maxRecDepth 100000 in
set_option maxHeartbeats 4000000 in
theorem bl_X7_layAll_133 {p : Program} {l : Launch} {e : Env} {s : State} {m : MethodId} {args : Array Value} {below : List Frame} {meth : Method} {c : Code} {E : mE} {n0 : Nat} {F : mS} (C : mCx p s m args meth c cX7_layAll 4 RX7 none E n0) {k159 : Int32 → Int32 → Int32 → mS → Option mS} (hk159 : ∀ (v0 : Int32) (v1 : Int32) (v2 : Int32) (S : mS) (H : Heap) (locs : List Loc) (ls : Array Slot), k159 v0 v1 v2 S = some F → mIv s E S H locs 0 → lv_has ls 4 [(0, .ref (mA E.b v0)), (1, .ref (mA E.b v1)), (2, .int v2)] → W p l e rm_X7_layAll s m args below meth c H locs 0 0 (mQv below args s 0 0 n0 E F) (F0 m 159 ls [])) : ∀ (n : Nat)  (v0 : Int32) (v1 : Int32) (v2 : Int32) (v3 : Int32) (S : mS) (H : Heap) (locs : List Loc) (ls : Array Slot), f_X7_layAll_133 k159 n v0 v1 v2 v3 S = some F → mIv s E S H locs 0 → lv_has ls 4 [(0, .ref (mA E.b v0)), (1, .ref (mA E.b v1)), (2, .int v2), (3, .int v3)] → W p l e rm_X7_layAll s m args below meth c H locs 0 0 (mQv below args s 0 0 n0 E F) (F0 m 133 ls []) := by
  have hx := C.1
  have hb := C.2.1
  intro n
  induction n with
  | zero =>
    intro v0 v1 v2 v3 S H locs ls hF
    exact nomatch (show (none : Option mS) = some F from hF)
  | succ n ih =>
    intro v0 v1 v2 v3 S H locs ls hF hI hl
    have hF := (f_X7_layAll_133_s k159 n v0 v1 v2 v3 S).symm.trans hF
    refine lv_iload_n hx hb dX7_layAll_133 rfl (lv_at hl 3 rfl) ?_
    refine lv_bipush (v := 10) hx hb dX7_layAll_134 (by decide) ?_
    refine m_icmp_ge C (tgt := 159) hF dX7_layAll_136 (by decide) (fun hF => ?_) (fun hF => ?_)
    · exact hk159 v0 v1 v2 S _ _ _ hF hI (lv_sub hl [0, 1, 2] rfl)
    · refine lv_aload_n hx hb dX7_layAll_139 rfl (lv_at hl 1 rfl) ?_
      refine lv_iload_n hx hb dX7_layAll_140 rfl (lv_at hl 2 rfl) ?_
      refine lv_bipush (v := 28) hx hb dX7_layAll_141 (by decide) ?_
      refine lv_iadd hx hb dX7_layAll_143 ?_
      refine lv_iload_n hx hb dX7_layAll_144 rfl (lv_at hl 3 rfl) ?_
      refine lv_iadd hx hb dX7_layAll_145 ?_
      refine lv_aload_n hx hb dX7_layAll_146 rfl (lv_at hl 0 rfl) ?_
      refine m_getR C fd_X7_29 hI hF dX7_layAll_147 (fun r23 hF => ?_)
      refine lv_iload_n hx hb dX7_layAll_150 rfl (lv_at hl 3 rfl) ?_
      refine m_iald C hI hF dX7_layAll_151 (fun r24 hF => ?_)
      refine m_iast C hI hF dX7_layAll_152 (fun S25 H locs hF hI => ?_)
      refine lv_iinc (v := v3 + 1) (lv' := [(3, .int (v3 + 1)), (0, .ref (mA E.b v0)), (1, .ref (mA E.b v1)), (2, .int v2)]) hx hb dX7_layAll_153 hl (k := 3) rfl rfl (by decide) rfl (fun ls hl => ?_)
      refine lv_goto (tgt := 133) hx hb dX7_layAll_156 (by decide) ?_
      exact ih v0 v1 v2 (v3 + 1) S25 _ _ _ hF hI (lv_sub hl [1, 2, 3, 0] rfl)
set_option maxRecDepth 100000 in
set_option maxHeartbeats 4000000 in
theorem bl_X7_layAll_161 {p : Program} {l : Launch} {e : Env} {s : State} {m : MethodId} {args : Array Value} {below : List Frame} {meth : Method} {c : Code} {E : mE} {n0 : Nat} {F : mS} (C : mCx p s m args meth c cX7_layAll 4 RX7 none E n0) {k201 : Int32 → Int32 → Int32 → mS → Option mS} (hk201 : ∀ (v0 : Int32) (v1 : Int32) (v2 : Int32) (S : mS) (H : Heap) (locs : List Loc) (ls : Array Slot), k201 v0 v1 v2 S = some F → mIv s E S H locs 0 → lv_has ls 4 [(0, .ref (mA E.b v0)), (1, .ref (mA E.b v1)), (2, .int v2)] → W p l e rm_X7_layAll s m args below meth c H locs 0 0 (mQv below args s 0 0 n0 E F) (F0 m 201 ls [])) : ∀ (n : Nat)  (v0 : Int32) (v1 : Int32) (v2 : Int32) (v3 : Int32) (S : mS) (H : Heap) (locs : List Loc) (ls : Array Slot), f_X7_layAll_161 k201 n v0 v1 v2 v3 S = some F → mIv s E S H locs 0 → lv_has ls 4 [(0, .ref (mA E.b v0)), (1, .ref (mA E.b v1)), (2, .int v2), (3, .int v3)] → W p l e rm_X7_layAll s m args below meth c H locs 0 0 (mQv below args s 0 0 n0 E F) (F0 m 161 ls []) := by
  have hx := C.1
  have hb := C.2.1
  intro n
  induction n with
  | zero =>
    intro v0 v1 v2 v3 S H locs ls hF
    exact nomatch (show (none : Option mS) = some F from hF)
  | succ n ih =>
    intro v0 v1 v2 v3 S H locs ls hF hI hl
    have hF := (f_X7_layAll_161_s k201 n v0 v1 v2 v3 S).symm.trans hF
    refine lv_iload_n hx hb dX7_layAll_161 rfl (lv_at hl 3 rfl) ?_
    refine lv_bipush (v := 18) hx hb dX7_layAll_162 (by decide) ?_
    refine m_icmp_ge C (tgt := 201) hF dX7_layAll_164 (by decide) (fun hF => ?_) (fun hF => ?_)
    · exact hk201 v0 v1 v2 S _ _ _ hF hI (lv_sub hl [0, 1, 2] rfl)
    · refine lv_aload_n hx hb dX7_layAll_167 rfl (lv_at hl 1 rfl) ?_
      refine lv_iload_n hx hb dX7_layAll_168 rfl (lv_at hl 2 rfl) ?_
      refine lv_bipush (v := 38) hx hb dX7_layAll_169 (by decide) ?_
      refine lv_iadd hx hb dX7_layAll_171 ?_
      refine lv_iload_n hx hb dX7_layAll_172 rfl (lv_at hl 3 rfl) ?_
      refine lv_iadd hx hb dX7_layAll_173 ?_
      refine lv_aload_n hx hb dX7_layAll_174 rfl (lv_at hl 0 rfl) ?_
      refine m_getR C fd_X7_32 hI hF dX7_layAll_175 (fun r26 hF => ?_)
      refine lv_iload_n hx hb dX7_layAll_178 rfl (lv_at hl 3 rfl) ?_
      refine m_iald C hI hF dX7_layAll_179 (fun r27 hF => ?_)
      refine m_iast C hI hF dX7_layAll_180 (fun S28 H locs hF hI => ?_)
      refine lv_aload_n hx hb dX7_layAll_181 rfl (lv_at hl 1 rfl) ?_
      refine lv_iload_n hx hb dX7_layAll_182 rfl (lv_at hl 2 rfl) ?_
      refine lv_bipush (v := 56) hx hb dX7_layAll_183 (by decide) ?_
      refine lv_iadd hx hb dX7_layAll_185 ?_
      refine lv_iload_n hx hb dX7_layAll_186 rfl (lv_at hl 3 rfl) ?_
      refine lv_iadd hx hb dX7_layAll_187 ?_
      refine lv_aload_n hx hb dX7_layAll_188 rfl (lv_at hl 0 rfl) ?_
      refine m_getR C fd_X7_35 hI hF dX7_layAll_189 (fun r29 hF => ?_)
      refine lv_iload_n hx hb dX7_layAll_192 rfl (lv_at hl 3 rfl) ?_
      refine m_iald C hI hF dX7_layAll_193 (fun r30 hF => ?_)
      refine m_iast C hI hF dX7_layAll_194 (fun S31 H locs hF hI => ?_)
      refine lv_iinc (v := v3 + 1) (lv' := [(3, .int (v3 + 1)), (0, .ref (mA E.b v0)), (1, .ref (mA E.b v1)), (2, .int v2)]) hx hb dX7_layAll_195 hl (k := 3) rfl rfl (by decide) rfl (fun ls hl => ?_)
      refine lv_goto (tgt := 161) hx hb dX7_layAll_198 (by decide) ?_
      exact ih v0 v1 v2 (v3 + 1) S31 _ _ _ hF hI (lv_sub hl [1, 2, 3, 0] rfl)
set_option maxRecDepth 100000 in
set_option maxHeartbeats 4000000 in
theorem bl_X7_layAll_203 {p : Program} {l : Launch} {e : Env} {s : State} {m : MethodId} {args : Array Value} {below : List Frame} {meth : Method} {c : Code} {E : mE} {n0 : Nat} {F : mS} (C : mCx p s m args meth c cX7_layAll 4 RX7 none E n0) {k229 : mS → Option mS} (hk229 : ∀ (S : mS) (H : Heap) (locs : List Loc) (ls : Array Slot), k229 S = some F → mIv s E S H locs 0 → lv_has ls 4 [] → W p l e rm_X7_layAll s m args below meth c H locs 0 0 (mQv below args s 0 0 n0 E F) (F0 m 229 ls [])) : ∀ (n : Nat)  (v0 : Int32) (v1 : Int32) (v2 : Int32) (v3 : Int32) (S : mS) (H : Heap) (locs : List Loc) (ls : Array Slot), f_X7_layAll_203 k229 n v0 v1 v2 v3 S = some F → mIv s E S H locs 0 → lv_has ls 4 [(0, .ref (mA E.b v0)), (1, .ref (mA E.b v1)), (2, .int v2), (3, .int v3)] → W p l e rm_X7_layAll s m args below meth c H locs 0 0 (mQv below args s 0 0 n0 E F) (F0 m 203 ls []) := by
  have hx := C.1
  have hb := C.2.1
  intro n
  induction n with
  | zero =>
    intro v0 v1 v2 v3 S H locs ls hF
    exact nomatch (show (none : Option mS) = some F from hF)
  | succ n ih =>
    intro v0 v1 v2 v3 S H locs ls hF hI hl
    have hF := (f_X7_layAll_203_s k229 n v0 v1 v2 v3 S).symm.trans hF
    refine lv_iload_n hx hb dX7_layAll_203 rfl (lv_at hl 3 rfl) ?_
    refine lv_bipush (v := 88) hx hb dX7_layAll_204 (by decide) ?_
    refine m_icmp_ge C (tgt := 229) hF dX7_layAll_206 (by decide) (fun hF => ?_) (fun hF => ?_)
    · exact hk229 S _ _ _ hF hI (lv_sub hl [] rfl)
    · refine lv_aload_n hx hb dX7_layAll_209 rfl (lv_at hl 1 rfl) ?_
      refine lv_iload_n hx hb dX7_layAll_210 rfl (lv_at hl 2 rfl) ?_
      refine lv_bipush (v := 74) hx hb dX7_layAll_211 (by decide) ?_
      refine lv_iadd hx hb dX7_layAll_213 ?_
      refine lv_iload_n hx hb dX7_layAll_214 rfl (lv_at hl 3 rfl) ?_
      refine lv_iadd hx hb dX7_layAll_215 ?_
      refine lv_aload_n hx hb dX7_layAll_216 rfl (lv_at hl 0 rfl) ?_
      refine m_getR C fd_X7_44 hI hF dX7_layAll_217 (fun r32 hF => ?_)
      refine lv_iload_n hx hb dX7_layAll_220 rfl (lv_at hl 3 rfl) ?_
      refine m_iald C hI hF dX7_layAll_221 (fun r33 hF => ?_)
      refine m_iast C hI hF dX7_layAll_222 (fun S34 H locs hF hI => ?_)
      refine lv_iinc (v := v3 + 1) (lv' := [(3, .int (v3 + 1)), (0, .ref (mA E.b v0)), (1, .ref (mA E.b v1)), (2, .int v2)]) hx hb dX7_layAll_223 hl (k := 3) rfl rfl (by decide) rfl (fun ls hl => ?_)
      refine lv_goto (tgt := 203) hx hb dX7_layAll_226 (by decide) ?_
      exact ih v0 v1 v2 (v3 + 1) S34 _ _ _ hF hI (lv_sub hl [1, 2, 3, 0] rfl)
set_option maxRecDepth 100000 in
set_option maxHeartbeats 4000000 in
theorem bl_X7_layAll_229 {p : Program} {l : Launch} {e : Env} {s : State} {m : MethodId} {args : Array Value} {below : List Frame} {meth : Method} {c : Code} {E : mE} {n0 : Nat} {F : mS} (C : mCx p s m args meth c cX7_layAll 4 RX7 none E n0) : ∀  (S : mS) (H : Heap) (locs : List Loc) (ls : Array Slot), f_X7_layAll_229 S = some F → mIv s E S H locs 0 → lv_has ls 4 [] → W p l e rm_X7_layAll s m args below meth c H locs 0 0 (mQv below args s 0 0 n0 E F) (F0 m 229 ls []) := by
  have hx := C.1
  have hb := C.2.1
  intro S H locs ls hF hI hl
  exact m_vret C hI hF dX7_layAll_229
set_option maxRecDepth 100000 in
set_option maxHeartbeats 4000000 in
theorem bl_X7_layAll_201 {p : Program} {l : Launch} {e : Env} {s : State} {m : MethodId} {args : Array Value} {below : List Frame} {meth : Method} {c : Code} {E : mE} {n0 : Nat} {F : mS} (C : mCx p s m args meth c cX7_layAll 4 RX7 none E n0) : ∀  (v0 : Int32) (v1 : Int32) (v2 : Int32) (S : mS) (H : Heap) (locs : List Loc) (ls : Array Slot), f_X7_layAll_201 v0 v1 v2 S = some F → mIv s E S H locs 0 → lv_has ls 4 [(0, .ref (mA E.b v0)), (1, .ref (mA E.b v1)), (2, .int v2)] → W p l e rm_X7_layAll s m args below meth c H locs 0 0 (mQv below args s 0 0 n0 E F) (F0 m 201 ls []) := by
  have hx := C.1
  have hb := C.2.1
  intro v0 v1 v2 S H locs ls hF hI hl
  refine lv_iconst (v := 0) hx hb dX7_layAll_201 (by decide) ?_
  refine lv_istore_n (lv' := [(3, .int 0), (0, .ref (mA E.b v0)), (1, .ref (mA E.b v1)), (2, .int v2)]) hx hb dX7_layAll_202 rfl hl (by decide) rfl (fun ls hl => ?_)
  exact (bl_X7_layAll_203 C (k229 := (f_X7_layAll_229)) (bl_X7_layAll_229 C) 1000) v0 v1 v2 0 S _ _ _ hF hI (lv_sub hl [1, 2, 3, 0] rfl)
set_option maxRecDepth 100000 in
set_option maxHeartbeats 4000000 in
theorem bl_X7_layAll_159 {p : Program} {l : Launch} {e : Env} {s : State} {m : MethodId} {args : Array Value} {below : List Frame} {meth : Method} {c : Code} {E : mE} {n0 : Nat} {F : mS} (C : mCx p s m args meth c cX7_layAll 4 RX7 none E n0) : ∀  (v0 : Int32) (v1 : Int32) (v2 : Int32) (S : mS) (H : Heap) (locs : List Loc) (ls : Array Slot), f_X7_layAll_159 v0 v1 v2 S = some F → mIv s E S H locs 0 → lv_has ls 4 [(0, .ref (mA E.b v0)), (1, .ref (mA E.b v1)), (2, .int v2)] → W p l e rm_X7_layAll s m args below meth c H locs 0 0 (mQv below args s 0 0 n0 E F) (F0 m 159 ls []) := by
  have hx := C.1
  have hb := C.2.1
  intro v0 v1 v2 S H locs ls hF hI hl
  refine lv_iconst (v := 0) hx hb dX7_layAll_159 (by decide) ?_
  refine lv_istore_n (lv' := [(3, .int 0), (0, .ref (mA E.b v0)), (1, .ref (mA E.b v1)), (2, .int v2)]) hx hb dX7_layAll_160 rfl hl (by decide) rfl (fun ls hl => ?_)
  exact (bl_X7_layAll_161 C (k201 := (f_X7_layAll_201)) (bl_X7_layAll_201 C) 1000) v0 v1 v2 0 S _ _ _ hF hI (lv_sub hl [1, 2, 3, 0] rfl)
set_option maxRecDepth 100000 in
set_option maxHeartbeats 4000000 in
theorem bl_X7_layAll_131 {p : Program} {l : Launch} {e : Env} {s : State} {m : MethodId} {args : Array Value} {below : List Frame} {meth : Method} {c : Code} {E : mE} {n0 : Nat} {F : mS} (C : mCx p s m args meth c cX7_layAll 4 RX7 none E n0) : ∀  (v0 : Int32) (v1 : Int32) (v2 : Int32) (S : mS) (H : Heap) (locs : List Loc) (ls : Array Slot), f_X7_layAll_131 v0 v1 v2 S = some F → mIv s E S H locs 0 → lv_has ls 4 [(0, .ref (mA E.b v0)), (1, .ref (mA E.b v1)), (2, .int v2)] → W p l e rm_X7_layAll s m args below meth c H locs 0 0 (mQv below args s 0 0 n0 E F) (F0 m 131 ls []) := by
  have hx := C.1
  have hb := C.2.1
  intro v0 v1 v2 S H locs ls hF hI hl
  refine lv_iconst (v := 0) hx hb dX7_layAll_131 (by decide) ?_
  refine lv_istore_n (lv' := [(3, .int 0), (0, .ref (mA E.b v0)), (1, .ref (mA E.b v1)), (2, .int v2)]) hx hb dX7_layAll_132 rfl hl (by decide) rfl (fun ls hl => ?_)
  exact (bl_X7_layAll_133 C (k159 := (f_X7_layAll_159)) (bl_X7_layAll_159 C) 1000) v0 v1 v2 0 S _ _ _ hF hI (lv_sub hl [1, 2, 3, 0] rfl)
set_option maxRecDepth 100000 in
set_option maxHeartbeats 4000000 in
theorem bl_X7_layAll_103 {p : Program} {l : Launch} {e : Env} {s : State} {m : MethodId} {args : Array Value} {below : List Frame} {meth : Method} {c : Code} {E : mE} {n0 : Nat} {F : mS} (C : mCx p s m args meth c cX7_layAll 4 RX7 none E n0) : ∀  (v0 : Int32) (v1 : Int32) (v2 : Int32) (S : mS) (H : Heap) (locs : List Loc) (ls : Array Slot), f_X7_layAll_103 v0 v1 v2 S = some F → mIv s E S H locs 0 → lv_has ls 4 [(0, .ref (mA E.b v0)), (1, .ref (mA E.b v1)), (2, .int v2)] → W p l e rm_X7_layAll s m args below meth c H locs 0 0 (mQv below args s 0 0 n0 E F) (F0 m 103 ls []) := by
  have hx := C.1
  have hb := C.2.1
  intro v0 v1 v2 S H locs ls hF hI hl
  refine lv_iconst (v := 0) hx hb dX7_layAll_103 (by decide) ?_
  refine lv_istore_n (lv' := [(3, .int 0), (0, .ref (mA E.b v0)), (1, .ref (mA E.b v1)), (2, .int v2)]) hx hb dX7_layAll_104 rfl hl (by decide) rfl (fun ls hl => ?_)
  exact (bl_X7_layAll_105 C (k131 := (f_X7_layAll_131)) (bl_X7_layAll_131 C) 1000) v0 v1 v2 0 S _ _ _ hF hI (lv_sub hl [1, 2, 3, 0] rfl)
set_option maxRecDepth 100000 in
set_option maxHeartbeats 4000000 in
theorem ok_X7_layAll {l : Launch} {E : mE} {v0 : Int32} {v1 : Int32} {v2 : Int32} {S : mS} {F : mS} (hF : f_X7_layAll v0 v1 v2 S = some F) : mMv l yX7_layAll cX7_layAll 4 none rm_X7_layAll 0 0 [.ref (mA E.b v0), .ref (mA E.b v1), .int v2] E S F := by
  refine m_met_v (by decide) (Nat.le_of_ble_eq_true rfl) (fun p e s m args below meth c ls hin C hI hl => ?_)
  have hx := C.1
  have hb := C.2.1
  have hl : lv_has ls 4 [(0, .ref (mA E.b v0)), (1, .ref (mA E.b v1)), (2, .int v2)] := hl
  generalize s.heap = H at hI ⊢
  generalize ([] : List Loc) = locs at hI ⊢
  refine lv_aload_n hx hb dX7_layAll_0 rfl (lv_at hl 0 rfl) ?_
  refine lv_aload_n hx hb dX7_layAll_1 rfl (lv_at hl 1 rfl) ?_
  refine lv_iload_n hx hb dX7_layAll_2 rfl (lv_at hl 2 rfl) ?_
  refine m_callVv C cd_X7_216 ⟨rfl, by decide⟩ hl.1 hI hF (fun _ h => ok_X7_lays h) rfl rfl ⟨rfl, rfl, Nat.le_of_ble_eq_true rfl, Nat.le_of_ble_eq_true rfl⟩ ⟨Nat.le_of_ble_eq_true rfl, Nat.le_of_ble_eq_true rfl⟩ (Nat.le_of_ble_eq_true rfl) dX7_layAll_3 (fun S2 H locs hF hI => ?_)
  refine lv_aload_n hx hb dX7_layAll_6 rfl (lv_at hl 1 rfl) ?_
  refine lv_iload_n hx hb dX7_layAll_7 rfl (lv_at hl 2 rfl) ?_
  refine lv_bipush (v := 11) hx hb dX7_layAll_8 (by decide) ?_
  refine lv_iadd hx hb dX7_layAll_10 ?_
  refine lv_aload_n hx hb dX7_layAll_11 rfl (lv_at hl 0 rfl) ?_
  refine m_get C fd_X7_70 hI hF dX7_layAll_12 (fun r3 hF => ?_)
  refine m_iast C hI hF dX7_layAll_15 (fun S4 H locs hF hI => ?_)
  refine lv_aload_n hx hb dX7_layAll_16 rfl (lv_at hl 1 rfl) ?_
  refine lv_iload_n hx hb dX7_layAll_17 rfl (lv_at hl 2 rfl) ?_
  refine lv_bipush (v := 12) hx hb dX7_layAll_18 (by decide) ?_
  refine lv_iadd hx hb dX7_layAll_20 ?_
  refine lv_aload_n hx hb dX7_layAll_21 rfl (lv_at hl 0 rfl) ?_
  refine m_get C fd_X7_74 hI hF dX7_layAll_22 (fun r5 hF => ?_)
  refine m_iast C hI hF dX7_layAll_25 (fun S6 H locs hF hI => ?_)
  refine lv_aload_n hx hb dX7_layAll_26 rfl (lv_at hl 1 rfl) ?_
  refine lv_iload_n hx hb dX7_layAll_27 rfl (lv_at hl 2 rfl) ?_
  refine lv_bipush (v := 13) hx hb dX7_layAll_28 (by decide) ?_
  refine lv_iadd hx hb dX7_layAll_30 ?_
  refine lv_aload_n hx hb dX7_layAll_31 rfl (lv_at hl 0 rfl) ?_
  refine m_get C fd_X7_77 hI hF dX7_layAll_32 (fun r7 hF => ?_)
  refine m_iast C hI hF dX7_layAll_35 (fun S8 H locs hF hI => ?_)
  refine lv_aload_n hx hb dX7_layAll_36 rfl (lv_at hl 1 rfl) ?_
  refine lv_iload_n hx hb dX7_layAll_37 rfl (lv_at hl 2 rfl) ?_
  refine lv_bipush (v := 14) hx hb dX7_layAll_38 (by decide) ?_
  refine lv_iadd hx hb dX7_layAll_40 ?_
  refine lv_aload_n hx hb dX7_layAll_41 rfl (lv_at hl 0 rfl) ?_
  refine m_get C fd_X7_83 hI hF dX7_layAll_42 (fun r9 hF => ?_)
  refine m_iast C hI hF dX7_layAll_45 (fun S10 H locs hF hI => ?_)
  refine lv_aload_n hx hb dX7_layAll_46 rfl (lv_at hl 1 rfl) ?_
  refine lv_iload_n hx hb dX7_layAll_47 rfl (lv_at hl 2 rfl) ?_
  refine lv_bipush (v := 15) hx hb dX7_layAll_48 (by decide) ?_
  refine lv_iadd hx hb dX7_layAll_50 ?_
  refine lv_aload_n hx hb dX7_layAll_51 rfl (lv_at hl 0 rfl) ?_
  refine m_get C fd_X7_86 hI hF dX7_layAll_52 (fun r11 hF => ?_)
  refine m_iast C hI hF dX7_layAll_55 (fun S12 H locs hF hI => ?_)
  refine lv_aload_n hx hb dX7_layAll_56 rfl (lv_at hl 1 rfl) ?_
  refine lv_iload_n hx hb dX7_layAll_57 rfl (lv_at hl 2 rfl) ?_
  refine lv_bipush (v := 16) hx hb dX7_layAll_58 (by decide) ?_
  refine lv_iadd hx hb dX7_layAll_60 ?_
  refine lv_aload_n hx hb dX7_layAll_61 rfl (lv_at hl 0 rfl) ?_
  refine m_get C fd_X7_89 hI hF dX7_layAll_62 (fun r13 hF => ?_)
  refine m_iast C hI hF dX7_layAll_65 (fun S14 H locs hF hI => ?_)
  refine lv_aload_n hx hb dX7_layAll_66 rfl (lv_at hl 1 rfl) ?_
  refine lv_iload_n hx hb dX7_layAll_67 rfl (lv_at hl 2 rfl) ?_
  refine lv_bipush (v := 17) hx hb dX7_layAll_68 (by decide) ?_
  refine lv_iadd hx hb dX7_layAll_70 ?_
  refine lv_aload_n hx hb dX7_layAll_71 rfl (lv_at hl 0 rfl) ?_
  refine m_get C fd_X7_92 hI hF dX7_layAll_72 (fun r15 hF => ?_)
  refine m_iast C hI hF dX7_layAll_75 (fun S16 H locs hF hI => ?_)
  refine lv_iconst (v := 0) hx hb dX7_layAll_76 (by decide) ?_
  refine lv_istore_n (lv' := [(3, .int 0), (0, .ref (mA E.b v0)), (1, .ref (mA E.b v1)), (2, .int v2)]) hx hb dX7_layAll_77 rfl hl (by decide) rfl (fun ls hl => ?_)
  exact (bl_X7_layAll_78 C (k103 := (f_X7_layAll_103)) (bl_X7_layAll_103 C) 1000) v0 v1 v2 0 S16 _ _ _ hF hI (lv_sub hl [1, 2, 3, 0] rfl)
noncomputable def f_X7_takes_9 (k33 : Int32 → Int32 → Int32 → mS → Option mS) : Nat → Int32 → Int32 → Int32 → Int32 → mS → Option mS := fun n => Nat.rec (motive := fun _ => Int32 → Int32 → Int32 → Int32 → mS → Option mS) (fun _ _ _ _ _ => none) (fun _ rec v0 v1 v2 v3 S => if 3 ≤ v3 then (k33 v0 v1 v2 S) else (mGr 7 9 v0 S (fun r3 => mX 8 v1 ((v2 + 1) + v3) S (fun r4 => mXs r3 v3 r4 S (fun S5 => rec v0 v1 v2 (v3 + 1) S5))))) n
theorem f_X7_takes_9_s (k33 : Int32 → Int32 → Int32 → mS → Option mS) (n : Nat) (v0 : Int32) (v1 : Int32) (v2 : Int32) (v3 : Int32) (S : mS) : f_X7_takes_9 k33 (n + 1) v0 v1 v2 v3 S = if 3 ≤ v3 then (k33 v0 v1 v2 S) else (mGr 7 9 v0 S (fun r3 => mX 8 v1 ((v2 + 1) + v3) S (fun r4 => mXs r3 v3 r4 S (fun S5 => (f_X7_takes_9 k33 n) v0 v1 v2 (v3 + 1) S5)))) := rfl
noncomputable def f_X7_takes_35 (k60 : mS → Option mS) : Nat → Int32 → Int32 → Int32 → Int32 → mS → Option mS := fun n => Nat.rec (motive := fun _ => Int32 → Int32 → Int32 → Int32 → mS → Option mS) (fun _ _ _ _ _ => none) (fun _ rec v0 v1 v2 v3 S => if 7 ≤ v3 then (k60 S) else (mGr 7 11 v0 S (fun r6 => mX 8 v1 ((v2 + 4) + v3) S (fun r7 => mXs r6 v3 r7 S (fun S8 => rec v0 v1 v2 (v3 + 1) S8))))) n
theorem f_X7_takes_35_s (k60 : mS → Option mS) (n : Nat) (v0 : Int32) (v1 : Int32) (v2 : Int32) (v3 : Int32) (S : mS) : f_X7_takes_35 k60 (n + 1) v0 v1 v2 v3 S = if 7 ≤ v3 then (k60 S) else (mGr 7 11 v0 S (fun r6 => mX 8 v1 ((v2 + 4) + v3) S (fun r7 => mXs r6 v3 r7 S (fun S8 => (f_X7_takes_35 k60 n) v0 v1 v2 (v3 + 1) S8)))) := rfl
noncomputable def f_X7_takes_60 (S : mS) : Option mS := some S
noncomputable def f_X7_takes_33 (v0 : Int32) (v1 : Int32) (v2 : Int32) (S : mS) : Option mS := (f_X7_takes_35 (f_X7_takes_60) 1000) v0 v1 v2 0 S
noncomputable def f_X7_takes (v0 : Int32) (v1 : Int32) (v2 : Int32) (S : mS) : Option mS := mX 8 v1 v2 S (fun r1 => mP 7 4 v0 r1 S (fun S2 => (f_X7_takes_9 (f_X7_takes_33) 1000) v0 v1 v2 0 S2))
def rm_X7_takes : Room := { frames := 0, cells := 0, slots := 0, locals := 0 }
set_option maxRecDepth 100000 in
set_option maxHeartbeats 4000000 in
theorem bl_X7_takes_9 {p : Program} {l : Launch} {e : Env} {s : State} {m : MethodId} {args : Array Value} {below : List Frame} {meth : Method} {c : Code} {E : mE} {n0 : Nat} {F : mS} (C : mCx p s m args meth c cX7_takes 4 RX7 none E n0) {k33 : Int32 → Int32 → Int32 → mS → Option mS} (hk33 : ∀ (v0 : Int32) (v1 : Int32) (v2 : Int32) (S : mS) (H : Heap) (locs : List Loc) (ls : Array Slot), k33 v0 v1 v2 S = some F → mIv s E S H locs 0 → lv_has ls 4 [(0, .ref (mA E.b v0)), (1, .ref (mA E.b v1)), (2, .int v2)] → W p l e rm_X7_takes s m args below meth c H locs 0 0 (mQv below args s 0 0 n0 E F) (F0 m 33 ls [])) : ∀ (n : Nat)  (v0 : Int32) (v1 : Int32) (v2 : Int32) (v3 : Int32) (S : mS) (H : Heap) (locs : List Loc) (ls : Array Slot), f_X7_takes_9 k33 n v0 v1 v2 v3 S = some F → mIv s E S H locs 0 → lv_has ls 4 [(0, .ref (mA E.b v0)), (1, .ref (mA E.b v1)), (2, .int v2), (3, .int v3)] → W p l e rm_X7_takes s m args below meth c H locs 0 0 (mQv below args s 0 0 n0 E F) (F0 m 9 ls []) := by
  have hx := C.1
  have hb := C.2.1
  intro n
  induction n with
  | zero =>
    intro v0 v1 v2 v3 S H locs ls hF
    exact nomatch (show (none : Option mS) = some F from hF)
  | succ n ih =>
    intro v0 v1 v2 v3 S H locs ls hF hI hl
    have hF := (f_X7_takes_9_s k33 n v0 v1 v2 v3 S).symm.trans hF
    refine lv_iload_n hx hb dX7_takes_9 rfl (lv_at hl 3 rfl) ?_
    refine lv_iconst (v := 3) hx hb dX7_takes_10 (by decide) ?_
    refine m_icmp_ge C (tgt := 33) hF dX7_takes_11 (by decide) (fun hF => ?_) (fun hF => ?_)
    · exact hk33 v0 v1 v2 S _ _ _ hF hI (lv_sub hl [0, 1, 2] rfl)
    · refine lv_aload_n hx hb dX7_takes_14 rfl (lv_at hl 0 rfl) ?_
      refine m_getR C fd_X7_20 hI hF dX7_takes_15 (fun r3 hF => ?_)
      refine lv_iload_n hx hb dX7_takes_18 rfl (lv_at hl 3 rfl) ?_
      refine lv_aload_n hx hb dX7_takes_19 rfl (lv_at hl 1 rfl) ?_
      refine lv_iload_n hx hb dX7_takes_20 rfl (lv_at hl 2 rfl) ?_
      refine lv_iconst (v := 1) hx hb dX7_takes_21 (by decide) ?_
      refine lv_iadd hx hb dX7_takes_22 ?_
      refine lv_iload_n hx hb dX7_takes_23 rfl (lv_at hl 3 rfl) ?_
      refine lv_iadd hx hb dX7_takes_24 ?_
      refine m_iald C hI hF dX7_takes_25 (fun r4 hF => ?_)
      refine m_iast C hI hF dX7_takes_26 (fun S5 H locs hF hI => ?_)
      refine lv_iinc (v := v3 + 1) (lv' := [(3, .int (v3 + 1)), (0, .ref (mA E.b v0)), (1, .ref (mA E.b v1)), (2, .int v2)]) hx hb dX7_takes_27 hl (k := 3) rfl rfl (by decide) rfl (fun ls hl => ?_)
      refine lv_goto (tgt := 9) hx hb dX7_takes_30 (by decide) ?_
      exact ih v0 v1 v2 (v3 + 1) S5 _ _ _ hF hI (lv_sub hl [1, 2, 3, 0] rfl)
set_option maxRecDepth 100000 in
set_option maxHeartbeats 4000000 in
theorem bl_X7_takes_35 {p : Program} {l : Launch} {e : Env} {s : State} {m : MethodId} {args : Array Value} {below : List Frame} {meth : Method} {c : Code} {E : mE} {n0 : Nat} {F : mS} (C : mCx p s m args meth c cX7_takes 4 RX7 none E n0) {k60 : mS → Option mS} (hk60 : ∀ (S : mS) (H : Heap) (locs : List Loc) (ls : Array Slot), k60 S = some F → mIv s E S H locs 0 → lv_has ls 4 [] → W p l e rm_X7_takes s m args below meth c H locs 0 0 (mQv below args s 0 0 n0 E F) (F0 m 60 ls [])) : ∀ (n : Nat)  (v0 : Int32) (v1 : Int32) (v2 : Int32) (v3 : Int32) (S : mS) (H : Heap) (locs : List Loc) (ls : Array Slot), f_X7_takes_35 k60 n v0 v1 v2 v3 S = some F → mIv s E S H locs 0 → lv_has ls 4 [(0, .ref (mA E.b v0)), (1, .ref (mA E.b v1)), (2, .int v2), (3, .int v3)] → W p l e rm_X7_takes s m args below meth c H locs 0 0 (mQv below args s 0 0 n0 E F) (F0 m 35 ls []) := by
  have hx := C.1
  have hb := C.2.1
  intro n
  induction n with
  | zero =>
    intro v0 v1 v2 v3 S H locs ls hF
    exact nomatch (show (none : Option mS) = some F from hF)
  | succ n ih =>
    intro v0 v1 v2 v3 S H locs ls hF hI hl
    have hF := (f_X7_takes_35_s k60 n v0 v1 v2 v3 S).symm.trans hF
    refine lv_iload_n hx hb dX7_takes_35 rfl (lv_at hl 3 rfl) ?_
    refine lv_bipush (v := 7) hx hb dX7_takes_36 (by decide) ?_
    refine m_icmp_ge C (tgt := 60) hF dX7_takes_38 (by decide) (fun hF => ?_) (fun hF => ?_)
    · exact hk60 S _ _ _ hF hI (lv_sub hl [] rfl)
    · refine lv_aload_n hx hb dX7_takes_41 rfl (lv_at hl 0 rfl) ?_
      refine m_getR C fd_X7_26 hI hF dX7_takes_42 (fun r6 hF => ?_)
      refine lv_iload_n hx hb dX7_takes_45 rfl (lv_at hl 3 rfl) ?_
      refine lv_aload_n hx hb dX7_takes_46 rfl (lv_at hl 1 rfl) ?_
      refine lv_iload_n hx hb dX7_takes_47 rfl (lv_at hl 2 rfl) ?_
      refine lv_iconst (v := 4) hx hb dX7_takes_48 (by decide) ?_
      refine lv_iadd hx hb dX7_takes_49 ?_
      refine lv_iload_n hx hb dX7_takes_50 rfl (lv_at hl 3 rfl) ?_
      refine lv_iadd hx hb dX7_takes_51 ?_
      refine m_iald C hI hF dX7_takes_52 (fun r7 hF => ?_)
      refine m_iast C hI hF dX7_takes_53 (fun S8 H locs hF hI => ?_)
      refine lv_iinc (v := v3 + 1) (lv' := [(3, .int (v3 + 1)), (0, .ref (mA E.b v0)), (1, .ref (mA E.b v1)), (2, .int v2)]) hx hb dX7_takes_54 hl (k := 3) rfl rfl (by decide) rfl (fun ls hl => ?_)
      refine lv_goto (tgt := 35) hx hb dX7_takes_57 (by decide) ?_
      exact ih v0 v1 v2 (v3 + 1) S8 _ _ _ hF hI (lv_sub hl [1, 2, 3, 0] rfl)
set_option maxRecDepth 100000 in
set_option maxHeartbeats 4000000 in
theorem bl_X7_takes_60 {p : Program} {l : Launch} {e : Env} {s : State} {m : MethodId} {args : Array Value} {below : List Frame} {meth : Method} {c : Code} {E : mE} {n0 : Nat} {F : mS} (C : mCx p s m args meth c cX7_takes 4 RX7 none E n0) : ∀  (S : mS) (H : Heap) (locs : List Loc) (ls : Array Slot), f_X7_takes_60 S = some F → mIv s E S H locs 0 → lv_has ls 4 [] → W p l e rm_X7_takes s m args below meth c H locs 0 0 (mQv below args s 0 0 n0 E F) (F0 m 60 ls []) := by
  have hx := C.1
  have hb := C.2.1
  intro S H locs ls hF hI hl
  exact m_vret C hI hF dX7_takes_60
set_option maxRecDepth 100000 in
set_option maxHeartbeats 4000000 in
theorem bl_X7_takes_33 {p : Program} {l : Launch} {e : Env} {s : State} {m : MethodId} {args : Array Value} {below : List Frame} {meth : Method} {c : Code} {E : mE} {n0 : Nat} {F : mS} (C : mCx p s m args meth c cX7_takes 4 RX7 none E n0) : ∀  (v0 : Int32) (v1 : Int32) (v2 : Int32) (S : mS) (H : Heap) (locs : List Loc) (ls : Array Slot), f_X7_takes_33 v0 v1 v2 S = some F → mIv s E S H locs 0 → lv_has ls 4 [(0, .ref (mA E.b v0)), (1, .ref (mA E.b v1)), (2, .int v2)] → W p l e rm_X7_takes s m args below meth c H locs 0 0 (mQv below args s 0 0 n0 E F) (F0 m 33 ls []) := by
  have hx := C.1
  have hb := C.2.1
  intro v0 v1 v2 S H locs ls hF hI hl
  refine lv_iconst (v := 0) hx hb dX7_takes_33 (by decide) ?_
  refine lv_istore_n (lv' := [(3, .int 0), (0, .ref (mA E.b v0)), (1, .ref (mA E.b v1)), (2, .int v2)]) hx hb dX7_takes_34 rfl hl (by decide) rfl (fun ls hl => ?_)
  exact (bl_X7_takes_35 C (k60 := (f_X7_takes_60)) (bl_X7_takes_60 C) 1000) v0 v1 v2 0 S _ _ _ hF hI (lv_sub hl [1, 2, 3, 0] rfl)
set_option maxRecDepth 100000 in
set_option maxHeartbeats 4000000 in
theorem ok_X7_takes {l : Launch} {E : mE} {v0 : Int32} {v1 : Int32} {v2 : Int32} {S : mS} {F : mS} (hF : f_X7_takes v0 v1 v2 S = some F) : mMv l yX7_takes cX7_takes 4 none rm_X7_takes 0 0 [.ref (mA E.b v0), .ref (mA E.b v1), .int v2] E S F := by
  refine m_met_v (by decide) (Nat.le_of_ble_eq_true rfl) (fun p e s m args below meth c ls hin C hI hl => ?_)
  have hx := C.1
  have hb := C.2.1
  have hl : lv_has ls 4 [(0, .ref (mA E.b v0)), (1, .ref (mA E.b v1)), (2, .int v2)] := hl
  generalize s.heap = H at hI ⊢
  generalize ([] : List Loc) = locs at hI ⊢
  refine lv_aload_n hx hb dX7_takes_0 rfl (lv_at hl 0 rfl) ?_
  refine lv_aload_n hx hb dX7_takes_1 rfl (lv_at hl 1 rfl) ?_
  refine lv_iload_n hx hb dX7_takes_2 rfl (lv_at hl 2 rfl) ?_
  refine m_iald C hI hF dX7_takes_3 (fun r1 hF => ?_)
  refine m_put C fd_X7_80 hI hF dX7_takes_4 (fun S2 H locs hF hI => ?_)
  refine lv_iconst (v := 0) hx hb dX7_takes_7 (by decide) ?_
  refine lv_istore_n (lv' := [(3, .int 0), (0, .ref (mA E.b v0)), (1, .ref (mA E.b v1)), (2, .int v2)]) hx hb dX7_takes_8 rfl hl (by decide) rfl (fun ls hl => ?_)
  exact (bl_X7_takes_9 C (k33 := (f_X7_takes_33)) (bl_X7_takes_33 C) 1000) v0 v1 v2 0 S2 _ _ _ hF hI (lv_sub hl [1, 2, 3, 0] rfl)
noncomputable def f_X7_takeAll_78 (k103 : Int32 → Int32 → Int32 → mS → Option mS) : Nat → Int32 → Int32 → Int32 → Int32 → mS → Option mS := fun n => Nat.rec (motive := fun _ => Int32 → Int32 → Int32 → Int32 → mS → Option mS) (fun _ _ _ _ _ => none) (fun _ rec v0 v1 v2 v3 S => if 3 ≤ v3 then (k103 v0 v1 v2 S) else (mGr 7 8 v0 S (fun r17 => mX 8 v1 ((v2 + 18) + v3) S (fun r18 => mXs r17 v3 r18 S (fun S19 => rec v0 v1 v2 (v3 + 1) S19))))) n
theorem f_X7_takeAll_78_s (k103 : Int32 → Int32 → Int32 → mS → Option mS) (n : Nat) (v0 : Int32) (v1 : Int32) (v2 : Int32) (v3 : Int32) (S : mS) : f_X7_takeAll_78 k103 (n + 1) v0 v1 v2 v3 S = if 3 ≤ v3 then (k103 v0 v1 v2 S) else (mGr 7 8 v0 S (fun r17 => mX 8 v1 ((v2 + 18) + v3) S (fun r18 => mXs r17 v3 r18 S (fun S19 => (f_X7_takeAll_78 k103 n) v0 v1 v2 (v3 + 1) S19)))) := rfl
noncomputable def f_X7_takeAll_105 (k131 : Int32 → Int32 → Int32 → mS → Option mS) : Nat → Int32 → Int32 → Int32 → Int32 → mS → Option mS := fun n => Nat.rec (motive := fun _ => Int32 → Int32 → Int32 → Int32 → mS → Option mS) (fun _ _ _ _ _ => none) (fun _ rec v0 v1 v2 v3 S => if 7 ≤ v3 then (k131 v0 v1 v2 S) else (mGr 7 10 v0 S (fun r20 => mX 8 v1 ((v2 + 21) + v3) S (fun r21 => mXs r20 v3 r21 S (fun S22 => rec v0 v1 v2 (v3 + 1) S22))))) n
theorem f_X7_takeAll_105_s (k131 : Int32 → Int32 → Int32 → mS → Option mS) (n : Nat) (v0 : Int32) (v1 : Int32) (v2 : Int32) (v3 : Int32) (S : mS) : f_X7_takeAll_105 k131 (n + 1) v0 v1 v2 v3 S = if 7 ≤ v3 then (k131 v0 v1 v2 S) else (mGr 7 10 v0 S (fun r20 => mX 8 v1 ((v2 + 21) + v3) S (fun r21 => mXs r20 v3 r21 S (fun S22 => (f_X7_takeAll_105 k131 n) v0 v1 v2 (v3 + 1) S22)))) := rfl
noncomputable def f_X7_takeAll_133 (k159 : Int32 → Int32 → Int32 → mS → Option mS) : Nat → Int32 → Int32 → Int32 → Int32 → mS → Option mS := fun n => Nat.rec (motive := fun _ => Int32 → Int32 → Int32 → Int32 → mS → Option mS) (fun _ _ _ _ _ => none) (fun _ rec v0 v1 v2 v3 S => if 10 ≤ v3 then (k159 v0 v1 v2 S) else (mGr 7 12 v0 S (fun r23 => mX 8 v1 ((v2 + 28) + v3) S (fun r24 => mXs r23 v3 r24 S (fun S25 => rec v0 v1 v2 (v3 + 1) S25))))) n
theorem f_X7_takeAll_133_s (k159 : Int32 → Int32 → Int32 → mS → Option mS) (n : Nat) (v0 : Int32) (v1 : Int32) (v2 : Int32) (v3 : Int32) (S : mS) : f_X7_takeAll_133 k159 (n + 1) v0 v1 v2 v3 S = if 10 ≤ v3 then (k159 v0 v1 v2 S) else (mGr 7 12 v0 S (fun r23 => mX 8 v1 ((v2 + 28) + v3) S (fun r24 => mXs r23 v3 r24 S (fun S25 => (f_X7_takeAll_133 k159 n) v0 v1 v2 (v3 + 1) S25)))) := rfl
noncomputable def f_X7_takeAll_161 (k201 : Int32 → Int32 → Int32 → mS → Option mS) : Nat → Int32 → Int32 → Int32 → Int32 → mS → Option mS := fun n => Nat.rec (motive := fun _ => Int32 → Int32 → Int32 → Int32 → mS → Option mS) (fun _ _ _ _ _ => none) (fun _ rec v0 v1 v2 v3 S => if 18 ≤ v3 then (k201 v0 v1 v2 S) else (mGr 7 13 v0 S (fun r26 => mX 8 v1 ((v2 + 38) + v3) S (fun r27 => mXs r26 v3 r27 S (fun S28 => mGr 7 14 v0 S28 (fun r29 => mX 8 v1 ((v2 + 56) + v3) S28 (fun r30 => mXs r29 v3 r30 S28 (fun S31 => rec v0 v1 v2 (v3 + 1) S31)))))))) n
theorem f_X7_takeAll_161_s (k201 : Int32 → Int32 → Int32 → mS → Option mS) (n : Nat) (v0 : Int32) (v1 : Int32) (v2 : Int32) (v3 : Int32) (S : mS) : f_X7_takeAll_161 k201 (n + 1) v0 v1 v2 v3 S = if 18 ≤ v3 then (k201 v0 v1 v2 S) else (mGr 7 13 v0 S (fun r26 => mX 8 v1 ((v2 + 38) + v3) S (fun r27 => mXs r26 v3 r27 S (fun S28 => mGr 7 14 v0 S28 (fun r29 => mX 8 v1 ((v2 + 56) + v3) S28 (fun r30 => mXs r29 v3 r30 S28 (fun S31 => (f_X7_takeAll_161 k201 n) v0 v1 v2 (v3 + 1) S31))))))) := rfl
noncomputable def f_X7_takeAll_203 (k229 : mS → Option mS) : Nat → Int32 → Int32 → Int32 → Int32 → mS → Option mS := fun n => Nat.rec (motive := fun _ => Int32 → Int32 → Int32 → Int32 → mS → Option mS) (fun _ _ _ _ _ => none) (fun _ rec v0 v1 v2 v3 S => if 88 ≤ v3 then (k229 S) else (mGr 7 20 v0 S (fun r32 => mX 8 v1 ((v2 + 74) + v3) S (fun r33 => mXs r32 v3 r33 S (fun S34 => rec v0 v1 v2 (v3 + 1) S34))))) n
theorem f_X7_takeAll_203_s (k229 : mS → Option mS) (n : Nat) (v0 : Int32) (v1 : Int32) (v2 : Int32) (v3 : Int32) (S : mS) : f_X7_takeAll_203 k229 (n + 1) v0 v1 v2 v3 S = if 88 ≤ v3 then (k229 S) else (mGr 7 20 v0 S (fun r32 => mX 8 v1 ((v2 + 74) + v3) S (fun r33 => mXs r32 v3 r33 S (fun S34 => (f_X7_takeAll_203 k229 n) v0 v1 v2 (v3 + 1) S34)))) := rfl
noncomputable def f_X7_takeAll_229 (S : mS) : Option mS := some S
noncomputable def f_X7_takeAll_201 (v0 : Int32) (v1 : Int32) (v2 : Int32) (S : mS) : Option mS := (f_X7_takeAll_203 (f_X7_takeAll_229) 1000) v0 v1 v2 0 S
noncomputable def f_X7_takeAll_159 (v0 : Int32) (v1 : Int32) (v2 : Int32) (S : mS) : Option mS := (f_X7_takeAll_161 (f_X7_takeAll_201) 1000) v0 v1 v2 0 S
noncomputable def f_X7_takeAll_131 (v0 : Int32) (v1 : Int32) (v2 : Int32) (S : mS) : Option mS := (f_X7_takeAll_133 (f_X7_takeAll_159) 1000) v0 v1 v2 0 S
noncomputable def f_X7_takeAll_103 (v0 : Int32) (v1 : Int32) (v2 : Int32) (S : mS) : Option mS := (f_X7_takeAll_105 (f_X7_takeAll_131) 1000) v0 v1 v2 0 S
noncomputable def f_X7_takeAll (v0 : Int32) (v1 : Int32) (v2 : Int32) (S : mS) : Option mS := mRc 7 v0 S (mCv (f_X7_takes v0 v1 v2 S) (fun S2 => mX 8 v1 (v2 + 11) S2 (fun r3 => mP 7 1 v0 r3 S2 (fun S4 => mX 8 v1 (v2 + 12) S4 (fun r5 => mP 7 2 v0 r5 S4 (fun S6 => mX 8 v1 (v2 + 13) S6 (fun r7 => mP 7 3 v0 r7 S6 (fun S8 => mX 8 v1 (v2 + 14) S8 (fun r9 => mP 7 5 v0 r9 S8 (fun S10 => mX 8 v1 (v2 + 15) S10 (fun r11 => mP 7 6 v0 r11 S10 (fun S12 => mX 8 v1 (v2 + 16) S12 (fun r13 => mP 7 7 v0 r13 S12 (fun S14 => mX 8 v1 (v2 + 17) S14 (fun r15 => mP 7 21 v0 r15 S14 (fun S16 => (f_X7_takeAll_78 (f_X7_takeAll_103) 1000) v0 v1 v2 0 S16))))))))))))))))
def rm_X7_takeAll : Room := { frames := 1, cells := 0, slots := 0, locals := 23 }
set_option maxRecDepth 100000 in
set_option maxHeartbeats 4000000 in
theorem bl_X7_takeAll_78 {p : Program} {l : Launch} {e : Env} {s : State} {m : MethodId} {args : Array Value} {below : List Frame} {meth : Method} {c : Code} {E : mE} {n0 : Nat} {F : mS} (C : mCx p s m args meth c cX7_takeAll 4 RX7 none E n0) {k103 : Int32 → Int32 → Int32 → mS → Option mS} (hk103 : ∀ (v0 : Int32) (v1 : Int32) (v2 : Int32) (S : mS) (H : Heap) (locs : List Loc) (ls : Array Slot), k103 v0 v1 v2 S = some F → mIv s E S H locs 0 → lv_has ls 4 [(0, .ref (mA E.b v0)), (1, .ref (mA E.b v1)), (2, .int v2)] → W p l e rm_X7_takeAll s m args below meth c H locs 0 0 (mQv below args s 0 0 n0 E F) (F0 m 103 ls [])) : ∀ (n : Nat)  (v0 : Int32) (v1 : Int32) (v2 : Int32) (v3 : Int32) (S : mS) (H : Heap) (locs : List Loc) (ls : Array Slot), f_X7_takeAll_78 k103 n v0 v1 v2 v3 S = some F → mIv s E S H locs 0 → lv_has ls 4 [(0, .ref (mA E.b v0)), (1, .ref (mA E.b v1)), (2, .int v2), (3, .int v3)] → W p l e rm_X7_takeAll s m args below meth c H locs 0 0 (mQv below args s 0 0 n0 E F) (F0 m 78 ls []) := by
  have hx := C.1
  have hb := C.2.1
  intro n
  induction n with
  | zero =>
    intro v0 v1 v2 v3 S H locs ls hF
    exact nomatch (show (none : Option mS) = some F from hF)
  | succ n ih =>
    intro v0 v1 v2 v3 S H locs ls hF hI hl
    have hF := (f_X7_takeAll_78_s k103 n v0 v1 v2 v3 S).symm.trans hF
    refine lv_iload_n hx hb dX7_takeAll_78 rfl (lv_at hl 3 rfl) ?_
    refine lv_iconst (v := 3) hx hb dX7_takeAll_79 (by decide) ?_
    refine m_icmp_ge C (tgt := 103) hF dX7_takeAll_80 (by decide) (fun hF => ?_) (fun hF => ?_)
    · exact hk103 v0 v1 v2 S _ _ _ hF hI (lv_sub hl [0, 1, 2] rfl)
    · refine lv_aload_n hx hb dX7_takeAll_83 rfl (lv_at hl 0 rfl) ?_
      refine m_getR C fd_X7_17 hI hF dX7_takeAll_84 (fun r17 hF => ?_)
      refine lv_iload_n hx hb dX7_takeAll_87 rfl (lv_at hl 3 rfl) ?_
      refine lv_aload_n hx hb dX7_takeAll_88 rfl (lv_at hl 1 rfl) ?_
      refine lv_iload_n hx hb dX7_takeAll_89 rfl (lv_at hl 2 rfl) ?_
      refine lv_bipush (v := 18) hx hb dX7_takeAll_90 (by decide) ?_
      refine lv_iadd hx hb dX7_takeAll_92 ?_
      refine lv_iload_n hx hb dX7_takeAll_93 rfl (lv_at hl 3 rfl) ?_
      refine lv_iadd hx hb dX7_takeAll_94 ?_
      refine m_iald C hI hF dX7_takeAll_95 (fun r18 hF => ?_)
      refine m_iast C hI hF dX7_takeAll_96 (fun S19 H locs hF hI => ?_)
      refine lv_iinc (v := v3 + 1) (lv' := [(3, .int (v3 + 1)), (0, .ref (mA E.b v0)), (1, .ref (mA E.b v1)), (2, .int v2)]) hx hb dX7_takeAll_97 hl (k := 3) rfl rfl (by decide) rfl (fun ls hl => ?_)
      refine lv_goto (tgt := 78) hx hb dX7_takeAll_100 (by decide) ?_
      exact ih v0 v1 v2 (v3 + 1) S19 _ _ _ hF hI (lv_sub hl [1, 2, 3, 0] rfl)
set_option maxRecDepth 100000 in
set_option maxHeartbeats 4000000 in
theorem bl_X7_takeAll_105 {p : Program} {l : Launch} {e : Env} {s : State} {m : MethodId} {args : Array Value} {below : List Frame} {meth : Method} {c : Code} {E : mE} {n0 : Nat} {F : mS} (C : mCx p s m args meth c cX7_takeAll 4 RX7 none E n0) {k131 : Int32 → Int32 → Int32 → mS → Option mS} (hk131 : ∀ (v0 : Int32) (v1 : Int32) (v2 : Int32) (S : mS) (H : Heap) (locs : List Loc) (ls : Array Slot), k131 v0 v1 v2 S = some F → mIv s E S H locs 0 → lv_has ls 4 [(0, .ref (mA E.b v0)), (1, .ref (mA E.b v1)), (2, .int v2)] → W p l e rm_X7_takeAll s m args below meth c H locs 0 0 (mQv below args s 0 0 n0 E F) (F0 m 131 ls [])) : ∀ (n : Nat)  (v0 : Int32) (v1 : Int32) (v2 : Int32) (v3 : Int32) (S : mS) (H : Heap) (locs : List Loc) (ls : Array Slot), f_X7_takeAll_105 k131 n v0 v1 v2 v3 S = some F → mIv s E S H locs 0 → lv_has ls 4 [(0, .ref (mA E.b v0)), (1, .ref (mA E.b v1)), (2, .int v2), (3, .int v3)] → W p l e rm_X7_takeAll s m args below meth c H locs 0 0 (mQv below args s 0 0 n0 E F) (F0 m 105 ls []) := by
  have hx := C.1
  have hb := C.2.1
  intro n
  induction n with
  | zero =>
    intro v0 v1 v2 v3 S H locs ls hF
    exact nomatch (show (none : Option mS) = some F from hF)
  | succ n ih =>
    intro v0 v1 v2 v3 S H locs ls hF hI hl
    have hF := (f_X7_takeAll_105_s k131 n v0 v1 v2 v3 S).symm.trans hF
    refine lv_iload_n hx hb dX7_takeAll_105 rfl (lv_at hl 3 rfl) ?_
    refine lv_bipush (v := 7) hx hb dX7_takeAll_106 (by decide) ?_
    refine m_icmp_ge C (tgt := 131) hF dX7_takeAll_108 (by decide) (fun hF => ?_) (fun hF => ?_)
    · exact hk131 v0 v1 v2 S _ _ _ hF hI (lv_sub hl [0, 1, 2] rfl)
    · refine lv_aload_n hx hb dX7_takeAll_111 rfl (lv_at hl 0 rfl) ?_
      refine m_getR C fd_X7_23 hI hF dX7_takeAll_112 (fun r20 hF => ?_)
      refine lv_iload_n hx hb dX7_takeAll_115 rfl (lv_at hl 3 rfl) ?_
      refine lv_aload_n hx hb dX7_takeAll_116 rfl (lv_at hl 1 rfl) ?_
      refine lv_iload_n hx hb dX7_takeAll_117 rfl (lv_at hl 2 rfl) ?_
      refine lv_bipush (v := 21) hx hb dX7_takeAll_118 (by decide) ?_
      refine lv_iadd hx hb dX7_takeAll_120 ?_
      refine lv_iload_n hx hb dX7_takeAll_121 rfl (lv_at hl 3 rfl) ?_
      refine lv_iadd hx hb dX7_takeAll_122 ?_
      refine m_iald C hI hF dX7_takeAll_123 (fun r21 hF => ?_)
      refine m_iast C hI hF dX7_takeAll_124 (fun S22 H locs hF hI => ?_)
      refine lv_iinc (v := v3 + 1) (lv' := [(3, .int (v3 + 1)), (0, .ref (mA E.b v0)), (1, .ref (mA E.b v1)), (2, .int v2)]) hx hb dX7_takeAll_125 hl (k := 3) rfl rfl (by decide) rfl (fun ls hl => ?_)
      refine lv_goto (tgt := 105) hx hb dX7_takeAll_128 (by decide) ?_
      exact ih v0 v1 v2 (v3 + 1) S22 _ _ _ hF hI (lv_sub hl [1, 2, 3, 0] rfl)
set_option maxRecDepth 100000 in
set_option maxHeartbeats 4000000 in
theorem bl_X7_takeAll_133 {p : Program} {l : Launch} {e : Env} {s : State} {m : MethodId} {args : Array Value} {below : List Frame} {meth : Method} {c : Code} {E : mE} {n0 : Nat} {F : mS} (C : mCx p s m args meth c cX7_takeAll 4 RX7 none E n0) {k159 : Int32 → Int32 → Int32 → mS → Option mS} (hk159 : ∀ (v0 : Int32) (v1 : Int32) (v2 : Int32) (S : mS) (H : Heap) (locs : List Loc) (ls : Array Slot), k159 v0 v1 v2 S = some F → mIv s E S H locs 0 → lv_has ls 4 [(0, .ref (mA E.b v0)), (1, .ref (mA E.b v1)), (2, .int v2)] → W p l e rm_X7_takeAll s m args below meth c H locs 0 0 (mQv below args s 0 0 n0 E F) (F0 m 159 ls [])) : ∀ (n : Nat)  (v0 : Int32) (v1 : Int32) (v2 : Int32) (v3 : Int32) (S : mS) (H : Heap) (locs : List Loc) (ls : Array Slot), f_X7_takeAll_133 k159 n v0 v1 v2 v3 S = some F → mIv s E S H locs 0 → lv_has ls 4 [(0, .ref (mA E.b v0)), (1, .ref (mA E.b v1)), (2, .int v2), (3, .int v3)] → W p l e rm_X7_takeAll s m args below meth c H locs 0 0 (mQv below args s 0 0 n0 E F) (F0 m 133 ls []) := by
  have hx := C.1
  have hb := C.2.1
  intro n
  induction n with
  | zero =>
    intro v0 v1 v2 v3 S H locs ls hF
    exact nomatch (show (none : Option mS) = some F from hF)
  | succ n ih =>
    intro v0 v1 v2 v3 S H locs ls hF hI hl
    have hF := (f_X7_takeAll_133_s k159 n v0 v1 v2 v3 S).symm.trans hF
    refine lv_iload_n hx hb dX7_takeAll_133 rfl (lv_at hl 3 rfl) ?_
    refine lv_bipush (v := 10) hx hb dX7_takeAll_134 (by decide) ?_
    refine m_icmp_ge C (tgt := 159) hF dX7_takeAll_136 (by decide) (fun hF => ?_) (fun hF => ?_)
    · exact hk159 v0 v1 v2 S _ _ _ hF hI (lv_sub hl [0, 1, 2] rfl)
    · refine lv_aload_n hx hb dX7_takeAll_139 rfl (lv_at hl 0 rfl) ?_
      refine m_getR C fd_X7_29 hI hF dX7_takeAll_140 (fun r23 hF => ?_)
      refine lv_iload_n hx hb dX7_takeAll_143 rfl (lv_at hl 3 rfl) ?_
      refine lv_aload_n hx hb dX7_takeAll_144 rfl (lv_at hl 1 rfl) ?_
      refine lv_iload_n hx hb dX7_takeAll_145 rfl (lv_at hl 2 rfl) ?_
      refine lv_bipush (v := 28) hx hb dX7_takeAll_146 (by decide) ?_
      refine lv_iadd hx hb dX7_takeAll_148 ?_
      refine lv_iload_n hx hb dX7_takeAll_149 rfl (lv_at hl 3 rfl) ?_
      refine lv_iadd hx hb dX7_takeAll_150 ?_
      refine m_iald C hI hF dX7_takeAll_151 (fun r24 hF => ?_)
      refine m_iast C hI hF dX7_takeAll_152 (fun S25 H locs hF hI => ?_)
      refine lv_iinc (v := v3 + 1) (lv' := [(3, .int (v3 + 1)), (0, .ref (mA E.b v0)), (1, .ref (mA E.b v1)), (2, .int v2)]) hx hb dX7_takeAll_153 hl (k := 3) rfl rfl (by decide) rfl (fun ls hl => ?_)
      refine lv_goto (tgt := 133) hx hb dX7_takeAll_156 (by decide) ?_
      exact ih v0 v1 v2 (v3 + 1) S25 _ _ _ hF hI (lv_sub hl [1, 2, 3, 0] rfl)
set_option maxRecDepth 100000 in
set_option maxHeartbeats 4000000 in
theorem bl_X7_takeAll_161 {p : Program} {l : Launch} {e : Env} {s : State} {m : MethodId} {args : Array Value} {below : List Frame} {meth : Method} {c : Code} {E : mE} {n0 : Nat} {F : mS} (C : mCx p s m args meth c cX7_takeAll 4 RX7 none E n0) {k201 : Int32 → Int32 → Int32 → mS → Option mS} (hk201 : ∀ (v0 : Int32) (v1 : Int32) (v2 : Int32) (S : mS) (H : Heap) (locs : List Loc) (ls : Array Slot), k201 v0 v1 v2 S = some F → mIv s E S H locs 0 → lv_has ls 4 [(0, .ref (mA E.b v0)), (1, .ref (mA E.b v1)), (2, .int v2)] → W p l e rm_X7_takeAll s m args below meth c H locs 0 0 (mQv below args s 0 0 n0 E F) (F0 m 201 ls [])) : ∀ (n : Nat)  (v0 : Int32) (v1 : Int32) (v2 : Int32) (v3 : Int32) (S : mS) (H : Heap) (locs : List Loc) (ls : Array Slot), f_X7_takeAll_161 k201 n v0 v1 v2 v3 S = some F → mIv s E S H locs 0 → lv_has ls 4 [(0, .ref (mA E.b v0)), (1, .ref (mA E.b v1)), (2, .int v2), (3, .int v3)] → W p l e rm_X7_takeAll s m args below meth c H locs 0 0 (mQv below args s 0 0 n0 E F) (F0 m 161 ls []) := by
  have hx := C.1
  have hb := C.2.1
  intro n
  induction n with
  | zero =>
    intro v0 v1 v2 v3 S H locs ls hF
    exact nomatch (show (none : Option mS) = some F from hF)
  | succ n ih =>
    intro v0 v1 v2 v3 S H locs ls hF hI hl
    have hF := (f_X7_takeAll_161_s k201 n v0 v1 v2 v3 S).symm.trans hF
    refine lv_iload_n hx hb dX7_takeAll_161 rfl (lv_at hl 3 rfl) ?_
    refine lv_bipush (v := 18) hx hb dX7_takeAll_162 (by decide) ?_
    refine m_icmp_ge C (tgt := 201) hF dX7_takeAll_164 (by decide) (fun hF => ?_) (fun hF => ?_)
    · exact hk201 v0 v1 v2 S _ _ _ hF hI (lv_sub hl [0, 1, 2] rfl)
    · refine lv_aload_n hx hb dX7_takeAll_167 rfl (lv_at hl 0 rfl) ?_
      refine m_getR C fd_X7_32 hI hF dX7_takeAll_168 (fun r26 hF => ?_)
      refine lv_iload_n hx hb dX7_takeAll_171 rfl (lv_at hl 3 rfl) ?_
      refine lv_aload_n hx hb dX7_takeAll_172 rfl (lv_at hl 1 rfl) ?_
      refine lv_iload_n hx hb dX7_takeAll_173 rfl (lv_at hl 2 rfl) ?_
      refine lv_bipush (v := 38) hx hb dX7_takeAll_174 (by decide) ?_
      refine lv_iadd hx hb dX7_takeAll_176 ?_
      refine lv_iload_n hx hb dX7_takeAll_177 rfl (lv_at hl 3 rfl) ?_
      refine lv_iadd hx hb dX7_takeAll_178 ?_
      refine m_iald C hI hF dX7_takeAll_179 (fun r27 hF => ?_)
      refine m_iast C hI hF dX7_takeAll_180 (fun S28 H locs hF hI => ?_)
      refine lv_aload_n hx hb dX7_takeAll_181 rfl (lv_at hl 0 rfl) ?_
      refine m_getR C fd_X7_35 hI hF dX7_takeAll_182 (fun r29 hF => ?_)
      refine lv_iload_n hx hb dX7_takeAll_185 rfl (lv_at hl 3 rfl) ?_
      refine lv_aload_n hx hb dX7_takeAll_186 rfl (lv_at hl 1 rfl) ?_
      refine lv_iload_n hx hb dX7_takeAll_187 rfl (lv_at hl 2 rfl) ?_
      refine lv_bipush (v := 56) hx hb dX7_takeAll_188 (by decide) ?_
      refine lv_iadd hx hb dX7_takeAll_190 ?_
      refine lv_iload_n hx hb dX7_takeAll_191 rfl (lv_at hl 3 rfl) ?_
      refine lv_iadd hx hb dX7_takeAll_192 ?_
      refine m_iald C hI hF dX7_takeAll_193 (fun r30 hF => ?_)
      refine m_iast C hI hF dX7_takeAll_194 (fun S31 H locs hF hI => ?_)
      refine lv_iinc (v := v3 + 1) (lv' := [(3, .int (v3 + 1)), (0, .ref (mA E.b v0)), (1, .ref (mA E.b v1)), (2, .int v2)]) hx hb dX7_takeAll_195 hl (k := 3) rfl rfl (by decide) rfl (fun ls hl => ?_)
      refine lv_goto (tgt := 161) hx hb dX7_takeAll_198 (by decide) ?_
      exact ih v0 v1 v2 (v3 + 1) S31 _ _ _ hF hI (lv_sub hl [1, 2, 3, 0] rfl)
set_option maxRecDepth 100000 in
set_option maxHeartbeats 4000000 in
theorem bl_X7_takeAll_203 {p : Program} {l : Launch} {e : Env} {s : State} {m : MethodId} {args : Array Value} {below : List Frame} {meth : Method} {c : Code} {E : mE} {n0 : Nat} {F : mS} (C : mCx p s m args meth c cX7_takeAll 4 RX7 none E n0) {k229 : mS → Option mS} (hk229 : ∀ (S : mS) (H : Heap) (locs : List Loc) (ls : Array Slot), k229 S = some F → mIv s E S H locs 0 → lv_has ls 4 [] → W p l e rm_X7_takeAll s m args below meth c H locs 0 0 (mQv below args s 0 0 n0 E F) (F0 m 229 ls [])) : ∀ (n : Nat)  (v0 : Int32) (v1 : Int32) (v2 : Int32) (v3 : Int32) (S : mS) (H : Heap) (locs : List Loc) (ls : Array Slot), f_X7_takeAll_203 k229 n v0 v1 v2 v3 S = some F → mIv s E S H locs 0 → lv_has ls 4 [(0, .ref (mA E.b v0)), (1, .ref (mA E.b v1)), (2, .int v2), (3, .int v3)] → W p l e rm_X7_takeAll s m args below meth c H locs 0 0 (mQv below args s 0 0 n0 E F) (F0 m 203 ls []) := by
  have hx := C.1
  have hb := C.2.1
  intro n
  induction n with
  | zero =>
    intro v0 v1 v2 v3 S H locs ls hF
    exact nomatch (show (none : Option mS) = some F from hF)
  | succ n ih =>
    intro v0 v1 v2 v3 S H locs ls hF hI hl
    have hF := (f_X7_takeAll_203_s k229 n v0 v1 v2 v3 S).symm.trans hF
    refine lv_iload_n hx hb dX7_takeAll_203 rfl (lv_at hl 3 rfl) ?_
    refine lv_bipush (v := 88) hx hb dX7_takeAll_204 (by decide) ?_
    refine m_icmp_ge C (tgt := 229) hF dX7_takeAll_206 (by decide) (fun hF => ?_) (fun hF => ?_)
    · exact hk229 S _ _ _ hF hI (lv_sub hl [] rfl)
    · refine lv_aload_n hx hb dX7_takeAll_209 rfl (lv_at hl 0 rfl) ?_
      refine m_getR C fd_X7_44 hI hF dX7_takeAll_210 (fun r32 hF => ?_)
      refine lv_iload_n hx hb dX7_takeAll_213 rfl (lv_at hl 3 rfl) ?_
      refine lv_aload_n hx hb dX7_takeAll_214 rfl (lv_at hl 1 rfl) ?_
      refine lv_iload_n hx hb dX7_takeAll_215 rfl (lv_at hl 2 rfl) ?_
      refine lv_bipush (v := 74) hx hb dX7_takeAll_216 (by decide) ?_
      refine lv_iadd hx hb dX7_takeAll_218 ?_
      refine lv_iload_n hx hb dX7_takeAll_219 rfl (lv_at hl 3 rfl) ?_
      refine lv_iadd hx hb dX7_takeAll_220 ?_
      refine m_iald C hI hF dX7_takeAll_221 (fun r33 hF => ?_)
      refine m_iast C hI hF dX7_takeAll_222 (fun S34 H locs hF hI => ?_)
      refine lv_iinc (v := v3 + 1) (lv' := [(3, .int (v3 + 1)), (0, .ref (mA E.b v0)), (1, .ref (mA E.b v1)), (2, .int v2)]) hx hb dX7_takeAll_223 hl (k := 3) rfl rfl (by decide) rfl (fun ls hl => ?_)
      refine lv_goto (tgt := 203) hx hb dX7_takeAll_226 (by decide) ?_
      exact ih v0 v1 v2 (v3 + 1) S34 _ _ _ hF hI (lv_sub hl [1, 2, 3, 0] rfl)
set_option maxRecDepth 100000 in
set_option maxHeartbeats 4000000 in
theorem bl_X7_takeAll_229 {p : Program} {l : Launch} {e : Env} {s : State} {m : MethodId} {args : Array Value} {below : List Frame} {meth : Method} {c : Code} {E : mE} {n0 : Nat} {F : mS} (C : mCx p s m args meth c cX7_takeAll 4 RX7 none E n0) : ∀  (S : mS) (H : Heap) (locs : List Loc) (ls : Array Slot), f_X7_takeAll_229 S = some F → mIv s E S H locs 0 → lv_has ls 4 [] → W p l e rm_X7_takeAll s m args below meth c H locs 0 0 (mQv below args s 0 0 n0 E F) (F0 m 229 ls []) := by
  have hx := C.1
  have hb := C.2.1
  intro S H locs ls hF hI hl
  exact m_vret C hI hF dX7_takeAll_229
set_option maxRecDepth 100000 in
set_option maxHeartbeats 4000000 in
theorem bl_X7_takeAll_201 {p : Program} {l : Launch} {e : Env} {s : State} {m : MethodId} {args : Array Value} {below : List Frame} {meth : Method} {c : Code} {E : mE} {n0 : Nat} {F : mS} (C : mCx p s m args meth c cX7_takeAll 4 RX7 none E n0) : ∀  (v0 : Int32) (v1 : Int32) (v2 : Int32) (S : mS) (H : Heap) (locs : List Loc) (ls : Array Slot), f_X7_takeAll_201 v0 v1 v2 S = some F → mIv s E S H locs 0 → lv_has ls 4 [(0, .ref (mA E.b v0)), (1, .ref (mA E.b v1)), (2, .int v2)] → W p l e rm_X7_takeAll s m args below meth c H locs 0 0 (mQv below args s 0 0 n0 E F) (F0 m 201 ls []) := by
  have hx := C.1
  have hb := C.2.1
  intro v0 v1 v2 S H locs ls hF hI hl
  refine lv_iconst (v := 0) hx hb dX7_takeAll_201 (by decide) ?_
  refine lv_istore_n (lv' := [(3, .int 0), (0, .ref (mA E.b v0)), (1, .ref (mA E.b v1)), (2, .int v2)]) hx hb dX7_takeAll_202 rfl hl (by decide) rfl (fun ls hl => ?_)
  exact (bl_X7_takeAll_203 C (k229 := (f_X7_takeAll_229)) (bl_X7_takeAll_229 C) 1000) v0 v1 v2 0 S _ _ _ hF hI (lv_sub hl [1, 2, 3, 0] rfl)
set_option maxRecDepth 100000 in
set_option maxHeartbeats 4000000 in
theorem bl_X7_takeAll_159 {p : Program} {l : Launch} {e : Env} {s : State} {m : MethodId} {args : Array Value} {below : List Frame} {meth : Method} {c : Code} {E : mE} {n0 : Nat} {F : mS} (C : mCx p s m args meth c cX7_takeAll 4 RX7 none E n0) : ∀  (v0 : Int32) (v1 : Int32) (v2 : Int32) (S : mS) (H : Heap) (locs : List Loc) (ls : Array Slot), f_X7_takeAll_159 v0 v1 v2 S = some F → mIv s E S H locs 0 → lv_has ls 4 [(0, .ref (mA E.b v0)), (1, .ref (mA E.b v1)), (2, .int v2)] → W p l e rm_X7_takeAll s m args below meth c H locs 0 0 (mQv below args s 0 0 n0 E F) (F0 m 159 ls []) := by
  have hx := C.1
  have hb := C.2.1
  intro v0 v1 v2 S H locs ls hF hI hl
  refine lv_iconst (v := 0) hx hb dX7_takeAll_159 (by decide) ?_
  refine lv_istore_n (lv' := [(3, .int 0), (0, .ref (mA E.b v0)), (1, .ref (mA E.b v1)), (2, .int v2)]) hx hb dX7_takeAll_160 rfl hl (by decide) rfl (fun ls hl => ?_)
  exact (bl_X7_takeAll_161 C (k201 := (f_X7_takeAll_201)) (bl_X7_takeAll_201 C) 1000) v0 v1 v2 0 S _ _ _ hF hI (lv_sub hl [1, 2, 3, 0] rfl)
set_option maxRecDepth 100000 in
set_option maxHeartbeats 4000000 in
theorem bl_X7_takeAll_131 {p : Program} {l : Launch} {e : Env} {s : State} {m : MethodId} {args : Array Value} {below : List Frame} {meth : Method} {c : Code} {E : mE} {n0 : Nat} {F : mS} (C : mCx p s m args meth c cX7_takeAll 4 RX7 none E n0) : ∀  (v0 : Int32) (v1 : Int32) (v2 : Int32) (S : mS) (H : Heap) (locs : List Loc) (ls : Array Slot), f_X7_takeAll_131 v0 v1 v2 S = some F → mIv s E S H locs 0 → lv_has ls 4 [(0, .ref (mA E.b v0)), (1, .ref (mA E.b v1)), (2, .int v2)] → W p l e rm_X7_takeAll s m args below meth c H locs 0 0 (mQv below args s 0 0 n0 E F) (F0 m 131 ls []) := by
  have hx := C.1
  have hb := C.2.1
  intro v0 v1 v2 S H locs ls hF hI hl
  refine lv_iconst (v := 0) hx hb dX7_takeAll_131 (by decide) ?_
  refine lv_istore_n (lv' := [(3, .int 0), (0, .ref (mA E.b v0)), (1, .ref (mA E.b v1)), (2, .int v2)]) hx hb dX7_takeAll_132 rfl hl (by decide) rfl (fun ls hl => ?_)
  exact (bl_X7_takeAll_133 C (k159 := (f_X7_takeAll_159)) (bl_X7_takeAll_159 C) 1000) v0 v1 v2 0 S _ _ _ hF hI (lv_sub hl [1, 2, 3, 0] rfl)
set_option maxRecDepth 100000 in
set_option maxHeartbeats 4000000 in
theorem bl_X7_takeAll_103 {p : Program} {l : Launch} {e : Env} {s : State} {m : MethodId} {args : Array Value} {below : List Frame} {meth : Method} {c : Code} {E : mE} {n0 : Nat} {F : mS} (C : mCx p s m args meth c cX7_takeAll 4 RX7 none E n0) : ∀  (v0 : Int32) (v1 : Int32) (v2 : Int32) (S : mS) (H : Heap) (locs : List Loc) (ls : Array Slot), f_X7_takeAll_103 v0 v1 v2 S = some F → mIv s E S H locs 0 → lv_has ls 4 [(0, .ref (mA E.b v0)), (1, .ref (mA E.b v1)), (2, .int v2)] → W p l e rm_X7_takeAll s m args below meth c H locs 0 0 (mQv below args s 0 0 n0 E F) (F0 m 103 ls []) := by
  have hx := C.1
  have hb := C.2.1
  intro v0 v1 v2 S H locs ls hF hI hl
  refine lv_iconst (v := 0) hx hb dX7_takeAll_103 (by decide) ?_
  refine lv_istore_n (lv' := [(3, .int 0), (0, .ref (mA E.b v0)), (1, .ref (mA E.b v1)), (2, .int v2)]) hx hb dX7_takeAll_104 rfl hl (by decide) rfl (fun ls hl => ?_)
  exact (bl_X7_takeAll_105 C (k131 := (f_X7_takeAll_131)) (bl_X7_takeAll_131 C) 1000) v0 v1 v2 0 S _ _ _ hF hI (lv_sub hl [1, 2, 3, 0] rfl)
set_option maxRecDepth 100000 in
set_option maxHeartbeats 4000000 in
theorem ok_X7_takeAll {l : Launch} {E : mE} {v0 : Int32} {v1 : Int32} {v2 : Int32} {S : mS} {F : mS} (hF : f_X7_takeAll v0 v1 v2 S = some F) : mMv l yX7_takeAll cX7_takeAll 4 none rm_X7_takeAll 0 0 [.ref (mA E.b v0), .ref (mA E.b v1), .int v2] E S F := by
  refine m_met_v (by decide) (Nat.le_of_ble_eq_true rfl) (fun p e s m args below meth c ls hin C hI hl => ?_)
  have hx := C.1
  have hb := C.2.1
  have hl : lv_has ls 4 [(0, .ref (mA E.b v0)), (1, .ref (mA E.b v1)), (2, .int v2)] := hl
  generalize s.heap = H at hI ⊢
  generalize ([] : List Loc) = locs at hI ⊢
  refine lv_aload_n hx hb dX7_takeAll_0 rfl (lv_at hl 0 rfl) ?_
  refine lv_aload_n hx hb dX7_takeAll_1 rfl (lv_at hl 1 rfl) ?_
  refine lv_iload_n hx hb dX7_takeAll_2 rfl (lv_at hl 2 rfl) ?_
  refine m_callVv C cd_X7_228 ⟨rfl, by decide⟩ hl.1 hI hF (fun _ h => ok_X7_takes h) rfl rfl ⟨rfl, rfl, Nat.le_of_ble_eq_true rfl, Nat.le_of_ble_eq_true rfl⟩ ⟨Nat.le_of_ble_eq_true rfl, Nat.le_of_ble_eq_true rfl⟩ (Nat.le_of_ble_eq_true rfl) dX7_takeAll_3 (fun S2 H locs hF hI => ?_)
  refine lv_aload_n hx hb dX7_takeAll_6 rfl (lv_at hl 0 rfl) ?_
  refine lv_aload_n hx hb dX7_takeAll_7 rfl (lv_at hl 1 rfl) ?_
  refine lv_iload_n hx hb dX7_takeAll_8 rfl (lv_at hl 2 rfl) ?_
  refine lv_bipush (v := 11) hx hb dX7_takeAll_9 (by decide) ?_
  refine lv_iadd hx hb dX7_takeAll_11 ?_
  refine m_iald C hI hF dX7_takeAll_12 (fun r3 hF => ?_)
  refine m_put C fd_X7_70 hI hF dX7_takeAll_13 (fun S4 H locs hF hI => ?_)
  refine lv_aload_n hx hb dX7_takeAll_16 rfl (lv_at hl 0 rfl) ?_
  refine lv_aload_n hx hb dX7_takeAll_17 rfl (lv_at hl 1 rfl) ?_
  refine lv_iload_n hx hb dX7_takeAll_18 rfl (lv_at hl 2 rfl) ?_
  refine lv_bipush (v := 12) hx hb dX7_takeAll_19 (by decide) ?_
  refine lv_iadd hx hb dX7_takeAll_21 ?_
  refine m_iald C hI hF dX7_takeAll_22 (fun r5 hF => ?_)
  refine m_put C fd_X7_74 hI hF dX7_takeAll_23 (fun S6 H locs hF hI => ?_)
  refine lv_aload_n hx hb dX7_takeAll_26 rfl (lv_at hl 0 rfl) ?_
  refine lv_aload_n hx hb dX7_takeAll_27 rfl (lv_at hl 1 rfl) ?_
  refine lv_iload_n hx hb dX7_takeAll_28 rfl (lv_at hl 2 rfl) ?_
  refine lv_bipush (v := 13) hx hb dX7_takeAll_29 (by decide) ?_
  refine lv_iadd hx hb dX7_takeAll_31 ?_
  refine m_iald C hI hF dX7_takeAll_32 (fun r7 hF => ?_)
  refine m_put C fd_X7_77 hI hF dX7_takeAll_33 (fun S8 H locs hF hI => ?_)
  refine lv_aload_n hx hb dX7_takeAll_36 rfl (lv_at hl 0 rfl) ?_
  refine lv_aload_n hx hb dX7_takeAll_37 rfl (lv_at hl 1 rfl) ?_
  refine lv_iload_n hx hb dX7_takeAll_38 rfl (lv_at hl 2 rfl) ?_
  refine lv_bipush (v := 14) hx hb dX7_takeAll_39 (by decide) ?_
  refine lv_iadd hx hb dX7_takeAll_41 ?_
  refine m_iald C hI hF dX7_takeAll_42 (fun r9 hF => ?_)
  refine m_put C fd_X7_83 hI hF dX7_takeAll_43 (fun S10 H locs hF hI => ?_)
  refine lv_aload_n hx hb dX7_takeAll_46 rfl (lv_at hl 0 rfl) ?_
  refine lv_aload_n hx hb dX7_takeAll_47 rfl (lv_at hl 1 rfl) ?_
  refine lv_iload_n hx hb dX7_takeAll_48 rfl (lv_at hl 2 rfl) ?_
  refine lv_bipush (v := 15) hx hb dX7_takeAll_49 (by decide) ?_
  refine lv_iadd hx hb dX7_takeAll_51 ?_
  refine m_iald C hI hF dX7_takeAll_52 (fun r11 hF => ?_)
  refine m_put C fd_X7_86 hI hF dX7_takeAll_53 (fun S12 H locs hF hI => ?_)
  refine lv_aload_n hx hb dX7_takeAll_56 rfl (lv_at hl 0 rfl) ?_
  refine lv_aload_n hx hb dX7_takeAll_57 rfl (lv_at hl 1 rfl) ?_
  refine lv_iload_n hx hb dX7_takeAll_58 rfl (lv_at hl 2 rfl) ?_
  refine lv_bipush (v := 16) hx hb dX7_takeAll_59 (by decide) ?_
  refine lv_iadd hx hb dX7_takeAll_61 ?_
  refine m_iald C hI hF dX7_takeAll_62 (fun r13 hF => ?_)
  refine m_put C fd_X7_89 hI hF dX7_takeAll_63 (fun S14 H locs hF hI => ?_)
  refine lv_aload_n hx hb dX7_takeAll_66 rfl (lv_at hl 0 rfl) ?_
  refine lv_aload_n hx hb dX7_takeAll_67 rfl (lv_at hl 1 rfl) ?_
  refine lv_iload_n hx hb dX7_takeAll_68 rfl (lv_at hl 2 rfl) ?_
  refine lv_bipush (v := 17) hx hb dX7_takeAll_69 (by decide) ?_
  refine lv_iadd hx hb dX7_takeAll_71 ?_
  refine m_iald C hI hF dX7_takeAll_72 (fun r15 hF => ?_)
  refine m_put C fd_X7_92 hI hF dX7_takeAll_73 (fun S16 H locs hF hI => ?_)
  refine lv_iconst (v := 0) hx hb dX7_takeAll_76 (by decide) ?_
  refine lv_istore_n (lv' := [(3, .int 0), (0, .ref (mA E.b v0)), (1, .ref (mA E.b v1)), (2, .int v2)]) hx hb dX7_takeAll_77 rfl hl (by decide) rfl (fun ls hl => ?_)
  exact (bl_X7_takeAll_78 C (k103 := (f_X7_takeAll_103)) (bl_X7_takeAll_103 C) 1000) v0 v1 v2 0 S16 _ _ _ hF hI (lv_sub hl [1, 2, 3, 0] rfl)
noncomputable def f_X7_read (v0 : Int32) (S : mS) : Option (Int32 × mS) := mGr 7 19 v0 S (fun r1 => mRc 7 v0 S (mCv (f_X7_layAll v0 r1 0 S) (fun S3 => mRc 7 v0 S3 (mC (f_X7_readsFell v0 S3) (fun r4 S5 => if 0 ≤ r4 then (mP 7 21 v0 0 S5 (fun S6 => some (r4, S6))) else (mGr 7 19 v0 S5 (fun r7 => mRc 7 v0 S5 (mCv (f_X7_takeAll v0 r7 0 S5) (fun S9 => mG 7 17 v0 S9 (fun r10 => some ((-10) - r10, S9)))))))))))
def rm_X7_read : Room := { frames := 7, cells := 0, slots := 0, locals := 161 }
set_option maxRecDepth 100000 in
set_option maxHeartbeats 4000000 in
theorem ok_X7_read {l : Launch} {E : mE} {v0 : Int32} {S : mS} {F : Int32 × mS} (hF : f_X7_read v0 S = some F) : mMi l yX7_read cX7_read 2 (some .int) rm_X7_read 0 0 [.ref (mA E.b v0)] E S F := by
  refine m_met_i (by decide) (Nat.le_of_ble_eq_true rfl) (fun p e s m args below meth c ls hin C hI hl => ?_)
  have hx := C.1
  have hb := C.2.1
  have hl : lv_has ls 2 [(0, .ref (mA E.b v0))] := hl
  generalize s.heap = H at hI ⊢
  generalize ([] : List Loc) = locs at hI ⊢
  refine lv_aload_n hx hb dX7_read_0 rfl (lv_at hl 0 rfl) ?_
  refine lv_aload_n hx hb dX7_read_1 rfl (lv_at hl 0 rfl) ?_
  refine m_getR C fd_X7_41 hI hF dX7_read_2 (fun r1 hF => ?_)
  refine lv_iconst (v := 0) hx hb dX7_read_5 (by decide) ?_
  refine m_callVv C cd_X7_180 ⟨rfl, by decide⟩ hl.1 hI hF (fun _ h => ok_X7_layAll h) rfl rfl ⟨rfl, rfl, Nat.le_of_ble_eq_true rfl, Nat.le_of_ble_eq_true rfl⟩ ⟨Nat.le_of_ble_eq_true rfl, Nat.le_of_ble_eq_true rfl⟩ (Nat.le_of_ble_eq_true rfl) dX7_read_6 (fun S3 H locs hF hI => ?_)
  refine lv_aload_n hx hb dX7_read_9 rfl (lv_at hl 0 rfl) ?_
  refine m_callVi C cd_X7_184 ⟨rfl, by decide⟩ hl.1 hI hF (fun _ h => ok_X7_readsFell h) rfl rfl ⟨rfl, rfl, Nat.le_of_ble_eq_true rfl, Nat.le_of_ble_eq_true rfl⟩ ⟨Nat.le_of_ble_eq_true rfl, Nat.le_of_ble_eq_true rfl⟩ (Nat.le_of_ble_eq_true rfl) dX7_read_10 (fun r4 S5 H locs hF hI => ?_)
  refine lv_istore_n (lv' := [(1, .int r4), (0, .ref (mA E.b v0))]) hx hb dX7_read_13 rfl hl (by decide) rfl (fun ls hl => ?_)
  refine lv_iload_n hx hb dX7_read_14 rfl (lv_at hl 0 rfl) ?_
  refine m_if_ge C (tgt := 35) hF dX7_read_15 (by decide) (fun hF => ?_) (fun hF => ?_)
  · refine lv_aload_n hx hb dX7_read_35 rfl (lv_at hl 1 rfl) ?_
    refine lv_iconst (v := 0) hx hb dX7_read_36 (by decide) ?_
    refine m_put C fd_X7_92 hI hF dX7_read_37 (fun S6 H locs hF hI => ?_)
    refine lv_iload_n hx hb dX7_read_40 rfl (lv_at hl 0 rfl) ?_
    exact m_ireti C hI hF dX7_read_41
  · refine lv_aload_n hx hb dX7_read_18 rfl (lv_at hl 1 rfl) ?_
    refine lv_aload_n hx hb dX7_read_19 rfl (lv_at hl 1 rfl) ?_
    refine m_getR C fd_X7_41 hI hF dX7_read_20 (fun r7 hF => ?_)
    refine lv_iconst (v := 0) hx hb dX7_read_23 (by decide) ?_
    refine m_callVv C cd_X7_187 ⟨rfl, by decide⟩ hl.1 hI hF (fun _ h => ok_X7_takeAll h) rfl rfl ⟨rfl, rfl, Nat.le_of_ble_eq_true rfl, Nat.le_of_ble_eq_true rfl⟩ ⟨Nat.le_of_ble_eq_true rfl, Nat.le_of_ble_eq_true rfl⟩ (Nat.le_of_ble_eq_true rfl) dX7_read_24 (fun S9 H locs hF hI => ?_)
    refine lv_bipush (v := (-10)) hx hb dX7_read_27 (by decide) ?_
    refine lv_aload_n hx hb dX7_read_29 rfl (lv_at hl 1 rfl) ?_
    refine m_get C fd_X7_122 hI hF dX7_read_30 (fun r10 hF => ?_)
    refine lv_isub hx hb dX7_read_33 ?_
    exact m_ireti C hI hF dX7_read_34
noncomputable def f_X7_foldedIn_33 (k4 : Int32 → Int32 → Int32 → Option Int32) (S : mS) (v0 : Int32) (v2 : Int32) (t0 : Int32) (t1 : Int32) : Option Int32 := k4 v0 (t0 ||| t1) (v2 + 1)
noncomputable def f_X7_foldedIn_4 (k41 : Int32 → Option Int32) (S : mS) : Nat → Int32 → Int32 → Int32 → Option Int32 := fun n => Nat.rec (motive := fun _ => Int32 → Int32 → Int32 → Option Int32) (fun _ _ _ => none) (fun _ rec v0 v1 v2 => mG 7 2 v0 S (fun r1 => if r1 ≤ v2 then (k41 v1) else (mGr 7 11 v0 S (fun r2 => mX 8 r2 v2 S (fun r3 => mG 7 3 v0 S (fun r4 => if r3 = r4 then ((f_X7_foldedIn_33 rec S) v0 v2 v1 (1 <<< (v2 &&& 31))) else ((f_X7_foldedIn_33 rec S) v0 v2 v1 0))))))) n
theorem f_X7_foldedIn_4_s (k41 : Int32 → Option Int32) (S : mS) (n : Nat) (v0 : Int32) (v1 : Int32) (v2 : Int32) : f_X7_foldedIn_4 k41 S (n + 1) v0 v1 v2 = mG 7 2 v0 S (fun r1 => if r1 ≤ v2 then (k41 v1) else (mGr 7 11 v0 S (fun r2 => mX 8 r2 v2 S (fun r3 => mG 7 3 v0 S (fun r4 => if r3 = r4 then ((f_X7_foldedIn_33 (f_X7_foldedIn_4 k41 S n) S) v0 v2 v1 (1 <<< (v2 &&& 31))) else ((f_X7_foldedIn_33 (f_X7_foldedIn_4 k41 S n) S) v0 v2 v1 0)))))) := rfl
noncomputable def f_X7_foldedIn_41 (S : mS) (v1 : Int32) : Option Int32 := some v1
noncomputable def f_X7_foldedIn (v0 : Int32) (S : mS) : Option Int32 := (f_X7_foldedIn_4 (f_X7_foldedIn_41 S) S 1000) v0 0 0
def rm_X7_foldedIn : Room := { frames := 0, cells := 0, slots := 0, locals := 0 }
set_option maxRecDepth 100000 in
set_option maxHeartbeats 4000000 in
theorem bl_X7_foldedIn_33 {p : Program} {l : Launch} {e : Env} {s : State} {m : MethodId} {args : Array Value} {below : List Frame} {meth : Method} {c : Code} {E : mE} {n0 : Nat} {r : Int32} {S : mS} (C : mCx p s m args meth c cX7_foldedIn 3 RX7 (some .int) E n0) {k4 : Int32 → Int32 → Int32 → Option Int32} (hk4 : ∀ (v0 : Int32) (v1 : Int32) (v2 : Int32) (H : Heap) (locs : List Loc) (ls : Array Slot), k4 v0 v1 v2 = some r → mIv s E S H locs 0 → lv_has ls 3 [(0, .ref (mA E.b v0)), (1, .int v1), (2, .int v2)] → W p l e rm_X7_foldedIn s m args below meth c H locs 0 0 (mQi below args s 0 0 n0 E (r, S)) (F0 m 4 ls [])) : ∀  (v0 : Int32) (v2 : Int32) (t0 : Int32) (t1 : Int32) (H : Heap) (locs : List Loc) (ls : Array Slot), f_X7_foldedIn_33 k4 S v0 v2 t0 t1 = some r → mIv s E S H locs 0 → lv_has ls 3 [(0, .ref (mA E.b v0)), (2, .int v2)] → W p l e rm_X7_foldedIn s m args below meth c H locs 0 0 (mQi below args s 0 0 n0 E (r, S)) (F0 m 33 ls [.int t1, .int t0]) := by
  have hx := C.1
  have hb := C.2.1
  intro v0 v2 t0 t1 H locs ls hF hI hl
  refine lv_ior hx hb dX7_foldedIn_33 ?_
  refine lv_istore_n (lv' := [(1, .int (t0 ||| t1)), (0, .ref (mA E.b v0)), (2, .int v2)]) hx hb dX7_foldedIn_34 rfl hl (by decide) rfl (fun ls hl => ?_)
  refine lv_iinc (v := v2 + 1) (lv' := [(2, .int (v2 + 1)), (1, .int (t0 ||| t1)), (0, .ref (mA E.b v0))]) hx hb dX7_foldedIn_35 hl (k := 2) rfl rfl (by decide) rfl (fun ls hl => ?_)
  refine lv_goto (tgt := 4) hx hb dX7_foldedIn_38 (by decide) ?_
  exact hk4 v0 (t0 ||| t1) (v2 + 1) _ _ _ hF hI (lv_sub hl [2, 1, 0] rfl)
set_option maxRecDepth 100000 in
set_option maxHeartbeats 4000000 in
theorem bl_X7_foldedIn_4 {p : Program} {l : Launch} {e : Env} {s : State} {m : MethodId} {args : Array Value} {below : List Frame} {meth : Method} {c : Code} {E : mE} {n0 : Nat} {r : Int32} {S : mS} (C : mCx p s m args meth c cX7_foldedIn 3 RX7 (some .int) E n0) {k41 : Int32 → Option Int32} (hk41 : ∀ (v1 : Int32) (H : Heap) (locs : List Loc) (ls : Array Slot), k41 v1 = some r → mIv s E S H locs 0 → lv_has ls 3 [(1, .int v1)] → W p l e rm_X7_foldedIn s m args below meth c H locs 0 0 (mQi below args s 0 0 n0 E (r, S)) (F0 m 41 ls [])) : ∀ (n : Nat)  (v0 : Int32) (v1 : Int32) (v2 : Int32) (H : Heap) (locs : List Loc) (ls : Array Slot), f_X7_foldedIn_4 k41 S n v0 v1 v2 = some r → mIv s E S H locs 0 → lv_has ls 3 [(0, .ref (mA E.b v0)), (1, .int v1), (2, .int v2)] → W p l e rm_X7_foldedIn s m args below meth c H locs 0 0 (mQi below args s 0 0 n0 E (r, S)) (F0 m 4 ls []) := by
  have hx := C.1
  have hb := C.2.1
  intro n
  induction n with
  | zero =>
    intro v0 v1 v2 H locs ls hF
    exact nomatch (show (none : Option Int32) = some r from hF)
  | succ n ih =>
    intro v0 v1 v2 H locs ls hF hI hl
    have hF := (f_X7_foldedIn_4_s k41 S n v0 v1 v2).symm.trans hF
    refine lv_iload_n hx hb dX7_foldedIn_4 rfl (lv_at hl 2 rfl) ?_
    refine lv_aload_n hx hb dX7_foldedIn_5 rfl (lv_at hl 0 rfl) ?_
    refine m_get C fd_X7_74 hI hF dX7_foldedIn_6 (fun r1 hF => ?_)
    refine m_icmp_ge C (tgt := 41) hF dX7_foldedIn_9 (by decide) (fun hF => ?_) (fun hF => ?_)
    · exact hk41 v1 _ _ _ hF hI (lv_sub hl [1] rfl)
    · refine lv_iload_n hx hb dX7_foldedIn_12 rfl (lv_at hl 1 rfl) ?_
      refine lv_aload_n hx hb dX7_foldedIn_13 rfl (lv_at hl 0 rfl) ?_
      refine m_getR C fd_X7_26 hI hF dX7_foldedIn_14 (fun r2 hF => ?_)
      refine lv_iload_n hx hb dX7_foldedIn_17 rfl (lv_at hl 2 rfl) ?_
      refine m_iald C hI hF dX7_foldedIn_18 (fun r3 hF => ?_)
      refine lv_aload_n hx hb dX7_foldedIn_19 rfl (lv_at hl 0 rfl) ?_
      refine m_get C fd_X7_77 hI hF dX7_foldedIn_20 (fun r4 hF => ?_)
      refine m_icmp_ne C (tgt := 32) hF dX7_foldedIn_23 (by decide) (fun hF => ?_) (fun hF => ?_)
      · refine lv_iconst (v := 0) hx hb dX7_foldedIn_32 (by decide) ?_
        exact (bl_X7_foldedIn_33 C (k4 := (f_X7_foldedIn_4 k41 S n)) ih) v0 v2 v1 0 _ _ _ hF hI (lv_sub hl [0, 2] rfl)
      · refine lv_iconst (v := 1) hx hb dX7_foldedIn_26 (by decide) ?_
        refine lv_iload_n hx hb dX7_foldedIn_27 rfl (lv_at hl 2 rfl) ?_
        refine lv_ishl hx hb dX7_foldedIn_28 ?_
        refine lv_goto (tgt := 33) hx hb dX7_foldedIn_29 (by decide) ?_
        exact (bl_X7_foldedIn_33 C (k4 := (f_X7_foldedIn_4 k41 S n)) ih) v0 v2 v1 (1 <<< (v2 &&& 31)) _ _ _ hF hI (lv_sub hl [0, 2] rfl)
set_option maxRecDepth 100000 in
set_option maxHeartbeats 4000000 in
theorem bl_X7_foldedIn_41 {p : Program} {l : Launch} {e : Env} {s : State} {m : MethodId} {args : Array Value} {below : List Frame} {meth : Method} {c : Code} {E : mE} {n0 : Nat} {r : Int32} {S : mS} (C : mCx p s m args meth c cX7_foldedIn 3 RX7 (some .int) E n0) : ∀  (v1 : Int32) (H : Heap) (locs : List Loc) (ls : Array Slot), f_X7_foldedIn_41 S v1 = some r → mIv s E S H locs 0 → lv_has ls 3 [(1, .int v1)] → W p l e rm_X7_foldedIn s m args below meth c H locs 0 0 (mQi below args s 0 0 n0 E (r, S)) (F0 m 41 ls []) := by
  have hx := C.1
  have hb := C.2.1
  intro v1 H locs ls hF hI hl
  refine lv_iload_n hx hb dX7_foldedIn_41 rfl (lv_at hl 0 rfl) ?_
  exact m_iretiR C hI hF dX7_foldedIn_42
set_option maxRecDepth 100000 in
set_option maxHeartbeats 4000000 in
theorem ok_X7_foldedIn {l : Launch} {E : mE} {v0 : Int32} {S : mS} {r : Int32} (hF : f_X7_foldedIn v0 S = some r) : mMi l yX7_foldedIn cX7_foldedIn 3 (some .int) rm_X7_foldedIn 0 0 [.ref (mA E.b v0)] E S (r, S) := by
  refine m_met_i (by decide) (Nat.le_of_ble_eq_true rfl) (fun p e s m args below meth c ls hin C hI hl => ?_)
  have hx := C.1
  have hb := C.2.1
  have hl : lv_has ls 3 [(0, .ref (mA E.b v0))] := hl
  generalize s.heap = H at hI ⊢
  generalize ([] : List Loc) = locs at hI ⊢
  refine lv_iconst (v := 0) hx hb dX7_foldedIn_0 (by decide) ?_
  refine lv_istore_n (lv' := [(1, .int 0), (0, .ref (mA E.b v0))]) hx hb dX7_foldedIn_1 rfl hl (by decide) rfl (fun ls hl => ?_)
  refine lv_iconst (v := 0) hx hb dX7_foldedIn_2 (by decide) ?_
  refine lv_istore_n (lv' := [(2, .int 0), (1, .int 0), (0, .ref (mA E.b v0))]) hx hb dX7_foldedIn_3 rfl hl (by decide) rfl (fun ls hl => ?_)
  exact (bl_X7_foldedIn_4 C (k41 := (f_X7_foldedIn_41 S)) (bl_X7_foldedIn_41 C) 1000) v0 0 0 _ _ _ hF hI (lv_sub hl [2, 1, 0] rfl)
noncomputable def f_X7_foldedMany_31 (k4 : Int32 → Int32 → Int32 → Option Int32) (S : mS) (v0 : Int32) (v2 : Int32) (t0 : Int32) (t1 : Int32) : Option Int32 := k4 v0 (t0 + t1) (v2 + 1)
noncomputable def f_X7_foldedMany_4 (k39 : Int32 → Option Int32) (S : mS) : Nat → Int32 → Int32 → Int32 → Option Int32 := fun n => Nat.rec (motive := fun _ => Int32 → Int32 → Int32 → Option Int32) (fun _ _ _ => none) (fun _ rec v0 v1 v2 => mG 7 2 v0 S (fun r1 => if r1 ≤ v2 then (k39 v1) else (mGr 7 11 v0 S (fun r2 => mX 8 r2 v2 S (fun r3 => mG 7 3 v0 S (fun r4 => if r3 = r4 then ((f_X7_foldedMany_31 rec S) v0 v2 v1 1) else ((f_X7_foldedMany_31 rec S) v0 v2 v1 0))))))) n
theorem f_X7_foldedMany_4_s (k39 : Int32 → Option Int32) (S : mS) (n : Nat) (v0 : Int32) (v1 : Int32) (v2 : Int32) : f_X7_foldedMany_4 k39 S (n + 1) v0 v1 v2 = mG 7 2 v0 S (fun r1 => if r1 ≤ v2 then (k39 v1) else (mGr 7 11 v0 S (fun r2 => mX 8 r2 v2 S (fun r3 => mG 7 3 v0 S (fun r4 => if r3 = r4 then ((f_X7_foldedMany_31 (f_X7_foldedMany_4 k39 S n) S) v0 v2 v1 1) else ((f_X7_foldedMany_31 (f_X7_foldedMany_4 k39 S n) S) v0 v2 v1 0)))))) := rfl
noncomputable def f_X7_foldedMany_39 (S : mS) (v1 : Int32) : Option Int32 := some v1
noncomputable def f_X7_foldedMany (v0 : Int32) (S : mS) : Option Int32 := (f_X7_foldedMany_4 (f_X7_foldedMany_39 S) S 1000) v0 0 0
def rm_X7_foldedMany : Room := { frames := 0, cells := 0, slots := 0, locals := 0 }
set_option maxRecDepth 100000 in
set_option maxHeartbeats 4000000 in
theorem bl_X7_foldedMany_31 {p : Program} {l : Launch} {e : Env} {s : State} {m : MethodId} {args : Array Value} {below : List Frame} {meth : Method} {c : Code} {E : mE} {n0 : Nat} {r : Int32} {S : mS} (C : mCx p s m args meth c cX7_foldedMany 3 RX7 (some .int) E n0) {k4 : Int32 → Int32 → Int32 → Option Int32} (hk4 : ∀ (v0 : Int32) (v1 : Int32) (v2 : Int32) (H : Heap) (locs : List Loc) (ls : Array Slot), k4 v0 v1 v2 = some r → mIv s E S H locs 0 → lv_has ls 3 [(0, .ref (mA E.b v0)), (1, .int v1), (2, .int v2)] → W p l e rm_X7_foldedMany s m args below meth c H locs 0 0 (mQi below args s 0 0 n0 E (r, S)) (F0 m 4 ls [])) : ∀  (v0 : Int32) (v2 : Int32) (t0 : Int32) (t1 : Int32) (H : Heap) (locs : List Loc) (ls : Array Slot), f_X7_foldedMany_31 k4 S v0 v2 t0 t1 = some r → mIv s E S H locs 0 → lv_has ls 3 [(0, .ref (mA E.b v0)), (2, .int v2)] → W p l e rm_X7_foldedMany s m args below meth c H locs 0 0 (mQi below args s 0 0 n0 E (r, S)) (F0 m 31 ls [.int t1, .int t0]) := by
  have hx := C.1
  have hb := C.2.1
  intro v0 v2 t0 t1 H locs ls hF hI hl
  refine lv_iadd hx hb dX7_foldedMany_31 ?_
  refine lv_istore_n (lv' := [(1, .int (t0 + t1)), (0, .ref (mA E.b v0)), (2, .int v2)]) hx hb dX7_foldedMany_32 rfl hl (by decide) rfl (fun ls hl => ?_)
  refine lv_iinc (v := v2 + 1) (lv' := [(2, .int (v2 + 1)), (1, .int (t0 + t1)), (0, .ref (mA E.b v0))]) hx hb dX7_foldedMany_33 hl (k := 2) rfl rfl (by decide) rfl (fun ls hl => ?_)
  refine lv_goto (tgt := 4) hx hb dX7_foldedMany_36 (by decide) ?_
  exact hk4 v0 (t0 + t1) (v2 + 1) _ _ _ hF hI (lv_sub hl [2, 1, 0] rfl)
set_option maxRecDepth 100000 in
set_option maxHeartbeats 4000000 in
theorem bl_X7_foldedMany_4 {p : Program} {l : Launch} {e : Env} {s : State} {m : MethodId} {args : Array Value} {below : List Frame} {meth : Method} {c : Code} {E : mE} {n0 : Nat} {r : Int32} {S : mS} (C : mCx p s m args meth c cX7_foldedMany 3 RX7 (some .int) E n0) {k39 : Int32 → Option Int32} (hk39 : ∀ (v1 : Int32) (H : Heap) (locs : List Loc) (ls : Array Slot), k39 v1 = some r → mIv s E S H locs 0 → lv_has ls 3 [(1, .int v1)] → W p l e rm_X7_foldedMany s m args below meth c H locs 0 0 (mQi below args s 0 0 n0 E (r, S)) (F0 m 39 ls [])) : ∀ (n : Nat)  (v0 : Int32) (v1 : Int32) (v2 : Int32) (H : Heap) (locs : List Loc) (ls : Array Slot), f_X7_foldedMany_4 k39 S n v0 v1 v2 = some r → mIv s E S H locs 0 → lv_has ls 3 [(0, .ref (mA E.b v0)), (1, .int v1), (2, .int v2)] → W p l e rm_X7_foldedMany s m args below meth c H locs 0 0 (mQi below args s 0 0 n0 E (r, S)) (F0 m 4 ls []) := by
  have hx := C.1
  have hb := C.2.1
  intro n
  induction n with
  | zero =>
    intro v0 v1 v2 H locs ls hF
    exact nomatch (show (none : Option Int32) = some r from hF)
  | succ n ih =>
    intro v0 v1 v2 H locs ls hF hI hl
    have hF := (f_X7_foldedMany_4_s k39 S n v0 v1 v2).symm.trans hF
    refine lv_iload_n hx hb dX7_foldedMany_4 rfl (lv_at hl 2 rfl) ?_
    refine lv_aload_n hx hb dX7_foldedMany_5 rfl (lv_at hl 0 rfl) ?_
    refine m_get C fd_X7_74 hI hF dX7_foldedMany_6 (fun r1 hF => ?_)
    refine m_icmp_ge C (tgt := 39) hF dX7_foldedMany_9 (by decide) (fun hF => ?_) (fun hF => ?_)
    · exact hk39 v1 _ _ _ hF hI (lv_sub hl [1] rfl)
    · refine lv_iload_n hx hb dX7_foldedMany_12 rfl (lv_at hl 1 rfl) ?_
      refine lv_aload_n hx hb dX7_foldedMany_13 rfl (lv_at hl 0 rfl) ?_
      refine m_getR C fd_X7_26 hI hF dX7_foldedMany_14 (fun r2 hF => ?_)
      refine lv_iload_n hx hb dX7_foldedMany_17 rfl (lv_at hl 2 rfl) ?_
      refine m_iald C hI hF dX7_foldedMany_18 (fun r3 hF => ?_)
      refine lv_aload_n hx hb dX7_foldedMany_19 rfl (lv_at hl 0 rfl) ?_
      refine m_get C fd_X7_77 hI hF dX7_foldedMany_20 (fun r4 hF => ?_)
      refine m_icmp_ne C (tgt := 30) hF dX7_foldedMany_23 (by decide) (fun hF => ?_) (fun hF => ?_)
      · refine lv_iconst (v := 0) hx hb dX7_foldedMany_30 (by decide) ?_
        exact (bl_X7_foldedMany_31 C (k4 := (f_X7_foldedMany_4 k39 S n)) ih) v0 v2 v1 0 _ _ _ hF hI (lv_sub hl [0, 2] rfl)
      · refine lv_iconst (v := 1) hx hb dX7_foldedMany_26 (by decide) ?_
        refine lv_goto (tgt := 31) hx hb dX7_foldedMany_27 (by decide) ?_
        exact (bl_X7_foldedMany_31 C (k4 := (f_X7_foldedMany_4 k39 S n)) ih) v0 v2 v1 1 _ _ _ hF hI (lv_sub hl [0, 2] rfl)
set_option maxRecDepth 100000 in
set_option maxHeartbeats 4000000 in
theorem bl_X7_foldedMany_39 {p : Program} {l : Launch} {e : Env} {s : State} {m : MethodId} {args : Array Value} {below : List Frame} {meth : Method} {c : Code} {E : mE} {n0 : Nat} {r : Int32} {S : mS} (C : mCx p s m args meth c cX7_foldedMany 3 RX7 (some .int) E n0) : ∀  (v1 : Int32) (H : Heap) (locs : List Loc) (ls : Array Slot), f_X7_foldedMany_39 S v1 = some r → mIv s E S H locs 0 → lv_has ls 3 [(1, .int v1)] → W p l e rm_X7_foldedMany s m args below meth c H locs 0 0 (mQi below args s 0 0 n0 E (r, S)) (F0 m 39 ls []) := by
  have hx := C.1
  have hb := C.2.1
  intro v1 H locs ls hF hI hl
  refine lv_iload_n hx hb dX7_foldedMany_39 rfl (lv_at hl 0 rfl) ?_
  exact m_iretiR C hI hF dX7_foldedMany_40
set_option maxRecDepth 100000 in
set_option maxHeartbeats 4000000 in
theorem ok_X7_foldedMany {l : Launch} {E : mE} {v0 : Int32} {S : mS} {r : Int32} (hF : f_X7_foldedMany v0 S = some r) : mMi l yX7_foldedMany cX7_foldedMany 3 (some .int) rm_X7_foldedMany 0 0 [.ref (mA E.b v0)] E S (r, S) := by
  refine m_met_i (by decide) (Nat.le_of_ble_eq_true rfl) (fun p e s m args below meth c ls hin C hI hl => ?_)
  have hx := C.1
  have hb := C.2.1
  have hl : lv_has ls 3 [(0, .ref (mA E.b v0))] := hl
  generalize s.heap = H at hI ⊢
  generalize ([] : List Loc) = locs at hI ⊢
  refine lv_iconst (v := 0) hx hb dX7_foldedMany_0 (by decide) ?_
  refine lv_istore_n (lv' := [(1, .int 0), (0, .ref (mA E.b v0))]) hx hb dX7_foldedMany_1 rfl hl (by decide) rfl (fun ls hl => ?_)
  refine lv_iconst (v := 0) hx hb dX7_foldedMany_2 (by decide) ?_
  refine lv_istore_n (lv' := [(2, .int 0), (1, .int 0), (0, .ref (mA E.b v0))]) hx hb dX7_foldedMany_3 rfl hl (by decide) rfl (fun ls hl => ?_)
  exact (bl_X7_foldedMany_4 C (k39 := (f_X7_foldedMany_39 S)) (bl_X7_foldedMany_39 C) 1000) v0 0 0 _ _ _ hF hI (lv_sub hl [2, 1, 0] rfl)
noncomputable def f_X7_notes_48 (v0 : Int32) (S : mS) : Option mS := mGr 7 20 v0 S (fun r2 => mG 7 21 v0 S (fun r3 => mRc 7 v0 S (mCv (f_X7_lays v0 r2 (11 * r3) S) (fun S5 => mG 7 21 v0 S5 (fun r6 => mP 7 21 v0 (r6 + 1) S5 (fun S7 => some S7))))))
noncomputable def f_X7_notes_11 (k38 : Int32 → mS → Option mS) : Nat → Int32 → Int32 → mS → Option mS := fun n => Nat.rec (motive := fun _ => Int32 → Int32 → mS → Option mS) (fun _ _ _ => none) (fun _ rec v0 v1 S => if 77 ≤ v1 then (k38 v0 S) else (mGr 7 20 v0 S (fun r8 => mGr 7 20 v0 S (fun r9 => mX 8 r9 (v1 + 11) S (fun r10 => mXs r8 v1 r10 S (fun S11 => rec v0 (v1 + 1) S11)))))) n
theorem f_X7_notes_11_s (k38 : Int32 → mS → Option mS) (n : Nat) (v0 : Int32) (v1 : Int32) (S : mS) : f_X7_notes_11 k38 (n + 1) v0 v1 S = if 77 ≤ v1 then (k38 v0 S) else (mGr 7 20 v0 S (fun r8 => mGr 7 20 v0 S (fun r9 => mX 8 r9 (v1 + 11) S (fun r10 => mXs r8 v1 r10 S (fun S11 => (f_X7_notes_11 k38 n) v0 (v1 + 1) S11))))) := rfl
noncomputable def f_X7_notes_38 (v0 : Int32) (S : mS) : Option mS := mG 7 21 v0 S (fun r12 => mP 7 21 v0 (r12 - 1) S (fun S13 => (f_X7_notes_48) v0 S13))
noncomputable def f_X7_notes (v0 : Int32) (S : mS) : Option mS := mG 7 21 v0 S (fun r1 => if r1 = 8 then ((f_X7_notes_11 (f_X7_notes_38) 1000) v0 0 S) else ((f_X7_notes_48) v0 S))
def rm_X7_notes : Room := { frames := 1, cells := 0, slots := 0, locals := 23 }
set_option maxRecDepth 100000 in
set_option maxHeartbeats 4000000 in
theorem bl_X7_notes_48 {p : Program} {l : Launch} {e : Env} {s : State} {m : MethodId} {args : Array Value} {below : List Frame} {meth : Method} {c : Code} {E : mE} {n0 : Nat} {F : mS} (C : mCx p s m args meth c cX7_notes 2 RX7 none E n0) : ∀  (v0 : Int32) (S : mS) (H : Heap) (locs : List Loc) (ls : Array Slot), f_X7_notes_48 v0 S = some F → mIv s E S H locs 0 → lv_has ls 2 [(0, .ref (mA E.b v0))] → W p l e rm_X7_notes s m args below meth c H locs 0 0 (mQv below args s 0 0 n0 E F) (F0 m 48 ls []) := by
  have hx := C.1
  have hb := C.2.1
  intro v0 S H locs ls hF hI hl
  refine lv_aload_n hx hb dX7_notes_48 rfl (lv_at hl 0 rfl) ?_
  refine lv_aload_n hx hb dX7_notes_49 rfl (lv_at hl 0 rfl) ?_
  refine m_getR C fd_X7_44 hI hF dX7_notes_50 (fun r2 hF => ?_)
  refine lv_bipush (v := 11) hx hb dX7_notes_53 (by decide) ?_
  refine lv_aload_n hx hb dX7_notes_55 rfl (lv_at hl 0 rfl) ?_
  refine m_get C fd_X7_92 hI hF dX7_notes_56 (fun r3 hF => ?_)
  refine lv_imul hx hb dX7_notes_59 ?_
  refine m_callVv C cd_X7_216 ⟨rfl, by decide⟩ hl.1 hI hF (fun _ h => ok_X7_lays h) rfl rfl ⟨rfl, rfl, Nat.le_of_ble_eq_true rfl, Nat.le_of_ble_eq_true rfl⟩ ⟨Nat.le_of_ble_eq_true rfl, Nat.le_of_ble_eq_true rfl⟩ (Nat.le_of_ble_eq_true rfl) dX7_notes_60 (fun S5 H locs hF hI => ?_)
  refine lv_aload_n hx hb dX7_notes_63 rfl (lv_at hl 0 rfl) ?_
  refine lv_dup hx hb dX7_notes_64 rfl ?_
  refine m_get C fd_X7_92 hI hF dX7_notes_65 (fun r6 hF => ?_)
  refine lv_iconst (v := 1) hx hb dX7_notes_68 (by decide) ?_
  refine lv_iadd hx hb dX7_notes_69 ?_
  refine m_put C fd_X7_92 hI hF dX7_notes_70 (fun S7 H locs hF hI => ?_)
  exact m_vret C hI hF dX7_notes_73
set_option maxRecDepth 100000 in
set_option maxHeartbeats 4000000 in
theorem bl_X7_notes_11 {p : Program} {l : Launch} {e : Env} {s : State} {m : MethodId} {args : Array Value} {below : List Frame} {meth : Method} {c : Code} {E : mE} {n0 : Nat} {F : mS} (C : mCx p s m args meth c cX7_notes 2 RX7 none E n0) {k38 : Int32 → mS → Option mS} (hk38 : ∀ (v0 : Int32) (S : mS) (H : Heap) (locs : List Loc) (ls : Array Slot), k38 v0 S = some F → mIv s E S H locs 0 → lv_has ls 2 [(0, .ref (mA E.b v0))] → W p l e rm_X7_notes s m args below meth c H locs 0 0 (mQv below args s 0 0 n0 E F) (F0 m 38 ls [])) : ∀ (n : Nat)  (v0 : Int32) (v1 : Int32) (S : mS) (H : Heap) (locs : List Loc) (ls : Array Slot), f_X7_notes_11 k38 n v0 v1 S = some F → mIv s E S H locs 0 → lv_has ls 2 [(0, .ref (mA E.b v0)), (1, .int v1)] → W p l e rm_X7_notes s m args below meth c H locs 0 0 (mQv below args s 0 0 n0 E F) (F0 m 11 ls []) := by
  have hx := C.1
  have hb := C.2.1
  intro n
  induction n with
  | zero =>
    intro v0 v1 S H locs ls hF
    exact nomatch (show (none : Option mS) = some F from hF)
  | succ n ih =>
    intro v0 v1 S H locs ls hF hI hl
    have hF := (f_X7_notes_11_s k38 n v0 v1 S).symm.trans hF
    refine lv_iload_n hx hb dX7_notes_11 rfl (lv_at hl 1 rfl) ?_
    refine lv_bipush (v := 77) hx hb dX7_notes_12 (by decide) ?_
    refine m_icmp_ge C (tgt := 38) hF dX7_notes_14 (by decide) (fun hF => ?_) (fun hF => ?_)
    · exact hk38 v0 S _ _ _ hF hI (lv_sub hl [0] rfl)
    · refine lv_aload_n hx hb dX7_notes_17 rfl (lv_at hl 0 rfl) ?_
      refine m_getR C fd_X7_44 hI hF dX7_notes_18 (fun r8 hF => ?_)
      refine lv_iload_n hx hb dX7_notes_21 rfl (lv_at hl 1 rfl) ?_
      refine lv_aload_n hx hb dX7_notes_22 rfl (lv_at hl 0 rfl) ?_
      refine m_getR C fd_X7_44 hI hF dX7_notes_23 (fun r9 hF => ?_)
      refine lv_iload_n hx hb dX7_notes_26 rfl (lv_at hl 1 rfl) ?_
      refine lv_bipush (v := 11) hx hb dX7_notes_27 (by decide) ?_
      refine lv_iadd hx hb dX7_notes_29 ?_
      refine m_iald C hI hF dX7_notes_30 (fun r10 hF => ?_)
      refine m_iast C hI hF dX7_notes_31 (fun S11 H locs hF hI => ?_)
      refine lv_iinc (v := v1 + 1) (lv' := [(1, .int (v1 + 1)), (0, .ref (mA E.b v0))]) hx hb dX7_notes_32 hl (k := 1) rfl rfl (by decide) rfl (fun ls hl => ?_)
      refine lv_goto (tgt := 11) hx hb dX7_notes_35 (by decide) ?_
      exact ih v0 (v1 + 1) S11 _ _ _ hF hI (lv_sub hl [1, 0] rfl)
set_option maxRecDepth 100000 in
set_option maxHeartbeats 4000000 in
theorem bl_X7_notes_38 {p : Program} {l : Launch} {e : Env} {s : State} {m : MethodId} {args : Array Value} {below : List Frame} {meth : Method} {c : Code} {E : mE} {n0 : Nat} {F : mS} (C : mCx p s m args meth c cX7_notes 2 RX7 none E n0) : ∀  (v0 : Int32) (S : mS) (H : Heap) (locs : List Loc) (ls : Array Slot), f_X7_notes_38 v0 S = some F → mIv s E S H locs 0 → lv_has ls 2 [(0, .ref (mA E.b v0))] → W p l e rm_X7_notes s m args below meth c H locs 0 0 (mQv below args s 0 0 n0 E F) (F0 m 38 ls []) := by
  have hx := C.1
  have hb := C.2.1
  intro v0 S H locs ls hF hI hl
  refine lv_aload_n hx hb dX7_notes_38 rfl (lv_at hl 0 rfl) ?_
  refine lv_dup hx hb dX7_notes_39 rfl ?_
  refine m_get C fd_X7_92 hI hF dX7_notes_40 (fun r12 hF => ?_)
  refine lv_iconst (v := 1) hx hb dX7_notes_43 (by decide) ?_
  refine lv_isub hx hb dX7_notes_44 ?_
  refine m_put C fd_X7_92 hI hF dX7_notes_45 (fun S13 H locs hF hI => ?_)
  exact (bl_X7_notes_48 C) v0 S13 _ _ _ hF hI (lv_sub hl [0] rfl)
set_option maxRecDepth 100000 in
set_option maxHeartbeats 4000000 in
theorem ok_X7_notes {l : Launch} {E : mE} {v0 : Int32} {S : mS} {F : mS} (hF : f_X7_notes v0 S = some F) : mMv l yX7_notes cX7_notes 2 none rm_X7_notes 0 0 [.ref (mA E.b v0)] E S F := by
  refine m_met_v (by decide) (Nat.le_of_ble_eq_true rfl) (fun p e s m args below meth c ls hin C hI hl => ?_)
  have hx := C.1
  have hb := C.2.1
  have hl : lv_has ls 2 [(0, .ref (mA E.b v0))] := hl
  generalize s.heap = H at hI ⊢
  generalize ([] : List Loc) = locs at hI ⊢
  refine lv_aload_n hx hb dX7_notes_0 rfl (lv_at hl 0 rfl) ?_
  refine m_get C fd_X7_92 hI hF dX7_notes_1 (fun r1 hF => ?_)
  refine lv_bipush (v := 8) hx hb dX7_notes_4 (by decide) ?_
  refine m_icmp_ne C (tgt := 48) hF dX7_notes_6 (by decide) (fun hF => ?_) (fun hF => ?_)
  · exact (bl_X7_notes_48 C) v0 S _ _ _ hF hI (lv_sub hl [0] rfl)
  · refine lv_iconst (v := 0) hx hb dX7_notes_9 (by decide) ?_
    refine lv_istore_n (lv' := [(1, .int 0), (0, .ref (mA E.b v0))]) hx hb dX7_notes_10 rfl hl (by decide) rfl (fun ls hl => ?_)
    exact (bl_X7_notes_11 C (k38 := (f_X7_notes_38)) (bl_X7_notes_38 C) 1000) v0 0 S _ _ _ hF hI (lv_sub hl [1, 0] rfl)
noncomputable def f_X7_calls_15 (v0 : Int32) (S : mS) : Option (Int32 × mS) := mRc 7 v0 S (mC (f_X7_bad v0 S) (fun r2 S3 => some (r2, S3)))
noncomputable def f_X7_calls (v0 : Int32) (v1 : Int32) (v2 : Int32) (S : mS) : Option (Int32 × mS) := mRc 7 v0 S (mCp (f_X7_isWhistle v0 v1 S) (fun r1 => if r1 = 0 then ((f_X7_calls_15) v0 S) else (mCp (f_X7_isCall v2) (fun r4 => if r4 = 0 then ((f_X7_calls_15) v0 S) else (mG 7 4 v0 S (fun r5 => if r5 = 9999 then (mRc 7 v0 S (mC (f_X7_no v0 S) (fun r10 S11 => some (r10, S11)))) else (mRc 7 v0 S (mCv (f_X7_notes v0 S) (fun S7 => mRc 7 v0 S7 (mC (f_X7_comes v0 v1 v2 S7) (fun r8 S9 => some (r8, S9))))))))))))
def rm_X7_calls : Room := { frames := 4, cells := 0, slots := 0, locals := 98 }
set_option maxRecDepth 100000 in
set_option maxHeartbeats 4000000 in
theorem bl_X7_calls_15 {p : Program} {l : Launch} {e : Env} {s : State} {m : MethodId} {args : Array Value} {below : List Frame} {meth : Method} {c : Code} {E : mE} {n0 : Nat} {F : Int32 × mS} (C : mCx p s m args meth c cX7_calls 3 RX7 (some .int) E n0) : ∀  (v0 : Int32) (S : mS) (H : Heap) (locs : List Loc) (ls : Array Slot), f_X7_calls_15 v0 S = some F → mIv s E S H locs 0 → lv_has ls 3 [(0, .ref (mA E.b v0))] → W p l e rm_X7_calls s m args below meth c H locs 0 0 (mQi below args s 0 0 n0 E F) (F0 m 15 ls []) := by
  have hx := C.1
  have hb := C.2.1
  intro v0 S H locs ls hF hI hl
  refine lv_aload_n hx hb dX7_calls_15 rfl (lv_at hl 0 rfl) ?_
  refine m_callVi C cd_X7_103 ⟨rfl, by decide⟩ hl.1 hI hF (fun _ h => ok_X7_bad h) rfl rfl ⟨rfl, rfl, Nat.le_of_ble_eq_true rfl, Nat.le_of_ble_eq_true rfl⟩ ⟨Nat.le_of_ble_eq_true rfl, Nat.le_of_ble_eq_true rfl⟩ (Nat.le_of_ble_eq_true rfl) dX7_calls_16 (fun r2 S3 H locs hF hI => ?_)
  exact m_ireti C hI hF dX7_calls_19
set_option maxRecDepth 100000 in
set_option maxHeartbeats 4000000 in
theorem ok_X7_calls {l : Launch} {E : mE} {v0 : Int32} {v1 : Int32} {v2 : Int32} {S : mS} {F : Int32 × mS} (hF : f_X7_calls v0 v1 v2 S = some F) : mMi l yX7_calls cX7_calls 3 (some .int) rm_X7_calls 0 0 [.ref (mA E.b v0), .int v1, .int v2] E S F := by
  refine m_met_i (by decide) (Nat.le_of_ble_eq_true rfl) (fun p e s m args below meth c ls hin C hI hl => ?_)
  have hx := C.1
  have hb := C.2.1
  have hl : lv_has ls 3 [(0, .ref (mA E.b v0)), (1, .int v1), (2, .int v2)] := hl
  generalize s.heap = H at hI ⊢
  generalize ([] : List Loc) = locs at hI ⊢
  refine lv_aload_n hx hb dX7_calls_0 rfl (lv_at hl 0 rfl) ?_
  refine lv_iload_n hx hb dX7_calls_1 rfl (lv_at hl 1 rfl) ?_
  refine m_callViR C cd_X7_219 ⟨rfl, by decide⟩ hl.1 hI hF (fun _ h => ok_X7_isWhistle h) rfl rfl ⟨rfl, rfl, Nat.le_of_ble_eq_true rfl, Nat.le_of_ble_eq_true rfl⟩ ⟨Nat.le_of_ble_eq_true rfl, Nat.le_of_ble_eq_true rfl⟩ (Nat.le_of_ble_eq_true rfl) dX7_calls_2 (fun r1 H locs hF hI => ?_)
  refine m_if_eq C (tgt := 15) hF dX7_calls_5 (by decide) (fun hF => ?_) (fun hF => ?_)
  · exact (bl_X7_calls_15 C) v0 S _ _ _ hF hI (lv_sub hl [0] rfl)
  · refine lv_iload_n hx hb dX7_calls_8 rfl (lv_at hl 2 rfl) ?_
    refine m_callSiR C cd_X7_222 hl.1 hI hF (fun _ h => ok_X7_isCall h) rfl rfl ⟨rfl, rfl, Nat.le_of_ble_eq_true rfl, Nat.le_of_ble_eq_true rfl⟩ ⟨Nat.le_of_ble_eq_true rfl, Nat.le_of_ble_eq_true rfl⟩ (Nat.le_of_ble_eq_true rfl) dX7_calls_9 (fun r4 H locs hF hI => ?_)
    refine m_if_ne C (tgt := 20) hF dX7_calls_12 (by decide) (fun hF => ?_) (fun hF => ?_)
    · refine lv_aload_n hx hb dX7_calls_20 rfl (lv_at hl 0 rfl) ?_
      refine m_get C fd_X7_80 hI hF dX7_calls_21 (fun r5 hF => ?_)
      refine lv_sipush (v := 9999) hx hb dX7_calls_24 (by decide) ?_
      refine m_icmp_ne C (tgt := 35) hF dX7_calls_27 (by decide) (fun hF => ?_) (fun hF => ?_)
      · refine lv_aload_n hx hb dX7_calls_35 rfl (lv_at hl 0 rfl) ?_
        refine m_callVv C cd_X7_225 ⟨rfl, by decide⟩ hl.1 hI hF (fun _ h => ok_X7_notes h) rfl rfl ⟨rfl, rfl, Nat.le_of_ble_eq_true rfl, Nat.le_of_ble_eq_true rfl⟩ ⟨Nat.le_of_ble_eq_true rfl, Nat.le_of_ble_eq_true rfl⟩ (Nat.le_of_ble_eq_true rfl) dX7_calls_36 (fun S7 H locs hF hI => ?_)
        refine lv_aload_n hx hb dX7_calls_39 rfl (lv_at hl 0 rfl) ?_
        refine lv_iload_n hx hb dX7_calls_40 rfl (lv_at hl 1 rfl) ?_
        refine lv_iload_n hx hb dX7_calls_41 rfl (lv_at hl 2 rfl) ?_
        refine m_callVi C cd_X7_155 ⟨rfl, by decide⟩ hl.1 hI hF (fun _ h => ok_X7_comes h) rfl rfl ⟨rfl, rfl, Nat.le_of_ble_eq_true rfl, Nat.le_of_ble_eq_true rfl⟩ ⟨Nat.le_of_ble_eq_true rfl, Nat.le_of_ble_eq_true rfl⟩ (Nat.le_of_ble_eq_true rfl) dX7_calls_42 (fun r8 S9 H locs hF hI => ?_)
        exact m_ireti C hI hF dX7_calls_45
      · refine lv_aload_n hx hb dX7_calls_30 rfl (lv_at hl 0 rfl) ?_
        refine m_callVi C cd_X7_116 ⟨rfl, by decide⟩ hl.1 hI hF (fun _ h => ok_X7_no h) rfl rfl ⟨rfl, rfl, Nat.le_of_ble_eq_true rfl, Nat.le_of_ble_eq_true rfl⟩ ⟨Nat.le_of_ble_eq_true rfl, Nat.le_of_ble_eq_true rfl⟩ (Nat.le_of_ble_eq_true rfl) dX7_calls_31 (fun r10 S11 H locs hF hI => ?_)
        exact m_ireti C hI hF dX7_calls_34
    · exact (bl_X7_calls_15 C) v0 S _ _ _ hF hI (lv_sub hl [0] rfl)
noncomputable def f_X7_steps (v0 : Int32) (v1 : Int32) (S : mS) : Option (Int32 × mS) := mCp (f_X7_in v1 1 99) (fun r1 => if r1 = 0 then (mRc 7 v0 S (mC (f_X7_bad v0 S) (fun r8 S9 => some (r8, S9)))) else (mRc 7 v0 S (mCv (f_X7_notes v0 S) (fun S3 => mG 7 4 v0 S3 (fun r4 => mCp (f_X7_lesser 9999 (r4 + v1)) (fun r5 => mP 7 4 v0 r5 S3 (fun S6 => mG 7 4 v0 S6 (fun r7 => some (r7, S6)))))))))
def rm_X7_steps : Room := { frames := 2, cells := 0, slots := 0, locals := 44 }
set_option maxRecDepth 100000 in
set_option maxHeartbeats 4000000 in
theorem ok_X7_steps {l : Launch} {E : mE} {v0 : Int32} {v1 : Int32} {S : mS} {F : Int32 × mS} (hF : f_X7_steps v0 v1 S = some F) : mMi l yX7_steps cX7_steps 2 (some .int) rm_X7_steps 0 0 [.ref (mA E.b v0), .int v1] E S F := by
  refine m_met_i (by decide) (Nat.le_of_ble_eq_true rfl) (fun p e s m args below meth c ls hin C hI hl => ?_)
  have hx := C.1
  have hb := C.2.1
  have hl : lv_has ls 2 [(0, .ref (mA E.b v0)), (1, .int v1)] := hl
  generalize s.heap = H at hI ⊢
  generalize ([] : List Loc) = locs at hI ⊢
  refine lv_iload_n hx hb dX7_steps_0 rfl (lv_at hl 1 rfl) ?_
  refine lv_iconst (v := 1) hx hb dX7_steps_1 (by decide) ?_
  refine lv_bipush (v := 99) hx hb dX7_steps_2 (by decide) ?_
  refine m_callSiR C cd_X7_95 hl.1 hI hF (fun _ h => ok_X7_in h) rfl rfl ⟨rfl, rfl, Nat.le_of_ble_eq_true rfl, Nat.le_of_ble_eq_true rfl⟩ ⟨Nat.le_of_ble_eq_true rfl, Nat.le_of_ble_eq_true rfl⟩ (Nat.le_of_ble_eq_true rfl) dX7_steps_4 (fun r1 H locs hF hI => ?_)
  refine m_if_ne C (tgt := 15) hF dX7_steps_7 (by decide) (fun hF => ?_) (fun hF => ?_)
  · refine lv_aload_n hx hb dX7_steps_15 rfl (lv_at hl 0 rfl) ?_
    refine m_callVv C cd_X7_225 ⟨rfl, by decide⟩ hl.1 hI hF (fun _ h => ok_X7_notes h) rfl rfl ⟨rfl, rfl, Nat.le_of_ble_eq_true rfl, Nat.le_of_ble_eq_true rfl⟩ ⟨Nat.le_of_ble_eq_true rfl, Nat.le_of_ble_eq_true rfl⟩ (Nat.le_of_ble_eq_true rfl) dX7_steps_16 (fun S3 H locs hF hI => ?_)
    refine lv_aload_n hx hb dX7_steps_19 rfl (lv_at hl 0 rfl) ?_
    refine lv_sipush (v := 9999) hx hb dX7_steps_20 (by decide) ?_
    refine lv_aload_n hx hb dX7_steps_23 rfl (lv_at hl 0 rfl) ?_
    refine m_get C fd_X7_80 hI hF dX7_steps_24 (fun r4 hF => ?_)
    refine lv_iload_n hx hb dX7_steps_27 rfl (lv_at hl 1 rfl) ?_
    refine lv_iadd hx hb dX7_steps_28 ?_
    refine m_callSiR C cd_X7_158 hl.1 hI hF (fun _ h => ok_X7_lesser h) rfl rfl ⟨rfl, rfl, Nat.le_of_ble_eq_true rfl, Nat.le_of_ble_eq_true rfl⟩ ⟨Nat.le_of_ble_eq_true rfl, Nat.le_of_ble_eq_true rfl⟩ (Nat.le_of_ble_eq_true rfl) dX7_steps_29 (fun r5 H locs hF hI => ?_)
    refine m_put C fd_X7_80 hI hF dX7_steps_32 (fun S6 H locs hF hI => ?_)
    refine lv_aload_n hx hb dX7_steps_35 rfl (lv_at hl 0 rfl) ?_
    refine m_get C fd_X7_80 hI hF dX7_steps_36 (fun r7 hF => ?_)
    exact m_ireti C hI hF dX7_steps_39
  · refine lv_aload_n hx hb dX7_steps_10 rfl (lv_at hl 0 rfl) ?_
    refine m_callVi C cd_X7_103 ⟨rfl, by decide⟩ hl.1 hI hF (fun _ h => ok_X7_bad h) rfl rfl ⟨rfl, rfl, Nat.le_of_ble_eq_true rfl, Nat.le_of_ble_eq_true rfl⟩ ⟨Nat.le_of_ble_eq_true rfl, Nat.le_of_ble_eq_true rfl⟩ (Nat.le_of_ble_eq_true rfl) dX7_steps_11 (fun r8 S9 H locs hF hI => ?_)
    exact m_ireti C hI hF dX7_steps_14
noncomputable def f_X7_undo (v0 : Int32) (S : mS) : Option (Int32 × mS) := mG 7 21 v0 S (fun r1 => if r1 = 0 then (mRc 7 v0 S (mC (f_X7_no v0 S) (fun r9 S10 => some (r9, S10)))) else (mG 7 21 v0 S (fun r2 => mP 7 21 v0 (r2 - 1) S (fun S3 => mGr 7 20 v0 S3 (fun r4 => mG 7 21 v0 S3 (fun r5 => mRc 7 v0 S3 (mCv (f_X7_takes v0 r4 (11 * r5) S3) (fun S7 => mG 7 4 v0 S7 (fun r8 => some (r8, S7))))))))))
def rm_X7_undo : Room := { frames := 1, cells := 0, slots := 0, locals := 23 }
set_option maxRecDepth 100000 in
set_option maxHeartbeats 4000000 in
theorem ok_X7_undo {l : Launch} {E : mE} {v0 : Int32} {S : mS} {F : Int32 × mS} (hF : f_X7_undo v0 S = some F) : mMi l yX7_undo cX7_undo 1 (some .int) rm_X7_undo 0 0 [.ref (mA E.b v0)] E S F := by
  refine m_met_i (by decide) (Nat.le_of_ble_eq_true rfl) (fun p e s m args below meth c ls hin C hI hl => ?_)
  have hx := C.1
  have hb := C.2.1
  have hl : lv_has ls 1 [(0, .ref (mA E.b v0))] := hl
  generalize s.heap = H at hI ⊢
  generalize ([] : List Loc) = locs at hI ⊢
  refine lv_aload_n hx hb dX7_undo_0 rfl (lv_at hl 0 rfl) ?_
  refine m_get C fd_X7_92 hI hF dX7_undo_1 (fun r1 hF => ?_)
  refine m_if_ne C (tgt := 12) hF dX7_undo_4 (by decide) (fun hF => ?_) (fun hF => ?_)
  · refine lv_aload_n hx hb dX7_undo_12 rfl (lv_at hl 0 rfl) ?_
    refine lv_dup hx hb dX7_undo_13 rfl ?_
    refine m_get C fd_X7_92 hI hF dX7_undo_14 (fun r2 hF => ?_)
    refine lv_iconst (v := 1) hx hb dX7_undo_17 (by decide) ?_
    refine lv_isub hx hb dX7_undo_18 ?_
    refine m_put C fd_X7_92 hI hF dX7_undo_19 (fun S3 H locs hF hI => ?_)
    refine lv_aload_n hx hb dX7_undo_22 rfl (lv_at hl 0 rfl) ?_
    refine lv_aload_n hx hb dX7_undo_23 rfl (lv_at hl 0 rfl) ?_
    refine m_getR C fd_X7_44 hI hF dX7_undo_24 (fun r4 hF => ?_)
    refine lv_bipush (v := 11) hx hb dX7_undo_27 (by decide) ?_
    refine lv_aload_n hx hb dX7_undo_29 rfl (lv_at hl 0 rfl) ?_
    refine m_get C fd_X7_92 hI hF dX7_undo_30 (fun r5 hF => ?_)
    refine lv_imul hx hb dX7_undo_33 ?_
    refine m_callVv C cd_X7_228 ⟨rfl, by decide⟩ hl.1 hI hF (fun _ h => ok_X7_takes h) rfl rfl ⟨rfl, rfl, Nat.le_of_ble_eq_true rfl, Nat.le_of_ble_eq_true rfl⟩ ⟨Nat.le_of_ble_eq_true rfl, Nat.le_of_ble_eq_true rfl⟩ (Nat.le_of_ble_eq_true rfl) dX7_undo_34 (fun S7 H locs hF hI => ?_)
    refine lv_aload_n hx hb dX7_undo_37 rfl (lv_at hl 0 rfl) ?_
    refine m_get C fd_X7_80 hI hF dX7_undo_38 (fun r8 hF => ?_)
    exact m_ireti C hI hF dX7_undo_41
  · refine lv_aload_n hx hb dX7_undo_7 rfl (lv_at hl 0 rfl) ?_
    refine m_callVi C cd_X7_116 ⟨rfl, by decide⟩ hl.1 hI hF (fun _ h => ok_X7_no h) rfl rfl ⟨rfl, rfl, Nat.le_of_ble_eq_true rfl, Nat.le_of_ble_eq_true rfl⟩ ⟨Nat.le_of_ble_eq_true rfl, Nat.le_of_ble_eq_true rfl⟩ (Nat.le_of_ble_eq_true rfl) dX7_undo_8 (fun r9 S10 H locs hF hI => ?_)
    exact m_ireti C hI hF dX7_undo_11
noncomputable def f_X7_of_17 (v0 : Int32) (S : mS) : Option (Int32 × mS) := mRc 7 v0 S (mC (f_X7_bad v0 S) (fun r2 S3 => some (r2, S3)))
noncomputable def f_X7_of_62 (t0 : Int32) (S : mS) : Option (Int32 × mS) := some (t0, S)
noncomputable def f_X7_of (v0 : Int32) (v1 : Int32) (v2 : Int32) (S : mS) : Option (Int32 × mS) := mRc 7 v0 S (mCp (f_X7_isWhistle v0 v1 S) (fun r1 => if r1 = 0 then ((f_X7_of_17) v0 S) else (mCp (f_X7_in v2 0 2) (fun r4 => if r4 = 0 then ((f_X7_of_17) v0 S) else (if v2 = 0 then (mGr 7 8 v0 S (fun r11 => mX 8 r11 v1 S (fun r12 => (f_X7_of_62) r12 S))) else (if v2 = 1 then (mGr 7 9 v0 S (fun r9 => mX 8 r9 v1 S (fun r10 => (f_X7_of_62) r10 S))) else (mGr 7 8 v0 S (fun r5 => mX 8 r5 v1 S (fun r6 => mG 7 4 v0 S (fun r7 => mCp (f_X7_goesBy r6 r7) (fun r8 => (f_X7_of_62) r8 S)))))))))))
def rm_X7_of : Room := { frames := 2, cells := 0, slots := 0, locals := 43 }
set_option maxRecDepth 100000 in
set_option maxHeartbeats 4000000 in
theorem bl_X7_of_17 {p : Program} {l : Launch} {e : Env} {s : State} {m : MethodId} {args : Array Value} {below : List Frame} {meth : Method} {c : Code} {E : mE} {n0 : Nat} {F : Int32 × mS} (C : mCx p s m args meth c cX7_of 3 RX7 (some .int) E n0) : ∀  (v0 : Int32) (S : mS) (H : Heap) (locs : List Loc) (ls : Array Slot), f_X7_of_17 v0 S = some F → mIv s E S H locs 0 → lv_has ls 3 [(0, .ref (mA E.b v0))] → W p l e rm_X7_of s m args below meth c H locs 0 0 (mQi below args s 0 0 n0 E F) (F0 m 17 ls []) := by
  have hx := C.1
  have hb := C.2.1
  intro v0 S H locs ls hF hI hl
  refine lv_aload_n hx hb dX7_of_17 rfl (lv_at hl 0 rfl) ?_
  refine m_callVi C cd_X7_103 ⟨rfl, by decide⟩ hl.1 hI hF (fun _ h => ok_X7_bad h) rfl rfl ⟨rfl, rfl, Nat.le_of_ble_eq_true rfl, Nat.le_of_ble_eq_true rfl⟩ ⟨Nat.le_of_ble_eq_true rfl, Nat.le_of_ble_eq_true rfl⟩ (Nat.le_of_ble_eq_true rfl) dX7_of_18 (fun r2 S3 H locs hF hI => ?_)
  exact m_ireti C hI hF dX7_of_21
set_option maxRecDepth 100000 in
set_option maxHeartbeats 4000000 in
theorem bl_X7_of_62 {p : Program} {l : Launch} {e : Env} {s : State} {m : MethodId} {args : Array Value} {below : List Frame} {meth : Method} {c : Code} {E : mE} {n0 : Nat} {F : Int32 × mS} (C : mCx p s m args meth c cX7_of 3 RX7 (some .int) E n0) : ∀  (t0 : Int32) (S : mS) (H : Heap) (locs : List Loc) (ls : Array Slot), f_X7_of_62 t0 S = some F → mIv s E S H locs 0 → lv_has ls 3 [] → W p l e rm_X7_of s m args below meth c H locs 0 0 (mQi below args s 0 0 n0 E F) (F0 m 62 ls [.int t0]) := by
  have hx := C.1
  have hb := C.2.1
  intro t0 S H locs ls hF hI hl
  exact m_ireti C hI hF dX7_of_62
set_option maxRecDepth 100000 in
set_option maxHeartbeats 4000000 in
theorem ok_X7_of {l : Launch} {E : mE} {v0 : Int32} {v1 : Int32} {v2 : Int32} {S : mS} {F : Int32 × mS} (hF : f_X7_of v0 v1 v2 S = some F) : mMi l yX7_of cX7_of 3 (some .int) rm_X7_of 0 0 [.ref (mA E.b v0), .int v1, .int v2] E S F := by
  refine m_met_i (by decide) (Nat.le_of_ble_eq_true rfl) (fun p e s m args below meth c ls hin C hI hl => ?_)
  have hx := C.1
  have hb := C.2.1
  have hl : lv_has ls 3 [(0, .ref (mA E.b v0)), (1, .int v1), (2, .int v2)] := hl
  generalize s.heap = H at hI ⊢
  generalize ([] : List Loc) = locs at hI ⊢
  refine lv_aload_n hx hb dX7_of_0 rfl (lv_at hl 0 rfl) ?_
  refine lv_iload_n hx hb dX7_of_1 rfl (lv_at hl 1 rfl) ?_
  refine m_callViR C cd_X7_219 ⟨rfl, by decide⟩ hl.1 hI hF (fun _ h => ok_X7_isWhistle h) rfl rfl ⟨rfl, rfl, Nat.le_of_ble_eq_true rfl, Nat.le_of_ble_eq_true rfl⟩ ⟨Nat.le_of_ble_eq_true rfl, Nat.le_of_ble_eq_true rfl⟩ (Nat.le_of_ble_eq_true rfl) dX7_of_2 (fun r1 H locs hF hI => ?_)
  refine m_if_eq C (tgt := 17) hF dX7_of_5 (by decide) (fun hF => ?_) (fun hF => ?_)
  · exact (bl_X7_of_17 C) v0 S _ _ _ hF hI (lv_sub hl [0] rfl)
  · refine lv_iload_n hx hb dX7_of_8 rfl (lv_at hl 2 rfl) ?_
    refine lv_iconst (v := 0) hx hb dX7_of_9 (by decide) ?_
    refine lv_iconst (v := 2) hx hb dX7_of_10 (by decide) ?_
    refine m_callSiR C cd_X7_95 hl.1 hI hF (fun _ h => ok_X7_in h) rfl rfl ⟨rfl, rfl, Nat.le_of_ble_eq_true rfl, Nat.le_of_ble_eq_true rfl⟩ ⟨Nat.le_of_ble_eq_true rfl, Nat.le_of_ble_eq_true rfl⟩ (Nat.le_of_ble_eq_true rfl) dX7_of_11 (fun r4 H locs hF hI => ?_)
    refine m_if_ne C (tgt := 22) hF dX7_of_14 (by decide) (fun hF => ?_) (fun hF => ?_)
    · refine lv_iload_n hx hb dX7_of_22 rfl (lv_at hl 2 rfl) ?_
      refine m_if_ne C (tgt := 35) hF dX7_of_23 (by decide) (fun hF => ?_) (fun hF => ?_)
      · refine lv_iload_n hx hb dX7_of_35 rfl (lv_at hl 2 rfl) ?_
        refine lv_iconst (v := 1) hx hb dX7_of_36 (by decide) ?_
        refine m_icmp_ne C (tgt := 49) hF dX7_of_37 (by decide) (fun hF => ?_) (fun hF => ?_)
        · refine lv_aload_n hx hb dX7_of_49 rfl (lv_at hl 0 rfl) ?_
          refine m_getR C fd_X7_17 hI hF dX7_of_50 (fun r5 hF => ?_)
          refine lv_iload_n hx hb dX7_of_53 rfl (lv_at hl 1 rfl) ?_
          refine m_iald C hI hF dX7_of_54 (fun r6 hF => ?_)
          refine lv_aload_n hx hb dX7_of_55 rfl (lv_at hl 0 rfl) ?_
          refine m_get C fd_X7_80 hI hF dX7_of_56 (fun r7 hF => ?_)
          refine m_callSiR C cd_X7_196 hl.1 hI hF (fun _ h => ok_X7_goesBy h) rfl rfl ⟨rfl, rfl, Nat.le_of_ble_eq_true rfl, Nat.le_of_ble_eq_true rfl⟩ ⟨Nat.le_of_ble_eq_true rfl, Nat.le_of_ble_eq_true rfl⟩ (Nat.le_of_ble_eq_true rfl) dX7_of_59 (fun r8 H locs hF hI => ?_)
          exact (bl_X7_of_62 C) r8 S _ _ _ hF hI (lv_sub hl [] rfl)
        · refine lv_aload_n hx hb dX7_of_40 rfl (lv_at hl 0 rfl) ?_
          refine m_getR C fd_X7_20 hI hF dX7_of_41 (fun r9 hF => ?_)
          refine lv_iload_n hx hb dX7_of_44 rfl (lv_at hl 1 rfl) ?_
          refine m_iald C hI hF dX7_of_45 (fun r10 hF => ?_)
          refine lv_goto (tgt := 62) hx hb dX7_of_46 (by decide) ?_
          exact (bl_X7_of_62 C) r10 S _ _ _ hF hI (lv_sub hl [] rfl)
      · refine lv_aload_n hx hb dX7_of_26 rfl (lv_at hl 0 rfl) ?_
        refine m_getR C fd_X7_17 hI hF dX7_of_27 (fun r11 hF => ?_)
        refine lv_iload_n hx hb dX7_of_30 rfl (lv_at hl 1 rfl) ?_
        refine m_iald C hI hF dX7_of_31 (fun r12 hF => ?_)
        refine lv_goto (tgt := 62) hx hb dX7_of_32 (by decide) ?_
        exact (bl_X7_of_62 C) r12 S _ _ _ hF hI (lv_sub hl [] rfl)
    · exact (bl_X7_of_17 C) v0 S _ _ _ hF hI (lv_sub hl [0] rfl)
noncomputable def f_X7_about_17 (v0 : Int32) (S : mS) : Option (Int32 × mS) := mRc 7 v0 S (mC (f_X7_bad v0 S) (fun r2 S3 => some (r2, S3)))
noncomputable def f_X7_about_62 (t0 : Int32) (S : mS) : Option (Int32 × mS) := some (t0, S)
noncomputable def f_X7_about (v0 : Int32) (v1 : Int32) (v2 : Int32) (S : mS) : Option (Int32 × mS) := mRc 7 v0 S (mCp (f_X7_isSheep v0 v1 S) (fun r1 => if r1 = 0 then ((f_X7_about_17) v0 S) else (mCp (f_X7_in v2 0 2) (fun r4 => if r4 = 0 then ((f_X7_about_17) v0 S) else (if v2 = 0 then (mGr 7 10 v0 S (fun r11 => mX 8 r11 v1 S (fun r12 => (f_X7_about_62) r12 S))) else (if v2 = 1 then (mGr 7 11 v0 S (fun r9 => mX 8 r9 v1 S (fun r10 => (f_X7_about_62) r10 S))) else (mGr 7 11 v0 S (fun r5 => mX 8 r5 v1 S (fun r6 => mG 7 3 v0 S (fun r7 => mCp (f_X7_far r6 r7) (fun r8 => (f_X7_about_62) r8 S)))))))))))
def rm_X7_about : Room := { frames := 2, cells := 0, slots := 0, locals := 43 }
set_option maxRecDepth 100000 in
set_option maxHeartbeats 4000000 in
theorem bl_X7_about_17 {p : Program} {l : Launch} {e : Env} {s : State} {m : MethodId} {args : Array Value} {below : List Frame} {meth : Method} {c : Code} {E : mE} {n0 : Nat} {F : Int32 × mS} (C : mCx p s m args meth c cX7_about 3 RX7 (some .int) E n0) : ∀  (v0 : Int32) (S : mS) (H : Heap) (locs : List Loc) (ls : Array Slot), f_X7_about_17 v0 S = some F → mIv s E S H locs 0 → lv_has ls 3 [(0, .ref (mA E.b v0))] → W p l e rm_X7_about s m args below meth c H locs 0 0 (mQi below args s 0 0 n0 E F) (F0 m 17 ls []) := by
  have hx := C.1
  have hb := C.2.1
  intro v0 S H locs ls hF hI hl
  refine lv_aload_n hx hb dX7_about_17 rfl (lv_at hl 0 rfl) ?_
  refine m_callVi C cd_X7_103 ⟨rfl, by decide⟩ hl.1 hI hF (fun _ h => ok_X7_bad h) rfl rfl ⟨rfl, rfl, Nat.le_of_ble_eq_true rfl, Nat.le_of_ble_eq_true rfl⟩ ⟨Nat.le_of_ble_eq_true rfl, Nat.le_of_ble_eq_true rfl⟩ (Nat.le_of_ble_eq_true rfl) dX7_about_18 (fun r2 S3 H locs hF hI => ?_)
  exact m_ireti C hI hF dX7_about_21
set_option maxRecDepth 100000 in
set_option maxHeartbeats 4000000 in
theorem bl_X7_about_62 {p : Program} {l : Launch} {e : Env} {s : State} {m : MethodId} {args : Array Value} {below : List Frame} {meth : Method} {c : Code} {E : mE} {n0 : Nat} {F : Int32 × mS} (C : mCx p s m args meth c cX7_about 3 RX7 (some .int) E n0) : ∀  (t0 : Int32) (S : mS) (H : Heap) (locs : List Loc) (ls : Array Slot), f_X7_about_62 t0 S = some F → mIv s E S H locs 0 → lv_has ls 3 [] → W p l e rm_X7_about s m args below meth c H locs 0 0 (mQi below args s 0 0 n0 E F) (F0 m 62 ls [.int t0]) := by
  have hx := C.1
  have hb := C.2.1
  intro t0 S H locs ls hF hI hl
  exact m_ireti C hI hF dX7_about_62
set_option maxRecDepth 100000 in
set_option maxHeartbeats 4000000 in
theorem ok_X7_about {l : Launch} {E : mE} {v0 : Int32} {v1 : Int32} {v2 : Int32} {S : mS} {F : Int32 × mS} (hF : f_X7_about v0 v1 v2 S = some F) : mMi l yX7_about cX7_about 3 (some .int) rm_X7_about 0 0 [.ref (mA E.b v0), .int v1, .int v2] E S F := by
  refine m_met_i (by decide) (Nat.le_of_ble_eq_true rfl) (fun p e s m args below meth c ls hin C hI hl => ?_)
  have hx := C.1
  have hb := C.2.1
  have hl : lv_has ls 3 [(0, .ref (mA E.b v0)), (1, .int v1), (2, .int v2)] := hl
  generalize s.heap = H at hI ⊢
  generalize ([] : List Loc) = locs at hI ⊢
  refine lv_aload_n hx hb dX7_about_0 rfl (lv_at hl 0 rfl) ?_
  refine lv_iload_n hx hb dX7_about_1 rfl (lv_at hl 1 rfl) ?_
  refine m_callViR C cd_X7_231 ⟨rfl, by decide⟩ hl.1 hI hF (fun _ h => ok_X7_isSheep h) rfl rfl ⟨rfl, rfl, Nat.le_of_ble_eq_true rfl, Nat.le_of_ble_eq_true rfl⟩ ⟨Nat.le_of_ble_eq_true rfl, Nat.le_of_ble_eq_true rfl⟩ (Nat.le_of_ble_eq_true rfl) dX7_about_2 (fun r1 H locs hF hI => ?_)
  refine m_if_eq C (tgt := 17) hF dX7_about_5 (by decide) (fun hF => ?_) (fun hF => ?_)
  · exact (bl_X7_about_17 C) v0 S _ _ _ hF hI (lv_sub hl [0] rfl)
  · refine lv_iload_n hx hb dX7_about_8 rfl (lv_at hl 2 rfl) ?_
    refine lv_iconst (v := 0) hx hb dX7_about_9 (by decide) ?_
    refine lv_iconst (v := 2) hx hb dX7_about_10 (by decide) ?_
    refine m_callSiR C cd_X7_95 hl.1 hI hF (fun _ h => ok_X7_in h) rfl rfl ⟨rfl, rfl, Nat.le_of_ble_eq_true rfl, Nat.le_of_ble_eq_true rfl⟩ ⟨Nat.le_of_ble_eq_true rfl, Nat.le_of_ble_eq_true rfl⟩ (Nat.le_of_ble_eq_true rfl) dX7_about_11 (fun r4 H locs hF hI => ?_)
    refine m_if_ne C (tgt := 22) hF dX7_about_14 (by decide) (fun hF => ?_) (fun hF => ?_)
    · refine lv_iload_n hx hb dX7_about_22 rfl (lv_at hl 2 rfl) ?_
      refine m_if_ne C (tgt := 35) hF dX7_about_23 (by decide) (fun hF => ?_) (fun hF => ?_)
      · refine lv_iload_n hx hb dX7_about_35 rfl (lv_at hl 2 rfl) ?_
        refine lv_iconst (v := 1) hx hb dX7_about_36 (by decide) ?_
        refine m_icmp_ne C (tgt := 49) hF dX7_about_37 (by decide) (fun hF => ?_) (fun hF => ?_)
        · refine lv_aload_n hx hb dX7_about_49 rfl (lv_at hl 0 rfl) ?_
          refine m_getR C fd_X7_26 hI hF dX7_about_50 (fun r5 hF => ?_)
          refine lv_iload_n hx hb dX7_about_53 rfl (lv_at hl 1 rfl) ?_
          refine m_iald C hI hF dX7_about_54 (fun r6 hF => ?_)
          refine lv_aload_n hx hb dX7_about_55 rfl (lv_at hl 0 rfl) ?_
          refine m_get C fd_X7_77 hI hF dX7_about_56 (fun r7 hF => ?_)
          refine m_callSiR C cd_X7_203 hl.1 hI hF (fun _ h => ok_X7_far h) rfl rfl ⟨rfl, rfl, Nat.le_of_ble_eq_true rfl, Nat.le_of_ble_eq_true rfl⟩ ⟨Nat.le_of_ble_eq_true rfl, Nat.le_of_ble_eq_true rfl⟩ (Nat.le_of_ble_eq_true rfl) dX7_about_59 (fun r8 H locs hF hI => ?_)
          exact (bl_X7_about_62 C) r8 S _ _ _ hF hI (lv_sub hl [] rfl)
        · refine lv_aload_n hx hb dX7_about_40 rfl (lv_at hl 0 rfl) ?_
          refine m_getR C fd_X7_26 hI hF dX7_about_41 (fun r9 hF => ?_)
          refine lv_iload_n hx hb dX7_about_44 rfl (lv_at hl 1 rfl) ?_
          refine m_iald C hI hF dX7_about_45 (fun r10 hF => ?_)
          refine lv_goto (tgt := 62) hx hb dX7_about_46 (by decide) ?_
          exact (bl_X7_about_62 C) r10 S _ _ _ hF hI (lv_sub hl [] rfl)
      · refine lv_aload_n hx hb dX7_about_26 rfl (lv_at hl 0 rfl) ?_
        refine m_getR C fd_X7_23 hI hF dX7_about_27 (fun r11 hF => ?_)
        refine lv_iload_n hx hb dX7_about_30 rfl (lv_at hl 1 rfl) ?_
        refine m_iald C hI hF dX7_about_31 (fun r12 hF => ?_)
        refine lv_goto (tgt := 62) hx hb dX7_about_32 (by decide) ?_
        exact (bl_X7_about_62 C) r12 S _ _ _ hF hI (lv_sub hl [] rfl)
    · exact (bl_X7_about_17 C) v0 S _ _ _ hF hI (lv_sub hl [0] rfl)
noncomputable def f_X7_goes_38 (t0 : Int32) (S : mS) : Option (Int32 × mS) := some (t0, S)
noncomputable def f_X7_goes_34 (v0 : Int32) (S : mS) : Option (Int32 × mS) := mRc 7 v0 S (mC (f_X7_bad v0 S) (fun r2 S3 => (f_X7_goes_38) r2 S3))
noncomputable def f_X7_goes (v0 : Int32) (v1 : Int32) (v2 : Int32) (S : mS) : Option (Int32 × mS) := mRc 7 v0 S (mCp (f_X7_isWhistle v0 v1 S) (fun r1 => if r1 = 0 then ((f_X7_goes_34) v0 S) else (mCp (f_X7_isCall v2) (fun r4 => if r4 = 0 then ((f_X7_goes_34) v0 S) else (mGr 7 9 v0 S (fun r5 => mX 8 r5 v1 S (fun r6 => mG 7 4 v0 S (fun r7 => mRc 7 v0 S (mCp (f_X7_whistleThen v0 v1 r6 v2 r7 S) (fun r8 => (f_X7_goes_38) r8 S))))))))))
def rm_X7_goes : Room := { frames := 3, cells := 0, slots := 0, locals := 68 }
set_option maxRecDepth 100000 in
set_option maxHeartbeats 4000000 in
theorem bl_X7_goes_38 {p : Program} {l : Launch} {e : Env} {s : State} {m : MethodId} {args : Array Value} {below : List Frame} {meth : Method} {c : Code} {E : mE} {n0 : Nat} {F : Int32 × mS} (C : mCx p s m args meth c cX7_goes 3 RX7 (some .int) E n0) : ∀  (t0 : Int32) (S : mS) (H : Heap) (locs : List Loc) (ls : Array Slot), f_X7_goes_38 t0 S = some F → mIv s E S H locs 0 → lv_has ls 3 [] → W p l e rm_X7_goes s m args below meth c H locs 0 0 (mQi below args s 0 0 n0 E F) (F0 m 38 ls [.int t0]) := by
  have hx := C.1
  have hb := C.2.1
  intro t0 S H locs ls hF hI hl
  exact m_ireti C hI hF dX7_goes_38
set_option maxRecDepth 100000 in
set_option maxHeartbeats 4000000 in
theorem bl_X7_goes_34 {p : Program} {l : Launch} {e : Env} {s : State} {m : MethodId} {args : Array Value} {below : List Frame} {meth : Method} {c : Code} {E : mE} {n0 : Nat} {F : Int32 × mS} (C : mCx p s m args meth c cX7_goes 3 RX7 (some .int) E n0) : ∀  (v0 : Int32) (S : mS) (H : Heap) (locs : List Loc) (ls : Array Slot), f_X7_goes_34 v0 S = some F → mIv s E S H locs 0 → lv_has ls 3 [(0, .ref (mA E.b v0))] → W p l e rm_X7_goes s m args below meth c H locs 0 0 (mQi below args s 0 0 n0 E F) (F0 m 34 ls []) := by
  have hx := C.1
  have hb := C.2.1
  intro v0 S H locs ls hF hI hl
  refine lv_aload_n hx hb dX7_goes_34 rfl (lv_at hl 0 rfl) ?_
  refine m_callVi C cd_X7_103 ⟨rfl, by decide⟩ hl.1 hI hF (fun _ h => ok_X7_bad h) rfl rfl ⟨rfl, rfl, Nat.le_of_ble_eq_true rfl, Nat.le_of_ble_eq_true rfl⟩ ⟨Nat.le_of_ble_eq_true rfl, Nat.le_of_ble_eq_true rfl⟩ (Nat.le_of_ble_eq_true rfl) dX7_goes_35 (fun r2 S3 H locs hF hI => ?_)
  exact (bl_X7_goes_38 C) r2 S3 _ _ _ hF hI (lv_sub hl [] rfl)
set_option maxRecDepth 100000 in
set_option maxHeartbeats 4000000 in
theorem ok_X7_goes {l : Launch} {E : mE} {v0 : Int32} {v1 : Int32} {v2 : Int32} {S : mS} {F : Int32 × mS} (hF : f_X7_goes v0 v1 v2 S = some F) : mMi l yX7_goes cX7_goes 3 (some .int) rm_X7_goes 0 0 [.ref (mA E.b v0), .int v1, .int v2] E S F := by
  refine m_met_i (by decide) (Nat.le_of_ble_eq_true rfl) (fun p e s m args below meth c ls hin C hI hl => ?_)
  have hx := C.1
  have hb := C.2.1
  have hl : lv_has ls 3 [(0, .ref (mA E.b v0)), (1, .int v1), (2, .int v2)] := hl
  generalize s.heap = H at hI ⊢
  generalize ([] : List Loc) = locs at hI ⊢
  refine lv_aload_n hx hb dX7_goes_0 rfl (lv_at hl 0 rfl) ?_
  refine lv_iload_n hx hb dX7_goes_1 rfl (lv_at hl 1 rfl) ?_
  refine m_callViR C cd_X7_219 ⟨rfl, by decide⟩ hl.1 hI hF (fun _ h => ok_X7_isWhistle h) rfl rfl ⟨rfl, rfl, Nat.le_of_ble_eq_true rfl, Nat.le_of_ble_eq_true rfl⟩ ⟨Nat.le_of_ble_eq_true rfl, Nat.le_of_ble_eq_true rfl⟩ (Nat.le_of_ble_eq_true rfl) dX7_goes_2 (fun r1 H locs hF hI => ?_)
  refine m_if_eq C (tgt := 34) hF dX7_goes_5 (by decide) (fun hF => ?_) (fun hF => ?_)
  · exact (bl_X7_goes_34 C) v0 S _ _ _ hF hI (lv_sub hl [0] rfl)
  · refine lv_iload_n hx hb dX7_goes_8 rfl (lv_at hl 2 rfl) ?_
    refine m_callSiR C cd_X7_222 hl.1 hI hF (fun _ h => ok_X7_isCall h) rfl rfl ⟨rfl, rfl, Nat.le_of_ble_eq_true rfl, Nat.le_of_ble_eq_true rfl⟩ ⟨Nat.le_of_ble_eq_true rfl, Nat.le_of_ble_eq_true rfl⟩ (Nat.le_of_ble_eq_true rfl) dX7_goes_9 (fun r4 H locs hF hI => ?_)
    refine m_if_eq C (tgt := 34) hF dX7_goes_12 (by decide) (fun hF => ?_) (fun hF => ?_)
    · exact (bl_X7_goes_34 C) v0 S _ _ _ hF hI (lv_sub hl [0] rfl)
    · refine lv_aload_n hx hb dX7_goes_15 rfl (lv_at hl 0 rfl) ?_
      refine lv_iload_n hx hb dX7_goes_16 rfl (lv_at hl 1 rfl) ?_
      refine lv_aload_n hx hb dX7_goes_17 rfl (lv_at hl 0 rfl) ?_
      refine m_getR C fd_X7_20 hI hF dX7_goes_18 (fun r5 hF => ?_)
      refine lv_iload_n hx hb dX7_goes_21 rfl (lv_at hl 1 rfl) ?_
      refine m_iald C hI hF dX7_goes_22 (fun r6 hF => ?_)
      refine lv_iload_n hx hb dX7_goes_23 rfl (lv_at hl 2 rfl) ?_
      refine lv_aload_n hx hb dX7_goes_24 rfl (lv_at hl 0 rfl) ?_
      refine m_get C fd_X7_80 hI hF dX7_goes_25 (fun r7 hF => ?_)
      refine m_callViR C cd_X7_209 ⟨rfl, by decide⟩ hl.1 hI hF (fun _ h => ok_X7_whistleThen h) rfl rfl ⟨rfl, rfl, Nat.le_of_ble_eq_true rfl, Nat.le_of_ble_eq_true rfl⟩ ⟨Nat.le_of_ble_eq_true rfl, Nat.le_of_ble_eq_true rfl⟩ (Nat.le_of_ble_eq_true rfl) dX7_goes_28 (fun r8 H locs hF hI => ?_)
      refine lv_goto (tgt := 38) hx hb dX7_goes_31 (by decide) ?_
      exact (bl_X7_goes_38 C) r8 S _ _ _ hF hI (lv_sub hl [] rfl)
noncomputable def f_X7_givesTo (v0 : Int32) (v1 : Int32) (v2 : Int32) (v3 : Int32) (S : mS) : Option Int32 := mGr 7 11 v0 S (fun r1 => mX 8 r1 v1 S (fun r2 => mGr 7 9 v0 S (fun r3 => mX 8 r3 v2 S (fun r4 => mG 7 4 v0 S (fun r5 => mRc 7 v0 S (mCp (f_X7_whistleThen v0 v2 r4 v3 r5 S) (fun r6 => mRc 7 v0 S (mCp (f_X7_sheepThen v0 v1 r2 r6 S) (fun r7 => some r7)))))))))
def rm_X7_givesTo : Room := { frames := 3, cells := 0, slots := 0, locals := 73 }
set_option maxRecDepth 100000 in
set_option maxHeartbeats 4000000 in
theorem ok_X7_givesTo {l : Launch} {E : mE} {v0 : Int32} {v1 : Int32} {v2 : Int32} {v3 : Int32} {S : mS} {r : Int32} (hF : f_X7_givesTo v0 v1 v2 v3 S = some r) : mMi l yX7_givesTo cX7_givesTo 4 (some .int) rm_X7_givesTo 0 0 [.ref (mA E.b v0), .int v1, .int v2, .int v3] E S (r, S) := by
  refine m_met_i (by decide) (Nat.le_of_ble_eq_true rfl) (fun p e s m args below meth c ls hin C hI hl => ?_)
  have hx := C.1
  have hb := C.2.1
  have hl : lv_has ls 4 [(0, .ref (mA E.b v0)), (1, .int v1), (2, .int v2), (3, .int v3)] := hl
  generalize s.heap = H at hI ⊢
  generalize ([] : List Loc) = locs at hI ⊢
  refine lv_aload_n hx hb dX7_givesTo_0 rfl (lv_at hl 0 rfl) ?_
  refine lv_iload_n hx hb dX7_givesTo_1 rfl (lv_at hl 1 rfl) ?_
  refine lv_aload_n hx hb dX7_givesTo_2 rfl (lv_at hl 0 rfl) ?_
  refine m_getR C fd_X7_26 hI hF dX7_givesTo_3 (fun r1 hF => ?_)
  refine lv_iload_n hx hb dX7_givesTo_6 rfl (lv_at hl 1 rfl) ?_
  refine m_iald C hI hF dX7_givesTo_7 (fun r2 hF => ?_)
  refine lv_aload_n hx hb dX7_givesTo_8 rfl (lv_at hl 0 rfl) ?_
  refine lv_iload_n hx hb dX7_givesTo_9 rfl (lv_at hl 2 rfl) ?_
  refine lv_aload_n hx hb dX7_givesTo_10 rfl (lv_at hl 0 rfl) ?_
  refine m_getR C fd_X7_20 hI hF dX7_givesTo_11 (fun r3 hF => ?_)
  refine lv_iload_n hx hb dX7_givesTo_14 rfl (lv_at hl 2 rfl) ?_
  refine m_iald C hI hF dX7_givesTo_15 (fun r4 hF => ?_)
  refine lv_iload_n hx hb dX7_givesTo_16 rfl (lv_at hl 3 rfl) ?_
  refine lv_aload_n hx hb dX7_givesTo_17 rfl (lv_at hl 0 rfl) ?_
  refine m_get C fd_X7_80 hI hF dX7_givesTo_18 (fun r5 hF => ?_)
  refine m_callViR C cd_X7_209 ⟨rfl, by decide⟩ hl.1 hI hF (fun _ h => ok_X7_whistleThen h) rfl rfl ⟨rfl, rfl, Nat.le_of_ble_eq_true rfl, Nat.le_of_ble_eq_true rfl⟩ ⟨Nat.le_of_ble_eq_true rfl, Nat.le_of_ble_eq_true rfl⟩ (Nat.le_of_ble_eq_true rfl) dX7_givesTo_21 (fun r6 H locs hF hI => ?_)
  refine m_callViR C cd_X7_213 ⟨rfl, by decide⟩ hl.1 hI hF (fun _ h => ok_X7_sheepThen h) rfl rfl ⟨rfl, rfl, Nat.le_of_ble_eq_true rfl, Nat.le_of_ble_eq_true rfl⟩ ⟨Nat.le_of_ble_eq_true rfl, Nat.le_of_ble_eq_true rfl⟩ (Nat.le_of_ble_eq_true rfl) dX7_givesTo_24 (fun r7 H locs hF hI => ?_)
  exact m_iretiR C hI hF dX7_givesTo_27
noncomputable def f_X7_gives_37 (t0 : Int32) (S : mS) : Option (Int32 × mS) := some (t0, S)
noncomputable def f_X7_gives_33 (v0 : Int32) (S : mS) : Option (Int32 × mS) := mRc 7 v0 S (mC (f_X7_bad v0 S) (fun r2 S3 => (f_X7_gives_37) r2 S3))
noncomputable def f_X7_gives (v0 : Int32) (v1 : Int32) (v2 : Int32) (v3 : Int32) (S : mS) : Option (Int32 × mS) := mRc 7 v0 S (mCp (f_X7_isSheep v0 v1 S) (fun r1 => if r1 = 0 then ((f_X7_gives_33) v0 S) else (mRc 7 v0 S (mCp (f_X7_isWhistle v0 v2 S) (fun r4 => if r4 = 0 then ((f_X7_gives_33) v0 S) else (mCp (f_X7_isCall v3) (fun r5 => if r5 = 0 then ((f_X7_gives_33) v0 S) else (mRc 7 v0 S (mCp (f_X7_givesTo v0 v1 v2 v3 S) (fun r6 => (f_X7_gives_37) r6 S))))))))))
def rm_X7_gives : Room := { frames := 4, cells := 0, slots := 0, locals := 96 }
set_option maxRecDepth 100000 in
set_option maxHeartbeats 4000000 in
theorem bl_X7_gives_37 {p : Program} {l : Launch} {e : Env} {s : State} {m : MethodId} {args : Array Value} {below : List Frame} {meth : Method} {c : Code} {E : mE} {n0 : Nat} {F : Int32 × mS} (C : mCx p s m args meth c cX7_gives 4 RX7 (some .int) E n0) : ∀  (t0 : Int32) (S : mS) (H : Heap) (locs : List Loc) (ls : Array Slot), f_X7_gives_37 t0 S = some F → mIv s E S H locs 0 → lv_has ls 4 [] → W p l e rm_X7_gives s m args below meth c H locs 0 0 (mQi below args s 0 0 n0 E F) (F0 m 37 ls [.int t0]) := by
  have hx := C.1
  have hb := C.2.1
  intro t0 S H locs ls hF hI hl
  exact m_ireti C hI hF dX7_gives_37
set_option maxRecDepth 100000 in
set_option maxHeartbeats 4000000 in
theorem bl_X7_gives_33 {p : Program} {l : Launch} {e : Env} {s : State} {m : MethodId} {args : Array Value} {below : List Frame} {meth : Method} {c : Code} {E : mE} {n0 : Nat} {F : Int32 × mS} (C : mCx p s m args meth c cX7_gives 4 RX7 (some .int) E n0) : ∀  (v0 : Int32) (S : mS) (H : Heap) (locs : List Loc) (ls : Array Slot), f_X7_gives_33 v0 S = some F → mIv s E S H locs 0 → lv_has ls 4 [(0, .ref (mA E.b v0))] → W p l e rm_X7_gives s m args below meth c H locs 0 0 (mQi below args s 0 0 n0 E F) (F0 m 33 ls []) := by
  have hx := C.1
  have hb := C.2.1
  intro v0 S H locs ls hF hI hl
  refine lv_aload_n hx hb dX7_gives_33 rfl (lv_at hl 0 rfl) ?_
  refine m_callVi C cd_X7_103 ⟨rfl, by decide⟩ hl.1 hI hF (fun _ h => ok_X7_bad h) rfl rfl ⟨rfl, rfl, Nat.le_of_ble_eq_true rfl, Nat.le_of_ble_eq_true rfl⟩ ⟨Nat.le_of_ble_eq_true rfl, Nat.le_of_ble_eq_true rfl⟩ (Nat.le_of_ble_eq_true rfl) dX7_gives_34 (fun r2 S3 H locs hF hI => ?_)
  exact (bl_X7_gives_37 C) r2 S3 _ _ _ hF hI (lv_sub hl [] rfl)
set_option maxRecDepth 100000 in
set_option maxHeartbeats 4000000 in
theorem ok_X7_gives {l : Launch} {E : mE} {v0 : Int32} {v1 : Int32} {v2 : Int32} {v3 : Int32} {S : mS} {F : Int32 × mS} (hF : f_X7_gives v0 v1 v2 v3 S = some F) : mMi l yX7_gives cX7_gives 4 (some .int) rm_X7_gives 0 0 [.ref (mA E.b v0), .int v1, .int v2, .int v3] E S F := by
  refine m_met_i (by decide) (Nat.le_of_ble_eq_true rfl) (fun p e s m args below meth c ls hin C hI hl => ?_)
  have hx := C.1
  have hb := C.2.1
  have hl : lv_has ls 4 [(0, .ref (mA E.b v0)), (1, .int v1), (2, .int v2), (3, .int v3)] := hl
  generalize s.heap = H at hI ⊢
  generalize ([] : List Loc) = locs at hI ⊢
  refine lv_aload_n hx hb dX7_gives_0 rfl (lv_at hl 0 rfl) ?_
  refine lv_iload_n hx hb dX7_gives_1 rfl (lv_at hl 1 rfl) ?_
  refine m_callViR C cd_X7_231 ⟨rfl, by decide⟩ hl.1 hI hF (fun _ h => ok_X7_isSheep h) rfl rfl ⟨rfl, rfl, Nat.le_of_ble_eq_true rfl, Nat.le_of_ble_eq_true rfl⟩ ⟨Nat.le_of_ble_eq_true rfl, Nat.le_of_ble_eq_true rfl⟩ (Nat.le_of_ble_eq_true rfl) dX7_gives_2 (fun r1 H locs hF hI => ?_)
  refine m_if_eq C (tgt := 33) hF dX7_gives_5 (by decide) (fun hF => ?_) (fun hF => ?_)
  · exact (bl_X7_gives_33 C) v0 S _ _ _ hF hI (lv_sub hl [0] rfl)
  · refine lv_aload_n hx hb dX7_gives_8 rfl (lv_at hl 0 rfl) ?_
    refine lv_iload_n hx hb dX7_gives_9 rfl (lv_at hl 2 rfl) ?_
    refine m_callViR C cd_X7_219 ⟨rfl, by decide⟩ hl.1 hI hF (fun _ h => ok_X7_isWhistle h) rfl rfl ⟨rfl, rfl, Nat.le_of_ble_eq_true rfl, Nat.le_of_ble_eq_true rfl⟩ ⟨Nat.le_of_ble_eq_true rfl, Nat.le_of_ble_eq_true rfl⟩ (Nat.le_of_ble_eq_true rfl) dX7_gives_10 (fun r4 H locs hF hI => ?_)
    refine m_if_eq C (tgt := 33) hF dX7_gives_13 (by decide) (fun hF => ?_) (fun hF => ?_)
    · exact (bl_X7_gives_33 C) v0 S _ _ _ hF hI (lv_sub hl [0] rfl)
    · refine lv_iload_n hx hb dX7_gives_16 rfl (lv_at hl 3 rfl) ?_
      refine m_callSiR C cd_X7_222 hl.1 hI hF (fun _ h => ok_X7_isCall h) rfl rfl ⟨rfl, rfl, Nat.le_of_ble_eq_true rfl, Nat.le_of_ble_eq_true rfl⟩ ⟨Nat.le_of_ble_eq_true rfl, Nat.le_of_ble_eq_true rfl⟩ (Nat.le_of_ble_eq_true rfl) dX7_gives_17 (fun r5 H locs hF hI => ?_)
      refine m_if_eq C (tgt := 33) hF dX7_gives_20 (by decide) (fun hF => ?_) (fun hF => ?_)
      · exact (bl_X7_gives_33 C) v0 S _ _ _ hF hI (lv_sub hl [0] rfl)
      · refine lv_aload_n hx hb dX7_gives_23 rfl (lv_at hl 0 rfl) ?_
        refine lv_iload_n hx hb dX7_gives_24 rfl (lv_at hl 1 rfl) ?_
        refine lv_iload_n hx hb dX7_gives_25 rfl (lv_at hl 2 rfl) ?_
        refine lv_iload_n hx hb dX7_gives_26 rfl (lv_at hl 3 rfl) ?_
        refine m_callViR C cd_X7_234 ⟨rfl, by decide⟩ hl.1 hI hF (fun _ h => ok_X7_givesTo h) rfl rfl ⟨rfl, rfl, Nat.le_of_ble_eq_true rfl, Nat.le_of_ble_eq_true rfl⟩ ⟨Nat.le_of_ble_eq_true rfl, Nat.le_of_ble_eq_true rfl⟩ (Nat.le_of_ble_eq_true rfl) dX7_gives_27 (fun r6 H locs hF hI => ?_)
        refine lv_goto (tgt := 37) hx hb dX7_gives_30 (by decide) ?_
        exact (bl_X7_gives_37 C) r6 S _ _ _ hF hI (lv_sub hl [] rfl)
noncomputable def f_X7_folded (v0 : Int32) (S : mS) : Option Int32 := mRc 7 v0 S (mCp (f_X7_foldedIn v0 S) (fun r1 => some r1))
def rm_X7_folded : Room := { frames := 1, cells := 0, slots := 0, locals := 22 }
set_option maxRecDepth 100000 in
set_option maxHeartbeats 4000000 in
theorem ok_X7_folded {l : Launch} {E : mE} {v0 : Int32} {S : mS} {r : Int32} (hF : f_X7_folded v0 S = some r) : mMi l yX7_folded cX7_folded 1 (some .int) rm_X7_folded 0 0 [.ref (mA E.b v0)] E S (r, S) := by
  refine m_met_i (by decide) (Nat.le_of_ble_eq_true rfl) (fun p e s m args below meth c ls hin C hI hl => ?_)
  have hx := C.1
  have hb := C.2.1
  have hl : lv_has ls 1 [(0, .ref (mA E.b v0))] := hl
  generalize s.heap = H at hI ⊢
  generalize ([] : List Loc) = locs at hI ⊢
  refine lv_aload_n hx hb dX7_folded_0 rfl (lv_at hl 0 rfl) ?_
  refine m_callViR C cd_X7_237 ⟨rfl, by decide⟩ hl.1 hI hF (fun _ h => ok_X7_foldedIn h) rfl rfl ⟨rfl, rfl, Nat.le_of_ble_eq_true rfl, Nat.le_of_ble_eq_true rfl⟩ ⟨Nat.le_of_ble_eq_true rfl, Nat.le_of_ble_eq_true rfl⟩ (Nat.le_of_ble_eq_true rfl) dX7_folded_1 (fun r1 H locs hF hI => ?_)
  exact m_iretiR C hI hF dX7_folded_4
noncomputable def f_X7_isGood (v0 : Int32) (v1 : Int32) (v2 : Int32) (v3 : Int32) (v4 : Int32) (v5 : Int32) (v6 : Int32) (S : mS) : Option Int32 := mG 7 4 v0 S (fun r1 => mRc 7 v0 S (mCp (f_X7_whistleThen v0 v2 v4 v6 (r1 + v3) S) (fun r2 => mGr 7 23 v0 S (fun r3 => mX 8 r3 ((25 * (v3 + 1)) + r2) S (fun r4 => mRc 7 v0 S (mCp (f_X7_sheepThen v0 v1 v5 r2 S) (fun r5 => mCp (f_X7_has r4 r5) (fun r6 => mZ r6 (some r6)))))))))
def rm_X7_isGood : Room := { frames := 3, cells := 0, slots := 0, locals := 73 }
set_option maxRecDepth 100000 in
set_option maxHeartbeats 4000000 in
theorem ok_X7_isGood {l : Launch} {E : mE} {v0 : Int32} {v1 : Int32} {v2 : Int32} {v3 : Int32} {v4 : Int32} {v5 : Int32} {v6 : Int32} {S : mS} {r : Int32} (hF : f_X7_isGood v0 v1 v2 v3 v4 v5 v6 S = some r) : mMi l yX7_isGood cX7_isGood 8 (some .boolean) rm_X7_isGood 0 0 [.ref (mA E.b v0), .int v1, .int v2, .int v3, .int v4, .int v5, .int v6] E S (r, S) := by
  refine m_met_i (by decide) (Nat.le_of_ble_eq_true rfl) (fun p e s m args below meth c ls hin C hI hl => ?_)
  have hx := C.1
  have hb := C.2.1
  have hl : lv_has ls 8 [(0, .ref (mA E.b v0)), (1, .int v1), (2, .int v2), (3, .int v3), (4, .int v4), (5, .int v5), (6, .int v6)] := hl
  generalize s.heap = H at hI ⊢
  generalize ([] : List Loc) = locs at hI ⊢
  refine lv_aload_n hx hb dX7_isGood_0 rfl (lv_at hl 0 rfl) ?_
  refine lv_iload_n hx hb dX7_isGood_1 rfl (lv_at hl 2 rfl) ?_
  refine lv_iload hx hb dX7_isGood_2 (lv_at hl 4 rfl) ?_
  refine lv_iload hx hb dX7_isGood_4 (lv_at hl 6 rfl) ?_
  refine lv_aload_n hx hb dX7_isGood_6 rfl (lv_at hl 0 rfl) ?_
  refine m_get C fd_X7_80 hI hF dX7_isGood_7 (fun r1 hF => ?_)
  refine lv_iload_n hx hb dX7_isGood_10 rfl (lv_at hl 3 rfl) ?_
  refine lv_iadd hx hb dX7_isGood_11 ?_
  refine m_callViR C cd_X7_209 ⟨rfl, by decide⟩ hl.1 hI hF (fun _ h => ok_X7_whistleThen h) rfl rfl ⟨rfl, rfl, Nat.le_of_ble_eq_true rfl, Nat.le_of_ble_eq_true rfl⟩ ⟨Nat.le_of_ble_eq_true rfl, Nat.le_of_ble_eq_true rfl⟩ (Nat.le_of_ble_eq_true rfl) dX7_isGood_12 (fun r2 H locs hF hI => ?_)
  refine lv_istore (lv' := [(7, .int r2), (0, .ref (mA E.b v0)), (1, .int v1), (2, .int v2), (3, .int v3), (4, .int v4), (5, .int v5), (6, .int v6)]) hx hb dX7_isGood_15 hl (by decide) rfl (fun ls hl => ?_)
  refine lv_aload_n hx hb dX7_isGood_17 rfl (lv_at hl 1 rfl) ?_
  refine m_getR C fd_X7_50 hI hF dX7_isGood_18 (fun r3 hF => ?_)
  refine lv_bipush (v := 25) hx hb dX7_isGood_21 (by decide) ?_
  refine lv_iload_n hx hb dX7_isGood_23 rfl (lv_at hl 4 rfl) ?_
  refine lv_iconst (v := 1) hx hb dX7_isGood_24 (by decide) ?_
  refine lv_iadd hx hb dX7_isGood_25 ?_
  refine lv_imul hx hb dX7_isGood_26 ?_
  refine lv_iload hx hb dX7_isGood_27 (lv_at hl 0 rfl) ?_
  refine lv_iadd hx hb dX7_isGood_29 ?_
  refine m_iald C hI hF dX7_isGood_30 (fun r4 hF => ?_)
  refine lv_aload_n hx hb dX7_isGood_31 rfl (lv_at hl 1 rfl) ?_
  refine lv_iload_n hx hb dX7_isGood_32 rfl (lv_at hl 2 rfl) ?_
  refine lv_iload hx hb dX7_isGood_33 (lv_at hl 6 rfl) ?_
  refine lv_iload hx hb dX7_isGood_35 (lv_at hl 0 rfl) ?_
  refine m_callViR C cd_X7_213 ⟨rfl, by decide⟩ hl.1 hI hF (fun _ h => ok_X7_sheepThen h) rfl rfl ⟨rfl, rfl, Nat.le_of_ble_eq_true rfl, Nat.le_of_ble_eq_true rfl⟩ ⟨Nat.le_of_ble_eq_true rfl, Nat.le_of_ble_eq_true rfl⟩ (Nat.le_of_ble_eq_true rfl) dX7_isGood_37 (fun r5 H locs hF hI => ?_)
  refine m_callSiR C cd_X7_240 hl.1 hI hF (fun _ h => ok_X7_has h) rfl rfl ⟨rfl, rfl, Nat.le_of_ble_eq_true rfl, Nat.le_of_ble_eq_true rfl⟩ ⟨Nat.le_of_ble_eq_true rfl, Nat.le_of_ble_eq_true rfl⟩ (Nat.le_of_ble_eq_true rfl) dX7_isGood_40 (fun r6 H locs hF hI => ?_)
  exact m_iretzR C hI hF dX7_isGood_43
noncomputable def f_X7_setGood_3 (k32 : Int32 → Int32 → Int32 → Int32 → mS → Option mS) : Nat → Int32 → Int32 → Int32 → Int32 → Int32 → Int32 → mS → Option mS := fun n => Nat.rec (motive := fun _ => Int32 → Int32 → Int32 → Int32 → Int32 → Int32 → mS → Option mS) (fun _ _ _ _ _ _ _ => none) (fun _ rec v0 v1 v2 v3 v4 v5 S => if 25 ≤ v5 then (k32 v0 v1 v2 v4 S) else (mGr 7 23 v0 S (fun r1 => mXs r1 ((25 * v4) + v5) (1 <<< (v3 &&& 31)) S (fun S2 => rec v0 v1 v2 v3 v4 (v5 + 1) S2)))) n
theorem f_X7_setGood_3_s (k32 : Int32 → Int32 → Int32 → Int32 → mS → Option mS) (n : Nat) (v0 : Int32) (v1 : Int32) (v2 : Int32) (v3 : Int32) (v4 : Int32) (v5 : Int32) (S : mS) : f_X7_setGood_3 k32 (n + 1) v0 v1 v2 v3 v4 v5 S = if 25 ≤ v5 then (k32 v0 v1 v2 v4 S) else (mGr 7 23 v0 S (fun r1 => mXs r1 ((25 * v4) + v5) (1 <<< (v3 &&& 31)) S (fun S2 => (f_X7_setGood_3 k32 n) v0 v1 v2 v3 v4 (v5 + 1) S2))) := rfl
noncomputable def f_X7_setGood_72 (k105 : Int32 → Int32 → Int32 → Int32 → Int32 → Int32 → Int32 → Int32 → mS → Option mS) : Nat → Int32 → Int32 → Int32 → Int32 → Int32 → Int32 → Int32 → Int32 → Int32 → mS → Option mS := fun n => Nat.rec (motive := fun _ => Int32 → Int32 → Int32 → Int32 → Int32 → Int32 → Int32 → Int32 → Int32 → mS → Option mS) (fun _ _ _ _ _ _ _ _ _ _ => none) (fun _ rec v0 v1 v2 v5 v6 v7 v8 v9 v10 S => if 5 ≤ v10 then (k105 v0 v1 v2 v5 v6 v7 v8 v9 S) else (if v9 = 0 then (mRc 7 v0 S (mCp (f_X7_isGood v0 v1 v2 v5 v6 v8 v10 S) (fun r3 => rec v0 v1 v2 v5 v6 v7 v8 r3 (v10 + 1) S))) else (k105 v0 v1 v2 v5 v6 v7 v8 v9 S))) n
theorem f_X7_setGood_72_s (k105 : Int32 → Int32 → Int32 → Int32 → Int32 → Int32 → Int32 → Int32 → mS → Option mS) (n : Nat) (v0 : Int32) (v1 : Int32) (v2 : Int32) (v5 : Int32) (v6 : Int32) (v7 : Int32) (v8 : Int32) (v9 : Int32) (v10 : Int32) (S : mS) : f_X7_setGood_72 k105 (n + 1) v0 v1 v2 v5 v6 v7 v8 v9 v10 S = if 5 ≤ v10 then (k105 v0 v1 v2 v5 v6 v7 v8 v9 S) else (if v9 = 0 then (mRc 7 v0 S (mCp (f_X7_isGood v0 v1 v2 v5 v6 v8 v10 S) (fun r3 => (f_X7_setGood_72 k105 n) v0 v1 v2 v5 v6 v7 v8 r3 (v10 + 1) S))) else (k105 v0 v1 v2 v5 v6 v7 v8 v9 S)) := rfl
noncomputable def f_X7_setGood_120 (k59 : Int32 → Int32 → Int32 → Int32 → Int32 → Int32 → Int32 → mS → Option mS) (v0 : Int32) (v1 : Int32) (v2 : Int32) (v5 : Int32) (v6 : Int32) (v8 : Int32) (t0 : Int32) (t1 : Int32) (S : mS) : Option mS := k59 v0 v1 v2 v5 v6 (t0 ||| t1) (v8 + 1) S
noncomputable def f_X7_setGood_105 (k59 : Int32 → Int32 → Int32 → Int32 → Int32 → Int32 → Int32 → mS → Option mS) (v0 : Int32) (v1 : Int32) (v2 : Int32) (v5 : Int32) (v6 : Int32) (v7 : Int32) (v8 : Int32) (v9 : Int32) (S : mS) : Option mS := if v9 = 0 then ((f_X7_setGood_120 k59) v0 v1 v2 v5 v6 v8 v7 0 S) else ((f_X7_setGood_120 k59) v0 v1 v2 v5 v6 v8 v7 (1 <<< (v8 &&& 31)) S)
noncomputable def f_X7_setGood_59 (k129 : Int32 → Int32 → Int32 → Int32 → Int32 → Int32 → mS → Option mS) : Nat → Int32 → Int32 → Int32 → Int32 → Int32 → Int32 → Int32 → mS → Option mS := fun n => Nat.rec (motive := fun _ => Int32 → Int32 → Int32 → Int32 → Int32 → Int32 → Int32 → mS → Option mS) (fun _ _ _ _ _ _ _ _ => none) (fun _ rec v0 v1 v2 v5 v6 v7 v8 S => if 25 ≤ v8 then (k129 v0 v1 v2 v5 v6 v7 S) else ((f_X7_setGood_72 (f_X7_setGood_105 rec) 1000) v0 v1 v2 v5 v6 v7 v8 0 0 S)) n
theorem f_X7_setGood_59_s (k129 : Int32 → Int32 → Int32 → Int32 → Int32 → Int32 → mS → Option mS) (n : Nat) (v0 : Int32) (v1 : Int32) (v2 : Int32) (v5 : Int32) (v6 : Int32) (v7 : Int32) (v8 : Int32) (S : mS) : f_X7_setGood_59 k129 (n + 1) v0 v1 v2 v5 v6 v7 v8 S = if 25 ≤ v8 then (k129 v0 v1 v2 v5 v6 v7 S) else ((f_X7_setGood_72 (f_X7_setGood_105 (f_X7_setGood_59 k129 n)) 1000) v0 v1 v2 v5 v6 v7 v8 0 0 S) := rfl
noncomputable def f_X7_setGood_129 (k46 : Int32 → Int32 → Int32 → Int32 → Int32 → mS → Option mS) (v0 : Int32) (v1 : Int32) (v2 : Int32) (v5 : Int32) (v6 : Int32) (v7 : Int32) (S : mS) : Option mS := mGr 7 23 v0 S (fun r4 => mXs r4 ((25 * v5) + v6) v7 S (fun S5 => k46 v0 v1 v2 v5 (v6 + 1) S5))
noncomputable def f_X7_setGood_46 (k150 : Int32 → Int32 → Int32 → Int32 → mS → Option mS) : Nat → Int32 → Int32 → Int32 → Int32 → Int32 → mS → Option mS := fun n => Nat.rec (motive := fun _ => Int32 → Int32 → Int32 → Int32 → Int32 → mS → Option mS) (fun _ _ _ _ _ _ => none) (fun _ rec v0 v1 v2 v5 v6 S => if 25 ≤ v6 then (k150 v0 v1 v2 v5 S) else ((f_X7_setGood_59 (f_X7_setGood_129 rec) 1000) v0 v1 v2 v5 v6 0 0 S)) n
theorem f_X7_setGood_46_s (k150 : Int32 → Int32 → Int32 → Int32 → mS → Option mS) (n : Nat) (v0 : Int32) (v1 : Int32) (v2 : Int32) (v5 : Int32) (v6 : Int32) (S : mS) : f_X7_setGood_46 k150 (n + 1) v0 v1 v2 v5 v6 S = if 25 ≤ v6 then (k150 v0 v1 v2 v5 S) else ((f_X7_setGood_59 (f_X7_setGood_129 (f_X7_setGood_46 k150 n)) 1000) v0 v1 v2 v5 v6 0 0 S) := rfl
noncomputable def f_X7_setGood_150 (k38 : Int32 → Int32 → Int32 → Int32 → mS → Option mS) (v0 : Int32) (v1 : Int32) (v2 : Int32) (v5 : Int32) (S : mS) : Option mS := k38 v0 v1 v2 (v5 + (-1)) S
noncomputable def f_X7_setGood_38 (k156 : mS → Option mS) : Nat → Int32 → Int32 → Int32 → Int32 → mS → Option mS := fun n => Nat.rec (motive := fun _ => Int32 → Int32 → Int32 → Int32 → mS → Option mS) (fun _ _ _ _ _ => none) (fun _ rec v0 v1 v2 v5 S => if v5 < 0 then (k156 S) else ((f_X7_setGood_46 (f_X7_setGood_150 rec) 1000) v0 v1 v2 v5 0 S)) n
theorem f_X7_setGood_38_s (k156 : mS → Option mS) (n : Nat) (v0 : Int32) (v1 : Int32) (v2 : Int32) (v5 : Int32) (S : mS) : f_X7_setGood_38 k156 (n + 1) v0 v1 v2 v5 S = if v5 < 0 then (k156 S) else ((f_X7_setGood_46 (f_X7_setGood_150 (f_X7_setGood_38 k156 n)) 1000) v0 v1 v2 v5 0 S) := rfl
noncomputable def f_X7_setGood_156 (S : mS) : Option mS := some S
noncomputable def f_X7_setGood_32 (v0 : Int32) (v1 : Int32) (v2 : Int32) (v4 : Int32) (S : mS) : Option mS := (f_X7_setGood_38 (f_X7_setGood_156) 1000) v0 v1 v2 (v4 - 1) S
noncomputable def f_X7_setGood (v0 : Int32) (v1 : Int32) (v2 : Int32) (v3 : Int32) (v4 : Int32) (S : mS) : Option mS := (f_X7_setGood_3 (f_X7_setGood_32) 1000) v0 v1 v2 v3 v4 0 S
def rm_X7_setGood : Room := { frames := 4, cells := 0, slots := 0, locals := 100 }
set_option maxRecDepth 100000 in
set_option maxHeartbeats 4000000 in
theorem bl_X7_setGood_3 {p : Program} {l : Launch} {e : Env} {s : State} {m : MethodId} {args : Array Value} {below : List Frame} {meth : Method} {c : Code} {E : mE} {n0 : Nat} {F : mS} (C : mCx p s m args meth c cX7_setGood 11 RX7 none E n0) {k32 : Int32 → Int32 → Int32 → Int32 → mS → Option mS} (hk32 : ∀ (v0 : Int32) (v1 : Int32) (v2 : Int32) (v4 : Int32) (S : mS) (H : Heap) (locs : List Loc) (ls : Array Slot), k32 v0 v1 v2 v4 S = some F → mIv s E S H locs 0 → lv_has ls 11 [(0, .ref (mA E.b v0)), (1, .int v1), (2, .int v2), (4, .int v4)] → W p l e rm_X7_setGood s m args below meth c H locs 0 0 (mQv below args s 0 0 n0 E F) (F0 m 32 ls [])) : ∀ (n : Nat)  (v0 : Int32) (v1 : Int32) (v2 : Int32) (v3 : Int32) (v4 : Int32) (v5 : Int32) (S : mS) (H : Heap) (locs : List Loc) (ls : Array Slot), f_X7_setGood_3 k32 n v0 v1 v2 v3 v4 v5 S = some F → mIv s E S H locs 0 → lv_has ls 11 [(0, .ref (mA E.b v0)), (1, .int v1), (2, .int v2), (3, .int v3), (4, .int v4), (5, .int v5)] → W p l e rm_X7_setGood s m args below meth c H locs 0 0 (mQv below args s 0 0 n0 E F) (F0 m 3 ls []) := by
  have hx := C.1
  have hb := C.2.1
  intro n
  induction n with
  | zero =>
    intro v0 v1 v2 v3 v4 v5 S H locs ls hF
    exact nomatch (show (none : Option mS) = some F from hF)
  | succ n ih =>
    intro v0 v1 v2 v3 v4 v5 S H locs ls hF hI hl
    have hF := (f_X7_setGood_3_s k32 n v0 v1 v2 v3 v4 v5 S).symm.trans hF
    refine lv_iload hx hb dX7_setGood_3 (lv_at hl 5 rfl) ?_
    refine lv_bipush (v := 25) hx hb dX7_setGood_5 (by decide) ?_
    refine m_icmp_ge C (tgt := 32) hF dX7_setGood_7 (by decide) (fun hF => ?_) (fun hF => ?_)
    · exact hk32 v0 v1 v2 v4 S _ _ _ hF hI (lv_sub hl [0, 1, 2, 4] rfl)
    · refine lv_aload_n hx hb dX7_setGood_10 rfl (lv_at hl 0 rfl) ?_
      refine m_getR C fd_X7_50 hI hF dX7_setGood_11 (fun r1 hF => ?_)
      refine lv_bipush (v := 25) hx hb dX7_setGood_14 (by decide) ?_
      refine lv_iload hx hb dX7_setGood_16 (lv_at hl 4 rfl) ?_
      refine lv_imul hx hb dX7_setGood_18 ?_
      refine lv_iload hx hb dX7_setGood_19 (lv_at hl 5 rfl) ?_
      refine lv_iadd hx hb dX7_setGood_21 ?_
      refine lv_iconst (v := 1) hx hb dX7_setGood_22 (by decide) ?_
      refine lv_iload_n hx hb dX7_setGood_23 rfl (lv_at hl 3 rfl) ?_
      refine lv_ishl hx hb dX7_setGood_24 ?_
      refine m_iast C hI hF dX7_setGood_25 (fun S2 H locs hF hI => ?_)
      refine lv_iinc (v := v5 + 1) (lv' := [(5, .int (v5 + 1)), (0, .ref (mA E.b v0)), (1, .int v1), (2, .int v2), (3, .int v3), (4, .int v4)]) hx hb dX7_setGood_26 hl (k := 5) rfl rfl (by decide) rfl (fun ls hl => ?_)
      refine lv_goto (tgt := 3) hx hb dX7_setGood_29 (by decide) ?_
      exact ih v0 v1 v2 v3 v4 (v5 + 1) S2 _ _ _ hF hI (lv_sub hl [1, 2, 3, 4, 5, 0] rfl)
set_option maxRecDepth 100000 in
set_option maxHeartbeats 4000000 in
theorem bl_X7_setGood_72 {p : Program} {l : Launch} {e : Env} {s : State} {m : MethodId} {args : Array Value} {below : List Frame} {meth : Method} {c : Code} {E : mE} {n0 : Nat} {F : mS} (C : mCx p s m args meth c cX7_setGood 11 RX7 none E n0) {k105 : Int32 → Int32 → Int32 → Int32 → Int32 → Int32 → Int32 → Int32 → mS → Option mS} (hk105 : ∀ (v0 : Int32) (v1 : Int32) (v2 : Int32) (v5 : Int32) (v6 : Int32) (v7 : Int32) (v8 : Int32) (v9 : Int32) (S : mS) (H : Heap) (locs : List Loc) (ls : Array Slot), k105 v0 v1 v2 v5 v6 v7 v8 v9 S = some F → mIv s E S H locs 0 → lv_has ls 11 [(0, .ref (mA E.b v0)), (1, .int v1), (2, .int v2), (5, .int v5), (6, .int v6), (7, .int v7), (8, .int v8), (9, .int v9)] → W p l e rm_X7_setGood s m args below meth c H locs 0 0 (mQv below args s 0 0 n0 E F) (F0 m 105 ls [])) : ∀ (n : Nat)  (v0 : Int32) (v1 : Int32) (v2 : Int32) (v5 : Int32) (v6 : Int32) (v7 : Int32) (v8 : Int32) (v9 : Int32) (v10 : Int32) (S : mS) (H : Heap) (locs : List Loc) (ls : Array Slot), f_X7_setGood_72 k105 n v0 v1 v2 v5 v6 v7 v8 v9 v10 S = some F → mIv s E S H locs 0 → lv_has ls 11 [(0, .ref (mA E.b v0)), (1, .int v1), (2, .int v2), (5, .int v5), (6, .int v6), (7, .int v7), (8, .int v8), (9, .int v9), (10, .int v10)] → W p l e rm_X7_setGood s m args below meth c H locs 0 0 (mQv below args s 0 0 n0 E F) (F0 m 72 ls []) := by
  have hx := C.1
  have hb := C.2.1
  intro n
  induction n with
  | zero =>
    intro v0 v1 v2 v5 v6 v7 v8 v9 v10 S H locs ls hF
    exact nomatch (show (none : Option mS) = some F from hF)
  | succ n ih =>
    intro v0 v1 v2 v5 v6 v7 v8 v9 v10 S H locs ls hF hI hl
    have hF := (f_X7_setGood_72_s k105 n v0 v1 v2 v5 v6 v7 v8 v9 v10 S).symm.trans hF
    refine lv_iload hx hb dX7_setGood_72 (lv_at hl 8 rfl) ?_
    refine lv_iconst (v := 5) hx hb dX7_setGood_74 (by decide) ?_
    refine m_icmp_ge C (tgt := 105) hF dX7_setGood_75 (by decide) (fun hF => ?_) (fun hF => ?_)
    · exact hk105 v0 v1 v2 v5 v6 v7 v8 v9 S _ _ _ hF hI (lv_sub hl [0, 1, 2, 3, 4, 5, 6, 7] rfl)
    · refine lv_iload hx hb dX7_setGood_78 (lv_at hl 7 rfl) ?_
      refine m_if_ne C (tgt := 105) hF dX7_setGood_80 (by decide) (fun hF => ?_) (fun hF => ?_)
      · exact hk105 v0 v1 v2 v5 v6 v7 v8 v9 S _ _ _ hF hI (lv_sub hl [0, 1, 2, 3, 4, 5, 6, 7] rfl)
      · refine lv_aload_n hx hb dX7_setGood_83 rfl (lv_at hl 0 rfl) ?_
        refine lv_iload_n hx hb dX7_setGood_84 rfl (lv_at hl 1 rfl) ?_
        refine lv_iload_n hx hb dX7_setGood_85 rfl (lv_at hl 2 rfl) ?_
        refine lv_iload hx hb dX7_setGood_86 (lv_at hl 3 rfl) ?_
        refine lv_iload hx hb dX7_setGood_88 (lv_at hl 4 rfl) ?_
        refine lv_iload hx hb dX7_setGood_90 (lv_at hl 6 rfl) ?_
        refine lv_iload hx hb dX7_setGood_92 (lv_at hl 8 rfl) ?_
        refine m_callViR C cd_X7_243 ⟨rfl, by decide⟩ hl.1 hI hF (fun _ h => ok_X7_isGood h) rfl rfl ⟨rfl, rfl, Nat.le_of_ble_eq_true rfl, Nat.le_of_ble_eq_true rfl⟩ ⟨Nat.le_of_ble_eq_true rfl, Nat.le_of_ble_eq_true rfl⟩ (Nat.le_of_ble_eq_true rfl) dX7_setGood_94 (fun r3 H locs hF hI => ?_)
        refine lv_istore (lv' := [(9, .int r3), (0, .ref (mA E.b v0)), (1, .int v1), (2, .int v2), (5, .int v5), (6, .int v6), (7, .int v7), (8, .int v8), (10, .int v10)]) hx hb dX7_setGood_97 hl (by decide) rfl (fun ls hl => ?_)
        refine lv_iinc (v := v10 + 1) (lv' := [(10, .int (v10 + 1)), (9, .int r3), (0, .ref (mA E.b v0)), (1, .int v1), (2, .int v2), (5, .int v5), (6, .int v6), (7, .int v7), (8, .int v8)]) hx hb dX7_setGood_99 hl (k := 8) rfl rfl (by decide) rfl (fun ls hl => ?_)
        refine lv_goto (tgt := 72) hx hb dX7_setGood_102 (by decide) ?_
        exact ih v0 v1 v2 v5 v6 v7 v8 r3 (v10 + 1) S _ _ _ hF hI (lv_sub hl [2, 3, 4, 5, 6, 7, 8, 1, 0] rfl)
set_option maxRecDepth 100000 in
set_option maxHeartbeats 4000000 in
theorem bl_X7_setGood_120 {p : Program} {l : Launch} {e : Env} {s : State} {m : MethodId} {args : Array Value} {below : List Frame} {meth : Method} {c : Code} {E : mE} {n0 : Nat} {F : mS} (C : mCx p s m args meth c cX7_setGood 11 RX7 none E n0) {k59 : Int32 → Int32 → Int32 → Int32 → Int32 → Int32 → Int32 → mS → Option mS} (hk59 : ∀ (v0 : Int32) (v1 : Int32) (v2 : Int32) (v5 : Int32) (v6 : Int32) (v7 : Int32) (v8 : Int32) (S : mS) (H : Heap) (locs : List Loc) (ls : Array Slot), k59 v0 v1 v2 v5 v6 v7 v8 S = some F → mIv s E S H locs 0 → lv_has ls 11 [(0, .ref (mA E.b v0)), (1, .int v1), (2, .int v2), (5, .int v5), (6, .int v6), (7, .int v7), (8, .int v8)] → W p l e rm_X7_setGood s m args below meth c H locs 0 0 (mQv below args s 0 0 n0 E F) (F0 m 59 ls [])) : ∀  (v0 : Int32) (v1 : Int32) (v2 : Int32) (v5 : Int32) (v6 : Int32) (v8 : Int32) (t0 : Int32) (t1 : Int32) (S : mS) (H : Heap) (locs : List Loc) (ls : Array Slot), f_X7_setGood_120 k59 v0 v1 v2 v5 v6 v8 t0 t1 S = some F → mIv s E S H locs 0 → lv_has ls 11 [(0, .ref (mA E.b v0)), (1, .int v1), (2, .int v2), (5, .int v5), (6, .int v6), (8, .int v8)] → W p l e rm_X7_setGood s m args below meth c H locs 0 0 (mQv below args s 0 0 n0 E F) (F0 m 120 ls [.int t1, .int t0]) := by
  have hx := C.1
  have hb := C.2.1
  intro v0 v1 v2 v5 v6 v8 t0 t1 S H locs ls hF hI hl
  refine lv_ior hx hb dX7_setGood_120 ?_
  refine lv_istore (lv' := [(7, .int (t0 ||| t1)), (0, .ref (mA E.b v0)), (1, .int v1), (2, .int v2), (5, .int v5), (6, .int v6), (8, .int v8)]) hx hb dX7_setGood_121 hl (by decide) rfl (fun ls hl => ?_)
  refine lv_iinc (v := v8 + 1) (lv' := [(8, .int (v8 + 1)), (7, .int (t0 ||| t1)), (0, .ref (mA E.b v0)), (1, .int v1), (2, .int v2), (5, .int v5), (6, .int v6)]) hx hb dX7_setGood_123 hl (k := 6) rfl rfl (by decide) rfl (fun ls hl => ?_)
  refine lv_goto (tgt := 59) hx hb dX7_setGood_126 (by decide) ?_
  exact hk59 v0 v1 v2 v5 v6 (t0 ||| t1) (v8 + 1) S _ _ _ hF hI (lv_sub hl [2, 3, 4, 5, 6, 1, 0] rfl)
set_option maxRecDepth 100000 in
set_option maxHeartbeats 4000000 in
theorem bl_X7_setGood_105 {p : Program} {l : Launch} {e : Env} {s : State} {m : MethodId} {args : Array Value} {below : List Frame} {meth : Method} {c : Code} {E : mE} {n0 : Nat} {F : mS} (C : mCx p s m args meth c cX7_setGood 11 RX7 none E n0) {k59 : Int32 → Int32 → Int32 → Int32 → Int32 → Int32 → Int32 → mS → Option mS} (hk59 : ∀ (v0 : Int32) (v1 : Int32) (v2 : Int32) (v5 : Int32) (v6 : Int32) (v7 : Int32) (v8 : Int32) (S : mS) (H : Heap) (locs : List Loc) (ls : Array Slot), k59 v0 v1 v2 v5 v6 v7 v8 S = some F → mIv s E S H locs 0 → lv_has ls 11 [(0, .ref (mA E.b v0)), (1, .int v1), (2, .int v2), (5, .int v5), (6, .int v6), (7, .int v7), (8, .int v8)] → W p l e rm_X7_setGood s m args below meth c H locs 0 0 (mQv below args s 0 0 n0 E F) (F0 m 59 ls [])) : ∀  (v0 : Int32) (v1 : Int32) (v2 : Int32) (v5 : Int32) (v6 : Int32) (v7 : Int32) (v8 : Int32) (v9 : Int32) (S : mS) (H : Heap) (locs : List Loc) (ls : Array Slot), f_X7_setGood_105 k59 v0 v1 v2 v5 v6 v7 v8 v9 S = some F → mIv s E S H locs 0 → lv_has ls 11 [(0, .ref (mA E.b v0)), (1, .int v1), (2, .int v2), (5, .int v5), (6, .int v6), (7, .int v7), (8, .int v8), (9, .int v9)] → W p l e rm_X7_setGood s m args below meth c H locs 0 0 (mQv below args s 0 0 n0 E F) (F0 m 105 ls []) := by
  have hx := C.1
  have hb := C.2.1
  intro v0 v1 v2 v5 v6 v7 v8 v9 S H locs ls hF hI hl
  refine lv_iload hx hb dX7_setGood_105 (lv_at hl 5 rfl) ?_
  refine lv_iload hx hb dX7_setGood_107 (lv_at hl 7 rfl) ?_
  refine m_if_eq C (tgt := 119) hF dX7_setGood_109 (by decide) (fun hF => ?_) (fun hF => ?_)
  · refine lv_iconst (v := 0) hx hb dX7_setGood_119 (by decide) ?_
    exact (bl_X7_setGood_120 C (k59 := k59) hk59) v0 v1 v2 v5 v6 v8 v7 0 S _ _ _ hF hI (lv_sub hl [0, 1, 2, 3, 4, 6] rfl)
  · refine lv_iconst (v := 1) hx hb dX7_setGood_112 (by decide) ?_
    refine lv_iload hx hb dX7_setGood_113 (lv_at hl 6 rfl) ?_
    refine lv_ishl hx hb dX7_setGood_115 ?_
    refine lv_goto (tgt := 120) hx hb dX7_setGood_116 (by decide) ?_
    exact (bl_X7_setGood_120 C (k59 := k59) hk59) v0 v1 v2 v5 v6 v8 v7 (1 <<< (v8 &&& 31)) S _ _ _ hF hI (lv_sub hl [0, 1, 2, 3, 4, 6] rfl)
set_option maxRecDepth 100000 in
set_option maxHeartbeats 4000000 in
theorem bl_X7_setGood_59 {p : Program} {l : Launch} {e : Env} {s : State} {m : MethodId} {args : Array Value} {below : List Frame} {meth : Method} {c : Code} {E : mE} {n0 : Nat} {F : mS} (C : mCx p s m args meth c cX7_setGood 11 RX7 none E n0) {k129 : Int32 → Int32 → Int32 → Int32 → Int32 → Int32 → mS → Option mS} (hk129 : ∀ (v0 : Int32) (v1 : Int32) (v2 : Int32) (v5 : Int32) (v6 : Int32) (v7 : Int32) (S : mS) (H : Heap) (locs : List Loc) (ls : Array Slot), k129 v0 v1 v2 v5 v6 v7 S = some F → mIv s E S H locs 0 → lv_has ls 11 [(0, .ref (mA E.b v0)), (1, .int v1), (2, .int v2), (5, .int v5), (6, .int v6), (7, .int v7)] → W p l e rm_X7_setGood s m args below meth c H locs 0 0 (mQv below args s 0 0 n0 E F) (F0 m 129 ls [])) : ∀ (n : Nat)  (v0 : Int32) (v1 : Int32) (v2 : Int32) (v5 : Int32) (v6 : Int32) (v7 : Int32) (v8 : Int32) (S : mS) (H : Heap) (locs : List Loc) (ls : Array Slot), f_X7_setGood_59 k129 n v0 v1 v2 v5 v6 v7 v8 S = some F → mIv s E S H locs 0 → lv_has ls 11 [(0, .ref (mA E.b v0)), (1, .int v1), (2, .int v2), (5, .int v5), (6, .int v6), (7, .int v7), (8, .int v8)] → W p l e rm_X7_setGood s m args below meth c H locs 0 0 (mQv below args s 0 0 n0 E F) (F0 m 59 ls []) := by
  have hx := C.1
  have hb := C.2.1
  intro n
  induction n with
  | zero =>
    intro v0 v1 v2 v5 v6 v7 v8 S H locs ls hF
    exact nomatch (show (none : Option mS) = some F from hF)
  | succ n ih =>
    intro v0 v1 v2 v5 v6 v7 v8 S H locs ls hF hI hl
    have hF := (f_X7_setGood_59_s k129 n v0 v1 v2 v5 v6 v7 v8 S).symm.trans hF
    refine lv_iload hx hb dX7_setGood_59 (lv_at hl 6 rfl) ?_
    refine lv_bipush (v := 25) hx hb dX7_setGood_61 (by decide) ?_
    refine m_icmp_ge C (tgt := 129) hF dX7_setGood_63 (by decide) (fun hF => ?_) (fun hF => ?_)
    · exact hk129 v0 v1 v2 v5 v6 v7 S _ _ _ hF hI (lv_sub hl [0, 1, 2, 3, 4, 5] rfl)
    · refine lv_iconst (v := 0) hx hb dX7_setGood_66 (by decide) ?_
      refine lv_istore (lv' := [(9, .int 0), (0, .ref (mA E.b v0)), (1, .int v1), (2, .int v2), (5, .int v5), (6, .int v6), (7, .int v7), (8, .int v8)]) hx hb dX7_setGood_67 hl (by decide) rfl (fun ls hl => ?_)
      refine lv_iconst (v := 0) hx hb dX7_setGood_69 (by decide) ?_
      refine lv_istore (lv' := [(10, .int 0), (9, .int 0), (0, .ref (mA E.b v0)), (1, .int v1), (2, .int v2), (5, .int v5), (6, .int v6), (7, .int v7), (8, .int v8)]) hx hb dX7_setGood_70 hl (by decide) rfl (fun ls hl => ?_)
      exact (bl_X7_setGood_72 C (k105 := (f_X7_setGood_105 (f_X7_setGood_59 k129 n))) (bl_X7_setGood_105 C (k59 := (f_X7_setGood_59 k129 n)) ih) 1000) v0 v1 v2 v5 v6 v7 v8 0 0 S _ _ _ hF hI (lv_sub hl [2, 3, 4, 5, 6, 7, 8, 1, 0] rfl)
set_option maxRecDepth 100000 in
set_option maxHeartbeats 4000000 in
theorem bl_X7_setGood_129 {p : Program} {l : Launch} {e : Env} {s : State} {m : MethodId} {args : Array Value} {below : List Frame} {meth : Method} {c : Code} {E : mE} {n0 : Nat} {F : mS} (C : mCx p s m args meth c cX7_setGood 11 RX7 none E n0) {k46 : Int32 → Int32 → Int32 → Int32 → Int32 → mS → Option mS} (hk46 : ∀ (v0 : Int32) (v1 : Int32) (v2 : Int32) (v5 : Int32) (v6 : Int32) (S : mS) (H : Heap) (locs : List Loc) (ls : Array Slot), k46 v0 v1 v2 v5 v6 S = some F → mIv s E S H locs 0 → lv_has ls 11 [(0, .ref (mA E.b v0)), (1, .int v1), (2, .int v2), (5, .int v5), (6, .int v6)] → W p l e rm_X7_setGood s m args below meth c H locs 0 0 (mQv below args s 0 0 n0 E F) (F0 m 46 ls [])) : ∀  (v0 : Int32) (v1 : Int32) (v2 : Int32) (v5 : Int32) (v6 : Int32) (v7 : Int32) (S : mS) (H : Heap) (locs : List Loc) (ls : Array Slot), f_X7_setGood_129 k46 v0 v1 v2 v5 v6 v7 S = some F → mIv s E S H locs 0 → lv_has ls 11 [(0, .ref (mA E.b v0)), (1, .int v1), (2, .int v2), (5, .int v5), (6, .int v6), (7, .int v7)] → W p l e rm_X7_setGood s m args below meth c H locs 0 0 (mQv below args s 0 0 n0 E F) (F0 m 129 ls []) := by
  have hx := C.1
  have hb := C.2.1
  intro v0 v1 v2 v5 v6 v7 S H locs ls hF hI hl
  refine lv_aload_n hx hb dX7_setGood_129 rfl (lv_at hl 0 rfl) ?_
  refine m_getR C fd_X7_50 hI hF dX7_setGood_130 (fun r4 hF => ?_)
  refine lv_bipush (v := 25) hx hb dX7_setGood_133 (by decide) ?_
  refine lv_iload hx hb dX7_setGood_135 (lv_at hl 3 rfl) ?_
  refine lv_imul hx hb dX7_setGood_137 ?_
  refine lv_iload hx hb dX7_setGood_138 (lv_at hl 4 rfl) ?_
  refine lv_iadd hx hb dX7_setGood_140 ?_
  refine lv_iload hx hb dX7_setGood_141 (lv_at hl 5 rfl) ?_
  refine m_iast C hI hF dX7_setGood_143 (fun S5 H locs hF hI => ?_)
  refine lv_iinc (v := v6 + 1) (lv' := [(6, .int (v6 + 1)), (0, .ref (mA E.b v0)), (1, .int v1), (2, .int v2), (5, .int v5), (7, .int v7)]) hx hb dX7_setGood_144 hl (k := 4) rfl rfl (by decide) rfl (fun ls hl => ?_)
  refine lv_goto (tgt := 46) hx hb dX7_setGood_147 (by decide) ?_
  exact hk46 v0 v1 v2 v5 (v6 + 1) S5 _ _ _ hF hI (lv_sub hl [1, 2, 3, 4, 0] rfl)
set_option maxRecDepth 100000 in
set_option maxHeartbeats 4000000 in
theorem bl_X7_setGood_46 {p : Program} {l : Launch} {e : Env} {s : State} {m : MethodId} {args : Array Value} {below : List Frame} {meth : Method} {c : Code} {E : mE} {n0 : Nat} {F : mS} (C : mCx p s m args meth c cX7_setGood 11 RX7 none E n0) {k150 : Int32 → Int32 → Int32 → Int32 → mS → Option mS} (hk150 : ∀ (v0 : Int32) (v1 : Int32) (v2 : Int32) (v5 : Int32) (S : mS) (H : Heap) (locs : List Loc) (ls : Array Slot), k150 v0 v1 v2 v5 S = some F → mIv s E S H locs 0 → lv_has ls 11 [(0, .ref (mA E.b v0)), (1, .int v1), (2, .int v2), (5, .int v5)] → W p l e rm_X7_setGood s m args below meth c H locs 0 0 (mQv below args s 0 0 n0 E F) (F0 m 150 ls [])) : ∀ (n : Nat)  (v0 : Int32) (v1 : Int32) (v2 : Int32) (v5 : Int32) (v6 : Int32) (S : mS) (H : Heap) (locs : List Loc) (ls : Array Slot), f_X7_setGood_46 k150 n v0 v1 v2 v5 v6 S = some F → mIv s E S H locs 0 → lv_has ls 11 [(0, .ref (mA E.b v0)), (1, .int v1), (2, .int v2), (5, .int v5), (6, .int v6)] → W p l e rm_X7_setGood s m args below meth c H locs 0 0 (mQv below args s 0 0 n0 E F) (F0 m 46 ls []) := by
  have hx := C.1
  have hb := C.2.1
  intro n
  induction n with
  | zero =>
    intro v0 v1 v2 v5 v6 S H locs ls hF
    exact nomatch (show (none : Option mS) = some F from hF)
  | succ n ih =>
    intro v0 v1 v2 v5 v6 S H locs ls hF hI hl
    have hF := (f_X7_setGood_46_s k150 n v0 v1 v2 v5 v6 S).symm.trans hF
    refine lv_iload hx hb dX7_setGood_46 (lv_at hl 4 rfl) ?_
    refine lv_bipush (v := 25) hx hb dX7_setGood_48 (by decide) ?_
    refine m_icmp_ge C (tgt := 150) hF dX7_setGood_50 (by decide) (fun hF => ?_) (fun hF => ?_)
    · exact hk150 v0 v1 v2 v5 S _ _ _ hF hI (lv_sub hl [0, 1, 2, 3] rfl)
    · refine lv_iconst (v := 0) hx hb dX7_setGood_53 (by decide) ?_
      refine lv_istore (lv' := [(7, .int 0), (0, .ref (mA E.b v0)), (1, .int v1), (2, .int v2), (5, .int v5), (6, .int v6)]) hx hb dX7_setGood_54 hl (by decide) rfl (fun ls hl => ?_)
      refine lv_iconst (v := 0) hx hb dX7_setGood_56 (by decide) ?_
      refine lv_istore (lv' := [(8, .int 0), (7, .int 0), (0, .ref (mA E.b v0)), (1, .int v1), (2, .int v2), (5, .int v5), (6, .int v6)]) hx hb dX7_setGood_57 hl (by decide) rfl (fun ls hl => ?_)
      exact (bl_X7_setGood_59 C (k129 := (f_X7_setGood_129 (f_X7_setGood_46 k150 n))) (bl_X7_setGood_129 C (k46 := (f_X7_setGood_46 k150 n)) ih) 1000) v0 v1 v2 v5 v6 0 0 S _ _ _ hF hI (lv_sub hl [2, 3, 4, 5, 6, 1, 0] rfl)
set_option maxRecDepth 100000 in
set_option maxHeartbeats 4000000 in
theorem bl_X7_setGood_150 {p : Program} {l : Launch} {e : Env} {s : State} {m : MethodId} {args : Array Value} {below : List Frame} {meth : Method} {c : Code} {E : mE} {n0 : Nat} {F : mS} (C : mCx p s m args meth c cX7_setGood 11 RX7 none E n0) {k38 : Int32 → Int32 → Int32 → Int32 → mS → Option mS} (hk38 : ∀ (v0 : Int32) (v1 : Int32) (v2 : Int32) (v5 : Int32) (S : mS) (H : Heap) (locs : List Loc) (ls : Array Slot), k38 v0 v1 v2 v5 S = some F → mIv s E S H locs 0 → lv_has ls 11 [(0, .ref (mA E.b v0)), (1, .int v1), (2, .int v2), (5, .int v5)] → W p l e rm_X7_setGood s m args below meth c H locs 0 0 (mQv below args s 0 0 n0 E F) (F0 m 38 ls [])) : ∀  (v0 : Int32) (v1 : Int32) (v2 : Int32) (v5 : Int32) (S : mS) (H : Heap) (locs : List Loc) (ls : Array Slot), f_X7_setGood_150 k38 v0 v1 v2 v5 S = some F → mIv s E S H locs 0 → lv_has ls 11 [(0, .ref (mA E.b v0)), (1, .int v1), (2, .int v2), (5, .int v5)] → W p l e rm_X7_setGood s m args below meth c H locs 0 0 (mQv below args s 0 0 n0 E F) (F0 m 150 ls []) := by
  have hx := C.1
  have hb := C.2.1
  intro v0 v1 v2 v5 S H locs ls hF hI hl
  refine lv_iinc (v := v5 + (-1)) (lv' := [(5, .int (v5 + (-1))), (0, .ref (mA E.b v0)), (1, .int v1), (2, .int v2)]) hx hb dX7_setGood_150 hl (k := 3) rfl rfl (by decide) rfl (fun ls hl => ?_)
  refine lv_goto (tgt := 38) hx hb dX7_setGood_153 (by decide) ?_
  exact hk38 v0 v1 v2 (v5 + (-1)) S _ _ _ hF hI (lv_sub hl [1, 2, 3, 0] rfl)
set_option maxRecDepth 100000 in
set_option maxHeartbeats 4000000 in
theorem bl_X7_setGood_38 {p : Program} {l : Launch} {e : Env} {s : State} {m : MethodId} {args : Array Value} {below : List Frame} {meth : Method} {c : Code} {E : mE} {n0 : Nat} {F : mS} (C : mCx p s m args meth c cX7_setGood 11 RX7 none E n0) {k156 : mS → Option mS} (hk156 : ∀ (S : mS) (H : Heap) (locs : List Loc) (ls : Array Slot), k156 S = some F → mIv s E S H locs 0 → lv_has ls 11 [] → W p l e rm_X7_setGood s m args below meth c H locs 0 0 (mQv below args s 0 0 n0 E F) (F0 m 156 ls [])) : ∀ (n : Nat)  (v0 : Int32) (v1 : Int32) (v2 : Int32) (v5 : Int32) (S : mS) (H : Heap) (locs : List Loc) (ls : Array Slot), f_X7_setGood_38 k156 n v0 v1 v2 v5 S = some F → mIv s E S H locs 0 → lv_has ls 11 [(0, .ref (mA E.b v0)), (1, .int v1), (2, .int v2), (5, .int v5)] → W p l e rm_X7_setGood s m args below meth c H locs 0 0 (mQv below args s 0 0 n0 E F) (F0 m 38 ls []) := by
  have hx := C.1
  have hb := C.2.1
  intro n
  induction n with
  | zero =>
    intro v0 v1 v2 v5 S H locs ls hF
    exact nomatch (show (none : Option mS) = some F from hF)
  | succ n ih =>
    intro v0 v1 v2 v5 S H locs ls hF hI hl
    have hF := (f_X7_setGood_38_s k156 n v0 v1 v2 v5 S).symm.trans hF
    refine lv_iload hx hb dX7_setGood_38 (lv_at hl 3 rfl) ?_
    refine m_if_lt C (tgt := 156) hF dX7_setGood_40 (by decide) (fun hF => ?_) (fun hF => ?_)
    · exact hk156 S _ _ _ hF hI (lv_sub hl [] rfl)
    · refine lv_iconst (v := 0) hx hb dX7_setGood_43 (by decide) ?_
      refine lv_istore (lv' := [(6, .int 0), (0, .ref (mA E.b v0)), (1, .int v1), (2, .int v2), (5, .int v5)]) hx hb dX7_setGood_44 hl (by decide) rfl (fun ls hl => ?_)
      exact (bl_X7_setGood_46 C (k150 := (f_X7_setGood_150 (f_X7_setGood_38 k156 n))) (bl_X7_setGood_150 C (k38 := (f_X7_setGood_38 k156 n)) ih) 1000) v0 v1 v2 v5 0 S _ _ _ hF hI (lv_sub hl [1, 2, 3, 4, 0] rfl)
set_option maxRecDepth 100000 in
set_option maxHeartbeats 4000000 in
theorem bl_X7_setGood_156 {p : Program} {l : Launch} {e : Env} {s : State} {m : MethodId} {args : Array Value} {below : List Frame} {meth : Method} {c : Code} {E : mE} {n0 : Nat} {F : mS} (C : mCx p s m args meth c cX7_setGood 11 RX7 none E n0) : ∀  (S : mS) (H : Heap) (locs : List Loc) (ls : Array Slot), f_X7_setGood_156 S = some F → mIv s E S H locs 0 → lv_has ls 11 [] → W p l e rm_X7_setGood s m args below meth c H locs 0 0 (mQv below args s 0 0 n0 E F) (F0 m 156 ls []) := by
  have hx := C.1
  have hb := C.2.1
  intro S H locs ls hF hI hl
  exact m_vret C hI hF dX7_setGood_156
set_option maxRecDepth 100000 in
set_option maxHeartbeats 4000000 in
theorem bl_X7_setGood_32 {p : Program} {l : Launch} {e : Env} {s : State} {m : MethodId} {args : Array Value} {below : List Frame} {meth : Method} {c : Code} {E : mE} {n0 : Nat} {F : mS} (C : mCx p s m args meth c cX7_setGood 11 RX7 none E n0) : ∀  (v0 : Int32) (v1 : Int32) (v2 : Int32) (v4 : Int32) (S : mS) (H : Heap) (locs : List Loc) (ls : Array Slot), f_X7_setGood_32 v0 v1 v2 v4 S = some F → mIv s E S H locs 0 → lv_has ls 11 [(0, .ref (mA E.b v0)), (1, .int v1), (2, .int v2), (4, .int v4)] → W p l e rm_X7_setGood s m args below meth c H locs 0 0 (mQv below args s 0 0 n0 E F) (F0 m 32 ls []) := by
  have hx := C.1
  have hb := C.2.1
  intro v0 v1 v2 v4 S H locs ls hF hI hl
  refine lv_iload hx hb dX7_setGood_32 (lv_at hl 3 rfl) ?_
  refine lv_iconst (v := 1) hx hb dX7_setGood_34 (by decide) ?_
  refine lv_isub hx hb dX7_setGood_35 ?_
  refine lv_istore (lv' := [(5, .int (v4 - 1)), (0, .ref (mA E.b v0)), (1, .int v1), (2, .int v2), (4, .int v4)]) hx hb dX7_setGood_36 hl (by decide) rfl (fun ls hl => ?_)
  exact (bl_X7_setGood_38 C (k156 := (f_X7_setGood_156)) (bl_X7_setGood_156 C) 1000) v0 v1 v2 (v4 - 1) S _ _ _ hF hI (lv_sub hl [1, 2, 3, 0] rfl)
set_option maxRecDepth 100000 in
set_option maxHeartbeats 4000000 in
theorem ok_X7_setGood {l : Launch} {E : mE} {v0 : Int32} {v1 : Int32} {v2 : Int32} {v3 : Int32} {v4 : Int32} {S : mS} {F : mS} (hF : f_X7_setGood v0 v1 v2 v3 v4 S = some F) : mMv l yX7_setGood cX7_setGood 11 none rm_X7_setGood 0 0 [.ref (mA E.b v0), .int v1, .int v2, .int v3, .int v4] E S F := by
  refine m_met_v (by decide) (Nat.le_of_ble_eq_true rfl) (fun p e s m args below meth c ls hin C hI hl => ?_)
  have hx := C.1
  have hb := C.2.1
  have hl : lv_has ls 11 [(0, .ref (mA E.b v0)), (1, .int v1), (2, .int v2), (3, .int v3), (4, .int v4)] := hl
  generalize s.heap = H at hI ⊢
  generalize ([] : List Loc) = locs at hI ⊢
  refine lv_iconst (v := 0) hx hb dX7_setGood_0 (by decide) ?_
  refine lv_istore (lv' := [(5, .int 0), (0, .ref (mA E.b v0)), (1, .int v1), (2, .int v2), (3, .int v3), (4, .int v4)]) hx hb dX7_setGood_1 hl (by decide) rfl (fun ls hl => ?_)
  exact (bl_X7_setGood_3 C (k32 := (f_X7_setGood_32)) (bl_X7_setGood_32 C) 1000) v0 v1 v2 v3 v4 0 S _ _ _ hF hI (lv_sub hl [1, 2, 3, 4, 5, 0] rfl)
noncomputable def f_X7_drive_36 (v0 : Int32) (S : mS) : Option (Int32 × mS) := mRc 7 v0 S (mC (f_X7_bad v0 S) (fun r2 S3 => some ((-10), S3)))
noncomputable def f_X7_drive_55 (k100 : Int32 → Int32 → Int32 → Int32 → Int32 → mS → Option (Int32 × mS)) : Nat → Int32 → Int32 → Int32 → Int32 → Int32 → Int32 → mS → Option (Int32 × mS) := fun n => Nat.rec (motive := fun _ => Int32 → Int32 → Int32 → Int32 → Int32 → Int32 → mS → Option (Int32 × mS)) (fun _ _ _ _ _ _ _ => none) (fun _ rec v0 v1 v2 v3 v4 v5 S => if 10 ≤ v5 then (k100 v0 v1 v2 v4 v5 S) else (mGr 7 23 v0 S (fun r8 => mGr 7 9 v0 S (fun r9 => mX 8 r9 v2 S (fun r10 => mX 8 r8 r10 S (fun r11 => mGr 7 11 v0 S (fun r12 => mX 8 r12 v1 S (fun r13 => mCp (f_X7_has r11 r13) (fun r14 => if r14 = 0 then (mRc 7 v0 S (mCv (f_X7_setGood v0 v1 v2 v3 (v5 + 1) S) (fun S16 => rec v0 v1 v2 v3 v4 (v5 + 1) S16))) else (k100 v0 v1 v2 v4 v5 S)))))))))) n
theorem f_X7_drive_55_s (k100 : Int32 → Int32 → Int32 → Int32 → Int32 → mS → Option (Int32 × mS)) (n : Nat) (v0 : Int32) (v1 : Int32) (v2 : Int32) (v3 : Int32) (v4 : Int32) (v5 : Int32) (S : mS) : f_X7_drive_55 k100 (n + 1) v0 v1 v2 v3 v4 v5 S = if 10 ≤ v5 then (k100 v0 v1 v2 v4 v5 S) else (mGr 7 23 v0 S (fun r8 => mGr 7 9 v0 S (fun r9 => mX 8 r9 v2 S (fun r10 => mX 8 r8 r10 S (fun r11 => mGr 7 11 v0 S (fun r12 => mX 8 r12 v1 S (fun r13 => mCp (f_X7_has r11 r13) (fun r14 => if r14 = 0 then (mRc 7 v0 S (mCv (f_X7_setGood v0 v1 v2 v3 (v5 + 1) S) (fun S16 => (f_X7_drive_55 k100 n) v0 v1 v2 v3 v4 (v5 + 1) S16))) else (k100 v0 v1 v2 v4 v5 S))))))))) := rfl
noncomputable def f_X7_drive_150 (t0 : Int32) (S : mS) : Option (Int32 × mS) := some (t0, S)
noncomputable def f_X7_drive_138 (v4 : Int32) (v5 : Int32) (S : mS) : Option (Int32 × mS) := if 0 ≤ v4 then ((f_X7_drive_150) (-5) S) else ((f_X7_drive_150) v5 S)
noncomputable def f_X7_drive_183 (k206 : Int32 → Int32 → Int32 → Int32 → Int32 → Int32 → Int32 → Int32 → mS → Option (Int32 × mS)) : Nat → Int32 → Int32 → Int32 → Int32 → Int32 → Int32 → Int32 → Int32 → mS → Option (Int32 × mS) := fun n => Nat.rec (motive := fun _ => Int32 → Int32 → Int32 → Int32 → Int32 → Int32 → Int32 → Int32 → mS → Option (Int32 × mS)) (fun _ _ _ _ _ _ _ _ _ => none) (fun _ rec v0 v1 v2 v4 v6 v7 v8 v9 S => mRc 7 v0 S (mCp (f_X7_isGood v0 v1 v2 v9 v6 v7 v8 S) (fun r28 => if r28 = 0 then (rec v0 v1 v2 v4 v6 v7 (v8 + 1) v9 S) else (k206 v0 v1 v2 v4 v6 v7 v8 v9 S)))) n
theorem f_X7_drive_183_s (k206 : Int32 → Int32 → Int32 → Int32 → Int32 → Int32 → Int32 → Int32 → mS → Option (Int32 × mS)) (n : Nat) (v0 : Int32) (v1 : Int32) (v2 : Int32) (v4 : Int32) (v6 : Int32) (v7 : Int32) (v8 : Int32) (v9 : Int32) (S : mS) : f_X7_drive_183 k206 (n + 1) v0 v1 v2 v4 v6 v7 v8 v9 S = mRc 7 v0 S (mCp (f_X7_isGood v0 v1 v2 v9 v6 v7 v8 S) (fun r28 => if r28 = 0 then ((f_X7_drive_183 k206 n) v0 v1 v2 v4 v6 v7 (v8 + 1) v9 S) else (k206 v0 v1 v2 v4 v6 v7 v8 v9 S))) := rfl
noncomputable def f_X7_drive_206 (k173 : Int32 → Int32 → Int32 → Int32 → Int32 → Int32 → Int32 → Int32 → mS → Option (Int32 × mS)) (v0 : Int32) (v1 : Int32) (v2 : Int32) (v4 : Int32) (v6 : Int32) (v7 : Int32) (v8 : Int32) (v9 : Int32) (S : mS) : Option (Int32 × mS) := mG 7 4 v0 S (fun r29 => mRc 7 v0 S (mCp (f_X7_whistleThen v0 v2 v6 v8 (r29 + v9) S) (fun r30 => mRc 7 v0 S (mCp (f_X7_sheepThen v0 v1 v7 r30 S) (fun r31 => k173 v0 v1 v2 v4 r30 r31 v8 (v9 + 1) S)))))
noncomputable def f_X7_drive_173 (k241 : Int32 → mS → Option (Int32 × mS)) : Nat → Int32 → Int32 → Int32 → Int32 → Int32 → Int32 → Int32 → Int32 → mS → Option (Int32 × mS) := fun n => Nat.rec (motive := fun _ => Int32 → Int32 → Int32 → Int32 → Int32 → Int32 → Int32 → Int32 → mS → Option (Int32 × mS)) (fun _ _ _ _ _ _ _ _ _ => none) (fun _ rec v0 v1 v2 v4 v6 v7 v8 v9 S => if v4 < v9 then (k241 v8 S) else ((f_X7_drive_183 (f_X7_drive_206 rec) 1000) v0 v1 v2 v4 v6 v7 0 v9 S)) n
theorem f_X7_drive_173_s (k241 : Int32 → mS → Option (Int32 × mS)) (n : Nat) (v0 : Int32) (v1 : Int32) (v2 : Int32) (v4 : Int32) (v6 : Int32) (v7 : Int32) (v8 : Int32) (v9 : Int32) (S : mS) : f_X7_drive_173 k241 (n + 1) v0 v1 v2 v4 v6 v7 v8 v9 S = if v4 < v9 then (k241 v8 S) else ((f_X7_drive_183 (f_X7_drive_206 (f_X7_drive_173 k241 n)) 1000) v0 v1 v2 v4 v6 v7 0 v9 S) := rfl
noncomputable def f_X7_drive_241 (v8 : Int32) (S : mS) : Option (Int32 × mS) := some (v8, S)
noncomputable def f_X7_drive_100 (v0 : Int32) (v1 : Int32) (v2 : Int32) (v4 : Int32) (v5 : Int32) (S : mS) : Option (Int32 × mS) := mGr 7 23 v0 S (fun r17 => mGr 7 9 v0 S (fun r18 => mX 8 r18 v2 S (fun r19 => mX 8 r17 r19 S (fun r20 => mGr 7 11 v0 S (fun r21 => mX 8 r21 v1 S (fun r22 => mCp (f_X7_has r20 r22) (fun r23 => if r23 = 0 then (some ((-6), S)) else (if v4 < 0 then ((f_X7_drive_138) v4 v5 S) else (if v4 < v5 then (mGr 7 9 v0 S (fun r24 => mX 8 r24 v2 S (fun r25 => mGr 7 11 v0 S (fun r26 => mX 8 r26 v1 S (fun r27 => (f_X7_drive_173 (f_X7_drive_241) 1000) v0 v1 v2 v4 r25 r27 0 0 S))))) else ((f_X7_drive_138) v4 v5 S))))))))))
noncomputable def f_X7_drive (v0 : Int32) (v1 : Int32) (v2 : Int32) (v3 : Int32) (v4 : Int32) (S : mS) : Option (Int32 × mS) := mRc 7 v0 S (mCp (f_X7_isSheep v0 v1 S) (fun r1 => if r1 = 0 then ((f_X7_drive_36) v0 S) else (mRc 7 v0 S (mCp (f_X7_isWhistle v0 v2 S) (fun r4 => if r4 = 0 then ((f_X7_drive_36) v0 S) else (mCp (f_X7_isCell v3) (fun r5 => if r5 = 0 then ((f_X7_drive_36) v0 S) else (if v4 = (-1) then ((f_X7_drive_36) v0 S) else (if (-2) ≤ v4 then (mRc 7 v0 S (mCv (f_X7_setGood v0 v1 v2 v3 0 S) (fun S7 => (f_X7_drive_55 (f_X7_drive_100) 1000) v0 v1 v2 v3 v4 0 S7))) else ((f_X7_drive_36) v0 S))))))))))
def rm_X7_drive : Room := { frames := 5, cells := 0, slots := 0, locals := 130 }
set_option maxRecDepth 100000 in
set_option maxHeartbeats 4000000 in
theorem bl_X7_drive_36 {p : Program} {l : Launch} {e : Env} {s : State} {m : MethodId} {args : Array Value} {below : List Frame} {meth : Method} {c : Code} {E : mE} {n0 : Nat} {F : Int32 × mS} (C : mCx p s m args meth c cX7_drive 10 RX7 (some .int) E n0) : ∀  (v0 : Int32) (S : mS) (H : Heap) (locs : List Loc) (ls : Array Slot), f_X7_drive_36 v0 S = some F → mIv s E S H locs 0 → lv_has ls 10 [(0, .ref (mA E.b v0))] → W p l e rm_X7_drive s m args below meth c H locs 0 0 (mQi below args s 0 0 n0 E F) (F0 m 36 ls []) := by
  have hx := C.1
  have hb := C.2.1
  intro v0 S H locs ls hF hI hl
  refine lv_aload_n hx hb dX7_drive_36 rfl (lv_at hl 0 rfl) ?_
  refine m_callVi C cd_X7_103 ⟨rfl, by decide⟩ hl.1 hI hF (fun _ h => ok_X7_bad h) rfl rfl ⟨rfl, rfl, Nat.le_of_ble_eq_true rfl, Nat.le_of_ble_eq_true rfl⟩ ⟨Nat.le_of_ble_eq_true rfl, Nat.le_of_ble_eq_true rfl⟩ (Nat.le_of_ble_eq_true rfl) dX7_drive_37 (fun r2 S3 H locs hF hI => ?_)
  refine lv_pop hx hb dX7_drive_40 rfl ?_
  refine lv_bipush (v := (-10)) hx hb dX7_drive_41 (by decide) ?_
  exact m_ireti C hI hF dX7_drive_43
set_option maxRecDepth 100000 in
set_option maxHeartbeats 4000000 in
theorem bl_X7_drive_55 {p : Program} {l : Launch} {e : Env} {s : State} {m : MethodId} {args : Array Value} {below : List Frame} {meth : Method} {c : Code} {E : mE} {n0 : Nat} {F : Int32 × mS} (C : mCx p s m args meth c cX7_drive 10 RX7 (some .int) E n0) {k100 : Int32 → Int32 → Int32 → Int32 → Int32 → mS → Option (Int32 × mS)} (hk100 : ∀ (v0 : Int32) (v1 : Int32) (v2 : Int32) (v4 : Int32) (v5 : Int32) (S : mS) (H : Heap) (locs : List Loc) (ls : Array Slot), k100 v0 v1 v2 v4 v5 S = some F → mIv s E S H locs 0 → lv_has ls 10 [(0, .ref (mA E.b v0)), (1, .int v1), (2, .int v2), (4, .int v4), (5, .int v5)] → W p l e rm_X7_drive s m args below meth c H locs 0 0 (mQi below args s 0 0 n0 E F) (F0 m 100 ls [])) : ∀ (n : Nat)  (v0 : Int32) (v1 : Int32) (v2 : Int32) (v3 : Int32) (v4 : Int32) (v5 : Int32) (S : mS) (H : Heap) (locs : List Loc) (ls : Array Slot), f_X7_drive_55 k100 n v0 v1 v2 v3 v4 v5 S = some F → mIv s E S H locs 0 → lv_has ls 10 [(0, .ref (mA E.b v0)), (1, .int v1), (2, .int v2), (3, .int v3), (4, .int v4), (5, .int v5)] → W p l e rm_X7_drive s m args below meth c H locs 0 0 (mQi below args s 0 0 n0 E F) (F0 m 55 ls []) := by
  have hx := C.1
  have hb := C.2.1
  intro n
  induction n with
  | zero =>
    intro v0 v1 v2 v3 v4 v5 S H locs ls hF
    exact nomatch (show (none : Option (Int32 × mS)) = some F from hF)
  | succ n ih =>
    intro v0 v1 v2 v3 v4 v5 S H locs ls hF hI hl
    have hF := (f_X7_drive_55_s k100 n v0 v1 v2 v3 v4 v5 S).symm.trans hF
    refine lv_iload hx hb dX7_drive_55 (lv_at hl 5 rfl) ?_
    refine lv_bipush (v := 10) hx hb dX7_drive_57 (by decide) ?_
    refine m_icmp_ge C (tgt := 100) hF dX7_drive_59 (by decide) (fun hF => ?_) (fun hF => ?_)
    · exact hk100 v0 v1 v2 v4 v5 S _ _ _ hF hI (lv_sub hl [0, 1, 2, 4, 5] rfl)
    · refine lv_aload_n hx hb dX7_drive_62 rfl (lv_at hl 0 rfl) ?_
      refine m_getR C fd_X7_50 hI hF dX7_drive_63 (fun r8 hF => ?_)
      refine lv_aload_n hx hb dX7_drive_66 rfl (lv_at hl 0 rfl) ?_
      refine m_getR C fd_X7_20 hI hF dX7_drive_67 (fun r9 hF => ?_)
      refine lv_iload_n hx hb dX7_drive_70 rfl (lv_at hl 2 rfl) ?_
      refine m_iald C hI hF dX7_drive_71 (fun r10 hF => ?_)
      refine m_iald C hI hF dX7_drive_72 (fun r11 hF => ?_)
      refine lv_aload_n hx hb dX7_drive_73 rfl (lv_at hl 0 rfl) ?_
      refine m_getR C fd_X7_26 hI hF dX7_drive_74 (fun r12 hF => ?_)
      refine lv_iload_n hx hb dX7_drive_77 rfl (lv_at hl 1 rfl) ?_
      refine m_iald C hI hF dX7_drive_78 (fun r13 hF => ?_)
      refine m_callSiR C cd_X7_240 hl.1 hI hF (fun _ h => ok_X7_has h) rfl rfl ⟨rfl, rfl, Nat.le_of_ble_eq_true rfl, Nat.le_of_ble_eq_true rfl⟩ ⟨Nat.le_of_ble_eq_true rfl, Nat.le_of_ble_eq_true rfl⟩ (Nat.le_of_ble_eq_true rfl) dX7_drive_79 (fun r14 H locs hF hI => ?_)
      refine m_if_ne C (tgt := 100) hF dX7_drive_82 (by decide) (fun hF => ?_) (fun hF => ?_)
      · exact hk100 v0 v1 v2 v4 v5 S _ _ _ hF hI (lv_sub hl [0, 1, 2, 4, 5] rfl)
      · refine lv_iinc (v := v5 + 1) (lv' := [(5, .int (v5 + 1)), (0, .ref (mA E.b v0)), (1, .int v1), (2, .int v2), (3, .int v3), (4, .int v4)]) hx hb dX7_drive_85 hl (k := 5) rfl rfl (by decide) rfl (fun ls hl => ?_)
        refine lv_aload_n hx hb dX7_drive_88 rfl (lv_at hl 1 rfl) ?_
        refine lv_iload_n hx hb dX7_drive_89 rfl (lv_at hl 2 rfl) ?_
        refine lv_iload_n hx hb dX7_drive_90 rfl (lv_at hl 3 rfl) ?_
        refine lv_iload_n hx hb dX7_drive_91 rfl (lv_at hl 4 rfl) ?_
        refine lv_iload hx hb dX7_drive_92 (lv_at hl 0 rfl) ?_
        refine m_callVv C cd_X7_247 ⟨rfl, by decide⟩ hl.1 hI hF (fun _ h => ok_X7_setGood h) rfl rfl ⟨rfl, rfl, Nat.le_of_ble_eq_true rfl, Nat.le_of_ble_eq_true rfl⟩ ⟨Nat.le_of_ble_eq_true rfl, Nat.le_of_ble_eq_true rfl⟩ (Nat.le_of_ble_eq_true rfl) dX7_drive_94 (fun S16 H locs hF hI => ?_)
        refine lv_goto (tgt := 55) hx hb dX7_drive_97 (by decide) ?_
        exact ih v0 v1 v2 v3 v4 (v5 + 1) S16 _ _ _ hF hI (lv_sub hl [1, 2, 3, 4, 5, 0] rfl)
set_option maxRecDepth 100000 in
set_option maxHeartbeats 4000000 in
theorem bl_X7_drive_150 {p : Program} {l : Launch} {e : Env} {s : State} {m : MethodId} {args : Array Value} {below : List Frame} {meth : Method} {c : Code} {E : mE} {n0 : Nat} {F : Int32 × mS} (C : mCx p s m args meth c cX7_drive 10 RX7 (some .int) E n0) : ∀  (t0 : Int32) (S : mS) (H : Heap) (locs : List Loc) (ls : Array Slot), f_X7_drive_150 t0 S = some F → mIv s E S H locs 0 → lv_has ls 10 [] → W p l e rm_X7_drive s m args below meth c H locs 0 0 (mQi below args s 0 0 n0 E F) (F0 m 150 ls [.int t0]) := by
  have hx := C.1
  have hb := C.2.1
  intro t0 S H locs ls hF hI hl
  exact m_ireti C hI hF dX7_drive_150
set_option maxRecDepth 100000 in
set_option maxHeartbeats 4000000 in
theorem bl_X7_drive_138 {p : Program} {l : Launch} {e : Env} {s : State} {m : MethodId} {args : Array Value} {below : List Frame} {meth : Method} {c : Code} {E : mE} {n0 : Nat} {F : Int32 × mS} (C : mCx p s m args meth c cX7_drive 10 RX7 (some .int) E n0) : ∀  (v4 : Int32) (v5 : Int32) (S : mS) (H : Heap) (locs : List Loc) (ls : Array Slot), f_X7_drive_138 v4 v5 S = some F → mIv s E S H locs 0 → lv_has ls 10 [(4, .int v4), (5, .int v5)] → W p l e rm_X7_drive s m args below meth c H locs 0 0 (mQi below args s 0 0 n0 E F) (F0 m 138 ls []) := by
  have hx := C.1
  have hb := C.2.1
  intro v4 v5 S H locs ls hF hI hl
  refine lv_iload hx hb dX7_drive_138 (lv_at hl 0 rfl) ?_
  refine m_if_ge C (tgt := 148) hF dX7_drive_140 (by decide) (fun hF => ?_) (fun hF => ?_)
  · refine lv_bipush (v := (-5)) hx hb dX7_drive_148 (by decide) ?_
    exact (bl_X7_drive_150 C) (-5) S _ _ _ hF hI (lv_sub hl [] rfl)
  · refine lv_iload hx hb dX7_drive_143 (lv_at hl 1 rfl) ?_
    refine lv_goto (tgt := 150) hx hb dX7_drive_145 (by decide) ?_
    exact (bl_X7_drive_150 C) v5 S _ _ _ hF hI (lv_sub hl [] rfl)
set_option maxRecDepth 100000 in
set_option maxHeartbeats 4000000 in
theorem bl_X7_drive_183 {p : Program} {l : Launch} {e : Env} {s : State} {m : MethodId} {args : Array Value} {below : List Frame} {meth : Method} {c : Code} {E : mE} {n0 : Nat} {F : Int32 × mS} (C : mCx p s m args meth c cX7_drive 10 RX7 (some .int) E n0) {k206 : Int32 → Int32 → Int32 → Int32 → Int32 → Int32 → Int32 → Int32 → mS → Option (Int32 × mS)} (hk206 : ∀ (v0 : Int32) (v1 : Int32) (v2 : Int32) (v4 : Int32) (v6 : Int32) (v7 : Int32) (v8 : Int32) (v9 : Int32) (S : mS) (H : Heap) (locs : List Loc) (ls : Array Slot), k206 v0 v1 v2 v4 v6 v7 v8 v9 S = some F → mIv s E S H locs 0 → lv_has ls 10 [(0, .ref (mA E.b v0)), (1, .int v1), (2, .int v2), (4, .int v4), (6, .int v6), (7, .int v7), (8, .int v8), (9, .int v9)] → W p l e rm_X7_drive s m args below meth c H locs 0 0 (mQi below args s 0 0 n0 E F) (F0 m 206 ls [])) : ∀ (n : Nat)  (v0 : Int32) (v1 : Int32) (v2 : Int32) (v4 : Int32) (v6 : Int32) (v7 : Int32) (v8 : Int32) (v9 : Int32) (S : mS) (H : Heap) (locs : List Loc) (ls : Array Slot), f_X7_drive_183 k206 n v0 v1 v2 v4 v6 v7 v8 v9 S = some F → mIv s E S H locs 0 → lv_has ls 10 [(0, .ref (mA E.b v0)), (1, .int v1), (2, .int v2), (4, .int v4), (6, .int v6), (7, .int v7), (8, .int v8), (9, .int v9)] → W p l e rm_X7_drive s m args below meth c H locs 0 0 (mQi below args s 0 0 n0 E F) (F0 m 183 ls []) := by
  have hx := C.1
  have hb := C.2.1
  intro n
  induction n with
  | zero =>
    intro v0 v1 v2 v4 v6 v7 v8 v9 S H locs ls hF
    exact nomatch (show (none : Option (Int32 × mS)) = some F from hF)
  | succ n ih =>
    intro v0 v1 v2 v4 v6 v7 v8 v9 S H locs ls hF hI hl
    have hF := (f_X7_drive_183_s k206 n v0 v1 v2 v4 v6 v7 v8 v9 S).symm.trans hF
    refine lv_aload_n hx hb dX7_drive_183 rfl (lv_at hl 0 rfl) ?_
    refine lv_iload_n hx hb dX7_drive_184 rfl (lv_at hl 1 rfl) ?_
    refine lv_iload_n hx hb dX7_drive_185 rfl (lv_at hl 2 rfl) ?_
    refine lv_iload hx hb dX7_drive_186 (lv_at hl 7 rfl) ?_
    refine lv_iload hx hb dX7_drive_188 (lv_at hl 4 rfl) ?_
    refine lv_iload hx hb dX7_drive_190 (lv_at hl 5 rfl) ?_
    refine lv_iload hx hb dX7_drive_192 (lv_at hl 6 rfl) ?_
    refine m_callViR C cd_X7_243 ⟨rfl, by decide⟩ hl.1 hI hF (fun _ h => ok_X7_isGood h) rfl rfl ⟨rfl, rfl, Nat.le_of_ble_eq_true rfl, Nat.le_of_ble_eq_true rfl⟩ ⟨Nat.le_of_ble_eq_true rfl, Nat.le_of_ble_eq_true rfl⟩ (Nat.le_of_ble_eq_true rfl) dX7_drive_194 (fun r28 H locs hF hI => ?_)
    refine m_if_ne C (tgt := 206) hF dX7_drive_197 (by decide) (fun hF => ?_) (fun hF => ?_)
    · exact hk206 v0 v1 v2 v4 v6 v7 v8 v9 S _ _ _ hF hI (lv_sub hl [0, 1, 2, 3, 4, 5, 6, 7] rfl)
    · refine lv_iinc (v := v8 + 1) (lv' := [(8, .int (v8 + 1)), (0, .ref (mA E.b v0)), (1, .int v1), (2, .int v2), (4, .int v4), (6, .int v6), (7, .int v7), (9, .int v9)]) hx hb dX7_drive_200 hl (k := 6) rfl rfl (by decide) rfl (fun ls hl => ?_)
      refine lv_goto (tgt := 183) hx hb dX7_drive_203 (by decide) ?_
      exact ih v0 v1 v2 v4 v6 v7 (v8 + 1) v9 S _ _ _ hF hI (lv_sub hl [1, 2, 3, 4, 5, 6, 0, 7] rfl)
set_option maxRecDepth 100000 in
set_option maxHeartbeats 4000000 in
theorem bl_X7_drive_206 {p : Program} {l : Launch} {e : Env} {s : State} {m : MethodId} {args : Array Value} {below : List Frame} {meth : Method} {c : Code} {E : mE} {n0 : Nat} {F : Int32 × mS} (C : mCx p s m args meth c cX7_drive 10 RX7 (some .int) E n0) {k173 : Int32 → Int32 → Int32 → Int32 → Int32 → Int32 → Int32 → Int32 → mS → Option (Int32 × mS)} (hk173 : ∀ (v0 : Int32) (v1 : Int32) (v2 : Int32) (v4 : Int32) (v6 : Int32) (v7 : Int32) (v8 : Int32) (v9 : Int32) (S : mS) (H : Heap) (locs : List Loc) (ls : Array Slot), k173 v0 v1 v2 v4 v6 v7 v8 v9 S = some F → mIv s E S H locs 0 → lv_has ls 10 [(0, .ref (mA E.b v0)), (1, .int v1), (2, .int v2), (4, .int v4), (6, .int v6), (7, .int v7), (8, .int v8), (9, .int v9)] → W p l e rm_X7_drive s m args below meth c H locs 0 0 (mQi below args s 0 0 n0 E F) (F0 m 173 ls [])) : ∀  (v0 : Int32) (v1 : Int32) (v2 : Int32) (v4 : Int32) (v6 : Int32) (v7 : Int32) (v8 : Int32) (v9 : Int32) (S : mS) (H : Heap) (locs : List Loc) (ls : Array Slot), f_X7_drive_206 k173 v0 v1 v2 v4 v6 v7 v8 v9 S = some F → mIv s E S H locs 0 → lv_has ls 10 [(0, .ref (mA E.b v0)), (1, .int v1), (2, .int v2), (4, .int v4), (6, .int v6), (7, .int v7), (8, .int v8), (9, .int v9)] → W p l e rm_X7_drive s m args below meth c H locs 0 0 (mQi below args s 0 0 n0 E F) (F0 m 206 ls []) := by
  have hx := C.1
  have hb := C.2.1
  intro v0 v1 v2 v4 v6 v7 v8 v9 S H locs ls hF hI hl
  refine lv_aload_n hx hb dX7_drive_206 rfl (lv_at hl 0 rfl) ?_
  refine lv_iload_n hx hb dX7_drive_207 rfl (lv_at hl 2 rfl) ?_
  refine lv_iload hx hb dX7_drive_208 (lv_at hl 4 rfl) ?_
  refine lv_iload hx hb dX7_drive_210 (lv_at hl 6 rfl) ?_
  refine lv_aload_n hx hb dX7_drive_212 rfl (lv_at hl 0 rfl) ?_
  refine m_get C fd_X7_80 hI hF dX7_drive_213 (fun r29 hF => ?_)
  refine lv_iload hx hb dX7_drive_216 (lv_at hl 7 rfl) ?_
  refine lv_iadd hx hb dX7_drive_218 ?_
  refine m_callViR C cd_X7_209 ⟨rfl, by decide⟩ hl.1 hI hF (fun _ h => ok_X7_whistleThen h) rfl rfl ⟨rfl, rfl, Nat.le_of_ble_eq_true rfl, Nat.le_of_ble_eq_true rfl⟩ ⟨Nat.le_of_ble_eq_true rfl, Nat.le_of_ble_eq_true rfl⟩ (Nat.le_of_ble_eq_true rfl) dX7_drive_219 (fun r30 H locs hF hI => ?_)
  refine lv_istore (lv' := [(6, .int r30), (0, .ref (mA E.b v0)), (1, .int v1), (2, .int v2), (4, .int v4), (7, .int v7), (8, .int v8), (9, .int v9)]) hx hb dX7_drive_222 hl (by decide) rfl (fun ls hl => ?_)
  refine lv_aload_n hx hb dX7_drive_224 rfl (lv_at hl 1 rfl) ?_
  refine lv_iload_n hx hb dX7_drive_225 rfl (lv_at hl 2 rfl) ?_
  refine lv_iload hx hb dX7_drive_226 (lv_at hl 5 rfl) ?_
  refine lv_iload hx hb dX7_drive_228 (lv_at hl 0 rfl) ?_
  refine m_callViR C cd_X7_213 ⟨rfl, by decide⟩ hl.1 hI hF (fun _ h => ok_X7_sheepThen h) rfl rfl ⟨rfl, rfl, Nat.le_of_ble_eq_true rfl, Nat.le_of_ble_eq_true rfl⟩ ⟨Nat.le_of_ble_eq_true rfl, Nat.le_of_ble_eq_true rfl⟩ (Nat.le_of_ble_eq_true rfl) dX7_drive_230 (fun r31 H locs hF hI => ?_)
  refine lv_istore (lv' := [(7, .int r31), (6, .int r30), (0, .ref (mA E.b v0)), (1, .int v1), (2, .int v2), (4, .int v4), (8, .int v8), (9, .int v9)]) hx hb dX7_drive_233 hl (by decide) rfl (fun ls hl => ?_)
  refine lv_iinc (v := v9 + 1) (lv' := [(9, .int (v9 + 1)), (7, .int r31), (6, .int r30), (0, .ref (mA E.b v0)), (1, .int v1), (2, .int v2), (4, .int v4), (8, .int v8)]) hx hb dX7_drive_235 hl (k := 7) rfl rfl (by decide) rfl (fun ls hl => ?_)
  refine lv_goto (tgt := 173) hx hb dX7_drive_238 (by decide) ?_
  exact hk173 v0 v1 v2 v4 r30 r31 v8 (v9 + 1) S _ _ _ hF hI (lv_sub hl [3, 4, 5, 6, 2, 1, 7, 0] rfl)
set_option maxRecDepth 100000 in
set_option maxHeartbeats 4000000 in
theorem bl_X7_drive_173 {p : Program} {l : Launch} {e : Env} {s : State} {m : MethodId} {args : Array Value} {below : List Frame} {meth : Method} {c : Code} {E : mE} {n0 : Nat} {F : Int32 × mS} (C : mCx p s m args meth c cX7_drive 10 RX7 (some .int) E n0) {k241 : Int32 → mS → Option (Int32 × mS)} (hk241 : ∀ (v8 : Int32) (S : mS) (H : Heap) (locs : List Loc) (ls : Array Slot), k241 v8 S = some F → mIv s E S H locs 0 → lv_has ls 10 [(8, .int v8)] → W p l e rm_X7_drive s m args below meth c H locs 0 0 (mQi below args s 0 0 n0 E F) (F0 m 241 ls [])) : ∀ (n : Nat)  (v0 : Int32) (v1 : Int32) (v2 : Int32) (v4 : Int32) (v6 : Int32) (v7 : Int32) (v8 : Int32) (v9 : Int32) (S : mS) (H : Heap) (locs : List Loc) (ls : Array Slot), f_X7_drive_173 k241 n v0 v1 v2 v4 v6 v7 v8 v9 S = some F → mIv s E S H locs 0 → lv_has ls 10 [(0, .ref (mA E.b v0)), (1, .int v1), (2, .int v2), (4, .int v4), (6, .int v6), (7, .int v7), (8, .int v8), (9, .int v9)] → W p l e rm_X7_drive s m args below meth c H locs 0 0 (mQi below args s 0 0 n0 E F) (F0 m 173 ls []) := by
  have hx := C.1
  have hb := C.2.1
  intro n
  induction n with
  | zero =>
    intro v0 v1 v2 v4 v6 v7 v8 v9 S H locs ls hF
    exact nomatch (show (none : Option (Int32 × mS)) = some F from hF)
  | succ n ih =>
    intro v0 v1 v2 v4 v6 v7 v8 v9 S H locs ls hF hI hl
    have hF := (f_X7_drive_173_s k241 n v0 v1 v2 v4 v6 v7 v8 v9 S).symm.trans hF
    refine lv_iload hx hb dX7_drive_173 (lv_at hl 7 rfl) ?_
    refine lv_iload hx hb dX7_drive_175 (lv_at hl 3 rfl) ?_
    refine m_icmp_gt C (tgt := 241) hF dX7_drive_177 (by decide) (fun hF => ?_) (fun hF => ?_)
    · exact hk241 v8 S _ _ _ hF hI (lv_sub hl [6] rfl)
    · refine lv_iconst (v := 0) hx hb dX7_drive_180 (by decide) ?_
      refine lv_istore (lv' := [(8, .int 0), (0, .ref (mA E.b v0)), (1, .int v1), (2, .int v2), (4, .int v4), (6, .int v6), (7, .int v7), (9, .int v9)]) hx hb dX7_drive_181 hl (by decide) rfl (fun ls hl => ?_)
      exact (bl_X7_drive_183 C (k206 := (f_X7_drive_206 (f_X7_drive_173 k241 n))) (bl_X7_drive_206 C (k173 := (f_X7_drive_173 k241 n)) ih) 1000) v0 v1 v2 v4 v6 v7 0 v9 S _ _ _ hF hI (lv_sub hl [1, 2, 3, 4, 5, 6, 0, 7] rfl)
set_option maxRecDepth 100000 in
set_option maxHeartbeats 4000000 in
theorem bl_X7_drive_241 {p : Program} {l : Launch} {e : Env} {s : State} {m : MethodId} {args : Array Value} {below : List Frame} {meth : Method} {c : Code} {E : mE} {n0 : Nat} {F : Int32 × mS} (C : mCx p s m args meth c cX7_drive 10 RX7 (some .int) E n0) : ∀  (v8 : Int32) (S : mS) (H : Heap) (locs : List Loc) (ls : Array Slot), f_X7_drive_241 v8 S = some F → mIv s E S H locs 0 → lv_has ls 10 [(8, .int v8)] → W p l e rm_X7_drive s m args below meth c H locs 0 0 (mQi below args s 0 0 n0 E F) (F0 m 241 ls []) := by
  have hx := C.1
  have hb := C.2.1
  intro v8 S H locs ls hF hI hl
  refine lv_iload hx hb dX7_drive_241 (lv_at hl 0 rfl) ?_
  exact m_ireti C hI hF dX7_drive_243
set_option maxRecDepth 100000 in
set_option maxHeartbeats 4000000 in
theorem bl_X7_drive_100 {p : Program} {l : Launch} {e : Env} {s : State} {m : MethodId} {args : Array Value} {below : List Frame} {meth : Method} {c : Code} {E : mE} {n0 : Nat} {F : Int32 × mS} (C : mCx p s m args meth c cX7_drive 10 RX7 (some .int) E n0) : ∀  (v0 : Int32) (v1 : Int32) (v2 : Int32) (v4 : Int32) (v5 : Int32) (S : mS) (H : Heap) (locs : List Loc) (ls : Array Slot), f_X7_drive_100 v0 v1 v2 v4 v5 S = some F → mIv s E S H locs 0 → lv_has ls 10 [(0, .ref (mA E.b v0)), (1, .int v1), (2, .int v2), (4, .int v4), (5, .int v5)] → W p l e rm_X7_drive s m args below meth c H locs 0 0 (mQi below args s 0 0 n0 E F) (F0 m 100 ls []) := by
  have hx := C.1
  have hb := C.2.1
  intro v0 v1 v2 v4 v5 S H locs ls hF hI hl
  refine lv_aload_n hx hb dX7_drive_100 rfl (lv_at hl 0 rfl) ?_
  refine m_getR C fd_X7_50 hI hF dX7_drive_101 (fun r17 hF => ?_)
  refine lv_aload_n hx hb dX7_drive_104 rfl (lv_at hl 0 rfl) ?_
  refine m_getR C fd_X7_20 hI hF dX7_drive_105 (fun r18 hF => ?_)
  refine lv_iload_n hx hb dX7_drive_108 rfl (lv_at hl 2 rfl) ?_
  refine m_iald C hI hF dX7_drive_109 (fun r19 hF => ?_)
  refine m_iald C hI hF dX7_drive_110 (fun r20 hF => ?_)
  refine lv_aload_n hx hb dX7_drive_111 rfl (lv_at hl 0 rfl) ?_
  refine m_getR C fd_X7_26 hI hF dX7_drive_112 (fun r21 hF => ?_)
  refine lv_iload_n hx hb dX7_drive_115 rfl (lv_at hl 1 rfl) ?_
  refine m_iald C hI hF dX7_drive_116 (fun r22 hF => ?_)
  refine m_callSiR C cd_X7_240 hl.1 hI hF (fun _ h => ok_X7_has h) rfl rfl ⟨rfl, rfl, Nat.le_of_ble_eq_true rfl, Nat.le_of_ble_eq_true rfl⟩ ⟨Nat.le_of_ble_eq_true rfl, Nat.le_of_ble_eq_true rfl⟩ (Nat.le_of_ble_eq_true rfl) dX7_drive_117 (fun r23 H locs hF hI => ?_)
  refine m_if_ne C (tgt := 126) hF dX7_drive_120 (by decide) (fun hF => ?_) (fun hF => ?_)
  · refine lv_iload hx hb dX7_drive_126 (lv_at hl 3 rfl) ?_
    refine m_if_lt C (tgt := 138) hF dX7_drive_128 (by decide) (fun hF => ?_) (fun hF => ?_)
    · exact (bl_X7_drive_138 C) v4 v5 S _ _ _ hF hI (lv_sub hl [3, 4] rfl)
    · refine lv_iload hx hb dX7_drive_131 (lv_at hl 3 rfl) ?_
      refine lv_iload hx hb dX7_drive_133 (lv_at hl 4 rfl) ?_
      refine m_icmp_lt C (tgt := 151) hF dX7_drive_135 (by decide) (fun hF => ?_) (fun hF => ?_)
      · refine lv_aload_n hx hb dX7_drive_151 rfl (lv_at hl 0 rfl) ?_
        refine m_getR C fd_X7_20 hI hF dX7_drive_152 (fun r24 hF => ?_)
        refine lv_iload_n hx hb dX7_drive_155 rfl (lv_at hl 2 rfl) ?_
        refine m_iald C hI hF dX7_drive_156 (fun r25 hF => ?_)
        refine lv_istore (lv' := [(6, .int r25), (0, .ref (mA E.b v0)), (1, .int v1), (2, .int v2), (4, .int v4), (5, .int v5)]) hx hb dX7_drive_157 hl (by decide) rfl (fun ls hl => ?_)
        refine lv_aload_n hx hb dX7_drive_159 rfl (lv_at hl 1 rfl) ?_
        refine m_getR C fd_X7_26 hI hF dX7_drive_160 (fun r26 hF => ?_)
        refine lv_iload_n hx hb dX7_drive_163 rfl (lv_at hl 2 rfl) ?_
        refine m_iald C hI hF dX7_drive_164 (fun r27 hF => ?_)
        refine lv_istore (lv' := [(7, .int r27), (6, .int r25), (0, .ref (mA E.b v0)), (1, .int v1), (2, .int v2), (4, .int v4), (5, .int v5)]) hx hb dX7_drive_165 hl (by decide) rfl (fun ls hl => ?_)
        refine lv_iconst (v := 0) hx hb dX7_drive_167 (by decide) ?_
        refine lv_istore (lv' := [(8, .int 0), (7, .int r27), (6, .int r25), (0, .ref (mA E.b v0)), (1, .int v1), (2, .int v2), (4, .int v4), (5, .int v5)]) hx hb dX7_drive_168 hl (by decide) rfl (fun ls hl => ?_)
        refine lv_iconst (v := 0) hx hb dX7_drive_170 (by decide) ?_
        refine lv_istore (lv' := [(9, .int 0), (8, .int 0), (7, .int r27), (6, .int r25), (0, .ref (mA E.b v0)), (1, .int v1), (2, .int v2), (4, .int v4), (5, .int v5)]) hx hb dX7_drive_171 hl (by decide) rfl (fun ls hl => ?_)
        exact (bl_X7_drive_173 C (k241 := (f_X7_drive_241)) (bl_X7_drive_241 C) 1000) v0 v1 v2 v4 r25 r27 0 0 S _ _ _ hF hI (lv_sub hl [4, 5, 6, 7, 3, 2, 1, 0] rfl)
      · exact (bl_X7_drive_138 C) v4 v5 S _ _ _ hF hI (lv_sub hl [3, 4] rfl)
  · refine lv_bipush (v := (-6)) hx hb dX7_drive_123 (by decide) ?_
    exact m_ireti C hI hF dX7_drive_125
set_option maxRecDepth 100000 in
set_option maxHeartbeats 4000000 in
theorem ok_X7_drive {l : Launch} {E : mE} {v0 : Int32} {v1 : Int32} {v2 : Int32} {v3 : Int32} {v4 : Int32} {S : mS} {F : Int32 × mS} (hF : f_X7_drive v0 v1 v2 v3 v4 S = some F) : mMi l yX7_drive cX7_drive 10 (some .int) rm_X7_drive 0 0 [.ref (mA E.b v0), .int v1, .int v2, .int v3, .int v4] E S F := by
  refine m_met_i (by decide) (Nat.le_of_ble_eq_true rfl) (fun p e s m args below meth c ls hin C hI hl => ?_)
  have hx := C.1
  have hb := C.2.1
  have hl : lv_has ls 10 [(0, .ref (mA E.b v0)), (1, .int v1), (2, .int v2), (3, .int v3), (4, .int v4)] := hl
  generalize s.heap = H at hI ⊢
  generalize ([] : List Loc) = locs at hI ⊢
  refine lv_aload_n hx hb dX7_drive_0 rfl (lv_at hl 0 rfl) ?_
  refine lv_iload_n hx hb dX7_drive_1 rfl (lv_at hl 1 rfl) ?_
  refine m_callViR C cd_X7_231 ⟨rfl, by decide⟩ hl.1 hI hF (fun _ h => ok_X7_isSheep h) rfl rfl ⟨rfl, rfl, Nat.le_of_ble_eq_true rfl, Nat.le_of_ble_eq_true rfl⟩ ⟨Nat.le_of_ble_eq_true rfl, Nat.le_of_ble_eq_true rfl⟩ (Nat.le_of_ble_eq_true rfl) dX7_drive_2 (fun r1 H locs hF hI => ?_)
  refine m_if_eq C (tgt := 36) hF dX7_drive_5 (by decide) (fun hF => ?_) (fun hF => ?_)
  · exact (bl_X7_drive_36 C) v0 S _ _ _ hF hI (lv_sub hl [0] rfl)
  · refine lv_aload_n hx hb dX7_drive_8 rfl (lv_at hl 0 rfl) ?_
    refine lv_iload_n hx hb dX7_drive_9 rfl (lv_at hl 2 rfl) ?_
    refine m_callViR C cd_X7_219 ⟨rfl, by decide⟩ hl.1 hI hF (fun _ h => ok_X7_isWhistle h) rfl rfl ⟨rfl, rfl, Nat.le_of_ble_eq_true rfl, Nat.le_of_ble_eq_true rfl⟩ ⟨Nat.le_of_ble_eq_true rfl, Nat.le_of_ble_eq_true rfl⟩ (Nat.le_of_ble_eq_true rfl) dX7_drive_10 (fun r4 H locs hF hI => ?_)
    refine m_if_eq C (tgt := 36) hF dX7_drive_13 (by decide) (fun hF => ?_) (fun hF => ?_)
    · exact (bl_X7_drive_36 C) v0 S _ _ _ hF hI (lv_sub hl [0] rfl)
    · refine lv_iload_n hx hb dX7_drive_16 rfl (lv_at hl 3 rfl) ?_
      refine m_callSiR C cd_X7_99 hl.1 hI hF (fun _ h => ok_X7_isCell h) rfl rfl ⟨rfl, rfl, Nat.le_of_ble_eq_true rfl, Nat.le_of_ble_eq_true rfl⟩ ⟨Nat.le_of_ble_eq_true rfl, Nat.le_of_ble_eq_true rfl⟩ (Nat.le_of_ble_eq_true rfl) dX7_drive_17 (fun r5 H locs hF hI => ?_)
      refine m_if_eq C (tgt := 36) hF dX7_drive_20 (by decide) (fun hF => ?_) (fun hF => ?_)
      · exact (bl_X7_drive_36 C) v0 S _ _ _ hF hI (lv_sub hl [0] rfl)
      · refine lv_iload hx hb dX7_drive_23 (lv_at hl 4 rfl) ?_
        refine lv_iconst (v := (-1)) hx hb dX7_drive_25 (by decide) ?_
        refine m_icmp_eq C (tgt := 36) hF dX7_drive_26 (by decide) (fun hF => ?_) (fun hF => ?_)
        · exact (bl_X7_drive_36 C) v0 S _ _ _ hF hI (lv_sub hl [0] rfl)
        · refine lv_iload hx hb dX7_drive_29 (lv_at hl 4 rfl) ?_
          refine lv_bipush (v := (-2)) hx hb dX7_drive_31 (by decide) ?_
          refine m_icmp_ge C (tgt := 44) hF dX7_drive_33 (by decide) (fun hF => ?_) (fun hF => ?_)
          · refine lv_iconst (v := 0) hx hb dX7_drive_44 (by decide) ?_
            refine lv_istore (lv' := [(5, .int 0), (0, .ref (mA E.b v0)), (1, .int v1), (2, .int v2), (3, .int v3), (4, .int v4)]) hx hb dX7_drive_45 hl (by decide) rfl (fun ls hl => ?_)
            refine lv_aload_n hx hb dX7_drive_47 rfl (lv_at hl 1 rfl) ?_
            refine lv_iload_n hx hb dX7_drive_48 rfl (lv_at hl 2 rfl) ?_
            refine lv_iload_n hx hb dX7_drive_49 rfl (lv_at hl 3 rfl) ?_
            refine lv_iload_n hx hb dX7_drive_50 rfl (lv_at hl 4 rfl) ?_
            refine lv_iconst (v := 0) hx hb dX7_drive_51 (by decide) ?_
            refine m_callVv C cd_X7_247 ⟨rfl, by decide⟩ hl.1 hI hF (fun _ h => ok_X7_setGood h) rfl rfl ⟨rfl, rfl, Nat.le_of_ble_eq_true rfl, Nat.le_of_ble_eq_true rfl⟩ ⟨Nat.le_of_ble_eq_true rfl, Nat.le_of_ble_eq_true rfl⟩ (Nat.le_of_ble_eq_true rfl) dX7_drive_52 (fun S7 H locs hF hI => ?_)
            exact (bl_X7_drive_55 C (k100 := (f_X7_drive_100)) (bl_X7_drive_100 C) 1000) v0 v1 v2 v3 v4 0 S7 _ _ _ hF hI (lv_sub hl [1, 2, 3, 4, 5, 0] rfl)
          · exact (bl_X7_drive_36 C) v0 S _ _ _ hF hI (lv_sub hl [0] rfl)
noncomputable def f_X7_near_17 (v0 : Int32) (S : mS) : Option (Int32 × mS) := mRc 7 v0 S (mC (f_X7_bad v0 S) (fun r2 S3 => some (r2, S3)))
noncomputable def f_X7_near_43 (k79 : Int32 → Int32 → Int32 → Int32 → Int32 → Int32 → Int32 → mS → Option (Int32 × mS)) : Nat → Int32 → Int32 → Int32 → Int32 → Int32 → Int32 → Int32 → Int32 → mS → Option (Int32 × mS) := fun n => Nat.rec (motive := fun _ => Int32 → Int32 → Int32 → Int32 → Int32 → Int32 → Int32 → Int32 → mS → Option (Int32 × mS)) (fun _ _ _ _ _ _ _ _ _ => none) (fun _ rec v0 v1 v2 v3 v4 v5 v6 v7 S => mG 7 2 v0 S (fun r5 => if r5 ≤ v7 then (k79 v0 v1 v2 v3 v4 v5 v6 S) else (mRc 7 v0 S (mCp (f_X7_givesTo v0 v7 v1 v5 S) (fun r6 => mG 7 3 v0 S (fun r7 => mCp (f_X7_far r6 r7) (fun r8 => rec v0 v1 v2 v3 v4 v5 (v6 + r8) (v7 + 1) S))))))) n
theorem f_X7_near_43_s (k79 : Int32 → Int32 → Int32 → Int32 → Int32 → Int32 → Int32 → mS → Option (Int32 × mS)) (n : Nat) (v0 : Int32) (v1 : Int32) (v2 : Int32) (v3 : Int32) (v4 : Int32) (v5 : Int32) (v6 : Int32) (v7 : Int32) (S : mS) : f_X7_near_43 k79 (n + 1) v0 v1 v2 v3 v4 v5 v6 v7 S = mG 7 2 v0 S (fun r5 => if r5 ≤ v7 then (k79 v0 v1 v2 v3 v4 v5 v6 S) else (mRc 7 v0 S (mCp (f_X7_givesTo v0 v7 v1 v5 S) (fun r6 => mG 7 3 v0 S (fun r7 => mCp (f_X7_far r6 r7) (fun r8 => (f_X7_near_43 k79 n) v0 v1 v2 v3 v4 v5 (v6 + r8) (v7 + 1) S)))))) := rfl
noncomputable def f_X7_near_92 (k31 : Int32 → Int32 → Int32 → Int32 → Int32 → Int32 → mS → Option (Int32 × mS)) (v0 : Int32) (v1 : Int32) (v2 : Int32) (v4 : Int32) (v5 : Int32) (v6 : Int32) (t0 : Int32) (S : mS) : Option (Int32 × mS) := mCp (f_X7_lesser v4 v6) (fun r9 => k31 v0 v1 v2 t0 r9 (v5 + 1) S)
noncomputable def f_X7_near_79 (k31 : Int32 → Int32 → Int32 → Int32 → Int32 → Int32 → mS → Option (Int32 × mS)) (v0 : Int32) (v1 : Int32) (v2 : Int32) (v3 : Int32) (v4 : Int32) (v5 : Int32) (v6 : Int32) (S : mS) : Option (Int32 × mS) := if v4 ≤ v6 then ((f_X7_near_92 k31) v0 v1 v2 v4 v5 v6 v3 S) else ((f_X7_near_92 k31) v0 v1 v2 v4 v5 v6 v5 S)
noncomputable def f_X7_near_31 (k108 : Int32 → Int32 → Int32 → mS → Option (Int32 × mS)) : Nat → Int32 → Int32 → Int32 → Int32 → Int32 → Int32 → mS → Option (Int32 × mS) := fun n => Nat.rec (motive := fun _ => Int32 → Int32 → Int32 → Int32 → Int32 → Int32 → mS → Option (Int32 × mS)) (fun _ _ _ _ _ _ _ => none) (fun _ rec v0 v1 v2 v3 v4 v5 S => if 5 ≤ v5 then (k108 v2 v3 v4 S) else ((f_X7_near_43 (f_X7_near_79 rec) 1000) v0 v1 v2 v3 v4 v5 0 0 S)) n
theorem f_X7_near_31_s (k108 : Int32 → Int32 → Int32 → mS → Option (Int32 × mS)) (n : Nat) (v0 : Int32) (v1 : Int32) (v2 : Int32) (v3 : Int32) (v4 : Int32) (v5 : Int32) (S : mS) : f_X7_near_31 k108 (n + 1) v0 v1 v2 v3 v4 v5 S = if 5 ≤ v5 then (k108 v2 v3 v4 S) else ((f_X7_near_43 (f_X7_near_79 (f_X7_near_31 k108 n)) 1000) v0 v1 v2 v3 v4 v5 0 0 S) := rfl
noncomputable def f_X7_near_118 (t0 : Int32) (S : mS) : Option (Int32 × mS) := some (t0, S)
noncomputable def f_X7_near_108 (v2 : Int32) (v3 : Int32) (v4 : Int32) (S : mS) : Option (Int32 × mS) := if v2 = 0 then ((f_X7_near_118) v3 S) else ((f_X7_near_118) v4 S)
noncomputable def f_X7_near (v0 : Int32) (v1 : Int32) (v2 : Int32) (S : mS) : Option (Int32 × mS) := mRc 7 v0 S (mCp (f_X7_isWhistle v0 v1 S) (fun r1 => if r1 = 0 then ((f_X7_near_17) v0 S) else (mCp (f_X7_in v2 0 1) (fun r4 => if r4 = 0 then ((f_X7_near_17) v0 S) else ((f_X7_near_31 (f_X7_near_108) 1000) v0 v1 v2 (-1) 1048576 0 S)))))
def rm_X7_near : Room := { frames := 4, cells := 0, slots := 0, locals := 96 }
set_option maxRecDepth 100000 in
set_option maxHeartbeats 4000000 in
theorem bl_X7_near_17 {p : Program} {l : Launch} {e : Env} {s : State} {m : MethodId} {args : Array Value} {below : List Frame} {meth : Method} {c : Code} {E : mE} {n0 : Nat} {F : Int32 × mS} (C : mCx p s m args meth c cX7_near 8 RX7 (some .int) E n0) : ∀  (v0 : Int32) (S : mS) (H : Heap) (locs : List Loc) (ls : Array Slot), f_X7_near_17 v0 S = some F → mIv s E S H locs 0 → lv_has ls 8 [(0, .ref (mA E.b v0))] → W p l e rm_X7_near s m args below meth c H locs 0 0 (mQi below args s 0 0 n0 E F) (F0 m 17 ls []) := by
  have hx := C.1
  have hb := C.2.1
  intro v0 S H locs ls hF hI hl
  refine lv_aload_n hx hb dX7_near_17 rfl (lv_at hl 0 rfl) ?_
  refine m_callVi C cd_X7_103 ⟨rfl, by decide⟩ hl.1 hI hF (fun _ h => ok_X7_bad h) rfl rfl ⟨rfl, rfl, Nat.le_of_ble_eq_true rfl, Nat.le_of_ble_eq_true rfl⟩ ⟨Nat.le_of_ble_eq_true rfl, Nat.le_of_ble_eq_true rfl⟩ (Nat.le_of_ble_eq_true rfl) dX7_near_18 (fun r2 S3 H locs hF hI => ?_)
  exact m_ireti C hI hF dX7_near_21
set_option maxRecDepth 100000 in
set_option maxHeartbeats 4000000 in
theorem bl_X7_near_43 {p : Program} {l : Launch} {e : Env} {s : State} {m : MethodId} {args : Array Value} {below : List Frame} {meth : Method} {c : Code} {E : mE} {n0 : Nat} {F : Int32 × mS} (C : mCx p s m args meth c cX7_near 8 RX7 (some .int) E n0) {k79 : Int32 → Int32 → Int32 → Int32 → Int32 → Int32 → Int32 → mS → Option (Int32 × mS)} (hk79 : ∀ (v0 : Int32) (v1 : Int32) (v2 : Int32) (v3 : Int32) (v4 : Int32) (v5 : Int32) (v6 : Int32) (S : mS) (H : Heap) (locs : List Loc) (ls : Array Slot), k79 v0 v1 v2 v3 v4 v5 v6 S = some F → mIv s E S H locs 0 → lv_has ls 8 [(0, .ref (mA E.b v0)), (1, .int v1), (2, .int v2), (3, .int v3), (4, .int v4), (5, .int v5), (6, .int v6)] → W p l e rm_X7_near s m args below meth c H locs 0 0 (mQi below args s 0 0 n0 E F) (F0 m 79 ls [])) : ∀ (n : Nat)  (v0 : Int32) (v1 : Int32) (v2 : Int32) (v3 : Int32) (v4 : Int32) (v5 : Int32) (v6 : Int32) (v7 : Int32) (S : mS) (H : Heap) (locs : List Loc) (ls : Array Slot), f_X7_near_43 k79 n v0 v1 v2 v3 v4 v5 v6 v7 S = some F → mIv s E S H locs 0 → lv_has ls 8 [(0, .ref (mA E.b v0)), (1, .int v1), (2, .int v2), (3, .int v3), (4, .int v4), (5, .int v5), (6, .int v6), (7, .int v7)] → W p l e rm_X7_near s m args below meth c H locs 0 0 (mQi below args s 0 0 n0 E F) (F0 m 43 ls []) := by
  have hx := C.1
  have hb := C.2.1
  intro n
  induction n with
  | zero =>
    intro v0 v1 v2 v3 v4 v5 v6 v7 S H locs ls hF
    exact nomatch (show (none : Option (Int32 × mS)) = some F from hF)
  | succ n ih =>
    intro v0 v1 v2 v3 v4 v5 v6 v7 S H locs ls hF hI hl
    have hF := (f_X7_near_43_s k79 n v0 v1 v2 v3 v4 v5 v6 v7 S).symm.trans hF
    refine lv_iload hx hb dX7_near_43 (lv_at hl 7 rfl) ?_
    refine lv_aload_n hx hb dX7_near_45 rfl (lv_at hl 0 rfl) ?_
    refine m_get C fd_X7_74 hI hF dX7_near_46 (fun r5 hF => ?_)
    refine m_icmp_ge C (tgt := 79) hF dX7_near_49 (by decide) (fun hF => ?_) (fun hF => ?_)
    · exact hk79 v0 v1 v2 v3 v4 v5 v6 S _ _ _ hF hI (lv_sub hl [0, 1, 2, 3, 4, 5, 6] rfl)
    · refine lv_iload hx hb dX7_near_52 (lv_at hl 6 rfl) ?_
      refine lv_aload_n hx hb dX7_near_54 rfl (lv_at hl 0 rfl) ?_
      refine lv_iload hx hb dX7_near_55 (lv_at hl 7 rfl) ?_
      refine lv_iload_n hx hb dX7_near_57 rfl (lv_at hl 1 rfl) ?_
      refine lv_iload hx hb dX7_near_58 (lv_at hl 5 rfl) ?_
      refine m_callViR C cd_X7_234 ⟨rfl, by decide⟩ hl.1 hI hF (fun _ h => ok_X7_givesTo h) rfl rfl ⟨rfl, rfl, Nat.le_of_ble_eq_true rfl, Nat.le_of_ble_eq_true rfl⟩ ⟨Nat.le_of_ble_eq_true rfl, Nat.le_of_ble_eq_true rfl⟩ (Nat.le_of_ble_eq_true rfl) dX7_near_60 (fun r6 H locs hF hI => ?_)
      refine lv_aload_n hx hb dX7_near_63 rfl (lv_at hl 0 rfl) ?_
      refine m_get C fd_X7_77 hI hF dX7_near_64 (fun r7 hF => ?_)
      refine m_callSiR C cd_X7_203 hl.1 hI hF (fun _ h => ok_X7_far h) rfl rfl ⟨rfl, rfl, Nat.le_of_ble_eq_true rfl, Nat.le_of_ble_eq_true rfl⟩ ⟨Nat.le_of_ble_eq_true rfl, Nat.le_of_ble_eq_true rfl⟩ (Nat.le_of_ble_eq_true rfl) dX7_near_67 (fun r8 H locs hF hI => ?_)
      refine lv_iadd hx hb dX7_near_70 ?_
      refine lv_istore (lv' := [(6, .int (v6 + r8)), (0, .ref (mA E.b v0)), (1, .int v1), (2, .int v2), (3, .int v3), (4, .int v4), (5, .int v5), (7, .int v7)]) hx hb dX7_near_71 hl (by decide) rfl (fun ls hl => ?_)
      refine lv_iinc (v := v7 + 1) (lv' := [(7, .int (v7 + 1)), (6, .int (v6 + r8)), (0, .ref (mA E.b v0)), (1, .int v1), (2, .int v2), (3, .int v3), (4, .int v4), (5, .int v5)]) hx hb dX7_near_73 hl (k := 7) rfl rfl (by decide) rfl (fun ls hl => ?_)
      refine lv_goto (tgt := 43) hx hb dX7_near_76 (by decide) ?_
      exact ih v0 v1 v2 v3 v4 v5 (v6 + r8) (v7 + 1) S _ _ _ hF hI (lv_sub hl [2, 3, 4, 5, 6, 7, 1, 0] rfl)
set_option maxRecDepth 100000 in
set_option maxHeartbeats 4000000 in
theorem bl_X7_near_92 {p : Program} {l : Launch} {e : Env} {s : State} {m : MethodId} {args : Array Value} {below : List Frame} {meth : Method} {c : Code} {E : mE} {n0 : Nat} {F : Int32 × mS} (C : mCx p s m args meth c cX7_near 8 RX7 (some .int) E n0) {k31 : Int32 → Int32 → Int32 → Int32 → Int32 → Int32 → mS → Option (Int32 × mS)} (hk31 : ∀ (v0 : Int32) (v1 : Int32) (v2 : Int32) (v3 : Int32) (v4 : Int32) (v5 : Int32) (S : mS) (H : Heap) (locs : List Loc) (ls : Array Slot), k31 v0 v1 v2 v3 v4 v5 S = some F → mIv s E S H locs 0 → lv_has ls 8 [(0, .ref (mA E.b v0)), (1, .int v1), (2, .int v2), (3, .int v3), (4, .int v4), (5, .int v5)] → W p l e rm_X7_near s m args below meth c H locs 0 0 (mQi below args s 0 0 n0 E F) (F0 m 31 ls [])) : ∀  (v0 : Int32) (v1 : Int32) (v2 : Int32) (v4 : Int32) (v5 : Int32) (v6 : Int32) (t0 : Int32) (S : mS) (H : Heap) (locs : List Loc) (ls : Array Slot), f_X7_near_92 k31 v0 v1 v2 v4 v5 v6 t0 S = some F → mIv s E S H locs 0 → lv_has ls 8 [(0, .ref (mA E.b v0)), (1, .int v1), (2, .int v2), (4, .int v4), (5, .int v5), (6, .int v6)] → W p l e rm_X7_near s m args below meth c H locs 0 0 (mQi below args s 0 0 n0 E F) (F0 m 92 ls [.int t0]) := by
  have hx := C.1
  have hb := C.2.1
  intro v0 v1 v2 v4 v5 v6 t0 S H locs ls hF hI hl
  refine lv_istore_n (lv' := [(3, .int t0), (0, .ref (mA E.b v0)), (1, .int v1), (2, .int v2), (4, .int v4), (5, .int v5), (6, .int v6)]) hx hb dX7_near_92 rfl hl (by decide) rfl (fun ls hl => ?_)
  refine lv_iload hx hb dX7_near_93 (lv_at hl 4 rfl) ?_
  refine lv_iload hx hb dX7_near_95 (lv_at hl 6 rfl) ?_
  refine m_callSiR C cd_X7_158 hl.1 hI hF (fun _ h => ok_X7_lesser h) rfl rfl ⟨rfl, rfl, Nat.le_of_ble_eq_true rfl, Nat.le_of_ble_eq_true rfl⟩ ⟨Nat.le_of_ble_eq_true rfl, Nat.le_of_ble_eq_true rfl⟩ (Nat.le_of_ble_eq_true rfl) dX7_near_97 (fun r9 H locs hF hI => ?_)
  refine lv_istore (lv' := [(4, .int r9), (3, .int t0), (0, .ref (mA E.b v0)), (1, .int v1), (2, .int v2), (5, .int v5), (6, .int v6)]) hx hb dX7_near_100 hl (by decide) rfl (fun ls hl => ?_)
  refine lv_iinc (v := v5 + 1) (lv' := [(5, .int (v5 + 1)), (4, .int r9), (3, .int t0), (0, .ref (mA E.b v0)), (1, .int v1), (2, .int v2), (6, .int v6)]) hx hb dX7_near_102 hl (k := 5) rfl rfl (by decide) rfl (fun ls hl => ?_)
  refine lv_goto (tgt := 31) hx hb dX7_near_105 (by decide) ?_
  exact hk31 v0 v1 v2 t0 r9 (v5 + 1) S _ _ _ hF hI (lv_sub hl [3, 4, 5, 2, 1, 0] rfl)
set_option maxRecDepth 100000 in
set_option maxHeartbeats 4000000 in
theorem bl_X7_near_79 {p : Program} {l : Launch} {e : Env} {s : State} {m : MethodId} {args : Array Value} {below : List Frame} {meth : Method} {c : Code} {E : mE} {n0 : Nat} {F : Int32 × mS} (C : mCx p s m args meth c cX7_near 8 RX7 (some .int) E n0) {k31 : Int32 → Int32 → Int32 → Int32 → Int32 → Int32 → mS → Option (Int32 × mS)} (hk31 : ∀ (v0 : Int32) (v1 : Int32) (v2 : Int32) (v3 : Int32) (v4 : Int32) (v5 : Int32) (S : mS) (H : Heap) (locs : List Loc) (ls : Array Slot), k31 v0 v1 v2 v3 v4 v5 S = some F → mIv s E S H locs 0 → lv_has ls 8 [(0, .ref (mA E.b v0)), (1, .int v1), (2, .int v2), (3, .int v3), (4, .int v4), (5, .int v5)] → W p l e rm_X7_near s m args below meth c H locs 0 0 (mQi below args s 0 0 n0 E F) (F0 m 31 ls [])) : ∀  (v0 : Int32) (v1 : Int32) (v2 : Int32) (v3 : Int32) (v4 : Int32) (v5 : Int32) (v6 : Int32) (S : mS) (H : Heap) (locs : List Loc) (ls : Array Slot), f_X7_near_79 k31 v0 v1 v2 v3 v4 v5 v6 S = some F → mIv s E S H locs 0 → lv_has ls 8 [(0, .ref (mA E.b v0)), (1, .int v1), (2, .int v2), (3, .int v3), (4, .int v4), (5, .int v5), (6, .int v6)] → W p l e rm_X7_near s m args below meth c H locs 0 0 (mQi below args s 0 0 n0 E F) (F0 m 79 ls []) := by
  have hx := C.1
  have hb := C.2.1
  intro v0 v1 v2 v3 v4 v5 v6 S H locs ls hF hI hl
  refine lv_iload hx hb dX7_near_79 (lv_at hl 6 rfl) ?_
  refine lv_iload hx hb dX7_near_81 (lv_at hl 4 rfl) ?_
  refine m_icmp_ge C (tgt := 91) hF dX7_near_83 (by decide) (fun hF => ?_) (fun hF => ?_)
  · refine lv_iload_n hx hb dX7_near_91 rfl (lv_at hl 3 rfl) ?_
    exact (bl_X7_near_92 C (k31 := k31) hk31) v0 v1 v2 v4 v5 v6 v3 S _ _ _ hF hI (lv_sub hl [0, 1, 2, 4, 5, 6] rfl)
  · refine lv_iload hx hb dX7_near_86 (lv_at hl 5 rfl) ?_
    refine lv_goto (tgt := 92) hx hb dX7_near_88 (by decide) ?_
    exact (bl_X7_near_92 C (k31 := k31) hk31) v0 v1 v2 v4 v5 v6 v5 S _ _ _ hF hI (lv_sub hl [0, 1, 2, 4, 5, 6] rfl)
set_option maxRecDepth 100000 in
set_option maxHeartbeats 4000000 in
theorem bl_X7_near_31 {p : Program} {l : Launch} {e : Env} {s : State} {m : MethodId} {args : Array Value} {below : List Frame} {meth : Method} {c : Code} {E : mE} {n0 : Nat} {F : Int32 × mS} (C : mCx p s m args meth c cX7_near 8 RX7 (some .int) E n0) {k108 : Int32 → Int32 → Int32 → mS → Option (Int32 × mS)} (hk108 : ∀ (v2 : Int32) (v3 : Int32) (v4 : Int32) (S : mS) (H : Heap) (locs : List Loc) (ls : Array Slot), k108 v2 v3 v4 S = some F → mIv s E S H locs 0 → lv_has ls 8 [(2, .int v2), (3, .int v3), (4, .int v4)] → W p l e rm_X7_near s m args below meth c H locs 0 0 (mQi below args s 0 0 n0 E F) (F0 m 108 ls [])) : ∀ (n : Nat)  (v0 : Int32) (v1 : Int32) (v2 : Int32) (v3 : Int32) (v4 : Int32) (v5 : Int32) (S : mS) (H : Heap) (locs : List Loc) (ls : Array Slot), f_X7_near_31 k108 n v0 v1 v2 v3 v4 v5 S = some F → mIv s E S H locs 0 → lv_has ls 8 [(0, .ref (mA E.b v0)), (1, .int v1), (2, .int v2), (3, .int v3), (4, .int v4), (5, .int v5)] → W p l e rm_X7_near s m args below meth c H locs 0 0 (mQi below args s 0 0 n0 E F) (F0 m 31 ls []) := by
  have hx := C.1
  have hb := C.2.1
  intro n
  induction n with
  | zero =>
    intro v0 v1 v2 v3 v4 v5 S H locs ls hF
    exact nomatch (show (none : Option (Int32 × mS)) = some F from hF)
  | succ n ih =>
    intro v0 v1 v2 v3 v4 v5 S H locs ls hF hI hl
    have hF := (f_X7_near_31_s k108 n v0 v1 v2 v3 v4 v5 S).symm.trans hF
    refine lv_iload hx hb dX7_near_31 (lv_at hl 5 rfl) ?_
    refine lv_iconst (v := 5) hx hb dX7_near_33 (by decide) ?_
    refine m_icmp_ge C (tgt := 108) hF dX7_near_34 (by decide) (fun hF => ?_) (fun hF => ?_)
    · exact hk108 v2 v3 v4 S _ _ _ hF hI (lv_sub hl [2, 3, 4] rfl)
    · refine lv_iconst (v := 0) hx hb dX7_near_37 (by decide) ?_
      refine lv_istore (lv' := [(6, .int 0), (0, .ref (mA E.b v0)), (1, .int v1), (2, .int v2), (3, .int v3), (4, .int v4), (5, .int v5)]) hx hb dX7_near_38 hl (by decide) rfl (fun ls hl => ?_)
      refine lv_iconst (v := 0) hx hb dX7_near_40 (by decide) ?_
      refine lv_istore (lv' := [(7, .int 0), (6, .int 0), (0, .ref (mA E.b v0)), (1, .int v1), (2, .int v2), (3, .int v3), (4, .int v4), (5, .int v5)]) hx hb dX7_near_41 hl (by decide) rfl (fun ls hl => ?_)
      exact (bl_X7_near_43 C (k79 := (f_X7_near_79 (f_X7_near_31 k108 n))) (bl_X7_near_79 C (k31 := (f_X7_near_31 k108 n)) ih) 1000) v0 v1 v2 v3 v4 v5 0 0 S _ _ _ hF hI (lv_sub hl [2, 3, 4, 5, 6, 7, 1, 0] rfl)
set_option maxRecDepth 100000 in
set_option maxHeartbeats 4000000 in
theorem bl_X7_near_118 {p : Program} {l : Launch} {e : Env} {s : State} {m : MethodId} {args : Array Value} {below : List Frame} {meth : Method} {c : Code} {E : mE} {n0 : Nat} {F : Int32 × mS} (C : mCx p s m args meth c cX7_near 8 RX7 (some .int) E n0) : ∀  (t0 : Int32) (S : mS) (H : Heap) (locs : List Loc) (ls : Array Slot), f_X7_near_118 t0 S = some F → mIv s E S H locs 0 → lv_has ls 8 [] → W p l e rm_X7_near s m args below meth c H locs 0 0 (mQi below args s 0 0 n0 E F) (F0 m 118 ls [.int t0]) := by
  have hx := C.1
  have hb := C.2.1
  intro t0 S H locs ls hF hI hl
  exact m_ireti C hI hF dX7_near_118
set_option maxRecDepth 100000 in
set_option maxHeartbeats 4000000 in
theorem bl_X7_near_108 {p : Program} {l : Launch} {e : Env} {s : State} {m : MethodId} {args : Array Value} {below : List Frame} {meth : Method} {c : Code} {E : mE} {n0 : Nat} {F : Int32 × mS} (C : mCx p s m args meth c cX7_near 8 RX7 (some .int) E n0) : ∀  (v2 : Int32) (v3 : Int32) (v4 : Int32) (S : mS) (H : Heap) (locs : List Loc) (ls : Array Slot), f_X7_near_108 v2 v3 v4 S = some F → mIv s E S H locs 0 → lv_has ls 8 [(2, .int v2), (3, .int v3), (4, .int v4)] → W p l e rm_X7_near s m args below meth c H locs 0 0 (mQi below args s 0 0 n0 E F) (F0 m 108 ls []) := by
  have hx := C.1
  have hb := C.2.1
  intro v2 v3 v4 S H locs ls hF hI hl
  refine lv_iload_n hx hb dX7_near_108 rfl (lv_at hl 0 rfl) ?_
  refine m_if_ne C (tgt := 116) hF dX7_near_109 (by decide) (fun hF => ?_) (fun hF => ?_)
  · refine lv_iload hx hb dX7_near_116 (lv_at hl 2 rfl) ?_
    exact (bl_X7_near_118 C) v4 S _ _ _ hF hI (lv_sub hl [] rfl)
  · refine lv_iload_n hx hb dX7_near_112 rfl (lv_at hl 1 rfl) ?_
    refine lv_goto (tgt := 118) hx hb dX7_near_113 (by decide) ?_
    exact (bl_X7_near_118 C) v3 S _ _ _ hF hI (lv_sub hl [] rfl)
set_option maxRecDepth 100000 in
set_option maxHeartbeats 4000000 in
theorem ok_X7_near {l : Launch} {E : mE} {v0 : Int32} {v1 : Int32} {v2 : Int32} {S : mS} {F : Int32 × mS} (hF : f_X7_near v0 v1 v2 S = some F) : mMi l yX7_near cX7_near 8 (some .int) rm_X7_near 0 0 [.ref (mA E.b v0), .int v1, .int v2] E S F := by
  refine m_met_i (by decide) (Nat.le_of_ble_eq_true rfl) (fun p e s m args below meth c ls hin C hI hl => ?_)
  have hx := C.1
  have hb := C.2.1
  have hl : lv_has ls 8 [(0, .ref (mA E.b v0)), (1, .int v1), (2, .int v2)] := hl
  generalize s.heap = H at hI ⊢
  generalize ([] : List Loc) = locs at hI ⊢
  refine lv_aload_n hx hb dX7_near_0 rfl (lv_at hl 0 rfl) ?_
  refine lv_iload_n hx hb dX7_near_1 rfl (lv_at hl 1 rfl) ?_
  refine m_callViR C cd_X7_219 ⟨rfl, by decide⟩ hl.1 hI hF (fun _ h => ok_X7_isWhistle h) rfl rfl ⟨rfl, rfl, Nat.le_of_ble_eq_true rfl, Nat.le_of_ble_eq_true rfl⟩ ⟨Nat.le_of_ble_eq_true rfl, Nat.le_of_ble_eq_true rfl⟩ (Nat.le_of_ble_eq_true rfl) dX7_near_2 (fun r1 H locs hF hI => ?_)
  refine m_if_eq C (tgt := 17) hF dX7_near_5 (by decide) (fun hF => ?_) (fun hF => ?_)
  · exact (bl_X7_near_17 C) v0 S _ _ _ hF hI (lv_sub hl [0] rfl)
  · refine lv_iload_n hx hb dX7_near_8 rfl (lv_at hl 2 rfl) ?_
    refine lv_iconst (v := 0) hx hb dX7_near_9 (by decide) ?_
    refine lv_iconst (v := 1) hx hb dX7_near_10 (by decide) ?_
    refine m_callSiR C cd_X7_95 hl.1 hI hF (fun _ h => ok_X7_in h) rfl rfl ⟨rfl, rfl, Nat.le_of_ble_eq_true rfl, Nat.le_of_ble_eq_true rfl⟩ ⟨Nat.le_of_ble_eq_true rfl, Nat.le_of_ble_eq_true rfl⟩ (Nat.le_of_ble_eq_true rfl) dX7_near_11 (fun r4 H locs hF hI => ?_)
    refine m_if_ne C (tgt := 22) hF dX7_near_14 (by decide) (fun hF => ?_) (fun hF => ?_)
    · refine lv_iconst (v := (-1)) hx hb dX7_near_22 (by decide) ?_
      refine lv_istore_n (lv' := [(3, .int (-1)), (0, .ref (mA E.b v0)), (1, .int v1), (2, .int v2)]) hx hb dX7_near_23 rfl hl (by decide) rfl (fun ls hl => ?_)
      refine lv_ldc (v := 1048576) hx hb C.2.2.2.1 (C.2.2.2.2.1 _ kw_X7_251) dX7_near_24 ?_
      refine lv_istore (lv' := [(4, .int 1048576), (3, .int (-1)), (0, .ref (mA E.b v0)), (1, .int v1), (2, .int v2)]) hx hb dX7_near_26 hl (by decide) rfl (fun ls hl => ?_)
      refine lv_iconst (v := 0) hx hb dX7_near_28 (by decide) ?_
      refine lv_istore (lv' := [(5, .int 0), (4, .int 1048576), (3, .int (-1)), (0, .ref (mA E.b v0)), (1, .int v1), (2, .int v2)]) hx hb dX7_near_29 hl (by decide) rfl (fun ls hl => ?_)
      exact (bl_X7_near_31 C (k108 := (f_X7_near_108)) (bl_X7_near_108 C) 1000) v0 v1 v2 (-1) 1048576 0 S _ _ _ hF hI (lv_sub hl [3, 4, 5, 2, 1, 0] rfl)
    · exact (bl_X7_near_17 C) v0 S _ _ _ hF hI (lv_sub hl [0] rfl)
noncomputable def f_X7_gather_17 (v0 : Int32) (S : mS) : Option (Int32 × mS) := mRc 7 v0 S (mC (f_X7_bad v0 S) (fun r2 S3 => some (r2, S3)))
noncomputable def f_X7_gather_128 (k30 : Int32 → Int32 → Int32 → Int32 → Int32 → Int32 → mS → Option (Int32 × mS)) (v0 : Int32) (v1 : Int32) (v2 : Int32) (v4 : Int32) (v5 : Int32) (v6 : Int32) (t0 : Int32) (S : mS) : Option (Int32 × mS) := mCp (f_X7_greater v4 v6) (fun r18 => k30 v0 v1 v2 t0 r18 (v5 + 1) S)
noncomputable def f_X7_gather_30 (k144 : Int32 → Int32 → Int32 → mS → Option (Int32 × mS)) : Nat → Int32 → Int32 → Int32 → Int32 → Int32 → Int32 → mS → Option (Int32 × mS) := fun n => Nat.rec (motive := fun _ => Int32 → Int32 → Int32 → Int32 → Int32 → Int32 → mS → Option (Int32 × mS)) (fun _ _ _ _ _ _ _ => none) (fun _ rec v0 v1 v2 v3 v4 v5 S => if 125 ≤ v5 then (k144 v2 v3 v4 S) else (mGr 7 22 v0 S (fun r5 => mRc 7 v0 S (mCv (f_X7_lays v0 r5 0 S) (fun S7 => mRc 7 v0 S7 (mC (f_X7_comes v0 v1 (v5 / 25) S7) (fun r8 S9 => mRc 7 v0 S9 (mC (f_X7_comes v0 v1 (mRem (v5 / 5) 5) S9) (fun r10 S11 => mRc 7 v0 S11 (mC (f_X7_comes v0 v1 (mRem v5 5) S11) (fun r12 S13 => mRc 7 v0 S13 (mCp (f_X7_foldedMany v0 S13) (fun r14 => mGr 7 22 v0 S13 (fun r15 => mRc 7 v0 S13 (mCv (f_X7_takes v0 r15 0 S13) (fun S17 => if r14 ≤ v4 then ((f_X7_gather_128 rec) v0 v1 v2 v4 v5 r14 v3 S17) else ((f_X7_gather_128 rec) v0 v1 v2 v4 v5 r14 (((100 * (v5 / 25)) + (10 * (mRem (v5 / 5) 5))) + (mRem v5 5)) S17))))))))))))))))) n
theorem f_X7_gather_30_s (k144 : Int32 → Int32 → Int32 → mS → Option (Int32 × mS)) (n : Nat) (v0 : Int32) (v1 : Int32) (v2 : Int32) (v3 : Int32) (v4 : Int32) (v5 : Int32) (S : mS) : f_X7_gather_30 k144 (n + 1) v0 v1 v2 v3 v4 v5 S = if 125 ≤ v5 then (k144 v2 v3 v4 S) else (mGr 7 22 v0 S (fun r5 => mRc 7 v0 S (mCv (f_X7_lays v0 r5 0 S) (fun S7 => mRc 7 v0 S7 (mC (f_X7_comes v0 v1 (v5 / 25) S7) (fun r8 S9 => mRc 7 v0 S9 (mC (f_X7_comes v0 v1 (mRem (v5 / 5) 5) S9) (fun r10 S11 => mRc 7 v0 S11 (mC (f_X7_comes v0 v1 (mRem v5 5) S11) (fun r12 S13 => mRc 7 v0 S13 (mCp (f_X7_foldedMany v0 S13) (fun r14 => mGr 7 22 v0 S13 (fun r15 => mRc 7 v0 S13 (mCv (f_X7_takes v0 r15 0 S13) (fun S17 => if r14 ≤ v4 then ((f_X7_gather_128 (f_X7_gather_30 k144 n)) v0 v1 v2 v4 v5 r14 v3 S17) else ((f_X7_gather_128 (f_X7_gather_30 k144 n)) v0 v1 v2 v4 v5 r14 (((100 * (v5 / 25)) + (10 * (mRem (v5 / 5) 5))) + (mRem v5 5)) S17)))))))))))))))) := rfl
noncomputable def f_X7_gather_154 (t0 : Int32) (S : mS) : Option (Int32 × mS) := some (t0, S)
noncomputable def f_X7_gather_144 (v2 : Int32) (v3 : Int32) (v4 : Int32) (S : mS) : Option (Int32 × mS) := if v2 = 0 then ((f_X7_gather_154) v4 S) else ((f_X7_gather_154) v3 S)
noncomputable def f_X7_gather (v0 : Int32) (v1 : Int32) (v2 : Int32) (S : mS) : Option (Int32 × mS) := mRc 7 v0 S (mCp (f_X7_isWhistle v0 v1 S) (fun r1 => if r1 = 0 then ((f_X7_gather_17) v0 S) else (mCp (f_X7_in v2 0 1) (fun r4 => if r4 = 0 then ((f_X7_gather_17) v0 S) else ((f_X7_gather_30 (f_X7_gather_144) 1000) v0 v1 v2 (-1) (-1) 0 S)))))
def rm_X7_gather : Room := { frames := 4, cells := 0, slots := 0, locals := 98 }
set_option maxRecDepth 100000 in
set_option maxHeartbeats 4000000 in
theorem bl_X7_gather_17 {p : Program} {l : Launch} {e : Env} {s : State} {m : MethodId} {args : Array Value} {below : List Frame} {meth : Method} {c : Code} {E : mE} {n0 : Nat} {F : Int32 × mS} (C : mCx p s m args meth c cX7_gather 7 RX7 (some .int) E n0) : ∀  (v0 : Int32) (S : mS) (H : Heap) (locs : List Loc) (ls : Array Slot), f_X7_gather_17 v0 S = some F → mIv s E S H locs 0 → lv_has ls 7 [(0, .ref (mA E.b v0))] → W p l e rm_X7_gather s m args below meth c H locs 0 0 (mQi below args s 0 0 n0 E F) (F0 m 17 ls []) := by
  have hx := C.1
  have hb := C.2.1
  intro v0 S H locs ls hF hI hl
  refine lv_aload_n hx hb dX7_gather_17 rfl (lv_at hl 0 rfl) ?_
  refine m_callVi C cd_X7_103 ⟨rfl, by decide⟩ hl.1 hI hF (fun _ h => ok_X7_bad h) rfl rfl ⟨rfl, rfl, Nat.le_of_ble_eq_true rfl, Nat.le_of_ble_eq_true rfl⟩ ⟨Nat.le_of_ble_eq_true rfl, Nat.le_of_ble_eq_true rfl⟩ (Nat.le_of_ble_eq_true rfl) dX7_gather_18 (fun r2 S3 H locs hF hI => ?_)
  exact m_ireti C hI hF dX7_gather_21
set_option maxRecDepth 100000 in
set_option maxHeartbeats 4000000 in
theorem bl_X7_gather_128 {p : Program} {l : Launch} {e : Env} {s : State} {m : MethodId} {args : Array Value} {below : List Frame} {meth : Method} {c : Code} {E : mE} {n0 : Nat} {F : Int32 × mS} (C : mCx p s m args meth c cX7_gather 7 RX7 (some .int) E n0) {k30 : Int32 → Int32 → Int32 → Int32 → Int32 → Int32 → mS → Option (Int32 × mS)} (hk30 : ∀ (v0 : Int32) (v1 : Int32) (v2 : Int32) (v3 : Int32) (v4 : Int32) (v5 : Int32) (S : mS) (H : Heap) (locs : List Loc) (ls : Array Slot), k30 v0 v1 v2 v3 v4 v5 S = some F → mIv s E S H locs 0 → lv_has ls 7 [(0, .ref (mA E.b v0)), (1, .int v1), (2, .int v2), (3, .int v3), (4, .int v4), (5, .int v5)] → W p l e rm_X7_gather s m args below meth c H locs 0 0 (mQi below args s 0 0 n0 E F) (F0 m 30 ls [])) : ∀  (v0 : Int32) (v1 : Int32) (v2 : Int32) (v4 : Int32) (v5 : Int32) (v6 : Int32) (t0 : Int32) (S : mS) (H : Heap) (locs : List Loc) (ls : Array Slot), f_X7_gather_128 k30 v0 v1 v2 v4 v5 v6 t0 S = some F → mIv s E S H locs 0 → lv_has ls 7 [(0, .ref (mA E.b v0)), (1, .int v1), (2, .int v2), (4, .int v4), (5, .int v5), (6, .int v6)] → W p l e rm_X7_gather s m args below meth c H locs 0 0 (mQi below args s 0 0 n0 E F) (F0 m 128 ls [.int t0]) := by
  have hx := C.1
  have hb := C.2.1
  intro v0 v1 v2 v4 v5 v6 t0 S H locs ls hF hI hl
  refine lv_istore_n (lv' := [(3, .int t0), (0, .ref (mA E.b v0)), (1, .int v1), (2, .int v2), (4, .int v4), (5, .int v5), (6, .int v6)]) hx hb dX7_gather_128 rfl hl (by decide) rfl (fun ls hl => ?_)
  refine lv_iload hx hb dX7_gather_129 (lv_at hl 4 rfl) ?_
  refine lv_iload hx hb dX7_gather_131 (lv_at hl 6 rfl) ?_
  refine m_callSiR C cd_X7_190 hl.1 hI hF (fun _ h => ok_X7_greater h) rfl rfl ⟨rfl, rfl, Nat.le_of_ble_eq_true rfl, Nat.le_of_ble_eq_true rfl⟩ ⟨Nat.le_of_ble_eq_true rfl, Nat.le_of_ble_eq_true rfl⟩ (Nat.le_of_ble_eq_true rfl) dX7_gather_133 (fun r18 H locs hF hI => ?_)
  refine lv_istore (lv' := [(4, .int r18), (3, .int t0), (0, .ref (mA E.b v0)), (1, .int v1), (2, .int v2), (5, .int v5), (6, .int v6)]) hx hb dX7_gather_136 hl (by decide) rfl (fun ls hl => ?_)
  refine lv_iinc (v := v5 + 1) (lv' := [(5, .int (v5 + 1)), (4, .int r18), (3, .int t0), (0, .ref (mA E.b v0)), (1, .int v1), (2, .int v2), (6, .int v6)]) hx hb dX7_gather_138 hl (k := 5) rfl rfl (by decide) rfl (fun ls hl => ?_)
  refine lv_goto (tgt := 30) hx hb dX7_gather_141 (by decide) ?_
  exact hk30 v0 v1 v2 t0 r18 (v5 + 1) S _ _ _ hF hI (lv_sub hl [3, 4, 5, 2, 1, 0] rfl)
set_option maxRecDepth 100000 in
set_option maxHeartbeats 4000000 in
theorem bl_X7_gather_30 {p : Program} {l : Launch} {e : Env} {s : State} {m : MethodId} {args : Array Value} {below : List Frame} {meth : Method} {c : Code} {E : mE} {n0 : Nat} {F : Int32 × mS} (C : mCx p s m args meth c cX7_gather 7 RX7 (some .int) E n0) {k144 : Int32 → Int32 → Int32 → mS → Option (Int32 × mS)} (hk144 : ∀ (v2 : Int32) (v3 : Int32) (v4 : Int32) (S : mS) (H : Heap) (locs : List Loc) (ls : Array Slot), k144 v2 v3 v4 S = some F → mIv s E S H locs 0 → lv_has ls 7 [(2, .int v2), (3, .int v3), (4, .int v4)] → W p l e rm_X7_gather s m args below meth c H locs 0 0 (mQi below args s 0 0 n0 E F) (F0 m 144 ls [])) : ∀ (n : Nat)  (v0 : Int32) (v1 : Int32) (v2 : Int32) (v3 : Int32) (v4 : Int32) (v5 : Int32) (S : mS) (H : Heap) (locs : List Loc) (ls : Array Slot), f_X7_gather_30 k144 n v0 v1 v2 v3 v4 v5 S = some F → mIv s E S H locs 0 → lv_has ls 7 [(0, .ref (mA E.b v0)), (1, .int v1), (2, .int v2), (3, .int v3), (4, .int v4), (5, .int v5)] → W p l e rm_X7_gather s m args below meth c H locs 0 0 (mQi below args s 0 0 n0 E F) (F0 m 30 ls []) := by
  have hx := C.1
  have hb := C.2.1
  intro n
  induction n with
  | zero =>
    intro v0 v1 v2 v3 v4 v5 S H locs ls hF
    exact nomatch (show (none : Option (Int32 × mS)) = some F from hF)
  | succ n ih =>
    intro v0 v1 v2 v3 v4 v5 S H locs ls hF hI hl
    have hF := (f_X7_gather_30_s k144 n v0 v1 v2 v3 v4 v5 S).symm.trans hF
    refine lv_iload hx hb dX7_gather_30 (lv_at hl 5 rfl) ?_
    refine lv_bipush (v := 125) hx hb dX7_gather_32 (by decide) ?_
    refine m_icmp_ge C (tgt := 144) hF dX7_gather_34 (by decide) (fun hF => ?_) (fun hF => ?_)
    · exact hk144 v2 v3 v4 S _ _ _ hF hI (lv_sub hl [2, 3, 4] rfl)
    · refine lv_aload_n hx hb dX7_gather_37 rfl (lv_at hl 0 rfl) ?_
      refine lv_aload_n hx hb dX7_gather_38 rfl (lv_at hl 0 rfl) ?_
      refine m_getR C fd_X7_47 hI hF dX7_gather_39 (fun r5 hF => ?_)
      refine lv_iconst (v := 0) hx hb dX7_gather_42 (by decide) ?_
      refine m_callVv C cd_X7_216 ⟨rfl, by decide⟩ hl.1 hI hF (fun _ h => ok_X7_lays h) rfl rfl ⟨rfl, rfl, Nat.le_of_ble_eq_true rfl, Nat.le_of_ble_eq_true rfl⟩ ⟨Nat.le_of_ble_eq_true rfl, Nat.le_of_ble_eq_true rfl⟩ (Nat.le_of_ble_eq_true rfl) dX7_gather_43 (fun S7 H locs hF hI => ?_)
      refine lv_aload_n hx hb dX7_gather_46 rfl (lv_at hl 0 rfl) ?_
      refine lv_iload_n hx hb dX7_gather_47 rfl (lv_at hl 1 rfl) ?_
      refine lv_iload hx hb dX7_gather_48 (lv_at hl 5 rfl) ?_
      refine lv_bipush (v := 25) hx hb dX7_gather_50 (by decide) ?_
      refine lv_idiv hx hb dX7_gather_52 (by decide) ?_
      refine m_callVi C cd_X7_155 ⟨rfl, by decide⟩ hl.1 hI hF (fun _ h => ok_X7_comes h) rfl rfl ⟨rfl, rfl, Nat.le_of_ble_eq_true rfl, Nat.le_of_ble_eq_true rfl⟩ ⟨Nat.le_of_ble_eq_true rfl, Nat.le_of_ble_eq_true rfl⟩ (Nat.le_of_ble_eq_true rfl) dX7_gather_53 (fun r8 S9 H locs hF hI => ?_)
      refine lv_pop hx hb dX7_gather_56 rfl ?_
      refine lv_aload_n hx hb dX7_gather_57 rfl (lv_at hl 0 rfl) ?_
      refine lv_iload_n hx hb dX7_gather_58 rfl (lv_at hl 1 rfl) ?_
      refine lv_iload hx hb dX7_gather_59 (lv_at hl 5 rfl) ?_
      refine lv_iconst (v := 5) hx hb dX7_gather_61 (by decide) ?_
      refine lv_idiv hx hb dX7_gather_62 (by decide) ?_
      refine lv_iconst (v := 5) hx hb dX7_gather_63 (by decide) ?_
      refine m_irem C dX7_gather_64 (by decide) ?_
      refine m_callVi C cd_X7_155 ⟨rfl, by decide⟩ hl.1 hI hF (fun _ h => ok_X7_comes h) rfl rfl ⟨rfl, rfl, Nat.le_of_ble_eq_true rfl, Nat.le_of_ble_eq_true rfl⟩ ⟨Nat.le_of_ble_eq_true rfl, Nat.le_of_ble_eq_true rfl⟩ (Nat.le_of_ble_eq_true rfl) dX7_gather_65 (fun r10 S11 H locs hF hI => ?_)
      refine lv_pop hx hb dX7_gather_68 rfl ?_
      refine lv_aload_n hx hb dX7_gather_69 rfl (lv_at hl 0 rfl) ?_
      refine lv_iload_n hx hb dX7_gather_70 rfl (lv_at hl 1 rfl) ?_
      refine lv_iload hx hb dX7_gather_71 (lv_at hl 5 rfl) ?_
      refine lv_iconst (v := 5) hx hb dX7_gather_73 (by decide) ?_
      refine m_irem C dX7_gather_74 (by decide) ?_
      refine m_callVi C cd_X7_155 ⟨rfl, by decide⟩ hl.1 hI hF (fun _ h => ok_X7_comes h) rfl rfl ⟨rfl, rfl, Nat.le_of_ble_eq_true rfl, Nat.le_of_ble_eq_true rfl⟩ ⟨Nat.le_of_ble_eq_true rfl, Nat.le_of_ble_eq_true rfl⟩ (Nat.le_of_ble_eq_true rfl) dX7_gather_75 (fun r12 S13 H locs hF hI => ?_)
      refine lv_pop hx hb dX7_gather_78 rfl ?_
      refine lv_aload_n hx hb dX7_gather_79 rfl (lv_at hl 0 rfl) ?_
      refine m_callViR C cd_X7_252 ⟨rfl, by decide⟩ hl.1 hI hF (fun _ h => ok_X7_foldedMany h) rfl rfl ⟨rfl, rfl, Nat.le_of_ble_eq_true rfl, Nat.le_of_ble_eq_true rfl⟩ ⟨Nat.le_of_ble_eq_true rfl, Nat.le_of_ble_eq_true rfl⟩ (Nat.le_of_ble_eq_true rfl) dX7_gather_80 (fun r14 H locs hF hI => ?_)
      refine lv_istore (lv' := [(6, .int r14), (0, .ref (mA E.b v0)), (1, .int v1), (2, .int v2), (3, .int v3), (4, .int v4), (5, .int v5)]) hx hb dX7_gather_83 hl (by decide) rfl (fun ls hl => ?_)
      refine lv_aload_n hx hb dX7_gather_85 rfl (lv_at hl 1 rfl) ?_
      refine lv_aload_n hx hb dX7_gather_86 rfl (lv_at hl 1 rfl) ?_
      refine m_getR C fd_X7_47 hI hF dX7_gather_87 (fun r15 hF => ?_)
      refine lv_iconst (v := 0) hx hb dX7_gather_90 (by decide) ?_
      refine m_callVv C cd_X7_228 ⟨rfl, by decide⟩ hl.1 hI hF (fun _ h => ok_X7_takes h) rfl rfl ⟨rfl, rfl, Nat.le_of_ble_eq_true rfl, Nat.le_of_ble_eq_true rfl⟩ ⟨Nat.le_of_ble_eq_true rfl, Nat.le_of_ble_eq_true rfl⟩ (Nat.le_of_ble_eq_true rfl) dX7_gather_91 (fun S17 H locs hF hI => ?_)
      refine lv_iload hx hb dX7_gather_94 (lv_at hl 0 rfl) ?_
      refine lv_iload hx hb dX7_gather_96 (lv_at hl 5 rfl) ?_
      refine m_icmp_le C (tgt := 127) hF dX7_gather_98 (by decide) (fun hF => ?_) (fun hF => ?_)
      · refine lv_iload_n hx hb dX7_gather_127 rfl (lv_at hl 4 rfl) ?_
        exact (bl_X7_gather_128 C (k30 := (f_X7_gather_30 k144 n)) ih) v0 v1 v2 v4 v5 r14 v3 S17 _ _ _ hF hI (lv_sub hl [1, 2, 3, 5, 6, 0] rfl)
      · refine lv_bipush (v := 100) hx hb dX7_gather_101 (by decide) ?_
        refine lv_iload hx hb dX7_gather_103 (lv_at hl 6 rfl) ?_
        refine lv_bipush (v := 25) hx hb dX7_gather_105 (by decide) ?_
        refine lv_idiv hx hb dX7_gather_107 (by decide) ?_
        refine lv_imul hx hb dX7_gather_108 ?_
        refine lv_bipush (v := 10) hx hb dX7_gather_109 (by decide) ?_
        refine lv_iload hx hb dX7_gather_111 (lv_at hl 6 rfl) ?_
        refine lv_iconst (v := 5) hx hb dX7_gather_113 (by decide) ?_
        refine lv_idiv hx hb dX7_gather_114 (by decide) ?_
        refine lv_iconst (v := 5) hx hb dX7_gather_115 (by decide) ?_
        refine m_irem C dX7_gather_116 (by decide) ?_
        refine lv_imul hx hb dX7_gather_117 ?_
        refine lv_iadd hx hb dX7_gather_118 ?_
        refine lv_iload hx hb dX7_gather_119 (lv_at hl 6 rfl) ?_
        refine lv_iconst (v := 5) hx hb dX7_gather_121 (by decide) ?_
        refine m_irem C dX7_gather_122 (by decide) ?_
        refine lv_iadd hx hb dX7_gather_123 ?_
        refine lv_goto (tgt := 128) hx hb dX7_gather_124 (by decide) ?_
        exact (bl_X7_gather_128 C (k30 := (f_X7_gather_30 k144 n)) ih) v0 v1 v2 v4 v5 r14 (((100 * (v5 / 25)) + (10 * (mRem (v5 / 5) 5))) + (mRem v5 5)) S17 _ _ _ hF hI (lv_sub hl [1, 2, 3, 5, 6, 0] rfl)
set_option maxRecDepth 100000 in
set_option maxHeartbeats 4000000 in
theorem bl_X7_gather_154 {p : Program} {l : Launch} {e : Env} {s : State} {m : MethodId} {args : Array Value} {below : List Frame} {meth : Method} {c : Code} {E : mE} {n0 : Nat} {F : Int32 × mS} (C : mCx p s m args meth c cX7_gather 7 RX7 (some .int) E n0) : ∀  (t0 : Int32) (S : mS) (H : Heap) (locs : List Loc) (ls : Array Slot), f_X7_gather_154 t0 S = some F → mIv s E S H locs 0 → lv_has ls 7 [] → W p l e rm_X7_gather s m args below meth c H locs 0 0 (mQi below args s 0 0 n0 E F) (F0 m 154 ls [.int t0]) := by
  have hx := C.1
  have hb := C.2.1
  intro t0 S H locs ls hF hI hl
  exact m_ireti C hI hF dX7_gather_154
set_option maxRecDepth 100000 in
set_option maxHeartbeats 4000000 in
theorem bl_X7_gather_144 {p : Program} {l : Launch} {e : Env} {s : State} {m : MethodId} {args : Array Value} {below : List Frame} {meth : Method} {c : Code} {E : mE} {n0 : Nat} {F : Int32 × mS} (C : mCx p s m args meth c cX7_gather 7 RX7 (some .int) E n0) : ∀  (v2 : Int32) (v3 : Int32) (v4 : Int32) (S : mS) (H : Heap) (locs : List Loc) (ls : Array Slot), f_X7_gather_144 v2 v3 v4 S = some F → mIv s E S H locs 0 → lv_has ls 7 [(2, .int v2), (3, .int v3), (4, .int v4)] → W p l e rm_X7_gather s m args below meth c H locs 0 0 (mQi below args s 0 0 n0 E F) (F0 m 144 ls []) := by
  have hx := C.1
  have hb := C.2.1
  intro v2 v3 v4 S H locs ls hF hI hl
  refine lv_iload_n hx hb dX7_gather_144 rfl (lv_at hl 0 rfl) ?_
  refine m_if_ne C (tgt := 153) hF dX7_gather_145 (by decide) (fun hF => ?_) (fun hF => ?_)
  · refine lv_iload_n hx hb dX7_gather_153 rfl (lv_at hl 1 rfl) ?_
    exact (bl_X7_gather_154 C) v3 S _ _ _ hF hI (lv_sub hl [] rfl)
  · refine lv_iload hx hb dX7_gather_148 (lv_at hl 2 rfl) ?_
    refine lv_goto (tgt := 154) hx hb dX7_gather_150 (by decide) ?_
    exact (bl_X7_gather_154 C) v4 S _ _ _ hF hI (lv_sub hl [] rfl)
set_option maxRecDepth 100000 in
set_option maxHeartbeats 4000000 in
theorem ok_X7_gather {l : Launch} {E : mE} {v0 : Int32} {v1 : Int32} {v2 : Int32} {S : mS} {F : Int32 × mS} (hF : f_X7_gather v0 v1 v2 S = some F) : mMi l yX7_gather cX7_gather 7 (some .int) rm_X7_gather 0 0 [.ref (mA E.b v0), .int v1, .int v2] E S F := by
  refine m_met_i (by decide) (Nat.le_of_ble_eq_true rfl) (fun p e s m args below meth c ls hin C hI hl => ?_)
  have hx := C.1
  have hb := C.2.1
  have hl : lv_has ls 7 [(0, .ref (mA E.b v0)), (1, .int v1), (2, .int v2)] := hl
  generalize s.heap = H at hI ⊢
  generalize ([] : List Loc) = locs at hI ⊢
  refine lv_aload_n hx hb dX7_gather_0 rfl (lv_at hl 0 rfl) ?_
  refine lv_iload_n hx hb dX7_gather_1 rfl (lv_at hl 1 rfl) ?_
  refine m_callViR C cd_X7_219 ⟨rfl, by decide⟩ hl.1 hI hF (fun _ h => ok_X7_isWhistle h) rfl rfl ⟨rfl, rfl, Nat.le_of_ble_eq_true rfl, Nat.le_of_ble_eq_true rfl⟩ ⟨Nat.le_of_ble_eq_true rfl, Nat.le_of_ble_eq_true rfl⟩ (Nat.le_of_ble_eq_true rfl) dX7_gather_2 (fun r1 H locs hF hI => ?_)
  refine m_if_eq C (tgt := 17) hF dX7_gather_5 (by decide) (fun hF => ?_) (fun hF => ?_)
  · exact (bl_X7_gather_17 C) v0 S _ _ _ hF hI (lv_sub hl [0] rfl)
  · refine lv_iload_n hx hb dX7_gather_8 rfl (lv_at hl 2 rfl) ?_
    refine lv_iconst (v := 0) hx hb dX7_gather_9 (by decide) ?_
    refine lv_iconst (v := 1) hx hb dX7_gather_10 (by decide) ?_
    refine m_callSiR C cd_X7_95 hl.1 hI hF (fun _ h => ok_X7_in h) rfl rfl ⟨rfl, rfl, Nat.le_of_ble_eq_true rfl, Nat.le_of_ble_eq_true rfl⟩ ⟨Nat.le_of_ble_eq_true rfl, Nat.le_of_ble_eq_true rfl⟩ (Nat.le_of_ble_eq_true rfl) dX7_gather_11 (fun r4 H locs hF hI => ?_)
    refine m_if_ne C (tgt := 22) hF dX7_gather_14 (by decide) (fun hF => ?_) (fun hF => ?_)
    · refine lv_iconst (v := (-1)) hx hb dX7_gather_22 (by decide) ?_
      refine lv_istore_n (lv' := [(3, .int (-1)), (0, .ref (mA E.b v0)), (1, .int v1), (2, .int v2)]) hx hb dX7_gather_23 rfl hl (by decide) rfl (fun ls hl => ?_)
      refine lv_iconst (v := (-1)) hx hb dX7_gather_24 (by decide) ?_
      refine lv_istore (lv' := [(4, .int (-1)), (3, .int (-1)), (0, .ref (mA E.b v0)), (1, .int v1), (2, .int v2)]) hx hb dX7_gather_25 hl (by decide) rfl (fun ls hl => ?_)
      refine lv_iconst (v := 0) hx hb dX7_gather_27 (by decide) ?_
      refine lv_istore (lv' := [(5, .int 0), (4, .int (-1)), (3, .int (-1)), (0, .ref (mA E.b v0)), (1, .int v1), (2, .int v2)]) hx hb dX7_gather_28 hl (by decide) rfl (fun ls hl => ?_)
      exact (bl_X7_gather_30 C (k144 := (f_X7_gather_144)) (bl_X7_gather_144 C) 1000) v0 v1 v2 (-1) (-1) 0 S _ _ _ hF hI (lv_sub hl [3, 4, 5, 2, 1, 0] rfl)
    · exact (bl_X7_gather_17 C) v0 S _ _ _ hF hI (lv_sub hl [0] rfl)
noncomputable def f_X7_seen_15 (v0 : Int32) (S : mS) : Option (Int32 × mS) := mRc 7 v0 S (mC (f_X7_bad v0 S) (fun r2 S3 => some (r2, S3)))
noncomputable def f_X7_seen (v0 : Int32) (v1 : Int32) (v2 : Int32) (S : mS) : Option (Int32 × mS) := mRc 7 v0 S (mCp (f_X7_isSheep v0 v1 S) (fun r1 => if r1 = 0 then ((f_X7_seen_15) v0 S) else (mCp (f_X7_isCell v2) (fun r4 => if r4 = 0 then ((f_X7_seen_15) v0 S) else (mG 7 5 v0 S (fun r5 => if r5 = 5 then (mRc 7 v0 S (mC (f_X7_full v0 S) (fun r15 S16 => some (r15, S16)))) else (mGr 7 12 v0 S (fun r6 => mG 7 5 v0 S (fun r7 => mXs r6 (2 * r7) v1 S (fun S8 => mGr 7 12 v0 S8 (fun r9 => mG 7 5 v0 S8 (fun r10 => mXs r9 ((2 * r10) + 1) v2 S8 (fun S11 => mG 7 5 v0 S11 (fun r12 => mP 7 5 v0 (r12 + 1) S11 (fun S13 => mG 7 5 v0 S13 (fun r14 => some (r14, S13)))))))))))))))))
def rm_X7_seen : Room := { frames := 2, cells := 0, slots := 0, locals := 43 }
set_option maxRecDepth 100000 in
set_option maxHeartbeats 4000000 in
theorem bl_X7_seen_15 {p : Program} {l : Launch} {e : Env} {s : State} {m : MethodId} {args : Array Value} {below : List Frame} {meth : Method} {c : Code} {E : mE} {n0 : Nat} {F : Int32 × mS} (C : mCx p s m args meth c cX7_seen 3 RX7 (some .int) E n0) : ∀  (v0 : Int32) (S : mS) (H : Heap) (locs : List Loc) (ls : Array Slot), f_X7_seen_15 v0 S = some F → mIv s E S H locs 0 → lv_has ls 3 [(0, .ref (mA E.b v0))] → W p l e rm_X7_seen s m args below meth c H locs 0 0 (mQi below args s 0 0 n0 E F) (F0 m 15 ls []) := by
  have hx := C.1
  have hb := C.2.1
  intro v0 S H locs ls hF hI hl
  refine lv_aload_n hx hb dX7_seen_15 rfl (lv_at hl 0 rfl) ?_
  refine m_callVi C cd_X7_103 ⟨rfl, by decide⟩ hl.1 hI hF (fun _ h => ok_X7_bad h) rfl rfl ⟨rfl, rfl, Nat.le_of_ble_eq_true rfl, Nat.le_of_ble_eq_true rfl⟩ ⟨Nat.le_of_ble_eq_true rfl, Nat.le_of_ble_eq_true rfl⟩ (Nat.le_of_ble_eq_true rfl) dX7_seen_16 (fun r2 S3 H locs hF hI => ?_)
  exact m_ireti C hI hF dX7_seen_19
set_option maxRecDepth 100000 in
set_option maxHeartbeats 4000000 in
theorem ok_X7_seen {l : Launch} {E : mE} {v0 : Int32} {v1 : Int32} {v2 : Int32} {S : mS} {F : Int32 × mS} (hF : f_X7_seen v0 v1 v2 S = some F) : mMi l yX7_seen cX7_seen 3 (some .int) rm_X7_seen 0 0 [.ref (mA E.b v0), .int v1, .int v2] E S F := by
  refine m_met_i (by decide) (Nat.le_of_ble_eq_true rfl) (fun p e s m args below meth c ls hin C hI hl => ?_)
  have hx := C.1
  have hb := C.2.1
  have hl : lv_has ls 3 [(0, .ref (mA E.b v0)), (1, .int v1), (2, .int v2)] := hl
  generalize s.heap = H at hI ⊢
  generalize ([] : List Loc) = locs at hI ⊢
  refine lv_aload_n hx hb dX7_seen_0 rfl (lv_at hl 0 rfl) ?_
  refine lv_iload_n hx hb dX7_seen_1 rfl (lv_at hl 1 rfl) ?_
  refine m_callViR C cd_X7_231 ⟨rfl, by decide⟩ hl.1 hI hF (fun _ h => ok_X7_isSheep h) rfl rfl ⟨rfl, rfl, Nat.le_of_ble_eq_true rfl, Nat.le_of_ble_eq_true rfl⟩ ⟨Nat.le_of_ble_eq_true rfl, Nat.le_of_ble_eq_true rfl⟩ (Nat.le_of_ble_eq_true rfl) dX7_seen_2 (fun r1 H locs hF hI => ?_)
  refine m_if_eq C (tgt := 15) hF dX7_seen_5 (by decide) (fun hF => ?_) (fun hF => ?_)
  · exact (bl_X7_seen_15 C) v0 S _ _ _ hF hI (lv_sub hl [0] rfl)
  · refine lv_iload_n hx hb dX7_seen_8 rfl (lv_at hl 2 rfl) ?_
    refine m_callSiR C cd_X7_99 hl.1 hI hF (fun _ h => ok_X7_isCell h) rfl rfl ⟨rfl, rfl, Nat.le_of_ble_eq_true rfl, Nat.le_of_ble_eq_true rfl⟩ ⟨Nat.le_of_ble_eq_true rfl, Nat.le_of_ble_eq_true rfl⟩ (Nat.le_of_ble_eq_true rfl) dX7_seen_9 (fun r4 H locs hF hI => ?_)
    refine m_if_ne C (tgt := 20) hF dX7_seen_12 (by decide) (fun hF => ?_) (fun hF => ?_)
    · refine lv_aload_n hx hb dX7_seen_20 rfl (lv_at hl 0 rfl) ?_
      refine m_get C fd_X7_83 hI hF dX7_seen_21 (fun r5 hF => ?_)
      refine lv_iconst (v := 5) hx hb dX7_seen_24 (by decide) ?_
      refine m_icmp_ne C (tgt := 33) hF dX7_seen_25 (by decide) (fun hF => ?_) (fun hF => ?_)
      · refine lv_aload_n hx hb dX7_seen_33 rfl (lv_at hl 0 rfl) ?_
        refine m_getR C fd_X7_29 hI hF dX7_seen_34 (fun r6 hF => ?_)
        refine lv_iconst (v := 2) hx hb dX7_seen_37 (by decide) ?_
        refine lv_aload_n hx hb dX7_seen_38 rfl (lv_at hl 0 rfl) ?_
        refine m_get C fd_X7_83 hI hF dX7_seen_39 (fun r7 hF => ?_)
        refine lv_imul hx hb dX7_seen_42 ?_
        refine lv_iload_n hx hb dX7_seen_43 rfl (lv_at hl 1 rfl) ?_
        refine m_iast C hI hF dX7_seen_44 (fun S8 H locs hF hI => ?_)
        refine lv_aload_n hx hb dX7_seen_45 rfl (lv_at hl 0 rfl) ?_
        refine m_getR C fd_X7_29 hI hF dX7_seen_46 (fun r9 hF => ?_)
        refine lv_iconst (v := 2) hx hb dX7_seen_49 (by decide) ?_
        refine lv_aload_n hx hb dX7_seen_50 rfl (lv_at hl 0 rfl) ?_
        refine m_get C fd_X7_83 hI hF dX7_seen_51 (fun r10 hF => ?_)
        refine lv_imul hx hb dX7_seen_54 ?_
        refine lv_iconst (v := 1) hx hb dX7_seen_55 (by decide) ?_
        refine lv_iadd hx hb dX7_seen_56 ?_
        refine lv_iload_n hx hb dX7_seen_57 rfl (lv_at hl 2 rfl) ?_
        refine m_iast C hI hF dX7_seen_58 (fun S11 H locs hF hI => ?_)
        refine lv_aload_n hx hb dX7_seen_59 rfl (lv_at hl 0 rfl) ?_
        refine lv_dup hx hb dX7_seen_60 rfl ?_
        refine m_get C fd_X7_83 hI hF dX7_seen_61 (fun r12 hF => ?_)
        refine lv_iconst (v := 1) hx hb dX7_seen_64 (by decide) ?_
        refine lv_iadd hx hb dX7_seen_65 ?_
        refine m_put C fd_X7_83 hI hF dX7_seen_66 (fun S13 H locs hF hI => ?_)
        refine lv_aload_n hx hb dX7_seen_69 rfl (lv_at hl 0 rfl) ?_
        refine m_get C fd_X7_83 hI hF dX7_seen_70 (fun r14 hF => ?_)
        exact m_ireti C hI hF dX7_seen_73
      · refine lv_aload_n hx hb dX7_seen_28 rfl (lv_at hl 0 rfl) ?_
        refine m_callVi C cd_X7_107 ⟨rfl, by decide⟩ hl.1 hI hF (fun _ h => ok_X7_full h) rfl rfl ⟨rfl, rfl, Nat.le_of_ble_eq_true rfl, Nat.le_of_ble_eq_true rfl⟩ ⟨Nat.le_of_ble_eq_true rfl, Nat.le_of_ble_eq_true rfl⟩ (Nat.le_of_ble_eq_true rfl) dX7_seen_29 (fun r15 S16 H locs hF hI => ?_)
        exact m_ireti C hI hF dX7_seen_32
    · exact (bl_X7_seen_15 C) v0 S _ _ _ hF hI (lv_sub hl [0] rfl)
noncomputable def f_X7_callsBy_61 (k15 : Int32 → Int32 → Int32 → Int32 → Int32 → Int32 → Option Int32) (S : mS) (v0 : Int32) (v1 : Int32) (v2 : Int32) (v3 : Int32) (v5 : Int32) (t0 : Int32) : Option Int32 := k15 v0 v1 v2 v3 t0 (v5 + 2)
noncomputable def f_X7_callsBy_60 (k15 : Int32 → Int32 → Int32 → Int32 → Int32 → Int32 → Option Int32) (S : mS) (v0 : Int32) (v1 : Int32) (v2 : Int32) (v3 : Int32) (v5 : Int32) : Option Int32 := (f_X7_callsBy_61 k15 S) v0 v1 v2 v3 v5 0
noncomputable def f_X7_callsBy_15 (k69 : Int32 → Int32 → Int32 → Int32 → Int32 → Option Int32) (S : mS) : Nat → Int32 → Int32 → Int32 → Int32 → Int32 → Int32 → Option Int32 := fun n => Nat.rec (motive := fun _ => Int32 → Int32 → Int32 → Int32 → Int32 → Int32 → Option Int32) (fun _ _ _ _ _ _ => none) (fun _ rec v0 v1 v2 v3 v4 v5 => mG 7 5 v0 S (fun r1 => if (2 * r1) ≤ v5 then (k69 v0 v1 v2 v3 v4) else (if v4 = 0 then ((f_X7_callsBy_60 rec S) v0 v1 v2 v3 v5) else (mGr 7 12 v0 S (fun r2 => mX 8 r2 v5 S (fun r3 => mRc 7 v0 S (mCp (f_X7_givesTo v0 r3 v1 v3 S) (fun r4 => mGr 7 12 v0 S (fun r5 => mX 8 r5 (v5 + 1) S (fun r6 => if r4 = r6 then ((f_X7_callsBy_61 rec S) v0 v1 v2 v3 v5 1) else ((f_X7_callsBy_60 rec S) v0 v1 v2 v3 v5))))))))))) n
theorem f_X7_callsBy_15_s (k69 : Int32 → Int32 → Int32 → Int32 → Int32 → Option Int32) (S : mS) (n : Nat) (v0 : Int32) (v1 : Int32) (v2 : Int32) (v3 : Int32) (v4 : Int32) (v5 : Int32) : f_X7_callsBy_15 k69 S (n + 1) v0 v1 v2 v3 v4 v5 = mG 7 5 v0 S (fun r1 => if (2 * r1) ≤ v5 then (k69 v0 v1 v2 v3 v4) else (if v4 = 0 then ((f_X7_callsBy_60 (f_X7_callsBy_15 k69 S n) S) v0 v1 v2 v3 v5) else (mGr 7 12 v0 S (fun r2 => mX 8 r2 v5 S (fun r3 => mRc 7 v0 S (mCp (f_X7_givesTo v0 r3 v1 v3 S) (fun r4 => mGr 7 12 v0 S (fun r5 => mX 8 r5 (v5 + 1) S (fun r6 => if r4 = r6 then ((f_X7_callsBy_61 (f_X7_callsBy_15 k69 S n) S) v0 v1 v2 v3 v5 1) else ((f_X7_callsBy_60 (f_X7_callsBy_15 k69 S n) S) v0 v1 v2 v3 v5)))))))))) := rfl
noncomputable def f_X7_callsBy_82 (k4 : Int32 → Int32 → Int32 → Int32 → Option Int32) (S : mS) (v0 : Int32) (v1 : Int32) (v3 : Int32) (t0 : Int32) (t1 : Int32) : Option Int32 := k4 v0 v1 (t0 ||| t1) (v3 + 1)
noncomputable def f_X7_callsBy_69 (k4 : Int32 → Int32 → Int32 → Int32 → Option Int32) (S : mS) (v0 : Int32) (v1 : Int32) (v2 : Int32) (v3 : Int32) (v4 : Int32) : Option Int32 := if v4 = 0 then ((f_X7_callsBy_82 k4 S) v0 v1 v3 v2 0) else ((f_X7_callsBy_82 k4 S) v0 v1 v3 v2 (1 <<< (v3 &&& 31)))
noncomputable def f_X7_callsBy_4 (k90 : Int32 → Option Int32) (S : mS) : Nat → Int32 → Int32 → Int32 → Int32 → Option Int32 := fun n => Nat.rec (motive := fun _ => Int32 → Int32 → Int32 → Int32 → Option Int32) (fun _ _ _ _ => none) (fun _ rec v0 v1 v2 v3 => if 5 ≤ v3 then (k90 v2) else ((f_X7_callsBy_15 (f_X7_callsBy_69 rec S) S 1000) v0 v1 v2 v3 1 0)) n
theorem f_X7_callsBy_4_s (k90 : Int32 → Option Int32) (S : mS) (n : Nat) (v0 : Int32) (v1 : Int32) (v2 : Int32) (v3 : Int32) : f_X7_callsBy_4 k90 S (n + 1) v0 v1 v2 v3 = if 5 ≤ v3 then (k90 v2) else ((f_X7_callsBy_15 (f_X7_callsBy_69 (f_X7_callsBy_4 k90 S n) S) S 1000) v0 v1 v2 v3 1 0) := rfl
noncomputable def f_X7_callsBy_90 (S : mS) (v2 : Int32) : Option Int32 := some v2
noncomputable def f_X7_callsBy (v0 : Int32) (v1 : Int32) (S : mS) : Option Int32 := (f_X7_callsBy_4 (f_X7_callsBy_90 S) S 1000) v0 v1 0 0
def rm_X7_callsBy : Room := { frames := 4, cells := 0, slots := 0, locals := 96 }
set_option maxRecDepth 100000 in
set_option maxHeartbeats 4000000 in
theorem bl_X7_callsBy_61 {p : Program} {l : Launch} {e : Env} {s : State} {m : MethodId} {args : Array Value} {below : List Frame} {meth : Method} {c : Code} {E : mE} {n0 : Nat} {r : Int32} {S : mS} (C : mCx p s m args meth c cX7_callsBy 6 RX7 (some .int) E n0) {k15 : Int32 → Int32 → Int32 → Int32 → Int32 → Int32 → Option Int32} (hk15 : ∀ (v0 : Int32) (v1 : Int32) (v2 : Int32) (v3 : Int32) (v4 : Int32) (v5 : Int32) (H : Heap) (locs : List Loc) (ls : Array Slot), k15 v0 v1 v2 v3 v4 v5 = some r → mIv s E S H locs 0 → lv_has ls 6 [(0, .ref (mA E.b v0)), (1, .int v1), (2, .int v2), (3, .int v3), (4, .int v4), (5, .int v5)] → W p l e rm_X7_callsBy s m args below meth c H locs 0 0 (mQi below args s 0 0 n0 E (r, S)) (F0 m 15 ls [])) : ∀  (v0 : Int32) (v1 : Int32) (v2 : Int32) (v3 : Int32) (v5 : Int32) (t0 : Int32) (H : Heap) (locs : List Loc) (ls : Array Slot), f_X7_callsBy_61 k15 S v0 v1 v2 v3 v5 t0 = some r → mIv s E S H locs 0 → lv_has ls 6 [(0, .ref (mA E.b v0)), (1, .int v1), (2, .int v2), (3, .int v3), (5, .int v5)] → W p l e rm_X7_callsBy s m args below meth c H locs 0 0 (mQi below args s 0 0 n0 E (r, S)) (F0 m 61 ls [.int t0]) := by
  have hx := C.1
  have hb := C.2.1
  intro v0 v1 v2 v3 v5 t0 H locs ls hF hI hl
  refine lv_istore (lv' := [(4, .int t0), (0, .ref (mA E.b v0)), (1, .int v1), (2, .int v2), (3, .int v3), (5, .int v5)]) hx hb dX7_callsBy_61 hl (by decide) rfl (fun ls hl => ?_)
  refine lv_iinc (v := v5 + 2) (lv' := [(5, .int (v5 + 2)), (4, .int t0), (0, .ref (mA E.b v0)), (1, .int v1), (2, .int v2), (3, .int v3)]) hx hb dX7_callsBy_63 hl (k := 5) rfl rfl (by decide) rfl (fun ls hl => ?_)
  refine lv_goto (tgt := 15) hx hb dX7_callsBy_66 (by decide) ?_
  exact hk15 v0 v1 v2 v3 t0 (v5 + 2) _ _ _ hF hI (lv_sub hl [2, 3, 4, 5, 1, 0] rfl)
set_option maxRecDepth 100000 in
set_option maxHeartbeats 4000000 in
theorem bl_X7_callsBy_60 {p : Program} {l : Launch} {e : Env} {s : State} {m : MethodId} {args : Array Value} {below : List Frame} {meth : Method} {c : Code} {E : mE} {n0 : Nat} {r : Int32} {S : mS} (C : mCx p s m args meth c cX7_callsBy 6 RX7 (some .int) E n0) {k15 : Int32 → Int32 → Int32 → Int32 → Int32 → Int32 → Option Int32} (hk15 : ∀ (v0 : Int32) (v1 : Int32) (v2 : Int32) (v3 : Int32) (v4 : Int32) (v5 : Int32) (H : Heap) (locs : List Loc) (ls : Array Slot), k15 v0 v1 v2 v3 v4 v5 = some r → mIv s E S H locs 0 → lv_has ls 6 [(0, .ref (mA E.b v0)), (1, .int v1), (2, .int v2), (3, .int v3), (4, .int v4), (5, .int v5)] → W p l e rm_X7_callsBy s m args below meth c H locs 0 0 (mQi below args s 0 0 n0 E (r, S)) (F0 m 15 ls [])) : ∀  (v0 : Int32) (v1 : Int32) (v2 : Int32) (v3 : Int32) (v5 : Int32) (H : Heap) (locs : List Loc) (ls : Array Slot), f_X7_callsBy_60 k15 S v0 v1 v2 v3 v5 = some r → mIv s E S H locs 0 → lv_has ls 6 [(0, .ref (mA E.b v0)), (1, .int v1), (2, .int v2), (3, .int v3), (5, .int v5)] → W p l e rm_X7_callsBy s m args below meth c H locs 0 0 (mQi below args s 0 0 n0 E (r, S)) (F0 m 60 ls []) := by
  have hx := C.1
  have hb := C.2.1
  intro v0 v1 v2 v3 v5 H locs ls hF hI hl
  refine lv_iconst (v := 0) hx hb dX7_callsBy_60 (by decide) ?_
  exact (bl_X7_callsBy_61 C (k15 := k15) hk15) v0 v1 v2 v3 v5 0 _ _ _ hF hI (lv_sub hl [0, 1, 2, 3, 4] rfl)
set_option maxRecDepth 100000 in
set_option maxHeartbeats 4000000 in
theorem bl_X7_callsBy_15 {p : Program} {l : Launch} {e : Env} {s : State} {m : MethodId} {args : Array Value} {below : List Frame} {meth : Method} {c : Code} {E : mE} {n0 : Nat} {r : Int32} {S : mS} (C : mCx p s m args meth c cX7_callsBy 6 RX7 (some .int) E n0) {k69 : Int32 → Int32 → Int32 → Int32 → Int32 → Option Int32} (hk69 : ∀ (v0 : Int32) (v1 : Int32) (v2 : Int32) (v3 : Int32) (v4 : Int32) (H : Heap) (locs : List Loc) (ls : Array Slot), k69 v0 v1 v2 v3 v4 = some r → mIv s E S H locs 0 → lv_has ls 6 [(0, .ref (mA E.b v0)), (1, .int v1), (2, .int v2), (3, .int v3), (4, .int v4)] → W p l e rm_X7_callsBy s m args below meth c H locs 0 0 (mQi below args s 0 0 n0 E (r, S)) (F0 m 69 ls [])) : ∀ (n : Nat)  (v0 : Int32) (v1 : Int32) (v2 : Int32) (v3 : Int32) (v4 : Int32) (v5 : Int32) (H : Heap) (locs : List Loc) (ls : Array Slot), f_X7_callsBy_15 k69 S n v0 v1 v2 v3 v4 v5 = some r → mIv s E S H locs 0 → lv_has ls 6 [(0, .ref (mA E.b v0)), (1, .int v1), (2, .int v2), (3, .int v3), (4, .int v4), (5, .int v5)] → W p l e rm_X7_callsBy s m args below meth c H locs 0 0 (mQi below args s 0 0 n0 E (r, S)) (F0 m 15 ls []) := by
  have hx := C.1
  have hb := C.2.1
  intro n
  induction n with
  | zero =>
    intro v0 v1 v2 v3 v4 v5 H locs ls hF
    exact nomatch (show (none : Option Int32) = some r from hF)
  | succ n ih =>
    intro v0 v1 v2 v3 v4 v5 H locs ls hF hI hl
    have hF := (f_X7_callsBy_15_s k69 S n v0 v1 v2 v3 v4 v5).symm.trans hF
    refine lv_iload hx hb dX7_callsBy_15 (lv_at hl 5 rfl) ?_
    refine lv_iconst (v := 2) hx hb dX7_callsBy_17 (by decide) ?_
    refine lv_aload_n hx hb dX7_callsBy_18 rfl (lv_at hl 0 rfl) ?_
    refine m_get C fd_X7_83 hI hF dX7_callsBy_19 (fun r1 hF => ?_)
    refine lv_imul hx hb dX7_callsBy_22 ?_
    refine m_icmp_ge C (tgt := 69) hF dX7_callsBy_23 (by decide) (fun hF => ?_) (fun hF => ?_)
    · exact hk69 v0 v1 v2 v3 v4 _ _ _ hF hI (lv_sub hl [0, 1, 2, 3, 4] rfl)
    · refine lv_iload hx hb dX7_callsBy_26 (lv_at hl 4 rfl) ?_
      refine m_if_eq C (tgt := 60) hF dX7_callsBy_28 (by decide) (fun hF => ?_) (fun hF => ?_)
      · exact (bl_X7_callsBy_60 C (k15 := (f_X7_callsBy_15 k69 S n)) ih) v0 v1 v2 v3 v5 _ _ _ hF hI (lv_sub hl [0, 1, 2, 3, 5] rfl)
      · refine lv_aload_n hx hb dX7_callsBy_31 rfl (lv_at hl 0 rfl) ?_
        refine lv_aload_n hx hb dX7_callsBy_32 rfl (lv_at hl 0 rfl) ?_
        refine m_getR C fd_X7_29 hI hF dX7_callsBy_33 (fun r2 hF => ?_)
        refine lv_iload hx hb dX7_callsBy_36 (lv_at hl 5 rfl) ?_
        refine m_iald C hI hF dX7_callsBy_38 (fun r3 hF => ?_)
        refine lv_iload_n hx hb dX7_callsBy_39 rfl (lv_at hl 1 rfl) ?_
        refine lv_iload_n hx hb dX7_callsBy_40 rfl (lv_at hl 3 rfl) ?_
        refine m_callViR C cd_X7_234 ⟨rfl, by decide⟩ hl.1 hI hF (fun _ h => ok_X7_givesTo h) rfl rfl ⟨rfl, rfl, Nat.le_of_ble_eq_true rfl, Nat.le_of_ble_eq_true rfl⟩ ⟨Nat.le_of_ble_eq_true rfl, Nat.le_of_ble_eq_true rfl⟩ (Nat.le_of_ble_eq_true rfl) dX7_callsBy_41 (fun r4 H locs hF hI => ?_)
        refine lv_aload_n hx hb dX7_callsBy_44 rfl (lv_at hl 0 rfl) ?_
        refine m_getR C fd_X7_29 hI hF dX7_callsBy_45 (fun r5 hF => ?_)
        refine lv_iload hx hb dX7_callsBy_48 (lv_at hl 5 rfl) ?_
        refine lv_iconst (v := 1) hx hb dX7_callsBy_50 (by decide) ?_
        refine lv_iadd hx hb dX7_callsBy_51 ?_
        refine m_iald C hI hF dX7_callsBy_52 (fun r6 hF => ?_)
        refine m_icmp_ne C (tgt := 60) hF dX7_callsBy_53 (by decide) (fun hF => ?_) (fun hF => ?_)
        · exact (bl_X7_callsBy_60 C (k15 := (f_X7_callsBy_15 k69 S n)) ih) v0 v1 v2 v3 v5 _ _ _ hF hI (lv_sub hl [0, 1, 2, 3, 5] rfl)
        · refine lv_iconst (v := 1) hx hb dX7_callsBy_56 (by decide) ?_
          refine lv_goto (tgt := 61) hx hb dX7_callsBy_57 (by decide) ?_
          exact (bl_X7_callsBy_61 C (k15 := (f_X7_callsBy_15 k69 S n)) ih) v0 v1 v2 v3 v5 1 _ _ _ hF hI (lv_sub hl [0, 1, 2, 3, 5] rfl)
set_option maxRecDepth 100000 in
set_option maxHeartbeats 4000000 in
theorem bl_X7_callsBy_82 {p : Program} {l : Launch} {e : Env} {s : State} {m : MethodId} {args : Array Value} {below : List Frame} {meth : Method} {c : Code} {E : mE} {n0 : Nat} {r : Int32} {S : mS} (C : mCx p s m args meth c cX7_callsBy 6 RX7 (some .int) E n0) {k4 : Int32 → Int32 → Int32 → Int32 → Option Int32} (hk4 : ∀ (v0 : Int32) (v1 : Int32) (v2 : Int32) (v3 : Int32) (H : Heap) (locs : List Loc) (ls : Array Slot), k4 v0 v1 v2 v3 = some r → mIv s E S H locs 0 → lv_has ls 6 [(0, .ref (mA E.b v0)), (1, .int v1), (2, .int v2), (3, .int v3)] → W p l e rm_X7_callsBy s m args below meth c H locs 0 0 (mQi below args s 0 0 n0 E (r, S)) (F0 m 4 ls [])) : ∀  (v0 : Int32) (v1 : Int32) (v3 : Int32) (t0 : Int32) (t1 : Int32) (H : Heap) (locs : List Loc) (ls : Array Slot), f_X7_callsBy_82 k4 S v0 v1 v3 t0 t1 = some r → mIv s E S H locs 0 → lv_has ls 6 [(0, .ref (mA E.b v0)), (1, .int v1), (3, .int v3)] → W p l e rm_X7_callsBy s m args below meth c H locs 0 0 (mQi below args s 0 0 n0 E (r, S)) (F0 m 82 ls [.int t1, .int t0]) := by
  have hx := C.1
  have hb := C.2.1
  intro v0 v1 v3 t0 t1 H locs ls hF hI hl
  refine lv_ior hx hb dX7_callsBy_82 ?_
  refine lv_istore_n (lv' := [(2, .int (t0 ||| t1)), (0, .ref (mA E.b v0)), (1, .int v1), (3, .int v3)]) hx hb dX7_callsBy_83 rfl hl (by decide) rfl (fun ls hl => ?_)
  refine lv_iinc (v := v3 + 1) (lv' := [(3, .int (v3 + 1)), (2, .int (t0 ||| t1)), (0, .ref (mA E.b v0)), (1, .int v1)]) hx hb dX7_callsBy_84 hl (k := 3) rfl rfl (by decide) rfl (fun ls hl => ?_)
  refine lv_goto (tgt := 4) hx hb dX7_callsBy_87 (by decide) ?_
  exact hk4 v0 v1 (t0 ||| t1) (v3 + 1) _ _ _ hF hI (lv_sub hl [2, 3, 1, 0] rfl)
set_option maxRecDepth 100000 in
set_option maxHeartbeats 4000000 in
theorem bl_X7_callsBy_69 {p : Program} {l : Launch} {e : Env} {s : State} {m : MethodId} {args : Array Value} {below : List Frame} {meth : Method} {c : Code} {E : mE} {n0 : Nat} {r : Int32} {S : mS} (C : mCx p s m args meth c cX7_callsBy 6 RX7 (some .int) E n0) {k4 : Int32 → Int32 → Int32 → Int32 → Option Int32} (hk4 : ∀ (v0 : Int32) (v1 : Int32) (v2 : Int32) (v3 : Int32) (H : Heap) (locs : List Loc) (ls : Array Slot), k4 v0 v1 v2 v3 = some r → mIv s E S H locs 0 → lv_has ls 6 [(0, .ref (mA E.b v0)), (1, .int v1), (2, .int v2), (3, .int v3)] → W p l e rm_X7_callsBy s m args below meth c H locs 0 0 (mQi below args s 0 0 n0 E (r, S)) (F0 m 4 ls [])) : ∀  (v0 : Int32) (v1 : Int32) (v2 : Int32) (v3 : Int32) (v4 : Int32) (H : Heap) (locs : List Loc) (ls : Array Slot), f_X7_callsBy_69 k4 S v0 v1 v2 v3 v4 = some r → mIv s E S H locs 0 → lv_has ls 6 [(0, .ref (mA E.b v0)), (1, .int v1), (2, .int v2), (3, .int v3), (4, .int v4)] → W p l e rm_X7_callsBy s m args below meth c H locs 0 0 (mQi below args s 0 0 n0 E (r, S)) (F0 m 69 ls []) := by
  have hx := C.1
  have hb := C.2.1
  intro v0 v1 v2 v3 v4 H locs ls hF hI hl
  refine lv_iload_n hx hb dX7_callsBy_69 rfl (lv_at hl 2 rfl) ?_
  refine lv_iload hx hb dX7_callsBy_70 (lv_at hl 4 rfl) ?_
  refine m_if_eq C (tgt := 81) hF dX7_callsBy_72 (by decide) (fun hF => ?_) (fun hF => ?_)
  · refine lv_iconst (v := 0) hx hb dX7_callsBy_81 (by decide) ?_
    exact (bl_X7_callsBy_82 C (k4 := k4) hk4) v0 v1 v3 v2 0 _ _ _ hF hI (lv_sub hl [0, 1, 3] rfl)
  · refine lv_iconst (v := 1) hx hb dX7_callsBy_75 (by decide) ?_
    refine lv_iload_n hx hb dX7_callsBy_76 rfl (lv_at hl 3 rfl) ?_
    refine lv_ishl hx hb dX7_callsBy_77 ?_
    refine lv_goto (tgt := 82) hx hb dX7_callsBy_78 (by decide) ?_
    exact (bl_X7_callsBy_82 C (k4 := k4) hk4) v0 v1 v3 v2 (1 <<< (v3 &&& 31)) _ _ _ hF hI (lv_sub hl [0, 1, 3] rfl)
set_option maxRecDepth 100000 in
set_option maxHeartbeats 4000000 in
theorem bl_X7_callsBy_4 {p : Program} {l : Launch} {e : Env} {s : State} {m : MethodId} {args : Array Value} {below : List Frame} {meth : Method} {c : Code} {E : mE} {n0 : Nat} {r : Int32} {S : mS} (C : mCx p s m args meth c cX7_callsBy 6 RX7 (some .int) E n0) {k90 : Int32 → Option Int32} (hk90 : ∀ (v2 : Int32) (H : Heap) (locs : List Loc) (ls : Array Slot), k90 v2 = some r → mIv s E S H locs 0 → lv_has ls 6 [(2, .int v2)] → W p l e rm_X7_callsBy s m args below meth c H locs 0 0 (mQi below args s 0 0 n0 E (r, S)) (F0 m 90 ls [])) : ∀ (n : Nat)  (v0 : Int32) (v1 : Int32) (v2 : Int32) (v3 : Int32) (H : Heap) (locs : List Loc) (ls : Array Slot), f_X7_callsBy_4 k90 S n v0 v1 v2 v3 = some r → mIv s E S H locs 0 → lv_has ls 6 [(0, .ref (mA E.b v0)), (1, .int v1), (2, .int v2), (3, .int v3)] → W p l e rm_X7_callsBy s m args below meth c H locs 0 0 (mQi below args s 0 0 n0 E (r, S)) (F0 m 4 ls []) := by
  have hx := C.1
  have hb := C.2.1
  intro n
  induction n with
  | zero =>
    intro v0 v1 v2 v3 H locs ls hF
    exact nomatch (show (none : Option Int32) = some r from hF)
  | succ n ih =>
    intro v0 v1 v2 v3 H locs ls hF hI hl
    have hF := (f_X7_callsBy_4_s k90 S n v0 v1 v2 v3).symm.trans hF
    refine lv_iload_n hx hb dX7_callsBy_4 rfl (lv_at hl 3 rfl) ?_
    refine lv_iconst (v := 5) hx hb dX7_callsBy_5 (by decide) ?_
    refine m_icmp_ge C (tgt := 90) hF dX7_callsBy_6 (by decide) (fun hF => ?_) (fun hF => ?_)
    · exact hk90 v2 _ _ _ hF hI (lv_sub hl [2] rfl)
    · refine lv_iconst (v := 1) hx hb dX7_callsBy_9 (by decide) ?_
      refine lv_istore (lv' := [(4, .int 1), (0, .ref (mA E.b v0)), (1, .int v1), (2, .int v2), (3, .int v3)]) hx hb dX7_callsBy_10 hl (by decide) rfl (fun ls hl => ?_)
      refine lv_iconst (v := 0) hx hb dX7_callsBy_12 (by decide) ?_
      refine lv_istore (lv' := [(5, .int 0), (4, .int 1), (0, .ref (mA E.b v0)), (1, .int v1), (2, .int v2), (3, .int v3)]) hx hb dX7_callsBy_13 hl (by decide) rfl (fun ls hl => ?_)
      exact (bl_X7_callsBy_15 C (k69 := (f_X7_callsBy_69 (f_X7_callsBy_4 k90 S n) S)) (bl_X7_callsBy_69 C (k4 := (f_X7_callsBy_4 k90 S n)) ih) 1000) v0 v1 v2 v3 1 0 _ _ _ hF hI (lv_sub hl [2, 3, 4, 5, 1, 0] rfl)
set_option maxRecDepth 100000 in
set_option maxHeartbeats 4000000 in
theorem bl_X7_callsBy_90 {p : Program} {l : Launch} {e : Env} {s : State} {m : MethodId} {args : Array Value} {below : List Frame} {meth : Method} {c : Code} {E : mE} {n0 : Nat} {r : Int32} {S : mS} (C : mCx p s m args meth c cX7_callsBy 6 RX7 (some .int) E n0) : ∀  (v2 : Int32) (H : Heap) (locs : List Loc) (ls : Array Slot), f_X7_callsBy_90 S v2 = some r → mIv s E S H locs 0 → lv_has ls 6 [(2, .int v2)] → W p l e rm_X7_callsBy s m args below meth c H locs 0 0 (mQi below args s 0 0 n0 E (r, S)) (F0 m 90 ls []) := by
  have hx := C.1
  have hb := C.2.1
  intro v2 H locs ls hF hI hl
  refine lv_iload_n hx hb dX7_callsBy_90 rfl (lv_at hl 0 rfl) ?_
  exact m_iretiR C hI hF dX7_callsBy_91
set_option maxRecDepth 100000 in
set_option maxHeartbeats 4000000 in
theorem ok_X7_callsBy {l : Launch} {E : mE} {v0 : Int32} {v1 : Int32} {S : mS} {r : Int32} (hF : f_X7_callsBy v0 v1 S = some r) : mMi l yX7_callsBy cX7_callsBy 6 (some .int) rm_X7_callsBy 0 0 [.ref (mA E.b v0), .int v1] E S (r, S) := by
  refine m_met_i (by decide) (Nat.le_of_ble_eq_true rfl) (fun p e s m args below meth c ls hin C hI hl => ?_)
  have hx := C.1
  have hb := C.2.1
  have hl : lv_has ls 6 [(0, .ref (mA E.b v0)), (1, .int v1)] := hl
  generalize s.heap = H at hI ⊢
  generalize ([] : List Loc) = locs at hI ⊢
  refine lv_iconst (v := 0) hx hb dX7_callsBy_0 (by decide) ?_
  refine lv_istore_n (lv' := [(2, .int 0), (0, .ref (mA E.b v0)), (1, .int v1)]) hx hb dX7_callsBy_1 rfl hl (by decide) rfl (fun ls hl => ?_)
  refine lv_iconst (v := 0) hx hb dX7_callsBy_2 (by decide) ?_
  refine lv_istore_n (lv' := [(3, .int 0), (2, .int 0), (0, .ref (mA E.b v0)), (1, .int v1)]) hx hb dX7_callsBy_3 rfl hl (by decide) rfl (fun ls hl => ?_)
  exact (bl_X7_callsBy_4 C (k90 := (f_X7_callsBy_90 S)) (bl_X7_callsBy_90 C) 1000) v0 v1 0 0 _ _ _ hF hI (lv_sub hl [2, 3, 1, 0] rfl)
noncomputable def f_X7_which_20 (t0 : Int32) (S : mS) : Option (Int32 × mS) := some (t0, S)
noncomputable def f_X7_which (v0 : Int32) (v1 : Int32) (S : mS) : Option (Int32 × mS) := mRc 7 v0 S (mCp (f_X7_isWhistle v0 v1 S) (fun r1 => if r1 = 0 then (mRc 7 v0 S (mC (f_X7_bad v0 S) (fun r2 S3 => (f_X7_which_20) r2 S3))) else (mRc 7 v0 S (mCp (f_X7_callsBy v0 v1 S) (fun r4 => (f_X7_which_20) r4 S)))))
def rm_X7_which : Room := { frames := 5, cells := 0, slots := 0, locals := 121 }
set_option maxRecDepth 100000 in
set_option maxHeartbeats 4000000 in
theorem bl_X7_which_20 {p : Program} {l : Launch} {e : Env} {s : State} {m : MethodId} {args : Array Value} {below : List Frame} {meth : Method} {c : Code} {E : mE} {n0 : Nat} {F : Int32 × mS} (C : mCx p s m args meth c cX7_which 2 RX7 (some .int) E n0) : ∀  (t0 : Int32) (S : mS) (H : Heap) (locs : List Loc) (ls : Array Slot), f_X7_which_20 t0 S = some F → mIv s E S H locs 0 → lv_has ls 2 [] → W p l e rm_X7_which s m args below meth c H locs 0 0 (mQi below args s 0 0 n0 E F) (F0 m 20 ls [.int t0]) := by
  have hx := C.1
  have hb := C.2.1
  intro t0 S H locs ls hF hI hl
  exact m_ireti C hI hF dX7_which_20
set_option maxRecDepth 100000 in
set_option maxHeartbeats 4000000 in
theorem ok_X7_which {l : Launch} {E : mE} {v0 : Int32} {v1 : Int32} {S : mS} {F : Int32 × mS} (hF : f_X7_which v0 v1 S = some F) : mMi l yX7_which cX7_which 2 (some .int) rm_X7_which 0 0 [.ref (mA E.b v0), .int v1] E S F := by
  refine m_met_i (by decide) (Nat.le_of_ble_eq_true rfl) (fun p e s m args below meth c ls hin C hI hl => ?_)
  have hx := C.1
  have hb := C.2.1
  have hl : lv_has ls 2 [(0, .ref (mA E.b v0)), (1, .int v1)] := hl
  generalize s.heap = H at hI ⊢
  generalize ([] : List Loc) = locs at hI ⊢
  refine lv_aload_n hx hb dX7_which_0 rfl (lv_at hl 0 rfl) ?_
  refine lv_iload_n hx hb dX7_which_1 rfl (lv_at hl 1 rfl) ?_
  refine m_callViR C cd_X7_219 ⟨rfl, by decide⟩ hl.1 hI hF (fun _ h => ok_X7_isWhistle h) rfl rfl ⟨rfl, rfl, Nat.le_of_ble_eq_true rfl, Nat.le_of_ble_eq_true rfl⟩ ⟨Nat.le_of_ble_eq_true rfl, Nat.le_of_ble_eq_true rfl⟩ (Nat.le_of_ble_eq_true rfl) dX7_which_2 (fun r1 H locs hF hI => ?_)
  refine m_if_eq C (tgt := 16) hF dX7_which_5 (by decide) (fun hF => ?_) (fun hF => ?_)
  · refine lv_aload_n hx hb dX7_which_16 rfl (lv_at hl 0 rfl) ?_
    refine m_callVi C cd_X7_103 ⟨rfl, by decide⟩ hl.1 hI hF (fun _ h => ok_X7_bad h) rfl rfl ⟨rfl, rfl, Nat.le_of_ble_eq_true rfl, Nat.le_of_ble_eq_true rfl⟩ ⟨Nat.le_of_ble_eq_true rfl, Nat.le_of_ble_eq_true rfl⟩ (Nat.le_of_ble_eq_true rfl) dX7_which_17 (fun r2 S3 H locs hF hI => ?_)
    exact (bl_X7_which_20 C) r2 S3 _ _ _ hF hI (lv_sub hl [] rfl)
  · refine lv_aload_n hx hb dX7_which_8 rfl (lv_at hl 0 rfl) ?_
    refine lv_iload_n hx hb dX7_which_9 rfl (lv_at hl 1 rfl) ?_
    refine m_callViR C cd_X7_255 ⟨rfl, by decide⟩ hl.1 hI hF (fun _ h => ok_X7_callsBy h) rfl rfl ⟨rfl, rfl, Nat.le_of_ble_eq_true rfl, Nat.le_of_ble_eq_true rfl⟩ ⟨Nat.le_of_ble_eq_true rfl, Nat.le_of_ble_eq_true rfl⟩ (Nat.le_of_ble_eq_true rfl) dX7_which_10 (fun r4 H locs hF hI => ?_)
    refine lv_goto (tgt := 20) hx hb dX7_which_13 (by decide) ?_
    exact (bl_X7_which_20 C) r4 S _ _ _ hF hI (lv_sub hl [] rfl)
noncomputable def f_X7_whose_74 (k33 : Int32 → Int32 → Int32 → Int32 → Int32 → Int32 → mS → Option (Int32 × mS)) (v0 : Int32) (v1 : Int32) (v2 : Int32) (v3 : Int32) (v4 : Int32) (v5 : Int32) (S : mS) : Option (Int32 × mS) := k33 v0 v1 v2 v3 v4 (v5 + 1) S
noncomputable def f_X7_whose_70 (k33 : Int32 → Int32 → Int32 → Int32 → Int32 → Int32 → mS → Option (Int32 × mS)) (v0 : Int32) (v1 : Int32) (v2 : Int32) (v4 : Int32) (v5 : Int32) (t0 : Int32) (S : mS) : Option (Int32 × mS) := (f_X7_whose_74 k33) v0 v1 (v2 + 1) t0 v4 v5 S
noncomputable def f_X7_whose_33 (k80 : Int32 → Int32 → Int32 → Int32 → Int32 → mS → Option (Int32 × mS)) : Nat → Int32 → Int32 → Int32 → Int32 → Int32 → Int32 → mS → Option (Int32 × mS) := fun n => Nat.rec (motive := fun _ => Int32 → Int32 → Int32 → Int32 → Int32 → Int32 → mS → Option (Int32 × mS)) (fun _ _ _ _ _ _ _ => none) (fun _ rec v0 v1 v2 v3 v4 v5 S => if 5 ≤ v5 then (k80 v0 v1 v2 v3 v4 S) else (mRc 7 v0 S (mCp (f_X7_callsBy v0 v4 S) (fun r2 => mCp (f_X7_has r2 v5) (fun r3 => if r3 = 0 then ((f_X7_whose_74 rec) v0 v1 v2 v3 v4 v5 S) else (if v2 = v1 then ((f_X7_whose_70 rec) v0 v1 v2 v4 v5 ((10 * v4) + v5) S) else ((f_X7_whose_70 rec) v0 v1 v2 v4 v5 v3 S))))))) n
theorem f_X7_whose_33_s (k80 : Int32 → Int32 → Int32 → Int32 → Int32 → mS → Option (Int32 × mS)) (n : Nat) (v0 : Int32) (v1 : Int32) (v2 : Int32) (v3 : Int32) (v4 : Int32) (v5 : Int32) (S : mS) : f_X7_whose_33 k80 (n + 1) v0 v1 v2 v3 v4 v5 S = if 5 ≤ v5 then (k80 v0 v1 v2 v3 v4 S) else (mRc 7 v0 S (mCp (f_X7_callsBy v0 v4 S) (fun r2 => mCp (f_X7_has r2 v5) (fun r3 => if r3 = 0 then ((f_X7_whose_74 (f_X7_whose_33 k80 n)) v0 v1 v2 v3 v4 v5 S) else (if v2 = v1 then ((f_X7_whose_70 (f_X7_whose_33 k80 n)) v0 v1 v2 v4 v5 ((10 * v4) + v5) S) else ((f_X7_whose_70 (f_X7_whose_33 k80 n)) v0 v1 v2 v4 v5 v3 S)))))) := rfl
noncomputable def f_X7_whose_80 (k21 : Int32 → Int32 → Int32 → Int32 → Int32 → mS → Option (Int32 × mS)) (v0 : Int32) (v1 : Int32) (v2 : Int32) (v3 : Int32) (v4 : Int32) (S : mS) : Option (Int32 × mS) := k21 v0 v1 v2 v3 (v4 + 1) S
noncomputable def f_X7_whose_21 (k86 : Int32 → Int32 → Int32 → mS → Option (Int32 × mS)) : Nat → Int32 → Int32 → Int32 → Int32 → Int32 → mS → Option (Int32 × mS) := fun n => Nat.rec (motive := fun _ => Int32 → Int32 → Int32 → Int32 → Int32 → mS → Option (Int32 × mS)) (fun _ _ _ _ _ _ => none) (fun _ rec v0 v1 v2 v3 v4 S => mG 7 1 v0 S (fun r1 => if r1 ≤ v4 then (k86 v1 v2 v3 S) else ((f_X7_whose_33 (f_X7_whose_80 rec) 1000) v0 v1 v2 v3 v4 0 S))) n
theorem f_X7_whose_21_s (k86 : Int32 → Int32 → Int32 → mS → Option (Int32 × mS)) (n : Nat) (v0 : Int32) (v1 : Int32) (v2 : Int32) (v3 : Int32) (v4 : Int32) (S : mS) : f_X7_whose_21 k86 (n + 1) v0 v1 v2 v3 v4 S = mG 7 1 v0 S (fun r1 => if r1 ≤ v4 then (k86 v1 v2 v3 S) else ((f_X7_whose_33 (f_X7_whose_80 (f_X7_whose_21 k86 n)) 1000) v0 v1 v2 v3 v4 0 S)) := rfl
noncomputable def f_X7_whose_96 (t0 : Int32) (S : mS) : Option (Int32 × mS) := some (t0, S)
noncomputable def f_X7_whose_86 (v1 : Int32) (v2 : Int32) (v3 : Int32) (S : mS) : Option (Int32 × mS) := if v1 = (-1) then ((f_X7_whose_96) v2 S) else ((f_X7_whose_96) v3 S)
noncomputable def f_X7_whose (v0 : Int32) (v1 : Int32) (S : mS) : Option (Int32 × mS) := if (-1) ≤ v1 then ((f_X7_whose_21 (f_X7_whose_86) 1000) v0 v1 0 (-5) 0 S) else (mRc 7 v0 S (mC (f_X7_bad v0 S) (fun r4 S5 => some ((-10), S5))))
def rm_X7_whose : Room := { frames := 5, cells := 0, slots := 0, locals := 121 }
set_option maxRecDepth 100000 in
set_option maxHeartbeats 4000000 in
theorem bl_X7_whose_74 {p : Program} {l : Launch} {e : Env} {s : State} {m : MethodId} {args : Array Value} {below : List Frame} {meth : Method} {c : Code} {E : mE} {n0 : Nat} {F : Int32 × mS} (C : mCx p s m args meth c cX7_whose 6 RX7 (some .int) E n0) {k33 : Int32 → Int32 → Int32 → Int32 → Int32 → Int32 → mS → Option (Int32 × mS)} (hk33 : ∀ (v0 : Int32) (v1 : Int32) (v2 : Int32) (v3 : Int32) (v4 : Int32) (v5 : Int32) (S : mS) (H : Heap) (locs : List Loc) (ls : Array Slot), k33 v0 v1 v2 v3 v4 v5 S = some F → mIv s E S H locs 0 → lv_has ls 6 [(0, .ref (mA E.b v0)), (1, .int v1), (2, .int v2), (3, .int v3), (4, .int v4), (5, .int v5)] → W p l e rm_X7_whose s m args below meth c H locs 0 0 (mQi below args s 0 0 n0 E F) (F0 m 33 ls [])) : ∀  (v0 : Int32) (v1 : Int32) (v2 : Int32) (v3 : Int32) (v4 : Int32) (v5 : Int32) (S : mS) (H : Heap) (locs : List Loc) (ls : Array Slot), f_X7_whose_74 k33 v0 v1 v2 v3 v4 v5 S = some F → mIv s E S H locs 0 → lv_has ls 6 [(0, .ref (mA E.b v0)), (1, .int v1), (2, .int v2), (3, .int v3), (4, .int v4), (5, .int v5)] → W p l e rm_X7_whose s m args below meth c H locs 0 0 (mQi below args s 0 0 n0 E F) (F0 m 74 ls []) := by
  have hx := C.1
  have hb := C.2.1
  intro v0 v1 v2 v3 v4 v5 S H locs ls hF hI hl
  refine lv_iinc (v := v5 + 1) (lv' := [(5, .int (v5 + 1)), (0, .ref (mA E.b v0)), (1, .int v1), (2, .int v2), (3, .int v3), (4, .int v4)]) hx hb dX7_whose_74 hl (k := 5) rfl rfl (by decide) rfl (fun ls hl => ?_)
  refine lv_goto (tgt := 33) hx hb dX7_whose_77 (by decide) ?_
  exact hk33 v0 v1 v2 v3 v4 (v5 + 1) S _ _ _ hF hI (lv_sub hl [1, 2, 3, 4, 5, 0] rfl)
set_option maxRecDepth 100000 in
set_option maxHeartbeats 4000000 in
theorem bl_X7_whose_70 {p : Program} {l : Launch} {e : Env} {s : State} {m : MethodId} {args : Array Value} {below : List Frame} {meth : Method} {c : Code} {E : mE} {n0 : Nat} {F : Int32 × mS} (C : mCx p s m args meth c cX7_whose 6 RX7 (some .int) E n0) {k33 : Int32 → Int32 → Int32 → Int32 → Int32 → Int32 → mS → Option (Int32 × mS)} (hk33 : ∀ (v0 : Int32) (v1 : Int32) (v2 : Int32) (v3 : Int32) (v4 : Int32) (v5 : Int32) (S : mS) (H : Heap) (locs : List Loc) (ls : Array Slot), k33 v0 v1 v2 v3 v4 v5 S = some F → mIv s E S H locs 0 → lv_has ls 6 [(0, .ref (mA E.b v0)), (1, .int v1), (2, .int v2), (3, .int v3), (4, .int v4), (5, .int v5)] → W p l e rm_X7_whose s m args below meth c H locs 0 0 (mQi below args s 0 0 n0 E F) (F0 m 33 ls [])) : ∀  (v0 : Int32) (v1 : Int32) (v2 : Int32) (v4 : Int32) (v5 : Int32) (t0 : Int32) (S : mS) (H : Heap) (locs : List Loc) (ls : Array Slot), f_X7_whose_70 k33 v0 v1 v2 v4 v5 t0 S = some F → mIv s E S H locs 0 → lv_has ls 6 [(0, .ref (mA E.b v0)), (1, .int v1), (2, .int v2), (4, .int v4), (5, .int v5)] → W p l e rm_X7_whose s m args below meth c H locs 0 0 (mQi below args s 0 0 n0 E F) (F0 m 70 ls [.int t0]) := by
  have hx := C.1
  have hb := C.2.1
  intro v0 v1 v2 v4 v5 t0 S H locs ls hF hI hl
  refine lv_istore_n (lv' := [(3, .int t0), (0, .ref (mA E.b v0)), (1, .int v1), (2, .int v2), (4, .int v4), (5, .int v5)]) hx hb dX7_whose_70 rfl hl (by decide) rfl (fun ls hl => ?_)
  refine lv_iinc (v := v2 + 1) (lv' := [(2, .int (v2 + 1)), (3, .int t0), (0, .ref (mA E.b v0)), (1, .int v1), (4, .int v4), (5, .int v5)]) hx hb dX7_whose_71 hl (k := 3) rfl rfl (by decide) rfl (fun ls hl => ?_)
  exact (bl_X7_whose_74 C (k33 := k33) hk33) v0 v1 (v2 + 1) t0 v4 v5 S _ _ _ hF hI (lv_sub hl [2, 3, 0, 1, 4, 5] rfl)
set_option maxRecDepth 100000 in
set_option maxHeartbeats 4000000 in
theorem bl_X7_whose_33 {p : Program} {l : Launch} {e : Env} {s : State} {m : MethodId} {args : Array Value} {below : List Frame} {meth : Method} {c : Code} {E : mE} {n0 : Nat} {F : Int32 × mS} (C : mCx p s m args meth c cX7_whose 6 RX7 (some .int) E n0) {k80 : Int32 → Int32 → Int32 → Int32 → Int32 → mS → Option (Int32 × mS)} (hk80 : ∀ (v0 : Int32) (v1 : Int32) (v2 : Int32) (v3 : Int32) (v4 : Int32) (S : mS) (H : Heap) (locs : List Loc) (ls : Array Slot), k80 v0 v1 v2 v3 v4 S = some F → mIv s E S H locs 0 → lv_has ls 6 [(0, .ref (mA E.b v0)), (1, .int v1), (2, .int v2), (3, .int v3), (4, .int v4)] → W p l e rm_X7_whose s m args below meth c H locs 0 0 (mQi below args s 0 0 n0 E F) (F0 m 80 ls [])) : ∀ (n : Nat)  (v0 : Int32) (v1 : Int32) (v2 : Int32) (v3 : Int32) (v4 : Int32) (v5 : Int32) (S : mS) (H : Heap) (locs : List Loc) (ls : Array Slot), f_X7_whose_33 k80 n v0 v1 v2 v3 v4 v5 S = some F → mIv s E S H locs 0 → lv_has ls 6 [(0, .ref (mA E.b v0)), (1, .int v1), (2, .int v2), (3, .int v3), (4, .int v4), (5, .int v5)] → W p l e rm_X7_whose s m args below meth c H locs 0 0 (mQi below args s 0 0 n0 E F) (F0 m 33 ls []) := by
  have hx := C.1
  have hb := C.2.1
  intro n
  induction n with
  | zero =>
    intro v0 v1 v2 v3 v4 v5 S H locs ls hF
    exact nomatch (show (none : Option (Int32 × mS)) = some F from hF)
  | succ n ih =>
    intro v0 v1 v2 v3 v4 v5 S H locs ls hF hI hl
    have hF := (f_X7_whose_33_s k80 n v0 v1 v2 v3 v4 v5 S).symm.trans hF
    refine lv_iload hx hb dX7_whose_33 (lv_at hl 5 rfl) ?_
    refine lv_iconst (v := 5) hx hb dX7_whose_35 (by decide) ?_
    refine m_icmp_ge C (tgt := 80) hF dX7_whose_36 (by decide) (fun hF => ?_) (fun hF => ?_)
    · exact hk80 v0 v1 v2 v3 v4 S _ _ _ hF hI (lv_sub hl [0, 1, 2, 3, 4] rfl)
    · refine lv_aload_n hx hb dX7_whose_39 rfl (lv_at hl 0 rfl) ?_
      refine lv_iload hx hb dX7_whose_40 (lv_at hl 4 rfl) ?_
      refine m_callViR C cd_X7_255 ⟨rfl, by decide⟩ hl.1 hI hF (fun _ h => ok_X7_callsBy h) rfl rfl ⟨rfl, rfl, Nat.le_of_ble_eq_true rfl, Nat.le_of_ble_eq_true rfl⟩ ⟨Nat.le_of_ble_eq_true rfl, Nat.le_of_ble_eq_true rfl⟩ (Nat.le_of_ble_eq_true rfl) dX7_whose_42 (fun r2 H locs hF hI => ?_)
      refine lv_iload hx hb dX7_whose_45 (lv_at hl 5 rfl) ?_
      refine m_callSiR C cd_X7_240 hl.1 hI hF (fun _ h => ok_X7_has h) rfl rfl ⟨rfl, rfl, Nat.le_of_ble_eq_true rfl, Nat.le_of_ble_eq_true rfl⟩ ⟨Nat.le_of_ble_eq_true rfl, Nat.le_of_ble_eq_true rfl⟩ (Nat.le_of_ble_eq_true rfl) dX7_whose_47 (fun r3 H locs hF hI => ?_)
      refine m_if_eq C (tgt := 74) hF dX7_whose_50 (by decide) (fun hF => ?_) (fun hF => ?_)
      · exact (bl_X7_whose_74 C (k33 := (f_X7_whose_33 k80 n)) ih) v0 v1 v2 v3 v4 v5 S _ _ _ hF hI (lv_sub hl [0, 1, 2, 3, 4, 5] rfl)
      · refine lv_iload_n hx hb dX7_whose_53 rfl (lv_at hl 2 rfl) ?_
        refine lv_iload_n hx hb dX7_whose_54 rfl (lv_at hl 1 rfl) ?_
        refine m_icmp_ne C (tgt := 69) hF dX7_whose_55 (by decide) (fun hF => ?_) (fun hF => ?_)
        · refine lv_iload_n hx hb dX7_whose_69 rfl (lv_at hl 3 rfl) ?_
          exact (bl_X7_whose_70 C (k33 := (f_X7_whose_33 k80 n)) ih) v0 v1 v2 v4 v5 v3 S _ _ _ hF hI (lv_sub hl [0, 1, 2, 4, 5] rfl)
        · refine lv_bipush (v := 10) hx hb dX7_whose_58 (by decide) ?_
          refine lv_iload hx hb dX7_whose_60 (lv_at hl 4 rfl) ?_
          refine lv_imul hx hb dX7_whose_62 ?_
          refine lv_iload hx hb dX7_whose_63 (lv_at hl 5 rfl) ?_
          refine lv_iadd hx hb dX7_whose_65 ?_
          refine lv_goto (tgt := 70) hx hb dX7_whose_66 (by decide) ?_
          exact (bl_X7_whose_70 C (k33 := (f_X7_whose_33 k80 n)) ih) v0 v1 v2 v4 v5 ((10 * v4) + v5) S _ _ _ hF hI (lv_sub hl [0, 1, 2, 4, 5] rfl)
set_option maxRecDepth 100000 in
set_option maxHeartbeats 4000000 in
theorem bl_X7_whose_80 {p : Program} {l : Launch} {e : Env} {s : State} {m : MethodId} {args : Array Value} {below : List Frame} {meth : Method} {c : Code} {E : mE} {n0 : Nat} {F : Int32 × mS} (C : mCx p s m args meth c cX7_whose 6 RX7 (some .int) E n0) {k21 : Int32 → Int32 → Int32 → Int32 → Int32 → mS → Option (Int32 × mS)} (hk21 : ∀ (v0 : Int32) (v1 : Int32) (v2 : Int32) (v3 : Int32) (v4 : Int32) (S : mS) (H : Heap) (locs : List Loc) (ls : Array Slot), k21 v0 v1 v2 v3 v4 S = some F → mIv s E S H locs 0 → lv_has ls 6 [(0, .ref (mA E.b v0)), (1, .int v1), (2, .int v2), (3, .int v3), (4, .int v4)] → W p l e rm_X7_whose s m args below meth c H locs 0 0 (mQi below args s 0 0 n0 E F) (F0 m 21 ls [])) : ∀  (v0 : Int32) (v1 : Int32) (v2 : Int32) (v3 : Int32) (v4 : Int32) (S : mS) (H : Heap) (locs : List Loc) (ls : Array Slot), f_X7_whose_80 k21 v0 v1 v2 v3 v4 S = some F → mIv s E S H locs 0 → lv_has ls 6 [(0, .ref (mA E.b v0)), (1, .int v1), (2, .int v2), (3, .int v3), (4, .int v4)] → W p l e rm_X7_whose s m args below meth c H locs 0 0 (mQi below args s 0 0 n0 E F) (F0 m 80 ls []) := by
  have hx := C.1
  have hb := C.2.1
  intro v0 v1 v2 v3 v4 S H locs ls hF hI hl
  refine lv_iinc (v := v4 + 1) (lv' := [(4, .int (v4 + 1)), (0, .ref (mA E.b v0)), (1, .int v1), (2, .int v2), (3, .int v3)]) hx hb dX7_whose_80 hl (k := 4) rfl rfl (by decide) rfl (fun ls hl => ?_)
  refine lv_goto (tgt := 21) hx hb dX7_whose_83 (by decide) ?_
  exact hk21 v0 v1 v2 v3 (v4 + 1) S _ _ _ hF hI (lv_sub hl [1, 2, 3, 4, 0] rfl)
set_option maxRecDepth 100000 in
set_option maxHeartbeats 4000000 in
theorem bl_X7_whose_21 {p : Program} {l : Launch} {e : Env} {s : State} {m : MethodId} {args : Array Value} {below : List Frame} {meth : Method} {c : Code} {E : mE} {n0 : Nat} {F : Int32 × mS} (C : mCx p s m args meth c cX7_whose 6 RX7 (some .int) E n0) {k86 : Int32 → Int32 → Int32 → mS → Option (Int32 × mS)} (hk86 : ∀ (v1 : Int32) (v2 : Int32) (v3 : Int32) (S : mS) (H : Heap) (locs : List Loc) (ls : Array Slot), k86 v1 v2 v3 S = some F → mIv s E S H locs 0 → lv_has ls 6 [(1, .int v1), (2, .int v2), (3, .int v3)] → W p l e rm_X7_whose s m args below meth c H locs 0 0 (mQi below args s 0 0 n0 E F) (F0 m 86 ls [])) : ∀ (n : Nat)  (v0 : Int32) (v1 : Int32) (v2 : Int32) (v3 : Int32) (v4 : Int32) (S : mS) (H : Heap) (locs : List Loc) (ls : Array Slot), f_X7_whose_21 k86 n v0 v1 v2 v3 v4 S = some F → mIv s E S H locs 0 → lv_has ls 6 [(0, .ref (mA E.b v0)), (1, .int v1), (2, .int v2), (3, .int v3), (4, .int v4)] → W p l e rm_X7_whose s m args below meth c H locs 0 0 (mQi below args s 0 0 n0 E F) (F0 m 21 ls []) := by
  have hx := C.1
  have hb := C.2.1
  intro n
  induction n with
  | zero =>
    intro v0 v1 v2 v3 v4 S H locs ls hF
    exact nomatch (show (none : Option (Int32 × mS)) = some F from hF)
  | succ n ih =>
    intro v0 v1 v2 v3 v4 S H locs ls hF hI hl
    have hF := (f_X7_whose_21_s k86 n v0 v1 v2 v3 v4 S).symm.trans hF
    refine lv_iload hx hb dX7_whose_21 (lv_at hl 4 rfl) ?_
    refine lv_aload_n hx hb dX7_whose_23 rfl (lv_at hl 0 rfl) ?_
    refine m_get C fd_X7_70 hI hF dX7_whose_24 (fun r1 hF => ?_)
    refine m_icmp_ge C (tgt := 86) hF dX7_whose_27 (by decide) (fun hF => ?_) (fun hF => ?_)
    · exact hk86 v1 v2 v3 S _ _ _ hF hI (lv_sub hl [1, 2, 3] rfl)
    · refine lv_iconst (v := 0) hx hb dX7_whose_30 (by decide) ?_
      refine lv_istore (lv' := [(5, .int 0), (0, .ref (mA E.b v0)), (1, .int v1), (2, .int v2), (3, .int v3), (4, .int v4)]) hx hb dX7_whose_31 hl (by decide) rfl (fun ls hl => ?_)
      exact (bl_X7_whose_33 C (k80 := (f_X7_whose_80 (f_X7_whose_21 k86 n))) (bl_X7_whose_80 C (k21 := (f_X7_whose_21 k86 n)) ih) 1000) v0 v1 v2 v3 v4 0 S _ _ _ hF hI (lv_sub hl [1, 2, 3, 4, 5, 0] rfl)
set_option maxRecDepth 100000 in
set_option maxHeartbeats 4000000 in
theorem bl_X7_whose_96 {p : Program} {l : Launch} {e : Env} {s : State} {m : MethodId} {args : Array Value} {below : List Frame} {meth : Method} {c : Code} {E : mE} {n0 : Nat} {F : Int32 × mS} (C : mCx p s m args meth c cX7_whose 6 RX7 (some .int) E n0) : ∀  (t0 : Int32) (S : mS) (H : Heap) (locs : List Loc) (ls : Array Slot), f_X7_whose_96 t0 S = some F → mIv s E S H locs 0 → lv_has ls 6 [] → W p l e rm_X7_whose s m args below meth c H locs 0 0 (mQi below args s 0 0 n0 E F) (F0 m 96 ls [.int t0]) := by
  have hx := C.1
  have hb := C.2.1
  intro t0 S H locs ls hF hI hl
  exact m_ireti C hI hF dX7_whose_96
set_option maxRecDepth 100000 in
set_option maxHeartbeats 4000000 in
theorem bl_X7_whose_86 {p : Program} {l : Launch} {e : Env} {s : State} {m : MethodId} {args : Array Value} {below : List Frame} {meth : Method} {c : Code} {E : mE} {n0 : Nat} {F : Int32 × mS} (C : mCx p s m args meth c cX7_whose 6 RX7 (some .int) E n0) : ∀  (v1 : Int32) (v2 : Int32) (v3 : Int32) (S : mS) (H : Heap) (locs : List Loc) (ls : Array Slot), f_X7_whose_86 v1 v2 v3 S = some F → mIv s E S H locs 0 → lv_has ls 6 [(1, .int v1), (2, .int v2), (3, .int v3)] → W p l e rm_X7_whose s m args below meth c H locs 0 0 (mQi below args s 0 0 n0 E F) (F0 m 86 ls []) := by
  have hx := C.1
  have hb := C.2.1
  intro v1 v2 v3 S H locs ls hF hI hl
  refine lv_iload_n hx hb dX7_whose_86 rfl (lv_at hl 0 rfl) ?_
  refine lv_iconst (v := (-1)) hx hb dX7_whose_87 (by decide) ?_
  refine m_icmp_ne C (tgt := 95) hF dX7_whose_88 (by decide) (fun hF => ?_) (fun hF => ?_)
  · refine lv_iload_n hx hb dX7_whose_95 rfl (lv_at hl 2 rfl) ?_
    exact (bl_X7_whose_96 C) v3 S _ _ _ hF hI (lv_sub hl [] rfl)
  · refine lv_iload_n hx hb dX7_whose_91 rfl (lv_at hl 1 rfl) ?_
    refine lv_goto (tgt := 96) hx hb dX7_whose_92 (by decide) ?_
    exact (bl_X7_whose_96 C) v2 S _ _ _ hF hI (lv_sub hl [] rfl)
set_option maxRecDepth 100000 in
set_option maxHeartbeats 4000000 in
theorem ok_X7_whose {l : Launch} {E : mE} {v0 : Int32} {v1 : Int32} {S : mS} {F : Int32 × mS} (hF : f_X7_whose v0 v1 S = some F) : mMi l yX7_whose cX7_whose 6 (some .int) rm_X7_whose 0 0 [.ref (mA E.b v0), .int v1] E S F := by
  refine m_met_i (by decide) (Nat.le_of_ble_eq_true rfl) (fun p e s m args below meth c ls hin C hI hl => ?_)
  have hx := C.1
  have hb := C.2.1
  have hl : lv_has ls 6 [(0, .ref (mA E.b v0)), (1, .int v1)] := hl
  generalize s.heap = H at hI ⊢
  generalize ([] : List Loc) = locs at hI ⊢
  refine lv_iload_n hx hb dX7_whose_0 rfl (lv_at hl 1 rfl) ?_
  refine lv_iconst (v := (-1)) hx hb dX7_whose_1 (by decide) ?_
  refine m_icmp_ge C (tgt := 13) hF dX7_whose_2 (by decide) (fun hF => ?_) (fun hF => ?_)
  · refine lv_iconst (v := 0) hx hb dX7_whose_13 (by decide) ?_
    refine lv_istore_n (lv' := [(2, .int 0), (0, .ref (mA E.b v0)), (1, .int v1)]) hx hb dX7_whose_14 rfl hl (by decide) rfl (fun ls hl => ?_)
    refine lv_bipush (v := (-5)) hx hb dX7_whose_15 (by decide) ?_
    refine lv_istore_n (lv' := [(3, .int (-5)), (2, .int 0), (0, .ref (mA E.b v0)), (1, .int v1)]) hx hb dX7_whose_17 rfl hl (by decide) rfl (fun ls hl => ?_)
    refine lv_iconst (v := 0) hx hb dX7_whose_18 (by decide) ?_
    refine lv_istore (lv' := [(4, .int 0), (3, .int (-5)), (2, .int 0), (0, .ref (mA E.b v0)), (1, .int v1)]) hx hb dX7_whose_19 hl (by decide) rfl (fun ls hl => ?_)
    exact (bl_X7_whose_21 C (k86 := (f_X7_whose_86)) (bl_X7_whose_86 C) 1000) v0 v1 0 (-5) 0 S _ _ _ hF hI (lv_sub hl [3, 4, 2, 1, 0] rfl)
  · refine lv_aload_n hx hb dX7_whose_5 rfl (lv_at hl 0 rfl) ?_
    refine m_callVi C cd_X7_103 ⟨rfl, by decide⟩ hl.1 hI hF (fun _ h => ok_X7_bad h) rfl rfl ⟨rfl, rfl, Nat.le_of_ble_eq_true rfl, Nat.le_of_ble_eq_true rfl⟩ ⟨Nat.le_of_ble_eq_true rfl, Nat.le_of_ble_eq_true rfl⟩ (Nat.le_of_ble_eq_true rfl) dX7_whose_6 (fun r4 S5 H locs hF hI => ?_)
    refine lv_pop hx hb dX7_whose_9 rfl ?_
    refine lv_bipush (v := (-10)) hx hb dX7_whose_10 (by decide) ?_
    exact m_ireti C hI hF dX7_whose_12
noncomputable def f_X7_tell_111 (k59 : Int32 → Int32 → Int32 → Int32 → Int32 → Int32 → Int32 → Int32 → Int32 → Int32 → mS → Option (Int32 × mS)) (v0 : Int32) (v1 : Int32) (v2 : Int32) (v3 : Int32) (v4 : Int32) (v5 : Int32) (v6 : Int32) (v7 : Int32) (v9 : Int32) (t0 : Int32) (t1 : Int32) (S : mS) : Option (Int32 × mS) := k59 v0 v1 v2 v3 v4 v5 v6 v7 (t0 + t1) (v9 + 1) S
noncomputable def f_X7_tell_110 (k59 : Int32 → Int32 → Int32 → Int32 → Int32 → Int32 → Int32 → Int32 → Int32 → Int32 → mS → Option (Int32 × mS)) (v0 : Int32) (v1 : Int32) (v2 : Int32) (v3 : Int32) (v4 : Int32) (v5 : Int32) (v6 : Int32) (v7 : Int32) (v9 : Int32) (t0 : Int32) (S : mS) : Option (Int32 × mS) := (f_X7_tell_111 k59) v0 v1 v2 v3 v4 v5 v6 v7 v9 t0 0 S
noncomputable def f_X7_tell_59 (k120 : Int32 → Int32 → Int32 → Int32 → Int32 → Int32 → Int32 → Int32 → Int32 → mS → Option (Int32 × mS)) : Nat → Int32 → Int32 → Int32 → Int32 → Int32 → Int32 → Int32 → Int32 → Int32 → Int32 → mS → Option (Int32 × mS) := fun n => Nat.rec (motive := fun _ => Int32 → Int32 → Int32 → Int32 → Int32 → Int32 → Int32 → Int32 → Int32 → Int32 → mS → Option (Int32 × mS)) (fun _ _ _ _ _ _ _ _ _ _ _ => none) (fun _ rec v0 v1 v2 v3 v4 v5 v6 v7 v8 v9 S => if 5 ≤ v9 then (k120 v0 v1 v2 v3 v4 v5 v6 v7 v8 S) else (mCp (f_X7_has v2 v7) (fun r4 => if r4 = 0 then ((f_X7_tell_110 rec) v0 v1 v2 v3 v4 v5 v6 v7 v9 v8 S) else (mCp (f_X7_has v2 v9) (fun r5 => if r5 = 0 then ((f_X7_tell_110 rec) v0 v1 v2 v3 v4 v5 v6 v7 v9 v8 S) else (mRc 7 v0 S (mCp (f_X7_givesTo v0 v5 v1 v7 S) (fun r6 => mRc 7 v0 S (mCp (f_X7_givesTo v0 v5 v1 v9 S) (fun r7 => if r6 = r7 then ((f_X7_tell_111 rec) v0 v1 v2 v3 v4 v5 v6 v7 v9 v8 1 S) else ((f_X7_tell_110 rec) v0 v1 v2 v3 v4 v5 v6 v7 v9 v8 S))))))))))) n
theorem f_X7_tell_59_s (k120 : Int32 → Int32 → Int32 → Int32 → Int32 → Int32 → Int32 → Int32 → Int32 → mS → Option (Int32 × mS)) (n : Nat) (v0 : Int32) (v1 : Int32) (v2 : Int32) (v3 : Int32) (v4 : Int32) (v5 : Int32) (v6 : Int32) (v7 : Int32) (v8 : Int32) (v9 : Int32) (S : mS) : f_X7_tell_59 k120 (n + 1) v0 v1 v2 v3 v4 v5 v6 v7 v8 v9 S = if 5 ≤ v9 then (k120 v0 v1 v2 v3 v4 v5 v6 v7 v8 S) else (mCp (f_X7_has v2 v7) (fun r4 => if r4 = 0 then ((f_X7_tell_110 (f_X7_tell_59 k120 n)) v0 v1 v2 v3 v4 v5 v6 v7 v9 v8 S) else (mCp (f_X7_has v2 v9) (fun r5 => if r5 = 0 then ((f_X7_tell_110 (f_X7_tell_59 k120 n)) v0 v1 v2 v3 v4 v5 v6 v7 v9 v8 S) else (mRc 7 v0 S (mCp (f_X7_givesTo v0 v5 v1 v7 S) (fun r6 => mRc 7 v0 S (mCp (f_X7_givesTo v0 v5 v1 v9 S) (fun r7 => if r6 = r7 then ((f_X7_tell_111 (f_X7_tell_59 k120 n)) v0 v1 v2 v3 v4 v5 v6 v7 v9 v8 1 S) else ((f_X7_tell_110 (f_X7_tell_59 k120 n)) v0 v1 v2 v3 v4 v5 v6 v7 v9 v8 S)))))))))) := rfl
noncomputable def f_X7_tell_120 (k47 : Int32 → Int32 → Int32 → Int32 → Int32 → Int32 → Int32 → Int32 → mS → Option (Int32 × mS)) (v0 : Int32) (v1 : Int32) (v2 : Int32) (v3 : Int32) (v4 : Int32) (v5 : Int32) (v6 : Int32) (v7 : Int32) (v8 : Int32) (S : mS) : Option (Int32 × mS) := mCp (f_X7_greater v6 v8) (fun r8 => k47 v0 v1 v2 v3 v4 v5 r8 (v7 + 1) S)
noncomputable def f_X7_tell_47 (k135 : Int32 → Int32 → Int32 → Int32 → Int32 → Int32 → Int32 → mS → Option (Int32 × mS)) : Nat → Int32 → Int32 → Int32 → Int32 → Int32 → Int32 → Int32 → Int32 → mS → Option (Int32 × mS) := fun n => Nat.rec (motive := fun _ => Int32 → Int32 → Int32 → Int32 → Int32 → Int32 → Int32 → Int32 → mS → Option (Int32 × mS)) (fun _ _ _ _ _ _ _ _ _ => none) (fun _ rec v0 v1 v2 v3 v4 v5 v6 v7 S => if 5 ≤ v7 then (k135 v0 v1 v2 v3 v4 v5 v6 S) else ((f_X7_tell_59 (f_X7_tell_120 rec) 1000) v0 v1 v2 v3 v4 v5 v6 v7 0 0 S)) n
theorem f_X7_tell_47_s (k135 : Int32 → Int32 → Int32 → Int32 → Int32 → Int32 → Int32 → mS → Option (Int32 × mS)) (n : Nat) (v0 : Int32) (v1 : Int32) (v2 : Int32) (v3 : Int32) (v4 : Int32) (v5 : Int32) (v6 : Int32) (v7 : Int32) (S : mS) : f_X7_tell_47 k135 (n + 1) v0 v1 v2 v3 v4 v5 v6 v7 S = if 5 ≤ v7 then (k135 v0 v1 v2 v3 v4 v5 v6 S) else ((f_X7_tell_59 (f_X7_tell_120 (f_X7_tell_47 k135 n)) 1000) v0 v1 v2 v3 v4 v5 v6 v7 0 0 S) := rfl
noncomputable def f_X7_tell_148 (k28 : Int32 → Int32 → Int32 → Int32 → Int32 → Int32 → mS → Option (Int32 × mS)) (v0 : Int32) (v1 : Int32) (v2 : Int32) (v4 : Int32) (v5 : Int32) (v6 : Int32) (t0 : Int32) (S : mS) : Option (Int32 × mS) := mCp (f_X7_lesser v4 v6) (fun r9 => k28 v0 v1 v2 t0 r9 (v5 + 1) S)
noncomputable def f_X7_tell_135 (k28 : Int32 → Int32 → Int32 → Int32 → Int32 → Int32 → mS → Option (Int32 × mS)) (v0 : Int32) (v1 : Int32) (v2 : Int32) (v3 : Int32) (v4 : Int32) (v5 : Int32) (v6 : Int32) (S : mS) : Option (Int32 × mS) := if v4 ≤ v6 then ((f_X7_tell_148 k28) v0 v1 v2 v4 v5 v6 v3 S) else ((f_X7_tell_148 k28) v0 v1 v2 v4 v5 v6 v5 S)
noncomputable def f_X7_tell_28 (k164 : Int32 → mS → Option (Int32 × mS)) : Nat → Int32 → Int32 → Int32 → Int32 → Int32 → Int32 → mS → Option (Int32 × mS) := fun n => Nat.rec (motive := fun _ => Int32 → Int32 → Int32 → Int32 → Int32 → Int32 → mS → Option (Int32 × mS)) (fun _ _ _ _ _ _ _ => none) (fun _ rec v0 v1 v2 v3 v4 v5 S => mG 7 2 v0 S (fun r3 => if r3 ≤ v5 then (k164 v3 S) else (if v2 = 0 then (k164 v3 S) else ((f_X7_tell_47 (f_X7_tell_135 rec) 1000) v0 v1 v2 v3 v4 v5 0 0 S)))) n
theorem f_X7_tell_28_s (k164 : Int32 → mS → Option (Int32 × mS)) (n : Nat) (v0 : Int32) (v1 : Int32) (v2 : Int32) (v3 : Int32) (v4 : Int32) (v5 : Int32) (S : mS) : f_X7_tell_28 k164 (n + 1) v0 v1 v2 v3 v4 v5 S = mG 7 2 v0 S (fun r3 => if r3 ≤ v5 then (k164 v3 S) else (if v2 = 0 then (k164 v3 S) else ((f_X7_tell_47 (f_X7_tell_135 (f_X7_tell_28 k164 n)) 1000) v0 v1 v2 v3 v4 v5 0 0 S))) := rfl
noncomputable def f_X7_tell_164 (v3 : Int32) (S : mS) : Option (Int32 × mS) := some (v3, S)
noncomputable def f_X7_tell (v0 : Int32) (v1 : Int32) (S : mS) : Option (Int32 × mS) := mRc 7 v0 S (mCp (f_X7_isWhistle v0 v1 S) (fun r1 => if r1 = 0 then (mRc 7 v0 S (mC (f_X7_bad v0 S) (fun r10 S11 => some (r10, S11)))) else (mRc 7 v0 S (mCp (f_X7_callsBy v0 v1 S) (fun r2 => (f_X7_tell_28 (f_X7_tell_164) 1000) v0 v1 r2 (-1) 1048576 0 S)))))
def rm_X7_tell : Room := { frames := 5, cells := 0, slots := 0, locals := 121 }
set_option maxRecDepth 100000 in
set_option maxHeartbeats 4000000 in
theorem bl_X7_tell_111 {p : Program} {l : Launch} {e : Env} {s : State} {m : MethodId} {args : Array Value} {below : List Frame} {meth : Method} {c : Code} {E : mE} {n0 : Nat} {F : Int32 × mS} (C : mCx p s m args meth c cX7_tell 10 RX7 (some .int) E n0) {k59 : Int32 → Int32 → Int32 → Int32 → Int32 → Int32 → Int32 → Int32 → Int32 → Int32 → mS → Option (Int32 × mS)} (hk59 : ∀ (v0 : Int32) (v1 : Int32) (v2 : Int32) (v3 : Int32) (v4 : Int32) (v5 : Int32) (v6 : Int32) (v7 : Int32) (v8 : Int32) (v9 : Int32) (S : mS) (H : Heap) (locs : List Loc) (ls : Array Slot), k59 v0 v1 v2 v3 v4 v5 v6 v7 v8 v9 S = some F → mIv s E S H locs 0 → lv_has ls 10 [(0, .ref (mA E.b v0)), (1, .int v1), (2, .int v2), (3, .int v3), (4, .int v4), (5, .int v5), (6, .int v6), (7, .int v7), (8, .int v8), (9, .int v9)] → W p l e rm_X7_tell s m args below meth c H locs 0 0 (mQi below args s 0 0 n0 E F) (F0 m 59 ls [])) : ∀  (v0 : Int32) (v1 : Int32) (v2 : Int32) (v3 : Int32) (v4 : Int32) (v5 : Int32) (v6 : Int32) (v7 : Int32) (v9 : Int32) (t0 : Int32) (t1 : Int32) (S : mS) (H : Heap) (locs : List Loc) (ls : Array Slot), f_X7_tell_111 k59 v0 v1 v2 v3 v4 v5 v6 v7 v9 t0 t1 S = some F → mIv s E S H locs 0 → lv_has ls 10 [(0, .ref (mA E.b v0)), (1, .int v1), (2, .int v2), (3, .int v3), (4, .int v4), (5, .int v5), (6, .int v6), (7, .int v7), (9, .int v9)] → W p l e rm_X7_tell s m args below meth c H locs 0 0 (mQi below args s 0 0 n0 E F) (F0 m 111 ls [.int t1, .int t0]) := by
  have hx := C.1
  have hb := C.2.1
  intro v0 v1 v2 v3 v4 v5 v6 v7 v9 t0 t1 S H locs ls hF hI hl
  refine lv_iadd hx hb dX7_tell_111 ?_
  refine lv_istore (lv' := [(8, .int (t0 + t1)), (0, .ref (mA E.b v0)), (1, .int v1), (2, .int v2), (3, .int v3), (4, .int v4), (5, .int v5), (6, .int v6), (7, .int v7), (9, .int v9)]) hx hb dX7_tell_112 hl (by decide) rfl (fun ls hl => ?_)
  refine lv_iinc (v := v9 + 1) (lv' := [(9, .int (v9 + 1)), (8, .int (t0 + t1)), (0, .ref (mA E.b v0)), (1, .int v1), (2, .int v2), (3, .int v3), (4, .int v4), (5, .int v5), (6, .int v6), (7, .int v7)]) hx hb dX7_tell_114 hl (k := 9) rfl rfl (by decide) rfl (fun ls hl => ?_)
  refine lv_goto (tgt := 59) hx hb dX7_tell_117 (by decide) ?_
  exact hk59 v0 v1 v2 v3 v4 v5 v6 v7 (t0 + t1) (v9 + 1) S _ _ _ hF hI (lv_sub hl [2, 3, 4, 5, 6, 7, 8, 9, 1, 0] rfl)
set_option maxRecDepth 100000 in
set_option maxHeartbeats 4000000 in
theorem bl_X7_tell_110 {p : Program} {l : Launch} {e : Env} {s : State} {m : MethodId} {args : Array Value} {below : List Frame} {meth : Method} {c : Code} {E : mE} {n0 : Nat} {F : Int32 × mS} (C : mCx p s m args meth c cX7_tell 10 RX7 (some .int) E n0) {k59 : Int32 → Int32 → Int32 → Int32 → Int32 → Int32 → Int32 → Int32 → Int32 → Int32 → mS → Option (Int32 × mS)} (hk59 : ∀ (v0 : Int32) (v1 : Int32) (v2 : Int32) (v3 : Int32) (v4 : Int32) (v5 : Int32) (v6 : Int32) (v7 : Int32) (v8 : Int32) (v9 : Int32) (S : mS) (H : Heap) (locs : List Loc) (ls : Array Slot), k59 v0 v1 v2 v3 v4 v5 v6 v7 v8 v9 S = some F → mIv s E S H locs 0 → lv_has ls 10 [(0, .ref (mA E.b v0)), (1, .int v1), (2, .int v2), (3, .int v3), (4, .int v4), (5, .int v5), (6, .int v6), (7, .int v7), (8, .int v8), (9, .int v9)] → W p l e rm_X7_tell s m args below meth c H locs 0 0 (mQi below args s 0 0 n0 E F) (F0 m 59 ls [])) : ∀  (v0 : Int32) (v1 : Int32) (v2 : Int32) (v3 : Int32) (v4 : Int32) (v5 : Int32) (v6 : Int32) (v7 : Int32) (v9 : Int32) (t0 : Int32) (S : mS) (H : Heap) (locs : List Loc) (ls : Array Slot), f_X7_tell_110 k59 v0 v1 v2 v3 v4 v5 v6 v7 v9 t0 S = some F → mIv s E S H locs 0 → lv_has ls 10 [(0, .ref (mA E.b v0)), (1, .int v1), (2, .int v2), (3, .int v3), (4, .int v4), (5, .int v5), (6, .int v6), (7, .int v7), (9, .int v9)] → W p l e rm_X7_tell s m args below meth c H locs 0 0 (mQi below args s 0 0 n0 E F) (F0 m 110 ls [.int t0]) := by
  have hx := C.1
  have hb := C.2.1
  intro v0 v1 v2 v3 v4 v5 v6 v7 v9 t0 S H locs ls hF hI hl
  refine lv_iconst (v := 0) hx hb dX7_tell_110 (by decide) ?_
  exact (bl_X7_tell_111 C (k59 := k59) hk59) v0 v1 v2 v3 v4 v5 v6 v7 v9 t0 0 S _ _ _ hF hI (lv_sub hl [0, 1, 2, 3, 4, 5, 6, 7, 8] rfl)
set_option maxRecDepth 100000 in
set_option maxHeartbeats 4000000 in
theorem bl_X7_tell_59 {p : Program} {l : Launch} {e : Env} {s : State} {m : MethodId} {args : Array Value} {below : List Frame} {meth : Method} {c : Code} {E : mE} {n0 : Nat} {F : Int32 × mS} (C : mCx p s m args meth c cX7_tell 10 RX7 (some .int) E n0) {k120 : Int32 → Int32 → Int32 → Int32 → Int32 → Int32 → Int32 → Int32 → Int32 → mS → Option (Int32 × mS)} (hk120 : ∀ (v0 : Int32) (v1 : Int32) (v2 : Int32) (v3 : Int32) (v4 : Int32) (v5 : Int32) (v6 : Int32) (v7 : Int32) (v8 : Int32) (S : mS) (H : Heap) (locs : List Loc) (ls : Array Slot), k120 v0 v1 v2 v3 v4 v5 v6 v7 v8 S = some F → mIv s E S H locs 0 → lv_has ls 10 [(0, .ref (mA E.b v0)), (1, .int v1), (2, .int v2), (3, .int v3), (4, .int v4), (5, .int v5), (6, .int v6), (7, .int v7), (8, .int v8)] → W p l e rm_X7_tell s m args below meth c H locs 0 0 (mQi below args s 0 0 n0 E F) (F0 m 120 ls [])) : ∀ (n : Nat)  (v0 : Int32) (v1 : Int32) (v2 : Int32) (v3 : Int32) (v4 : Int32) (v5 : Int32) (v6 : Int32) (v7 : Int32) (v8 : Int32) (v9 : Int32) (S : mS) (H : Heap) (locs : List Loc) (ls : Array Slot), f_X7_tell_59 k120 n v0 v1 v2 v3 v4 v5 v6 v7 v8 v9 S = some F → mIv s E S H locs 0 → lv_has ls 10 [(0, .ref (mA E.b v0)), (1, .int v1), (2, .int v2), (3, .int v3), (4, .int v4), (5, .int v5), (6, .int v6), (7, .int v7), (8, .int v8), (9, .int v9)] → W p l e rm_X7_tell s m args below meth c H locs 0 0 (mQi below args s 0 0 n0 E F) (F0 m 59 ls []) := by
  have hx := C.1
  have hb := C.2.1
  intro n
  induction n with
  | zero =>
    intro v0 v1 v2 v3 v4 v5 v6 v7 v8 v9 S H locs ls hF
    exact nomatch (show (none : Option (Int32 × mS)) = some F from hF)
  | succ n ih =>
    intro v0 v1 v2 v3 v4 v5 v6 v7 v8 v9 S H locs ls hF hI hl
    have hF := (f_X7_tell_59_s k120 n v0 v1 v2 v3 v4 v5 v6 v7 v8 v9 S).symm.trans hF
    refine lv_iload hx hb dX7_tell_59 (lv_at hl 9 rfl) ?_
    refine lv_iconst (v := 5) hx hb dX7_tell_61 (by decide) ?_
    refine m_icmp_ge C (tgt := 120) hF dX7_tell_62 (by decide) (fun hF => ?_) (fun hF => ?_)
    · exact hk120 v0 v1 v2 v3 v4 v5 v6 v7 v8 S _ _ _ hF hI (lv_sub hl [0, 1, 2, 3, 4, 5, 6, 7, 8] rfl)
    · refine lv_iload hx hb dX7_tell_65 (lv_at hl 8 rfl) ?_
      refine lv_iload_n hx hb dX7_tell_67 rfl (lv_at hl 2 rfl) ?_
      refine lv_iload hx hb dX7_tell_68 (lv_at hl 7 rfl) ?_
      refine m_callSiR C cd_X7_240 hl.1 hI hF (fun _ h => ok_X7_has h) rfl rfl ⟨rfl, rfl, Nat.le_of_ble_eq_true rfl, Nat.le_of_ble_eq_true rfl⟩ ⟨Nat.le_of_ble_eq_true rfl, Nat.le_of_ble_eq_true rfl⟩ (Nat.le_of_ble_eq_true rfl) dX7_tell_70 (fun r4 H locs hF hI => ?_)
      refine m_if_eq C (tgt := 110) hF dX7_tell_73 (by decide) (fun hF => ?_) (fun hF => ?_)
      · exact (bl_X7_tell_110 C (k59 := (f_X7_tell_59 k120 n)) ih) v0 v1 v2 v3 v4 v5 v6 v7 v9 v8 S _ _ _ hF hI (lv_sub hl [0, 1, 2, 3, 4, 5, 6, 7, 9] rfl)
      · refine lv_iload_n hx hb dX7_tell_76 rfl (lv_at hl 2 rfl) ?_
        refine lv_iload hx hb dX7_tell_77 (lv_at hl 9 rfl) ?_
        refine m_callSiR C cd_X7_240 hl.1 hI hF (fun _ h => ok_X7_has h) rfl rfl ⟨rfl, rfl, Nat.le_of_ble_eq_true rfl, Nat.le_of_ble_eq_true rfl⟩ ⟨Nat.le_of_ble_eq_true rfl, Nat.le_of_ble_eq_true rfl⟩ (Nat.le_of_ble_eq_true rfl) dX7_tell_79 (fun r5 H locs hF hI => ?_)
        refine m_if_eq C (tgt := 110) hF dX7_tell_82 (by decide) (fun hF => ?_) (fun hF => ?_)
        · exact (bl_X7_tell_110 C (k59 := (f_X7_tell_59 k120 n)) ih) v0 v1 v2 v3 v4 v5 v6 v7 v9 v8 S _ _ _ hF hI (lv_sub hl [0, 1, 2, 3, 4, 5, 6, 7, 9] rfl)
        · refine lv_aload_n hx hb dX7_tell_85 rfl (lv_at hl 0 rfl) ?_
          refine lv_iload hx hb dX7_tell_86 (lv_at hl 5 rfl) ?_
          refine lv_iload_n hx hb dX7_tell_88 rfl (lv_at hl 1 rfl) ?_
          refine lv_iload hx hb dX7_tell_89 (lv_at hl 7 rfl) ?_
          refine m_callViR C cd_X7_234 ⟨rfl, by decide⟩ hl.1 hI hF (fun _ h => ok_X7_givesTo h) rfl rfl ⟨rfl, rfl, Nat.le_of_ble_eq_true rfl, Nat.le_of_ble_eq_true rfl⟩ ⟨Nat.le_of_ble_eq_true rfl, Nat.le_of_ble_eq_true rfl⟩ (Nat.le_of_ble_eq_true rfl) dX7_tell_91 (fun r6 H locs hF hI => ?_)
          refine lv_aload_n hx hb dX7_tell_94 rfl (lv_at hl 0 rfl) ?_
          refine lv_iload hx hb dX7_tell_95 (lv_at hl 5 rfl) ?_
          refine lv_iload_n hx hb dX7_tell_97 rfl (lv_at hl 1 rfl) ?_
          refine lv_iload hx hb dX7_tell_98 (lv_at hl 9 rfl) ?_
          refine m_callViR C cd_X7_234 ⟨rfl, by decide⟩ hl.1 hI hF (fun _ h => ok_X7_givesTo h) rfl rfl ⟨rfl, rfl, Nat.le_of_ble_eq_true rfl, Nat.le_of_ble_eq_true rfl⟩ ⟨Nat.le_of_ble_eq_true rfl, Nat.le_of_ble_eq_true rfl⟩ (Nat.le_of_ble_eq_true rfl) dX7_tell_100 (fun r7 H locs hF hI => ?_)
          refine m_icmp_ne C (tgt := 110) hF dX7_tell_103 (by decide) (fun hF => ?_) (fun hF => ?_)
          · exact (bl_X7_tell_110 C (k59 := (f_X7_tell_59 k120 n)) ih) v0 v1 v2 v3 v4 v5 v6 v7 v9 v8 S _ _ _ hF hI (lv_sub hl [0, 1, 2, 3, 4, 5, 6, 7, 9] rfl)
          · refine lv_iconst (v := 1) hx hb dX7_tell_106 (by decide) ?_
            refine lv_goto (tgt := 111) hx hb dX7_tell_107 (by decide) ?_
            exact (bl_X7_tell_111 C (k59 := (f_X7_tell_59 k120 n)) ih) v0 v1 v2 v3 v4 v5 v6 v7 v9 v8 1 S _ _ _ hF hI (lv_sub hl [0, 1, 2, 3, 4, 5, 6, 7, 9] rfl)
set_option maxRecDepth 100000 in
set_option maxHeartbeats 4000000 in
theorem bl_X7_tell_120 {p : Program} {l : Launch} {e : Env} {s : State} {m : MethodId} {args : Array Value} {below : List Frame} {meth : Method} {c : Code} {E : mE} {n0 : Nat} {F : Int32 × mS} (C : mCx p s m args meth c cX7_tell 10 RX7 (some .int) E n0) {k47 : Int32 → Int32 → Int32 → Int32 → Int32 → Int32 → Int32 → Int32 → mS → Option (Int32 × mS)} (hk47 : ∀ (v0 : Int32) (v1 : Int32) (v2 : Int32) (v3 : Int32) (v4 : Int32) (v5 : Int32) (v6 : Int32) (v7 : Int32) (S : mS) (H : Heap) (locs : List Loc) (ls : Array Slot), k47 v0 v1 v2 v3 v4 v5 v6 v7 S = some F → mIv s E S H locs 0 → lv_has ls 10 [(0, .ref (mA E.b v0)), (1, .int v1), (2, .int v2), (3, .int v3), (4, .int v4), (5, .int v5), (6, .int v6), (7, .int v7)] → W p l e rm_X7_tell s m args below meth c H locs 0 0 (mQi below args s 0 0 n0 E F) (F0 m 47 ls [])) : ∀  (v0 : Int32) (v1 : Int32) (v2 : Int32) (v3 : Int32) (v4 : Int32) (v5 : Int32) (v6 : Int32) (v7 : Int32) (v8 : Int32) (S : mS) (H : Heap) (locs : List Loc) (ls : Array Slot), f_X7_tell_120 k47 v0 v1 v2 v3 v4 v5 v6 v7 v8 S = some F → mIv s E S H locs 0 → lv_has ls 10 [(0, .ref (mA E.b v0)), (1, .int v1), (2, .int v2), (3, .int v3), (4, .int v4), (5, .int v5), (6, .int v6), (7, .int v7), (8, .int v8)] → W p l e rm_X7_tell s m args below meth c H locs 0 0 (mQi below args s 0 0 n0 E F) (F0 m 120 ls []) := by
  have hx := C.1
  have hb := C.2.1
  intro v0 v1 v2 v3 v4 v5 v6 v7 v8 S H locs ls hF hI hl
  refine lv_iload hx hb dX7_tell_120 (lv_at hl 6 rfl) ?_
  refine lv_iload hx hb dX7_tell_122 (lv_at hl 8 rfl) ?_
  refine m_callSiR C cd_X7_190 hl.1 hI hF (fun _ h => ok_X7_greater h) rfl rfl ⟨rfl, rfl, Nat.le_of_ble_eq_true rfl, Nat.le_of_ble_eq_true rfl⟩ ⟨Nat.le_of_ble_eq_true rfl, Nat.le_of_ble_eq_true rfl⟩ (Nat.le_of_ble_eq_true rfl) dX7_tell_124 (fun r8 H locs hF hI => ?_)
  refine lv_istore (lv' := [(6, .int r8), (0, .ref (mA E.b v0)), (1, .int v1), (2, .int v2), (3, .int v3), (4, .int v4), (5, .int v5), (7, .int v7), (8, .int v8)]) hx hb dX7_tell_127 hl (by decide) rfl (fun ls hl => ?_)
  refine lv_iinc (v := v7 + 1) (lv' := [(7, .int (v7 + 1)), (6, .int r8), (0, .ref (mA E.b v0)), (1, .int v1), (2, .int v2), (3, .int v3), (4, .int v4), (5, .int v5), (8, .int v8)]) hx hb dX7_tell_129 hl (k := 7) rfl rfl (by decide) rfl (fun ls hl => ?_)
  refine lv_goto (tgt := 47) hx hb dX7_tell_132 (by decide) ?_
  exact hk47 v0 v1 v2 v3 v4 v5 r8 (v7 + 1) S _ _ _ hF hI (lv_sub hl [2, 3, 4, 5, 6, 7, 1, 0] rfl)
set_option maxRecDepth 100000 in
set_option maxHeartbeats 4000000 in
theorem bl_X7_tell_47 {p : Program} {l : Launch} {e : Env} {s : State} {m : MethodId} {args : Array Value} {below : List Frame} {meth : Method} {c : Code} {E : mE} {n0 : Nat} {F : Int32 × mS} (C : mCx p s m args meth c cX7_tell 10 RX7 (some .int) E n0) {k135 : Int32 → Int32 → Int32 → Int32 → Int32 → Int32 → Int32 → mS → Option (Int32 × mS)} (hk135 : ∀ (v0 : Int32) (v1 : Int32) (v2 : Int32) (v3 : Int32) (v4 : Int32) (v5 : Int32) (v6 : Int32) (S : mS) (H : Heap) (locs : List Loc) (ls : Array Slot), k135 v0 v1 v2 v3 v4 v5 v6 S = some F → mIv s E S H locs 0 → lv_has ls 10 [(0, .ref (mA E.b v0)), (1, .int v1), (2, .int v2), (3, .int v3), (4, .int v4), (5, .int v5), (6, .int v6)] → W p l e rm_X7_tell s m args below meth c H locs 0 0 (mQi below args s 0 0 n0 E F) (F0 m 135 ls [])) : ∀ (n : Nat)  (v0 : Int32) (v1 : Int32) (v2 : Int32) (v3 : Int32) (v4 : Int32) (v5 : Int32) (v6 : Int32) (v7 : Int32) (S : mS) (H : Heap) (locs : List Loc) (ls : Array Slot), f_X7_tell_47 k135 n v0 v1 v2 v3 v4 v5 v6 v7 S = some F → mIv s E S H locs 0 → lv_has ls 10 [(0, .ref (mA E.b v0)), (1, .int v1), (2, .int v2), (3, .int v3), (4, .int v4), (5, .int v5), (6, .int v6), (7, .int v7)] → W p l e rm_X7_tell s m args below meth c H locs 0 0 (mQi below args s 0 0 n0 E F) (F0 m 47 ls []) := by
  have hx := C.1
  have hb := C.2.1
  intro n
  induction n with
  | zero =>
    intro v0 v1 v2 v3 v4 v5 v6 v7 S H locs ls hF
    exact nomatch (show (none : Option (Int32 × mS)) = some F from hF)
  | succ n ih =>
    intro v0 v1 v2 v3 v4 v5 v6 v7 S H locs ls hF hI hl
    have hF := (f_X7_tell_47_s k135 n v0 v1 v2 v3 v4 v5 v6 v7 S).symm.trans hF
    refine lv_iload hx hb dX7_tell_47 (lv_at hl 7 rfl) ?_
    refine lv_iconst (v := 5) hx hb dX7_tell_49 (by decide) ?_
    refine m_icmp_ge C (tgt := 135) hF dX7_tell_50 (by decide) (fun hF => ?_) (fun hF => ?_)
    · exact hk135 v0 v1 v2 v3 v4 v5 v6 S _ _ _ hF hI (lv_sub hl [0, 1, 2, 3, 4, 5, 6] rfl)
    · refine lv_iconst (v := 0) hx hb dX7_tell_53 (by decide) ?_
      refine lv_istore (lv' := [(8, .int 0), (0, .ref (mA E.b v0)), (1, .int v1), (2, .int v2), (3, .int v3), (4, .int v4), (5, .int v5), (6, .int v6), (7, .int v7)]) hx hb dX7_tell_54 hl (by decide) rfl (fun ls hl => ?_)
      refine lv_iconst (v := 0) hx hb dX7_tell_56 (by decide) ?_
      refine lv_istore (lv' := [(9, .int 0), (8, .int 0), (0, .ref (mA E.b v0)), (1, .int v1), (2, .int v2), (3, .int v3), (4, .int v4), (5, .int v5), (6, .int v6), (7, .int v7)]) hx hb dX7_tell_57 hl (by decide) rfl (fun ls hl => ?_)
      exact (bl_X7_tell_59 C (k120 := (f_X7_tell_120 (f_X7_tell_47 k135 n))) (bl_X7_tell_120 C (k47 := (f_X7_tell_47 k135 n)) ih) 1000) v0 v1 v2 v3 v4 v5 v6 v7 0 0 S _ _ _ hF hI (lv_sub hl [2, 3, 4, 5, 6, 7, 8, 9, 1, 0] rfl)
set_option maxRecDepth 100000 in
set_option maxHeartbeats 4000000 in
theorem bl_X7_tell_148 {p : Program} {l : Launch} {e : Env} {s : State} {m : MethodId} {args : Array Value} {below : List Frame} {meth : Method} {c : Code} {E : mE} {n0 : Nat} {F : Int32 × mS} (C : mCx p s m args meth c cX7_tell 10 RX7 (some .int) E n0) {k28 : Int32 → Int32 → Int32 → Int32 → Int32 → Int32 → mS → Option (Int32 × mS)} (hk28 : ∀ (v0 : Int32) (v1 : Int32) (v2 : Int32) (v3 : Int32) (v4 : Int32) (v5 : Int32) (S : mS) (H : Heap) (locs : List Loc) (ls : Array Slot), k28 v0 v1 v2 v3 v4 v5 S = some F → mIv s E S H locs 0 → lv_has ls 10 [(0, .ref (mA E.b v0)), (1, .int v1), (2, .int v2), (3, .int v3), (4, .int v4), (5, .int v5)] → W p l e rm_X7_tell s m args below meth c H locs 0 0 (mQi below args s 0 0 n0 E F) (F0 m 28 ls [])) : ∀  (v0 : Int32) (v1 : Int32) (v2 : Int32) (v4 : Int32) (v5 : Int32) (v6 : Int32) (t0 : Int32) (S : mS) (H : Heap) (locs : List Loc) (ls : Array Slot), f_X7_tell_148 k28 v0 v1 v2 v4 v5 v6 t0 S = some F → mIv s E S H locs 0 → lv_has ls 10 [(0, .ref (mA E.b v0)), (1, .int v1), (2, .int v2), (4, .int v4), (5, .int v5), (6, .int v6)] → W p l e rm_X7_tell s m args below meth c H locs 0 0 (mQi below args s 0 0 n0 E F) (F0 m 148 ls [.int t0]) := by
  have hx := C.1
  have hb := C.2.1
  intro v0 v1 v2 v4 v5 v6 t0 S H locs ls hF hI hl
  refine lv_istore_n (lv' := [(3, .int t0), (0, .ref (mA E.b v0)), (1, .int v1), (2, .int v2), (4, .int v4), (5, .int v5), (6, .int v6)]) hx hb dX7_tell_148 rfl hl (by decide) rfl (fun ls hl => ?_)
  refine lv_iload hx hb dX7_tell_149 (lv_at hl 4 rfl) ?_
  refine lv_iload hx hb dX7_tell_151 (lv_at hl 6 rfl) ?_
  refine m_callSiR C cd_X7_158 hl.1 hI hF (fun _ h => ok_X7_lesser h) rfl rfl ⟨rfl, rfl, Nat.le_of_ble_eq_true rfl, Nat.le_of_ble_eq_true rfl⟩ ⟨Nat.le_of_ble_eq_true rfl, Nat.le_of_ble_eq_true rfl⟩ (Nat.le_of_ble_eq_true rfl) dX7_tell_153 (fun r9 H locs hF hI => ?_)
  refine lv_istore (lv' := [(4, .int r9), (3, .int t0), (0, .ref (mA E.b v0)), (1, .int v1), (2, .int v2), (5, .int v5), (6, .int v6)]) hx hb dX7_tell_156 hl (by decide) rfl (fun ls hl => ?_)
  refine lv_iinc (v := v5 + 1) (lv' := [(5, .int (v5 + 1)), (4, .int r9), (3, .int t0), (0, .ref (mA E.b v0)), (1, .int v1), (2, .int v2), (6, .int v6)]) hx hb dX7_tell_158 hl (k := 5) rfl rfl (by decide) rfl (fun ls hl => ?_)
  refine lv_goto (tgt := 28) hx hb dX7_tell_161 (by decide) ?_
  exact hk28 v0 v1 v2 t0 r9 (v5 + 1) S _ _ _ hF hI (lv_sub hl [3, 4, 5, 2, 1, 0] rfl)
set_option maxRecDepth 100000 in
set_option maxHeartbeats 4000000 in
theorem bl_X7_tell_135 {p : Program} {l : Launch} {e : Env} {s : State} {m : MethodId} {args : Array Value} {below : List Frame} {meth : Method} {c : Code} {E : mE} {n0 : Nat} {F : Int32 × mS} (C : mCx p s m args meth c cX7_tell 10 RX7 (some .int) E n0) {k28 : Int32 → Int32 → Int32 → Int32 → Int32 → Int32 → mS → Option (Int32 × mS)} (hk28 : ∀ (v0 : Int32) (v1 : Int32) (v2 : Int32) (v3 : Int32) (v4 : Int32) (v5 : Int32) (S : mS) (H : Heap) (locs : List Loc) (ls : Array Slot), k28 v0 v1 v2 v3 v4 v5 S = some F → mIv s E S H locs 0 → lv_has ls 10 [(0, .ref (mA E.b v0)), (1, .int v1), (2, .int v2), (3, .int v3), (4, .int v4), (5, .int v5)] → W p l e rm_X7_tell s m args below meth c H locs 0 0 (mQi below args s 0 0 n0 E F) (F0 m 28 ls [])) : ∀  (v0 : Int32) (v1 : Int32) (v2 : Int32) (v3 : Int32) (v4 : Int32) (v5 : Int32) (v6 : Int32) (S : mS) (H : Heap) (locs : List Loc) (ls : Array Slot), f_X7_tell_135 k28 v0 v1 v2 v3 v4 v5 v6 S = some F → mIv s E S H locs 0 → lv_has ls 10 [(0, .ref (mA E.b v0)), (1, .int v1), (2, .int v2), (3, .int v3), (4, .int v4), (5, .int v5), (6, .int v6)] → W p l e rm_X7_tell s m args below meth c H locs 0 0 (mQi below args s 0 0 n0 E F) (F0 m 135 ls []) := by
  have hx := C.1
  have hb := C.2.1
  intro v0 v1 v2 v3 v4 v5 v6 S H locs ls hF hI hl
  refine lv_iload hx hb dX7_tell_135 (lv_at hl 6 rfl) ?_
  refine lv_iload hx hb dX7_tell_137 (lv_at hl 4 rfl) ?_
  refine m_icmp_ge C (tgt := 147) hF dX7_tell_139 (by decide) (fun hF => ?_) (fun hF => ?_)
  · refine lv_iload_n hx hb dX7_tell_147 rfl (lv_at hl 3 rfl) ?_
    exact (bl_X7_tell_148 C (k28 := k28) hk28) v0 v1 v2 v4 v5 v6 v3 S _ _ _ hF hI (lv_sub hl [0, 1, 2, 4, 5, 6] rfl)
  · refine lv_iload hx hb dX7_tell_142 (lv_at hl 5 rfl) ?_
    refine lv_goto (tgt := 148) hx hb dX7_tell_144 (by decide) ?_
    exact (bl_X7_tell_148 C (k28 := k28) hk28) v0 v1 v2 v4 v5 v6 v5 S _ _ _ hF hI (lv_sub hl [0, 1, 2, 4, 5, 6] rfl)
set_option maxRecDepth 100000 in
set_option maxHeartbeats 4000000 in
theorem bl_X7_tell_28 {p : Program} {l : Launch} {e : Env} {s : State} {m : MethodId} {args : Array Value} {below : List Frame} {meth : Method} {c : Code} {E : mE} {n0 : Nat} {F : Int32 × mS} (C : mCx p s m args meth c cX7_tell 10 RX7 (some .int) E n0) {k164 : Int32 → mS → Option (Int32 × mS)} (hk164 : ∀ (v3 : Int32) (S : mS) (H : Heap) (locs : List Loc) (ls : Array Slot), k164 v3 S = some F → mIv s E S H locs 0 → lv_has ls 10 [(3, .int v3)] → W p l e rm_X7_tell s m args below meth c H locs 0 0 (mQi below args s 0 0 n0 E F) (F0 m 164 ls [])) : ∀ (n : Nat)  (v0 : Int32) (v1 : Int32) (v2 : Int32) (v3 : Int32) (v4 : Int32) (v5 : Int32) (S : mS) (H : Heap) (locs : List Loc) (ls : Array Slot), f_X7_tell_28 k164 n v0 v1 v2 v3 v4 v5 S = some F → mIv s E S H locs 0 → lv_has ls 10 [(0, .ref (mA E.b v0)), (1, .int v1), (2, .int v2), (3, .int v3), (4, .int v4), (5, .int v5)] → W p l e rm_X7_tell s m args below meth c H locs 0 0 (mQi below args s 0 0 n0 E F) (F0 m 28 ls []) := by
  have hx := C.1
  have hb := C.2.1
  intro n
  induction n with
  | zero =>
    intro v0 v1 v2 v3 v4 v5 S H locs ls hF
    exact nomatch (show (none : Option (Int32 × mS)) = some F from hF)
  | succ n ih =>
    intro v0 v1 v2 v3 v4 v5 S H locs ls hF hI hl
    have hF := (f_X7_tell_28_s k164 n v0 v1 v2 v3 v4 v5 S).symm.trans hF
    refine lv_iload hx hb dX7_tell_28 (lv_at hl 5 rfl) ?_
    refine lv_aload_n hx hb dX7_tell_30 rfl (lv_at hl 0 rfl) ?_
    refine m_get C fd_X7_74 hI hF dX7_tell_31 (fun r3 hF => ?_)
    refine m_icmp_ge C (tgt := 164) hF dX7_tell_34 (by decide) (fun hF => ?_) (fun hF => ?_)
    · exact hk164 v3 S _ _ _ hF hI (lv_sub hl [3] rfl)
    · refine lv_iload_n hx hb dX7_tell_37 rfl (lv_at hl 2 rfl) ?_
      refine m_if_eq C (tgt := 164) hF dX7_tell_38 (by decide) (fun hF => ?_) (fun hF => ?_)
      · exact hk164 v3 S _ _ _ hF hI (lv_sub hl [3] rfl)
      · refine lv_iconst (v := 0) hx hb dX7_tell_41 (by decide) ?_
        refine lv_istore (lv' := [(6, .int 0), (0, .ref (mA E.b v0)), (1, .int v1), (2, .int v2), (3, .int v3), (4, .int v4), (5, .int v5)]) hx hb dX7_tell_42 hl (by decide) rfl (fun ls hl => ?_)
        refine lv_iconst (v := 0) hx hb dX7_tell_44 (by decide) ?_
        refine lv_istore (lv' := [(7, .int 0), (6, .int 0), (0, .ref (mA E.b v0)), (1, .int v1), (2, .int v2), (3, .int v3), (4, .int v4), (5, .int v5)]) hx hb dX7_tell_45 hl (by decide) rfl (fun ls hl => ?_)
        exact (bl_X7_tell_47 C (k135 := (f_X7_tell_135 (f_X7_tell_28 k164 n))) (bl_X7_tell_135 C (k28 := (f_X7_tell_28 k164 n)) ih) 1000) v0 v1 v2 v3 v4 v5 0 0 S _ _ _ hF hI (lv_sub hl [2, 3, 4, 5, 6, 7, 1, 0] rfl)
set_option maxRecDepth 100000 in
set_option maxHeartbeats 4000000 in
theorem bl_X7_tell_164 {p : Program} {l : Launch} {e : Env} {s : State} {m : MethodId} {args : Array Value} {below : List Frame} {meth : Method} {c : Code} {E : mE} {n0 : Nat} {F : Int32 × mS} (C : mCx p s m args meth c cX7_tell 10 RX7 (some .int) E n0) : ∀  (v3 : Int32) (S : mS) (H : Heap) (locs : List Loc) (ls : Array Slot), f_X7_tell_164 v3 S = some F → mIv s E S H locs 0 → lv_has ls 10 [(3, .int v3)] → W p l e rm_X7_tell s m args below meth c H locs 0 0 (mQi below args s 0 0 n0 E F) (F0 m 164 ls []) := by
  have hx := C.1
  have hb := C.2.1
  intro v3 S H locs ls hF hI hl
  refine lv_iload_n hx hb dX7_tell_164 rfl (lv_at hl 0 rfl) ?_
  exact m_ireti C hI hF dX7_tell_165
set_option maxRecDepth 100000 in
set_option maxHeartbeats 4000000 in
theorem ok_X7_tell {l : Launch} {E : mE} {v0 : Int32} {v1 : Int32} {S : mS} {F : Int32 × mS} (hF : f_X7_tell v0 v1 S = some F) : mMi l yX7_tell cX7_tell 10 (some .int) rm_X7_tell 0 0 [.ref (mA E.b v0), .int v1] E S F := by
  refine m_met_i (by decide) (Nat.le_of_ble_eq_true rfl) (fun p e s m args below meth c ls hin C hI hl => ?_)
  have hx := C.1
  have hb := C.2.1
  have hl : lv_has ls 10 [(0, .ref (mA E.b v0)), (1, .int v1)] := hl
  generalize s.heap = H at hI ⊢
  generalize ([] : List Loc) = locs at hI ⊢
  refine lv_aload_n hx hb dX7_tell_0 rfl (lv_at hl 0 rfl) ?_
  refine lv_iload_n hx hb dX7_tell_1 rfl (lv_at hl 1 rfl) ?_
  refine m_callViR C cd_X7_219 ⟨rfl, by decide⟩ hl.1 hI hF (fun _ h => ok_X7_isWhistle h) rfl rfl ⟨rfl, rfl, Nat.le_of_ble_eq_true rfl, Nat.le_of_ble_eq_true rfl⟩ ⟨Nat.le_of_ble_eq_true rfl, Nat.le_of_ble_eq_true rfl⟩ (Nat.le_of_ble_eq_true rfl) dX7_tell_2 (fun r1 H locs hF hI => ?_)
  refine m_if_ne C (tgt := 13) hF dX7_tell_5 (by decide) (fun hF => ?_) (fun hF => ?_)
  · refine lv_aload_n hx hb dX7_tell_13 rfl (lv_at hl 0 rfl) ?_
    refine lv_iload_n hx hb dX7_tell_14 rfl (lv_at hl 1 rfl) ?_
    refine m_callViR C cd_X7_255 ⟨rfl, by decide⟩ hl.1 hI hF (fun _ h => ok_X7_callsBy h) rfl rfl ⟨rfl, rfl, Nat.le_of_ble_eq_true rfl, Nat.le_of_ble_eq_true rfl⟩ ⟨Nat.le_of_ble_eq_true rfl, Nat.le_of_ble_eq_true rfl⟩ (Nat.le_of_ble_eq_true rfl) dX7_tell_15 (fun r2 H locs hF hI => ?_)
    refine lv_istore_n (lv' := [(2, .int r2), (0, .ref (mA E.b v0)), (1, .int v1)]) hx hb dX7_tell_18 rfl hl (by decide) rfl (fun ls hl => ?_)
    refine lv_iconst (v := (-1)) hx hb dX7_tell_19 (by decide) ?_
    refine lv_istore_n (lv' := [(3, .int (-1)), (2, .int r2), (0, .ref (mA E.b v0)), (1, .int v1)]) hx hb dX7_tell_20 rfl hl (by decide) rfl (fun ls hl => ?_)
    refine lv_ldc (v := 1048576) hx hb C.2.2.2.1 (C.2.2.2.2.1 _ kw_X7_251) dX7_tell_21 ?_
    refine lv_istore (lv' := [(4, .int 1048576), (3, .int (-1)), (2, .int r2), (0, .ref (mA E.b v0)), (1, .int v1)]) hx hb dX7_tell_23 hl (by decide) rfl (fun ls hl => ?_)
    refine lv_iconst (v := 0) hx hb dX7_tell_25 (by decide) ?_
    refine lv_istore (lv' := [(5, .int 0), (4, .int 1048576), (3, .int (-1)), (2, .int r2), (0, .ref (mA E.b v0)), (1, .int v1)]) hx hb dX7_tell_26 hl (by decide) rfl (fun ls hl => ?_)
    exact (bl_X7_tell_28 C (k164 := (f_X7_tell_164)) (bl_X7_tell_164 C) 1000) v0 v1 r2 (-1) 1048576 0 S _ _ _ hF hI (lv_sub hl [4, 5, 3, 2, 1, 0] rfl)
  · refine lv_aload_n hx hb dX7_tell_8 rfl (lv_at hl 0 rfl) ?_
    refine m_callVi C cd_X7_103 ⟨rfl, by decide⟩ hl.1 hI hF (fun _ h => ok_X7_bad h) rfl rfl ⟨rfl, rfl, Nat.le_of_ble_eq_true rfl, Nat.le_of_ble_eq_true rfl⟩ ⟨Nat.le_of_ble_eq_true rfl, Nat.le_of_ble_eq_true rfl⟩ (Nat.le_of_ble_eq_true rfl) dX7_tell_9 (fun r10 S11 H locs hF hI => ?_)
    exact m_ireti C hI hF dX7_tell_12
noncomputable def f_X7_note_28 (v0 : Int32) (S : mS) : Option (Int32 × mS) := mRc 7 v0 S (mC (f_X7_bad v0 S) (fun r2 S3 => some (r2, S3)))
noncomputable def f_X7_note (v0 : Int32) (v1 : Int32) (v2 : Int32) (v3 : Int32) (S : mS) : Option (Int32 × mS) := mRc 7 v0 S (mCp (f_X7_isWhistle v0 v1 S) (fun r1 => if r1 = 0 then ((f_X7_note_28) v0 S) else (mCp (f_X7_in v2 0 99) (fun r4 => if r4 = 0 then ((f_X7_note_28) v0 S) else (mCp (f_X7_in v3 0 20) (fun r5 => if r5 = 0 then ((f_X7_note_28) v0 S) else (mG 7 6 v0 S (fun r6 => if r6 = 6 then (mRc 7 v0 S (mC (f_X7_full v0 S) (fun r19 S20 => some (r19, S20)))) else (mGr 7 13 v0 S (fun r7 => mG 7 6 v0 S (fun r8 => mXs r7 (3 * r8) v1 S (fun S9 => mGr 7 13 v0 S9 (fun r10 => mG 7 6 v0 S9 (fun r11 => mXs r10 ((3 * r11) + 1) v2 S9 (fun S12 => mGr 7 13 v0 S12 (fun r13 => mG 7 6 v0 S12 (fun r14 => mXs r13 ((3 * r14) + 2) v3 S12 (fun S15 => mG 7 6 v0 S15 (fun r16 => mP 7 6 v0 (r16 + 1) S15 (fun S17 => mG 7 6 v0 S17 (fun r18 => some (r18, S17))))))))))))))))))))))
def rm_X7_note : Room := { frames := 2, cells := 0, slots := 0, locals := 43 }
set_option maxRecDepth 100000 in
set_option maxHeartbeats 4000000 in
theorem bl_X7_note_28 {p : Program} {l : Launch} {e : Env} {s : State} {m : MethodId} {args : Array Value} {below : List Frame} {meth : Method} {c : Code} {E : mE} {n0 : Nat} {F : Int32 × mS} (C : mCx p s m args meth c cX7_note 4 RX7 (some .int) E n0) : ∀  (v0 : Int32) (S : mS) (H : Heap) (locs : List Loc) (ls : Array Slot), f_X7_note_28 v0 S = some F → mIv s E S H locs 0 → lv_has ls 4 [(0, .ref (mA E.b v0))] → W p l e rm_X7_note s m args below meth c H locs 0 0 (mQi below args s 0 0 n0 E F) (F0 m 28 ls []) := by
  have hx := C.1
  have hb := C.2.1
  intro v0 S H locs ls hF hI hl
  refine lv_aload_n hx hb dX7_note_28 rfl (lv_at hl 0 rfl) ?_
  refine m_callVi C cd_X7_103 ⟨rfl, by decide⟩ hl.1 hI hF (fun _ h => ok_X7_bad h) rfl rfl ⟨rfl, rfl, Nat.le_of_ble_eq_true rfl, Nat.le_of_ble_eq_true rfl⟩ ⟨Nat.le_of_ble_eq_true rfl, Nat.le_of_ble_eq_true rfl⟩ (Nat.le_of_ble_eq_true rfl) dX7_note_29 (fun r2 S3 H locs hF hI => ?_)
  exact m_ireti C hI hF dX7_note_32
set_option maxRecDepth 100000 in
set_option maxHeartbeats 4000000 in
theorem ok_X7_note {l : Launch} {E : mE} {v0 : Int32} {v1 : Int32} {v2 : Int32} {v3 : Int32} {S : mS} {F : Int32 × mS} (hF : f_X7_note v0 v1 v2 v3 S = some F) : mMi l yX7_note cX7_note 4 (some .int) rm_X7_note 0 0 [.ref (mA E.b v0), .int v1, .int v2, .int v3] E S F := by
  refine m_met_i (by decide) (Nat.le_of_ble_eq_true rfl) (fun p e s m args below meth c ls hin C hI hl => ?_)
  have hx := C.1
  have hb := C.2.1
  have hl : lv_has ls 4 [(0, .ref (mA E.b v0)), (1, .int v1), (2, .int v2), (3, .int v3)] := hl
  generalize s.heap = H at hI ⊢
  generalize ([] : List Loc) = locs at hI ⊢
  refine lv_aload_n hx hb dX7_note_0 rfl (lv_at hl 0 rfl) ?_
  refine lv_iload_n hx hb dX7_note_1 rfl (lv_at hl 1 rfl) ?_
  refine m_callViR C cd_X7_219 ⟨rfl, by decide⟩ hl.1 hI hF (fun _ h => ok_X7_isWhistle h) rfl rfl ⟨rfl, rfl, Nat.le_of_ble_eq_true rfl, Nat.le_of_ble_eq_true rfl⟩ ⟨Nat.le_of_ble_eq_true rfl, Nat.le_of_ble_eq_true rfl⟩ (Nat.le_of_ble_eq_true rfl) dX7_note_2 (fun r1 H locs hF hI => ?_)
  refine m_if_eq C (tgt := 28) hF dX7_note_5 (by decide) (fun hF => ?_) (fun hF => ?_)
  · exact (bl_X7_note_28 C) v0 S _ _ _ hF hI (lv_sub hl [0] rfl)
  · refine lv_iload_n hx hb dX7_note_8 rfl (lv_at hl 2 rfl) ?_
    refine lv_iconst (v := 0) hx hb dX7_note_9 (by decide) ?_
    refine lv_bipush (v := 99) hx hb dX7_note_10 (by decide) ?_
    refine m_callSiR C cd_X7_95 hl.1 hI hF (fun _ h => ok_X7_in h) rfl rfl ⟨rfl, rfl, Nat.le_of_ble_eq_true rfl, Nat.le_of_ble_eq_true rfl⟩ ⟨Nat.le_of_ble_eq_true rfl, Nat.le_of_ble_eq_true rfl⟩ (Nat.le_of_ble_eq_true rfl) dX7_note_12 (fun r4 H locs hF hI => ?_)
    refine m_if_eq C (tgt := 28) hF dX7_note_15 (by decide) (fun hF => ?_) (fun hF => ?_)
    · exact (bl_X7_note_28 C) v0 S _ _ _ hF hI (lv_sub hl [0] rfl)
    · refine lv_iload_n hx hb dX7_note_18 rfl (lv_at hl 3 rfl) ?_
      refine lv_iconst (v := 0) hx hb dX7_note_19 (by decide) ?_
      refine lv_bipush (v := 20) hx hb dX7_note_20 (by decide) ?_
      refine m_callSiR C cd_X7_95 hl.1 hI hF (fun _ h => ok_X7_in h) rfl rfl ⟨rfl, rfl, Nat.le_of_ble_eq_true rfl, Nat.le_of_ble_eq_true rfl⟩ ⟨Nat.le_of_ble_eq_true rfl, Nat.le_of_ble_eq_true rfl⟩ (Nat.le_of_ble_eq_true rfl) dX7_note_22 (fun r5 H locs hF hI => ?_)
      refine m_if_ne C (tgt := 33) hF dX7_note_25 (by decide) (fun hF => ?_) (fun hF => ?_)
      · refine lv_aload_n hx hb dX7_note_33 rfl (lv_at hl 0 rfl) ?_
        refine m_get C fd_X7_86 hI hF dX7_note_34 (fun r6 hF => ?_)
        refine lv_bipush (v := 6) hx hb dX7_note_37 (by decide) ?_
        refine m_icmp_ne C (tgt := 47) hF dX7_note_39 (by decide) (fun hF => ?_) (fun hF => ?_)
        · refine lv_aload_n hx hb dX7_note_47 rfl (lv_at hl 0 rfl) ?_
          refine m_getR C fd_X7_32 hI hF dX7_note_48 (fun r7 hF => ?_)
          refine lv_iconst (v := 3) hx hb dX7_note_51 (by decide) ?_
          refine lv_aload_n hx hb dX7_note_52 rfl (lv_at hl 0 rfl) ?_
          refine m_get C fd_X7_86 hI hF dX7_note_53 (fun r8 hF => ?_)
          refine lv_imul hx hb dX7_note_56 ?_
          refine lv_iload_n hx hb dX7_note_57 rfl (lv_at hl 1 rfl) ?_
          refine m_iast C hI hF dX7_note_58 (fun S9 H locs hF hI => ?_)
          refine lv_aload_n hx hb dX7_note_59 rfl (lv_at hl 0 rfl) ?_
          refine m_getR C fd_X7_32 hI hF dX7_note_60 (fun r10 hF => ?_)
          refine lv_iconst (v := 3) hx hb dX7_note_63 (by decide) ?_
          refine lv_aload_n hx hb dX7_note_64 rfl (lv_at hl 0 rfl) ?_
          refine m_get C fd_X7_86 hI hF dX7_note_65 (fun r11 hF => ?_)
          refine lv_imul hx hb dX7_note_68 ?_
          refine lv_iconst (v := 1) hx hb dX7_note_69 (by decide) ?_
          refine lv_iadd hx hb dX7_note_70 ?_
          refine lv_iload_n hx hb dX7_note_71 rfl (lv_at hl 2 rfl) ?_
          refine m_iast C hI hF dX7_note_72 (fun S12 H locs hF hI => ?_)
          refine lv_aload_n hx hb dX7_note_73 rfl (lv_at hl 0 rfl) ?_
          refine m_getR C fd_X7_32 hI hF dX7_note_74 (fun r13 hF => ?_)
          refine lv_iconst (v := 3) hx hb dX7_note_77 (by decide) ?_
          refine lv_aload_n hx hb dX7_note_78 rfl (lv_at hl 0 rfl) ?_
          refine m_get C fd_X7_86 hI hF dX7_note_79 (fun r14 hF => ?_)
          refine lv_imul hx hb dX7_note_82 ?_
          refine lv_iconst (v := 2) hx hb dX7_note_83 (by decide) ?_
          refine lv_iadd hx hb dX7_note_84 ?_
          refine lv_iload_n hx hb dX7_note_85 rfl (lv_at hl 3 rfl) ?_
          refine m_iast C hI hF dX7_note_86 (fun S15 H locs hF hI => ?_)
          refine lv_aload_n hx hb dX7_note_87 rfl (lv_at hl 0 rfl) ?_
          refine lv_dup hx hb dX7_note_88 rfl ?_
          refine m_get C fd_X7_86 hI hF dX7_note_89 (fun r16 hF => ?_)
          refine lv_iconst (v := 1) hx hb dX7_note_92 (by decide) ?_
          refine lv_iadd hx hb dX7_note_93 ?_
          refine m_put C fd_X7_86 hI hF dX7_note_94 (fun S17 H locs hF hI => ?_)
          refine lv_aload_n hx hb dX7_note_97 rfl (lv_at hl 0 rfl) ?_
          refine m_get C fd_X7_86 hI hF dX7_note_98 (fun r18 hF => ?_)
          exact m_ireti C hI hF dX7_note_101
        · refine lv_aload_n hx hb dX7_note_42 rfl (lv_at hl 0 rfl) ?_
          refine m_callVi C cd_X7_107 ⟨rfl, by decide⟩ hl.1 hI hF (fun _ h => ok_X7_full h) rfl rfl ⟨rfl, rfl, Nat.le_of_ble_eq_true rfl, Nat.le_of_ble_eq_true rfl⟩ ⟨Nat.le_of_ble_eq_true rfl, Nat.le_of_ble_eq_true rfl⟩ (Nat.le_of_ble_eq_true rfl) dX7_note_43 (fun r19 S20 H locs hF hI => ?_)
          exact m_ireti C hI hF dX7_note_46
      · exact (bl_X7_note_28 C) v0 S _ _ _ hF hI (lv_sub hl [0] rfl)
noncomputable def f_X7_mark_28 (v0 : Int32) (S : mS) : Option (Int32 × mS) := mRc 7 v0 S (mC (f_X7_bad v0 S) (fun r2 S3 => some (r2, S3)))
noncomputable def f_X7_mark (v0 : Int32) (v1 : Int32) (v2 : Int32) (v3 : Int32) (S : mS) : Option (Int32 × mS) := mRc 7 v0 S (mCp (f_X7_isSheep v0 v1 S) (fun r1 => if r1 = 0 then ((f_X7_mark_28) v0 S) else (mCp (f_X7_in v2 0 8) (fun r4 => if r4 = 0 then ((f_X7_mark_28) v0 S) else (mCp (f_X7_in v3 0 9) (fun r5 => if r5 = 0 then ((f_X7_mark_28) v0 S) else (mG 7 7 v0 S (fun r6 => if r6 = 6 then (mRc 7 v0 S (mC (f_X7_full v0 S) (fun r19 S20 => some (r19, S20)))) else (mGr 7 14 v0 S (fun r7 => mG 7 7 v0 S (fun r8 => mXs r7 (3 * r8) v1 S (fun S9 => mGr 7 14 v0 S9 (fun r10 => mG 7 7 v0 S9 (fun r11 => mXs r10 ((3 * r11) + 1) v2 S9 (fun S12 => mGr 7 14 v0 S12 (fun r13 => mG 7 7 v0 S12 (fun r14 => mXs r13 ((3 * r14) + 2) v3 S12 (fun S15 => mG 7 7 v0 S15 (fun r16 => mP 7 7 v0 (r16 + 1) S15 (fun S17 => mG 7 7 v0 S17 (fun r18 => some (r18, S17))))))))))))))))))))))
def rm_X7_mark : Room := { frames := 2, cells := 0, slots := 0, locals := 43 }
set_option maxRecDepth 100000 in
set_option maxHeartbeats 4000000 in
theorem bl_X7_mark_28 {p : Program} {l : Launch} {e : Env} {s : State} {m : MethodId} {args : Array Value} {below : List Frame} {meth : Method} {c : Code} {E : mE} {n0 : Nat} {F : Int32 × mS} (C : mCx p s m args meth c cX7_mark 4 RX7 (some .int) E n0) : ∀  (v0 : Int32) (S : mS) (H : Heap) (locs : List Loc) (ls : Array Slot), f_X7_mark_28 v0 S = some F → mIv s E S H locs 0 → lv_has ls 4 [(0, .ref (mA E.b v0))] → W p l e rm_X7_mark s m args below meth c H locs 0 0 (mQi below args s 0 0 n0 E F) (F0 m 28 ls []) := by
  have hx := C.1
  have hb := C.2.1
  intro v0 S H locs ls hF hI hl
  refine lv_aload_n hx hb dX7_mark_28 rfl (lv_at hl 0 rfl) ?_
  refine m_callVi C cd_X7_103 ⟨rfl, by decide⟩ hl.1 hI hF (fun _ h => ok_X7_bad h) rfl rfl ⟨rfl, rfl, Nat.le_of_ble_eq_true rfl, Nat.le_of_ble_eq_true rfl⟩ ⟨Nat.le_of_ble_eq_true rfl, Nat.le_of_ble_eq_true rfl⟩ (Nat.le_of_ble_eq_true rfl) dX7_mark_29 (fun r2 S3 H locs hF hI => ?_)
  exact m_ireti C hI hF dX7_mark_32
set_option maxRecDepth 100000 in
set_option maxHeartbeats 4000000 in
theorem ok_X7_mark {l : Launch} {E : mE} {v0 : Int32} {v1 : Int32} {v2 : Int32} {v3 : Int32} {S : mS} {F : Int32 × mS} (hF : f_X7_mark v0 v1 v2 v3 S = some F) : mMi l yX7_mark cX7_mark 4 (some .int) rm_X7_mark 0 0 [.ref (mA E.b v0), .int v1, .int v2, .int v3] E S F := by
  refine m_met_i (by decide) (Nat.le_of_ble_eq_true rfl) (fun p e s m args below meth c ls hin C hI hl => ?_)
  have hx := C.1
  have hb := C.2.1
  have hl : lv_has ls 4 [(0, .ref (mA E.b v0)), (1, .int v1), (2, .int v2), (3, .int v3)] := hl
  generalize s.heap = H at hI ⊢
  generalize ([] : List Loc) = locs at hI ⊢
  refine lv_aload_n hx hb dX7_mark_0 rfl (lv_at hl 0 rfl) ?_
  refine lv_iload_n hx hb dX7_mark_1 rfl (lv_at hl 1 rfl) ?_
  refine m_callViR C cd_X7_231 ⟨rfl, by decide⟩ hl.1 hI hF (fun _ h => ok_X7_isSheep h) rfl rfl ⟨rfl, rfl, Nat.le_of_ble_eq_true rfl, Nat.le_of_ble_eq_true rfl⟩ ⟨Nat.le_of_ble_eq_true rfl, Nat.le_of_ble_eq_true rfl⟩ (Nat.le_of_ble_eq_true rfl) dX7_mark_2 (fun r1 H locs hF hI => ?_)
  refine m_if_eq C (tgt := 28) hF dX7_mark_5 (by decide) (fun hF => ?_) (fun hF => ?_)
  · exact (bl_X7_mark_28 C) v0 S _ _ _ hF hI (lv_sub hl [0] rfl)
  · refine lv_iload_n hx hb dX7_mark_8 rfl (lv_at hl 2 rfl) ?_
    refine lv_iconst (v := 0) hx hb dX7_mark_9 (by decide) ?_
    refine lv_bipush (v := 8) hx hb dX7_mark_10 (by decide) ?_
    refine m_callSiR C cd_X7_95 hl.1 hI hF (fun _ h => ok_X7_in h) rfl rfl ⟨rfl, rfl, Nat.le_of_ble_eq_true rfl, Nat.le_of_ble_eq_true rfl⟩ ⟨Nat.le_of_ble_eq_true rfl, Nat.le_of_ble_eq_true rfl⟩ (Nat.le_of_ble_eq_true rfl) dX7_mark_12 (fun r4 H locs hF hI => ?_)
    refine m_if_eq C (tgt := 28) hF dX7_mark_15 (by decide) (fun hF => ?_) (fun hF => ?_)
    · exact (bl_X7_mark_28 C) v0 S _ _ _ hF hI (lv_sub hl [0] rfl)
    · refine lv_iload_n hx hb dX7_mark_18 rfl (lv_at hl 3 rfl) ?_
      refine lv_iconst (v := 0) hx hb dX7_mark_19 (by decide) ?_
      refine lv_bipush (v := 9) hx hb dX7_mark_20 (by decide) ?_
      refine m_callSiR C cd_X7_95 hl.1 hI hF (fun _ h => ok_X7_in h) rfl rfl ⟨rfl, rfl, Nat.le_of_ble_eq_true rfl, Nat.le_of_ble_eq_true rfl⟩ ⟨Nat.le_of_ble_eq_true rfl, Nat.le_of_ble_eq_true rfl⟩ (Nat.le_of_ble_eq_true rfl) dX7_mark_22 (fun r5 H locs hF hI => ?_)
      refine m_if_ne C (tgt := 33) hF dX7_mark_25 (by decide) (fun hF => ?_) (fun hF => ?_)
      · refine lv_aload_n hx hb dX7_mark_33 rfl (lv_at hl 0 rfl) ?_
        refine m_get C fd_X7_89 hI hF dX7_mark_34 (fun r6 hF => ?_)
        refine lv_bipush (v := 6) hx hb dX7_mark_37 (by decide) ?_
        refine m_icmp_ne C (tgt := 47) hF dX7_mark_39 (by decide) (fun hF => ?_) (fun hF => ?_)
        · refine lv_aload_n hx hb dX7_mark_47 rfl (lv_at hl 0 rfl) ?_
          refine m_getR C fd_X7_35 hI hF dX7_mark_48 (fun r7 hF => ?_)
          refine lv_iconst (v := 3) hx hb dX7_mark_51 (by decide) ?_
          refine lv_aload_n hx hb dX7_mark_52 rfl (lv_at hl 0 rfl) ?_
          refine m_get C fd_X7_89 hI hF dX7_mark_53 (fun r8 hF => ?_)
          refine lv_imul hx hb dX7_mark_56 ?_
          refine lv_iload_n hx hb dX7_mark_57 rfl (lv_at hl 1 rfl) ?_
          refine m_iast C hI hF dX7_mark_58 (fun S9 H locs hF hI => ?_)
          refine lv_aload_n hx hb dX7_mark_59 rfl (lv_at hl 0 rfl) ?_
          refine m_getR C fd_X7_35 hI hF dX7_mark_60 (fun r10 hF => ?_)
          refine lv_iconst (v := 3) hx hb dX7_mark_63 (by decide) ?_
          refine lv_aload_n hx hb dX7_mark_64 rfl (lv_at hl 0 rfl) ?_
          refine m_get C fd_X7_89 hI hF dX7_mark_65 (fun r11 hF => ?_)
          refine lv_imul hx hb dX7_mark_68 ?_
          refine lv_iconst (v := 1) hx hb dX7_mark_69 (by decide) ?_
          refine lv_iadd hx hb dX7_mark_70 ?_
          refine lv_iload_n hx hb dX7_mark_71 rfl (lv_at hl 2 rfl) ?_
          refine m_iast C hI hF dX7_mark_72 (fun S12 H locs hF hI => ?_)
          refine lv_aload_n hx hb dX7_mark_73 rfl (lv_at hl 0 rfl) ?_
          refine m_getR C fd_X7_35 hI hF dX7_mark_74 (fun r13 hF => ?_)
          refine lv_iconst (v := 3) hx hb dX7_mark_77 (by decide) ?_
          refine lv_aload_n hx hb dX7_mark_78 rfl (lv_at hl 0 rfl) ?_
          refine m_get C fd_X7_89 hI hF dX7_mark_79 (fun r14 hF => ?_)
          refine lv_imul hx hb dX7_mark_82 ?_
          refine lv_iconst (v := 2) hx hb dX7_mark_83 (by decide) ?_
          refine lv_iadd hx hb dX7_mark_84 ?_
          refine lv_iload_n hx hb dX7_mark_85 rfl (lv_at hl 3 rfl) ?_
          refine m_iast C hI hF dX7_mark_86 (fun S15 H locs hF hI => ?_)
          refine lv_aload_n hx hb dX7_mark_87 rfl (lv_at hl 0 rfl) ?_
          refine lv_dup hx hb dX7_mark_88 rfl ?_
          refine m_get C fd_X7_89 hI hF dX7_mark_89 (fun r16 hF => ?_)
          refine lv_iconst (v := 1) hx hb dX7_mark_92 (by decide) ?_
          refine lv_iadd hx hb dX7_mark_93 ?_
          refine m_put C fd_X7_89 hI hF dX7_mark_94 (fun S17 H locs hF hI => ?_)
          refine lv_aload_n hx hb dX7_mark_97 rfl (lv_at hl 0 rfl) ?_
          refine m_get C fd_X7_89 hI hF dX7_mark_98 (fun r18 hF => ?_)
          exact m_ireti C hI hF dX7_mark_101
        · refine lv_aload_n hx hb dX7_mark_42 rfl (lv_at hl 0 rfl) ?_
          refine m_callVi C cd_X7_107 ⟨rfl, by decide⟩ hl.1 hI hF (fun _ h => ok_X7_full h) rfl rfl ⟨rfl, rfl, Nat.le_of_ble_eq_true rfl, Nat.le_of_ble_eq_true rfl⟩ ⟨Nat.le_of_ble_eq_true rfl, Nat.le_of_ble_eq_true rfl⟩ (Nat.le_of_ble_eq_true rfl) dX7_mark_43 (fun r19 S20 H locs hF hI => ?_)
          exact m_ireti C hI hF dX7_mark_46
      · exact (bl_X7_mark_28 C) v0 S _ _ _ hF hI (lv_sub hl [0] rfl)
noncomputable def f_X7_forget_89 (v2 : Int32) (t0 : Int32) (t1 : Int32) (S : mS) : Option (Int32 × mS) := mP 7 7 t0 t1 S (fun S8 => some (v2, S8))
noncomputable def f_X7_forget_72 (v0 : Int32) (v1 : Int32) (v2 : Int32) (t0 : Int32) (t1 : Int32) (S : mS) : Option (Int32 × mS) := mP 7 6 t0 t1 S (fun S6 => if v1 = 2 then ((f_X7_forget_89) v2 v0 0 S6) else (mG 7 7 v0 S6 (fun r7 => (f_X7_forget_89) v2 v0 r7 S6)))
noncomputable def f_X7_forget_55 (v0 : Int32) (v1 : Int32) (v2 : Int32) (t0 : Int32) (t1 : Int32) (S : mS) : Option (Int32 × mS) := mP 7 5 t0 t1 S (fun S4 => if v1 = 1 then ((f_X7_forget_72) v0 v1 v2 v0 0 S4) else (mG 7 6 v0 S4 (fun r5 => (f_X7_forget_72) v0 v1 v2 v0 r5 S4)))
noncomputable def f_X7_forget_41 (v0 : Int32) (v1 : Int32) (t0 : Int32) (S : mS) : Option (Int32 × mS) := if v1 = 0 then ((f_X7_forget_55) v0 v1 t0 v0 0 S) else (mG 7 5 v0 S (fun r3 => (f_X7_forget_55) v0 v1 t0 v0 r3 S))
noncomputable def f_X7_forget (v0 : Int32) (v1 : Int32) (S : mS) : Option (Int32 × mS) := mCp (f_X7_in v1 0 2) (fun r1 => if r1 = 0 then (mRc 7 v0 S (mC (f_X7_bad v0 S) (fun r11 S12 => some (r11, S12)))) else (if v1 = 0 then (mG 7 5 v0 S (fun r10 => (f_X7_forget_41) v0 v1 r10 S)) else (if v1 = 1 then (mG 7 6 v0 S (fun r9 => (f_X7_forget_41) v0 v1 r9 S)) else (mG 7 7 v0 S (fun r2 => (f_X7_forget_41) v0 v1 r2 S)))))
def rm_X7_forget : Room := { frames := 1, cells := 0, slots := 0, locals := 22 }
set_option maxRecDepth 100000 in
set_option maxHeartbeats 4000000 in
theorem bl_X7_forget_89 {p : Program} {l : Launch} {e : Env} {s : State} {m : MethodId} {args : Array Value} {below : List Frame} {meth : Method} {c : Code} {E : mE} {n0 : Nat} {F : Int32 × mS} (C : mCx p s m args meth c cX7_forget 3 RX7 (some .int) E n0) : ∀  (v2 : Int32) (t0 : Int32) (t1 : Int32) (S : mS) (H : Heap) (locs : List Loc) (ls : Array Slot), f_X7_forget_89 v2 t0 t1 S = some F → mIv s E S H locs 0 → lv_has ls 3 [(2, .int v2)] → W p l e rm_X7_forget s m args below meth c H locs 0 0 (mQi below args s 0 0 n0 E F) (F0 m 89 ls [.int t1, .ref (mA E.b t0)]) := by
  have hx := C.1
  have hb := C.2.1
  intro v2 t0 t1 S H locs ls hF hI hl
  refine m_put C fd_X7_89 hI hF dX7_forget_89 (fun S8 H locs hF hI => ?_)
  refine lv_iload_n hx hb dX7_forget_92 rfl (lv_at hl 0 rfl) ?_
  exact m_ireti C hI hF dX7_forget_93
set_option maxRecDepth 100000 in
set_option maxHeartbeats 4000000 in
theorem bl_X7_forget_72 {p : Program} {l : Launch} {e : Env} {s : State} {m : MethodId} {args : Array Value} {below : List Frame} {meth : Method} {c : Code} {E : mE} {n0 : Nat} {F : Int32 × mS} (C : mCx p s m args meth c cX7_forget 3 RX7 (some .int) E n0) : ∀  (v0 : Int32) (v1 : Int32) (v2 : Int32) (t0 : Int32) (t1 : Int32) (S : mS) (H : Heap) (locs : List Loc) (ls : Array Slot), f_X7_forget_72 v0 v1 v2 t0 t1 S = some F → mIv s E S H locs 0 → lv_has ls 3 [(0, .ref (mA E.b v0)), (1, .int v1), (2, .int v2)] → W p l e rm_X7_forget s m args below meth c H locs 0 0 (mQi below args s 0 0 n0 E F) (F0 m 72 ls [.int t1, .ref (mA E.b t0)]) := by
  have hx := C.1
  have hb := C.2.1
  intro v0 v1 v2 t0 t1 S H locs ls hF hI hl
  refine m_put C fd_X7_86 hI hF dX7_forget_72 (fun S6 H locs hF hI => ?_)
  refine lv_aload_n hx hb dX7_forget_75 rfl (lv_at hl 0 rfl) ?_
  refine lv_iload_n hx hb dX7_forget_76 rfl (lv_at hl 1 rfl) ?_
  refine lv_iconst (v := 2) hx hb dX7_forget_77 (by decide) ?_
  refine m_icmp_ne C (tgt := 85) hF dX7_forget_78 (by decide) (fun hF => ?_) (fun hF => ?_)
  · refine lv_aload_n hx hb dX7_forget_85 rfl (lv_at hl 0 rfl) ?_
    refine m_get C fd_X7_89 hI hF dX7_forget_86 (fun r7 hF => ?_)
    exact (bl_X7_forget_89 C) v2 v0 r7 S6 _ _ _ hF hI (lv_sub hl [2] rfl)
  · refine lv_iconst (v := 0) hx hb dX7_forget_81 (by decide) ?_
    refine lv_goto (tgt := 89) hx hb dX7_forget_82 (by decide) ?_
    exact (bl_X7_forget_89 C) v2 v0 0 S6 _ _ _ hF hI (lv_sub hl [2] rfl)
set_option maxRecDepth 100000 in
set_option maxHeartbeats 4000000 in
theorem bl_X7_forget_55 {p : Program} {l : Launch} {e : Env} {s : State} {m : MethodId} {args : Array Value} {below : List Frame} {meth : Method} {c : Code} {E : mE} {n0 : Nat} {F : Int32 × mS} (C : mCx p s m args meth c cX7_forget 3 RX7 (some .int) E n0) : ∀  (v0 : Int32) (v1 : Int32) (v2 : Int32) (t0 : Int32) (t1 : Int32) (S : mS) (H : Heap) (locs : List Loc) (ls : Array Slot), f_X7_forget_55 v0 v1 v2 t0 t1 S = some F → mIv s E S H locs 0 → lv_has ls 3 [(0, .ref (mA E.b v0)), (1, .int v1), (2, .int v2)] → W p l e rm_X7_forget s m args below meth c H locs 0 0 (mQi below args s 0 0 n0 E F) (F0 m 55 ls [.int t1, .ref (mA E.b t0)]) := by
  have hx := C.1
  have hb := C.2.1
  intro v0 v1 v2 t0 t1 S H locs ls hF hI hl
  refine m_put C fd_X7_83 hI hF dX7_forget_55 (fun S4 H locs hF hI => ?_)
  refine lv_aload_n hx hb dX7_forget_58 rfl (lv_at hl 0 rfl) ?_
  refine lv_iload_n hx hb dX7_forget_59 rfl (lv_at hl 1 rfl) ?_
  refine lv_iconst (v := 1) hx hb dX7_forget_60 (by decide) ?_
  refine m_icmp_ne C (tgt := 68) hF dX7_forget_61 (by decide) (fun hF => ?_) (fun hF => ?_)
  · refine lv_aload_n hx hb dX7_forget_68 rfl (lv_at hl 0 rfl) ?_
    refine m_get C fd_X7_86 hI hF dX7_forget_69 (fun r5 hF => ?_)
    exact (bl_X7_forget_72 C) v0 v1 v2 v0 r5 S4 _ _ _ hF hI (lv_sub hl [0, 1, 2] rfl)
  · refine lv_iconst (v := 0) hx hb dX7_forget_64 (by decide) ?_
    refine lv_goto (tgt := 72) hx hb dX7_forget_65 (by decide) ?_
    exact (bl_X7_forget_72 C) v0 v1 v2 v0 0 S4 _ _ _ hF hI (lv_sub hl [0, 1, 2] rfl)
set_option maxRecDepth 100000 in
set_option maxHeartbeats 4000000 in
theorem bl_X7_forget_41 {p : Program} {l : Launch} {e : Env} {s : State} {m : MethodId} {args : Array Value} {below : List Frame} {meth : Method} {c : Code} {E : mE} {n0 : Nat} {F : Int32 × mS} (C : mCx p s m args meth c cX7_forget 3 RX7 (some .int) E n0) : ∀  (v0 : Int32) (v1 : Int32) (t0 : Int32) (S : mS) (H : Heap) (locs : List Loc) (ls : Array Slot), f_X7_forget_41 v0 v1 t0 S = some F → mIv s E S H locs 0 → lv_has ls 3 [(0, .ref (mA E.b v0)), (1, .int v1)] → W p l e rm_X7_forget s m args below meth c H locs 0 0 (mQi below args s 0 0 n0 E F) (F0 m 41 ls [.int t0]) := by
  have hx := C.1
  have hb := C.2.1
  intro v0 v1 t0 S H locs ls hF hI hl
  refine lv_istore_n (lv' := [(2, .int t0), (0, .ref (mA E.b v0)), (1, .int v1)]) hx hb dX7_forget_41 rfl hl (by decide) rfl (fun ls hl => ?_)
  refine lv_aload_n hx hb dX7_forget_42 rfl (lv_at hl 1 rfl) ?_
  refine lv_iload_n hx hb dX7_forget_43 rfl (lv_at hl 2 rfl) ?_
  refine m_if_ne C (tgt := 51) hF dX7_forget_44 (by decide) (fun hF => ?_) (fun hF => ?_)
  · refine lv_aload_n hx hb dX7_forget_51 rfl (lv_at hl 1 rfl) ?_
    refine m_get C fd_X7_83 hI hF dX7_forget_52 (fun r3 hF => ?_)
    exact (bl_X7_forget_55 C) v0 v1 t0 v0 r3 S _ _ _ hF hI (lv_sub hl [1, 2, 0] rfl)
  · refine lv_iconst (v := 0) hx hb dX7_forget_47 (by decide) ?_
    refine lv_goto (tgt := 55) hx hb dX7_forget_48 (by decide) ?_
    exact (bl_X7_forget_55 C) v0 v1 t0 v0 0 S _ _ _ hF hI (lv_sub hl [1, 2, 0] rfl)
set_option maxRecDepth 100000 in
set_option maxHeartbeats 4000000 in
theorem ok_X7_forget {l : Launch} {E : mE} {v0 : Int32} {v1 : Int32} {S : mS} {F : Int32 × mS} (hF : f_X7_forget v0 v1 S = some F) : mMi l yX7_forget cX7_forget 3 (some .int) rm_X7_forget 0 0 [.ref (mA E.b v0), .int v1] E S F := by
  refine m_met_i (by decide) (Nat.le_of_ble_eq_true rfl) (fun p e s m args below meth c ls hin C hI hl => ?_)
  have hx := C.1
  have hb := C.2.1
  have hl : lv_has ls 3 [(0, .ref (mA E.b v0)), (1, .int v1)] := hl
  generalize s.heap = H at hI ⊢
  generalize ([] : List Loc) = locs at hI ⊢
  refine lv_iload_n hx hb dX7_forget_0 rfl (lv_at hl 1 rfl) ?_
  refine lv_iconst (v := 0) hx hb dX7_forget_1 (by decide) ?_
  refine lv_iconst (v := 2) hx hb dX7_forget_2 (by decide) ?_
  refine m_callSiR C cd_X7_95 hl.1 hI hF (fun _ h => ok_X7_in h) rfl rfl ⟨rfl, rfl, Nat.le_of_ble_eq_true rfl, Nat.le_of_ble_eq_true rfl⟩ ⟨Nat.le_of_ble_eq_true rfl, Nat.le_of_ble_eq_true rfl⟩ (Nat.le_of_ble_eq_true rfl) dX7_forget_3 (fun r1 H locs hF hI => ?_)
  refine m_if_ne C (tgt := 14) hF dX7_forget_6 (by decide) (fun hF => ?_) (fun hF => ?_)
  · refine lv_iload_n hx hb dX7_forget_14 rfl (lv_at hl 1 rfl) ?_
    refine m_if_ne C (tgt := 25) hF dX7_forget_15 (by decide) (fun hF => ?_) (fun hF => ?_)
    · refine lv_iload_n hx hb dX7_forget_25 rfl (lv_at hl 1 rfl) ?_
      refine lv_iconst (v := 1) hx hb dX7_forget_26 (by decide) ?_
      refine m_icmp_ne C (tgt := 37) hF dX7_forget_27 (by decide) (fun hF => ?_) (fun hF => ?_)
      · refine lv_aload_n hx hb dX7_forget_37 rfl (lv_at hl 0 rfl) ?_
        refine m_get C fd_X7_89 hI hF dX7_forget_38 (fun r2 hF => ?_)
        exact (bl_X7_forget_41 C) v0 v1 r2 S _ _ _ hF hI (lv_sub hl [0, 1] rfl)
      · refine lv_aload_n hx hb dX7_forget_30 rfl (lv_at hl 0 rfl) ?_
        refine m_get C fd_X7_86 hI hF dX7_forget_31 (fun r9 hF => ?_)
        refine lv_goto (tgt := 41) hx hb dX7_forget_34 (by decide) ?_
        exact (bl_X7_forget_41 C) v0 v1 r9 S _ _ _ hF hI (lv_sub hl [0, 1] rfl)
    · refine lv_aload_n hx hb dX7_forget_18 rfl (lv_at hl 0 rfl) ?_
      refine m_get C fd_X7_83 hI hF dX7_forget_19 (fun r10 hF => ?_)
      refine lv_goto (tgt := 41) hx hb dX7_forget_22 (by decide) ?_
      exact (bl_X7_forget_41 C) v0 v1 r10 S _ _ _ hF hI (lv_sub hl [0, 1] rfl)
  · refine lv_aload_n hx hb dX7_forget_9 rfl (lv_at hl 0 rfl) ?_
    refine m_callVi C cd_X7_103 ⟨rfl, by decide⟩ hl.1 hI hF (fun _ h => ok_X7_bad h) rfl rfl ⟨rfl, rfl, Nat.le_of_ble_eq_true rfl, Nat.le_of_ble_eq_true rfl⟩ ⟨Nat.le_of_ble_eq_true rfl, Nat.le_of_ble_eq_true rfl⟩ (Nat.le_of_ble_eq_true rfl) dX7_forget_10 (fun r11 S12 H locs hF hI => ?_)
    exact m_ireti C hI hF dX7_forget_13
noncomputable def f_X7_whistleKinds_84 (k15 : Int32 → Int32 → Int32 → Int32 → Int32 → Int32 → Option Int32) (S : mS) (v0 : Int32) (v1 : Int32) (v2 : Int32) (v3 : Int32) (v5 : Int32) (t0 : Int32) : Option Int32 := k15 v0 v1 v2 v3 t0 (v5 + 3)
noncomputable def f_X7_whistleKinds_83 (k15 : Int32 → Int32 → Int32 → Int32 → Int32 → Int32 → Option Int32) (S : mS) (v0 : Int32) (v1 : Int32) (v2 : Int32) (v3 : Int32) (v5 : Int32) : Option Int32 := (f_X7_whistleKinds_84 k15 S) v0 v1 v2 v3 v5 0
noncomputable def f_X7_whistleKinds_79 (k15 : Int32 → Int32 → Int32 → Int32 → Int32 → Int32 → Option Int32) (S : mS) (v0 : Int32) (v1 : Int32) (v2 : Int32) (v3 : Int32) (v5 : Int32) : Option Int32 := (f_X7_whistleKinds_84 k15 S) v0 v1 v2 v3 v5 1
noncomputable def f_X7_whistleKinds_56 (k15 : Int32 → Int32 → Int32 → Int32 → Int32 → Int32 → Option Int32) (S : mS) (v0 : Int32) (v1 : Int32) (v2 : Int32) (v3 : Int32) (v4 : Int32) (v5 : Int32) (t0 : Int32) : Option Int32 := if v4 = 0 then ((f_X7_whistleKinds_83 k15 S) v0 v1 v2 v3 v5) else (mGr 7 13 v0 S (fun r7 => mX 8 r7 v5 S (fun r8 => if r8 = v1 then (if t0 = 0 then ((f_X7_whistleKinds_83 k15 S) v0 v1 v2 v3 v5) else ((f_X7_whistleKinds_79 k15 S) v0 v1 v2 v3 v5)) else ((f_X7_whistleKinds_79 k15 S) v0 v1 v2 v3 v5))))
noncomputable def f_X7_whistleKinds_15 (k92 : Int32 → Int32 → Int32 → Int32 → Int32 → Option Int32) (S : mS) : Nat → Int32 → Int32 → Int32 → Int32 → Int32 → Int32 → Option Int32 := fun n => Nat.rec (motive := fun _ => Int32 → Int32 → Int32 → Int32 → Int32 → Int32 → Option Int32) (fun _ _ _ _ _ _ => none) (fun _ rec v0 v1 v2 v3 v4 v5 => mG 7 6 v0 S (fun r1 => if (3 * r1) ≤ v5 then (k92 v0 v1 v2 v3 v4) else (mGr 7 13 v0 S (fun r2 => mX 8 r2 (v5 + 1) S (fun r3 => mCp (f_X7_goesBy v3 r3) (fun r4 => mGr 7 13 v0 S (fun r5 => mX 8 r5 (v5 + 2) S (fun r6 => if r4 = r6 then ((f_X7_whistleKinds_56 rec S) v0 v1 v2 v3 v4 v5 1) else ((f_X7_whistleKinds_56 rec S) v0 v1 v2 v3 v4 v5 0))))))))) n
theorem f_X7_whistleKinds_15_s (k92 : Int32 → Int32 → Int32 → Int32 → Int32 → Option Int32) (S : mS) (n : Nat) (v0 : Int32) (v1 : Int32) (v2 : Int32) (v3 : Int32) (v4 : Int32) (v5 : Int32) : f_X7_whistleKinds_15 k92 S (n + 1) v0 v1 v2 v3 v4 v5 = mG 7 6 v0 S (fun r1 => if (3 * r1) ≤ v5 then (k92 v0 v1 v2 v3 v4) else (mGr 7 13 v0 S (fun r2 => mX 8 r2 (v5 + 1) S (fun r3 => mCp (f_X7_goesBy v3 r3) (fun r4 => mGr 7 13 v0 S (fun r5 => mX 8 r5 (v5 + 2) S (fun r6 => if r4 = r6 then ((f_X7_whistleKinds_56 (f_X7_whistleKinds_15 k92 S n) S) v0 v1 v2 v3 v4 v5 1) else ((f_X7_whistleKinds_56 (f_X7_whistleKinds_15 k92 S n) S) v0 v1 v2 v3 v4 v5 0)))))))) := rfl
noncomputable def f_X7_whistleKinds_105 (k4 : Int32 → Int32 → Int32 → Int32 → Option Int32) (S : mS) (v0 : Int32) (v1 : Int32) (v3 : Int32) (t0 : Int32) (t1 : Int32) : Option Int32 := k4 v0 v1 (t0 ||| t1) (v3 + 1)
noncomputable def f_X7_whistleKinds_92 (k4 : Int32 → Int32 → Int32 → Int32 → Option Int32) (S : mS) (v0 : Int32) (v1 : Int32) (v2 : Int32) (v3 : Int32) (v4 : Int32) : Option Int32 := if v4 = 0 then ((f_X7_whistleKinds_105 k4 S) v0 v1 v3 v2 0) else ((f_X7_whistleKinds_105 k4 S) v0 v1 v3 v2 (1 <<< (v3 &&& 31)))
noncomputable def f_X7_whistleKinds_4 (k113 : Int32 → Option Int32) (S : mS) : Nat → Int32 → Int32 → Int32 → Int32 → Option Int32 := fun n => Nat.rec (motive := fun _ => Int32 → Int32 → Int32 → Int32 → Option Int32) (fun _ _ _ _ => none) (fun _ rec v0 v1 v2 v3 => if 5 < v3 then (k113 v2) else ((f_X7_whistleKinds_15 (f_X7_whistleKinds_92 rec S) S 1000) v0 v1 v2 v3 1 0)) n
theorem f_X7_whistleKinds_4_s (k113 : Int32 → Option Int32) (S : mS) (n : Nat) (v0 : Int32) (v1 : Int32) (v2 : Int32) (v3 : Int32) : f_X7_whistleKinds_4 k113 S (n + 1) v0 v1 v2 v3 = if 5 < v3 then (k113 v2) else ((f_X7_whistleKinds_15 (f_X7_whistleKinds_92 (f_X7_whistleKinds_4 k113 S n) S) S 1000) v0 v1 v2 v3 1 0) := rfl
noncomputable def f_X7_whistleKinds_113 (S : mS) (v2 : Int32) : Option Int32 := some v2
noncomputable def f_X7_whistleKinds (v0 : Int32) (v1 : Int32) (S : mS) : Option Int32 := (f_X7_whistleKinds_4 (f_X7_whistleKinds_113 S) S 1000) v0 v1 0 0
def rm_X7_whistleKinds : Room := { frames := 1, cells := 0, slots := 0, locals := 22 }
set_option maxRecDepth 100000 in
set_option maxHeartbeats 4000000 in
theorem bl_X7_whistleKinds_84 {p : Program} {l : Launch} {e : Env} {s : State} {m : MethodId} {args : Array Value} {below : List Frame} {meth : Method} {c : Code} {E : mE} {n0 : Nat} {r : Int32} {S : mS} (C : mCx p s m args meth c cX7_whistleKinds 7 RX7 (some .int) E n0) {k15 : Int32 → Int32 → Int32 → Int32 → Int32 → Int32 → Option Int32} (hk15 : ∀ (v0 : Int32) (v1 : Int32) (v2 : Int32) (v3 : Int32) (v4 : Int32) (v5 : Int32) (H : Heap) (locs : List Loc) (ls : Array Slot), k15 v0 v1 v2 v3 v4 v5 = some r → mIv s E S H locs 0 → lv_has ls 7 [(0, .ref (mA E.b v0)), (1, .int v1), (2, .int v2), (3, .int v3), (4, .int v4), (5, .int v5)] → W p l e rm_X7_whistleKinds s m args below meth c H locs 0 0 (mQi below args s 0 0 n0 E (r, S)) (F0 m 15 ls [])) : ∀  (v0 : Int32) (v1 : Int32) (v2 : Int32) (v3 : Int32) (v5 : Int32) (t0 : Int32) (H : Heap) (locs : List Loc) (ls : Array Slot), f_X7_whistleKinds_84 k15 S v0 v1 v2 v3 v5 t0 = some r → mIv s E S H locs 0 → lv_has ls 7 [(0, .ref (mA E.b v0)), (1, .int v1), (2, .int v2), (3, .int v3), (5, .int v5)] → W p l e rm_X7_whistleKinds s m args below meth c H locs 0 0 (mQi below args s 0 0 n0 E (r, S)) (F0 m 84 ls [.int t0]) := by
  have hx := C.1
  have hb := C.2.1
  intro v0 v1 v2 v3 v5 t0 H locs ls hF hI hl
  refine lv_istore (lv' := [(4, .int t0), (0, .ref (mA E.b v0)), (1, .int v1), (2, .int v2), (3, .int v3), (5, .int v5)]) hx hb dX7_whistleKinds_84 hl (by decide) rfl (fun ls hl => ?_)
  refine lv_iinc (v := v5 + 3) (lv' := [(5, .int (v5 + 3)), (4, .int t0), (0, .ref (mA E.b v0)), (1, .int v1), (2, .int v2), (3, .int v3)]) hx hb dX7_whistleKinds_86 hl (k := 5) rfl rfl (by decide) rfl (fun ls hl => ?_)
  refine lv_goto (tgt := 15) hx hb dX7_whistleKinds_89 (by decide) ?_
  exact hk15 v0 v1 v2 v3 t0 (v5 + 3) _ _ _ hF hI (lv_sub hl [2, 3, 4, 5, 1, 0] rfl)
set_option maxRecDepth 100000 in
set_option maxHeartbeats 4000000 in
theorem bl_X7_whistleKinds_83 {p : Program} {l : Launch} {e : Env} {s : State} {m : MethodId} {args : Array Value} {below : List Frame} {meth : Method} {c : Code} {E : mE} {n0 : Nat} {r : Int32} {S : mS} (C : mCx p s m args meth c cX7_whistleKinds 7 RX7 (some .int) E n0) {k15 : Int32 → Int32 → Int32 → Int32 → Int32 → Int32 → Option Int32} (hk15 : ∀ (v0 : Int32) (v1 : Int32) (v2 : Int32) (v3 : Int32) (v4 : Int32) (v5 : Int32) (H : Heap) (locs : List Loc) (ls : Array Slot), k15 v0 v1 v2 v3 v4 v5 = some r → mIv s E S H locs 0 → lv_has ls 7 [(0, .ref (mA E.b v0)), (1, .int v1), (2, .int v2), (3, .int v3), (4, .int v4), (5, .int v5)] → W p l e rm_X7_whistleKinds s m args below meth c H locs 0 0 (mQi below args s 0 0 n0 E (r, S)) (F0 m 15 ls [])) : ∀  (v0 : Int32) (v1 : Int32) (v2 : Int32) (v3 : Int32) (v5 : Int32) (H : Heap) (locs : List Loc) (ls : Array Slot), f_X7_whistleKinds_83 k15 S v0 v1 v2 v3 v5 = some r → mIv s E S H locs 0 → lv_has ls 7 [(0, .ref (mA E.b v0)), (1, .int v1), (2, .int v2), (3, .int v3), (5, .int v5)] → W p l e rm_X7_whistleKinds s m args below meth c H locs 0 0 (mQi below args s 0 0 n0 E (r, S)) (F0 m 83 ls []) := by
  have hx := C.1
  have hb := C.2.1
  intro v0 v1 v2 v3 v5 H locs ls hF hI hl
  refine lv_iconst (v := 0) hx hb dX7_whistleKinds_83 (by decide) ?_
  exact (bl_X7_whistleKinds_84 C (k15 := k15) hk15) v0 v1 v2 v3 v5 0 _ _ _ hF hI (lv_sub hl [0, 1, 2, 3, 4] rfl)
set_option maxRecDepth 100000 in
set_option maxHeartbeats 4000000 in
theorem bl_X7_whistleKinds_79 {p : Program} {l : Launch} {e : Env} {s : State} {m : MethodId} {args : Array Value} {below : List Frame} {meth : Method} {c : Code} {E : mE} {n0 : Nat} {r : Int32} {S : mS} (C : mCx p s m args meth c cX7_whistleKinds 7 RX7 (some .int) E n0) {k15 : Int32 → Int32 → Int32 → Int32 → Int32 → Int32 → Option Int32} (hk15 : ∀ (v0 : Int32) (v1 : Int32) (v2 : Int32) (v3 : Int32) (v4 : Int32) (v5 : Int32) (H : Heap) (locs : List Loc) (ls : Array Slot), k15 v0 v1 v2 v3 v4 v5 = some r → mIv s E S H locs 0 → lv_has ls 7 [(0, .ref (mA E.b v0)), (1, .int v1), (2, .int v2), (3, .int v3), (4, .int v4), (5, .int v5)] → W p l e rm_X7_whistleKinds s m args below meth c H locs 0 0 (mQi below args s 0 0 n0 E (r, S)) (F0 m 15 ls [])) : ∀  (v0 : Int32) (v1 : Int32) (v2 : Int32) (v3 : Int32) (v5 : Int32) (H : Heap) (locs : List Loc) (ls : Array Slot), f_X7_whistleKinds_79 k15 S v0 v1 v2 v3 v5 = some r → mIv s E S H locs 0 → lv_has ls 7 [(0, .ref (mA E.b v0)), (1, .int v1), (2, .int v2), (3, .int v3), (5, .int v5)] → W p l e rm_X7_whistleKinds s m args below meth c H locs 0 0 (mQi below args s 0 0 n0 E (r, S)) (F0 m 79 ls []) := by
  have hx := C.1
  have hb := C.2.1
  intro v0 v1 v2 v3 v5 H locs ls hF hI hl
  refine lv_iconst (v := 1) hx hb dX7_whistleKinds_79 (by decide) ?_
  refine lv_goto (tgt := 84) hx hb dX7_whistleKinds_80 (by decide) ?_
  exact (bl_X7_whistleKinds_84 C (k15 := k15) hk15) v0 v1 v2 v3 v5 1 _ _ _ hF hI (lv_sub hl [0, 1, 2, 3, 4] rfl)
set_option maxRecDepth 100000 in
set_option maxHeartbeats 4000000 in
theorem bl_X7_whistleKinds_56 {p : Program} {l : Launch} {e : Env} {s : State} {m : MethodId} {args : Array Value} {below : List Frame} {meth : Method} {c : Code} {E : mE} {n0 : Nat} {r : Int32} {S : mS} (C : mCx p s m args meth c cX7_whistleKinds 7 RX7 (some .int) E n0) {k15 : Int32 → Int32 → Int32 → Int32 → Int32 → Int32 → Option Int32} (hk15 : ∀ (v0 : Int32) (v1 : Int32) (v2 : Int32) (v3 : Int32) (v4 : Int32) (v5 : Int32) (H : Heap) (locs : List Loc) (ls : Array Slot), k15 v0 v1 v2 v3 v4 v5 = some r → mIv s E S H locs 0 → lv_has ls 7 [(0, .ref (mA E.b v0)), (1, .int v1), (2, .int v2), (3, .int v3), (4, .int v4), (5, .int v5)] → W p l e rm_X7_whistleKinds s m args below meth c H locs 0 0 (mQi below args s 0 0 n0 E (r, S)) (F0 m 15 ls [])) : ∀  (v0 : Int32) (v1 : Int32) (v2 : Int32) (v3 : Int32) (v4 : Int32) (v5 : Int32) (t0 : Int32) (H : Heap) (locs : List Loc) (ls : Array Slot), f_X7_whistleKinds_56 k15 S v0 v1 v2 v3 v4 v5 t0 = some r → mIv s E S H locs 0 → lv_has ls 7 [(0, .ref (mA E.b v0)), (1, .int v1), (2, .int v2), (3, .int v3), (4, .int v4), (5, .int v5)] → W p l e rm_X7_whistleKinds s m args below meth c H locs 0 0 (mQi below args s 0 0 n0 E (r, S)) (F0 m 56 ls [.int t0]) := by
  have hx := C.1
  have hb := C.2.1
  intro v0 v1 v2 v3 v4 v5 t0 H locs ls hF hI hl
  refine lv_istore (lv' := [(6, .int t0), (0, .ref (mA E.b v0)), (1, .int v1), (2, .int v2), (3, .int v3), (4, .int v4), (5, .int v5)]) hx hb dX7_whistleKinds_56 hl (by decide) rfl (fun ls hl => ?_)
  refine lv_iload hx hb dX7_whistleKinds_58 (lv_at hl 5 rfl) ?_
  refine m_if_eq C (tgt := 83) hF dX7_whistleKinds_60 (by decide) (fun hF => ?_) (fun hF => ?_)
  · exact (bl_X7_whistleKinds_83 C (k15 := k15) hk15) v0 v1 v2 v3 v5 _ _ _ hF hI (lv_sub hl [1, 2, 3, 4, 6] rfl)
  · refine lv_aload_n hx hb dX7_whistleKinds_63 rfl (lv_at hl 1 rfl) ?_
    refine m_getR C fd_X7_32 hI hF dX7_whistleKinds_64 (fun r7 hF => ?_)
    refine lv_iload hx hb dX7_whistleKinds_67 (lv_at hl 6 rfl) ?_
    refine m_iald C hI hF dX7_whistleKinds_69 (fun r8 hF => ?_)
    refine lv_iload_n hx hb dX7_whistleKinds_70 rfl (lv_at hl 2 rfl) ?_
    refine m_icmp_ne C (tgt := 79) hF dX7_whistleKinds_71 (by decide) (fun hF => ?_) (fun hF => ?_)
    · exact (bl_X7_whistleKinds_79 C (k15 := k15) hk15) v0 v1 v2 v3 v5 _ _ _ hF hI (lv_sub hl [1, 2, 3, 4, 6] rfl)
    · refine lv_iload hx hb dX7_whistleKinds_74 (lv_at hl 0 rfl) ?_
      refine m_if_eq C (tgt := 83) hF dX7_whistleKinds_76 (by decide) (fun hF => ?_) (fun hF => ?_)
      · exact (bl_X7_whistleKinds_83 C (k15 := k15) hk15) v0 v1 v2 v3 v5 _ _ _ hF hI (lv_sub hl [1, 2, 3, 4, 6] rfl)
      · exact (bl_X7_whistleKinds_79 C (k15 := k15) hk15) v0 v1 v2 v3 v5 _ _ _ hF hI (lv_sub hl [1, 2, 3, 4, 6] rfl)
set_option maxRecDepth 100000 in
set_option maxHeartbeats 4000000 in
theorem bl_X7_whistleKinds_15 {p : Program} {l : Launch} {e : Env} {s : State} {m : MethodId} {args : Array Value} {below : List Frame} {meth : Method} {c : Code} {E : mE} {n0 : Nat} {r : Int32} {S : mS} (C : mCx p s m args meth c cX7_whistleKinds 7 RX7 (some .int) E n0) {k92 : Int32 → Int32 → Int32 → Int32 → Int32 → Option Int32} (hk92 : ∀ (v0 : Int32) (v1 : Int32) (v2 : Int32) (v3 : Int32) (v4 : Int32) (H : Heap) (locs : List Loc) (ls : Array Slot), k92 v0 v1 v2 v3 v4 = some r → mIv s E S H locs 0 → lv_has ls 7 [(0, .ref (mA E.b v0)), (1, .int v1), (2, .int v2), (3, .int v3), (4, .int v4)] → W p l e rm_X7_whistleKinds s m args below meth c H locs 0 0 (mQi below args s 0 0 n0 E (r, S)) (F0 m 92 ls [])) : ∀ (n : Nat)  (v0 : Int32) (v1 : Int32) (v2 : Int32) (v3 : Int32) (v4 : Int32) (v5 : Int32) (H : Heap) (locs : List Loc) (ls : Array Slot), f_X7_whistleKinds_15 k92 S n v0 v1 v2 v3 v4 v5 = some r → mIv s E S H locs 0 → lv_has ls 7 [(0, .ref (mA E.b v0)), (1, .int v1), (2, .int v2), (3, .int v3), (4, .int v4), (5, .int v5)] → W p l e rm_X7_whistleKinds s m args below meth c H locs 0 0 (mQi below args s 0 0 n0 E (r, S)) (F0 m 15 ls []) := by
  have hx := C.1
  have hb := C.2.1
  intro n
  induction n with
  | zero =>
    intro v0 v1 v2 v3 v4 v5 H locs ls hF
    exact nomatch (show (none : Option Int32) = some r from hF)
  | succ n ih =>
    intro v0 v1 v2 v3 v4 v5 H locs ls hF hI hl
    have hF := (f_X7_whistleKinds_15_s k92 S n v0 v1 v2 v3 v4 v5).symm.trans hF
    refine lv_iload hx hb dX7_whistleKinds_15 (lv_at hl 5 rfl) ?_
    refine lv_iconst (v := 3) hx hb dX7_whistleKinds_17 (by decide) ?_
    refine lv_aload_n hx hb dX7_whistleKinds_18 rfl (lv_at hl 0 rfl) ?_
    refine m_get C fd_X7_86 hI hF dX7_whistleKinds_19 (fun r1 hF => ?_)
    refine lv_imul hx hb dX7_whistleKinds_22 ?_
    refine m_icmp_ge C (tgt := 92) hF dX7_whistleKinds_23 (by decide) (fun hF => ?_) (fun hF => ?_)
    · exact hk92 v0 v1 v2 v3 v4 _ _ _ hF hI (lv_sub hl [0, 1, 2, 3, 4] rfl)
    · refine lv_iload_n hx hb dX7_whistleKinds_26 rfl (lv_at hl 3 rfl) ?_
      refine lv_aload_n hx hb dX7_whistleKinds_27 rfl (lv_at hl 0 rfl) ?_
      refine m_getR C fd_X7_32 hI hF dX7_whistleKinds_28 (fun r2 hF => ?_)
      refine lv_iload hx hb dX7_whistleKinds_31 (lv_at hl 5 rfl) ?_
      refine lv_iconst (v := 1) hx hb dX7_whistleKinds_33 (by decide) ?_
      refine lv_iadd hx hb dX7_whistleKinds_34 ?_
      refine m_iald C hI hF dX7_whistleKinds_35 (fun r3 hF => ?_)
      refine m_callSiR C cd_X7_196 hl.1 hI hF (fun _ h => ok_X7_goesBy h) rfl rfl ⟨rfl, rfl, Nat.le_of_ble_eq_true rfl, Nat.le_of_ble_eq_true rfl⟩ ⟨Nat.le_of_ble_eq_true rfl, Nat.le_of_ble_eq_true rfl⟩ (Nat.le_of_ble_eq_true rfl) dX7_whistleKinds_36 (fun r4 H locs hF hI => ?_)
      refine lv_aload_n hx hb dX7_whistleKinds_39 rfl (lv_at hl 0 rfl) ?_
      refine m_getR C fd_X7_32 hI hF dX7_whistleKinds_40 (fun r5 hF => ?_)
      refine lv_iload hx hb dX7_whistleKinds_43 (lv_at hl 5 rfl) ?_
      refine lv_iconst (v := 2) hx hb dX7_whistleKinds_45 (by decide) ?_
      refine lv_iadd hx hb dX7_whistleKinds_46 ?_
      refine m_iald C hI hF dX7_whistleKinds_47 (fun r6 hF => ?_)
      refine m_icmp_ne C (tgt := 55) hF dX7_whistleKinds_48 (by decide) (fun hF => ?_) (fun hF => ?_)
      · refine lv_iconst (v := 0) hx hb dX7_whistleKinds_55 (by decide) ?_
        exact (bl_X7_whistleKinds_56 C (k15 := (f_X7_whistleKinds_15 k92 S n)) ih) v0 v1 v2 v3 v4 v5 0 _ _ _ hF hI (lv_sub hl [0, 1, 2, 3, 4, 5] rfl)
      · refine lv_iconst (v := 1) hx hb dX7_whistleKinds_51 (by decide) ?_
        refine lv_goto (tgt := 56) hx hb dX7_whistleKinds_52 (by decide) ?_
        exact (bl_X7_whistleKinds_56 C (k15 := (f_X7_whistleKinds_15 k92 S n)) ih) v0 v1 v2 v3 v4 v5 1 _ _ _ hF hI (lv_sub hl [0, 1, 2, 3, 4, 5] rfl)
set_option maxRecDepth 100000 in
set_option maxHeartbeats 4000000 in
theorem bl_X7_whistleKinds_105 {p : Program} {l : Launch} {e : Env} {s : State} {m : MethodId} {args : Array Value} {below : List Frame} {meth : Method} {c : Code} {E : mE} {n0 : Nat} {r : Int32} {S : mS} (C : mCx p s m args meth c cX7_whistleKinds 7 RX7 (some .int) E n0) {k4 : Int32 → Int32 → Int32 → Int32 → Option Int32} (hk4 : ∀ (v0 : Int32) (v1 : Int32) (v2 : Int32) (v3 : Int32) (H : Heap) (locs : List Loc) (ls : Array Slot), k4 v0 v1 v2 v3 = some r → mIv s E S H locs 0 → lv_has ls 7 [(0, .ref (mA E.b v0)), (1, .int v1), (2, .int v2), (3, .int v3)] → W p l e rm_X7_whistleKinds s m args below meth c H locs 0 0 (mQi below args s 0 0 n0 E (r, S)) (F0 m 4 ls [])) : ∀  (v0 : Int32) (v1 : Int32) (v3 : Int32) (t0 : Int32) (t1 : Int32) (H : Heap) (locs : List Loc) (ls : Array Slot), f_X7_whistleKinds_105 k4 S v0 v1 v3 t0 t1 = some r → mIv s E S H locs 0 → lv_has ls 7 [(0, .ref (mA E.b v0)), (1, .int v1), (3, .int v3)] → W p l e rm_X7_whistleKinds s m args below meth c H locs 0 0 (mQi below args s 0 0 n0 E (r, S)) (F0 m 105 ls [.int t1, .int t0]) := by
  have hx := C.1
  have hb := C.2.1
  intro v0 v1 v3 t0 t1 H locs ls hF hI hl
  refine lv_ior hx hb dX7_whistleKinds_105 ?_
  refine lv_istore_n (lv' := [(2, .int (t0 ||| t1)), (0, .ref (mA E.b v0)), (1, .int v1), (3, .int v3)]) hx hb dX7_whistleKinds_106 rfl hl (by decide) rfl (fun ls hl => ?_)
  refine lv_iinc (v := v3 + 1) (lv' := [(3, .int (v3 + 1)), (2, .int (t0 ||| t1)), (0, .ref (mA E.b v0)), (1, .int v1)]) hx hb dX7_whistleKinds_107 hl (k := 3) rfl rfl (by decide) rfl (fun ls hl => ?_)
  refine lv_goto (tgt := 4) hx hb dX7_whistleKinds_110 (by decide) ?_
  exact hk4 v0 v1 (t0 ||| t1) (v3 + 1) _ _ _ hF hI (lv_sub hl [2, 3, 1, 0] rfl)
set_option maxRecDepth 100000 in
set_option maxHeartbeats 4000000 in
theorem bl_X7_whistleKinds_92 {p : Program} {l : Launch} {e : Env} {s : State} {m : MethodId} {args : Array Value} {below : List Frame} {meth : Method} {c : Code} {E : mE} {n0 : Nat} {r : Int32} {S : mS} (C : mCx p s m args meth c cX7_whistleKinds 7 RX7 (some .int) E n0) {k4 : Int32 → Int32 → Int32 → Int32 → Option Int32} (hk4 : ∀ (v0 : Int32) (v1 : Int32) (v2 : Int32) (v3 : Int32) (H : Heap) (locs : List Loc) (ls : Array Slot), k4 v0 v1 v2 v3 = some r → mIv s E S H locs 0 → lv_has ls 7 [(0, .ref (mA E.b v0)), (1, .int v1), (2, .int v2), (3, .int v3)] → W p l e rm_X7_whistleKinds s m args below meth c H locs 0 0 (mQi below args s 0 0 n0 E (r, S)) (F0 m 4 ls [])) : ∀  (v0 : Int32) (v1 : Int32) (v2 : Int32) (v3 : Int32) (v4 : Int32) (H : Heap) (locs : List Loc) (ls : Array Slot), f_X7_whistleKinds_92 k4 S v0 v1 v2 v3 v4 = some r → mIv s E S H locs 0 → lv_has ls 7 [(0, .ref (mA E.b v0)), (1, .int v1), (2, .int v2), (3, .int v3), (4, .int v4)] → W p l e rm_X7_whistleKinds s m args below meth c H locs 0 0 (mQi below args s 0 0 n0 E (r, S)) (F0 m 92 ls []) := by
  have hx := C.1
  have hb := C.2.1
  intro v0 v1 v2 v3 v4 H locs ls hF hI hl
  refine lv_iload_n hx hb dX7_whistleKinds_92 rfl (lv_at hl 2 rfl) ?_
  refine lv_iload hx hb dX7_whistleKinds_93 (lv_at hl 4 rfl) ?_
  refine m_if_eq C (tgt := 104) hF dX7_whistleKinds_95 (by decide) (fun hF => ?_) (fun hF => ?_)
  · refine lv_iconst (v := 0) hx hb dX7_whistleKinds_104 (by decide) ?_
    exact (bl_X7_whistleKinds_105 C (k4 := k4) hk4) v0 v1 v3 v2 0 _ _ _ hF hI (lv_sub hl [0, 1, 3] rfl)
  · refine lv_iconst (v := 1) hx hb dX7_whistleKinds_98 (by decide) ?_
    refine lv_iload_n hx hb dX7_whistleKinds_99 rfl (lv_at hl 3 rfl) ?_
    refine lv_ishl hx hb dX7_whistleKinds_100 ?_
    refine lv_goto (tgt := 105) hx hb dX7_whistleKinds_101 (by decide) ?_
    exact (bl_X7_whistleKinds_105 C (k4 := k4) hk4) v0 v1 v3 v2 (1 <<< (v3 &&& 31)) _ _ _ hF hI (lv_sub hl [0, 1, 3] rfl)
set_option maxRecDepth 100000 in
set_option maxHeartbeats 4000000 in
theorem bl_X7_whistleKinds_4 {p : Program} {l : Launch} {e : Env} {s : State} {m : MethodId} {args : Array Value} {below : List Frame} {meth : Method} {c : Code} {E : mE} {n0 : Nat} {r : Int32} {S : mS} (C : mCx p s m args meth c cX7_whistleKinds 7 RX7 (some .int) E n0) {k113 : Int32 → Option Int32} (hk113 : ∀ (v2 : Int32) (H : Heap) (locs : List Loc) (ls : Array Slot), k113 v2 = some r → mIv s E S H locs 0 → lv_has ls 7 [(2, .int v2)] → W p l e rm_X7_whistleKinds s m args below meth c H locs 0 0 (mQi below args s 0 0 n0 E (r, S)) (F0 m 113 ls [])) : ∀ (n : Nat)  (v0 : Int32) (v1 : Int32) (v2 : Int32) (v3 : Int32) (H : Heap) (locs : List Loc) (ls : Array Slot), f_X7_whistleKinds_4 k113 S n v0 v1 v2 v3 = some r → mIv s E S H locs 0 → lv_has ls 7 [(0, .ref (mA E.b v0)), (1, .int v1), (2, .int v2), (3, .int v3)] → W p l e rm_X7_whistleKinds s m args below meth c H locs 0 0 (mQi below args s 0 0 n0 E (r, S)) (F0 m 4 ls []) := by
  have hx := C.1
  have hb := C.2.1
  intro n
  induction n with
  | zero =>
    intro v0 v1 v2 v3 H locs ls hF
    exact nomatch (show (none : Option Int32) = some r from hF)
  | succ n ih =>
    intro v0 v1 v2 v3 H locs ls hF hI hl
    have hF := (f_X7_whistleKinds_4_s k113 S n v0 v1 v2 v3).symm.trans hF
    refine lv_iload_n hx hb dX7_whistleKinds_4 rfl (lv_at hl 3 rfl) ?_
    refine lv_iconst (v := 5) hx hb dX7_whistleKinds_5 (by decide) ?_
    refine m_icmp_gt C (tgt := 113) hF dX7_whistleKinds_6 (by decide) (fun hF => ?_) (fun hF => ?_)
    · exact hk113 v2 _ _ _ hF hI (lv_sub hl [2] rfl)
    · refine lv_iconst (v := 1) hx hb dX7_whistleKinds_9 (by decide) ?_
      refine lv_istore (lv' := [(4, .int 1), (0, .ref (mA E.b v0)), (1, .int v1), (2, .int v2), (3, .int v3)]) hx hb dX7_whistleKinds_10 hl (by decide) rfl (fun ls hl => ?_)
      refine lv_iconst (v := 0) hx hb dX7_whistleKinds_12 (by decide) ?_
      refine lv_istore (lv' := [(5, .int 0), (4, .int 1), (0, .ref (mA E.b v0)), (1, .int v1), (2, .int v2), (3, .int v3)]) hx hb dX7_whistleKinds_13 hl (by decide) rfl (fun ls hl => ?_)
      exact (bl_X7_whistleKinds_15 C (k92 := (f_X7_whistleKinds_92 (f_X7_whistleKinds_4 k113 S n) S)) (bl_X7_whistleKinds_92 C (k4 := (f_X7_whistleKinds_4 k113 S n)) ih) 1000) v0 v1 v2 v3 1 0 _ _ _ hF hI (lv_sub hl [2, 3, 4, 5, 1, 0] rfl)
set_option maxRecDepth 100000 in
set_option maxHeartbeats 4000000 in
theorem bl_X7_whistleKinds_113 {p : Program} {l : Launch} {e : Env} {s : State} {m : MethodId} {args : Array Value} {below : List Frame} {meth : Method} {c : Code} {E : mE} {n0 : Nat} {r : Int32} {S : mS} (C : mCx p s m args meth c cX7_whistleKinds 7 RX7 (some .int) E n0) : ∀  (v2 : Int32) (H : Heap) (locs : List Loc) (ls : Array Slot), f_X7_whistleKinds_113 S v2 = some r → mIv s E S H locs 0 → lv_has ls 7 [(2, .int v2)] → W p l e rm_X7_whistleKinds s m args below meth c H locs 0 0 (mQi below args s 0 0 n0 E (r, S)) (F0 m 113 ls []) := by
  have hx := C.1
  have hb := C.2.1
  intro v2 H locs ls hF hI hl
  refine lv_iload_n hx hb dX7_whistleKinds_113 rfl (lv_at hl 0 rfl) ?_
  exact m_iretiR C hI hF dX7_whistleKinds_114
set_option maxRecDepth 100000 in
set_option maxHeartbeats 4000000 in
theorem ok_X7_whistleKinds {l : Launch} {E : mE} {v0 : Int32} {v1 : Int32} {S : mS} {r : Int32} (hF : f_X7_whistleKinds v0 v1 S = some r) : mMi l yX7_whistleKinds cX7_whistleKinds 7 (some .int) rm_X7_whistleKinds 0 0 [.ref (mA E.b v0), .int v1] E S (r, S) := by
  refine m_met_i (by decide) (Nat.le_of_ble_eq_true rfl) (fun p e s m args below meth c ls hin C hI hl => ?_)
  have hx := C.1
  have hb := C.2.1
  have hl : lv_has ls 7 [(0, .ref (mA E.b v0)), (1, .int v1)] := hl
  generalize s.heap = H at hI ⊢
  generalize ([] : List Loc) = locs at hI ⊢
  refine lv_iconst (v := 0) hx hb dX7_whistleKinds_0 (by decide) ?_
  refine lv_istore_n (lv' := [(2, .int 0), (0, .ref (mA E.b v0)), (1, .int v1)]) hx hb dX7_whistleKinds_1 rfl hl (by decide) rfl (fun ls hl => ?_)
  refine lv_iconst (v := 0) hx hb dX7_whistleKinds_2 (by decide) ?_
  refine lv_istore_n (lv' := [(3, .int 0), (2, .int 0), (0, .ref (mA E.b v0)), (1, .int v1)]) hx hb dX7_whistleKinds_3 rfl hl (by decide) rfl (fun ls hl => ?_)
  exact (bl_X7_whistleKinds_4 C (k113 := (f_X7_whistleKinds_113 S)) (bl_X7_whistleKinds_113 C) 1000) v0 v1 0 0 _ _ _ hF hI (lv_sub hl [2, 3, 1, 0] rfl)
noncomputable def f_X7_sheepKinds_84 (k15 : Int32 → Int32 → Int32 → Int32 → Int32 → Int32 → Option Int32) (S : mS) (v0 : Int32) (v1 : Int32) (v2 : Int32) (v3 : Int32) (v5 : Int32) (t0 : Int32) : Option Int32 := k15 v0 v1 v2 v3 t0 (v5 + 3)
noncomputable def f_X7_sheepKinds_83 (k15 : Int32 → Int32 → Int32 → Int32 → Int32 → Int32 → Option Int32) (S : mS) (v0 : Int32) (v1 : Int32) (v2 : Int32) (v3 : Int32) (v5 : Int32) : Option Int32 := (f_X7_sheepKinds_84 k15 S) v0 v1 v2 v3 v5 0
noncomputable def f_X7_sheepKinds_79 (k15 : Int32 → Int32 → Int32 → Int32 → Int32 → Int32 → Option Int32) (S : mS) (v0 : Int32) (v1 : Int32) (v2 : Int32) (v3 : Int32) (v5 : Int32) : Option Int32 := (f_X7_sheepKinds_84 k15 S) v0 v1 v2 v3 v5 1
noncomputable def f_X7_sheepKinds_56 (k15 : Int32 → Int32 → Int32 → Int32 → Int32 → Int32 → Option Int32) (S : mS) (v0 : Int32) (v1 : Int32) (v2 : Int32) (v3 : Int32) (v4 : Int32) (v5 : Int32) (t0 : Int32) : Option Int32 := if v4 = 0 then ((f_X7_sheepKinds_83 k15 S) v0 v1 v2 v3 v5) else (mGr 7 14 v0 S (fun r7 => mX 8 r7 v5 S (fun r8 => if r8 = v1 then (if t0 = 0 then ((f_X7_sheepKinds_83 k15 S) v0 v1 v2 v3 v5) else ((f_X7_sheepKinds_79 k15 S) v0 v1 v2 v3 v5)) else ((f_X7_sheepKinds_79 k15 S) v0 v1 v2 v3 v5))))
noncomputable def f_X7_sheepKinds_15 (k92 : Int32 → Int32 → Int32 → Int32 → Int32 → Option Int32) (S : mS) : Nat → Int32 → Int32 → Int32 → Int32 → Int32 → Int32 → Option Int32 := fun n => Nat.rec (motive := fun _ => Int32 → Int32 → Int32 → Int32 → Int32 → Int32 → Option Int32) (fun _ _ _ _ _ _ => none) (fun _ rec v0 v1 v2 v3 v4 v5 => mG 7 7 v0 S (fun r1 => if (3 * r1) ≤ v5 then (k92 v0 v1 v2 v3 v4) else (mGr 7 14 v0 S (fun r2 => mX 8 r2 (v5 + 1) S (fun r3 => mCp (f_X7_givesBy v3 r3) (fun r4 => mGr 7 14 v0 S (fun r5 => mX 8 r5 (v5 + 2) S (fun r6 => if r4 = r6 then ((f_X7_sheepKinds_56 rec S) v0 v1 v2 v3 v4 v5 1) else ((f_X7_sheepKinds_56 rec S) v0 v1 v2 v3 v4 v5 0))))))))) n
theorem f_X7_sheepKinds_15_s (k92 : Int32 → Int32 → Int32 → Int32 → Int32 → Option Int32) (S : mS) (n : Nat) (v0 : Int32) (v1 : Int32) (v2 : Int32) (v3 : Int32) (v4 : Int32) (v5 : Int32) : f_X7_sheepKinds_15 k92 S (n + 1) v0 v1 v2 v3 v4 v5 = mG 7 7 v0 S (fun r1 => if (3 * r1) ≤ v5 then (k92 v0 v1 v2 v3 v4) else (mGr 7 14 v0 S (fun r2 => mX 8 r2 (v5 + 1) S (fun r3 => mCp (f_X7_givesBy v3 r3) (fun r4 => mGr 7 14 v0 S (fun r5 => mX 8 r5 (v5 + 2) S (fun r6 => if r4 = r6 then ((f_X7_sheepKinds_56 (f_X7_sheepKinds_15 k92 S n) S) v0 v1 v2 v3 v4 v5 1) else ((f_X7_sheepKinds_56 (f_X7_sheepKinds_15 k92 S n) S) v0 v1 v2 v3 v4 v5 0)))))))) := rfl
noncomputable def f_X7_sheepKinds_105 (k4 : Int32 → Int32 → Int32 → Int32 → Option Int32) (S : mS) (v0 : Int32) (v1 : Int32) (v3 : Int32) (t0 : Int32) (t1 : Int32) : Option Int32 := k4 v0 v1 (t0 ||| t1) (v3 + 1)
noncomputable def f_X7_sheepKinds_92 (k4 : Int32 → Int32 → Int32 → Int32 → Option Int32) (S : mS) (v0 : Int32) (v1 : Int32) (v2 : Int32) (v3 : Int32) (v4 : Int32) : Option Int32 := if v4 = 0 then ((f_X7_sheepKinds_105 k4 S) v0 v1 v3 v2 0) else ((f_X7_sheepKinds_105 k4 S) v0 v1 v3 v2 (1 <<< (v3 &&& 31)))
noncomputable def f_X7_sheepKinds_4 (k113 : Int32 → Option Int32) (S : mS) : Nat → Int32 → Int32 → Int32 → Int32 → Option Int32 := fun n => Nat.rec (motive := fun _ => Int32 → Int32 → Int32 → Int32 → Option Int32) (fun _ _ _ _ => none) (fun _ rec v0 v1 v2 v3 => if 5 < v3 then (k113 v2) else ((f_X7_sheepKinds_15 (f_X7_sheepKinds_92 rec S) S 1000) v0 v1 v2 v3 1 0)) n
theorem f_X7_sheepKinds_4_s (k113 : Int32 → Option Int32) (S : mS) (n : Nat) (v0 : Int32) (v1 : Int32) (v2 : Int32) (v3 : Int32) : f_X7_sheepKinds_4 k113 S (n + 1) v0 v1 v2 v3 = if 5 < v3 then (k113 v2) else ((f_X7_sheepKinds_15 (f_X7_sheepKinds_92 (f_X7_sheepKinds_4 k113 S n) S) S 1000) v0 v1 v2 v3 1 0) := rfl
noncomputable def f_X7_sheepKinds_113 (S : mS) (v2 : Int32) : Option Int32 := some v2
noncomputable def f_X7_sheepKinds (v0 : Int32) (v1 : Int32) (S : mS) : Option Int32 := (f_X7_sheepKinds_4 (f_X7_sheepKinds_113 S) S 1000) v0 v1 0 0
def rm_X7_sheepKinds : Room := { frames := 2, cells := 0, slots := 0, locals := 45 }
set_option maxRecDepth 100000 in
set_option maxHeartbeats 4000000 in
theorem bl_X7_sheepKinds_84 {p : Program} {l : Launch} {e : Env} {s : State} {m : MethodId} {args : Array Value} {below : List Frame} {meth : Method} {c : Code} {E : mE} {n0 : Nat} {r : Int32} {S : mS} (C : mCx p s m args meth c cX7_sheepKinds 7 RX7 (some .int) E n0) {k15 : Int32 → Int32 → Int32 → Int32 → Int32 → Int32 → Option Int32} (hk15 : ∀ (v0 : Int32) (v1 : Int32) (v2 : Int32) (v3 : Int32) (v4 : Int32) (v5 : Int32) (H : Heap) (locs : List Loc) (ls : Array Slot), k15 v0 v1 v2 v3 v4 v5 = some r → mIv s E S H locs 0 → lv_has ls 7 [(0, .ref (mA E.b v0)), (1, .int v1), (2, .int v2), (3, .int v3), (4, .int v4), (5, .int v5)] → W p l e rm_X7_sheepKinds s m args below meth c H locs 0 0 (mQi below args s 0 0 n0 E (r, S)) (F0 m 15 ls [])) : ∀  (v0 : Int32) (v1 : Int32) (v2 : Int32) (v3 : Int32) (v5 : Int32) (t0 : Int32) (H : Heap) (locs : List Loc) (ls : Array Slot), f_X7_sheepKinds_84 k15 S v0 v1 v2 v3 v5 t0 = some r → mIv s E S H locs 0 → lv_has ls 7 [(0, .ref (mA E.b v0)), (1, .int v1), (2, .int v2), (3, .int v3), (5, .int v5)] → W p l e rm_X7_sheepKinds s m args below meth c H locs 0 0 (mQi below args s 0 0 n0 E (r, S)) (F0 m 84 ls [.int t0]) := by
  have hx := C.1
  have hb := C.2.1
  intro v0 v1 v2 v3 v5 t0 H locs ls hF hI hl
  refine lv_istore (lv' := [(4, .int t0), (0, .ref (mA E.b v0)), (1, .int v1), (2, .int v2), (3, .int v3), (5, .int v5)]) hx hb dX7_sheepKinds_84 hl (by decide) rfl (fun ls hl => ?_)
  refine lv_iinc (v := v5 + 3) (lv' := [(5, .int (v5 + 3)), (4, .int t0), (0, .ref (mA E.b v0)), (1, .int v1), (2, .int v2), (3, .int v3)]) hx hb dX7_sheepKinds_86 hl (k := 5) rfl rfl (by decide) rfl (fun ls hl => ?_)
  refine lv_goto (tgt := 15) hx hb dX7_sheepKinds_89 (by decide) ?_
  exact hk15 v0 v1 v2 v3 t0 (v5 + 3) _ _ _ hF hI (lv_sub hl [2, 3, 4, 5, 1, 0] rfl)
set_option maxRecDepth 100000 in
set_option maxHeartbeats 4000000 in
theorem bl_X7_sheepKinds_83 {p : Program} {l : Launch} {e : Env} {s : State} {m : MethodId} {args : Array Value} {below : List Frame} {meth : Method} {c : Code} {E : mE} {n0 : Nat} {r : Int32} {S : mS} (C : mCx p s m args meth c cX7_sheepKinds 7 RX7 (some .int) E n0) {k15 : Int32 → Int32 → Int32 → Int32 → Int32 → Int32 → Option Int32} (hk15 : ∀ (v0 : Int32) (v1 : Int32) (v2 : Int32) (v3 : Int32) (v4 : Int32) (v5 : Int32) (H : Heap) (locs : List Loc) (ls : Array Slot), k15 v0 v1 v2 v3 v4 v5 = some r → mIv s E S H locs 0 → lv_has ls 7 [(0, .ref (mA E.b v0)), (1, .int v1), (2, .int v2), (3, .int v3), (4, .int v4), (5, .int v5)] → W p l e rm_X7_sheepKinds s m args below meth c H locs 0 0 (mQi below args s 0 0 n0 E (r, S)) (F0 m 15 ls [])) : ∀  (v0 : Int32) (v1 : Int32) (v2 : Int32) (v3 : Int32) (v5 : Int32) (H : Heap) (locs : List Loc) (ls : Array Slot), f_X7_sheepKinds_83 k15 S v0 v1 v2 v3 v5 = some r → mIv s E S H locs 0 → lv_has ls 7 [(0, .ref (mA E.b v0)), (1, .int v1), (2, .int v2), (3, .int v3), (5, .int v5)] → W p l e rm_X7_sheepKinds s m args below meth c H locs 0 0 (mQi below args s 0 0 n0 E (r, S)) (F0 m 83 ls []) := by
  have hx := C.1
  have hb := C.2.1
  intro v0 v1 v2 v3 v5 H locs ls hF hI hl
  refine lv_iconst (v := 0) hx hb dX7_sheepKinds_83 (by decide) ?_
  exact (bl_X7_sheepKinds_84 C (k15 := k15) hk15) v0 v1 v2 v3 v5 0 _ _ _ hF hI (lv_sub hl [0, 1, 2, 3, 4] rfl)
set_option maxRecDepth 100000 in
set_option maxHeartbeats 4000000 in
theorem bl_X7_sheepKinds_79 {p : Program} {l : Launch} {e : Env} {s : State} {m : MethodId} {args : Array Value} {below : List Frame} {meth : Method} {c : Code} {E : mE} {n0 : Nat} {r : Int32} {S : mS} (C : mCx p s m args meth c cX7_sheepKinds 7 RX7 (some .int) E n0) {k15 : Int32 → Int32 → Int32 → Int32 → Int32 → Int32 → Option Int32} (hk15 : ∀ (v0 : Int32) (v1 : Int32) (v2 : Int32) (v3 : Int32) (v4 : Int32) (v5 : Int32) (H : Heap) (locs : List Loc) (ls : Array Slot), k15 v0 v1 v2 v3 v4 v5 = some r → mIv s E S H locs 0 → lv_has ls 7 [(0, .ref (mA E.b v0)), (1, .int v1), (2, .int v2), (3, .int v3), (4, .int v4), (5, .int v5)] → W p l e rm_X7_sheepKinds s m args below meth c H locs 0 0 (mQi below args s 0 0 n0 E (r, S)) (F0 m 15 ls [])) : ∀  (v0 : Int32) (v1 : Int32) (v2 : Int32) (v3 : Int32) (v5 : Int32) (H : Heap) (locs : List Loc) (ls : Array Slot), f_X7_sheepKinds_79 k15 S v0 v1 v2 v3 v5 = some r → mIv s E S H locs 0 → lv_has ls 7 [(0, .ref (mA E.b v0)), (1, .int v1), (2, .int v2), (3, .int v3), (5, .int v5)] → W p l e rm_X7_sheepKinds s m args below meth c H locs 0 0 (mQi below args s 0 0 n0 E (r, S)) (F0 m 79 ls []) := by
  have hx := C.1
  have hb := C.2.1
  intro v0 v1 v2 v3 v5 H locs ls hF hI hl
  refine lv_iconst (v := 1) hx hb dX7_sheepKinds_79 (by decide) ?_
  refine lv_goto (tgt := 84) hx hb dX7_sheepKinds_80 (by decide) ?_
  exact (bl_X7_sheepKinds_84 C (k15 := k15) hk15) v0 v1 v2 v3 v5 1 _ _ _ hF hI (lv_sub hl [0, 1, 2, 3, 4] rfl)
set_option maxRecDepth 100000 in
set_option maxHeartbeats 4000000 in
theorem bl_X7_sheepKinds_56 {p : Program} {l : Launch} {e : Env} {s : State} {m : MethodId} {args : Array Value} {below : List Frame} {meth : Method} {c : Code} {E : mE} {n0 : Nat} {r : Int32} {S : mS} (C : mCx p s m args meth c cX7_sheepKinds 7 RX7 (some .int) E n0) {k15 : Int32 → Int32 → Int32 → Int32 → Int32 → Int32 → Option Int32} (hk15 : ∀ (v0 : Int32) (v1 : Int32) (v2 : Int32) (v3 : Int32) (v4 : Int32) (v5 : Int32) (H : Heap) (locs : List Loc) (ls : Array Slot), k15 v0 v1 v2 v3 v4 v5 = some r → mIv s E S H locs 0 → lv_has ls 7 [(0, .ref (mA E.b v0)), (1, .int v1), (2, .int v2), (3, .int v3), (4, .int v4), (5, .int v5)] → W p l e rm_X7_sheepKinds s m args below meth c H locs 0 0 (mQi below args s 0 0 n0 E (r, S)) (F0 m 15 ls [])) : ∀  (v0 : Int32) (v1 : Int32) (v2 : Int32) (v3 : Int32) (v4 : Int32) (v5 : Int32) (t0 : Int32) (H : Heap) (locs : List Loc) (ls : Array Slot), f_X7_sheepKinds_56 k15 S v0 v1 v2 v3 v4 v5 t0 = some r → mIv s E S H locs 0 → lv_has ls 7 [(0, .ref (mA E.b v0)), (1, .int v1), (2, .int v2), (3, .int v3), (4, .int v4), (5, .int v5)] → W p l e rm_X7_sheepKinds s m args below meth c H locs 0 0 (mQi below args s 0 0 n0 E (r, S)) (F0 m 56 ls [.int t0]) := by
  have hx := C.1
  have hb := C.2.1
  intro v0 v1 v2 v3 v4 v5 t0 H locs ls hF hI hl
  refine lv_istore (lv' := [(6, .int t0), (0, .ref (mA E.b v0)), (1, .int v1), (2, .int v2), (3, .int v3), (4, .int v4), (5, .int v5)]) hx hb dX7_sheepKinds_56 hl (by decide) rfl (fun ls hl => ?_)
  refine lv_iload hx hb dX7_sheepKinds_58 (lv_at hl 5 rfl) ?_
  refine m_if_eq C (tgt := 83) hF dX7_sheepKinds_60 (by decide) (fun hF => ?_) (fun hF => ?_)
  · exact (bl_X7_sheepKinds_83 C (k15 := k15) hk15) v0 v1 v2 v3 v5 _ _ _ hF hI (lv_sub hl [1, 2, 3, 4, 6] rfl)
  · refine lv_aload_n hx hb dX7_sheepKinds_63 rfl (lv_at hl 1 rfl) ?_
    refine m_getR C fd_X7_35 hI hF dX7_sheepKinds_64 (fun r7 hF => ?_)
    refine lv_iload hx hb dX7_sheepKinds_67 (lv_at hl 6 rfl) ?_
    refine m_iald C hI hF dX7_sheepKinds_69 (fun r8 hF => ?_)
    refine lv_iload_n hx hb dX7_sheepKinds_70 rfl (lv_at hl 2 rfl) ?_
    refine m_icmp_ne C (tgt := 79) hF dX7_sheepKinds_71 (by decide) (fun hF => ?_) (fun hF => ?_)
    · exact (bl_X7_sheepKinds_79 C (k15 := k15) hk15) v0 v1 v2 v3 v5 _ _ _ hF hI (lv_sub hl [1, 2, 3, 4, 6] rfl)
    · refine lv_iload hx hb dX7_sheepKinds_74 (lv_at hl 0 rfl) ?_
      refine m_if_eq C (tgt := 83) hF dX7_sheepKinds_76 (by decide) (fun hF => ?_) (fun hF => ?_)
      · exact (bl_X7_sheepKinds_83 C (k15 := k15) hk15) v0 v1 v2 v3 v5 _ _ _ hF hI (lv_sub hl [1, 2, 3, 4, 6] rfl)
      · exact (bl_X7_sheepKinds_79 C (k15 := k15) hk15) v0 v1 v2 v3 v5 _ _ _ hF hI (lv_sub hl [1, 2, 3, 4, 6] rfl)
set_option maxRecDepth 100000 in
set_option maxHeartbeats 4000000 in
theorem bl_X7_sheepKinds_15 {p : Program} {l : Launch} {e : Env} {s : State} {m : MethodId} {args : Array Value} {below : List Frame} {meth : Method} {c : Code} {E : mE} {n0 : Nat} {r : Int32} {S : mS} (C : mCx p s m args meth c cX7_sheepKinds 7 RX7 (some .int) E n0) {k92 : Int32 → Int32 → Int32 → Int32 → Int32 → Option Int32} (hk92 : ∀ (v0 : Int32) (v1 : Int32) (v2 : Int32) (v3 : Int32) (v4 : Int32) (H : Heap) (locs : List Loc) (ls : Array Slot), k92 v0 v1 v2 v3 v4 = some r → mIv s E S H locs 0 → lv_has ls 7 [(0, .ref (mA E.b v0)), (1, .int v1), (2, .int v2), (3, .int v3), (4, .int v4)] → W p l e rm_X7_sheepKinds s m args below meth c H locs 0 0 (mQi below args s 0 0 n0 E (r, S)) (F0 m 92 ls [])) : ∀ (n : Nat)  (v0 : Int32) (v1 : Int32) (v2 : Int32) (v3 : Int32) (v4 : Int32) (v5 : Int32) (H : Heap) (locs : List Loc) (ls : Array Slot), f_X7_sheepKinds_15 k92 S n v0 v1 v2 v3 v4 v5 = some r → mIv s E S H locs 0 → lv_has ls 7 [(0, .ref (mA E.b v0)), (1, .int v1), (2, .int v2), (3, .int v3), (4, .int v4), (5, .int v5)] → W p l e rm_X7_sheepKinds s m args below meth c H locs 0 0 (mQi below args s 0 0 n0 E (r, S)) (F0 m 15 ls []) := by
  have hx := C.1
  have hb := C.2.1
  intro n
  induction n with
  | zero =>
    intro v0 v1 v2 v3 v4 v5 H locs ls hF
    exact nomatch (show (none : Option Int32) = some r from hF)
  | succ n ih =>
    intro v0 v1 v2 v3 v4 v5 H locs ls hF hI hl
    have hF := (f_X7_sheepKinds_15_s k92 S n v0 v1 v2 v3 v4 v5).symm.trans hF
    refine lv_iload hx hb dX7_sheepKinds_15 (lv_at hl 5 rfl) ?_
    refine lv_iconst (v := 3) hx hb dX7_sheepKinds_17 (by decide) ?_
    refine lv_aload_n hx hb dX7_sheepKinds_18 rfl (lv_at hl 0 rfl) ?_
    refine m_get C fd_X7_89 hI hF dX7_sheepKinds_19 (fun r1 hF => ?_)
    refine lv_imul hx hb dX7_sheepKinds_22 ?_
    refine m_icmp_ge C (tgt := 92) hF dX7_sheepKinds_23 (by decide) (fun hF => ?_) (fun hF => ?_)
    · exact hk92 v0 v1 v2 v3 v4 _ _ _ hF hI (lv_sub hl [0, 1, 2, 3, 4] rfl)
    · refine lv_iload_n hx hb dX7_sheepKinds_26 rfl (lv_at hl 3 rfl) ?_
      refine lv_aload_n hx hb dX7_sheepKinds_27 rfl (lv_at hl 0 rfl) ?_
      refine m_getR C fd_X7_35 hI hF dX7_sheepKinds_28 (fun r2 hF => ?_)
      refine lv_iload hx hb dX7_sheepKinds_31 (lv_at hl 5 rfl) ?_
      refine lv_iconst (v := 1) hx hb dX7_sheepKinds_33 (by decide) ?_
      refine lv_iadd hx hb dX7_sheepKinds_34 ?_
      refine m_iald C hI hF dX7_sheepKinds_35 (fun r3 hF => ?_)
      refine m_callSiR C cd_X7_206 hl.1 hI hF (fun _ h => ok_X7_givesBy h) rfl rfl ⟨rfl, rfl, Nat.le_of_ble_eq_true rfl, Nat.le_of_ble_eq_true rfl⟩ ⟨Nat.le_of_ble_eq_true rfl, Nat.le_of_ble_eq_true rfl⟩ (Nat.le_of_ble_eq_true rfl) dX7_sheepKinds_36 (fun r4 H locs hF hI => ?_)
      refine lv_aload_n hx hb dX7_sheepKinds_39 rfl (lv_at hl 0 rfl) ?_
      refine m_getR C fd_X7_35 hI hF dX7_sheepKinds_40 (fun r5 hF => ?_)
      refine lv_iload hx hb dX7_sheepKinds_43 (lv_at hl 5 rfl) ?_
      refine lv_iconst (v := 2) hx hb dX7_sheepKinds_45 (by decide) ?_
      refine lv_iadd hx hb dX7_sheepKinds_46 ?_
      refine m_iald C hI hF dX7_sheepKinds_47 (fun r6 hF => ?_)
      refine m_icmp_ne C (tgt := 55) hF dX7_sheepKinds_48 (by decide) (fun hF => ?_) (fun hF => ?_)
      · refine lv_iconst (v := 0) hx hb dX7_sheepKinds_55 (by decide) ?_
        exact (bl_X7_sheepKinds_56 C (k15 := (f_X7_sheepKinds_15 k92 S n)) ih) v0 v1 v2 v3 v4 v5 0 _ _ _ hF hI (lv_sub hl [0, 1, 2, 3, 4, 5] rfl)
      · refine lv_iconst (v := 1) hx hb dX7_sheepKinds_51 (by decide) ?_
        refine lv_goto (tgt := 56) hx hb dX7_sheepKinds_52 (by decide) ?_
        exact (bl_X7_sheepKinds_56 C (k15 := (f_X7_sheepKinds_15 k92 S n)) ih) v0 v1 v2 v3 v4 v5 1 _ _ _ hF hI (lv_sub hl [0, 1, 2, 3, 4, 5] rfl)
set_option maxRecDepth 100000 in
set_option maxHeartbeats 4000000 in
theorem bl_X7_sheepKinds_105 {p : Program} {l : Launch} {e : Env} {s : State} {m : MethodId} {args : Array Value} {below : List Frame} {meth : Method} {c : Code} {E : mE} {n0 : Nat} {r : Int32} {S : mS} (C : mCx p s m args meth c cX7_sheepKinds 7 RX7 (some .int) E n0) {k4 : Int32 → Int32 → Int32 → Int32 → Option Int32} (hk4 : ∀ (v0 : Int32) (v1 : Int32) (v2 : Int32) (v3 : Int32) (H : Heap) (locs : List Loc) (ls : Array Slot), k4 v0 v1 v2 v3 = some r → mIv s E S H locs 0 → lv_has ls 7 [(0, .ref (mA E.b v0)), (1, .int v1), (2, .int v2), (3, .int v3)] → W p l e rm_X7_sheepKinds s m args below meth c H locs 0 0 (mQi below args s 0 0 n0 E (r, S)) (F0 m 4 ls [])) : ∀  (v0 : Int32) (v1 : Int32) (v3 : Int32) (t0 : Int32) (t1 : Int32) (H : Heap) (locs : List Loc) (ls : Array Slot), f_X7_sheepKinds_105 k4 S v0 v1 v3 t0 t1 = some r → mIv s E S H locs 0 → lv_has ls 7 [(0, .ref (mA E.b v0)), (1, .int v1), (3, .int v3)] → W p l e rm_X7_sheepKinds s m args below meth c H locs 0 0 (mQi below args s 0 0 n0 E (r, S)) (F0 m 105 ls [.int t1, .int t0]) := by
  have hx := C.1
  have hb := C.2.1
  intro v0 v1 v3 t0 t1 H locs ls hF hI hl
  refine lv_ior hx hb dX7_sheepKinds_105 ?_
  refine lv_istore_n (lv' := [(2, .int (t0 ||| t1)), (0, .ref (mA E.b v0)), (1, .int v1), (3, .int v3)]) hx hb dX7_sheepKinds_106 rfl hl (by decide) rfl (fun ls hl => ?_)
  refine lv_iinc (v := v3 + 1) (lv' := [(3, .int (v3 + 1)), (2, .int (t0 ||| t1)), (0, .ref (mA E.b v0)), (1, .int v1)]) hx hb dX7_sheepKinds_107 hl (k := 3) rfl rfl (by decide) rfl (fun ls hl => ?_)
  refine lv_goto (tgt := 4) hx hb dX7_sheepKinds_110 (by decide) ?_
  exact hk4 v0 v1 (t0 ||| t1) (v3 + 1) _ _ _ hF hI (lv_sub hl [2, 3, 1, 0] rfl)
set_option maxRecDepth 100000 in
set_option maxHeartbeats 4000000 in
theorem bl_X7_sheepKinds_92 {p : Program} {l : Launch} {e : Env} {s : State} {m : MethodId} {args : Array Value} {below : List Frame} {meth : Method} {c : Code} {E : mE} {n0 : Nat} {r : Int32} {S : mS} (C : mCx p s m args meth c cX7_sheepKinds 7 RX7 (some .int) E n0) {k4 : Int32 → Int32 → Int32 → Int32 → Option Int32} (hk4 : ∀ (v0 : Int32) (v1 : Int32) (v2 : Int32) (v3 : Int32) (H : Heap) (locs : List Loc) (ls : Array Slot), k4 v0 v1 v2 v3 = some r → mIv s E S H locs 0 → lv_has ls 7 [(0, .ref (mA E.b v0)), (1, .int v1), (2, .int v2), (3, .int v3)] → W p l e rm_X7_sheepKinds s m args below meth c H locs 0 0 (mQi below args s 0 0 n0 E (r, S)) (F0 m 4 ls [])) : ∀  (v0 : Int32) (v1 : Int32) (v2 : Int32) (v3 : Int32) (v4 : Int32) (H : Heap) (locs : List Loc) (ls : Array Slot), f_X7_sheepKinds_92 k4 S v0 v1 v2 v3 v4 = some r → mIv s E S H locs 0 → lv_has ls 7 [(0, .ref (mA E.b v0)), (1, .int v1), (2, .int v2), (3, .int v3), (4, .int v4)] → W p l e rm_X7_sheepKinds s m args below meth c H locs 0 0 (mQi below args s 0 0 n0 E (r, S)) (F0 m 92 ls []) := by
  have hx := C.1
  have hb := C.2.1
  intro v0 v1 v2 v3 v4 H locs ls hF hI hl
  refine lv_iload_n hx hb dX7_sheepKinds_92 rfl (lv_at hl 2 rfl) ?_
  refine lv_iload hx hb dX7_sheepKinds_93 (lv_at hl 4 rfl) ?_
  refine m_if_eq C (tgt := 104) hF dX7_sheepKinds_95 (by decide) (fun hF => ?_) (fun hF => ?_)
  · refine lv_iconst (v := 0) hx hb dX7_sheepKinds_104 (by decide) ?_
    exact (bl_X7_sheepKinds_105 C (k4 := k4) hk4) v0 v1 v3 v2 0 _ _ _ hF hI (lv_sub hl [0, 1, 3] rfl)
  · refine lv_iconst (v := 1) hx hb dX7_sheepKinds_98 (by decide) ?_
    refine lv_iload_n hx hb dX7_sheepKinds_99 rfl (lv_at hl 3 rfl) ?_
    refine lv_ishl hx hb dX7_sheepKinds_100 ?_
    refine lv_goto (tgt := 105) hx hb dX7_sheepKinds_101 (by decide) ?_
    exact (bl_X7_sheepKinds_105 C (k4 := k4) hk4) v0 v1 v3 v2 (1 <<< (v3 &&& 31)) _ _ _ hF hI (lv_sub hl [0, 1, 3] rfl)
set_option maxRecDepth 100000 in
set_option maxHeartbeats 4000000 in
theorem bl_X7_sheepKinds_4 {p : Program} {l : Launch} {e : Env} {s : State} {m : MethodId} {args : Array Value} {below : List Frame} {meth : Method} {c : Code} {E : mE} {n0 : Nat} {r : Int32} {S : mS} (C : mCx p s m args meth c cX7_sheepKinds 7 RX7 (some .int) E n0) {k113 : Int32 → Option Int32} (hk113 : ∀ (v2 : Int32) (H : Heap) (locs : List Loc) (ls : Array Slot), k113 v2 = some r → mIv s E S H locs 0 → lv_has ls 7 [(2, .int v2)] → W p l e rm_X7_sheepKinds s m args below meth c H locs 0 0 (mQi below args s 0 0 n0 E (r, S)) (F0 m 113 ls [])) : ∀ (n : Nat)  (v0 : Int32) (v1 : Int32) (v2 : Int32) (v3 : Int32) (H : Heap) (locs : List Loc) (ls : Array Slot), f_X7_sheepKinds_4 k113 S n v0 v1 v2 v3 = some r → mIv s E S H locs 0 → lv_has ls 7 [(0, .ref (mA E.b v0)), (1, .int v1), (2, .int v2), (3, .int v3)] → W p l e rm_X7_sheepKinds s m args below meth c H locs 0 0 (mQi below args s 0 0 n0 E (r, S)) (F0 m 4 ls []) := by
  have hx := C.1
  have hb := C.2.1
  intro n
  induction n with
  | zero =>
    intro v0 v1 v2 v3 H locs ls hF
    exact nomatch (show (none : Option Int32) = some r from hF)
  | succ n ih =>
    intro v0 v1 v2 v3 H locs ls hF hI hl
    have hF := (f_X7_sheepKinds_4_s k113 S n v0 v1 v2 v3).symm.trans hF
    refine lv_iload_n hx hb dX7_sheepKinds_4 rfl (lv_at hl 3 rfl) ?_
    refine lv_iconst (v := 5) hx hb dX7_sheepKinds_5 (by decide) ?_
    refine m_icmp_gt C (tgt := 113) hF dX7_sheepKinds_6 (by decide) (fun hF => ?_) (fun hF => ?_)
    · exact hk113 v2 _ _ _ hF hI (lv_sub hl [2] rfl)
    · refine lv_iconst (v := 1) hx hb dX7_sheepKinds_9 (by decide) ?_
      refine lv_istore (lv' := [(4, .int 1), (0, .ref (mA E.b v0)), (1, .int v1), (2, .int v2), (3, .int v3)]) hx hb dX7_sheepKinds_10 hl (by decide) rfl (fun ls hl => ?_)
      refine lv_iconst (v := 0) hx hb dX7_sheepKinds_12 (by decide) ?_
      refine lv_istore (lv' := [(5, .int 0), (4, .int 1), (0, .ref (mA E.b v0)), (1, .int v1), (2, .int v2), (3, .int v3)]) hx hb dX7_sheepKinds_13 hl (by decide) rfl (fun ls hl => ?_)
      exact (bl_X7_sheepKinds_15 C (k92 := (f_X7_sheepKinds_92 (f_X7_sheepKinds_4 k113 S n) S)) (bl_X7_sheepKinds_92 C (k4 := (f_X7_sheepKinds_4 k113 S n)) ih) 1000) v0 v1 v2 v3 1 0 _ _ _ hF hI (lv_sub hl [2, 3, 4, 5, 1, 0] rfl)
set_option maxRecDepth 100000 in
set_option maxHeartbeats 4000000 in
theorem bl_X7_sheepKinds_113 {p : Program} {l : Launch} {e : Env} {s : State} {m : MethodId} {args : Array Value} {below : List Frame} {meth : Method} {c : Code} {E : mE} {n0 : Nat} {r : Int32} {S : mS} (C : mCx p s m args meth c cX7_sheepKinds 7 RX7 (some .int) E n0) : ∀  (v2 : Int32) (H : Heap) (locs : List Loc) (ls : Array Slot), f_X7_sheepKinds_113 S v2 = some r → mIv s E S H locs 0 → lv_has ls 7 [(2, .int v2)] → W p l e rm_X7_sheepKinds s m args below meth c H locs 0 0 (mQi below args s 0 0 n0 E (r, S)) (F0 m 113 ls []) := by
  have hx := C.1
  have hb := C.2.1
  intro v2 H locs ls hF hI hl
  refine lv_iload_n hx hb dX7_sheepKinds_113 rfl (lv_at hl 0 rfl) ?_
  exact m_iretiR C hI hF dX7_sheepKinds_114
set_option maxRecDepth 100000 in
set_option maxHeartbeats 4000000 in
theorem ok_X7_sheepKinds {l : Launch} {E : mE} {v0 : Int32} {v1 : Int32} {S : mS} {r : Int32} (hF : f_X7_sheepKinds v0 v1 S = some r) : mMi l yX7_sheepKinds cX7_sheepKinds 7 (some .int) rm_X7_sheepKinds 0 0 [.ref (mA E.b v0), .int v1] E S (r, S) := by
  refine m_met_i (by decide) (Nat.le_of_ble_eq_true rfl) (fun p e s m args below meth c ls hin C hI hl => ?_)
  have hx := C.1
  have hb := C.2.1
  have hl : lv_has ls 7 [(0, .ref (mA E.b v0)), (1, .int v1)] := hl
  generalize s.heap = H at hI ⊢
  generalize ([] : List Loc) = locs at hI ⊢
  refine lv_iconst (v := 0) hx hb dX7_sheepKinds_0 (by decide) ?_
  refine lv_istore_n (lv' := [(2, .int 0), (0, .ref (mA E.b v0)), (1, .int v1)]) hx hb dX7_sheepKinds_1 rfl hl (by decide) rfl (fun ls hl => ?_)
  refine lv_iconst (v := 0) hx hb dX7_sheepKinds_2 (by decide) ?_
  refine lv_istore_n (lv' := [(3, .int 0), (2, .int 0), (0, .ref (mA E.b v0)), (1, .int v1)]) hx hb dX7_sheepKinds_3 rfl hl (by decide) rfl (fun ls hl => ?_)
  exact (bl_X7_sheepKinds_4 C (k113 := (f_X7_sheepKinds_113 S)) (bl_X7_sheepKinds_113 C) 1000) v0 v1 0 0 _ _ _ hF hI (lv_sub hl [2, 3, 1, 0] rfl)
noncomputable def f_X7_is_20 (t0 : Int32) (S : mS) : Option (Int32 × mS) := some (t0, S)
noncomputable def f_X7_is (v0 : Int32) (v1 : Int32) (S : mS) : Option (Int32 × mS) := mRc 7 v0 S (mCp (f_X7_isWhistle v0 v1 S) (fun r1 => if r1 = 0 then (mRc 7 v0 S (mC (f_X7_bad v0 S) (fun r2 S3 => (f_X7_is_20) r2 S3))) else (mRc 7 v0 S (mCp (f_X7_whistleKinds v0 v1 S) (fun r4 => (f_X7_is_20) r4 S)))))
def rm_X7_is : Room := { frames := 2, cells := 0, slots := 0, locals := 48 }
set_option maxRecDepth 100000 in
set_option maxHeartbeats 4000000 in
theorem bl_X7_is_20 {p : Program} {l : Launch} {e : Env} {s : State} {m : MethodId} {args : Array Value} {below : List Frame} {meth : Method} {c : Code} {E : mE} {n0 : Nat} {F : Int32 × mS} (C : mCx p s m args meth c cX7_is 2 RX7 (some .int) E n0) : ∀  (t0 : Int32) (S : mS) (H : Heap) (locs : List Loc) (ls : Array Slot), f_X7_is_20 t0 S = some F → mIv s E S H locs 0 → lv_has ls 2 [] → W p l e rm_X7_is s m args below meth c H locs 0 0 (mQi below args s 0 0 n0 E F) (F0 m 20 ls [.int t0]) := by
  have hx := C.1
  have hb := C.2.1
  intro t0 S H locs ls hF hI hl
  exact m_ireti C hI hF dX7_is_20
set_option maxRecDepth 100000 in
set_option maxHeartbeats 4000000 in
theorem ok_X7_is {l : Launch} {E : mE} {v0 : Int32} {v1 : Int32} {S : mS} {F : Int32 × mS} (hF : f_X7_is v0 v1 S = some F) : mMi l yX7_is cX7_is 2 (some .int) rm_X7_is 0 0 [.ref (mA E.b v0), .int v1] E S F := by
  refine m_met_i (by decide) (Nat.le_of_ble_eq_true rfl) (fun p e s m args below meth c ls hin C hI hl => ?_)
  have hx := C.1
  have hb := C.2.1
  have hl : lv_has ls 2 [(0, .ref (mA E.b v0)), (1, .int v1)] := hl
  generalize s.heap = H at hI ⊢
  generalize ([] : List Loc) = locs at hI ⊢
  refine lv_aload_n hx hb dX7_is_0 rfl (lv_at hl 0 rfl) ?_
  refine lv_iload_n hx hb dX7_is_1 rfl (lv_at hl 1 rfl) ?_
  refine m_callViR C cd_X7_219 ⟨rfl, by decide⟩ hl.1 hI hF (fun _ h => ok_X7_isWhistle h) rfl rfl ⟨rfl, rfl, Nat.le_of_ble_eq_true rfl, Nat.le_of_ble_eq_true rfl⟩ ⟨Nat.le_of_ble_eq_true rfl, Nat.le_of_ble_eq_true rfl⟩ (Nat.le_of_ble_eq_true rfl) dX7_is_2 (fun r1 H locs hF hI => ?_)
  refine m_if_eq C (tgt := 16) hF dX7_is_5 (by decide) (fun hF => ?_) (fun hF => ?_)
  · refine lv_aload_n hx hb dX7_is_16 rfl (lv_at hl 0 rfl) ?_
    refine m_callVi C cd_X7_103 ⟨rfl, by decide⟩ hl.1 hI hF (fun _ h => ok_X7_bad h) rfl rfl ⟨rfl, rfl, Nat.le_of_ble_eq_true rfl, Nat.le_of_ble_eq_true rfl⟩ ⟨Nat.le_of_ble_eq_true rfl, Nat.le_of_ble_eq_true rfl⟩ (Nat.le_of_ble_eq_true rfl) dX7_is_17 (fun r2 S3 H locs hF hI => ?_)
    exact (bl_X7_is_20 C) r2 S3 _ _ _ hF hI (lv_sub hl [] rfl)
  · refine lv_aload_n hx hb dX7_is_8 rfl (lv_at hl 0 rfl) ?_
    refine lv_iload_n hx hb dX7_is_9 rfl (lv_at hl 1 rfl) ?_
    refine m_callViR C cd_X7_258 ⟨rfl, by decide⟩ hl.1 hI hF (fun _ h => ok_X7_whistleKinds h) rfl rfl ⟨rfl, rfl, Nat.le_of_ble_eq_true rfl, Nat.le_of_ble_eq_true rfl⟩ ⟨Nat.le_of_ble_eq_true rfl, Nat.le_of_ble_eq_true rfl⟩ (Nat.le_of_ble_eq_true rfl) dX7_is_10 (fun r4 H locs hF hI => ?_)
    refine lv_goto (tgt := 20) hx hb dX7_is_13 (by decide) ?_
    exact (bl_X7_is_20 C) r4 S _ _ _ hF hI (lv_sub hl [] rfl)
noncomputable def f_X7_kinds_20 (t0 : Int32) (S : mS) : Option (Int32 × mS) := some (t0, S)
noncomputable def f_X7_kinds (v0 : Int32) (v1 : Int32) (S : mS) : Option (Int32 × mS) := mRc 7 v0 S (mCp (f_X7_isSheep v0 v1 S) (fun r1 => if r1 = 0 then (mRc 7 v0 S (mC (f_X7_bad v0 S) (fun r2 S3 => (f_X7_kinds_20) r2 S3))) else (mRc 7 v0 S (mCp (f_X7_sheepKinds v0 v1 S) (fun r4 => (f_X7_kinds_20) r4 S)))))
def rm_X7_kinds : Room := { frames := 3, cells := 0, slots := 0, locals := 71 }
set_option maxRecDepth 100000 in
set_option maxHeartbeats 4000000 in
theorem bl_X7_kinds_20 {p : Program} {l : Launch} {e : Env} {s : State} {m : MethodId} {args : Array Value} {below : List Frame} {meth : Method} {c : Code} {E : mE} {n0 : Nat} {F : Int32 × mS} (C : mCx p s m args meth c cX7_kinds 2 RX7 (some .int) E n0) : ∀  (t0 : Int32) (S : mS) (H : Heap) (locs : List Loc) (ls : Array Slot), f_X7_kinds_20 t0 S = some F → mIv s E S H locs 0 → lv_has ls 2 [] → W p l e rm_X7_kinds s m args below meth c H locs 0 0 (mQi below args s 0 0 n0 E F) (F0 m 20 ls [.int t0]) := by
  have hx := C.1
  have hb := C.2.1
  intro t0 S H locs ls hF hI hl
  exact m_ireti C hI hF dX7_kinds_20
set_option maxRecDepth 100000 in
set_option maxHeartbeats 4000000 in
theorem ok_X7_kinds {l : Launch} {E : mE} {v0 : Int32} {v1 : Int32} {S : mS} {F : Int32 × mS} (hF : f_X7_kinds v0 v1 S = some F) : mMi l yX7_kinds cX7_kinds 2 (some .int) rm_X7_kinds 0 0 [.ref (mA E.b v0), .int v1] E S F := by
  refine m_met_i (by decide) (Nat.le_of_ble_eq_true rfl) (fun p e s m args below meth c ls hin C hI hl => ?_)
  have hx := C.1
  have hb := C.2.1
  have hl : lv_has ls 2 [(0, .ref (mA E.b v0)), (1, .int v1)] := hl
  generalize s.heap = H at hI ⊢
  generalize ([] : List Loc) = locs at hI ⊢
  refine lv_aload_n hx hb dX7_kinds_0 rfl (lv_at hl 0 rfl) ?_
  refine lv_iload_n hx hb dX7_kinds_1 rfl (lv_at hl 1 rfl) ?_
  refine m_callViR C cd_X7_231 ⟨rfl, by decide⟩ hl.1 hI hF (fun _ h => ok_X7_isSheep h) rfl rfl ⟨rfl, rfl, Nat.le_of_ble_eq_true rfl, Nat.le_of_ble_eq_true rfl⟩ ⟨Nat.le_of_ble_eq_true rfl, Nat.le_of_ble_eq_true rfl⟩ (Nat.le_of_ble_eq_true rfl) dX7_kinds_2 (fun r1 H locs hF hI => ?_)
  refine m_if_eq C (tgt := 16) hF dX7_kinds_5 (by decide) (fun hF => ?_) (fun hF => ?_)
  · refine lv_aload_n hx hb dX7_kinds_16 rfl (lv_at hl 0 rfl) ?_
    refine m_callVi C cd_X7_103 ⟨rfl, by decide⟩ hl.1 hI hF (fun _ h => ok_X7_bad h) rfl rfl ⟨rfl, rfl, Nat.le_of_ble_eq_true rfl, Nat.le_of_ble_eq_true rfl⟩ ⟨Nat.le_of_ble_eq_true rfl, Nat.le_of_ble_eq_true rfl⟩ (Nat.le_of_ble_eq_true rfl) dX7_kinds_17 (fun r2 S3 H locs hF hI => ?_)
    exact (bl_X7_kinds_20 C) r2 S3 _ _ _ hF hI (lv_sub hl [] rfl)
  · refine lv_aload_n hx hb dX7_kinds_8 rfl (lv_at hl 0 rfl) ?_
    refine lv_iload_n hx hb dX7_kinds_9 rfl (lv_at hl 1 rfl) ?_
    refine m_callViR C cd_X7_261 ⟨rfl, by decide⟩ hl.1 hI hF (fun _ h => ok_X7_sheepKinds h) rfl rfl ⟨rfl, rfl, Nat.le_of_ble_eq_true rfl, Nat.le_of_ble_eq_true rfl⟩ ⟨Nat.le_of_ble_eq_true rfl, Nat.le_of_ble_eq_true rfl⟩ (Nat.le_of_ble_eq_true rfl) dX7_kinds_10 (fun r4 H locs hF hI => ?_)
    refine lv_goto (tgt := 20) hx hb dX7_kinds_13 (by decide) ?_
    exact (bl_X7_kinds_20 C) r4 S _ _ _ hF hI (lv_sub hl [] rfl)
noncomputable def f_X7_alike_97 (k38 : Int32 → Int32 → Int32 → Int32 → Int32 → Int32 → Int32 → Int32 → Option Int32) (v0 : Int32) (v1 : Int32) (v2 : Int32) (v3 : Int32) (v4 : Int32) (v6 : Int32) (v7 : Int32) (t0 : Int32) (t1 : Int32) : Option Int32 := k38 v0 v1 v2 v3 v4 (t0 + t1) v6 (v7 + 1)
noncomputable def f_X7_alike_96 (k38 : Int32 → Int32 → Int32 → Int32 → Int32 → Int32 → Int32 → Int32 → Option Int32) (v0 : Int32) (v1 : Int32) (v2 : Int32) (v3 : Int32) (v4 : Int32) (v6 : Int32) (v7 : Int32) (t0 : Int32) : Option Int32 := (f_X7_alike_97 k38) v0 v1 v2 v3 v4 v6 v7 t0 0
noncomputable def f_X7_alike_63 (k38 : Int32 → Int32 → Int32 → Int32 → Int32 → Int32 → Int32 → Int32 → Option Int32) (v0 : Int32) (v1 : Int32) (v2 : Int32) (v3 : Int32) (v4 : Int32) (v5 : Int32) (v6 : Int32) (v7 : Int32) (t0 : Int32) : Option Int32 := mCp (f_X7_has v0 v4) (fun r3 => if r3 = 0 then ((f_X7_alike_96 k38) v0 v1 v2 v3 v4 v6 v7 v5) else (mCp (f_X7_has v0 v7) (fun r4 => if r4 = 0 then ((f_X7_alike_96 k38) v0 v1 v2 v3 v4 v6 v7 v5) else (if v6 = t0 then ((f_X7_alike_97 k38) v0 v1 v2 v3 v4 v6 v7 v5 1) else ((f_X7_alike_96 k38) v0 v1 v2 v3 v4 v6 v7 v5)))))
noncomputable def f_X7_alike_38 (k106 : Int32 → Int32 → Int32 → Int32 → Int32 → Int32 → Option Int32) : Nat → Int32 → Int32 → Int32 → Int32 → Int32 → Int32 → Int32 → Int32 → Option Int32 := fun n => Nat.rec (motive := fun _ => Int32 → Int32 → Int32 → Int32 → Int32 → Int32 → Int32 → Int32 → Option Int32) (fun _ _ _ _ _ _ _ _ => none) (fun _ rec v0 v1 v2 v3 v4 v5 v6 v7 => if 5 < v7 then (k106 v0 v1 v2 v3 v4 v5) else (if v1 = 0 then (mCp (f_X7_givesBy v7 v2) (fun r2 => (f_X7_alike_63 rec) v0 v1 v2 v3 v4 v5 v6 v7 r2)) else (mCp (f_X7_goesBy v7 v2) (fun r5 => (f_X7_alike_63 rec) v0 v1 v2 v3 v4 v5 v6 v7 r5)))) n
theorem f_X7_alike_38_s (k106 : Int32 → Int32 → Int32 → Int32 → Int32 → Int32 → Option Int32) (n : Nat) (v0 : Int32) (v1 : Int32) (v2 : Int32) (v3 : Int32) (v4 : Int32) (v5 : Int32) (v6 : Int32) (v7 : Int32) : f_X7_alike_38 k106 (n + 1) v0 v1 v2 v3 v4 v5 v6 v7 = if 5 < v7 then (k106 v0 v1 v2 v3 v4 v5) else (if v1 = 0 then (mCp (f_X7_givesBy v7 v2) (fun r2 => (f_X7_alike_63 (f_X7_alike_38 k106 n)) v0 v1 v2 v3 v4 v5 v6 v7 r2)) else (mCp (f_X7_goesBy v7 v2) (fun r5 => (f_X7_alike_63 (f_X7_alike_38 k106 n)) v0 v1 v2 v3 v4 v5 v6 v7 r5))) := rfl
noncomputable def f_X7_alike_106 (k5 : Int32 → Int32 → Int32 → Int32 → Int32 → Option Int32) (v0 : Int32) (v1 : Int32) (v2 : Int32) (v3 : Int32) (v4 : Int32) (v5 : Int32) : Option Int32 := mCp (f_X7_greater v3 v5) (fun r6 => k5 v0 v1 v2 r6 (v4 + 1))
noncomputable def f_X7_alike_33 (k5 : Int32 → Int32 → Int32 → Int32 → Int32 → Option Int32) (v0 : Int32) (v1 : Int32) (v2 : Int32) (v3 : Int32) (v4 : Int32) (v5 : Int32) (t0 : Int32) : Option Int32 := (f_X7_alike_38 (f_X7_alike_106 k5) 1000) v0 v1 v2 v3 v4 v5 t0 0
noncomputable def f_X7_alike_5 (k119 : Int32 → Option Int32) : Nat → Int32 → Int32 → Int32 → Int32 → Int32 → Option Int32 := fun n => Nat.rec (motive := fun _ => Int32 → Int32 → Int32 → Int32 → Int32 → Option Int32) (fun _ _ _ _ _ => none) (fun _ rec v0 v1 v2 v3 v4 => if 5 < v4 then (k119 v3) else (if v1 = 0 then (mCp (f_X7_givesBy v4 v2) (fun r1 => (f_X7_alike_33 rec) v0 v1 v2 v3 v4 0 r1)) else (mCp (f_X7_goesBy v4 v2) (fun r7 => (f_X7_alike_33 rec) v0 v1 v2 v3 v4 0 r7)))) n
theorem f_X7_alike_5_s (k119 : Int32 → Option Int32) (n : Nat) (v0 : Int32) (v1 : Int32) (v2 : Int32) (v3 : Int32) (v4 : Int32) : f_X7_alike_5 k119 (n + 1) v0 v1 v2 v3 v4 = if 5 < v4 then (k119 v3) else (if v1 = 0 then (mCp (f_X7_givesBy v4 v2) (fun r1 => (f_X7_alike_33 (f_X7_alike_5 k119 n)) v0 v1 v2 v3 v4 0 r1)) else (mCp (f_X7_goesBy v4 v2) (fun r7 => (f_X7_alike_33 (f_X7_alike_5 k119 n)) v0 v1 v2 v3 v4 0 r7))) := rfl
noncomputable def f_X7_alike_119 (v3 : Int32) : Option Int32 := some v3
noncomputable def f_X7_alike (v0 : Int32) (v1 : Int32) (v2 : Int32) : Option Int32 := (f_X7_alike_5 (f_X7_alike_119) 1000) v0 v1 v2 0 0
def rm_X7_alike : Room := { frames := 2, cells := 0, slots := 0, locals := 45 }
set_option maxRecDepth 100000 in
set_option maxHeartbeats 4000000 in
theorem bl_X7_alike_97 {p : Program} {l : Launch} {e : Env} {s : State} {m : MethodId} {args : Array Value} {below : List Frame} {meth : Method} {c : Code} {E : mE} {n0 : Nat} {r : Int32} {S : mS} (C : mCx p s m args meth c cX7_alike 9 RX7 (some .int) E n0) {k38 : Int32 → Int32 → Int32 → Int32 → Int32 → Int32 → Int32 → Int32 → Option Int32} (hk38 : ∀ (v0 : Int32) (v1 : Int32) (v2 : Int32) (v3 : Int32) (v4 : Int32) (v5 : Int32) (v6 : Int32) (v7 : Int32) (H : Heap) (locs : List Loc) (ls : Array Slot), k38 v0 v1 v2 v3 v4 v5 v6 v7 = some r → mIv s E S H locs 0 → lv_has ls 9 [(0, .int v0), (1, .int v1), (2, .int v2), (3, .int v3), (4, .int v4), (5, .int v5), (6, .int v6), (7, .int v7)] → W p l e rm_X7_alike s m args below meth c H locs 0 0 (mQi below args s 0 0 n0 E (r, S)) (F0 m 38 ls [])) : ∀  (v0 : Int32) (v1 : Int32) (v2 : Int32) (v3 : Int32) (v4 : Int32) (v6 : Int32) (v7 : Int32) (t0 : Int32) (t1 : Int32) (H : Heap) (locs : List Loc) (ls : Array Slot), f_X7_alike_97 k38 v0 v1 v2 v3 v4 v6 v7 t0 t1 = some r → mIv s E S H locs 0 → lv_has ls 9 [(0, .int v0), (1, .int v1), (2, .int v2), (3, .int v3), (4, .int v4), (6, .int v6), (7, .int v7)] → W p l e rm_X7_alike s m args below meth c H locs 0 0 (mQi below args s 0 0 n0 E (r, S)) (F0 m 97 ls [.int t1, .int t0]) := by
  have hx := C.1
  have hb := C.2.1
  intro v0 v1 v2 v3 v4 v6 v7 t0 t1 H locs ls hF hI hl
  refine lv_iadd hx hb dX7_alike_97 ?_
  refine lv_istore (lv' := [(5, .int (t0 + t1)), (0, .int v0), (1, .int v1), (2, .int v2), (3, .int v3), (4, .int v4), (6, .int v6), (7, .int v7)]) hx hb dX7_alike_98 hl (by decide) rfl (fun ls hl => ?_)
  refine lv_iinc (v := v7 + 1) (lv' := [(7, .int (v7 + 1)), (5, .int (t0 + t1)), (0, .int v0), (1, .int v1), (2, .int v2), (3, .int v3), (4, .int v4), (6, .int v6)]) hx hb dX7_alike_100 hl (k := 7) rfl rfl (by decide) rfl (fun ls hl => ?_)
  refine lv_goto (tgt := 38) hx hb dX7_alike_103 (by decide) ?_
  exact hk38 v0 v1 v2 v3 v4 (t0 + t1) v6 (v7 + 1) _ _ _ hF hI (lv_sub hl [2, 3, 4, 5, 6, 1, 7, 0] rfl)
set_option maxRecDepth 100000 in
set_option maxHeartbeats 4000000 in
theorem bl_X7_alike_96 {p : Program} {l : Launch} {e : Env} {s : State} {m : MethodId} {args : Array Value} {below : List Frame} {meth : Method} {c : Code} {E : mE} {n0 : Nat} {r : Int32} {S : mS} (C : mCx p s m args meth c cX7_alike 9 RX7 (some .int) E n0) {k38 : Int32 → Int32 → Int32 → Int32 → Int32 → Int32 → Int32 → Int32 → Option Int32} (hk38 : ∀ (v0 : Int32) (v1 : Int32) (v2 : Int32) (v3 : Int32) (v4 : Int32) (v5 : Int32) (v6 : Int32) (v7 : Int32) (H : Heap) (locs : List Loc) (ls : Array Slot), k38 v0 v1 v2 v3 v4 v5 v6 v7 = some r → mIv s E S H locs 0 → lv_has ls 9 [(0, .int v0), (1, .int v1), (2, .int v2), (3, .int v3), (4, .int v4), (5, .int v5), (6, .int v6), (7, .int v7)] → W p l e rm_X7_alike s m args below meth c H locs 0 0 (mQi below args s 0 0 n0 E (r, S)) (F0 m 38 ls [])) : ∀  (v0 : Int32) (v1 : Int32) (v2 : Int32) (v3 : Int32) (v4 : Int32) (v6 : Int32) (v7 : Int32) (t0 : Int32) (H : Heap) (locs : List Loc) (ls : Array Slot), f_X7_alike_96 k38 v0 v1 v2 v3 v4 v6 v7 t0 = some r → mIv s E S H locs 0 → lv_has ls 9 [(0, .int v0), (1, .int v1), (2, .int v2), (3, .int v3), (4, .int v4), (6, .int v6), (7, .int v7)] → W p l e rm_X7_alike s m args below meth c H locs 0 0 (mQi below args s 0 0 n0 E (r, S)) (F0 m 96 ls [.int t0]) := by
  have hx := C.1
  have hb := C.2.1
  intro v0 v1 v2 v3 v4 v6 v7 t0 H locs ls hF hI hl
  refine lv_iconst (v := 0) hx hb dX7_alike_96 (by decide) ?_
  exact (bl_X7_alike_97 C (k38 := k38) hk38) v0 v1 v2 v3 v4 v6 v7 t0 0 _ _ _ hF hI (lv_sub hl [0, 1, 2, 3, 4, 5, 6] rfl)
set_option maxRecDepth 100000 in
set_option maxHeartbeats 4000000 in
theorem bl_X7_alike_63 {p : Program} {l : Launch} {e : Env} {s : State} {m : MethodId} {args : Array Value} {below : List Frame} {meth : Method} {c : Code} {E : mE} {n0 : Nat} {r : Int32} {S : mS} (C : mCx p s m args meth c cX7_alike 9 RX7 (some .int) E n0) {k38 : Int32 → Int32 → Int32 → Int32 → Int32 → Int32 → Int32 → Int32 → Option Int32} (hk38 : ∀ (v0 : Int32) (v1 : Int32) (v2 : Int32) (v3 : Int32) (v4 : Int32) (v5 : Int32) (v6 : Int32) (v7 : Int32) (H : Heap) (locs : List Loc) (ls : Array Slot), k38 v0 v1 v2 v3 v4 v5 v6 v7 = some r → mIv s E S H locs 0 → lv_has ls 9 [(0, .int v0), (1, .int v1), (2, .int v2), (3, .int v3), (4, .int v4), (5, .int v5), (6, .int v6), (7, .int v7)] → W p l e rm_X7_alike s m args below meth c H locs 0 0 (mQi below args s 0 0 n0 E (r, S)) (F0 m 38 ls [])) : ∀  (v0 : Int32) (v1 : Int32) (v2 : Int32) (v3 : Int32) (v4 : Int32) (v5 : Int32) (v6 : Int32) (v7 : Int32) (t0 : Int32) (H : Heap) (locs : List Loc) (ls : Array Slot), f_X7_alike_63 k38 v0 v1 v2 v3 v4 v5 v6 v7 t0 = some r → mIv s E S H locs 0 → lv_has ls 9 [(0, .int v0), (1, .int v1), (2, .int v2), (3, .int v3), (4, .int v4), (5, .int v5), (6, .int v6), (7, .int v7)] → W p l e rm_X7_alike s m args below meth c H locs 0 0 (mQi below args s 0 0 n0 E (r, S)) (F0 m 63 ls [.int t0]) := by
  have hx := C.1
  have hb := C.2.1
  intro v0 v1 v2 v3 v4 v5 v6 v7 t0 H locs ls hF hI hl
  refine lv_istore (lv' := [(8, .int t0), (0, .int v0), (1, .int v1), (2, .int v2), (3, .int v3), (4, .int v4), (5, .int v5), (6, .int v6), (7, .int v7)]) hx hb dX7_alike_63 hl (by decide) rfl (fun ls hl => ?_)
  refine lv_iload hx hb dX7_alike_65 (lv_at hl 6 rfl) ?_
  refine lv_iload_n hx hb dX7_alike_67 rfl (lv_at hl 1 rfl) ?_
  refine lv_iload hx hb dX7_alike_68 (lv_at hl 5 rfl) ?_
  refine m_callSiR C cd_X7_240 hl.1 hI hF (fun _ h => ok_X7_has h) rfl rfl ⟨rfl, rfl, Nat.le_of_ble_eq_true rfl, Nat.le_of_ble_eq_true rfl⟩ ⟨Nat.le_of_ble_eq_true rfl, Nat.le_of_ble_eq_true rfl⟩ (Nat.le_of_ble_eq_true rfl) dX7_alike_70 (fun r3 H locs hF hI => ?_)
  refine m_if_eq C (tgt := 96) hF dX7_alike_73 (by decide) (fun hF => ?_) (fun hF => ?_)
  · exact (bl_X7_alike_96 C (k38 := k38) hk38) v0 v1 v2 v3 v4 v6 v7 v5 _ _ _ hF hI (lv_sub hl [1, 2, 3, 4, 5, 7, 8] rfl)
  · refine lv_iload_n hx hb dX7_alike_76 rfl (lv_at hl 1 rfl) ?_
    refine lv_iload hx hb dX7_alike_77 (lv_at hl 8 rfl) ?_
    refine m_callSiR C cd_X7_240 hl.1 hI hF (fun _ h => ok_X7_has h) rfl rfl ⟨rfl, rfl, Nat.le_of_ble_eq_true rfl, Nat.le_of_ble_eq_true rfl⟩ ⟨Nat.le_of_ble_eq_true rfl, Nat.le_of_ble_eq_true rfl⟩ (Nat.le_of_ble_eq_true rfl) dX7_alike_79 (fun r4 H locs hF hI => ?_)
    refine m_if_eq C (tgt := 96) hF dX7_alike_82 (by decide) (fun hF => ?_) (fun hF => ?_)
    · exact (bl_X7_alike_96 C (k38 := k38) hk38) v0 v1 v2 v3 v4 v6 v7 v5 _ _ _ hF hI (lv_sub hl [1, 2, 3, 4, 5, 7, 8] rfl)
    · refine lv_iload hx hb dX7_alike_85 (lv_at hl 7 rfl) ?_
      refine lv_iload hx hb dX7_alike_87 (lv_at hl 0 rfl) ?_
      refine m_icmp_ne C (tgt := 96) hF dX7_alike_89 (by decide) (fun hF => ?_) (fun hF => ?_)
      · exact (bl_X7_alike_96 C (k38 := k38) hk38) v0 v1 v2 v3 v4 v6 v7 v5 _ _ _ hF hI (lv_sub hl [1, 2, 3, 4, 5, 7, 8] rfl)
      · refine lv_iconst (v := 1) hx hb dX7_alike_92 (by decide) ?_
        refine lv_goto (tgt := 97) hx hb dX7_alike_93 (by decide) ?_
        exact (bl_X7_alike_97 C (k38 := k38) hk38) v0 v1 v2 v3 v4 v6 v7 v5 1 _ _ _ hF hI (lv_sub hl [1, 2, 3, 4, 5, 7, 8] rfl)
set_option maxRecDepth 100000 in
set_option maxHeartbeats 4000000 in
theorem bl_X7_alike_38 {p : Program} {l : Launch} {e : Env} {s : State} {m : MethodId} {args : Array Value} {below : List Frame} {meth : Method} {c : Code} {E : mE} {n0 : Nat} {r : Int32} {S : mS} (C : mCx p s m args meth c cX7_alike 9 RX7 (some .int) E n0) {k106 : Int32 → Int32 → Int32 → Int32 → Int32 → Int32 → Option Int32} (hk106 : ∀ (v0 : Int32) (v1 : Int32) (v2 : Int32) (v3 : Int32) (v4 : Int32) (v5 : Int32) (H : Heap) (locs : List Loc) (ls : Array Slot), k106 v0 v1 v2 v3 v4 v5 = some r → mIv s E S H locs 0 → lv_has ls 9 [(0, .int v0), (1, .int v1), (2, .int v2), (3, .int v3), (4, .int v4), (5, .int v5)] → W p l e rm_X7_alike s m args below meth c H locs 0 0 (mQi below args s 0 0 n0 E (r, S)) (F0 m 106 ls [])) : ∀ (n : Nat)  (v0 : Int32) (v1 : Int32) (v2 : Int32) (v3 : Int32) (v4 : Int32) (v5 : Int32) (v6 : Int32) (v7 : Int32) (H : Heap) (locs : List Loc) (ls : Array Slot), f_X7_alike_38 k106 n v0 v1 v2 v3 v4 v5 v6 v7 = some r → mIv s E S H locs 0 → lv_has ls 9 [(0, .int v0), (1, .int v1), (2, .int v2), (3, .int v3), (4, .int v4), (5, .int v5), (6, .int v6), (7, .int v7)] → W p l e rm_X7_alike s m args below meth c H locs 0 0 (mQi below args s 0 0 n0 E (r, S)) (F0 m 38 ls []) := by
  have hx := C.1
  have hb := C.2.1
  intro n
  induction n with
  | zero =>
    intro v0 v1 v2 v3 v4 v5 v6 v7 H locs ls hF
    exact nomatch (show (none : Option Int32) = some r from hF)
  | succ n ih =>
    intro v0 v1 v2 v3 v4 v5 v6 v7 H locs ls hF hI hl
    have hF := (f_X7_alike_38_s k106 n v0 v1 v2 v3 v4 v5 v6 v7).symm.trans hF
    refine lv_iload hx hb dX7_alike_38 (lv_at hl 7 rfl) ?_
    refine lv_iconst (v := 5) hx hb dX7_alike_40 (by decide) ?_
    refine m_icmp_gt C (tgt := 106) hF dX7_alike_41 (by decide) (fun hF => ?_) (fun hF => ?_)
    · exact hk106 v0 v1 v2 v3 v4 v5 _ _ _ hF hI (lv_sub hl [0, 1, 2, 3, 4, 5] rfl)
    · refine lv_iload_n hx hb dX7_alike_44 rfl (lv_at hl 1 rfl) ?_
      refine m_if_eq C (tgt := 57) hF dX7_alike_45 (by decide) (fun hF => ?_) (fun hF => ?_)
      · refine lv_iload hx hb dX7_alike_57 (lv_at hl 7 rfl) ?_
        refine lv_iload_n hx hb dX7_alike_59 rfl (lv_at hl 2 rfl) ?_
        refine m_callSiR C cd_X7_206 hl.1 hI hF (fun _ h => ok_X7_givesBy h) rfl rfl ⟨rfl, rfl, Nat.le_of_ble_eq_true rfl, Nat.le_of_ble_eq_true rfl⟩ ⟨Nat.le_of_ble_eq_true rfl, Nat.le_of_ble_eq_true rfl⟩ (Nat.le_of_ble_eq_true rfl) dX7_alike_60 (fun r2 H locs hF hI => ?_)
        exact (bl_X7_alike_63 C (k38 := (f_X7_alike_38 k106 n)) ih) v0 v1 v2 v3 v4 v5 v6 v7 r2 _ _ _ hF hI (lv_sub hl [0, 1, 2, 3, 4, 5, 6, 7] rfl)
      · refine lv_iload hx hb dX7_alike_48 (lv_at hl 7 rfl) ?_
        refine lv_iload_n hx hb dX7_alike_50 rfl (lv_at hl 2 rfl) ?_
        refine m_callSiR C cd_X7_196 hl.1 hI hF (fun _ h => ok_X7_goesBy h) rfl rfl ⟨rfl, rfl, Nat.le_of_ble_eq_true rfl, Nat.le_of_ble_eq_true rfl⟩ ⟨Nat.le_of_ble_eq_true rfl, Nat.le_of_ble_eq_true rfl⟩ (Nat.le_of_ble_eq_true rfl) dX7_alike_51 (fun r5 H locs hF hI => ?_)
        refine lv_goto (tgt := 63) hx hb dX7_alike_54 (by decide) ?_
        exact (bl_X7_alike_63 C (k38 := (f_X7_alike_38 k106 n)) ih) v0 v1 v2 v3 v4 v5 v6 v7 r5 _ _ _ hF hI (lv_sub hl [0, 1, 2, 3, 4, 5, 6, 7] rfl)
set_option maxRecDepth 100000 in
set_option maxHeartbeats 4000000 in
theorem bl_X7_alike_106 {p : Program} {l : Launch} {e : Env} {s : State} {m : MethodId} {args : Array Value} {below : List Frame} {meth : Method} {c : Code} {E : mE} {n0 : Nat} {r : Int32} {S : mS} (C : mCx p s m args meth c cX7_alike 9 RX7 (some .int) E n0) {k5 : Int32 → Int32 → Int32 → Int32 → Int32 → Option Int32} (hk5 : ∀ (v0 : Int32) (v1 : Int32) (v2 : Int32) (v3 : Int32) (v4 : Int32) (H : Heap) (locs : List Loc) (ls : Array Slot), k5 v0 v1 v2 v3 v4 = some r → mIv s E S H locs 0 → lv_has ls 9 [(0, .int v0), (1, .int v1), (2, .int v2), (3, .int v3), (4, .int v4)] → W p l e rm_X7_alike s m args below meth c H locs 0 0 (mQi below args s 0 0 n0 E (r, S)) (F0 m 5 ls [])) : ∀  (v0 : Int32) (v1 : Int32) (v2 : Int32) (v3 : Int32) (v4 : Int32) (v5 : Int32) (H : Heap) (locs : List Loc) (ls : Array Slot), f_X7_alike_106 k5 v0 v1 v2 v3 v4 v5 = some r → mIv s E S H locs 0 → lv_has ls 9 [(0, .int v0), (1, .int v1), (2, .int v2), (3, .int v3), (4, .int v4), (5, .int v5)] → W p l e rm_X7_alike s m args below meth c H locs 0 0 (mQi below args s 0 0 n0 E (r, S)) (F0 m 106 ls []) := by
  have hx := C.1
  have hb := C.2.1
  intro v0 v1 v2 v3 v4 v5 H locs ls hF hI hl
  refine lv_iload_n hx hb dX7_alike_106 rfl (lv_at hl 3 rfl) ?_
  refine lv_iload hx hb dX7_alike_107 (lv_at hl 5 rfl) ?_
  refine m_callSiR C cd_X7_190 hl.1 hI hF (fun _ h => ok_X7_greater h) rfl rfl ⟨rfl, rfl, Nat.le_of_ble_eq_true rfl, Nat.le_of_ble_eq_true rfl⟩ ⟨Nat.le_of_ble_eq_true rfl, Nat.le_of_ble_eq_true rfl⟩ (Nat.le_of_ble_eq_true rfl) dX7_alike_109 (fun r6 H locs hF hI => ?_)
  refine lv_istore_n (lv' := [(3, .int r6), (0, .int v0), (1, .int v1), (2, .int v2), (4, .int v4), (5, .int v5)]) hx hb dX7_alike_112 rfl hl (by decide) rfl (fun ls hl => ?_)
  refine lv_iinc (v := v4 + 1) (lv' := [(4, .int (v4 + 1)), (3, .int r6), (0, .int v0), (1, .int v1), (2, .int v2), (5, .int v5)]) hx hb dX7_alike_113 hl (k := 4) rfl rfl (by decide) rfl (fun ls hl => ?_)
  refine lv_goto (tgt := 5) hx hb dX7_alike_116 (by decide) ?_
  exact hk5 v0 v1 v2 r6 (v4 + 1) _ _ _ hF hI (lv_sub hl [2, 3, 4, 1, 0] rfl)
set_option maxRecDepth 100000 in
set_option maxHeartbeats 4000000 in
theorem bl_X7_alike_33 {p : Program} {l : Launch} {e : Env} {s : State} {m : MethodId} {args : Array Value} {below : List Frame} {meth : Method} {c : Code} {E : mE} {n0 : Nat} {r : Int32} {S : mS} (C : mCx p s m args meth c cX7_alike 9 RX7 (some .int) E n0) {k5 : Int32 → Int32 → Int32 → Int32 → Int32 → Option Int32} (hk5 : ∀ (v0 : Int32) (v1 : Int32) (v2 : Int32) (v3 : Int32) (v4 : Int32) (H : Heap) (locs : List Loc) (ls : Array Slot), k5 v0 v1 v2 v3 v4 = some r → mIv s E S H locs 0 → lv_has ls 9 [(0, .int v0), (1, .int v1), (2, .int v2), (3, .int v3), (4, .int v4)] → W p l e rm_X7_alike s m args below meth c H locs 0 0 (mQi below args s 0 0 n0 E (r, S)) (F0 m 5 ls [])) : ∀  (v0 : Int32) (v1 : Int32) (v2 : Int32) (v3 : Int32) (v4 : Int32) (v5 : Int32) (t0 : Int32) (H : Heap) (locs : List Loc) (ls : Array Slot), f_X7_alike_33 k5 v0 v1 v2 v3 v4 v5 t0 = some r → mIv s E S H locs 0 → lv_has ls 9 [(0, .int v0), (1, .int v1), (2, .int v2), (3, .int v3), (4, .int v4), (5, .int v5)] → W p l e rm_X7_alike s m args below meth c H locs 0 0 (mQi below args s 0 0 n0 E (r, S)) (F0 m 33 ls [.int t0]) := by
  have hx := C.1
  have hb := C.2.1
  intro v0 v1 v2 v3 v4 v5 t0 H locs ls hF hI hl
  refine lv_istore (lv' := [(6, .int t0), (0, .int v0), (1, .int v1), (2, .int v2), (3, .int v3), (4, .int v4), (5, .int v5)]) hx hb dX7_alike_33 hl (by decide) rfl (fun ls hl => ?_)
  refine lv_iconst (v := 0) hx hb dX7_alike_35 (by decide) ?_
  refine lv_istore (lv' := [(7, .int 0), (6, .int t0), (0, .int v0), (1, .int v1), (2, .int v2), (3, .int v3), (4, .int v4), (5, .int v5)]) hx hb dX7_alike_36 hl (by decide) rfl (fun ls hl => ?_)
  exact (bl_X7_alike_38 C (k106 := (f_X7_alike_106 k5)) (bl_X7_alike_106 C (k5 := k5) hk5) 1000) v0 v1 v2 v3 v4 v5 t0 0 _ _ _ hF hI (lv_sub hl [2, 3, 4, 5, 6, 7, 1, 0] rfl)
set_option maxRecDepth 100000 in
set_option maxHeartbeats 4000000 in
theorem bl_X7_alike_5 {p : Program} {l : Launch} {e : Env} {s : State} {m : MethodId} {args : Array Value} {below : List Frame} {meth : Method} {c : Code} {E : mE} {n0 : Nat} {r : Int32} {S : mS} (C : mCx p s m args meth c cX7_alike 9 RX7 (some .int) E n0) {k119 : Int32 → Option Int32} (hk119 : ∀ (v3 : Int32) (H : Heap) (locs : List Loc) (ls : Array Slot), k119 v3 = some r → mIv s E S H locs 0 → lv_has ls 9 [(3, .int v3)] → W p l e rm_X7_alike s m args below meth c H locs 0 0 (mQi below args s 0 0 n0 E (r, S)) (F0 m 119 ls [])) : ∀ (n : Nat)  (v0 : Int32) (v1 : Int32) (v2 : Int32) (v3 : Int32) (v4 : Int32) (H : Heap) (locs : List Loc) (ls : Array Slot), f_X7_alike_5 k119 n v0 v1 v2 v3 v4 = some r → mIv s E S H locs 0 → lv_has ls 9 [(0, .int v0), (1, .int v1), (2, .int v2), (3, .int v3), (4, .int v4)] → W p l e rm_X7_alike s m args below meth c H locs 0 0 (mQi below args s 0 0 n0 E (r, S)) (F0 m 5 ls []) := by
  have hx := C.1
  have hb := C.2.1
  intro n
  induction n with
  | zero =>
    intro v0 v1 v2 v3 v4 H locs ls hF
    exact nomatch (show (none : Option Int32) = some r from hF)
  | succ n ih =>
    intro v0 v1 v2 v3 v4 H locs ls hF hI hl
    have hF := (f_X7_alike_5_s k119 n v0 v1 v2 v3 v4).symm.trans hF
    refine lv_iload hx hb dX7_alike_5 (lv_at hl 4 rfl) ?_
    refine lv_iconst (v := 5) hx hb dX7_alike_7 (by decide) ?_
    refine m_icmp_gt C (tgt := 119) hF dX7_alike_8 (by decide) (fun hF => ?_) (fun hF => ?_)
    · exact hk119 v3 _ _ _ hF hI (lv_sub hl [3] rfl)
    · refine lv_iconst (v := 0) hx hb dX7_alike_11 (by decide) ?_
      refine lv_istore (lv' := [(5, .int 0), (0, .int v0), (1, .int v1), (2, .int v2), (3, .int v3), (4, .int v4)]) hx hb dX7_alike_12 hl (by decide) rfl (fun ls hl => ?_)
      refine lv_iload_n hx hb dX7_alike_14 rfl (lv_at hl 2 rfl) ?_
      refine m_if_eq C (tgt := 27) hF dX7_alike_15 (by decide) (fun hF => ?_) (fun hF => ?_)
      · refine lv_iload hx hb dX7_alike_27 (lv_at hl 5 rfl) ?_
        refine lv_iload_n hx hb dX7_alike_29 rfl (lv_at hl 3 rfl) ?_
        refine m_callSiR C cd_X7_206 hl.1 hI hF (fun _ h => ok_X7_givesBy h) rfl rfl ⟨rfl, rfl, Nat.le_of_ble_eq_true rfl, Nat.le_of_ble_eq_true rfl⟩ ⟨Nat.le_of_ble_eq_true rfl, Nat.le_of_ble_eq_true rfl⟩ (Nat.le_of_ble_eq_true rfl) dX7_alike_30 (fun r1 H locs hF hI => ?_)
        exact (bl_X7_alike_33 C (k5 := (f_X7_alike_5 k119 n)) ih) v0 v1 v2 v3 v4 0 r1 _ _ _ hF hI (lv_sub hl [1, 2, 3, 4, 5, 0] rfl)
      · refine lv_iload hx hb dX7_alike_18 (lv_at hl 5 rfl) ?_
        refine lv_iload_n hx hb dX7_alike_20 rfl (lv_at hl 3 rfl) ?_
        refine m_callSiR C cd_X7_196 hl.1 hI hF (fun _ h => ok_X7_goesBy h) rfl rfl ⟨rfl, rfl, Nat.le_of_ble_eq_true rfl, Nat.le_of_ble_eq_true rfl⟩ ⟨Nat.le_of_ble_eq_true rfl, Nat.le_of_ble_eq_true rfl⟩ (Nat.le_of_ble_eq_true rfl) dX7_alike_21 (fun r7 H locs hF hI => ?_)
        refine lv_goto (tgt := 33) hx hb dX7_alike_24 (by decide) ?_
        exact (bl_X7_alike_33 C (k5 := (f_X7_alike_5 k119 n)) ih) v0 v1 v2 v3 v4 0 r7 _ _ _ hF hI (lv_sub hl [1, 2, 3, 4, 5, 0] rfl)
set_option maxRecDepth 100000 in
set_option maxHeartbeats 4000000 in
theorem bl_X7_alike_119 {p : Program} {l : Launch} {e : Env} {s : State} {m : MethodId} {args : Array Value} {below : List Frame} {meth : Method} {c : Code} {E : mE} {n0 : Nat} {r : Int32} {S : mS} (C : mCx p s m args meth c cX7_alike 9 RX7 (some .int) E n0) : ∀  (v3 : Int32) (H : Heap) (locs : List Loc) (ls : Array Slot), f_X7_alike_119 v3 = some r → mIv s E S H locs 0 → lv_has ls 9 [(3, .int v3)] → W p l e rm_X7_alike s m args below meth c H locs 0 0 (mQi below args s 0 0 n0 E (r, S)) (F0 m 119 ls []) := by
  have hx := C.1
  have hb := C.2.1
  intro v3 H locs ls hF hI hl
  refine lv_iload_n hx hb dX7_alike_119 rfl (lv_at hl 0 rfl) ?_
  exact m_iretiR C hI hF dX7_alike_120
set_option maxRecDepth 100000 in
set_option maxHeartbeats 4000000 in
theorem ok_X7_alike {l : Launch} {E : mE} {v0 : Int32} {v1 : Int32} {v2 : Int32} {S : mS} {r : Int32} (hF : f_X7_alike v0 v1 v2 = some r) : mMi l yX7_alike cX7_alike 9 (some .int) rm_X7_alike 0 0 [.int v0, .int v1, .int v2] E S (r, S) := by
  refine m_met_i (by decide) (Nat.le_of_ble_eq_true rfl) (fun p e s m args below meth c ls hin C hI hl => ?_)
  have hx := C.1
  have hb := C.2.1
  have hl : lv_has ls 9 [(0, .int v0), (1, .int v1), (2, .int v2)] := hl
  generalize s.heap = H at hI ⊢
  generalize ([] : List Loc) = locs at hI ⊢
  refine lv_iconst (v := 0) hx hb dX7_alike_0 (by decide) ?_
  refine lv_istore_n (lv' := [(3, .int 0), (0, .int v0), (1, .int v1), (2, .int v2)]) hx hb dX7_alike_1 rfl hl (by decide) rfl (fun ls hl => ?_)
  refine lv_iconst (v := 0) hx hb dX7_alike_2 (by decide) ?_
  refine lv_istore (lv' := [(4, .int 0), (3, .int 0), (0, .int v0), (1, .int v1), (2, .int v2)]) hx hb dX7_alike_3 hl (by decide) rfl (fun ls hl => ?_)
  exact (bl_X7_alike_5 C (k119 := (f_X7_alike_119)) (bl_X7_alike_119 C) 1000) v0 v1 v2 0 0 _ _ _ hF hI (lv_sub hl [2, 3, 4, 1, 0] rfl)
noncomputable def f_X7_parts_41 (k9 : Int32 → Int32 → Int32 → Int32 → Int32 → Int32 → Option Int32) (v0 : Int32) (v1 : Int32) (v2 : Int32) (v4 : Int32) (v5 : Int32) (v6 : Int32) (t0 : Int32) : Option Int32 := mCp (f_X7_lesser v4 v6) (fun r2 => k9 v0 v1 v2 t0 r2 (v5 + 1))
noncomputable def f_X7_parts_9 (k57 : Int32 → Option Int32) : Nat → Int32 → Int32 → Int32 → Int32 → Int32 → Int32 → Option Int32 := fun n => Nat.rec (motive := fun _ => Int32 → Int32 → Int32 → Int32 → Int32 → Int32 → Option Int32) (fun _ _ _ _ _ _ => none) (fun _ rec v0 v1 v2 v3 v4 v5 => if v2 < v5 then (k57 v3) else (if v0 = 0 then (k57 v3) else (mCp (f_X7_alike v0 v1 v5) (fun r1 => if v4 ≤ r1 then ((f_X7_parts_41 rec) v0 v1 v2 v4 v5 r1 v3) else ((f_X7_parts_41 rec) v0 v1 v2 v4 v5 r1 v5))))) n
theorem f_X7_parts_9_s (k57 : Int32 → Option Int32) (n : Nat) (v0 : Int32) (v1 : Int32) (v2 : Int32) (v3 : Int32) (v4 : Int32) (v5 : Int32) : f_X7_parts_9 k57 (n + 1) v0 v1 v2 v3 v4 v5 = if v2 < v5 then (k57 v3) else (if v0 = 0 then (k57 v3) else (mCp (f_X7_alike v0 v1 v5) (fun r1 => if v4 ≤ r1 then ((f_X7_parts_41 (f_X7_parts_9 k57 n)) v0 v1 v2 v4 v5 r1 v3) else ((f_X7_parts_41 (f_X7_parts_9 k57 n)) v0 v1 v2 v4 v5 r1 v5)))) := rfl
noncomputable def f_X7_parts_57 (v3 : Int32) : Option Int32 := some v3
noncomputable def f_X7_parts (v0 : Int32) (v1 : Int32) (v2 : Int32) : Option Int32 := (f_X7_parts_9 (f_X7_parts_57) 1000) v0 v1 v2 (-1) 1048576 0
def rm_X7_parts : Room := { frames := 3, cells := 0, slots := 0, locals := 73 }
set_option maxRecDepth 100000 in
set_option maxHeartbeats 4000000 in
theorem bl_X7_parts_41 {p : Program} {l : Launch} {e : Env} {s : State} {m : MethodId} {args : Array Value} {below : List Frame} {meth : Method} {c : Code} {E : mE} {n0 : Nat} {r : Int32} {S : mS} (C : mCx p s m args meth c cX7_parts 7 RX7 (some .int) E n0) {k9 : Int32 → Int32 → Int32 → Int32 → Int32 → Int32 → Option Int32} (hk9 : ∀ (v0 : Int32) (v1 : Int32) (v2 : Int32) (v3 : Int32) (v4 : Int32) (v5 : Int32) (H : Heap) (locs : List Loc) (ls : Array Slot), k9 v0 v1 v2 v3 v4 v5 = some r → mIv s E S H locs 0 → lv_has ls 7 [(0, .int v0), (1, .int v1), (2, .int v2), (3, .int v3), (4, .int v4), (5, .int v5)] → W p l e rm_X7_parts s m args below meth c H locs 0 0 (mQi below args s 0 0 n0 E (r, S)) (F0 m 9 ls [])) : ∀  (v0 : Int32) (v1 : Int32) (v2 : Int32) (v4 : Int32) (v5 : Int32) (v6 : Int32) (t0 : Int32) (H : Heap) (locs : List Loc) (ls : Array Slot), f_X7_parts_41 k9 v0 v1 v2 v4 v5 v6 t0 = some r → mIv s E S H locs 0 → lv_has ls 7 [(0, .int v0), (1, .int v1), (2, .int v2), (4, .int v4), (5, .int v5), (6, .int v6)] → W p l e rm_X7_parts s m args below meth c H locs 0 0 (mQi below args s 0 0 n0 E (r, S)) (F0 m 41 ls [.int t0]) := by
  have hx := C.1
  have hb := C.2.1
  intro v0 v1 v2 v4 v5 v6 t0 H locs ls hF hI hl
  refine lv_istore_n (lv' := [(3, .int t0), (0, .int v0), (1, .int v1), (2, .int v2), (4, .int v4), (5, .int v5), (6, .int v6)]) hx hb dX7_parts_41 rfl hl (by decide) rfl (fun ls hl => ?_)
  refine lv_iload hx hb dX7_parts_42 (lv_at hl 4 rfl) ?_
  refine lv_iload hx hb dX7_parts_44 (lv_at hl 6 rfl) ?_
  refine m_callSiR C cd_X7_158 hl.1 hI hF (fun _ h => ok_X7_lesser h) rfl rfl ⟨rfl, rfl, Nat.le_of_ble_eq_true rfl, Nat.le_of_ble_eq_true rfl⟩ ⟨Nat.le_of_ble_eq_true rfl, Nat.le_of_ble_eq_true rfl⟩ (Nat.le_of_ble_eq_true rfl) dX7_parts_46 (fun r2 H locs hF hI => ?_)
  refine lv_istore (lv' := [(4, .int r2), (3, .int t0), (0, .int v0), (1, .int v1), (2, .int v2), (5, .int v5), (6, .int v6)]) hx hb dX7_parts_49 hl (by decide) rfl (fun ls hl => ?_)
  refine lv_iinc (v := v5 + 1) (lv' := [(5, .int (v5 + 1)), (4, .int r2), (3, .int t0), (0, .int v0), (1, .int v1), (2, .int v2), (6, .int v6)]) hx hb dX7_parts_51 hl (k := 5) rfl rfl (by decide) rfl (fun ls hl => ?_)
  refine lv_goto (tgt := 9) hx hb dX7_parts_54 (by decide) ?_
  exact hk9 v0 v1 v2 t0 r2 (v5 + 1) _ _ _ hF hI (lv_sub hl [3, 4, 5, 2, 1, 0] rfl)
set_option maxRecDepth 100000 in
set_option maxHeartbeats 4000000 in
theorem bl_X7_parts_9 {p : Program} {l : Launch} {e : Env} {s : State} {m : MethodId} {args : Array Value} {below : List Frame} {meth : Method} {c : Code} {E : mE} {n0 : Nat} {r : Int32} {S : mS} (C : mCx p s m args meth c cX7_parts 7 RX7 (some .int) E n0) {k57 : Int32 → Option Int32} (hk57 : ∀ (v3 : Int32) (H : Heap) (locs : List Loc) (ls : Array Slot), k57 v3 = some r → mIv s E S H locs 0 → lv_has ls 7 [(3, .int v3)] → W p l e rm_X7_parts s m args below meth c H locs 0 0 (mQi below args s 0 0 n0 E (r, S)) (F0 m 57 ls [])) : ∀ (n : Nat)  (v0 : Int32) (v1 : Int32) (v2 : Int32) (v3 : Int32) (v4 : Int32) (v5 : Int32) (H : Heap) (locs : List Loc) (ls : Array Slot), f_X7_parts_9 k57 n v0 v1 v2 v3 v4 v5 = some r → mIv s E S H locs 0 → lv_has ls 7 [(0, .int v0), (1, .int v1), (2, .int v2), (3, .int v3), (4, .int v4), (5, .int v5)] → W p l e rm_X7_parts s m args below meth c H locs 0 0 (mQi below args s 0 0 n0 E (r, S)) (F0 m 9 ls []) := by
  have hx := C.1
  have hb := C.2.1
  intro n
  induction n with
  | zero =>
    intro v0 v1 v2 v3 v4 v5 H locs ls hF
    exact nomatch (show (none : Option Int32) = some r from hF)
  | succ n ih =>
    intro v0 v1 v2 v3 v4 v5 H locs ls hF hI hl
    have hF := (f_X7_parts_9_s k57 n v0 v1 v2 v3 v4 v5).symm.trans hF
    refine lv_iload hx hb dX7_parts_9 (lv_at hl 5 rfl) ?_
    refine lv_iload_n hx hb dX7_parts_11 rfl (lv_at hl 2 rfl) ?_
    refine m_icmp_gt C (tgt := 57) hF dX7_parts_12 (by decide) (fun hF => ?_) (fun hF => ?_)
    · exact hk57 v3 _ _ _ hF hI (lv_sub hl [3] rfl)
    · refine lv_iload_n hx hb dX7_parts_15 rfl (lv_at hl 0 rfl) ?_
      refine m_if_eq C (tgt := 57) hF dX7_parts_16 (by decide) (fun hF => ?_) (fun hF => ?_)
      · exact hk57 v3 _ _ _ hF hI (lv_sub hl [3] rfl)
      · refine lv_iload_n hx hb dX7_parts_19 rfl (lv_at hl 0 rfl) ?_
        refine lv_iload_n hx hb dX7_parts_20 rfl (lv_at hl 1 rfl) ?_
        refine lv_iload hx hb dX7_parts_21 (lv_at hl 5 rfl) ?_
        refine m_callSiR C cd_X7_264 hl.1 hI hF (fun _ h => ok_X7_alike h) rfl rfl ⟨rfl, rfl, Nat.le_of_ble_eq_true rfl, Nat.le_of_ble_eq_true rfl⟩ ⟨Nat.le_of_ble_eq_true rfl, Nat.le_of_ble_eq_true rfl⟩ (Nat.le_of_ble_eq_true rfl) dX7_parts_23 (fun r1 H locs hF hI => ?_)
        refine lv_istore (lv' := [(6, .int r1), (0, .int v0), (1, .int v1), (2, .int v2), (3, .int v3), (4, .int v4), (5, .int v5)]) hx hb dX7_parts_26 hl (by decide) rfl (fun ls hl => ?_)
        refine lv_iload hx hb dX7_parts_28 (lv_at hl 0 rfl) ?_
        refine lv_iload hx hb dX7_parts_30 (lv_at hl 5 rfl) ?_
        refine m_icmp_ge C (tgt := 40) hF dX7_parts_32 (by decide) (fun hF => ?_) (fun hF => ?_)
        · refine lv_iload_n hx hb dX7_parts_40 rfl (lv_at hl 4 rfl) ?_
          exact (bl_X7_parts_41 C (k9 := (f_X7_parts_9 k57 n)) ih) v0 v1 v2 v4 v5 r1 v3 _ _ _ hF hI (lv_sub hl [1, 2, 3, 5, 6, 0] rfl)
        · refine lv_iload hx hb dX7_parts_35 (lv_at hl 6 rfl) ?_
          refine lv_goto (tgt := 41) hx hb dX7_parts_37 (by decide) ?_
          exact (bl_X7_parts_41 C (k9 := (f_X7_parts_9 k57 n)) ih) v0 v1 v2 v4 v5 r1 v5 _ _ _ hF hI (lv_sub hl [1, 2, 3, 5, 6, 0] rfl)
set_option maxRecDepth 100000 in
set_option maxHeartbeats 4000000 in
theorem bl_X7_parts_57 {p : Program} {l : Launch} {e : Env} {s : State} {m : MethodId} {args : Array Value} {below : List Frame} {meth : Method} {c : Code} {E : mE} {n0 : Nat} {r : Int32} {S : mS} (C : mCx p s m args meth c cX7_parts 7 RX7 (some .int) E n0) : ∀  (v3 : Int32) (H : Heap) (locs : List Loc) (ls : Array Slot), f_X7_parts_57 v3 = some r → mIv s E S H locs 0 → lv_has ls 7 [(3, .int v3)] → W p l e rm_X7_parts s m args below meth c H locs 0 0 (mQi below args s 0 0 n0 E (r, S)) (F0 m 57 ls []) := by
  have hx := C.1
  have hb := C.2.1
  intro v3 H locs ls hF hI hl
  refine lv_iload_n hx hb dX7_parts_57 rfl (lv_at hl 0 rfl) ?_
  exact m_iretiR C hI hF dX7_parts_58
set_option maxRecDepth 100000 in
set_option maxHeartbeats 4000000 in
theorem ok_X7_parts {l : Launch} {E : mE} {v0 : Int32} {v1 : Int32} {v2 : Int32} {S : mS} {r : Int32} (hF : f_X7_parts v0 v1 v2 = some r) : mMi l yX7_parts cX7_parts 7 (some .int) rm_X7_parts 0 0 [.int v0, .int v1, .int v2] E S (r, S) := by
  refine m_met_i (by decide) (Nat.le_of_ble_eq_true rfl) (fun p e s m args below meth c ls hin C hI hl => ?_)
  have hx := C.1
  have hb := C.2.1
  have hl : lv_has ls 7 [(0, .int v0), (1, .int v1), (2, .int v2)] := hl
  generalize s.heap = H at hI ⊢
  generalize ([] : List Loc) = locs at hI ⊢
  refine lv_iconst (v := (-1)) hx hb dX7_parts_0 (by decide) ?_
  refine lv_istore_n (lv' := [(3, .int (-1)), (0, .int v0), (1, .int v1), (2, .int v2)]) hx hb dX7_parts_1 rfl hl (by decide) rfl (fun ls hl => ?_)
  refine lv_ldc (v := 1048576) hx hb C.2.2.2.1 (C.2.2.2.2.1 _ kw_X7_251) dX7_parts_2 ?_
  refine lv_istore (lv' := [(4, .int 1048576), (3, .int (-1)), (0, .int v0), (1, .int v1), (2, .int v2)]) hx hb dX7_parts_4 hl (by decide) rfl (fun ls hl => ?_)
  refine lv_iconst (v := 0) hx hb dX7_parts_6 (by decide) ?_
  refine lv_istore (lv' := [(5, .int 0), (4, .int 1048576), (3, .int (-1)), (0, .int v0), (1, .int v1), (2, .int v2)]) hx hb dX7_parts_7 hl (by decide) rfl (fun ls hl => ?_)
  exact (bl_X7_parts_9 C (k57 := (f_X7_parts_57)) (bl_X7_parts_57 C) 1000) v0 v1 v2 (-1) 1048576 0 _ _ _ hF hI (lv_sub hl [3, 4, 5, 2, 1, 0] rfl)
noncomputable def f_X7_look_26 (t0 : Int32) (S : mS) : Option (Int32 × mS) := some (t0, S)
noncomputable def f_X7_look (v0 : Int32) (v1 : Int32) (S : mS) : Option (Int32 × mS) := mRc 7 v0 S (mCp (f_X7_isWhistle v0 v1 S) (fun r1 => if r1 = 0 then (mRc 7 v0 S (mC (f_X7_bad v0 S) (fun r2 S3 => (f_X7_look_26) r2 S3))) else (mRc 7 v0 S (mCp (f_X7_whistleKinds v0 v1 S) (fun r4 => mCp (f_X7_parts r4 1 29) (fun r5 => (f_X7_look_26) r5 S))))))
def rm_X7_look : Room := { frames := 4, cells := 0, slots := 0, locals := 99 }
set_option maxRecDepth 100000 in
set_option maxHeartbeats 4000000 in
theorem bl_X7_look_26 {p : Program} {l : Launch} {e : Env} {s : State} {m : MethodId} {args : Array Value} {below : List Frame} {meth : Method} {c : Code} {E : mE} {n0 : Nat} {F : Int32 × mS} (C : mCx p s m args meth c cX7_look 2 RX7 (some .int) E n0) : ∀  (t0 : Int32) (S : mS) (H : Heap) (locs : List Loc) (ls : Array Slot), f_X7_look_26 t0 S = some F → mIv s E S H locs 0 → lv_has ls 2 [] → W p l e rm_X7_look s m args below meth c H locs 0 0 (mQi below args s 0 0 n0 E F) (F0 m 26 ls [.int t0]) := by
  have hx := C.1
  have hb := C.2.1
  intro t0 S H locs ls hF hI hl
  exact m_ireti C hI hF dX7_look_26
set_option maxRecDepth 100000 in
set_option maxHeartbeats 4000000 in
theorem ok_X7_look {l : Launch} {E : mE} {v0 : Int32} {v1 : Int32} {S : mS} {F : Int32 × mS} (hF : f_X7_look v0 v1 S = some F) : mMi l yX7_look cX7_look 2 (some .int) rm_X7_look 0 0 [.ref (mA E.b v0), .int v1] E S F := by
  refine m_met_i (by decide) (Nat.le_of_ble_eq_true rfl) (fun p e s m args below meth c ls hin C hI hl => ?_)
  have hx := C.1
  have hb := C.2.1
  have hl : lv_has ls 2 [(0, .ref (mA E.b v0)), (1, .int v1)] := hl
  generalize s.heap = H at hI ⊢
  generalize ([] : List Loc) = locs at hI ⊢
  refine lv_aload_n hx hb dX7_look_0 rfl (lv_at hl 0 rfl) ?_
  refine lv_iload_n hx hb dX7_look_1 rfl (lv_at hl 1 rfl) ?_
  refine m_callViR C cd_X7_219 ⟨rfl, by decide⟩ hl.1 hI hF (fun _ h => ok_X7_isWhistle h) rfl rfl ⟨rfl, rfl, Nat.le_of_ble_eq_true rfl, Nat.le_of_ble_eq_true rfl⟩ ⟨Nat.le_of_ble_eq_true rfl, Nat.le_of_ble_eq_true rfl⟩ (Nat.le_of_ble_eq_true rfl) dX7_look_2 (fun r1 H locs hF hI => ?_)
  refine m_if_eq C (tgt := 22) hF dX7_look_5 (by decide) (fun hF => ?_) (fun hF => ?_)
  · refine lv_aload_n hx hb dX7_look_22 rfl (lv_at hl 0 rfl) ?_
    refine m_callVi C cd_X7_103 ⟨rfl, by decide⟩ hl.1 hI hF (fun _ h => ok_X7_bad h) rfl rfl ⟨rfl, rfl, Nat.le_of_ble_eq_true rfl, Nat.le_of_ble_eq_true rfl⟩ ⟨Nat.le_of_ble_eq_true rfl, Nat.le_of_ble_eq_true rfl⟩ (Nat.le_of_ble_eq_true rfl) dX7_look_23 (fun r2 S3 H locs hF hI => ?_)
    exact (bl_X7_look_26 C) r2 S3 _ _ _ hF hI (lv_sub hl [] rfl)
  · refine lv_aload_n hx hb dX7_look_8 rfl (lv_at hl 0 rfl) ?_
    refine lv_iload_n hx hb dX7_look_9 rfl (lv_at hl 1 rfl) ?_
    refine m_callViR C cd_X7_258 ⟨rfl, by decide⟩ hl.1 hI hF (fun _ h => ok_X7_whistleKinds h) rfl rfl ⟨rfl, rfl, Nat.le_of_ble_eq_true rfl, Nat.le_of_ble_eq_true rfl⟩ ⟨Nat.le_of_ble_eq_true rfl, Nat.le_of_ble_eq_true rfl⟩ (Nat.le_of_ble_eq_true rfl) dX7_look_10 (fun r4 H locs hF hI => ?_)
    refine lv_iconst (v := 1) hx hb dX7_look_13 (by decide) ?_
    refine lv_bipush (v := 29) hx hb dX7_look_14 (by decide) ?_
    refine m_callSiR C cd_X7_268 hl.1 hI hF (fun _ h => ok_X7_parts h) rfl rfl ⟨rfl, rfl, Nat.le_of_ble_eq_true rfl, Nat.le_of_ble_eq_true rfl⟩ ⟨Nat.le_of_ble_eq_true rfl, Nat.le_of_ble_eq_true rfl⟩ (Nat.le_of_ble_eq_true rfl) dX7_look_16 (fun r5 H locs hF hI => ?_)
    refine lv_goto (tgt := 26) hx hb dX7_look_19 (by decide) ?_
    exact (bl_X7_look_26 C) r5 S _ _ _ hF hI (lv_sub hl [] rfl)
noncomputable def f_X7_ask_26 (t0 : Int32) (S : mS) : Option (Int32 × mS) := some (t0, S)
noncomputable def f_X7_ask (v0 : Int32) (v1 : Int32) (S : mS) : Option (Int32 × mS) := mRc 7 v0 S (mCp (f_X7_isSheep v0 v1 S) (fun r1 => if r1 = 0 then (mRc 7 v0 S (mC (f_X7_bad v0 S) (fun r2 S3 => (f_X7_ask_26) r2 S3))) else (mRc 7 v0 S (mCp (f_X7_sheepKinds v0 v1 S) (fun r4 => mCp (f_X7_parts r4 0 8) (fun r5 => (f_X7_ask_26) r5 S))))))
def rm_X7_ask : Room := { frames := 4, cells := 0, slots := 0, locals := 99 }
set_option maxRecDepth 100000 in
set_option maxHeartbeats 4000000 in
theorem bl_X7_ask_26 {p : Program} {l : Launch} {e : Env} {s : State} {m : MethodId} {args : Array Value} {below : List Frame} {meth : Method} {c : Code} {E : mE} {n0 : Nat} {F : Int32 × mS} (C : mCx p s m args meth c cX7_ask 2 RX7 (some .int) E n0) : ∀  (t0 : Int32) (S : mS) (H : Heap) (locs : List Loc) (ls : Array Slot), f_X7_ask_26 t0 S = some F → mIv s E S H locs 0 → lv_has ls 2 [] → W p l e rm_X7_ask s m args below meth c H locs 0 0 (mQi below args s 0 0 n0 E F) (F0 m 26 ls [.int t0]) := by
  have hx := C.1
  have hb := C.2.1
  intro t0 S H locs ls hF hI hl
  exact m_ireti C hI hF dX7_ask_26
set_option maxRecDepth 100000 in
set_option maxHeartbeats 4000000 in
theorem ok_X7_ask {l : Launch} {E : mE} {v0 : Int32} {v1 : Int32} {S : mS} {F : Int32 × mS} (hF : f_X7_ask v0 v1 S = some F) : mMi l yX7_ask cX7_ask 2 (some .int) rm_X7_ask 0 0 [.ref (mA E.b v0), .int v1] E S F := by
  refine m_met_i (by decide) (Nat.le_of_ble_eq_true rfl) (fun p e s m args below meth c ls hin C hI hl => ?_)
  have hx := C.1
  have hb := C.2.1
  have hl : lv_has ls 2 [(0, .ref (mA E.b v0)), (1, .int v1)] := hl
  generalize s.heap = H at hI ⊢
  generalize ([] : List Loc) = locs at hI ⊢
  refine lv_aload_n hx hb dX7_ask_0 rfl (lv_at hl 0 rfl) ?_
  refine lv_iload_n hx hb dX7_ask_1 rfl (lv_at hl 1 rfl) ?_
  refine m_callViR C cd_X7_231 ⟨rfl, by decide⟩ hl.1 hI hF (fun _ h => ok_X7_isSheep h) rfl rfl ⟨rfl, rfl, Nat.le_of_ble_eq_true rfl, Nat.le_of_ble_eq_true rfl⟩ ⟨Nat.le_of_ble_eq_true rfl, Nat.le_of_ble_eq_true rfl⟩ (Nat.le_of_ble_eq_true rfl) dX7_ask_2 (fun r1 H locs hF hI => ?_)
  refine m_if_eq C (tgt := 22) hF dX7_ask_5 (by decide) (fun hF => ?_) (fun hF => ?_)
  · refine lv_aload_n hx hb dX7_ask_22 rfl (lv_at hl 0 rfl) ?_
    refine m_callVi C cd_X7_103 ⟨rfl, by decide⟩ hl.1 hI hF (fun _ h => ok_X7_bad h) rfl rfl ⟨rfl, rfl, Nat.le_of_ble_eq_true rfl, Nat.le_of_ble_eq_true rfl⟩ ⟨Nat.le_of_ble_eq_true rfl, Nat.le_of_ble_eq_true rfl⟩ (Nat.le_of_ble_eq_true rfl) dX7_ask_23 (fun r2 S3 H locs hF hI => ?_)
    exact (bl_X7_ask_26 C) r2 S3 _ _ _ hF hI (lv_sub hl [] rfl)
  · refine lv_aload_n hx hb dX7_ask_8 rfl (lv_at hl 0 rfl) ?_
    refine lv_iload_n hx hb dX7_ask_9 rfl (lv_at hl 1 rfl) ?_
    refine m_callViR C cd_X7_261 ⟨rfl, by decide⟩ hl.1 hI hF (fun _ h => ok_X7_sheepKinds h) rfl rfl ⟨rfl, rfl, Nat.le_of_ble_eq_true rfl, Nat.le_of_ble_eq_true rfl⟩ ⟨Nat.le_of_ble_eq_true rfl, Nat.le_of_ble_eq_true rfl⟩ (Nat.le_of_ble_eq_true rfl) dX7_ask_10 (fun r4 H locs hF hI => ?_)
    refine lv_iconst (v := 0) hx hb dX7_ask_13 (by decide) ?_
    refine lv_bipush (v := 8) hx hb dX7_ask_14 (by decide) ?_
    refine m_callSiR C cd_X7_268 hl.1 hI hF (fun _ h => ok_X7_parts h) rfl rfl ⟨rfl, rfl, Nat.le_of_ble_eq_true rfl, Nat.le_of_ble_eq_true rfl⟩ ⟨Nat.le_of_ble_eq_true rfl, Nat.le_of_ble_eq_true rfl⟩ (Nat.le_of_ble_eq_true rfl) dX7_ask_16 (fun r5 H locs hF hI => ?_)
    refine lv_goto (tgt := 26) hx hb dX7_ask_19 (by decide) ?_
    exact (bl_X7_ask_26 C) r5 S _ _ _ hF hI (lv_sub hl [] rfl)
noncomputable def f_X7_foldedBy (v0 : Int32) (v1 : Int32) (v2 : Int32) (v3 : Int32) (v4 : Int32) (S : mS) : Option (Int32 × mS) := mGr 7 22 v0 S (fun r1 => mRc 7 v0 S (mCv (f_X7_lays v0 r1 11 S) (fun S3 => mRc 7 v0 S3 (mC (f_X7_comes v0 v1 v3 S3) (fun r4 S5 => mRc 7 v0 S5 (mC (f_X7_comes v0 v2 v4 S5) (fun r6 S7 => mRc 7 v0 S7 (mCp (f_X7_foldedMany v0 S7) (fun r8 => mGr 7 22 v0 S7 (fun r9 => mRc 7 v0 S7 (mCv (f_X7_takes v0 r9 11 S7) (fun S11 => some (r8, S11)))))))))))))
def rm_X7_foldedBy : Room := { frames := 4, cells := 0, slots := 0, locals := 98 }
set_option maxRecDepth 100000 in
set_option maxHeartbeats 4000000 in
theorem ok_X7_foldedBy {l : Launch} {E : mE} {v0 : Int32} {v1 : Int32} {v2 : Int32} {v3 : Int32} {v4 : Int32} {S : mS} {F : Int32 × mS} (hF : f_X7_foldedBy v0 v1 v2 v3 v4 S = some F) : mMi l yX7_foldedBy cX7_foldedBy 6 (some .int) rm_X7_foldedBy 0 0 [.ref (mA E.b v0), .int v1, .int v2, .int v3, .int v4] E S F := by
  refine m_met_i (by decide) (Nat.le_of_ble_eq_true rfl) (fun p e s m args below meth c ls hin C hI hl => ?_)
  have hx := C.1
  have hb := C.2.1
  have hl : lv_has ls 6 [(0, .ref (mA E.b v0)), (1, .int v1), (2, .int v2), (3, .int v3), (4, .int v4)] := hl
  generalize s.heap = H at hI ⊢
  generalize ([] : List Loc) = locs at hI ⊢
  refine lv_aload_n hx hb dX7_foldedBy_0 rfl (lv_at hl 0 rfl) ?_
  refine lv_aload_n hx hb dX7_foldedBy_1 rfl (lv_at hl 0 rfl) ?_
  refine m_getR C fd_X7_47 hI hF dX7_foldedBy_2 (fun r1 hF => ?_)
  refine lv_bipush (v := 11) hx hb dX7_foldedBy_5 (by decide) ?_
  refine m_callVv C cd_X7_216 ⟨rfl, by decide⟩ hl.1 hI hF (fun _ h => ok_X7_lays h) rfl rfl ⟨rfl, rfl, Nat.le_of_ble_eq_true rfl, Nat.le_of_ble_eq_true rfl⟩ ⟨Nat.le_of_ble_eq_true rfl, Nat.le_of_ble_eq_true rfl⟩ (Nat.le_of_ble_eq_true rfl) dX7_foldedBy_7 (fun S3 H locs hF hI => ?_)
  refine lv_aload_n hx hb dX7_foldedBy_10 rfl (lv_at hl 0 rfl) ?_
  refine lv_iload_n hx hb dX7_foldedBy_11 rfl (lv_at hl 1 rfl) ?_
  refine lv_iload_n hx hb dX7_foldedBy_12 rfl (lv_at hl 3 rfl) ?_
  refine m_callVi C cd_X7_155 ⟨rfl, by decide⟩ hl.1 hI hF (fun _ h => ok_X7_comes h) rfl rfl ⟨rfl, rfl, Nat.le_of_ble_eq_true rfl, Nat.le_of_ble_eq_true rfl⟩ ⟨Nat.le_of_ble_eq_true rfl, Nat.le_of_ble_eq_true rfl⟩ (Nat.le_of_ble_eq_true rfl) dX7_foldedBy_13 (fun r4 S5 H locs hF hI => ?_)
  refine lv_pop hx hb dX7_foldedBy_16 rfl ?_
  refine lv_aload_n hx hb dX7_foldedBy_17 rfl (lv_at hl 0 rfl) ?_
  refine lv_iload_n hx hb dX7_foldedBy_18 rfl (lv_at hl 2 rfl) ?_
  refine lv_iload hx hb dX7_foldedBy_19 (lv_at hl 4 rfl) ?_
  refine m_callVi C cd_X7_155 ⟨rfl, by decide⟩ hl.1 hI hF (fun _ h => ok_X7_comes h) rfl rfl ⟨rfl, rfl, Nat.le_of_ble_eq_true rfl, Nat.le_of_ble_eq_true rfl⟩ ⟨Nat.le_of_ble_eq_true rfl, Nat.le_of_ble_eq_true rfl⟩ (Nat.le_of_ble_eq_true rfl) dX7_foldedBy_21 (fun r6 S7 H locs hF hI => ?_)
  refine lv_pop hx hb dX7_foldedBy_24 rfl ?_
  refine lv_aload_n hx hb dX7_foldedBy_25 rfl (lv_at hl 0 rfl) ?_
  refine m_callViR C cd_X7_252 ⟨rfl, by decide⟩ hl.1 hI hF (fun _ h => ok_X7_foldedMany h) rfl rfl ⟨rfl, rfl, Nat.le_of_ble_eq_true rfl, Nat.le_of_ble_eq_true rfl⟩ ⟨Nat.le_of_ble_eq_true rfl, Nat.le_of_ble_eq_true rfl⟩ (Nat.le_of_ble_eq_true rfl) dX7_foldedBy_26 (fun r8 H locs hF hI => ?_)
  refine lv_istore (lv' := [(5, .int r8), (0, .ref (mA E.b v0)), (1, .int v1), (2, .int v2), (3, .int v3), (4, .int v4)]) hx hb dX7_foldedBy_29 hl (by decide) rfl (fun ls hl => ?_)
  refine lv_aload_n hx hb dX7_foldedBy_31 rfl (lv_at hl 1 rfl) ?_
  refine lv_aload_n hx hb dX7_foldedBy_32 rfl (lv_at hl 1 rfl) ?_
  refine m_getR C fd_X7_47 hI hF dX7_foldedBy_33 (fun r9 hF => ?_)
  refine lv_bipush (v := 11) hx hb dX7_foldedBy_36 (by decide) ?_
  refine m_callVv C cd_X7_228 ⟨rfl, by decide⟩ hl.1 hI hF (fun _ h => ok_X7_takes h) rfl rfl ⟨rfl, rfl, Nat.le_of_ble_eq_true rfl, Nat.le_of_ble_eq_true rfl⟩ ⟨Nat.le_of_ble_eq_true rfl, Nat.le_of_ble_eq_true rfl⟩ (Nat.le_of_ble_eq_true rfl) dX7_foldedBy_38 (fun S11 H locs hF hI => ?_)
  refine lv_iload hx hb dX7_foldedBy_41 (lv_at hl 0 rfl) ?_
  exact m_ireti C hI hF dX7_foldedBy_43
noncomputable def f_X7_firstGets_20 (S : mS) (t0 : Int32) (t1 : Int32) : Option Int32 := some (t0 - t1)
noncomputable def f_X7_firstGets (v0 : Int32) (v1 : Int32) (v2 : Int32) (S : mS) : Option Int32 := mGr 7 24 v0 S (fun r1 => mX 8 r1 ((5 * v1) + v2) S (fun r2 => if v1 = 4 then ((f_X7_firstGets_20 S) r2 0) else ((f_X7_firstGets_20 S) r2 1)))
def rm_X7_firstGets : Room := { frames := 0, cells := 0, slots := 0, locals := 0 }
set_option maxRecDepth 100000 in
set_option maxHeartbeats 4000000 in
theorem bl_X7_firstGets_20 {p : Program} {l : Launch} {e : Env} {s : State} {m : MethodId} {args : Array Value} {below : List Frame} {meth : Method} {c : Code} {E : mE} {n0 : Nat} {r : Int32} {S : mS} (C : mCx p s m args meth c cX7_firstGets 3 RX7 (some .int) E n0) : ∀  (t0 : Int32) (t1 : Int32) (H : Heap) (locs : List Loc) (ls : Array Slot), f_X7_firstGets_20 S t0 t1 = some r → mIv s E S H locs 0 → lv_has ls 3 [] → W p l e rm_X7_firstGets s m args below meth c H locs 0 0 (mQi below args s 0 0 n0 E (r, S)) (F0 m 20 ls [.int t1, .int t0]) := by
  have hx := C.1
  have hb := C.2.1
  intro t0 t1 H locs ls hF hI hl
  refine lv_isub hx hb dX7_firstGets_20 ?_
  exact m_iretiR C hI hF dX7_firstGets_21
set_option maxRecDepth 100000 in
set_option maxHeartbeats 4000000 in
theorem ok_X7_firstGets {l : Launch} {E : mE} {v0 : Int32} {v1 : Int32} {v2 : Int32} {S : mS} {r : Int32} (hF : f_X7_firstGets v0 v1 v2 S = some r) : mMi l yX7_firstGets cX7_firstGets 3 (some .int) rm_X7_firstGets 0 0 [.ref (mA E.b v0), .int v1, .int v2] E S (r, S) := by
  refine m_met_i (by decide) (Nat.le_of_ble_eq_true rfl) (fun p e s m args below meth c ls hin C hI hl => ?_)
  have hx := C.1
  have hb := C.2.1
  have hl : lv_has ls 3 [(0, .ref (mA E.b v0)), (1, .int v1), (2, .int v2)] := hl
  generalize s.heap = H at hI ⊢
  generalize ([] : List Loc) = locs at hI ⊢
  refine lv_aload_n hx hb dX7_firstGets_0 rfl (lv_at hl 0 rfl) ?_
  refine m_getR C fd_X7_53 hI hF dX7_firstGets_1 (fun r1 hF => ?_)
  refine lv_iconst (v := 5) hx hb dX7_firstGets_4 (by decide) ?_
  refine lv_iload_n hx hb dX7_firstGets_5 rfl (lv_at hl 1 rfl) ?_
  refine lv_imul hx hb dX7_firstGets_6 ?_
  refine lv_iload_n hx hb dX7_firstGets_7 rfl (lv_at hl 2 rfl) ?_
  refine lv_iadd hx hb dX7_firstGets_8 ?_
  refine m_iald C hI hF dX7_firstGets_9 (fun r2 hF => ?_)
  refine lv_iload_n hx hb dX7_firstGets_10 rfl (lv_at hl 1 rfl) ?_
  refine lv_iconst (v := 4) hx hb dX7_firstGets_11 (by decide) ?_
  refine m_icmp_ne C (tgt := 19) hF dX7_firstGets_12 (by decide) (fun hF => ?_) (fun hF => ?_)
  · refine lv_iconst (v := 1) hx hb dX7_firstGets_19 (by decide) ?_
    exact (bl_X7_firstGets_20 C) r2 1 _ _ _ hF hI (lv_sub hl [] rfl)
  · refine lv_iconst (v := 0) hx hb dX7_firstGets_15 (by decide) ?_
    refine lv_goto (tgt := 20) hx hb dX7_firstGets_16 (by decide) ?_
    exact (bl_X7_firstGets_20 C) r2 0 _ _ _ hF hI (lv_sub hl [] rfl)
noncomputable def f_X7_secondGets_25 (S : mS) (t0 : Int32) (t1 : Int32) : Option Int32 := some (t0 - t1)
noncomputable def f_X7_secondGets (v0 : Int32) (v1 : Int32) (v2 : Int32) (S : mS) : Option Int32 := mG 7 2 v0 S (fun r1 => mGr 7 24 v0 S (fun r2 => mX 8 r2 ((5 * v1) + v2) S (fun r3 => if v2 = 4 then ((f_X7_secondGets_25 S) (r1 - r3) 0) else ((f_X7_secondGets_25 S) (r1 - r3) 1))))
def rm_X7_secondGets : Room := { frames := 0, cells := 0, slots := 0, locals := 0 }
set_option maxRecDepth 100000 in
set_option maxHeartbeats 4000000 in
theorem bl_X7_secondGets_25 {p : Program} {l : Launch} {e : Env} {s : State} {m : MethodId} {args : Array Value} {below : List Frame} {meth : Method} {c : Code} {E : mE} {n0 : Nat} {r : Int32} {S : mS} (C : mCx p s m args meth c cX7_secondGets 3 RX7 (some .int) E n0) : ∀  (t0 : Int32) (t1 : Int32) (H : Heap) (locs : List Loc) (ls : Array Slot), f_X7_secondGets_25 S t0 t1 = some r → mIv s E S H locs 0 → lv_has ls 3 [] → W p l e rm_X7_secondGets s m args below meth c H locs 0 0 (mQi below args s 0 0 n0 E (r, S)) (F0 m 25 ls [.int t1, .int t0]) := by
  have hx := C.1
  have hb := C.2.1
  intro t0 t1 H locs ls hF hI hl
  refine lv_isub hx hb dX7_secondGets_25 ?_
  exact m_iretiR C hI hF dX7_secondGets_26
set_option maxRecDepth 100000 in
set_option maxHeartbeats 4000000 in
theorem ok_X7_secondGets {l : Launch} {E : mE} {v0 : Int32} {v1 : Int32} {v2 : Int32} {S : mS} {r : Int32} (hF : f_X7_secondGets v0 v1 v2 S = some r) : mMi l yX7_secondGets cX7_secondGets 3 (some .int) rm_X7_secondGets 0 0 [.ref (mA E.b v0), .int v1, .int v2] E S (r, S) := by
  refine m_met_i (by decide) (Nat.le_of_ble_eq_true rfl) (fun p e s m args below meth c ls hin C hI hl => ?_)
  have hx := C.1
  have hb := C.2.1
  have hl : lv_has ls 3 [(0, .ref (mA E.b v0)), (1, .int v1), (2, .int v2)] := hl
  generalize s.heap = H at hI ⊢
  generalize ([] : List Loc) = locs at hI ⊢
  refine lv_aload_n hx hb dX7_secondGets_0 rfl (lv_at hl 0 rfl) ?_
  refine m_get C fd_X7_74 hI hF dX7_secondGets_1 (fun r1 hF => ?_)
  refine lv_aload_n hx hb dX7_secondGets_4 rfl (lv_at hl 0 rfl) ?_
  refine m_getR C fd_X7_53 hI hF dX7_secondGets_5 (fun r2 hF => ?_)
  refine lv_iconst (v := 5) hx hb dX7_secondGets_8 (by decide) ?_
  refine lv_iload_n hx hb dX7_secondGets_9 rfl (lv_at hl 1 rfl) ?_
  refine lv_imul hx hb dX7_secondGets_10 ?_
  refine lv_iload_n hx hb dX7_secondGets_11 rfl (lv_at hl 2 rfl) ?_
  refine lv_iadd hx hb dX7_secondGets_12 ?_
  refine m_iald C hI hF dX7_secondGets_13 (fun r3 hF => ?_)
  refine lv_isub hx hb dX7_secondGets_14 ?_
  refine lv_iload_n hx hb dX7_secondGets_15 rfl (lv_at hl 2 rfl) ?_
  refine lv_iconst (v := 4) hx hb dX7_secondGets_16 (by decide) ?_
  refine m_icmp_ne C (tgt := 24) hF dX7_secondGets_17 (by decide) (fun hF => ?_) (fun hF => ?_)
  · refine lv_iconst (v := 1) hx hb dX7_secondGets_24 (by decide) ?_
    exact (bl_X7_secondGets_25 C) (r1 - r3) 1 _ _ _ hF hI (lv_sub hl [] rfl)
  · refine lv_iconst (v := 0) hx hb dX7_secondGets_20 (by decide) ?_
    refine lv_goto (tgt := 25) hx hb dX7_secondGets_21 (by decide) ?_
    exact (bl_X7_secondGets_25 C) (r1 - r3) 0 _ _ _ hF hI (lv_sub hl [] rfl)
noncomputable def f_X7_rests_52 (k5 : Int32 → Int32 → Int32 → Int32 → Int32 → Option Int32) (S : mS) (v0 : Int32) (v1 : Int32) (v2 : Int32) (v4 : Int32) (t0 : Int32) : Option Int32 := k5 v0 v1 v2 t0 (v4 + 1)
noncomputable def f_X7_rests_51 (k5 : Int32 → Int32 → Int32 → Int32 → Int32 → Option Int32) (S : mS) (v0 : Int32) (v1 : Int32) (v2 : Int32) (v4 : Int32) : Option Int32 := (f_X7_rests_52 k5 S) v0 v1 v2 v4 0
noncomputable def f_X7_rests_5 (k59 : Int32 → Option Int32) (S : mS) : Nat → Int32 → Int32 → Int32 → Int32 → Int32 → Option Int32 := fun n => Nat.rec (motive := fun _ => Int32 → Int32 → Int32 → Int32 → Int32 → Option Int32) (fun _ _ _ _ _ => none) (fun _ rec v0 v1 v2 v3 v4 => if 5 ≤ v4 then (k59 v3) else (if v3 = 0 then ((f_X7_rests_51 rec S) v0 v1 v2 v4) else (mRc 7 v0 S (mCp (f_X7_firstGets v0 v1 v2 S) (fun r1 => mRc 7 v0 S (mCp (f_X7_firstGets v0 v4 v2 S) (fun r2 => if r1 < r2 then ((f_X7_rests_51 rec S) v0 v1 v2 v4) else (mRc 7 v0 S (mCp (f_X7_secondGets v0 v1 v2 S) (fun r3 => mRc 7 v0 S (mCp (f_X7_secondGets v0 v1 v4 S) (fun r4 => if r3 < r4 then ((f_X7_rests_51 rec S) v0 v1 v2 v4) else ((f_X7_rests_52 rec S) v0 v1 v2 v4 1))))))))))))) n
theorem f_X7_rests_5_s (k59 : Int32 → Option Int32) (S : mS) (n : Nat) (v0 : Int32) (v1 : Int32) (v2 : Int32) (v3 : Int32) (v4 : Int32) : f_X7_rests_5 k59 S (n + 1) v0 v1 v2 v3 v4 = if 5 ≤ v4 then (k59 v3) else (if v3 = 0 then ((f_X7_rests_51 (f_X7_rests_5 k59 S n) S) v0 v1 v2 v4) else (mRc 7 v0 S (mCp (f_X7_firstGets v0 v1 v2 S) (fun r1 => mRc 7 v0 S (mCp (f_X7_firstGets v0 v4 v2 S) (fun r2 => if r1 < r2 then ((f_X7_rests_51 (f_X7_rests_5 k59 S n) S) v0 v1 v2 v4) else (mRc 7 v0 S (mCp (f_X7_secondGets v0 v1 v2 S) (fun r3 => mRc 7 v0 S (mCp (f_X7_secondGets v0 v1 v4 S) (fun r4 => if r3 < r4 then ((f_X7_rests_51 (f_X7_rests_5 k59 S n) S) v0 v1 v2 v4) else ((f_X7_rests_52 (f_X7_rests_5 k59 S n) S) v0 v1 v2 v4 1)))))))))))) := rfl
noncomputable def f_X7_rests_59 (S : mS) (v3 : Int32) : Option Int32 := mZ v3 (some v3)
noncomputable def f_X7_rests (v0 : Int32) (v1 : Int32) (v2 : Int32) (S : mS) : Option Int32 := (f_X7_rests_5 (f_X7_rests_59 S) S 1000) v0 v1 v2 1 0
def rm_X7_rests : Room := { frames := 1, cells := 0, slots := 0, locals := 22 }
set_option maxRecDepth 100000 in
set_option maxHeartbeats 4000000 in
theorem bl_X7_rests_52 {p : Program} {l : Launch} {e : Env} {s : State} {m : MethodId} {args : Array Value} {below : List Frame} {meth : Method} {c : Code} {E : mE} {n0 : Nat} {r : Int32} {S : mS} (C : mCx p s m args meth c cX7_rests 5 RX7 (some .boolean) E n0) {k5 : Int32 → Int32 → Int32 → Int32 → Int32 → Option Int32} (hk5 : ∀ (v0 : Int32) (v1 : Int32) (v2 : Int32) (v3 : Int32) (v4 : Int32) (H : Heap) (locs : List Loc) (ls : Array Slot), k5 v0 v1 v2 v3 v4 = some r → mIv s E S H locs 0 → lv_has ls 5 [(0, .ref (mA E.b v0)), (1, .int v1), (2, .int v2), (3, .int v3), (4, .int v4)] → W p l e rm_X7_rests s m args below meth c H locs 0 0 (mQi below args s 0 0 n0 E (r, S)) (F0 m 5 ls [])) : ∀  (v0 : Int32) (v1 : Int32) (v2 : Int32) (v4 : Int32) (t0 : Int32) (H : Heap) (locs : List Loc) (ls : Array Slot), f_X7_rests_52 k5 S v0 v1 v2 v4 t0 = some r → mIv s E S H locs 0 → lv_has ls 5 [(0, .ref (mA E.b v0)), (1, .int v1), (2, .int v2), (4, .int v4)] → W p l e rm_X7_rests s m args below meth c H locs 0 0 (mQi below args s 0 0 n0 E (r, S)) (F0 m 52 ls [.int t0]) := by
  have hx := C.1
  have hb := C.2.1
  intro v0 v1 v2 v4 t0 H locs ls hF hI hl
  refine lv_istore_n (lv' := [(3, .int t0), (0, .ref (mA E.b v0)), (1, .int v1), (2, .int v2), (4, .int v4)]) hx hb dX7_rests_52 rfl hl (by decide) rfl (fun ls hl => ?_)
  refine lv_iinc (v := v4 + 1) (lv' := [(4, .int (v4 + 1)), (3, .int t0), (0, .ref (mA E.b v0)), (1, .int v1), (2, .int v2)]) hx hb dX7_rests_53 hl (k := 4) rfl rfl (by decide) rfl (fun ls hl => ?_)
  refine lv_goto (tgt := 5) hx hb dX7_rests_56 (by decide) ?_
  exact hk5 v0 v1 v2 t0 (v4 + 1) _ _ _ hF hI (lv_sub hl [2, 3, 4, 1, 0] rfl)
set_option maxRecDepth 100000 in
set_option maxHeartbeats 4000000 in
theorem bl_X7_rests_51 {p : Program} {l : Launch} {e : Env} {s : State} {m : MethodId} {args : Array Value} {below : List Frame} {meth : Method} {c : Code} {E : mE} {n0 : Nat} {r : Int32} {S : mS} (C : mCx p s m args meth c cX7_rests 5 RX7 (some .boolean) E n0) {k5 : Int32 → Int32 → Int32 → Int32 → Int32 → Option Int32} (hk5 : ∀ (v0 : Int32) (v1 : Int32) (v2 : Int32) (v3 : Int32) (v4 : Int32) (H : Heap) (locs : List Loc) (ls : Array Slot), k5 v0 v1 v2 v3 v4 = some r → mIv s E S H locs 0 → lv_has ls 5 [(0, .ref (mA E.b v0)), (1, .int v1), (2, .int v2), (3, .int v3), (4, .int v4)] → W p l e rm_X7_rests s m args below meth c H locs 0 0 (mQi below args s 0 0 n0 E (r, S)) (F0 m 5 ls [])) : ∀  (v0 : Int32) (v1 : Int32) (v2 : Int32) (v4 : Int32) (H : Heap) (locs : List Loc) (ls : Array Slot), f_X7_rests_51 k5 S v0 v1 v2 v4 = some r → mIv s E S H locs 0 → lv_has ls 5 [(0, .ref (mA E.b v0)), (1, .int v1), (2, .int v2), (4, .int v4)] → W p l e rm_X7_rests s m args below meth c H locs 0 0 (mQi below args s 0 0 n0 E (r, S)) (F0 m 51 ls []) := by
  have hx := C.1
  have hb := C.2.1
  intro v0 v1 v2 v4 H locs ls hF hI hl
  refine lv_iconst (v := 0) hx hb dX7_rests_51 (by decide) ?_
  exact (bl_X7_rests_52 C (k5 := k5) hk5) v0 v1 v2 v4 0 _ _ _ hF hI (lv_sub hl [0, 1, 2, 3] rfl)
set_option maxRecDepth 100000 in
set_option maxHeartbeats 4000000 in
theorem bl_X7_rests_5 {p : Program} {l : Launch} {e : Env} {s : State} {m : MethodId} {args : Array Value} {below : List Frame} {meth : Method} {c : Code} {E : mE} {n0 : Nat} {r : Int32} {S : mS} (C : mCx p s m args meth c cX7_rests 5 RX7 (some .boolean) E n0) {k59 : Int32 → Option Int32} (hk59 : ∀ (v3 : Int32) (H : Heap) (locs : List Loc) (ls : Array Slot), k59 v3 = some r → mIv s E S H locs 0 → lv_has ls 5 [(3, .int v3)] → W p l e rm_X7_rests s m args below meth c H locs 0 0 (mQi below args s 0 0 n0 E (r, S)) (F0 m 59 ls [])) : ∀ (n : Nat)  (v0 : Int32) (v1 : Int32) (v2 : Int32) (v3 : Int32) (v4 : Int32) (H : Heap) (locs : List Loc) (ls : Array Slot), f_X7_rests_5 k59 S n v0 v1 v2 v3 v4 = some r → mIv s E S H locs 0 → lv_has ls 5 [(0, .ref (mA E.b v0)), (1, .int v1), (2, .int v2), (3, .int v3), (4, .int v4)] → W p l e rm_X7_rests s m args below meth c H locs 0 0 (mQi below args s 0 0 n0 E (r, S)) (F0 m 5 ls []) := by
  have hx := C.1
  have hb := C.2.1
  intro n
  induction n with
  | zero =>
    intro v0 v1 v2 v3 v4 H locs ls hF
    exact nomatch (show (none : Option Int32) = some r from hF)
  | succ n ih =>
    intro v0 v1 v2 v3 v4 H locs ls hF hI hl
    have hF := (f_X7_rests_5_s k59 S n v0 v1 v2 v3 v4).symm.trans hF
    refine lv_iload hx hb dX7_rests_5 (lv_at hl 4 rfl) ?_
    refine lv_iconst (v := 5) hx hb dX7_rests_7 (by decide) ?_
    refine m_icmp_ge C (tgt := 59) hF dX7_rests_8 (by decide) (fun hF => ?_) (fun hF => ?_)
    · exact hk59 v3 _ _ _ hF hI (lv_sub hl [3] rfl)
    · refine lv_iload_n hx hb dX7_rests_11 rfl (lv_at hl 3 rfl) ?_
      refine m_if_eq C (tgt := 51) hF dX7_rests_12 (by decide) (fun hF => ?_) (fun hF => ?_)
      · exact (bl_X7_rests_51 C (k5 := (f_X7_rests_5 k59 S n)) ih) v0 v1 v2 v4 _ _ _ hF hI (lv_sub hl [0, 1, 2, 4] rfl)
      · refine lv_aload_n hx hb dX7_rests_15 rfl (lv_at hl 0 rfl) ?_
        refine lv_iload_n hx hb dX7_rests_16 rfl (lv_at hl 1 rfl) ?_
        refine lv_iload_n hx hb dX7_rests_17 rfl (lv_at hl 2 rfl) ?_
        refine m_callViR C cd_X7_271 ⟨rfl, by decide⟩ hl.1 hI hF (fun _ h => ok_X7_firstGets h) rfl rfl ⟨rfl, rfl, Nat.le_of_ble_eq_true rfl, Nat.le_of_ble_eq_true rfl⟩ ⟨Nat.le_of_ble_eq_true rfl, Nat.le_of_ble_eq_true rfl⟩ (Nat.le_of_ble_eq_true rfl) dX7_rests_18 (fun r1 H locs hF hI => ?_)
        refine lv_aload_n hx hb dX7_rests_21 rfl (lv_at hl 0 rfl) ?_
        refine lv_iload hx hb dX7_rests_22 (lv_at hl 4 rfl) ?_
        refine lv_iload_n hx hb dX7_rests_24 rfl (lv_at hl 2 rfl) ?_
        refine m_callViR C cd_X7_271 ⟨rfl, by decide⟩ hl.1 hI hF (fun _ h => ok_X7_firstGets h) rfl rfl ⟨rfl, rfl, Nat.le_of_ble_eq_true rfl, Nat.le_of_ble_eq_true rfl⟩ ⟨Nat.le_of_ble_eq_true rfl, Nat.le_of_ble_eq_true rfl⟩ (Nat.le_of_ble_eq_true rfl) dX7_rests_25 (fun r2 H locs hF hI => ?_)
        refine m_icmp_lt C (tgt := 51) hF dX7_rests_28 (by decide) (fun hF => ?_) (fun hF => ?_)
        · exact (bl_X7_rests_51 C (k5 := (f_X7_rests_5 k59 S n)) ih) v0 v1 v2 v4 _ _ _ hF hI (lv_sub hl [0, 1, 2, 4] rfl)
        · refine lv_aload_n hx hb dX7_rests_31 rfl (lv_at hl 0 rfl) ?_
          refine lv_iload_n hx hb dX7_rests_32 rfl (lv_at hl 1 rfl) ?_
          refine lv_iload_n hx hb dX7_rests_33 rfl (lv_at hl 2 rfl) ?_
          refine m_callViR C cd_X7_274 ⟨rfl, by decide⟩ hl.1 hI hF (fun _ h => ok_X7_secondGets h) rfl rfl ⟨rfl, rfl, Nat.le_of_ble_eq_true rfl, Nat.le_of_ble_eq_true rfl⟩ ⟨Nat.le_of_ble_eq_true rfl, Nat.le_of_ble_eq_true rfl⟩ (Nat.le_of_ble_eq_true rfl) dX7_rests_34 (fun r3 H locs hF hI => ?_)
          refine lv_aload_n hx hb dX7_rests_37 rfl (lv_at hl 0 rfl) ?_
          refine lv_iload_n hx hb dX7_rests_38 rfl (lv_at hl 1 rfl) ?_
          refine lv_iload hx hb dX7_rests_39 (lv_at hl 4 rfl) ?_
          refine m_callViR C cd_X7_274 ⟨rfl, by decide⟩ hl.1 hI hF (fun _ h => ok_X7_secondGets h) rfl rfl ⟨rfl, rfl, Nat.le_of_ble_eq_true rfl, Nat.le_of_ble_eq_true rfl⟩ ⟨Nat.le_of_ble_eq_true rfl, Nat.le_of_ble_eq_true rfl⟩ (Nat.le_of_ble_eq_true rfl) dX7_rests_41 (fun r4 H locs hF hI => ?_)
          refine m_icmp_lt C (tgt := 51) hF dX7_rests_44 (by decide) (fun hF => ?_) (fun hF => ?_)
          · exact (bl_X7_rests_51 C (k5 := (f_X7_rests_5 k59 S n)) ih) v0 v1 v2 v4 _ _ _ hF hI (lv_sub hl [0, 1, 2, 4] rfl)
          · refine lv_iconst (v := 1) hx hb dX7_rests_47 (by decide) ?_
            refine lv_goto (tgt := 52) hx hb dX7_rests_48 (by decide) ?_
            exact (bl_X7_rests_52 C (k5 := (f_X7_rests_5 k59 S n)) ih) v0 v1 v2 v4 1 _ _ _ hF hI (lv_sub hl [0, 1, 2, 4] rfl)
set_option maxRecDepth 100000 in
set_option maxHeartbeats 4000000 in
theorem bl_X7_rests_59 {p : Program} {l : Launch} {e : Env} {s : State} {m : MethodId} {args : Array Value} {below : List Frame} {meth : Method} {c : Code} {E : mE} {n0 : Nat} {r : Int32} {S : mS} (C : mCx p s m args meth c cX7_rests 5 RX7 (some .boolean) E n0) : ∀  (v3 : Int32) (H : Heap) (locs : List Loc) (ls : Array Slot), f_X7_rests_59 S v3 = some r → mIv s E S H locs 0 → lv_has ls 5 [(3, .int v3)] → W p l e rm_X7_rests s m args below meth c H locs 0 0 (mQi below args s 0 0 n0 E (r, S)) (F0 m 59 ls []) := by
  have hx := C.1
  have hb := C.2.1
  intro v3 H locs ls hF hI hl
  refine lv_iload_n hx hb dX7_rests_59 rfl (lv_at hl 0 rfl) ?_
  exact m_iretzR C hI hF dX7_rests_60
set_option maxRecDepth 100000 in
set_option maxHeartbeats 4000000 in
theorem ok_X7_rests {l : Launch} {E : mE} {v0 : Int32} {v1 : Int32} {v2 : Int32} {S : mS} {r : Int32} (hF : f_X7_rests v0 v1 v2 S = some r) : mMi l yX7_rests cX7_rests 5 (some .boolean) rm_X7_rests 0 0 [.ref (mA E.b v0), .int v1, .int v2] E S (r, S) := by
  refine m_met_i (by decide) (Nat.le_of_ble_eq_true rfl) (fun p e s m args below meth c ls hin C hI hl => ?_)
  have hx := C.1
  have hb := C.2.1
  have hl : lv_has ls 5 [(0, .ref (mA E.b v0)), (1, .int v1), (2, .int v2)] := hl
  generalize s.heap = H at hI ⊢
  generalize ([] : List Loc) = locs at hI ⊢
  refine lv_iconst (v := 1) hx hb dX7_rests_0 (by decide) ?_
  refine lv_istore_n (lv' := [(3, .int 1), (0, .ref (mA E.b v0)), (1, .int v1), (2, .int v2)]) hx hb dX7_rests_1 rfl hl (by decide) rfl (fun ls hl => ?_)
  refine lv_iconst (v := 0) hx hb dX7_rests_2 (by decide) ?_
  refine lv_istore (lv' := [(4, .int 0), (3, .int 1), (0, .ref (mA E.b v0)), (1, .int v1), (2, .int v2)]) hx hb dX7_rests_3 hl (by decide) rfl (fun ls hl => ?_)
  exact (bl_X7_rests_5 C (k59 := (f_X7_rests_59 S)) (bl_X7_rests_59 C) 1000) v0 v1 v2 1 0 _ _ _ hF hI (lv_sub hl [2, 3, 4, 1, 0] rfl)
noncomputable def f_X7_shepherds_26 (v0 : Int32) (S : mS) : Option (Int32 × mS) := mRc 7 v0 S (mC (f_X7_bad v0 S) (fun r2 S3 => some ((-10), S3)))
noncomputable def f_X7_shepherds_37 (k71 : Int32 → Int32 → mS → Option (Int32 × mS)) : Nat → Int32 → Int32 → Int32 → Int32 → Int32 → mS → Option (Int32 × mS) := fun n => Nat.rec (motive := fun _ => Int32 → Int32 → Int32 → Int32 → Int32 → mS → Option (Int32 × mS)) (fun _ _ _ _ _ _ => none) (fun _ rec v0 v1 v2 v3 v4 S => if 25 ≤ v4 then (k71 v0 v3 S) else (mGr 7 24 v0 S (fun r5 => mRc 7 v0 S (mC (f_X7_foldedBy v0 v1 v2 (v4 / 5) (mRem v4 5) S) (fun r6 S7 => mXs r5 v4 r6 S7 (fun S8 => rec v0 v1 v2 v3 (v4 + 1) S8)))))) n
theorem f_X7_shepherds_37_s (k71 : Int32 → Int32 → mS → Option (Int32 × mS)) (n : Nat) (v0 : Int32) (v1 : Int32) (v2 : Int32) (v3 : Int32) (v4 : Int32) (S : mS) : f_X7_shepherds_37 k71 (n + 1) v0 v1 v2 v3 v4 S = if 25 ≤ v4 then (k71 v0 v3 S) else (mGr 7 24 v0 S (fun r5 => mRc 7 v0 S (mC (f_X7_foldedBy v0 v1 v2 (v4 / 5) (mRem v4 5) S) (fun r6 S7 => mXs r5 v4 r6 S7 (fun S8 => (f_X7_shepherds_37 k71 n) v0 v1 v2 v3 (v4 + 1) S8))))) := rfl
noncomputable def f_X7_shepherds_131 (k81 : Int32 → Int32 → Int32 → Int32 → Int32 → mS → Option (Int32 × mS)) (v0 : Int32) (v3 : Int32) (v4 : Int32) (v5 : Int32) (v6 : Int32) (S : mS) : Option (Int32 × mS) := k81 v0 v3 v4 v5 (v6 + 1) S
noncomputable def f_X7_shepherds_126 (k81 : Int32 → Int32 → Int32 → Int32 → Int32 → mS → Option (Int32 × mS)) (v0 : Int32) (v3 : Int32) (v4 : Int32) (v6 : Int32) (t0 : Int32) (S : mS) : Option (Int32 × mS) := (f_X7_shepherds_131 k81) v0 v3 (v4 + 1) t0 v6 S
noncomputable def f_X7_shepherds_81 (k137 : Int32 → Int32 → Int32 → mS → Option (Int32 × mS)) : Nat → Int32 → Int32 → Int32 → Int32 → Int32 → mS → Option (Int32 × mS) := fun n => Nat.rec (motive := fun _ => Int32 → Int32 → Int32 → Int32 → Int32 → mS → Option (Int32 × mS)) (fun _ _ _ _ _ _ => none) (fun _ rec v0 v3 v4 v5 v6 S => if 25 ≤ v6 then (k137 v3 v4 v5 S) else (mRc 7 v0 S (mCp (f_X7_rests v0 (v6 / 5) (mRem v6 5) S) (fun r9 => if r9 = 0 then ((f_X7_shepherds_131 rec) v0 v3 v4 v5 v6 S) else (if v4 = v3 then ((f_X7_shepherds_126 rec) v0 v3 v4 v6 ((10 * (v6 / 5)) + (mRem v6 5)) S) else ((f_X7_shepherds_126 rec) v0 v3 v4 v6 v5 S)))))) n
theorem f_X7_shepherds_81_s (k137 : Int32 → Int32 → Int32 → mS → Option (Int32 × mS)) (n : Nat) (v0 : Int32) (v3 : Int32) (v4 : Int32) (v5 : Int32) (v6 : Int32) (S : mS) : f_X7_shepherds_81 k137 (n + 1) v0 v3 v4 v5 v6 S = if 25 ≤ v6 then (k137 v3 v4 v5 S) else (mRc 7 v0 S (mCp (f_X7_rests v0 (v6 / 5) (mRem v6 5) S) (fun r9 => if r9 = 0 then ((f_X7_shepherds_131 (f_X7_shepherds_81 k137 n)) v0 v3 v4 v5 v6 S) else (if v4 = v3 then ((f_X7_shepherds_126 (f_X7_shepherds_81 k137 n)) v0 v3 v4 v6 ((10 * (v6 / 5)) + (mRem v6 5)) S) else ((f_X7_shepherds_126 (f_X7_shepherds_81 k137 n)) v0 v3 v4 v6 v5 S))))) := rfl
noncomputable def f_X7_shepherds_149 (t0 : Int32) (S : mS) : Option (Int32 × mS) := some (t0, S)
noncomputable def f_X7_shepherds_137 (v3 : Int32) (v4 : Int32) (v5 : Int32) (S : mS) : Option (Int32 × mS) := if v3 = (-1) then ((f_X7_shepherds_149) v4 S) else ((f_X7_shepherds_149) v5 S)
noncomputable def f_X7_shepherds_71 (v0 : Int32) (v3 : Int32) (S : mS) : Option (Int32 × mS) := (f_X7_shepherds_81 (f_X7_shepherds_137) 1000) v0 v3 0 (-5) 0 S
noncomputable def f_X7_shepherds (v0 : Int32) (v1 : Int32) (v2 : Int32) (v3 : Int32) (S : mS) : Option (Int32 × mS) := mRc 7 v0 S (mCp (f_X7_isWhistle v0 v1 S) (fun r1 => if r1 = 0 then ((f_X7_shepherds_26) v0 S) else (mRc 7 v0 S (mCp (f_X7_isWhistle v0 v2 S) (fun r4 => if r4 = 0 then ((f_X7_shepherds_26) v0 S) else (if v1 = v2 then ((f_X7_shepherds_26) v0 S) else (if (-1) ≤ v3 then ((f_X7_shepherds_37 (f_X7_shepherds_71) 1000) v0 v1 v2 v3 0 S) else ((f_X7_shepherds_26) v0 S))))))))
def rm_X7_shepherds : Room := { frames := 5, cells := 0, slots := 0, locals := 123 }
set_option maxRecDepth 100000 in
set_option maxHeartbeats 4000000 in
theorem bl_X7_shepherds_26 {p : Program} {l : Launch} {e : Env} {s : State} {m : MethodId} {args : Array Value} {below : List Frame} {meth : Method} {c : Code} {E : mE} {n0 : Nat} {F : Int32 × mS} (C : mCx p s m args meth c cX7_shepherds 7 RX7 (some .int) E n0) : ∀  (v0 : Int32) (S : mS) (H : Heap) (locs : List Loc) (ls : Array Slot), f_X7_shepherds_26 v0 S = some F → mIv s E S H locs 0 → lv_has ls 7 [(0, .ref (mA E.b v0))] → W p l e rm_X7_shepherds s m args below meth c H locs 0 0 (mQi below args s 0 0 n0 E F) (F0 m 26 ls []) := by
  have hx := C.1
  have hb := C.2.1
  intro v0 S H locs ls hF hI hl
  refine lv_aload_n hx hb dX7_shepherds_26 rfl (lv_at hl 0 rfl) ?_
  refine m_callVi C cd_X7_103 ⟨rfl, by decide⟩ hl.1 hI hF (fun _ h => ok_X7_bad h) rfl rfl ⟨rfl, rfl, Nat.le_of_ble_eq_true rfl, Nat.le_of_ble_eq_true rfl⟩ ⟨Nat.le_of_ble_eq_true rfl, Nat.le_of_ble_eq_true rfl⟩ (Nat.le_of_ble_eq_true rfl) dX7_shepherds_27 (fun r2 S3 H locs hF hI => ?_)
  refine lv_pop hx hb dX7_shepherds_30 rfl ?_
  refine lv_bipush (v := (-10)) hx hb dX7_shepherds_31 (by decide) ?_
  exact m_ireti C hI hF dX7_shepherds_33
set_option maxRecDepth 100000 in
set_option maxHeartbeats 4000000 in
theorem bl_X7_shepherds_37 {p : Program} {l : Launch} {e : Env} {s : State} {m : MethodId} {args : Array Value} {below : List Frame} {meth : Method} {c : Code} {E : mE} {n0 : Nat} {F : Int32 × mS} (C : mCx p s m args meth c cX7_shepherds 7 RX7 (some .int) E n0) {k71 : Int32 → Int32 → mS → Option (Int32 × mS)} (hk71 : ∀ (v0 : Int32) (v3 : Int32) (S : mS) (H : Heap) (locs : List Loc) (ls : Array Slot), k71 v0 v3 S = some F → mIv s E S H locs 0 → lv_has ls 7 [(0, .ref (mA E.b v0)), (3, .int v3)] → W p l e rm_X7_shepherds s m args below meth c H locs 0 0 (mQi below args s 0 0 n0 E F) (F0 m 71 ls [])) : ∀ (n : Nat)  (v0 : Int32) (v1 : Int32) (v2 : Int32) (v3 : Int32) (v4 : Int32) (S : mS) (H : Heap) (locs : List Loc) (ls : Array Slot), f_X7_shepherds_37 k71 n v0 v1 v2 v3 v4 S = some F → mIv s E S H locs 0 → lv_has ls 7 [(0, .ref (mA E.b v0)), (1, .int v1), (2, .int v2), (3, .int v3), (4, .int v4)] → W p l e rm_X7_shepherds s m args below meth c H locs 0 0 (mQi below args s 0 0 n0 E F) (F0 m 37 ls []) := by
  have hx := C.1
  have hb := C.2.1
  intro n
  induction n with
  | zero =>
    intro v0 v1 v2 v3 v4 S H locs ls hF
    exact nomatch (show (none : Option (Int32 × mS)) = some F from hF)
  | succ n ih =>
    intro v0 v1 v2 v3 v4 S H locs ls hF hI hl
    have hF := (f_X7_shepherds_37_s k71 n v0 v1 v2 v3 v4 S).symm.trans hF
    refine lv_iload hx hb dX7_shepherds_37 (lv_at hl 4 rfl) ?_
    refine lv_bipush (v := 25) hx hb dX7_shepherds_39 (by decide) ?_
    refine m_icmp_ge C (tgt := 71) hF dX7_shepherds_41 (by decide) (fun hF => ?_) (fun hF => ?_)
    · exact hk71 v0 v3 S _ _ _ hF hI (lv_sub hl [0, 3] rfl)
    · refine lv_aload_n hx hb dX7_shepherds_44 rfl (lv_at hl 0 rfl) ?_
      refine m_getR C fd_X7_53 hI hF dX7_shepherds_45 (fun r5 hF => ?_)
      refine lv_iload hx hb dX7_shepherds_48 (lv_at hl 4 rfl) ?_
      refine lv_aload_n hx hb dX7_shepherds_50 rfl (lv_at hl 0 rfl) ?_
      refine lv_iload_n hx hb dX7_shepherds_51 rfl (lv_at hl 1 rfl) ?_
      refine lv_iload_n hx hb dX7_shepherds_52 rfl (lv_at hl 2 rfl) ?_
      refine lv_iload hx hb dX7_shepherds_53 (lv_at hl 4 rfl) ?_
      refine lv_iconst (v := 5) hx hb dX7_shepherds_55 (by decide) ?_
      refine lv_idiv hx hb dX7_shepherds_56 (by decide) ?_
      refine lv_iload hx hb dX7_shepherds_57 (lv_at hl 4 rfl) ?_
      refine lv_iconst (v := 5) hx hb dX7_shepherds_59 (by decide) ?_
      refine m_irem C dX7_shepherds_60 (by decide) ?_
      refine m_callVi C cd_X7_277 ⟨rfl, by decide⟩ hl.1 hI hF (fun _ h => ok_X7_foldedBy h) rfl rfl ⟨rfl, rfl, Nat.le_of_ble_eq_true rfl, Nat.le_of_ble_eq_true rfl⟩ ⟨Nat.le_of_ble_eq_true rfl, Nat.le_of_ble_eq_true rfl⟩ (Nat.le_of_ble_eq_true rfl) dX7_shepherds_61 (fun r6 S7 H locs hF hI => ?_)
      refine m_iast C hI hF dX7_shepherds_64 (fun S8 H locs hF hI => ?_)
      refine lv_iinc (v := v4 + 1) (lv' := [(4, .int (v4 + 1)), (0, .ref (mA E.b v0)), (1, .int v1), (2, .int v2), (3, .int v3)]) hx hb dX7_shepherds_65 hl (k := 4) rfl rfl (by decide) rfl (fun ls hl => ?_)
      refine lv_goto (tgt := 37) hx hb dX7_shepherds_68 (by decide) ?_
      exact ih v0 v1 v2 v3 (v4 + 1) S8 _ _ _ hF hI (lv_sub hl [1, 2, 3, 4, 0] rfl)
set_option maxRecDepth 100000 in
set_option maxHeartbeats 4000000 in
theorem bl_X7_shepherds_131 {p : Program} {l : Launch} {e : Env} {s : State} {m : MethodId} {args : Array Value} {below : List Frame} {meth : Method} {c : Code} {E : mE} {n0 : Nat} {F : Int32 × mS} (C : mCx p s m args meth c cX7_shepherds 7 RX7 (some .int) E n0) {k81 : Int32 → Int32 → Int32 → Int32 → Int32 → mS → Option (Int32 × mS)} (hk81 : ∀ (v0 : Int32) (v3 : Int32) (v4 : Int32) (v5 : Int32) (v6 : Int32) (S : mS) (H : Heap) (locs : List Loc) (ls : Array Slot), k81 v0 v3 v4 v5 v6 S = some F → mIv s E S H locs 0 → lv_has ls 7 [(0, .ref (mA E.b v0)), (3, .int v3), (4, .int v4), (5, .int v5), (6, .int v6)] → W p l e rm_X7_shepherds s m args below meth c H locs 0 0 (mQi below args s 0 0 n0 E F) (F0 m 81 ls [])) : ∀  (v0 : Int32) (v3 : Int32) (v4 : Int32) (v5 : Int32) (v6 : Int32) (S : mS) (H : Heap) (locs : List Loc) (ls : Array Slot), f_X7_shepherds_131 k81 v0 v3 v4 v5 v6 S = some F → mIv s E S H locs 0 → lv_has ls 7 [(0, .ref (mA E.b v0)), (3, .int v3), (4, .int v4), (5, .int v5), (6, .int v6)] → W p l e rm_X7_shepherds s m args below meth c H locs 0 0 (mQi below args s 0 0 n0 E F) (F0 m 131 ls []) := by
  have hx := C.1
  have hb := C.2.1
  intro v0 v3 v4 v5 v6 S H locs ls hF hI hl
  refine lv_iinc (v := v6 + 1) (lv' := [(6, .int (v6 + 1)), (0, .ref (mA E.b v0)), (3, .int v3), (4, .int v4), (5, .int v5)]) hx hb dX7_shepherds_131 hl (k := 4) rfl rfl (by decide) rfl (fun ls hl => ?_)
  refine lv_goto (tgt := 81) hx hb dX7_shepherds_134 (by decide) ?_
  exact hk81 v0 v3 v4 v5 (v6 + 1) S _ _ _ hF hI (lv_sub hl [1, 2, 3, 4, 0] rfl)
set_option maxRecDepth 100000 in
set_option maxHeartbeats 4000000 in
theorem bl_X7_shepherds_126 {p : Program} {l : Launch} {e : Env} {s : State} {m : MethodId} {args : Array Value} {below : List Frame} {meth : Method} {c : Code} {E : mE} {n0 : Nat} {F : Int32 × mS} (C : mCx p s m args meth c cX7_shepherds 7 RX7 (some .int) E n0) {k81 : Int32 → Int32 → Int32 → Int32 → Int32 → mS → Option (Int32 × mS)} (hk81 : ∀ (v0 : Int32) (v3 : Int32) (v4 : Int32) (v5 : Int32) (v6 : Int32) (S : mS) (H : Heap) (locs : List Loc) (ls : Array Slot), k81 v0 v3 v4 v5 v6 S = some F → mIv s E S H locs 0 → lv_has ls 7 [(0, .ref (mA E.b v0)), (3, .int v3), (4, .int v4), (5, .int v5), (6, .int v6)] → W p l e rm_X7_shepherds s m args below meth c H locs 0 0 (mQi below args s 0 0 n0 E F) (F0 m 81 ls [])) : ∀  (v0 : Int32) (v3 : Int32) (v4 : Int32) (v6 : Int32) (t0 : Int32) (S : mS) (H : Heap) (locs : List Loc) (ls : Array Slot), f_X7_shepherds_126 k81 v0 v3 v4 v6 t0 S = some F → mIv s E S H locs 0 → lv_has ls 7 [(0, .ref (mA E.b v0)), (3, .int v3), (4, .int v4), (6, .int v6)] → W p l e rm_X7_shepherds s m args below meth c H locs 0 0 (mQi below args s 0 0 n0 E F) (F0 m 126 ls [.int t0]) := by
  have hx := C.1
  have hb := C.2.1
  intro v0 v3 v4 v6 t0 S H locs ls hF hI hl
  refine lv_istore (lv' := [(5, .int t0), (0, .ref (mA E.b v0)), (3, .int v3), (4, .int v4), (6, .int v6)]) hx hb dX7_shepherds_126 hl (by decide) rfl (fun ls hl => ?_)
  refine lv_iinc (v := v4 + 1) (lv' := [(4, .int (v4 + 1)), (5, .int t0), (0, .ref (mA E.b v0)), (3, .int v3), (6, .int v6)]) hx hb dX7_shepherds_128 hl (k := 3) rfl rfl (by decide) rfl (fun ls hl => ?_)
  exact (bl_X7_shepherds_131 C (k81 := k81) hk81) v0 v3 (v4 + 1) t0 v6 S _ _ _ hF hI (lv_sub hl [2, 3, 0, 1, 4] rfl)
set_option maxRecDepth 100000 in
set_option maxHeartbeats 4000000 in
theorem bl_X7_shepherds_81 {p : Program} {l : Launch} {e : Env} {s : State} {m : MethodId} {args : Array Value} {below : List Frame} {meth : Method} {c : Code} {E : mE} {n0 : Nat} {F : Int32 × mS} (C : mCx p s m args meth c cX7_shepherds 7 RX7 (some .int) E n0) {k137 : Int32 → Int32 → Int32 → mS → Option (Int32 × mS)} (hk137 : ∀ (v3 : Int32) (v4 : Int32) (v5 : Int32) (S : mS) (H : Heap) (locs : List Loc) (ls : Array Slot), k137 v3 v4 v5 S = some F → mIv s E S H locs 0 → lv_has ls 7 [(3, .int v3), (4, .int v4), (5, .int v5)] → W p l e rm_X7_shepherds s m args below meth c H locs 0 0 (mQi below args s 0 0 n0 E F) (F0 m 137 ls [])) : ∀ (n : Nat)  (v0 : Int32) (v3 : Int32) (v4 : Int32) (v5 : Int32) (v6 : Int32) (S : mS) (H : Heap) (locs : List Loc) (ls : Array Slot), f_X7_shepherds_81 k137 n v0 v3 v4 v5 v6 S = some F → mIv s E S H locs 0 → lv_has ls 7 [(0, .ref (mA E.b v0)), (3, .int v3), (4, .int v4), (5, .int v5), (6, .int v6)] → W p l e rm_X7_shepherds s m args below meth c H locs 0 0 (mQi below args s 0 0 n0 E F) (F0 m 81 ls []) := by
  have hx := C.1
  have hb := C.2.1
  intro n
  induction n with
  | zero =>
    intro v0 v3 v4 v5 v6 S H locs ls hF
    exact nomatch (show (none : Option (Int32 × mS)) = some F from hF)
  | succ n ih =>
    intro v0 v3 v4 v5 v6 S H locs ls hF hI hl
    have hF := (f_X7_shepherds_81_s k137 n v0 v3 v4 v5 v6 S).symm.trans hF
    refine lv_iload hx hb dX7_shepherds_81 (lv_at hl 4 rfl) ?_
    refine lv_bipush (v := 25) hx hb dX7_shepherds_83 (by decide) ?_
    refine m_icmp_ge C (tgt := 137) hF dX7_shepherds_85 (by decide) (fun hF => ?_) (fun hF => ?_)
    · exact hk137 v3 v4 v5 S _ _ _ hF hI (lv_sub hl [1, 2, 3] rfl)
    · refine lv_aload_n hx hb dX7_shepherds_88 rfl (lv_at hl 0 rfl) ?_
      refine lv_iload hx hb dX7_shepherds_89 (lv_at hl 4 rfl) ?_
      refine lv_iconst (v := 5) hx hb dX7_shepherds_91 (by decide) ?_
      refine lv_idiv hx hb dX7_shepherds_92 (by decide) ?_
      refine lv_iload hx hb dX7_shepherds_93 (lv_at hl 4 rfl) ?_
      refine lv_iconst (v := 5) hx hb dX7_shepherds_95 (by decide) ?_
      refine m_irem C dX7_shepherds_96 (by decide) ?_
      refine m_callViR C cd_X7_280 ⟨rfl, by decide⟩ hl.1 hI hF (fun _ h => ok_X7_rests h) rfl rfl ⟨rfl, rfl, Nat.le_of_ble_eq_true rfl, Nat.le_of_ble_eq_true rfl⟩ ⟨Nat.le_of_ble_eq_true rfl, Nat.le_of_ble_eq_true rfl⟩ (Nat.le_of_ble_eq_true rfl) dX7_shepherds_97 (fun r9 H locs hF hI => ?_)
      refine m_if_eq C (tgt := 131) hF dX7_shepherds_100 (by decide) (fun hF => ?_) (fun hF => ?_)
      · exact (bl_X7_shepherds_131 C (k81 := (f_X7_shepherds_81 k137 n)) ih) v0 v3 v4 v5 v6 S _ _ _ hF hI (lv_sub hl [0, 1, 2, 3, 4] rfl)
      · refine lv_iload hx hb dX7_shepherds_103 (lv_at hl 2 rfl) ?_
        refine lv_iload_n hx hb dX7_shepherds_105 rfl (lv_at hl 1 rfl) ?_
        refine m_icmp_ne C (tgt := 124) hF dX7_shepherds_106 (by decide) (fun hF => ?_) (fun hF => ?_)
        · refine lv_iload hx hb dX7_shepherds_124 (lv_at hl 3 rfl) ?_
          exact (bl_X7_shepherds_126 C (k81 := (f_X7_shepherds_81 k137 n)) ih) v0 v3 v4 v6 v5 S _ _ _ hF hI (lv_sub hl [0, 1, 2, 4] rfl)
        · refine lv_bipush (v := 10) hx hb dX7_shepherds_109 (by decide) ?_
          refine lv_iload hx hb dX7_shepherds_111 (lv_at hl 4 rfl) ?_
          refine lv_iconst (v := 5) hx hb dX7_shepherds_113 (by decide) ?_
          refine lv_idiv hx hb dX7_shepherds_114 (by decide) ?_
          refine lv_imul hx hb dX7_shepherds_115 ?_
          refine lv_iload hx hb dX7_shepherds_116 (lv_at hl 4 rfl) ?_
          refine lv_iconst (v := 5) hx hb dX7_shepherds_118 (by decide) ?_
          refine m_irem C dX7_shepherds_119 (by decide) ?_
          refine lv_iadd hx hb dX7_shepherds_120 ?_
          refine lv_goto (tgt := 126) hx hb dX7_shepherds_121 (by decide) ?_
          exact (bl_X7_shepherds_126 C (k81 := (f_X7_shepherds_81 k137 n)) ih) v0 v3 v4 v6 ((10 * (v6 / 5)) + (mRem v6 5)) S _ _ _ hF hI (lv_sub hl [0, 1, 2, 4] rfl)
set_option maxRecDepth 100000 in
set_option maxHeartbeats 4000000 in
theorem bl_X7_shepherds_149 {p : Program} {l : Launch} {e : Env} {s : State} {m : MethodId} {args : Array Value} {below : List Frame} {meth : Method} {c : Code} {E : mE} {n0 : Nat} {F : Int32 × mS} (C : mCx p s m args meth c cX7_shepherds 7 RX7 (some .int) E n0) : ∀  (t0 : Int32) (S : mS) (H : Heap) (locs : List Loc) (ls : Array Slot), f_X7_shepherds_149 t0 S = some F → mIv s E S H locs 0 → lv_has ls 7 [] → W p l e rm_X7_shepherds s m args below meth c H locs 0 0 (mQi below args s 0 0 n0 E F) (F0 m 149 ls [.int t0]) := by
  have hx := C.1
  have hb := C.2.1
  intro t0 S H locs ls hF hI hl
  exact m_ireti C hI hF dX7_shepherds_149
set_option maxRecDepth 100000 in
set_option maxHeartbeats 4000000 in
theorem bl_X7_shepherds_137 {p : Program} {l : Launch} {e : Env} {s : State} {m : MethodId} {args : Array Value} {below : List Frame} {meth : Method} {c : Code} {E : mE} {n0 : Nat} {F : Int32 × mS} (C : mCx p s m args meth c cX7_shepherds 7 RX7 (some .int) E n0) : ∀  (v3 : Int32) (v4 : Int32) (v5 : Int32) (S : mS) (H : Heap) (locs : List Loc) (ls : Array Slot), f_X7_shepherds_137 v3 v4 v5 S = some F → mIv s E S H locs 0 → lv_has ls 7 [(3, .int v3), (4, .int v4), (5, .int v5)] → W p l e rm_X7_shepherds s m args below meth c H locs 0 0 (mQi below args s 0 0 n0 E F) (F0 m 137 ls []) := by
  have hx := C.1
  have hb := C.2.1
  intro v3 v4 v5 S H locs ls hF hI hl
  refine lv_iload_n hx hb dX7_shepherds_137 rfl (lv_at hl 0 rfl) ?_
  refine lv_iconst (v := (-1)) hx hb dX7_shepherds_138 (by decide) ?_
  refine m_icmp_ne C (tgt := 147) hF dX7_shepherds_139 (by decide) (fun hF => ?_) (fun hF => ?_)
  · refine lv_iload hx hb dX7_shepherds_147 (lv_at hl 2 rfl) ?_
    exact (bl_X7_shepherds_149 C) v5 S _ _ _ hF hI (lv_sub hl [] rfl)
  · refine lv_iload hx hb dX7_shepherds_142 (lv_at hl 1 rfl) ?_
    refine lv_goto (tgt := 149) hx hb dX7_shepherds_144 (by decide) ?_
    exact (bl_X7_shepherds_149 C) v4 S _ _ _ hF hI (lv_sub hl [] rfl)
set_option maxRecDepth 100000 in
set_option maxHeartbeats 4000000 in
theorem bl_X7_shepherds_71 {p : Program} {l : Launch} {e : Env} {s : State} {m : MethodId} {args : Array Value} {below : List Frame} {meth : Method} {c : Code} {E : mE} {n0 : Nat} {F : Int32 × mS} (C : mCx p s m args meth c cX7_shepherds 7 RX7 (some .int) E n0) : ∀  (v0 : Int32) (v3 : Int32) (S : mS) (H : Heap) (locs : List Loc) (ls : Array Slot), f_X7_shepherds_71 v0 v3 S = some F → mIv s E S H locs 0 → lv_has ls 7 [(0, .ref (mA E.b v0)), (3, .int v3)] → W p l e rm_X7_shepherds s m args below meth c H locs 0 0 (mQi below args s 0 0 n0 E F) (F0 m 71 ls []) := by
  have hx := C.1
  have hb := C.2.1
  intro v0 v3 S H locs ls hF hI hl
  refine lv_iconst (v := 0) hx hb dX7_shepherds_71 (by decide) ?_
  refine lv_istore (lv' := [(4, .int 0), (0, .ref (mA E.b v0)), (3, .int v3)]) hx hb dX7_shepherds_72 hl (by decide) rfl (fun ls hl => ?_)
  refine lv_bipush (v := (-5)) hx hb dX7_shepherds_74 (by decide) ?_
  refine lv_istore (lv' := [(5, .int (-5)), (4, .int 0), (0, .ref (mA E.b v0)), (3, .int v3)]) hx hb dX7_shepherds_76 hl (by decide) rfl (fun ls hl => ?_)
  refine lv_iconst (v := 0) hx hb dX7_shepherds_78 (by decide) ?_
  refine lv_istore (lv' := [(6, .int 0), (5, .int (-5)), (4, .int 0), (0, .ref (mA E.b v0)), (3, .int v3)]) hx hb dX7_shepherds_79 hl (by decide) rfl (fun ls hl => ?_)
  exact (bl_X7_shepherds_81 C (k137 := (f_X7_shepherds_137)) (bl_X7_shepherds_137 C) 1000) v0 v3 0 (-5) 0 S _ _ _ hF hI (lv_sub hl [3, 4, 2, 1, 0] rfl)
set_option maxRecDepth 100000 in
set_option maxHeartbeats 4000000 in
theorem ok_X7_shepherds {l : Launch} {E : mE} {v0 : Int32} {v1 : Int32} {v2 : Int32} {v3 : Int32} {S : mS} {F : Int32 × mS} (hF : f_X7_shepherds v0 v1 v2 v3 S = some F) : mMi l yX7_shepherds cX7_shepherds 7 (some .int) rm_X7_shepherds 0 0 [.ref (mA E.b v0), .int v1, .int v2, .int v3] E S F := by
  refine m_met_i (by decide) (Nat.le_of_ble_eq_true rfl) (fun p e s m args below meth c ls hin C hI hl => ?_)
  have hx := C.1
  have hb := C.2.1
  have hl : lv_has ls 7 [(0, .ref (mA E.b v0)), (1, .int v1), (2, .int v2), (3, .int v3)] := hl
  generalize s.heap = H at hI ⊢
  generalize ([] : List Loc) = locs at hI ⊢
  refine lv_aload_n hx hb dX7_shepherds_0 rfl (lv_at hl 0 rfl) ?_
  refine lv_iload_n hx hb dX7_shepherds_1 rfl (lv_at hl 1 rfl) ?_
  refine m_callViR C cd_X7_219 ⟨rfl, by decide⟩ hl.1 hI hF (fun _ h => ok_X7_isWhistle h) rfl rfl ⟨rfl, rfl, Nat.le_of_ble_eq_true rfl, Nat.le_of_ble_eq_true rfl⟩ ⟨Nat.le_of_ble_eq_true rfl, Nat.le_of_ble_eq_true rfl⟩ (Nat.le_of_ble_eq_true rfl) dX7_shepherds_2 (fun r1 H locs hF hI => ?_)
  refine m_if_eq C (tgt := 26) hF dX7_shepherds_5 (by decide) (fun hF => ?_) (fun hF => ?_)
  · exact (bl_X7_shepherds_26 C) v0 S _ _ _ hF hI (lv_sub hl [0] rfl)
  · refine lv_aload_n hx hb dX7_shepherds_8 rfl (lv_at hl 0 rfl) ?_
    refine lv_iload_n hx hb dX7_shepherds_9 rfl (lv_at hl 2 rfl) ?_
    refine m_callViR C cd_X7_219 ⟨rfl, by decide⟩ hl.1 hI hF (fun _ h => ok_X7_isWhistle h) rfl rfl ⟨rfl, rfl, Nat.le_of_ble_eq_true rfl, Nat.le_of_ble_eq_true rfl⟩ ⟨Nat.le_of_ble_eq_true rfl, Nat.le_of_ble_eq_true rfl⟩ (Nat.le_of_ble_eq_true rfl) dX7_shepherds_10 (fun r4 H locs hF hI => ?_)
    refine m_if_eq C (tgt := 26) hF dX7_shepherds_13 (by decide) (fun hF => ?_) (fun hF => ?_)
    · exact (bl_X7_shepherds_26 C) v0 S _ _ _ hF hI (lv_sub hl [0] rfl)
    · refine lv_iload_n hx hb dX7_shepherds_16 rfl (lv_at hl 1 rfl) ?_
      refine lv_iload_n hx hb dX7_shepherds_17 rfl (lv_at hl 2 rfl) ?_
      refine m_icmp_eq C (tgt := 26) hF dX7_shepherds_18 (by decide) (fun hF => ?_) (fun hF => ?_)
      · exact (bl_X7_shepherds_26 C) v0 S _ _ _ hF hI (lv_sub hl [0] rfl)
      · refine lv_iload_n hx hb dX7_shepherds_21 rfl (lv_at hl 3 rfl) ?_
        refine lv_iconst (v := (-1)) hx hb dX7_shepherds_22 (by decide) ?_
        refine m_icmp_ge C (tgt := 34) hF dX7_shepherds_23 (by decide) (fun hF => ?_) (fun hF => ?_)
        · refine lv_iconst (v := 0) hx hb dX7_shepherds_34 (by decide) ?_
          refine lv_istore (lv' := [(4, .int 0), (0, .ref (mA E.b v0)), (1, .int v1), (2, .int v2), (3, .int v3)]) hx hb dX7_shepherds_35 hl (by decide) rfl (fun ls hl => ?_)
          exact (bl_X7_shepherds_37 C (k71 := (f_X7_shepherds_71)) (bl_X7_shepherds_71 C) 1000) v0 v1 v2 v3 0 S _ _ _ hF hI (lv_sub hl [1, 2, 3, 4, 0] rfl)
        · exact (bl_X7_shepherds_26 C) v0 S _ _ _ hF hI (lv_sub hl [0] rfl)
noncomputable def f_X7_lay_6 (k31 : Int32 → Int64 → Int64 → Int64 → mS → Option mS) : Nat → Int32 → Int64 → Int64 → Int64 → Int64 → mS → Option mS := fun n => Nat.rec (motive := fun _ => Int32 → Int64 → Int64 → Int64 → Int64 → mS → Option mS) (fun _ _ _ _ _ _ => none) (fun _ rec v0 v1 v3 v5 v7 S => if (lg_cmp v7 0) = 0 then (k31 v0 v1 v3 v5 S) else (mNzL v7 (rec v0 v1 v3 v7 (mRemL v5 v7) S))) n
theorem f_X7_lay_6_s (k31 : Int32 → Int64 → Int64 → Int64 → mS → Option mS) (n : Nat) (v0 : Int32) (v1 : Int64) (v3 : Int64) (v5 : Int64) (v7 : Int64) (S : mS) : f_X7_lay_6 k31 (n + 1) v0 v1 v3 v5 v7 S = if (lg_cmp v7 0) = 0 then (k31 v0 v1 v3 v5 S) else (mNzL v7 ((f_X7_lay_6 k31 n) v0 v1 v3 v7 (mRemL v5 v7) S)) := rfl
noncomputable def f_X7_lay_31 (v0 : Int32) (v1 : Int64) (v3 : Int64) (v5 : Int64) (S : mS) : Option mS := mNzL v5 (mPl 7 25 v0 (v1 / v5) S (fun S1 => mNzL v5 (mPl 7 26 v0 (v3 / v5) S1 (fun S2 => some S2))))
noncomputable def f_X7_lay (v0 : Int32) (v1 : Int64) (v3 : Int64) (S : mS) : Option mS := (f_X7_lay_6 (f_X7_lay_31) 1000) v0 v1 v3 v1 v3 S
def rm_X7_lay : Room := { frames := 0, cells := 0, slots := 0, locals := 0 }
set_option maxRecDepth 100000 in
set_option maxHeartbeats 4000000 in
theorem bl_X7_lay_6 {p : Program} {l : Launch} {e : Env} {s : State} {m : MethodId} {args : Array Value} {below : List Frame} {meth : Method} {c : Code} {E : mE} {n0 : Nat} {F : mS} (C : mCx p s m args meth c cX7_lay 11 RX7 none E n0) {k31 : Int32 → Int64 → Int64 → Int64 → mS → Option mS} (hk31 : ∀ (v0 : Int32) (v1 : Int64) (v3 : Int64) (v5 : Int64) (S : mS) (H : Heap) (locs : List Loc) (ls : Array Slot), k31 v0 v1 v3 v5 S = some F → mIv s E S H locs 0 → lv_has ls 11 [(0, .ref (mA E.b v0)), (1, .long v1), (3, .long v3), (5, .long v5)] → W p l e rm_X7_lay s m args below meth c H locs 0 0 (mQv below args s 0 0 n0 E F) (F0 m 31 ls [])) : ∀ (n : Nat)  (v0 : Int32) (v1 : Int64) (v3 : Int64) (v5 : Int64) (v7 : Int64) (S : mS) (H : Heap) (locs : List Loc) (ls : Array Slot), f_X7_lay_6 k31 n v0 v1 v3 v5 v7 S = some F → mIv s E S H locs 0 → lv_has ls 11 [(0, .ref (mA E.b v0)), (1, .long v1), (3, .long v3), (5, .long v5), (7, .long v7)] → W p l e rm_X7_lay s m args below meth c H locs 0 0 (mQv below args s 0 0 n0 E F) (F0 m 6 ls []) := by
  have hx := C.1
  have hb := C.2.1
  intro n
  induction n with
  | zero =>
    intro v0 v1 v3 v5 v7 S H locs ls hF
    exact nomatch (show (none : Option mS) = some F from hF)
  | succ n ih =>
    intro v0 v1 v3 v5 v7 S H locs ls hF hI hl
    have hF := (f_X7_lay_6_s k31 n v0 v1 v3 v5 v7 S).symm.trans hF
    refine lv_lload hx hb dX7_lay_6 (lv_at hl 4 rfl) ?_
    refine lv_lconst (v := 0) hx hb dX7_lay_8 (by decide) ?_
    refine W.lcmp hx hb dX7_lay_9 ?_
    refine m_if_eq C (tgt := 31) hF dX7_lay_10 (by decide) (fun hF => ?_) (fun hF => ?_)
    · exact hk31 v0 v1 v3 v5 S _ _ _ hF hI (lv_sub hl [0, 1, 2, 3] rfl)
    · refine lv_lload hx hb dX7_lay_13 (lv_at hl 3 rfl) ?_
      refine lv_lload hx hb dX7_lay_15 (lv_at hl 4 rfl) ?_
      refine m_nzl hF (fun hz hF => ?_)
      refine m_lrem C dX7_lay_17 hz ?_
      refine lv_lstore (lv' := [(9, .long (mRemL v5 v7)), (0, .ref (mA E.b v0)), (1, .long v1), (3, .long v3), (5, .long v5), (7, .long v7)]) hx hb dX7_lay_18 hl (by decide) rfl (fun ls hl => ?_)
      refine lv_lload hx hb dX7_lay_20 (lv_at hl 5 rfl) ?_
      refine lv_lstore (lv' := [(5, .long v7), (9, .long (mRemL v5 v7)), (0, .ref (mA E.b v0)), (1, .long v1), (3, .long v3), (7, .long v7)]) hx hb dX7_lay_22 hl (by decide) rfl (fun ls hl => ?_)
      refine lv_lload hx hb dX7_lay_24 (lv_at hl 1 rfl) ?_
      refine lv_lstore (lv' := [(7, .long (mRemL v5 v7)), (5, .long v7), (9, .long (mRemL v5 v7)), (0, .ref (mA E.b v0)), (1, .long v1), (3, .long v3)]) hx hb dX7_lay_26 hl (by decide) rfl (fun ls hl => ?_)
      refine lv_goto (tgt := 6) hx hb dX7_lay_28 (by decide) ?_
      exact ih v0 v1 v3 v7 (mRemL v5 v7) S _ _ _ hF hI (lv_sub hl [3, 4, 5, 1, 0] rfl)
set_option maxRecDepth 100000 in
set_option maxHeartbeats 4000000 in
theorem bl_X7_lay_31 {p : Program} {l : Launch} {e : Env} {s : State} {m : MethodId} {args : Array Value} {below : List Frame} {meth : Method} {c : Code} {E : mE} {n0 : Nat} {F : mS} (C : mCx p s m args meth c cX7_lay 11 RX7 none E n0) : ∀  (v0 : Int32) (v1 : Int64) (v3 : Int64) (v5 : Int64) (S : mS) (H : Heap) (locs : List Loc) (ls : Array Slot), f_X7_lay_31 v0 v1 v3 v5 S = some F → mIv s E S H locs 0 → lv_has ls 11 [(0, .ref (mA E.b v0)), (1, .long v1), (3, .long v3), (5, .long v5)] → W p l e rm_X7_lay s m args below meth c H locs 0 0 (mQv below args s 0 0 n0 E F) (F0 m 31 ls []) := by
  have hx := C.1
  have hb := C.2.1
  intro v0 v1 v3 v5 S H locs ls hF hI hl
  refine lv_aload_n hx hb dX7_lay_31 rfl (lv_at hl 0 rfl) ?_
  refine lv_lload_n hx hb dX7_lay_32 rfl (lv_at hl 1 rfl) ?_
  refine lv_lload hx hb dX7_lay_33 (lv_at hl 3 rfl) ?_
  refine m_nzl hF (fun hz hF => ?_)
  refine lv_ldiv hx hb dX7_lay_35 hz ?_
  refine m_putL C fd_X7_283 hI hF dX7_lay_36 (fun S1 H locs hF hI => ?_)
  refine lv_aload_n hx hb dX7_lay_39 rfl (lv_at hl 0 rfl) ?_
  refine lv_lload_n hx hb dX7_lay_40 rfl (lv_at hl 2 rfl) ?_
  refine lv_lload hx hb dX7_lay_41 (lv_at hl 3 rfl) ?_
  refine m_nzl hF (fun hz hF => ?_)
  refine lv_ldiv hx hb dX7_lay_43 hz ?_
  refine m_putL C fd_X7_56 hI hF dX7_lay_44 (fun S2 H locs hF hI => ?_)
  exact m_vret C hI hF dX7_lay_47
set_option maxRecDepth 100000 in
set_option maxHeartbeats 4000000 in
theorem ok_X7_lay {l : Launch} {E : mE} {v0 : Int32} {v1 : Int64} {v3 : Int64} {S : mS} {F : mS} (hF : f_X7_lay v0 v1 v3 S = some F) : mMv l yX7_lay cX7_lay 11 none rm_X7_lay 0 0 [.ref (mA E.b v0), .long v1, .long v3] E S F := by
  refine m_met_v (by decide) (Nat.le_of_ble_eq_true rfl) (fun p e s m args below meth c ls hin C hI hl => ?_)
  have hx := C.1
  have hb := C.2.1
  have hl : lv_has ls 11 [(0, .ref (mA E.b v0)), (1, .long v1), (3, .long v3)] := hl
  generalize s.heap = H at hI ⊢
  generalize ([] : List Loc) = locs at hI ⊢
  refine lv_lload_n hx hb dX7_lay_0 rfl (lv_at hl 1 rfl) ?_
  refine lv_lstore (lv' := [(5, .long v1), (0, .ref (mA E.b v0)), (1, .long v1), (3, .long v3)]) hx hb dX7_lay_1 hl (by decide) rfl (fun ls hl => ?_)
  refine lv_lload_n hx hb dX7_lay_3 rfl (lv_at hl 3 rfl) ?_
  refine lv_lstore (lv' := [(7, .long v3), (5, .long v1), (0, .ref (mA E.b v0)), (1, .long v1), (3, .long v3)]) hx hb dX7_lay_4 hl (by decide) rfl (fun ls hl => ?_)
  exact (bl_X7_lay_6 C (k31 := (f_X7_lay_31)) (bl_X7_lay_31 C) 1000) v0 v1 v3 v1 v3 S _ _ _ hF hI (lv_sub hl [2, 3, 4, 1, 0] rfl)
noncomputable def f_X7_misheard_42 (v0 : Int32) (S : mS) : Option (Int32 × mS) := mRc 7 v0 S (mC (f_X7_bad v0 S) (fun r2 S3 => some (r2, S3)))
noncomputable def f_X7_misheard_191 (k53 : Int32 → Int32 → Int32 → Int32 → Int32 → Int32 → Int64 → Int32 → mS → Option (Int32 × mS)) (v0 : Int32) (v1 : Int32) (v2 : Int32) (v3 : Int32) (v4 : Int32) (v5 : Int32) (v8 : Int32) (t0 : Int64) (t1 : Int64) (S : mS) : Option (Int32 × mS) := k53 v0 v1 v2 v3 v4 v5 (t0 + t1) (v8 + 1) S
noncomputable def f_X7_misheard_170 (k53 : Int32 → Int32 → Int32 → Int32 → Int32 → Int32 → Int64 → Int32 → mS → Option (Int32 × mS)) (v0 : Int32) (v1 : Int32) (v2 : Int32) (v3 : Int32) (v4 : Int32) (v5 : Int32) (v6 : Int64) (v8 : Int32) (v12 : Int32) (t0 : Int32) (t1 : Int32) (S : mS) : Option (Int32 × mS) := mG 7 3 v0 S (fun r18 => if v12 = r18 then ((f_X7_misheard_191 k53) v0 v1 v2 v3 v4 v5 v8 v6 ((t0 * t1).toInt64) S) else ((f_X7_misheard_191 k53) v0 v1 v2 v3 v4 v5 v8 v6 0 S))
noncomputable def f_X7_misheard_152 (k53 : Int32 → Int32 → Int32 → Int32 → Int32 → Int32 → Int64 → Int32 → mS → Option (Int32 × mS)) (v0 : Int32) (v1 : Int32) (v2 : Int32) (v3 : Int32) (v4 : Int32) (v5 : Int32) (v6 : Int64) (v8 : Int32) (v12 : Int32) (t0 : Int32) (S : mS) : Option (Int32 × mS) := if (v8 / 2) = 1 then ((f_X7_misheard_170 k53) v0 v1 v2 v3 v4 v5 v6 v8 v12 t0 v5 S) else ((f_X7_misheard_170 k53) v0 v1 v2 v3 v4 v5 v6 v8 v12 t0 (10 - v5) S)
noncomputable def f_X7_misheard_53 (k200 : Int32 → Int64 → mS → Option (Int32 × mS)) : Nat → Int32 → Int32 → Int32 → Int32 → Int32 → Int32 → Int64 → Int32 → mS → Option (Int32 × mS) := fun n => Nat.rec (motive := fun _ => Int32 → Int32 → Int32 → Int32 → Int32 → Int32 → Int64 → Int32 → mS → Option (Int32 × mS)) (fun _ _ _ _ _ _ _ _ _ => none) (fun _ rec v0 v1 v2 v3 v4 v5 v6 v8 S => if 4 ≤ v8 then (k200 v0 v6 S) else (mGr 7 9 v0 S (fun r8 => mX 8 r8 v2 S (fun r9 => mG 7 4 v0 S (fun r10 => mRc 7 v0 S (mCp (f_X7_whistleThen v0 v2 r9 (mRem (v3 + (mRem v8 2)) 5) r10 S) (fun r11 => mGr 7 11 v0 S (fun r12 => mX 8 r12 v1 S (fun r13 => mRc 7 v0 S (mCp (f_X7_sheepThen v0 v1 r13 r11 S) (fun r14 => mG 7 4 v0 S (fun r15 => mRc 7 v0 S (mCp (f_X7_whistleThen v0 v2 r11 (mRem (v4 + (v8 / 2)) 5) (r15 + 1) S) (fun r16 => mRc 7 v0 S (mCp (f_X7_sheepThen v0 v1 r14 r16 S) (fun r17 => if (mRem v8 2) = 1 then ((f_X7_misheard_152 rec) v0 v1 v2 v3 v4 v5 v6 v8 r17 v5 S) else ((f_X7_misheard_152 rec) v0 v1 v2 v3 v4 v5 v6 v8 r17 (10 - v5) S))))))))))))))))) n
theorem f_X7_misheard_53_s (k200 : Int32 → Int64 → mS → Option (Int32 × mS)) (n : Nat) (v0 : Int32) (v1 : Int32) (v2 : Int32) (v3 : Int32) (v4 : Int32) (v5 : Int32) (v6 : Int64) (v8 : Int32) (S : mS) : f_X7_misheard_53 k200 (n + 1) v0 v1 v2 v3 v4 v5 v6 v8 S = if 4 ≤ v8 then (k200 v0 v6 S) else (mGr 7 9 v0 S (fun r8 => mX 8 r8 v2 S (fun r9 => mG 7 4 v0 S (fun r10 => mRc 7 v0 S (mCp (f_X7_whistleThen v0 v2 r9 (mRem (v3 + (mRem v8 2)) 5) r10 S) (fun r11 => mGr 7 11 v0 S (fun r12 => mX 8 r12 v1 S (fun r13 => mRc 7 v0 S (mCp (f_X7_sheepThen v0 v1 r13 r11 S) (fun r14 => mG 7 4 v0 S (fun r15 => mRc 7 v0 S (mCp (f_X7_whistleThen v0 v2 r11 (mRem (v4 + (v8 / 2)) 5) (r15 + 1) S) (fun r16 => mRc 7 v0 S (mCp (f_X7_sheepThen v0 v1 r14 r16 S) (fun r17 => if (mRem v8 2) = 1 then ((f_X7_misheard_152 (f_X7_misheard_53 k200 n)) v0 v1 v2 v3 v4 v5 v6 v8 r17 v5 S) else ((f_X7_misheard_152 (f_X7_misheard_53 k200 n)) v0 v1 v2 v3 v4 v5 v6 v8 r17 (10 - v5) S)))))))))))))))) := rfl
noncomputable def f_X7_misheard_200 (v0 : Int32) (v6 : Int64) (S : mS) : Option (Int32 × mS) := mRc 7 v0 S (mCv (f_X7_lay v0 v6 100 S) (fun S20 => some (1, S20)))
noncomputable def f_X7_misheard (v0 : Int32) (v1 : Int32) (v2 : Int32) (v3 : Int32) (v4 : Int32) (v5 : Int32) (S : mS) : Option (Int32 × mS) := mRc 7 v0 S (mCp (f_X7_isSheep v0 v1 S) (fun r1 => if r1 = 0 then ((f_X7_misheard_42) v0 S) else (mRc 7 v0 S (mCp (f_X7_isWhistle v0 v2 S) (fun r4 => if r4 = 0 then ((f_X7_misheard_42) v0 S) else (mCp (f_X7_isCall v3) (fun r5 => if r5 = 0 then ((f_X7_misheard_42) v0 S) else (mCp (f_X7_isCall v4) (fun r6 => if r6 = 0 then ((f_X7_misheard_42) v0 S) else (mCp (f_X7_in v5 0 10) (fun r7 => if r7 = 0 then ((f_X7_misheard_42) v0 S) else ((f_X7_misheard_53 (f_X7_misheard_200) 1000) v0 v1 v2 v3 v4 v5 0 0 S))))))))))))
def rm_X7_misheard : Room := { frames := 3, cells := 0, slots := 0, locals := 73 }
set_option maxRecDepth 100000 in
set_option maxHeartbeats 4000000 in
theorem bl_X7_misheard_42 {p : Program} {l : Launch} {e : Env} {s : State} {m : MethodId} {args : Array Value} {below : List Frame} {meth : Method} {c : Code} {E : mE} {n0 : Nat} {F : Int32 × mS} (C : mCx p s m args meth c cX7_misheard 14 RX7 (some .int) E n0) : ∀  (v0 : Int32) (S : mS) (H : Heap) (locs : List Loc) (ls : Array Slot), f_X7_misheard_42 v0 S = some F → mIv s E S H locs 0 → lv_has ls 14 [(0, .ref (mA E.b v0))] → W p l e rm_X7_misheard s m args below meth c H locs 0 0 (mQi below args s 0 0 n0 E F) (F0 m 42 ls []) := by
  have hx := C.1
  have hb := C.2.1
  intro v0 S H locs ls hF hI hl
  refine lv_aload_n hx hb dX7_misheard_42 rfl (lv_at hl 0 rfl) ?_
  refine m_callVi C cd_X7_103 ⟨rfl, by decide⟩ hl.1 hI hF (fun _ h => ok_X7_bad h) rfl rfl ⟨rfl, rfl, Nat.le_of_ble_eq_true rfl, Nat.le_of_ble_eq_true rfl⟩ ⟨Nat.le_of_ble_eq_true rfl, Nat.le_of_ble_eq_true rfl⟩ (Nat.le_of_ble_eq_true rfl) dX7_misheard_43 (fun r2 S3 H locs hF hI => ?_)
  exact m_ireti C hI hF dX7_misheard_46
set_option maxRecDepth 100000 in
set_option maxHeartbeats 4000000 in
theorem bl_X7_misheard_191 {p : Program} {l : Launch} {e : Env} {s : State} {m : MethodId} {args : Array Value} {below : List Frame} {meth : Method} {c : Code} {E : mE} {n0 : Nat} {F : Int32 × mS} (C : mCx p s m args meth c cX7_misheard 14 RX7 (some .int) E n0) {k53 : Int32 → Int32 → Int32 → Int32 → Int32 → Int32 → Int64 → Int32 → mS → Option (Int32 × mS)} (hk53 : ∀ (v0 : Int32) (v1 : Int32) (v2 : Int32) (v3 : Int32) (v4 : Int32) (v5 : Int32) (v6 : Int64) (v8 : Int32) (S : mS) (H : Heap) (locs : List Loc) (ls : Array Slot), k53 v0 v1 v2 v3 v4 v5 v6 v8 S = some F → mIv s E S H locs 0 → lv_has ls 14 [(0, .ref (mA E.b v0)), (1, .int v1), (2, .int v2), (3, .int v3), (4, .int v4), (5, .int v5), (6, .long v6), (8, .int v8)] → W p l e rm_X7_misheard s m args below meth c H locs 0 0 (mQi below args s 0 0 n0 E F) (F0 m 53 ls [])) : ∀  (v0 : Int32) (v1 : Int32) (v2 : Int32) (v3 : Int32) (v4 : Int32) (v5 : Int32) (v8 : Int32) (t0 : Int64) (t1 : Int64) (S : mS) (H : Heap) (locs : List Loc) (ls : Array Slot), f_X7_misheard_191 k53 v0 v1 v2 v3 v4 v5 v8 t0 t1 S = some F → mIv s E S H locs 0 → lv_has ls 14 [(0, .ref (mA E.b v0)), (1, .int v1), (2, .int v2), (3, .int v3), (4, .int v4), (5, .int v5), (8, .int v8)] → W p l e rm_X7_misheard s m args below meth c H locs 0 0 (mQi below args s 0 0 n0 E F) (F0 m 191 ls [.long t1, .long t0]) := by
  have hx := C.1
  have hb := C.2.1
  intro v0 v1 v2 v3 v4 v5 v8 t0 t1 S H locs ls hF hI hl
  refine lv_ladd hx hb dX7_misheard_191 ?_
  refine lv_lstore (lv' := [(6, .long (t0 + t1)), (0, .ref (mA E.b v0)), (1, .int v1), (2, .int v2), (3, .int v3), (4, .int v4), (5, .int v5), (8, .int v8)]) hx hb dX7_misheard_192 hl (by decide) rfl (fun ls hl => ?_)
  refine lv_iinc (v := v8 + 1) (lv' := [(8, .int (v8 + 1)), (6, .long (t0 + t1)), (0, .ref (mA E.b v0)), (1, .int v1), (2, .int v2), (3, .int v3), (4, .int v4), (5, .int v5)]) hx hb dX7_misheard_194 hl (k := 7) rfl rfl (by decide) rfl (fun ls hl => ?_)
  refine lv_goto (tgt := 53) hx hb dX7_misheard_197 (by decide) ?_
  exact hk53 v0 v1 v2 v3 v4 v5 (t0 + t1) (v8 + 1) S _ _ _ hF hI (lv_sub hl [2, 3, 4, 5, 6, 7, 1, 0] rfl)
set_option maxRecDepth 100000 in
set_option maxHeartbeats 4000000 in
theorem bl_X7_misheard_170 {p : Program} {l : Launch} {e : Env} {s : State} {m : MethodId} {args : Array Value} {below : List Frame} {meth : Method} {c : Code} {E : mE} {n0 : Nat} {F : Int32 × mS} (C : mCx p s m args meth c cX7_misheard 14 RX7 (some .int) E n0) {k53 : Int32 → Int32 → Int32 → Int32 → Int32 → Int32 → Int64 → Int32 → mS → Option (Int32 × mS)} (hk53 : ∀ (v0 : Int32) (v1 : Int32) (v2 : Int32) (v3 : Int32) (v4 : Int32) (v5 : Int32) (v6 : Int64) (v8 : Int32) (S : mS) (H : Heap) (locs : List Loc) (ls : Array Slot), k53 v0 v1 v2 v3 v4 v5 v6 v8 S = some F → mIv s E S H locs 0 → lv_has ls 14 [(0, .ref (mA E.b v0)), (1, .int v1), (2, .int v2), (3, .int v3), (4, .int v4), (5, .int v5), (6, .long v6), (8, .int v8)] → W p l e rm_X7_misheard s m args below meth c H locs 0 0 (mQi below args s 0 0 n0 E F) (F0 m 53 ls [])) : ∀  (v0 : Int32) (v1 : Int32) (v2 : Int32) (v3 : Int32) (v4 : Int32) (v5 : Int32) (v6 : Int64) (v8 : Int32) (v12 : Int32) (t0 : Int32) (t1 : Int32) (S : mS) (H : Heap) (locs : List Loc) (ls : Array Slot), f_X7_misheard_170 k53 v0 v1 v2 v3 v4 v5 v6 v8 v12 t0 t1 S = some F → mIv s E S H locs 0 → lv_has ls 14 [(0, .ref (mA E.b v0)), (1, .int v1), (2, .int v2), (3, .int v3), (4, .int v4), (5, .int v5), (6, .long v6), (8, .int v8), (12, .int v12)] → W p l e rm_X7_misheard s m args below meth c H locs 0 0 (mQi below args s 0 0 n0 E F) (F0 m 170 ls [.int t1, .int t0]) := by
  have hx := C.1
  have hb := C.2.1
  intro v0 v1 v2 v3 v4 v5 v6 v8 v12 t0 t1 S H locs ls hF hI hl
  refine lv_imul hx hb dX7_misheard_170 ?_
  refine lv_istore (lv' := [(13, .int (t0 * t1)), (0, .ref (mA E.b v0)), (1, .int v1), (2, .int v2), (3, .int v3), (4, .int v4), (5, .int v5), (6, .long v6), (8, .int v8), (12, .int v12)]) hx hb dX7_misheard_171 hl (by decide) rfl (fun ls hl => ?_)
  refine lv_lload hx hb dX7_misheard_173 (lv_at hl 7 rfl) ?_
  refine lv_iload hx hb dX7_misheard_175 (lv_at hl 9 rfl) ?_
  refine lv_aload_n hx hb dX7_misheard_177 rfl (lv_at hl 1 rfl) ?_
  refine m_get C fd_X7_77 hI hF dX7_misheard_178 (fun r18 hF => ?_)
  refine m_icmp_ne C (tgt := 190) hF dX7_misheard_181 (by decide) (fun hF => ?_) (fun hF => ?_)
  · refine lv_lconst (v := 0) hx hb dX7_misheard_190 (by decide) ?_
    exact (bl_X7_misheard_191 C (k53 := k53) hk53) v0 v1 v2 v3 v4 v5 v8 v6 0 S _ _ _ hF hI (lv_sub hl [1, 2, 3, 4, 5, 6, 8] rfl)
  · refine lv_iload hx hb dX7_misheard_184 (lv_at hl 0 rfl) ?_
    refine lv_i2l hx hb dX7_misheard_186 rfl ?_
    refine lv_goto (tgt := 191) hx hb dX7_misheard_187 (by decide) ?_
    exact (bl_X7_misheard_191 C (k53 := k53) hk53) v0 v1 v2 v3 v4 v5 v8 v6 ((t0 * t1).toInt64) S _ _ _ hF hI (lv_sub hl [1, 2, 3, 4, 5, 6, 8] rfl)
set_option maxRecDepth 100000 in
set_option maxHeartbeats 4000000 in
theorem bl_X7_misheard_152 {p : Program} {l : Launch} {e : Env} {s : State} {m : MethodId} {args : Array Value} {below : List Frame} {meth : Method} {c : Code} {E : mE} {n0 : Nat} {F : Int32 × mS} (C : mCx p s m args meth c cX7_misheard 14 RX7 (some .int) E n0) {k53 : Int32 → Int32 → Int32 → Int32 → Int32 → Int32 → Int64 → Int32 → mS → Option (Int32 × mS)} (hk53 : ∀ (v0 : Int32) (v1 : Int32) (v2 : Int32) (v3 : Int32) (v4 : Int32) (v5 : Int32) (v6 : Int64) (v8 : Int32) (S : mS) (H : Heap) (locs : List Loc) (ls : Array Slot), k53 v0 v1 v2 v3 v4 v5 v6 v8 S = some F → mIv s E S H locs 0 → lv_has ls 14 [(0, .ref (mA E.b v0)), (1, .int v1), (2, .int v2), (3, .int v3), (4, .int v4), (5, .int v5), (6, .long v6), (8, .int v8)] → W p l e rm_X7_misheard s m args below meth c H locs 0 0 (mQi below args s 0 0 n0 E F) (F0 m 53 ls [])) : ∀  (v0 : Int32) (v1 : Int32) (v2 : Int32) (v3 : Int32) (v4 : Int32) (v5 : Int32) (v6 : Int64) (v8 : Int32) (v12 : Int32) (t0 : Int32) (S : mS) (H : Heap) (locs : List Loc) (ls : Array Slot), f_X7_misheard_152 k53 v0 v1 v2 v3 v4 v5 v6 v8 v12 t0 S = some F → mIv s E S H locs 0 → lv_has ls 14 [(0, .ref (mA E.b v0)), (1, .int v1), (2, .int v2), (3, .int v3), (4, .int v4), (5, .int v5), (6, .long v6), (8, .int v8), (12, .int v12)] → W p l e rm_X7_misheard s m args below meth c H locs 0 0 (mQi below args s 0 0 n0 E F) (F0 m 152 ls [.int t0]) := by
  have hx := C.1
  have hb := C.2.1
  intro v0 v1 v2 v3 v4 v5 v6 v8 v12 t0 S H locs ls hF hI hl
  refine lv_iload hx hb dX7_misheard_152 (lv_at hl 7 rfl) ?_
  refine lv_iconst (v := 2) hx hb dX7_misheard_154 (by decide) ?_
  refine lv_idiv hx hb dX7_misheard_155 (by decide) ?_
  refine lv_iconst (v := 1) hx hb dX7_misheard_156 (by decide) ?_
  refine m_icmp_ne C (tgt := 165) hF dX7_misheard_157 (by decide) (fun hF => ?_) (fun hF => ?_)
  · refine lv_bipush (v := 10) hx hb dX7_misheard_165 (by decide) ?_
    refine lv_iload hx hb dX7_misheard_167 (lv_at hl 5 rfl) ?_
    refine lv_isub hx hb dX7_misheard_169 ?_
    exact (bl_X7_misheard_170 C (k53 := k53) hk53) v0 v1 v2 v3 v4 v5 v6 v8 v12 t0 (10 - v5) S _ _ _ hF hI (lv_sub hl [0, 1, 2, 3, 4, 5, 6, 7, 8] rfl)
  · refine lv_iload hx hb dX7_misheard_160 (lv_at hl 5 rfl) ?_
    refine lv_goto (tgt := 170) hx hb dX7_misheard_162 (by decide) ?_
    exact (bl_X7_misheard_170 C (k53 := k53) hk53) v0 v1 v2 v3 v4 v5 v6 v8 v12 t0 v5 S _ _ _ hF hI (lv_sub hl [0, 1, 2, 3, 4, 5, 6, 7, 8] rfl)
set_option maxRecDepth 100000 in
set_option maxHeartbeats 4000000 in
theorem bl_X7_misheard_53 {p : Program} {l : Launch} {e : Env} {s : State} {m : MethodId} {args : Array Value} {below : List Frame} {meth : Method} {c : Code} {E : mE} {n0 : Nat} {F : Int32 × mS} (C : mCx p s m args meth c cX7_misheard 14 RX7 (some .int) E n0) {k200 : Int32 → Int64 → mS → Option (Int32 × mS)} (hk200 : ∀ (v0 : Int32) (v6 : Int64) (S : mS) (H : Heap) (locs : List Loc) (ls : Array Slot), k200 v0 v6 S = some F → mIv s E S H locs 0 → lv_has ls 14 [(0, .ref (mA E.b v0)), (6, .long v6)] → W p l e rm_X7_misheard s m args below meth c H locs 0 0 (mQi below args s 0 0 n0 E F) (F0 m 200 ls [])) : ∀ (n : Nat)  (v0 : Int32) (v1 : Int32) (v2 : Int32) (v3 : Int32) (v4 : Int32) (v5 : Int32) (v6 : Int64) (v8 : Int32) (S : mS) (H : Heap) (locs : List Loc) (ls : Array Slot), f_X7_misheard_53 k200 n v0 v1 v2 v3 v4 v5 v6 v8 S = some F → mIv s E S H locs 0 → lv_has ls 14 [(0, .ref (mA E.b v0)), (1, .int v1), (2, .int v2), (3, .int v3), (4, .int v4), (5, .int v5), (6, .long v6), (8, .int v8)] → W p l e rm_X7_misheard s m args below meth c H locs 0 0 (mQi below args s 0 0 n0 E F) (F0 m 53 ls []) := by
  have hx := C.1
  have hb := C.2.1
  intro n
  induction n with
  | zero =>
    intro v0 v1 v2 v3 v4 v5 v6 v8 S H locs ls hF
    exact nomatch (show (none : Option (Int32 × mS)) = some F from hF)
  | succ n ih =>
    intro v0 v1 v2 v3 v4 v5 v6 v8 S H locs ls hF hI hl
    have hF := (f_X7_misheard_53_s k200 n v0 v1 v2 v3 v4 v5 v6 v8 S).symm.trans hF
    refine lv_iload hx hb dX7_misheard_53 (lv_at hl 7 rfl) ?_
    refine lv_iconst (v := 4) hx hb dX7_misheard_55 (by decide) ?_
    refine m_icmp_ge C (tgt := 200) hF dX7_misheard_56 (by decide) (fun hF => ?_) (fun hF => ?_)
    · exact hk200 v0 v6 S _ _ _ hF hI (lv_sub hl [0, 6] rfl)
    · refine lv_aload_n hx hb dX7_misheard_59 rfl (lv_at hl 0 rfl) ?_
      refine lv_iload_n hx hb dX7_misheard_60 rfl (lv_at hl 2 rfl) ?_
      refine lv_aload_n hx hb dX7_misheard_61 rfl (lv_at hl 0 rfl) ?_
      refine m_getR C fd_X7_20 hI hF dX7_misheard_62 (fun r8 hF => ?_)
      refine lv_iload_n hx hb dX7_misheard_65 rfl (lv_at hl 2 rfl) ?_
      refine m_iald C hI hF dX7_misheard_66 (fun r9 hF => ?_)
      refine lv_iload_n hx hb dX7_misheard_67 rfl (lv_at hl 3 rfl) ?_
      refine lv_iload hx hb dX7_misheard_68 (lv_at hl 7 rfl) ?_
      refine lv_iconst (v := 2) hx hb dX7_misheard_70 (by decide) ?_
      refine m_irem C dX7_misheard_71 (by decide) ?_
      refine lv_iadd hx hb dX7_misheard_72 ?_
      refine lv_iconst (v := 5) hx hb dX7_misheard_73 (by decide) ?_
      refine m_irem C dX7_misheard_74 (by decide) ?_
      refine lv_aload_n hx hb dX7_misheard_75 rfl (lv_at hl 0 rfl) ?_
      refine m_get C fd_X7_80 hI hF dX7_misheard_76 (fun r10 hF => ?_)
      refine m_callViR C cd_X7_209 ⟨rfl, by decide⟩ hl.1 hI hF (fun _ h => ok_X7_whistleThen h) rfl rfl ⟨rfl, rfl, Nat.le_of_ble_eq_true rfl, Nat.le_of_ble_eq_true rfl⟩ ⟨Nat.le_of_ble_eq_true rfl, Nat.le_of_ble_eq_true rfl⟩ (Nat.le_of_ble_eq_true rfl) dX7_misheard_79 (fun r11 H locs hF hI => ?_)
      refine lv_istore (lv' := [(9, .int r11), (0, .ref (mA E.b v0)), (1, .int v1), (2, .int v2), (3, .int v3), (4, .int v4), (5, .int v5), (6, .long v6), (8, .int v8)]) hx hb dX7_misheard_82 hl (by decide) rfl (fun ls hl => ?_)
      refine lv_aload_n hx hb dX7_misheard_84 rfl (lv_at hl 1 rfl) ?_
      refine lv_iload_n hx hb dX7_misheard_85 rfl (lv_at hl 2 rfl) ?_
      refine lv_aload_n hx hb dX7_misheard_86 rfl (lv_at hl 1 rfl) ?_
      refine m_getR C fd_X7_26 hI hF dX7_misheard_87 (fun r12 hF => ?_)
      refine lv_iload_n hx hb dX7_misheard_90 rfl (lv_at hl 2 rfl) ?_
      refine m_iald C hI hF dX7_misheard_91 (fun r13 hF => ?_)
      refine lv_iload hx hb dX7_misheard_92 (lv_at hl 0 rfl) ?_
      refine m_callViR C cd_X7_213 ⟨rfl, by decide⟩ hl.1 hI hF (fun _ h => ok_X7_sheepThen h) rfl rfl ⟨rfl, rfl, Nat.le_of_ble_eq_true rfl, Nat.le_of_ble_eq_true rfl⟩ ⟨Nat.le_of_ble_eq_true rfl, Nat.le_of_ble_eq_true rfl⟩ (Nat.le_of_ble_eq_true rfl) dX7_misheard_94 (fun r14 H locs hF hI => ?_)
      refine lv_istore (lv' := [(10, .int r14), (9, .int r11), (0, .ref (mA E.b v0)), (1, .int v1), (2, .int v2), (3, .int v3), (4, .int v4), (5, .int v5), (6, .long v6), (8, .int v8)]) hx hb dX7_misheard_97 hl (by decide) rfl (fun ls hl => ?_)
      refine lv_aload_n hx hb dX7_misheard_99 rfl (lv_at hl 2 rfl) ?_
      refine lv_iload_n hx hb dX7_misheard_100 rfl (lv_at hl 4 rfl) ?_
      refine lv_iload hx hb dX7_misheard_101 (lv_at hl 1 rfl) ?_
      refine lv_iload hx hb dX7_misheard_103 (lv_at hl 6 rfl) ?_
      refine lv_iload hx hb dX7_misheard_105 (lv_at hl 9 rfl) ?_
      refine lv_iconst (v := 2) hx hb dX7_misheard_107 (by decide) ?_
      refine lv_idiv hx hb dX7_misheard_108 (by decide) ?_
      refine lv_iadd hx hb dX7_misheard_109 ?_
      refine lv_iconst (v := 5) hx hb dX7_misheard_110 (by decide) ?_
      refine m_irem C dX7_misheard_111 (by decide) ?_
      refine lv_aload_n hx hb dX7_misheard_112 rfl (lv_at hl 2 rfl) ?_
      refine m_get C fd_X7_80 hI hF dX7_misheard_113 (fun r15 hF => ?_)
      refine lv_iconst (v := 1) hx hb dX7_misheard_116 (by decide) ?_
      refine lv_iadd hx hb dX7_misheard_117 ?_
      refine m_callViR C cd_X7_209 ⟨rfl, by decide⟩ hl.1 hI hF (fun _ h => ok_X7_whistleThen h) rfl rfl ⟨rfl, rfl, Nat.le_of_ble_eq_true rfl, Nat.le_of_ble_eq_true rfl⟩ ⟨Nat.le_of_ble_eq_true rfl, Nat.le_of_ble_eq_true rfl⟩ (Nat.le_of_ble_eq_true rfl) dX7_misheard_118 (fun r16 H locs hF hI => ?_)
      refine lv_istore (lv' := [(11, .int r16), (10, .int r14), (9, .int r11), (0, .ref (mA E.b v0)), (1, .int v1), (2, .int v2), (3, .int v3), (4, .int v4), (5, .int v5), (6, .long v6), (8, .int v8)]) hx hb dX7_misheard_121 hl (by decide) rfl (fun ls hl => ?_)
      refine lv_aload_n hx hb dX7_misheard_123 rfl (lv_at hl 3 rfl) ?_
      refine lv_iload_n hx hb dX7_misheard_124 rfl (lv_at hl 4 rfl) ?_
      refine lv_iload hx hb dX7_misheard_125 (lv_at hl 1 rfl) ?_
      refine lv_iload hx hb dX7_misheard_127 (lv_at hl 0 rfl) ?_
      refine m_callViR C cd_X7_213 ⟨rfl, by decide⟩ hl.1 hI hF (fun _ h => ok_X7_sheepThen h) rfl rfl ⟨rfl, rfl, Nat.le_of_ble_eq_true rfl, Nat.le_of_ble_eq_true rfl⟩ ⟨Nat.le_of_ble_eq_true rfl, Nat.le_of_ble_eq_true rfl⟩ (Nat.le_of_ble_eq_true rfl) dX7_misheard_129 (fun r17 H locs hF hI => ?_)
      refine lv_istore (lv' := [(12, .int r17), (11, .int r16), (10, .int r14), (9, .int r11), (0, .ref (mA E.b v0)), (1, .int v1), (2, .int v2), (3, .int v3), (4, .int v4), (5, .int v5), (6, .long v6), (8, .int v8)]) hx hb dX7_misheard_132 hl (by decide) rfl (fun ls hl => ?_)
      refine lv_iload hx hb dX7_misheard_134 (lv_at hl 11 rfl) ?_
      refine lv_iconst (v := 2) hx hb dX7_misheard_136 (by decide) ?_
      refine m_irem C dX7_misheard_137 (by decide) ?_
      refine lv_iconst (v := 1) hx hb dX7_misheard_138 (by decide) ?_
      refine m_icmp_ne C (tgt := 147) hF dX7_misheard_139 (by decide) (fun hF => ?_) (fun hF => ?_)
      · refine lv_bipush (v := 10) hx hb dX7_misheard_147 (by decide) ?_
        refine lv_iload hx hb dX7_misheard_149 (lv_at hl 9 rfl) ?_
        refine lv_isub hx hb dX7_misheard_151 ?_
        exact (bl_X7_misheard_152 C (k53 := (f_X7_misheard_53 k200 n)) ih) v0 v1 v2 v3 v4 v5 v6 v8 r17 (10 - v5) S _ _ _ hF hI (lv_sub hl [4, 5, 6, 7, 8, 9, 10, 11, 0] rfl)
      · refine lv_iload hx hb dX7_misheard_142 (lv_at hl 9 rfl) ?_
        refine lv_goto (tgt := 152) hx hb dX7_misheard_144 (by decide) ?_
        exact (bl_X7_misheard_152 C (k53 := (f_X7_misheard_53 k200 n)) ih) v0 v1 v2 v3 v4 v5 v6 v8 r17 v5 S _ _ _ hF hI (lv_sub hl [4, 5, 6, 7, 8, 9, 10, 11, 0] rfl)
set_option maxRecDepth 100000 in
set_option maxHeartbeats 4000000 in
theorem bl_X7_misheard_200 {p : Program} {l : Launch} {e : Env} {s : State} {m : MethodId} {args : Array Value} {below : List Frame} {meth : Method} {c : Code} {E : mE} {n0 : Nat} {F : Int32 × mS} (C : mCx p s m args meth c cX7_misheard 14 RX7 (some .int) E n0) : ∀  (v0 : Int32) (v6 : Int64) (S : mS) (H : Heap) (locs : List Loc) (ls : Array Slot), f_X7_misheard_200 v0 v6 S = some F → mIv s E S H locs 0 → lv_has ls 14 [(0, .ref (mA E.b v0)), (6, .long v6)] → W p l e rm_X7_misheard s m args below meth c H locs 0 0 (mQi below args s 0 0 n0 E F) (F0 m 200 ls []) := by
  have hx := C.1
  have hb := C.2.1
  intro v0 v6 S H locs ls hF hI hl
  refine lv_aload_n hx hb dX7_misheard_200 rfl (lv_at hl 0 rfl) ?_
  refine lv_lload hx hb dX7_misheard_201 (lv_at hl 1 rfl) ?_
  refine lv_ldc2 (v := 100) hx hb C.2.2.2.1 (C.2.2.2.2.1 _ kw_X7_286) dX7_misheard_203 ?_
  refine m_callVv C cd_X7_288 ⟨rfl, by decide⟩ hl.1 hI hF (fun _ h => ok_X7_lay h) rfl rfl ⟨rfl, rfl, Nat.le_of_ble_eq_true rfl, Nat.le_of_ble_eq_true rfl⟩ ⟨Nat.le_of_ble_eq_true rfl, Nat.le_of_ble_eq_true rfl⟩ (Nat.le_of_ble_eq_true rfl) dX7_misheard_206 (fun S20 H locs hF hI => ?_)
  refine lv_iconst (v := 1) hx hb dX7_misheard_209 (by decide) ?_
  exact m_ireti C hI hF dX7_misheard_210
set_option maxRecDepth 100000 in
set_option maxHeartbeats 4000000 in
theorem ok_X7_misheard {l : Launch} {E : mE} {v0 : Int32} {v1 : Int32} {v2 : Int32} {v3 : Int32} {v4 : Int32} {v5 : Int32} {S : mS} {F : Int32 × mS} (hF : f_X7_misheard v0 v1 v2 v3 v4 v5 S = some F) : mMi l yX7_misheard cX7_misheard 14 (some .int) rm_X7_misheard 0 0 [.ref (mA E.b v0), .int v1, .int v2, .int v3, .int v4, .int v5] E S F := by
  refine m_met_i (by decide) (Nat.le_of_ble_eq_true rfl) (fun p e s m args below meth c ls hin C hI hl => ?_)
  have hx := C.1
  have hb := C.2.1
  have hl : lv_has ls 14 [(0, .ref (mA E.b v0)), (1, .int v1), (2, .int v2), (3, .int v3), (4, .int v4), (5, .int v5)] := hl
  generalize s.heap = H at hI ⊢
  generalize ([] : List Loc) = locs at hI ⊢
  refine lv_aload_n hx hb dX7_misheard_0 rfl (lv_at hl 0 rfl) ?_
  refine lv_iload_n hx hb dX7_misheard_1 rfl (lv_at hl 1 rfl) ?_
  refine m_callViR C cd_X7_231 ⟨rfl, by decide⟩ hl.1 hI hF (fun _ h => ok_X7_isSheep h) rfl rfl ⟨rfl, rfl, Nat.le_of_ble_eq_true rfl, Nat.le_of_ble_eq_true rfl⟩ ⟨Nat.le_of_ble_eq_true rfl, Nat.le_of_ble_eq_true rfl⟩ (Nat.le_of_ble_eq_true rfl) dX7_misheard_2 (fun r1 H locs hF hI => ?_)
  refine m_if_eq C (tgt := 42) hF dX7_misheard_5 (by decide) (fun hF => ?_) (fun hF => ?_)
  · exact (bl_X7_misheard_42 C) v0 S _ _ _ hF hI (lv_sub hl [0] rfl)
  · refine lv_aload_n hx hb dX7_misheard_8 rfl (lv_at hl 0 rfl) ?_
    refine lv_iload_n hx hb dX7_misheard_9 rfl (lv_at hl 2 rfl) ?_
    refine m_callViR C cd_X7_219 ⟨rfl, by decide⟩ hl.1 hI hF (fun _ h => ok_X7_isWhistle h) rfl rfl ⟨rfl, rfl, Nat.le_of_ble_eq_true rfl, Nat.le_of_ble_eq_true rfl⟩ ⟨Nat.le_of_ble_eq_true rfl, Nat.le_of_ble_eq_true rfl⟩ (Nat.le_of_ble_eq_true rfl) dX7_misheard_10 (fun r4 H locs hF hI => ?_)
    refine m_if_eq C (tgt := 42) hF dX7_misheard_13 (by decide) (fun hF => ?_) (fun hF => ?_)
    · exact (bl_X7_misheard_42 C) v0 S _ _ _ hF hI (lv_sub hl [0] rfl)
    · refine lv_iload_n hx hb dX7_misheard_16 rfl (lv_at hl 3 rfl) ?_
      refine m_callSiR C cd_X7_222 hl.1 hI hF (fun _ h => ok_X7_isCall h) rfl rfl ⟨rfl, rfl, Nat.le_of_ble_eq_true rfl, Nat.le_of_ble_eq_true rfl⟩ ⟨Nat.le_of_ble_eq_true rfl, Nat.le_of_ble_eq_true rfl⟩ (Nat.le_of_ble_eq_true rfl) dX7_misheard_17 (fun r5 H locs hF hI => ?_)
      refine m_if_eq C (tgt := 42) hF dX7_misheard_20 (by decide) (fun hF => ?_) (fun hF => ?_)
      · exact (bl_X7_misheard_42 C) v0 S _ _ _ hF hI (lv_sub hl [0] rfl)
      · refine lv_iload hx hb dX7_misheard_23 (lv_at hl 4 rfl) ?_
        refine m_callSiR C cd_X7_222 hl.1 hI hF (fun _ h => ok_X7_isCall h) rfl rfl ⟨rfl, rfl, Nat.le_of_ble_eq_true rfl, Nat.le_of_ble_eq_true rfl⟩ ⟨Nat.le_of_ble_eq_true rfl, Nat.le_of_ble_eq_true rfl⟩ (Nat.le_of_ble_eq_true rfl) dX7_misheard_25 (fun r6 H locs hF hI => ?_)
        refine m_if_eq C (tgt := 42) hF dX7_misheard_28 (by decide) (fun hF => ?_) (fun hF => ?_)
        · exact (bl_X7_misheard_42 C) v0 S _ _ _ hF hI (lv_sub hl [0] rfl)
        · refine lv_iload hx hb dX7_misheard_31 (lv_at hl 5 rfl) ?_
          refine lv_iconst (v := 0) hx hb dX7_misheard_33 (by decide) ?_
          refine lv_bipush (v := 10) hx hb dX7_misheard_34 (by decide) ?_
          refine m_callSiR C cd_X7_95 hl.1 hI hF (fun _ h => ok_X7_in h) rfl rfl ⟨rfl, rfl, Nat.le_of_ble_eq_true rfl, Nat.le_of_ble_eq_true rfl⟩ ⟨Nat.le_of_ble_eq_true rfl, Nat.le_of_ble_eq_true rfl⟩ (Nat.le_of_ble_eq_true rfl) dX7_misheard_36 (fun r7 H locs hF hI => ?_)
          refine m_if_ne C (tgt := 47) hF dX7_misheard_39 (by decide) (fun hF => ?_) (fun hF => ?_)
          · refine lv_lconst (v := 0) hx hb dX7_misheard_47 (by decide) ?_
            refine lv_lstore (lv' := [(6, .long 0), (0, .ref (mA E.b v0)), (1, .int v1), (2, .int v2), (3, .int v3), (4, .int v4), (5, .int v5)]) hx hb dX7_misheard_48 hl (by decide) rfl (fun ls hl => ?_)
            refine lv_iconst (v := 0) hx hb dX7_misheard_50 (by decide) ?_
            refine lv_istore (lv' := [(8, .int 0), (6, .long 0), (0, .ref (mA E.b v0)), (1, .int v1), (2, .int v2), (3, .int v3), (4, .int v4), (5, .int v5)]) hx hb dX7_misheard_51 hl (by decide) rfl (fun ls hl => ?_)
            exact (bl_X7_misheard_53 C (k200 := (f_X7_misheard_200)) (bl_X7_misheard_200 C) 1000) v0 v1 v2 v3 v4 v5 0 0 S _ _ _ hF hI (lv_sub hl [2, 3, 4, 5, 6, 7, 1, 0] rfl)
          · exact (bl_X7_misheard_42 C) v0 S _ _ _ hF hI (lv_sub hl [0] rfl)
noncomputable def f_X7_winters_21 (v0 : Int32) (S : mS) : Option (Int32 × mS) := mRc 7 v0 S (mC (f_X7_bad v0 S) (fun r2 S3 => some (r2, S3)))
noncomputable def f_X7_winters_112 (k41 : Int32 → Int32 → Int64 → Int32 → mS → Option (Int32 × mS)) (v0 : Int32) (v2 : Int32) (v3 : Int64) (v5 : Int32) (S : mS) : Option (Int32 × mS) := k41 v0 v2 v3 (v5 + 1) S
noncomputable def f_X7_winters_41 (k118 : Int32 → mS → Option (Int32 × mS)) : Nat → Int32 → Int32 → Int64 → Int32 → mS → Option (Int32 × mS) := fun n => Nat.rec (motive := fun _ => Int32 → Int32 → Int64 → Int32 → mS → Option (Int32 × mS)) (fun _ _ _ _ _ => none) (fun _ rec v0 v2 v3 v5 S => if v2 ≤ v5 then (k118 v0 S) else (mRc 7 v0 S (mCp (f_X7_isWhistle v0 ((mRemL ((mRemL ((v3 * 1103515245) + 12345) 2147483648) / 65536) 3).toInt32) S) (fun r8 => if r8 = 0 then (mG 7 4 v0 S (fun r9 => mP 7 4 v0 (r9 + 1) S (fun S10 => (f_X7_winters_112 rec) v0 v2 (mRemL ((v3 * 1103515245) + 12345) 2147483648) v5 S10))) else (mRc 7 v0 S (mC (f_X7_comes v0 ((mRemL ((mRemL ((v3 * 1103515245) + 12345) 2147483648) / 65536) 3).toInt32) ((mRemL ((mRemL ((v3 * 1103515245) + 12345) 2147483648) / 1048576) 5).toInt32) S) (fun r11 S12 => (f_X7_winters_112 rec) v0 v2 (mRemL ((v3 * 1103515245) + 12345) 2147483648) v5 S12))))))) n
theorem f_X7_winters_41_s (k118 : Int32 → mS → Option (Int32 × mS)) (n : Nat) (v0 : Int32) (v2 : Int32) (v3 : Int64) (v5 : Int32) (S : mS) : f_X7_winters_41 k118 (n + 1) v0 v2 v3 v5 S = if v2 ≤ v5 then (k118 v0 S) else (mRc 7 v0 S (mCp (f_X7_isWhistle v0 ((mRemL ((mRemL ((v3 * 1103515245) + 12345) 2147483648) / 65536) 3).toInt32) S) (fun r8 => if r8 = 0 then (mG 7 4 v0 S (fun r9 => mP 7 4 v0 (r9 + 1) S (fun S10 => (f_X7_winters_112 (f_X7_winters_41 k118 n)) v0 v2 (mRemL ((v3 * 1103515245) + 12345) 2147483648) v5 S10))) else (mRc 7 v0 S (mC (f_X7_comes v0 ((mRemL ((mRemL ((v3 * 1103515245) + 12345) 2147483648) / 65536) 3).toInt32) ((mRemL ((mRemL ((v3 * 1103515245) + 12345) 2147483648) / 1048576) 5).toInt32) S) (fun r11 S12 => (f_X7_winters_112 (f_X7_winters_41 k118 n)) v0 v2 (mRemL ((v3 * 1103515245) + 12345) 2147483648) v5 S12)))))) := rfl
noncomputable def f_X7_winters_118 (v0 : Int32) (S : mS) : Option (Int32 × mS) := mRc 7 v0 S (mCp (f_X7_foldedMany v0 S) (fun r13 => mGr 7 22 v0 S (fun r14 => mRc 7 v0 S (mCv (f_X7_takes v0 r14 0 S) (fun S16 => some (r13, S16))))))
noncomputable def f_X7_winters (v0 : Int32) (v1 : Int32) (v2 : Int32) (S : mS) : Option (Int32 × mS) := mCp (f_X7_in v1 0 999999) (fun r1 => if r1 = 0 then ((f_X7_winters_21) v0 S) else (mCp (f_X7_in v2 0 60) (fun r4 => if r4 = 0 then ((f_X7_winters_21) v0 S) else (mGr 7 22 v0 S (fun r5 => mRc 7 v0 S (mCv (f_X7_lays v0 r5 0 S) (fun S7 => (f_X7_winters_41 (f_X7_winters_118) 1000) v0 v2 (v1.toInt64) 0 S7)))))))
def rm_X7_winters : Room := { frames := 4, cells := 0, slots := 0, locals := 98 }
set_option maxRecDepth 100000 in
set_option maxHeartbeats 4000000 in
theorem bl_X7_winters_21 {p : Program} {l : Launch} {e : Env} {s : State} {m : MethodId} {args : Array Value} {below : List Frame} {meth : Method} {c : Code} {E : mE} {n0 : Nat} {F : Int32 × mS} (C : mCx p s m args meth c cX7_winters 7 RX7 (some .int) E n0) : ∀  (v0 : Int32) (S : mS) (H : Heap) (locs : List Loc) (ls : Array Slot), f_X7_winters_21 v0 S = some F → mIv s E S H locs 0 → lv_has ls 7 [(0, .ref (mA E.b v0))] → W p l e rm_X7_winters s m args below meth c H locs 0 0 (mQi below args s 0 0 n0 E F) (F0 m 21 ls []) := by
  have hx := C.1
  have hb := C.2.1
  intro v0 S H locs ls hF hI hl
  refine lv_aload_n hx hb dX7_winters_21 rfl (lv_at hl 0 rfl) ?_
  refine m_callVi C cd_X7_103 ⟨rfl, by decide⟩ hl.1 hI hF (fun _ h => ok_X7_bad h) rfl rfl ⟨rfl, rfl, Nat.le_of_ble_eq_true rfl, Nat.le_of_ble_eq_true rfl⟩ ⟨Nat.le_of_ble_eq_true rfl, Nat.le_of_ble_eq_true rfl⟩ (Nat.le_of_ble_eq_true rfl) dX7_winters_22 (fun r2 S3 H locs hF hI => ?_)
  exact m_ireti C hI hF dX7_winters_25
set_option maxRecDepth 100000 in
set_option maxHeartbeats 4000000 in
theorem bl_X7_winters_112 {p : Program} {l : Launch} {e : Env} {s : State} {m : MethodId} {args : Array Value} {below : List Frame} {meth : Method} {c : Code} {E : mE} {n0 : Nat} {F : Int32 × mS} (C : mCx p s m args meth c cX7_winters 7 RX7 (some .int) E n0) {k41 : Int32 → Int32 → Int64 → Int32 → mS → Option (Int32 × mS)} (hk41 : ∀ (v0 : Int32) (v2 : Int32) (v3 : Int64) (v5 : Int32) (S : mS) (H : Heap) (locs : List Loc) (ls : Array Slot), k41 v0 v2 v3 v5 S = some F → mIv s E S H locs 0 → lv_has ls 7 [(0, .ref (mA E.b v0)), (2, .int v2), (3, .long v3), (5, .int v5)] → W p l e rm_X7_winters s m args below meth c H locs 0 0 (mQi below args s 0 0 n0 E F) (F0 m 41 ls [])) : ∀  (v0 : Int32) (v2 : Int32) (v3 : Int64) (v5 : Int32) (S : mS) (H : Heap) (locs : List Loc) (ls : Array Slot), f_X7_winters_112 k41 v0 v2 v3 v5 S = some F → mIv s E S H locs 0 → lv_has ls 7 [(0, .ref (mA E.b v0)), (2, .int v2), (3, .long v3), (5, .int v5)] → W p l e rm_X7_winters s m args below meth c H locs 0 0 (mQi below args s 0 0 n0 E F) (F0 m 112 ls []) := by
  have hx := C.1
  have hb := C.2.1
  intro v0 v2 v3 v5 S H locs ls hF hI hl
  refine lv_iinc (v := v5 + 1) (lv' := [(5, .int (v5 + 1)), (0, .ref (mA E.b v0)), (2, .int v2), (3, .long v3)]) hx hb dX7_winters_112 hl (k := 3) rfl rfl (by decide) rfl (fun ls hl => ?_)
  refine lv_goto (tgt := 41) hx hb dX7_winters_115 (by decide) ?_
  exact hk41 v0 v2 v3 (v5 + 1) S _ _ _ hF hI (lv_sub hl [1, 2, 3, 0] rfl)
set_option maxRecDepth 100000 in
set_option maxHeartbeats 4000000 in
theorem bl_X7_winters_41 {p : Program} {l : Launch} {e : Env} {s : State} {m : MethodId} {args : Array Value} {below : List Frame} {meth : Method} {c : Code} {E : mE} {n0 : Nat} {F : Int32 × mS} (C : mCx p s m args meth c cX7_winters 7 RX7 (some .int) E n0) {k118 : Int32 → mS → Option (Int32 × mS)} (hk118 : ∀ (v0 : Int32) (S : mS) (H : Heap) (locs : List Loc) (ls : Array Slot), k118 v0 S = some F → mIv s E S H locs 0 → lv_has ls 7 [(0, .ref (mA E.b v0))] → W p l e rm_X7_winters s m args below meth c H locs 0 0 (mQi below args s 0 0 n0 E F) (F0 m 118 ls [])) : ∀ (n : Nat)  (v0 : Int32) (v2 : Int32) (v3 : Int64) (v5 : Int32) (S : mS) (H : Heap) (locs : List Loc) (ls : Array Slot), f_X7_winters_41 k118 n v0 v2 v3 v5 S = some F → mIv s E S H locs 0 → lv_has ls 7 [(0, .ref (mA E.b v0)), (2, .int v2), (3, .long v3), (5, .int v5)] → W p l e rm_X7_winters s m args below meth c H locs 0 0 (mQi below args s 0 0 n0 E F) (F0 m 41 ls []) := by
  have hx := C.1
  have hb := C.2.1
  intro n
  induction n with
  | zero =>
    intro v0 v2 v3 v5 S H locs ls hF
    exact nomatch (show (none : Option (Int32 × mS)) = some F from hF)
  | succ n ih =>
    intro v0 v2 v3 v5 S H locs ls hF hI hl
    have hF := (f_X7_winters_41_s k118 n v0 v2 v3 v5 S).symm.trans hF
    refine lv_iload hx hb dX7_winters_41 (lv_at hl 3 rfl) ?_
    refine lv_iload_n hx hb dX7_winters_43 rfl (lv_at hl 1 rfl) ?_
    refine m_icmp_ge C (tgt := 118) hF dX7_winters_44 (by decide) (fun hF => ?_) (fun hF => ?_)
    · exact hk118 v0 S _ _ _ hF hI (lv_sub hl [0] rfl)
    · refine lv_lload_n hx hb dX7_winters_47 rfl (lv_at hl 2 rfl) ?_
      refine lv_ldc2 (v := 1103515245) hx hb C.2.2.2.1 (C.2.2.2.2.1 _ kw_X7_293) dX7_winters_48 ?_
      refine lv_lmul hx hb dX7_winters_51 ?_
      refine lv_ldc2 (v := 12345) hx hb C.2.2.2.1 (C.2.2.2.2.1 _ kw_X7_295) dX7_winters_52 ?_
      refine lv_ladd hx hb dX7_winters_55 ?_
      refine lv_ldc2 (v := 2147483648) hx hb C.2.2.2.1 (C.2.2.2.2.1 _ kw_X7_297) dX7_winters_56 ?_
      refine m_lrem C dX7_winters_59 (by decide) ?_
      refine lv_lstore_n (lv' := [(3, .long (mRemL ((v3 * 1103515245) + 12345) 2147483648)), (0, .ref (mA E.b v0)), (2, .int v2), (5, .int v5)]) hx hb dX7_winters_60 rfl hl (by decide) rfl (fun ls hl => ?_)
      refine lv_lload_n hx hb dX7_winters_61 rfl (lv_at hl 0 rfl) ?_
      refine lv_ldc2 (v := 65536) hx hb C.2.2.2.1 (C.2.2.2.2.1 _ kw_X7_299) dX7_winters_62 ?_
      refine lv_ldiv hx hb dX7_winters_65 (by decide) ?_
      refine lv_ldc2 (v := 3) hx hb C.2.2.2.1 (C.2.2.2.2.1 _ kw_X7_301) dX7_winters_66 ?_
      refine m_lrem C dX7_winters_69 (by decide) ?_
      refine lv_l2i hx hb dX7_winters_70 rfl ?_
      refine lv_istore (lv' := [(6, .int ((mRemL ((mRemL ((v3 * 1103515245) + 12345) 2147483648) / 65536) 3).toInt32)), (3, .long (mRemL ((v3 * 1103515245) + 12345) 2147483648)), (0, .ref (mA E.b v0)), (2, .int v2), (5, .int v5)]) hx hb dX7_winters_71 hl (by decide) rfl (fun ls hl => ?_)
      refine lv_aload_n hx hb dX7_winters_73 rfl (lv_at hl 2 rfl) ?_
      refine lv_iload hx hb dX7_winters_74 (lv_at hl 0 rfl) ?_
      refine m_callViR C cd_X7_219 ⟨rfl, by decide⟩ hl.1 hI hF (fun _ h => ok_X7_isWhistle h) rfl rfl ⟨rfl, rfl, Nat.le_of_ble_eq_true rfl, Nat.le_of_ble_eq_true rfl⟩ ⟨Nat.le_of_ble_eq_true rfl, Nat.le_of_ble_eq_true rfl⟩ (Nat.le_of_ble_eq_true rfl) dX7_winters_76 (fun r8 H locs hF hI => ?_)
      refine m_if_eq C (tgt := 102) hF dX7_winters_79 (by decide) (fun hF => ?_) (fun hF => ?_)
      · refine lv_aload_n hx hb dX7_winters_102 rfl (lv_at hl 2 rfl) ?_
        refine lv_dup hx hb dX7_winters_103 rfl ?_
        refine m_get C fd_X7_80 hI hF dX7_winters_104 (fun r9 hF => ?_)
        refine lv_iconst (v := 1) hx hb dX7_winters_107 (by decide) ?_
        refine lv_iadd hx hb dX7_winters_108 ?_
        refine m_put C fd_X7_80 hI hF dX7_winters_109 (fun S10 H locs hF hI => ?_)
        exact (bl_X7_winters_112 C (k41 := (f_X7_winters_41 k118 n)) ih) v0 v2 (mRemL ((v3 * 1103515245) + 12345) 2147483648) v5 S10 _ _ _ hF hI (lv_sub hl [2, 3, 1, 4] rfl)
      · refine lv_aload_n hx hb dX7_winters_82 rfl (lv_at hl 2 rfl) ?_
        refine lv_iload hx hb dX7_winters_83 (lv_at hl 0 rfl) ?_
        refine lv_lload_n hx hb dX7_winters_85 rfl (lv_at hl 1 rfl) ?_
        refine lv_ldc2 (v := 1048576) hx hb C.2.2.2.1 (C.2.2.2.2.1 _ kw_X7_303) dX7_winters_86 ?_
        refine lv_ldiv hx hb dX7_winters_89 (by decide) ?_
        refine lv_ldc2 (v := 5) hx hb C.2.2.2.1 (C.2.2.2.2.1 _ kw_X7_305) dX7_winters_90 ?_
        refine m_lrem C dX7_winters_93 (by decide) ?_
        refine lv_l2i hx hb dX7_winters_94 rfl ?_
        refine m_callVi C cd_X7_155 ⟨rfl, by decide⟩ hl.1 hI hF (fun _ h => ok_X7_comes h) rfl rfl ⟨rfl, rfl, Nat.le_of_ble_eq_true rfl, Nat.le_of_ble_eq_true rfl⟩ ⟨Nat.le_of_ble_eq_true rfl, Nat.le_of_ble_eq_true rfl⟩ (Nat.le_of_ble_eq_true rfl) dX7_winters_95 (fun r11 S12 H locs hF hI => ?_)
        refine lv_pop hx hb dX7_winters_98 rfl ?_
        refine lv_goto (tgt := 112) hx hb dX7_winters_99 (by decide) ?_
        exact (bl_X7_winters_112 C (k41 := (f_X7_winters_41 k118 n)) ih) v0 v2 (mRemL ((v3 * 1103515245) + 12345) 2147483648) v5 S12 _ _ _ hF hI (lv_sub hl [2, 3, 1, 4] rfl)
set_option maxRecDepth 100000 in
set_option maxHeartbeats 4000000 in
theorem bl_X7_winters_118 {p : Program} {l : Launch} {e : Env} {s : State} {m : MethodId} {args : Array Value} {below : List Frame} {meth : Method} {c : Code} {E : mE} {n0 : Nat} {F : Int32 × mS} (C : mCx p s m args meth c cX7_winters 7 RX7 (some .int) E n0) : ∀  (v0 : Int32) (S : mS) (H : Heap) (locs : List Loc) (ls : Array Slot), f_X7_winters_118 v0 S = some F → mIv s E S H locs 0 → lv_has ls 7 [(0, .ref (mA E.b v0))] → W p l e rm_X7_winters s m args below meth c H locs 0 0 (mQi below args s 0 0 n0 E F) (F0 m 118 ls []) := by
  have hx := C.1
  have hb := C.2.1
  intro v0 S H locs ls hF hI hl
  refine lv_aload_n hx hb dX7_winters_118 rfl (lv_at hl 0 rfl) ?_
  refine m_callViR C cd_X7_252 ⟨rfl, by decide⟩ hl.1 hI hF (fun _ h => ok_X7_foldedMany h) rfl rfl ⟨rfl, rfl, Nat.le_of_ble_eq_true rfl, Nat.le_of_ble_eq_true rfl⟩ ⟨Nat.le_of_ble_eq_true rfl, Nat.le_of_ble_eq_true rfl⟩ (Nat.le_of_ble_eq_true rfl) dX7_winters_119 (fun r13 H locs hF hI => ?_)
  refine lv_istore (lv' := [(5, .int r13), (0, .ref (mA E.b v0))]) hx hb dX7_winters_122 hl (by decide) rfl (fun ls hl => ?_)
  refine lv_aload_n hx hb dX7_winters_124 rfl (lv_at hl 1 rfl) ?_
  refine lv_aload_n hx hb dX7_winters_125 rfl (lv_at hl 1 rfl) ?_
  refine m_getR C fd_X7_47 hI hF dX7_winters_126 (fun r14 hF => ?_)
  refine lv_iconst (v := 0) hx hb dX7_winters_129 (by decide) ?_
  refine m_callVv C cd_X7_228 ⟨rfl, by decide⟩ hl.1 hI hF (fun _ h => ok_X7_takes h) rfl rfl ⟨rfl, rfl, Nat.le_of_ble_eq_true rfl, Nat.le_of_ble_eq_true rfl⟩ ⟨Nat.le_of_ble_eq_true rfl, Nat.le_of_ble_eq_true rfl⟩ (Nat.le_of_ble_eq_true rfl) dX7_winters_130 (fun S16 H locs hF hI => ?_)
  refine lv_iload hx hb dX7_winters_133 (lv_at hl 0 rfl) ?_
  exact m_ireti C hI hF dX7_winters_135
set_option maxRecDepth 100000 in
set_option maxHeartbeats 4000000 in
theorem ok_X7_winters {l : Launch} {E : mE} {v0 : Int32} {v1 : Int32} {v2 : Int32} {S : mS} {F : Int32 × mS} (hF : f_X7_winters v0 v1 v2 S = some F) : mMi l yX7_winters cX7_winters 7 (some .int) rm_X7_winters 0 0 [.ref (mA E.b v0), .int v1, .int v2] E S F := by
  refine m_met_i (by decide) (Nat.le_of_ble_eq_true rfl) (fun p e s m args below meth c ls hin C hI hl => ?_)
  have hx := C.1
  have hb := C.2.1
  have hl : lv_has ls 7 [(0, .ref (mA E.b v0)), (1, .int v1), (2, .int v2)] := hl
  generalize s.heap = H at hI ⊢
  generalize ([] : List Loc) = locs at hI ⊢
  refine lv_iload_n hx hb dX7_winters_0 rfl (lv_at hl 1 rfl) ?_
  refine lv_iconst (v := 0) hx hb dX7_winters_1 (by decide) ?_
  refine lv_ldcw (v := 999999) hx hb C.2.2.2.1 (C.2.2.2.2.1 _ kw_X7_292) dX7_winters_2 ?_
  refine m_callSiR C cd_X7_95 hl.1 hI hF (fun _ h => ok_X7_in h) rfl rfl ⟨rfl, rfl, Nat.le_of_ble_eq_true rfl, Nat.le_of_ble_eq_true rfl⟩ ⟨Nat.le_of_ble_eq_true rfl, Nat.le_of_ble_eq_true rfl⟩ (Nat.le_of_ble_eq_true rfl) dX7_winters_5 (fun r1 H locs hF hI => ?_)
  refine m_if_eq C (tgt := 21) hF dX7_winters_8 (by decide) (fun hF => ?_) (fun hF => ?_)
  · exact (bl_X7_winters_21 C) v0 S _ _ _ hF hI (lv_sub hl [0] rfl)
  · refine lv_iload_n hx hb dX7_winters_11 rfl (lv_at hl 2 rfl) ?_
    refine lv_iconst (v := 0) hx hb dX7_winters_12 (by decide) ?_
    refine lv_bipush (v := 60) hx hb dX7_winters_13 (by decide) ?_
    refine m_callSiR C cd_X7_95 hl.1 hI hF (fun _ h => ok_X7_in h) rfl rfl ⟨rfl, rfl, Nat.le_of_ble_eq_true rfl, Nat.le_of_ble_eq_true rfl⟩ ⟨Nat.le_of_ble_eq_true rfl, Nat.le_of_ble_eq_true rfl⟩ (Nat.le_of_ble_eq_true rfl) dX7_winters_15 (fun r4 H locs hF hI => ?_)
    refine m_if_ne C (tgt := 26) hF dX7_winters_18 (by decide) (fun hF => ?_) (fun hF => ?_)
    · refine lv_aload_n hx hb dX7_winters_26 rfl (lv_at hl 0 rfl) ?_
      refine lv_aload_n hx hb dX7_winters_27 rfl (lv_at hl 0 rfl) ?_
      refine m_getR C fd_X7_47 hI hF dX7_winters_28 (fun r5 hF => ?_)
      refine lv_iconst (v := 0) hx hb dX7_winters_31 (by decide) ?_
      refine m_callVv C cd_X7_216 ⟨rfl, by decide⟩ hl.1 hI hF (fun _ h => ok_X7_lays h) rfl rfl ⟨rfl, rfl, Nat.le_of_ble_eq_true rfl, Nat.le_of_ble_eq_true rfl⟩ ⟨Nat.le_of_ble_eq_true rfl, Nat.le_of_ble_eq_true rfl⟩ (Nat.le_of_ble_eq_true rfl) dX7_winters_32 (fun S7 H locs hF hI => ?_)
      refine lv_iload_n hx hb dX7_winters_35 rfl (lv_at hl 1 rfl) ?_
      refine lv_i2l hx hb dX7_winters_36 rfl ?_
      refine lv_lstore_n (lv' := [(3, .long (v1.toInt64)), (0, .ref (mA E.b v0)), (1, .int v1), (2, .int v2)]) hx hb dX7_winters_37 rfl hl (by decide) rfl (fun ls hl => ?_)
      refine lv_iconst (v := 0) hx hb dX7_winters_38 (by decide) ?_
      refine lv_istore (lv' := [(5, .int 0), (3, .long (v1.toInt64)), (0, .ref (mA E.b v0)), (1, .int v1), (2, .int v2)]) hx hb dX7_winters_39 hl (by decide) rfl (fun ls hl => ?_)
      exact (bl_X7_winters_41 C (k118 := (f_X7_winters_118)) (bl_X7_winters_118 C) 1000) v0 v2 (v1.toInt64) 0 S7 _ _ _ hF hI (lv_sub hl [2, 4, 1, 0] rfl)
    · exact (bl_X7_winters_21 C) v0 S _ _ _ hF hI (lv_sub hl [0] rfl)
noncomputable def f_X7_part_28 (t0 : Int64) (S : mS) : Option (Int64 × mS) := some (t0, S)
noncomputable def f_X7_part (v0 : Int32) (v1 : Int32) (S : mS) : Option (Int64 × mS) := if v1 = 0 then (mGl 7 25 v0 S (fun r4 => (f_X7_part_28) r4 S)) else (if v1 = 1 then (mGl 7 26 v0 S (fun r3 => (f_X7_part_28) r3 S)) else (mRc 7 v0 S (mC (f_X7_bad v0 S) (fun r1 S2 => (f_X7_part_28) (r1.toInt64) S2))))
def rm_X7_part : Room := { frames := 1, cells := 0, slots := 0, locals := 20 }
set_option maxRecDepth 100000 in
set_option maxHeartbeats 4000000 in
theorem bl_X7_part_28 {p : Program} {l : Launch} {e : Env} {s : State} {m : MethodId} {args : Array Value} {below : List Frame} {meth : Method} {c : Code} {E : mE} {n0 : Nat} {F : Int64 × mS} (C : mCx p s m args meth c cX7_part 2 RX7 (some .long) E n0) : ∀  (t0 : Int64) (S : mS) (H : Heap) (locs : List Loc) (ls : Array Slot), f_X7_part_28 t0 S = some F → mIv s E S H locs 0 → lv_has ls 2 [] → W p l e rm_X7_part s m args below meth c H locs 0 0 (mQl below args s 0 0 n0 E F) (F0 m 28 ls [.long t0]) := by
  have hx := C.1
  have hb := C.2.1
  intro t0 S H locs ls hF hI hl
  exact m_lret C hI hF dX7_part_28
set_option maxRecDepth 100000 in
set_option maxHeartbeats 4000000 in
theorem ok_X7_part {l : Launch} {E : mE} {v0 : Int32} {v1 : Int32} {S : mS} {F : Int64 × mS} (hF : f_X7_part v0 v1 S = some F) : mMl l yX7_part cX7_part 2 (some .long) rm_X7_part 0 0 [.ref (mA E.b v0), .int v1] E S F := by
  refine m_met_l (by decide) (Nat.le_of_ble_eq_true rfl) (fun p e s m args below meth c ls hin C hI hl => ?_)
  have hx := C.1
  have hb := C.2.1
  have hl : lv_has ls 2 [(0, .ref (mA E.b v0)), (1, .int v1)] := hl
  generalize s.heap = H at hI ⊢
  generalize ([] : List Loc) = locs at hI ⊢
  refine lv_iload_n hx hb dX7_part_0 rfl (lv_at hl 1 rfl) ?_
  refine m_if_ne C (tgt := 11) hF dX7_part_1 (by decide) (fun hF => ?_) (fun hF => ?_)
  · refine lv_iload_n hx hb dX7_part_11 rfl (lv_at hl 1 rfl) ?_
    refine lv_iconst (v := 1) hx hb dX7_part_12 (by decide) ?_
    refine m_icmp_ne C (tgt := 23) hF dX7_part_13 (by decide) (fun hF => ?_) (fun hF => ?_)
    · refine lv_aload_n hx hb dX7_part_23 rfl (lv_at hl 0 rfl) ?_
      refine m_callVi C cd_X7_103 ⟨rfl, by decide⟩ hl.1 hI hF (fun _ h => ok_X7_bad h) rfl rfl ⟨rfl, rfl, Nat.le_of_ble_eq_true rfl, Nat.le_of_ble_eq_true rfl⟩ ⟨Nat.le_of_ble_eq_true rfl, Nat.le_of_ble_eq_true rfl⟩ (Nat.le_of_ble_eq_true rfl) dX7_part_24 (fun r1 S2 H locs hF hI => ?_)
      refine lv_i2l hx hb dX7_part_27 rfl ?_
      exact (bl_X7_part_28 C) (r1.toInt64) S2 _ _ _ hF hI (lv_sub hl [] rfl)
    · refine lv_aload_n hx hb dX7_part_16 rfl (lv_at hl 0 rfl) ?_
      refine m_getL C fd_X7_56 hI hF dX7_part_17 (fun r3 hF => ?_)
      refine lv_goto (tgt := 28) hx hb dX7_part_20 (by decide) ?_
      exact (bl_X7_part_28 C) r3 S _ _ _ hF hI (lv_sub hl [] rfl)
  · refine lv_aload_n hx hb dX7_part_4 rfl (lv_at hl 0 rfl) ?_
    refine m_getL C fd_X7_283 hI hF dX7_part_5 (fun r4 hF => ?_)
    refine lv_goto (tgt := 28) hx hb dX7_part_8 (by decide) ?_
    exact (bl_X7_part_28 C) r4 S _ _ _ hF hI (lv_sub hl [] rfl)
noncomputable def f_X7_image (v0 : Int32) (v1 : Int32) (S : mS) : Option (Int32 × mS) := mCp (f_X7_in v1 0 1) (fun r1 => if r1 = 0 then (mRc 7 v0 S (mC (f_X7_bad v0 S) (fun r7 S8 => some (r7, S8)))) else (mGr 7 28 v0 S (fun r2 => mXs r2 v1 1 S (fun S3 => mGr 7 27 v0 S3 (fun r4 => mRc 7 v0 S3 (mCv (f_X7_layAll v0 r4 (170 * v1) S3) (fun S6 => some (1, S6))))))))
def rm_X7_image : Room := { frames := 2, cells := 0, slots := 0, locals := 46 }
set_option maxRecDepth 100000 in
set_option maxHeartbeats 4000000 in
theorem ok_X7_image {l : Launch} {E : mE} {v0 : Int32} {v1 : Int32} {S : mS} {F : Int32 × mS} (hF : f_X7_image v0 v1 S = some F) : mMi l yX7_image cX7_image 2 (some .int) rm_X7_image 0 0 [.ref (mA E.b v0), .int v1] E S F := by
  refine m_met_i (by decide) (Nat.le_of_ble_eq_true rfl) (fun p e s m args below meth c ls hin C hI hl => ?_)
  have hx := C.1
  have hb := C.2.1
  have hl : lv_has ls 2 [(0, .ref (mA E.b v0)), (1, .int v1)] := hl
  generalize s.heap = H at hI ⊢
  generalize ([] : List Loc) = locs at hI ⊢
  refine lv_iload_n hx hb dX7_image_0 rfl (lv_at hl 1 rfl) ?_
  refine lv_iconst (v := 0) hx hb dX7_image_1 (by decide) ?_
  refine lv_iconst (v := 1) hx hb dX7_image_2 (by decide) ?_
  refine m_callSiR C cd_X7_95 hl.1 hI hF (fun _ h => ok_X7_in h) rfl rfl ⟨rfl, rfl, Nat.le_of_ble_eq_true rfl, Nat.le_of_ble_eq_true rfl⟩ ⟨Nat.le_of_ble_eq_true rfl, Nat.le_of_ble_eq_true rfl⟩ (Nat.le_of_ble_eq_true rfl) dX7_image_3 (fun r1 H locs hF hI => ?_)
  refine m_if_ne C (tgt := 14) hF dX7_image_6 (by decide) (fun hF => ?_) (fun hF => ?_)
  · refine lv_aload_n hx hb dX7_image_14 rfl (lv_at hl 0 rfl) ?_
    refine m_getR C fd_X7_63 hI hF dX7_image_15 (fun r2 hF => ?_)
    refine lv_iload_n hx hb dX7_image_18 rfl (lv_at hl 1 rfl) ?_
    refine lv_iconst (v := 1) hx hb dX7_image_19 (by decide) ?_
    refine m_iast C hI hF dX7_image_20 (fun S3 H locs hF hI => ?_)
    refine lv_aload_n hx hb dX7_image_21 rfl (lv_at hl 0 rfl) ?_
    refine lv_aload_n hx hb dX7_image_22 rfl (lv_at hl 0 rfl) ?_
    refine m_getR C fd_X7_60 hI hF dX7_image_23 (fun r4 hF => ?_)
    refine lv_sipush (v := 170) hx hb dX7_image_26 (by decide) ?_
    refine lv_iload_n hx hb dX7_image_29 rfl (lv_at hl 1 rfl) ?_
    refine lv_imul hx hb dX7_image_30 ?_
    refine m_callVv C cd_X7_180 ⟨rfl, by decide⟩ hl.1 hI hF (fun _ h => ok_X7_layAll h) rfl rfl ⟨rfl, rfl, Nat.le_of_ble_eq_true rfl, Nat.le_of_ble_eq_true rfl⟩ ⟨Nat.le_of_ble_eq_true rfl, Nat.le_of_ble_eq_true rfl⟩ (Nat.le_of_ble_eq_true rfl) dX7_image_31 (fun S6 H locs hF hI => ?_)
    refine lv_iconst (v := 1) hx hb dX7_image_34 (by decide) ?_
    exact m_ireti C hI hF dX7_image_35
  · refine lv_aload_n hx hb dX7_image_9 rfl (lv_at hl 0 rfl) ?_
    refine m_callVi C cd_X7_103 ⟨rfl, by decide⟩ hl.1 hI hF (fun _ h => ok_X7_bad h) rfl rfl ⟨rfl, rfl, Nat.le_of_ble_eq_true rfl, Nat.le_of_ble_eq_true rfl⟩ ⟨Nat.le_of_ble_eq_true rfl, Nat.le_of_ble_eq_true rfl⟩ (Nat.le_of_ble_eq_true rfl) dX7_image_10 (fun r7 S8 H locs hF hI => ?_)
    exact m_ireti C hI hF dX7_image_13
noncomputable def f_X7_from (v0 : Int32) (v1 : Int32) (S : mS) : Option (Int32 × mS) := mCp (f_X7_in v1 0 1) (fun r1 => if r1 = 0 then (mRc 7 v0 S (mC (f_X7_bad v0 S) (fun r9 S10 => some (r9, S10)))) else (mGr 7 28 v0 S (fun r2 => mX 8 r2 v1 S (fun r3 => if r3 = 0 then (mRc 7 v0 S (mC (f_X7_no v0 S) (fun r7 S8 => some (r7, S8)))) else (mGr 7 27 v0 S (fun r4 => mRc 7 v0 S (mCv (f_X7_takeAll v0 r4 (170 * v1) S) (fun S6 => some (1, S6)))))))))
def rm_X7_from : Room := { frames := 2, cells := 0, slots := 0, locals := 46 }
set_option maxRecDepth 100000 in
set_option maxHeartbeats 4000000 in
theorem ok_X7_from {l : Launch} {E : mE} {v0 : Int32} {v1 : Int32} {S : mS} {F : Int32 × mS} (hF : f_X7_from v0 v1 S = some F) : mMi l yX7_from cX7_from 2 (some .int) rm_X7_from 0 0 [.ref (mA E.b v0), .int v1] E S F := by
  refine m_met_i (by decide) (Nat.le_of_ble_eq_true rfl) (fun p e s m args below meth c ls hin C hI hl => ?_)
  have hx := C.1
  have hb := C.2.1
  have hl : lv_has ls 2 [(0, .ref (mA E.b v0)), (1, .int v1)] := hl
  generalize s.heap = H at hI ⊢
  generalize ([] : List Loc) = locs at hI ⊢
  refine lv_iload_n hx hb dX7_from_0 rfl (lv_at hl 1 rfl) ?_
  refine lv_iconst (v := 0) hx hb dX7_from_1 (by decide) ?_
  refine lv_iconst (v := 1) hx hb dX7_from_2 (by decide) ?_
  refine m_callSiR C cd_X7_95 hl.1 hI hF (fun _ h => ok_X7_in h) rfl rfl ⟨rfl, rfl, Nat.le_of_ble_eq_true rfl, Nat.le_of_ble_eq_true rfl⟩ ⟨Nat.le_of_ble_eq_true rfl, Nat.le_of_ble_eq_true rfl⟩ (Nat.le_of_ble_eq_true rfl) dX7_from_3 (fun r1 H locs hF hI => ?_)
  refine m_if_ne C (tgt := 14) hF dX7_from_6 (by decide) (fun hF => ?_) (fun hF => ?_)
  · refine lv_aload_n hx hb dX7_from_14 rfl (lv_at hl 0 rfl) ?_
    refine m_getR C fd_X7_63 hI hF dX7_from_15 (fun r2 hF => ?_)
    refine lv_iload_n hx hb dX7_from_18 rfl (lv_at hl 1 rfl) ?_
    refine m_iald C hI hF dX7_from_19 (fun r3 hF => ?_)
    refine m_if_ne C (tgt := 28) hF dX7_from_20 (by decide) (fun hF => ?_) (fun hF => ?_)
    · refine lv_aload_n hx hb dX7_from_28 rfl (lv_at hl 0 rfl) ?_
      refine lv_aload_n hx hb dX7_from_29 rfl (lv_at hl 0 rfl) ?_
      refine m_getR C fd_X7_60 hI hF dX7_from_30 (fun r4 hF => ?_)
      refine lv_sipush (v := 170) hx hb dX7_from_33 (by decide) ?_
      refine lv_iload_n hx hb dX7_from_36 rfl (lv_at hl 1 rfl) ?_
      refine lv_imul hx hb dX7_from_37 ?_
      refine m_callVv C cd_X7_187 ⟨rfl, by decide⟩ hl.1 hI hF (fun _ h => ok_X7_takeAll h) rfl rfl ⟨rfl, rfl, Nat.le_of_ble_eq_true rfl, Nat.le_of_ble_eq_true rfl⟩ ⟨Nat.le_of_ble_eq_true rfl, Nat.le_of_ble_eq_true rfl⟩ (Nat.le_of_ble_eq_true rfl) dX7_from_38 (fun S6 H locs hF hI => ?_)
      refine lv_iconst (v := 1) hx hb dX7_from_41 (by decide) ?_
      exact m_ireti C hI hF dX7_from_42
    · refine lv_aload_n hx hb dX7_from_23 rfl (lv_at hl 0 rfl) ?_
      refine m_callVi C cd_X7_116 ⟨rfl, by decide⟩ hl.1 hI hF (fun _ h => ok_X7_no h) rfl rfl ⟨rfl, rfl, Nat.le_of_ble_eq_true rfl, Nat.le_of_ble_eq_true rfl⟩ ⟨Nat.le_of_ble_eq_true rfl, Nat.le_of_ble_eq_true rfl⟩ (Nat.le_of_ble_eq_true rfl) dX7_from_24 (fun r7 S8 H locs hF hI => ?_)
      exact m_ireti C hI hF dX7_from_27
  · refine lv_aload_n hx hb dX7_from_9 rfl (lv_at hl 0 rfl) ?_
    refine m_callVi C cd_X7_103 ⟨rfl, by decide⟩ hl.1 hI hF (fun _ h => ok_X7_bad h) rfl rfl ⟨rfl, rfl, Nat.le_of_ble_eq_true rfl, Nat.le_of_ble_eq_true rfl⟩ ⟨Nat.le_of_ble_eq_true rfl, Nat.le_of_ble_eq_true rfl⟩ (Nat.le_of_ble_eq_true rfl) dX7_from_10 (fun r9 S10 H locs hF hI => ?_)
    exact m_ireti C hI hF dX7_from_13
noncomputable def f_X7_status (v0 : Int32) (v1 : Int32) (S : mS) : Option (Int32 × mS) := mCp (f_X7_in v1 0 2) (fun r1 => if r1 = 0 then (mGr 7 0 v0 S (fun r4 => mX 8 r4 0 S (fun r5 => mXs r4 0 (r5 + 1) S (fun S6 => some ((-1), S6))))) else (mGr 7 0 v0 S (fun r2 => mX 8 r2 v1 S (fun r3 => some (r3, S)))))
def rm_X7_status : Room := { frames := 1, cells := 0, slots := 0, locals := 22 }
set_option maxRecDepth 100000 in
set_option maxHeartbeats 4000000 in
theorem ok_X7_status {l : Launch} {E : mE} {v0 : Int32} {v1 : Int32} {S : mS} {F : Int32 × mS} (hF : f_X7_status v0 v1 S = some F) : mMi l yX7_status cX7_status 2 (some .int) rm_X7_status 0 0 [.ref (mA E.b v0), .int v1] E S F := by
  refine m_met_i (by decide) (Nat.le_of_ble_eq_true rfl) (fun p e s m args below meth c ls hin C hI hl => ?_)
  have hx := C.1
  have hb := C.2.1
  have hl : lv_has ls 2 [(0, .ref (mA E.b v0)), (1, .int v1)] := hl
  generalize s.heap = H at hI ⊢
  generalize ([] : List Loc) = locs at hI ⊢
  refine lv_iload_n hx hb dX7_status_0 rfl (lv_at hl 1 rfl) ?_
  refine lv_iconst (v := 0) hx hb dX7_status_1 (by decide) ?_
  refine lv_iconst (v := 2) hx hb dX7_status_2 (by decide) ?_
  refine m_callSiR C cd_X7_95 hl.1 hI hF (fun _ h => ok_X7_in h) rfl rfl ⟨rfl, rfl, Nat.le_of_ble_eq_true rfl, Nat.le_of_ble_eq_true rfl⟩ ⟨Nat.le_of_ble_eq_true rfl, Nat.le_of_ble_eq_true rfl⟩ (Nat.le_of_ble_eq_true rfl) dX7_status_3 (fun r1 H locs hF hI => ?_)
  refine m_if_ne C (tgt := 21) hF dX7_status_6 (by decide) (fun hF => ?_) (fun hF => ?_)
  · refine lv_aload_n hx hb dX7_status_21 rfl (lv_at hl 0 rfl) ?_
    refine m_getR C fd_X7_1 hI hF dX7_status_22 (fun r2 hF => ?_)
    refine lv_iload_n hx hb dX7_status_25 rfl (lv_at hl 1 rfl) ?_
    refine m_iald C hI hF dX7_status_26 (fun r3 hF => ?_)
    exact m_ireti C hI hF dX7_status_27
  · refine lv_aload_n hx hb dX7_status_9 rfl (lv_at hl 0 rfl) ?_
    refine m_getR C fd_X7_1 hI hF dX7_status_10 (fun r4 hF => ?_)
    refine lv_iconst (v := 0) hx hb dX7_status_13 (by decide) ?_
    refine lv_dup2_11 hx hb dX7_status_14 rfl rfl ?_
    refine m_iald C hI hF dX7_status_15 (fun r5 hF => ?_)
    refine lv_iconst (v := 1) hx hb dX7_status_16 (by decide) ?_
    refine lv_iadd hx hb dX7_status_17 ?_
    refine m_iast C hI hF dX7_status_18 (fun S6 H locs hF hI => ?_)
    refine lv_iconst (v := (-1)) hx hb dX7_status_19 (by decide) ?_
    exact m_ireti C hI hF dX7_status_20
noncomputable def f_X7_countOf (v0 : Int32) (v1 : Int32) (S : mS) : Option Int32 := if v1 = 0 then (mG 7 2 v0 S (fun r1 => some r1)) else if v1 = 1 then (mG 7 1 v0 S (fun r2 => some r2)) else if v1 = 2 then (mG 7 4 v0 S (fun r3 => some r3)) else if v1 = 3 then (mG 7 3 v0 S (fun r4 => some r4)) else if v1 = 4 then (mRc 7 v0 S (mCp (f_X7_foldedMany v0 S) (fun r5 => some r5))) else if v1 = 5 then (mG 7 5 v0 S (fun r6 => some r6)) else if v1 = 6 then (mG 7 6 v0 S (fun r7 => some r7)) else if v1 = 7 then (mG 7 7 v0 S (fun r8 => some r8)) else if v1 = 8 then (mG 7 21 v0 S (fun r9 => some r9)) else (mG 7 16 v0 S (fun r10 => some r10))
def rm_X7_countOf : Room := { frames := 1, cells := 0, slots := 0, locals := 22 }
set_option maxRecDepth 100000 in
set_option maxHeartbeats 4000000 in
theorem ok_X7_countOf {l : Launch} {E : mE} {v0 : Int32} {v1 : Int32} {S : mS} {r : Int32} (hF : f_X7_countOf v0 v1 S = some r) : mMi l yX7_countOf cX7_countOf 2 (some .int) rm_X7_countOf 0 0 [.ref (mA E.b v0), .int v1] E S (r, S) := by
  refine m_met_i (by decide) (Nat.le_of_ble_eq_true rfl) (fun p e s m args below meth c ls hin C hI hl => ?_)
  have hx := C.1
  have hb := C.2.1
  have hl : lv_has ls 2 [(0, .ref (mA E.b v0)), (1, .int v1)] := hl
  generalize s.heap = H at hI ⊢
  generalize ([] : List Loc) = locs at hI ⊢
  refine lv_iload_n hx hb dX7_countOf_0 rfl (lv_at hl 1 rfl) ?_
  refine m_if hF (fun c0 hF => ?_) (fun c0 hF => ?_)
  · refine m_swIn C dX7_countOf_1 c0 0 rfl (by decide) (by decide) rfl (tgt := 52) (by decide) ?_
    refine lv_aload_n hx hb dX7_countOf_52 rfl (lv_at hl 0 rfl) ?_
    refine m_get C fd_X7_74 hI hF dX7_countOf_53 (fun r1 hF => ?_)
    exact m_iretiR C hI hF dX7_countOf_56
  refine m_if hF (fun c1 hF => ?_) (fun c1 hF => ?_)
  · refine m_swIn C dX7_countOf_1 c1 1 rfl (by decide) (by decide) rfl (tgt := 57) (by decide) ?_
    refine lv_aload_n hx hb dX7_countOf_57 rfl (lv_at hl 0 rfl) ?_
    refine m_get C fd_X7_70 hI hF dX7_countOf_58 (fun r2 hF => ?_)
    exact m_iretiR C hI hF dX7_countOf_61
  refine m_if hF (fun c2 hF => ?_) (fun c2 hF => ?_)
  · refine m_swIn C dX7_countOf_1 c2 2 rfl (by decide) (by decide) rfl (tgt := 62) (by decide) ?_
    refine lv_aload_n hx hb dX7_countOf_62 rfl (lv_at hl 0 rfl) ?_
    refine m_get C fd_X7_80 hI hF dX7_countOf_63 (fun r3 hF => ?_)
    exact m_iretiR C hI hF dX7_countOf_66
  refine m_if hF (fun c3 hF => ?_) (fun c3 hF => ?_)
  · refine m_swIn C dX7_countOf_1 c3 3 rfl (by decide) (by decide) rfl (tgt := 67) (by decide) ?_
    refine lv_aload_n hx hb dX7_countOf_67 rfl (lv_at hl 0 rfl) ?_
    refine m_get C fd_X7_77 hI hF dX7_countOf_68 (fun r4 hF => ?_)
    exact m_iretiR C hI hF dX7_countOf_71
  refine m_if hF (fun c4 hF => ?_) (fun c4 hF => ?_)
  · refine m_swIn C dX7_countOf_1 c4 4 rfl (by decide) (by decide) rfl (tgt := 72) (by decide) ?_
    refine lv_aload_n hx hb dX7_countOf_72 rfl (lv_at hl 0 rfl) ?_
    refine m_callViR C cd_X7_252 ⟨rfl, by decide⟩ hl.1 hI hF (fun _ h => ok_X7_foldedMany h) rfl rfl ⟨rfl, rfl, Nat.le_of_ble_eq_true rfl, Nat.le_of_ble_eq_true rfl⟩ ⟨Nat.le_of_ble_eq_true rfl, Nat.le_of_ble_eq_true rfl⟩ (Nat.le_of_ble_eq_true rfl) dX7_countOf_73 (fun r5 H locs hF hI => ?_)
    exact m_iretiR C hI hF dX7_countOf_76
  refine m_if hF (fun c5 hF => ?_) (fun c5 hF => ?_)
  · refine m_swIn C dX7_countOf_1 c5 5 rfl (by decide) (by decide) rfl (tgt := 77) (by decide) ?_
    refine lv_aload_n hx hb dX7_countOf_77 rfl (lv_at hl 0 rfl) ?_
    refine m_get C fd_X7_83 hI hF dX7_countOf_78 (fun r6 hF => ?_)
    exact m_iretiR C hI hF dX7_countOf_81
  refine m_if hF (fun c6 hF => ?_) (fun c6 hF => ?_)
  · refine m_swIn C dX7_countOf_1 c6 6 rfl (by decide) (by decide) rfl (tgt := 82) (by decide) ?_
    refine lv_aload_n hx hb dX7_countOf_82 rfl (lv_at hl 0 rfl) ?_
    refine m_get C fd_X7_86 hI hF dX7_countOf_83 (fun r7 hF => ?_)
    exact m_iretiR C hI hF dX7_countOf_86
  refine m_if hF (fun c7 hF => ?_) (fun c7 hF => ?_)
  · refine m_swIn C dX7_countOf_1 c7 7 rfl (by decide) (by decide) rfl (tgt := 87) (by decide) ?_
    refine lv_aload_n hx hb dX7_countOf_87 rfl (lv_at hl 0 rfl) ?_
    refine m_get C fd_X7_89 hI hF dX7_countOf_88 (fun r8 hF => ?_)
    exact m_iretiR C hI hF dX7_countOf_91
  refine m_if hF (fun c8 hF => ?_) (fun c8 hF => ?_)
  · refine m_swIn C dX7_countOf_1 c8 8 rfl (by decide) (by decide) rfl (tgt := 92) (by decide) ?_
    refine lv_aload_n hx hb dX7_countOf_92 rfl (lv_at hl 0 rfl) ?_
    refine m_get C fd_X7_92 hI hF dX7_countOf_93 (fun r9 hF => ?_)
    exact m_iretiR C hI hF dX7_countOf_96
  refine lv_tableOut (tgt := 97) hx hb dX7_countOf_1 (by have := lv_neT c0 (a := 0) rfl; have := lv_neT c1 (a := 1) rfl; have := lv_neT c2 (a := 2) rfl; have := lv_neT c3 (a := 3) rfl; have := lv_neT c4 (a := 4) rfl; have := lv_neT c5 (a := 5) rfl; have := lv_neT c6 (a := 6) rfl; have := lv_neT c7 (a := 7) rfl; have := lv_neT c8 (a := 8) rfl; omega) (by decide) ?_
  refine lv_aload_n hx hb dX7_countOf_97 rfl (lv_at hl 0 rfl) ?_
  refine m_get C fd_X7_119 hI hF dX7_countOf_98 (fun r10 hF => ?_)
  exact m_iretiR C hI hF dX7_countOf_101
noncomputable def f_X7_count_22 (t0 : Int32) (S : mS) : Option (Int32 × mS) := some (t0, S)
noncomputable def f_X7_count (v0 : Int32) (v1 : Int32) (S : mS) : Option (Int32 × mS) := mCp (f_X7_in v1 0 9) (fun r1 => if r1 = 0 then (mRc 7 v0 S (mC (f_X7_bad v0 S) (fun r2 S3 => (f_X7_count_22) r2 S3))) else (mRc 7 v0 S (mCp (f_X7_countOf v0 v1 S) (fun r4 => (f_X7_count_22) r4 S))))
def rm_X7_count : Room := { frames := 2, cells := 0, slots := 0, locals := 43 }
set_option maxRecDepth 100000 in
set_option maxHeartbeats 4000000 in
theorem bl_X7_count_22 {p : Program} {l : Launch} {e : Env} {s : State} {m : MethodId} {args : Array Value} {below : List Frame} {meth : Method} {c : Code} {E : mE} {n0 : Nat} {F : Int32 × mS} (C : mCx p s m args meth c cX7_count 2 RX7 (some .int) E n0) : ∀  (t0 : Int32) (S : mS) (H : Heap) (locs : List Loc) (ls : Array Slot), f_X7_count_22 t0 S = some F → mIv s E S H locs 0 → lv_has ls 2 [] → W p l e rm_X7_count s m args below meth c H locs 0 0 (mQi below args s 0 0 n0 E F) (F0 m 22 ls [.int t0]) := by
  have hx := C.1
  have hb := C.2.1
  intro t0 S H locs ls hF hI hl
  exact m_ireti C hI hF dX7_count_22
set_option maxRecDepth 100000 in
set_option maxHeartbeats 4000000 in
theorem ok_X7_count {l : Launch} {E : mE} {v0 : Int32} {v1 : Int32} {S : mS} {F : Int32 × mS} (hF : f_X7_count v0 v1 S = some F) : mMi l yX7_count cX7_count 2 (some .int) rm_X7_count 0 0 [.ref (mA E.b v0), .int v1] E S F := by
  refine m_met_i (by decide) (Nat.le_of_ble_eq_true rfl) (fun p e s m args below meth c ls hin C hI hl => ?_)
  have hx := C.1
  have hb := C.2.1
  have hl : lv_has ls 2 [(0, .ref (mA E.b v0)), (1, .int v1)] := hl
  generalize s.heap = H at hI ⊢
  generalize ([] : List Loc) = locs at hI ⊢
  refine lv_iload_n hx hb dX7_count_0 rfl (lv_at hl 1 rfl) ?_
  refine lv_iconst (v := 0) hx hb dX7_count_1 (by decide) ?_
  refine lv_bipush (v := 9) hx hb dX7_count_2 (by decide) ?_
  refine m_callSiR C cd_X7_95 hl.1 hI hF (fun _ h => ok_X7_in h) rfl rfl ⟨rfl, rfl, Nat.le_of_ble_eq_true rfl, Nat.le_of_ble_eq_true rfl⟩ ⟨Nat.le_of_ble_eq_true rfl, Nat.le_of_ble_eq_true rfl⟩ (Nat.le_of_ble_eq_true rfl) dX7_count_4 (fun r1 H locs hF hI => ?_)
  refine m_if_eq C (tgt := 18) hF dX7_count_7 (by decide) (fun hF => ?_) (fun hF => ?_)
  · refine lv_aload_n hx hb dX7_count_18 rfl (lv_at hl 0 rfl) ?_
    refine m_callVi C cd_X7_103 ⟨rfl, by decide⟩ hl.1 hI hF (fun _ h => ok_X7_bad h) rfl rfl ⟨rfl, rfl, Nat.le_of_ble_eq_true rfl, Nat.le_of_ble_eq_true rfl⟩ ⟨Nat.le_of_ble_eq_true rfl, Nat.le_of_ble_eq_true rfl⟩ (Nat.le_of_ble_eq_true rfl) dX7_count_19 (fun r2 S3 H locs hF hI => ?_)
    exact (bl_X7_count_22 C) r2 S3 _ _ _ hF hI (lv_sub hl [] rfl)
  · refine lv_aload_n hx hb dX7_count_10 rfl (lv_at hl 0 rfl) ?_
    refine lv_iload_n hx hb dX7_count_11 rfl (lv_at hl 1 rfl) ?_
    refine m_callViR C cd_X7_307 ⟨rfl, by decide⟩ hl.1 hI hF (fun _ h => ok_X7_countOf h) rfl rfl ⟨rfl, rfl, Nat.le_of_ble_eq_true rfl, Nat.le_of_ble_eq_true rfl⟩ ⟨Nat.le_of_ble_eq_true rfl, Nat.le_of_ble_eq_true rfl⟩ (Nat.le_of_ble_eq_true rfl) dX7_count_12 (fun r4 H locs hF hI => ?_)
    refine lv_goto (tgt := 22) hx hb dX7_count_15 (by decide) ?_
    exact (bl_X7_count_22 C) r4 S _ _ _ hF hI (lv_sub hl [] rfl)
noncomputable def f_X7_mix (v0 : Int32) (v1 : Int64) (S : mS) : Option mS := mGl 7 29 v0 S (fun r1 => mPl 7 29 v0 ((31 * r1) + v1) S (fun S2 => some S2))
def rm_X7_mix : Room := { frames := 0, cells := 0, slots := 0, locals := 0 }
set_option maxRecDepth 100000 in
set_option maxHeartbeats 4000000 in
theorem ok_X7_mix {l : Launch} {E : mE} {v0 : Int32} {v1 : Int64} {S : mS} {F : mS} (hF : f_X7_mix v0 v1 S = some F) : mMv l yX7_mix cX7_mix 3 none rm_X7_mix 0 0 [.ref (mA E.b v0), .long v1] E S F := by
  refine m_met_v (by decide) (Nat.le_of_ble_eq_true rfl) (fun p e s m args below meth c ls hin C hI hl => ?_)
  have hx := C.1
  have hb := C.2.1
  have hl : lv_has ls 3 [(0, .ref (mA E.b v0)), (1, .long v1)] := hl
  generalize s.heap = H at hI ⊢
  generalize ([] : List Loc) = locs at hI ⊢
  refine lv_aload_n hx hb dX7_mix_0 rfl (lv_at hl 0 rfl) ?_
  refine lv_ldc2 (v := 31) hx hb C.2.2.2.1 (C.2.2.2.2.1 _ kw_X7_310) dX7_mix_1 ?_
  refine lv_aload_n hx hb dX7_mix_4 rfl (lv_at hl 0 rfl) ?_
  refine m_getL C fd_X7_312 hI hF dX7_mix_5 (fun r1 hF => ?_)
  refine lv_lmul hx hb dX7_mix_8 ?_
  refine lv_lload_n hx hb dX7_mix_9 rfl (lv_at hl 1 rfl) ?_
  refine lv_ladd hx hb dX7_mix_10 ?_
  refine m_putL C fd_X7_312 hI hF dX7_mix_11 (fun S2 H locs hF hI => ?_)
  exact m_vret C hI hF dX7_mix_14
noncomputable def f_X7_digest_9 (k31 : Int32 → mS → Option (Int64 × mS)) : Nat → Int32 → Int32 → mS → Option (Int64 × mS) := fun n => Nat.rec (motive := fun _ => Int32 → Int32 → mS → Option (Int64 × mS)) (fun _ _ _ => none) (fun _ rec v0 v1 S => if 9 < v1 then (k31 v0 S) else (mRc 7 v0 S (mCp (f_X7_countOf v0 v1 S) (fun r2 => mRc 7 v0 S (mCv (f_X7_mix v0 (r2.toInt64) S) (fun S4 => rec v0 (v1 + 1) S4)))))) n
theorem f_X7_digest_9_s (k31 : Int32 → mS → Option (Int64 × mS)) (n : Nat) (v0 : Int32) (v1 : Int32) (S : mS) : f_X7_digest_9 k31 (n + 1) v0 v1 S = if 9 < v1 then (k31 v0 S) else (mRc 7 v0 S (mCp (f_X7_countOf v0 v1 S) (fun r2 => mRc 7 v0 S (mCv (f_X7_mix v0 (r2.toInt64) S) (fun S4 => (f_X7_digest_9 k31 n) v0 (v1 + 1) S4))))) := rfl
noncomputable def f_X7_digest_33 (k69 : Int32 → mS → Option (Int64 × mS)) : Nat → Int32 → Int32 → mS → Option (Int64 × mS) := fun n => Nat.rec (motive := fun _ => Int32 → Int32 → mS → Option (Int64 × mS)) (fun _ _ _ => none) (fun _ rec v0 v1 S => mG 7 1 v0 S (fun r5 => if r5 ≤ v1 then (k69 v0 S) else (mGr 7 8 v0 S (fun r6 => mX 8 r6 v1 S (fun r7 => mRc 7 v0 S (mCv (f_X7_mix v0 (r7.toInt64) S) (fun S9 => mGr 7 9 v0 S9 (fun r10 => mX 8 r10 v1 S9 (fun r11 => mRc 7 v0 S9 (mCv (f_X7_mix v0 (r11.toInt64) S9) (fun S13 => rec v0 (v1 + 1) S13))))))))))) n
theorem f_X7_digest_33_s (k69 : Int32 → mS → Option (Int64 × mS)) (n : Nat) (v0 : Int32) (v1 : Int32) (S : mS) : f_X7_digest_33 k69 (n + 1) v0 v1 S = mG 7 1 v0 S (fun r5 => if r5 ≤ v1 then (k69 v0 S) else (mGr 7 8 v0 S (fun r6 => mX 8 r6 v1 S (fun r7 => mRc 7 v0 S (mCv (f_X7_mix v0 (r7.toInt64) S) (fun S9 => mGr 7 9 v0 S9 (fun r10 => mX 8 r10 v1 S9 (fun r11 => mRc 7 v0 S9 (mCv (f_X7_mix v0 (r11.toInt64) S9) (fun S13 => (f_X7_digest_33 k69 n) v0 (v1 + 1) S13)))))))))) := rfl
noncomputable def f_X7_digest_71 (k107 : Int32 → mS → Option (Int64 × mS)) : Nat → Int32 → Int32 → mS → Option (Int64 × mS) := fun n => Nat.rec (motive := fun _ => Int32 → Int32 → mS → Option (Int64 × mS)) (fun _ _ _ => none) (fun _ rec v0 v1 S => mG 7 2 v0 S (fun r14 => if r14 ≤ v1 then (k107 v0 S) else (mGr 7 10 v0 S (fun r15 => mX 8 r15 v1 S (fun r16 => mRc 7 v0 S (mCv (f_X7_mix v0 (r16.toInt64) S) (fun S18 => mGr 7 11 v0 S18 (fun r19 => mX 8 r19 v1 S18 (fun r20 => mRc 7 v0 S18 (mCv (f_X7_mix v0 (r20.toInt64) S18) (fun S22 => rec v0 (v1 + 1) S22))))))))))) n
theorem f_X7_digest_71_s (k107 : Int32 → mS → Option (Int64 × mS)) (n : Nat) (v0 : Int32) (v1 : Int32) (S : mS) : f_X7_digest_71 k107 (n + 1) v0 v1 S = mG 7 2 v0 S (fun r14 => if r14 ≤ v1 then (k107 v0 S) else (mGr 7 10 v0 S (fun r15 => mX 8 r15 v1 S (fun r16 => mRc 7 v0 S (mCv (f_X7_mix v0 (r16.toInt64) S) (fun S18 => mGr 7 11 v0 S18 (fun r19 => mX 8 r19 v1 S18 (fun r20 => mRc 7 v0 S18 (mCv (f_X7_mix v0 (r20.toInt64) S18) (fun S22 => (f_X7_digest_71 k107 n) v0 (v1 + 1) S22)))))))))) := rfl
noncomputable def f_X7_digest_109 (k136 : Int32 → mS → Option (Int64 × mS)) : Nat → Int32 → Int32 → mS → Option (Int64 × mS) := fun n => Nat.rec (motive := fun _ => Int32 → Int32 → mS → Option (Int64 × mS)) (fun _ _ _ => none) (fun _ rec v0 v1 S => mG 7 5 v0 S (fun r23 => if (2 * r23) ≤ v1 then (k136 v0 S) else (mGr 7 12 v0 S (fun r24 => mX 8 r24 v1 S (fun r25 => mRc 7 v0 S (mCv (f_X7_mix v0 (r25.toInt64) S) (fun S27 => rec v0 (v1 + 1) S27))))))) n
theorem f_X7_digest_109_s (k136 : Int32 → mS → Option (Int64 × mS)) (n : Nat) (v0 : Int32) (v1 : Int32) (S : mS) : f_X7_digest_109 k136 (n + 1) v0 v1 S = mG 7 5 v0 S (fun r23 => if (2 * r23) ≤ v1 then (k136 v0 S) else (mGr 7 12 v0 S (fun r24 => mX 8 r24 v1 S (fun r25 => mRc 7 v0 S (mCv (f_X7_mix v0 (r25.toInt64) S) (fun S27 => (f_X7_digest_109 k136 n) v0 (v1 + 1) S27)))))) := rfl
noncomputable def f_X7_digest_138 (k165 : Int32 → mS → Option (Int64 × mS)) : Nat → Int32 → Int32 → mS → Option (Int64 × mS) := fun n => Nat.rec (motive := fun _ => Int32 → Int32 → mS → Option (Int64 × mS)) (fun _ _ _ => none) (fun _ rec v0 v1 S => mG 7 6 v0 S (fun r28 => if (3 * r28) ≤ v1 then (k165 v0 S) else (mGr 7 13 v0 S (fun r29 => mX 8 r29 v1 S (fun r30 => mRc 7 v0 S (mCv (f_X7_mix v0 (r30.toInt64) S) (fun S32 => rec v0 (v1 + 1) S32))))))) n
theorem f_X7_digest_138_s (k165 : Int32 → mS → Option (Int64 × mS)) (n : Nat) (v0 : Int32) (v1 : Int32) (S : mS) : f_X7_digest_138 k165 (n + 1) v0 v1 S = mG 7 6 v0 S (fun r28 => if (3 * r28) ≤ v1 then (k165 v0 S) else (mGr 7 13 v0 S (fun r29 => mX 8 r29 v1 S (fun r30 => mRc 7 v0 S (mCv (f_X7_mix v0 (r30.toInt64) S) (fun S32 => (f_X7_digest_138 k165 n) v0 (v1 + 1) S32)))))) := rfl
noncomputable def f_X7_digest_167 (k194 : Int32 → mS → Option (Int64 × mS)) : Nat → Int32 → Int32 → mS → Option (Int64 × mS) := fun n => Nat.rec (motive := fun _ => Int32 → Int32 → mS → Option (Int64 × mS)) (fun _ _ _ => none) (fun _ rec v0 v1 S => mG 7 7 v0 S (fun r33 => if (3 * r33) ≤ v1 then (k194 v0 S) else (mGr 7 14 v0 S (fun r34 => mX 8 r34 v1 S (fun r35 => mRc 7 v0 S (mCv (f_X7_mix v0 (r35.toInt64) S) (fun S37 => rec v0 (v1 + 1) S37))))))) n
theorem f_X7_digest_167_s (k194 : Int32 → mS → Option (Int64 × mS)) (n : Nat) (v0 : Int32) (v1 : Int32) (S : mS) : f_X7_digest_167 k194 (n + 1) v0 v1 S = mG 7 7 v0 S (fun r33 => if (3 * r33) ≤ v1 then (k194 v0 S) else (mGr 7 14 v0 S (fun r34 => mX 8 r34 v1 S (fun r35 => mRc 7 v0 S (mCv (f_X7_mix v0 (r35.toInt64) S) (fun S37 => (f_X7_digest_167 k194 n) v0 (v1 + 1) S37)))))) := rfl
noncomputable def f_X7_digest_194 (v0 : Int32) (S : mS) : Option (Int64 × mS) := mGl 7 25 v0 S (fun r38 => mRc 7 v0 S (mCv (f_X7_mix v0 r38 S) (fun S40 => mGl 7 26 v0 S40 (fun r41 => mRc 7 v0 S40 (mCv (f_X7_mix v0 r41 S40) (fun S43 => mGl 7 29 v0 S43 (fun r44 => some (r44, S43))))))))
noncomputable def f_X7_digest_165 (v0 : Int32) (S : mS) : Option (Int64 × mS) := (f_X7_digest_167 (f_X7_digest_194) 1000) v0 0 S
noncomputable def f_X7_digest_136 (v0 : Int32) (S : mS) : Option (Int64 × mS) := (f_X7_digest_138 (f_X7_digest_165) 1000) v0 0 S
noncomputable def f_X7_digest_107 (v0 : Int32) (S : mS) : Option (Int64 × mS) := (f_X7_digest_109 (f_X7_digest_136) 1000) v0 0 S
noncomputable def f_X7_digest_69 (v0 : Int32) (S : mS) : Option (Int64 × mS) := (f_X7_digest_71 (f_X7_digest_107) 1000) v0 0 S
noncomputable def f_X7_digest_31 (v0 : Int32) (S : mS) : Option (Int64 × mS) := (f_X7_digest_33 (f_X7_digest_69) 1000) v0 0 S
noncomputable def f_X7_digest (v0 : Int32) (S : mS) : Option (Int64 × mS) := mPl 7 29 v0 1669 S (fun S1 => (f_X7_digest_9 (f_X7_digest_31) 1000) v0 0 S1)
def rm_X7_digest : Room := { frames := 2, cells := 0, slots := 0, locals := 43 }
set_option maxRecDepth 100000 in
set_option maxHeartbeats 4000000 in
theorem bl_X7_digest_9 {p : Program} {l : Launch} {e : Env} {s : State} {m : MethodId} {args : Array Value} {below : List Frame} {meth : Method} {c : Code} {E : mE} {n0 : Nat} {F : Int64 × mS} (C : mCx p s m args meth c cX7_digest 2 RX7 (some .long) E n0) {k31 : Int32 → mS → Option (Int64 × mS)} (hk31 : ∀ (v0 : Int32) (S : mS) (H : Heap) (locs : List Loc) (ls : Array Slot), k31 v0 S = some F → mIv s E S H locs 0 → lv_has ls 2 [(0, .ref (mA E.b v0))] → W p l e rm_X7_digest s m args below meth c H locs 0 0 (mQl below args s 0 0 n0 E F) (F0 m 31 ls [])) : ∀ (n : Nat)  (v0 : Int32) (v1 : Int32) (S : mS) (H : Heap) (locs : List Loc) (ls : Array Slot), f_X7_digest_9 k31 n v0 v1 S = some F → mIv s E S H locs 0 → lv_has ls 2 [(0, .ref (mA E.b v0)), (1, .int v1)] → W p l e rm_X7_digest s m args below meth c H locs 0 0 (mQl below args s 0 0 n0 E F) (F0 m 9 ls []) := by
  have hx := C.1
  have hb := C.2.1
  intro n
  induction n with
  | zero =>
    intro v0 v1 S H locs ls hF
    exact nomatch (show (none : Option (Int64 × mS)) = some F from hF)
  | succ n ih =>
    intro v0 v1 S H locs ls hF hI hl
    have hF := (f_X7_digest_9_s k31 n v0 v1 S).symm.trans hF
    refine lv_iload_n hx hb dX7_digest_9 rfl (lv_at hl 1 rfl) ?_
    refine lv_bipush (v := 9) hx hb dX7_digest_10 (by decide) ?_
    refine m_icmp_gt C (tgt := 31) hF dX7_digest_12 (by decide) (fun hF => ?_) (fun hF => ?_)
    · exact hk31 v0 S _ _ _ hF hI (lv_sub hl [0] rfl)
    · refine lv_aload_n hx hb dX7_digest_15 rfl (lv_at hl 0 rfl) ?_
      refine lv_aload_n hx hb dX7_digest_16 rfl (lv_at hl 0 rfl) ?_
      refine lv_iload_n hx hb dX7_digest_17 rfl (lv_at hl 1 rfl) ?_
      refine m_callViR C cd_X7_307 ⟨rfl, by decide⟩ hl.1 hI hF (fun _ h => ok_X7_countOf h) rfl rfl ⟨rfl, rfl, Nat.le_of_ble_eq_true rfl, Nat.le_of_ble_eq_true rfl⟩ ⟨Nat.le_of_ble_eq_true rfl, Nat.le_of_ble_eq_true rfl⟩ (Nat.le_of_ble_eq_true rfl) dX7_digest_18 (fun r2 H locs hF hI => ?_)
      refine lv_i2l hx hb dX7_digest_21 rfl ?_
      refine m_callVv C cd_X7_317 ⟨rfl, by decide⟩ hl.1 hI hF (fun _ h => ok_X7_mix h) rfl rfl ⟨rfl, rfl, Nat.le_of_ble_eq_true rfl, Nat.le_of_ble_eq_true rfl⟩ ⟨Nat.le_of_ble_eq_true rfl, Nat.le_of_ble_eq_true rfl⟩ (Nat.le_of_ble_eq_true rfl) dX7_digest_22 (fun S4 H locs hF hI => ?_)
      refine lv_iinc (v := v1 + 1) (lv' := [(1, .int (v1 + 1)), (0, .ref (mA E.b v0))]) hx hb dX7_digest_25 hl (k := 1) rfl rfl (by decide) rfl (fun ls hl => ?_)
      refine lv_goto (tgt := 9) hx hb dX7_digest_28 (by decide) ?_
      exact ih v0 (v1 + 1) S4 _ _ _ hF hI (lv_sub hl [1, 0] rfl)
set_option maxRecDepth 100000 in
set_option maxHeartbeats 4000000 in
theorem bl_X7_digest_33 {p : Program} {l : Launch} {e : Env} {s : State} {m : MethodId} {args : Array Value} {below : List Frame} {meth : Method} {c : Code} {E : mE} {n0 : Nat} {F : Int64 × mS} (C : mCx p s m args meth c cX7_digest 2 RX7 (some .long) E n0) {k69 : Int32 → mS → Option (Int64 × mS)} (hk69 : ∀ (v0 : Int32) (S : mS) (H : Heap) (locs : List Loc) (ls : Array Slot), k69 v0 S = some F → mIv s E S H locs 0 → lv_has ls 2 [(0, .ref (mA E.b v0))] → W p l e rm_X7_digest s m args below meth c H locs 0 0 (mQl below args s 0 0 n0 E F) (F0 m 69 ls [])) : ∀ (n : Nat)  (v0 : Int32) (v1 : Int32) (S : mS) (H : Heap) (locs : List Loc) (ls : Array Slot), f_X7_digest_33 k69 n v0 v1 S = some F → mIv s E S H locs 0 → lv_has ls 2 [(0, .ref (mA E.b v0)), (1, .int v1)] → W p l e rm_X7_digest s m args below meth c H locs 0 0 (mQl below args s 0 0 n0 E F) (F0 m 33 ls []) := by
  have hx := C.1
  have hb := C.2.1
  intro n
  induction n with
  | zero =>
    intro v0 v1 S H locs ls hF
    exact nomatch (show (none : Option (Int64 × mS)) = some F from hF)
  | succ n ih =>
    intro v0 v1 S H locs ls hF hI hl
    have hF := (f_X7_digest_33_s k69 n v0 v1 S).symm.trans hF
    refine lv_iload_n hx hb dX7_digest_33 rfl (lv_at hl 1 rfl) ?_
    refine lv_aload_n hx hb dX7_digest_34 rfl (lv_at hl 0 rfl) ?_
    refine m_get C fd_X7_70 hI hF dX7_digest_35 (fun r5 hF => ?_)
    refine m_icmp_ge C (tgt := 69) hF dX7_digest_38 (by decide) (fun hF => ?_) (fun hF => ?_)
    · exact hk69 v0 S _ _ _ hF hI (lv_sub hl [0] rfl)
    · refine lv_aload_n hx hb dX7_digest_41 rfl (lv_at hl 0 rfl) ?_
      refine lv_aload_n hx hb dX7_digest_42 rfl (lv_at hl 0 rfl) ?_
      refine m_getR C fd_X7_17 hI hF dX7_digest_43 (fun r6 hF => ?_)
      refine lv_iload_n hx hb dX7_digest_46 rfl (lv_at hl 1 rfl) ?_
      refine m_iald C hI hF dX7_digest_47 (fun r7 hF => ?_)
      refine lv_i2l hx hb dX7_digest_48 rfl ?_
      refine m_callVv C cd_X7_317 ⟨rfl, by decide⟩ hl.1 hI hF (fun _ h => ok_X7_mix h) rfl rfl ⟨rfl, rfl, Nat.le_of_ble_eq_true rfl, Nat.le_of_ble_eq_true rfl⟩ ⟨Nat.le_of_ble_eq_true rfl, Nat.le_of_ble_eq_true rfl⟩ (Nat.le_of_ble_eq_true rfl) dX7_digest_49 (fun S9 H locs hF hI => ?_)
      refine lv_aload_n hx hb dX7_digest_52 rfl (lv_at hl 0 rfl) ?_
      refine lv_aload_n hx hb dX7_digest_53 rfl (lv_at hl 0 rfl) ?_
      refine m_getR C fd_X7_20 hI hF dX7_digest_54 (fun r10 hF => ?_)
      refine lv_iload_n hx hb dX7_digest_57 rfl (lv_at hl 1 rfl) ?_
      refine m_iald C hI hF dX7_digest_58 (fun r11 hF => ?_)
      refine lv_i2l hx hb dX7_digest_59 rfl ?_
      refine m_callVv C cd_X7_317 ⟨rfl, by decide⟩ hl.1 hI hF (fun _ h => ok_X7_mix h) rfl rfl ⟨rfl, rfl, Nat.le_of_ble_eq_true rfl, Nat.le_of_ble_eq_true rfl⟩ ⟨Nat.le_of_ble_eq_true rfl, Nat.le_of_ble_eq_true rfl⟩ (Nat.le_of_ble_eq_true rfl) dX7_digest_60 (fun S13 H locs hF hI => ?_)
      refine lv_iinc (v := v1 + 1) (lv' := [(1, .int (v1 + 1)), (0, .ref (mA E.b v0))]) hx hb dX7_digest_63 hl (k := 1) rfl rfl (by decide) rfl (fun ls hl => ?_)
      refine lv_goto (tgt := 33) hx hb dX7_digest_66 (by decide) ?_
      exact ih v0 (v1 + 1) S13 _ _ _ hF hI (lv_sub hl [1, 0] rfl)
set_option maxRecDepth 100000 in
set_option maxHeartbeats 4000000 in
theorem bl_X7_digest_71 {p : Program} {l : Launch} {e : Env} {s : State} {m : MethodId} {args : Array Value} {below : List Frame} {meth : Method} {c : Code} {E : mE} {n0 : Nat} {F : Int64 × mS} (C : mCx p s m args meth c cX7_digest 2 RX7 (some .long) E n0) {k107 : Int32 → mS → Option (Int64 × mS)} (hk107 : ∀ (v0 : Int32) (S : mS) (H : Heap) (locs : List Loc) (ls : Array Slot), k107 v0 S = some F → mIv s E S H locs 0 → lv_has ls 2 [(0, .ref (mA E.b v0))] → W p l e rm_X7_digest s m args below meth c H locs 0 0 (mQl below args s 0 0 n0 E F) (F0 m 107 ls [])) : ∀ (n : Nat)  (v0 : Int32) (v1 : Int32) (S : mS) (H : Heap) (locs : List Loc) (ls : Array Slot), f_X7_digest_71 k107 n v0 v1 S = some F → mIv s E S H locs 0 → lv_has ls 2 [(0, .ref (mA E.b v0)), (1, .int v1)] → W p l e rm_X7_digest s m args below meth c H locs 0 0 (mQl below args s 0 0 n0 E F) (F0 m 71 ls []) := by
  have hx := C.1
  have hb := C.2.1
  intro n
  induction n with
  | zero =>
    intro v0 v1 S H locs ls hF
    exact nomatch (show (none : Option (Int64 × mS)) = some F from hF)
  | succ n ih =>
    intro v0 v1 S H locs ls hF hI hl
    have hF := (f_X7_digest_71_s k107 n v0 v1 S).symm.trans hF
    refine lv_iload_n hx hb dX7_digest_71 rfl (lv_at hl 1 rfl) ?_
    refine lv_aload_n hx hb dX7_digest_72 rfl (lv_at hl 0 rfl) ?_
    refine m_get C fd_X7_74 hI hF dX7_digest_73 (fun r14 hF => ?_)
    refine m_icmp_ge C (tgt := 107) hF dX7_digest_76 (by decide) (fun hF => ?_) (fun hF => ?_)
    · exact hk107 v0 S _ _ _ hF hI (lv_sub hl [0] rfl)
    · refine lv_aload_n hx hb dX7_digest_79 rfl (lv_at hl 0 rfl) ?_
      refine lv_aload_n hx hb dX7_digest_80 rfl (lv_at hl 0 rfl) ?_
      refine m_getR C fd_X7_23 hI hF dX7_digest_81 (fun r15 hF => ?_)
      refine lv_iload_n hx hb dX7_digest_84 rfl (lv_at hl 1 rfl) ?_
      refine m_iald C hI hF dX7_digest_85 (fun r16 hF => ?_)
      refine lv_i2l hx hb dX7_digest_86 rfl ?_
      refine m_callVv C cd_X7_317 ⟨rfl, by decide⟩ hl.1 hI hF (fun _ h => ok_X7_mix h) rfl rfl ⟨rfl, rfl, Nat.le_of_ble_eq_true rfl, Nat.le_of_ble_eq_true rfl⟩ ⟨Nat.le_of_ble_eq_true rfl, Nat.le_of_ble_eq_true rfl⟩ (Nat.le_of_ble_eq_true rfl) dX7_digest_87 (fun S18 H locs hF hI => ?_)
      refine lv_aload_n hx hb dX7_digest_90 rfl (lv_at hl 0 rfl) ?_
      refine lv_aload_n hx hb dX7_digest_91 rfl (lv_at hl 0 rfl) ?_
      refine m_getR C fd_X7_26 hI hF dX7_digest_92 (fun r19 hF => ?_)
      refine lv_iload_n hx hb dX7_digest_95 rfl (lv_at hl 1 rfl) ?_
      refine m_iald C hI hF dX7_digest_96 (fun r20 hF => ?_)
      refine lv_i2l hx hb dX7_digest_97 rfl ?_
      refine m_callVv C cd_X7_317 ⟨rfl, by decide⟩ hl.1 hI hF (fun _ h => ok_X7_mix h) rfl rfl ⟨rfl, rfl, Nat.le_of_ble_eq_true rfl, Nat.le_of_ble_eq_true rfl⟩ ⟨Nat.le_of_ble_eq_true rfl, Nat.le_of_ble_eq_true rfl⟩ (Nat.le_of_ble_eq_true rfl) dX7_digest_98 (fun S22 H locs hF hI => ?_)
      refine lv_iinc (v := v1 + 1) (lv' := [(1, .int (v1 + 1)), (0, .ref (mA E.b v0))]) hx hb dX7_digest_101 hl (k := 1) rfl rfl (by decide) rfl (fun ls hl => ?_)
      refine lv_goto (tgt := 71) hx hb dX7_digest_104 (by decide) ?_
      exact ih v0 (v1 + 1) S22 _ _ _ hF hI (lv_sub hl [1, 0] rfl)
set_option maxRecDepth 100000 in
set_option maxHeartbeats 4000000 in
theorem bl_X7_digest_109 {p : Program} {l : Launch} {e : Env} {s : State} {m : MethodId} {args : Array Value} {below : List Frame} {meth : Method} {c : Code} {E : mE} {n0 : Nat} {F : Int64 × mS} (C : mCx p s m args meth c cX7_digest 2 RX7 (some .long) E n0) {k136 : Int32 → mS → Option (Int64 × mS)} (hk136 : ∀ (v0 : Int32) (S : mS) (H : Heap) (locs : List Loc) (ls : Array Slot), k136 v0 S = some F → mIv s E S H locs 0 → lv_has ls 2 [(0, .ref (mA E.b v0))] → W p l e rm_X7_digest s m args below meth c H locs 0 0 (mQl below args s 0 0 n0 E F) (F0 m 136 ls [])) : ∀ (n : Nat)  (v0 : Int32) (v1 : Int32) (S : mS) (H : Heap) (locs : List Loc) (ls : Array Slot), f_X7_digest_109 k136 n v0 v1 S = some F → mIv s E S H locs 0 → lv_has ls 2 [(0, .ref (mA E.b v0)), (1, .int v1)] → W p l e rm_X7_digest s m args below meth c H locs 0 0 (mQl below args s 0 0 n0 E F) (F0 m 109 ls []) := by
  have hx := C.1
  have hb := C.2.1
  intro n
  induction n with
  | zero =>
    intro v0 v1 S H locs ls hF
    exact nomatch (show (none : Option (Int64 × mS)) = some F from hF)
  | succ n ih =>
    intro v0 v1 S H locs ls hF hI hl
    have hF := (f_X7_digest_109_s k136 n v0 v1 S).symm.trans hF
    refine lv_iload_n hx hb dX7_digest_109 rfl (lv_at hl 1 rfl) ?_
    refine lv_iconst (v := 2) hx hb dX7_digest_110 (by decide) ?_
    refine lv_aload_n hx hb dX7_digest_111 rfl (lv_at hl 0 rfl) ?_
    refine m_get C fd_X7_83 hI hF dX7_digest_112 (fun r23 hF => ?_)
    refine lv_imul hx hb dX7_digest_115 ?_
    refine m_icmp_ge C (tgt := 136) hF dX7_digest_116 (by decide) (fun hF => ?_) (fun hF => ?_)
    · exact hk136 v0 S _ _ _ hF hI (lv_sub hl [0] rfl)
    · refine lv_aload_n hx hb dX7_digest_119 rfl (lv_at hl 0 rfl) ?_
      refine lv_aload_n hx hb dX7_digest_120 rfl (lv_at hl 0 rfl) ?_
      refine m_getR C fd_X7_29 hI hF dX7_digest_121 (fun r24 hF => ?_)
      refine lv_iload_n hx hb dX7_digest_124 rfl (lv_at hl 1 rfl) ?_
      refine m_iald C hI hF dX7_digest_125 (fun r25 hF => ?_)
      refine lv_i2l hx hb dX7_digest_126 rfl ?_
      refine m_callVv C cd_X7_317 ⟨rfl, by decide⟩ hl.1 hI hF (fun _ h => ok_X7_mix h) rfl rfl ⟨rfl, rfl, Nat.le_of_ble_eq_true rfl, Nat.le_of_ble_eq_true rfl⟩ ⟨Nat.le_of_ble_eq_true rfl, Nat.le_of_ble_eq_true rfl⟩ (Nat.le_of_ble_eq_true rfl) dX7_digest_127 (fun S27 H locs hF hI => ?_)
      refine lv_iinc (v := v1 + 1) (lv' := [(1, .int (v1 + 1)), (0, .ref (mA E.b v0))]) hx hb dX7_digest_130 hl (k := 1) rfl rfl (by decide) rfl (fun ls hl => ?_)
      refine lv_goto (tgt := 109) hx hb dX7_digest_133 (by decide) ?_
      exact ih v0 (v1 + 1) S27 _ _ _ hF hI (lv_sub hl [1, 0] rfl)
set_option maxRecDepth 100000 in
set_option maxHeartbeats 4000000 in
theorem bl_X7_digest_138 {p : Program} {l : Launch} {e : Env} {s : State} {m : MethodId} {args : Array Value} {below : List Frame} {meth : Method} {c : Code} {E : mE} {n0 : Nat} {F : Int64 × mS} (C : mCx p s m args meth c cX7_digest 2 RX7 (some .long) E n0) {k165 : Int32 → mS → Option (Int64 × mS)} (hk165 : ∀ (v0 : Int32) (S : mS) (H : Heap) (locs : List Loc) (ls : Array Slot), k165 v0 S = some F → mIv s E S H locs 0 → lv_has ls 2 [(0, .ref (mA E.b v0))] → W p l e rm_X7_digest s m args below meth c H locs 0 0 (mQl below args s 0 0 n0 E F) (F0 m 165 ls [])) : ∀ (n : Nat)  (v0 : Int32) (v1 : Int32) (S : mS) (H : Heap) (locs : List Loc) (ls : Array Slot), f_X7_digest_138 k165 n v0 v1 S = some F → mIv s E S H locs 0 → lv_has ls 2 [(0, .ref (mA E.b v0)), (1, .int v1)] → W p l e rm_X7_digest s m args below meth c H locs 0 0 (mQl below args s 0 0 n0 E F) (F0 m 138 ls []) := by
  have hx := C.1
  have hb := C.2.1
  intro n
  induction n with
  | zero =>
    intro v0 v1 S H locs ls hF
    exact nomatch (show (none : Option (Int64 × mS)) = some F from hF)
  | succ n ih =>
    intro v0 v1 S H locs ls hF hI hl
    have hF := (f_X7_digest_138_s k165 n v0 v1 S).symm.trans hF
    refine lv_iload_n hx hb dX7_digest_138 rfl (lv_at hl 1 rfl) ?_
    refine lv_iconst (v := 3) hx hb dX7_digest_139 (by decide) ?_
    refine lv_aload_n hx hb dX7_digest_140 rfl (lv_at hl 0 rfl) ?_
    refine m_get C fd_X7_86 hI hF dX7_digest_141 (fun r28 hF => ?_)
    refine lv_imul hx hb dX7_digest_144 ?_
    refine m_icmp_ge C (tgt := 165) hF dX7_digest_145 (by decide) (fun hF => ?_) (fun hF => ?_)
    · exact hk165 v0 S _ _ _ hF hI (lv_sub hl [0] rfl)
    · refine lv_aload_n hx hb dX7_digest_148 rfl (lv_at hl 0 rfl) ?_
      refine lv_aload_n hx hb dX7_digest_149 rfl (lv_at hl 0 rfl) ?_
      refine m_getR C fd_X7_32 hI hF dX7_digest_150 (fun r29 hF => ?_)
      refine lv_iload_n hx hb dX7_digest_153 rfl (lv_at hl 1 rfl) ?_
      refine m_iald C hI hF dX7_digest_154 (fun r30 hF => ?_)
      refine lv_i2l hx hb dX7_digest_155 rfl ?_
      refine m_callVv C cd_X7_317 ⟨rfl, by decide⟩ hl.1 hI hF (fun _ h => ok_X7_mix h) rfl rfl ⟨rfl, rfl, Nat.le_of_ble_eq_true rfl, Nat.le_of_ble_eq_true rfl⟩ ⟨Nat.le_of_ble_eq_true rfl, Nat.le_of_ble_eq_true rfl⟩ (Nat.le_of_ble_eq_true rfl) dX7_digest_156 (fun S32 H locs hF hI => ?_)
      refine lv_iinc (v := v1 + 1) (lv' := [(1, .int (v1 + 1)), (0, .ref (mA E.b v0))]) hx hb dX7_digest_159 hl (k := 1) rfl rfl (by decide) rfl (fun ls hl => ?_)
      refine lv_goto (tgt := 138) hx hb dX7_digest_162 (by decide) ?_
      exact ih v0 (v1 + 1) S32 _ _ _ hF hI (lv_sub hl [1, 0] rfl)
set_option maxRecDepth 100000 in
set_option maxHeartbeats 4000000 in
theorem bl_X7_digest_167 {p : Program} {l : Launch} {e : Env} {s : State} {m : MethodId} {args : Array Value} {below : List Frame} {meth : Method} {c : Code} {E : mE} {n0 : Nat} {F : Int64 × mS} (C : mCx p s m args meth c cX7_digest 2 RX7 (some .long) E n0) {k194 : Int32 → mS → Option (Int64 × mS)} (hk194 : ∀ (v0 : Int32) (S : mS) (H : Heap) (locs : List Loc) (ls : Array Slot), k194 v0 S = some F → mIv s E S H locs 0 → lv_has ls 2 [(0, .ref (mA E.b v0))] → W p l e rm_X7_digest s m args below meth c H locs 0 0 (mQl below args s 0 0 n0 E F) (F0 m 194 ls [])) : ∀ (n : Nat)  (v0 : Int32) (v1 : Int32) (S : mS) (H : Heap) (locs : List Loc) (ls : Array Slot), f_X7_digest_167 k194 n v0 v1 S = some F → mIv s E S H locs 0 → lv_has ls 2 [(0, .ref (mA E.b v0)), (1, .int v1)] → W p l e rm_X7_digest s m args below meth c H locs 0 0 (mQl below args s 0 0 n0 E F) (F0 m 167 ls []) := by
  have hx := C.1
  have hb := C.2.1
  intro n
  induction n with
  | zero =>
    intro v0 v1 S H locs ls hF
    exact nomatch (show (none : Option (Int64 × mS)) = some F from hF)
  | succ n ih =>
    intro v0 v1 S H locs ls hF hI hl
    have hF := (f_X7_digest_167_s k194 n v0 v1 S).symm.trans hF
    refine lv_iload_n hx hb dX7_digest_167 rfl (lv_at hl 1 rfl) ?_
    refine lv_iconst (v := 3) hx hb dX7_digest_168 (by decide) ?_
    refine lv_aload_n hx hb dX7_digest_169 rfl (lv_at hl 0 rfl) ?_
    refine m_get C fd_X7_89 hI hF dX7_digest_170 (fun r33 hF => ?_)
    refine lv_imul hx hb dX7_digest_173 ?_
    refine m_icmp_ge C (tgt := 194) hF dX7_digest_174 (by decide) (fun hF => ?_) (fun hF => ?_)
    · exact hk194 v0 S _ _ _ hF hI (lv_sub hl [0] rfl)
    · refine lv_aload_n hx hb dX7_digest_177 rfl (lv_at hl 0 rfl) ?_
      refine lv_aload_n hx hb dX7_digest_178 rfl (lv_at hl 0 rfl) ?_
      refine m_getR C fd_X7_35 hI hF dX7_digest_179 (fun r34 hF => ?_)
      refine lv_iload_n hx hb dX7_digest_182 rfl (lv_at hl 1 rfl) ?_
      refine m_iald C hI hF dX7_digest_183 (fun r35 hF => ?_)
      refine lv_i2l hx hb dX7_digest_184 rfl ?_
      refine m_callVv C cd_X7_317 ⟨rfl, by decide⟩ hl.1 hI hF (fun _ h => ok_X7_mix h) rfl rfl ⟨rfl, rfl, Nat.le_of_ble_eq_true rfl, Nat.le_of_ble_eq_true rfl⟩ ⟨Nat.le_of_ble_eq_true rfl, Nat.le_of_ble_eq_true rfl⟩ (Nat.le_of_ble_eq_true rfl) dX7_digest_185 (fun S37 H locs hF hI => ?_)
      refine lv_iinc (v := v1 + 1) (lv' := [(1, .int (v1 + 1)), (0, .ref (mA E.b v0))]) hx hb dX7_digest_188 hl (k := 1) rfl rfl (by decide) rfl (fun ls hl => ?_)
      refine lv_goto (tgt := 167) hx hb dX7_digest_191 (by decide) ?_
      exact ih v0 (v1 + 1) S37 _ _ _ hF hI (lv_sub hl [1, 0] rfl)
set_option maxRecDepth 100000 in
set_option maxHeartbeats 4000000 in
theorem bl_X7_digest_194 {p : Program} {l : Launch} {e : Env} {s : State} {m : MethodId} {args : Array Value} {below : List Frame} {meth : Method} {c : Code} {E : mE} {n0 : Nat} {F : Int64 × mS} (C : mCx p s m args meth c cX7_digest 2 RX7 (some .long) E n0) : ∀  (v0 : Int32) (S : mS) (H : Heap) (locs : List Loc) (ls : Array Slot), f_X7_digest_194 v0 S = some F → mIv s E S H locs 0 → lv_has ls 2 [(0, .ref (mA E.b v0))] → W p l e rm_X7_digest s m args below meth c H locs 0 0 (mQl below args s 0 0 n0 E F) (F0 m 194 ls []) := by
  have hx := C.1
  have hb := C.2.1
  intro v0 S H locs ls hF hI hl
  refine lv_aload_n hx hb dX7_digest_194 rfl (lv_at hl 0 rfl) ?_
  refine lv_aload_n hx hb dX7_digest_195 rfl (lv_at hl 0 rfl) ?_
  refine m_getL C fd_X7_283 hI hF dX7_digest_196 (fun r38 hF => ?_)
  refine m_callVv C cd_X7_317 ⟨rfl, by decide⟩ hl.1 hI hF (fun _ h => ok_X7_mix h) rfl rfl ⟨rfl, rfl, Nat.le_of_ble_eq_true rfl, Nat.le_of_ble_eq_true rfl⟩ ⟨Nat.le_of_ble_eq_true rfl, Nat.le_of_ble_eq_true rfl⟩ (Nat.le_of_ble_eq_true rfl) dX7_digest_199 (fun S40 H locs hF hI => ?_)
  refine lv_aload_n hx hb dX7_digest_202 rfl (lv_at hl 0 rfl) ?_
  refine lv_aload_n hx hb dX7_digest_203 rfl (lv_at hl 0 rfl) ?_
  refine m_getL C fd_X7_56 hI hF dX7_digest_204 (fun r41 hF => ?_)
  refine m_callVv C cd_X7_317 ⟨rfl, by decide⟩ hl.1 hI hF (fun _ h => ok_X7_mix h) rfl rfl ⟨rfl, rfl, Nat.le_of_ble_eq_true rfl, Nat.le_of_ble_eq_true rfl⟩ ⟨Nat.le_of_ble_eq_true rfl, Nat.le_of_ble_eq_true rfl⟩ (Nat.le_of_ble_eq_true rfl) dX7_digest_207 (fun S43 H locs hF hI => ?_)
  refine lv_aload_n hx hb dX7_digest_210 rfl (lv_at hl 0 rfl) ?_
  refine m_getL C fd_X7_312 hI hF dX7_digest_211 (fun r44 hF => ?_)
  exact m_lret C hI hF dX7_digest_214
set_option maxRecDepth 100000 in
set_option maxHeartbeats 4000000 in
theorem bl_X7_digest_165 {p : Program} {l : Launch} {e : Env} {s : State} {m : MethodId} {args : Array Value} {below : List Frame} {meth : Method} {c : Code} {E : mE} {n0 : Nat} {F : Int64 × mS} (C : mCx p s m args meth c cX7_digest 2 RX7 (some .long) E n0) : ∀  (v0 : Int32) (S : mS) (H : Heap) (locs : List Loc) (ls : Array Slot), f_X7_digest_165 v0 S = some F → mIv s E S H locs 0 → lv_has ls 2 [(0, .ref (mA E.b v0))] → W p l e rm_X7_digest s m args below meth c H locs 0 0 (mQl below args s 0 0 n0 E F) (F0 m 165 ls []) := by
  have hx := C.1
  have hb := C.2.1
  intro v0 S H locs ls hF hI hl
  refine lv_iconst (v := 0) hx hb dX7_digest_165 (by decide) ?_
  refine lv_istore_n (lv' := [(1, .int 0), (0, .ref (mA E.b v0))]) hx hb dX7_digest_166 rfl hl (by decide) rfl (fun ls hl => ?_)
  exact (bl_X7_digest_167 C (k194 := (f_X7_digest_194)) (bl_X7_digest_194 C) 1000) v0 0 S _ _ _ hF hI (lv_sub hl [1, 0] rfl)
set_option maxRecDepth 100000 in
set_option maxHeartbeats 4000000 in
theorem bl_X7_digest_136 {p : Program} {l : Launch} {e : Env} {s : State} {m : MethodId} {args : Array Value} {below : List Frame} {meth : Method} {c : Code} {E : mE} {n0 : Nat} {F : Int64 × mS} (C : mCx p s m args meth c cX7_digest 2 RX7 (some .long) E n0) : ∀  (v0 : Int32) (S : mS) (H : Heap) (locs : List Loc) (ls : Array Slot), f_X7_digest_136 v0 S = some F → mIv s E S H locs 0 → lv_has ls 2 [(0, .ref (mA E.b v0))] → W p l e rm_X7_digest s m args below meth c H locs 0 0 (mQl below args s 0 0 n0 E F) (F0 m 136 ls []) := by
  have hx := C.1
  have hb := C.2.1
  intro v0 S H locs ls hF hI hl
  refine lv_iconst (v := 0) hx hb dX7_digest_136 (by decide) ?_
  refine lv_istore_n (lv' := [(1, .int 0), (0, .ref (mA E.b v0))]) hx hb dX7_digest_137 rfl hl (by decide) rfl (fun ls hl => ?_)
  exact (bl_X7_digest_138 C (k165 := (f_X7_digest_165)) (bl_X7_digest_165 C) 1000) v0 0 S _ _ _ hF hI (lv_sub hl [1, 0] rfl)
set_option maxRecDepth 100000 in
set_option maxHeartbeats 4000000 in
theorem bl_X7_digest_107 {p : Program} {l : Launch} {e : Env} {s : State} {m : MethodId} {args : Array Value} {below : List Frame} {meth : Method} {c : Code} {E : mE} {n0 : Nat} {F : Int64 × mS} (C : mCx p s m args meth c cX7_digest 2 RX7 (some .long) E n0) : ∀  (v0 : Int32) (S : mS) (H : Heap) (locs : List Loc) (ls : Array Slot), f_X7_digest_107 v0 S = some F → mIv s E S H locs 0 → lv_has ls 2 [(0, .ref (mA E.b v0))] → W p l e rm_X7_digest s m args below meth c H locs 0 0 (mQl below args s 0 0 n0 E F) (F0 m 107 ls []) := by
  have hx := C.1
  have hb := C.2.1
  intro v0 S H locs ls hF hI hl
  refine lv_iconst (v := 0) hx hb dX7_digest_107 (by decide) ?_
  refine lv_istore_n (lv' := [(1, .int 0), (0, .ref (mA E.b v0))]) hx hb dX7_digest_108 rfl hl (by decide) rfl (fun ls hl => ?_)
  exact (bl_X7_digest_109 C (k136 := (f_X7_digest_136)) (bl_X7_digest_136 C) 1000) v0 0 S _ _ _ hF hI (lv_sub hl [1, 0] rfl)
set_option maxRecDepth 100000 in
set_option maxHeartbeats 4000000 in
theorem bl_X7_digest_69 {p : Program} {l : Launch} {e : Env} {s : State} {m : MethodId} {args : Array Value} {below : List Frame} {meth : Method} {c : Code} {E : mE} {n0 : Nat} {F : Int64 × mS} (C : mCx p s m args meth c cX7_digest 2 RX7 (some .long) E n0) : ∀  (v0 : Int32) (S : mS) (H : Heap) (locs : List Loc) (ls : Array Slot), f_X7_digest_69 v0 S = some F → mIv s E S H locs 0 → lv_has ls 2 [(0, .ref (mA E.b v0))] → W p l e rm_X7_digest s m args below meth c H locs 0 0 (mQl below args s 0 0 n0 E F) (F0 m 69 ls []) := by
  have hx := C.1
  have hb := C.2.1
  intro v0 S H locs ls hF hI hl
  refine lv_iconst (v := 0) hx hb dX7_digest_69 (by decide) ?_
  refine lv_istore_n (lv' := [(1, .int 0), (0, .ref (mA E.b v0))]) hx hb dX7_digest_70 rfl hl (by decide) rfl (fun ls hl => ?_)
  exact (bl_X7_digest_71 C (k107 := (f_X7_digest_107)) (bl_X7_digest_107 C) 1000) v0 0 S _ _ _ hF hI (lv_sub hl [1, 0] rfl)
set_option maxRecDepth 100000 in
set_option maxHeartbeats 4000000 in
theorem bl_X7_digest_31 {p : Program} {l : Launch} {e : Env} {s : State} {m : MethodId} {args : Array Value} {below : List Frame} {meth : Method} {c : Code} {E : mE} {n0 : Nat} {F : Int64 × mS} (C : mCx p s m args meth c cX7_digest 2 RX7 (some .long) E n0) : ∀  (v0 : Int32) (S : mS) (H : Heap) (locs : List Loc) (ls : Array Slot), f_X7_digest_31 v0 S = some F → mIv s E S H locs 0 → lv_has ls 2 [(0, .ref (mA E.b v0))] → W p l e rm_X7_digest s m args below meth c H locs 0 0 (mQl below args s 0 0 n0 E F) (F0 m 31 ls []) := by
  have hx := C.1
  have hb := C.2.1
  intro v0 S H locs ls hF hI hl
  refine lv_iconst (v := 0) hx hb dX7_digest_31 (by decide) ?_
  refine lv_istore_n (lv' := [(1, .int 0), (0, .ref (mA E.b v0))]) hx hb dX7_digest_32 rfl hl (by decide) rfl (fun ls hl => ?_)
  exact (bl_X7_digest_33 C (k69 := (f_X7_digest_69)) (bl_X7_digest_69 C) 1000) v0 0 S _ _ _ hF hI (lv_sub hl [1, 0] rfl)
set_option maxRecDepth 100000 in
set_option maxHeartbeats 4000000 in
theorem ok_X7_digest {l : Launch} {E : mE} {v0 : Int32} {S : mS} {F : Int64 × mS} (hF : f_X7_digest v0 S = some F) : mMl l yX7_digest cX7_digest 2 (some .long) rm_X7_digest 0 0 [.ref (mA E.b v0)] E S F := by
  refine m_met_l (by decide) (Nat.le_of_ble_eq_true rfl) (fun p e s m args below meth c ls hin C hI hl => ?_)
  have hx := C.1
  have hb := C.2.1
  have hl : lv_has ls 2 [(0, .ref (mA E.b v0))] := hl
  generalize s.heap = H at hI ⊢
  generalize ([] : List Loc) = locs at hI ⊢
  refine lv_aload_n hx hb dX7_digest_0 rfl (lv_at hl 0 rfl) ?_
  refine lv_ldc2 (v := 1669) hx hb C.2.2.2.1 (C.2.2.2.2.1 _ kw_X7_315) dX7_digest_1 ?_
  refine m_putL C fd_X7_312 hI hF dX7_digest_4 (fun S1 H locs hF hI => ?_)
  refine lv_iconst (v := 0) hx hb dX7_digest_7 (by decide) ?_
  refine lv_istore_n (lv' := [(1, .int 0), (0, .ref (mA E.b v0))]) hx hb dX7_digest_8 rfl hl (by decide) rfl (fun ls hl => ?_)
  exact (bl_X7_digest_9 C (k31 := (f_X7_digest_31)) (bl_X7_digest_31 C) 1000) v0 0 S1 _ _ _ hF hI (lv_sub hl [1, 0] rfl)
