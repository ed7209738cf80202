abbrev wd_X5_allOf (cI : ClassId) (ad da1 : Nat → Nat) (n_a1 : Nat) (writers : Int32) (year : Int32) (taped : Int32) (at_ : Int32) (statements : Int32) (hasImage : Int32) (isKeeping : Int32) (cursor : Int32) (forgottenWhen : Int32) (rowMany : Int32) (a1 : (Nat → Int32)) : va_W := [((ad 0), .inr (5, [.ref (ad 1), .ref (ad 2), .ref (ad 3), .ref (ad 4), .ref (ad 5), .ref (ad 6), .ref (ad 7), .int writers, .int year, .ref (ad 8), .ref (ad 9), .ref (ad 10), .ref (ad 11), .int taped, .int at_, .int statements, .ref (ad 12), .int hasImage, .int isKeeping, .int cursor, .int forgottenWhen, .ref (ad 13), .ref (ad 14), .ref (ad 15), .int rowMany])), ((da1 0), .inl (cI, n_a1, .inl a1))]
def f_X5_allOf_4 (n_a1 : Nat) (writers : Int32) (a1 : (Nat → Int32))  : Nat → Int32 → Int32 → Option (Int32)
  | 0 => fun _ _ => none
  | fuel + 1 => fun v2_4 v3_4 => (if writers ≤ v3_4 then (some v2_4) else (gd v3_4 n_a1 (f_X5_allOf_4 n_a1 writers a1  fuel (v2_4 + (a1 (Int32.toNatClampNeg v3_4))) (v3_4 + (1 : Int32)))))
theorem e_X5_allOf_4 (n_a1 : Nat) (writers : Int32) (a1 : (Nat → Int32))  (fuel : Nat) (v2_4 : Int32) (v3_4 : Int32) : f_X5_allOf_4 n_a1 writers a1  (fuel + 1) v2_4 v3_4 = (if writers ≤ v3_4 then (some v2_4) else (gd v3_4 n_a1 (f_X5_allOf_4 n_a1 writers a1  fuel (v2_4 + (a1 (Int32.toNatClampNeg v3_4))) (v3_4 + (1 : Int32))))) := rfl
def f_X5_allOf (n_a1 : Nat) (writers : Int32) (a1 : (Nat → Int32)) : Option (Int32) := (f_X5_allOf_4 n_a1 writers a1  FU (0 : Int32) (0 : Int32))
set_option maxHeartbeats 4000000 in
set_option maxRecDepth 100000 in
theorem w_X5_allOf_4 {p : Program} {l : Launch} {e : Env} {s : State} {m : MethodId} {args : Array Value} {below : List Frame} {meth : Method} {c : Code} {D : va_G} {cI : ClassId} {aS : aSt} {A : Nat → Prop} {Q : State → Prop}  (ad : Nat → Nat) (da1 : Nat → Nat) (n_a1 : Nat) (writers : Int32) (year : Int32) (taped : Int32) (at_ : Int32) (statements : Int32) (hasImage : Int32) (isKeeping : Int32) (cursor : Int32) (forgottenWhen : Int32) (rowMany : Int32) (a1 : (Nat → Int32)) {R : Int32} (X : Bx p s m args meth c cX5_allOf 4 (some .int) RX5 D cI aS A) (hret : RtI p l e 0 s m args below meth c cX5_allOf (some .int) D A (wd_X5_allOf cI ad da1 n_a1 writers year taped at_ statements hasImage isKeeping cursor forgottenWhen rowMany a1) R Q) : ∀ (fuel : Nat) (v2_4 : Int32) (v3_4 : Int32) (H : Heap) (locs : List Loc) (ls : Array Slot), f_X5_allOf_4 n_a1 writers a1  fuel v2_4 v3_4 = some R → lv_has ls 4 [(0, .ref (ad 0)), (1, .ref (da1 0)), (2, .int v2_4), (3, .int v3_4)] → va_P D vwCl (wd_X5_allOf cI ad da1 n_a1 writers year taped at_ statements hasImage isKeeping cursor forgottenWhen rowMany a1) H → va_D A (wd_X5_allOf cI ad da1 n_a1 writers year taped at_ statements hasImage isKeeping cursor forgottenWhen rowMany a1) → va_S A s.heap H locs → Wh p l e 0 s m args below meth c H locs Q (F0 m 4 ls []) := by
  have hx := X.1
  have hb := X.2.1
  intro fuel
  induction fuel with
  | zero =>
    intro v2_4 v3_4 H locs ls hf hl hP hD hS
    cases hf
  | succ fuel ih =>
    intro v2_4 v3_4 H locs ls hf hl hP hD hS
    replace hf : (if writers ≤ v3_4 then (some v2_4) else (gd v3_4 n_a1 (f_X5_allOf_4 n_a1 writers a1  fuel (v2_4 + (a1 (Int32.toNatClampNeg v3_4))) (v3_4 + (1 : Int32))))) = some R := hf
    refine lv_iload_n hx hb dX5_allOf_4 rfl (lv_at hl 3 rfl) ?_
    refine lv_aload_n hx hb dX5_allOf_5 rfl (lv_at hl 0 rfl) ?_
    refine fgX5_55 X hP (q0 := 0) rfl rfl dX5_allOf_6 ?_
    refine lv_icmp_ge (tgt := 24) hx hb dX5_allOf_9 (by decide) (fun c9 => ?_) (fun c9 => ?_)
    · have hf := iT c9 hf
      refine lv_iload_n hx hb dX5_allOf_24 rfl (lv_at hl 2 rfl) ?_
      have hR := Option.some.inj hf
      subst hR
      exact hret _ _ _ _ _ rfl (fun _ hn => by cases hn; rfl) hP hD hS dX5_allOf_25
    · have hf := iF c9 hf
      refine lv_iload_n hx hb dX5_allOf_12 rfl (lv_at hl 2 rfl) ?_
      refine lv_aload_n hx hb dX5_allOf_13 rfl (lv_at hl 1 rfl) ?_
      refine lv_iload_n hx hb dX5_allOf_14 rfl (lv_at hl 3 rfl) ?_
      refine aGet X hP (q0 := 1) rfl (gdS hf).1 dX5_allOf_15 ?_
      have hf := (gdS hf).2
      refine lv_iadd hx hb dX5_allOf_16 ?_
      refine lv_istore_n (lv' := [(2, .int (v2_4 + (a1 (Int32.toNatClampNeg v3_4)))), (0, .ref (ad 0)), (1, .ref (da1 0)), (3, .int v3_4)]) hx hb dX5_allOf_17 rfl hl (by decide) rfl (fun ls hl => ?_)
      refine lv_iinc (v := (v3_4 + (1 : Int32))) (lv' := [(3, .int (v3_4 + (1 : Int32))), (2, .int (v2_4 + (a1 (Int32.toNatClampNeg v3_4)))), (0, .ref (ad 0)), (1, .ref (da1 0))]) hx hb dX5_allOf_18 hl (k := 3) rfl rfl (by decide) rfl (fun ls hl => ?_)
      refine lv_goto (tgt := 4) hx hb dX5_allOf_21 (by decide) ?_
      exact ih (v2_4 + (a1 (Int32.toNatClampNeg v3_4))) (v3_4 + (1 : Int32)) _ _ _ hf (lv_sub hl [2, 3, 1, 0] rfl) hP hD hS
set_option maxHeartbeats 4000000 in
set_option maxRecDepth 100000 in
theorem c_X5_allOf (l : Launch) (D : va_G) (cI : ClassId) (aS : aSt) (ad : Nat → Nat) (da1 : Nat → Nat) (n_a1 : Nat) (writers : Int32) (year : Int32) (taped : Int32) (at_ : Int32) (statements : Int32) (hasImage : Int32) (isKeeping : Int32) (cursor : Int32) (forgottenWhen : Int32) (rowMany : Int32) (a1 : (Nat → Int32)) (R : Int32) (hf : f_X5_allOf n_a1 writers a1 = some R) : CtI l yX5_allOf cX5_allOf 4 (some .int) 0 D cI aS [.ref (ad 0), .ref (da1 0)] (wd_X5_allOf cI ad da1 n_a1 writers year taped at_ statements hasImage isKeeping cursor forgottenWhen rowMany a1) (wd_X5_allOf cI ad da1 n_a1 writers year taped at_ statements hasImage isKeeping cursor forgottenWhen rowMany a1) R := by
  refine ctI_of (by decide) ⟨_, rfl⟩ (Nat.le_of_ble_eq_true rfl) ?_
  intro p e s m below meth c A Q ls X hret hP hD hl
  have hS : va_S A s.heap s.heap [] := va_S.rf
  have hx := X.1
  have hb := X.2.1
  have hl : lv_has ls 4 [(0, .ref (ad 0)), (1, .ref (da1 0))] := hl
  replace hf : (f_X5_allOf_4 n_a1 writers a1  FU (0 : Int32) (0 : Int32)) = some R := hf
  refine lv_iconst (v := 0) hx hb dX5_allOf_0 (by decide) ?_
  refine lv_istore_n (lv' := [(2, .int (0 : Int32)), (0, .ref (ad 0)), (1, .ref (da1 0))]) hx hb dX5_allOf_1 rfl hl (by decide) rfl (fun ls hl => ?_)
  refine lv_iconst (v := 0) hx hb dX5_allOf_2 (by decide) ?_
  refine lv_istore_n (lv' := [(3, .int (0 : Int32)), (2, .int (0 : Int32)), (0, .ref (ad 0)), (1, .ref (da1 0))]) hx hb dX5_allOf_3 rfl hl (by decide) rfl (fun ls hl => ?_)
  exact w_X5_allOf_4 ad da1 n_a1 writers year taped at_ statements hasImage isKeeping cursor forgottenWhen rowMany a1 X hret  _ (0 : Int32) (0 : Int32) _ _ _ hf (lv_sub hl [2, 3, 1, 0] rfl) hP hD hS

abbrev wd_X5_placeOf (cI : ClassId) (ad : Nat → Nat) (writers : Int32) (year : Int32) (taped : Int32) (at_ : Int32) (statements : Int32) (hasImage : Int32) (isKeeping : Int32) (cursor : Int32) (forgottenWhen : Int32) (rowMany : Int32) (ring : (Nat → Int32)) : va_W := [((ad 0), .inr (5, [.ref (ad 1), .ref (ad 2), .ref (ad 3), .ref (ad 4), .ref (ad 5), .ref (ad 6), .ref (ad 7), .int writers, .int year, .ref (ad 8), .ref (ad 9), .ref (ad 10), .ref (ad 11), .int taped, .int at_, .int statements, .ref (ad 12), .int hasImage, .int isKeeping, .int cursor, .int forgottenWhen, .ref (ad 13), .ref (ad 14), .ref (ad 15), .int rowMany])), ((ad 7), .inl (cI, 7, .inl ring))]
def f_X5_placeOf_2 (ring : (Nat → Int32)) (x1 : Int32)  : Nat → Int32 → Option (Int32)
  | 0 => fun _ => none
  | fuel + 1 => fun v2_2 => (gd v2_2 7 (if (ring (Int32.toNatClampNeg v2_2)) = x1 then (some v2_2) else (f_X5_placeOf_2 ring x1  fuel (v2_2 + (1 : Int32)))))
theorem e_X5_placeOf_2 (ring : (Nat → Int32)) (x1 : Int32)  (fuel : Nat) (v2_2 : Int32) : f_X5_placeOf_2 ring x1  (fuel + 1) v2_2 = (gd v2_2 7 (if (ring (Int32.toNatClampNeg v2_2)) = x1 then (some v2_2) else (f_X5_placeOf_2 ring x1  fuel (v2_2 + (1 : Int32))))) := rfl
def f_X5_placeOf (ring : (Nat → Int32)) (x1 : Int32) : Option (Int32) := (f_X5_placeOf_2 ring x1  FU (0 : Int32))
set_option maxHeartbeats 4000000 in
set_option maxRecDepth 100000 in
theorem w_X5_placeOf_2 {p : Program} {l : Launch} {e : Env} {s : State} {m : MethodId} {args : Array Value} {below : List Frame} {meth : Method} {c : Code} {D : va_G} {cI : ClassId} {aS : aSt} {A : Nat → Prop} {Q : State → Prop}  (ad : Nat → Nat) (writers : Int32) (year : Int32) (taped : Int32) (at_ : Int32) (statements : Int32) (hasImage : Int32) (isKeeping : Int32) (cursor : Int32) (forgottenWhen : Int32) (rowMany : Int32) (ring : (Nat → Int32)) (x1 : Int32) {R : Int32} (X : Bx p s m args meth c cX5_placeOf 3 (some .int) RX5 D cI aS A) (hret : RtI p l e 0 s m args below meth c cX5_placeOf (some .int) D A (wd_X5_placeOf cI ad writers year taped at_ statements hasImage isKeeping cursor forgottenWhen rowMany ring) R Q) : ∀ (fuel : Nat) (v2_2 : Int32) (H : Heap) (locs : List Loc) (ls : Array Slot), f_X5_placeOf_2 ring x1  fuel v2_2 = some R → lv_has ls 3 [(0, .ref (ad 0)), (1, .int x1), (2, .int v2_2)] → va_P D vwCl (wd_X5_placeOf cI ad writers year taped at_ statements hasImage isKeeping cursor forgottenWhen rowMany ring) H → va_D A (wd_X5_placeOf cI ad writers year taped at_ statements hasImage isKeeping cursor forgottenWhen rowMany ring) → va_S A s.heap H locs → Wh p l e 0 s m args below meth c H locs Q (F0 m 2 ls []) := by
  have hx := X.1
  have hb := X.2.1
  intro fuel
  induction fuel with
  | zero =>
    intro v2_2 H locs ls hf hl hP hD hS
    cases hf
  | succ fuel ih =>
    intro v2_2 H locs ls hf hl hP hD hS
    replace hf : (gd v2_2 7 (if (ring (Int32.toNatClampNeg v2_2)) = x1 then (some v2_2) else (f_X5_placeOf_2 ring x1  fuel (v2_2 + (1 : Int32))))) = some R := hf
    refine lv_aload_n hx hb dX5_placeOf_2 rfl (lv_at hl 0 rfl) ?_
    refine fgX5_28 X hP (q0 := 0) rfl rfl dX5_placeOf_3 ?_
    refine lv_iload_n hx hb dX5_placeOf_6 rfl (lv_at hl 2 rfl) ?_
    refine aGet X hP (q0 := 1) rfl (gdS hf).1 dX5_placeOf_7 ?_
    have hf := (gdS hf).2
    refine lv_iload_n hx hb dX5_placeOf_8 rfl (lv_at hl 1 rfl) ?_
    refine lv_icmp_eq (tgt := 18) hx hb dX5_placeOf_9 (by decide) (fun c9 => ?_) (fun c9 => ?_)
    · have hf := iT c9 hf
      refine lv_iload_n hx hb dX5_placeOf_18 rfl (lv_at hl 2 rfl) ?_
      have hR := Option.some.inj hf
      subst hR
      exact hret _ _ _ _ _ rfl (fun _ hn => by cases hn; rfl) hP hD hS dX5_placeOf_19
    · have hf := iF c9 hf
      refine lv_iinc (v := (v2_2 + (1 : Int32))) (lv' := [(2, .int (v2_2 + (1 : Int32))), (0, .ref (ad 0)), (1, .int x1)]) hx hb dX5_placeOf_12 hl (k := 2) rfl rfl (by decide) rfl (fun ls hl => ?_)
      refine lv_goto (tgt := 2) hx hb dX5_placeOf_15 (by decide) ?_
      exact ih (v2_2 + (1 : Int32)) _ _ _ hf (lv_sub hl [1, 2, 0] rfl) hP hD hS
set_option maxHeartbeats 4000000 in
set_option maxRecDepth 100000 in
theorem c_X5_placeOf (l : Launch) (D : va_G) (cI : ClassId) (aS : aSt) (ad : Nat → Nat) (writers : Int32) (year : Int32) (taped : Int32) (at_ : Int32) (statements : Int32) (hasImage : Int32) (isKeeping : Int32) (cursor : Int32) (forgottenWhen : Int32) (rowMany : Int32) (ring : (Nat → Int32)) (x1 : Int32) (R : Int32) (hf : f_X5_placeOf ring x1 = some R) : CtI l yX5_placeOf cX5_placeOf 3 (some .int) 0 D cI aS [.ref (ad 0), .int x1] (wd_X5_placeOf cI ad writers year taped at_ statements hasImage isKeeping cursor forgottenWhen rowMany ring) (wd_X5_placeOf cI ad writers year taped at_ statements hasImage isKeeping cursor forgottenWhen rowMany ring) R := by
  refine ctI_of (by decide) ⟨_, rfl⟩ (Nat.le_of_ble_eq_true rfl) ?_
  intro p e s m below meth c A Q ls X hret hP hD hl
  have hS : va_S A s.heap s.heap [] := va_S.rf
  have hx := X.1
  have hb := X.2.1
  have hl : lv_has ls 3 [(0, .ref (ad 0)), (1, .int x1)] := hl
  replace hf : (f_X5_placeOf_2 ring x1  FU (0 : Int32)) = some R := hf
  refine lv_iconst (v := 0) hx hb dX5_placeOf_0 (by decide) ?_
  refine lv_istore_n (lv' := [(2, .int (0 : Int32)), (0, .ref (ad 0)), (1, .int x1)]) hx hb dX5_placeOf_1 rfl hl (by decide) rfl (fun ls hl => ?_)
  exact w_X5_placeOf_2 ad writers year taped at_ statements hasImage isKeeping cursor forgottenWhen rowMany ring x1 X hret  _ (0 : Int32) _ _ _ hf (lv_sub hl [1, 2, 0] rfl) hP hD hS

abbrev wd_X5_enderOf (cI : ClassId) (ad : Nat → Nat) (writers : Int32) (year : Int32) (taped : Int32) (at_ : Int32) (statements : Int32) (hasImage : Int32) (isKeeping : Int32) (cursor : Int32) (forgottenWhen : Int32) (rowMany : Int32) (silent : (Nat → Int32)) (ring : (Nat → Int32)) : va_W := [((ad 0), .inr (5, [.ref (ad 1), .ref (ad 2), .ref (ad 3), .ref (ad 4), .ref (ad 5), .ref (ad 6), .ref (ad 7), .int writers, .int year, .ref (ad 8), .ref (ad 9), .ref (ad 10), .ref (ad 11), .int taped, .int at_, .int statements, .ref (ad 12), .int hasImage, .int isKeeping, .int cursor, .int forgottenWhen, .ref (ad 13), .ref (ad 14), .ref (ad 15), .int rowMany])), ((ad 6), .inl (cI, 7, .inl silent)), ((ad 7), .inl (cI, 7, .inl ring))]
def f_X5_enderOf_8 (writers : Int32) (silent : (Nat → Int32)) (ring : (Nat → Int32)) (u2_8 : Int32)  : Nat → Int32 → Option (Int32)
  | 0 => fun _ => none
  | fuel + 1 => fun v3_8 => (if writers ≤ v3_8 then (some (-9 : Int32)) else (gz writers (gd (remI (u2_8 + v3_8) writers) 7 (gd (ring (Int32.toNatClampNeg (remI (u2_8 + v3_8) writers))) 7 (if (silent (Int32.toNatClampNeg (ring (Int32.toNatClampNeg (remI (u2_8 + v3_8) writers))))) = 0 then (some (ring (Int32.toNatClampNeg (remI (u2_8 + v3_8) writers)))) else (f_X5_enderOf_8 writers silent ring u2_8  fuel (v3_8 + (1 : Int32))))))))
theorem e_X5_enderOf_8 (writers : Int32) (silent : (Nat → Int32)) (ring : (Nat → Int32)) (u2_8 : Int32)  (fuel : Nat) (v3_8 : Int32) : f_X5_enderOf_8 writers silent ring u2_8  (fuel + 1) v3_8 = (if writers ≤ v3_8 then (some (-9 : Int32)) else (gz writers (gd (remI (u2_8 + v3_8) writers) 7 (gd (ring (Int32.toNatClampNeg (remI (u2_8 + v3_8) writers))) 7 (if (silent (Int32.toNatClampNeg (ring (Int32.toNatClampNeg (remI (u2_8 + v3_8) writers))))) = 0 then (some (ring (Int32.toNatClampNeg (remI (u2_8 + v3_8) writers)))) else (f_X5_enderOf_8 writers silent ring u2_8  fuel (v3_8 + (1 : Int32)))))))) := rfl
def f_X5_enderOf (writers : Int32) (silent : (Nat → Int32)) (ring : (Nat → Int32)) (x1 : Int32) : Option (Int32) := ((f_X5_placeOf ring x1).bind fun (r2 : Int32) => (f_X5_enderOf_8 writers silent ring r2  FU (1 : Int32)))
set_option maxHeartbeats 4000000 in
set_option maxRecDepth 100000 in
theorem w_X5_enderOf_8 {p : Program} {l : Launch} {e : Env} {s : State} {m : MethodId} {args : Array Value} {below : List Frame} {meth : Method} {c : Code} {D : va_G} {cI : ClassId} {aS : aSt} {A : Nat → Prop} {Q : State → Prop}  (ad : Nat → Nat) (writers : Int32) (year : Int32) (taped : Int32) (at_ : Int32) (statements : Int32) (hasImage : Int32) (isKeeping : Int32) (cursor : Int32) (forgottenWhen : Int32) (rowMany : Int32) (silent : (Nat → Int32)) (ring : (Nat → Int32)) (x1 : Int32) (u2_8 : Int32) {R : Int32} (X : Bx p s m args meth c cX5_enderOf 5 (some .int) RX5 D cI aS A) (hret : RtI p l e 1 s m args below meth c cX5_enderOf (some .int) D A (wd_X5_enderOf cI ad writers year taped at_ statements hasImage isKeeping cursor forgottenWhen rowMany silent ring) R Q) : ∀ (fuel : Nat) (v3_8 : Int32) (H : Heap) (locs : List Loc) (ls : Array Slot), f_X5_enderOf_8 writers silent ring u2_8  fuel v3_8 = some R → lv_has ls 5 [(0, .ref (ad 0)), (2, .int u2_8), (3, .int v3_8)] → va_P D vwCl (wd_X5_enderOf cI ad writers year taped at_ statements hasImage isKeeping cursor forgottenWhen rowMany silent ring) H → va_D A (wd_X5_enderOf cI ad writers year taped at_ statements hasImage isKeeping cursor forgottenWhen rowMany silent ring) → va_S A s.heap H locs → Wh p l e 1 s m args below meth c H locs Q (F0 m 8 ls []) := by
  have hx := X.1
  have hb := X.2.1
  intro fuel
  induction fuel with
  | zero =>
    intro v3_8 H locs ls hf hl hP hD hS
    cases hf
  | succ fuel ih =>
    intro v3_8 H locs ls hf hl hP hD hS
    replace hf : (if writers ≤ v3_8 then (some (-9 : Int32)) else (gz writers (gd (remI (u2_8 + v3_8) writers) 7 (gd (ring (Int32.toNatClampNeg (remI (u2_8 + v3_8) writers))) 7 (if (silent (Int32.toNatClampNeg (ring (Int32.toNatClampNeg (remI (u2_8 + v3_8) writers))))) = 0 then (some (ring (Int32.toNatClampNeg (remI (u2_8 + v3_8) writers)))) else (f_X5_enderOf_8 writers silent ring u2_8  fuel (v3_8 + (1 : Int32)))))))) = some R := hf
    refine lv_iload_n hx hb dX5_enderOf_8 rfl (lv_at hl 2 rfl) ?_
    refine lv_aload_n hx hb dX5_enderOf_9 rfl (lv_at hl 0 rfl) ?_
    refine fgX5_55 X hP (q0 := 0) rfl rfl dX5_enderOf_10 ?_
    refine lv_icmp_ge (tgt := 50) hx hb dX5_enderOf_13 (by decide) (fun c13 => ?_) (fun c13 => ?_)
    · have hf := iT c13 hf
      refine lv_bipush (v := -9) hx hb dX5_enderOf_50 (by decide) ?_
      have hR := Option.some.inj hf
      subst hR
      exact hret _ _ _ _ _ rfl (fun _ hn => by cases hn; rfl) hP hD hS dX5_enderOf_52
    · have hf := iF c13 hf
      refine lv_aload_n hx hb dX5_enderOf_16 rfl (lv_at hl 0 rfl) ?_
      refine fgX5_28 X hP (q0 := 0) rfl rfl dX5_enderOf_17 ?_
      refine lv_iload_n hx hb dX5_enderOf_20 rfl (lv_at hl 1 rfl) ?_
      refine lv_iload_n hx hb dX5_enderOf_21 rfl (lv_at hl 2 rfl) ?_
      refine lv_iadd hx hb dX5_enderOf_22 ?_
      refine lv_aload_n hx hb dX5_enderOf_23 rfl (lv_at hl 0 rfl) ?_
      refine fgX5_55 X hP (q0 := 0) rfl rfl dX5_enderOf_24 ?_
      refine x_irem hx hb dX5_enderOf_27 (gzS hf).1 ?_
      have hf := (gzS hf).2
      refine aGet X hP (q0 := 2) rfl (gdS hf).1 dX5_enderOf_28 ?_
      have hf := (gdS hf).2
      refine lv_istore (lv' := [(4, .int (ring (Int32.toNatClampNeg (remI (u2_8 + v3_8) writers)))), (0, .ref (ad 0)), (2, .int u2_8), (3, .int v3_8)]) hx hb dX5_enderOf_29 hl (by decide) rfl (fun ls hl => ?_)
      refine lv_aload_n hx hb dX5_enderOf_31 rfl (lv_at hl 1 rfl) ?_
      refine fgX5_25 X hP (q0 := 0) rfl rfl dX5_enderOf_32 ?_
      refine lv_iload hx hb dX5_enderOf_35 (lv_at hl 0 rfl) ?_
      refine aGet X hP (q0 := 1) rfl (gdS hf).1 dX5_enderOf_37 ?_
      have hf := (gdS hf).2
      refine lv_if_ne (tgt := 44) hx hb dX5_enderOf_38 (by decide) (fun c38 => ?_) (fun c38 => ?_)
      · have hf := iF c38 hf
        refine lv_iinc (v := (v3_8 + (1 : Int32))) (lv' := [(3, .int (v3_8 + (1 : Int32))), (4, .int (ring (Int32.toNatClampNeg (remI (u2_8 + v3_8) writers)))), (0, .ref (ad 0)), (2, .int u2_8)]) hx hb dX5_enderOf_44 hl (k := 3) rfl rfl (by decide) rfl (fun ls hl => ?_)
        refine lv_goto (tgt := 8) hx hb dX5_enderOf_47 (by decide) ?_
        exact ih (v3_8 + (1 : Int32)) _ _ _ hf (lv_sub hl [2, 3, 0] rfl) hP hD hS
      · have hf := iT c38 hf
        refine lv_iload hx hb dX5_enderOf_41 (lv_at hl 0 rfl) ?_
        have hR := Option.some.inj hf
        subst hR
        exact hret _ _ _ _ _ rfl (fun _ hn => by cases hn; rfl) hP hD hS dX5_enderOf_43
set_option maxHeartbeats 4000000 in
set_option maxRecDepth 100000 in
theorem c_X5_enderOf (l : Launch) (D : va_G) (cI : ClassId) (aS : aSt) (ad : Nat → Nat) (writers : Int32) (year : Int32) (taped : Int32) (at_ : Int32) (statements : Int32) (hasImage : Int32) (isKeeping : Int32) (cursor : Int32) (forgottenWhen : Int32) (rowMany : Int32) (silent : (Nat → Int32)) (ring : (Nat → Int32)) (x1 : Int32) (R : Int32) (hf : f_X5_enderOf writers silent ring x1 = some R) : CtI l yX5_enderOf cX5_enderOf 5 (some .int) 1 D cI aS [.ref (ad 0), .int x1] (wd_X5_enderOf cI ad writers year taped at_ statements hasImage isKeeping cursor forgottenWhen rowMany silent ring) (wd_X5_enderOf cI ad writers year taped at_ statements hasImage isKeeping cursor forgottenWhen rowMany silent ring) R := by
  refine ctI_of (by decide) ⟨_, rfl⟩ (Nat.le_of_ble_eq_true rfl) ?_
  intro p e s m below meth c A Q ls X hret hP hD hl
  have hS : va_S A s.heap s.heap [] := va_S.rf
  have hx := X.1
  have hb := X.2.1
  have hl : lv_has ls 5 [(0, .ref (ad 0)), (1, .int x1)] := hl
  replace hf : ((f_X5_placeOf ring x1).bind fun (r2 : Int32) => (f_X5_enderOf_8 writers silent ring r2  FU (1 : Int32))) = some R := hf
  refine lv_aload_n hx hb dX5_enderOf_0 rfl (lv_at hl 0 rfl) ?_
  refine lv_iload_n hx hb dX5_enderOf_1 rfl (lv_at hl 1 rfl) ?_
  obtain ⟨r2, hq2, hf⟩ := bS hf
  refine ro_i X hP hD hS [0, 2] rfl (run_V X hP hD hS [0, 2] rfl rfl (c_X5_placeOf l D cI aS ad writers year taped at_ statements hasImage isKeeping cursor forgottenWhen rowMany ring x1 _ hq2 _) lkX5_159 (by decide) (q0 := 0) rfl rfl rfl rfl (Nat.le_of_ble_eq_true rfl) hl.1 dX5_enderOf_2) (fun H locs hP hS => ?_)
  refine lv_istore_n (lv' := [(2, .int r2), (0, .ref (ad 0)), (1, .int x1)]) hx hb dX5_enderOf_5 rfl hl (by decide) rfl (fun ls hl => ?_)
  refine lv_iconst (v := 1) hx hb dX5_enderOf_6 (by decide) ?_
  refine lv_istore_n (lv' := [(3, .int (1 : Int32)), (2, .int r2), (0, .ref (ad 0)), (1, .int x1)]) hx hb dX5_enderOf_7 rfl hl (by decide) rfl (fun ls hl => ?_)
  exact w_X5_enderOf_8 ad writers year taped at_ statements hasImage isKeeping cursor forgottenWhen rowMany silent ring x1 r2 X hret  _ (1 : Int32) _ _ _ hf (lv_sub hl [2, 1, 0] rfl) hP hD hS

abbrev wd_X5_isEnded (cI : ClassId) (ad : Nat → Nat) (writers : Int32) (year : Int32) (taped : Int32) (at_ : Int32) (statements : Int32) (hasImage : Int32) (isKeeping : Int32) (cursor : Int32) (forgottenWhen : Int32) (rowMany : Int32) (silent : (Nat → Int32)) (ring : (Nat → Int32)) : va_W := [((ad 0), .inr (5, [.ref (ad 1), .ref (ad 2), .ref (ad 3), .ref (ad 4), .ref (ad 5), .ref (ad 6), .ref (ad 7), .int writers, .int year, .ref (ad 8), .ref (ad 9), .ref (ad 10), .ref (ad 11), .int taped, .int at_, .int statements, .ref (ad 12), .int hasImage, .int isKeeping, .int cursor, .int forgottenWhen, .ref (ad 13), .ref (ad 14), .ref (ad 15), .int rowMany])), ((ad 6), .inl (cI, 7, .inl silent)), ((ad 7), .inl (cI, 7, .inl ring))]
def f_X5_isEnded (writers : Int32) (silent : (Nat → Int32)) (ring : (Nat → Int32)) (x1 : Int32) : Option (Int32) := (gd x1 7 (if (silent (Int32.toNatClampNeg x1)) = 0 then ((f_X5_enderOf writers silent ring x1).bind fun (r11 : Int32) => (if r11 < 0 then (some (0 : Int32)) else (some (1 : Int32)))) else (some (0 : Int32))))
set_option maxHeartbeats 4000000 in
set_option maxRecDepth 100000 in
theorem c_X5_isEnded (l : Launch) (D : va_G) (cI : ClassId) (aS : aSt) (ad : Nat → Nat) (writers : Int32) (year : Int32) (taped : Int32) (at_ : Int32) (statements : Int32) (hasImage : Int32) (isKeeping : Int32) (cursor : Int32) (forgottenWhen : Int32) (rowMany : Int32) (silent : (Nat → Int32)) (ring : (Nat → Int32)) (x1 : Int32) (R : Int32) (hf : f_X5_isEnded writers silent ring x1 = some R) : CtI l yX5_isEnded cX5_isEnded 2 (some .boolean) 2 D cI aS [.ref (ad 0), .int x1] (wd_X5_isEnded cI ad writers year taped at_ statements hasImage isKeeping cursor forgottenWhen rowMany silent ring) (wd_X5_isEnded cI ad writers year taped at_ statements hasImage isKeeping cursor forgottenWhen rowMany silent ring) R := by
  refine ctI_of (by decide) ⟨_, rfl⟩ (Nat.le_of_ble_eq_true rfl) ?_
  intro p e s m below meth c A Q ls X hret hP hD hl
  have hS : va_S A s.heap s.heap [] := va_S.rf
  have hx := X.1
  have hb := X.2.1
  have hl : lv_has ls 2 [(0, .ref (ad 0)), (1, .int x1)] := hl
  replace hf : (gd x1 7 (if (silent (Int32.toNatClampNeg x1)) = 0 then ((f_X5_enderOf writers silent ring x1).bind fun (r11 : Int32) => (if r11 < 0 then (some (0 : Int32)) else (some (1 : Int32)))) else (some (0 : Int32)))) = some R := hf
  refine lv_aload_n hx hb dX5_isEnded_0 rfl (lv_at hl 0 rfl) ?_
  refine fgX5_25 X hP (q0 := 0) rfl rfl dX5_isEnded_1 ?_
  refine lv_iload_n hx hb dX5_isEnded_4 rfl (lv_at hl 1 rfl) ?_
  refine aGet X hP (q0 := 1) rfl (gdS hf).1 dX5_isEnded_5 ?_
  have hf := (gdS hf).2
  refine lv_if_ne (tgt := 21) hx hb dX5_isEnded_6 (by decide) (fun c6 => ?_) (fun c6 => ?_)
  · have hf := iF c6 hf
    refine lv_iconst (v := 0) hx hb dX5_isEnded_21 (by decide) ?_
    have hR := Option.some.inj hf
    subst hR
    exact hret _ _ _ _ _ rfl (fun _ hn => by cases hn; rfl) hP hD hS dX5_isEnded_22
  · have hf := iT c6 hf
    refine lv_aload_n hx hb dX5_isEnded_9 rfl (lv_at hl 0 rfl) ?_
    refine lv_iload_n hx hb dX5_isEnded_10 rfl (lv_at hl 1 rfl) ?_
    obtain ⟨r11, hq11, hf⟩ := bS hf
    refine ro_i X hP hD hS [0, 1, 2] rfl (run_V X hP hD hS [0, 1, 2] rfl rfl (c_X5_enderOf l D cI aS ad writers year taped at_ statements hasImage isKeeping cursor forgottenWhen rowMany silent ring x1 _ hq11 _) lkX5_162 (by decide) (q0 := 0) rfl rfl rfl rfl (Nat.le_of_ble_eq_true rfl) hl.1 dX5_isEnded_11) (fun H locs hP hS => ?_)
    refine lv_if_lt (tgt := 21) hx hb dX5_isEnded_14 (by decide) (fun c14 => ?_) (fun c14 => ?_)
    · have hf := iT c14 hf
      refine lv_iconst (v := 0) hx hb dX5_isEnded_21 (by decide) ?_
      have hR := Option.some.inj hf
      subst hR
      exact hret _ _ _ _ _ rfl (fun _ hn => by cases hn; rfl) hP hD hS dX5_isEnded_22
    · have hf := iF c14 hf
      refine lv_iconst (v := 1) hx hb dX5_isEnded_17 (by decide) ?_
      refine lv_goto (tgt := 22) hx hb dX5_isEnded_18 (by decide) ?_
      have hR := Option.some.inj hf
      subst hR
      exact hret _ _ _ _ _ rfl (fun _ hn => by cases hn; rfl) hP hD hS dX5_isEnded_22

abbrev wd_X5_opens (cI : ClassId) (ad : Nat → Nat) (writers : Int32) (year : Int32) (taped : Int32) (at_ : Int32) (statements : Int32) (hasImage : Int32) (isKeeping : Int32) (cursor : Int32) (forgottenWhen : Int32) (rowMany : Int32) (style : (Nat → Int32)) : va_W := [((ad 0), .inr (5, [.ref (ad 1), .ref (ad 2), .ref (ad 3), .ref (ad 4), .ref (ad 5), .ref (ad 6), .ref (ad 7), .int writers, .int year, .ref (ad 8), .ref (ad 9), .ref (ad 10), .ref (ad 11), .int taped, .int at_, .int statements, .ref (ad 12), .int hasImage, .int isKeeping, .int cursor, .int forgottenWhen, .ref (ad 13), .ref (ad 14), .ref (ad 15), .int rowMany])), ((ad 4), .inl (cI, 7, .inl style))]
def f_X5_opens (year : Int32) (style : (Nat → Int32)) (x1 : Int32) : Option (Int32) := (gd x1 7 (some (remI ((style (Int32.toNatClampNeg x1)) + year) (10 : Int32))))
set_option maxHeartbeats 4000000 in
set_option maxRecDepth 100000 in
theorem c_X5_opens (l : Launch) (D : va_G) (cI : ClassId) (aS : aSt) (ad : Nat → Nat) (writers : Int32) (year : Int32) (taped : Int32) (at_ : Int32) (statements : Int32) (hasImage : Int32) (isKeeping : Int32) (cursor : Int32) (forgottenWhen : Int32) (rowMany : Int32) (style : (Nat → Int32)) (x1 : Int32) (R : Int32) (hf : f_X5_opens year style x1 = some R) : CtI l yX5_opens cX5_opens 2 (some .int) 0 D cI aS [.ref (ad 0), .int x1] (wd_X5_opens cI ad writers year taped at_ statements hasImage isKeeping cursor forgottenWhen rowMany style) (wd_X5_opens cI ad writers year taped at_ statements hasImage isKeeping cursor forgottenWhen rowMany style) R := by
  refine ctI_of (by decide) ⟨_, rfl⟩ (Nat.le_of_ble_eq_true rfl) ?_
  intro p e s m below meth c A Q ls X hret hP hD hl
  have hS : va_S A s.heap s.heap [] := va_S.rf
  have hx := X.1
  have hb := X.2.1
  have hl : lv_has ls 2 [(0, .ref (ad 0)), (1, .int x1)] := hl
  replace hf : (gd x1 7 (some (remI ((style (Int32.toNatClampNeg x1)) + year) (10 : Int32)))) = some R := hf
  refine lv_aload_n hx hb dX5_opens_0 rfl (lv_at hl 0 rfl) ?_
  refine fgX5_19 X hP (q0 := 0) rfl rfl dX5_opens_1 ?_
  refine lv_iload_n hx hb dX5_opens_4 rfl (lv_at hl 1 rfl) ?_
  refine aGet X hP (q0 := 1) rfl (gdS hf).1 dX5_opens_5 ?_
  have hf := (gdS hf).2
  refine lv_aload_n hx hb dX5_opens_6 rfl (lv_at hl 0 rfl) ?_
  refine fgX5_101 X hP (q0 := 0) rfl rfl dX5_opens_7 ?_
  refine lv_iadd hx hb dX5_opens_10 ?_
  refine lv_bipush (v := 10) hx hb dX5_opens_11 (by decide) ?_
  refine x_irem hx hb dX5_opens_13 (by decide) ?_
  have hR := Option.some.inj hf
  subst hR
  exact hret _ _ _ _ _ rfl (fun _ hn => by cases hn; rfl) hP hD hS dX5_opens_14

abbrev wd_X5_ends (cI : ClassId) (ad : Nat → Nat) (writers : Int32) (year : Int32) (taped : Int32) (at_ : Int32) (statements : Int32) (hasImage : Int32) (isKeeping : Int32) (cursor : Int32) (forgottenWhen : Int32) (rowMany : Int32) (kind : (Nat → Int32)) (figure : (Nat → Int32)) : va_W := [((ad 0), .inr (5, [.ref (ad 1), .ref (ad 2), .ref (ad 3), .ref (ad 4), .ref (ad 5), .ref (ad 6), .ref (ad 7), .int writers, .int year, .ref (ad 8), .ref (ad 9), .ref (ad 10), .ref (ad 11), .int taped, .int at_, .int statements, .ref (ad 12), .int hasImage, .int isKeeping, .int cursor, .int forgottenWhen, .ref (ad 13), .ref (ad 14), .ref (ad 15), .int rowMany])), ((ad 2), .inl (cI, 7, .inl kind)), ((ad 3), .inl (cI, 7, .inl figure))]
def f_X5_ends (kind : (Nat → Int32)) (figure : (Nat → Int32)) (x1 : Int32) (x2 : Int32) : Option (Int32) := (gd x1 7 (gd x1 7 (if (kind (Int32.toNatClampNeg x1)) = (1 : Int32) then (some ((9 : Int32) - (remI (x2 + (figure (Int32.toNatClampNeg x1))) (10 : Int32)))) else (if (kind (Int32.toNatClampNeg x1)) = (2 : Int32) then (some (0 : Int32)) else (if (kind (Int32.toNatClampNeg x1)) = (3 : Int32) then (some (5 : Int32)) else (if (kind (Int32.toNatClampNeg x1)) = (4 : Int32) then (if (5 : Int32) ≤ x2 then (some x2) else (some ((9 : Int32) - (remI (x2 + (figure (Int32.toNatClampNeg x1))) (10 : Int32))))) else (if (kind (Int32.toNatClampNeg x1)) = (5 : Int32) then (if (remI x2 (2 : Int32)) = (1 : Int32) then (some (9 : Int32)) else (some (0 : Int32))) else (some (remI (x2 + (figure (Int32.toNatClampNeg x1))) (10 : Int32))))))))))
set_option maxHeartbeats 4000000 in
set_option maxRecDepth 100000 in
theorem c_X5_ends (l : Launch) (D : va_G) (cI : ClassId) (aS : aSt) (ad : Nat → Nat) (writers : Int32) (year : Int32) (taped : Int32) (at_ : Int32) (statements : Int32) (hasImage : Int32) (isKeeping : Int32) (cursor : Int32) (forgottenWhen : Int32) (rowMany : Int32) (kind : (Nat → Int32)) (figure : (Nat → Int32)) (x1 : Int32) (x2 : Int32) (R : Int32) (hf : f_X5_ends kind figure x1 x2 = some R) : CtI l yX5_ends cX5_ends 4 (some .int) 0 D cI aS [.ref (ad 0), .int x1, .int x2] (wd_X5_ends cI ad writers year taped at_ statements hasImage isKeeping cursor forgottenWhen rowMany kind figure) (wd_X5_ends cI ad writers year taped at_ statements hasImage isKeeping cursor forgottenWhen rowMany kind figure) R := by
  refine ctI_of (by decide) ⟨_, rfl⟩ (Nat.le_of_ble_eq_true rfl) ?_
  intro p e s m below meth c A Q ls X hret hP hD hl
  have hS : va_S A s.heap s.heap [] := va_S.rf
  have hx := X.1
  have hb := X.2.1
  have hl : lv_has ls 4 [(0, .ref (ad 0)), (1, .int x1), (2, .int x2)] := hl
  replace hf : (gd x1 7 (gd x1 7 (if (kind (Int32.toNatClampNeg x1)) = (1 : Int32) then (some ((9 : Int32) - (remI (x2 + (figure (Int32.toNatClampNeg x1))) (10 : Int32)))) else (if (kind (Int32.toNatClampNeg x1)) = (2 : Int32) then (some (0 : Int32)) else (if (kind (Int32.toNatClampNeg x1)) = (3 : Int32) then (some (5 : Int32)) else (if (kind (Int32.toNatClampNeg x1)) = (4 : Int32) then (if (5 : Int32) ≤ x2 then (some x2) else (some ((9 : Int32) - (remI (x2 + (figure (Int32.toNatClampNeg x1))) (10 : Int32))))) else (if (kind (Int32.toNatClampNeg x1)) = (5 : Int32) then (if (remI x2 (2 : Int32)) = (1 : Int32) then (some (9 : Int32)) else (some (0 : Int32))) else (some (remI (x2 + (figure (Int32.toNatClampNeg x1))) (10 : Int32)))))))))) = some R := hf
  refine lv_iload_n hx hb dX5_ends_0 rfl (lv_at hl 2 rfl) ?_
  refine lv_aload_n hx hb dX5_ends_1 rfl (lv_at hl 0 rfl) ?_
  refine fgX5_16 X hP (q0 := 0) rfl rfl dX5_ends_2 ?_
  refine lv_iload_n hx hb dX5_ends_5 rfl (lv_at hl 1 rfl) ?_
  refine aGet X hP (q0 := 2) rfl (gdS hf).1 dX5_ends_6 ?_
  have hf := (gdS hf).2
  refine lv_iadd hx hb dX5_ends_7 ?_
  refine lv_bipush (v := 10) hx hb dX5_ends_8 (by decide) ?_
  refine x_irem hx hb dX5_ends_10 (by decide) ?_
  refine lv_istore_n (lv' := [(3, .int (remI (x2 + (figure (Int32.toNatClampNeg x1))) (10 : Int32))), (0, .ref (ad 0)), (1, .int x1), (2, .int x2)]) hx hb dX5_ends_11 rfl hl (by decide) rfl (fun ls hl => ?_)
  refine lv_aload_n hx hb dX5_ends_12 rfl (lv_at hl 1 rfl) ?_
  refine fgX5_13 X hP (q0 := 0) rfl rfl dX5_ends_13 ?_
  refine lv_iload_n hx hb dX5_ends_16 rfl (lv_at hl 2 rfl) ?_
  refine aGet X hP (q0 := 1) rfl (gdS hf).1 dX5_ends_17 ?_
  have hf := (gdS hf).2
  by_cases c18_0 : (kind (Int32.toNatClampNeg x1)) = (1 : Int32)
  · have hf := iT c18_0 hf
    refine tsIn (tgt := 52) (off := 34) hx hb dX5_ends_18 c18_0 (by decide) (by decide) (by decide) (by decide) ?_
    refine lv_bipush (v := 9) hx hb dX5_ends_52 (by decide) ?_
    refine lv_iload_n hx hb dX5_ends_54 rfl (lv_at hl 0 rfl) ?_
    refine lv_isub hx hb dX5_ends_55 ?_
    have hR := Option.some.inj hf
    subst hR
    exact hret _ _ _ _ _ rfl (fun _ hn => by cases hn; rfl) hP hD hS dX5_ends_56
  have hf := iF c18_0 hf
  by_cases c18_1 : (kind (Int32.toNatClampNeg x1)) = (2 : Int32)
  · have hf := iT c18_1 hf
    refine tsIn (tgt := 57) (off := 39) hx hb dX5_ends_18 c18_1 (by decide) (by decide) (by decide) (by decide) ?_
    refine lv_iconst (v := 0) hx hb dX5_ends_57 (by decide) ?_
    have hR := Option.some.inj hf
    subst hR
    exact hret _ _ _ _ _ rfl (fun _ hn => by cases hn; rfl) hP hD hS dX5_ends_58
  have hf := iF c18_1 hf
  by_cases c18_2 : (kind (Int32.toNatClampNeg x1)) = (3 : Int32)
  · have hf := iT c18_2 hf
    refine tsIn (tgt := 59) (off := 41) hx hb dX5_ends_18 c18_2 (by decide) (by decide) (by decide) (by decide) ?_
    refine lv_iconst (v := 5) hx hb dX5_ends_59 (by decide) ?_
    have hR := Option.some.inj hf
    subst hR
    exact hret _ _ _ _ _ rfl (fun _ hn => by cases hn; rfl) hP hD hS dX5_ends_60
  have hf := iF c18_2 hf
  by_cases c18_3 : (kind (Int32.toNatClampNeg x1)) = (4 : Int32)
  · have hf := iT c18_3 hf
    refine tsIn (tgt := 61) (off := 43) hx hb dX5_ends_18 c18_3 (by decide) (by decide) (by decide) (by decide) ?_
    refine lv_iload_n hx hb dX5_ends_61 rfl (lv_at hl 3 rfl) ?_
    refine lv_iconst (v := 5) hx hb dX5_ends_62 (by decide) ?_
    refine lv_icmp_ge (tgt := 73) hx hb dX5_ends_63 (by decide) (fun c63 => ?_) (fun c63 => ?_)
    · have hf := iT c63 hf
      refine lv_iload_n hx hb dX5_ends_73 rfl (lv_at hl 3 rfl) ?_
      have hR := Option.some.inj hf
      subst hR
      exact hret _ _ _ _ _ rfl (fun _ hn => by cases hn; rfl) hP hD hS dX5_ends_74
    · have hf := iF c63 hf
      refine lv_bipush (v := 9) hx hb dX5_ends_66 (by decide) ?_
      refine lv_iload_n hx hb dX5_ends_68 rfl (lv_at hl 0 rfl) ?_
      refine lv_isub hx hb dX5_ends_69 ?_
      refine lv_goto (tgt := 74) hx hb dX5_ends_70 (by decide) ?_
      have hR := Option.some.inj hf
      subst hR
      exact hret _ _ _ _ _ rfl (fun _ hn => by cases hn; rfl) hP hD hS dX5_ends_74
  have hf := iF c18_3 hf
  by_cases c18_4 : (kind (Int32.toNatClampNeg x1)) = (5 : Int32)
  · have hf := iT c18_4 hf
    refine tsIn (tgt := 75) (off := 57) hx hb dX5_ends_18 c18_4 (by decide) (by decide) (by decide) (by decide) ?_
    refine lv_iload_n hx hb dX5_ends_75 rfl (lv_at hl 3 rfl) ?_
    refine lv_iconst (v := 2) hx hb dX5_ends_76 (by decide) ?_
    refine x_irem hx hb dX5_ends_77 (by decide) ?_
    refine lv_iconst (v := 1) hx hb dX5_ends_78 (by decide) ?_
    refine lv_icmp_ne (tgt := 87) hx hb dX5_ends_79 (by decide) (fun c79 => ?_) (fun c79 => ?_)
    · have hf := iF c79 hf
      refine lv_iconst (v := 0) hx hb dX5_ends_87 (by decide) ?_
      have hR := Option.some.inj hf
      subst hR
      exact hret _ _ _ _ _ rfl (fun _ hn => by cases hn; rfl) hP hD hS dX5_ends_88
    · have hf := iT c79 hf
      refine lv_bipush (v := 9) hx hb dX5_ends_82 (by decide) ?_
      refine lv_goto (tgt := 88) hx hb dX5_ends_84 (by decide) ?_
      have hR := Option.some.inj hf
      subst hR
      exact hret _ _ _ _ _ rfl (fun _ hn => by cases hn; rfl) hP hD hS dX5_ends_88
  have hf := iF c18_4 hf
  refine tsD (keys := [1, 2, 3, 4, 5]) (tgt := 89) hx hb dX5_ends_18 (List.forall_mem_cons.mpr ⟨i32ne c18_0 (by decide), (List.forall_mem_cons.mpr ⟨i32ne c18_1 (by decide), (List.forall_mem_cons.mpr ⟨i32ne c18_2 (by decide), (List.forall_mem_cons.mpr ⟨i32ne c18_3 (by decide), (List.forall_mem_cons.mpr ⟨i32ne c18_4 (by decide), (fun _ h => absurd h List.not_mem_nil)⟩)⟩)⟩)⟩)⟩) (by decide) (by decide) (by decide) ?_
  refine lv_iload_n hx hb dX5_ends_89 rfl (lv_at hl 0 rfl) ?_
  have hR := Option.some.inj hf
  subst hR
  exact hret _ _ _ _ _ rfl (fun _ hn => by cases hn; rfl) hP hD hS dX5_ends_90

abbrev wd_X5_endOf (cI : ClassId) (ad : Nat → Nat) (writers : Int32) (year : Int32) (taped : Int32) (at_ : Int32) (statements : Int32) (hasImage : Int32) (isKeeping : Int32) (cursor : Int32) (forgottenWhen : Int32) (rowMany : Int32) (kind : (Nat → Int32)) (figure : (Nat → Int32)) (style : (Nat → Int32)) (silent : (Nat → Int32)) (ring : (Nat → Int32)) : va_W := [((ad 0), .inr (5, [.ref (ad 1), .ref (ad 2), .ref (ad 3), .ref (ad 4), .ref (ad 5), .ref (ad 6), .ref (ad 7), .int writers, .int year, .ref (ad 8), .ref (ad 9), .ref (ad 10), .ref (ad 11), .int taped, .int at_, .int statements, .ref (ad 12), .int hasImage, .int isKeeping, .int cursor, .int forgottenWhen, .ref (ad 13), .ref (ad 14), .ref (ad 15), .int rowMany])), ((ad 2), .inl (cI, 7, .inl kind)), ((ad 3), .inl (cI, 7, .inl figure)), ((ad 4), .inl (cI, 7, .inl style)), ((ad 6), .inl (cI, 7, .inl silent)), ((ad 7), .inl (cI, 7, .inl ring))]
def f_X5_endOf (writers : Int32) (year : Int32) (kind : (Nat → Int32)) (figure : (Nat → Int32)) (style : (Nat → Int32)) (silent : (Nat → Int32)) (ring : (Nat → Int32)) (x1 : Int32) : Option (Int32) := ((f_X5_enderOf writers silent ring x1).bind fun (r3 : Int32) => ((f_X5_opens year style x1).bind fun (r8 : Int32) => ((f_X5_ends kind figure r3 r8).bind fun (r11 : Int32) => (some r11))))
set_option maxHeartbeats 4000000 in
set_option maxRecDepth 100000 in
theorem c_X5_endOf (l : Launch) (D : va_G) (cI : ClassId) (aS : aSt) (ad : Nat → Nat) (writers : Int32) (year : Int32) (taped : Int32) (at_ : Int32) (statements : Int32) (hasImage : Int32) (isKeeping : Int32) (cursor : Int32) (forgottenWhen : Int32) (rowMany : Int32) (kind : (Nat → Int32)) (figure : (Nat → Int32)) (style : (Nat → Int32)) (silent : (Nat → Int32)) (ring : (Nat → Int32)) (x1 : Int32) (R : Int32) (hf : f_X5_endOf writers year kind figure style silent ring x1 = some R) : CtI l yX5_endOf cX5_endOf 2 (some .int) 2 D cI aS [.ref (ad 0), .int x1] (wd_X5_endOf cI ad writers year taped at_ statements hasImage isKeeping cursor forgottenWhen rowMany kind figure style silent ring) (wd_X5_endOf cI ad writers year taped at_ statements hasImage isKeeping cursor forgottenWhen rowMany kind figure style silent ring) R := by
  refine ctI_of (by decide) ⟨_, rfl⟩ (Nat.le_of_ble_eq_true rfl) ?_
  intro p e s m below meth c A Q ls X hret hP hD hl
  have hS : va_S A s.heap s.heap [] := va_S.rf
  have hx := X.1
  have hb := X.2.1
  have hl : lv_has ls 2 [(0, .ref (ad 0)), (1, .int x1)] := hl
  replace hf : ((f_X5_enderOf writers silent ring x1).bind fun (r3 : Int32) => ((f_X5_opens year style x1).bind fun (r8 : Int32) => ((f_X5_ends kind figure r3 r8).bind fun (r11 : Int32) => (some r11)))) = some R := hf
  refine lv_aload_n hx hb dX5_endOf_0 rfl (lv_at hl 0 rfl) ?_
  refine lv_aload_n hx hb dX5_endOf_1 rfl (lv_at hl 0 rfl) ?_
  refine lv_iload_n hx hb dX5_endOf_2 rfl (lv_at hl 1 rfl) ?_
  obtain ⟨r3, hq3, hf⟩ := bS hf
  refine ro_i X hP hD hS [0, 4, 5] rfl (run_V X hP hD hS [0, 4, 5] rfl rfl (c_X5_enderOf l D cI aS ad writers year taped at_ statements hasImage isKeeping cursor forgottenWhen rowMany silent ring x1 _ hq3 _) lkX5_162 (by decide) (q0 := 0) rfl rfl rfl rfl (Nat.le_of_ble_eq_true rfl) hl.1 dX5_endOf_3) (fun H locs hP hS => ?_)
  refine lv_aload_n hx hb dX5_endOf_6 rfl (lv_at hl 0 rfl) ?_
  refine lv_iload_n hx hb dX5_endOf_7 rfl (lv_at hl 1 rfl) ?_
  obtain ⟨r8, hq8, hf⟩ := bS hf
  refine ro_i X hP hD hS [0, 3] rfl (run_V X hP hD hS [0, 3] rfl rfl (c_X5_opens l D cI aS ad writers year taped at_ statements hasImage isKeeping cursor forgottenWhen rowMany style x1 _ hq8 _) lkX5_165 (by decide) (q0 := 0) rfl rfl rfl rfl (Nat.le_of_ble_eq_true rfl) hl.1 dX5_endOf_8) (fun H locs hP hS => ?_)
  obtain ⟨r11, hq11, hf⟩ := bS hf
  refine ro_i X hP hD hS [0, 1, 2] rfl (run_V X hP hD hS [0, 1, 2] rfl rfl (c_X5_ends l D cI aS ad writers year taped at_ statements hasImage isKeeping cursor forgottenWhen rowMany kind figure r3 r8 _ hq11 _) lkX5_168 (by decide) (q0 := 0) rfl rfl rfl rfl (Nat.le_of_ble_eq_true rfl) hl.1 dX5_endOf_11) (fun H locs hP hS => ?_)
  have hR := Option.some.inj hf
  subst hR
  exact hret _ _ _ _ _ rfl (fun _ hn => by cases hn; rfl) hP hD hS dX5_endOf_14

abbrev wd_X5_wayTo (cI : ClassId)  : va_W := []
def f_X5_wayTo_14   (t0_14 : Int32) : Option (Int32) := (if ((10 : Int32) - t0_14) ≤ t0_14 then (some ((10 : Int32) - t0_14)) else (some t0_14))
def f_X5_wayTo (x0 : Int32) (x1 : Int32) : Option (Int32) := (if x0 ≤ x1 then (f_X5_wayTo_14   (x1 - x0)) else (f_X5_wayTo_14   (x0 - x1)))
set_option maxHeartbeats 4000000 in
set_option maxRecDepth 100000 in
theorem w_X5_wayTo_14 {p : Program} {l : Launch} {e : Env} {s : State} {m : MethodId} {args : Array Value} {below : List Frame} {meth : Method} {c : Code} {D : va_G} {cI : ClassId} {aS : aSt} {A : Nat → Prop} {Q : State → Prop}  (x0 : Int32) (x1 : Int32) {R : Int32} (X : Bx p s m args meth c cX5_wayTo 3 (some .int) RX5 D cI aS A) (hret : RtI p l e 0 s m args below meth c cX5_wayTo (some .int) D A (wd_X5_wayTo cI ) R Q) : ∀ (t0_14 : Int32) (H : Heap) (locs : List Loc) (ls : Array Slot), f_X5_wayTo_14   t0_14 = some R → lv_has ls 3 [] → va_P D vwCl (wd_X5_wayTo cI ) H → va_D A (wd_X5_wayTo cI ) → va_S A s.heap H locs → Wh p l e 0 s m args below meth c H locs Q (F0 m 14 ls [.int t0_14]) := by
  have hx := X.1
  have hb := X.2.1
  intro t0_14 H locs ls hf hl hP hD hS
  replace hf : (if ((10 : Int32) - t0_14) ≤ t0_14 then (some ((10 : Int32) - t0_14)) else (some t0_14)) = some R := hf
  refine lv_istore_n (lv' := [(2, .int t0_14)]) hx hb dX5_wayTo_14 rfl hl (by decide) rfl (fun ls hl => ?_)
  refine lv_iload_n hx hb dX5_wayTo_15 rfl (lv_at hl 0 rfl) ?_
  refine lv_bipush (v := 10) hx hb dX5_wayTo_16 (by decide) ?_
  refine lv_iload_n hx hb dX5_wayTo_18 rfl (lv_at hl 0 rfl) ?_
  refine lv_isub hx hb dX5_wayTo_19 ?_
  refine lv_icmp_ge (tgt := 27) hx hb dX5_wayTo_20 (by decide) (fun c20 => ?_) (fun c20 => ?_)
  · have hf := iT c20 hf
    refine lv_bipush (v := 10) hx hb dX5_wayTo_27 (by decide) ?_
    refine lv_iload_n hx hb dX5_wayTo_29 rfl (lv_at hl 0 rfl) ?_
    refine lv_isub hx hb dX5_wayTo_30 ?_
    have hR := Option.some.inj hf
    subst hR
    exact hret _ _ _ _ _ rfl (fun _ hn => by cases hn; rfl) hP hD hS dX5_wayTo_31
  · have hf := iF c20 hf
    refine lv_iload_n hx hb dX5_wayTo_23 rfl (lv_at hl 0 rfl) ?_
    refine lv_goto (tgt := 31) hx hb dX5_wayTo_24 (by decide) ?_
    have hR := Option.some.inj hf
    subst hR
    exact hret _ _ _ _ _ rfl (fun _ hn => by cases hn; rfl) hP hD hS dX5_wayTo_31
set_option maxHeartbeats 4000000 in
set_option maxRecDepth 100000 in
theorem c_X5_wayTo (l : Launch) (D : va_G) (cI : ClassId) (aS : aSt) (x0 : Int32) (x1 : Int32) (R : Int32) (hf : f_X5_wayTo x0 x1 = some R) : CtI l yX5_wayTo cX5_wayTo 3 (some .int) 0 D cI aS [.int x0, .int x1] (wd_X5_wayTo cI ) (wd_X5_wayTo cI ) R := by
  refine ctI_of (by decide) ⟨_, rfl⟩ (Nat.le_of_ble_eq_true rfl) ?_
  intro p e s m below meth c A Q ls X hret hP hD hl
  have hS : va_S A s.heap s.heap [] := va_S.rf
  have hx := X.1
  have hb := X.2.1
  have hl : lv_has ls 3 [(0, .int x0), (1, .int x1)] := hl
  replace hf : (if x0 ≤ x1 then (f_X5_wayTo_14   (x1 - x0)) else (f_X5_wayTo_14   (x0 - x1))) = some R := hf
  refine lv_iload_n hx hb dX5_wayTo_0 rfl (lv_at hl 0 rfl) ?_
  refine lv_iload_n hx hb dX5_wayTo_1 rfl (lv_at hl 1 rfl) ?_
  refine lv_icmp_le (tgt := 11) hx hb dX5_wayTo_2 (by decide) (fun c2 => ?_) (fun c2 => ?_)
  · have hf := iT c2 hf
    refine lv_iload_n hx hb dX5_wayTo_11 rfl (lv_at hl 1 rfl) ?_
    refine lv_iload_n hx hb dX5_wayTo_12 rfl (lv_at hl 0 rfl) ?_
    refine lv_isub hx hb dX5_wayTo_13 ?_
    exact w_X5_wayTo_14 x0 x1 X hret  (x1 - x0) _ _ _ hf (lv_sub hl [] rfl) hP hD hS
  · have hf := iF c2 hf
    refine lv_iload_n hx hb dX5_wayTo_5 rfl (lv_at hl 0 rfl) ?_
    refine lv_iload_n hx hb dX5_wayTo_6 rfl (lv_at hl 1 rfl) ?_
    refine lv_isub hx hb dX5_wayTo_7 ?_
    refine lv_goto (tgt := 14) hx hb dX5_wayTo_8 (by decide) ?_
    exact w_X5_wayTo_14 x0 x1 X hret  (x0 - x1) _ _ _ hf (lv_sub hl [] rfl) hP hD hS

abbrev wd_X5_worthOf (cI : ClassId)  : va_W := []
def f_X5_worthOf (x0 : Int32) (x1 : Int32) : Option (Int32) := ((f_X5_wayTo x0 x1).bind fun (r5 : Int32) => (some ((9 : Int32) - ((2 : Int32) * r5))))
set_option maxHeartbeats 4000000 in
set_option maxRecDepth 100000 in
theorem c_X5_worthOf (l : Launch) (D : va_G) (cI : ClassId) (aS : aSt) (x0 : Int32) (x1 : Int32) (R : Int32) (hf : f_X5_worthOf x0 x1 = some R) : CtI l yX5_worthOf cX5_worthOf 2 (some .int) 1 D cI aS [.int x0, .int x1] (wd_X5_worthOf cI ) (wd_X5_worthOf cI ) R := by
  refine ctI_of (by decide) ⟨_, rfl⟩ (Nat.le_of_ble_eq_true rfl) ?_
  intro p e s m below meth c A Q ls X hret hP hD hl
  have hS : va_S A s.heap s.heap [] := va_S.rf
  have hx := X.1
  have hb := X.2.1
  have hl : lv_has ls 2 [(0, .int x0), (1, .int x1)] := hl
  replace hf : ((f_X5_wayTo x0 x1).bind fun (r5 : Int32) => (some ((9 : Int32) - ((2 : Int32) * r5)))) = some R := hf
  refine lv_bipush (v := 9) hx hb dX5_worthOf_0 (by decide) ?_
  refine lv_iconst (v := 2) hx hb dX5_worthOf_2 (by decide) ?_
  refine lv_iload_n hx hb dX5_worthOf_3 rfl (lv_at hl 0 rfl) ?_
  refine lv_iload_n hx hb dX5_worthOf_4 rfl (lv_at hl 1 rfl) ?_
  obtain ⟨r5, hq5, hf⟩ := bS hf
  refine ro_i X hP hD hS [] rfl (run_S X hP hD hS [] rfl rfl (c_X5_wayTo l D cI aS x0 x1 _ hq5 _) lkX5_155 (by decide) rfl rfl (Nat.le_of_ble_eq_true rfl) hl.1 dX5_worthOf_5) (fun H locs hP hS => ?_)
  refine lv_imul hx hb dX5_worthOf_8 ?_
  refine lv_isub hx hb dX5_worthOf_9 ?_
  have hR := Option.some.inj hf
  subst hR
  exact hret _ _ _ _ _ rfl (fun _ hn => by cases hn; rfl) hP hD hS dX5_worthOf_10

abbrev wd_X5_bookWorth (cI : ClassId) (ad : Nat → Nat) (writers : Int32) (year : Int32) (taped : Int32) (at_ : Int32) (statements : Int32) (hasImage : Int32) (isKeeping : Int32) (cursor : Int32) (forgottenWhen : Int32) (rowMany : Int32) (kind : (Nat → Int32)) (figure : (Nat → Int32)) (style : (Nat → Int32)) (silent : (Nat → Int32)) (ring : (Nat → Int32)) : va_W := [((ad 0), .inr (5, [.ref (ad 1), .ref (ad 2), .ref (ad 3), .ref (ad 4), .ref (ad 5), .ref (ad 6), .ref (ad 7), .int writers, .int year, .ref (ad 8), .ref (ad 9), .ref (ad 10), .ref (ad 11), .int taped, .int at_, .int statements, .ref (ad 12), .int hasImage, .int isKeeping, .int cursor, .int forgottenWhen, .ref (ad 13), .ref (ad 14), .ref (ad 15), .int rowMany])), ((ad 2), .inl (cI, 7, .inl kind)), ((ad 3), .inl (cI, 7, .inl figure)), ((ad 4), .inl (cI, 7, .inl style)), ((ad 6), .inl (cI, 7, .inl silent)), ((ad 7), .inl (cI, 7, .inl ring))]
def f_X5_bookWorth (writers : Int32) (year : Int32) (kind : (Nat → Int32)) (figure : (Nat → Int32)) (style : (Nat → Int32)) (silent : (Nat → Int32)) (ring : (Nat → Int32)) (x1 : Int32) : Option (Int32) := ((f_X5_enderOf writers silent ring x1).bind fun (r2 : Int32) => (if 0 ≤ r2 then ((f_X5_opens year style x1).bind fun (r14 : Int32) => ((f_X5_endOf writers year kind figure style silent ring x1).bind fun (r19 : Int32) => ((f_X5_worthOf r14 r19).bind fun (r22 : Int32) => (some r22)))) else (some (0 : Int32))))
set_option maxHeartbeats 4000000 in
set_option maxRecDepth 100000 in
theorem c_X5_bookWorth (l : Launch) (D : va_G) (cI : ClassId) (aS : aSt) (ad : Nat → Nat) (writers : Int32) (year : Int32) (taped : Int32) (at_ : Int32) (statements : Int32) (hasImage : Int32) (isKeeping : Int32) (cursor : Int32) (forgottenWhen : Int32) (rowMany : Int32) (kind : (Nat → Int32)) (figure : (Nat → Int32)) (style : (Nat → Int32)) (silent : (Nat → Int32)) (ring : (Nat → Int32)) (x1 : Int32) (R : Int32) (hf : f_X5_bookWorth writers year kind figure style silent ring x1 = some R) : CtI l yX5_bookWorth cX5_bookWorth 2 (some .int) 3 D cI aS [.ref (ad 0), .int x1] (wd_X5_bookWorth cI ad writers year taped at_ statements hasImage isKeeping cursor forgottenWhen rowMany kind figure style silent ring) (wd_X5_bookWorth cI ad writers year taped at_ statements hasImage isKeeping cursor forgottenWhen rowMany kind figure style silent ring) R := by
  refine ctI_of (by decide) ⟨_, rfl⟩ (Nat.le_of_ble_eq_true rfl) ?_
  intro p e s m below meth c A Q ls X hret hP hD hl
  have hS : va_S A s.heap s.heap [] := va_S.rf
  have hx := X.1
  have hb := X.2.1
  have hl : lv_has ls 2 [(0, .ref (ad 0)), (1, .int x1)] := hl
  replace hf : ((f_X5_enderOf writers silent ring x1).bind fun (r2 : Int32) => (if 0 ≤ r2 then ((f_X5_opens year style x1).bind fun (r14 : Int32) => ((f_X5_endOf writers year kind figure style silent ring x1).bind fun (r19 : Int32) => ((f_X5_worthOf r14 r19).bind fun (r22 : Int32) => (some r22)))) else (some (0 : Int32)))) = some R := hf
  refine lv_aload_n hx hb dX5_bookWorth_0 rfl (lv_at hl 0 rfl) ?_
  refine lv_iload_n hx hb dX5_bookWorth_1 rfl (lv_at hl 1 rfl) ?_
  obtain ⟨r2, hq2, hf⟩ := bS hf
  refine ro_i X hP hD hS [0, 4, 5] rfl (run_V X hP hD hS [0, 4, 5] rfl rfl (c_X5_enderOf l D cI aS ad writers year taped at_ statements hasImage isKeeping cursor forgottenWhen rowMany silent ring x1 _ hq2 _) lkX5_162 (by decide) (q0 := 0) rfl rfl rfl rfl (Nat.le_of_ble_eq_true rfl) hl.1 dX5_bookWorth_2) (fun H locs hP hS => ?_)
  refine lv_if_ge (tgt := 12) hx hb dX5_bookWorth_5 (by decide) (fun c5 => ?_) (fun c5 => ?_)
  · have hf := iT c5 hf
    refine lv_aload_n hx hb dX5_bookWorth_12 rfl (lv_at hl 0 rfl) ?_
    refine lv_iload_n hx hb dX5_bookWorth_13 rfl (lv_at hl 1 rfl) ?_
    obtain ⟨r14, hq14, hf⟩ := bS hf
    refine ro_i X hP hD hS [0, 3] rfl (run_V X hP hD hS [0, 3] rfl rfl (c_X5_opens l D cI aS ad writers year taped at_ statements hasImage isKeeping cursor forgottenWhen rowMany style x1 _ hq14 _) lkX5_165 (by decide) (q0 := 0) rfl rfl rfl rfl (Nat.le_of_ble_eq_true rfl) hl.1 dX5_bookWorth_14) (fun H locs hP hS => ?_)
    refine lv_aload_n hx hb dX5_bookWorth_17 rfl (lv_at hl 0 rfl) ?_
    refine lv_iload_n hx hb dX5_bookWorth_18 rfl (lv_at hl 1 rfl) ?_
    obtain ⟨r19, hq19, hf⟩ := bS hf
    refine ro_i X hP hD hS [0, 1, 2, 3, 4, 5] rfl (run_V X hP hD hS [0, 1, 2, 3, 4, 5] rfl rfl (c_X5_endOf l D cI aS ad writers year taped at_ statements hasImage isKeeping cursor forgottenWhen rowMany kind figure style silent ring x1 _ hq19 _) lkX5_171 (by decide) (q0 := 0) rfl rfl rfl rfl (Nat.le_of_ble_eq_true rfl) hl.1 dX5_bookWorth_19) (fun H locs hP hS => ?_)
    obtain ⟨r22, hq22, hf⟩ := bS hf
    refine ro_i X hP hD hS [] rfl (run_S X hP hD hS [] rfl rfl (c_X5_worthOf l D cI aS r14 r19 _ hq22 _) lkX5_174 (by decide) rfl rfl (Nat.le_of_ble_eq_true rfl) hl.1 dX5_bookWorth_22) (fun H locs hP hS => ?_)
    have hR := Option.some.inj hf
    subst hR
    exact hret _ _ _ _ _ rfl (fun _ hn => by cases hn; rfl) hP hD hS dX5_bookWorth_25
  · have hf := iF c5 hf
    refine lv_iconst (v := 0) hx hb dX5_bookWorth_8 (by decide) ?_
    refine lv_goto (tgt := 25) hx hb dX5_bookWorth_9 (by decide) ?_
    have hR := Option.some.inj hf
    subst hR
    exact hret _ _ _ _ _ rfl (fun _ hn => by cases hn; rfl) hP hD hS dX5_bookWorth_25

abbrev wd_X5_allWorth (cI : ClassId) (ad : Nat → Nat) (writers : Int32) (year : Int32) (taped : Int32) (at_ : Int32) (statements : Int32) (hasImage : Int32) (isKeeping : Int32) (cursor : Int32) (forgottenWhen : Int32) (rowMany : Int32) (kind : (Nat → Int32)) (figure : (Nat → Int32)) (style : (Nat → Int32)) (silent : (Nat → Int32)) (ring : (Nat → Int32)) : va_W := [((ad 0), .inr (5, [.ref (ad 1), .ref (ad 2), .ref (ad 3), .ref (ad 4), .ref (ad 5), .ref (ad 6), .ref (ad 7), .int writers, .int year, .ref (ad 8), .ref (ad 9), .ref (ad 10), .ref (ad 11), .int taped, .int at_, .int statements, .ref (ad 12), .int hasImage, .int isKeeping, .int cursor, .int forgottenWhen, .ref (ad 13), .ref (ad 14), .ref (ad 15), .int rowMany])), ((ad 2), .inl (cI, 7, .inl kind)), ((ad 3), .inl (cI, 7, .inl figure)), ((ad 4), .inl (cI, 7, .inl style)), ((ad 6), .inl (cI, 7, .inl silent)), ((ad 7), .inl (cI, 7, .inl ring))]
def f_X5_allWorth_30  (kL4 : Int32 → Int32 → Option (Int32)) (v2_30 : Int32) (t0_30 : Int32) (t1_30 : Int32) : Option (Int32) := (kL4 (t0_30 + t1_30) (v2_30 + (1 : Int32)))
def f_X5_allWorth_4 (writers : Int32) (year : Int32) (kind : (Nat → Int32)) (figure : (Nat → Int32)) (style : (Nat → Int32)) (silent : (Nat → Int32)) (ring : (Nat → Int32))  : Nat → Int32 → Int32 → Option (Int32)
  | 0 => fun _ _ => none
  | fuel + 1 => fun v1_4 v2_4 => (if writers ≤ v2_4 then (some v1_4) else ((f_X5_isEnded writers silent ring v2_4).bind fun (r15 : Int32) => (if r15 = 0 then (f_X5_allWorth_30  (f_X5_allWorth_4 writers year kind figure style silent ring  fuel) v2_4 v1_4 (0 : Int32)) else ((f_X5_bookWorth writers year kind figure style silent ring v2_4).bind fun (r23 : Int32) => (f_X5_allWorth_30  (f_X5_allWorth_4 writers year kind figure style silent ring  fuel) v2_4 v1_4 r23)))))
theorem e_X5_allWorth_4 (writers : Int32) (year : Int32) (kind : (Nat → Int32)) (figure : (Nat → Int32)) (style : (Nat → Int32)) (silent : (Nat → Int32)) (ring : (Nat → Int32))  (fuel : Nat) (v1_4 : Int32) (v2_4 : Int32) : f_X5_allWorth_4 writers year kind figure style silent ring  (fuel + 1) v1_4 v2_4 = (if writers ≤ v2_4 then (some v1_4) else ((f_X5_isEnded writers silent ring v2_4).bind fun (r15 : Int32) => (if r15 = 0 then (f_X5_allWorth_30  (f_X5_allWorth_4 writers year kind figure style silent ring  fuel) v2_4 v1_4 (0 : Int32)) else ((f_X5_bookWorth writers year kind figure style silent ring v2_4).bind fun (r23 : Int32) => (f_X5_allWorth_30  (f_X5_allWorth_4 writers year kind figure style silent ring  fuel) v2_4 v1_4 r23))))) := rfl
def f_X5_allWorth (writers : Int32) (year : Int32) (kind : (Nat → Int32)) (figure : (Nat → Int32)) (style : (Nat → Int32)) (silent : (Nat → Int32)) (ring : (Nat → Int32)) : Option (Int32) := (f_X5_allWorth_4 writers year kind figure style silent ring  FU (0 : Int32) (0 : Int32))
set_option maxHeartbeats 4000000 in
set_option maxRecDepth 100000 in
theorem w_X5_allWorth_30 {p : Program} {l : Launch} {e : Env} {s : State} {m : MethodId} {args : Array Value} {below : List Frame} {meth : Method} {c : Code} {D : va_G} {cI : ClassId} {aS : aSt} {A : Nat → Prop} {Q : State → Prop}  (ad : Nat → Nat) (writers : Int32) (year : Int32) (taped : Int32) (at_ : Int32) (statements : Int32) (hasImage : Int32) (isKeeping : Int32) (cursor : Int32) (forgottenWhen : Int32) (rowMany : Int32) (kind : (Nat → Int32)) (figure : (Nat → Int32)) (style : (Nat → Int32)) (silent : (Nat → Int32)) (ring : (Nat → Int32)) {R : Int32} (X : Bx p s m args meth c cX5_allWorth 3 (some .int) RX5 D cI aS A) (hret : RtI p l e 4 s m args below meth c cX5_allWorth (some .int) D A (wd_X5_allWorth cI ad writers year taped at_ statements hasImage isKeeping cursor forgottenWhen rowMany kind figure style silent ring) R Q) (kL4 : Int32 → Int32 → Option (Int32)) (hkL4 : ∀ (v1_4 : Int32) (v2_4 : Int32) (H : Heap) (locs : List Loc) (ls : Array Slot), kL4 v1_4 v2_4 = some R → lv_has ls 3 [(0, .ref (ad 0)), (1, .int v1_4), (2, .int v2_4)] → va_P D vwCl (wd_X5_allWorth cI ad writers year taped at_ statements hasImage isKeeping cursor forgottenWhen rowMany kind figure style silent ring) H → va_D A (wd_X5_allWorth cI ad writers year taped at_ statements hasImage isKeeping cursor forgottenWhen rowMany kind figure style silent ring) → va_S A s.heap H locs → Wh p l e 4 s m args below meth c H locs Q (F0 m 4 ls [])) : ∀ (v2_30 : Int32) (t0_30 : Int32) (t1_30 : Int32) (H : Heap) (locs : List Loc) (ls : Array Slot), f_X5_allWorth_30  kL4 v2_30 t0_30 t1_30 = some R → lv_has ls 3 [(0, .ref (ad 0)), (2, .int v2_30)] → va_P D vwCl (wd_X5_allWorth cI ad writers year taped at_ statements hasImage isKeeping cursor forgottenWhen rowMany kind figure style silent ring) H → va_D A (wd_X5_allWorth cI ad writers year taped at_ statements hasImage isKeeping cursor forgottenWhen rowMany kind figure style silent ring) → va_S A s.heap H locs → Wh p l e 4 s m args below meth c H locs Q (F0 m 30 ls [.int t1_30, .int t0_30]) := by
  have hx := X.1
  have hb := X.2.1
  intro v2_30 t0_30 t1_30 H locs ls hf hl hP hD hS
  replace hf : (kL4 (t0_30 + t1_30) (v2_30 + (1 : Int32))) = some R := hf
  refine lv_iadd hx hb dX5_allWorth_30 ?_
  refine lv_istore_n (lv' := [(1, .int (t0_30 + t1_30)), (0, .ref (ad 0)), (2, .int v2_30)]) hx hb dX5_allWorth_31 rfl hl (by decide) rfl (fun ls hl => ?_)
  refine lv_iinc (v := (v2_30 + (1 : Int32))) (lv' := [(2, .int (v2_30 + (1 : Int32))), (1, .int (t0_30 + t1_30)), (0, .ref (ad 0))]) hx hb dX5_allWorth_32 hl (k := 2) rfl rfl (by decide) rfl (fun ls hl => ?_)
  refine lv_goto (tgt := 4) hx hb dX5_allWorth_35 (by decide) ?_
  exact hkL4 (t0_30 + t1_30) (v2_30 + (1 : Int32)) _ _ _ hf (lv_sub hl [2, 1, 0] rfl) hP hD hS
set_option maxHeartbeats 4000000 in
set_option maxRecDepth 100000 in
theorem w_X5_allWorth_4 {p : Program} {l : Launch} {e : Env} {s : State} {m : MethodId} {args : Array Value} {below : List Frame} {meth : Method} {c : Code} {D : va_G} {cI : ClassId} {aS : aSt} {A : Nat → Prop} {Q : State → Prop}  (ad : Nat → Nat) (writers : Int32) (year : Int32) (taped : Int32) (at_ : Int32) (statements : Int32) (hasImage : Int32) (isKeeping : Int32) (cursor : Int32) (forgottenWhen : Int32) (rowMany : Int32) (kind : (Nat → Int32)) (figure : (Nat → Int32)) (style : (Nat → Int32)) (silent : (Nat → Int32)) (ring : (Nat → Int32)) {R : Int32} (X : Bx p s m args meth c cX5_allWorth 3 (some .int) RX5 D cI aS A) (hret : RtI p l e 4 s m args below meth c cX5_allWorth (some .int) D A (wd_X5_allWorth cI ad writers year taped at_ statements hasImage isKeeping cursor forgottenWhen rowMany kind figure style silent ring) R Q) : ∀ (fuel : Nat) (v1_4 : Int32) (v2_4 : Int32) (H : Heap) (locs : List Loc) (ls : Array Slot), f_X5_allWorth_4 writers year kind figure style silent ring  fuel v1_4 v2_4 = some R → lv_has ls 3 [(0, .ref (ad 0)), (1, .int v1_4), (2, .int v2_4)] → va_P D vwCl (wd_X5_allWorth cI ad writers year taped at_ statements hasImage isKeeping cursor forgottenWhen rowMany kind figure style silent ring) H → va_D A (wd_X5_allWorth cI ad writers year taped at_ statements hasImage isKeeping cursor forgottenWhen rowMany kind figure style silent ring) → va_S A s.heap H locs → Wh p l e 4 s m args below meth c H locs Q (F0 m 4 ls []) := by
  have hx := X.1
  have hb := X.2.1
  intro fuel
  induction fuel with
  | zero =>
    intro v1_4 v2_4 H locs ls hf hl hP hD hS
    cases hf
  | succ fuel ih =>
    intro v1_4 v2_4 H locs ls hf hl hP hD hS
    replace hf : (if writers ≤ v2_4 then (some v1_4) else ((f_X5_isEnded writers silent ring v2_4).bind fun (r15 : Int32) => (if r15 = 0 then (f_X5_allWorth_30  (f_X5_allWorth_4 writers year kind figure style silent ring  fuel) v2_4 v1_4 (0 : Int32)) else ((f_X5_bookWorth writers year kind figure style silent ring v2_4).bind fun (r23 : Int32) => (f_X5_allWorth_30  (f_X5_allWorth_4 writers year kind figure style silent ring  fuel) v2_4 v1_4 r23))))) = some R := hf
    refine lv_iload_n hx hb dX5_allWorth_4 rfl (lv_at hl 2 rfl) ?_
    refine lv_aload_n hx hb dX5_allWorth_5 rfl (lv_at hl 0 rfl) ?_
    refine fgX5_55 X hP (q0 := 0) rfl rfl dX5_allWorth_6 ?_
    refine lv_icmp_ge (tgt := 38) hx hb dX5_allWorth_9 (by decide) (fun c9 => ?_) (fun c9 => ?_)
    · have hf := iT c9 hf
      refine lv_iload_n hx hb dX5_allWorth_38 rfl (lv_at hl 1 rfl) ?_
      have hR := Option.some.inj hf
      subst hR
      exact hret _ _ _ _ _ rfl (fun _ hn => by cases hn; rfl) hP hD hS dX5_allWorth_39
    · have hf := iF c9 hf
      refine lv_iload_n hx hb dX5_allWorth_12 rfl (lv_at hl 1 rfl) ?_
      refine lv_aload_n hx hb dX5_allWorth_13 rfl (lv_at hl 0 rfl) ?_
      refine lv_iload_n hx hb dX5_allWorth_14 rfl (lv_at hl 2 rfl) ?_
      obtain ⟨r15, hq15, hf⟩ := bS hf
      refine ro_i X hP hD hS [0, 4, 5] rfl (run_V X hP hD hS [0, 4, 5] rfl rfl (c_X5_isEnded l D cI aS ad writers year taped at_ statements hasImage isKeeping cursor forgottenWhen rowMany silent ring v2_4 _ hq15 _) lkX5_177 (by decide) (q0 := 0) rfl rfl rfl rfl (Nat.le_of_ble_eq_true rfl) hl.1 dX5_allWorth_15) (fun H locs hP hS => ?_)
      refine lv_if_eq (tgt := 29) hx hb dX5_allWorth_18 (by decide) (fun c18 => ?_) (fun c18 => ?_)
      · have hf := iT c18 hf
        refine lv_iconst (v := 0) hx hb dX5_allWorth_29 (by decide) ?_
        exact w_X5_allWorth_30 ad writers year taped at_ statements hasImage isKeeping cursor forgottenWhen rowMany kind figure style silent ring X hret _ ih v2_4 v1_4 (0 : Int32) _ _ _ hf (lv_sub hl [0, 2] rfl) hP hD hS
      · have hf := iF c18 hf
        refine lv_aload_n hx hb dX5_allWorth_21 rfl (lv_at hl 0 rfl) ?_
        refine lv_iload_n hx hb dX5_allWorth_22 rfl (lv_at hl 2 rfl) ?_
        obtain ⟨r23, hq23, hf⟩ := bS hf
        refine ro_i X hP hD hS [0, 1, 2, 3, 4, 5] rfl (run_V X hP hD hS [0, 1, 2, 3, 4, 5] rfl rfl (c_X5_bookWorth l D cI aS ad writers year taped at_ statements hasImage isKeeping cursor forgottenWhen rowMany kind figure style silent ring v2_4 _ hq23 _) lkX5_180 (by decide) (q0 := 0) rfl rfl rfl rfl (Nat.le_of_ble_eq_true rfl) hl.1 dX5_allWorth_23) (fun H locs hP hS => ?_)
        refine lv_goto (tgt := 30) hx hb dX5_allWorth_26 (by decide) ?_
        exact w_X5_allWorth_30 ad writers year taped at_ statements hasImage isKeeping cursor forgottenWhen rowMany kind figure style silent ring X hret _ ih v2_4 v1_4 r23 _ _ _ hf (lv_sub hl [0, 2] rfl) hP hD hS
set_option maxHeartbeats 4000000 in
set_option maxRecDepth 100000 in
theorem c_X5_allWorth (l : Launch) (D : va_G) (cI : ClassId) (aS : aSt) (ad : Nat → Nat) (writers : Int32) (year : Int32) (taped : Int32) (at_ : Int32) (statements : Int32) (hasImage : Int32) (isKeeping : Int32) (cursor : Int32) (forgottenWhen : Int32) (rowMany : Int32) (kind : (Nat → Int32)) (figure : (Nat → Int32)) (style : (Nat → Int32)) (silent : (Nat → Int32)) (ring : (Nat → Int32)) (R : Int32) (hf : f_X5_allWorth writers year kind figure style silent ring = some R) : CtI l yX5_allWorth cX5_allWorth 3 (some .int) 4 D cI aS [.ref (ad 0)] (wd_X5_allWorth cI ad writers year taped at_ statements hasImage isKeeping cursor forgottenWhen rowMany kind figure style silent ring) (wd_X5_allWorth cI ad writers year taped at_ statements hasImage isKeeping cursor forgottenWhen rowMany kind figure style silent ring) R := by
  refine ctI_of (by decide) ⟨_, rfl⟩ (Nat.le_of_ble_eq_true rfl) ?_
  intro p e s m below meth c A Q ls X hret hP hD hl
  have hS : va_S A s.heap s.heap [] := va_S.rf
  have hx := X.1
  have hb := X.2.1
  have hl : lv_has ls 3 [(0, .ref (ad 0))] := hl
  replace hf : (f_X5_allWorth_4 writers year kind figure style silent ring  FU (0 : Int32) (0 : Int32)) = some R := hf
  refine lv_iconst (v := 0) hx hb dX5_allWorth_0 (by decide) ?_
  refine lv_istore_n (lv' := [(1, .int (0 : Int32)), (0, .ref (ad 0))]) hx hb dX5_allWorth_1 rfl hl (by decide) rfl (fun ls hl => ?_)
  refine lv_iconst (v := 0) hx hb dX5_allWorth_2 (by decide) ?_
  refine lv_istore_n (lv' := [(2, .int (0 : Int32)), (1, .int (0 : Int32)), (0, .ref (ad 0))]) hx hb dX5_allWorth_3 rfl hl (by decide) rfl (fun ls hl => ?_)
  exact w_X5_allWorth_4 ad writers year taped at_ statements hasImage isKeeping cursor forgottenWhen rowMany kind figure style silent ring X hret  _ (0 : Int32) (0 : Int32) _ _ _ hf (lv_sub hl [2, 1, 0] rfl) hP hD hS

abbrev wd_X5_isOne (cI : ClassId) (ad : Nat → Nat) (writers : Int32) (year : Int32) (taped : Int32) (at_ : Int32) (statements : Int32) (hasImage : Int32) (isKeeping : Int32) (cursor : Int32) (forgottenWhen : Int32) (rowMany : Int32) : va_W := [((ad 0), .inr (5, [.ref (ad 1), .ref (ad 2), .ref (ad 3), .ref (ad 4), .ref (ad 5), .ref (ad 6), .ref (ad 7), .int writers, .int year, .ref (ad 8), .ref (ad 9), .ref (ad 10), .ref (ad 11), .int taped, .int at_, .int statements, .ref (ad 12), .int hasImage, .int isKeeping, .int cursor, .int forgottenWhen, .ref (ad 13), .ref (ad 14), .ref (ad 15), .int rowMany]))]
def f_X5_isOne (writers : Int32) (x1 : Int32) : Option (Int32) := (if x1 < 0 then (some (0 : Int32)) else (if writers ≤ x1 then (some (0 : Int32)) else (some (1 : Int32))))
set_option maxHeartbeats 4000000 in
set_option maxRecDepth 100000 in
theorem c_X5_isOne (l : Launch) (D : va_G) (cI : ClassId) (aS : aSt) (ad : Nat → Nat) (writers : Int32) (year : Int32) (taped : Int32) (at_ : Int32) (statements : Int32) (hasImage : Int32) (isKeeping : Int32) (cursor : Int32) (forgottenWhen : Int32) (rowMany : Int32) (x1 : Int32) (R : Int32) (hf : f_X5_isOne writers x1 = some R) : CtI l yX5_isOne cX5_isOne 2 (some .boolean) 0 D cI aS [.ref (ad 0), .int x1] (wd_X5_isOne cI ad writers year taped at_ statements hasImage isKeeping cursor forgottenWhen rowMany) (wd_X5_isOne cI ad writers year taped at_ statements hasImage isKeeping cursor forgottenWhen rowMany) R := by
  refine ctI_of (by decide) ⟨_, rfl⟩ (Nat.le_of_ble_eq_true rfl) ?_
  intro p e s m below meth c A Q ls X hret hP hD hl
  have hS : va_S A s.heap s.heap [] := va_S.rf
  have hx := X.1
  have hb := X.2.1
  have hl : lv_has ls 2 [(0, .ref (ad 0)), (1, .int x1)] := hl
  replace hf : (if x1 < 0 then (some (0 : Int32)) else (if writers ≤ x1 then (some (0 : Int32)) else (some (1 : Int32)))) = some R := hf
  refine lv_iload_n hx hb dX5_isOne_0 rfl (lv_at hl 1 rfl) ?_
  refine lv_if_lt (tgt := 16) hx hb dX5_isOne_1 (by decide) (fun c1 => ?_) (fun c1 => ?_)
  · have hf := iT c1 hf
    refine lv_iconst (v := 0) hx hb dX5_isOne_16 (by decide) ?_
    have hR := Option.some.inj hf
    subst hR
    exact hret _ _ _ _ _ rfl (fun _ hn => by cases hn; rfl) hP hD hS dX5_isOne_17
  · have hf := iF c1 hf
    refine lv_iload_n hx hb dX5_isOne_4 rfl (lv_at hl 1 rfl) ?_
    refine lv_aload_n hx hb dX5_isOne_5 rfl (lv_at hl 0 rfl) ?_
    refine fgX5_55 X hP (q0 := 0) rfl rfl dX5_isOne_6 ?_
    refine lv_icmp_ge (tgt := 16) hx hb dX5_isOne_9 (by decide) (fun c9 => ?_) (fun c9 => ?_)
    · have hf := iT c9 hf
      refine lv_iconst (v := 0) hx hb dX5_isOne_16 (by decide) ?_
      have hR := Option.some.inj hf
      subst hR
      exact hret _ _ _ _ _ rfl (fun _ hn => by cases hn; rfl) hP hD hS dX5_isOne_17
    · have hf := iF c9 hf
      refine lv_iconst (v := 1) hx hb dX5_isOne_12 (by decide) ?_
      refine lv_goto (tgt := 17) hx hb dX5_isOne_13 (by decide) ?_
      have hR := Option.some.inj hf
      subst hR
      exact hret _ _ _ _ _ rfl (fun _ hn => by cases hn; rfl) hP hD hS dX5_isOne_17

abbrev wd_X5_areTwo (cI : ClassId) (ad : Nat → Nat) (writers : Int32) (year : Int32) (taped : Int32) (at_ : Int32) (statements : Int32) (hasImage : Int32) (isKeeping : Int32) (cursor : Int32) (forgottenWhen : Int32) (rowMany : Int32) : va_W := [((ad 0), .inr (5, [.ref (ad 1), .ref (ad 2), .ref (ad 3), .ref (ad 4), .ref (ad 5), .ref (ad 6), .ref (ad 7), .int writers, .int year, .ref (ad 8), .ref (ad 9), .ref (ad 10), .ref (ad 11), .int taped, .int at_, .int statements, .ref (ad 12), .int hasImage, .int isKeeping, .int cursor, .int forgottenWhen, .ref (ad 13), .ref (ad 14), .ref (ad 15), .int rowMany]))]
def f_X5_areTwo (writers : Int32) (x1 : Int32) (x2 : Int32) : Option (Int32) := ((f_X5_isOne writers x1).bind fun (r2 : Int32) => (if r2 = 0 then (some (0 : Int32)) else ((f_X5_isOne writers x2).bind fun (r10 : Int32) => (if r10 = 0 then (some (0 : Int32)) else (if x1 = x2 then (some (0 : Int32)) else (some (1 : Int32)))))))
set_option maxHeartbeats 4000000 in
set_option maxRecDepth 100000 in
theorem c_X5_areTwo (l : Launch) (D : va_G) (cI : ClassId) (aS : aSt) (ad : Nat → Nat) (writers : Int32) (year : Int32) (taped : Int32) (at_ : Int32) (statements : Int32) (hasImage : Int32) (isKeeping : Int32) (cursor : Int32) (forgottenWhen : Int32) (rowMany : Int32) (x1 : Int32) (x2 : Int32) (R : Int32) (hf : f_X5_areTwo writers x1 x2 = some R) : CtI l yX5_areTwo cX5_areTwo 3 (some .boolean) 1 D cI aS [.ref (ad 0), .int x1, .int x2] (wd_X5_areTwo cI ad writers year taped at_ statements hasImage isKeeping cursor forgottenWhen rowMany) (wd_X5_areTwo cI ad writers year taped at_ statements hasImage isKeeping cursor forgottenWhen rowMany) R := by
  refine ctI_of (by decide) ⟨_, rfl⟩ (Nat.le_of_ble_eq_true rfl) ?_
  intro p e s m below meth c A Q ls X hret hP hD hl
  have hS : va_S A s.heap s.heap [] := va_S.rf
  have hx := X.1
  have hb := X.2.1
  have hl : lv_has ls 3 [(0, .ref (ad 0)), (1, .int x1), (2, .int x2)] := hl
  replace hf : ((f_X5_isOne writers x1).bind fun (r2 : Int32) => (if r2 = 0 then (some (0 : Int32)) else ((f_X5_isOne writers x2).bind fun (r10 : Int32) => (if r10 = 0 then (some (0 : Int32)) else (if x1 = x2 then (some (0 : Int32)) else (some (1 : Int32))))))) = some R := hf
  refine lv_aload_n hx hb dX5_areTwo_0 rfl (lv_at hl 0 rfl) ?_
  refine lv_iload_n hx hb dX5_areTwo_1 rfl (lv_at hl 1 rfl) ?_
  obtain ⟨r2, hq2, hf⟩ := bS hf
  refine ro_i X hP hD hS [0] rfl (run_V X hP hD hS [0] rfl rfl (c_X5_isOne l D cI aS ad writers year taped at_ statements hasImage isKeeping cursor forgottenWhen rowMany x1 _ hq2 _) lkX5_108 (by decide) (q0 := 0) rfl rfl rfl rfl (Nat.le_of_ble_eq_true rfl) hl.1 dX5_areTwo_2) (fun H locs hP hS => ?_)
  refine lv_if_eq (tgt := 25) hx hb dX5_areTwo_5 (by decide) (fun c5 => ?_) (fun c5 => ?_)
  · have hf := iT c5 hf
    refine lv_iconst (v := 0) hx hb dX5_areTwo_25 (by decide) ?_
    have hR := Option.some.inj hf
    subst hR
    exact hret _ _ _ _ _ rfl (fun _ hn => by cases hn; rfl) hP hD hS dX5_areTwo_26
  · have hf := iF c5 hf
    refine lv_aload_n hx hb dX5_areTwo_8 rfl (lv_at hl 0 rfl) ?_
    refine lv_iload_n hx hb dX5_areTwo_9 rfl (lv_at hl 2 rfl) ?_
    obtain ⟨r10, hq10, hf⟩ := bS hf
    refine ro_i X hP hD hS [0] rfl (run_V X hP hD hS [0] rfl rfl (c_X5_isOne l D cI aS ad writers year taped at_ statements hasImage isKeeping cursor forgottenWhen rowMany x2 _ hq10 _) lkX5_108 (by decide) (q0 := 0) rfl rfl rfl rfl (Nat.le_of_ble_eq_true rfl) hl.1 dX5_areTwo_10) (fun H locs hP hS => ?_)
    refine lv_if_eq (tgt := 25) hx hb dX5_areTwo_13 (by decide) (fun c13 => ?_) (fun c13 => ?_)
    · have hf := iT c13 hf
      refine lv_iconst (v := 0) hx hb dX5_areTwo_25 (by decide) ?_
      have hR := Option.some.inj hf
      subst hR
      exact hret _ _ _ _ _ rfl (fun _ hn => by cases hn; rfl) hP hD hS dX5_areTwo_26
    · have hf := iF c13 hf
      refine lv_iload_n hx hb dX5_areTwo_16 rfl (lv_at hl 1 rfl) ?_
      refine lv_iload_n hx hb dX5_areTwo_17 rfl (lv_at hl 2 rfl) ?_
      refine lv_icmp_eq (tgt := 25) hx hb dX5_areTwo_18 (by decide) (fun c18 => ?_) (fun c18 => ?_)
      · have hf := iT c18 hf
        refine lv_iconst (v := 0) hx hb dX5_areTwo_25 (by decide) ?_
        have hR := Option.some.inj hf
        subst hR
        exact hret _ _ _ _ _ rfl (fun _ hn => by cases hn; rfl) hP hD hS dX5_areTwo_26
      · have hf := iF c18 hf
        refine lv_iconst (v := 1) hx hb dX5_areTwo_21 (by decide) ?_
        refine lv_goto (tgt := 26) hx hb dX5_areTwo_22 (by decide) ?_
        have hR := Option.some.inj hf
        subst hR
        exact hret _ _ _ _ _ rfl (fun _ hn => by cases hn; rfl) hP hD hS dX5_areTwo_26

abbrev wd_X5_bits (cI : ClassId)  : va_W := []
def f_X5_bits_4 (x0 : Int32)  : Nat → Int32 → Int32 → Option (Int32)
  | 0 => fun _ _ => none
  | fuel + 1 => fun v1_4 v2_4 => (if (31 : Int32) ≤ v2_4 then (some v1_4) else (f_X5_bits_4 x0  fuel (v1_4 + ((shrI x0 v2_4) &&& (1 : Int32))) (v2_4 + (1 : Int32))))
theorem e_X5_bits_4 (x0 : Int32)  (fuel : Nat) (v1_4 : Int32) (v2_4 : Int32) : f_X5_bits_4 x0  (fuel + 1) v1_4 v2_4 = (if (31 : Int32) ≤ v2_4 then (some v1_4) else (f_X5_bits_4 x0  fuel (v1_4 + ((shrI x0 v2_4) &&& (1 : Int32))) (v2_4 + (1 : Int32)))) := rfl
def f_X5_bits (x0 : Int32) : Option (Int32) := (f_X5_bits_4 x0  FU (0 : Int32) (0 : Int32))
set_option maxHeartbeats 4000000 in
set_option maxRecDepth 100000 in
theorem w_X5_bits_4 {p : Program} {l : Launch} {e : Env} {s : State} {m : MethodId} {args : Array Value} {below : List Frame} {meth : Method} {c : Code} {D : va_G} {cI : ClassId} {aS : aSt} {A : Nat → Prop} {Q : State → Prop}  (x0 : Int32) {R : Int32} (X : Bx p s m args meth c cX5_bits 3 (some .int) RX5 D cI aS A) (hret : RtI p l e 0 s m args below meth c cX5_bits (some .int) D A (wd_X5_bits cI ) R Q) : ∀ (fuel : Nat) (v1_4 : Int32) (v2_4 : Int32) (H : Heap) (locs : List Loc) (ls : Array Slot), f_X5_bits_4 x0  fuel v1_4 v2_4 = some R → lv_has ls 3 [(0, .int x0), (1, .int v1_4), (2, .int v2_4)] → va_P D vwCl (wd_X5_bits cI ) H → va_D A (wd_X5_bits cI ) → va_S A s.heap H locs → Wh p l e 0 s m args below meth c H locs Q (F0 m 4 ls []) := by
  have hx := X.1
  have hb := X.2.1
  intro fuel
  induction fuel with
  | zero =>
    intro v1_4 v2_4 H locs ls hf hl hP hD hS
    cases hf
  | succ fuel ih =>
    intro v1_4 v2_4 H locs ls hf hl hP hD hS
    replace hf : (if (31 : Int32) ≤ v2_4 then (some v1_4) else (f_X5_bits_4 x0  fuel (v1_4 + ((shrI x0 v2_4) &&& (1 : Int32))) (v2_4 + (1 : Int32)))) = some R := hf
    refine lv_iload_n hx hb dX5_bits_4 rfl (lv_at hl 2 rfl) ?_
    refine lv_bipush (v := 31) hx hb dX5_bits_5 (by decide) ?_
    refine lv_icmp_ge (tgt := 24) hx hb dX5_bits_7 (by decide) (fun c7 => ?_) (fun c7 => ?_)
    · have hf := iT c7 hf
      refine lv_iload_n hx hb dX5_bits_24 rfl (lv_at hl 1 rfl) ?_
      have hR := Option.some.inj hf
      subst hR
      exact hret _ _ _ _ _ rfl (fun _ hn => by cases hn; rfl) hP hD hS dX5_bits_25
    · have hf := iF c7 hf
      refine lv_iload_n hx hb dX5_bits_10 rfl (lv_at hl 1 rfl) ?_
      refine lv_iload_n hx hb dX5_bits_11 rfl (lv_at hl 0 rfl) ?_
      refine lv_iload_n hx hb dX5_bits_12 rfl (lv_at hl 2 rfl) ?_
      refine x_ishr hx hb dX5_bits_13 ?_
      refine lv_iconst (v := 1) hx hb dX5_bits_14 (by decide) ?_
      refine lv_iand hx hb dX5_bits_15 ?_
      refine lv_iadd hx hb dX5_bits_16 ?_
      refine lv_istore_n (lv' := [(1, .int (v1_4 + ((shrI x0 v2_4) &&& (1 : Int32)))), (0, .int x0), (2, .int v2_4)]) hx hb dX5_bits_17 rfl hl (by decide) rfl (fun ls hl => ?_)
      refine lv_iinc (v := (v2_4 + (1 : Int32))) (lv' := [(2, .int (v2_4 + (1 : Int32))), (1, .int (v1_4 + ((shrI x0 v2_4) &&& (1 : Int32)))), (0, .int x0)]) hx hb dX5_bits_18 hl (k := 2) rfl rfl (by decide) rfl (fun ls hl => ?_)
      refine lv_goto (tgt := 4) hx hb dX5_bits_21 (by decide) ?_
      exact ih (v1_4 + ((shrI x0 v2_4) &&& (1 : Int32))) (v2_4 + (1 : Int32)) _ _ _ hf (lv_sub hl [2, 1, 0] rfl) hP hD hS
set_option maxHeartbeats 4000000 in
set_option maxRecDepth 100000 in
theorem c_X5_bits (l : Launch) (D : va_G) (cI : ClassId) (aS : aSt) (x0 : Int32) (R : Int32) (hf : f_X5_bits x0 = some R) : CtI l yX5_bits cX5_bits 3 (some .int) 0 D cI aS [.int x0] (wd_X5_bits cI ) (wd_X5_bits cI ) R := by
  refine ctI_of (by decide) ⟨_, rfl⟩ (Nat.le_of_ble_eq_true rfl) ?_
  intro p e s m below meth c A Q ls X hret hP hD hl
  have hS : va_S A s.heap s.heap [] := va_S.rf
  have hx := X.1
  have hb := X.2.1
  have hl : lv_has ls 3 [(0, .int x0)] := hl
  replace hf : (f_X5_bits_4 x0  FU (0 : Int32) (0 : Int32)) = some R := hf
  refine lv_iconst (v := 0) hx hb dX5_bits_0 (by decide) ?_
  refine lv_istore_n (lv' := [(1, .int (0 : Int32)), (0, .int x0)]) hx hb dX5_bits_1 rfl hl (by decide) rfl (fun ls hl => ?_)
  refine lv_iconst (v := 0) hx hb dX5_bits_2 (by decide) ?_
  refine lv_istore_n (lv' := [(2, .int (0 : Int32)), (1, .int (0 : Int32)), (0, .int x0)]) hx hb dX5_bits_3 rfl hl (by decide) rfl (fun ls hl => ?_)
  exact w_X5_bits_4 x0 X hret  _ (0 : Int32) (0 : Int32) _ _ _ hf (lv_sub hl [2, 1, 0] rfl) hP hD hS

abbrev wd_X5_passes (cI : ClassId) (ad da1 : Nat → Nat) (n_a1 : Nat) (writers : Int32) (year : Int32) (taped : Int32) (at_ : Int32) (statements : Int32) (hasImage : Int32) (isKeeping : Int32) (cursor : Int32) (forgottenWhen : Int32) (rowMany : Int32) (kept : (Nat → Int32)) (a1 : (Nat → Int32)) : va_W := [((ad 0), .inr (5, [.ref (ad 1), .ref (ad 2), .ref (ad 3), .ref (ad 4), .ref (ad 5), .ref (ad 6), .ref (ad 7), .int writers, .int year, .ref (ad 8), .ref (ad 9), .ref (ad 10), .ref (ad 11), .int taped, .int at_, .int statements, .ref (ad 12), .int hasImage, .int isKeeping, .int cursor, .int forgottenWhen, .ref (ad 13), .ref (ad 14), .ref (ad 15), .int rowMany])), ((ad 12), .inl (cI, 132, .inl kept)), ((da1 0), .inl (cI, n_a1, .inl a1))]
def f_X5_passes_42  (kL2 : Int32 → Int32 → (Nat → Int32) → (Nat → Int32) → Option (Int32 × (Nat → Int32) × (Nat → Int32))) (v2_42 : Int32) (cursor_42 : Int32) (kept_42 : (Nat → Int32)) (a1_42 : (Nat → Int32)) : Option (Int32 × (Nat → Int32) × (Nat → Int32)) := (kL2 (v2_42 + (1 : Int32)) (cursor_42 + (1 : Int32)) kept_42 a1_42)
def f_X5_passes_2 (n_a1 : Nat) (isKeeping : Int32)  : Nat → Int32 → Int32 → (Nat → Int32) → (Nat → Int32) → Option (Int32 × (Nat → Int32) × (Nat → Int32))
  | 0 => fun _ _ _ _ => none
  | fuel + 1 => fun v2_2 cursor_2 kept_2 a1_2 => (if (nI n_a1) ≤ v2_2 then (some (cursor_2, kept_2, a1_2)) else (if isKeeping = 0 then (gd cursor_2 132 (gd v2_2 n_a1 (f_X5_passes_42  (f_X5_passes_2 n_a1 isKeeping  fuel) v2_2 cursor_2 kept_2 (upd a1_2 (Int32.toNatClampNeg v2_2) (kept_2 (Int32.toNatClampNeg cursor_2)))))) else (gd v2_2 n_a1 (gd cursor_2 132 (f_X5_passes_42  (f_X5_passes_2 n_a1 isKeeping  fuel) v2_2 cursor_2 (upd kept_2 (Int32.toNatClampNeg cursor_2) (a1_2 (Int32.toNatClampNeg v2_2))) a1_2)))))
theorem e_X5_passes_2 (n_a1 : Nat) (isKeeping : Int32)  (fuel : Nat) (v2_2 : Int32) (cursor_2 : Int32) (kept_2 : (Nat → Int32)) (a1_2 : (Nat → Int32)) : f_X5_passes_2 n_a1 isKeeping  (fuel + 1) v2_2 cursor_2 kept_2 a1_2 = (if (nI n_a1) ≤ v2_2 then (some (cursor_2, kept_2, a1_2)) else (if isKeeping = 0 then (gd cursor_2 132 (gd v2_2 n_a1 (f_X5_passes_42  (f_X5_passes_2 n_a1 isKeeping  fuel) v2_2 cursor_2 kept_2 (upd a1_2 (Int32.toNatClampNeg v2_2) (kept_2 (Int32.toNatClampNeg cursor_2)))))) else (gd v2_2 n_a1 (gd cursor_2 132 (f_X5_passes_42  (f_X5_passes_2 n_a1 isKeeping  fuel) v2_2 cursor_2 (upd kept_2 (Int32.toNatClampNeg cursor_2) (a1_2 (Int32.toNatClampNeg v2_2))) a1_2))))) := rfl
def f_X5_passes (n_a1 : Nat) (isKeeping : Int32) (cursor : Int32) (kept : (Nat → Int32)) (a1 : (Nat → Int32)) : Option (Int32 × (Nat → Int32) × (Nat → Int32)) := (f_X5_passes_2 n_a1 isKeeping  FU (0 : Int32) cursor kept a1)
set_option maxHeartbeats 4000000 in
set_option maxRecDepth 100000 in
theorem w_X5_passes_42 {p : Program} {l : Launch} {e : Env} {s : State} {m : MethodId} {args : Array Value} {below : List Frame} {meth : Method} {c : Code} {D : va_G} {cI : ClassId} {aS : aSt} {A : Nat → Prop} {Q : State → Prop}  (ad : Nat → Nat) (da1 : Nat → Nat) (n_a1 : Nat) (writers : Int32) (year : Int32) (taped : Int32) (at_ : Int32) (statements : Int32) (hasImage : Int32) (isKeeping : Int32) (forgottenWhen : Int32) (rowMany : Int32) {R : Int32 × (Nat → Int32) × (Nat → Int32)} (X : Bx p s m args meth c cX5_passes 3 none RX5 D cI aS A) (hret : RtV p l e 0 s m args below meth c cX5_passes D A (wd_X5_passes cI ad da1 n_a1 writers year taped at_ statements hasImage isKeeping R.1 forgottenWhen rowMany R.2.1 R.2.2) Q) (kL2 : Int32 → Int32 → (Nat → Int32) → (Nat → Int32) → Option (Int32 × (Nat → Int32) × (Nat → Int32))) (hkL2 : ∀ (v2_2 : Int32) (cursor_2 : Int32) (kept_2 : (Nat → Int32)) (a1_2 : (Nat → Int32)) (H : Heap) (locs : List Loc) (ls : Array Slot), kL2 v2_2 cursor_2 kept_2 a1_2 = some R → lv_has ls 3 [(0, .ref (ad 0)), (1, .ref (da1 0)), (2, .int v2_2)] → va_P D vwCl (wd_X5_passes cI ad da1 n_a1 writers year taped at_ statements hasImage isKeeping cursor_2 forgottenWhen rowMany kept_2 a1_2) H → va_D A (wd_X5_passes cI ad da1 n_a1 writers year taped at_ statements hasImage isKeeping cursor_2 forgottenWhen rowMany kept_2 a1_2) → va_S A s.heap H locs → Wh p l e 0 s m args below meth c H locs Q (F0 m 2 ls [])) : ∀ (v2_42 : Int32) (cursor_42 : Int32) (kept_42 : (Nat → Int32)) (a1_42 : (Nat → Int32)) (H : Heap) (locs : List Loc) (ls : Array Slot), f_X5_passes_42  kL2 v2_42 cursor_42 kept_42 a1_42 = some R → lv_has ls 3 [(0, .ref (ad 0)), (1, .ref (da1 0)), (2, .int v2_42)] → va_P D vwCl (wd_X5_passes cI ad da1 n_a1 writers year taped at_ statements hasImage isKeeping cursor_42 forgottenWhen rowMany kept_42 a1_42) H → va_D A (wd_X5_passes cI ad da1 n_a1 writers year taped at_ statements hasImage isKeeping cursor_42 forgottenWhen rowMany kept_42 a1_42) → va_S A s.heap H locs → Wh p l e 0 s m args below meth c H locs Q (F0 m 42 ls []) := by
  have hx := X.1
  have hb := X.2.1
  intro v2_42 cursor_42 kept_42 a1_42 H locs ls hf hl hP hD hS
  replace hf : (kL2 (v2_42 + (1 : Int32)) (cursor_42 + (1 : Int32)) kept_42 a1_42) = some R := hf
  refine lv_aload_n hx hb dX5_passes_42 rfl (lv_at hl 0 rfl) ?_
  refine lv_dup hx hb dX5_passes_43 rfl ?_
  refine fgX5_142 X hP (q0 := 0) rfl rfl dX5_passes_44 ?_
  refine lv_iconst (v := 1) hx hb dX5_passes_47 (by decide) ?_
  refine lv_iadd hx hb dX5_passes_48 ?_
  refine fpX5_142 X hP hD hS (q0 := 0) (ws' := (wd_X5_passes cI ad da1 n_a1 writers year taped at_ statements hasImage isKeeping (cursor_42 + (1 : Int32)) forgottenWhen rowMany kept_42 a1_42)) rfl rfl rfl (Nat.le_of_ble_eq_true rfl) rfl dX5_passes_49 (fun H locs hP hD hS => ?_)
  refine lv_iinc (v := (v2_42 + (1 : Int32))) (lv' := [(2, .int (v2_42 + (1 : Int32))), (0, .ref (ad 0)), (1, .ref (da1 0))]) hx hb dX5_passes_52 hl (k := 2) rfl rfl (by decide) rfl (fun ls hl => ?_)
  refine lv_goto (tgt := 2) hx hb dX5_passes_55 (by decide) ?_
  exact hkL2 (v2_42 + (1 : Int32)) (cursor_42 + (1 : Int32)) kept_42 a1_42 _ _ _ hf (lv_sub hl [1, 2, 0] rfl) hP hD hS
set_option maxHeartbeats 4000000 in
set_option maxRecDepth 100000 in
theorem w_X5_passes_2 {p : Program} {l : Launch} {e : Env} {s : State} {m : MethodId} {args : Array Value} {below : List Frame} {meth : Method} {c : Code} {D : va_G} {cI : ClassId} {aS : aSt} {A : Nat → Prop} {Q : State → Prop}  (ad : Nat → Nat) (da1 : Nat → Nat) (n_a1 : Nat) (writers : Int32) (year : Int32) (taped : Int32) (at_ : Int32) (statements : Int32) (hasImage : Int32) (isKeeping : Int32) (forgottenWhen : Int32) (rowMany : Int32) {R : Int32 × (Nat → Int32) × (Nat → Int32)} (X : Bx p s m args meth c cX5_passes 3 none RX5 D cI aS A) (hret : RtV p l e 0 s m args below meth c cX5_passes D A (wd_X5_passes cI ad da1 n_a1 writers year taped at_ statements hasImage isKeeping R.1 forgottenWhen rowMany R.2.1 R.2.2) Q) : ∀ (fuel : Nat) (v2_2 : Int32) (cursor_2 : Int32) (kept_2 : (Nat → Int32)) (a1_2 : (Nat → Int32)) (H : Heap) (locs : List Loc) (ls : Array Slot), f_X5_passes_2 n_a1 isKeeping  fuel v2_2 cursor_2 kept_2 a1_2 = some R → lv_has ls 3 [(0, .ref (ad 0)), (1, .ref (da1 0)), (2, .int v2_2)] → va_P D vwCl (wd_X5_passes cI ad da1 n_a1 writers year taped at_ statements hasImage isKeeping cursor_2 forgottenWhen rowMany kept_2 a1_2) H → va_D A (wd_X5_passes cI ad da1 n_a1 writers year taped at_ statements hasImage isKeeping cursor_2 forgottenWhen rowMany kept_2 a1_2) → va_S A s.heap H locs → Wh p l e 0 s m args below meth c H locs Q (F0 m 2 ls []) := by
  have hx := X.1
  have hb := X.2.1
  intro fuel
  induction fuel with
  | zero =>
    intro v2_2 cursor_2 kept_2 a1_2 H locs ls hf hl hP hD hS
    cases hf
  | succ fuel ih =>
    intro v2_2 cursor_2 kept_2 a1_2 H locs ls hf hl hP hD hS
    replace hf : (if (nI n_a1) ≤ v2_2 then (some (cursor_2, kept_2, a1_2)) else (if isKeeping = 0 then (gd cursor_2 132 (gd v2_2 n_a1 (f_X5_passes_42  (f_X5_passes_2 n_a1 isKeeping  fuel) v2_2 cursor_2 kept_2 (upd a1_2 (Int32.toNatClampNeg v2_2) (kept_2 (Int32.toNatClampNeg cursor_2)))))) else (gd v2_2 n_a1 (gd cursor_2 132 (f_X5_passes_42  (f_X5_passes_2 n_a1 isKeeping  fuel) v2_2 cursor_2 (upd kept_2 (Int32.toNatClampNeg cursor_2) (a1_2 (Int32.toNatClampNeg v2_2))) a1_2))))) = some R := hf
    refine lv_iload_n hx hb dX5_passes_2 rfl (lv_at hl 2 rfl) ?_
    refine lv_aload_n hx hb dX5_passes_3 rfl (lv_at hl 1 rfl) ?_
    refine aLen X hP (q0 := 2) rfl dX5_passes_4 ?_
    refine lv_icmp_ge (tgt := 58) hx hb dX5_passes_5 (by decide) (fun c5 => ?_) (fun c5 => ?_)
    · have hf := iT c5 hf
      have hR := Option.some.inj hf
      subst hR
      exact hret _ _ _ _ hP hD hS dX5_passes_58
    · have hf := iF c5 hf
      refine lv_aload_n hx hb dX5_passes_8 rfl (lv_at hl 0 rfl) ?_
      refine fgX5_138 X hP (q0 := 0) rfl rfl dX5_passes_9 ?_
      refine lv_if_eq (tgt := 30) hx hb dX5_passes_12 (by decide) (fun c12 => ?_) (fun c12 => ?_)
      · have hf := iT c12 hf
        refine lv_aload_n hx hb dX5_passes_30 rfl (lv_at hl 1 rfl) ?_
        refine lv_iload_n hx hb dX5_passes_31 rfl (lv_at hl 2 rfl) ?_
        refine lv_aload_n hx hb dX5_passes_32 rfl (lv_at hl 0 rfl) ?_
        refine fgX5_43 X hP (q0 := 0) rfl rfl dX5_passes_33 ?_
        refine lv_aload_n hx hb dX5_passes_36 rfl (lv_at hl 0 rfl) ?_
        refine fgX5_142 X hP (q0 := 0) rfl rfl dX5_passes_37 ?_
        refine aGet X hP (q0 := 1) rfl (gdS hf).1 dX5_passes_40 ?_
        have hf := (gdS hf).2
        refine aPut X hP hD hS (q0 := 2) (ws' := (wd_X5_passes cI ad da1 n_a1 writers year taped at_ statements hasImage isKeeping cursor_2 forgottenWhen rowMany kept_2 (upd a1_2 (Int32.toNatClampNeg v2_2) (kept_2 (Int32.toNatClampNeg cursor_2))))) rfl (gdS hf).1 rfl dX5_passes_41 (fun H locs hP hD hS => ?_)
        have hf := (gdS hf).2
        exact w_X5_passes_42 ad da1 n_a1 writers year taped at_ statements hasImage isKeeping forgottenWhen rowMany X hret _ ih v2_2 cursor_2 kept_2 (upd a1_2 (Int32.toNatClampNeg v2_2) (kept_2 (Int32.toNatClampNeg cursor_2))) _ _ _ hf (lv_sub hl [0, 1, 2] rfl) hP hD hS
      · have hf := iF c12 hf
        refine lv_aload_n hx hb dX5_passes_15 rfl (lv_at hl 0 rfl) ?_
        refine fgX5_43 X hP (q0 := 0) rfl rfl dX5_passes_16 ?_
        refine lv_aload_n hx hb dX5_passes_19 rfl (lv_at hl 0 rfl) ?_
        refine fgX5_142 X hP (q0 := 0) rfl rfl dX5_passes_20 ?_
        refine lv_aload_n hx hb dX5_passes_23 rfl (lv_at hl 1 rfl) ?_
        refine lv_iload_n hx hb dX5_passes_24 rfl (lv_at hl 2 rfl) ?_
        refine aGet X hP (q0 := 2) rfl (gdS hf).1 dX5_passes_25 ?_
        have hf := (gdS hf).2
        refine aPut X hP hD hS (q0 := 1) (ws' := (wd_X5_passes cI ad da1 n_a1 writers year taped at_ statements hasImage isKeeping cursor_2 forgottenWhen rowMany (upd kept_2 (Int32.toNatClampNeg cursor_2) (a1_2 (Int32.toNatClampNeg v2_2))) a1_2)) rfl (gdS hf).1 rfl dX5_passes_26 (fun H locs hP hD hS => ?_)
        have hf := (gdS hf).2
        refine lv_goto (tgt := 42) hx hb dX5_passes_27 (by decide) ?_
        exact w_X5_passes_42 ad da1 n_a1 writers year taped at_ statements hasImage isKeeping forgottenWhen rowMany X hret _ ih v2_2 cursor_2 (upd kept_2 (Int32.toNatClampNeg cursor_2) (a1_2 (Int32.toNatClampNeg v2_2))) a1_2 _ _ _ hf (lv_sub hl [0, 1, 2] rfl) hP hD hS
set_option maxHeartbeats 4000000 in
set_option maxRecDepth 100000 in
theorem c_X5_passes (l : Launch) (D : va_G) (cI : ClassId) (aS : aSt) (ad : Nat → Nat) (da1 : Nat → Nat) (n_a1 : Nat) (writers : Int32) (year : Int32) (taped : Int32) (at_ : Int32) (statements : Int32) (hasImage : Int32) (isKeeping : Int32) (cursor : Int32) (forgottenWhen : Int32) (rowMany : Int32) (kept : (Nat → Int32)) (a1 : (Nat → Int32)) (R : Int32 × (Nat → Int32) × (Nat → Int32)) (hf : f_X5_passes n_a1 isKeeping cursor kept a1 = some R) : CtV l yX5_passes cX5_passes 3 none 0 D cI aS [.ref (ad 0), .ref (da1 0)] (wd_X5_passes cI ad da1 n_a1 writers year taped at_ statements hasImage isKeeping cursor forgottenWhen rowMany kept a1) (wd_X5_passes cI ad da1 n_a1 writers year taped at_ statements hasImage isKeeping R.1 forgottenWhen rowMany R.2.1 R.2.2) := by
  refine ctV_of (by decide) rfl (Nat.le_of_ble_eq_true rfl) ?_
  intro p e s m below meth c A Q ls X hret hP hD hl
  have hS : va_S A s.heap s.heap [] := va_S.rf
  have hx := X.1
  have hb := X.2.1
  have hl : lv_has ls 3 [(0, .ref (ad 0)), (1, .ref (da1 0))] := hl
  replace hf : (f_X5_passes_2 n_a1 isKeeping  FU (0 : Int32) cursor kept a1) = some R := hf
  refine lv_iconst (v := 0) hx hb dX5_passes_0 (by decide) ?_
  refine lv_istore_n (lv' := [(2, .int (0 : Int32)), (0, .ref (ad 0)), (1, .ref (da1 0))]) hx hb dX5_passes_1 rfl hl (by decide) rfl (fun ls hl => ?_)
  exact w_X5_passes_2 ad da1 n_a1 writers year taped at_ statements hasImage isKeeping forgottenWhen rowMany X hret  _ (0 : Int32) cursor kept a1 _ _ _ hf (lv_sub hl [1, 2, 0] rfl) hP hD hS

abbrev wd_X5_passOne (cI : ClassId) (ad : Nat → Nat) (writers : Int32) (year : Int32) (taped : Int32) (at_ : Int32) (statements : Int32) (hasImage : Int32) (isKeeping : Int32) (cursor : Int32) (forgottenWhen : Int32) (rowMany : Int32) (kept : (Nat → Int32)) : va_W := [((ad 0), .inr (5, [.ref (ad 1), .ref (ad 2), .ref (ad 3), .ref (ad 4), .ref (ad 5), .ref (ad 6), .ref (ad 7), .int writers, .int year, .ref (ad 8), .ref (ad 9), .ref (ad 10), .ref (ad 11), .int taped, .int at_, .int statements, .ref (ad 12), .int hasImage, .int isKeeping, .int cursor, .int forgottenWhen, .ref (ad 13), .ref (ad 14), .ref (ad 15), .int rowMany])), ((ad 12), .inl (cI, 132, .inl kept))]
def f_X5_passOne_38   (v2_38 : Int32) (cursor_38 : Int32) (kept_38 : (Nat → Int32)) : Option (Int32 × Int32 × (Nat → Int32)) := (some (v2_38, (cursor_38 + (1 : Int32)), kept_38))
def f_X5_passOne_20 (isKeeping : Int32) (x1 : Int32)  (cursor_20 : Int32) (kept_20 : (Nat → Int32)) (t0_20 : Int32) : Option (Int32 × Int32 × (Nat → Int32)) := (if isKeeping = 0 then (f_X5_passOne_38   t0_20 cursor_20 kept_20) else (gd cursor_20 132 (f_X5_passOne_38   t0_20 cursor_20 (upd kept_20 (Int32.toNatClampNeg cursor_20) x1))))
def f_X5_passOne (isKeeping : Int32) (cursor : Int32) (kept : (Nat → Int32)) (x1 : Int32) : Option (Int32 × Int32 × (Nat → Int32)) := (if isKeeping = 0 then (gd cursor 132 (f_X5_passOne_20 isKeeping x1  cursor kept (kept (Int32.toNatClampNeg cursor)))) else (f_X5_passOne_20 isKeeping x1  cursor kept x1))
set_option maxHeartbeats 4000000 in
set_option maxRecDepth 100000 in
theorem w_X5_passOne_38 {p : Program} {l : Launch} {e : Env} {s : State} {m : MethodId} {args : Array Value} {below : List Frame} {meth : Method} {c : Code} {D : va_G} {cI : ClassId} {aS : aSt} {A : Nat → Prop} {Q : State → Prop}  (ad : Nat → Nat) (writers : Int32) (year : Int32) (taped : Int32) (at_ : Int32) (statements : Int32) (hasImage : Int32) (isKeeping : Int32) (forgottenWhen : Int32) (rowMany : Int32) (x1 : Int32) {R : Int32 × Int32 × (Nat → Int32)} (X : Bx p s m args meth c cX5_passOne 3 (some .int) RX5 D cI aS A) (hret : RtI p l e 0 s m args below meth c cX5_passOne (some .int) D A (wd_X5_passOne cI ad writers year taped at_ statements hasImage isKeeping R.2.1 forgottenWhen rowMany R.2.2) R.1 Q) : ∀ (v2_38 : Int32) (cursor_38 : Int32) (kept_38 : (Nat → Int32)) (H : Heap) (locs : List Loc) (ls : Array Slot), f_X5_passOne_38   v2_38 cursor_38 kept_38 = some R → lv_has ls 3 [(0, .ref (ad 0)), (2, .int v2_38)] → va_P D vwCl (wd_X5_passOne cI ad writers year taped at_ statements hasImage isKeeping cursor_38 forgottenWhen rowMany kept_38) H → va_D A (wd_X5_passOne cI ad writers year taped at_ statements hasImage isKeeping cursor_38 forgottenWhen rowMany kept_38) → va_S A s.heap H locs → Wh p l e 0 s m args below meth c H locs Q (F0 m 38 ls []) := by
  have hx := X.1
  have hb := X.2.1
  intro v2_38 cursor_38 kept_38 H locs ls hf hl hP hD hS
  replace hf : (some (v2_38, (cursor_38 + (1 : Int32)), kept_38)) = some R := hf
  refine lv_aload_n hx hb dX5_passOne_38 rfl (lv_at hl 0 rfl) ?_
  refine lv_dup hx hb dX5_passOne_39 rfl ?_
  refine fgX5_142 X hP (q0 := 0) rfl rfl dX5_passOne_40 ?_
  refine lv_iconst (v := 1) hx hb dX5_passOne_43 (by decide) ?_
  refine lv_iadd hx hb dX5_passOne_44 ?_
  refine fpX5_142 X hP hD hS (q0 := 0) (ws' := (wd_X5_passOne cI ad writers year taped at_ statements hasImage isKeeping (cursor_38 + (1 : Int32)) forgottenWhen rowMany kept_38)) rfl rfl rfl (Nat.le_of_ble_eq_true rfl) rfl dX5_passOne_45 (fun H locs hP hD hS => ?_)
  refine lv_iload_n hx hb dX5_passOne_48 rfl (lv_at hl 1 rfl) ?_
  have hR := Option.some.inj hf
  subst hR
  exact hret _ _ _ _ _ rfl (fun _ hn => by cases hn; rfl) hP hD hS dX5_passOne_49
set_option maxHeartbeats 4000000 in
set_option maxRecDepth 100000 in
theorem w_X5_passOne_20 {p : Program} {l : Launch} {e : Env} {s : State} {m : MethodId} {args : Array Value} {below : List Frame} {meth : Method} {c : Code} {D : va_G} {cI : ClassId} {aS : aSt} {A : Nat → Prop} {Q : State → Prop}  (ad : Nat → Nat) (writers : Int32) (year : Int32) (taped : Int32) (at_ : Int32) (statements : Int32) (hasImage : Int32) (isKeeping : Int32) (forgottenWhen : Int32) (rowMany : Int32) (x1 : Int32) {R : Int32 × Int32 × (Nat → Int32)} (X : Bx p s m args meth c cX5_passOne 3 (some .int) RX5 D cI aS A) (hret : RtI p l e 0 s m args below meth c cX5_passOne (some .int) D A (wd_X5_passOne cI ad writers year taped at_ statements hasImage isKeeping R.2.1 forgottenWhen rowMany R.2.2) R.1 Q) : ∀ (cursor_20 : Int32) (kept_20 : (Nat → Int32)) (t0_20 : Int32) (H : Heap) (locs : List Loc) (ls : Array Slot), f_X5_passOne_20 isKeeping x1  cursor_20 kept_20 t0_20 = some R → lv_has ls 3 [(0, .ref (ad 0)), (1, .int x1)] → va_P D vwCl (wd_X5_passOne cI ad writers year taped at_ statements hasImage isKeeping cursor_20 forgottenWhen rowMany kept_20) H → va_D A (wd_X5_passOne cI ad writers year taped at_ statements hasImage isKeeping cursor_20 forgottenWhen rowMany kept_20) → va_S A s.heap H locs → Wh p l e 0 s m args below meth c H locs Q (F0 m 20 ls [.int t0_20]) := by
  have hx := X.1
  have hb := X.2.1
  intro cursor_20 kept_20 t0_20 H locs ls hf hl hP hD hS
  replace hf : (if isKeeping = 0 then (f_X5_passOne_38   t0_20 cursor_20 kept_20) else (gd cursor_20 132 (f_X5_passOne_38   t0_20 cursor_20 (upd kept_20 (Int32.toNatClampNeg cursor_20) x1)))) = some R := hf
  refine lv_istore_n (lv' := [(2, .int t0_20), (0, .ref (ad 0)), (1, .int x1)]) hx hb dX5_passOne_20 rfl hl (by decide) rfl (fun ls hl => ?_)
  refine lv_aload_n hx hb dX5_passOne_21 rfl (lv_at hl 1 rfl) ?_
  refine fgX5_138 X hP (q0 := 0) rfl rfl dX5_passOne_22 ?_
  refine lv_if_eq (tgt := 38) hx hb dX5_passOne_25 (by decide) (fun c25 => ?_) (fun c25 => ?_)
  · have hf := iT c25 hf
    exact w_X5_passOne_38 ad writers year taped at_ statements hasImage isKeeping forgottenWhen rowMany x1 X hret  t0_20 cursor_20 kept_20 _ _ _ hf (lv_sub hl [1, 0] rfl) hP hD hS
  · have hf := iF c25 hf
    refine lv_aload_n hx hb dX5_passOne_28 rfl (lv_at hl 1 rfl) ?_
    refine fgX5_43 X hP (q0 := 0) rfl rfl dX5_passOne_29 ?_
    refine lv_aload_n hx hb dX5_passOne_32 rfl (lv_at hl 1 rfl) ?_
    refine fgX5_142 X hP (q0 := 0) rfl rfl dX5_passOne_33 ?_
    refine lv_iload_n hx hb dX5_passOne_36 rfl (lv_at hl 2 rfl) ?_
    refine aPut X hP hD hS (q0 := 1) (ws' := (wd_X5_passOne cI ad writers year taped at_ statements hasImage isKeeping cursor_20 forgottenWhen rowMany (upd kept_20 (Int32.toNatClampNeg cursor_20) x1))) rfl (gdS hf).1 rfl dX5_passOne_37 (fun H locs hP hD hS => ?_)
    have hf := (gdS hf).2
    exact w_X5_passOne_38 ad writers year taped at_ statements hasImage isKeeping forgottenWhen rowMany x1 X hret  t0_20 cursor_20 (upd kept_20 (Int32.toNatClampNeg cursor_20) x1) _ _ _ hf (lv_sub hl [1, 0] rfl) hP hD hS
set_option maxHeartbeats 4000000 in
set_option maxRecDepth 100000 in
theorem c_X5_passOne (l : Launch) (D : va_G) (cI : ClassId) (aS : aSt) (ad : Nat → Nat) (writers : Int32) (year : Int32) (taped : Int32) (at_ : Int32) (statements : Int32) (hasImage : Int32) (isKeeping : Int32) (cursor : Int32) (forgottenWhen : Int32) (rowMany : Int32) (kept : (Nat → Int32)) (x1 : Int32) (R : Int32 × Int32 × (Nat → Int32)) (hf : f_X5_passOne isKeeping cursor kept x1 = some R) : CtI l yX5_passOne cX5_passOne 3 (some .int) 0 D cI aS [.ref (ad 0), .int x1] (wd_X5_passOne cI ad writers year taped at_ statements hasImage isKeeping cursor forgottenWhen rowMany kept) (wd_X5_passOne cI ad writers year taped at_ statements hasImage isKeeping R.2.1 forgottenWhen rowMany R.2.2) R.1 := by
  refine ctI_of (by decide) ⟨_, rfl⟩ (Nat.le_of_ble_eq_true rfl) ?_
  intro p e s m below meth c A Q ls X hret hP hD hl
  have hS : va_S A s.heap s.heap [] := va_S.rf
  have hx := X.1
  have hb := X.2.1
  have hl : lv_has ls 3 [(0, .ref (ad 0)), (1, .int x1)] := hl
  replace hf : (if isKeeping = 0 then (gd cursor 132 (f_X5_passOne_20 isKeeping x1  cursor kept (kept (Int32.toNatClampNeg cursor)))) else (f_X5_passOne_20 isKeeping x1  cursor kept x1)) = some R := hf
  refine lv_aload_n hx hb dX5_passOne_0 rfl (lv_at hl 0 rfl) ?_
  refine fgX5_138 X hP (q0 := 0) rfl rfl dX5_passOne_1 ?_
  refine lv_if_eq (tgt := 11) hx hb dX5_passOne_4 (by decide) (fun c4 => ?_) (fun c4 => ?_)
  · have hf := iT c4 hf
    refine lv_aload_n hx hb dX5_passOne_11 rfl (lv_at hl 0 rfl) ?_
    refine fgX5_43 X hP (q0 := 0) rfl rfl dX5_passOne_12 ?_
    refine lv_aload_n hx hb dX5_passOne_15 rfl (lv_at hl 0 rfl) ?_
    refine fgX5_142 X hP (q0 := 0) rfl rfl dX5_passOne_16 ?_
    refine aGet X hP (q0 := 1) rfl (gdS hf).1 dX5_passOne_19 ?_
    have hf := (gdS hf).2
    exact w_X5_passOne_20 ad writers year taped at_ statements hasImage isKeeping forgottenWhen rowMany x1 X hret  cursor kept (kept (Int32.toNatClampNeg cursor)) _ _ _ hf (lv_sub hl [0, 1] rfl) hP hD hS
  · have hf := iF c4 hf
    refine lv_iload_n hx hb dX5_passOne_7 rfl (lv_at hl 1 rfl) ?_
    refine lv_goto (tgt := 20) hx hb dX5_passOne_8 (by decide) ?_
    exact w_X5_passOne_20 ad writers year taped at_ statements hasImage isKeeping forgottenWhen rowMany x1 X hret  cursor kept x1 _ _ _ hf (lv_sub hl [0, 1] rfl) hP hD hS

abbrev wd_X5_passesAll (cI : ClassId) (ad : Nat → Nat) (writers : Int32) (year : Int32) (taped : Int32) (at_ : Int32) (statements : Int32) (hasImage : Int32) (isKeeping : Int32) (cursor : Int32) (forgottenWhen : Int32) (rowMany : Int32) (kind : (Nat → Int32)) (figure : (Nat → Int32)) (style : (Nat → Int32)) (fame : (Nat → Int32)) (silent : (Nat → Int32)) (ring : (Nat → Int32)) (kept : (Nat → Int32)) : va_W := [((ad 0), .inr (5, [.ref (ad 1), .ref (ad 2), .ref (ad 3), .ref (ad 4), .ref (ad 5), .ref (ad 6), .ref (ad 7), .int writers, .int year, .ref (ad 8), .ref (ad 9), .ref (ad 10), .ref (ad 11), .int taped, .int at_, .int statements, .ref (ad 12), .int hasImage, .int isKeeping, .int cursor, .int forgottenWhen, .ref (ad 13), .ref (ad 14), .ref (ad 15), .int rowMany])), ((ad 2), .inl (cI, 7, .inl kind)), ((ad 3), .inl (cI, 7, .inl figure)), ((ad 4), .inl (cI, 7, .inl style)), ((ad 5), .inl (cI, 7, .inl fame)), ((ad 6), .inl (cI, 7, .inl silent)), ((ad 7), .inl (cI, 7, .inl ring)), ((ad 12), .inl (cI, 132, .inl kept))]
def f_X5_passesAll (writers : Int32) (year : Int32) (isKeeping : Int32) (cursor : Int32) (kind : (Nat → Int32)) (figure : (Nat → Int32)) (style : (Nat → Int32)) (fame : (Nat → Int32)) (silent : (Nat → Int32)) (ring : (Nat → Int32)) (kept : (Nat → Int32)) (x1 : Int32) (x2 : Int32) : Option (Int32 × Int32 × Int32 × Int32 × (Nat → Int32) × (Nat → Int32) × (Nat → Int32) × (Nat → Int32) × (Nat → Int32) × (Nat → Int32) × (Nat → Int32)) := (gb x2 ((f_X5_passes 7 x2 ((44 : Int32) * x1) kept kind).bind fun (r18 : Int32 × (Nat → Int32) × (Nat → Int32)) => ((f_X5_passes 7 x2 r18.1 r18.2.1 figure).bind fun (r26 : Int32 × (Nat → Int32) × (Nat → Int32)) => ((f_X5_passes 7 x2 r26.1 r26.2.1 style).bind fun (r34 : Int32 × (Nat → Int32) × (Nat → Int32)) => ((f_X5_passes 7 x2 r34.1 r34.2.1 fame).bind fun (r42 : Int32 × (Nat → Int32) × (Nat → Int32)) => ((f_X5_passes 7 x2 r42.1 r42.2.1 silent).bind fun (r50 : Int32 × (Nat → Int32) × (Nat → Int32)) => ((f_X5_passes 7 x2 r50.1 r50.2.1 ring).bind fun (r58 : Int32 × (Nat → Int32) × (Nat → Int32)) => ((f_X5_passOne x2 r58.1 r58.2.1 writers).bind fun (r67 : Int32 × Int32 × (Nat → Int32)) => ((f_X5_passOne x2 r67.2.1 r67.2.2 year).bind fun (r79 : Int32 × Int32 × (Nat → Int32)) => (some (r67.1, r79.1, x2, r79.2.1, r18.2.2, r26.2.2, r34.2.2, r42.2.2, r50.2.2, r58.2.2, r79.2.2)))))))))))
set_option maxHeartbeats 4000000 in
set_option maxRecDepth 100000 in
theorem c_X5_passesAll (l : Launch) (D : va_G) (cI : ClassId) (aS : aSt) (ad : Nat → Nat) (writers : Int32) (year : Int32) (taped : Int32) (at_ : Int32) (statements : Int32) (hasImage : Int32) (isKeeping : Int32) (cursor : Int32) (forgottenWhen : Int32) (rowMany : Int32) (kind : (Nat → Int32)) (figure : (Nat → Int32)) (style : (Nat → Int32)) (fame : (Nat → Int32)) (silent : (Nat → Int32)) (ring : (Nat → Int32)) (kept : (Nat → Int32)) (x1 : Int32) (x2 : Int32) (R : Int32 × Int32 × Int32 × Int32 × (Nat → Int32) × (Nat → Int32) × (Nat → Int32) × (Nat → Int32) × (Nat → Int32) × (Nat → Int32) × (Nat → Int32)) (hf : f_X5_passesAll writers year isKeeping cursor kind figure style fame silent ring kept x1 x2 = some R) : CtV l yX5_passesAll cX5_passesAll 3 none 1 D cI aS [.ref (ad 0), .int x1, .int x2] (wd_X5_passesAll cI ad writers year taped at_ statements hasImage isKeeping cursor forgottenWhen rowMany kind figure style fame silent ring kept) (wd_X5_passesAll cI ad R.1 R.2.1 taped at_ statements hasImage R.2.2.1 R.2.2.2.1 forgottenWhen rowMany R.2.2.2.2.1 R.2.2.2.2.2.1 R.2.2.2.2.2.2.1 R.2.2.2.2.2.2.2.1 R.2.2.2.2.2.2.2.2.1 R.2.2.2.2.2.2.2.2.2.1 R.2.2.2.2.2.2.2.2.2.2) := by
  refine ctV_of (by decide) rfl (Nat.le_of_ble_eq_true rfl) ?_
  intro p e s m below meth c A Q ls X hret hP hD hl
  have hS : va_S A s.heap s.heap [] := va_S.rf
  have hx := X.1
  have hb := X.2.1
  have hl : lv_has ls 3 [(0, .ref (ad 0)), (1, .int x1), (2, .int x2)] := hl
  replace hf : (gb x2 ((f_X5_passes 7 x2 ((44 : Int32) * x1) kept kind).bind fun (r18 : Int32 × (Nat → Int32) × (Nat → Int32)) => ((f_X5_passes 7 x2 r18.1 r18.2.1 figure).bind fun (r26 : Int32 × (Nat → Int32) × (Nat → Int32)) => ((f_X5_passes 7 x2 r26.1 r26.2.1 style).bind fun (r34 : Int32 × (Nat → Int32) × (Nat → Int32)) => ((f_X5_passes 7 x2 r34.1 r34.2.1 fame).bind fun (r42 : Int32 × (Nat → Int32) × (Nat → Int32)) => ((f_X5_passes 7 x2 r42.1 r42.2.1 silent).bind fun (r50 : Int32 × (Nat → Int32) × (Nat → Int32)) => ((f_X5_passes 7 x2 r50.1 r50.2.1 ring).bind fun (r58 : Int32 × (Nat → Int32) × (Nat → Int32)) => ((f_X5_passOne x2 r58.1 r58.2.1 writers).bind fun (r67 : Int32 × Int32 × (Nat → Int32)) => ((f_X5_passOne x2 r67.2.1 r67.2.2 year).bind fun (r79 : Int32 × Int32 × (Nat → Int32)) => (some (r67.1, r79.1, x2, r79.2.1, r18.2.2, r26.2.2, r34.2.2, r42.2.2, r50.2.2, r58.2.2, r79.2.2))))))))))) = some R := hf
  refine lv_aload_n hx hb dX5_passesAll_0 rfl (lv_at hl 0 rfl) ?_
  refine lv_bipush (v := 44) hx hb dX5_passesAll_1 (by decide) ?_
  refine lv_iload_n hx hb dX5_passesAll_3 rfl (lv_at hl 1 rfl) ?_
  refine lv_imul hx hb dX5_passesAll_4 ?_
  refine fpX5_142 X hP hD hS (q0 := 0) (ws' := (wd_X5_passesAll cI ad writers year taped at_ statements hasImage isKeeping ((44 : Int32) * x1) forgottenWhen rowMany kind figure style fame silent ring kept)) rfl rfl rfl (Nat.le_of_ble_eq_true rfl) rfl dX5_passesAll_5 (fun H locs hP hD hS => ?_)
  refine lv_aload_n hx hb dX5_passesAll_8 rfl (lv_at hl 0 rfl) ?_
  refine lv_iload_n hx hb dX5_passesAll_9 rfl (lv_at hl 2 rfl) ?_
  refine fpX5_138 X hP hD hS (q0 := 0) (ws' := (wd_X5_passesAll cI ad writers year taped at_ statements hasImage x2 ((44 : Int32) * x1) forgottenWhen rowMany kind figure style fame silent ring kept)) rfl (gbS hf).1 (gbF hf) (Nat.le_of_ble_eq_true rfl) rfl dX5_passesAll_10 (fun H locs hP hD hS => ?_)
  have hf := (gbS hf).2
  refine lv_aload_n hx hb dX5_passesAll_13 rfl (lv_at hl 0 rfl) ?_
  refine lv_aload_n hx hb dX5_passesAll_14 rfl (lv_at hl 0 rfl) ?_
  refine fgX5_13 X hP (q0 := 0) rfl rfl dX5_passesAll_15 ?_
  obtain ⟨r18, hq18, hf⟩ := bS hf
  refine wr_v X hP hD hS [0, 7, 1] rfl (ws' := (wd_X5_passesAll cI ad writers year taped at_ statements hasImage x2 r18.1 forgottenWhen rowMany r18.2.2 figure style fame silent ring r18.2.1)) (Nat.le_of_ble_eq_true rfl) rfl rfl (run_V X hP hD hS [0, 7, 1] rfl rfl (c_X5_passes l D cI aS ad (fun k => ad (2 + k)) 7 writers year taped at_ statements hasImage x2 ((44 : Int32) * x1) forgottenWhen rowMany kept kind _ hq18 _) lkX5_145 (by decide) (q0 := 0) rfl rfl rfl rfl (Nat.le_of_ble_eq_true rfl) hl.1 dX5_passesAll_18) (fun H locs hP hD hS => ?_)
  refine lv_aload_n hx hb dX5_passesAll_21 rfl (lv_at hl 0 rfl) ?_
  refine lv_aload_n hx hb dX5_passesAll_22 rfl (lv_at hl 0 rfl) ?_
  refine fgX5_16 X hP (q0 := 0) rfl rfl dX5_passesAll_23 ?_
  obtain ⟨r26, hq26, hf⟩ := bS hf
  refine wr_v X hP hD hS [0, 7, 2] rfl (ws' := (wd_X5_passesAll cI ad writers year taped at_ statements hasImage x2 r26.1 forgottenWhen rowMany r18.2.2 r26.2.2 style fame silent ring r26.2.1)) (Nat.le_of_ble_eq_true rfl) rfl rfl (run_V X hP hD hS [0, 7, 2] rfl rfl (c_X5_passes l D cI aS ad (fun k => ad (3 + k)) 7 writers year taped at_ statements hasImage x2 r18.1 forgottenWhen rowMany r18.2.1 figure _ hq26 _) lkX5_145 (by decide) (q0 := 0) rfl rfl rfl rfl (Nat.le_of_ble_eq_true rfl) hl.1 dX5_passesAll_26) (fun H locs hP hD hS => ?_)
  refine lv_aload_n hx hb dX5_passesAll_29 rfl (lv_at hl 0 rfl) ?_
  refine lv_aload_n hx hb dX5_passesAll_30 rfl (lv_at hl 0 rfl) ?_
  refine fgX5_19 X hP (q0 := 0) rfl rfl dX5_passesAll_31 ?_
  obtain ⟨r34, hq34, hf⟩ := bS hf
  refine wr_v X hP hD hS [0, 7, 3] rfl (ws' := (wd_X5_passesAll cI ad writers year taped at_ statements hasImage x2 r34.1 forgottenWhen rowMany r18.2.2 r26.2.2 r34.2.2 fame silent ring r34.2.1)) (Nat.le_of_ble_eq_true rfl) rfl rfl (run_V X hP hD hS [0, 7, 3] rfl rfl (c_X5_passes l D cI aS ad (fun k => ad (4 + k)) 7 writers year taped at_ statements hasImage x2 r26.1 forgottenWhen rowMany r26.2.1 style _ hq34 _) lkX5_145 (by decide) (q0 := 0) rfl rfl rfl rfl (Nat.le_of_ble_eq_true rfl) hl.1 dX5_passesAll_34) (fun H locs hP hD hS => ?_)
  refine lv_aload_n hx hb dX5_passesAll_37 rfl (lv_at hl 0 rfl) ?_
  refine lv_aload_n hx hb dX5_passesAll_38 rfl (lv_at hl 0 rfl) ?_
  refine fgX5_22 X hP (q0 := 0) rfl rfl dX5_passesAll_39 ?_
  obtain ⟨r42, hq42, hf⟩ := bS hf
  refine wr_v X hP hD hS [0, 7, 4] rfl (ws' := (wd_X5_passesAll cI ad writers year taped at_ statements hasImage x2 r42.1 forgottenWhen rowMany r18.2.2 r26.2.2 r34.2.2 r42.2.2 silent ring r42.2.1)) (Nat.le_of_ble_eq_true rfl) rfl rfl (run_V X hP hD hS [0, 7, 4] rfl rfl (c_X5_passes l D cI aS ad (fun k => ad (5 + k)) 7 writers year taped at_ statements hasImage x2 r34.1 forgottenWhen rowMany r34.2.1 fame _ hq42 _) lkX5_145 (by decide) (q0 := 0) rfl rfl rfl rfl (Nat.le_of_ble_eq_true rfl) hl.1 dX5_passesAll_42) (fun H locs hP hD hS => ?_)
  refine lv_aload_n hx hb dX5_passesAll_45 rfl (lv_at hl 0 rfl) ?_
  refine lv_aload_n hx hb dX5_passesAll_46 rfl (lv_at hl 0 rfl) ?_
  refine fgX5_25 X hP (q0 := 0) rfl rfl dX5_passesAll_47 ?_
  obtain ⟨r50, hq50, hf⟩ := bS hf
  refine wr_v X hP hD hS [0, 7, 5] rfl (ws' := (wd_X5_passesAll cI ad writers year taped at_ statements hasImage x2 r50.1 forgottenWhen rowMany r18.2.2 r26.2.2 r34.2.2 r42.2.2 r50.2.2 ring r50.2.1)) (Nat.le_of_ble_eq_true rfl) rfl rfl (run_V X hP hD hS [0, 7, 5] rfl rfl (c_X5_passes l D cI aS ad (fun k => ad (6 + k)) 7 writers year taped at_ statements hasImage x2 r42.1 forgottenWhen rowMany r42.2.1 silent _ hq50 _) lkX5_145 (by decide) (q0 := 0) rfl rfl rfl rfl (Nat.le_of_ble_eq_true rfl) hl.1 dX5_passesAll_50) (fun H locs hP hD hS => ?_)
  refine lv_aload_n hx hb dX5_passesAll_53 rfl (lv_at hl 0 rfl) ?_
  refine lv_aload_n hx hb dX5_passesAll_54 rfl (lv_at hl 0 rfl) ?_
  refine fgX5_28 X hP (q0 := 0) rfl rfl dX5_passesAll_55 ?_
  obtain ⟨r58, hq58, hf⟩ := bS hf
  refine wr_v X hP hD hS [0, 7, 6] rfl (ws' := (wd_X5_passesAll cI ad writers year taped at_ statements hasImage x2 r58.1 forgottenWhen rowMany r18.2.2 r26.2.2 r34.2.2 r42.2.2 r50.2.2 r58.2.2 r58.2.1)) (Nat.le_of_ble_eq_true rfl) rfl rfl (run_V X hP hD hS [0, 7, 6] rfl rfl (c_X5_passes l D cI aS ad (fun k => ad (7 + k)) 7 writers year taped at_ statements hasImage x2 r50.1 forgottenWhen rowMany r50.2.1 ring _ hq58 _) lkX5_145 (by decide) (q0 := 0) rfl rfl rfl rfl (Nat.le_of_ble_eq_true rfl) hl.1 dX5_passesAll_58) (fun H locs hP hD hS => ?_)
  refine lv_aload_n hx hb dX5_passesAll_61 rfl (lv_at hl 0 rfl) ?_
  refine lv_aload_n hx hb dX5_passesAll_62 rfl (lv_at hl 0 rfl) ?_
  refine lv_aload_n hx hb dX5_passesAll_63 rfl (lv_at hl 0 rfl) ?_
  refine fgX5_55 X hP (q0 := 0) rfl rfl dX5_passesAll_64 ?_
  obtain ⟨r67, hq67, hf⟩ := bS hf
  refine wr_i X hP hD hS [0, 7] rfl (ws' := (wd_X5_passesAll cI ad writers year taped at_ statements hasImage x2 r67.2.1 forgottenWhen rowMany r18.2.2 r26.2.2 r34.2.2 r42.2.2 r50.2.2 r58.2.2 r67.2.2)) (Nat.le_of_ble_eq_true rfl) rfl rfl (run_V X hP hD hS [0, 7] rfl rfl (c_X5_passOne l D cI aS ad writers year taped at_ statements hasImage x2 r58.1 forgottenWhen rowMany r58.2.1 writers _ hq67 _) lkX5_149 (by decide) (q0 := 0) rfl rfl rfl rfl (Nat.le_of_ble_eq_true rfl) hl.1 dX5_passesAll_67) (fun H locs hP hD hS => ?_)
  refine fpX5_55 X hP hD hS (q0 := 0) (ws' := (wd_X5_passesAll cI ad r67.1 year taped at_ statements hasImage x2 r67.2.1 forgottenWhen rowMany r18.2.2 r26.2.2 r34.2.2 r42.2.2 r50.2.2 r58.2.2 r67.2.2)) rfl rfl rfl (Nat.le_of_ble_eq_true rfl) rfl dX5_passesAll_70 (fun H locs hP hD hS => ?_)
  refine lv_aload_n hx hb dX5_passesAll_73 rfl (lv_at hl 0 rfl) ?_
  refine lv_aload_n hx hb dX5_passesAll_74 rfl (lv_at hl 0 rfl) ?_
  refine lv_aload_n hx hb dX5_passesAll_75 rfl (lv_at hl 0 rfl) ?_
  refine fgX5_101 X hP (q0 := 0) rfl rfl dX5_passesAll_76 ?_
  obtain ⟨r79, hq79, hf⟩ := bS hf
  refine wr_i X hP hD hS [0, 7] rfl (ws' := (wd_X5_passesAll cI ad r67.1 year taped at_ statements hasImage x2 r79.2.1 forgottenWhen rowMany r18.2.2 r26.2.2 r34.2.2 r42.2.2 r50.2.2 r58.2.2 r79.2.2)) (Nat.le_of_ble_eq_true rfl) rfl rfl (run_V X hP hD hS [0, 7] rfl rfl (c_X5_passOne l D cI aS ad r67.1 year taped at_ statements hasImage x2 r67.2.1 forgottenWhen rowMany r67.2.2 year _ hq79 _) lkX5_149 (by decide) (q0 := 0) rfl rfl rfl rfl (Nat.le_of_ble_eq_true rfl) hl.1 dX5_passesAll_79) (fun H locs hP hD hS => ?_)
  refine fpX5_101 X hP hD hS (q0 := 0) (ws' := (wd_X5_passesAll cI ad r67.1 r79.1 taped at_ statements hasImage x2 r79.2.1 forgottenWhen rowMany r18.2.2 r26.2.2 r34.2.2 r42.2.2 r50.2.2 r58.2.2 r79.2.2)) rfl rfl rfl (Nat.le_of_ble_eq_true rfl) rfl dX5_passesAll_82 (fun H locs hP hD hS => ?_)
  have hR := Option.some.inj hf
  subst hR
  exact hret _ _ _ _ hP hD hS dX5_passesAll_85

abbrev wd_X5_thinks (cI : ClassId) (ad : Nat → Nat) (writers : Int32) (year : Int32) (taped : Int32) (at_ : Int32) (statements : Int32) (hasImage : Int32) (isKeeping : Int32) (cursor : Int32) (forgottenWhen : Int32) (rowMany : Int32) (kind : (Nat → Int32)) (figure : (Nat → Int32)) (style : (Nat → Int32)) (fame : (Nat → Int32)) (silent : (Nat → Int32)) (ring : (Nat → Int32)) (kept : (Nat → Int32)) : va_W := [((ad 0), .inr (5, [.ref (ad 1), .ref (ad 2), .ref (ad 3), .ref (ad 4), .ref (ad 5), .ref (ad 6), .ref (ad 7), .int writers, .int year, .ref (ad 8), .ref (ad 9), .ref (ad 10), .ref (ad 11), .int taped, .int at_, .int statements, .ref (ad 12), .int hasImage, .int isKeeping, .int cursor, .int forgottenWhen, .ref (ad 13), .ref (ad 14), .ref (ad 15), .int rowMany])), ((ad 2), .inl (cI, 7, .inl kind)), ((ad 3), .inl (cI, 7, .inl figure)), ((ad 4), .inl (cI, 7, .inl style)), ((ad 5), .inl (cI, 7, .inl fame)), ((ad 6), .inl (cI, 7, .inl silent)), ((ad 7), .inl (cI, 7, .inl ring)), ((ad 12), .inl (cI, 132, .inl kept))]
def f_X5_thinks (writers : Int32) (year : Int32) (isKeeping : Int32) (cursor : Int32) (kind : (Nat → Int32)) (figure : (Nat → Int32)) (style : (Nat → Int32)) (fame : (Nat → Int32)) (silent : (Nat → Int32)) (ring : (Nat → Int32)) (kept : (Nat → Int32)) : Option (Int32 × Int32 × Int32 × Int32 × (Nat → Int32) × (Nat → Int32) × (Nat → Int32) × (Nat → Int32) × (Nat → Int32) × (Nat → Int32) × (Nat → Int32)) := ((f_X5_passesAll writers year isKeeping cursor kind figure style fame silent ring kept (2 : Int32) (1 : Int32)).bind fun (r3 : Int32 × Int32 × Int32 × Int32 × (Nat → Int32) × (Nat → Int32) × (Nat → Int32) × (Nat → Int32) × (Nat → Int32) × (Nat → Int32) × (Nat → Int32)) => (some (r3.1, r3.2.1, r3.2.2.1, r3.2.2.2.1, r3.2.2.2.2.1, r3.2.2.2.2.2.1, r3.2.2.2.2.2.2.1, r3.2.2.2.2.2.2.2.1, r3.2.2.2.2.2.2.2.2.1, r3.2.2.2.2.2.2.2.2.2.1, r3.2.2.2.2.2.2.2.2.2.2)))
set_option maxHeartbeats 4000000 in
set_option maxRecDepth 100000 in
theorem c_X5_thinks (l : Launch) (D : va_G) (cI : ClassId) (aS : aSt) (ad : Nat → Nat) (writers : Int32) (year : Int32) (taped : Int32) (at_ : Int32) (statements : Int32) (hasImage : Int32) (isKeeping : Int32) (cursor : Int32) (forgottenWhen : Int32) (rowMany : Int32) (kind : (Nat → Int32)) (figure : (Nat → Int32)) (style : (Nat → Int32)) (fame : (Nat → Int32)) (silent : (Nat → Int32)) (ring : (Nat → Int32)) (kept : (Nat → Int32)) (R : Int32 × Int32 × Int32 × Int32 × (Nat → Int32) × (Nat → Int32) × (Nat → Int32) × (Nat → Int32) × (Nat → Int32) × (Nat → Int32) × (Nat → Int32)) (hf : f_X5_thinks writers year isKeeping cursor kind figure style fame silent ring kept = some R) : CtV l yX5_thinks cX5_thinks 1 none 2 D cI aS [.ref (ad 0)] (wd_X5_thinks cI ad writers year taped at_ statements hasImage isKeeping cursor forgottenWhen rowMany kind figure style fame silent ring kept) (wd_X5_thinks cI ad R.1 R.2.1 taped at_ statements hasImage R.2.2.1 R.2.2.2.1 forgottenWhen rowMany R.2.2.2.2.1 R.2.2.2.2.2.1 R.2.2.2.2.2.2.1 R.2.2.2.2.2.2.2.1 R.2.2.2.2.2.2.2.2.1 R.2.2.2.2.2.2.2.2.2.1 R.2.2.2.2.2.2.2.2.2.2) := by
  refine ctV_of (by decide) rfl (Nat.le_of_ble_eq_true rfl) ?_
  intro p e s m below meth c A Q ls X hret hP hD hl
  have hS : va_S A s.heap s.heap [] := va_S.rf
  have hx := X.1
  have hb := X.2.1
  have hl : lv_has ls 1 [(0, .ref (ad 0))] := hl
  replace hf : ((f_X5_passesAll writers year isKeeping cursor kind figure style fame silent ring kept (2 : Int32) (1 : Int32)).bind fun (r3 : Int32 × Int32 × Int32 × Int32 × (Nat → Int32) × (Nat → Int32) × (Nat → Int32) × (Nat → Int32) × (Nat → Int32) × (Nat → Int32) × (Nat → Int32)) => (some (r3.1, r3.2.1, r3.2.2.1, r3.2.2.2.1, r3.2.2.2.2.1, r3.2.2.2.2.2.1, r3.2.2.2.2.2.2.1, r3.2.2.2.2.2.2.2.1, r3.2.2.2.2.2.2.2.2.1, r3.2.2.2.2.2.2.2.2.2.1, r3.2.2.2.2.2.2.2.2.2.2))) = some R := hf
  refine lv_aload_n hx hb dX5_thinks_0 rfl (lv_at hl 0 rfl) ?_
  refine lv_iconst (v := 2) hx hb dX5_thinks_1 (by decide) ?_
  refine lv_iconst (v := 1) hx hb dX5_thinks_2 (by decide) ?_
  obtain ⟨r3, hq3, hf⟩ := bS hf
  refine wr_v X hP hD hS [0, 1, 2, 3, 4, 5, 6, 7] rfl (ws' := (wd_X5_thinks cI ad r3.1 r3.2.1 taped at_ statements hasImage r3.2.2.1 r3.2.2.2.1 forgottenWhen rowMany r3.2.2.2.2.1 r3.2.2.2.2.2.1 r3.2.2.2.2.2.2.1 r3.2.2.2.2.2.2.2.1 r3.2.2.2.2.2.2.2.2.1 r3.2.2.2.2.2.2.2.2.2.1 r3.2.2.2.2.2.2.2.2.2.2)) (Nat.le_of_ble_eq_true rfl) rfl rfl (run_V X hP hD hS [0, 1, 2, 3, 4, 5, 6, 7] rfl rfl (c_X5_passesAll l D cI aS ad writers year taped at_ statements hasImage isKeeping cursor forgottenWhen rowMany kind figure style fame silent ring kept (2 : Int32) (1 : Int32) _ hq3 _) lkX5_131 (by decide) (q0 := 0) rfl rfl rfl rfl (Nat.le_of_ble_eq_true rfl) hl.1 dX5_thinks_3) (fun H locs hP hD hS => ?_)
  have hR := Option.some.inj hf
  subst hR
  exact hret _ _ _ _ hP hD hS dX5_thinks_6

abbrev wd_X5_held (cI : ClassId)  : va_W := []
def f_X5_held (x0 : Int32) (x1 : Int32) (x2 : Int32) : Option (Int32) := (if x1 ≤ x0 then (if x0 ≤ x2 then (some x0) else (some x2)) else (some x1))
set_option maxHeartbeats 4000000 in
set_option maxRecDepth 100000 in
theorem c_X5_held (l : Launch) (D : va_G) (cI : ClassId) (aS : aSt) (x0 : Int32) (x1 : Int32) (x2 : Int32) (R : Int32) (hf : f_X5_held x0 x1 x2 = some R) : CtI l yX5_held cX5_held 3 (some .int) 0 D cI aS [.int x0, .int x1, .int x2] (wd_X5_held cI ) (wd_X5_held cI ) R := by
  refine ctI_of (by decide) ⟨_, rfl⟩ (Nat.le_of_ble_eq_true rfl) ?_
  intro p e s m below meth c A Q ls X hret hP hD hl
  have hS : va_S A s.heap s.heap [] := va_S.rf
  have hx := X.1
  have hb := X.2.1
  have hl : lv_has ls 3 [(0, .int x0), (1, .int x1), (2, .int x2)] := hl
  replace hf : (if x1 ≤ x0 then (if x0 ≤ x2 then (some x0) else (some x2)) else (some x1)) = some R := hf
  refine lv_iload_n hx hb dX5_held_0 rfl (lv_at hl 0 rfl) ?_
  refine lv_iload_n hx hb dX5_held_1 rfl (lv_at hl 1 rfl) ?_
  refine lv_icmp_ge (tgt := 9) hx hb dX5_held_2 (by decide) (fun c2 => ?_) (fun c2 => ?_)
  · have hf := iT c2 hf
    refine lv_iload_n hx hb dX5_held_9 rfl (lv_at hl 0 rfl) ?_
    refine lv_iload_n hx hb dX5_held_10 rfl (lv_at hl 2 rfl) ?_
    refine lv_icmp_le (tgt := 18) hx hb dX5_held_11 (by decide) (fun c11 => ?_) (fun c11 => ?_)
    · have hf := iT c11 hf
      refine lv_iload_n hx hb dX5_held_18 rfl (lv_at hl 0 rfl) ?_
      have hR := Option.some.inj hf
      subst hR
      exact hret _ _ _ _ _ rfl (fun _ hn => by cases hn; rfl) hP hD hS dX5_held_19
    · have hf := iF c11 hf
      refine lv_iload_n hx hb dX5_held_14 rfl (lv_at hl 2 rfl) ?_
      refine lv_goto (tgt := 19) hx hb dX5_held_15 (by decide) ?_
      have hR := Option.some.inj hf
      subst hR
      exact hret _ _ _ _ _ rfl (fun _ hn => by cases hn; rfl) hP hD hS dX5_held_19
  · have hf := iF c2 hf
    refine lv_iload_n hx hb dX5_held_5 rfl (lv_at hl 1 rfl) ?_
    refine lv_goto (tgt := 19) hx hb dX5_held_6 (by decide) ?_
    have hR := Option.some.inj hf
    subst hR
    exact hret _ _ _ _ _ rfl (fun _ hn => by cases hn; rfl) hP hD hS dX5_held_19

abbrev wd_X5_gains (cI : ClassId) (ad : Nat → Nat) (writers : Int32) (year : Int32) (taped : Int32) (at_ : Int32) (statements : Int32) (hasImage : Int32) (isKeeping : Int32) (cursor : Int32) (forgottenWhen : Int32) (rowMany : Int32) (kind : (Nat → Int32)) : va_W := [((ad 0), .inr (5, [.ref (ad 1), .ref (ad 2), .ref (ad 3), .ref (ad 4), .ref (ad 5), .ref (ad 6), .ref (ad 7), .int writers, .int year, .ref (ad 8), .ref (ad 9), .ref (ad 10), .ref (ad 11), .int taped, .int at_, .int statements, .ref (ad 12), .int hasImage, .int isKeeping, .int cursor, .int forgottenWhen, .ref (ad 13), .ref (ad 14), .ref (ad 15), .int rowMany])), ((ad 2), .inl (cI, 7, .inl kind))]
def f_X5_gains (kind : (Nat → Int32)) (x1 : Int32) : Option (Int32) := (gd x1 7 (if (kind (Int32.toNatClampNeg x1)) = (1 : Int32) then (some (1 : Int32)) else (gd x1 7 (if (kind (Int32.toNatClampNeg x1)) = (4 : Int32) then (some (1 : Int32)) else (gd x1 7 (if (kind (Int32.toNatClampNeg x1)) = (2 : Int32) then (some (-2 : Int32)) else (gd x1 7 (if (kind (Int32.toNatClampNeg x1)) = (5 : Int32) then (some (2 : Int32)) else (some (0 : Int32))))))))))
set_option maxHeartbeats 4000000 in
set_option maxRecDepth 100000 in
theorem c_X5_gains (l : Launch) (D : va_G) (cI : ClassId) (aS : aSt) (ad : Nat → Nat) (writers : Int32) (year : Int32) (taped : Int32) (at_ : Int32) (statements : Int32) (hasImage : Int32) (isKeeping : Int32) (cursor : Int32) (forgottenWhen : Int32) (rowMany : Int32) (kind : (Nat → Int32)) (x1 : Int32) (R : Int32) (hf : f_X5_gains kind x1 = some R) : CtI l yX5_gains cX5_gains 2 (some .int) 0 D cI aS [.ref (ad 0), .int x1] (wd_X5_gains cI ad writers year taped at_ statements hasImage isKeeping cursor forgottenWhen rowMany kind) (wd_X5_gains cI ad writers year taped at_ statements hasImage isKeeping cursor forgottenWhen rowMany kind) R := by
  refine ctI_of (by decide) ⟨_, rfl⟩ (Nat.le_of_ble_eq_true rfl) ?_
  intro p e s m below meth c A Q ls X hret hP hD hl
  have hS : va_S A s.heap s.heap [] := va_S.rf
  have hx := X.1
  have hb := X.2.1
  have hl : lv_has ls 2 [(0, .ref (ad 0)), (1, .int x1)] := hl
  replace hf : (gd x1 7 (if (kind (Int32.toNatClampNeg x1)) = (1 : Int32) then (some (1 : Int32)) else (gd x1 7 (if (kind (Int32.toNatClampNeg x1)) = (4 : Int32) then (some (1 : Int32)) else (gd x1 7 (if (kind (Int32.toNatClampNeg x1)) = (2 : Int32) then (some (-2 : Int32)) else (gd x1 7 (if (kind (Int32.toNatClampNeg x1)) = (5 : Int32) then (some (2 : Int32)) else (some (0 : Int32)))))))))) = some R := hf
  refine lv_aload_n hx hb dX5_gains_0 rfl (lv_at hl 0 rfl) ?_
  refine fgX5_13 X hP (q0 := 0) rfl rfl dX5_gains_1 ?_
  refine lv_iload_n hx hb dX5_gains_4 rfl (lv_at hl 1 rfl) ?_
  refine aGet X hP (q0 := 1) rfl (gdS hf).1 dX5_gains_5 ?_
  have hf := (gdS hf).2
  refine lv_iconst (v := 1) hx hb dX5_gains_6 (by decide) ?_
  refine lv_icmp_eq (tgt := 20) hx hb dX5_gains_7 (by decide) (fun c7 => ?_) (fun c7 => ?_)
  · have hf := iT c7 hf
    refine lv_iconst (v := 1) hx hb dX5_gains_20 (by decide) ?_
    refine lv_goto (tgt := 54) hx hb dX5_gains_21 (by decide) ?_
    have hR := Option.some.inj hf
    subst hR
    exact hret _ _ _ _ _ rfl (fun _ hn => by cases hn; rfl) hP hD hS dX5_gains_54
  · have hf := iF c7 hf
    refine lv_aload_n hx hb dX5_gains_10 rfl (lv_at hl 0 rfl) ?_
    refine fgX5_13 X hP (q0 := 0) rfl rfl dX5_gains_11 ?_
    refine lv_iload_n hx hb dX5_gains_14 rfl (lv_at hl 1 rfl) ?_
    refine aGet X hP (q0 := 1) rfl (gdS hf).1 dX5_gains_15 ?_
    have hf := (gdS hf).2
    refine lv_iconst (v := 4) hx hb dX5_gains_16 (by decide) ?_
    refine lv_icmp_ne (tgt := 24) hx hb dX5_gains_17 (by decide) (fun c17 => ?_) (fun c17 => ?_)
    · have hf := iF c17 hf
      refine lv_aload_n hx hb dX5_gains_24 rfl (lv_at hl 0 rfl) ?_
      refine fgX5_13 X hP (q0 := 0) rfl rfl dX5_gains_25 ?_
      refine lv_iload_n hx hb dX5_gains_28 rfl (lv_at hl 1 rfl) ?_
      refine aGet X hP (q0 := 1) rfl (gdS hf).1 dX5_gains_29 ?_
      have hf := (gdS hf).2
      refine lv_iconst (v := 2) hx hb dX5_gains_30 (by decide) ?_
      refine lv_icmp_ne (tgt := 39) hx hb dX5_gains_31 (by decide) (fun c31 => ?_) (fun c31 => ?_)
      · have hf := iF c31 hf
        refine lv_aload_n hx hb dX5_gains_39 rfl (lv_at hl 0 rfl) ?_
        refine fgX5_13 X hP (q0 := 0) rfl rfl dX5_gains_40 ?_
        refine lv_iload_n hx hb dX5_gains_43 rfl (lv_at hl 1 rfl) ?_
        refine aGet X hP (q0 := 1) rfl (gdS hf).1 dX5_gains_44 ?_
        have hf := (gdS hf).2
        refine lv_iconst (v := 5) hx hb dX5_gains_45 (by decide) ?_
        refine lv_icmp_ne (tgt := 53) hx hb dX5_gains_46 (by decide) (fun c46 => ?_) (fun c46 => ?_)
        · have hf := iF c46 hf
          refine lv_iconst (v := 0) hx hb dX5_gains_53 (by decide) ?_
          have hR := Option.some.inj hf
          subst hR
          exact hret _ _ _ _ _ rfl (fun _ hn => by cases hn; rfl) hP hD hS dX5_gains_54
        · have hf := iT c46 hf
          refine lv_iconst (v := 2) hx hb dX5_gains_49 (by decide) ?_
          refine lv_goto (tgt := 54) hx hb dX5_gains_50 (by decide) ?_
          have hR := Option.some.inj hf
          subst hR
          exact hret _ _ _ _ _ rfl (fun _ hn => by cases hn; rfl) hP hD hS dX5_gains_54
      · have hf := iT c31 hf
        refine lv_bipush (v := -2) hx hb dX5_gains_34 (by decide) ?_
        refine lv_goto (tgt := 54) hx hb dX5_gains_36 (by decide) ?_
        have hR := Option.some.inj hf
        subst hR
        exact hret _ _ _ _ _ rfl (fun _ hn => by cases hn; rfl) hP hD hS dX5_gains_54
    · have hf := iT c17 hf
      refine lv_iconst (v := 1) hx hb dX5_gains_20 (by decide) ?_
      refine lv_goto (tgt := 54) hx hb dX5_gains_21 (by decide) ?_
      have hR := Option.some.inj hf
      subst hR
      exact hret _ _ _ _ _ rfl (fun _ hn => by cases hn; rfl) hP hD hS dX5_gains_54

abbrev wd_X5_goesYear (cI : ClassId) (ad : Nat → Nat) (writers : Int32) (year : Int32) (taped : Int32) (at_ : Int32) (statements : Int32) (hasImage : Int32) (isKeeping : Int32) (cursor : Int32) (forgottenWhen : Int32) (rowMany : Int32) (kind : (Nat → Int32)) (figure : (Nat → Int32)) (style : (Nat → Int32)) (fame : (Nat → Int32)) (silent : (Nat → Int32)) (ring : (Nat → Int32)) : va_W := [((ad 0), .inr (5, [.ref (ad 1), .ref (ad 2), .ref (ad 3), .ref (ad 4), .ref (ad 5), .ref (ad 6), .ref (ad 7), .int writers, .int year, .ref (ad 8), .ref (ad 9), .ref (ad 10), .ref (ad 11), .int taped, .int at_, .int statements, .ref (ad 12), .int hasImage, .int isKeeping, .int cursor, .int forgottenWhen, .ref (ad 13), .ref (ad 14), .ref (ad 15), .int rowMany])), ((ad 2), .inl (cI, 7, .inl kind)), ((ad 3), .inl (cI, 7, .inl figure)), ((ad 4), .inl (cI, 7, .inl style)), ((ad 5), .inl (cI, 7, .inl fame)), ((ad 6), .inl (cI, 7, .inl silent)), ((ad 7), .inl (cI, 7, .inl ring))]
def f_X5_goesYear_89  (kL12 : Int32 → (Nat → Int32) → Option (Int32 × (Nat → Int32))) (v2_89 : Int32) (fame_89 : (Nat → Int32)) : Option (Int32 × (Nat → Int32)) := (kL12 (v2_89 + (1 : Int32)) fame_89)
def f_X5_goesYear_12 (writers : Int32) (kind : (Nat → Int32)) (figure : (Nat → Int32)) (style : (Nat → Int32)) (silent : (Nat → Int32)) (ring : (Nat → Int32)) (x1 : Int32) (year_u12 : Int32)  : Nat → Int32 → (Nat → Int32) → Option (Int32 × (Nat → Int32))
  | 0 => fun _ _ => none
  | fuel + 1 => fun v2_12 fame_12 => (if writers ≤ v2_12 then (some (year_u12, fame_12)) else (if x1 = 0 then ((f_X5_isEnded writers silent ring v2_12).bind fun (r26 : Int32) => (if r26 = 0 then (f_X5_goesYear_89  (f_X5_goesYear_12 writers kind figure style silent ring x1 year_u12  fuel) v2_12 fame_12) else ((f_X5_enderOf writers silent ring v2_12).bind fun (r37 : Int32) => (gd v2_12 7 ((f_X5_bookWorth writers year_u12 kind figure style silent ring v2_12).bind fun (r54 : Int32) => ((f_X5_held ((fame_12 (Int32.toNatClampNeg v2_12)) + r54) (0 : Int32) (99 : Int32)).bind fun (r61 : Int32) => (gd v2_12 7 (gd r37 7 ((f_X5_gains kind r37).bind fun (r78 : Int32) => ((f_X5_held (((upd fame_12 (Int32.toNatClampNeg v2_12) r61) (Int32.toNatClampNeg r37)) + r78) (0 : Int32) (99 : Int32)).bind fun (r85 : Int32) => (gd r37 7 (f_X5_goesYear_89  (f_X5_goesYear_12 writers kind figure style silent ring x1 year_u12  fuel) v2_12 (upd (upd fame_12 (Int32.toNatClampNeg v2_12) r61) (Int32.toNatClampNeg r37) r85))))))))))))) else (some (year_u12, fame_12))))
theorem e_X5_goesYear_12 (writers : Int32) (kind : (Nat → Int32)) (figure : (Nat → Int32)) (style : (Nat → Int32)) (silent : (Nat → Int32)) (ring : (Nat → Int32)) (x1 : Int32) (year_u12 : Int32)  (fuel : Nat) (v2_12 : Int32) (fame_12 : (Nat → Int32)) : f_X5_goesYear_12 writers kind figure style silent ring x1 year_u12  (fuel + 1) v2_12 fame_12 = (if writers ≤ v2_12 then (some (year_u12, fame_12)) else (if x1 = 0 then ((f_X5_isEnded writers silent ring v2_12).bind fun (r26 : Int32) => (if r26 = 0 then (f_X5_goesYear_89  (f_X5_goesYear_12 writers kind figure style silent ring x1 year_u12  fuel) v2_12 fame_12) else ((f_X5_enderOf writers silent ring v2_12).bind fun (r37 : Int32) => (gd v2_12 7 ((f_X5_bookWorth writers year_u12 kind figure style silent ring v2_12).bind fun (r54 : Int32) => ((f_X5_held ((fame_12 (Int32.toNatClampNeg v2_12)) + r54) (0 : Int32) (99 : Int32)).bind fun (r61 : Int32) => (gd v2_12 7 (gd r37 7 ((f_X5_gains kind r37).bind fun (r78 : Int32) => ((f_X5_held (((upd fame_12 (Int32.toNatClampNeg v2_12) r61) (Int32.toNatClampNeg r37)) + r78) (0 : Int32) (99 : Int32)).bind fun (r85 : Int32) => (gd r37 7 (f_X5_goesYear_89  (f_X5_goesYear_12 writers kind figure style silent ring x1 year_u12  fuel) v2_12 (upd (upd fame_12 (Int32.toNatClampNeg v2_12) r61) (Int32.toNatClampNeg r37) r85))))))))))))) else (some (year_u12, fame_12)))) := rfl
def f_X5_goesYear (writers : Int32) (year : Int32) (kind : (Nat → Int32)) (figure : (Nat → Int32)) (style : (Nat → Int32)) (fame : (Nat → Int32)) (silent : (Nat → Int32)) (ring : (Nat → Int32)) (x1 : Int32) : Option (Int32 × (Nat → Int32)) := (f_X5_goesYear_12 writers kind figure style silent ring x1 (year + (1 : Int32))  FU (0 : Int32) fame)
set_option maxHeartbeats 4000000 in
set_option maxRecDepth 100000 in
theorem w_X5_goesYear_89 {p : Program} {l : Launch} {e : Env} {s : State} {m : MethodId} {args : Array Value} {below : List Frame} {meth : Method} {c : Code} {D : va_G} {cI : ClassId} {aS : aSt} {A : Nat → Prop} {Q : State → Prop}  (ad : Nat → Nat) (writers : Int32) (taped : Int32) (at_ : Int32) (statements : Int32) (hasImage : Int32) (isKeeping : Int32) (cursor : Int32) (forgottenWhen : Int32) (rowMany : Int32) (kind : (Nat → Int32)) (figure : (Nat → Int32)) (style : (Nat → Int32)) (silent : (Nat → Int32)) (ring : (Nat → Int32)) (x1 : Int32) (year_u12 : Int32) {R : Int32 × (Nat → Int32)} (X : Bx p s m args meth c cX5_goesYear 4 none RX5 D cI aS A) (hret : RtV p l e 4 s m args below meth c cX5_goesYear D A (wd_X5_goesYear cI ad writers R.1 taped at_ statements hasImage isKeeping cursor forgottenWhen rowMany kind figure style R.2 silent ring) Q) (kL12 : Int32 → (Nat → Int32) → Option (Int32 × (Nat → Int32))) (hkL12 : ∀ (v2_12 : Int32) (fame_12 : (Nat → Int32)) (H : Heap) (locs : List Loc) (ls : Array Slot), kL12 v2_12 fame_12 = some R → lv_has ls 4 [(0, .ref (ad 0)), (1, .int x1), (2, .int v2_12)] → va_P D vwCl (wd_X5_goesYear cI ad writers year_u12 taped at_ statements hasImage isKeeping cursor forgottenWhen rowMany kind figure style fame_12 silent ring) H → va_D A (wd_X5_goesYear cI ad writers year_u12 taped at_ statements hasImage isKeeping cursor forgottenWhen rowMany kind figure style fame_12 silent ring) → va_S A s.heap H locs → Wh p l e 4 s m args below meth c H locs Q (F0 m 12 ls [])) : ∀ (v2_89 : Int32) (fame_89 : (Nat → Int32)) (H : Heap) (locs : List Loc) (ls : Array Slot), f_X5_goesYear_89  kL12 v2_89 fame_89 = some R → lv_has ls 4 [(0, .ref (ad 0)), (1, .int x1), (2, .int v2_89)] → va_P D vwCl (wd_X5_goesYear cI ad writers year_u12 taped at_ statements hasImage isKeeping cursor forgottenWhen rowMany kind figure style fame_89 silent ring) H → va_D A (wd_X5_goesYear cI ad writers year_u12 taped at_ statements hasImage isKeeping cursor forgottenWhen rowMany kind figure style fame_89 silent ring) → va_S A s.heap H locs → Wh p l e 4 s m args below meth c H locs Q (F0 m 89 ls []) := by
  have hx := X.1
  have hb := X.2.1
  intro v2_89 fame_89 H locs ls hf hl hP hD hS
  replace hf : (kL12 (v2_89 + (1 : Int32)) fame_89) = some R := hf
  refine lv_iinc (v := (v2_89 + (1 : Int32))) (lv' := [(2, .int (v2_89 + (1 : Int32))), (0, .ref (ad 0)), (1, .int x1)]) hx hb dX5_goesYear_89 hl (k := 2) rfl rfl (by decide) rfl (fun ls hl => ?_)
  refine lv_goto (tgt := 12) hx hb dX5_goesYear_92 (by decide) ?_
  exact hkL12 (v2_89 + (1 : Int32)) fame_89 _ _ _ hf (lv_sub hl [1, 2, 0] rfl) hP hD hS
set_option maxHeartbeats 4000000 in
set_option maxRecDepth 100000 in
theorem w_X5_goesYear_12 {p : Program} {l : Launch} {e : Env} {s : State} {m : MethodId} {args : Array Value} {below : List Frame} {meth : Method} {c : Code} {D : va_G} {cI : ClassId} {aS : aSt} {A : Nat → Prop} {Q : State → Prop}  (ad : Nat → Nat) (writers : Int32) (taped : Int32) (at_ : Int32) (statements : Int32) (hasImage : Int32) (isKeeping : Int32) (cursor : Int32) (forgottenWhen : Int32) (rowMany : Int32) (kind : (Nat → Int32)) (figure : (Nat → Int32)) (style : (Nat → Int32)) (silent : (Nat → Int32)) (ring : (Nat → Int32)) (x1 : Int32) (year_u12 : Int32) {R : Int32 × (Nat → Int32)} (X : Bx p s m args meth c cX5_goesYear 4 none RX5 D cI aS A) (hret : RtV p l e 4 s m args below meth c cX5_goesYear D A (wd_X5_goesYear cI ad writers R.1 taped at_ statements hasImage isKeeping cursor forgottenWhen rowMany kind figure style R.2 silent ring) Q) : ∀ (fuel : Nat) (v2_12 : Int32) (fame_12 : (Nat → Int32)) (H : Heap) (locs : List Loc) (ls : Array Slot), f_X5_goesYear_12 writers kind figure style silent ring x1 year_u12  fuel v2_12 fame_12 = some R → lv_has ls 4 [(0, .ref (ad 0)), (1, .int x1), (2, .int v2_12)] → va_P D vwCl (wd_X5_goesYear cI ad writers year_u12 taped at_ statements hasImage isKeeping cursor forgottenWhen rowMany kind figure style fame_12 silent ring) H → va_D A (wd_X5_goesYear cI ad writers year_u12 taped at_ statements hasImage isKeeping cursor forgottenWhen rowMany kind figure style fame_12 silent ring) → va_S A s.heap H locs → Wh p l e 4 s m args below meth c H locs Q (F0 m 12 ls []) := by
  have hx := X.1
  have hb := X.2.1
  intro fuel
  induction fuel with
  | zero =>
    intro v2_12 fame_12 H locs ls hf hl hP hD hS
    cases hf
  | succ fuel ih =>
    intro v2_12 fame_12 H locs ls hf hl hP hD hS
    replace hf : (if writers ≤ v2_12 then (some (year_u12, fame_12)) else (if x1 = 0 then ((f_X5_isEnded writers silent ring v2_12).bind fun (r26 : Int32) => (if r26 = 0 then (f_X5_goesYear_89  (f_X5_goesYear_12 writers kind figure style silent ring x1 year_u12  fuel) v2_12 fame_12) else ((f_X5_enderOf writers silent ring v2_12).bind fun (r37 : Int32) => (gd v2_12 7 ((f_X5_bookWorth writers year_u12 kind figure style silent ring v2_12).bind fun (r54 : Int32) => ((f_X5_held ((fame_12 (Int32.toNatClampNeg v2_12)) + r54) (0 : Int32) (99 : Int32)).bind fun (r61 : Int32) => (gd v2_12 7 (gd r37 7 ((f_X5_gains kind r37).bind fun (r78 : Int32) => ((f_X5_held (((upd fame_12 (Int32.toNatClampNeg v2_12) r61) (Int32.toNatClampNeg r37)) + r78) (0 : Int32) (99 : Int32)).bind fun (r85 : Int32) => (gd r37 7 (f_X5_goesYear_89  (f_X5_goesYear_12 writers kind figure style silent ring x1 year_u12  fuel) v2_12 (upd (upd fame_12 (Int32.toNatClampNeg v2_12) r61) (Int32.toNatClampNeg r37) r85))))))))))))) else (some (year_u12, fame_12)))) = some R := hf
    refine lv_iload_n hx hb dX5_goesYear_12 rfl (lv_at hl 2 rfl) ?_
    refine lv_aload_n hx hb dX5_goesYear_13 rfl (lv_at hl 0 rfl) ?_
    refine fgX5_55 X hP (q0 := 0) rfl rfl dX5_goesYear_14 ?_
    refine lv_icmp_ge (tgt := 95) hx hb dX5_goesYear_17 (by decide) (fun c17 => ?_) (fun c17 => ?_)
    · have hf := iT c17 hf
      have hR := Option.some.inj hf
      subst hR
      exact hret _ _ _ _ hP hD hS dX5_goesYear_95
    · have hf := iF c17 hf
      refine lv_iload_n hx hb dX5_goesYear_20 rfl (lv_at hl 1 rfl) ?_
      refine lv_if_ne (tgt := 95) hx hb dX5_goesYear_21 (by decide) (fun c21 => ?_) (fun c21 => ?_)
      · have hf := iF c21 hf
        have hR := Option.some.inj hf
        subst hR
        exact hret _ _ _ _ hP hD hS dX5_goesYear_95
      · have hf := iT c21 hf
        refine lv_aload_n hx hb dX5_goesYear_24 rfl (lv_at hl 0 rfl) ?_
        refine lv_iload_n hx hb dX5_goesYear_25 rfl (lv_at hl 2 rfl) ?_
        obtain ⟨r26, hq26, hf⟩ := bS hf
        refine ro_i X hP hD hS [0, 5, 6] rfl (run_V X hP hD hS [0, 5, 6] rfl rfl (c_X5_isEnded l D cI aS ad writers year_u12 taped at_ statements hasImage isKeeping cursor forgottenWhen rowMany silent ring v2_12 _ hq26 _) lkX5_177 (by decide) (q0 := 0) rfl rfl rfl rfl (Nat.le_of_ble_eq_true rfl) hl.1 dX5_goesYear_26) (fun H locs hP hS => ?_)
        refine lv_if_ne (tgt := 35) hx hb dX5_goesYear_29 (by decide) (fun c29 => ?_) (fun c29 => ?_)
        · have hf := iF c29 hf
          refine lv_aload_n hx hb dX5_goesYear_35 rfl (lv_at hl 0 rfl) ?_
          refine lv_iload_n hx hb dX5_goesYear_36 rfl (lv_at hl 2 rfl) ?_
          obtain ⟨r37, hq37, hf⟩ := bS hf
          refine ro_i X hP hD hS [0, 5, 6] rfl (run_V X hP hD hS [0, 5, 6] rfl rfl (c_X5_enderOf l D cI aS ad writers year_u12 taped at_ statements hasImage isKeeping cursor forgottenWhen rowMany silent ring v2_12 _ hq37 _) lkX5_162 (by decide) (q0 := 0) rfl rfl rfl rfl (Nat.le_of_ble_eq_true rfl) hl.1 dX5_goesYear_37) (fun H locs hP hS => ?_)
          refine lv_istore_n (lv' := [(3, .int r37), (0, .ref (ad 0)), (1, .int x1), (2, .int v2_12)]) hx hb dX5_goesYear_40 rfl hl (by decide) rfl (fun ls hl => ?_)
          refine lv_aload_n hx hb dX5_goesYear_41 rfl (lv_at hl 1 rfl) ?_
          refine fgX5_22 X hP (q0 := 0) rfl rfl dX5_goesYear_42 ?_
          refine lv_iload_n hx hb dX5_goesYear_45 rfl (lv_at hl 3 rfl) ?_
          refine lv_aload_n hx hb dX5_goesYear_46 rfl (lv_at hl 1 rfl) ?_
          refine fgX5_22 X hP (q0 := 0) rfl rfl dX5_goesYear_47 ?_
          refine lv_iload_n hx hb dX5_goesYear_50 rfl (lv_at hl 3 rfl) ?_
          refine aGet X hP (q0 := 4) rfl (gdS hf).1 dX5_goesYear_51 ?_
          have hf := (gdS hf).2
          refine lv_aload_n hx hb dX5_goesYear_52 rfl (lv_at hl 1 rfl) ?_
          refine lv_iload_n hx hb dX5_goesYear_53 rfl (lv_at hl 3 rfl) ?_
          obtain ⟨r54, hq54, hf⟩ := bS hf
          refine ro_i X hP hD hS [0, 1, 2, 3, 5, 6] rfl (run_V X hP hD hS [0, 1, 2, 3, 5, 6] rfl rfl (c_X5_bookWorth l D cI aS ad writers year_u12 taped at_ statements hasImage isKeeping cursor forgottenWhen rowMany kind figure style silent ring v2_12 _ hq54 _) lkX5_180 (by decide) (q0 := 0) rfl rfl rfl rfl (Nat.le_of_ble_eq_true rfl) hl.1 dX5_goesYear_54) (fun H locs hP hS => ?_)
          refine lv_iadd hx hb dX5_goesYear_57 ?_
          refine lv_iconst (v := 0) hx hb dX5_goesYear_58 (by decide) ?_
          refine lv_bipush (v := 99) hx hb dX5_goesYear_59 (by decide) ?_
          obtain ⟨r61, hq61, hf⟩ := bS hf
          refine ro_i X hP hD hS [] rfl (run_S X hP hD hS [] rfl rfl (c_X5_held l D cI aS ((fame_12 (Int32.toNatClampNeg v2_12)) + r54) (0 : Int32) (99 : Int32) _ hq61 _) lkX5_183 (by decide) rfl rfl (Nat.le_of_ble_eq_true rfl) hl.1 dX5_goesYear_61) (fun H locs hP hS => ?_)
          refine aPut X hP hD hS (q0 := 4) (ws' := (wd_X5_goesYear cI ad writers year_u12 taped at_ statements hasImage isKeeping cursor forgottenWhen rowMany kind figure style (upd fame_12 (Int32.toNatClampNeg v2_12) r61) silent ring)) rfl (gdS hf).1 rfl dX5_goesYear_64 (fun H locs hP hD hS => ?_)
          have hf := (gdS hf).2
          refine lv_aload_n hx hb dX5_goesYear_65 rfl (lv_at hl 1 rfl) ?_
          refine fgX5_22 X hP (q0 := 0) rfl rfl dX5_goesYear_66 ?_
          refine lv_iload_n hx hb dX5_goesYear_69 rfl (lv_at hl 0 rfl) ?_
          refine lv_aload_n hx hb dX5_goesYear_70 rfl (lv_at hl 1 rfl) ?_
          refine fgX5_22 X hP (q0 := 0) rfl rfl dX5_goesYear_71 ?_
          refine lv_iload_n hx hb dX5_goesYear_74 rfl (lv_at hl 0 rfl) ?_
          refine aGet X hP (q0 := 4) rfl (gdS hf).1 dX5_goesYear_75 ?_
          have hf := (gdS hf).2
          refine lv_aload_n hx hb dX5_goesYear_76 rfl (lv_at hl 1 rfl) ?_
          refine lv_iload_n hx hb dX5_goesYear_77 rfl (lv_at hl 0 rfl) ?_
          obtain ⟨r78, hq78, hf⟩ := bS hf
          refine ro_i X hP hD hS [0, 1] rfl (run_V X hP hD hS [0, 1] rfl rfl (c_X5_gains l D cI aS ad writers year_u12 taped at_ statements hasImage isKeeping cursor forgottenWhen rowMany kind r37 _ hq78 _) lkX5_186 (by decide) (q0 := 0) rfl rfl rfl rfl (Nat.le_of_ble_eq_true rfl) hl.1 dX5_goesYear_78) (fun H locs hP hS => ?_)
          refine lv_iadd hx hb dX5_goesYear_81 ?_
          refine lv_iconst (v := 0) hx hb dX5_goesYear_82 (by decide) ?_
          refine lv_bipush (v := 99) hx hb dX5_goesYear_83 (by decide) ?_
          obtain ⟨r85, hq85, hf⟩ := bS hf
          refine ro_i X hP hD hS [] rfl (run_S X hP hD hS [] rfl rfl (c_X5_held l D cI aS (((upd fame_12 (Int32.toNatClampNeg v2_12) r61) (Int32.toNatClampNeg r37)) + r78) (0 : Int32) (99 : Int32) _ hq85 _) lkX5_183 (by decide) rfl rfl (Nat.le_of_ble_eq_true rfl) hl.1 dX5_goesYear_85) (fun H locs hP hS => ?_)
          refine aPut X hP hD hS (q0 := 4) (ws' := (wd_X5_goesYear cI ad writers year_u12 taped at_ statements hasImage isKeeping cursor forgottenWhen rowMany kind figure style (upd (upd fame_12 (Int32.toNatClampNeg v2_12) r61) (Int32.toNatClampNeg r37) r85) silent ring)) rfl (gdS hf).1 rfl dX5_goesYear_88 (fun H locs hP hD hS => ?_)
          have hf := (gdS hf).2
          exact w_X5_goesYear_89 ad writers taped at_ statements hasImage isKeeping cursor forgottenWhen rowMany kind figure style silent ring x1 year_u12 X hret _ ih v2_12 (upd (upd fame_12 (Int32.toNatClampNeg v2_12) r61) (Int32.toNatClampNeg r37) r85) _ _ _ hf (lv_sub hl [1, 2, 3] rfl) hP hD hS
        · have hf := iT c29 hf
          refine lv_goto (tgt := 89) hx hb dX5_goesYear_32 (by decide) ?_
          exact w_X5_goesYear_89 ad writers taped at_ statements hasImage isKeeping cursor forgottenWhen rowMany kind figure style silent ring x1 year_u12 X hret _ ih v2_12 fame_12 _ _ _ hf (lv_sub hl [0, 1, 2] rfl) hP hD hS
set_option maxHeartbeats 4000000 in
set_option maxRecDepth 100000 in
theorem c_X5_goesYear (l : Launch) (D : va_G) (cI : ClassId) (aS : aSt) (ad : Nat → Nat) (writers : Int32) (year : Int32) (taped : Int32) (at_ : Int32) (statements : Int32) (hasImage : Int32) (isKeeping : Int32) (cursor : Int32) (forgottenWhen : Int32) (rowMany : Int32) (kind : (Nat → Int32)) (figure : (Nat → Int32)) (style : (Nat → Int32)) (fame : (Nat → Int32)) (silent : (Nat → Int32)) (ring : (Nat → Int32)) (x1 : Int32) (R : Int32 × (Nat → Int32)) (hf : f_X5_goesYear writers year kind figure style fame silent ring x1 = some R) : CtV l yX5_goesYear cX5_goesYear 4 none 4 D cI aS [.ref (ad 0), .int x1] (wd_X5_goesYear cI ad writers year taped at_ statements hasImage isKeeping cursor forgottenWhen rowMany kind figure style fame silent ring) (wd_X5_goesYear cI ad writers R.1 taped at_ statements hasImage isKeeping cursor forgottenWhen rowMany kind figure style R.2 silent ring) := by
  refine ctV_of (by decide) rfl (Nat.le_of_ble_eq_true rfl) ?_
  intro p e s m below meth c A Q ls X hret hP hD hl
  have hS : va_S A s.heap s.heap [] := va_S.rf
  have hx := X.1
  have hb := X.2.1
  have hl : lv_has ls 4 [(0, .ref (ad 0)), (1, .int x1)] := hl
  replace hf : (f_X5_goesYear_12 writers kind figure style silent ring x1 (year + (1 : Int32))  FU (0 : Int32) fame) = some R := hf
  refine lv_aload_n hx hb dX5_goesYear_0 rfl (lv_at hl 0 rfl) ?_
  refine lv_dup hx hb dX5_goesYear_1 rfl ?_
  refine fgX5_101 X hP (q0 := 0) rfl rfl dX5_goesYear_2 ?_
  refine lv_iconst (v := 1) hx hb dX5_goesYear_5 (by decide) ?_
  refine lv_iadd hx hb dX5_goesYear_6 ?_
  refine fpX5_101 X hP hD hS (q0 := 0) (ws' := (wd_X5_goesYear cI ad writers (year + (1 : Int32)) taped at_ statements hasImage isKeeping cursor forgottenWhen rowMany kind figure style fame silent ring)) rfl rfl rfl (Nat.le_of_ble_eq_true rfl) rfl dX5_goesYear_7 (fun H locs hP hD hS => ?_)
  refine lv_iconst (v := 0) hx hb dX5_goesYear_10 (by decide) ?_
  refine lv_istore_n (lv' := [(2, .int (0 : Int32)), (0, .ref (ad 0)), (1, .int x1)]) hx hb dX5_goesYear_11 rfl hl (by decide) rfl (fun ls hl => ?_)
  exact w_X5_goesYear_12 ad writers taped at_ statements hasImage isKeeping cursor forgottenWhen rowMany kind figure style silent ring x1 (year + (1 : Int32)) X hret  _ (0 : Int32) fame _ _ _ hf (lv_sub hl [1, 2, 0] rfl) hP hD hS

abbrev wd_X5_forgets (cI : ClassId) (ad : Nat → Nat) (writers : Int32) (year : Int32) (taped : Int32) (at_ : Int32) (statements : Int32) (hasImage : Int32) (isKeeping : Int32) (cursor : Int32) (forgottenWhen : Int32) (rowMany : Int32) (kind : (Nat → Int32)) (figure : (Nat → Int32)) (style : (Nat → Int32)) (fame : (Nat → Int32)) (silent : (Nat → Int32)) (ring : (Nat → Int32)) (kept : (Nat → Int32)) : va_W := [((ad 0), .inr (5, [.ref (ad 1), .ref (ad 2), .ref (ad 3), .ref (ad 4), .ref (ad 5), .ref (ad 6), .ref (ad 7), .int writers, .int year, .ref (ad 8), .ref (ad 9), .ref (ad 10), .ref (ad 11), .int taped, .int at_, .int statements, .ref (ad 12), .int hasImage, .int isKeeping, .int cursor, .int forgottenWhen, .ref (ad 13), .ref (ad 14), .ref (ad 15), .int rowMany])), ((ad 2), .inl (cI, 7, .inl kind)), ((ad 3), .inl (cI, 7, .inl figure)), ((ad 4), .inl (cI, 7, .inl style)), ((ad 5), .inl (cI, 7, .inl fame)), ((ad 6), .inl (cI, 7, .inl silent)), ((ad 7), .inl (cI, 7, .inl ring)), ((ad 12), .inl (cI, 132, .inl kept))]
def f_X5_forgets (writers : Int32) (year : Int32) (isKeeping : Int32) (cursor : Int32) (kind : (Nat → Int32)) (figure : (Nat → Int32)) (style : (Nat → Int32)) (fame : (Nat → Int32)) (silent : (Nat → Int32)) (ring : (Nat → Int32)) (kept : (Nat → Int32)) : Option (Int32 × Int32 × Int32 × Int32 × (Nat → Int32) × (Nat → Int32) × (Nat → Int32) × (Nat → Int32) × (Nat → Int32) × (Nat → Int32) × (Nat → Int32)) := ((f_X5_passesAll writers year isKeeping cursor kind figure style fame silent ring kept (2 : Int32) (0 : Int32)).bind fun (r3 : Int32 × Int32 × Int32 × Int32 × (Nat → Int32) × (Nat → Int32) × (Nat → Int32) × (Nat → Int32) × (Nat → Int32) × (Nat → Int32) × (Nat → Int32)) => (some (r3.1, r3.2.1, r3.2.2.1, r3.2.2.2.1, r3.2.2.2.2.1, r3.2.2.2.2.2.1, r3.2.2.2.2.2.2.1, r3.2.2.2.2.2.2.2.1, r3.2.2.2.2.2.2.2.2.1, r3.2.2.2.2.2.2.2.2.2.1, r3.2.2.2.2.2.2.2.2.2.2)))
set_option maxHeartbeats 4000000 in
set_option maxRecDepth 100000 in
theorem c_X5_forgets (l : Launch) (D : va_G) (cI : ClassId) (aS : aSt) (ad : Nat → Nat) (writers : Int32) (year : Int32) (taped : Int32) (at_ : Int32) (statements : Int32) (hasImage : Int32) (isKeeping : Int32) (cursor : Int32) (forgottenWhen : Int32) (rowMany : Int32) (kind : (Nat → Int32)) (figure : (Nat → Int32)) (style : (Nat → Int32)) (fame : (Nat → Int32)) (silent : (Nat → Int32)) (ring : (Nat → Int32)) (kept : (Nat → Int32)) (R : Int32 × Int32 × Int32 × Int32 × (Nat → Int32) × (Nat → Int32) × (Nat → Int32) × (Nat → Int32) × (Nat → Int32) × (Nat → Int32) × (Nat → Int32)) (hf : f_X5_forgets writers year isKeeping cursor kind figure style fame silent ring kept = some R) : CtV l yX5_forgets cX5_forgets 1 none 2 D cI aS [.ref (ad 0)] (wd_X5_forgets cI ad writers year taped at_ statements hasImage isKeeping cursor forgottenWhen rowMany kind figure style fame silent ring kept) (wd_X5_forgets cI ad R.1 R.2.1 taped at_ statements hasImage R.2.2.1 R.2.2.2.1 forgottenWhen rowMany R.2.2.2.2.1 R.2.2.2.2.2.1 R.2.2.2.2.2.2.1 R.2.2.2.2.2.2.2.1 R.2.2.2.2.2.2.2.2.1 R.2.2.2.2.2.2.2.2.2.1 R.2.2.2.2.2.2.2.2.2.2) := by
  refine ctV_of (by decide) rfl (Nat.le_of_ble_eq_true rfl) ?_
  intro p e s m below meth c A Q ls X hret hP hD hl
  have hS : va_S A s.heap s.heap [] := va_S.rf
  have hx := X.1
  have hb := X.2.1
  have hl : lv_has ls 1 [(0, .ref (ad 0))] := hl
  replace hf : ((f_X5_passesAll writers year isKeeping cursor kind figure style fame silent ring kept (2 : Int32) (0 : Int32)).bind fun (r3 : Int32 × Int32 × Int32 × Int32 × (Nat → Int32) × (Nat → Int32) × (Nat → Int32) × (Nat → Int32) × (Nat → Int32) × (Nat → Int32) × (Nat → Int32)) => (some (r3.1, r3.2.1, r3.2.2.1, r3.2.2.2.1, r3.2.2.2.2.1, r3.2.2.2.2.2.1, r3.2.2.2.2.2.2.1, r3.2.2.2.2.2.2.2.1, r3.2.2.2.2.2.2.2.2.1, r3.2.2.2.2.2.2.2.2.2.1, r3.2.2.2.2.2.2.2.2.2.2))) = some R := hf
  refine lv_aload_n hx hb dX5_forgets_0 rfl (lv_at hl 0 rfl) ?_
  refine lv_iconst (v := 2) hx hb dX5_forgets_1 (by decide) ?_
  refine lv_iconst (v := 0) hx hb dX5_forgets_2 (by decide) ?_
  obtain ⟨r3, hq3, hf⟩ := bS hf
  refine wr_v X hP hD hS [0, 1, 2, 3, 4, 5, 6, 7] rfl (ws' := (wd_X5_forgets cI ad r3.1 r3.2.1 taped at_ statements hasImage r3.2.2.1 r3.2.2.2.1 forgottenWhen rowMany r3.2.2.2.2.1 r3.2.2.2.2.2.1 r3.2.2.2.2.2.2.1 r3.2.2.2.2.2.2.2.1 r3.2.2.2.2.2.2.2.2.1 r3.2.2.2.2.2.2.2.2.2.1 r3.2.2.2.2.2.2.2.2.2.2)) (Nat.le_of_ble_eq_true rfl) rfl rfl (run_V X hP hD hS [0, 1, 2, 3, 4, 5, 6, 7] rfl rfl (c_X5_passesAll l D cI aS ad writers year taped at_ statements hasImage isKeeping cursor forgottenWhen rowMany kind figure style fame silent ring kept (2 : Int32) (0 : Int32) _ hq3 _) lkX5_131 (by decide) (q0 := 0) rfl rfl rfl rfl (Nat.le_of_ble_eq_true rfl) hl.1 dX5_forgets_3) (fun H locs hP hD hS => ?_)
  have hR := Option.some.inj hf
  subst hR
  exact hret _ _ _ _ hP hD hS dX5_forgets_6

abbrev wd_X5_isIn (cI : ClassId)  : va_W := []
def f_X5_isIn (x0 : Int32) (x1 : Int32) (x2 : Int32) : Option (Int32) := (if x0 < x1 then (some (0 : Int32)) else (if x2 < x0 then (some (0 : Int32)) else (some (1 : Int32))))
set_option maxHeartbeats 4000000 in
set_option maxRecDepth 100000 in
theorem c_X5_isIn (l : Launch) (D : va_G) (cI : ClassId) (aS : aSt) (x0 : Int32) (x1 : Int32) (x2 : Int32) (R : Int32) (hf : f_X5_isIn x0 x1 x2 = some R) : CtI l yX5_isIn cX5_isIn 3 (some .boolean) 0 D cI aS [.int x0, .int x1, .int x2] (wd_X5_isIn cI ) (wd_X5_isIn cI ) R := by
  refine ctI_of (by decide) ⟨_, rfl⟩ (Nat.le_of_ble_eq_true rfl) ?_
  intro p e s m below meth c A Q ls X hret hP hD hl
  have hS : va_S A s.heap s.heap [] := va_S.rf
  have hx := X.1
  have hb := X.2.1
  have hl : lv_has ls 3 [(0, .int x0), (1, .int x1), (2, .int x2)] := hl
  replace hf : (if x0 < x1 then (some (0 : Int32)) else (if x2 < x0 then (some (0 : Int32)) else (some (1 : Int32)))) = some R := hf
  refine lv_iload_n hx hb dX5_isIn_0 rfl (lv_at hl 0 rfl) ?_
  refine lv_iload_n hx hb dX5_isIn_1 rfl (lv_at hl 1 rfl) ?_
  refine lv_icmp_lt (tgt := 14) hx hb dX5_isIn_2 (by decide) (fun c2 => ?_) (fun c2 => ?_)
  · have hf := iT c2 hf
    refine lv_iconst (v := 0) hx hb dX5_isIn_14 (by decide) ?_
    have hR := Option.some.inj hf
    subst hR
    exact hret _ _ _ _ _ rfl (fun _ hn => by cases hn; rfl) hP hD hS dX5_isIn_15
  · have hf := iF c2 hf
    refine lv_iload_n hx hb dX5_isIn_5 rfl (lv_at hl 0 rfl) ?_
    refine lv_iload_n hx hb dX5_isIn_6 rfl (lv_at hl 2 rfl) ?_
    refine lv_icmp_gt (tgt := 14) hx hb dX5_isIn_7 (by decide) (fun c7 => ?_) (fun c7 => ?_)
    · have hf := iT c7 hf
      refine lv_iconst (v := 0) hx hb dX5_isIn_14 (by decide) ?_
      have hR := Option.some.inj hf
      subst hR
      exact hret _ _ _ _ _ rfl (fun _ hn => by cases hn; rfl) hP hD hS dX5_isIn_15
    · have hf := iF c7 hf
      refine lv_iconst (v := 1) hx hb dX5_isIn_10 (by decide) ?_
      refine lv_goto (tgt := 15) hx hb dX5_isIn_11 (by decide) ?_
      have hR := Option.some.inj hf
      subst hR
      exact hret _ _ _ _ _ rfl (fun _ hn => by cases hn; rfl) hP hD hS dX5_isIn_15

abbrev wd_X5_lower (cI : ClassId) (ad : Nat → Nat) (writers : Int32) (year : Int32) (taped : Int32) (at_ : Int32) (statements : Int32) (hasImage : Int32) (isKeeping : Int32) (cursor : Int32) (forgottenWhen : Int32) (rowMany : Int32) (refused : (Nat → Int32)) : va_W := [((ad 0), .inr (5, [.ref (ad 1), .ref (ad 2), .ref (ad 3), .ref (ad 4), .ref (ad 5), .ref (ad 6), .ref (ad 7), .int writers, .int year, .ref (ad 8), .ref (ad 9), .ref (ad 10), .ref (ad 11), .int taped, .int at_, .int statements, .ref (ad 12), .int hasImage, .int isKeeping, .int cursor, .int forgottenWhen, .ref (ad 13), .ref (ad 14), .ref (ad 15), .int rowMany])), ((ad 1), .inl (cI, 7, .inl refused))]
def f_X5_lower (refused : (Nat → Int32)) (x1 : Int32) : Option (Int32 × (Nat → Int32)) := (gd (-x1) 7 (gd (-x1) 7 (some (((1000000000 : Int32) - x1), (upd refused (Int32.toNatClampNeg (-x1)) ((refused (Int32.toNatClampNeg (-x1))) + (1 : Int32)))))))
set_option maxHeartbeats 4000000 in
set_option maxRecDepth 100000 in
theorem c_X5_lower (l : Launch) (D : va_G) (cI : ClassId) (aS : aSt) (ad : Nat → Nat) (writers : Int32) (year : Int32) (taped : Int32) (at_ : Int32) (statements : Int32) (hasImage : Int32) (isKeeping : Int32) (cursor : Int32) (forgottenWhen : Int32) (rowMany : Int32) (refused : (Nat → Int32)) (x1 : Int32) (R : Int32 × (Nat → Int32)) (hf : f_X5_lower refused x1 = some R) : CtI l yX5_lower cX5_lower 2 (some .int) 0 D cI aS [.ref (ad 0), .int x1] (wd_X5_lower cI ad writers year taped at_ statements hasImage isKeeping cursor forgottenWhen rowMany refused) (wd_X5_lower cI ad writers year taped at_ statements hasImage isKeeping cursor forgottenWhen rowMany R.2) R.1 := by
  refine ctI_of (by decide) ⟨_, rfl⟩ (Nat.le_of_ble_eq_true rfl) ?_
  intro p e s m below meth c A Q ls X hret hP hD hl
  have hS : va_S A s.heap s.heap [] := va_S.rf
  have hx := X.1
  have hb := X.2.1
  have hl : lv_has ls 2 [(0, .ref (ad 0)), (1, .int x1)] := hl
  replace hf : (gd (-x1) 7 (gd (-x1) 7 (some (((1000000000 : Int32) - x1), (upd refused (Int32.toNatClampNeg (-x1)) ((refused (Int32.toNatClampNeg (-x1))) + (1 : Int32))))))) = some R := hf
  refine lv_aload_n hx hb dX5_lower_0 rfl (lv_at hl 0 rfl) ?_
  refine fgX5_7 X hP (q0 := 0) rfl rfl dX5_lower_1 ?_
  refine lv_iload_n hx hb dX5_lower_4 rfl (lv_at hl 1 rfl) ?_
  refine lv_ineg hx hb dX5_lower_5 ?_
  refine lv_dup2_11 hx hb dX5_lower_6 rfl rfl ?_
  refine aGet X hP (q0 := 1) rfl (gdS hf).1 dX5_lower_7 ?_
  have hf := (gdS hf).2
  refine lv_iconst (v := 1) hx hb dX5_lower_8 (by decide) ?_
  refine lv_iadd hx hb dX5_lower_9 ?_
  refine aPut X hP hD hS (q0 := 1) (ws' := (wd_X5_lower cI ad writers year taped at_ statements hasImage isKeeping cursor forgottenWhen rowMany (upd refused (Int32.toNatClampNeg (-x1)) ((refused (Int32.toNatClampNeg (-x1))) + (1 : Int32))))) rfl (gdS hf).1 rfl dX5_lower_10 (fun H locs hP hD hS => ?_)
  have hf := (gdS hf).2
  refine lv_ldc (v := 1000000000) hx hb X.2.2.2.2.1 (X.hts mw_1073) dX5_lower_11 ?_
  refine lv_iload_n hx hb dX5_lower_13 rfl (lv_at hl 1 rfl) ?_
  refine lv_isub hx hb dX5_lower_14 ?_
  have hR := Option.some.inj hf
  subst hR
  exact hret _ _ _ _ _ rfl (fun _ hn => by cases hn; rfl) hP hD hS dX5_lower_15

abbrev wd_X5_bound (cI : ClassId)  : va_W := []
def f_X5_bound (x0 : Int32) (x1 : Int32) (x2 : Int32) : Option (Int32) := (if x1 ≤ x0 then (if x0 ≤ x2 then (some (0 : Int32)) else (some (-6 : Int32))) else (some (-4 : Int32)))
set_option maxHeartbeats 4000000 in
set_option maxRecDepth 100000 in
theorem c_X5_bound (l : Launch) (D : va_G) (cI : ClassId) (aS : aSt) (x0 : Int32) (x1 : Int32) (x2 : Int32) (R : Int32) (hf : f_X5_bound x0 x1 x2 = some R) : CtI l yX5_bound cX5_bound 3 (some .int) 0 D cI aS [.int x0, .int x1, .int x2] (wd_X5_bound cI ) (wd_X5_bound cI ) R := by
  refine ctI_of (by decide) ⟨_, rfl⟩ (Nat.le_of_ble_eq_true rfl) ?_
  intro p e s m below meth c A Q ls X hret hP hD hl
  have hS : va_S A s.heap s.heap [] := va_S.rf
  have hx := X.1
  have hb := X.2.1
  have hl : lv_has ls 3 [(0, .int x0), (1, .int x1), (2, .int x2)] := hl
  replace hf : (if x1 ≤ x0 then (if x0 ≤ x2 then (some (0 : Int32)) else (some (-6 : Int32))) else (some (-4 : Int32))) = some R := hf
  refine lv_iload_n hx hb dX5_bound_0 rfl (lv_at hl 0 rfl) ?_
  refine lv_iload_n hx hb dX5_bound_1 rfl (lv_at hl 1 rfl) ?_
  refine lv_icmp_ge (tgt := 10) hx hb dX5_bound_2 (by decide) (fun c2 => ?_) (fun c2 => ?_)
  · have hf := iT c2 hf
    refine lv_iload_n hx hb dX5_bound_10 rfl (lv_at hl 0 rfl) ?_
    refine lv_iload_n hx hb dX5_bound_11 rfl (lv_at hl 2 rfl) ?_
    refine lv_icmp_le (tgt := 20) hx hb dX5_bound_12 (by decide) (fun c12 => ?_) (fun c12 => ?_)
    · have hf := iT c12 hf
      refine lv_iconst (v := 0) hx hb dX5_bound_20 (by decide) ?_
      have hR := Option.some.inj hf
      subst hR
      exact hret _ _ _ _ _ rfl (fun _ hn => by cases hn; rfl) hP hD hS dX5_bound_21
    · have hf := iF c12 hf
      refine lv_bipush (v := -6) hx hb dX5_bound_15 (by decide) ?_
      refine lv_goto (tgt := 21) hx hb dX5_bound_17 (by decide) ?_
      have hR := Option.some.inj hf
      subst hR
      exact hret _ _ _ _ _ rfl (fun _ hn => by cases hn; rfl) hP hD hS dX5_bound_21
  · have hf := iF c2 hf
    refine lv_bipush (v := -4) hx hb dX5_bound_5 (by decide) ?_
    refine lv_goto (tgt := 21) hx hb dX5_bound_7 (by decide) ?_
    have hR := Option.some.inj hf
    subst hR
    exact hret _ _ _ _ _ rfl (fun _ hn => by cases hn; rfl) hP hD hS dX5_bound_21

abbrev wd_X5_swaps (cI : ClassId) (ad : Nat → Nat) (writers : Int32) (year : Int32) (taped : Int32) (at_ : Int32) (statements : Int32) (hasImage : Int32) (isKeeping : Int32) (cursor : Int32) (forgottenWhen : Int32) (rowMany : Int32) (ring : (Nat → Int32)) : va_W := [((ad 0), .inr (5, [.ref (ad 1), .ref (ad 2), .ref (ad 3), .ref (ad 4), .ref (ad 5), .ref (ad 6), .ref (ad 7), .int writers, .int year, .ref (ad 8), .ref (ad 9), .ref (ad 10), .ref (ad 11), .int taped, .int at_, .int statements, .ref (ad 12), .int hasImage, .int isKeeping, .int cursor, .int forgottenWhen, .ref (ad 13), .ref (ad 14), .ref (ad 15), .int rowMany])), ((ad 7), .inl (cI, 7, .inl ring))]
def f_X5_swaps (ring : (Nat → Int32)) (x1 : Int32) (x2 : Int32) : Option ((Nat → Int32)) := ((f_X5_placeOf ring x1).bind fun (r2 : Int32) => ((f_X5_placeOf ring x2).bind fun (r8 : Int32) => (gd r2 7 (gd r8 7 (some (upd (upd ring (Int32.toNatClampNeg r2) x2) (Int32.toNatClampNeg r8) x1))))))
set_option maxHeartbeats 4000000 in
set_option maxRecDepth 100000 in
theorem c_X5_swaps (l : Launch) (D : va_G) (cI : ClassId) (aS : aSt) (ad : Nat → Nat) (writers : Int32) (year : Int32) (taped : Int32) (at_ : Int32) (statements : Int32) (hasImage : Int32) (isKeeping : Int32) (cursor : Int32) (forgottenWhen : Int32) (rowMany : Int32) (ring : (Nat → Int32)) (x1 : Int32) (x2 : Int32) (R : (Nat → Int32)) (hf : f_X5_swaps ring x1 x2 = some R) : CtV l yX5_swaps cX5_swaps 5 none 1 D cI aS [.ref (ad 0), .int x1, .int x2] (wd_X5_swaps cI ad writers year taped at_ statements hasImage isKeeping cursor forgottenWhen rowMany ring) (wd_X5_swaps cI ad writers year taped at_ statements hasImage isKeeping cursor forgottenWhen rowMany R) := by
  refine ctV_of (by decide) rfl (Nat.le_of_ble_eq_true rfl) ?_
  intro p e s m below meth c A Q ls X hret hP hD hl
  have hS : va_S A s.heap s.heap [] := va_S.rf
  have hx := X.1
  have hb := X.2.1
  have hl : lv_has ls 5 [(0, .ref (ad 0)), (1, .int x1), (2, .int x2)] := hl
  replace hf : ((f_X5_placeOf ring x1).bind fun (r2 : Int32) => ((f_X5_placeOf ring x2).bind fun (r8 : Int32) => (gd r2 7 (gd r8 7 (some (upd (upd ring (Int32.toNatClampNeg r2) x2) (Int32.toNatClampNeg r8) x1)))))) = some R := hf
  refine lv_aload_n hx hb dX5_swaps_0 rfl (lv_at hl 0 rfl) ?_
  refine lv_iload_n hx hb dX5_swaps_1 rfl (lv_at hl 1 rfl) ?_
  obtain ⟨r2, hq2, hf⟩ := bS hf
  refine ro_i X hP hD hS [0, 1] rfl (run_V X hP hD hS [0, 1] rfl rfl (c_X5_placeOf l D cI aS ad writers year taped at_ statements hasImage isKeeping cursor forgottenWhen rowMany ring x1 _ hq2 _) lkX5_159 (by decide) (q0 := 0) rfl rfl rfl rfl (Nat.le_of_ble_eq_true rfl) hl.1 dX5_swaps_2) (fun H locs hP hS => ?_)
  refine lv_istore_n (lv' := [(3, .int r2), (0, .ref (ad 0)), (1, .int x1), (2, .int x2)]) hx hb dX5_swaps_5 rfl hl (by decide) rfl (fun ls hl => ?_)
  refine lv_aload_n hx hb dX5_swaps_6 rfl (lv_at hl 1 rfl) ?_
  refine lv_iload_n hx hb dX5_swaps_7 rfl (lv_at hl 3 rfl) ?_
  obtain ⟨r8, hq8, hf⟩ := bS hf
  refine ro_i X hP hD hS [0, 1] rfl (run_V X hP hD hS [0, 1] rfl rfl (c_X5_placeOf l D cI aS ad writers year taped at_ statements hasImage isKeeping cursor forgottenWhen rowMany ring x2 _ hq8 _) lkX5_159 (by decide) (q0 := 0) rfl rfl rfl rfl (Nat.le_of_ble_eq_true rfl) hl.1 dX5_swaps_8) (fun H locs hP hS => ?_)
  refine lv_istore (lv' := [(4, .int r8), (3, .int r2), (0, .ref (ad 0)), (1, .int x1), (2, .int x2)]) hx hb dX5_swaps_11 hl (by decide) rfl (fun ls hl => ?_)
  refine lv_aload_n hx hb dX5_swaps_13 rfl (lv_at hl 2 rfl) ?_
  refine fgX5_28 X hP (q0 := 0) rfl rfl dX5_swaps_14 ?_
  refine lv_iload_n hx hb dX5_swaps_17 rfl (lv_at hl 1 rfl) ?_
  refine lv_iload_n hx hb dX5_swaps_18 rfl (lv_at hl 4 rfl) ?_
  refine aPut X hP hD hS (q0 := 1) (ws' := (wd_X5_swaps cI ad writers year taped at_ statements hasImage isKeeping cursor forgottenWhen rowMany (upd ring (Int32.toNatClampNeg r2) x2))) rfl (gdS hf).1 rfl dX5_swaps_19 (fun H locs hP hD hS => ?_)
  have hf := (gdS hf).2
  refine lv_aload_n hx hb dX5_swaps_20 rfl (lv_at hl 2 rfl) ?_
  refine fgX5_28 X hP (q0 := 0) rfl rfl dX5_swaps_21 ?_
  refine lv_iload hx hb dX5_swaps_24 (lv_at hl 0 rfl) ?_
  refine lv_iload_n hx hb dX5_swaps_26 rfl (lv_at hl 3 rfl) ?_
  refine aPut X hP hD hS (q0 := 1) (ws' := (wd_X5_swaps cI ad writers year taped at_ statements hasImage isKeeping cursor forgottenWhen rowMany (upd (upd ring (Int32.toNatClampNeg r2) x2) (Int32.toNatClampNeg r8) x1))) rfl (gdS hf).1 rfl dX5_swaps_27 (fun H locs hP hD hS => ?_)
  have hf := (gdS hf).2
  have hR := Option.some.inj hf
  subst hR
  exact hret _ _ _ _ hP hD hS dX5_swaps_28

abbrev wd_X5_lowestOf (cI : ClassId) (ad : Nat → Nat) (writers : Int32) (year : Int32) (taped : Int32) (at_ : Int32) (statements : Int32) (hasImage : Int32) (isKeeping : Int32) (cursor : Int32) (forgottenWhen : Int32) (rowMany : Int32) (refused : (Nat → Int32)) : va_W := [((ad 0), .inr (5, [.ref (ad 1), .ref (ad 2), .ref (ad 3), .ref (ad 4), .ref (ad 5), .ref (ad 6), .ref (ad 7), .int writers, .int year, .ref (ad 8), .ref (ad 9), .ref (ad 10), .ref (ad 11), .int taped, .int at_, .int statements, .ref (ad 12), .int hasImage, .int isKeeping, .int cursor, .int forgottenWhen, .ref (ad 13), .ref (ad 14), .ref (ad 15), .int rowMany])), ((ad 1), .inl (cI, 7, .inl refused))]
def f_X5_lowestOf (refused : (Nat → Int32)) (x1 : Int32) : Option (Int64 × (Nat → Int32)) := (gd (-x1) 7 (gd (-x1) 7 (some (((4000000000000000000 : Int64) - (Int32.toInt64 x1)), (upd refused (Int32.toNatClampNeg (-x1)) ((refused (Int32.toNatClampNeg (-x1))) + (1 : Int32)))))))
set_option maxHeartbeats 4000000 in
set_option maxRecDepth 100000 in
theorem c_X5_lowestOf (l : Launch) (D : va_G) (cI : ClassId) (aS : aSt) (ad : Nat → Nat) (writers : Int32) (year : Int32) (taped : Int32) (at_ : Int32) (statements : Int32) (hasImage : Int32) (isKeeping : Int32) (cursor : Int32) (forgottenWhen : Int32) (rowMany : Int32) (refused : (Nat → Int32)) (x1 : Int32) (R : Int64 × (Nat → Int32)) (hf : f_X5_lowestOf refused x1 = some R) : CtL l yX5_lowestOf cX5_lowestOf 2 (some .long) 0 D cI aS [.ref (ad 0), .int x1] (wd_X5_lowestOf cI ad writers year taped at_ statements hasImage isKeeping cursor forgottenWhen rowMany refused) (wd_X5_lowestOf cI ad writers year taped at_ statements hasImage isKeeping cursor forgottenWhen rowMany R.2) R.1 := by
  refine ctL_of (by decide) rfl (Nat.le_of_ble_eq_true rfl) ?_
  intro p e s m below meth c A Q ls X hret hP hD hl
  have hS : va_S A s.heap s.heap [] := va_S.rf
  have hx := X.1
  have hb := X.2.1
  have hl : lv_has ls 2 [(0, .ref (ad 0)), (1, .int x1)] := hl
  replace hf : (gd (-x1) 7 (gd (-x1) 7 (some (((4000000000000000000 : Int64) - (Int32.toInt64 x1)), (upd refused (Int32.toNatClampNeg (-x1)) ((refused (Int32.toNatClampNeg (-x1))) + (1 : Int32))))))) = some R := hf
  refine lv_aload_n hx hb dX5_lowestOf_0 rfl (lv_at hl 0 rfl) ?_
  refine fgX5_7 X hP (q0 := 0) rfl rfl dX5_lowestOf_1 ?_
  refine lv_iload_n hx hb dX5_lowestOf_4 rfl (lv_at hl 1 rfl) ?_
  refine lv_ineg hx hb dX5_lowestOf_5 ?_
  refine lv_dup2_11 hx hb dX5_lowestOf_6 rfl rfl ?_
  refine aGet X hP (q0 := 1) rfl (gdS hf).1 dX5_lowestOf_7 ?_
  have hf := (gdS hf).2
  refine lv_iconst (v := 1) hx hb dX5_lowestOf_8 (by decide) ?_
  refine lv_iadd hx hb dX5_lowestOf_9 ?_
  refine aPut X hP hD hS (q0 := 1) (ws' := (wd_X5_lowestOf cI ad writers year taped at_ statements hasImage isKeeping cursor forgottenWhen rowMany (upd refused (Int32.toNatClampNeg (-x1)) ((refused (Int32.toNatClampNeg (-x1))) + (1 : Int32))))) rfl (gdS hf).1 rfl dX5_lowestOf_10 (fun H locs hP hD hS => ?_)
  have hf := (gdS hf).2
  refine lv_ldc2 (v := 4000000000000000000) hx hb X.2.2.2.2.1 (X.hts mw_1247) dX5_lowestOf_11 ?_
  refine lv_iload_n hx hb dX5_lowestOf_14 rfl (lv_at hl 1 rfl) ?_
  refine lv_i2l hx hb dX5_lowestOf_15 rfl ?_
  refine lv_lsub hx hb dX5_lowestOf_16 ?_
  have hR := Option.some.inj hf
  subst hR
  exact hret _ _ _ _ _ rfl hP hD hS dX5_lowestOf_17

abbrev wd_X5_has (cI : ClassId)  : va_W := []
def f_X5_has (x0 : Int32) (x1 : Int32) : Option (Int32) := (if ((shrI x0 x1) &&& (1 : Int32)) = (1 : Int32) then (some (1 : Int32)) else (some (0 : Int32)))
set_option maxHeartbeats 4000000 in
set_option maxRecDepth 100000 in
theorem c_X5_has (l : Launch) (D : va_G) (cI : ClassId) (aS : aSt) (x0 : Int32) (x1 : Int32) (R : Int32) (hf : f_X5_has x0 x1 = some R) : CtI l yX5_has cX5_has 2 (some .boolean) 0 D cI aS [.int x0, .int x1] (wd_X5_has cI ) (wd_X5_has cI ) R := by
  refine ctI_of (by decide) ⟨_, rfl⟩ (Nat.le_of_ble_eq_true rfl) ?_
  intro p e s m below meth c A Q ls X hret hP hD hl
  have hS : va_S A s.heap s.heap [] := va_S.rf
  have hx := X.1
  have hb := X.2.1
  have hl : lv_has ls 2 [(0, .int x0), (1, .int x1)] := hl
  replace hf : (if ((shrI x0 x1) &&& (1 : Int32)) = (1 : Int32) then (some (1 : Int32)) else (some (0 : Int32))) = some R := hf
  refine lv_iload_n hx hb dX5_has_0 rfl (lv_at hl 0 rfl) ?_
  refine lv_iload_n hx hb dX5_has_1 rfl (lv_at hl 1 rfl) ?_
  refine x_ishr hx hb dX5_has_2 ?_
  refine lv_iconst (v := 1) hx hb dX5_has_3 (by decide) ?_
  refine lv_iand hx hb dX5_has_4 ?_
  refine lv_iconst (v := 1) hx hb dX5_has_5 (by decide) ?_
  refine lv_icmp_ne (tgt := 13) hx hb dX5_has_6 (by decide) (fun c6 => ?_) (fun c6 => ?_)
  · have hf := iF c6 hf
    refine lv_iconst (v := 0) hx hb dX5_has_13 (by decide) ?_
    have hR := Option.some.inj hf
    subst hR
    exact hret _ _ _ _ _ rfl (fun _ hn => by cases hn; rfl) hP hD hS dX5_has_14
  · have hf := iT c6 hf
    refine lv_iconst (v := 1) hx hb dX5_has_9 (by decide) ?_
    refine lv_goto (tgt := 14) hx hb dX5_has_10 (by decide) ?_
    have hR := Option.some.inj hf
    subst hR
    exact hret _ _ _ _ _ rfl (fun _ hn => by cases hn; rfl) hP hD hS dX5_has_14

abbrev wd_X5_no (cI : ClassId) (ad : Nat → Nat) (writers : Int32) (year : Int32) (taped : Int32) (at_ : Int32) (statements : Int32) (hasImage : Int32) (isKeeping : Int32) (cursor : Int32) (forgottenWhen : Int32) (rowMany : Int32) (refused : (Nat → Int32)) : va_W := [((ad 0), .inr (5, [.ref (ad 1), .ref (ad 2), .ref (ad 3), .ref (ad 4), .ref (ad 5), .ref (ad 6), .ref (ad 7), .int writers, .int year, .ref (ad 8), .ref (ad 9), .ref (ad 10), .ref (ad 11), .int taped, .int at_, .int statements, .ref (ad 12), .int hasImage, .int isKeeping, .int cursor, .int forgottenWhen, .ref (ad 13), .ref (ad 14), .ref (ad 15), .int rowMany])), ((ad 1), .inl (cI, 7, .inl refused))]
def f_X5_no (refused : (Nat → Int32)) (x1 : Int32) : Option (Int32 × (Nat → Int32)) := (gd (-x1) 7 (gd (-x1) 7 (some (x1, (upd refused (Int32.toNatClampNeg (-x1)) ((refused (Int32.toNatClampNeg (-x1))) + (1 : Int32)))))))
set_option maxHeartbeats 4000000 in
set_option maxRecDepth 100000 in
theorem c_X5_no (l : Launch) (D : va_G) (cI : ClassId) (aS : aSt) (ad : Nat → Nat) (writers : Int32) (year : Int32) (taped : Int32) (at_ : Int32) (statements : Int32) (hasImage : Int32) (isKeeping : Int32) (cursor : Int32) (forgottenWhen : Int32) (rowMany : Int32) (refused : (Nat → Int32)) (x1 : Int32) (R : Int32 × (Nat → Int32)) (hf : f_X5_no refused x1 = some R) : CtI l yX5_no cX5_no 2 (some .int) 0 D cI aS [.ref (ad 0), .int x1] (wd_X5_no cI ad writers year taped at_ statements hasImage isKeeping cursor forgottenWhen rowMany refused) (wd_X5_no cI ad writers year taped at_ statements hasImage isKeeping cursor forgottenWhen rowMany R.2) R.1 := by
  refine ctI_of (by decide) ⟨_, rfl⟩ (Nat.le_of_ble_eq_true rfl) ?_
  intro p e s m below meth c A Q ls X hret hP hD hl
  have hS : va_S A s.heap s.heap [] := va_S.rf
  have hx := X.1
  have hb := X.2.1
  have hl : lv_has ls 2 [(0, .ref (ad 0)), (1, .int x1)] := hl
  replace hf : (gd (-x1) 7 (gd (-x1) 7 (some (x1, (upd refused (Int32.toNatClampNeg (-x1)) ((refused (Int32.toNatClampNeg (-x1))) + (1 : Int32))))))) = some R := hf
  refine lv_aload_n hx hb dX5_no_0 rfl (lv_at hl 0 rfl) ?_
  refine fgX5_7 X hP (q0 := 0) rfl rfl dX5_no_1 ?_
  refine lv_iload_n hx hb dX5_no_4 rfl (lv_at hl 1 rfl) ?_
  refine lv_ineg hx hb dX5_no_5 ?_
  refine lv_dup2_11 hx hb dX5_no_6 rfl rfl ?_
  refine aGet X hP (q0 := 1) rfl (gdS hf).1 dX5_no_7 ?_
  have hf := (gdS hf).2
  refine lv_iconst (v := 1) hx hb dX5_no_8 (by decide) ?_
  refine lv_iadd hx hb dX5_no_9 ?_
  refine aPut X hP hD hS (q0 := 1) (ws' := (wd_X5_no cI ad writers year taped at_ statements hasImage isKeeping cursor forgottenWhen rowMany (upd refused (Int32.toNatClampNeg (-x1)) ((refused (Int32.toNatClampNeg (-x1))) + (1 : Int32))))) rfl (gdS hf).1 rfl dX5_no_10 (fun H locs hP hD hS => ?_)
  have hf := (gdS hf).2
  refine lv_iload_n hx hb dX5_no_11 rfl (lv_at hl 1 rfl) ?_
  have hR := Option.some.inj hf
  subst hR
  exact hret _ _ _ _ _ rfl (fun _ hn => by cases hn; rfl) hP hD hS dX5_no_12

abbrev wd_X5_comesWriter (cI : ClassId) (ad : Nat → Nat) (writers : Int32) (year : Int32) (taped : Int32) (at_ : Int32) (statements : Int32) (hasImage : Int32) (isKeeping : Int32) (cursor : Int32) (forgottenWhen : Int32) (rowMany : Int32) (kind : (Nat → Int32)) (figure : (Nat → Int32)) (style : (Nat → Int32)) (fame : (Nat → Int32)) (silent : (Nat → Int32)) (ring : (Nat → Int32)) : va_W := [((ad 0), .inr (5, [.ref (ad 1), .ref (ad 2), .ref (ad 3), .ref (ad 4), .ref (ad 5), .ref (ad 6), .ref (ad 7), .int writers, .int year, .ref (ad 8), .ref (ad 9), .ref (ad 10), .ref (ad 11), .int taped, .int at_, .int statements, .ref (ad 12), .int hasImage, .int isKeeping, .int cursor, .int forgottenWhen, .ref (ad 13), .ref (ad 14), .ref (ad 15), .int rowMany])), ((ad 2), .inl (cI, 7, .inl kind)), ((ad 3), .inl (cI, 7, .inl figure)), ((ad 4), .inl (cI, 7, .inl style)), ((ad 5), .inl (cI, 7, .inl fame)), ((ad 6), .inl (cI, 7, .inl silent)), ((ad 7), .inl (cI, 7, .inl ring))]
def f_X5_comesWriter (writers : Int32) (kind : (Nat → Int32)) (figure : (Nat → Int32)) (style : (Nat → Int32)) (fame : (Nat → Int32)) (silent : (Nat → Int32)) (ring : (Nat → Int32)) (x1 : Int32) (x2 : Int32) (x3 : Int32) : Option (Int32 × Int32 × (Nat → Int32) × (Nat → Int32) × (Nat → Int32) × (Nat → Int32) × (Nat → Int32) × (Nat → Int32)) := (if writers = (7 : Int32) then (some ((0 : Int32), writers, kind, figure, style, fame, silent, ring)) else (gd writers 7 (gd writers 7 (gd writers 7 (gd writers 7 (gd writers 7 (gd writers 7 (some ((1 : Int32), (writers + (1 : Int32)), (upd kind (Int32.toNatClampNeg writers) x1), (upd figure (Int32.toNatClampNeg writers) x2), (upd style (Int32.toNatClampNeg writers) x3), (upd fame (Int32.toNatClampNeg writers) (50 : Int32)), (upd silent (Int32.toNatClampNeg writers) (0 : Int32)), (upd ring (Int32.toNatClampNeg writers) writers))))))))))
set_option maxHeartbeats 4000000 in
set_option maxRecDepth 100000 in
theorem c_X5_comesWriter (l : Launch) (D : va_G) (cI : ClassId) (aS : aSt) (ad : Nat → Nat) (writers : Int32) (year : Int32) (taped : Int32) (at_ : Int32) (statements : Int32) (hasImage : Int32) (isKeeping : Int32) (cursor : Int32) (forgottenWhen : Int32) (rowMany : Int32) (kind : (Nat → Int32)) (figure : (Nat → Int32)) (style : (Nat → Int32)) (fame : (Nat → Int32)) (silent : (Nat → Int32)) (ring : (Nat → Int32)) (x1 : Int32) (x2 : Int32) (x3 : Int32) (R : Int32 × Int32 × (Nat → Int32) × (Nat → Int32) × (Nat → Int32) × (Nat → Int32) × (Nat → Int32) × (Nat → Int32)) (hf : f_X5_comesWriter writers kind figure style fame silent ring x1 x2 x3 = some R) : CtI l yX5_comesWriter cX5_comesWriter 4 (some .boolean) 0 D cI aS [.ref (ad 0), .int x1, .int x2, .int x3] (wd_X5_comesWriter cI ad writers year taped at_ statements hasImage isKeeping cursor forgottenWhen rowMany kind figure style fame silent ring) (wd_X5_comesWriter cI ad R.2.1 year taped at_ statements hasImage isKeeping cursor forgottenWhen rowMany R.2.2.1 R.2.2.2.1 R.2.2.2.2.1 R.2.2.2.2.2.1 R.2.2.2.2.2.2.1 R.2.2.2.2.2.2.2) R.1 := by
  refine ctI_of (by decide) ⟨_, rfl⟩ (Nat.le_of_ble_eq_true rfl) ?_
  intro p e s m below meth c A Q ls X hret hP hD hl
  have hS : va_S A s.heap s.heap [] := va_S.rf
  have hx := X.1
  have hb := X.2.1
  have hl : lv_has ls 4 [(0, .ref (ad 0)), (1, .int x1), (2, .int x2), (3, .int x3)] := hl
  replace hf : (if writers = (7 : Int32) then (some ((0 : Int32), writers, kind, figure, style, fame, silent, ring)) else (gd writers 7 (gd writers 7 (gd writers 7 (gd writers 7 (gd writers 7 (gd writers 7 (some ((1 : Int32), (writers + (1 : Int32)), (upd kind (Int32.toNatClampNeg writers) x1), (upd figure (Int32.toNatClampNeg writers) x2), (upd style (Int32.toNatClampNeg writers) x3), (upd fame (Int32.toNatClampNeg writers) (50 : Int32)), (upd silent (Int32.toNatClampNeg writers) (0 : Int32)), (upd ring (Int32.toNatClampNeg writers) writers)))))))))) = some R := hf
  refine lv_aload_n hx hb dX5_comesWriter_0 rfl (lv_at hl 0 rfl) ?_
  refine fgX5_55 X hP (q0 := 0) rfl rfl dX5_comesWriter_1 ?_
  refine lv_bipush (v := 7) hx hb dX5_comesWriter_4 (by decide) ?_
  refine lv_icmp_ne (tgt := 11) hx hb dX5_comesWriter_6 (by decide) (fun c6 => ?_) (fun c6 => ?_)
  · have hf := iF c6 hf
    refine lv_aload_n hx hb dX5_comesWriter_11 rfl (lv_at hl 0 rfl) ?_
    refine fgX5_13 X hP (q0 := 0) rfl rfl dX5_comesWriter_12 ?_
    refine lv_aload_n hx hb dX5_comesWriter_15 rfl (lv_at hl 0 rfl) ?_
    refine fgX5_55 X hP (q0 := 0) rfl rfl dX5_comesWriter_16 ?_
    refine lv_iload_n hx hb dX5_comesWriter_19 rfl (lv_at hl 1 rfl) ?_
    refine aPut X hP hD hS (q0 := 1) (ws' := (wd_X5_comesWriter cI ad writers year taped at_ statements hasImage isKeeping cursor forgottenWhen rowMany (upd kind (Int32.toNatClampNeg writers) x1) figure style fame silent ring)) rfl (gdS hf).1 rfl dX5_comesWriter_20 (fun H locs hP hD hS => ?_)
    have hf := (gdS hf).2
    refine lv_aload_n hx hb dX5_comesWriter_21 rfl (lv_at hl 0 rfl) ?_
    refine fgX5_16 X hP (q0 := 0) rfl rfl dX5_comesWriter_22 ?_
    refine lv_aload_n hx hb dX5_comesWriter_25 rfl (lv_at hl 0 rfl) ?_
    refine fgX5_55 X hP (q0 := 0) rfl rfl dX5_comesWriter_26 ?_
    refine lv_iload_n hx hb dX5_comesWriter_29 rfl (lv_at hl 2 rfl) ?_
    refine aPut X hP hD hS (q0 := 2) (ws' := (wd_X5_comesWriter cI ad writers year taped at_ statements hasImage isKeeping cursor forgottenWhen rowMany (upd kind (Int32.toNatClampNeg writers) x1) (upd figure (Int32.toNatClampNeg writers) x2) style fame silent ring)) rfl (gdS hf).1 rfl dX5_comesWriter_30 (fun H locs hP hD hS => ?_)
    have hf := (gdS hf).2
    refine lv_aload_n hx hb dX5_comesWriter_31 rfl (lv_at hl 0 rfl) ?_
    refine fgX5_19 X hP (q0 := 0) rfl rfl dX5_comesWriter_32 ?_
    refine lv_aload_n hx hb dX5_comesWriter_35 rfl (lv_at hl 0 rfl) ?_
    refine fgX5_55 X hP (q0 := 0) rfl rfl dX5_comesWriter_36 ?_
    refine lv_iload_n hx hb dX5_comesWriter_39 rfl (lv_at hl 3 rfl) ?_
    refine aPut X hP hD hS (q0 := 3) (ws' := (wd_X5_comesWriter cI ad writers year taped at_ statements hasImage isKeeping cursor forgottenWhen rowMany (upd kind (Int32.toNatClampNeg writers) x1) (upd figure (Int32.toNatClampNeg writers) x2) (upd style (Int32.toNatClampNeg writers) x3) fame silent ring)) rfl (gdS hf).1 rfl dX5_comesWriter_40 (fun H locs hP hD hS => ?_)
    have hf := (gdS hf).2
    refine lv_aload_n hx hb dX5_comesWriter_41 rfl (lv_at hl 0 rfl) ?_
    refine fgX5_22 X hP (q0 := 0) rfl rfl dX5_comesWriter_42 ?_
    refine lv_aload_n hx hb dX5_comesWriter_45 rfl (lv_at hl 0 rfl) ?_
    refine fgX5_55 X hP (q0 := 0) rfl rfl dX5_comesWriter_46 ?_
    refine lv_bipush (v := 50) hx hb dX5_comesWriter_49 (by decide) ?_
    refine aPut X hP hD hS (q0 := 4) (ws' := (wd_X5_comesWriter cI ad writers year taped at_ statements hasImage isKeeping cursor forgottenWhen rowMany (upd kind (Int32.toNatClampNeg writers) x1) (upd figure (Int32.toNatClampNeg writers) x2) (upd style (Int32.toNatClampNeg writers) x3) (upd fame (Int32.toNatClampNeg writers) (50 : Int32)) silent ring)) rfl (gdS hf).1 rfl dX5_comesWriter_51 (fun H locs hP hD hS => ?_)
    have hf := (gdS hf).2
    refine lv_aload_n hx hb dX5_comesWriter_52 rfl (lv_at hl 0 rfl) ?_
    refine fgX5_25 X hP (q0 := 0) rfl rfl dX5_comesWriter_53 ?_
    refine lv_aload_n hx hb dX5_comesWriter_56 rfl (lv_at hl 0 rfl) ?_
    refine fgX5_55 X hP (q0 := 0) rfl rfl dX5_comesWriter_57 ?_
    refine lv_iconst (v := 0) hx hb dX5_comesWriter_60 (by decide) ?_
    refine aPut X hP hD hS (q0 := 5) (ws' := (wd_X5_comesWriter cI ad writers year taped at_ statements hasImage isKeeping cursor forgottenWhen rowMany (upd kind (Int32.toNatClampNeg writers) x1) (upd figure (Int32.toNatClampNeg writers) x2) (upd style (Int32.toNatClampNeg writers) x3) (upd fame (Int32.toNatClampNeg writers) (50 : Int32)) (upd silent (Int32.toNatClampNeg writers) (0 : Int32)) ring)) rfl (gdS hf).1 rfl dX5_comesWriter_61 (fun H locs hP hD hS => ?_)
    have hf := (gdS hf).2
    refine lv_aload_n hx hb dX5_comesWriter_62 rfl (lv_at hl 0 rfl) ?_
    refine fgX5_28 X hP (q0 := 0) rfl rfl dX5_comesWriter_63 ?_
    refine lv_aload_n hx hb dX5_comesWriter_66 rfl (lv_at hl 0 rfl) ?_
    refine fgX5_55 X hP (q0 := 0) rfl rfl dX5_comesWriter_67 ?_
    refine lv_aload_n hx hb dX5_comesWriter_70 rfl (lv_at hl 0 rfl) ?_
    refine fgX5_55 X hP (q0 := 0) rfl rfl dX5_comesWriter_71 ?_
    refine aPut X hP hD hS (q0 := 6) (ws' := (wd_X5_comesWriter cI ad writers year taped at_ statements hasImage isKeeping cursor forgottenWhen rowMany (upd kind (Int32.toNatClampNeg writers) x1) (upd figure (Int32.toNatClampNeg writers) x2) (upd style (Int32.toNatClampNeg writers) x3) (upd fame (Int32.toNatClampNeg writers) (50 : Int32)) (upd silent (Int32.toNatClampNeg writers) (0 : Int32)) (upd ring (Int32.toNatClampNeg writers) writers))) rfl (gdS hf).1 rfl dX5_comesWriter_74 (fun H locs hP hD hS => ?_)
    have hf := (gdS hf).2
    refine lv_aload_n hx hb dX5_comesWriter_75 rfl (lv_at hl 0 rfl) ?_
    refine lv_dup hx hb dX5_comesWriter_76 rfl ?_
    refine fgX5_55 X hP (q0 := 0) rfl rfl dX5_comesWriter_77 ?_
    refine lv_iconst (v := 1) hx hb dX5_comesWriter_80 (by decide) ?_
    refine lv_iadd hx hb dX5_comesWriter_81 ?_
    refine fpX5_55 X hP hD hS (q0 := 0) (ws' := (wd_X5_comesWriter cI ad (writers + (1 : Int32)) year taped at_ statements hasImage isKeeping cursor forgottenWhen rowMany (upd kind (Int32.toNatClampNeg writers) x1) (upd figure (Int32.toNatClampNeg writers) x2) (upd style (Int32.toNatClampNeg writers) x3) (upd fame (Int32.toNatClampNeg writers) (50 : Int32)) (upd silent (Int32.toNatClampNeg writers) (0 : Int32)) (upd ring (Int32.toNatClampNeg writers) writers))) rfl rfl rfl (Nat.le_of_ble_eq_true rfl) rfl dX5_comesWriter_82 (fun H locs hP hD hS => ?_)
    refine lv_iconst (v := 1) hx hb dX5_comesWriter_85 (by decide) ?_
    have hR := Option.some.inj hf
    subst hR
    exact hret _ _ _ _ _ rfl (fun _ hn => by cases hn; rfl) hP hD hS dX5_comesWriter_86
  · have hf := iT c6 hf
    refine lv_iconst (v := 0) hx hb dX5_comesWriter_9 (by decide) ?_
    have hR := Option.some.inj hf
    subst hR
    exact hret _ _ _ _ _ rfl (fun _ hn => by cases hn; rfl) hP hD hS dX5_comesWriter_10

abbrev wd_X5_goes (cI : ClassId) (ad : Nat → Nat) (writers : Int32) (year : Int32) (taped : Int32) (at_ : Int32) (statements : Int32) (hasImage : Int32) (isKeeping : Int32) (cursor : Int32) (forgottenWhen : Int32) (rowMany : Int32) (kind : (Nat → Int32)) (figure : (Nat → Int32)) (style : (Nat → Int32)) (fame : (Nat → Int32)) (silent : (Nat → Int32)) (ring : (Nat → Int32)) : va_W := [((ad 0), .inr (5, [.ref (ad 1), .ref (ad 2), .ref (ad 3), .ref (ad 4), .ref (ad 5), .ref (ad 6), .ref (ad 7), .int writers, .int year, .ref (ad 8), .ref (ad 9), .ref (ad 10), .ref (ad 11), .int taped, .int at_, .int statements, .ref (ad 12), .int hasImage, .int isKeeping, .int cursor, .int forgottenWhen, .ref (ad 13), .ref (ad 14), .ref (ad 15), .int rowMany])), ((ad 2), .inl (cI, 7, .inl kind)), ((ad 3), .inl (cI, 7, .inl figure)), ((ad 4), .inl (cI, 7, .inl style)), ((ad 5), .inl (cI, 7, .inl fame)), ((ad 6), .inl (cI, 7, .inl silent)), ((ad 7), .inl (cI, 7, .inl ring))]
def f_X5_goes_2 (writers : Int32) (kind : (Nat → Int32)) (figure : (Nat → Int32)) (style : (Nat → Int32)) (silent : (Nat → Int32)) (ring : (Nat → Int32)) (x1 : Int32)  : Nat → Int32 → Int32 → (Nat → Int32) → Option (Int32 × (Nat → Int32))
  | 0 => fun _ _ _ => none
  | fuel + 1 => fun v2_2 year_2 fame_2 => (if x1 ≤ v2_2 then (some (year_2, fame_2)) else ((f_X5_goesYear writers year_2 kind figure style fame_2 silent ring (0 : Int32)).bind fun (r9 : Int32 × (Nat → Int32)) => (f_X5_goes_2 writers kind figure style silent ring x1  fuel (v2_2 + (1 : Int32)) r9.1 r9.2)))
theorem e_X5_goes_2 (writers : Int32) (kind : (Nat → Int32)) (figure : (Nat → Int32)) (style : (Nat → Int32)) (silent : (Nat → Int32)) (ring : (Nat → Int32)) (x1 : Int32)  (fuel : Nat) (v2_2 : Int32) (year_2 : Int32) (fame_2 : (Nat → Int32)) : f_X5_goes_2 writers kind figure style silent ring x1  (fuel + 1) v2_2 year_2 fame_2 = (if x1 ≤ v2_2 then (some (year_2, fame_2)) else ((f_X5_goesYear writers year_2 kind figure style fame_2 silent ring (0 : Int32)).bind fun (r9 : Int32 × (Nat → Int32)) => (f_X5_goes_2 writers kind figure style silent ring x1  fuel (v2_2 + (1 : Int32)) r9.1 r9.2))) := rfl
def f_X5_goes (writers : Int32) (year : Int32) (kind : (Nat → Int32)) (figure : (Nat → Int32)) (style : (Nat → Int32)) (fame : (Nat → Int32)) (silent : (Nat → Int32)) (ring : (Nat → Int32)) (x1 : Int32) : Option (Int32 × (Nat → Int32)) := (f_X5_goes_2 writers kind figure style silent ring x1  FU (0 : Int32) year fame)
set_option maxHeartbeats 4000000 in
set_option maxRecDepth 100000 in
theorem w_X5_goes_2 {p : Program} {l : Launch} {e : Env} {s : State} {m : MethodId} {args : Array Value} {below : List Frame} {meth : Method} {c : Code} {D : va_G} {cI : ClassId} {aS : aSt} {A : Nat → Prop} {Q : State → Prop}  (ad : Nat → Nat) (writers : Int32) (taped : Int32) (at_ : Int32) (statements : Int32) (hasImage : Int32) (isKeeping : Int32) (cursor : Int32) (forgottenWhen : Int32) (rowMany : Int32) (kind : (Nat → Int32)) (figure : (Nat → Int32)) (style : (Nat → Int32)) (silent : (Nat → Int32)) (ring : (Nat → Int32)) (x1 : Int32) {R : Int32 × (Nat → Int32)} (X : Bx p s m args meth c cX5_goes 3 none RX5 D cI aS A) (hret : RtV p l e 5 s m args below meth c cX5_goes D A (wd_X5_goes cI ad writers R.1 taped at_ statements hasImage isKeeping cursor forgottenWhen rowMany kind figure style R.2 silent ring) Q) : ∀ (fuel : Nat) (v2_2 : Int32) (year_2 : Int32) (fame_2 : (Nat → Int32)) (H : Heap) (locs : List Loc) (ls : Array Slot), f_X5_goes_2 writers kind figure style silent ring x1  fuel v2_2 year_2 fame_2 = some R → lv_has ls 3 [(0, .ref (ad 0)), (1, .int x1), (2, .int v2_2)] → va_P D vwCl (wd_X5_goes cI ad writers year_2 taped at_ statements hasImage isKeeping cursor forgottenWhen rowMany kind figure style fame_2 silent ring) H → va_D A (wd_X5_goes cI ad writers year_2 taped at_ statements hasImage isKeeping cursor forgottenWhen rowMany kind figure style fame_2 silent ring) → va_S A s.heap H locs → Wh p l e 5 s m args below meth c H locs Q (F0 m 2 ls []) := by
  have hx := X.1
  have hb := X.2.1
  intro fuel
  induction fuel with
  | zero =>
    intro v2_2 year_2 fame_2 H locs ls hf hl hP hD hS
    cases hf
  | succ fuel ih =>
    intro v2_2 year_2 fame_2 H locs ls hf hl hP hD hS
    replace hf : (if x1 ≤ v2_2 then (some (year_2, fame_2)) else ((f_X5_goesYear writers year_2 kind figure style fame_2 silent ring (0 : Int32)).bind fun (r9 : Int32 × (Nat → Int32)) => (f_X5_goes_2 writers kind figure style silent ring x1  fuel (v2_2 + (1 : Int32)) r9.1 r9.2))) = some R := hf
    refine lv_iload_n hx hb dX5_goes_2 rfl (lv_at hl 2 rfl) ?_
    refine lv_iload_n hx hb dX5_goes_3 rfl (lv_at hl 1 rfl) ?_
    refine lv_icmp_ge (tgt := 18) hx hb dX5_goes_4 (by decide) (fun c4 => ?_) (fun c4 => ?_)
    · have hf := iT c4 hf
      have hR := Option.some.inj hf
      subst hR
      exact hret _ _ _ _ hP hD hS dX5_goes_18
    · have hf := iF c4 hf
      refine lv_aload_n hx hb dX5_goes_7 rfl (lv_at hl 0 rfl) ?_
      refine lv_iconst (v := 0) hx hb dX5_goes_8 (by decide) ?_
      obtain ⟨r9, hq9, hf⟩ := bS hf
      refine wr_v X hP hD hS [0, 1, 2, 3, 4, 5, 6] rfl (ws' := (wd_X5_goes cI ad writers r9.1 taped at_ statements hasImage isKeeping cursor forgottenWhen rowMany kind figure style r9.2 silent ring)) (Nat.le_of_ble_eq_true rfl) rfl rfl (run_V X hP hD hS [0, 1, 2, 3, 4, 5, 6] rfl rfl (c_X5_goesYear l D cI aS ad writers year_2 taped at_ statements hasImage isKeeping cursor forgottenWhen rowMany kind figure style fame_2 silent ring (0 : Int32) _ hq9 _) lkX5_189 (by decide) (q0 := 0) rfl rfl rfl rfl (Nat.le_of_ble_eq_true rfl) hl.1 dX5_goes_9) (fun H locs hP hD hS => ?_)
      refine lv_iinc (v := (v2_2 + (1 : Int32))) (lv' := [(2, .int (v2_2 + (1 : Int32))), (0, .ref (ad 0)), (1, .int x1)]) hx hb dX5_goes_12 hl (k := 2) rfl rfl (by decide) rfl (fun ls hl => ?_)
      refine lv_goto (tgt := 2) hx hb dX5_goes_15 (by decide) ?_
      exact ih (v2_2 + (1 : Int32)) r9.1 r9.2 _ _ _ hf (lv_sub hl [1, 2, 0] rfl) hP hD hS
set_option maxHeartbeats 4000000 in
set_option maxRecDepth 100000 in
theorem c_X5_goes (l : Launch) (D : va_G) (cI : ClassId) (aS : aSt) (ad : Nat → Nat) (writers : Int32) (year : Int32) (taped : Int32) (at_ : Int32) (statements : Int32) (hasImage : Int32) (isKeeping : Int32) (cursor : Int32) (forgottenWhen : Int32) (rowMany : Int32) (kind : (Nat → Int32)) (figure : (Nat → Int32)) (style : (Nat → Int32)) (fame : (Nat → Int32)) (silent : (Nat → Int32)) (ring : (Nat → Int32)) (x1 : Int32) (R : Int32 × (Nat → Int32)) (hf : f_X5_goes writers year kind figure style fame silent ring x1 = some R) : CtV l yX5_goes cX5_goes 3 none 5 D cI aS [.ref (ad 0), .int x1] (wd_X5_goes cI ad writers year taped at_ statements hasImage isKeeping cursor forgottenWhen rowMany kind figure style fame silent ring) (wd_X5_goes cI ad writers R.1 taped at_ statements hasImage isKeeping cursor forgottenWhen rowMany kind figure style R.2 silent ring) := by
  refine ctV_of (by decide) rfl (Nat.le_of_ble_eq_true rfl) ?_
  intro p e s m below meth c A Q ls X hret hP hD hl
  have hS : va_S A s.heap s.heap [] := va_S.rf
  have hx := X.1
  have hb := X.2.1
  have hl : lv_has ls 3 [(0, .ref (ad 0)), (1, .int x1)] := hl
  replace hf : (f_X5_goes_2 writers kind figure style silent ring x1  FU (0 : Int32) year fame) = some R := hf
  refine lv_iconst (v := 0) hx hb dX5_goes_0 (by decide) ?_
  refine lv_istore_n (lv' := [(2, .int (0 : Int32)), (0, .ref (ad 0)), (1, .int x1)]) hx hb dX5_goes_1 rfl hl (by decide) rfl (fun ls hl => ?_)
  exact w_X5_goes_2 ad writers taped at_ statements hasImage isKeeping cursor forgottenWhen rowMany kind figure style silent ring x1 X hret  _ (0 : Int32) year fame _ _ _ hf (lv_sub hl [1, 2, 0] rfl) hP hD hS

abbrev wd_X5_comesYears (cI : ClassId) (ad : Nat → Nat) (writers : Int32) (year : Int32) (taped : Int32) (at_ : Int32) (statements : Int32) (hasImage : Int32) (isKeeping : Int32) (cursor : Int32) (forgottenWhen : Int32) (rowMany : Int32) (kind : (Nat → Int32)) (figure : (Nat → Int32)) (style : (Nat → Int32)) (fame : (Nat → Int32)) (silent : (Nat → Int32)) (ring : (Nat → Int32)) : va_W := [((ad 0), .inr (5, [.ref (ad 1), .ref (ad 2), .ref (ad 3), .ref (ad 4), .ref (ad 5), .ref (ad 6), .ref (ad 7), .int writers, .int year, .ref (ad 8), .ref (ad 9), .ref (ad 10), .ref (ad 11), .int taped, .int at_, .int statements, .ref (ad 12), .int hasImage, .int isKeeping, .int cursor, .int forgottenWhen, .ref (ad 13), .ref (ad 14), .ref (ad 15), .int rowMany])), ((ad 2), .inl (cI, 7, .inl kind)), ((ad 3), .inl (cI, 7, .inl figure)), ((ad 4), .inl (cI, 7, .inl style)), ((ad 5), .inl (cI, 7, .inl fame)), ((ad 6), .inl (cI, 7, .inl silent)), ((ad 7), .inl (cI, 7, .inl ring))]
def f_X5_comesYears (writers : Int32) (year : Int32) (kind : (Nat → Int32)) (figure : (Nat → Int32)) (style : (Nat → Int32)) (fame : (Nat → Int32)) (silent : (Nat → Int32)) (ring : (Nat → Int32)) (x1 : Int32) : Option (Int32 × Int32 × (Nat → Int32)) := ((f_X5_isIn x1 (1 : Int32) (60 : Int32)).bind fun (r4 : Int32) => (if r4 = 0 then (some ((0 : Int32), year, fame)) else (if (year + x1) ≤ (999 : Int32) then ((f_X5_goes writers year kind figure style fame silent ring x1).bind fun (r26 : Int32 × (Nat → Int32)) => (some ((1 : Int32), r26.1, r26.2))) else (some ((0 : Int32), year, fame)))))
set_option maxHeartbeats 4000000 in
set_option maxRecDepth 100000 in
theorem c_X5_comesYears (l : Launch) (D : va_G) (cI : ClassId) (aS : aSt) (ad : Nat → Nat) (writers : Int32) (year : Int32) (taped : Int32) (at_ : Int32) (statements : Int32) (hasImage : Int32) (isKeeping : Int32) (cursor : Int32) (forgottenWhen : Int32) (rowMany : Int32) (kind : (Nat → Int32)) (figure : (Nat → Int32)) (style : (Nat → Int32)) (fame : (Nat → Int32)) (silent : (Nat → Int32)) (ring : (Nat → Int32)) (x1 : Int32) (R : Int32 × Int32 × (Nat → Int32)) (hf : f_X5_comesYears writers year kind figure style fame silent ring x1 = some R) : CtI l yX5_comesYears cX5_comesYears 2 (some .boolean) 6 D cI aS [.ref (ad 0), .int x1] (wd_X5_comesYears cI ad writers year taped at_ statements hasImage isKeeping cursor forgottenWhen rowMany kind figure style fame silent ring) (wd_X5_comesYears cI ad writers R.2.1 taped at_ statements hasImage isKeeping cursor forgottenWhen rowMany kind figure style R.2.2 silent ring) R.1 := by
  refine ctI_of (by decide) ⟨_, rfl⟩ (Nat.le_of_ble_eq_true rfl) ?_
  intro p e s m below meth c A Q ls X hret hP hD hl
  have hS : va_S A s.heap s.heap [] := va_S.rf
  have hx := X.1
  have hb := X.2.1
  have hl : lv_has ls 2 [(0, .ref (ad 0)), (1, .int x1)] := hl
  replace hf : ((f_X5_isIn x1 (1 : Int32) (60 : Int32)).bind fun (r4 : Int32) => (if r4 = 0 then (some ((0 : Int32), year, fame)) else (if (year + x1) ≤ (999 : Int32) then ((f_X5_goes writers year kind figure style fame silent ring x1).bind fun (r26 : Int32 × (Nat → Int32)) => (some ((1 : Int32), r26.1, r26.2))) else (some ((0 : Int32), year, fame))))) = some R := hf
  refine lv_iload_n hx hb dX5_comesYears_0 rfl (lv_at hl 1 rfl) ?_
  refine lv_iconst (v := 1) hx hb dX5_comesYears_1 (by decide) ?_
  refine lv_bipush (v := 60) hx hb dX5_comesYears_2 (by decide) ?_
  obtain ⟨r4, hq4, hf⟩ := bS hf
  refine ro_i X hP hD hS [] rfl (run_S X hP hD hS [] rfl rfl (c_X5_isIn l D cI aS x1 (1 : Int32) (60 : Int32) _ hq4 _) lkX5_80 (by decide) rfl rfl (Nat.le_of_ble_eq_true rfl) hl.1 dX5_comesYears_4) (fun H locs hP hS => ?_)
  refine lv_if_eq (tgt := 22) hx hb dX5_comesYears_7 (by decide) (fun c7 => ?_) (fun c7 => ?_)
  · have hf := iT c7 hf
    refine lv_iconst (v := 0) hx hb dX5_comesYears_22 (by decide) ?_
    have hR := Option.some.inj hf
    subst hR
    exact hret _ _ _ _ _ rfl (fun _ hn => by cases hn; rfl) hP hD hS dX5_comesYears_23
  · have hf := iF c7 hf
    refine lv_aload_n hx hb dX5_comesYears_10 rfl (lv_at hl 0 rfl) ?_
    refine fgX5_101 X hP (q0 := 0) rfl rfl dX5_comesYears_11 ?_
    refine lv_iload_n hx hb dX5_comesYears_14 rfl (lv_at hl 1 rfl) ?_
    refine lv_iadd hx hb dX5_comesYears_15 ?_
    refine lv_sipush (v := 999) hx hb dX5_comesYears_16 (by decide) ?_
    refine lv_icmp_le (tgt := 24) hx hb dX5_comesYears_19 (by decide) (fun c19 => ?_) (fun c19 => ?_)
    · have hf := iT c19 hf
      refine lv_aload_n hx hb dX5_comesYears_24 rfl (lv_at hl 0 rfl) ?_
      refine lv_iload_n hx hb dX5_comesYears_25 rfl (lv_at hl 1 rfl) ?_
      obtain ⟨r26, hq26, hf⟩ := bS hf
      refine wr_v X hP hD hS [0, 1, 2, 3, 4, 5, 6] rfl (ws' := (wd_X5_comesYears cI ad writers r26.1 taped at_ statements hasImage isKeeping cursor forgottenWhen rowMany kind figure style r26.2 silent ring)) (Nat.le_of_ble_eq_true rfl) rfl rfl (run_V X hP hD hS [0, 1, 2, 3, 4, 5, 6] rfl rfl (c_X5_goes l D cI aS ad writers year taped at_ statements hasImage isKeeping cursor forgottenWhen rowMany kind figure style fame silent ring x1 _ hq26 _) lkX5_104 (by decide) (q0 := 0) rfl rfl rfl rfl (Nat.le_of_ble_eq_true rfl) hl.1 dX5_comesYears_26) (fun H locs hP hD hS => ?_)
      refine lv_iconst (v := 1) hx hb dX5_comesYears_29 (by decide) ?_
      have hR := Option.some.inj hf
      subst hR
      exact hret _ _ _ _ _ rfl (fun _ hn => by cases hn; rfl) hP hD hS dX5_comesYears_30
    · have hf := iF c19 hf
      refine lv_iconst (v := 0) hx hb dX5_comesYears_22 (by decide) ?_
      have hR := Option.some.inj hf
      subst hR
      exact hret _ _ _ _ _ rfl (fun _ hn => by cases hn; rfl) hP hD hS dX5_comesYears_23

abbrev wd_X5_comesOf (cI : ClassId) (ad : Nat → Nat) (writers : Int32) (year : Int32) (taped : Int32) (at_ : Int32) (statements : Int32) (hasImage : Int32) (isKeeping : Int32) (cursor : Int32) (forgottenWhen : Int32) (rowMany : Int32) (style : (Nat → Int32)) (fame : (Nat → Int32)) (silent : (Nat → Int32)) : va_W := [((ad 0), .inr (5, [.ref (ad 1), .ref (ad 2), .ref (ad 3), .ref (ad 4), .ref (ad 5), .ref (ad 6), .ref (ad 7), .int writers, .int year, .ref (ad 8), .ref (ad 9), .ref (ad 10), .ref (ad 11), .int taped, .int at_, .int statements, .ref (ad 12), .int hasImage, .int isKeeping, .int cursor, .int forgottenWhen, .ref (ad 13), .ref (ad 14), .ref (ad 15), .int rowMany])), ((ad 4), .inl (cI, 7, .inl style)), ((ad 5), .inl (cI, 7, .inl fame)), ((ad 6), .inl (cI, 7, .inl silent))]
def f_X5_comesOf (writers : Int32) (style : (Nat → Int32)) (fame : (Nat → Int32)) (silent : (Nat → Int32)) (x1 : Int32) (x2 : Int32) (x3 : Int32) : Option (Int32 × (Nat → Int32) × (Nat → Int32) × (Nat → Int32)) := ((f_X5_isOne writers x2).bind fun (r2 : Int32) => (if r2 = 0 then (some ((0 : Int32), style, fame, silent)) else (if x1 = (115 : Int32) then (gd x2 7 (gd x2 7 (some ((1 : Int32), style, fame, (upd silent (Int32.toNatClampNeg x2) ((1 : Int32) - (silent (Int32.toNatClampNeg x2)))))))) else (if x1 = (116 : Int32) then (gd x2 7 (some ((1 : Int32), (upd style (Int32.toNatClampNeg x2) x3), fame, silent))) else (gd x2 7 (some ((1 : Int32), style, (upd fame (Int32.toNatClampNeg x2) x3), silent)))))))
set_option maxHeartbeats 4000000 in
set_option maxRecDepth 100000 in
theorem c_X5_comesOf (l : Launch) (D : va_G) (cI : ClassId) (aS : aSt) (ad : Nat → Nat) (writers : Int32) (year : Int32) (taped : Int32) (at_ : Int32) (statements : Int32) (hasImage : Int32) (isKeeping : Int32) (cursor : Int32) (forgottenWhen : Int32) (rowMany : Int32) (style : (Nat → Int32)) (fame : (Nat → Int32)) (silent : (Nat → Int32)) (x1 : Int32) (x2 : Int32) (x3 : Int32) (R : Int32 × (Nat → Int32) × (Nat → Int32) × (Nat → Int32)) (hf : f_X5_comesOf writers style fame silent x1 x2 x3 = some R) : CtI l yX5_comesOf cX5_comesOf 4 (some .boolean) 1 D cI aS [.ref (ad 0), .int x1, .int x2, .int x3] (wd_X5_comesOf cI ad writers year taped at_ statements hasImage isKeeping cursor forgottenWhen rowMany style fame silent) (wd_X5_comesOf cI ad writers year taped at_ statements hasImage isKeeping cursor forgottenWhen rowMany R.2.1 R.2.2.1 R.2.2.2) R.1 := by
  refine ctI_of (by decide) ⟨_, rfl⟩ (Nat.le_of_ble_eq_true rfl) ?_
  intro p e s m below meth c A Q ls X hret hP hD hl
  have hS : va_S A s.heap s.heap [] := va_S.rf
  have hx := X.1
  have hb := X.2.1
  have hl : lv_has ls 4 [(0, .ref (ad 0)), (1, .int x1), (2, .int x2), (3, .int x3)] := hl
  replace hf : ((f_X5_isOne writers x2).bind fun (r2 : Int32) => (if r2 = 0 then (some ((0 : Int32), style, fame, silent)) else (if x1 = (115 : Int32) then (gd x2 7 (gd x2 7 (some ((1 : Int32), style, fame, (upd silent (Int32.toNatClampNeg x2) ((1 : Int32) - (silent (Int32.toNatClampNeg x2)))))))) else (if x1 = (116 : Int32) then (gd x2 7 (some ((1 : Int32), (upd style (Int32.toNatClampNeg x2) x3), fame, silent))) else (gd x2 7 (some ((1 : Int32), style, (upd fame (Int32.toNatClampNeg x2) x3), silent))))))) = some R := hf
  refine lv_aload_n hx hb dX5_comesOf_0 rfl (lv_at hl 0 rfl) ?_
  refine lv_iload_n hx hb dX5_comesOf_1 rfl (lv_at hl 2 rfl) ?_
  obtain ⟨r2, hq2, hf⟩ := bS hf
  refine ro_i X hP hD hS [0] rfl (run_V X hP hD hS [0] rfl rfl (c_X5_isOne l D cI aS ad writers year taped at_ statements hasImage isKeeping cursor forgottenWhen rowMany x2 _ hq2 _) lkX5_108 (by decide) (q0 := 0) rfl rfl rfl rfl (Nat.le_of_ble_eq_true rfl) hl.1 dX5_comesOf_2) (fun H locs hP hS => ?_)
  refine lv_if_ne (tgt := 10) hx hb dX5_comesOf_5 (by decide) (fun c5 => ?_) (fun c5 => ?_)
  · have hf := iF c5 hf
    refine lv_iload_n hx hb dX5_comesOf_10 rfl (lv_at hl 1 rfl) ?_
    refine lv_bipush (v := 115) hx hb dX5_comesOf_11 (by decide) ?_
    refine lv_icmp_ne (tgt := 33) hx hb dX5_comesOf_13 (by decide) (fun c13 => ?_) (fun c13 => ?_)
    · have hf := iF c13 hf
      refine lv_iload_n hx hb dX5_comesOf_33 rfl (lv_at hl 1 rfl) ?_
      refine lv_bipush (v := 116) hx hb dX5_comesOf_34 (by decide) ?_
      refine lv_icmp_ne (tgt := 49) hx hb dX5_comesOf_36 (by decide) (fun c36 => ?_) (fun c36 => ?_)
      · have hf := iF c36 hf
        refine lv_aload_n hx hb dX5_comesOf_49 rfl (lv_at hl 0 rfl) ?_
        refine fgX5_22 X hP (q0 := 0) rfl rfl dX5_comesOf_50 ?_
        refine lv_iload_n hx hb dX5_comesOf_53 rfl (lv_at hl 2 rfl) ?_
        refine lv_iload_n hx hb dX5_comesOf_54 rfl (lv_at hl 3 rfl) ?_
        refine aPut X hP hD hS (q0 := 2) (ws' := (wd_X5_comesOf cI ad writers year taped at_ statements hasImage isKeeping cursor forgottenWhen rowMany style (upd fame (Int32.toNatClampNeg x2) x3) silent)) rfl (gdS hf).1 rfl dX5_comesOf_55 (fun H locs hP hD hS => ?_)
        have hf := (gdS hf).2
        refine lv_iconst (v := 1) hx hb dX5_comesOf_56 (by decide) ?_
        have hR := Option.some.inj hf
        subst hR
        exact hret _ _ _ _ _ rfl (fun _ hn => by cases hn; rfl) hP hD hS dX5_comesOf_57
      · have hf := iT c36 hf
        refine lv_aload_n hx hb dX5_comesOf_39 rfl (lv_at hl 0 rfl) ?_
        refine fgX5_19 X hP (q0 := 0) rfl rfl dX5_comesOf_40 ?_
        refine lv_iload_n hx hb dX5_comesOf_43 rfl (lv_at hl 2 rfl) ?_
        refine lv_iload_n hx hb dX5_comesOf_44 rfl (lv_at hl 3 rfl) ?_
        refine aPut X hP hD hS (q0 := 1) (ws' := (wd_X5_comesOf cI ad writers year taped at_ statements hasImage isKeeping cursor forgottenWhen rowMany (upd style (Int32.toNatClampNeg x2) x3) fame silent)) rfl (gdS hf).1 rfl dX5_comesOf_45 (fun H locs hP hD hS => ?_)
        have hf := (gdS hf).2
        refine lv_goto (tgt := 56) hx hb dX5_comesOf_46 (by decide) ?_
        refine lv_iconst (v := 1) hx hb dX5_comesOf_56 (by decide) ?_
        have hR := Option.some.inj hf
        subst hR
        exact hret _ _ _ _ _ rfl (fun _ hn => by cases hn; rfl) hP hD hS dX5_comesOf_57
    · have hf := iT c13 hf
      refine lv_aload_n hx hb dX5_comesOf_16 rfl (lv_at hl 0 rfl) ?_
      refine fgX5_25 X hP (q0 := 0) rfl rfl dX5_comesOf_17 ?_
      refine lv_iload_n hx hb dX5_comesOf_20 rfl (lv_at hl 2 rfl) ?_
      refine lv_iconst (v := 1) hx hb dX5_comesOf_21 (by decide) ?_
      refine lv_aload_n hx hb dX5_comesOf_22 rfl (lv_at hl 0 rfl) ?_
      refine fgX5_25 X hP (q0 := 0) rfl rfl dX5_comesOf_23 ?_
      refine lv_iload_n hx hb dX5_comesOf_26 rfl (lv_at hl 2 rfl) ?_
      refine aGet X hP (q0 := 3) rfl (gdS hf).1 dX5_comesOf_27 ?_
      have hf := (gdS hf).2
      refine lv_isub hx hb dX5_comesOf_28 ?_
      refine aPut X hP hD hS (q0 := 3) (ws' := (wd_X5_comesOf cI ad writers year taped at_ statements hasImage isKeeping cursor forgottenWhen rowMany style fame (upd silent (Int32.toNatClampNeg x2) ((1 : Int32) - (silent (Int32.toNatClampNeg x2)))))) rfl (gdS hf).1 rfl dX5_comesOf_29 (fun H locs hP hD hS => ?_)
      have hf := (gdS hf).2
      refine lv_goto (tgt := 56) hx hb dX5_comesOf_30 (by decide) ?_
      refine lv_iconst (v := 1) hx hb dX5_comesOf_56 (by decide) ?_
      have hR := Option.some.inj hf
      subst hR
      exact hret _ _ _ _ _ rfl (fun _ hn => by cases hn; rfl) hP hD hS dX5_comesOf_57
  · have hf := iT c5 hf
    refine lv_iconst (v := 0) hx hb dX5_comesOf_8 (by decide) ?_
    have hR := Option.some.inj hf
    subst hR
    exact hret _ _ _ _ _ rfl (fun _ hn => by cases hn; rfl) hP hD hS dX5_comesOf_9

abbrev wd_X5_comes (cI : ClassId) (ad : Nat → Nat) (writers : Int32) (year : Int32) (taped : Int32) (at_ : Int32) (statements : Int32) (hasImage : Int32) (isKeeping : Int32) (cursor : Int32) (forgottenWhen : Int32) (rowMany : Int32) (kind : (Nat → Int32)) (figure : (Nat → Int32)) (style : (Nat → Int32)) (fame : (Nat → Int32)) (silent : (Nat → Int32)) (ring : (Nat → Int32)) (letter : (Nat → Int32)) (told : (Nat → Int32)) : va_W := [((ad 0), .inr (5, [.ref (ad 1), .ref (ad 2), .ref (ad 3), .ref (ad 4), .ref (ad 5), .ref (ad 6), .ref (ad 7), .int writers, .int year, .ref (ad 8), .ref (ad 9), .ref (ad 10), .ref (ad 11), .int taped, .int at_, .int statements, .ref (ad 12), .int hasImage, .int isKeeping, .int cursor, .int forgottenWhen, .ref (ad 13), .ref (ad 14), .ref (ad 15), .int rowMany])), ((ad 2), .inl (cI, 7, .inl kind)), ((ad 3), .inl (cI, 7, .inl figure)), ((ad 4), .inl (cI, 7, .inl style)), ((ad 5), .inl (cI, 7, .inl fame)), ((ad 6), .inl (cI, 7, .inl silent)), ((ad 7), .inl (cI, 7, .inl ring)), ((ad 9), .inl (cI, 48, .inl letter)), ((ad 11), .inl (cI, 144, .inl told))]
def f_X5_comes (writers : Int32) (year : Int32) (kind : (Nat → Int32)) (figure : (Nat → Int32)) (style : (Nat → Int32)) (fame : (Nat → Int32)) (silent : (Nat → Int32)) (ring : (Nat → Int32)) (letter : (Nat → Int32)) (told : (Nat → Int32)) (x1 : Int32) : Option (Int32 × Int32 × Int32 × (Nat → Int32) × (Nat → Int32) × (Nat → Int32) × (Nat → Int32) × (Nat → Int32) × (Nat → Int32)) := (gd x1 48 (if (letter (Int32.toNatClampNeg x1)) = (119 : Int32) then (gd ((3 : Int32) * x1) 144 (gd (((3 : Int32) * x1) + (1 : Int32)) 144 (gd (((3 : Int32) * x1) + (2 : Int32)) 144 ((f_X5_comesWriter writers kind figure style fame silent ring (told (Int32.toNatClampNeg ((3 : Int32) * x1))) (told (Int32.toNatClampNeg (((3 : Int32) * x1) + (1 : Int32)))) (told (Int32.toNatClampNeg (((3 : Int32) * x1) + (2 : Int32))))).bind fun (r59 : Int32 × Int32 × (Nat → Int32) × (Nat → Int32) × (Nat → Int32) × (Nat → Int32) × (Nat → Int32) × (Nat → Int32)) => (gb r59.1 (some (r59.1, r59.2.1, year, r59.2.2.1, r59.2.2.2.1, r59.2.2.2.2.1, r59.2.2.2.2.2.1, r59.2.2.2.2.2.2.1, r59.2.2.2.2.2.2.2))))))) else (if (letter (Int32.toNatClampNeg x1)) = (120 : Int32) then (gd ((3 : Int32) * x1) 144 (gd (((3 : Int32) * x1) + (1 : Int32)) 144 ((f_X5_areTwo writers (told (Int32.toNatClampNeg ((3 : Int32) * x1))) (told (Int32.toNatClampNeg (((3 : Int32) * x1) + (1 : Int32))))).bind fun (r78 : Int32) => (if r78 = 0 then (some ((0 : Int32), writers, year, kind, figure, style, fame, silent, ring)) else (gd ((3 : Int32) * x1) 144 (gd (((3 : Int32) * x1) + (1 : Int32)) 144 ((f_X5_swaps ring (told (Int32.toNatClampNeg ((3 : Int32) * x1))) (told (Int32.toNatClampNeg (((3 : Int32) * x1) + (1 : Int32))))).bind fun (r101 : (Nat → Int32)) => (some ((1 : Int32), writers, year, kind, figure, style, fame, silent, r101))))))))) else (if (letter (Int32.toNatClampNeg x1)) = (121 : Int32) then (gd ((3 : Int32) * x1) 144 ((f_X5_comesYears writers year kind figure style fame silent ring (told (Int32.toNatClampNeg ((3 : Int32) * x1)))).bind fun (r113 : Int32 × Int32 × (Nat → Int32)) => (gb r113.1 (some (r113.1, writers, r113.2.1, kind, figure, style, r113.2.2, silent, ring))))) else (gd x1 48 (gd ((3 : Int32) * x1) 144 (gd (((3 : Int32) * x1) + (1 : Int32)) 144 ((f_X5_comesOf writers style fame silent (letter (Int32.toNatClampNeg x1)) (told (Int32.toNatClampNeg ((3 : Int32) * x1))) (told (Int32.toNatClampNeg (((3 : Int32) * x1) + (1 : Int32))))).bind fun (r138 : Int32 × (Nat → Int32) × (Nat → Int32) × (Nat → Int32)) => (gb r138.1 (some (r138.1, writers, year, kind, figure, r138.2.1, r138.2.2.1, r138.2.2.2, ring)))))))))))
set_option maxHeartbeats 4000000 in
set_option maxRecDepth 100000 in
theorem c_X5_comes (l : Launch) (D : va_G) (cI : ClassId) (aS : aSt) (ad : Nat → Nat) (writers : Int32) (year : Int32) (taped : Int32) (at_ : Int32) (statements : Int32) (hasImage : Int32) (isKeeping : Int32) (cursor : Int32) (forgottenWhen : Int32) (rowMany : Int32) (kind : (Nat → Int32)) (figure : (Nat → Int32)) (style : (Nat → Int32)) (fame : (Nat → Int32)) (silent : (Nat → Int32)) (ring : (Nat → Int32)) (letter : (Nat → Int32)) (told : (Nat → Int32)) (x1 : Int32) (R : Int32 × Int32 × Int32 × (Nat → Int32) × (Nat → Int32) × (Nat → Int32) × (Nat → Int32) × (Nat → Int32) × (Nat → Int32)) (hf : f_X5_comes writers year kind figure style fame silent ring letter told x1 = some R) : CtI l yX5_comes cX5_comes 3 (some .boolean) 7 D cI aS [.ref (ad 0), .int x1] (wd_X5_comes cI ad writers year taped at_ statements hasImage isKeeping cursor forgottenWhen rowMany kind figure style fame silent ring letter told) (wd_X5_comes cI ad R.2.1 R.2.2.1 taped at_ statements hasImage isKeeping cursor forgottenWhen rowMany R.2.2.2.1 R.2.2.2.2.1 R.2.2.2.2.2.1 R.2.2.2.2.2.2.1 R.2.2.2.2.2.2.2.1 R.2.2.2.2.2.2.2.2 letter told) R.1 := by
  refine ctI_of (by decide) ⟨_, rfl⟩ (Nat.le_of_ble_eq_true rfl) ?_
  intro p e s m below meth c A Q ls X hret hP hD hl
  have hS : va_S A s.heap s.heap [] := va_S.rf
  have hx := X.1
  have hb := X.2.1
  have hl : lv_has ls 3 [(0, .ref (ad 0)), (1, .int x1)] := hl
  replace hf : (gd x1 48 (if (letter (Int32.toNatClampNeg x1)) = (119 : Int32) then (gd ((3 : Int32) * x1) 144 (gd (((3 : Int32) * x1) + (1 : Int32)) 144 (gd (((3 : Int32) * x1) + (2 : Int32)) 144 ((f_X5_comesWriter writers kind figure style fame silent ring (told (Int32.toNatClampNeg ((3 : Int32) * x1))) (told (Int32.toNatClampNeg (((3 : Int32) * x1) + (1 : Int32)))) (told (Int32.toNatClampNeg (((3 : Int32) * x1) + (2 : Int32))))).bind fun (r59 : Int32 × Int32 × (Nat → Int32) × (Nat → Int32) × (Nat → Int32) × (Nat → Int32) × (Nat → Int32) × (Nat → Int32)) => (gb r59.1 (some (r59.1, r59.2.1, year, r59.2.2.1, r59.2.2.2.1, r59.2.2.2.2.1, r59.2.2.2.2.2.1, r59.2.2.2.2.2.2.1, r59.2.2.2.2.2.2.2))))))) else (if (letter (Int32.toNatClampNeg x1)) = (120 : Int32) then (gd ((3 : Int32) * x1) 144 (gd (((3 : Int32) * x1) + (1 : Int32)) 144 ((f_X5_areTwo writers (told (Int32.toNatClampNeg ((3 : Int32) * x1))) (told (Int32.toNatClampNeg (((3 : Int32) * x1) + (1 : Int32))))).bind fun (r78 : Int32) => (if r78 = 0 then (some ((0 : Int32), writers, year, kind, figure, style, fame, silent, ring)) else (gd ((3 : Int32) * x1) 144 (gd (((3 : Int32) * x1) + (1 : Int32)) 144 ((f_X5_swaps ring (told (Int32.toNatClampNeg ((3 : Int32) * x1))) (told (Int32.toNatClampNeg (((3 : Int32) * x1) + (1 : Int32))))).bind fun (r101 : (Nat → Int32)) => (some ((1 : Int32), writers, year, kind, figure, style, fame, silent, r101))))))))) else (if (letter (Int32.toNatClampNeg x1)) = (121 : Int32) then (gd ((3 : Int32) * x1) 144 ((f_X5_comesYears writers year kind figure style fame silent ring (told (Int32.toNatClampNeg ((3 : Int32) * x1)))).bind fun (r113 : Int32 × Int32 × (Nat → Int32)) => (gb r113.1 (some (r113.1, writers, r113.2.1, kind, figure, style, r113.2.2, silent, ring))))) else (gd x1 48 (gd ((3 : Int32) * x1) 144 (gd (((3 : Int32) * x1) + (1 : Int32)) 144 ((f_X5_comesOf writers style fame silent (letter (Int32.toNatClampNeg x1)) (told (Int32.toNatClampNeg ((3 : Int32) * x1))) (told (Int32.toNatClampNeg (((3 : Int32) * x1) + (1 : Int32))))).bind fun (r138 : Int32 × (Nat → Int32) × (Nat → Int32) × (Nat → Int32)) => (gb r138.1 (some (r138.1, writers, year, kind, figure, r138.2.1, r138.2.2.1, r138.2.2.2, ring))))))))))) = some R := hf
  refine lv_iconst (v := 3) hx hb dX5_comes_0 (by decide) ?_
  refine lv_iload_n hx hb dX5_comes_1 rfl (lv_at hl 1 rfl) ?_
  refine lv_imul hx hb dX5_comes_2 ?_
  refine lv_istore_n (lv' := [(2, .int ((3 : Int32) * x1)), (0, .ref (ad 0)), (1, .int x1)]) hx hb dX5_comes_3 rfl hl (by decide) rfl (fun ls hl => ?_)
  refine lv_aload_n hx hb dX5_comes_4 rfl (lv_at hl 1 rfl) ?_
  refine fgX5_34 X hP (q0 := 0) rfl rfl dX5_comes_5 ?_
  refine lv_iload_n hx hb dX5_comes_8 rfl (lv_at hl 2 rfl) ?_
  refine aGet X hP (q0 := 7) rfl (gdS hf).1 dX5_comes_9 ?_
  have hf := (gdS hf).2
  by_cases c10_0 : (letter (Int32.toNatClampNeg x1)) = (119 : Int32)
  · have hf := iT c10_0 hf
    refine tsIn (tgt := 36) (off := 26) hx hb dX5_comes_10 c10_0 (by decide) (by decide) (by decide) (by decide) ?_
    refine lv_aload_n hx hb dX5_comes_36 rfl (lv_at hl 1 rfl) ?_
    refine lv_aload_n hx hb dX5_comes_37 rfl (lv_at hl 1 rfl) ?_
    refine fgX5_40 X hP (q0 := 0) rfl rfl dX5_comes_38 ?_
    refine lv_iload_n hx hb dX5_comes_41 rfl (lv_at hl 0 rfl) ?_
    refine aGet X hP (q0 := 8) rfl (gdS hf).1 dX5_comes_42 ?_
    have hf := (gdS hf).2
    refine lv_aload_n hx hb dX5_comes_43 rfl (lv_at hl 1 rfl) ?_
    refine fgX5_40 X hP (q0 := 0) rfl rfl dX5_comes_44 ?_
    refine lv_iload_n hx hb dX5_comes_47 rfl (lv_at hl 0 rfl) ?_
    refine lv_iconst (v := 1) hx hb dX5_comes_48 (by decide) ?_
    refine lv_iadd hx hb dX5_comes_49 ?_
    refine aGet X hP (q0 := 8) rfl (gdS hf).1 dX5_comes_50 ?_
    have hf := (gdS hf).2
    refine lv_aload_n hx hb dX5_comes_51 rfl (lv_at hl 1 rfl) ?_
    refine fgX5_40 X hP (q0 := 0) rfl rfl dX5_comes_52 ?_
    refine lv_iload_n hx hb dX5_comes_55 rfl (lv_at hl 0 rfl) ?_
    refine lv_iconst (v := 2) hx hb dX5_comes_56 (by decide) ?_
    refine lv_iadd hx hb dX5_comes_57 ?_
    refine aGet X hP (q0 := 8) rfl (gdS hf).1 dX5_comes_58 ?_
    have hf := (gdS hf).2
    obtain ⟨r59, hq59, hf⟩ := bS hf
    refine wr_i X hP hD hS [0, 1, 2, 3, 4, 5, 6] rfl (ws' := (wd_X5_comes cI ad r59.2.1 year taped at_ statements hasImage isKeeping cursor forgottenWhen rowMany r59.2.2.1 r59.2.2.2.1 r59.2.2.2.2.1 r59.2.2.2.2.2.1 r59.2.2.2.2.2.2.1 r59.2.2.2.2.2.2.2 letter told)) (Nat.le_of_ble_eq_true rfl) rfl rfl (run_V X hP hD hS [0, 1, 2, 3, 4, 5, 6] rfl rfl (c_X5_comesWriter l D cI aS ad writers year taped at_ statements hasImage isKeeping cursor forgottenWhen rowMany kind figure style fame silent ring (told (Int32.toNatClampNeg ((3 : Int32) * x1))) (told (Int32.toNatClampNeg (((3 : Int32) * x1) + (1 : Int32)))) (told (Int32.toNatClampNeg (((3 : Int32) * x1) + (2 : Int32)))) _ hq59 _) lkX5_111 (by decide) (q0 := 0) rfl rfl rfl rfl (Nat.le_of_ble_eq_true rfl) hl.1 dX5_comes_59) (fun H locs hP hD hS => ?_)
    have hn1 := (gbS hf).1
    have hf := (gbS hf).2
    have hR := Option.some.inj hf
    subst hR
    exact hret _ _ _ _ _ rfl (fun _ hn => by cases hn; exact hn1) hP hD hS dX5_comes_62
  have hf := iF c10_0 hf
  by_cases c10_1 : (letter (Int32.toNatClampNeg x1)) = (120 : Int32)
  · have hf := iT c10_1 hf
    refine tsIn (tgt := 63) (off := 53) hx hb dX5_comes_10 c10_1 (by decide) (by decide) (by decide) (by decide) ?_
    refine lv_aload_n hx hb dX5_comes_63 rfl (lv_at hl 1 rfl) ?_
    refine lv_aload_n hx hb dX5_comes_64 rfl (lv_at hl 1 rfl) ?_
    refine fgX5_40 X hP (q0 := 0) rfl rfl dX5_comes_65 ?_
    refine lv_iload_n hx hb dX5_comes_68 rfl (lv_at hl 0 rfl) ?_
    refine aGet X hP (q0 := 8) rfl (gdS hf).1 dX5_comes_69 ?_
    have hf := (gdS hf).2
    refine lv_aload_n hx hb dX5_comes_70 rfl (lv_at hl 1 rfl) ?_
    refine fgX5_40 X hP (q0 := 0) rfl rfl dX5_comes_71 ?_
    refine lv_iload_n hx hb dX5_comes_74 rfl (lv_at hl 0 rfl) ?_
    refine lv_iconst (v := 1) hx hb dX5_comes_75 (by decide) ?_
    refine lv_iadd hx hb dX5_comes_76 ?_
    refine aGet X hP (q0 := 8) rfl (gdS hf).1 dX5_comes_77 ?_
    have hf := (gdS hf).2
    obtain ⟨r78, hq78, hf⟩ := bS hf
    refine ro_i X hP hD hS [0] rfl (run_V X hP hD hS [0] rfl rfl (c_X5_areTwo l D cI aS ad writers year taped at_ statements hasImage isKeeping cursor forgottenWhen rowMany (told (Int32.toNatClampNeg ((3 : Int32) * x1))) (told (Int32.toNatClampNeg (((3 : Int32) * x1) + (1 : Int32)))) _ hq78 _) lkX5_114 (by decide) (q0 := 0) rfl rfl rfl rfl (Nat.le_of_ble_eq_true rfl) hl.1 dX5_comes_78) (fun H locs hP hS => ?_)
    refine lv_if_ne (tgt := 86) hx hb dX5_comes_81 (by decide) (fun c81 => ?_) (fun c81 => ?_)
    · have hf := iF c81 hf
      refine lv_aload_n hx hb dX5_comes_86 rfl (lv_at hl 1 rfl) ?_
      refine lv_aload_n hx hb dX5_comes_87 rfl (lv_at hl 1 rfl) ?_
      refine fgX5_40 X hP (q0 := 0) rfl rfl dX5_comes_88 ?_
      refine lv_iload_n hx hb dX5_comes_91 rfl (lv_at hl 0 rfl) ?_
      refine aGet X hP (q0 := 8) rfl (gdS hf).1 dX5_comes_92 ?_
      have hf := (gdS hf).2
      refine lv_aload_n hx hb dX5_comes_93 rfl (lv_at hl 1 rfl) ?_
      refine fgX5_40 X hP (q0 := 0) rfl rfl dX5_comes_94 ?_
      refine lv_iload_n hx hb dX5_comes_97 rfl (lv_at hl 0 rfl) ?_
      refine lv_iconst (v := 1) hx hb dX5_comes_98 (by decide) ?_
      refine lv_iadd hx hb dX5_comes_99 ?_
      refine aGet X hP (q0 := 8) rfl (gdS hf).1 dX5_comes_100 ?_
      have hf := (gdS hf).2
      obtain ⟨r101, hq101, hf⟩ := bS hf
      refine wr_v X hP hD hS [0, 6] rfl (ws' := (wd_X5_comes cI ad writers year taped at_ statements hasImage isKeeping cursor forgottenWhen rowMany kind figure style fame silent r101 letter told)) (Nat.le_of_ble_eq_true rfl) rfl rfl (run_V X hP hD hS [0, 6] rfl rfl (c_X5_swaps l D cI aS ad writers year taped at_ statements hasImage isKeeping cursor forgottenWhen rowMany ring (told (Int32.toNatClampNeg ((3 : Int32) * x1))) (told (Int32.toNatClampNeg (((3 : Int32) * x1) + (1 : Int32)))) _ hq101 _) lkX5_117 (by decide) (q0 := 0) rfl rfl rfl rfl (Nat.le_of_ble_eq_true rfl) hl.1 dX5_comes_101) (fun H locs hP hD hS => ?_)
      refine lv_iconst (v := 1) hx hb dX5_comes_104 (by decide) ?_
      have hR := Option.some.inj hf
      subst hR
      exact hret _ _ _ _ _ rfl (fun _ hn => by cases hn; rfl) hP hD hS dX5_comes_105
    · have hf := iT c81 hf
      refine lv_iconst (v := 0) hx hb dX5_comes_84 (by decide) ?_
      have hR := Option.some.inj hf
      subst hR
      exact hret _ _ _ _ _ rfl (fun _ hn => by cases hn; rfl) hP hD hS dX5_comes_85
  have hf := iF c10_1 hf
  by_cases c10_2 : (letter (Int32.toNatClampNeg x1)) = (121 : Int32)
  · have hf := iT c10_2 hf
    refine tsIn (tgt := 106) (off := 96) hx hb dX5_comes_10 c10_2 (by decide) (by decide) (by decide) (by decide) ?_
    refine lv_aload_n hx hb dX5_comes_106 rfl (lv_at hl 1 rfl) ?_
    refine lv_aload_n hx hb dX5_comes_107 rfl (lv_at hl 1 rfl) ?_
    refine fgX5_40 X hP (q0 := 0) rfl rfl dX5_comes_108 ?_
    refine lv_iload_n hx hb dX5_comes_111 rfl (lv_at hl 0 rfl) ?_
    refine aGet X hP (q0 := 8) rfl (gdS hf).1 dX5_comes_112 ?_
    have hf := (gdS hf).2
    obtain ⟨r113, hq113, hf⟩ := bS hf
    refine wr_i X hP hD hS [0, 1, 2, 3, 4, 5, 6] rfl (ws' := (wd_X5_comes cI ad writers r113.2.1 taped at_ statements hasImage isKeeping cursor forgottenWhen rowMany kind figure style r113.2.2 silent ring letter told)) (Nat.le_of_ble_eq_true rfl) rfl rfl (run_V X hP hD hS [0, 1, 2, 3, 4, 5, 6] rfl rfl (c_X5_comesYears l D cI aS ad writers year taped at_ statements hasImage isKeeping cursor forgottenWhen rowMany kind figure style fame silent ring (told (Int32.toNatClampNeg ((3 : Int32) * x1))) _ hq113 _) lkX5_121 (by decide) (q0 := 0) rfl rfl rfl rfl (Nat.le_of_ble_eq_true rfl) hl.1 dX5_comes_113) (fun H locs hP hD hS => ?_)
    have hn1 := (gbS hf).1
    have hf := (gbS hf).2
    have hR := Option.some.inj hf
    subst hR
    exact hret _ _ _ _ _ rfl (fun _ hn => by cases hn; exact hn1) hP hD hS dX5_comes_116
  have hf := iF c10_2 hf
  refine tsD (keys := [119, 120, 121]) (tgt := 117) hx hb dX5_comes_10 (List.forall_mem_cons.mpr ⟨i32ne c10_0 (by decide), (List.forall_mem_cons.mpr ⟨i32ne c10_1 (by decide), (List.forall_mem_cons.mpr ⟨i32ne c10_2 (by decide), (fun _ h => absurd h List.not_mem_nil)⟩)⟩)⟩) (by decide) (by decide) (by decide) ?_
  refine lv_aload_n hx hb dX5_comes_117 rfl (lv_at hl 1 rfl) ?_
  refine lv_aload_n hx hb dX5_comes_118 rfl (lv_at hl 1 rfl) ?_
  refine fgX5_34 X hP (q0 := 0) rfl rfl dX5_comes_119 ?_
  refine lv_iload_n hx hb dX5_comes_122 rfl (lv_at hl 2 rfl) ?_
  refine aGet X hP (q0 := 7) rfl (gdS hf).1 dX5_comes_123 ?_
  have hf := (gdS hf).2
  refine lv_aload_n hx hb dX5_comes_124 rfl (lv_at hl 1 rfl) ?_
  refine fgX5_40 X hP (q0 := 0) rfl rfl dX5_comes_125 ?_
  refine lv_iload_n hx hb dX5_comes_128 rfl (lv_at hl 0 rfl) ?_
  refine aGet X hP (q0 := 8) rfl (gdS hf).1 dX5_comes_129 ?_
  have hf := (gdS hf).2
  refine lv_aload_n hx hb dX5_comes_130 rfl (lv_at hl 1 rfl) ?_
  refine fgX5_40 X hP (q0 := 0) rfl rfl dX5_comes_131 ?_
  refine lv_iload_n hx hb dX5_comes_134 rfl (lv_at hl 0 rfl) ?_
  refine lv_iconst (v := 1) hx hb dX5_comes_135 (by decide) ?_
  refine lv_iadd hx hb dX5_comes_136 ?_
  refine aGet X hP (q0 := 8) rfl (gdS hf).1 dX5_comes_137 ?_
  have hf := (gdS hf).2
  obtain ⟨r138, hq138, hf⟩ := bS hf
  refine wr_i X hP hD hS [0, 3, 4, 5] rfl (ws' := (wd_X5_comes cI ad writers year taped at_ statements hasImage isKeeping cursor forgottenWhen rowMany kind figure r138.2.1 r138.2.2.1 r138.2.2.2 ring letter told)) (Nat.le_of_ble_eq_true rfl) rfl rfl (run_V X hP hD hS [0, 3, 4, 5] rfl rfl (c_X5_comesOf l D cI aS ad writers year taped at_ statements hasImage isKeeping cursor forgottenWhen rowMany style fame silent (letter (Int32.toNatClampNeg x1)) (told (Int32.toNatClampNeg ((3 : Int32) * x1))) (told (Int32.toNatClampNeg (((3 : Int32) * x1) + (1 : Int32)))) _ hq138 _) lkX5_124 (by decide) (q0 := 0) rfl rfl rfl rfl (Nat.le_of_ble_eq_true rfl) hl.1 dX5_comes_138) (fun H locs hP hD hS => ?_)
  have hn1 := (gbS hf).1
  have hf := (gbS hf).2
  have hR := Option.some.inj hf
  subst hR
  exact hret _ _ _ _ _ rfl (fun _ hn => by cases hn; exact hn1) hP hD hS dX5_comes_141

abbrev wd_X5_writing (cI : ClassId) (ad : Nat → Nat) (writers : Int32) (year : Int32) (taped : Int32) (at_ : Int32) (statements : Int32) (hasImage : Int32) (isKeeping : Int32) (cursor : Int32) (forgottenWhen : Int32) (rowMany : Int32) (silent : (Nat → Int32)) : va_W := [((ad 0), .inr (5, [.ref (ad 1), .ref (ad 2), .ref (ad 3), .ref (ad 4), .ref (ad 5), .ref (ad 6), .ref (ad 7), .int writers, .int year, .ref (ad 8), .ref (ad 9), .ref (ad 10), .ref (ad 11), .int taped, .int at_, .int statements, .ref (ad 12), .int hasImage, .int isKeeping, .int cursor, .int forgottenWhen, .ref (ad 13), .ref (ad 14), .ref (ad 15), .int rowMany])), ((ad 6), .inl (cI, 7, .inl silent))]
def f_X5_writing_4 (writers : Int32) (silent : (Nat → Int32))  : Nat → Int32 → Int32 → Option (Int32)
  | 0 => fun _ _ => none
  | fuel + 1 => fun v1_4 v2_4 => (if writers ≤ v2_4 then (some v1_4) else (gd v2_4 7 (f_X5_writing_4 writers silent  fuel (v1_4 ||| (shlI ((1 : Int32) - (silent (Int32.toNatClampNeg v2_4))) v2_4)) (v2_4 + (1 : Int32)))))
theorem e_X5_writing_4 (writers : Int32) (silent : (Nat → Int32))  (fuel : Nat) (v1_4 : Int32) (v2_4 : Int32) : f_X5_writing_4 writers silent  (fuel + 1) v1_4 v2_4 = (if writers ≤ v2_4 then (some v1_4) else (gd v2_4 7 (f_X5_writing_4 writers silent  fuel (v1_4 ||| (shlI ((1 : Int32) - (silent (Int32.toNatClampNeg v2_4))) v2_4)) (v2_4 + (1 : Int32))))) := rfl
def f_X5_writing (writers : Int32) (silent : (Nat → Int32)) : Option (Int32) := (f_X5_writing_4 writers silent  FU (0 : Int32) (0 : Int32))
set_option maxHeartbeats 4000000 in
set_option maxRecDepth 100000 in
theorem w_X5_writing_4 {p : Program} {l : Launch} {e : Env} {s : State} {m : MethodId} {args : Array Value} {below : List Frame} {meth : Method} {c : Code} {D : va_G} {cI : ClassId} {aS : aSt} {A : Nat → Prop} {Q : State → Prop}  (ad : Nat → Nat) (writers : Int32) (year : Int32) (taped : Int32) (at_ : Int32) (statements : Int32) (hasImage : Int32) (isKeeping : Int32) (cursor : Int32) (forgottenWhen : Int32) (rowMany : Int32) (silent : (Nat → Int32)) {R : Int32} (X : Bx p s m args meth c cX5_writing 3 (some .int) RX5 D cI aS A) (hret : RtI p l e 0 s m args below meth c cX5_writing (some .int) D A (wd_X5_writing cI ad writers year taped at_ statements hasImage isKeeping cursor forgottenWhen rowMany silent) R Q) : ∀ (fuel : Nat) (v1_4 : Int32) (v2_4 : Int32) (H : Heap) (locs : List Loc) (ls : Array Slot), f_X5_writing_4 writers silent  fuel v1_4 v2_4 = some R → lv_has ls 3 [(0, .ref (ad 0)), (1, .int v1_4), (2, .int v2_4)] → va_P D vwCl (wd_X5_writing cI ad writers year taped at_ statements hasImage isKeeping cursor forgottenWhen rowMany silent) H → va_D A (wd_X5_writing cI ad writers year taped at_ statements hasImage isKeeping cursor forgottenWhen rowMany silent) → va_S A s.heap H locs → Wh p l e 0 s m args below meth c H locs Q (F0 m 4 ls []) := by
  have hx := X.1
  have hb := X.2.1
  intro fuel
  induction fuel with
  | zero =>
    intro v1_4 v2_4 H locs ls hf hl hP hD hS
    cases hf
  | succ fuel ih =>
    intro v1_4 v2_4 H locs ls hf hl hP hD hS
    replace hf : (if writers ≤ v2_4 then (some v1_4) else (gd v2_4 7 (f_X5_writing_4 writers silent  fuel (v1_4 ||| (shlI ((1 : Int32) - (silent (Int32.toNatClampNeg v2_4))) v2_4)) (v2_4 + (1 : Int32))))) = some R := hf
    refine lv_iload_n hx hb dX5_writing_4 rfl (lv_at hl 2 rfl) ?_
    refine lv_aload_n hx hb dX5_writing_5 rfl (lv_at hl 0 rfl) ?_
    refine fgX5_55 X hP (q0 := 0) rfl rfl dX5_writing_6 ?_
    refine lv_icmp_ge (tgt := 31) hx hb dX5_writing_9 (by decide) (fun c9 => ?_) (fun c9 => ?_)
    · have hf := iT c9 hf
      refine lv_iload_n hx hb dX5_writing_31 rfl (lv_at hl 1 rfl) ?_
      have hR := Option.some.inj hf
      subst hR
      exact hret _ _ _ _ _ rfl (fun _ hn => by cases hn; rfl) hP hD hS dX5_writing_32
    · have hf := iF c9 hf
      refine lv_iload_n hx hb dX5_writing_12 rfl (lv_at hl 1 rfl) ?_
      refine lv_iconst (v := 1) hx hb dX5_writing_13 (by decide) ?_
      refine lv_aload_n hx hb dX5_writing_14 rfl (lv_at hl 0 rfl) ?_
      refine fgX5_25 X hP (q0 := 0) rfl rfl dX5_writing_15 ?_
      refine lv_iload_n hx hb dX5_writing_18 rfl (lv_at hl 2 rfl) ?_
      refine aGet X hP (q0 := 1) rfl (gdS hf).1 dX5_writing_19 ?_
      have hf := (gdS hf).2
      refine lv_isub hx hb dX5_writing_20 ?_
      refine lv_iload_n hx hb dX5_writing_21 rfl (lv_at hl 2 rfl) ?_
      refine x_ishl hx hb dX5_writing_22 ?_
      refine lv_ior hx hb dX5_writing_23 ?_
      refine lv_istore_n (lv' := [(1, .int (v1_4 ||| (shlI ((1 : Int32) - (silent (Int32.toNatClampNeg v2_4))) v2_4))), (0, .ref (ad 0)), (2, .int v2_4)]) hx hb dX5_writing_24 rfl hl (by decide) rfl (fun ls hl => ?_)
      refine lv_iinc (v := (v2_4 + (1 : Int32))) (lv' := [(2, .int (v2_4 + (1 : Int32))), (1, .int (v1_4 ||| (shlI ((1 : Int32) - (silent (Int32.toNatClampNeg v2_4))) v2_4))), (0, .ref (ad 0))]) hx hb dX5_writing_25 hl (k := 2) rfl rfl (by decide) rfl (fun ls hl => ?_)
      refine lv_goto (tgt := 4) hx hb dX5_writing_28 (by decide) ?_
      exact ih (v1_4 ||| (shlI ((1 : Int32) - (silent (Int32.toNatClampNeg v2_4))) v2_4)) (v2_4 + (1 : Int32)) _ _ _ hf (lv_sub hl [2, 1, 0] rfl) hP hD hS
set_option maxHeartbeats 4000000 in
set_option maxRecDepth 100000 in
theorem c_X5_writing (l : Launch) (D : va_G) (cI : ClassId) (aS : aSt) (ad : Nat → Nat) (writers : Int32) (year : Int32) (taped : Int32) (at_ : Int32) (statements : Int32) (hasImage : Int32) (isKeeping : Int32) (cursor : Int32) (forgottenWhen : Int32) (rowMany : Int32) (silent : (Nat → Int32)) (R : Int32) (hf : f_X5_writing writers silent = some R) : CtI l yX5_writing cX5_writing 3 (some .int) 0 D cI aS [.ref (ad 0)] (wd_X5_writing cI ad writers year taped at_ statements hasImage isKeeping cursor forgottenWhen rowMany silent) (wd_X5_writing cI ad writers year taped at_ statements hasImage isKeeping cursor forgottenWhen rowMany silent) R := by
  refine ctI_of (by decide) ⟨_, rfl⟩ (Nat.le_of_ble_eq_true rfl) ?_
  intro p e s m below meth c A Q ls X hret hP hD hl
  have hS : va_S A s.heap s.heap [] := va_S.rf
  have hx := X.1
  have hb := X.2.1
  have hl : lv_has ls 3 [(0, .ref (ad 0))] := hl
  replace hf : (f_X5_writing_4 writers silent  FU (0 : Int32) (0 : Int32)) = some R := hf
  refine lv_iconst (v := 0) hx hb dX5_writing_0 (by decide) ?_
  refine lv_istore_n (lv' := [(1, .int (0 : Int32)), (0, .ref (ad 0))]) hx hb dX5_writing_1 rfl hl (by decide) rfl (fun ls hl => ?_)
  refine lv_iconst (v := 0) hx hb dX5_writing_2 (by decide) ?_
  refine lv_istore_n (lv' := [(2, .int (0 : Int32)), (1, .int (0 : Int32)), (0, .ref (ad 0))]) hx hb dX5_writing_3 rfl hl (by decide) rfl (fun ls hl => ?_)
  exact w_X5_writing_4 ad writers year taped at_ statements hasImage isKeeping cursor forgottenWhen rowMany silent X hret  _ (0 : Int32) (0 : Int32) _ _ _ hf (lv_sub hl [2, 1, 0] rfl) hP hD hS

abbrev wd_X5_nth (cI : ClassId)  : va_W := []
def f_X5_nth_30  (kL4 : Int32 → Int32 → Option (Int32)) (v3_30 : Int32) (t0_30 : Int32) (t1_30 : Int32) : Option (Int32) := (kL4 (t0_30 - t1_30) (v3_30 + (1 : Int32)))
def f_X5_nth_16 (x0 : Int32) (kL4 : Int32 → Int32 → Option (Int32)) (v2_16 : Int32) (v3_16 : Int32) : Option (Int32) := ((f_X5_has x0 v3_16).bind fun (r19 : Int32) => (if r19 = 0 then (f_X5_nth_30  kL4 v3_16 v2_16 (0 : Int32)) else (f_X5_nth_30  kL4 v3_16 v2_16 (1 : Int32))))
def f_X5_nth_4 (x0 : Int32)  : Nat → Int32 → Int32 → Option (Int32)
  | 0 => fun _ _ => none
  | fuel + 1 => fun v2_4 v3_4 => ((f_X5_has x0 v3_4).bind fun (r6 : Int32) => (if r6 = 0 then (f_X5_nth_16 x0 (f_X5_nth_4 x0  fuel) v2_4 v3_4) else (if v2_4 ≤ 0 then (some v3_4) else (f_X5_nth_16 x0 (f_X5_nth_4 x0  fuel) v2_4 v3_4))))
theorem e_X5_nth_4 (x0 : Int32)  (fuel : Nat) (v2_4 : Int32) (v3_4 : Int32) : f_X5_nth_4 x0  (fuel + 1) v2_4 v3_4 = ((f_X5_has x0 v3_4).bind fun (r6 : Int32) => (if r6 = 0 then (f_X5_nth_16 x0 (f_X5_nth_4 x0  fuel) v2_4 v3_4) else (if v2_4 ≤ 0 then (some v3_4) else (f_X5_nth_16 x0 (f_X5_nth_4 x0  fuel) v2_4 v3_4)))) := rfl
def f_X5_nth (x0 : Int32) (x1 : Int32) : Option (Int32) := (f_X5_nth_4 x0  FU x1 (0 : Int32))
set_option maxHeartbeats 4000000 in
set_option maxRecDepth 100000 in
theorem w_X5_nth_30 {p : Program} {l : Launch} {e : Env} {s : State} {m : MethodId} {args : Array Value} {below : List Frame} {meth : Method} {c : Code} {D : va_G} {cI : ClassId} {aS : aSt} {A : Nat → Prop} {Q : State → Prop}  (x0 : Int32) (x1 : Int32) {R : Int32} (X : Bx p s m args meth c cX5_nth 4 (some .int) RX5 D cI aS A) (hret : RtI p l e 1 s m args below meth c cX5_nth (some .int) D A (wd_X5_nth cI ) R Q) (kL4 : Int32 → Int32 → Option (Int32)) (hkL4 : ∀ (v2_4 : Int32) (v3_4 : Int32) (H : Heap) (locs : List Loc) (ls : Array Slot), kL4 v2_4 v3_4 = some R → lv_has ls 4 [(0, .int x0), (2, .int v2_4), (3, .int v3_4)] → va_P D vwCl (wd_X5_nth cI ) H → va_D A (wd_X5_nth cI ) → va_S A s.heap H locs → Wh p l e 1 s m args below meth c H locs Q (F0 m 4 ls [])) : ∀ (v3_30 : Int32) (t0_30 : Int32) (t1_30 : Int32) (H : Heap) (locs : List Loc) (ls : Array Slot), f_X5_nth_30  kL4 v3_30 t0_30 t1_30 = some R → lv_has ls 4 [(0, .int x0), (3, .int v3_30)] → va_P D vwCl (wd_X5_nth cI ) H → va_D A (wd_X5_nth cI ) → va_S A s.heap H locs → Wh p l e 1 s m args below meth c H locs Q (F0 m 30 ls [.int t1_30, .int t0_30]) := by
  have hx := X.1
  have hb := X.2.1
  intro v3_30 t0_30 t1_30 H locs ls hf hl hP hD hS
  replace hf : (kL4 (t0_30 - t1_30) (v3_30 + (1 : Int32))) = some R := hf
  refine lv_isub hx hb dX5_nth_30 ?_
  refine lv_istore_n (lv' := [(2, .int (t0_30 - t1_30)), (0, .int x0), (3, .int v3_30)]) hx hb dX5_nth_31 rfl hl (by decide) rfl (fun ls hl => ?_)
  refine lv_iinc (v := (v3_30 + (1 : Int32))) (lv' := [(3, .int (v3_30 + (1 : Int32))), (2, .int (t0_30 - t1_30)), (0, .int x0)]) hx hb dX5_nth_32 hl (k := 2) rfl rfl (by decide) rfl (fun ls hl => ?_)
  refine lv_goto (tgt := 4) hx hb dX5_nth_35 (by decide) ?_
  exact hkL4 (t0_30 - t1_30) (v3_30 + (1 : Int32)) _ _ _ hf (lv_sub hl [2, 1, 0] rfl) hP hD hS
set_option maxHeartbeats 4000000 in
set_option maxRecDepth 100000 in
theorem w_X5_nth_16 {p : Program} {l : Launch} {e : Env} {s : State} {m : MethodId} {args : Array Value} {below : List Frame} {meth : Method} {c : Code} {D : va_G} {cI : ClassId} {aS : aSt} {A : Nat → Prop} {Q : State → Prop}  (x0 : Int32) (x1 : Int32) {R : Int32} (X : Bx p s m args meth c cX5_nth 4 (some .int) RX5 D cI aS A) (hret : RtI p l e 1 s m args below meth c cX5_nth (some .int) D A (wd_X5_nth cI ) R Q) (kL4 : Int32 → Int32 → Option (Int32)) (hkL4 : ∀ (v2_4 : Int32) (v3_4 : Int32) (H : Heap) (locs : List Loc) (ls : Array Slot), kL4 v2_4 v3_4 = some R → lv_has ls 4 [(0, .int x0), (2, .int v2_4), (3, .int v3_4)] → va_P D vwCl (wd_X5_nth cI ) H → va_D A (wd_X5_nth cI ) → va_S A s.heap H locs → Wh p l e 1 s m args below meth c H locs Q (F0 m 4 ls [])) : ∀ (v2_16 : Int32) (v3_16 : Int32) (H : Heap) (locs : List Loc) (ls : Array Slot), f_X5_nth_16 x0 kL4 v2_16 v3_16 = some R → lv_has ls 4 [(0, .int x0), (2, .int v2_16), (3, .int v3_16)] → va_P D vwCl (wd_X5_nth cI ) H → va_D A (wd_X5_nth cI ) → va_S A s.heap H locs → Wh p l e 1 s m args below meth c H locs Q (F0 m 16 ls []) := by
  have hx := X.1
  have hb := X.2.1
  intro v2_16 v3_16 H locs ls hf hl hP hD hS
  replace hf : ((f_X5_has x0 v3_16).bind fun (r19 : Int32) => (if r19 = 0 then (f_X5_nth_30  kL4 v3_16 v2_16 (0 : Int32)) else (f_X5_nth_30  kL4 v3_16 v2_16 (1 : Int32)))) = some R := hf
  refine lv_iload_n hx hb dX5_nth_16 rfl (lv_at hl 1 rfl) ?_
  refine lv_iload_n hx hb dX5_nth_17 rfl (lv_at hl 0 rfl) ?_
  refine lv_iload_n hx hb dX5_nth_18 rfl (lv_at hl 2 rfl) ?_
  obtain ⟨r19, hq19, hf⟩ := bS hf
  refine ro_i X hP hD hS [] rfl (run_S X hP hD hS [] rfl rfl (c_X5_has l D cI aS x0 v3_16 _ hq19 _) lkX5_218 (by decide) rfl rfl (Nat.le_of_ble_eq_true rfl) hl.1 dX5_nth_19) (fun H locs hP hS => ?_)
  refine lv_if_eq (tgt := 29) hx hb dX5_nth_22 (by decide) (fun c22 => ?_) (fun c22 => ?_)
  · have hf := iT c22 hf
    refine lv_iconst (v := 0) hx hb dX5_nth_29 (by decide) ?_
    exact w_X5_nth_30 x0 x1 X hret _ hkL4 v3_16 v2_16 (0 : Int32) _ _ _ hf (lv_sub hl [0, 2] rfl) hP hD hS
  · have hf := iF c22 hf
    refine lv_iconst (v := 1) hx hb dX5_nth_25 (by decide) ?_
    refine lv_goto (tgt := 30) hx hb dX5_nth_26 (by decide) ?_
    exact w_X5_nth_30 x0 x1 X hret _ hkL4 v3_16 v2_16 (1 : Int32) _ _ _ hf (lv_sub hl [0, 2] rfl) hP hD hS
set_option maxHeartbeats 4000000 in
set_option maxRecDepth 100000 in
theorem w_X5_nth_4 {p : Program} {l : Launch} {e : Env} {s : State} {m : MethodId} {args : Array Value} {below : List Frame} {meth : Method} {c : Code} {D : va_G} {cI : ClassId} {aS : aSt} {A : Nat → Prop} {Q : State → Prop}  (x0 : Int32) (x1 : Int32) {R : Int32} (X : Bx p s m args meth c cX5_nth 4 (some .int) RX5 D cI aS A) (hret : RtI p l e 1 s m args below meth c cX5_nth (some .int) D A (wd_X5_nth cI ) R Q) : ∀ (fuel : Nat) (v2_4 : Int32) (v3_4 : Int32) (H : Heap) (locs : List Loc) (ls : Array Slot), f_X5_nth_4 x0  fuel v2_4 v3_4 = some R → lv_has ls 4 [(0, .int x0), (2, .int v2_4), (3, .int v3_4)] → va_P D vwCl (wd_X5_nth cI ) H → va_D A (wd_X5_nth cI ) → va_S A s.heap H locs → Wh p l e 1 s m args below meth c H locs Q (F0 m 4 ls []) := by
  have hx := X.1
  have hb := X.2.1
  intro fuel
  induction fuel with
  | zero =>
    intro v2_4 v3_4 H locs ls hf hl hP hD hS
    cases hf
  | succ fuel ih =>
    intro v2_4 v3_4 H locs ls hf hl hP hD hS
    replace hf : ((f_X5_has x0 v3_4).bind fun (r6 : Int32) => (if r6 = 0 then (f_X5_nth_16 x0 (f_X5_nth_4 x0  fuel) v2_4 v3_4) else (if v2_4 ≤ 0 then (some v3_4) else (f_X5_nth_16 x0 (f_X5_nth_4 x0  fuel) v2_4 v3_4)))) = some R := hf
    refine lv_iload_n hx hb dX5_nth_4 rfl (lv_at hl 0 rfl) ?_
    refine lv_iload_n hx hb dX5_nth_5 rfl (lv_at hl 2 rfl) ?_
    obtain ⟨r6, hq6, hf⟩ := bS hf
    refine ro_i X hP hD hS [] rfl (run_S X hP hD hS [] rfl rfl (c_X5_has l D cI aS x0 v3_4 _ hq6 _) lkX5_218 (by decide) rfl rfl (Nat.le_of_ble_eq_true rfl) hl.1 dX5_nth_6) (fun H locs hP hS => ?_)
    refine lv_if_eq (tgt := 16) hx hb dX5_nth_9 (by decide) (fun c9 => ?_) (fun c9 => ?_)
    · have hf := iT c9 hf
      exact w_X5_nth_16 x0 x1 X hret _ ih v2_4 v3_4 _ _ _ hf (lv_sub hl [0, 1, 2] rfl) hP hD hS
    · have hf := iF c9 hf
      refine lv_iload_n hx hb dX5_nth_12 rfl (lv_at hl 1 rfl) ?_
      refine lv_if_le (tgt := 38) hx hb dX5_nth_13 (by decide) (fun c13 => ?_) (fun c13 => ?_)
      · have hf := iT c13 hf
        refine lv_iload_n hx hb dX5_nth_38 rfl (lv_at hl 2 rfl) ?_
        have hR := Option.some.inj hf
        subst hR
        exact hret _ _ _ _ _ rfl (fun _ hn => by cases hn; rfl) hP hD hS dX5_nth_39
      · have hf := iF c13 hf
        exact w_X5_nth_16 x0 x1 X hret _ ih v2_4 v3_4 _ _ _ hf (lv_sub hl [0, 1, 2] rfl) hP hD hS
set_option maxHeartbeats 4000000 in
set_option maxRecDepth 100000 in
theorem c_X5_nth (l : Launch) (D : va_G) (cI : ClassId) (aS : aSt) (x0 : Int32) (x1 : Int32) (R : Int32) (hf : f_X5_nth x0 x1 = some R) : CtI l yX5_nth cX5_nth 4 (some .int) 1 D cI aS [.int x0, .int x1] (wd_X5_nth cI ) (wd_X5_nth cI ) R := by
  refine ctI_of (by decide) ⟨_, rfl⟩ (Nat.le_of_ble_eq_true rfl) ?_
  intro p e s m below meth c A Q ls X hret hP hD hl
  have hS : va_S A s.heap s.heap [] := va_S.rf
  have hx := X.1
  have hb := X.2.1
  have hl : lv_has ls 4 [(0, .int x0), (1, .int x1)] := hl
  replace hf : (f_X5_nth_4 x0  FU x1 (0 : Int32)) = some R := hf
  refine lv_iload_n hx hb dX5_nth_0 rfl (lv_at hl 1 rfl) ?_
  refine lv_istore_n (lv' := [(2, .int x1), (0, .int x0), (1, .int x1)]) hx hb dX5_nth_1 rfl hl (by decide) rfl (fun ls hl => ?_)
  refine lv_iconst (v := 0) hx hb dX5_nth_2 (by decide) ?_
  refine lv_istore_n (lv' := [(3, .int (0 : Int32)), (2, .int x1), (0, .int x0), (1, .int x1)]) hx hb dX5_nth_3 rfl hl (by decide) rfl (fun ls hl => ?_)
  exact w_X5_nth_4 x0 x1 X hret  _ x1 (0 : Int32) _ _ _ hf (lv_sub hl [2, 1, 0] rfl) hP hD hS

abbrev wd_X5_ringsBy (cI : ClassId) (ad : Nat → Nat) (writers : Int32) (year : Int32) (taped : Int32) (at_ : Int32) (statements : Int32) (hasImage : Int32) (isKeeping : Int32) (cursor : Int32) (forgottenWhen : Int32) (rowMany : Int32) (ring : (Nat → Int32)) : va_W := [((ad 0), .inr (5, [.ref (ad 1), .ref (ad 2), .ref (ad 3), .ref (ad 4), .ref (ad 5), .ref (ad 6), .ref (ad 7), .int writers, .int year, .ref (ad 8), .ref (ad 9), .ref (ad 10), .ref (ad 11), .int taped, .int at_, .int statements, .ref (ad 12), .int hasImage, .int isKeeping, .int cursor, .int forgottenWhen, .ref (ad 13), .ref (ad 14), .ref (ad 15), .int rowMany])), ((ad 7), .inl (cI, 7, .inl ring))]
def f_X5_ringsBy_29 (writers : Int32)  : Nat → Int32 → Int32 → Int32 → Int32 → (Nat → Int32) → Option ((Nat → Int32))
  | 0 => fun _ _ _ _ _ => none
  | fuel + 1 => fun v3_29 v4_29 v5_29 v6_29 ring_29 => (if writers ≤ v6_29 then (some ring_29) else (gz (writers - v6_29) (gz (divI v5_29 (writers - v6_29)) ((f_X5_nth v3_29 (divI v4_29 (divI v5_29 (writers - v6_29)))).bind fun (r56 : Int32) => (gz (divI v5_29 (writers - v6_29)) (gd v6_29 7 (f_X5_ringsBy_29 writers  fuel (v3_29 &&& ((shlI (1 : Int32) r56) ^^^ (-1 : Int32))) (remI v4_29 (divI v5_29 (writers - v6_29))) (divI v5_29 (writers - v6_29)) (v6_29 + (1 : Int32)) (upd ring_29 (Int32.toNatClampNeg v6_29) r56))))))))
theorem e_X5_ringsBy_29 (writers : Int32)  (fuel : Nat) (v3_29 : Int32) (v4_29 : Int32) (v5_29 : Int32) (v6_29 : Int32) (ring_29 : (Nat → Int32)) : f_X5_ringsBy_29 writers  (fuel + 1) v3_29 v4_29 v5_29 v6_29 ring_29 = (if writers ≤ v6_29 then (some ring_29) else (gz (writers - v6_29) (gz (divI v5_29 (writers - v6_29)) ((f_X5_nth v3_29 (divI v4_29 (divI v5_29 (writers - v6_29)))).bind fun (r56 : Int32) => (gz (divI v5_29 (writers - v6_29)) (gd v6_29 7 (f_X5_ringsBy_29 writers  fuel (v3_29 &&& ((shlI (1 : Int32) r56) ^^^ (-1 : Int32))) (remI v4_29 (divI v5_29 (writers - v6_29))) (divI v5_29 (writers - v6_29)) (v6_29 + (1 : Int32)) (upd ring_29 (Int32.toNatClampNeg v6_29) r56)))))))) := rfl
def f_X5_ringsBy (writers : Int32) (ring : (Nat → Int32)) (x1 : Int32) (x2 : Int32) : Option ((Nat → Int32)) := (gd (0 : Int32) 7 (f_X5_ringsBy_29 writers  FU (((shlI (1 : Int32) writers) - (1 : Int32)) &&& ((shlI (1 : Int32) (ring (Int32.toNatClampNeg (0 : Int32)))) ^^^ (-1 : Int32))) x1 x2 (1 : Int32) ring))
set_option maxHeartbeats 4000000 in
set_option maxRecDepth 100000 in
theorem w_X5_ringsBy_29 {p : Program} {l : Launch} {e : Env} {s : State} {m : MethodId} {args : Array Value} {below : List Frame} {meth : Method} {c : Code} {D : va_G} {cI : ClassId} {aS : aSt} {A : Nat → Prop} {Q : State → Prop}  (ad : Nat → Nat) (writers : Int32) (year : Int32) (taped : Int32) (at_ : Int32) (statements : Int32) (hasImage : Int32) (isKeeping : Int32) (cursor : Int32) (forgottenWhen : Int32) (rowMany : Int32) (x1 : Int32) (x2 : Int32) {R : (Nat → Int32)} (X : Bx p s m args meth c cX5_ringsBy 8 none RX5 D cI aS A) (hret : RtV p l e 2 s m args below meth c cX5_ringsBy D A (wd_X5_ringsBy cI ad writers year taped at_ statements hasImage isKeeping cursor forgottenWhen rowMany R) Q) : ∀ (fuel : Nat) (v3_29 : Int32) (v4_29 : Int32) (v5_29 : Int32) (v6_29 : Int32) (ring_29 : (Nat → Int32)) (H : Heap) (locs : List Loc) (ls : Array Slot), f_X5_ringsBy_29 writers  fuel v3_29 v4_29 v5_29 v6_29 ring_29 = some R → lv_has ls 8 [(0, .ref (ad 0)), (3, .int v3_29), (4, .int v4_29), (5, .int v5_29), (6, .int v6_29)] → va_P D vwCl (wd_X5_ringsBy cI ad writers year taped at_ statements hasImage isKeeping cursor forgottenWhen rowMany ring_29) H → va_D A (wd_X5_ringsBy cI ad writers year taped at_ statements hasImage isKeeping cursor forgottenWhen rowMany ring_29) → va_S A s.heap H locs → Wh p l e 2 s m args below meth c H locs Q (F0 m 29 ls []) := by
  have hx := X.1
  have hb := X.2.1
  intro fuel
  induction fuel with
  | zero =>
    intro v3_29 v4_29 v5_29 v6_29 ring_29 H locs ls hf hl hP hD hS
    cases hf
  | succ fuel ih =>
    intro v3_29 v4_29 v5_29 v6_29 ring_29 H locs ls hf hl hP hD hS
    replace hf : (if writers ≤ v6_29 then (some ring_29) else (gz (writers - v6_29) (gz (divI v5_29 (writers - v6_29)) ((f_X5_nth v3_29 (divI v4_29 (divI v5_29 (writers - v6_29)))).bind fun (r56 : Int32) => (gz (divI v5_29 (writers - v6_29)) (gd v6_29 7 (f_X5_ringsBy_29 writers  fuel (v3_29 &&& ((shlI (1 : Int32) r56) ^^^ (-1 : Int32))) (remI v4_29 (divI v5_29 (writers - v6_29))) (divI v5_29 (writers - v6_29)) (v6_29 + (1 : Int32)) (upd ring_29 (Int32.toNatClampNeg v6_29) r56)))))))) = some R := hf
    refine lv_iload hx hb dX5_ringsBy_29 (lv_at hl 4 rfl) ?_
    refine lv_aload_n hx hb dX5_ringsBy_31 rfl (lv_at hl 0 rfl) ?_
    refine fgX5_55 X hP (q0 := 0) rfl rfl dX5_ringsBy_32 ?_
    refine lv_icmp_ge (tgt := 92) hx hb dX5_ringsBy_35 (by decide) (fun c35 => ?_) (fun c35 => ?_)
    · have hf := iT c35 hf
      have hR := Option.some.inj hf
      subst hR
      exact hret _ _ _ _ hP hD hS dX5_ringsBy_92
    · have hf := iF c35 hf
      refine lv_iload hx hb dX5_ringsBy_38 (lv_at hl 3 rfl) ?_
      refine lv_aload_n hx hb dX5_ringsBy_40 rfl (lv_at hl 0 rfl) ?_
      refine fgX5_55 X hP (q0 := 0) rfl rfl dX5_ringsBy_41 ?_
      refine lv_iload hx hb dX5_ringsBy_44 (lv_at hl 4 rfl) ?_
      refine lv_isub hx hb dX5_ringsBy_46 ?_
      refine x_idiv hx hb dX5_ringsBy_47 (gzS hf).1 ?_
      have hf := (gzS hf).2
      refine lv_istore (lv' := [(5, .int (divI v5_29 (writers - v6_29))), (0, .ref (ad 0)), (3, .int v3_29), (4, .int v4_29), (6, .int v6_29)]) hx hb dX5_ringsBy_48 hl (by decide) rfl (fun ls hl => ?_)
      refine lv_iload_n hx hb dX5_ringsBy_50 rfl (lv_at hl 2 rfl) ?_
      refine lv_iload hx hb dX5_ringsBy_51 (lv_at hl 3 rfl) ?_
      refine lv_iload hx hb dX5_ringsBy_53 (lv_at hl 0 rfl) ?_
      refine x_idiv hx hb dX5_ringsBy_55 (gzS hf).1 ?_
      have hf := (gzS hf).2
      obtain ⟨r56, hq56, hf⟩ := bS hf
      refine ro_i X hP hD hS [] rfl (run_S X hP hD hS [] rfl rfl (c_X5_nth l D cI aS v3_29 (divI v4_29 (divI v5_29 (writers - v6_29))) _ hq56 _) lkX5_215 (by decide) rfl rfl (Nat.le_of_ble_eq_true rfl) hl.1 dX5_ringsBy_56) (fun H locs hP hS => ?_)
      refine lv_istore (lv' := [(7, .int r56), (5, .int (divI v5_29 (writers - v6_29))), (0, .ref (ad 0)), (3, .int v3_29), (4, .int v4_29), (6, .int v6_29)]) hx hb dX5_ringsBy_59 hl (by decide) rfl (fun ls hl => ?_)
      refine lv_iload hx hb dX5_ringsBy_61 (lv_at hl 4 rfl) ?_
      refine lv_iload hx hb dX5_ringsBy_63 (lv_at hl 1 rfl) ?_
      refine x_irem hx hb dX5_ringsBy_65 (gzS hf).1 ?_
      have hf := (gzS hf).2
      refine lv_istore (lv' := [(4, .int (remI v4_29 (divI v5_29 (writers - v6_29)))), (7, .int r56), (5, .int (divI v5_29 (writers - v6_29))), (0, .ref (ad 0)), (3, .int v3_29), (6, .int v6_29)]) hx hb dX5_ringsBy_66 hl (by decide) rfl (fun ls hl => ?_)
      refine lv_aload_n hx hb dX5_ringsBy_68 rfl (lv_at hl 3 rfl) ?_
      refine fgX5_28 X hP (q0 := 0) rfl rfl dX5_ringsBy_69 ?_
      refine lv_iload hx hb dX5_ringsBy_72 (lv_at hl 5 rfl) ?_
      refine lv_iload hx hb dX5_ringsBy_74 (lv_at hl 1 rfl) ?_
      refine aPut X hP hD hS (q0 := 1) (ws' := (wd_X5_ringsBy cI ad writers year taped at_ statements hasImage isKeeping cursor forgottenWhen rowMany (upd ring_29 (Int32.toNatClampNeg v6_29) r56))) rfl (gdS hf).1 rfl dX5_ringsBy_76 (fun H locs hP hD hS => ?_)
      have hf := (gdS hf).2
      refine lv_iload_n hx hb dX5_ringsBy_77 rfl (lv_at hl 4 rfl) ?_
      refine lv_iconst (v := 1) hx hb dX5_ringsBy_78 (by decide) ?_
      refine lv_iload hx hb dX5_ringsBy_79 (lv_at hl 1 rfl) ?_
      refine x_ishl hx hb dX5_ringsBy_81 ?_
      refine lv_iconst (v := -1) hx hb dX5_ringsBy_82 (by decide) ?_
      refine lv_ixor hx hb dX5_ringsBy_83 ?_
      refine lv_iand hx hb dX5_ringsBy_84 ?_
      refine lv_istore_n (lv' := [(3, .int (v3_29 &&& ((shlI (1 : Int32) r56) ^^^ (-1 : Int32)))), (4, .int (remI v4_29 (divI v5_29 (writers - v6_29)))), (7, .int r56), (5, .int (divI v5_29 (writers - v6_29))), (0, .ref (ad 0)), (6, .int v6_29)]) hx hb dX5_ringsBy_85 rfl hl (by decide) rfl (fun ls hl => ?_)
      refine lv_iinc (v := (v6_29 + (1 : Int32))) (lv' := [(6, .int (v6_29 + (1 : Int32))), (3, .int (v3_29 &&& ((shlI (1 : Int32) r56) ^^^ (-1 : Int32)))), (4, .int (remI v4_29 (divI v5_29 (writers - v6_29)))), (7, .int r56), (5, .int (divI v5_29 (writers - v6_29))), (0, .ref (ad 0))]) hx hb dX5_ringsBy_86 hl (k := 5) rfl rfl (by decide) rfl (fun ls hl => ?_)
      refine lv_goto (tgt := 29) hx hb dX5_ringsBy_89 (by decide) ?_
      exact ih (v3_29 &&& ((shlI (1 : Int32) r56) ^^^ (-1 : Int32))) (remI v4_29 (divI v5_29 (writers - v6_29))) (divI v5_29 (writers - v6_29)) (v6_29 + (1 : Int32)) (upd ring_29 (Int32.toNatClampNeg v6_29) r56) _ _ _ hf (lv_sub hl [5, 1, 2, 4, 0] rfl) hP hD hS
set_option maxHeartbeats 4000000 in
set_option maxRecDepth 100000 in
theorem c_X5_ringsBy (l : Launch) (D : va_G) (cI : ClassId) (aS : aSt) (ad : Nat → Nat) (writers : Int32) (year : Int32) (taped : Int32) (at_ : Int32) (statements : Int32) (hasImage : Int32) (isKeeping : Int32) (cursor : Int32) (forgottenWhen : Int32) (rowMany : Int32) (ring : (Nat → Int32)) (x1 : Int32) (x2 : Int32) (R : (Nat → Int32)) (hf : f_X5_ringsBy writers ring x1 x2 = some R) : CtV l yX5_ringsBy cX5_ringsBy 8 none 2 D cI aS [.ref (ad 0), .int x1, .int x2] (wd_X5_ringsBy cI ad writers year taped at_ statements hasImage isKeeping cursor forgottenWhen rowMany ring) (wd_X5_ringsBy cI ad writers year taped at_ statements hasImage isKeeping cursor forgottenWhen rowMany R) := by
  refine ctV_of (by decide) rfl (Nat.le_of_ble_eq_true rfl) ?_
  intro p e s m below meth c A Q ls X hret hP hD hl
  have hS : va_S A s.heap s.heap [] := va_S.rf
  have hx := X.1
  have hb := X.2.1
  have hl : lv_has ls 8 [(0, .ref (ad 0)), (1, .int x1), (2, .int x2)] := hl
  replace hf : (gd (0 : Int32) 7 (f_X5_ringsBy_29 writers  FU (((shlI (1 : Int32) writers) - (1 : Int32)) &&& ((shlI (1 : Int32) (ring (Int32.toNatClampNeg (0 : Int32)))) ^^^ (-1 : Int32))) x1 x2 (1 : Int32) ring)) = some R := hf
  refine lv_iconst (v := 1) hx hb dX5_ringsBy_0 (by decide) ?_
  refine lv_aload_n hx hb dX5_ringsBy_1 rfl (lv_at hl 0 rfl) ?_
  refine fgX5_55 X hP (q0 := 0) rfl rfl dX5_ringsBy_2 ?_
  refine x_ishl hx hb dX5_ringsBy_5 ?_
  refine lv_iconst (v := 1) hx hb dX5_ringsBy_6 (by decide) ?_
  refine lv_isub hx hb dX5_ringsBy_7 ?_
  refine lv_iconst (v := 1) hx hb dX5_ringsBy_8 (by decide) ?_
  refine lv_aload_n hx hb dX5_ringsBy_9 rfl (lv_at hl 0 rfl) ?_
  refine fgX5_28 X hP (q0 := 0) rfl rfl dX5_ringsBy_10 ?_
  refine lv_iconst (v := 0) hx hb dX5_ringsBy_13 (by decide) ?_
  refine aGet X hP (q0 := 1) rfl (gdS hf).1 dX5_ringsBy_14 ?_
  have hf := (gdS hf).2
  refine x_ishl hx hb dX5_ringsBy_15 ?_
  refine lv_iconst (v := -1) hx hb dX5_ringsBy_16 (by decide) ?_
  refine lv_ixor hx hb dX5_ringsBy_17 ?_
  refine lv_iand hx hb dX5_ringsBy_18 ?_
  refine lv_istore_n (lv' := [(3, .int (((shlI (1 : Int32) writers) - (1 : Int32)) &&& ((shlI (1 : Int32) (ring (Int32.toNatClampNeg (0 : Int32)))) ^^^ (-1 : Int32)))), (0, .ref (ad 0)), (1, .int x1), (2, .int x2)]) hx hb dX5_ringsBy_19 rfl hl (by decide) rfl (fun ls hl => ?_)
  refine lv_iload_n hx hb dX5_ringsBy_20 rfl (lv_at hl 2 rfl) ?_
  refine lv_istore (lv' := [(4, .int x1), (3, .int (((shlI (1 : Int32) writers) - (1 : Int32)) &&& ((shlI (1 : Int32) (ring (Int32.toNatClampNeg (0 : Int32)))) ^^^ (-1 : Int32)))), (0, .ref (ad 0)), (1, .int x1), (2, .int x2)]) hx hb dX5_ringsBy_21 hl (by decide) rfl (fun ls hl => ?_)
  refine lv_iload_n hx hb dX5_ringsBy_23 rfl (lv_at hl 4 rfl) ?_
  refine lv_istore (lv' := [(5, .int x2), (4, .int x1), (3, .int (((shlI (1 : Int32) writers) - (1 : Int32)) &&& ((shlI (1 : Int32) (ring (Int32.toNatClampNeg (0 : Int32)))) ^^^ (-1 : Int32)))), (0, .ref (ad 0)), (1, .int x1), (2, .int x2)]) hx hb dX5_ringsBy_24 hl (by decide) rfl (fun ls hl => ?_)
  refine lv_iconst (v := 1) hx hb dX5_ringsBy_26 (by decide) ?_
  refine lv_istore (lv' := [(6, .int (1 : Int32)), (5, .int x2), (4, .int x1), (3, .int (((shlI (1 : Int32) writers) - (1 : Int32)) &&& ((shlI (1 : Int32) (ring (Int32.toNatClampNeg (0 : Int32)))) ^^^ (-1 : Int32)))), (0, .ref (ad 0)), (1, .int x1), (2, .int x2)]) hx hb dX5_ringsBy_27 hl (by decide) rfl (fun ls hl => ?_)
  exact w_X5_ringsBy_29 ad writers year taped at_ statements hasImage isKeeping cursor forgottenWhen rowMany x1 x2 X hret  _ (((shlI (1 : Int32) writers) - (1 : Int32)) &&& ((shlI (1 : Int32) (ring (Int32.toNatClampNeg (0 : Int32)))) ^^^ (-1 : Int32))) x1 x2 (1 : Int32) ring _ _ _ hf (lv_sub hl [4, 3, 2, 1, 0] rfl) hP hD hS

abbrev wd_X5_next (cI : ClassId) (ad : Nat → Nat) (writers : Int32) (year : Int32) (taped : Int32) (at_ : Int32) (statements : Int32) (hasImage : Int32) (isKeeping : Int32) (cursor : Int32) (forgottenWhen : Int32) (rowMany : Int32) (tape : (Nat → Int32)) : va_W := [((ad 0), .inr (5, [.ref (ad 1), .ref (ad 2), .ref (ad 3), .ref (ad 4), .ref (ad 5), .ref (ad 6), .ref (ad 7), .int writers, .int year, .ref (ad 8), .ref (ad 9), .ref (ad 10), .ref (ad 11), .int taped, .int at_, .int statements, .ref (ad 12), .int hasImage, .int isKeeping, .int cursor, .int forgottenWhen, .ref (ad 13), .ref (ad 14), .ref (ad 15), .int rowMany])), ((ad 8), .inl (cI, 96, .inl tape))]
def f_X5_next (taped : Int32) (at_ : Int32) (tape : (Nat → Int32)) : Option (Int32) := (if taped ≤ at_ then (some (-1 : Int32)) else (gd at_ 96 (some (tape (Int32.toNatClampNeg at_)))))
set_option maxHeartbeats 4000000 in
set_option maxRecDepth 100000 in
theorem c_X5_next (l : Launch) (D : va_G) (cI : ClassId) (aS : aSt) (ad : Nat → Nat) (writers : Int32) (year : Int32) (taped : Int32) (at_ : Int32) (statements : Int32) (hasImage : Int32) (isKeeping : Int32) (cursor : Int32) (forgottenWhen : Int32) (rowMany : Int32) (tape : (Nat → Int32)) (R : Int32) (hf : f_X5_next taped at_ tape = some R) : CtI l yX5_next cX5_next 1 (some .int) 0 D cI aS [.ref (ad 0)] (wd_X5_next cI ad writers year taped at_ statements hasImage isKeeping cursor forgottenWhen rowMany tape) (wd_X5_next cI ad writers year taped at_ statements hasImage isKeeping cursor forgottenWhen rowMany tape) R := by
  refine ctI_of (by decide) ⟨_, rfl⟩ (Nat.le_of_ble_eq_true rfl) ?_
  intro p e s m below meth c A Q ls X hret hP hD hl
  have hS : va_S A s.heap s.heap [] := va_S.rf
  have hx := X.1
  have hb := X.2.1
  have hl : lv_has ls 1 [(0, .ref (ad 0))] := hl
  replace hf : (if taped ≤ at_ then (some (-1 : Int32)) else (gd at_ 96 (some (tape (Int32.toNatClampNeg at_))))) = some R := hf
  refine lv_aload_n hx hb dX5_next_0 rfl (lv_at hl 0 rfl) ?_
  refine fgX5_73 X hP (q0 := 0) rfl rfl dX5_next_1 ?_
  refine lv_aload_n hx hb dX5_next_4 rfl (lv_at hl 0 rfl) ?_
  refine fgX5_66 X hP (q0 := 0) rfl rfl dX5_next_5 ?_
  refine lv_icmp_ge (tgt := 23) hx hb dX5_next_8 (by decide) (fun c8 => ?_) (fun c8 => ?_)
  · have hf := iT c8 hf
    refine lv_iconst (v := -1) hx hb dX5_next_23 (by decide) ?_
    have hR := Option.some.inj hf
    subst hR
    exact hret _ _ _ _ _ rfl (fun _ hn => by cases hn; rfl) hP hD hS dX5_next_24
  · have hf := iF c8 hf
    refine lv_aload_n hx hb dX5_next_11 rfl (lv_at hl 0 rfl) ?_
    refine fgX5_31 X hP (q0 := 0) rfl rfl dX5_next_12 ?_
    refine lv_aload_n hx hb dX5_next_15 rfl (lv_at hl 0 rfl) ?_
    refine fgX5_73 X hP (q0 := 0) rfl rfl dX5_next_16 ?_
    refine aGet X hP (q0 := 1) rfl (gdS hf).1 dX5_next_19 ?_
    have hf := (gdS hf).2
    refine lv_goto (tgt := 24) hx hb dX5_next_20 (by decide) ?_
    have hR := Option.some.inj hf
    subst hR
    exact hret _ _ _ _ _ rfl (fun _ hn => by cases hn; rfl) hP hD hS dX5_next_24

abbrev wd_X5_kindOf (cI : ClassId)  : va_W := []
def f_X5_kindOf (x0 : Int32) : Option (Int32) := (if x0 = (97 : Int32) then (some (0 : Int32)) else (if x0 = (112 : Int32) then (some (1 : Int32)) else (if x0 = (103 : Int32) then (some (2 : Int32)) else (if x0 = (116 : Int32) then (some (3 : Int32)) else (if x0 = (102 : Int32) then (some (4 : Int32)) else (if x0 = (100 : Int32) then (some (5 : Int32)) else (some (-1 : Int32))))))))
set_option maxHeartbeats 4000000 in
set_option maxRecDepth 100000 in
theorem c_X5_kindOf (l : Launch) (D : va_G) (cI : ClassId) (aS : aSt) (x0 : Int32) (R : Int32) (hf : f_X5_kindOf x0 = some R) : CtI l yX5_kindOf cX5_kindOf 1 (some .int) 0 D cI aS [.int x0] (wd_X5_kindOf cI ) (wd_X5_kindOf cI ) R := by
  refine ctI_of (by decide) ⟨_, rfl⟩ (Nat.le_of_ble_eq_true rfl) ?_
  intro p e s m below meth c A Q ls X hret hP hD hl
  have hS : va_S A s.heap s.heap [] := va_S.rf
  have hx := X.1
  have hb := X.2.1
  have hl : lv_has ls 1 [(0, .int x0)] := hl
  replace hf : (if x0 = (97 : Int32) then (some (0 : Int32)) else (if x0 = (112 : Int32) then (some (1 : Int32)) else (if x0 = (103 : Int32) then (some (2 : Int32)) else (if x0 = (116 : Int32) then (some (3 : Int32)) else (if x0 = (102 : Int32) then (some (4 : Int32)) else (if x0 = (100 : Int32) then (some (5 : Int32)) else (some (-1 : Int32)))))))) = some R := hf
  refine lv_iload_n hx hb dX5_kindOf_0 rfl (lv_at hl 0 rfl) ?_
  refine lv_bipush (v := 97) hx hb dX5_kindOf_1 (by decide) ?_
  refine lv_icmp_ne (tgt := 10) hx hb dX5_kindOf_3 (by decide) (fun c3 => ?_) (fun c3 => ?_)
  · have hf := iF c3 hf
    refine lv_iload_n hx hb dX5_kindOf_10 rfl (lv_at hl 0 rfl) ?_
    refine lv_bipush (v := 112) hx hb dX5_kindOf_11 (by decide) ?_
    refine lv_icmp_ne (tgt := 20) hx hb dX5_kindOf_13 (by decide) (fun c13 => ?_) (fun c13 => ?_)
    · have hf := iF c13 hf
      refine lv_iload_n hx hb dX5_kindOf_20 rfl (lv_at hl 0 rfl) ?_
      refine lv_bipush (v := 103) hx hb dX5_kindOf_21 (by decide) ?_
      refine lv_icmp_ne (tgt := 30) hx hb dX5_kindOf_23 (by decide) (fun c23 => ?_) (fun c23 => ?_)
      · have hf := iF c23 hf
        refine lv_iload_n hx hb dX5_kindOf_30 rfl (lv_at hl 0 rfl) ?_
        refine lv_bipush (v := 116) hx hb dX5_kindOf_31 (by decide) ?_
        refine lv_icmp_ne (tgt := 40) hx hb dX5_kindOf_33 (by decide) (fun c33 => ?_) (fun c33 => ?_)
        · have hf := iF c33 hf
          refine lv_iload_n hx hb dX5_kindOf_40 rfl (lv_at hl 0 rfl) ?_
          refine lv_bipush (v := 102) hx hb dX5_kindOf_41 (by decide) ?_
          refine lv_icmp_ne (tgt := 50) hx hb dX5_kindOf_43 (by decide) (fun c43 => ?_) (fun c43 => ?_)
          · have hf := iF c43 hf
            refine lv_iload_n hx hb dX5_kindOf_50 rfl (lv_at hl 0 rfl) ?_
            refine lv_bipush (v := 100) hx hb dX5_kindOf_51 (by decide) ?_
            refine lv_icmp_ne (tgt := 60) hx hb dX5_kindOf_53 (by decide) (fun c53 => ?_) (fun c53 => ?_)
            · have hf := iF c53 hf
              refine lv_iconst (v := -1) hx hb dX5_kindOf_60 (by decide) ?_
              have hR := Option.some.inj hf
              subst hR
              exact hret _ _ _ _ _ rfl (fun _ hn => by cases hn; rfl) hP hD hS dX5_kindOf_61
            · have hf := iT c53 hf
              refine lv_iconst (v := 5) hx hb dX5_kindOf_56 (by decide) ?_
              refine lv_goto (tgt := 61) hx hb dX5_kindOf_57 (by decide) ?_
              have hR := Option.some.inj hf
              subst hR
              exact hret _ _ _ _ _ rfl (fun _ hn => by cases hn; rfl) hP hD hS dX5_kindOf_61
          · have hf := iT c43 hf
            refine lv_iconst (v := 4) hx hb dX5_kindOf_46 (by decide) ?_
            refine lv_goto (tgt := 61) hx hb dX5_kindOf_47 (by decide) ?_
            have hR := Option.some.inj hf
            subst hR
            exact hret _ _ _ _ _ rfl (fun _ hn => by cases hn; rfl) hP hD hS dX5_kindOf_61
        · have hf := iT c33 hf
          refine lv_iconst (v := 3) hx hb dX5_kindOf_36 (by decide) ?_
          refine lv_goto (tgt := 61) hx hb dX5_kindOf_37 (by decide) ?_
          have hR := Option.some.inj hf
          subst hR
          exact hret _ _ _ _ _ rfl (fun _ hn => by cases hn; rfl) hP hD hS dX5_kindOf_61
      · have hf := iT c23 hf
        refine lv_iconst (v := 2) hx hb dX5_kindOf_26 (by decide) ?_
        refine lv_goto (tgt := 61) hx hb dX5_kindOf_27 (by decide) ?_
        have hR := Option.some.inj hf
        subst hR
        exact hret _ _ _ _ _ rfl (fun _ hn => by cases hn; rfl) hP hD hS dX5_kindOf_61
    · have hf := iT c13 hf
      refine lv_iconst (v := 1) hx hb dX5_kindOf_16 (by decide) ?_
      refine lv_goto (tgt := 61) hx hb dX5_kindOf_17 (by decide) ?_
      have hR := Option.some.inj hf
      subst hR
      exact hret _ _ _ _ _ rfl (fun _ hn => by cases hn; rfl) hP hD hS dX5_kindOf_61
  · have hf := iT c3 hf
    refine lv_iconst (v := 0) hx hb dX5_kindOf_6 (by decide) ?_
    refine lv_goto (tgt := 61) hx hb dX5_kindOf_7 (by decide) ?_
    have hR := Option.some.inj hf
    subst hR
    exact hret _ _ _ _ _ rfl (fun _ hn => by cases hn; rfl) hP hD hS dX5_kindOf_61

abbrev wd_X5_readsDigits (cI : ClassId) (ad : Nat → Nat) (writers : Int32) (year : Int32) (taped : Int32) (at_ : Int32) (statements : Int32) (hasImage : Int32) (isKeeping : Int32) (cursor : Int32) (forgottenWhen : Int32) (rowMany : Int32) (tape : (Nat → Int32)) (told : (Nat → Int32)) : va_W := [((ad 0), .inr (5, [.ref (ad 1), .ref (ad 2), .ref (ad 3), .ref (ad 4), .ref (ad 5), .ref (ad 6), .ref (ad 7), .int writers, .int year, .ref (ad 8), .ref (ad 9), .ref (ad 10), .ref (ad 11), .int taped, .int at_, .int statements, .ref (ad 12), .int hasImage, .int isKeeping, .int cursor, .int forgottenWhen, .ref (ad 13), .ref (ad 14), .ref (ad 15), .int rowMany])), ((ad 8), .inl (cI, 96, .inl tape)), ((ad 11), .inl (cI, 144, .inl told))]
def f_X5_readsDigits_5 (taped : Int32) (tape : (Nat → Int32)) (x2 : Int32) (told_u5 : (Nat → Int32)) (kX5_56 : Int32 → Int32 → Option (Int32 × Int32 × (Nat → Int32))) : Nat → Int32 → Int32 → Int32 → Option (Int32 × Int32 × (Nat → Int32))
  | 0 => fun _ _ _ => none
  | fuel + 1 => fun v3_5 v4_5 at__5 => (if x2 ≤ v4_5 then (kX5_56 v3_5 at__5) else ((f_X5_next taped at__5 tape).bind fun (r12 : Int32) => ((f_X5_isIn r12 (48 : Int32) (57 : Int32)).bind fun (r19 : Int32) => (if r19 = 0 then (some ((0 : Int32), at__5, told_u5)) else ((f_X5_next taped at__5 tape).bind fun (r32 : Int32) => (f_X5_readsDigits_5 taped tape x2 told_u5 kX5_56 fuel ((((10 : Int32) * v3_5) + r32) - (48 : Int32)) (v4_5 + (1 : Int32)) (at__5 + (1 : Int32))))))))
theorem e_X5_readsDigits_5 (taped : Int32) (tape : (Nat → Int32)) (x2 : Int32) (told_u5 : (Nat → Int32)) (kX5_56 : Int32 → Int32 → Option (Int32 × Int32 × (Nat → Int32))) (fuel : Nat) (v3_5 : Int32) (v4_5 : Int32) (at__5 : Int32) : f_X5_readsDigits_5 taped tape x2 told_u5 kX5_56 (fuel + 1) v3_5 v4_5 at__5 = (if x2 ≤ v4_5 then (kX5_56 v3_5 at__5) else ((f_X5_next taped at__5 tape).bind fun (r12 : Int32) => ((f_X5_isIn r12 (48 : Int32) (57 : Int32)).bind fun (r19 : Int32) => (if r19 = 0 then (some ((0 : Int32), at__5, told_u5)) else ((f_X5_next taped at__5 tape).bind fun (r32 : Int32) => (f_X5_readsDigits_5 taped tape x2 told_u5 kX5_56 fuel ((((10 : Int32) * v3_5) + r32) - (48 : Int32)) (v4_5 + (1 : Int32)) (at__5 + (1 : Int32)))))))) := rfl
def f_X5_readsDigits_56 (x1 : Int32)  (v3_56 : Int32) (at__56 : Int32) (told_56 : (Nat → Int32)) : Option (Int32 × Int32 × (Nat → Int32)) := (gd x1 144 (some ((1 : Int32), at__56, (upd told_56 (Int32.toNatClampNeg x1) v3_56))))
def f_X5_readsDigits (taped : Int32) (at_ : Int32) (tape : (Nat → Int32)) (told : (Nat → Int32)) (x1 : Int32) (x2 : Int32) : Option (Int32 × Int32 × (Nat → Int32)) := (f_X5_readsDigits_5 taped tape x2 told (fun (v3_56 : Int32) (at__56 : Int32) => (f_X5_readsDigits_56 x1  v3_56 at__56 told)) FU (0 : Int32) (0 : Int32) at_)
set_option maxHeartbeats 4000000 in
set_option maxRecDepth 100000 in
theorem w_X5_readsDigits_5 {p : Program} {l : Launch} {e : Env} {s : State} {m : MethodId} {args : Array Value} {below : List Frame} {meth : Method} {c : Code} {D : va_G} {cI : ClassId} {aS : aSt} {A : Nat → Prop} {Q : State → Prop}  (ad : Nat → Nat) (writers : Int32) (year : Int32) (taped : Int32) (statements : Int32) (hasImage : Int32) (isKeeping : Int32) (cursor : Int32) (forgottenWhen : Int32) (rowMany : Int32) (tape : (Nat → Int32)) (x1 : Int32) (x2 : Int32) (told_u5 : (Nat → Int32)) {R : Int32 × Int32 × (Nat → Int32)} (X : Bx p s m args meth c cX5_readsDigits 5 (some .boolean) RX5 D cI aS A) (hret : RtI p l e 1 s m args below meth c cX5_readsDigits (some .boolean) D A (wd_X5_readsDigits cI ad writers year taped R.2.1 statements hasImage isKeeping cursor forgottenWhen rowMany tape R.2.2) R.1 Q) (kX5_56 : Int32 → Int32 → Option (Int32 × Int32 × (Nat → Int32))) (hkX5_56 : ∀ (v3_56 : Int32) (at__56 : Int32) (H : Heap) (locs : List Loc) (ls : Array Slot), kX5_56 v3_56 at__56 = some R → lv_has ls 5 [(0, .ref (ad 0)), (1, .int x1), (3, .int v3_56)] → va_P D vwCl (wd_X5_readsDigits cI ad writers year taped at__56 statements hasImage isKeeping cursor forgottenWhen rowMany tape told_u5) H → va_D A (wd_X5_readsDigits cI ad writers year taped at__56 statements hasImage isKeeping cursor forgottenWhen rowMany tape told_u5) → va_S A s.heap H locs → Wh p l e 1 s m args below meth c H locs Q (F0 m 56 ls [])) : ∀ (fuel : Nat) (v3_5 : Int32) (v4_5 : Int32) (at__5 : Int32) (H : Heap) (locs : List Loc) (ls : Array Slot), f_X5_readsDigits_5 taped tape x2 told_u5 kX5_56 fuel v3_5 v4_5 at__5 = some R → lv_has ls 5 [(0, .ref (ad 0)), (1, .int x1), (2, .int x2), (3, .int v3_5), (4, .int v4_5)] → va_P D vwCl (wd_X5_readsDigits cI ad writers year taped at__5 statements hasImage isKeeping cursor forgottenWhen rowMany tape told_u5) H → va_D A (wd_X5_readsDigits cI ad writers year taped at__5 statements hasImage isKeeping cursor forgottenWhen rowMany tape told_u5) → va_S A s.heap H locs → Wh p l e 1 s m args below meth c H locs Q (F0 m 5 ls []) := by
  have hx := X.1
  have hb := X.2.1
  intro fuel
  induction fuel with
  | zero =>
    intro v3_5 v4_5 at__5 H locs ls hf hl hP hD hS
    cases hf
  | succ fuel ih =>
    intro v3_5 v4_5 at__5 H locs ls hf hl hP hD hS
    replace hf : (if x2 ≤ v4_5 then (kX5_56 v3_5 at__5) else ((f_X5_next taped at__5 tape).bind fun (r12 : Int32) => ((f_X5_isIn r12 (48 : Int32) (57 : Int32)).bind fun (r19 : Int32) => (if r19 = 0 then (some ((0 : Int32), at__5, told_u5)) else ((f_X5_next taped at__5 tape).bind fun (r32 : Int32) => (f_X5_readsDigits_5 taped tape x2 told_u5 kX5_56 fuel ((((10 : Int32) * v3_5) + r32) - (48 : Int32)) (v4_5 + (1 : Int32)) (at__5 + (1 : Int32)))))))) = some R := hf
    refine lv_iload hx hb dX5_readsDigits_5 (lv_at hl 4 rfl) ?_
    refine lv_iload_n hx hb dX5_readsDigits_7 rfl (lv_at hl 2 rfl) ?_
    refine lv_icmp_ge (tgt := 56) hx hb dX5_readsDigits_8 (by decide) (fun c8 => ?_) (fun c8 => ?_)
    · have hf := iT c8 hf
      exact hkX5_56 v3_5 at__5 _ _ _ hf (lv_sub hl [0, 1, 3] rfl) hP hD hS
    · have hf := iF c8 hf
      refine lv_aload_n hx hb dX5_readsDigits_11 rfl (lv_at hl 0 rfl) ?_
      obtain ⟨r12, hq12, hf⟩ := bS hf
      refine ro_i X hP hD hS [0, 1] rfl (run_V X hP hD hS [0, 1] rfl rfl (c_X5_next l D cI aS ad writers year taped at__5 statements hasImage isKeeping cursor forgottenWhen rowMany tape _ hq12 _) lkX5_76 (by decide) (q0 := 0) rfl rfl rfl rfl (Nat.le_of_ble_eq_true rfl) hl.1 dX5_readsDigits_12) (fun H locs hP hS => ?_)
      refine lv_bipush (v := 48) hx hb dX5_readsDigits_15 (by decide) ?_
      refine lv_bipush (v := 57) hx hb dX5_readsDigits_17 (by decide) ?_
      obtain ⟨r19, hq19, hf⟩ := bS hf
      refine ro_i X hP hD hS [] rfl (run_S X hP hD hS [] rfl rfl (c_X5_isIn l D cI aS r12 (48 : Int32) (57 : Int32) _ hq19 _) lkX5_80 (by decide) rfl rfl (Nat.le_of_ble_eq_true rfl) hl.1 dX5_readsDigits_19) (fun H locs hP hS => ?_)
      refine lv_if_ne (tgt := 27) hx hb dX5_readsDigits_22 (by decide) (fun c22 => ?_) (fun c22 => ?_)
      · have hf := iF c22 hf
        refine lv_bipush (v := 10) hx hb dX5_readsDigits_27 (by decide) ?_
        refine lv_iload_n hx hb dX5_readsDigits_29 rfl (lv_at hl 3 rfl) ?_
        refine lv_imul hx hb dX5_readsDigits_30 ?_
        refine lv_aload_n hx hb dX5_readsDigits_31 rfl (lv_at hl 0 rfl) ?_
        obtain ⟨r32, hq32, hf⟩ := bS hf
        refine ro_i X hP hD hS [0, 1] rfl (run_V X hP hD hS [0, 1] rfl rfl (c_X5_next l D cI aS ad writers year taped at__5 statements hasImage isKeeping cursor forgottenWhen rowMany tape _ hq32 _) lkX5_76 (by decide) (q0 := 0) rfl rfl rfl rfl (Nat.le_of_ble_eq_true rfl) hl.1 dX5_readsDigits_32) (fun H locs hP hS => ?_)
        refine lv_iadd hx hb dX5_readsDigits_35 ?_
        refine lv_bipush (v := 48) hx hb dX5_readsDigits_36 (by decide) ?_
        refine lv_isub hx hb dX5_readsDigits_38 ?_
        refine lv_istore_n (lv' := [(3, .int ((((10 : Int32) * v3_5) + r32) - (48 : Int32))), (0, .ref (ad 0)), (1, .int x1), (2, .int x2), (4, .int v4_5)]) hx hb dX5_readsDigits_39 rfl hl (by decide) rfl (fun ls hl => ?_)
        refine lv_aload_n hx hb dX5_readsDigits_40 rfl (lv_at hl 1 rfl) ?_
        refine lv_dup hx hb dX5_readsDigits_41 rfl ?_
        refine fgX5_73 X hP (q0 := 0) rfl rfl dX5_readsDigits_42 ?_
        refine lv_iconst (v := 1) hx hb dX5_readsDigits_45 (by decide) ?_
        refine lv_iadd hx hb dX5_readsDigits_46 ?_
        refine fpX5_73 X hP hD hS (q0 := 0) (ws' := (wd_X5_readsDigits cI ad writers year taped (at__5 + (1 : Int32)) statements hasImage isKeeping cursor forgottenWhen rowMany tape told_u5)) rfl rfl rfl (Nat.le_of_ble_eq_true rfl) rfl dX5_readsDigits_47 (fun H locs hP hD hS => ?_)
        refine lv_iinc (v := (v4_5 + (1 : Int32))) (lv' := [(4, .int (v4_5 + (1 : Int32))), (3, .int ((((10 : Int32) * v3_5) + r32) - (48 : Int32))), (0, .ref (ad 0)), (1, .int x1), (2, .int x2)]) hx hb dX5_readsDigits_50 hl (k := 4) rfl rfl (by decide) rfl (fun ls hl => ?_)
        refine lv_goto (tgt := 5) hx hb dX5_readsDigits_53 (by decide) ?_
        exact ih ((((10 : Int32) * v3_5) + r32) - (48 : Int32)) (v4_5 + (1 : Int32)) (at__5 + (1 : Int32)) _ _ _ hf (lv_sub hl [2, 3, 4, 1, 0] rfl) hP hD hS
      · have hf := iT c22 hf
        refine lv_iconst (v := 0) hx hb dX5_readsDigits_25 (by decide) ?_
        have hR := Option.some.inj hf
        subst hR
        exact hret _ _ _ _ _ rfl (fun _ hn => by cases hn; rfl) hP hD hS dX5_readsDigits_26
set_option maxHeartbeats 4000000 in
set_option maxRecDepth 100000 in
theorem w_X5_readsDigits_56 {p : Program} {l : Launch} {e : Env} {s : State} {m : MethodId} {args : Array Value} {below : List Frame} {meth : Method} {c : Code} {D : va_G} {cI : ClassId} {aS : aSt} {A : Nat → Prop} {Q : State → Prop}  (ad : Nat → Nat) (writers : Int32) (year : Int32) (taped : Int32) (statements : Int32) (hasImage : Int32) (isKeeping : Int32) (cursor : Int32) (forgottenWhen : Int32) (rowMany : Int32) (tape : (Nat → Int32)) (x1 : Int32) (x2 : Int32) {R : Int32 × Int32 × (Nat → Int32)} (X : Bx p s m args meth c cX5_readsDigits 5 (some .boolean) RX5 D cI aS A) (hret : RtI p l e 1 s m args below meth c cX5_readsDigits (some .boolean) D A (wd_X5_readsDigits cI ad writers year taped R.2.1 statements hasImage isKeeping cursor forgottenWhen rowMany tape R.2.2) R.1 Q) : ∀ (v3_56 : Int32) (at__56 : Int32) (told_56 : (Nat → Int32)) (H : Heap) (locs : List Loc) (ls : Array Slot), f_X5_readsDigits_56 x1  v3_56 at__56 told_56 = some R → lv_has ls 5 [(0, .ref (ad 0)), (1, .int x1), (3, .int v3_56)] → va_P D vwCl (wd_X5_readsDigits cI ad writers year taped at__56 statements hasImage isKeeping cursor forgottenWhen rowMany tape told_56) H → va_D A (wd_X5_readsDigits cI ad writers year taped at__56 statements hasImage isKeeping cursor forgottenWhen rowMany tape told_56) → va_S A s.heap H locs → Wh p l e 1 s m args below meth c H locs Q (F0 m 56 ls []) := by
  have hx := X.1
  have hb := X.2.1
  intro v3_56 at__56 told_56 H locs ls hf hl hP hD hS
  replace hf : (gd x1 144 (some ((1 : Int32), at__56, (upd told_56 (Int32.toNatClampNeg x1) v3_56)))) = some R := hf
  refine lv_aload_n hx hb dX5_readsDigits_56 rfl (lv_at hl 0 rfl) ?_
  refine fgX5_40 X hP (q0 := 0) rfl rfl dX5_readsDigits_57 ?_
  refine lv_iload_n hx hb dX5_readsDigits_60 rfl (lv_at hl 1 rfl) ?_
  refine lv_iload_n hx hb dX5_readsDigits_61 rfl (lv_at hl 2 rfl) ?_
  refine aPut X hP hD hS (q0 := 2) (ws' := (wd_X5_readsDigits cI ad writers year taped at__56 statements hasImage isKeeping cursor forgottenWhen rowMany tape (upd told_56 (Int32.toNatClampNeg x1) v3_56))) rfl (gdS hf).1 rfl dX5_readsDigits_62 (fun H locs hP hD hS => ?_)
  have hf := (gdS hf).2
  refine lv_iconst (v := 1) hx hb dX5_readsDigits_63 (by decide) ?_
  have hR := Option.some.inj hf
  subst hR
  exact hret _ _ _ _ _ rfl (fun _ hn => by cases hn; rfl) hP hD hS dX5_readsDigits_64
set_option maxHeartbeats 4000000 in
set_option maxRecDepth 100000 in
theorem c_X5_readsDigits (l : Launch) (D : va_G) (cI : ClassId) (aS : aSt) (ad : Nat → Nat) (writers : Int32) (year : Int32) (taped : Int32) (at_ : Int32) (statements : Int32) (hasImage : Int32) (isKeeping : Int32) (cursor : Int32) (forgottenWhen : Int32) (rowMany : Int32) (tape : (Nat → Int32)) (told : (Nat → Int32)) (x1 : Int32) (x2 : Int32) (R : Int32 × Int32 × (Nat → Int32)) (hf : f_X5_readsDigits taped at_ tape told x1 x2 = some R) : CtI l yX5_readsDigits cX5_readsDigits 5 (some .boolean) 1 D cI aS [.ref (ad 0), .int x1, .int x2] (wd_X5_readsDigits cI ad writers year taped at_ statements hasImage isKeeping cursor forgottenWhen rowMany tape told) (wd_X5_readsDigits cI ad writers year taped R.2.1 statements hasImage isKeeping cursor forgottenWhen rowMany tape R.2.2) R.1 := by
  refine ctI_of (by decide) ⟨_, rfl⟩ (Nat.le_of_ble_eq_true rfl) ?_
  intro p e s m below meth c A Q ls X hret hP hD hl
  have hS : va_S A s.heap s.heap [] := va_S.rf
  have hx := X.1
  have hb := X.2.1
  have hl : lv_has ls 5 [(0, .ref (ad 0)), (1, .int x1), (2, .int x2)] := hl
  replace hf : (f_X5_readsDigits_5 taped tape x2 told (fun (v3_56 : Int32) (at__56 : Int32) => (f_X5_readsDigits_56 x1  v3_56 at__56 told)) FU (0 : Int32) (0 : Int32) at_) = some R := hf
  refine lv_iconst (v := 0) hx hb dX5_readsDigits_0 (by decide) ?_
  refine lv_istore_n (lv' := [(3, .int (0 : Int32)), (0, .ref (ad 0)), (1, .int x1), (2, .int x2)]) hx hb dX5_readsDigits_1 rfl hl (by decide) rfl (fun ls hl => ?_)
  refine lv_iconst (v := 0) hx hb dX5_readsDigits_2 (by decide) ?_
  refine lv_istore (lv' := [(4, .int (0 : Int32)), (3, .int (0 : Int32)), (0, .ref (ad 0)), (1, .int x1), (2, .int x2)]) hx hb dX5_readsDigits_3 hl (by decide) rfl (fun ls hl => ?_)
  exact w_X5_readsDigits_5 ad writers year taped statements hasImage isKeeping cursor forgottenWhen rowMany tape x1 x2 told X hret _ (fun v3_56 at__56 _ _ _ hf hl hP hD hS => w_X5_readsDigits_56 ad writers year taped statements hasImage isKeeping cursor forgottenWhen rowMany tape x1 x2 X hret  v3_56 at__56 told _ _ _ hf (lv_sub hl [0, 1, 2] rfl) hP hD hS) _ (0 : Int32) (0 : Int32) at_ _ _ _ hf (lv_sub hl [2, 3, 4, 1, 0] rfl) hP hD hS

abbrev wd_X5_readsWriter (cI : ClassId) (ad : Nat → Nat) (writers : Int32) (year : Int32) (taped : Int32) (at_ : Int32) (statements : Int32) (hasImage : Int32) (isKeeping : Int32) (cursor : Int32) (forgottenWhen : Int32) (rowMany : Int32) (tape : (Nat → Int32)) (told : (Nat → Int32)) : va_W := [((ad 0), .inr (5, [.ref (ad 1), .ref (ad 2), .ref (ad 3), .ref (ad 4), .ref (ad 5), .ref (ad 6), .ref (ad 7), .int writers, .int year, .ref (ad 8), .ref (ad 9), .ref (ad 10), .ref (ad 11), .int taped, .int at_, .int statements, .ref (ad 12), .int hasImage, .int isKeeping, .int cursor, .int forgottenWhen, .ref (ad 13), .ref (ad 14), .ref (ad 15), .int rowMany])), ((ad 8), .inl (cI, 96, .inl tape)), ((ad 11), .inl (cI, 144, .inl told))]
def f_X5_readsWriter (taped : Int32) (at_ : Int32) (tape : (Nat → Int32)) (told : (Nat → Int32)) (x1 : Int32) : Option (Int32 × Int32 × (Nat → Int32)) := ((f_X5_next taped at_ tape).bind fun (r6 : Int32) => ((f_X5_kindOf r6).bind fun (r9 : Int32) => (gd x1 144 (gd x1 144 (if 0 ≤ ((upd told (Int32.toNatClampNeg x1) r9) (Int32.toNatClampNeg x1)) then ((f_X5_readsDigits taped (at_ + (1 : Int32)) tape (upd told (Int32.toNatClampNeg x1) r9) (x1 + (1 : Int32)) (1 : Int32)).bind fun (r39 : Int32 × Int32 × (Nat → Int32)) => (if r39.1 = 0 then (some ((0 : Int32), r39.2.1, r39.2.2)) else ((f_X5_readsDigits taped r39.2.1 tape r39.2.2 (x1 + (2 : Int32)) (1 : Int32)).bind fun (r50 : Int32 × Int32 × (Nat → Int32)) => (if r50.1 = 0 then (some ((0 : Int32), r50.2.1, r50.2.2)) else (some ((1 : Int32), r50.2.1, r50.2.2)))))) else (some ((0 : Int32), at_, (upd told (Int32.toNatClampNeg x1) r9))))))))
set_option maxHeartbeats 4000000 in
set_option maxRecDepth 100000 in
theorem c_X5_readsWriter (l : Launch) (D : va_G) (cI : ClassId) (aS : aSt) (ad : Nat → Nat) (writers : Int32) (year : Int32) (taped : Int32) (at_ : Int32) (statements : Int32) (hasImage : Int32) (isKeeping : Int32) (cursor : Int32) (forgottenWhen : Int32) (rowMany : Int32) (tape : (Nat → Int32)) (told : (Nat → Int32)) (x1 : Int32) (R : Int32 × Int32 × (Nat → Int32)) (hf : f_X5_readsWriter taped at_ tape told x1 = some R) : CtI l yX5_readsWriter cX5_readsWriter 2 (some .boolean) 2 D cI aS [.ref (ad 0), .int x1] (wd_X5_readsWriter cI ad writers year taped at_ statements hasImage isKeeping cursor forgottenWhen rowMany tape told) (wd_X5_readsWriter cI ad writers year taped R.2.1 statements hasImage isKeeping cursor forgottenWhen rowMany tape R.2.2) R.1 := by
  refine ctI_of (by decide) ⟨_, rfl⟩ (Nat.le_of_ble_eq_true rfl) ?_
  intro p e s m below meth c A Q ls X hret hP hD hl
  have hS : va_S A s.heap s.heap [] := va_S.rf
  have hx := X.1
  have hb := X.2.1
  have hl : lv_has ls 2 [(0, .ref (ad 0)), (1, .int x1)] := hl
  replace hf : ((f_X5_next taped at_ tape).bind fun (r6 : Int32) => ((f_X5_kindOf r6).bind fun (r9 : Int32) => (gd x1 144 (gd x1 144 (if 0 ≤ ((upd told (Int32.toNatClampNeg x1) r9) (Int32.toNatClampNeg x1)) then ((f_X5_readsDigits taped (at_ + (1 : Int32)) tape (upd told (Int32.toNatClampNeg x1) r9) (x1 + (1 : Int32)) (1 : Int32)).bind fun (r39 : Int32 × Int32 × (Nat → Int32)) => (if r39.1 = 0 then (some ((0 : Int32), r39.2.1, r39.2.2)) else ((f_X5_readsDigits taped r39.2.1 tape r39.2.2 (x1 + (2 : Int32)) (1 : Int32)).bind fun (r50 : Int32 × Int32 × (Nat → Int32)) => (if r50.1 = 0 then (some ((0 : Int32), r50.2.1, r50.2.2)) else (some ((1 : Int32), r50.2.1, r50.2.2)))))) else (some ((0 : Int32), at_, (upd told (Int32.toNatClampNeg x1) r9)))))))) = some R := hf
  refine lv_aload_n hx hb dX5_readsWriter_0 rfl (lv_at hl 0 rfl) ?_
  refine fgX5_40 X hP (q0 := 0) rfl rfl dX5_readsWriter_1 ?_
  refine lv_iload_n hx hb dX5_readsWriter_4 rfl (lv_at hl 1 rfl) ?_
  refine lv_aload_n hx hb dX5_readsWriter_5 rfl (lv_at hl 0 rfl) ?_
  obtain ⟨r6, hq6, hf⟩ := bS hf
  refine ro_i X hP hD hS [0, 1] rfl (run_V X hP hD hS [0, 1] rfl rfl (c_X5_next l D cI aS ad writers year taped at_ statements hasImage isKeeping cursor forgottenWhen rowMany tape _ hq6 _) lkX5_76 (by decide) (q0 := 0) rfl rfl rfl rfl (Nat.le_of_ble_eq_true rfl) hl.1 dX5_readsWriter_6) (fun H locs hP hS => ?_)
  obtain ⟨r9, hq9, hf⟩ := bS hf
  refine ro_i X hP hD hS [] rfl (run_S X hP hD hS [] rfl rfl (c_X5_kindOf l D cI aS r6 _ hq9 _) lkX5_84 (by decide) rfl rfl (Nat.le_of_ble_eq_true rfl) hl.1 dX5_readsWriter_9) (fun H locs hP hS => ?_)
  refine aPut X hP hD hS (q0 := 2) (ws' := (wd_X5_readsWriter cI ad writers year taped at_ statements hasImage isKeeping cursor forgottenWhen rowMany tape (upd told (Int32.toNatClampNeg x1) r9))) rfl (gdS hf).1 rfl dX5_readsWriter_12 (fun H locs hP hD hS => ?_)
  have hf := (gdS hf).2
  refine lv_aload_n hx hb dX5_readsWriter_13 rfl (lv_at hl 0 rfl) ?_
  refine fgX5_40 X hP (q0 := 0) rfl rfl dX5_readsWriter_14 ?_
  refine lv_iload_n hx hb dX5_readsWriter_17 rfl (lv_at hl 1 rfl) ?_
  refine aGet X hP (q0 := 2) rfl (gdS hf).1 dX5_readsWriter_18 ?_
  have hf := (gdS hf).2
  refine lv_if_ge (tgt := 24) hx hb dX5_readsWriter_19 (by decide) (fun c19 => ?_) (fun c19 => ?_)
  · have hf := iT c19 hf
    refine lv_aload_n hx hb dX5_readsWriter_24 rfl (lv_at hl 0 rfl) ?_
    refine lv_dup hx hb dX5_readsWriter_25 rfl ?_
    refine fgX5_73 X hP (q0 := 0) rfl rfl dX5_readsWriter_26 ?_
    refine lv_iconst (v := 1) hx hb dX5_readsWriter_29 (by decide) ?_
    refine lv_iadd hx hb dX5_readsWriter_30 ?_
    refine fpX5_73 X hP hD hS (q0 := 0) (ws' := (wd_X5_readsWriter cI ad writers year taped (at_ + (1 : Int32)) statements hasImage isKeeping cursor forgottenWhen rowMany tape (upd told (Int32.toNatClampNeg x1) r9))) rfl rfl rfl (Nat.le_of_ble_eq_true rfl) rfl dX5_readsWriter_31 (fun H locs hP hD hS => ?_)
    refine lv_aload_n hx hb dX5_readsWriter_34 rfl (lv_at hl 0 rfl) ?_
    refine lv_iload_n hx hb dX5_readsWriter_35 rfl (lv_at hl 1 rfl) ?_
    refine lv_iconst (v := 1) hx hb dX5_readsWriter_36 (by decide) ?_
    refine lv_iadd hx hb dX5_readsWriter_37 ?_
    refine lv_iconst (v := 1) hx hb dX5_readsWriter_38 (by decide) ?_
    obtain ⟨r39, hq39, hf⟩ := bS hf
    refine wr_i X hP hD hS [0, 1, 2] rfl (ws' := (wd_X5_readsWriter cI ad writers year taped r39.2.1 statements hasImage isKeeping cursor forgottenWhen rowMany tape r39.2.2)) (Nat.le_of_ble_eq_true rfl) rfl rfl (run_V X hP hD hS [0, 1, 2] rfl rfl (c_X5_readsDigits l D cI aS ad writers year taped (at_ + (1 : Int32)) statements hasImage isKeeping cursor forgottenWhen rowMany tape (upd told (Int32.toNatClampNeg x1) r9) (x1 + (1 : Int32)) (1 : Int32) _ hq39 _) lkX5_87 (by decide) (q0 := 0) rfl rfl rfl rfl (Nat.le_of_ble_eq_true rfl) hl.1 dX5_readsWriter_39) (fun H locs hP hD hS => ?_)
    refine lv_if_eq (tgt := 60) hx hb dX5_readsWriter_42 (by decide) (fun c42 => ?_) (fun c42 => ?_)
    · have hf := iT c42 hf
      refine lv_iconst (v := 0) hx hb dX5_readsWriter_60 (by decide) ?_
      have hR := Option.some.inj hf
      subst hR
      exact hret _ _ _ _ _ rfl (fun _ hn => by cases hn; rfl) hP hD hS dX5_readsWriter_61
    · have hf := iF c42 hf
      refine lv_aload_n hx hb dX5_readsWriter_45 rfl (lv_at hl 0 rfl) ?_
      refine lv_iload_n hx hb dX5_readsWriter_46 rfl (lv_at hl 1 rfl) ?_
      refine lv_iconst (v := 2) hx hb dX5_readsWriter_47 (by decide) ?_
      refine lv_iadd hx hb dX5_readsWriter_48 ?_
      refine lv_iconst (v := 1) hx hb dX5_readsWriter_49 (by decide) ?_
      obtain ⟨r50, hq50, hf⟩ := bS hf
      refine wr_i X hP hD hS [0, 1, 2] rfl (ws' := (wd_X5_readsWriter cI ad writers year taped r50.2.1 statements hasImage isKeeping cursor forgottenWhen rowMany tape r50.2.2)) (Nat.le_of_ble_eq_true rfl) rfl rfl (run_V X hP hD hS [0, 1, 2] rfl rfl (c_X5_readsDigits l D cI aS ad writers year taped r39.2.1 statements hasImage isKeeping cursor forgottenWhen rowMany tape r39.2.2 (x1 + (2 : Int32)) (1 : Int32) _ hq50 _) lkX5_87 (by decide) (q0 := 0) rfl rfl rfl rfl (Nat.le_of_ble_eq_true rfl) hl.1 dX5_readsWriter_50) (fun H locs hP hD hS => ?_)
      refine lv_if_eq (tgt := 60) hx hb dX5_readsWriter_53 (by decide) (fun c53 => ?_) (fun c53 => ?_)
      · have hf := iT c53 hf
        refine lv_iconst (v := 0) hx hb dX5_readsWriter_60 (by decide) ?_
        have hR := Option.some.inj hf
        subst hR
        exact hret _ _ _ _ _ rfl (fun _ hn => by cases hn; rfl) hP hD hS dX5_readsWriter_61
      · have hf := iF c53 hf
        refine lv_iconst (v := 1) hx hb dX5_readsWriter_56 (by decide) ?_
        refine lv_goto (tgt := 61) hx hb dX5_readsWriter_57 (by decide) ?_
        have hR := Option.some.inj hf
        subst hR
        exact hret _ _ _ _ _ rfl (fun _ hn => by cases hn; rfl) hP hD hS dX5_readsWriter_61
  · have hf := iF c19 hf
    refine lv_iconst (v := 0) hx hb dX5_readsWriter_22 (by decide) ?_
    have hR := Option.some.inj hf
    subst hR
    exact hret _ _ _ _ _ rfl (fun _ hn => by cases hn; rfl) hP hD hS dX5_readsWriter_23

abbrev wd_X5_readsAll (cI : ClassId) (ad : Nat → Nat) (writers : Int32) (year : Int32) (taped : Int32) (at_ : Int32) (statements : Int32) (hasImage : Int32) (isKeeping : Int32) (cursor : Int32) (forgottenWhen : Int32) (rowMany : Int32) (tape : (Nat → Int32)) (told : (Nat → Int32)) : va_W := [((ad 0), .inr (5, [.ref (ad 1), .ref (ad 2), .ref (ad 3), .ref (ad 4), .ref (ad 5), .ref (ad 6), .ref (ad 7), .int writers, .int year, .ref (ad 8), .ref (ad 9), .ref (ad 10), .ref (ad 11), .int taped, .int at_, .int statements, .ref (ad 12), .int hasImage, .int isKeeping, .int cursor, .int forgottenWhen, .ref (ad 13), .ref (ad 14), .ref (ad 15), .int rowMany])), ((ad 8), .inl (cI, 96, .inl tape)), ((ad 11), .inl (cI, 144, .inl told))]
def f_X5_readsAll (taped : Int32) (at_ : Int32) (tape : (Nat → Int32)) (told : (Nat → Int32)) (x1 : Int32) (x2 : Int32) : Option (Int32 × Int32 × (Nat → Int32)) := (if x1 = (102 : Int32) then ((f_X5_readsDigits taped at_ tape told x2 (1 : Int32)).bind fun (r60 : Int32 × Int32 × (Nat → Int32)) => (if r60.1 = 0 then (some ((0 : Int32), r60.2.1, r60.2.2)) else ((f_X5_readsDigits taped r60.2.1 tape r60.2.2 (x2 + (1 : Int32)) (2 : Int32)).bind fun (r71 : Int32 × Int32 × (Nat → Int32)) => (if r71.1 = 0 then (some ((0 : Int32), r71.2.1, r71.2.2)) else (some ((1 : Int32), r71.2.1, r71.2.2)))))) else (if x1 = (115 : Int32) then ((f_X5_readsDigits taped at_ tape told x2 (1 : Int32)).bind fun (r53 : Int32 × Int32 × (Nat → Int32)) => (gb r53.1 (some (r53.1, r53.2.1, r53.2.2)))) else (if x1 = (119 : Int32) then ((f_X5_readsWriter taped at_ tape told x2).bind fun (r46 : Int32 × Int32 × (Nat → Int32)) => (gb r46.1 (some (r46.1, r46.2.1, r46.2.2)))) else (if x1 = (121 : Int32) then ((f_X5_readsDigits taped at_ tape told x2 (2 : Int32)).bind fun (r86 : Int32 × Int32 × (Nat → Int32)) => (gb r86.1 (some (r86.1, r86.2.1, r86.2.2)))) else ((f_X5_readsDigits taped at_ tape told x2 (1 : Int32)).bind fun (r93 : Int32 × Int32 × (Nat → Int32)) => (if r93.1 = 0 then (some ((0 : Int32), r93.2.1, r93.2.2)) else ((f_X5_readsDigits taped r93.2.1 tape r93.2.2 (x2 + (1 : Int32)) (1 : Int32)).bind fun (r104 : Int32 × Int32 × (Nat → Int32)) => (if r104.1 = 0 then (some ((0 : Int32), r104.2.1, r104.2.2)) else (some ((1 : Int32), r104.2.1, r104.2.2))))))))))
set_option maxHeartbeats 4000000 in
set_option maxRecDepth 100000 in
theorem c_X5_readsAll (l : Launch) (D : va_G) (cI : ClassId) (aS : aSt) (ad : Nat → Nat) (writers : Int32) (year : Int32) (taped : Int32) (at_ : Int32) (statements : Int32) (hasImage : Int32) (isKeeping : Int32) (cursor : Int32) (forgottenWhen : Int32) (rowMany : Int32) (tape : (Nat → Int32)) (told : (Nat → Int32)) (x1 : Int32) (x2 : Int32) (R : Int32 × Int32 × (Nat → Int32)) (hf : f_X5_readsAll taped at_ tape told x1 x2 = some R) : CtI l yX5_readsAll cX5_readsAll 3 (some .boolean) 3 D cI aS [.ref (ad 0), .int x1, .int x2] (wd_X5_readsAll cI ad writers year taped at_ statements hasImage isKeeping cursor forgottenWhen rowMany tape told) (wd_X5_readsAll cI ad writers year taped R.2.1 statements hasImage isKeeping cursor forgottenWhen rowMany tape R.2.2) R.1 := by
  refine ctI_of (by decide) ⟨_, rfl⟩ (Nat.le_of_ble_eq_true rfl) ?_
  intro p e s m below meth c A Q ls X hret hP hD hl
  have hS : va_S A s.heap s.heap [] := va_S.rf
  have hx := X.1
  have hb := X.2.1
  have hl : lv_has ls 3 [(0, .ref (ad 0)), (1, .int x1), (2, .int x2)] := hl
  replace hf : (if x1 = (102 : Int32) then ((f_X5_readsDigits taped at_ tape told x2 (1 : Int32)).bind fun (r60 : Int32 × Int32 × (Nat → Int32)) => (if r60.1 = 0 then (some ((0 : Int32), r60.2.1, r60.2.2)) else ((f_X5_readsDigits taped r60.2.1 tape r60.2.2 (x2 + (1 : Int32)) (2 : Int32)).bind fun (r71 : Int32 × Int32 × (Nat → Int32)) => (if r71.1 = 0 then (some ((0 : Int32), r71.2.1, r71.2.2)) else (some ((1 : Int32), r71.2.1, r71.2.2)))))) else (if x1 = (115 : Int32) then ((f_X5_readsDigits taped at_ tape told x2 (1 : Int32)).bind fun (r53 : Int32 × Int32 × (Nat → Int32)) => (gb r53.1 (some (r53.1, r53.2.1, r53.2.2)))) else (if x1 = (119 : Int32) then ((f_X5_readsWriter taped at_ tape told x2).bind fun (r46 : Int32 × Int32 × (Nat → Int32)) => (gb r46.1 (some (r46.1, r46.2.1, r46.2.2)))) else (if x1 = (121 : Int32) then ((f_X5_readsDigits taped at_ tape told x2 (2 : Int32)).bind fun (r86 : Int32 × Int32 × (Nat → Int32)) => (gb r86.1 (some (r86.1, r86.2.1, r86.2.2)))) else ((f_X5_readsDigits taped at_ tape told x2 (1 : Int32)).bind fun (r93 : Int32 × Int32 × (Nat → Int32)) => (if r93.1 = 0 then (some ((0 : Int32), r93.2.1, r93.2.2)) else ((f_X5_readsDigits taped r93.2.1 tape r93.2.2 (x2 + (1 : Int32)) (1 : Int32)).bind fun (r104 : Int32 × Int32 × (Nat → Int32)) => (if r104.1 = 0 then (some ((0 : Int32), r104.2.1, r104.2.2)) else (some ((1 : Int32), r104.2.1, r104.2.2)))))))))) = some R := hf
  refine lv_iload_n hx hb dX5_readsAll_0 rfl (lv_at hl 1 rfl) ?_
  by_cases c1_0 : x1 = (102 : Int32)
  · have hf := iT c1_0 hf
    refine lsIn (tgt := 57) (off := 56) hx hb dX5_readsAll_1 c1_0 (by decide) (by decide) (by decide) ?_
    refine lv_aload_n hx hb dX5_readsAll_57 rfl (lv_at hl 0 rfl) ?_
    refine lv_iload_n hx hb dX5_readsAll_58 rfl (lv_at hl 2 rfl) ?_
    refine lv_iconst (v := 1) hx hb dX5_readsAll_59 (by decide) ?_
    obtain ⟨r60, hq60, hf⟩ := bS hf
    refine wr_i X hP hD hS [0, 1, 2] rfl (ws' := (wd_X5_readsAll cI ad writers year taped r60.2.1 statements hasImage isKeeping cursor forgottenWhen rowMany tape r60.2.2)) (Nat.le_of_ble_eq_true rfl) rfl rfl (run_V X hP hD hS [0, 1, 2] rfl rfl (c_X5_readsDigits l D cI aS ad writers year taped at_ statements hasImage isKeeping cursor forgottenWhen rowMany tape told x2 (1 : Int32) _ hq60 _) lkX5_87 (by decide) (q0 := 0) rfl rfl rfl rfl (Nat.le_of_ble_eq_true rfl) hl.1 dX5_readsAll_60) (fun H locs hP hD hS => ?_)
    refine lv_if_eq (tgt := 81) hx hb dX5_readsAll_63 (by decide) (fun c63 => ?_) (fun c63 => ?_)
    · have hf := iT c63 hf
      refine lv_iconst (v := 0) hx hb dX5_readsAll_81 (by decide) ?_
      have hR := Option.some.inj hf
      subst hR
      exact hret _ _ _ _ _ rfl (fun _ hn => by cases hn; rfl) hP hD hS dX5_readsAll_82
    · have hf := iF c63 hf
      refine lv_aload_n hx hb dX5_readsAll_66 rfl (lv_at hl 0 rfl) ?_
      refine lv_iload_n hx hb dX5_readsAll_67 rfl (lv_at hl 2 rfl) ?_
      refine lv_iconst (v := 1) hx hb dX5_readsAll_68 (by decide) ?_
      refine lv_iadd hx hb dX5_readsAll_69 ?_
      refine lv_iconst (v := 2) hx hb dX5_readsAll_70 (by decide) ?_
      obtain ⟨r71, hq71, hf⟩ := bS hf
      refine wr_i X hP hD hS [0, 1, 2] rfl (ws' := (wd_X5_readsAll cI ad writers year taped r71.2.1 statements hasImage isKeeping cursor forgottenWhen rowMany tape r71.2.2)) (Nat.le_of_ble_eq_true rfl) rfl rfl (run_V X hP hD hS [0, 1, 2] rfl rfl (c_X5_readsDigits l D cI aS ad writers year taped r60.2.1 statements hasImage isKeeping cursor forgottenWhen rowMany tape r60.2.2 (x2 + (1 : Int32)) (2 : Int32) _ hq71 _) lkX5_87 (by decide) (q0 := 0) rfl rfl rfl rfl (Nat.le_of_ble_eq_true rfl) hl.1 dX5_readsAll_71) (fun H locs hP hD hS => ?_)
      refine lv_if_eq (tgt := 81) hx hb dX5_readsAll_74 (by decide) (fun c74 => ?_) (fun c74 => ?_)
      · have hf := iT c74 hf
        refine lv_iconst (v := 0) hx hb dX5_readsAll_81 (by decide) ?_
        have hR := Option.some.inj hf
        subst hR
        exact hret _ _ _ _ _ rfl (fun _ hn => by cases hn; rfl) hP hD hS dX5_readsAll_82
      · have hf := iF c74 hf
        refine lv_iconst (v := 1) hx hb dX5_readsAll_77 (by decide) ?_
        refine lv_goto (tgt := 82) hx hb dX5_readsAll_78 (by decide) ?_
        have hR := Option.some.inj hf
        subst hR
        exact hret _ _ _ _ _ rfl (fun _ hn => by cases hn; rfl) hP hD hS dX5_readsAll_82
  have hf := iF c1_0 hf
  by_cases c1_1 : x1 = (115 : Int32)
  · have hf := iT c1_1 hf
    refine lsIn (tgt := 50) (off := 49) hx hb dX5_readsAll_1 c1_1 (by decide) (by decide) (by decide) ?_
    refine lv_aload_n hx hb dX5_readsAll_50 rfl (lv_at hl 0 rfl) ?_
    refine lv_iload_n hx hb dX5_readsAll_51 rfl (lv_at hl 2 rfl) ?_
    refine lv_iconst (v := 1) hx hb dX5_readsAll_52 (by decide) ?_
    obtain ⟨r53, hq53, hf⟩ := bS hf
    refine wr_i X hP hD hS [0, 1, 2] rfl (ws' := (wd_X5_readsAll cI ad writers year taped r53.2.1 statements hasImage isKeeping cursor forgottenWhen rowMany tape r53.2.2)) (Nat.le_of_ble_eq_true rfl) rfl rfl (run_V X hP hD hS [0, 1, 2] rfl rfl (c_X5_readsDigits l D cI aS ad writers year taped at_ statements hasImage isKeeping cursor forgottenWhen rowMany tape told x2 (1 : Int32) _ hq53 _) lkX5_87 (by decide) (q0 := 0) rfl rfl rfl rfl (Nat.le_of_ble_eq_true rfl) hl.1 dX5_readsAll_53) (fun H locs hP hD hS => ?_)
    have hn1 := (gbS hf).1
    have hf := (gbS hf).2
    have hR := Option.some.inj hf
    subst hR
    exact hret _ _ _ _ _ rfl (fun _ hn => by cases hn; exact hn1) hP hD hS dX5_readsAll_56
  have hf := iF c1_1 hf
  by_cases c1_2 : x1 = (119 : Int32)
  · have hf := iT c1_2 hf
    refine lsIn (tgt := 44) (off := 43) hx hb dX5_readsAll_1 c1_2 (by decide) (by decide) (by decide) ?_
    refine lv_aload_n hx hb dX5_readsAll_44 rfl (lv_at hl 0 rfl) ?_
    refine lv_iload_n hx hb dX5_readsAll_45 rfl (lv_at hl 2 rfl) ?_
    obtain ⟨r46, hq46, hf⟩ := bS hf
    refine wr_i X hP hD hS [0, 1, 2] rfl (ws' := (wd_X5_readsAll cI ad writers year taped r46.2.1 statements hasImage isKeeping cursor forgottenWhen rowMany tape r46.2.2)) (Nat.le_of_ble_eq_true rfl) rfl rfl (run_V X hP hD hS [0, 1, 2] rfl rfl (c_X5_readsWriter l D cI aS ad writers year taped at_ statements hasImage isKeeping cursor forgottenWhen rowMany tape told x2 _ hq46 _) lkX5_91 (by decide) (q0 := 0) rfl rfl rfl rfl (Nat.le_of_ble_eq_true rfl) hl.1 dX5_readsAll_46) (fun H locs hP hD hS => ?_)
    have hn1 := (gbS hf).1
    have hf := (gbS hf).2
    have hR := Option.some.inj hf
    subst hR
    exact hret _ _ _ _ _ rfl (fun _ hn => by cases hn; exact hn1) hP hD hS dX5_readsAll_49
  have hf := iF c1_2 hf
  by_cases c1_3 : x1 = (121 : Int32)
  · have hf := iT c1_3 hf
    refine lsIn (tgt := 83) (off := 82) hx hb dX5_readsAll_1 c1_3 (by decide) (by decide) (by decide) ?_
    refine lv_aload_n hx hb dX5_readsAll_83 rfl (lv_at hl 0 rfl) ?_
    refine lv_iload_n hx hb dX5_readsAll_84 rfl (lv_at hl 2 rfl) ?_
    refine lv_iconst (v := 2) hx hb dX5_readsAll_85 (by decide) ?_
    obtain ⟨r86, hq86, hf⟩ := bS hf
    refine wr_i X hP hD hS [0, 1, 2] rfl (ws' := (wd_X5_readsAll cI ad writers year taped r86.2.1 statements hasImage isKeeping cursor forgottenWhen rowMany tape r86.2.2)) (Nat.le_of_ble_eq_true rfl) rfl rfl (run_V X hP hD hS [0, 1, 2] rfl rfl (c_X5_readsDigits l D cI aS ad writers year taped at_ statements hasImage isKeeping cursor forgottenWhen rowMany tape told x2 (2 : Int32) _ hq86 _) lkX5_87 (by decide) (q0 := 0) rfl rfl rfl rfl (Nat.le_of_ble_eq_true rfl) hl.1 dX5_readsAll_86) (fun H locs hP hD hS => ?_)
    have hn1 := (gbS hf).1
    have hf := (gbS hf).2
    have hR := Option.some.inj hf
    subst hR
    exact hret _ _ _ _ _ rfl (fun _ hn => by cases hn; exact hn1) hP hD hS dX5_readsAll_89
  have hf := iF c1_3 hf
  refine lsD (keys := [102, 115, 119, 121]) (tgt := 90) hx hb dX5_readsAll_1 (List.forall_mem_cons.mpr ⟨i32ne c1_0 (by decide), (List.forall_mem_cons.mpr ⟨i32ne c1_1 (by decide), (List.forall_mem_cons.mpr ⟨i32ne c1_2 (by decide), (List.forall_mem_cons.mpr ⟨i32ne c1_3 (by decide), (fun _ h => absurd h List.not_mem_nil)⟩)⟩)⟩)⟩) (by decide) (by decide) (by decide) ?_
  refine lv_aload_n hx hb dX5_readsAll_90 rfl (lv_at hl 0 rfl) ?_
  refine lv_iload_n hx hb dX5_readsAll_91 rfl (lv_at hl 2 rfl) ?_
  refine lv_iconst (v := 1) hx hb dX5_readsAll_92 (by decide) ?_
  obtain ⟨r93, hq93, hf⟩ := bS hf
  refine wr_i X hP hD hS [0, 1, 2] rfl (ws' := (wd_X5_readsAll cI ad writers year taped r93.2.1 statements hasImage isKeeping cursor forgottenWhen rowMany tape r93.2.2)) (Nat.le_of_ble_eq_true rfl) rfl rfl (run_V X hP hD hS [0, 1, 2] rfl rfl (c_X5_readsDigits l D cI aS ad writers year taped at_ statements hasImage isKeeping cursor forgottenWhen rowMany tape told x2 (1 : Int32) _ hq93 _) lkX5_87 (by decide) (q0 := 0) rfl rfl rfl rfl (Nat.le_of_ble_eq_true rfl) hl.1 dX5_readsAll_93) (fun H locs hP hD hS => ?_)
  refine lv_if_eq (tgt := 114) hx hb dX5_readsAll_96 (by decide) (fun c96 => ?_) (fun c96 => ?_)
  · have hf := iT c96 hf
    refine lv_iconst (v := 0) hx hb dX5_readsAll_114 (by decide) ?_
    have hR := Option.some.inj hf
    subst hR
    exact hret _ _ _ _ _ rfl (fun _ hn => by cases hn; rfl) hP hD hS dX5_readsAll_115
  · have hf := iF c96 hf
    refine lv_aload_n hx hb dX5_readsAll_99 rfl (lv_at hl 0 rfl) ?_
    refine lv_iload_n hx hb dX5_readsAll_100 rfl (lv_at hl 2 rfl) ?_
    refine lv_iconst (v := 1) hx hb dX5_readsAll_101 (by decide) ?_
    refine lv_iadd hx hb dX5_readsAll_102 ?_
    refine lv_iconst (v := 1) hx hb dX5_readsAll_103 (by decide) ?_
    obtain ⟨r104, hq104, hf⟩ := bS hf
    refine wr_i X hP hD hS [0, 1, 2] rfl (ws' := (wd_X5_readsAll cI ad writers year taped r104.2.1 statements hasImage isKeeping cursor forgottenWhen rowMany tape r104.2.2)) (Nat.le_of_ble_eq_true rfl) rfl rfl (run_V X hP hD hS [0, 1, 2] rfl rfl (c_X5_readsDigits l D cI aS ad writers year taped r93.2.1 statements hasImage isKeeping cursor forgottenWhen rowMany tape r93.2.2 (x2 + (1 : Int32)) (1 : Int32) _ hq104 _) lkX5_87 (by decide) (q0 := 0) rfl rfl rfl rfl (Nat.le_of_ble_eq_true rfl) hl.1 dX5_readsAll_104) (fun H locs hP hD hS => ?_)
    refine lv_if_eq (tgt := 114) hx hb dX5_readsAll_107 (by decide) (fun c107 => ?_) (fun c107 => ?_)
    · have hf := iT c107 hf
      refine lv_iconst (v := 0) hx hb dX5_readsAll_114 (by decide) ?_
      have hR := Option.some.inj hf
      subst hR
      exact hret _ _ _ _ _ rfl (fun _ hn => by cases hn; rfl) hP hD hS dX5_readsAll_115
    · have hf := iF c107 hf
      refine lv_iconst (v := 1) hx hb dX5_readsAll_110 (by decide) ?_
      refine lv_goto (tgt := 115) hx hb dX5_readsAll_111 (by decide) ?_
      have hR := Option.some.inj hf
      subst hR
      exact hret _ _ _ _ _ rfl (fun _ hn => by cases hn; rfl) hP hD hS dX5_readsAll_115

abbrev wd_X5_statement (cI : ClassId) (ad : Nat → Nat) (writers : Int32) (year : Int32) (taped : Int32) (at_ : Int32) (statements : Int32) (hasImage : Int32) (isKeeping : Int32) (cursor : Int32) (forgottenWhen : Int32) (rowMany : Int32) (tape : (Nat → Int32)) (letter : (Nat → Int32)) (letterAt : (Nat → Int32)) (told : (Nat → Int32)) : va_W := [((ad 0), .inr (5, [.ref (ad 1), .ref (ad 2), .ref (ad 3), .ref (ad 4), .ref (ad 5), .ref (ad 6), .ref (ad 7), .int writers, .int year, .ref (ad 8), .ref (ad 9), .ref (ad 10), .ref (ad 11), .int taped, .int at_, .int statements, .ref (ad 12), .int hasImage, .int isKeeping, .int cursor, .int forgottenWhen, .ref (ad 13), .ref (ad 14), .ref (ad 15), .int rowMany])), ((ad 8), .inl (cI, 96, .inl tape)), ((ad 9), .inl (cI, 48, .inl letter)), ((ad 10), .inl (cI, 48, .inl letterAt)), ((ad 11), .inl (cI, 144, .inl told))]
def f_X5_statement_43 (taped : Int32) (statements : Int32) (tape : (Nat → Int32))  (v1_43 : Int32) (at__43 : Int32) (letter_43 : (Nat → Int32)) (letterAt_43 : (Nat → Int32)) (told_43 : (Nat → Int32)) : Option (Int32 × Int32 × (Nat → Int32) × (Nat → Int32) × (Nat → Int32)) := (gd statements 48 (gd statements 48 ((f_X5_readsAll taped (at__43 + (1 : Int32)) tape told_43 v1_43 ((3 : Int32) * statements)).bind fun (r84 : Int32 × Int32 × (Nat → Int32)) => (if r84.1 = 0 then (some ((0 : Int32), r84.2.1, (upd letter_43 (Int32.toNatClampNeg statements) v1_43), (upd letterAt_43 (Int32.toNatClampNeg statements) at__43), r84.2.2)) else ((f_X5_next taped r84.2.1 tape).bind fun (r91 : Int32) => (if r91 = (59 : Int32) then (some ((1 : Int32), (r84.2.1 + (1 : Int32)), (upd letter_43 (Int32.toNatClampNeg statements) v1_43), (upd letterAt_43 (Int32.toNatClampNeg statements) at__43), r84.2.2)) else (some ((0 : Int32), r84.2.1, (upd letter_43 (Int32.toNatClampNeg statements) v1_43), (upd letterAt_43 (Int32.toNatClampNeg statements) at__43), r84.2.2))))))))
def f_X5_statement (taped : Int32) (at_ : Int32) (statements : Int32) (tape : (Nat → Int32)) (letter : (Nat → Int32)) (letterAt : (Nat → Int32)) (told : (Nat → Int32)) : Option (Int32 × Int32 × (Nat → Int32) × (Nat → Int32) × (Nat → Int32)) := ((f_X5_next taped at_ tape).bind fun (r1 : Int32) => (if r1 = (119 : Int32) then (f_X5_statement_43 taped statements tape  r1 at_ letter letterAt told) else (if r1 = (120 : Int32) then (f_X5_statement_43 taped statements tape  r1 at_ letter letterAt told) else (if r1 = (115 : Int32) then (f_X5_statement_43 taped statements tape  r1 at_ letter letterAt told) else (if r1 = (116 : Int32) then (f_X5_statement_43 taped statements tape  r1 at_ letter letterAt told) else (if r1 = (102 : Int32) then (f_X5_statement_43 taped statements tape  r1 at_ letter letterAt told) else (if r1 = (121 : Int32) then (f_X5_statement_43 taped statements tape  r1 at_ letter letterAt told) else (some ((0 : Int32), at_, letter, letterAt, told)))))))))
set_option maxHeartbeats 4000000 in
set_option maxRecDepth 100000 in
theorem w_X5_statement_43 {p : Program} {l : Launch} {e : Env} {s : State} {m : MethodId} {args : Array Value} {below : List Frame} {meth : Method} {c : Code} {D : va_G} {cI : ClassId} {aS : aSt} {A : Nat → Prop} {Q : State → Prop}  (ad : Nat → Nat) (writers : Int32) (year : Int32) (taped : Int32) (statements : Int32) (hasImage : Int32) (isKeeping : Int32) (cursor : Int32) (forgottenWhen : Int32) (rowMany : Int32) (tape : (Nat → Int32)) {R : Int32 × Int32 × (Nat → Int32) × (Nat → Int32) × (Nat → Int32)} (X : Bx p s m args meth c cX5_statement 2 (some .boolean) RX5 D cI aS A) (hret : RtI p l e 4 s m args below meth c cX5_statement (some .boolean) D A (wd_X5_statement cI ad writers year taped R.2.1 statements hasImage isKeeping cursor forgottenWhen rowMany tape R.2.2.1 R.2.2.2.1 R.2.2.2.2) R.1 Q) : ∀ (v1_43 : Int32) (at__43 : Int32) (letter_43 : (Nat → Int32)) (letterAt_43 : (Nat → Int32)) (told_43 : (Nat → Int32)) (H : Heap) (locs : List Loc) (ls : Array Slot), f_X5_statement_43 taped statements tape  v1_43 at__43 letter_43 letterAt_43 told_43 = some R → lv_has ls 2 [(0, .ref (ad 0)), (1, .int v1_43)] → va_P D vwCl (wd_X5_statement cI ad writers year taped at__43 statements hasImage isKeeping cursor forgottenWhen rowMany tape letter_43 letterAt_43 told_43) H → va_D A (wd_X5_statement cI ad writers year taped at__43 statements hasImage isKeeping cursor forgottenWhen rowMany tape letter_43 letterAt_43 told_43) → va_S A s.heap H locs → Wh p l e 4 s m args below meth c H locs Q (F0 m 43 ls []) := by
  have hx := X.1
  have hb := X.2.1
  intro v1_43 at__43 letter_43 letterAt_43 told_43 H locs ls hf hl hP hD hS
  replace hf : (gd statements 48 (gd statements 48 ((f_X5_readsAll taped (at__43 + (1 : Int32)) tape told_43 v1_43 ((3 : Int32) * statements)).bind fun (r84 : Int32 × Int32 × (Nat → Int32)) => (if r84.1 = 0 then (some ((0 : Int32), r84.2.1, (upd letter_43 (Int32.toNatClampNeg statements) v1_43), (upd letterAt_43 (Int32.toNatClampNeg statements) at__43), r84.2.2)) else ((f_X5_next taped r84.2.1 tape).bind fun (r91 : Int32) => (if r91 = (59 : Int32) then (some ((1 : Int32), (r84.2.1 + (1 : Int32)), (upd letter_43 (Int32.toNatClampNeg statements) v1_43), (upd letterAt_43 (Int32.toNatClampNeg statements) at__43), r84.2.2)) else (some ((0 : Int32), r84.2.1, (upd letter_43 (Int32.toNatClampNeg statements) v1_43), (upd letterAt_43 (Int32.toNatClampNeg statements) at__43), r84.2.2)))))))) = some R := hf
  refine lv_aload_n hx hb dX5_statement_43 rfl (lv_at hl 0 rfl) ?_
  refine fgX5_34 X hP (q0 := 0) rfl rfl dX5_statement_44 ?_
  refine lv_aload_n hx hb dX5_statement_47 rfl (lv_at hl 0 rfl) ?_
  refine fgX5_95 X hP (q0 := 0) rfl rfl dX5_statement_48 ?_
  refine lv_iload_n hx hb dX5_statement_51 rfl (lv_at hl 1 rfl) ?_
  refine aPut X hP hD hS (q0 := 2) (ws' := (wd_X5_statement cI ad writers year taped at__43 statements hasImage isKeeping cursor forgottenWhen rowMany tape (upd letter_43 (Int32.toNatClampNeg statements) v1_43) letterAt_43 told_43)) rfl (gdS hf).1 rfl dX5_statement_52 (fun H locs hP hD hS => ?_)
  have hf := (gdS hf).2
  refine lv_aload_n hx hb dX5_statement_53 rfl (lv_at hl 0 rfl) ?_
  refine fgX5_37 X hP (q0 := 0) rfl rfl dX5_statement_54 ?_
  refine lv_aload_n hx hb dX5_statement_57 rfl (lv_at hl 0 rfl) ?_
  refine fgX5_95 X hP (q0 := 0) rfl rfl dX5_statement_58 ?_
  refine lv_aload_n hx hb dX5_statement_61 rfl (lv_at hl 0 rfl) ?_
  refine fgX5_73 X hP (q0 := 0) rfl rfl dX5_statement_62 ?_
  refine aPut X hP hD hS (q0 := 3) (ws' := (wd_X5_statement cI ad writers year taped at__43 statements hasImage isKeeping cursor forgottenWhen rowMany tape (upd letter_43 (Int32.toNatClampNeg statements) v1_43) (upd letterAt_43 (Int32.toNatClampNeg statements) at__43) told_43)) rfl (gdS hf).1 rfl dX5_statement_65 (fun H locs hP hD hS => ?_)
  have hf := (gdS hf).2
  refine lv_aload_n hx hb dX5_statement_66 rfl (lv_at hl 0 rfl) ?_
  refine lv_dup hx hb dX5_statement_67 rfl ?_
  refine fgX5_73 X hP (q0 := 0) rfl rfl dX5_statement_68 ?_
  refine lv_iconst (v := 1) hx hb dX5_statement_71 (by decide) ?_
  refine lv_iadd hx hb dX5_statement_72 ?_
  refine fpX5_73 X hP hD hS (q0 := 0) (ws' := (wd_X5_statement cI ad writers year taped (at__43 + (1 : Int32)) statements hasImage isKeeping cursor forgottenWhen rowMany tape (upd letter_43 (Int32.toNatClampNeg statements) v1_43) (upd letterAt_43 (Int32.toNatClampNeg statements) at__43) told_43)) rfl rfl rfl (Nat.le_of_ble_eq_true rfl) rfl dX5_statement_73 (fun H locs hP hD hS => ?_)
  refine lv_aload_n hx hb dX5_statement_76 rfl (lv_at hl 0 rfl) ?_
  refine lv_iload_n hx hb dX5_statement_77 rfl (lv_at hl 1 rfl) ?_
  refine lv_iconst (v := 3) hx hb dX5_statement_78 (by decide) ?_
  refine lv_aload_n hx hb dX5_statement_79 rfl (lv_at hl 0 rfl) ?_
  refine fgX5_95 X hP (q0 := 0) rfl rfl dX5_statement_80 ?_
  refine lv_imul hx hb dX5_statement_83 ?_
  obtain ⟨r84, hq84, hf⟩ := bS hf
  refine wr_i X hP hD hS [0, 1, 4] rfl (ws' := (wd_X5_statement cI ad writers year taped r84.2.1 statements hasImage isKeeping cursor forgottenWhen rowMany tape (upd letter_43 (Int32.toNatClampNeg statements) v1_43) (upd letterAt_43 (Int32.toNatClampNeg statements) at__43) r84.2.2)) (Nat.le_of_ble_eq_true rfl) rfl rfl (run_V X hP hD hS [0, 1, 4] rfl rfl (c_X5_readsAll l D cI aS ad writers year taped (at__43 + (1 : Int32)) statements hasImage isKeeping cursor forgottenWhen rowMany tape told_43 v1_43 ((3 : Int32) * statements) _ hq84 _) lkX5_98 (by decide) (q0 := 0) rfl rfl rfl rfl (Nat.le_of_ble_eq_true rfl) hl.1 dX5_statement_84) (fun H locs hP hD hS => ?_)
  refine lv_if_eq (tgt := 99) hx hb dX5_statement_87 (by decide) (fun c87 => ?_) (fun c87 => ?_)
  · have hf := iT c87 hf
    refine lv_iconst (v := 0) hx hb dX5_statement_99 (by decide) ?_
    have hR := Option.some.inj hf
    subst hR
    exact hret _ _ _ _ _ rfl (fun _ hn => by cases hn; rfl) hP hD hS dX5_statement_100
  · have hf := iF c87 hf
    refine lv_aload_n hx hb dX5_statement_90 rfl (lv_at hl 0 rfl) ?_
    obtain ⟨r91, hq91, hf⟩ := bS hf
    refine ro_i X hP hD hS [0, 1] rfl (run_V X hP hD hS [0, 1] rfl rfl (c_X5_next l D cI aS ad writers year taped r84.2.1 statements hasImage isKeeping cursor forgottenWhen rowMany tape _ hq91 _) lkX5_76 (by decide) (q0 := 0) rfl rfl rfl rfl (Nat.le_of_ble_eq_true rfl) hl.1 dX5_statement_91) (fun H locs hP hS => ?_)
    refine lv_bipush (v := 59) hx hb dX5_statement_94 (by decide) ?_
    refine lv_icmp_eq (tgt := 101) hx hb dX5_statement_96 (by decide) (fun c96 => ?_) (fun c96 => ?_)
    · have hf := iT c96 hf
      refine lv_aload_n hx hb dX5_statement_101 rfl (lv_at hl 0 rfl) ?_
      refine lv_dup hx hb dX5_statement_102 rfl ?_
      refine fgX5_73 X hP (q0 := 0) rfl rfl dX5_statement_103 ?_
      refine lv_iconst (v := 1) hx hb dX5_statement_106 (by decide) ?_
      refine lv_iadd hx hb dX5_statement_107 ?_
      refine fpX5_73 X hP hD hS (q0 := 0) (ws' := (wd_X5_statement cI ad writers year taped (r84.2.1 + (1 : Int32)) statements hasImage isKeeping cursor forgottenWhen rowMany tape (upd letter_43 (Int32.toNatClampNeg statements) v1_43) (upd letterAt_43 (Int32.toNatClampNeg statements) at__43) r84.2.2)) rfl rfl rfl (Nat.le_of_ble_eq_true rfl) rfl dX5_statement_108 (fun H locs hP hD hS => ?_)
      refine lv_iconst (v := 1) hx hb dX5_statement_111 (by decide) ?_
      have hR := Option.some.inj hf
      subst hR
      exact hret _ _ _ _ _ rfl (fun _ hn => by cases hn; rfl) hP hD hS dX5_statement_112
    · have hf := iF c96 hf
      refine lv_iconst (v := 0) hx hb dX5_statement_99 (by decide) ?_
      have hR := Option.some.inj hf
      subst hR
      exact hret _ _ _ _ _ rfl (fun _ hn => by cases hn; rfl) hP hD hS dX5_statement_100
set_option maxHeartbeats 4000000 in
set_option maxRecDepth 100000 in
theorem c_X5_statement (l : Launch) (D : va_G) (cI : ClassId) (aS : aSt) (ad : Nat → Nat) (writers : Int32) (year : Int32) (taped : Int32) (at_ : Int32) (statements : Int32) (hasImage : Int32) (isKeeping : Int32) (cursor : Int32) (forgottenWhen : Int32) (rowMany : Int32) (tape : (Nat → Int32)) (letter : (Nat → Int32)) (letterAt : (Nat → Int32)) (told : (Nat → Int32)) (R : Int32 × Int32 × (Nat → Int32) × (Nat → Int32) × (Nat → Int32)) (hf : f_X5_statement taped at_ statements tape letter letterAt told = some R) : CtI l yX5_statement cX5_statement 2 (some .boolean) 4 D cI aS [.ref (ad 0)] (wd_X5_statement cI ad writers year taped at_ statements hasImage isKeeping cursor forgottenWhen rowMany tape letter letterAt told) (wd_X5_statement cI ad writers year taped R.2.1 statements hasImage isKeeping cursor forgottenWhen rowMany tape R.2.2.1 R.2.2.2.1 R.2.2.2.2) R.1 := by
  refine ctI_of (by decide) ⟨_, rfl⟩ (Nat.le_of_ble_eq_true rfl) ?_
  intro p e s m below meth c A Q ls X hret hP hD hl
  have hS : va_S A s.heap s.heap [] := va_S.rf
  have hx := X.1
  have hb := X.2.1
  have hl : lv_has ls 2 [(0, .ref (ad 0))] := hl
  replace hf : ((f_X5_next taped at_ tape).bind fun (r1 : Int32) => (if r1 = (119 : Int32) then (f_X5_statement_43 taped statements tape  r1 at_ letter letterAt told) else (if r1 = (120 : Int32) then (f_X5_statement_43 taped statements tape  r1 at_ letter letterAt told) else (if r1 = (115 : Int32) then (f_X5_statement_43 taped statements tape  r1 at_ letter letterAt told) else (if r1 = (116 : Int32) then (f_X5_statement_43 taped statements tape  r1 at_ letter letterAt told) else (if r1 = (102 : Int32) then (f_X5_statement_43 taped statements tape  r1 at_ letter letterAt told) else (if r1 = (121 : Int32) then (f_X5_statement_43 taped statements tape  r1 at_ letter letterAt told) else (some ((0 : Int32), at_, letter, letterAt, told))))))))) = some R := hf
  refine lv_aload_n hx hb dX5_statement_0 rfl (lv_at hl 0 rfl) ?_
  obtain ⟨r1, hq1, hf⟩ := bS hf
  refine ro_i X hP hD hS [0, 1] rfl (run_V X hP hD hS [0, 1] rfl rfl (c_X5_next l D cI aS ad writers year taped at_ statements hasImage isKeeping cursor forgottenWhen rowMany tape _ hq1 _) lkX5_76 (by decide) (q0 := 0) rfl rfl rfl rfl (Nat.le_of_ble_eq_true rfl) hl.1 dX5_statement_1) (fun H locs hP hS => ?_)
  refine lv_istore_n (lv' := [(1, .int r1), (0, .ref (ad 0))]) hx hb dX5_statement_4 rfl hl (by decide) rfl (fun ls hl => ?_)
  refine lv_iload_n hx hb dX5_statement_5 rfl (lv_at hl 0 rfl) ?_
  refine lv_bipush (v := 119) hx hb dX5_statement_6 (by decide) ?_
  refine lv_icmp_eq (tgt := 43) hx hb dX5_statement_8 (by decide) (fun c8 => ?_) (fun c8 => ?_)
  · have hf := iT c8 hf
    exact w_X5_statement_43 ad writers year taped statements hasImage isKeeping cursor forgottenWhen rowMany tape X hret  r1 at_ letter letterAt told _ _ _ hf (lv_sub hl [1, 0] rfl) hP hD hS
  · have hf := iF c8 hf
    refine lv_iload_n hx hb dX5_statement_11 rfl (lv_at hl 0 rfl) ?_
    refine lv_bipush (v := 120) hx hb dX5_statement_12 (by decide) ?_
    refine lv_icmp_eq (tgt := 43) hx hb dX5_statement_14 (by decide) (fun c14 => ?_) (fun c14 => ?_)
    · have hf := iT c14 hf
      exact w_X5_statement_43 ad writers year taped statements hasImage isKeeping cursor forgottenWhen rowMany tape X hret  r1 at_ letter letterAt told _ _ _ hf (lv_sub hl [1, 0] rfl) hP hD hS
    · have hf := iF c14 hf
      refine lv_iload_n hx hb dX5_statement_17 rfl (lv_at hl 0 rfl) ?_
      refine lv_bipush (v := 115) hx hb dX5_statement_18 (by decide) ?_
      refine lv_icmp_eq (tgt := 43) hx hb dX5_statement_20 (by decide) (fun c20 => ?_) (fun c20 => ?_)
      · have hf := iT c20 hf
        exact w_X5_statement_43 ad writers year taped statements hasImage isKeeping cursor forgottenWhen rowMany tape X hret  r1 at_ letter letterAt told _ _ _ hf (lv_sub hl [1, 0] rfl) hP hD hS
      · have hf := iF c20 hf
        refine lv_iload_n hx hb dX5_statement_23 rfl (lv_at hl 0 rfl) ?_
        refine lv_bipush (v := 116) hx hb dX5_statement_24 (by decide) ?_
        refine lv_icmp_eq (tgt := 43) hx hb dX5_statement_26 (by decide) (fun c26 => ?_) (fun c26 => ?_)
        · have hf := iT c26 hf
          exact w_X5_statement_43 ad writers year taped statements hasImage isKeeping cursor forgottenWhen rowMany tape X hret  r1 at_ letter letterAt told _ _ _ hf (lv_sub hl [1, 0] rfl) hP hD hS
        · have hf := iF c26 hf
          refine lv_iload_n hx hb dX5_statement_29 rfl (lv_at hl 0 rfl) ?_
          refine lv_bipush (v := 102) hx hb dX5_statement_30 (by decide) ?_
          refine lv_icmp_eq (tgt := 43) hx hb dX5_statement_32 (by decide) (fun c32 => ?_) (fun c32 => ?_)
          · have hf := iT c32 hf
            exact w_X5_statement_43 ad writers year taped statements hasImage isKeeping cursor forgottenWhen rowMany tape X hret  r1 at_ letter letterAt told _ _ _ hf (lv_sub hl [1, 0] rfl) hP hD hS
          · have hf := iF c32 hf
            refine lv_iload_n hx hb dX5_statement_35 rfl (lv_at hl 0 rfl) ?_
            refine lv_bipush (v := 121) hx hb dX5_statement_36 (by decide) ?_
            refine lv_icmp_eq (tgt := 43) hx hb dX5_statement_38 (by decide) (fun c38 => ?_) (fun c38 => ?_)
            · have hf := iT c38 hf
              exact w_X5_statement_43 ad writers year taped statements hasImage isKeeping cursor forgottenWhen rowMany tape X hret  r1 at_ letter letterAt told _ _ _ hf (lv_sub hl [1, 0] rfl) hP hD hS
            · have hf := iF c38 hf
              refine lv_iconst (v := 0) hx hb dX5_statement_41 (by decide) ?_
              have hR := Option.some.inj hf
              subst hR
              exact hret _ _ _ _ _ rfl (fun _ hn => by cases hn; rfl) hP hD hS dX5_statement_42

abbrev wd_X5_guild (cI : ClassId) (ad : Nat → Nat) (writers : Int32) (year : Int32) (taped : Int32) (at_ : Int32) (statements : Int32) (hasImage : Int32) (isKeeping : Int32) (cursor : Int32) (forgottenWhen : Int32) (rowMany : Int32) (kind : (Nat → Int32)) (figure : (Nat → Int32)) (style : (Nat → Int32)) (fame : (Nat → Int32)) (silent : (Nat → Int32)) (ring : (Nat → Int32)) (tape : (Nat → Int32)) (letter : (Nat → Int32)) (letterAt : (Nat → Int32)) (told : (Nat → Int32)) (kept : (Nat → Int32)) : va_W := [((ad 0), .inr (5, [.ref (ad 1), .ref (ad 2), .ref (ad 3), .ref (ad 4), .ref (ad 5), .ref (ad 6), .ref (ad 7), .int writers, .int year, .ref (ad 8), .ref (ad 9), .ref (ad 10), .ref (ad 11), .int taped, .int at_, .int statements, .ref (ad 12), .int hasImage, .int isKeeping, .int cursor, .int forgottenWhen, .ref (ad 13), .ref (ad 14), .ref (ad 15), .int rowMany])), ((ad 2), .inl (cI, 7, .inl kind)), ((ad 3), .inl (cI, 7, .inl figure)), ((ad 4), .inl (cI, 7, .inl style)), ((ad 5), .inl (cI, 7, .inl fame)), ((ad 6), .inl (cI, 7, .inl silent)), ((ad 7), .inl (cI, 7, .inl ring)), ((ad 8), .inl (cI, 96, .inl tape)), ((ad 9), .inl (cI, 48, .inl letter)), ((ad 10), .inl (cI, 48, .inl letterAt)), ((ad 11), .inl (cI, 144, .inl told)), ((ad 12), .inl (cI, 132, .inl kept))]
def f_X5_guild_53  (kL12 : Int32 → Int32 → Int32 → (Nat → Int32) → (Nat → Int32) → (Nat → Int32) → Option (Int32 × Int32 × Int32 × Int32 × Int32 × Int32 × Int32 × Int32 × (Nat → Int32) × (Nat → Int32) × (Nat → Int32) × (Nat → Int32) × (Nat → Int32) × (Nat → Int32) × (Nat → Int32) × (Nat → Int32) × (Nat → Int32) × (Nat → Int32))) (v1_53 : Int32) (at__53 : Int32) (statements_53 : Int32) (letter_53 : (Nat → Int32)) (letterAt_53 : (Nat → Int32)) (told_53 : (Nat → Int32)) (t1_53 : Int32) (t2_53 : Int32) : Option (Int32 × Int32 × Int32 × Int32 × Int32 × Int32 × Int32 × Int32 × (Nat → Int32) × (Nat → Int32) × (Nat → Int32) × (Nat → Int32) × (Nat → Int32) × (Nat → Int32) × (Nat → Int32) × (Nat → Int32) × (Nat → Int32) × (Nat → Int32)) := (kL12 v1_53 at__53 (t1_53 + t2_53) letter_53 letterAt_53 told_53)
def f_X5_guild_34 (tape : (Nat → Int32)) (taped_u12 : Int32) (kL12 : Int32 → Int32 → Int32 → (Nat → Int32) → (Nat → Int32) → (Nat → Int32) → Option (Int32 × Int32 × Int32 × Int32 × Int32 × Int32 × Int32 × Int32 × (Nat → Int32) × (Nat → Int32) × (Nat → Int32) × (Nat → Int32) × (Nat → Int32) × (Nat → Int32) × (Nat → Int32) × (Nat → Int32) × (Nat → Int32) × (Nat → Int32))) (at__34 : Int32) (statements_34 : Int32) (letter_34 : (Nat → Int32)) (letterAt_34 : (Nat → Int32)) (told_34 : (Nat → Int32)) : Option (Int32 × Int32 × Int32 × Int32 × Int32 × Int32 × Int32 × Int32 × (Nat → Int32) × (Nat → Int32) × (Nat → Int32) × (Nat → Int32) × (Nat → Int32) × (Nat → Int32) × (Nat → Int32) × (Nat → Int32) × (Nat → Int32) × (Nat → Int32)) := ((f_X5_statement taped_u12 at__34 statements_34 tape letter_34 letterAt_34 told_34).bind fun (r35 : Int32 × Int32 × (Nat → Int32) × (Nat → Int32) × (Nat → Int32)) => (if r35.1 = 0 then (f_X5_guild_53  kL12 r35.1 r35.2.1 statements_34 r35.2.2.1 r35.2.2.2.1 r35.2.2.2.2 statements_34 (0 : Int32)) else (f_X5_guild_53  kL12 r35.1 r35.2.1 statements_34 r35.2.2.1 r35.2.2.2.1 r35.2.2.2.2 statements_34 (1 : Int32))))
def f_X5_guild_12 (tape : (Nat → Int32)) (taped_u12 : Int32) (kX12_60 : Int32 → Int32 → Int32 → (Nat → Int32) → (Nat → Int32) → (Nat → Int32) → Option (Int32 × Int32 × Int32 × Int32 × Int32 × Int32 × Int32 × Int32 × (Nat → Int32) × (Nat → Int32) × (Nat → Int32) × (Nat → Int32) × (Nat → Int32) × (Nat → Int32) × (Nat → Int32) × (Nat → Int32) × (Nat → Int32) × (Nat → Int32))) : Nat → Int32 → Int32 → Int32 → (Nat → Int32) → (Nat → Int32) → (Nat → Int32) → Option (Int32 × Int32 × Int32 × Int32 × Int32 × Int32 × Int32 × Int32 × (Nat → Int32) × (Nat → Int32) × (Nat → Int32) × (Nat → Int32) × (Nat → Int32) × (Nat → Int32) × (Nat → Int32) × (Nat → Int32) × (Nat → Int32) × (Nat → Int32))
  | 0 => fun _ _ _ _ _ _ => none
  | fuel + 1 => fun v1_12 at__12 statements_12 letter_12 letterAt_12 told_12 => (if v1_12 = 0 then (kX12_60 v1_12 at__12 statements_12 letter_12 letterAt_12 told_12) else (if at__12 < taped_u12 then (f_X5_guild_34 tape taped_u12 (f_X5_guild_12 tape taped_u12 kX12_60 fuel) at__12 statements_12 letter_12 letterAt_12 told_12) else (if statements_12 = 0 then (f_X5_guild_34 tape taped_u12 (f_X5_guild_12 tape taped_u12 kX12_60 fuel) at__12 statements_12 letter_12 letterAt_12 told_12) else (kX12_60 v1_12 at__12 statements_12 letter_12 letterAt_12 told_12))))
theorem e_X5_guild_12 (tape : (Nat → Int32)) (taped_u12 : Int32) (kX12_60 : Int32 → Int32 → Int32 → (Nat → Int32) → (Nat → Int32) → (Nat → Int32) → Option (Int32 × Int32 × Int32 × Int32 × Int32 × Int32 × Int32 × Int32 × (Nat → Int32) × (Nat → Int32) × (Nat → Int32) × (Nat → Int32) × (Nat → Int32) × (Nat → Int32) × (Nat → Int32) × (Nat → Int32) × (Nat → Int32) × (Nat → Int32))) (fuel : Nat) (v1_12 : Int32) (at__12 : Int32) (statements_12 : Int32) (letter_12 : (Nat → Int32)) (letterAt_12 : (Nat → Int32)) (told_12 : (Nat → Int32)) : f_X5_guild_12 tape taped_u12 kX12_60 (fuel + 1) v1_12 at__12 statements_12 letter_12 letterAt_12 told_12 = (if v1_12 = 0 then (kX12_60 v1_12 at__12 statements_12 letter_12 letterAt_12 told_12) else (if at__12 < taped_u12 then (f_X5_guild_34 tape taped_u12 (f_X5_guild_12 tape taped_u12 kX12_60 fuel) at__12 statements_12 letter_12 letterAt_12 told_12) else (if statements_12 = 0 then (f_X5_guild_34 tape taped_u12 (f_X5_guild_12 tape taped_u12 kX12_60 fuel) at__12 statements_12 letter_12 letterAt_12 told_12) else (kX12_60 v1_12 at__12 statements_12 letter_12 letterAt_12 told_12)))) := rfl
def f_X5_guild_86 (statements_u86 : Int32) (letter_u86 : (Nat → Int32)) (told_u86 : (Nat → Int32)) (kX86_128 : Int32 → Int32 → (Nat → Int32) → (Nat → Int32) → (Nat → Int32) → (Nat → Int32) → (Nat → Int32) → (Nat → Int32) → Option (Int32 × Int32 × Int32 × Int32 × Int32 × Int32 × Int32 × Int32 × (Nat → Int32) × (Nat → Int32) × (Nat → Int32) × (Nat → Int32) × (Nat → Int32) × (Nat → Int32) × (Nat → Int32) × (Nat → Int32) × (Nat → Int32) × (Nat → Int32))) (kX86_105 : Int32 → Int32 → Int32 → (Nat → Int32) → (Nat → Int32) → (Nat → Int32) → (Nat → Int32) → (Nat → Int32) → (Nat → Int32) → Option (Int32 × Int32 × Int32 × Int32 × Int32 × Int32 × Int32 × Int32 × (Nat → Int32) × (Nat → Int32) × (Nat → Int32) × (Nat → Int32) × (Nat → Int32) × (Nat → Int32) × (Nat → Int32) × (Nat → Int32) × (Nat → Int32) × (Nat → Int32))) : Nat → Int32 → Int32 → Int32 → (Nat → Int32) → (Nat → Int32) → (Nat → Int32) → (Nat → Int32) → (Nat → Int32) → (Nat → Int32) → Option (Int32 × Int32 × Int32 × Int32 × Int32 × Int32 × Int32 × Int32 × (Nat → Int32) × (Nat → Int32) × (Nat → Int32) × (Nat → Int32) × (Nat → Int32) × (Nat → Int32) × (Nat → Int32) × (Nat → Int32) × (Nat → Int32) × (Nat → Int32))
  | 0 => fun _ _ _ _ _ _ _ _ _ => none
  | fuel + 1 => fun v2_86 writers_86 year_86 kind_86 figure_86 style_86 fame_86 silent_86 ring_86 => (if statements_u86 ≤ v2_86 then (kX86_128 writers_86 year_86 kind_86 figure_86 style_86 fame_86 silent_86 ring_86) else ((f_X5_comes writers_86 year_86 kind_86 figure_86 style_86 fame_86 silent_86 ring_86 letter_u86 told_u86 v2_86).bind fun (r96 : Int32 × Int32 × Int32 × (Nat → Int32) × (Nat → Int32) × (Nat → Int32) × (Nat → Int32) × (Nat → Int32) × (Nat → Int32)) => (if r96.1 = 0 then (kX86_105 v2_86 r96.2.1 r96.2.2.1 r96.2.2.2.1 r96.2.2.2.2.1 r96.2.2.2.2.2.1 r96.2.2.2.2.2.2.1 r96.2.2.2.2.2.2.2.1 r96.2.2.2.2.2.2.2.2) else (f_X5_guild_86 statements_u86 letter_u86 told_u86 kX86_128 kX86_105 fuel (v2_86 + (1 : Int32)) r96.2.1 r96.2.2.1 r96.2.2.2.1 r96.2.2.2.2.1 r96.2.2.2.2.2.1 r96.2.2.2.2.2.2.1 r96.2.2.2.2.2.2.2.1 r96.2.2.2.2.2.2.2.2))))
theorem e_X5_guild_86 (statements_u86 : Int32) (letter_u86 : (Nat → Int32)) (told_u86 : (Nat → Int32)) (kX86_128 : Int32 → Int32 → (Nat → Int32) → (Nat → Int32) → (Nat → Int32) → (Nat → Int32) → (Nat → Int32) → (Nat → Int32) → Option (Int32 × Int32 × Int32 × Int32 × Int32 × Int32 × Int32 × Int32 × (Nat → Int32) × (Nat → Int32) × (Nat → Int32) × (Nat → Int32) × (Nat → Int32) × (Nat → Int32) × (Nat → Int32) × (Nat → Int32) × (Nat → Int32) × (Nat → Int32))) (kX86_105 : Int32 → Int32 → Int32 → (Nat → Int32) → (Nat → Int32) → (Nat → Int32) → (Nat → Int32) → (Nat → Int32) → (Nat → Int32) → Option (Int32 × Int32 × Int32 × Int32 × Int32 × Int32 × Int32 × Int32 × (Nat → Int32) × (Nat → Int32) × (Nat → Int32) × (Nat → Int32) × (Nat → Int32) × (Nat → Int32) × (Nat → Int32) × (Nat → Int32) × (Nat → Int32) × (Nat → Int32))) (fuel : Nat) (v2_86 : Int32) (writers_86 : Int32) (year_86 : Int32) (kind_86 : (Nat → Int32)) (figure_86 : (Nat → Int32)) (style_86 : (Nat → Int32)) (fame_86 : (Nat → Int32)) (silent_86 : (Nat → Int32)) (ring_86 : (Nat → Int32)) : f_X5_guild_86 statements_u86 letter_u86 told_u86 kX86_128 kX86_105 (fuel + 1) v2_86 writers_86 year_86 kind_86 figure_86 style_86 fame_86 silent_86 ring_86 = (if statements_u86 ≤ v2_86 then (kX86_128 writers_86 year_86 kind_86 figure_86 style_86 fame_86 silent_86 ring_86) else ((f_X5_comes writers_86 year_86 kind_86 figure_86 style_86 fame_86 silent_86 ring_86 letter_u86 told_u86 v2_86).bind fun (r96 : Int32 × Int32 × Int32 × (Nat → Int32) × (Nat → Int32) × (Nat → Int32) × (Nat → Int32) × (Nat → Int32) × (Nat → Int32)) => (if r96.1 = 0 then (kX86_105 v2_86 r96.2.1 r96.2.2.1 r96.2.2.2.1 r96.2.2.2.2.1 r96.2.2.2.2.2.1 r96.2.2.2.2.2.2.1 r96.2.2.2.2.2.2.2.1 r96.2.2.2.2.2.2.2.2) else (f_X5_guild_86 statements_u86 letter_u86 told_u86 kX86_128 kX86_105 fuel (v2_86 + (1 : Int32)) r96.2.1 r96.2.2.1 r96.2.2.2.1 r96.2.2.2.2.1 r96.2.2.2.2.2.1 r96.2.2.2.2.2.2.1 r96.2.2.2.2.2.2.2.1 r96.2.2.2.2.2.2.2.2)))) := rfl
def f_X5_guild_128   (writers_128 : Int32) (year_128 : Int32) (taped_128 : Int32) (at__128 : Int32) (statements_128 : Int32) (isKeeping_128 : Int32) (cursor_128 : Int32) (kind_128 : (Nat → Int32)) (figure_128 : (Nat → Int32)) (style_128 : (Nat → Int32)) (fame_128 : (Nat → Int32)) (silent_128 : (Nat → Int32)) (ring_128 : (Nat → Int32)) (letter_128 : (Nat → Int32)) (letterAt_128 : (Nat → Int32)) (told_128 : (Nat → Int32)) (kept_128 : (Nat → Int32)) : Option (Int32 × Int32 × Int32 × Int32 × Int32 × Int32 × Int32 × Int32 × (Nat → Int32) × (Nat → Int32) × (Nat → Int32) × (Nat → Int32) × (Nat → Int32) × (Nat → Int32) × (Nat → Int32) × (Nat → Int32) × (Nat → Int32) × (Nat → Int32)) := (some (statements_128, writers_128, year_128, taped_128, at__128, statements_128, isKeeping_128, cursor_128, kind_128, figure_128, style_128, fame_128, silent_128, ring_128, letter_128, letterAt_128, told_128, kept_128))
def f_X5_guild_105   (v2_105 : Int32) (writers_105 : Int32) (year_105 : Int32) (taped_105 : Int32) (at__105 : Int32) (statements_105 : Int32) (isKeeping_105 : Int32) (cursor_105 : Int32) (kind_105 : (Nat → Int32)) (figure_105 : (Nat → Int32)) (style_105 : (Nat → Int32)) (fame_105 : (Nat → Int32)) (silent_105 : (Nat → Int32)) (ring_105 : (Nat → Int32)) (letter_105 : (Nat → Int32)) (letterAt_105 : (Nat → Int32)) (told_105 : (Nat → Int32)) (kept_105 : (Nat → Int32)) : Option (Int32 × Int32 × Int32 × Int32 × Int32 × Int32 × Int32 × Int32 × (Nat → Int32) × (Nat → Int32) × (Nat → Int32) × (Nat → Int32) × (Nat → Int32) × (Nat → Int32) × (Nat → Int32) × (Nat → Int32) × (Nat → Int32) × (Nat → Int32)) := ((f_X5_passesAll writers_105 year_105 isKeeping_105 cursor_105 kind_105 figure_105 style_105 fame_105 silent_105 ring_105 kept_105 (1 : Int32) (0 : Int32)).bind fun (r108 : Int32 × Int32 × Int32 × Int32 × (Nat → Int32) × (Nat → Int32) × (Nat → Int32) × (Nat → Int32) × (Nat → Int32) × (Nat → Int32) × (Nat → Int32)) => (gd v2_105 48 (some (((-2000 : Int32) - (letterAt_105 (Int32.toNatClampNeg v2_105))), r108.1, r108.2.1, taped_105, at__105, statements_105, r108.2.2.1, r108.2.2.2.1, r108.2.2.2.2.1, r108.2.2.2.2.2.1, r108.2.2.2.2.2.2.1, r108.2.2.2.2.2.2.2.1, r108.2.2.2.2.2.2.2.2.1, r108.2.2.2.2.2.2.2.2.2.1, letter_105, letterAt_105, told_105, r108.2.2.2.2.2.2.2.2.2.2))))
def f_X5_guild_60   (v1_60 : Int32) (writers_60 : Int32) (year_60 : Int32) (taped_60 : Int32) (at__60 : Int32) (statements_60 : Int32) (isKeeping_60 : Int32) (cursor_60 : Int32) (kind_60 : (Nat → Int32)) (figure_60 : (Nat → Int32)) (style_60 : (Nat → Int32)) (fame_60 : (Nat → Int32)) (silent_60 : (Nat → Int32)) (ring_60 : (Nat → Int32)) (letter_60 : (Nat → Int32)) (letterAt_60 : (Nat → Int32)) (told_60 : (Nat → Int32)) (kept_60 : (Nat → Int32)) : Option (Int32 × Int32 × Int32 × Int32 × Int32 × Int32 × Int32 × Int32 × (Nat → Int32) × (Nat → Int32) × (Nat → Int32) × (Nat → Int32) × (Nat → Int32) × (Nat → Int32) × (Nat → Int32) × (Nat → Int32) × (Nat → Int32) × (Nat → Int32)) := (if v1_60 = 0 then (some (((-1000 : Int32) - at__60), writers_60, year_60, (0 : Int32), at__60, statements_60, isKeeping_60, cursor_60, kind_60, figure_60, style_60, fame_60, silent_60, ring_60, letter_60, letterAt_60, told_60, kept_60)) else ((f_X5_passesAll writers_60 year_60 isKeeping_60 cursor_60 kind_60 figure_60 style_60 fame_60 silent_60 ring_60 kept_60 (1 : Int32) (1 : Int32)).bind fun (r81 : Int32 × Int32 × Int32 × Int32 × (Nat → Int32) × (Nat → Int32) × (Nat → Int32) × (Nat → Int32) × (Nat → Int32) × (Nat → Int32) × (Nat → Int32)) => (f_X5_guild_86 statements_60 letter_60 told_60 (fun (writers_128 : Int32) (year_128 : Int32) (kind_128 : (Nat → Int32)) (figure_128 : (Nat → Int32)) (style_128 : (Nat → Int32)) (fame_128 : (Nat → Int32)) (silent_128 : (Nat → Int32)) (ring_128 : (Nat → Int32)) => (f_X5_guild_128   writers_128 year_128 (0 : Int32) at__60 statements_60 r81.2.2.1 r81.2.2.2.1 kind_128 figure_128 style_128 fame_128 silent_128 ring_128 letter_60 letterAt_60 told_60 r81.2.2.2.2.2.2.2.2.2.2)) (fun (v2_105 : Int32) (writers_105 : Int32) (year_105 : Int32) (kind_105 : (Nat → Int32)) (figure_105 : (Nat → Int32)) (style_105 : (Nat → Int32)) (fame_105 : (Nat → Int32)) (silent_105 : (Nat → Int32)) (ring_105 : (Nat → Int32)) => (f_X5_guild_105   v2_105 writers_105 year_105 (0 : Int32) at__60 statements_60 r81.2.2.1 r81.2.2.2.1 kind_105 figure_105 style_105 fame_105 silent_105 ring_105 letter_60 letterAt_60 told_60 r81.2.2.2.2.2.2.2.2.2.2)) FU (0 : Int32) r81.1 r81.2.1 r81.2.2.2.2.1 r81.2.2.2.2.2.1 r81.2.2.2.2.2.2.1 r81.2.2.2.2.2.2.2.1 r81.2.2.2.2.2.2.2.2.1 r81.2.2.2.2.2.2.2.2.2.1)))
def f_X5_guild (writers : Int32) (year : Int32) (taped : Int32) (at_ : Int32) (statements : Int32) (isKeeping : Int32) (cursor : Int32) (kind : (Nat → Int32)) (figure : (Nat → Int32)) (style : (Nat → Int32)) (fame : (Nat → Int32)) (silent : (Nat → Int32)) (ring : (Nat → Int32)) (tape : (Nat → Int32)) (letter : (Nat → Int32)) (letterAt : (Nat → Int32)) (told : (Nat → Int32)) (kept : (Nat → Int32)) : Option (Int32 × Int32 × Int32 × Int32 × Int32 × Int32 × Int32 × Int32 × (Nat → Int32) × (Nat → Int32) × (Nat → Int32) × (Nat → Int32) × (Nat → Int32) × (Nat → Int32) × (Nat → Int32) × (Nat → Int32) × (Nat → Int32) × (Nat → Int32)) := (f_X5_guild_12 tape taped (fun (v1_60 : Int32) (at__60 : Int32) (statements_60 : Int32) (letter_60 : (Nat → Int32)) (letterAt_60 : (Nat → Int32)) (told_60 : (Nat → Int32)) => (f_X5_guild_60   v1_60 writers year taped at__60 statements_60 isKeeping cursor kind figure style fame silent ring letter_60 letterAt_60 told_60 kept)) FU (1 : Int32) (0 : Int32) (0 : Int32) letter letterAt told)
set_option maxHeartbeats 4000000 in
set_option maxRecDepth 100000 in
theorem w_X5_guild_53 {p : Program} {l : Launch} {e : Env} {s : State} {m : MethodId} {args : Array Value} {below : List Frame} {meth : Method} {c : Code} {D : va_G} {cI : ClassId} {aS : aSt} {A : Nat → Prop} {Q : State → Prop}  (ad : Nat → Nat) (hasImage : Int32) (forgottenWhen : Int32) (rowMany : Int32) (tape : (Nat → Int32)) (writers_u12 : Int32) (year_u12 : Int32) (taped_u12 : Int32) (isKeeping_u12 : Int32) (cursor_u12 : Int32) (kind_u12 : (Nat → Int32)) (figure_u12 : (Nat → Int32)) (style_u12 : (Nat → Int32)) (fame_u12 : (Nat → Int32)) (silent_u12 : (Nat → Int32)) (ring_u12 : (Nat → Int32)) (kept_u12 : (Nat → Int32)) {R : Int32 × Int32 × Int32 × Int32 × Int32 × Int32 × Int32 × Int32 × (Nat → Int32) × (Nat → Int32) × (Nat → Int32) × (Nat → Int32) × (Nat → Int32) × (Nat → Int32) × (Nat → Int32) × (Nat → Int32) × (Nat → Int32) × (Nat → Int32)} (X : Bx p s m args meth c cX5_guild 3 (some .int) RX5 D cI aS A) (hret : RtI p l e 8 s m args below meth c cX5_guild (some .int) D A (wd_X5_guild cI ad R.2.1 R.2.2.1 R.2.2.2.1 R.2.2.2.2.1 R.2.2.2.2.2.1 hasImage R.2.2.2.2.2.2.1 R.2.2.2.2.2.2.2.1 forgottenWhen rowMany R.2.2.2.2.2.2.2.2.1 R.2.2.2.2.2.2.2.2.2.1 R.2.2.2.2.2.2.2.2.2.2.1 R.2.2.2.2.2.2.2.2.2.2.2.1 R.2.2.2.2.2.2.2.2.2.2.2.2.1 R.2.2.2.2.2.2.2.2.2.2.2.2.2.1 tape R.2.2.2.2.2.2.2.2.2.2.2.2.2.2.1 R.2.2.2.2.2.2.2.2.2.2.2.2.2.2.2.1 R.2.2.2.2.2.2.2.2.2.2.2.2.2.2.2.2.1 R.2.2.2.2.2.2.2.2.2.2.2.2.2.2.2.2.2) R.1 Q) (kL12 : Int32 → Int32 → Int32 → (Nat → Int32) → (Nat → Int32) → (Nat → Int32) → Option (Int32 × Int32 × Int32 × Int32 × Int32 × Int32 × Int32 × Int32 × (Nat → Int32) × (Nat → Int32) × (Nat → Int32) × (Nat → Int32) × (Nat → Int32) × (Nat → Int32) × (Nat → Int32) × (Nat → Int32) × (Nat → Int32) × (Nat → Int32))) (hkL12 : ∀ (v1_12 : Int32) (at__12 : Int32) (statements_12 : Int32) (letter_12 : (Nat → Int32)) (letterAt_12 : (Nat → Int32)) (told_12 : (Nat → Int32)) (H : Heap) (locs : List Loc) (ls : Array Slot), kL12 v1_12 at__12 statements_12 letter_12 letterAt_12 told_12 = some R → lv_has ls 3 [(0, .ref (ad 0)), (1, .int v1_12)] → va_P D vwCl (wd_X5_guild cI ad writers_u12 year_u12 taped_u12 at__12 statements_12 hasImage isKeeping_u12 cursor_u12 forgottenWhen rowMany kind_u12 figure_u12 style_u12 fame_u12 silent_u12 ring_u12 tape letter_12 letterAt_12 told_12 kept_u12) H → va_D A (wd_X5_guild cI ad writers_u12 year_u12 taped_u12 at__12 statements_12 hasImage isKeeping_u12 cursor_u12 forgottenWhen rowMany kind_u12 figure_u12 style_u12 fame_u12 silent_u12 ring_u12 tape letter_12 letterAt_12 told_12 kept_u12) → va_S A s.heap H locs → Wh p l e 8 s m args below meth c H locs Q (F0 m 12 ls [])) : ∀ (v1_53 : Int32) (at__53 : Int32) (statements_53 : Int32) (letter_53 : (Nat → Int32)) (letterAt_53 : (Nat → Int32)) (told_53 : (Nat → Int32)) (t1_53 : Int32) (t2_53 : Int32) (H : Heap) (locs : List Loc) (ls : Array Slot), f_X5_guild_53  kL12 v1_53 at__53 statements_53 letter_53 letterAt_53 told_53 t1_53 t2_53 = some R → lv_has ls 3 [(0, .ref (ad 0)), (1, .int v1_53)] → va_P D vwCl (wd_X5_guild cI ad writers_u12 year_u12 taped_u12 at__53 statements_53 hasImage isKeeping_u12 cursor_u12 forgottenWhen rowMany kind_u12 figure_u12 style_u12 fame_u12 silent_u12 ring_u12 tape letter_53 letterAt_53 told_53 kept_u12) H → va_D A (wd_X5_guild cI ad writers_u12 year_u12 taped_u12 at__53 statements_53 hasImage isKeeping_u12 cursor_u12 forgottenWhen rowMany kind_u12 figure_u12 style_u12 fame_u12 silent_u12 ring_u12 tape letter_53 letterAt_53 told_53 kept_u12) → va_S A s.heap H locs → Wh p l e 8 s m args below meth c H locs Q (F0 m 53 ls [.int t2_53, .int t1_53, .ref (ad 0)]) := by
  have hx := X.1
  have hb := X.2.1
  intro v1_53 at__53 statements_53 letter_53 letterAt_53 told_53 t1_53 t2_53 H locs ls hf hl hP hD hS
  replace hf : (kL12 v1_53 at__53 (t1_53 + t2_53) letter_53 letterAt_53 told_53) = some R := hf
  refine lv_iadd hx hb dX5_guild_53 ?_
  refine fpX5_95 X hP hD hS (q0 := 0) (ws' := (wd_X5_guild cI ad writers_u12 year_u12 taped_u12 at__53 (t1_53 + t2_53) hasImage isKeeping_u12 cursor_u12 forgottenWhen rowMany kind_u12 figure_u12 style_u12 fame_u12 silent_u12 ring_u12 tape letter_53 letterAt_53 told_53 kept_u12)) rfl rfl rfl (Nat.le_of_ble_eq_true rfl) rfl dX5_guild_54 (fun H locs hP hD hS => ?_)
  refine lv_goto (tgt := 12) hx hb dX5_guild_57 (by decide) ?_
  exact hkL12 v1_53 at__53 (t1_53 + t2_53) letter_53 letterAt_53 told_53 _ _ _ hf (lv_sub hl [0, 1] rfl) hP hD hS
set_option maxHeartbeats 4000000 in
set_option maxRecDepth 100000 in
theorem w_X5_guild_34 {p : Program} {l : Launch} {e : Env} {s : State} {m : MethodId} {args : Array Value} {below : List Frame} {meth : Method} {c : Code} {D : va_G} {cI : ClassId} {aS : aSt} {A : Nat → Prop} {Q : State → Prop}  (ad : Nat → Nat) (hasImage : Int32) (forgottenWhen : Int32) (rowMany : Int32) (tape : (Nat → Int32)) (writers_u12 : Int32) (year_u12 : Int32) (taped_u12 : Int32) (isKeeping_u12 : Int32) (cursor_u12 : Int32) (kind_u12 : (Nat → Int32)) (figure_u12 : (Nat → Int32)) (style_u12 : (Nat → Int32)) (fame_u12 : (Nat → Int32)) (silent_u12 : (Nat → Int32)) (ring_u12 : (Nat → Int32)) (kept_u12 : (Nat → Int32)) {R : Int32 × Int32 × Int32 × Int32 × Int32 × Int32 × Int32 × Int32 × (Nat → Int32) × (Nat → Int32) × (Nat → Int32) × (Nat → Int32) × (Nat → Int32) × (Nat → Int32) × (Nat → Int32) × (Nat → Int32) × (Nat → Int32) × (Nat → Int32)} (X : Bx p s m args meth c cX5_guild 3 (some .int) RX5 D cI aS A) (hret : RtI p l e 8 s m args below meth c cX5_guild (some .int) D A (wd_X5_guild cI ad R.2.1 R.2.2.1 R.2.2.2.1 R.2.2.2.2.1 R.2.2.2.2.2.1 hasImage R.2.2.2.2.2.2.1 R.2.2.2.2.2.2.2.1 forgottenWhen rowMany R.2.2.2.2.2.2.2.2.1 R.2.2.2.2.2.2.2.2.2.1 R.2.2.2.2.2.2.2.2.2.2.1 R.2.2.2.2.2.2.2.2.2.2.2.1 R.2.2.2.2.2.2.2.2.2.2.2.2.1 R.2.2.2.2.2.2.2.2.2.2.2.2.2.1 tape R.2.2.2.2.2.2.2.2.2.2.2.2.2.2.1 R.2.2.2.2.2.2.2.2.2.2.2.2.2.2.2.1 R.2.2.2.2.2.2.2.2.2.2.2.2.2.2.2.2.1 R.2.2.2.2.2.2.2.2.2.2.2.2.2.2.2.2.2) R.1 Q) (kL12 : Int32 → Int32 → Int32 → (Nat → Int32) → (Nat → Int32) → (Nat → Int32) → Option (Int32 × Int32 × Int32 × Int32 × Int32 × Int32 × Int32 × Int32 × (Nat → Int32) × (Nat → Int32) × (Nat → Int32) × (Nat → Int32) × (Nat → Int32) × (Nat → Int32) × (Nat → Int32) × (Nat → Int32) × (Nat → Int32) × (Nat → Int32))) (hkL12 : ∀ (v1_12 : Int32) (at__12 : Int32) (statements_12 : Int32) (letter_12 : (Nat → Int32)) (letterAt_12 : (Nat → Int32)) (told_12 : (Nat → Int32)) (H : Heap) (locs : List Loc) (ls : Array Slot), kL12 v1_12 at__12 statements_12 letter_12 letterAt_12 told_12 = some R → lv_has ls 3 [(0, .ref (ad 0)), (1, .int v1_12)] → va_P D vwCl (wd_X5_guild cI ad writers_u12 year_u12 taped_u12 at__12 statements_12 hasImage isKeeping_u12 cursor_u12 forgottenWhen rowMany kind_u12 figure_u12 style_u12 fame_u12 silent_u12 ring_u12 tape letter_12 letterAt_12 told_12 kept_u12) H → va_D A (wd_X5_guild cI ad writers_u12 year_u12 taped_u12 at__12 statements_12 hasImage isKeeping_u12 cursor_u12 forgottenWhen rowMany kind_u12 figure_u12 style_u12 fame_u12 silent_u12 ring_u12 tape letter_12 letterAt_12 told_12 kept_u12) → va_S A s.heap H locs → Wh p l e 8 s m args below meth c H locs Q (F0 m 12 ls [])) : ∀ (at__34 : Int32) (statements_34 : Int32) (letter_34 : (Nat → Int32)) (letterAt_34 : (Nat → Int32)) (told_34 : (Nat → Int32)) (H : Heap) (locs : List Loc) (ls : Array Slot), f_X5_guild_34 tape taped_u12 kL12 at__34 statements_34 letter_34 letterAt_34 told_34 = some R → lv_has ls 3 [(0, .ref (ad 0))] → va_P D vwCl (wd_X5_guild cI ad writers_u12 year_u12 taped_u12 at__34 statements_34 hasImage isKeeping_u12 cursor_u12 forgottenWhen rowMany kind_u12 figure_u12 style_u12 fame_u12 silent_u12 ring_u12 tape letter_34 letterAt_34 told_34 kept_u12) H → va_D A (wd_X5_guild cI ad writers_u12 year_u12 taped_u12 at__34 statements_34 hasImage isKeeping_u12 cursor_u12 forgottenWhen rowMany kind_u12 figure_u12 style_u12 fame_u12 silent_u12 ring_u12 tape letter_34 letterAt_34 told_34 kept_u12) → va_S A s.heap H locs → Wh p l e 8 s m args below meth c H locs Q (F0 m 34 ls []) := by
  have hx := X.1
  have hb := X.2.1
  intro at__34 statements_34 letter_34 letterAt_34 told_34 H locs ls hf hl hP hD hS
  replace hf : ((f_X5_statement taped_u12 at__34 statements_34 tape letter_34 letterAt_34 told_34).bind fun (r35 : Int32 × Int32 × (Nat → Int32) × (Nat → Int32) × (Nat → Int32)) => (if r35.1 = 0 then (f_X5_guild_53  kL12 r35.1 r35.2.1 statements_34 r35.2.2.1 r35.2.2.2.1 r35.2.2.2.2 statements_34 (0 : Int32)) else (f_X5_guild_53  kL12 r35.1 r35.2.1 statements_34 r35.2.2.1 r35.2.2.2.1 r35.2.2.2.2 statements_34 (1 : Int32)))) = some R := hf
  refine lv_aload_n hx hb dX5_guild_34 rfl (lv_at hl 0 rfl) ?_
  obtain ⟨r35, hq35, hf⟩ := bS hf
  refine wr_i X hP hD hS [0, 7, 8, 9, 10] rfl (ws' := (wd_X5_guild cI ad writers_u12 year_u12 taped_u12 r35.2.1 statements_34 hasImage isKeeping_u12 cursor_u12 forgottenWhen rowMany kind_u12 figure_u12 style_u12 fame_u12 silent_u12 ring_u12 tape r35.2.2.1 r35.2.2.2.1 r35.2.2.2.2 kept_u12)) (Nat.le_of_ble_eq_true rfl) rfl rfl (run_V X hP hD hS [0, 7, 8, 9, 10] rfl rfl (c_X5_statement l D cI aS ad writers_u12 year_u12 taped_u12 at__34 statements_34 hasImage isKeeping_u12 cursor_u12 forgottenWhen rowMany tape letter_34 letterAt_34 told_34 _ hq35 _) lkX5_127 (by decide) (q0 := 0) rfl rfl rfl rfl (Nat.le_of_ble_eq_true rfl) hl.1 dX5_guild_35) (fun H locs hP hD hS => ?_)
  refine lv_istore_n (lv' := [(1, .int r35.1), (0, .ref (ad 0))]) hx hb dX5_guild_38 rfl hl (by decide) rfl (fun ls hl => ?_)
  refine lv_aload_n hx hb dX5_guild_39 rfl (lv_at hl 1 rfl) ?_
  refine lv_dup hx hb dX5_guild_40 rfl ?_
  refine fgX5_95 X hP (q0 := 0) rfl rfl dX5_guild_41 ?_
  refine lv_iload_n hx hb dX5_guild_44 rfl (lv_at hl 0 rfl) ?_
  refine lv_if_eq (tgt := 52) hx hb dX5_guild_45 (by decide) (fun c45 => ?_) (fun c45 => ?_)
  · have hf := iT c45 hf
    refine lv_iconst (v := 0) hx hb dX5_guild_52 (by decide) ?_
    exact w_X5_guild_53 ad hasImage forgottenWhen rowMany tape writers_u12 year_u12 taped_u12 isKeeping_u12 cursor_u12 kind_u12 figure_u12 style_u12 fame_u12 silent_u12 ring_u12 kept_u12 X hret _ hkL12 r35.1 r35.2.1 statements_34 r35.2.2.1 r35.2.2.2.1 r35.2.2.2.2 statements_34 (0 : Int32) _ _ _ hf (lv_sub hl [1, 0] rfl) hP hD hS
  · have hf := iF c45 hf
    refine lv_iconst (v := 1) hx hb dX5_guild_48 (by decide) ?_
    refine lv_goto (tgt := 53) hx hb dX5_guild_49 (by decide) ?_
    exact w_X5_guild_53 ad hasImage forgottenWhen rowMany tape writers_u12 year_u12 taped_u12 isKeeping_u12 cursor_u12 kind_u12 figure_u12 style_u12 fame_u12 silent_u12 ring_u12 kept_u12 X hret _ hkL12 r35.1 r35.2.1 statements_34 r35.2.2.1 r35.2.2.2.1 r35.2.2.2.2 statements_34 (1 : Int32) _ _ _ hf (lv_sub hl [1, 0] rfl) hP hD hS
set_option maxHeartbeats 4000000 in
set_option maxRecDepth 100000 in
theorem w_X5_guild_12 {p : Program} {l : Launch} {e : Env} {s : State} {m : MethodId} {args : Array Value} {below : List Frame} {meth : Method} {c : Code} {D : va_G} {cI : ClassId} {aS : aSt} {A : Nat → Prop} {Q : State → Prop}  (ad : Nat → Nat) (hasImage : Int32) (forgottenWhen : Int32) (rowMany : Int32) (tape : (Nat → Int32)) (writers_u12 : Int32) (year_u12 : Int32) (taped_u12 : Int32) (isKeeping_u12 : Int32) (cursor_u12 : Int32) (kind_u12 : (Nat → Int32)) (figure_u12 : (Nat → Int32)) (style_u12 : (Nat → Int32)) (fame_u12 : (Nat → Int32)) (silent_u12 : (Nat → Int32)) (ring_u12 : (Nat → Int32)) (kept_u12 : (Nat → Int32)) {R : Int32 × Int32 × Int32 × Int32 × Int32 × Int32 × Int32 × Int32 × (Nat → Int32) × (Nat → Int32) × (Nat → Int32) × (Nat → Int32) × (Nat → Int32) × (Nat → Int32) × (Nat → Int32) × (Nat → Int32) × (Nat → Int32) × (Nat → Int32)} (X : Bx p s m args meth c cX5_guild 3 (some .int) RX5 D cI aS A) (hret : RtI p l e 8 s m args below meth c cX5_guild (some .int) D A (wd_X5_guild cI ad R.2.1 R.2.2.1 R.2.2.2.1 R.2.2.2.2.1 R.2.2.2.2.2.1 hasImage R.2.2.2.2.2.2.1 R.2.2.2.2.2.2.2.1 forgottenWhen rowMany R.2.2.2.2.2.2.2.2.1 R.2.2.2.2.2.2.2.2.2.1 R.2.2.2.2.2.2.2.2.2.2.1 R.2.2.2.2.2.2.2.2.2.2.2.1 R.2.2.2.2.2.2.2.2.2.2.2.2.1 R.2.2.2.2.2.2.2.2.2.2.2.2.2.1 tape R.2.2.2.2.2.2.2.2.2.2.2.2.2.2.1 R.2.2.2.2.2.2.2.2.2.2.2.2.2.2.2.1 R.2.2.2.2.2.2.2.2.2.2.2.2.2.2.2.2.1 R.2.2.2.2.2.2.2.2.2.2.2.2.2.2.2.2.2) R.1 Q) (kX12_60 : Int32 → Int32 → Int32 → (Nat → Int32) → (Nat → Int32) → (Nat → Int32) → Option (Int32 × Int32 × Int32 × Int32 × Int32 × Int32 × Int32 × Int32 × (Nat → Int32) × (Nat → Int32) × (Nat → Int32) × (Nat → Int32) × (Nat → Int32) × (Nat → Int32) × (Nat → Int32) × (Nat → Int32) × (Nat → Int32) × (Nat → Int32))) (hkX12_60 : ∀ (v1_60 : Int32) (at__60 : Int32) (statements_60 : Int32) (letter_60 : (Nat → Int32)) (letterAt_60 : (Nat → Int32)) (told_60 : (Nat → Int32)) (H : Heap) (locs : List Loc) (ls : Array Slot), kX12_60 v1_60 at__60 statements_60 letter_60 letterAt_60 told_60 = some R → lv_has ls 3 [(0, .ref (ad 0)), (1, .int v1_60)] → va_P D vwCl (wd_X5_guild cI ad writers_u12 year_u12 taped_u12 at__60 statements_60 hasImage isKeeping_u12 cursor_u12 forgottenWhen rowMany kind_u12 figure_u12 style_u12 fame_u12 silent_u12 ring_u12 tape letter_60 letterAt_60 told_60 kept_u12) H → va_D A (wd_X5_guild cI ad writers_u12 year_u12 taped_u12 at__60 statements_60 hasImage isKeeping_u12 cursor_u12 forgottenWhen rowMany kind_u12 figure_u12 style_u12 fame_u12 silent_u12 ring_u12 tape letter_60 letterAt_60 told_60 kept_u12) → va_S A s.heap H locs → Wh p l e 8 s m args below meth c H locs Q (F0 m 60 ls [])) : ∀ (fuel : Nat) (v1_12 : Int32) (at__12 : Int32) (statements_12 : Int32) (letter_12 : (Nat → Int32)) (letterAt_12 : (Nat → Int32)) (told_12 : (Nat → Int32)) (H : Heap) (locs : List Loc) (ls : Array Slot), f_X5_guild_12 tape taped_u12 kX12_60 fuel v1_12 at__12 statements_12 letter_12 letterAt_12 told_12 = some R → lv_has ls 3 [(0, .ref (ad 0)), (1, .int v1_12)] → va_P D vwCl (wd_X5_guild cI ad writers_u12 year_u12 taped_u12 at__12 statements_12 hasImage isKeeping_u12 cursor_u12 forgottenWhen rowMany kind_u12 figure_u12 style_u12 fame_u12 silent_u12 ring_u12 tape letter_12 letterAt_12 told_12 kept_u12) H → va_D A (wd_X5_guild cI ad writers_u12 year_u12 taped_u12 at__12 statements_12 hasImage isKeeping_u12 cursor_u12 forgottenWhen rowMany kind_u12 figure_u12 style_u12 fame_u12 silent_u12 ring_u12 tape letter_12 letterAt_12 told_12 kept_u12) → va_S A s.heap H locs → Wh p l e 8 s m args below meth c H locs Q (F0 m 12 ls []) := by
  have hx := X.1
  have hb := X.2.1
  intro fuel
  induction fuel with
  | zero =>
    intro v1_12 at__12 statements_12 letter_12 letterAt_12 told_12 H locs ls hf hl hP hD hS
    cases hf
  | succ fuel ih =>
    intro v1_12 at__12 statements_12 letter_12 letterAt_12 told_12 H locs ls hf hl hP hD hS
    replace hf : (if v1_12 = 0 then (kX12_60 v1_12 at__12 statements_12 letter_12 letterAt_12 told_12) else (if at__12 < taped_u12 then (f_X5_guild_34 tape taped_u12 (f_X5_guild_12 tape taped_u12 kX12_60 fuel) at__12 statements_12 letter_12 letterAt_12 told_12) else (if statements_12 = 0 then (f_X5_guild_34 tape taped_u12 (f_X5_guild_12 tape taped_u12 kX12_60 fuel) at__12 statements_12 letter_12 letterAt_12 told_12) else (kX12_60 v1_12 at__12 statements_12 letter_12 letterAt_12 told_12)))) = some R := hf
    refine lv_iload_n hx hb dX5_guild_12 rfl (lv_at hl 1 rfl) ?_
    refine lv_if_eq (tgt := 60) hx hb dX5_guild_13 (by decide) (fun c13 => ?_) (fun c13 => ?_)
    · have hf := iT c13 hf
      exact hkX12_60 v1_12 at__12 statements_12 letter_12 letterAt_12 told_12 _ _ _ hf (lv_sub hl [0, 1] rfl) hP hD hS
    · have hf := iF c13 hf
      refine lv_aload_n hx hb dX5_guild_16 rfl (lv_at hl 0 rfl) ?_
      refine fgX5_73 X hP (q0 := 0) rfl rfl dX5_guild_17 ?_
      refine lv_aload_n hx hb dX5_guild_20 rfl (lv_at hl 0 rfl) ?_
      refine fgX5_66 X hP (q0 := 0) rfl rfl dX5_guild_21 ?_
      refine lv_icmp_lt (tgt := 34) hx hb dX5_guild_24 (by decide) (fun c24 => ?_) (fun c24 => ?_)
      · have hf := iT c24 hf
        exact w_X5_guild_34 ad hasImage forgottenWhen rowMany tape writers_u12 year_u12 taped_u12 isKeeping_u12 cursor_u12 kind_u12 figure_u12 style_u12 fame_u12 silent_u12 ring_u12 kept_u12 X hret _ ih at__12 statements_12 letter_12 letterAt_12 told_12 _ _ _ hf (lv_sub hl [0] rfl) hP hD hS
      · have hf := iF c24 hf
        refine lv_aload_n hx hb dX5_guild_27 rfl (lv_at hl 0 rfl) ?_
        refine fgX5_95 X hP (q0 := 0) rfl rfl dX5_guild_28 ?_
        refine lv_if_ne (tgt := 60) hx hb dX5_guild_31 (by decide) (fun c31 => ?_) (fun c31 => ?_)
        · have hf := iF c31 hf
          exact hkX12_60 v1_12 at__12 statements_12 letter_12 letterAt_12 told_12 _ _ _ hf (lv_sub hl [0, 1] rfl) hP hD hS
        · have hf := iT c31 hf
          exact w_X5_guild_34 ad hasImage forgottenWhen rowMany tape writers_u12 year_u12 taped_u12 isKeeping_u12 cursor_u12 kind_u12 figure_u12 style_u12 fame_u12 silent_u12 ring_u12 kept_u12 X hret _ ih at__12 statements_12 letter_12 letterAt_12 told_12 _ _ _ hf (lv_sub hl [0] rfl) hP hD hS
set_option maxHeartbeats 4000000 in
set_option maxRecDepth 100000 in
theorem w_X5_guild_86 {p : Program} {l : Launch} {e : Env} {s : State} {m : MethodId} {args : Array Value} {below : List Frame} {meth : Method} {c : Code} {D : va_G} {cI : ClassId} {aS : aSt} {A : Nat → Prop} {Q : State → Prop}  (ad : Nat → Nat) (hasImage : Int32) (forgottenWhen : Int32) (rowMany : Int32) (tape : (Nat → Int32)) (taped_u86 : Int32) (at__u86 : Int32) (statements_u86 : Int32) (isKeeping_u86 : Int32) (cursor_u86 : Int32) (letter_u86 : (Nat → Int32)) (letterAt_u86 : (Nat → Int32)) (told_u86 : (Nat → Int32)) (kept_u86 : (Nat → Int32)) {R : Int32 × Int32 × Int32 × Int32 × Int32 × Int32 × Int32 × Int32 × (Nat → Int32) × (Nat → Int32) × (Nat → Int32) × (Nat → Int32) × (Nat → Int32) × (Nat → Int32) × (Nat → Int32) × (Nat → Int32) × (Nat → Int32) × (Nat → Int32)} (X : Bx p s m args meth c cX5_guild 3 (some .int) RX5 D cI aS A) (hret : RtI p l e 8 s m args below meth c cX5_guild (some .int) D A (wd_X5_guild cI ad R.2.1 R.2.2.1 R.2.2.2.1 R.2.2.2.2.1 R.2.2.2.2.2.1 hasImage R.2.2.2.2.2.2.1 R.2.2.2.2.2.2.2.1 forgottenWhen rowMany R.2.2.2.2.2.2.2.2.1 R.2.2.2.2.2.2.2.2.2.1 R.2.2.2.2.2.2.2.2.2.2.1 R.2.2.2.2.2.2.2.2.2.2.2.1 R.2.2.2.2.2.2.2.2.2.2.2.2.1 R.2.2.2.2.2.2.2.2.2.2.2.2.2.1 tape R.2.2.2.2.2.2.2.2.2.2.2.2.2.2.1 R.2.2.2.2.2.2.2.2.2.2.2.2.2.2.2.1 R.2.2.2.2.2.2.2.2.2.2.2.2.2.2.2.2.1 R.2.2.2.2.2.2.2.2.2.2.2.2.2.2.2.2.2) R.1 Q) (kX86_128 : Int32 → Int32 → (Nat → Int32) → (Nat → Int32) → (Nat → Int32) → (Nat → Int32) → (Nat → Int32) → (Nat → Int32) → Option (Int32 × Int32 × Int32 × Int32 × Int32 × Int32 × Int32 × Int32 × (Nat → Int32) × (Nat → Int32) × (Nat → Int32) × (Nat → Int32) × (Nat → Int32) × (Nat → Int32) × (Nat → Int32) × (Nat → Int32) × (Nat → Int32) × (Nat → Int32))) (hkX86_128 : ∀ (writers_128 : Int32) (year_128 : Int32) (kind_128 : (Nat → Int32)) (figure_128 : (Nat → Int32)) (style_128 : (Nat → Int32)) (fame_128 : (Nat → Int32)) (silent_128 : (Nat → Int32)) (ring_128 : (Nat → Int32)) (H : Heap) (locs : List Loc) (ls : Array Slot), kX86_128 writers_128 year_128 kind_128 figure_128 style_128 fame_128 silent_128 ring_128 = some R → lv_has ls 3 [(0, .ref (ad 0))] → va_P D vwCl (wd_X5_guild cI ad writers_128 year_128 taped_u86 at__u86 statements_u86 hasImage isKeeping_u86 cursor_u86 forgottenWhen rowMany kind_128 figure_128 style_128 fame_128 silent_128 ring_128 tape letter_u86 letterAt_u86 told_u86 kept_u86) H → va_D A (wd_X5_guild cI ad writers_128 year_128 taped_u86 at__u86 statements_u86 hasImage isKeeping_u86 cursor_u86 forgottenWhen rowMany kind_128 figure_128 style_128 fame_128 silent_128 ring_128 tape letter_u86 letterAt_u86 told_u86 kept_u86) → va_S A s.heap H locs → Wh p l e 8 s m args below meth c H locs Q (F0 m 128 ls [])) (kX86_105 : Int32 → Int32 → Int32 → (Nat → Int32) → (Nat → Int32) → (Nat → Int32) → (Nat → Int32) → (Nat → Int32) → (Nat → Int32) → Option (Int32 × Int32 × Int32 × Int32 × Int32 × Int32 × Int32 × Int32 × (Nat → Int32) × (Nat → Int32) × (Nat → Int32) × (Nat → Int32) × (Nat → Int32) × (Nat → Int32) × (Nat → Int32) × (Nat → Int32) × (Nat → Int32) × (Nat → Int32))) (hkX86_105 : ∀ (v2_105 : Int32) (writers_105 : Int32) (year_105 : Int32) (kind_105 : (Nat → Int32)) (figure_105 : (Nat → Int32)) (style_105 : (Nat → Int32)) (fame_105 : (Nat → Int32)) (silent_105 : (Nat → Int32)) (ring_105 : (Nat → Int32)) (H : Heap) (locs : List Loc) (ls : Array Slot), kX86_105 v2_105 writers_105 year_105 kind_105 figure_105 style_105 fame_105 silent_105 ring_105 = some R → lv_has ls 3 [(0, .ref (ad 0)), (2, .int v2_105)] → va_P D vwCl (wd_X5_guild cI ad writers_105 year_105 taped_u86 at__u86 statements_u86 hasImage isKeeping_u86 cursor_u86 forgottenWhen rowMany kind_105 figure_105 style_105 fame_105 silent_105 ring_105 tape letter_u86 letterAt_u86 told_u86 kept_u86) H → va_D A (wd_X5_guild cI ad writers_105 year_105 taped_u86 at__u86 statements_u86 hasImage isKeeping_u86 cursor_u86 forgottenWhen rowMany kind_105 figure_105 style_105 fame_105 silent_105 ring_105 tape letter_u86 letterAt_u86 told_u86 kept_u86) → va_S A s.heap H locs → Wh p l e 8 s m args below meth c H locs Q (F0 m 105 ls [])) : ∀ (fuel : Nat) (v2_86 : Int32) (writers_86 : Int32) (year_86 : Int32) (kind_86 : (Nat → Int32)) (figure_86 : (Nat → Int32)) (style_86 : (Nat → Int32)) (fame_86 : (Nat → Int32)) (silent_86 : (Nat → Int32)) (ring_86 : (Nat → Int32)) (H : Heap) (locs : List Loc) (ls : Array Slot), f_X5_guild_86 statements_u86 letter_u86 told_u86 kX86_128 kX86_105 fuel v2_86 writers_86 year_86 kind_86 figure_86 style_86 fame_86 silent_86 ring_86 = some R → lv_has ls 3 [(0, .ref (ad 0)), (2, .int v2_86)] → va_P D vwCl (wd_X5_guild cI ad writers_86 year_86 taped_u86 at__u86 statements_u86 hasImage isKeeping_u86 cursor_u86 forgottenWhen rowMany kind_86 figure_86 style_86 fame_86 silent_86 ring_86 tape letter_u86 letterAt_u86 told_u86 kept_u86) H → va_D A (wd_X5_guild cI ad writers_86 year_86 taped_u86 at__u86 statements_u86 hasImage isKeeping_u86 cursor_u86 forgottenWhen rowMany kind_86 figure_86 style_86 fame_86 silent_86 ring_86 tape letter_u86 letterAt_u86 told_u86 kept_u86) → va_S A s.heap H locs → Wh p l e 8 s m args below meth c H locs Q (F0 m 86 ls []) := by
  have hx := X.1
  have hb := X.2.1
  intro fuel
  induction fuel with
  | zero =>
    intro v2_86 writers_86 year_86 kind_86 figure_86 style_86 fame_86 silent_86 ring_86 H locs ls hf hl hP hD hS
    cases hf
  | succ fuel ih =>
    intro v2_86 writers_86 year_86 kind_86 figure_86 style_86 fame_86 silent_86 ring_86 H locs ls hf hl hP hD hS
    replace hf : (if statements_u86 ≤ v2_86 then (kX86_128 writers_86 year_86 kind_86 figure_86 style_86 fame_86 silent_86 ring_86) else ((f_X5_comes writers_86 year_86 kind_86 figure_86 style_86 fame_86 silent_86 ring_86 letter_u86 told_u86 v2_86).bind fun (r96 : Int32 × Int32 × Int32 × (Nat → Int32) × (Nat → Int32) × (Nat → Int32) × (Nat → Int32) × (Nat → Int32) × (Nat → Int32)) => (if r96.1 = 0 then (kX86_105 v2_86 r96.2.1 r96.2.2.1 r96.2.2.2.1 r96.2.2.2.2.1 r96.2.2.2.2.2.1 r96.2.2.2.2.2.2.1 r96.2.2.2.2.2.2.2.1 r96.2.2.2.2.2.2.2.2) else (f_X5_guild_86 statements_u86 letter_u86 told_u86 kX86_128 kX86_105 fuel (v2_86 + (1 : Int32)) r96.2.1 r96.2.2.1 r96.2.2.2.1 r96.2.2.2.2.1 r96.2.2.2.2.2.1 r96.2.2.2.2.2.2.1 r96.2.2.2.2.2.2.2.1 r96.2.2.2.2.2.2.2.2)))) = some R := hf
    refine lv_iload_n hx hb dX5_guild_86 rfl (lv_at hl 1 rfl) ?_
    refine lv_aload_n hx hb dX5_guild_87 rfl (lv_at hl 0 rfl) ?_
    refine fgX5_95 X hP (q0 := 0) rfl rfl dX5_guild_88 ?_
    refine lv_icmp_ge (tgt := 128) hx hb dX5_guild_91 (by decide) (fun c91 => ?_) (fun c91 => ?_)
    · have hf := iT c91 hf
      exact hkX86_128 writers_86 year_86 kind_86 figure_86 style_86 fame_86 silent_86 ring_86 _ _ _ hf (lv_sub hl [0] rfl) hP hD hS
    · have hf := iF c91 hf
      refine lv_aload_n hx hb dX5_guild_94 rfl (lv_at hl 0 rfl) ?_
      refine lv_iload_n hx hb dX5_guild_95 rfl (lv_at hl 1 rfl) ?_
      obtain ⟨r96, hq96, hf⟩ := bS hf
      refine wr_i X hP hD hS [0, 1, 2, 3, 4, 5, 6, 8, 10] rfl (ws' := (wd_X5_guild cI ad r96.2.1 r96.2.2.1 taped_u86 at__u86 statements_u86 hasImage isKeeping_u86 cursor_u86 forgottenWhen rowMany r96.2.2.2.1 r96.2.2.2.2.1 r96.2.2.2.2.2.1 r96.2.2.2.2.2.2.1 r96.2.2.2.2.2.2.2.1 r96.2.2.2.2.2.2.2.2 tape letter_u86 letterAt_u86 told_u86 kept_u86)) (Nat.le_of_ble_eq_true rfl) rfl rfl (run_V X hP hD hS [0, 1, 2, 3, 4, 5, 6, 8, 10] rfl rfl (c_X5_comes l D cI aS ad writers_86 year_86 taped_u86 at__u86 statements_u86 hasImage isKeeping_u86 cursor_u86 forgottenWhen rowMany kind_86 figure_86 style_86 fame_86 silent_86 ring_86 letter_u86 told_u86 v2_86 _ hq96 _) lkX5_135 (by decide) (q0 := 0) rfl rfl rfl rfl (Nat.le_of_ble_eq_true rfl) hl.1 dX5_guild_96) (fun H locs hP hD hS => ?_)
      refine lv_if_eq (tgt := 105) hx hb dX5_guild_99 (by decide) (fun c99 => ?_) (fun c99 => ?_)
      · have hf := iT c99 hf
        exact hkX86_105 v2_86 r96.2.1 r96.2.2.1 r96.2.2.2.1 r96.2.2.2.2.1 r96.2.2.2.2.2.1 r96.2.2.2.2.2.2.1 r96.2.2.2.2.2.2.2.1 r96.2.2.2.2.2.2.2.2 _ _ _ hf (lv_sub hl [0, 1] rfl) hP hD hS
      · have hf := iF c99 hf
        refine lv_goto (tgt := 122) hx hb dX5_guild_102 (by decide) ?_
        refine lv_iinc (v := (v2_86 + (1 : Int32))) (lv' := [(2, .int (v2_86 + (1 : Int32))), (0, .ref (ad 0))]) hx hb dX5_guild_122 hl (k := 1) rfl rfl (by decide) rfl (fun ls hl => ?_)
        refine lv_goto (tgt := 86) hx hb dX5_guild_125 (by decide) ?_
        exact ih (v2_86 + (1 : Int32)) r96.2.1 r96.2.2.1 r96.2.2.2.1 r96.2.2.2.2.1 r96.2.2.2.2.2.1 r96.2.2.2.2.2.2.1 r96.2.2.2.2.2.2.2.1 r96.2.2.2.2.2.2.2.2 _ _ _ hf (lv_sub hl [1, 0] rfl) hP hD hS
set_option maxHeartbeats 4000000 in
set_option maxRecDepth 100000 in
theorem w_X5_guild_128 {p : Program} {l : Launch} {e : Env} {s : State} {m : MethodId} {args : Array Value} {below : List Frame} {meth : Method} {c : Code} {D : va_G} {cI : ClassId} {aS : aSt} {A : Nat → Prop} {Q : State → Prop}  (ad : Nat → Nat) (hasImage : Int32) (forgottenWhen : Int32) (rowMany : Int32) (tape : (Nat → Int32)) {R : Int32 × Int32 × Int32 × Int32 × Int32 × Int32 × Int32 × Int32 × (Nat → Int32) × (Nat → Int32) × (Nat → Int32) × (Nat → Int32) × (Nat → Int32) × (Nat → Int32) × (Nat → Int32) × (Nat → Int32) × (Nat → Int32) × (Nat → Int32)} (X : Bx p s m args meth c cX5_guild 3 (some .int) RX5 D cI aS A) (hret : RtI p l e 8 s m args below meth c cX5_guild (some .int) D A (wd_X5_guild cI ad R.2.1 R.2.2.1 R.2.2.2.1 R.2.2.2.2.1 R.2.2.2.2.2.1 hasImage R.2.2.2.2.2.2.1 R.2.2.2.2.2.2.2.1 forgottenWhen rowMany R.2.2.2.2.2.2.2.2.1 R.2.2.2.2.2.2.2.2.2.1 R.2.2.2.2.2.2.2.2.2.2.1 R.2.2.2.2.2.2.2.2.2.2.2.1 R.2.2.2.2.2.2.2.2.2.2.2.2.1 R.2.2.2.2.2.2.2.2.2.2.2.2.2.1 tape R.2.2.2.2.2.2.2.2.2.2.2.2.2.2.1 R.2.2.2.2.2.2.2.2.2.2.2.2.2.2.2.1 R.2.2.2.2.2.2.2.2.2.2.2.2.2.2.2.2.1 R.2.2.2.2.2.2.2.2.2.2.2.2.2.2.2.2.2) R.1 Q) : ∀ (writers_128 : Int32) (year_128 : Int32) (taped_128 : Int32) (at__128 : Int32) (statements_128 : Int32) (isKeeping_128 : Int32) (cursor_128 : Int32) (kind_128 : (Nat → Int32)) (figure_128 : (Nat → Int32)) (style_128 : (Nat → Int32)) (fame_128 : (Nat → Int32)) (silent_128 : (Nat → Int32)) (ring_128 : (Nat → Int32)) (letter_128 : (Nat → Int32)) (letterAt_128 : (Nat → Int32)) (told_128 : (Nat → Int32)) (kept_128 : (Nat → Int32)) (H : Heap) (locs : List Loc) (ls : Array Slot), f_X5_guild_128   writers_128 year_128 taped_128 at__128 statements_128 isKeeping_128 cursor_128 kind_128 figure_128 style_128 fame_128 silent_128 ring_128 letter_128 letterAt_128 told_128 kept_128 = some R → lv_has ls 3 [(0, .ref (ad 0))] → va_P D vwCl (wd_X5_guild cI ad writers_128 year_128 taped_128 at__128 statements_128 hasImage isKeeping_128 cursor_128 forgottenWhen rowMany kind_128 figure_128 style_128 fame_128 silent_128 ring_128 tape letter_128 letterAt_128 told_128 kept_128) H → va_D A (wd_X5_guild cI ad writers_128 year_128 taped_128 at__128 statements_128 hasImage isKeeping_128 cursor_128 forgottenWhen rowMany kind_128 figure_128 style_128 fame_128 silent_128 ring_128 tape letter_128 letterAt_128 told_128 kept_128) → va_S A s.heap H locs → Wh p l e 8 s m args below meth c H locs Q (F0 m 128 ls []) := by
  have hx := X.1
  have hb := X.2.1
  intro writers_128 year_128 taped_128 at__128 statements_128 isKeeping_128 cursor_128 kind_128 figure_128 style_128 fame_128 silent_128 ring_128 letter_128 letterAt_128 told_128 kept_128 H locs ls hf hl hP hD hS
  replace hf : (some (statements_128, writers_128, year_128, taped_128, at__128, statements_128, isKeeping_128, cursor_128, kind_128, figure_128, style_128, fame_128, silent_128, ring_128, letter_128, letterAt_128, told_128, kept_128)) = some R := hf
  refine lv_aload_n hx hb dX5_guild_128 rfl (lv_at hl 0 rfl) ?_
  refine fgX5_95 X hP (q0 := 0) rfl rfl dX5_guild_129 ?_
  have hR := Option.some.inj hf
  subst hR
  exact hret _ _ _ _ _ rfl (fun _ hn => by cases hn; rfl) hP hD hS dX5_guild_132
set_option maxHeartbeats 4000000 in
set_option maxRecDepth 100000 in
theorem w_X5_guild_105 {p : Program} {l : Launch} {e : Env} {s : State} {m : MethodId} {args : Array Value} {below : List Frame} {meth : Method} {c : Code} {D : va_G} {cI : ClassId} {aS : aSt} {A : Nat → Prop} {Q : State → Prop}  (ad : Nat → Nat) (hasImage : Int32) (forgottenWhen : Int32) (rowMany : Int32) (tape : (Nat → Int32)) {R : Int32 × Int32 × Int32 × Int32 × Int32 × Int32 × Int32 × Int32 × (Nat → Int32) × (Nat → Int32) × (Nat → Int32) × (Nat → Int32) × (Nat → Int32) × (Nat → Int32) × (Nat → Int32) × (Nat → Int32) × (Nat → Int32) × (Nat → Int32)} (X : Bx p s m args meth c cX5_guild 3 (some .int) RX5 D cI aS A) (hret : RtI p l e 8 s m args below meth c cX5_guild (some .int) D A (wd_X5_guild cI ad R.2.1 R.2.2.1 R.2.2.2.1 R.2.2.2.2.1 R.2.2.2.2.2.1 hasImage R.2.2.2.2.2.2.1 R.2.2.2.2.2.2.2.1 forgottenWhen rowMany R.2.2.2.2.2.2.2.2.1 R.2.2.2.2.2.2.2.2.2.1 R.2.2.2.2.2.2.2.2.2.2.1 R.2.2.2.2.2.2.2.2.2.2.2.1 R.2.2.2.2.2.2.2.2.2.2.2.2.1 R.2.2.2.2.2.2.2.2.2.2.2.2.2.1 tape R.2.2.2.2.2.2.2.2.2.2.2.2.2.2.1 R.2.2.2.2.2.2.2.2.2.2.2.2.2.2.2.1 R.2.2.2.2.2.2.2.2.2.2.2.2.2.2.2.2.1 R.2.2.2.2.2.2.2.2.2.2.2.2.2.2.2.2.2) R.1 Q) : ∀ (v2_105 : Int32) (writers_105 : Int32) (year_105 : Int32) (taped_105 : Int32) (at__105 : Int32) (statements_105 : Int32) (isKeeping_105 : Int32) (cursor_105 : Int32) (kind_105 : (Nat → Int32)) (figure_105 : (Nat → Int32)) (style_105 : (Nat → Int32)) (fame_105 : (Nat → Int32)) (silent_105 : (Nat → Int32)) (ring_105 : (Nat → Int32)) (letter_105 : (Nat → Int32)) (letterAt_105 : (Nat → Int32)) (told_105 : (Nat → Int32)) (kept_105 : (Nat → Int32)) (H : Heap) (locs : List Loc) (ls : Array Slot), f_X5_guild_105   v2_105 writers_105 year_105 taped_105 at__105 statements_105 isKeeping_105 cursor_105 kind_105 figure_105 style_105 fame_105 silent_105 ring_105 letter_105 letterAt_105 told_105 kept_105 = some R → lv_has ls 3 [(0, .ref (ad 0)), (2, .int v2_105)] → va_P D vwCl (wd_X5_guild cI ad writers_105 year_105 taped_105 at__105 statements_105 hasImage isKeeping_105 cursor_105 forgottenWhen rowMany kind_105 figure_105 style_105 fame_105 silent_105 ring_105 tape letter_105 letterAt_105 told_105 kept_105) H → va_D A (wd_X5_guild cI ad writers_105 year_105 taped_105 at__105 statements_105 hasImage isKeeping_105 cursor_105 forgottenWhen rowMany kind_105 figure_105 style_105 fame_105 silent_105 ring_105 tape letter_105 letterAt_105 told_105 kept_105) → va_S A s.heap H locs → Wh p l e 8 s m args below meth c H locs Q (F0 m 105 ls []) := by
  have hx := X.1
  have hb := X.2.1
  intro v2_105 writers_105 year_105 taped_105 at__105 statements_105 isKeeping_105 cursor_105 kind_105 figure_105 style_105 fame_105 silent_105 ring_105 letter_105 letterAt_105 told_105 kept_105 H locs ls hf hl hP hD hS
  replace hf : ((f_X5_passesAll writers_105 year_105 isKeeping_105 cursor_105 kind_105 figure_105 style_105 fame_105 silent_105 ring_105 kept_105 (1 : Int32) (0 : Int32)).bind fun (r108 : Int32 × Int32 × Int32 × Int32 × (Nat → Int32) × (Nat → Int32) × (Nat → Int32) × (Nat → Int32) × (Nat → Int32) × (Nat → Int32) × (Nat → Int32)) => (gd v2_105 48 (some (((-2000 : Int32) - (letterAt_105 (Int32.toNatClampNeg v2_105))), r108.1, r108.2.1, taped_105, at__105, statements_105, r108.2.2.1, r108.2.2.2.1, r108.2.2.2.2.1, r108.2.2.2.2.2.1, r108.2.2.2.2.2.2.1, r108.2.2.2.2.2.2.2.1, r108.2.2.2.2.2.2.2.2.1, r108.2.2.2.2.2.2.2.2.2.1, letter_105, letterAt_105, told_105, r108.2.2.2.2.2.2.2.2.2.2)))) = some R := hf
  refine lv_aload_n hx hb dX5_guild_105 rfl (lv_at hl 0 rfl) ?_
  refine lv_iconst (v := 1) hx hb dX5_guild_106 (by decide) ?_
  refine lv_iconst (v := 0) hx hb dX5_guild_107 (by decide) ?_
  obtain ⟨r108, hq108, hf⟩ := bS hf
  refine wr_v X hP hD hS [0, 1, 2, 3, 4, 5, 6, 11] rfl (ws' := (wd_X5_guild cI ad r108.1 r108.2.1 taped_105 at__105 statements_105 hasImage r108.2.2.1 r108.2.2.2.1 forgottenWhen rowMany r108.2.2.2.2.1 r108.2.2.2.2.2.1 r108.2.2.2.2.2.2.1 r108.2.2.2.2.2.2.2.1 r108.2.2.2.2.2.2.2.2.1 r108.2.2.2.2.2.2.2.2.2.1 tape letter_105 letterAt_105 told_105 r108.2.2.2.2.2.2.2.2.2.2)) (Nat.le_of_ble_eq_true rfl) rfl rfl (run_V X hP hD hS [0, 1, 2, 3, 4, 5, 6, 11] rfl rfl (c_X5_passesAll l D cI aS ad writers_105 year_105 taped_105 at__105 statements_105 hasImage isKeeping_105 cursor_105 forgottenWhen rowMany kind_105 figure_105 style_105 fame_105 silent_105 ring_105 kept_105 (1 : Int32) (0 : Int32) _ hq108 _) lkX5_131 (by decide) (q0 := 0) rfl rfl rfl rfl (Nat.le_of_ble_eq_true rfl) hl.1 dX5_guild_108) (fun H locs hP hD hS => ?_)
  refine lv_sipush (v := -2000) hx hb dX5_guild_111 (by decide) ?_
  refine lv_aload_n hx hb dX5_guild_114 rfl (lv_at hl 0 rfl) ?_
  refine fgX5_37 X hP (q0 := 0) rfl rfl dX5_guild_115 ?_
  refine lv_iload_n hx hb dX5_guild_118 rfl (lv_at hl 1 rfl) ?_
  refine aGet X hP (q0 := 9) rfl (gdS hf).1 dX5_guild_119 ?_
  have hf := (gdS hf).2
  refine lv_isub hx hb dX5_guild_120 ?_
  have hR := Option.some.inj hf
  subst hR
  exact hret _ _ _ _ _ rfl (fun _ hn => by cases hn; rfl) hP hD hS dX5_guild_121
set_option maxHeartbeats 4000000 in
set_option maxRecDepth 100000 in
theorem w_X5_guild_60 {p : Program} {l : Launch} {e : Env} {s : State} {m : MethodId} {args : Array Value} {below : List Frame} {meth : Method} {c : Code} {D : va_G} {cI : ClassId} {aS : aSt} {A : Nat → Prop} {Q : State → Prop}  (ad : Nat → Nat) (hasImage : Int32) (forgottenWhen : Int32) (rowMany : Int32) (tape : (Nat → Int32)) {R : Int32 × Int32 × Int32 × Int32 × Int32 × Int32 × Int32 × Int32 × (Nat → Int32) × (Nat → Int32) × (Nat → Int32) × (Nat → Int32) × (Nat → Int32) × (Nat → Int32) × (Nat → Int32) × (Nat → Int32) × (Nat → Int32) × (Nat → Int32)} (X : Bx p s m args meth c cX5_guild 3 (some .int) RX5 D cI aS A) (hret : RtI p l e 8 s m args below meth c cX5_guild (some .int) D A (wd_X5_guild cI ad R.2.1 R.2.2.1 R.2.2.2.1 R.2.2.2.2.1 R.2.2.2.2.2.1 hasImage R.2.2.2.2.2.2.1 R.2.2.2.2.2.2.2.1 forgottenWhen rowMany R.2.2.2.2.2.2.2.2.1 R.2.2.2.2.2.2.2.2.2.1 R.2.2.2.2.2.2.2.2.2.2.1 R.2.2.2.2.2.2.2.2.2.2.2.1 R.2.2.2.2.2.2.2.2.2.2.2.2.1 R.2.2.2.2.2.2.2.2.2.2.2.2.2.1 tape R.2.2.2.2.2.2.2.2.2.2.2.2.2.2.1 R.2.2.2.2.2.2.2.2.2.2.2.2.2.2.2.1 R.2.2.2.2.2.2.2.2.2.2.2.2.2.2.2.2.1 R.2.2.2.2.2.2.2.2.2.2.2.2.2.2.2.2.2) R.1 Q) : ∀ (v1_60 : Int32) (writers_60 : Int32) (year_60 : Int32) (taped_60 : Int32) (at__60 : Int32) (statements_60 : Int32) (isKeeping_60 : Int32) (cursor_60 : Int32) (kind_60 : (Nat → Int32)) (figure_60 : (Nat → Int32)) (style_60 : (Nat → Int32)) (fame_60 : (Nat → Int32)) (silent_60 : (Nat → Int32)) (ring_60 : (Nat → Int32)) (letter_60 : (Nat → Int32)) (letterAt_60 : (Nat → Int32)) (told_60 : (Nat → Int32)) (kept_60 : (Nat → Int32)) (H : Heap) (locs : List Loc) (ls : Array Slot), f_X5_guild_60   v1_60 writers_60 year_60 taped_60 at__60 statements_60 isKeeping_60 cursor_60 kind_60 figure_60 style_60 fame_60 silent_60 ring_60 letter_60 letterAt_60 told_60 kept_60 = some R → lv_has ls 3 [(0, .ref (ad 0)), (1, .int v1_60)] → va_P D vwCl (wd_X5_guild cI ad writers_60 year_60 taped_60 at__60 statements_60 hasImage isKeeping_60 cursor_60 forgottenWhen rowMany kind_60 figure_60 style_60 fame_60 silent_60 ring_60 tape letter_60 letterAt_60 told_60 kept_60) H → va_D A (wd_X5_guild cI ad writers_60 year_60 taped_60 at__60 statements_60 hasImage isKeeping_60 cursor_60 forgottenWhen rowMany kind_60 figure_60 style_60 fame_60 silent_60 ring_60 tape letter_60 letterAt_60 told_60 kept_60) → va_S A s.heap H locs → Wh p l e 8 s m args below meth c H locs Q (F0 m 60 ls []) := by
  have hx := X.1
  have hb := X.2.1
  intro v1_60 writers_60 year_60 taped_60 at__60 statements_60 isKeeping_60 cursor_60 kind_60 figure_60 style_60 fame_60 silent_60 ring_60 letter_60 letterAt_60 told_60 kept_60 H locs ls hf hl hP hD hS
  replace hf : (if v1_60 = 0 then (some (((-1000 : Int32) - at__60), writers_60, year_60, (0 : Int32), at__60, statements_60, isKeeping_60, cursor_60, kind_60, figure_60, style_60, fame_60, silent_60, ring_60, letter_60, letterAt_60, told_60, kept_60)) else ((f_X5_passesAll writers_60 year_60 isKeeping_60 cursor_60 kind_60 figure_60 style_60 fame_60 silent_60 ring_60 kept_60 (1 : Int32) (1 : Int32)).bind fun (r81 : Int32 × Int32 × Int32 × Int32 × (Nat → Int32) × (Nat → Int32) × (Nat → Int32) × (Nat → Int32) × (Nat → Int32) × (Nat → Int32) × (Nat → Int32)) => (f_X5_guild_86 statements_60 letter_60 told_60 (fun (writers_128 : Int32) (year_128 : Int32) (kind_128 : (Nat → Int32)) (figure_128 : (Nat → Int32)) (style_128 : (Nat → Int32)) (fame_128 : (Nat → Int32)) (silent_128 : (Nat → Int32)) (ring_128 : (Nat → Int32)) => (f_X5_guild_128   writers_128 year_128 (0 : Int32) at__60 statements_60 r81.2.2.1 r81.2.2.2.1 kind_128 figure_128 style_128 fame_128 silent_128 ring_128 letter_60 letterAt_60 told_60 r81.2.2.2.2.2.2.2.2.2.2)) (fun (v2_105 : Int32) (writers_105 : Int32) (year_105 : Int32) (kind_105 : (Nat → Int32)) (figure_105 : (Nat → Int32)) (style_105 : (Nat → Int32)) (fame_105 : (Nat → Int32)) (silent_105 : (Nat → Int32)) (ring_105 : (Nat → Int32)) => (f_X5_guild_105   v2_105 writers_105 year_105 (0 : Int32) at__60 statements_60 r81.2.2.1 r81.2.2.2.1 kind_105 figure_105 style_105 fame_105 silent_105 ring_105 letter_60 letterAt_60 told_60 r81.2.2.2.2.2.2.2.2.2.2)) FU (0 : Int32) r81.1 r81.2.1 r81.2.2.2.2.1 r81.2.2.2.2.2.1 r81.2.2.2.2.2.2.1 r81.2.2.2.2.2.2.2.1 r81.2.2.2.2.2.2.2.2.1 r81.2.2.2.2.2.2.2.2.2.1))) = some R := hf
  refine lv_aload_n hx hb dX5_guild_60 rfl (lv_at hl 0 rfl) ?_
  refine lv_iconst (v := 0) hx hb dX5_guild_61 (by decide) ?_
  refine fpX5_66 X hP hD hS (q0 := 0) (ws' := (wd_X5_guild cI ad writers_60 year_60 (0 : Int32) at__60 statements_60 hasImage isKeeping_60 cursor_60 forgottenWhen rowMany kind_60 figure_60 style_60 fame_60 silent_60 ring_60 tape letter_60 letterAt_60 told_60 kept_60)) rfl rfl rfl (Nat.le_of_ble_eq_true rfl) rfl dX5_guild_62 (fun H locs hP hD hS => ?_)
  refine lv_iload_n hx hb dX5_guild_65 rfl (lv_at hl 1 rfl) ?_
  refine lv_if_ne (tgt := 78) hx hb dX5_guild_66 (by decide) (fun c66 => ?_) (fun c66 => ?_)
  · have hf := iF c66 hf
    refine lv_aload_n hx hb dX5_guild_78 rfl (lv_at hl 0 rfl) ?_
    refine lv_iconst (v := 1) hx hb dX5_guild_79 (by decide) ?_
    refine lv_iconst (v := 1) hx hb dX5_guild_80 (by decide) ?_
    obtain ⟨r81, hq81, hf⟩ := bS hf
    refine wr_v X hP hD hS [0, 1, 2, 3, 4, 5, 6, 11] rfl (ws' := (wd_X5_guild cI ad r81.1 r81.2.1 (0 : Int32) at__60 statements_60 hasImage r81.2.2.1 r81.2.2.2.1 forgottenWhen rowMany r81.2.2.2.2.1 r81.2.2.2.2.2.1 r81.2.2.2.2.2.2.1 r81.2.2.2.2.2.2.2.1 r81.2.2.2.2.2.2.2.2.1 r81.2.2.2.2.2.2.2.2.2.1 tape letter_60 letterAt_60 told_60 r81.2.2.2.2.2.2.2.2.2.2)) (Nat.le_of_ble_eq_true rfl) rfl rfl (run_V X hP hD hS [0, 1, 2, 3, 4, 5, 6, 11] rfl rfl (c_X5_passesAll l D cI aS ad writers_60 year_60 (0 : Int32) at__60 statements_60 hasImage isKeeping_60 cursor_60 forgottenWhen rowMany kind_60 figure_60 style_60 fame_60 silent_60 ring_60 kept_60 (1 : Int32) (1 : Int32) _ hq81 _) lkX5_131 (by decide) (q0 := 0) rfl rfl rfl rfl (Nat.le_of_ble_eq_true rfl) hl.1 dX5_guild_81) (fun H locs hP hD hS => ?_)
    refine lv_iconst (v := 0) hx hb dX5_guild_84 (by decide) ?_
    refine lv_istore_n (lv' := [(2, .int (0 : Int32)), (0, .ref (ad 0)), (1, .int v1_60)]) hx hb dX5_guild_85 rfl hl (by decide) rfl (fun ls hl => ?_)
    exact w_X5_guild_86 ad hasImage forgottenWhen rowMany tape (0 : Int32) at__60 statements_60 r81.2.2.1 r81.2.2.2.1 letter_60 letterAt_60 told_60 r81.2.2.2.2.2.2.2.2.2.2 X hret _ (fun writers_128 year_128 kind_128 figure_128 style_128 fame_128 silent_128 ring_128 _ _ _ hf hl hP hD hS => w_X5_guild_128 ad hasImage forgottenWhen rowMany tape X hret  writers_128 year_128 (0 : Int32) at__60 statements_60 r81.2.2.1 r81.2.2.2.1 kind_128 figure_128 style_128 fame_128 silent_128 ring_128 letter_60 letterAt_60 told_60 r81.2.2.2.2.2.2.2.2.2.2 _ _ _ hf (lv_sub hl [0] rfl) hP hD hS) _ (fun v2_105 writers_105 year_105 kind_105 figure_105 style_105 fame_105 silent_105 ring_105 _ _ _ hf hl hP hD hS => w_X5_guild_105 ad hasImage forgottenWhen rowMany tape X hret  v2_105 writers_105 year_105 (0 : Int32) at__60 statements_60 r81.2.2.1 r81.2.2.2.1 kind_105 figure_105 style_105 fame_105 silent_105 ring_105 letter_60 letterAt_60 told_60 r81.2.2.2.2.2.2.2.2.2.2 _ _ _ hf (lv_sub hl [0, 1] rfl) hP hD hS) _ (0 : Int32) r81.1 r81.2.1 r81.2.2.2.2.1 r81.2.2.2.2.2.1 r81.2.2.2.2.2.2.1 r81.2.2.2.2.2.2.2.1 r81.2.2.2.2.2.2.2.2.1 r81.2.2.2.2.2.2.2.2.2.1 _ _ _ hf (lv_sub hl [1, 0] rfl) hP hD hS
  · have hf := iT c66 hf
    refine lv_sipush (v := -1000) hx hb dX5_guild_69 (by decide) ?_
    refine lv_aload_n hx hb dX5_guild_72 rfl (lv_at hl 0 rfl) ?_
    refine fgX5_73 X hP (q0 := 0) rfl rfl dX5_guild_73 ?_
    refine lv_isub hx hb dX5_guild_76 ?_
    have hR := Option.some.inj hf
    subst hR
    exact hret _ _ _ _ _ rfl (fun _ hn => by cases hn; rfl) hP hD hS dX5_guild_77
set_option maxHeartbeats 4000000 in
set_option maxRecDepth 100000 in
theorem c_X5_guild (l : Launch) (D : va_G) (cI : ClassId) (aS : aSt) (ad : Nat → Nat) (writers : Int32) (year : Int32) (taped : Int32) (at_ : Int32) (statements : Int32) (hasImage : Int32) (isKeeping : Int32) (cursor : Int32) (forgottenWhen : Int32) (rowMany : Int32) (kind : (Nat → Int32)) (figure : (Nat → Int32)) (style : (Nat → Int32)) (fame : (Nat → Int32)) (silent : (Nat → Int32)) (ring : (Nat → Int32)) (tape : (Nat → Int32)) (letter : (Nat → Int32)) (letterAt : (Nat → Int32)) (told : (Nat → Int32)) (kept : (Nat → Int32)) (R : Int32 × Int32 × Int32 × Int32 × Int32 × Int32 × Int32 × Int32 × (Nat → Int32) × (Nat → Int32) × (Nat → Int32) × (Nat → Int32) × (Nat → Int32) × (Nat → Int32) × (Nat → Int32) × (Nat → Int32) × (Nat → Int32) × (Nat → Int32)) (hf : f_X5_guild writers year taped at_ statements isKeeping cursor kind figure style fame silent ring tape letter letterAt told kept = some R) : CtI l yX5_guild cX5_guild 3 (some .int) 8 D cI aS [.ref (ad 0)] (wd_X5_guild cI ad writers year taped at_ statements hasImage isKeeping cursor forgottenWhen rowMany kind figure style fame silent ring tape letter letterAt told kept) (wd_X5_guild cI ad R.2.1 R.2.2.1 R.2.2.2.1 R.2.2.2.2.1 R.2.2.2.2.2.1 hasImage R.2.2.2.2.2.2.1 R.2.2.2.2.2.2.2.1 forgottenWhen rowMany R.2.2.2.2.2.2.2.2.1 R.2.2.2.2.2.2.2.2.2.1 R.2.2.2.2.2.2.2.2.2.2.1 R.2.2.2.2.2.2.2.2.2.2.2.1 R.2.2.2.2.2.2.2.2.2.2.2.2.1 R.2.2.2.2.2.2.2.2.2.2.2.2.2.1 tape R.2.2.2.2.2.2.2.2.2.2.2.2.2.2.1 R.2.2.2.2.2.2.2.2.2.2.2.2.2.2.2.1 R.2.2.2.2.2.2.2.2.2.2.2.2.2.2.2.2.1 R.2.2.2.2.2.2.2.2.2.2.2.2.2.2.2.2.2) R.1 := by
  refine ctI_of (by decide) ⟨_, rfl⟩ (Nat.le_of_ble_eq_true rfl) ?_
  intro p e s m below meth c A Q ls X hret hP hD hl
  have hS : va_S A s.heap s.heap [] := va_S.rf
  have hx := X.1
  have hb := X.2.1
  have hl : lv_has ls 3 [(0, .ref (ad 0))] := hl
  replace hf : (f_X5_guild_12 tape taped (fun (v1_60 : Int32) (at__60 : Int32) (statements_60 : Int32) (letter_60 : (Nat → Int32)) (letterAt_60 : (Nat → Int32)) (told_60 : (Nat → Int32)) => (f_X5_guild_60   v1_60 writers year taped at__60 statements_60 isKeeping cursor kind figure style fame silent ring letter_60 letterAt_60 told_60 kept)) FU (1 : Int32) (0 : Int32) (0 : Int32) letter letterAt told) = some R := hf
  refine lv_aload_n hx hb dX5_guild_0 rfl (lv_at hl 0 rfl) ?_
  refine lv_iconst (v := 0) hx hb dX5_guild_1 (by decide) ?_
  refine fpX5_73 X hP hD hS (q0 := 0) (ws' := (wd_X5_guild cI ad writers year taped (0 : Int32) statements hasImage isKeeping cursor forgottenWhen rowMany kind figure style fame silent ring tape letter letterAt told kept)) rfl rfl rfl (Nat.le_of_ble_eq_true rfl) rfl dX5_guild_2 (fun H locs hP hD hS => ?_)
  refine lv_aload_n hx hb dX5_guild_5 rfl (lv_at hl 0 rfl) ?_
  refine lv_iconst (v := 0) hx hb dX5_guild_6 (by decide) ?_
  refine fpX5_95 X hP hD hS (q0 := 0) (ws' := (wd_X5_guild cI ad writers year taped (0 : Int32) (0 : Int32) hasImage isKeeping cursor forgottenWhen rowMany kind figure style fame silent ring tape letter letterAt told kept)) rfl rfl rfl (Nat.le_of_ble_eq_true rfl) rfl dX5_guild_7 (fun H locs hP hD hS => ?_)
  refine lv_iconst (v := 1) hx hb dX5_guild_10 (by decide) ?_
  refine lv_istore_n (lv' := [(1, .int (1 : Int32)), (0, .ref (ad 0))]) hx hb dX5_guild_11 rfl hl (by decide) rfl (fun ls hl => ?_)
  exact w_X5_guild_12 ad hasImage forgottenWhen rowMany tape writers year taped isKeeping cursor kind figure style fame silent ring kept X hret _ (fun v1_60 at__60 statements_60 letter_60 letterAt_60 told_60 _ _ _ hf hl hP hD hS => w_X5_guild_60 ad hasImage forgottenWhen rowMany tape X hret  v1_60 writers year taped at__60 statements_60 isKeeping cursor kind figure style fame silent ring letter_60 letterAt_60 told_60 kept _ _ _ hf (lv_sub hl [0, 1] rfl) hP hD hS) _ (1 : Int32) (0 : Int32) (0 : Int32) letter letterAt told _ _ _ hf (lv_sub hl [1, 0] rfl) hP hD hS

abbrev wd_X5_letter (cI : ClassId) (ad : Nat → Nat) (writers : Int32) (year : Int32) (taped : Int32) (at_ : Int32) (statements : Int32) (hasImage : Int32) (isKeeping : Int32) (cursor : Int32) (forgottenWhen : Int32) (rowMany : Int32) (refused : (Nat → Int32)) (tape : (Nat → Int32)) : va_W := [((ad 0), .inr (5, [.ref (ad 1), .ref (ad 2), .ref (ad 3), .ref (ad 4), .ref (ad 5), .ref (ad 6), .ref (ad 7), .int writers, .int year, .ref (ad 8), .ref (ad 9), .ref (ad 10), .ref (ad 11), .int taped, .int at_, .int statements, .ref (ad 12), .int hasImage, .int isKeeping, .int cursor, .int forgottenWhen, .ref (ad 13), .ref (ad 14), .ref (ad 15), .int rowMany])), ((ad 1), .inl (cI, 7, .inl refused)), ((ad 8), .inl (cI, 96, .inl tape))]
def f_X5_letter_25 (x1 : Int32)  (v2_25 : Int32) (taped_25 : Int32) (refused_25 : (Nat → Int32)) (tape_25 : (Nat → Int32)) : Option (Int32 × Int32 × (Nat → Int32) × (Nat → Int32)) := (if v2_25 = 0 then (gd taped_25 96 (some ((taped_25 + (1 : Int32)), (taped_25 + (1 : Int32)), refused_25, (upd tape_25 (Int32.toNatClampNeg taped_25) x1)))) else ((f_X5_no refused_25 v2_25).bind fun (r31 : Int32 × (Nat → Int32)) => (some (r31.1, taped_25, r31.2, tape_25))))
def f_X5_letter (taped : Int32) (refused : (Nat → Int32)) (tape : (Nat → Int32)) (x1 : Int32) : Option (Int32 × Int32 × (Nat → Int32) × (Nat → Int32)) := ((f_X5_bound x1 (0 : Int32) (255 : Int32)).bind fun (r5 : Int32) => (if r5 = 0 then (if taped = (96 : Int32) then (f_X5_letter_25 x1  (-6 : Int32) taped refused tape) else (f_X5_letter_25 x1  r5 taped refused tape)) else (f_X5_letter_25 x1  r5 taped refused tape)))
set_option maxHeartbeats 4000000 in
set_option maxRecDepth 100000 in
theorem w_X5_letter_25 {p : Program} {l : Launch} {e : Env} {s : State} {m : MethodId} {args : Array Value} {below : List Frame} {meth : Method} {c : Code} {D : va_G} {cI : ClassId} {aS : aSt} {A : Nat → Prop} {Q : State → Prop}  (ad : Nat → Nat) (writers : Int32) (year : Int32) (at_ : Int32) (statements : Int32) (hasImage : Int32) (isKeeping : Int32) (cursor : Int32) (forgottenWhen : Int32) (rowMany : Int32) (x1 : Int32) {R : Int32 × Int32 × (Nat → Int32) × (Nat → Int32)} (X : Bx p s m args meth c cX5_letter 3 (some .int) RX5 D cI aS A) (hret : RtI p l e 1 s m args below meth c cX5_letter (some .int) D A (wd_X5_letter cI ad writers year R.2.1 at_ statements hasImage isKeeping cursor forgottenWhen rowMany R.2.2.1 R.2.2.2) R.1 Q) : ∀ (v2_25 : Int32) (taped_25 : Int32) (refused_25 : (Nat → Int32)) (tape_25 : (Nat → Int32)) (H : Heap) (locs : List Loc) (ls : Array Slot), f_X5_letter_25 x1  v2_25 taped_25 refused_25 tape_25 = some R → lv_has ls 3 [(0, .ref (ad 0)), (1, .int x1), (2, .int v2_25)] → va_P D vwCl (wd_X5_letter cI ad writers year taped_25 at_ statements hasImage isKeeping cursor forgottenWhen rowMany refused_25 tape_25) H → va_D A (wd_X5_letter cI ad writers year taped_25 at_ statements hasImage isKeeping cursor forgottenWhen rowMany refused_25 tape_25) → va_S A s.heap H locs → Wh p l e 1 s m args below meth c H locs Q (F0 m 25 ls []) := by
  have hx := X.1
  have hb := X.2.1
  intro v2_25 taped_25 refused_25 tape_25 H locs ls hf hl hP hD hS
  replace hf : (if v2_25 = 0 then (gd taped_25 96 (some ((taped_25 + (1 : Int32)), (taped_25 + (1 : Int32)), refused_25, (upd tape_25 (Int32.toNatClampNeg taped_25) x1)))) else ((f_X5_no refused_25 v2_25).bind fun (r31 : Int32 × (Nat → Int32)) => (some (r31.1, taped_25, r31.2, tape_25)))) = some R := hf
  refine lv_iload_n hx hb dX5_letter_25 rfl (lv_at hl 2 rfl) ?_
  refine lv_if_eq (tgt := 35) hx hb dX5_letter_26 (by decide) (fun c26 => ?_) (fun c26 => ?_)
  · have hf := iT c26 hf
    refine lv_aload_n hx hb dX5_letter_35 rfl (lv_at hl 0 rfl) ?_
    refine fgX5_31 X hP (q0 := 0) rfl rfl dX5_letter_36 ?_
    refine lv_aload_n hx hb dX5_letter_39 rfl (lv_at hl 0 rfl) ?_
    refine fgX5_66 X hP (q0 := 0) rfl rfl dX5_letter_40 ?_
    refine lv_iload_n hx hb dX5_letter_43 rfl (lv_at hl 1 rfl) ?_
    refine aPut X hP hD hS (q0 := 2) (ws' := (wd_X5_letter cI ad writers year taped_25 at_ statements hasImage isKeeping cursor forgottenWhen rowMany refused_25 (upd tape_25 (Int32.toNatClampNeg taped_25) x1))) rfl (gdS hf).1 rfl dX5_letter_44 (fun H locs hP hD hS => ?_)
    have hf := (gdS hf).2
    refine lv_aload_n hx hb dX5_letter_45 rfl (lv_at hl 0 rfl) ?_
    refine lv_dup hx hb dX5_letter_46 rfl ?_
    refine fgX5_66 X hP (q0 := 0) rfl rfl dX5_letter_47 ?_
    refine lv_iconst (v := 1) hx hb dX5_letter_50 (by decide) ?_
    refine lv_iadd hx hb dX5_letter_51 ?_
    refine fpX5_66 X hP hD hS (q0 := 0) (ws' := (wd_X5_letter cI ad writers year (taped_25 + (1 : Int32)) at_ statements hasImage isKeeping cursor forgottenWhen rowMany refused_25 (upd tape_25 (Int32.toNatClampNeg taped_25) x1))) rfl rfl rfl (Nat.le_of_ble_eq_true rfl) rfl dX5_letter_52 (fun H locs hP hD hS => ?_)
    refine lv_aload_n hx hb dX5_letter_55 rfl (lv_at hl 0 rfl) ?_
    refine fgX5_66 X hP (q0 := 0) rfl rfl dX5_letter_56 ?_
    have hR := Option.some.inj hf
    subst hR
    exact hret _ _ _ _ _ rfl (fun _ hn => by cases hn; rfl) hP hD hS dX5_letter_59
  · have hf := iF c26 hf
    refine lv_aload_n hx hb dX5_letter_29 rfl (lv_at hl 0 rfl) ?_
    refine lv_iload_n hx hb dX5_letter_30 rfl (lv_at hl 2 rfl) ?_
    obtain ⟨r31, hq31, hf⟩ := bS hf
    refine wr_i X hP hD hS [0, 1] rfl (ws' := (wd_X5_letter cI ad writers year taped_25 at_ statements hasImage isKeeping cursor forgottenWhen rowMany r31.2 tape_25)) (Nat.le_of_ble_eq_true rfl) rfl rfl (run_V X hP hD hS [0, 1] rfl rfl (c_X5_no l D cI aS ad writers year taped_25 at_ statements hasImage isKeeping cursor forgottenWhen rowMany refused_25 v2_25 _ hq31 _) lkX5_69 (by decide) (q0 := 0) rfl rfl rfl rfl (Nat.le_of_ble_eq_true rfl) hl.1 dX5_letter_31) (fun H locs hP hD hS => ?_)
    have hR := Option.some.inj hf
    subst hR
    exact hret _ _ _ _ _ rfl (fun _ hn => by cases hn; rfl) hP hD hS dX5_letter_34
set_option maxHeartbeats 4000000 in
set_option maxRecDepth 100000 in
theorem c_X5_letter (l : Launch) (D : va_G) (cI : ClassId) (aS : aSt) (ad : Nat → Nat) (writers : Int32) (year : Int32) (taped : Int32) (at_ : Int32) (statements : Int32) (hasImage : Int32) (isKeeping : Int32) (cursor : Int32) (forgottenWhen : Int32) (rowMany : Int32) (refused : (Nat → Int32)) (tape : (Nat → Int32)) (x1 : Int32) (R : Int32 × Int32 × (Nat → Int32) × (Nat → Int32)) (hf : f_X5_letter taped refused tape x1 = some R) : CtI l yX5_letter cX5_letter 3 (some .int) 1 D cI aS [.ref (ad 0), .int x1] (wd_X5_letter cI ad writers year taped at_ statements hasImage isKeeping cursor forgottenWhen rowMany refused tape) (wd_X5_letter cI ad writers year R.2.1 at_ statements hasImage isKeeping cursor forgottenWhen rowMany R.2.2.1 R.2.2.2) R.1 := by
  refine ctI_of (by decide) ⟨_, rfl⟩ (Nat.le_of_ble_eq_true rfl) ?_
  intro p e s m below meth c A Q ls X hret hP hD hl
  have hS : va_S A s.heap s.heap [] := va_S.rf
  have hx := X.1
  have hb := X.2.1
  have hl : lv_has ls 3 [(0, .ref (ad 0)), (1, .int x1)] := hl
  replace hf : ((f_X5_bound x1 (0 : Int32) (255 : Int32)).bind fun (r5 : Int32) => (if r5 = 0 then (if taped = (96 : Int32) then (f_X5_letter_25 x1  (-6 : Int32) taped refused tape) else (f_X5_letter_25 x1  r5 taped refused tape)) else (f_X5_letter_25 x1  r5 taped refused tape))) = some R := hf
  refine lv_iload_n hx hb dX5_letter_0 rfl (lv_at hl 1 rfl) ?_
  refine lv_iconst (v := 0) hx hb dX5_letter_1 (by decide) ?_
  refine lv_sipush (v := 255) hx hb dX5_letter_2 (by decide) ?_
  obtain ⟨r5, hq5, hf⟩ := bS hf
  refine ro_i X hP hD hS [] rfl (run_S X hP hD hS [] rfl rfl (c_X5_bound l D cI aS x1 (0 : Int32) (255 : Int32) _ hq5 _) lkX5_62 (by decide) rfl rfl (Nat.le_of_ble_eq_true rfl) hl.1 dX5_letter_5) (fun H locs hP hS => ?_)
  refine lv_istore_n (lv' := [(2, .int r5), (0, .ref (ad 0)), (1, .int x1)]) hx hb dX5_letter_8 rfl hl (by decide) rfl (fun ls hl => ?_)
  refine lv_iload_n hx hb dX5_letter_9 rfl (lv_at hl 0 rfl) ?_
  refine lv_if_ne (tgt := 25) hx hb dX5_letter_10 (by decide) (fun c10 => ?_) (fun c10 => ?_)
  · have hf := iF c10 hf
    exact w_X5_letter_25 ad writers year at_ statements hasImage isKeeping cursor forgottenWhen rowMany x1 X hret  r5 taped refused tape _ _ _ hf (lv_sub hl [1, 2, 0] rfl) hP hD hS
  · have hf := iT c10 hf
    refine lv_aload_n hx hb dX5_letter_13 rfl (lv_at hl 1 rfl) ?_
    refine fgX5_66 X hP (q0 := 0) rfl rfl dX5_letter_14 ?_
    refine lv_bipush (v := 96) hx hb dX5_letter_17 (by decide) ?_
    refine lv_icmp_ne (tgt := 25) hx hb dX5_letter_19 (by decide) (fun c19 => ?_) (fun c19 => ?_)
    · have hf := iF c19 hf
      exact w_X5_letter_25 ad writers year at_ statements hasImage isKeeping cursor forgottenWhen rowMany x1 X hret  r5 taped refused tape _ _ _ hf (lv_sub hl [1, 2, 0] rfl) hP hD hS
    · have hf := iT c19 hf
      refine lv_bipush (v := -6) hx hb dX5_letter_22 (by decide) ?_
      refine lv_istore_n (lv' := [(2, .int (-6 : Int32)), (0, .ref (ad 0)), (1, .int x1)]) hx hb dX5_letter_24 rfl hl (by decide) rfl (fun ls hl => ?_)
      exact w_X5_letter_25 ad writers year at_ statements hasImage isKeeping cursor forgottenWhen rowMany x1 X hret  (-6 : Int32) taped refused tape _ _ _ hf (lv_sub hl [1, 2, 0] rfl) hP hD hS
