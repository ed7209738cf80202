abbrev wd_X2_keepIfBetter (cI : ClassId) (ad : Nat → Nat) (size : Int32) (writingBits : Int32) (found : Int32) (mostWorth : Int32) (tried_size : Int32) (tried : (Nat → Int32)) (best_size : Int32) (best : (Nat → Int32)) : va_W := [((ad 0), .inr (2, [.ref (ad 1), .ref (ad 3), .ref (ad 5), .int size, .int writingBits, .int found, .int mostWorth])), ((ad 3), .inr (3, [.ref (ad 4), .int tried_size])), ((ad 4), .inl (cI, 7, .inl tried)), ((ad 5), .inr (3, [.ref (ad 6), .int best_size])), ((ad 6), .inl (cI, 7, .inl best))]
def f_X2_keepIfBetter_15 (tried_size : Int32) (tried : (Nat → Int32)) (x1 : Int32)  (found_15 : Int32) (mostWorth_15 : Int32) (best_size_15 : Int32) (best_15 : (Nat → Int32)) : Option (Int32 × Int32 × Int32 × (Nat → Int32)) := ((f_X3_take 7 7 best_size_15 best_15 tried_size tried).bind fun (r33 : Int32 × (Nat → Int32)) => (some ((1 : Int32), x1, r33.1, r33.2)))
def f_X2_keepIfBetter (found : Int32) (mostWorth : Int32) (tried_size : Int32) (tried : (Nat → Int32)) (best_size : Int32) (best : (Nat → Int32)) (x1 : Int32) : Option (Int32 × Int32 × Int32 × (Nat → Int32)) := (if found = 0 then (f_X2_keepIfBetter_15 tried_size tried x1  found mostWorth best_size best) else (if x1 ≤ mostWorth then (some (found, mostWorth, best_size, best)) else (f_X2_keepIfBetter_15 tried_size tried x1  found mostWorth best_size best)))
set_option maxHeartbeats 4000000 in
set_option maxRecDepth 100000 in
theorem w_X2_keepIfBetter_15 {p : Program} {l : Launch} {e : Env} {s : State} {m : MethodId} {args : Array Value} {below : List Frame} {meth : Method} {c : Code} {D : va_G} {cI : ClassId} {aS : aSt} {A : Nat → Prop} {Q : State → Prop}  (ad : Nat → Nat) (size : Int32) (writingBits : Int32) (tried_size : Int32) (tried : (Nat → Int32)) (x1 : Int32) {R : Int32 × Int32 × Int32 × (Nat → Int32)} (X : Bx p s m args meth c cX2_keepIfBetter 2 none RX2 D cI aS A) (hret : RtV p l e 1 s m args below meth c cX2_keepIfBetter D A (wd_X2_keepIfBetter cI ad size writingBits R.1 R.2.1 tried_size tried R.2.2.1 R.2.2.2) Q) : ∀ (found_15 : Int32) (mostWorth_15 : Int32) (best_size_15 : Int32) (best_15 : (Nat → Int32)) (H : Heap) (locs : List Loc) (ls : Array Slot), f_X2_keepIfBetter_15 tried_size tried x1  found_15 mostWorth_15 best_size_15 best_15 = some R → lv_has ls 2 [(0, .ref (ad 0)), (1, .int x1)] → va_P D vwCl (wd_X2_keepIfBetter cI ad size writingBits found_15 mostWorth_15 tried_size tried best_size_15 best_15) H → va_D A (wd_X2_keepIfBetter cI ad size writingBits found_15 mostWorth_15 tried_size tried best_size_15 best_15) → va_S A s.heap H locs → Wh p l e 1 s m args below meth c H locs Q (F0 m 15 ls []) := by
  have hx := X.1
  have hb := X.2.1
  intro found_15 mostWorth_15 best_size_15 best_15 H locs ls hf hl hP hD hS
  replace hf : ((f_X3_take 7 7 best_size_15 best_15 tried_size tried).bind fun (r33 : Int32 × (Nat → Int32)) => (some ((1 : Int32), x1, r33.1, r33.2))) = some R := hf
  refine lv_aload_n hx hb dX2_keepIfBetter_15 rfl (lv_at hl 0 rfl) ?_
  refine lv_iconst (v := 1) hx hb dX2_keepIfBetter_16 (by decide) ?_
  refine fpX2_33 X hP hD hS (q0 := 0) (ws' := (wd_X2_keepIfBetter cI ad size writingBits (1 : Int32) mostWorth_15 tried_size tried best_size_15 best_15)) rfl rfl rfl (Nat.le_of_ble_eq_true rfl) rfl dX2_keepIfBetter_17 (fun H locs hP hD hS => ?_)
  refine lv_aload_n hx hb dX2_keepIfBetter_20 rfl (lv_at hl 0 rfl) ?_
  refine lv_iload_n hx hb dX2_keepIfBetter_21 rfl (lv_at hl 1 rfl) ?_
  refine fpX2_37 X hP hD hS (q0 := 0) (ws' := (wd_X2_keepIfBetter cI ad size writingBits (1 : Int32) x1 tried_size tried best_size_15 best_15)) rfl rfl rfl (Nat.le_of_ble_eq_true rfl) rfl dX2_keepIfBetter_22 (fun H locs hP hD hS => ?_)
  refine lv_aload_n hx hb dX2_keepIfBetter_25 rfl (lv_at hl 0 rfl) ?_
  refine fgX2_23 X hP (q0 := 0) rfl rfl dX2_keepIfBetter_26 ?_
  refine lv_aload_n hx hb dX2_keepIfBetter_29 rfl (lv_at hl 0 rfl) ?_
  refine fgX2_20 X hP (q0 := 0) rfl rfl dX2_keepIfBetter_30 ?_
  obtain ⟨r33, hq33, hf⟩ := bS hf
  refine wr_v X hP hD hS [3, 4, 1, 2] rfl (ws' := (wd_X2_keepIfBetter cI ad size writingBits (1 : Int32) x1 tried_size tried r33.1 r33.2)) (Nat.le_of_ble_eq_true rfl) rfl rfl (run_N X hP hD hS [3, 4, 1, 2] rfl rfl (c_X3_take l D cI aS (fun k => ad (5 + k)) (fun k => ad (3 + k)) 7 7 best_size_15 best_15 tried_size tried _ hq33 _) lkX2_75 (by decide) (q0 := 3) rfl rfl rfl rfl (Nat.le_of_ble_eq_true rfl) hl.1 dX2_keepIfBetter_33) (fun H locs hP hD hS => ?_)
  have hR := Option.some.inj hf
  subst hR
  exact hret _ _ _ _ hP hD hS dX2_keepIfBetter_36
set_option maxHeartbeats 4000000 in
set_option maxRecDepth 100000 in
theorem c_X2_keepIfBetter (l : Launch) (D : va_G) (cI : ClassId) (aS : aSt) (ad : Nat → Nat) (size : Int32) (writingBits : Int32) (found : Int32) (mostWorth : Int32) (tried_size : Int32) (tried : (Nat → Int32)) (best_size : Int32) (best : (Nat → Int32)) (x1 : Int32) (R : Int32 × Int32 × Int32 × (Nat → Int32)) (hf : f_X2_keepIfBetter found mostWorth tried_size tried best_size best x1 = some R) : CtV l yX2_keepIfBetter cX2_keepIfBetter 2 none 1 D cI aS [.ref (ad 0), .int x1] (wd_X2_keepIfBetter cI ad size writingBits found mostWorth tried_size tried best_size best) (wd_X2_keepIfBetter cI ad size writingBits R.1 R.2.1 tried_size tried R.2.2.1 R.2.2.2) := by
  refine ctV_of (by decide) rfl (Nat.le_of_ble_eq_true rfl) ?_
  intro p e s m below meth c A Q ls X hret hP hD hl
  have hS : va_S A s.heap s.heap [] := va_S.rf
  have hx := X.1
  have hb := X.2.1
  have hl : lv_has ls 2 [(0, .ref (ad 0)), (1, .int x1)] := hl
  replace hf : (if found = 0 then (f_X2_keepIfBetter_15 tried_size tried x1  found mostWorth best_size best) else (if x1 ≤ mostWorth then (some (found, mostWorth, best_size, best)) else (f_X2_keepIfBetter_15 tried_size tried x1  found mostWorth best_size best))) = some R := hf
  refine lv_aload_n hx hb dX2_keepIfBetter_0 rfl (lv_at hl 0 rfl) ?_
  refine fgX2_33 X hP (q0 := 0) rfl rfl dX2_keepIfBetter_1 ?_
  refine lv_if_eq (tgt := 15) hx hb dX2_keepIfBetter_4 (by decide) (fun c4 => ?_) (fun c4 => ?_)
  · have hf := iT c4 hf
    exact w_X2_keepIfBetter_15 ad size writingBits tried_size tried x1 X hret  found mostWorth best_size best _ _ _ hf (lv_sub hl [0, 1] rfl) hP hD hS
  · have hf := iF c4 hf
    refine lv_iload_n hx hb dX2_keepIfBetter_7 rfl (lv_at hl 1 rfl) ?_
    refine lv_aload_n hx hb dX2_keepIfBetter_8 rfl (lv_at hl 0 rfl) ?_
    refine fgX2_37 X hP (q0 := 0) rfl rfl dX2_keepIfBetter_9 ?_
    refine lv_icmp_le (tgt := 36) hx hb dX2_keepIfBetter_12 (by decide) (fun c12 => ?_) (fun c12 => ?_)
    · have hf := iT c12 hf
      have hR := Option.some.inj hf
      subst hR
      exact hret _ _ _ _ hP hD hS dX2_keepIfBetter_36
    · have hf := iF c12 hf
      exact w_X2_keepIfBetter_15 ad size writingBits tried_size tried x1 X hret  found mostWorth best_size best _ _ _ hf (lv_sub hl [0, 1] rfl) hP hD hS

abbrev wd_X2_worthEnded (cI : ClassId) (ad : Nat → Nat) (size : Int32) (writingBits : Int32) (found : Int32) (mostWorth : Int32) (worths_size : Int32) (worths : (Nat → Int32)) : va_W := [((ad 0), .inr (2, [.ref (ad 1), .ref (ad 3), .ref (ad 5), .int size, .int writingBits, .int found, .int mostWorth])), ((ad 1), .inr (3, [.ref (ad 2), .int worths_size])), ((ad 2), .inl (cI, 49, .inl worths))]
def f_X2_worthEnded (worths : (Nat → Int32)) (x1 : Int32) (x2 : Int32) : Option (Int32) := (if x1 = x2 then (some (0 : Int32)) else ((f_X3_get 49 worths (((7 : Int32) * x1) + x2)).bind fun (r19 : Int32) => (some r19)))
set_option maxHeartbeats 4000000 in
set_option maxRecDepth 100000 in
theorem c_X2_worthEnded (l : Launch) (D : va_G) (cI : ClassId) (aS : aSt) (ad : Nat → Nat) (size : Int32) (writingBits : Int32) (found : Int32) (mostWorth : Int32) (worths_size : Int32) (worths : (Nat → Int32)) (x1 : Int32) (x2 : Int32) (R : Int32) (hf : f_X2_worthEnded worths x1 x2 = some R) : CtI l yX2_worthEnded cX2_worthEnded 3 (some .int) 1 D cI aS [.ref (ad 0), .int x1, .int x2] (wd_X2_worthEnded cI ad size writingBits found mostWorth worths_size worths) (wd_X2_worthEnded cI ad size writingBits found mostWorth worths_size worths) R := by
  refine ctI_of (by decide) ⟨_, rfl⟩ (Nat.le_of_ble_eq_true rfl) ?_
  intro p e s m below meth c A Q ls X hret hP hD hl
  have hS : va_S A s.heap s.heap [] := va_S.rf
  have hx := X.1
  have hb := X.2.1
  have hl : lv_has ls 3 [(0, .ref (ad 0)), (1, .int x1), (2, .int x2)] := hl
  replace hf : (if x1 = x2 then (some (0 : Int32)) else ((f_X3_get 49 worths (((7 : Int32) * x1) + x2)).bind fun (r19 : Int32) => (some r19))) = some R := hf
  refine lv_iload_n hx hb dX2_worthEnded_0 rfl (lv_at hl 1 rfl) ?_
  refine lv_iload_n hx hb dX2_worthEnded_1 rfl (lv_at hl 2 rfl) ?_
  refine lv_icmp_ne (tgt := 9) hx hb dX2_worthEnded_2 (by decide) (fun c2 => ?_) (fun c2 => ?_)
  · have hf := iF c2 hf
    refine lv_aload_n hx hb dX2_worthEnded_9 rfl (lv_at hl 0 rfl) ?_
    refine fgX2_14 X hP (q0 := 0) rfl rfl dX2_worthEnded_10 ?_
    refine lv_bipush (v := 7) hx hb dX2_worthEnded_13 (by decide) ?_
    refine lv_iload_n hx hb dX2_worthEnded_15 rfl (lv_at hl 1 rfl) ?_
    refine lv_imul hx hb dX2_worthEnded_16 ?_
    refine lv_iload_n hx hb dX2_worthEnded_17 rfl (lv_at hl 2 rfl) ?_
    refine lv_iadd hx hb dX2_worthEnded_18 ?_
    obtain ⟨r19, hq19, hf⟩ := bS hf
    refine ro_i X hP hD hS [1, 2] rfl (run_N X hP hD hS [1, 2] rfl rfl (c_X3_get l D cI aS (fun k => ad (1 + k)) 49 worths_size worths (((7 : Int32) * x1) + x2) _ hq19 _) lkX2_57 (by decide) (q0 := 1) rfl rfl rfl rfl (Nat.le_of_ble_eq_true rfl) hl.1 dX2_worthEnded_19) (fun H locs hP hS => ?_)
    have hR := Option.some.inj hf
    subst hR
    exact hret _ _ _ _ _ rfl (fun _ hn => by cases hn; rfl) hP hD hS dX2_worthEnded_22
  · have hf := iT c2 hf
    refine lv_iconst (v := 0) hx hb dX2_worthEnded_5 (by decide) ?_
    refine lv_goto (tgt := 22) hx hb dX2_worthEnded_6 (by decide) ?_
    have hR := Option.some.inj hf
    subst hR
    exact hret _ _ _ _ _ rfl (fun _ hn => by cases hn; rfl) hP hD hS dX2_worthEnded_22

abbrev wd_X2_placeNext (cI : ClassId) (ad : Nat → Nat) (size : Int32) (writingBits : Int32) (found : Int32) (mostWorth : Int32) (worths_size : Int32) (worths : (Nat → Int32)) (tried_size : Int32) (tried : (Nat → Int32)) (best_size : Int32) (best : (Nat → Int32)) : va_W := [((ad 0), .inr (2, [.ref (ad 1), .ref (ad 3), .ref (ad 5), .int size, .int writingBits, .int found, .int mostWorth])), ((ad 1), .inr (3, [.ref (ad 2), .int worths_size])), ((ad 2), .inl (cI, 49, .inl worths)), ((ad 3), .inr (3, [.ref (ad 4), .int tried_size])), ((ad 4), .inl (cI, 7, .inl tried)), ((ad 5), .inr (3, [.ref (ad 6), .int best_size])), ((ad 6), .inl (cI, 7, .inl best))]
def f_X2_placeNextG_143  (kL26 : Int32 → Int32 → Int32 → (Nat → Int32) → Int32 → (Nat → Int32) → Option (Int32 × Int32 × (Nat → Int32) × Int32 × (Nat → Int32))) (v6_143 : Int32) (found_143 : Int32) (mostWorth_143 : Int32) (tried_143 : (Nat → Int32)) (best_size_143 : Int32) (best_143 : (Nat → Int32)) : Option (Int32 × Int32 × (Nat → Int32) × Int32 × (Nat → Int32)) := (kL26 (v6_143 + (1 : Int32)) found_143 mostWorth_143 tried_143 best_size_143 best_143)
def f_X2_placeNextG_26 (size : Int32) (writingBits : Int32) (worths : (Nat → Int32)) (x1 : Int32) (x2 : Int32) (x3 : Int32) (x4 : Int32) (x5 : Int32) (rc : (Int32 → Int32 → (Nat → Int32) → Int32 → (Nat → Int32) → Int32 → Int32 → Int32 → Int32 → Int32 → Option (Int32 × Int32 × (Nat → Int32) × Int32 × (Nat → Int32))))  : Nat → Int32 → Int32 → Int32 → (Nat → Int32) → Int32 → (Nat → Int32) → Option (Int32 × Int32 × (Nat → Int32) × Int32 × (Nat → Int32))
  | 0 => fun _ _ _ _ _ _ => none
  | fuel + 1 => fun v6_26 found_26 mostWorth_26 tried_26 best_size_26 best_26 => (if size ≤ v6_26 then (some (found_26, mostWorth_26, tried_26, best_size_26, best_26)) else (if ((shrI x2 v6_26) &&& (1 : Int32)) = (1 : Int32) then (f_X2_placeNextG_143  (f_X2_placeNextG_26 size writingBits worths x1 x2 x3 x4 x5 rc  fuel) v6_26 found_26 mostWorth_26 tried_26 best_size_26 best_26) else ((f_X3_set 7 tried_26 x1 v6_26).bind fun (r55 : (Nat → Int32)) => (if ((shrI writingBits v6_26) &&& (1 : Int32)) = 0 then ((rc found_26 mostWorth_26 r55 best_size_26 best_26 (x1 + (1 : Int32)) (x2 ||| (shlI (1 : Int32) v6_26)) x3 x4 x5).bind fun (r89 : Int32 × Int32 × (Nat → Int32) × Int32 × (Nat → Int32)) => (f_X2_placeNextG_143  (f_X2_placeNextG_26 size writingBits worths x1 x2 x3 x4 x5 rc  fuel) v6_26 r89.1 r89.2.1 r89.2.2.1 r89.2.2.2.1 r89.2.2.2.2)) else (if x4 = (-9 : Int32) then ((rc found_26 mostWorth_26 r55 best_size_26 best_26 (x1 + (1 : Int32)) (x2 ||| (shlI (1 : Int32) v6_26)) v6_26 v6_26 x5).bind fun (r114 : Int32 × Int32 × (Nat → Int32) × Int32 × (Nat → Int32)) => (f_X2_placeNextG_143  (f_X2_placeNextG_26 size writingBits worths x1 x2 x3 x4 x5 rc  fuel) v6_26 r114.1 r114.2.1 r114.2.2.1 r114.2.2.2.1 r114.2.2.2.2)) else ((f_X2_worthEnded worths x4 v6_26).bind fun (r136 : Int32) => ((rc found_26 mostWorth_26 r55 best_size_26 best_26 (x1 + (1 : Int32)) (x2 ||| (shlI (1 : Int32) v6_26)) x3 v6_26 (x5 + r136)).bind fun (r140 : Int32 × Int32 × (Nat → Int32) × Int32 × (Nat → Int32)) => (f_X2_placeNextG_143  (f_X2_placeNextG_26 size writingBits worths x1 x2 x3 x4 x5 rc  fuel) v6_26 r140.1 r140.2.1 r140.2.2.1 r140.2.2.2.1 r140.2.2.2.2))))))))
theorem e_X2_placeNextG_26 (size : Int32) (writingBits : Int32) (worths : (Nat → Int32)) (x1 : Int32) (x2 : Int32) (x3 : Int32) (x4 : Int32) (x5 : Int32) (rc : (Int32 → Int32 → (Nat → Int32) → Int32 → (Nat → Int32) → Int32 → Int32 → Int32 → Int32 → Int32 → Option (Int32 × Int32 × (Nat → Int32) × Int32 × (Nat → Int32))))  (fuel : Nat) (v6_26 : Int32) (found_26 : Int32) (mostWorth_26 : Int32) (tried_26 : (Nat → Int32)) (best_size_26 : Int32) (best_26 : (Nat → Int32)) : f_X2_placeNextG_26 size writingBits worths x1 x2 x3 x4 x5 rc  (fuel + 1) v6_26 found_26 mostWorth_26 tried_26 best_size_26 best_26 = (if size ≤ v6_26 then (some (found_26, mostWorth_26, tried_26, best_size_26, best_26)) else (if ((shrI x2 v6_26) &&& (1 : Int32)) = (1 : Int32) then (f_X2_placeNextG_143  (f_X2_placeNextG_26 size writingBits worths x1 x2 x3 x4 x5 rc  fuel) v6_26 found_26 mostWorth_26 tried_26 best_size_26 best_26) else ((f_X3_set 7 tried_26 x1 v6_26).bind fun (r55 : (Nat → Int32)) => (if ((shrI writingBits v6_26) &&& (1 : Int32)) = 0 then ((rc found_26 mostWorth_26 r55 best_size_26 best_26 (x1 + (1 : Int32)) (x2 ||| (shlI (1 : Int32) v6_26)) x3 x4 x5).bind fun (r89 : Int32 × Int32 × (Nat → Int32) × Int32 × (Nat → Int32)) => (f_X2_placeNextG_143  (f_X2_placeNextG_26 size writingBits worths x1 x2 x3 x4 x5 rc  fuel) v6_26 r89.1 r89.2.1 r89.2.2.1 r89.2.2.2.1 r89.2.2.2.2)) else (if x4 = (-9 : Int32) then ((rc found_26 mostWorth_26 r55 best_size_26 best_26 (x1 + (1 : Int32)) (x2 ||| (shlI (1 : Int32) v6_26)) v6_26 v6_26 x5).bind fun (r114 : Int32 × Int32 × (Nat → Int32) × Int32 × (Nat → Int32)) => (f_X2_placeNextG_143  (f_X2_placeNextG_26 size writingBits worths x1 x2 x3 x4 x5 rc  fuel) v6_26 r114.1 r114.2.1 r114.2.2.1 r114.2.2.2.1 r114.2.2.2.2)) else ((f_X2_worthEnded worths x4 v6_26).bind fun (r136 : Int32) => ((rc found_26 mostWorth_26 r55 best_size_26 best_26 (x1 + (1 : Int32)) (x2 ||| (shlI (1 : Int32) v6_26)) x3 v6_26 (x5 + r136)).bind fun (r140 : Int32 × Int32 × (Nat → Int32) × Int32 × (Nat → Int32)) => (f_X2_placeNextG_143  (f_X2_placeNextG_26 size writingBits worths x1 x2 x3 x4 x5 rc  fuel) v6_26 r140.1 r140.2.1 r140.2.2.1 r140.2.2.2.1 r140.2.2.2.2)))))))) := rfl
def f_X2_placeNextG (size : Int32) (writingBits : Int32) (found : Int32) (mostWorth : Int32) (worths : (Nat → Int32)) (tried_size : Int32) (tried : (Nat → Int32)) (best_size : Int32) (best : (Nat → Int32)) (x1 : Int32) (x2 : Int32) (x3 : Int32) (x4 : Int32) (x5 : Int32) (rc : (Int32 → Int32 → (Nat → Int32) → Int32 → (Nat → Int32) → Int32 → Int32 → Int32 → Int32 → Int32 → Option (Int32 × Int32 × (Nat → Int32) × Int32 × (Nat → Int32)))) : Option (Int32 × Int32 × (Nat → Int32) × Int32 × (Nat → Int32)) := (if x1 < size then (f_X2_placeNextG_26 size writingBits worths x1 x2 x3 x4 x5 rc  FU (0 : Int32) found mostWorth tried best_size best) else ((f_X2_worthEnded worths x4 x3).bind fun (r15 : Int32) => ((f_X2_keepIfBetter found mostWorth tried_size tried best_size best (x5 + r15)).bind fun (r19 : Int32 × Int32 × Int32 × (Nat → Int32)) => (some (r19.1, r19.2.1, tried, r19.2.2.1, r19.2.2.2)))))
set_option maxHeartbeats 4000000 in
set_option maxRecDepth 100000 in
theorem w_X2_placeNextG_143 {p : Program} {l : Launch} {e : Env} {s : State} {m : MethodId} {args : Array Value} {below : List Frame} {meth : Method} {c : Code} {D : va_G} {cI : ClassId} {aS : aSt} {A : Nat → Prop} {Q : State → Prop} {h hh : Nat}  (ad : Nat → Nat) (size : Int32) (writingBits : Int32) (worths_size : Int32) (worths : (Nat → Int32)) (tried_size : Int32) (x1 : Int32) (x2 : Int32) (x3 : Int32) (x4 : Int32) (x5 : Int32) (rc : (Int32 → Int32 → (Nat → Int32) → Int32 → (Nat → Int32) → Int32 → Int32 → Int32 → Int32 → Int32 → Option (Int32 × Int32 × (Nat → Int32) × Int32 × (Nat → Int32)))) {R : Int32 × Int32 × (Nat → Int32) × Int32 × (Nat → Int32)} (X : Bx p s m args meth c cX2_placeNext 8 none RX2 D cI aS A) (hret : RtV p l e h s m args below meth c cX2_placeNext D A (wd_X2_placeNext cI ad size writingBits R.1 R.2.1 worths_size worths tried_size R.2.2.1 R.2.2.2.1 R.2.2.2.2) Q) (hrb : 2 ≤ h) (hrh : hh + 1 ≤ h) (hrc : ∀ (found : Int32) (mostWorth : Int32) (tried : (Nat → Int32)) (best_size : Int32) (best : (Nat → Int32)) (x1 : Int32) (x2 : Int32) (x3 : Int32) (x4 : Int32) (x5 : Int32) (R1 : Int32 × Int32 × (Nat → Int32) × Int32 × (Nat → Int32)), rc found mostWorth tried best_size best x1 x2 x3 x4 x5 = some R1 → CtV l yX2_placeNext cX2_placeNext 8 none hh D cI aS [.ref (ad 0), .int x1, .int x2, .int x3, .int x4, .int x5] (wd_X2_placeNext cI ad size writingBits found mostWorth worths_size worths tried_size tried best_size best) (wd_X2_placeNext cI ad size writingBits R1.1 R1.2.1 worths_size worths tried_size R1.2.2.1 R1.2.2.2.1 R1.2.2.2.2)) (kL26 : Int32 → Int32 → Int32 → (Nat → Int32) → Int32 → (Nat → Int32) → Option (Int32 × Int32 × (Nat → Int32) × Int32 × (Nat → Int32))) (hkL26 : ∀ (v6_26 : Int32) (found_26 : Int32) (mostWorth_26 : Int32) (tried_26 : (Nat → Int32)) (best_size_26 : Int32) (best_26 : (Nat → Int32)) (H : Heap) (locs : List Loc) (ls : Array Slot), kL26 v6_26 found_26 mostWorth_26 tried_26 best_size_26 best_26 = some R → lv_has ls 8 [(0, .ref (ad 0)), (1, .int x1), (2, .int x2), (3, .int x3), (4, .int x4), (5, .int x5), (6, .int v6_26)] → va_P D vwCl (wd_X2_placeNext cI ad size writingBits found_26 mostWorth_26 worths_size worths tried_size tried_26 best_size_26 best_26) H → va_D A (wd_X2_placeNext cI ad size writingBits found_26 mostWorth_26 worths_size worths tried_size tried_26 best_size_26 best_26) → va_S A s.heap H locs → Wh p l e h s m args below meth c H locs Q (F0 m 26 ls [])) : ∀ (v6_143 : Int32) (found_143 : Int32) (mostWorth_143 : Int32) (tried_143 : (Nat → Int32)) (best_size_143 : Int32) (best_143 : (Nat → Int32)) (H : Heap) (locs : List Loc) (ls : Array Slot), f_X2_placeNextG_143  kL26 v6_143 found_143 mostWorth_143 tried_143 best_size_143 best_143 = some R → lv_has ls 8 [(0, .ref (ad 0)), (1, .int x1), (2, .int x2), (3, .int x3), (4, .int x4), (5, .int x5), (6, .int v6_143)] → va_P D vwCl (wd_X2_placeNext cI ad size writingBits found_143 mostWorth_143 worths_size worths tried_size tried_143 best_size_143 best_143) H → va_D A (wd_X2_placeNext cI ad size writingBits found_143 mostWorth_143 worths_size worths tried_size tried_143 best_size_143 best_143) → va_S A s.heap H locs → Wh p l e h s m args below meth c H locs Q (F0 m 143 ls []) := by
  have hx := X.1
  have hb := X.2.1
  intro v6_143 found_143 mostWorth_143 tried_143 best_size_143 best_143 H locs ls hf hl hP hD hS
  replace hf : (kL26 (v6_143 + (1 : Int32)) found_143 mostWorth_143 tried_143 best_size_143 best_143) = some R := hf
  refine lv_iinc (v := (v6_143 + (1 : Int32))) (lv' := [(6, .int (v6_143 + (1 : Int32))), (0, .ref (ad 0)), (1, .int x1), (2, .int x2), (3, .int x3), (4, .int x4), (5, .int x5)]) hx hb dX2_placeNext_143 hl (k := 6) rfl rfl (by decide) rfl (fun ls hl => ?_)
  refine lv_goto (tgt := 26) hx hb dX2_placeNext_146 (by decide) ?_
  exact hkL26 (v6_143 + (1 : Int32)) found_143 mostWorth_143 tried_143 best_size_143 best_143 _ _ _ hf (lv_sub hl [1, 2, 3, 4, 5, 6, 0] rfl) hP hD hS
set_option maxHeartbeats 4000000 in
set_option maxRecDepth 100000 in
theorem w_X2_placeNextG_26 {p : Program} {l : Launch} {e : Env} {s : State} {m : MethodId} {args : Array Value} {below : List Frame} {meth : Method} {c : Code} {D : va_G} {cI : ClassId} {aS : aSt} {A : Nat → Prop} {Q : State → Prop} {h hh : Nat}  (ad : Nat → Nat) (size : Int32) (writingBits : Int32) (worths_size : Int32) (worths : (Nat → Int32)) (tried_size : Int32) (x1 : Int32) (x2 : Int32) (x3 : Int32) (x4 : Int32) (x5 : Int32) (rc : (Int32 → Int32 → (Nat → Int32) → Int32 → (Nat → Int32) → Int32 → Int32 → Int32 → Int32 → Int32 → Option (Int32 × Int32 × (Nat → Int32) × Int32 × (Nat → Int32)))) {R : Int32 × Int32 × (Nat → Int32) × Int32 × (Nat → Int32)} (X : Bx p s m args meth c cX2_placeNext 8 none RX2 D cI aS A) (hret : RtV p l e h s m args below meth c cX2_placeNext D A (wd_X2_placeNext cI ad size writingBits R.1 R.2.1 worths_size worths tried_size R.2.2.1 R.2.2.2.1 R.2.2.2.2) Q) (hrb : 2 ≤ h) (hrh : hh + 1 ≤ h) (hrc : ∀ (found : Int32) (mostWorth : Int32) (tried : (Nat → Int32)) (best_size : Int32) (best : (Nat → Int32)) (x1 : Int32) (x2 : Int32) (x3 : Int32) (x4 : Int32) (x5 : Int32) (R1 : Int32 × Int32 × (Nat → Int32) × Int32 × (Nat → Int32)), rc found mostWorth tried best_size best x1 x2 x3 x4 x5 = some R1 → CtV l yX2_placeNext cX2_placeNext 8 none hh D cI aS [.ref (ad 0), .int x1, .int x2, .int x3, .int x4, .int x5] (wd_X2_placeNext cI ad size writingBits found mostWorth worths_size worths tried_size tried best_size best) (wd_X2_placeNext cI ad size writingBits R1.1 R1.2.1 worths_size worths tried_size R1.2.2.1 R1.2.2.2.1 R1.2.2.2.2)) : ∀ (fuel : Nat) (v6_26 : Int32) (found_26 : Int32) (mostWorth_26 : Int32) (tried_26 : (Nat → Int32)) (best_size_26 : Int32) (best_26 : (Nat → Int32)) (H : Heap) (locs : List Loc) (ls : Array Slot), f_X2_placeNextG_26 size writingBits worths x1 x2 x3 x4 x5 rc  fuel v6_26 found_26 mostWorth_26 tried_26 best_size_26 best_26 = some R → lv_has ls 8 [(0, .ref (ad 0)), (1, .int x1), (2, .int x2), (3, .int x3), (4, .int x4), (5, .int x5), (6, .int v6_26)] → va_P D vwCl (wd_X2_placeNext cI ad size writingBits found_26 mostWorth_26 worths_size worths tried_size tried_26 best_size_26 best_26) H → va_D A (wd_X2_placeNext cI ad size writingBits found_26 mostWorth_26 worths_size worths tried_size tried_26 best_size_26 best_26) → va_S A s.heap H locs → Wh p l e h s m args below meth c H locs Q (F0 m 26 ls []) := by
  have hx := X.1
  have hb := X.2.1
  intro fuel
  induction fuel with
  | zero =>
    intro v6_26 found_26 mostWorth_26 tried_26 best_size_26 best_26 H locs ls hf hl hP hD hS
    cases hf
  | succ fuel ih =>
    intro v6_26 found_26 mostWorth_26 tried_26 best_size_26 best_26 H locs ls hf hl hP hD hS
    replace hf : (if size ≤ v6_26 then (some (found_26, mostWorth_26, tried_26, best_size_26, best_26)) else (if ((shrI x2 v6_26) &&& (1 : Int32)) = (1 : Int32) then (f_X2_placeNextG_143  (f_X2_placeNextG_26 size writingBits worths x1 x2 x3 x4 x5 rc  fuel) v6_26 found_26 mostWorth_26 tried_26 best_size_26 best_26) else ((f_X3_set 7 tried_26 x1 v6_26).bind fun (r55 : (Nat → Int32)) => (if ((shrI writingBits v6_26) &&& (1 : Int32)) = 0 then ((rc found_26 mostWorth_26 r55 best_size_26 best_26 (x1 + (1 : Int32)) (x2 ||| (shlI (1 : Int32) v6_26)) x3 x4 x5).bind fun (r89 : Int32 × Int32 × (Nat → Int32) × Int32 × (Nat → Int32)) => (f_X2_placeNextG_143  (f_X2_placeNextG_26 size writingBits worths x1 x2 x3 x4 x5 rc  fuel) v6_26 r89.1 r89.2.1 r89.2.2.1 r89.2.2.2.1 r89.2.2.2.2)) else (if x4 = (-9 : Int32) then ((rc found_26 mostWorth_26 r55 best_size_26 best_26 (x1 + (1 : Int32)) (x2 ||| (shlI (1 : Int32) v6_26)) v6_26 v6_26 x5).bind fun (r114 : Int32 × Int32 × (Nat → Int32) × Int32 × (Nat → Int32)) => (f_X2_placeNextG_143  (f_X2_placeNextG_26 size writingBits worths x1 x2 x3 x4 x5 rc  fuel) v6_26 r114.1 r114.2.1 r114.2.2.1 r114.2.2.2.1 r114.2.2.2.2)) else ((f_X2_worthEnded worths x4 v6_26).bind fun (r136 : Int32) => ((rc found_26 mostWorth_26 r55 best_size_26 best_26 (x1 + (1 : Int32)) (x2 ||| (shlI (1 : Int32) v6_26)) x3 v6_26 (x5 + r136)).bind fun (r140 : Int32 × Int32 × (Nat → Int32) × Int32 × (Nat → Int32)) => (f_X2_placeNextG_143  (f_X2_placeNextG_26 size writingBits worths x1 x2 x3 x4 x5 rc  fuel) v6_26 r140.1 r140.2.1 r140.2.2.1 r140.2.2.2.1 r140.2.2.2.2)))))))) = some R := hf
    refine lv_iload hx hb dX2_placeNext_26 (lv_at hl 6 rfl) ?_
    refine lv_aload_n hx hb dX2_placeNext_28 rfl (lv_at hl 0 rfl) ?_
    refine fgX2_26 X hP (q0 := 0) rfl rfl dX2_placeNext_29 ?_
    refine lv_icmp_ge (tgt := 149) hx hb dX2_placeNext_32 (by decide) (fun c32 => ?_) (fun c32 => ?_)
    · have hf := iT c32 hf
      have hR := Option.some.inj hf
      subst hR
      exact hret _ _ _ _ hP hD hS dX2_placeNext_149
    · have hf := iF c32 hf
      refine lv_iload_n hx hb dX2_placeNext_35 rfl (lv_at hl 2 rfl) ?_
      refine lv_iload hx hb dX2_placeNext_36 (lv_at hl 6 rfl) ?_
      refine x_ishr hx hb dX2_placeNext_38 ?_
      refine lv_iconst (v := 1) hx hb dX2_placeNext_39 (by decide) ?_
      refine lv_iand hx hb dX2_placeNext_40 ?_
      refine lv_iconst (v := 1) hx hb dX2_placeNext_41 (by decide) ?_
      refine lv_icmp_ne (tgt := 48) hx hb dX2_placeNext_42 (by decide) (fun c42 => ?_) (fun c42 => ?_)
      · have hf := iF c42 hf
        refine lv_aload_n hx hb dX2_placeNext_48 rfl (lv_at hl 0 rfl) ?_
        refine fgX2_20 X hP (q0 := 0) rfl rfl dX2_placeNext_49 ?_
        refine lv_iload_n hx hb dX2_placeNext_52 rfl (lv_at hl 1 rfl) ?_
        refine lv_iload hx hb dX2_placeNext_53 (lv_at hl 6 rfl) ?_
        obtain ⟨r55, hq55, hf⟩ := bS hf
        refine wr_v X hP hD hS [3, 4] rfl (ws' := (wd_X2_placeNext cI ad size writingBits found_26 mostWorth_26 worths_size worths tried_size r55 best_size_26 best_26)) (Nat.le_of_ble_eq_true rfl) rfl rfl (run_N X hP hD hS [3, 4] rfl rfl (c_X3_set l D cI aS (fun k => ad (3 + k)) 7 tried_size tried_26 x1 v6_26 _ hq55 _) lkX2_50 (Nat.le_trans (by decide) hrb) (q0 := 3) rfl rfl rfl rfl (Nat.le_of_ble_eq_true rfl) hl.1 dX2_placeNext_55) (fun H locs hP hD hS => ?_)
        refine lv_iload_n hx hb dX2_placeNext_58 rfl (lv_at hl 2 rfl) ?_
        refine lv_iconst (v := 1) hx hb dX2_placeNext_59 (by decide) ?_
        refine lv_iload hx hb dX2_placeNext_60 (lv_at hl 6 rfl) ?_
        refine x_ishl hx hb dX2_placeNext_62 ?_
        refine lv_ior hx hb dX2_placeNext_63 ?_
        refine lv_istore (lv' := [(7, .int (x2 ||| (shlI (1 : Int32) v6_26))), (0, .ref (ad 0)), (1, .int x1), (2, .int x2), (3, .int x3), (4, .int x4), (5, .int x5), (6, .int v6_26)]) hx hb dX2_placeNext_64 hl (by decide) rfl (fun ls hl => ?_)
        refine lv_aload_n hx hb dX2_placeNext_66 rfl (lv_at hl 1 rfl) ?_
        refine fgX2_30 X hP (q0 := 0) rfl rfl dX2_placeNext_67 ?_
        refine lv_iload hx hb dX2_placeNext_70 (lv_at hl 7 rfl) ?_
        refine x_ishr hx hb dX2_placeNext_72 ?_
        refine lv_iconst (v := 1) hx hb dX2_placeNext_73 (by decide) ?_
        refine lv_iand hx hb dX2_placeNext_74 ?_
        refine lv_if_ne (tgt := 95) hx hb dX2_placeNext_75 (by decide) (fun c75 => ?_) (fun c75 => ?_)
        · have hf := iF c75 hf
          refine lv_iload hx hb dX2_placeNext_95 (lv_at hl 5 rfl) ?_
          refine lv_bipush (v := -9) hx hb dX2_placeNext_97 (by decide) ?_
          refine lv_icmp_ne (tgt := 120) hx hb dX2_placeNext_99 (by decide) (fun c99 => ?_) (fun c99 => ?_)
          · have hf := iF c99 hf
            refine lv_aload_n hx hb dX2_placeNext_120 rfl (lv_at hl 1 rfl) ?_
            refine lv_iload_n hx hb dX2_placeNext_121 rfl (lv_at hl 2 rfl) ?_
            refine lv_iconst (v := 1) hx hb dX2_placeNext_122 (by decide) ?_
            refine lv_iadd hx hb dX2_placeNext_123 ?_
            refine lv_iload hx hb dX2_placeNext_124 (lv_at hl 0 rfl) ?_
            refine lv_iload_n hx hb dX2_placeNext_126 rfl (lv_at hl 4 rfl) ?_
            refine lv_iload hx hb dX2_placeNext_127 (lv_at hl 7 rfl) ?_
            refine lv_iload hx hb dX2_placeNext_129 (lv_at hl 6 rfl) ?_
            refine lv_aload_n hx hb dX2_placeNext_131 rfl (lv_at hl 1 rfl) ?_
            refine lv_iload hx hb dX2_placeNext_132 (lv_at hl 5 rfl) ?_
            refine lv_iload hx hb dX2_placeNext_134 (lv_at hl 7 rfl) ?_
            obtain ⟨r136, hq136, hf⟩ := bS hf
            refine ro_i X hP hD hS [0, 1, 2] rfl (run_V X hP hD hS [0, 1, 2] rfl rfl (c_X2_worthEnded l D cI aS ad size writingBits found_26 mostWorth_26 worths_size worths x4 v6_26 _ hq136 _) lkX2_69 (Nat.le_trans (by decide) hrb) (q0 := 0) rfl rfl rfl rfl (Nat.le_of_ble_eq_true rfl) hl.1 dX2_placeNext_136) (fun H locs hP hS => ?_)
            refine lv_iadd hx hb dX2_placeNext_139 ?_
            obtain ⟨r140, hq140, hf⟩ := bS hf
            refine wr_v X hP hD hS [0, 1, 2, 3, 4, 5, 6] rfl (ws' := (wd_X2_placeNext cI ad size writingBits r140.1 r140.2.1 worths_size worths tried_size r140.2.2.1 r140.2.2.2.1 r140.2.2.2.2)) (Nat.le_of_ble_eq_true rfl) rfl rfl (run_V X hP hD hS [0, 1, 2, 3, 4, 5, 6] rfl rfl (hrc found_26 mostWorth_26 r55 best_size_26 best_26 (x1 + (1 : Int32)) (x2 ||| (shlI (1 : Int32) v6_26)) x3 v6_26 (x5 + r136) _ hq140 _) lkX2_65 hrh (q0 := 0) rfl rfl rfl rfl (Nat.le_of_ble_eq_true rfl) hl.1 dX2_placeNext_140) (fun H locs hP hD hS => ?_)
            exact w_X2_placeNextG_143 ad size writingBits worths_size worths tried_size x1 x2 x3 x4 x5 rc X hret hrb hrh hrc _ ih v6_26 r140.1 r140.2.1 r140.2.2.1 r140.2.2.2.1 r140.2.2.2.2 _ _ _ hf (lv_sub hl [1, 2, 3, 4, 5, 6, 7] rfl) hP hD hS
          · have hf := iT c99 hf
            refine lv_aload_n hx hb dX2_placeNext_102 rfl (lv_at hl 1 rfl) ?_
            refine lv_iload_n hx hb dX2_placeNext_103 rfl (lv_at hl 2 rfl) ?_
            refine lv_iconst (v := 1) hx hb dX2_placeNext_104 (by decide) ?_
            refine lv_iadd hx hb dX2_placeNext_105 ?_
            refine lv_iload hx hb dX2_placeNext_106 (lv_at hl 0 rfl) ?_
            refine lv_iload hx hb dX2_placeNext_108 (lv_at hl 7 rfl) ?_
            refine lv_iload hx hb dX2_placeNext_110 (lv_at hl 7 rfl) ?_
            refine lv_iload hx hb dX2_placeNext_112 (lv_at hl 6 rfl) ?_
            obtain ⟨r114, hq114, hf⟩ := bS hf
            refine wr_v X hP hD hS [0, 1, 2, 3, 4, 5, 6] rfl (ws' := (wd_X2_placeNext cI ad size writingBits r114.1 r114.2.1 worths_size worths tried_size r114.2.2.1 r114.2.2.2.1 r114.2.2.2.2)) (Nat.le_of_ble_eq_true rfl) rfl rfl (run_V X hP hD hS [0, 1, 2, 3, 4, 5, 6] rfl rfl (hrc found_26 mostWorth_26 r55 best_size_26 best_26 (x1 + (1 : Int32)) (x2 ||| (shlI (1 : Int32) v6_26)) v6_26 v6_26 x5 _ hq114 _) lkX2_65 hrh (q0 := 0) rfl rfl rfl rfl (Nat.le_of_ble_eq_true rfl) hl.1 dX2_placeNext_114) (fun H locs hP hD hS => ?_)
            refine lv_goto (tgt := 143) hx hb dX2_placeNext_117 (by decide) ?_
            exact w_X2_placeNextG_143 ad size writingBits worths_size worths tried_size x1 x2 x3 x4 x5 rc X hret hrb hrh hrc _ ih v6_26 r114.1 r114.2.1 r114.2.2.1 r114.2.2.2.1 r114.2.2.2.2 _ _ _ hf (lv_sub hl [1, 2, 3, 4, 5, 6, 7] rfl) hP hD hS
        · have hf := iT c75 hf
          refine lv_aload_n hx hb dX2_placeNext_78 rfl (lv_at hl 1 rfl) ?_
          refine lv_iload_n hx hb dX2_placeNext_79 rfl (lv_at hl 2 rfl) ?_
          refine lv_iconst (v := 1) hx hb dX2_placeNext_80 (by decide) ?_
          refine lv_iadd hx hb dX2_placeNext_81 ?_
          refine lv_iload hx hb dX2_placeNext_82 (lv_at hl 0 rfl) ?_
          refine lv_iload_n hx hb dX2_placeNext_84 rfl (lv_at hl 4 rfl) ?_
          refine lv_iload hx hb dX2_placeNext_85 (lv_at hl 5 rfl) ?_
          refine lv_iload hx hb dX2_placeNext_87 (lv_at hl 6 rfl) ?_
          obtain ⟨r89, hq89, hf⟩ := bS hf
          refine wr_v X hP hD hS [0, 1, 2, 3, 4, 5, 6] rfl (ws' := (wd_X2_placeNext cI ad size writingBits r89.1 r89.2.1 worths_size worths tried_size r89.2.2.1 r89.2.2.2.1 r89.2.2.2.2)) (Nat.le_of_ble_eq_true rfl) rfl rfl (run_V X hP hD hS [0, 1, 2, 3, 4, 5, 6] rfl rfl (hrc found_26 mostWorth_26 r55 best_size_26 best_26 (x1 + (1 : Int32)) (x2 ||| (shlI (1 : Int32) v6_26)) x3 x4 x5 _ hq89 _) lkX2_65 hrh (q0 := 0) rfl rfl rfl rfl (Nat.le_of_ble_eq_true rfl) hl.1 dX2_placeNext_89) (fun H locs hP hD hS => ?_)
          refine lv_goto (tgt := 143) hx hb dX2_placeNext_92 (by decide) ?_
          exact w_X2_placeNextG_143 ad size writingBits worths_size worths tried_size x1 x2 x3 x4 x5 rc X hret hrb hrh hrc _ ih v6_26 r89.1 r89.2.1 r89.2.2.1 r89.2.2.2.1 r89.2.2.2.2 _ _ _ hf (lv_sub hl [1, 2, 3, 4, 5, 6, 7] rfl) hP hD hS
      · have hf := iT c42 hf
        refine lv_goto (tgt := 143) hx hb dX2_placeNext_45 (by decide) ?_
        exact w_X2_placeNextG_143 ad size writingBits worths_size worths tried_size x1 x2 x3 x4 x5 rc X hret hrb hrh hrc _ ih v6_26 found_26 mostWorth_26 tried_26 best_size_26 best_26 _ _ _ hf (lv_sub hl [0, 1, 2, 3, 4, 5, 6] rfl) hP hD hS
set_option maxHeartbeats 4000000 in
set_option maxRecDepth 100000 in
theorem c_X2_placeNextG (l : Launch) (D : va_G) (cI : ClassId) (aS : aSt) (ad : Nat → Nat) (size : Int32) (writingBits : Int32) (found : Int32) (mostWorth : Int32) (worths_size : Int32) (worths : (Nat → Int32)) (tried_size : Int32) (tried : (Nat → Int32)) (best_size : Int32) (best : (Nat → Int32)) (x1 : Int32) (x2 : Int32) (x3 : Int32) (x4 : Int32) (x5 : Int32) (rc : (Int32 → Int32 → (Nat → Int32) → Int32 → (Nat → Int32) → Int32 → Int32 → Int32 → Int32 → Int32 → Option (Int32 × Int32 × (Nat → Int32) × Int32 × (Nat → Int32)))) {h hh : Nat} (hrb : 2 ≤ h) (hrh : hh + 1 ≤ h) (hrc : ∀ (found : Int32) (mostWorth : Int32) (tried : (Nat → Int32)) (best_size : Int32) (best : (Nat → Int32)) (x1 : Int32) (x2 : Int32) (x3 : Int32) (x4 : Int32) (x5 : Int32) (R1 : Int32 × Int32 × (Nat → Int32) × Int32 × (Nat → Int32)), rc found mostWorth tried best_size best x1 x2 x3 x4 x5 = some R1 → CtV l yX2_placeNext cX2_placeNext 8 none hh D cI aS [.ref (ad 0), .int x1, .int x2, .int x3, .int x4, .int x5] (wd_X2_placeNext cI ad size writingBits found mostWorth worths_size worths tried_size tried best_size best) (wd_X2_placeNext cI ad size writingBits R1.1 R1.2.1 worths_size worths tried_size R1.2.2.1 R1.2.2.2.1 R1.2.2.2.2)) (R : Int32 × Int32 × (Nat → Int32) × Int32 × (Nat → Int32)) (hf : f_X2_placeNextG size writingBits found mostWorth worths tried_size tried best_size best x1 x2 x3 x4 x5 rc = some R) : CtV l yX2_placeNext cX2_placeNext 8 none h D cI aS [.ref (ad 0), .int x1, .int x2, .int x3, .int x4, .int x5] (wd_X2_placeNext cI ad size writingBits found mostWorth worths_size worths tried_size tried best_size best) (wd_X2_placeNext cI ad size writingBits R.1 R.2.1 worths_size worths tried_size R.2.2.1 R.2.2.2.1 R.2.2.2.2) := by
  refine ctV_of (by decide) rfl (Nat.le_of_ble_eq_true rfl) ?_
  intro p e s m below meth c A Q ls X hret hP hD hl
  have hS : va_S A s.heap s.heap [] := va_S.rf
  have hx := X.1
  have hb := X.2.1
  have hl : lv_has ls 8 [(0, .ref (ad 0)), (1, .int x1), (2, .int x2), (3, .int x3), (4, .int x4), (5, .int x5)] := hl
  replace hf : (if x1 < size then (f_X2_placeNextG_26 size writingBits worths x1 x2 x3 x4 x5 rc  FU (0 : Int32) found mostWorth tried best_size best) else ((f_X2_worthEnded worths x4 x3).bind fun (r15 : Int32) => ((f_X2_keepIfBetter found mostWorth tried_size tried best_size best (x5 + r15)).bind fun (r19 : Int32 × Int32 × Int32 × (Nat → Int32)) => (some (r19.1, r19.2.1, tried, r19.2.2.1, r19.2.2.2))))) = some R := hf
  refine lv_iload_n hx hb dX2_placeNext_0 rfl (lv_at hl 1 rfl) ?_
  refine lv_aload_n hx hb dX2_placeNext_1 rfl (lv_at hl 0 rfl) ?_
  refine fgX2_26 X hP (q0 := 0) rfl rfl dX2_placeNext_2 ?_
  refine lv_icmp_lt (tgt := 23) hx hb dX2_placeNext_5 (by decide) (fun c5 => ?_) (fun c5 => ?_)
  · have hf := iT c5 hf
    refine lv_iconst (v := 0) hx hb dX2_placeNext_23 (by decide) ?_
    refine lv_istore (lv' := [(6, .int (0 : Int32)), (0, .ref (ad 0)), (1, .int x1), (2, .int x2), (3, .int x3), (4, .int x4), (5, .int x5)]) hx hb dX2_placeNext_24 hl (by decide) rfl (fun ls hl => ?_)
    exact w_X2_placeNextG_26 ad size writingBits worths_size worths tried_size x1 x2 x3 x4 x5 rc X hret hrb hrh hrc  _ (0 : Int32) found mostWorth tried best_size best _ _ _ hf (lv_sub hl [1, 2, 3, 4, 5, 6, 0] rfl) hP hD hS
  · have hf := iF c5 hf
    refine lv_aload_n hx hb dX2_placeNext_8 rfl (lv_at hl 0 rfl) ?_
    refine lv_iload hx hb dX2_placeNext_9 (lv_at hl 5 rfl) ?_
    refine lv_aload_n hx hb dX2_placeNext_11 rfl (lv_at hl 0 rfl) ?_
    refine lv_iload hx hb dX2_placeNext_12 (lv_at hl 4 rfl) ?_
    refine lv_iload_n hx hb dX2_placeNext_14 rfl (lv_at hl 3 rfl) ?_
    obtain ⟨r15, hq15, hf⟩ := bS hf
    refine ro_i X hP hD hS [0, 1, 2] rfl (run_V X hP hD hS [0, 1, 2] rfl rfl (c_X2_worthEnded l D cI aS ad size writingBits found mostWorth worths_size worths x4 x3 _ hq15 _) lkX2_69 (Nat.le_trans (by decide) hrb) (q0 := 0) rfl rfl rfl rfl (Nat.le_of_ble_eq_true rfl) hl.1 dX2_placeNext_15) (fun H locs hP hS => ?_)
    refine lv_iadd hx hb dX2_placeNext_18 ?_
    obtain ⟨r19, hq19, hf⟩ := bS hf
    refine wr_v X hP hD hS [0, 3, 4, 5, 6] rfl (ws' := (wd_X2_placeNext cI ad size writingBits r19.1 r19.2.1 worths_size worths tried_size tried r19.2.2.1 r19.2.2.2)) (Nat.le_of_ble_eq_true rfl) rfl rfl (run_V X hP hD hS [0, 3, 4, 5, 6] rfl rfl (c_X2_keepIfBetter l D cI aS ad size writingBits found mostWorth tried_size tried best_size best (x5 + r15) _ hq19 _) lkX2_72 (Nat.le_trans (by decide) hrb) (q0 := 0) rfl rfl rfl rfl (Nat.le_of_ble_eq_true rfl) hl.1 dX2_placeNext_19) (fun H locs hP hD hS => ?_)
    have hR := Option.some.inj hf
    subst hR
    exact hret _ _ _ _ hP hD hS dX2_placeNext_22
def f_X2_pnD (size writingBits : Int32) (worths : Nat → Int32) (tried_size : Int32) : Nat → Int32 → Int32 → (Nat → Int32) → Int32 → (Nat → Int32) → Int32 → Int32 → Int32 → Int32 → Int32 → Option (Int32 × Int32 × (Nat → Int32) × Int32 × (Nat → Int32))
  | 0 => fun _ _ _ _ _ _ _ _ _ _ => none
  | d + 1 => fun fo mo tr bs be x1 x2 x3 x4 x5 => f_X2_placeNextG size writingBits fo mo worths tried_size tr bs be x1 x2 x3 x4 x5 (f_X2_pnD size writingBits worths tried_size d)
theorem e_X2_pnD (size writingBits : Int32) (worths : Nat → Int32) (tried_size : Int32) (d : Nat) (fo mo : Int32) (tr : Nat → Int32) (bs : Int32) (be : Nat → Int32) (x1 x2 x3 x4 x5 : Int32) : f_X2_pnD size writingBits worths tried_size (d + 1) fo mo tr bs be x1 x2 x3 x4 x5 = f_X2_placeNextG size writingBits fo mo worths tried_size tr bs be x1 x2 x3 x4 x5 (f_X2_pnD size writingBits worths tried_size d) := rfl
def f_X2_placeNext (size : Int32) (writingBits : Int32) (found : Int32) (mostWorth : Int32) (worths : (Nat → Int32)) (tried_size : Int32) (tried : (Nat → Int32)) (best_size : Int32) (best : (Nat → Int32)) (x1 : Int32) (x2 : Int32) (x3 : Int32) (x4 : Int32) (x5 : Int32) : Option (Int32 × Int32 × (Nat → Int32) × Int32 × (Nat → Int32)) := f_X2_pnD size writingBits worths tried_size 8 found mostWorth tried best_size best x1 x2 x3 x4 x5
theorem c_X2_pnD (l : Launch) (D : va_G) (cI : ClassId) (aS : aSt) (ad : Nat → Nat) (size writingBits worths_size : Int32) (worths : Nat → Int32) (tried_size : Int32) : ∀ (d : Nat) (found mostWorth : Int32) (tried : Nat → Int32) (best_size : Int32) (best : Nat → Int32) (x1 x2 x3 x4 x5 : Int32) (R : Int32 × Int32 × (Nat → Int32) × Int32 × (Nat → Int32)), f_X2_pnD size writingBits worths tried_size d found mostWorth tried best_size best x1 x2 x3 x4 x5 = some R →
    CtV l yX2_placeNext cX2_placeNext 8 none (2 + d) D cI aS [.ref (ad 0), .int x1, .int x2, .int x3, .int x4, .int x5] (wd_X2_placeNext cI ad size writingBits found mostWorth worths_size worths tried_size tried best_size best) (wd_X2_placeNext cI ad size writingBits R.1 R.2.1 worths_size worths tried_size R.2.2.1 R.2.2.2.1 R.2.2.2.2) := by
  intro d
  induction d with
  | zero => intro found mostWorth tried best_size best x1 x2 x3 x4 x5 R hf; cases hf
  | succ d ih =>
    intro found mostWorth tried best_size best x1 x2 x3 x4 x5 R hf
    exact c_X2_placeNextG l D cI aS ad size writingBits found mostWorth worths_size worths tried_size tried best_size best x1 x2 x3 x4 x5 (f_X2_pnD size writingBits worths tried_size d) (h := 2 + (d + 1)) (hh := 2 + d) (by omega) (by omega) ih R hf
theorem c_X2_placeNext (l : Launch) (D : va_G) (cI : ClassId) (aS : aSt) (ad : Nat → Nat) (size : Int32) (writingBits : Int32) (found : Int32) (mostWorth : Int32) (worths_size : Int32) (worths : (Nat → Int32)) (tried_size : Int32) (tried : (Nat → Int32)) (best_size : Int32) (best : (Nat → Int32)) (x1 : Int32) (x2 : Int32) (x3 : Int32) (x4 : Int32) (x5 : Int32) (R : Int32 × Int32 × (Nat → Int32) × Int32 × (Nat → Int32)) (hf : f_X2_placeNext size writingBits found mostWorth worths tried_size tried best_size best x1 x2 x3 x4 x5 = some R) :
    CtV l yX2_placeNext cX2_placeNext 8 none 10 D cI aS [.ref (ad 0), .int x1, .int x2, .int x3, .int x4, .int x5] (wd_X2_placeNext cI ad size writingBits found mostWorth worths_size worths tried_size tried best_size best) (wd_X2_placeNext cI ad size writingBits R.1 R.2.1 worths_size worths tried_size R.2.2.1 R.2.2.2.1 R.2.2.2.2) :=
  c_X2_pnD l D cI aS ad size writingBits worths_size worths tried_size 8 found mostWorth tried best_size best x1 x2 x3 x4 x5 R hf

abbrev wd_X2_seek (cI : ClassId) (ad da1 : Nat → Nat) (size : Int32) (writingBits : Int32) (found : Int32) (mostWorth : Int32) (worths_size : Int32) (worths : (Nat → Int32)) (tried_size : Int32) (tried : (Nat → Int32)) (best_size : Int32) (best : (Nat → Int32)) (a1_size : Int32) (a1_year : Int32) (a1_kinds_size : Int32) (a1_kinds : (Nat → Int32)) (a1_figures_size : Int32) (a1_figures : (Nat → Int32)) (a1_styles_size : Int32) (a1_styles : (Nat → Int32)) (a1_writing_size : Int32) (a1_writing : (Nat → Int32)) (a1_order_size : Int32) (a1_order : (Nat → Int32)) : va_W := [((ad 0), .inr (2, [.ref (ad 1), .ref (ad 3), .ref (ad 5), .int size, .int writingBits, .int found, .int mostWorth])), ((ad 1), .inr (3, [.ref (ad 2), .int worths_size])), ((ad 2), .inl (cI, 49, .inl worths)), ((ad 3), .inr (3, [.ref (ad 4), .int tried_size])), ((ad 4), .inl (cI, 7, .inl tried)), ((ad 5), .inr (3, [.ref (ad 6), .int best_size])), ((ad 6), .inl (cI, 7, .inl best)), ((da1 0), .inr (0, [.ref (da1 1), .ref (da1 3), .ref (da1 5), .ref (da1 7), .ref (da1 9), .ref (da1 11), .ref (da1 13), .int a1_size, .int a1_year])), ((da1 1), .inr (3, [.ref (da1 2), .int a1_kinds_size])), ((da1 2), .inl (cI, 7, .inl a1_kinds)), ((da1 3), .inr (3, [.ref (da1 4), .int a1_figures_size])), ((da1 4), .inl (cI, 7, .inl a1_figures)), ((da1 5), .inr (3, [.ref (da1 6), .int a1_styles_size])), ((da1 6), .inl (cI, 7, .inl a1_styles)), ((da1 9), .inr (3, [.ref (da1 10), .int a1_writing_size])), ((da1 10), .inl (cI, 7, .inl a1_writing)), ((da1 11), .inr (3, [.ref (da1 12), .int a1_order_size])), ((da1 12), .inl (cI, 7, .inl a1_order))]
def f_X2_seek_46 (a1_year : Int32) (a1_kinds : (Nat → Int32)) (a1_figures : (Nat → Int32)) (a1_styles : (Nat → Int32)) (size_u36 : Int32) (u2_46 : Int32) (kX46_79 : (Nat → Int32) → Option (Int32 × Int32 × Int32 × Int32 × (Nat → Int32) × (Nat → Int32) × Int32 × (Nat → Int32))) : Nat → Int32 → (Nat → Int32) → Option (Int32 × Int32 × Int32 × Int32 × (Nat → Int32) × (Nat → Int32) × Int32 × (Nat → Int32))
  | 0 => fun _ _ => none
  | fuel + 1 => fun v3_46 worths_46 => (if size_u36 ≤ v3_46 then (kX46_79 worths_46) else ((f_X0_worthEndedBy a1_year a1_kinds a1_figures a1_styles u2_46 v3_46).bind fun (r67 : Int32) => ((f_X3_set 49 worths_46 (((7 : Int32) * u2_46) + v3_46) r67).bind fun (r70 : (Nat → Int32)) => (f_X2_seek_46 a1_year a1_kinds a1_figures a1_styles size_u36 u2_46 kX46_79 fuel (v3_46 + (1 : Int32)) r70))))
theorem e_X2_seek_46 (a1_year : Int32) (a1_kinds : (Nat → Int32)) (a1_figures : (Nat → Int32)) (a1_styles : (Nat → Int32)) (size_u36 : Int32) (u2_46 : Int32) (kX46_79 : (Nat → Int32) → Option (Int32 × Int32 × Int32 × Int32 × (Nat → Int32) × (Nat → Int32) × Int32 × (Nat → Int32))) (fuel : Nat) (v3_46 : Int32) (worths_46 : (Nat → Int32)) : f_X2_seek_46 a1_year a1_kinds a1_figures a1_styles size_u36 u2_46 kX46_79 (fuel + 1) v3_46 worths_46 = (if size_u36 ≤ v3_46 then (kX46_79 worths_46) else ((f_X0_worthEndedBy a1_year a1_kinds a1_figures a1_styles u2_46 v3_46).bind fun (r67 : Int32) => ((f_X3_set 49 worths_46 (((7 : Int32) * u2_46) + v3_46) r67).bind fun (r70 : (Nat → Int32)) => (f_X2_seek_46 a1_year a1_kinds a1_figures a1_styles size_u36 u2_46 kX46_79 fuel (v3_46 + (1 : Int32)) r70)))) := rfl
def f_X2_seek_79  (kL36 : Int32 → (Nat → Int32) → Option (Int32 × Int32 × Int32 × Int32 × (Nat → Int32) × (Nat → Int32) × Int32 × (Nat → Int32))) (v2_79 : Int32) (worths_79 : (Nat → Int32)) : Option (Int32 × Int32 × Int32 × Int32 × (Nat → Int32) × (Nat → Int32) × Int32 × (Nat → Int32)) := (kL36 (v2_79 + (1 : Int32)) worths_79)
def f_X2_seek_36 (a1_year : Int32) (a1_kinds : (Nat → Int32)) (a1_figures : (Nat → Int32)) (a1_styles : (Nat → Int32)) (size_u36 : Int32) (kX36_85 : (Nat → Int32) → Option (Int32 × Int32 × Int32 × Int32 × (Nat → Int32) × (Nat → Int32) × Int32 × (Nat → Int32))) : Nat → Int32 → (Nat → Int32) → Option (Int32 × Int32 × Int32 × Int32 × (Nat → Int32) × (Nat → Int32) × Int32 × (Nat → Int32))
  | 0 => fun _ _ => none
  | fuel + 1 => fun v2_36 worths_36 => (if size_u36 ≤ v2_36 then (kX36_85 worths_36) else (f_X2_seek_46 a1_year a1_kinds a1_figures a1_styles size_u36 v2_36 (fun (worths_79 : (Nat → Int32)) => (f_X2_seek_79  (f_X2_seek_36 a1_year a1_kinds a1_figures a1_styles size_u36 kX36_85 fuel) v2_36 worths_79)) FU (0 : Int32) worths_36))
theorem e_X2_seek_36 (a1_year : Int32) (a1_kinds : (Nat → Int32)) (a1_figures : (Nat → Int32)) (a1_styles : (Nat → Int32)) (size_u36 : Int32) (kX36_85 : (Nat → Int32) → Option (Int32 × Int32 × Int32 × Int32 × (Nat → Int32) × (Nat → Int32) × Int32 × (Nat → Int32))) (fuel : Nat) (v2_36 : Int32) (worths_36 : (Nat → Int32)) : f_X2_seek_36 a1_year a1_kinds a1_figures a1_styles size_u36 kX36_85 (fuel + 1) v2_36 worths_36 = (if size_u36 ≤ v2_36 then (kX36_85 worths_36) else (f_X2_seek_46 a1_year a1_kinds a1_figures a1_styles size_u36 v2_36 (fun (worths_79 : (Nat → Int32)) => (f_X2_seek_79  (f_X2_seek_36 a1_year a1_kinds a1_figures a1_styles size_u36 kX36_85 fuel) v2_36 worths_79)) FU (0 : Int32) worths_36)) := rfl
def f_X2_seek_117 (tried_size : Int32)  (v2_117 : Int32) (size_117 : Int32) (writingBits_117 : Int32) (found_117 : Int32) (mostWorth_117 : Int32) (worths_117 : (Nat → Int32)) (tried_117 : (Nat → Int32)) (best_size_117 : Int32) (best_117 : (Nat → Int32)) (t0_117 : Int32) : Option (Int32 × Int32 × Int32 × Int32 × (Nat → Int32) × (Nat → Int32) × Int32 × (Nat → Int32)) := ((f_X2_placeNext size_117 writingBits_117 found_117 mostWorth_117 worths_117 tried_size tried_117 best_size_117 best_117 (1 : Int32) (shlI (1 : Int32) v2_117) t0_117 t0_117 (0 : Int32)).bind fun (r126 : Int32 × Int32 × (Nat → Int32) × Int32 × (Nat → Int32)) => (some (size_117, writingBits_117, r126.1, r126.2.1, worths_117, r126.2.2.1, r126.2.2.2.1, r126.2.2.2.2)))
def f_X2_seek_85 (tried_size : Int32) (a1_writing : (Nat → Int32)) (a1_order : (Nat → Int32))  (size_85 : Int32) (writingBits_85 : Int32) (found_85 : Int32) (mostWorth_85 : Int32) (worths_85 : (Nat → Int32)) (tried_85 : (Nat → Int32)) (best_size_85 : Int32) (best_85 : (Nat → Int32)) : Option (Int32 × Int32 × Int32 × Int32 × (Nat → Int32) × (Nat → Int32) × Int32 × (Nat → Int32)) := ((f_X3_get 7 a1_order (0 : Int32)).bind fun (r90 : Int32) => ((f_X3_set 7 tried_85 (0 : Int32) r90).bind fun (r100 : (Nat → Int32)) => ((f_X0_isWriting a1_writing r90).bind fun (r105 : Int32) => (if r105 = 0 then (f_X2_seek_117 tried_size  r90 size_85 writingBits_85 found_85 mostWorth_85 worths_85 r100 best_size_85 best_85 (-9 : Int32)) else (f_X2_seek_117 tried_size  r90 size_85 writingBits_85 found_85 mostWorth_85 worths_85 r100 best_size_85 best_85 r90)))))
def f_X2_seek (size : Int32) (writingBits : Int32) (found : Int32) (mostWorth : Int32) (worths : (Nat → Int32)) (tried_size : Int32) (tried : (Nat → Int32)) (best_size : Int32) (best : (Nat → Int32)) (a1_size : Int32) (a1_year : Int32) (a1_kinds : (Nat → Int32)) (a1_figures : (Nat → Int32)) (a1_styles : (Nat → Int32)) (a1_writing : (Nat → Int32)) (a1_order : (Nat → Int32)) : Option (Int32 × Int32 × Int32 × Int32 × (Nat → Int32) × (Nat → Int32) × Int32 × (Nat → Int32)) := ((f_X0_writingBits a1_size a1_writing).bind fun (r10 : Int32) => (if a1_size = 0 then (some (a1_size, r10, (0 : Int32), (0 : Int32), worths, tried, best_size, best)) else (f_X2_seek_36 a1_year a1_kinds a1_figures a1_styles a1_size (fun (worths_85 : (Nat → Int32)) => (f_X2_seek_85 tried_size a1_writing a1_order  a1_size r10 (0 : Int32) (0 : Int32) worths_85 tried best_size best)) FU (0 : Int32) worths)))
set_option maxHeartbeats 4000000 in
set_option maxRecDepth 100000 in
theorem w_X2_seek_46 {p : Program} {l : Launch} {e : Env} {s : State} {m : MethodId} {args : Array Value} {below : List Frame} {meth : Method} {c : Code} {D : va_G} {cI : ClassId} {aS : aSt} {A : Nat → Prop} {Q : State → Prop}  (ad : Nat → Nat) (da1 : Nat → Nat) (worths_size : Int32) (tried_size : Int32) (a1_size : Int32) (a1_year : Int32) (a1_kinds_size : Int32) (a1_kinds : (Nat → Int32)) (a1_figures_size : Int32) (a1_figures : (Nat → Int32)) (a1_styles_size : Int32) (a1_styles : (Nat → Int32)) (a1_writing_size : Int32) (a1_writing : (Nat → Int32)) (a1_order_size : Int32) (a1_order : (Nat → Int32)) (size_u36 : Int32) (writingBits_u36 : Int32) (found_u36 : Int32) (mostWorth_u36 : Int32) (tried_u36 : (Nat → Int32)) (best_size_u36 : Int32) (best_u36 : (Nat → Int32)) (u2_46 : Int32) {R : Int32 × Int32 × Int32 × Int32 × (Nat → Int32) × (Nat → Int32) × Int32 × (Nat → Int32)} (X : Bx p s m args meth c cX2_seek 4 none RX2 D cI aS A) (hret : RtV p l e 11 s m args below meth c cX2_seek D A (wd_X2_seek cI ad da1 R.1 R.2.1 R.2.2.1 R.2.2.2.1 worths_size R.2.2.2.2.1 tried_size R.2.2.2.2.2.1 R.2.2.2.2.2.2.1 R.2.2.2.2.2.2.2 a1_size a1_year a1_kinds_size a1_kinds a1_figures_size a1_figures a1_styles_size a1_styles a1_writing_size a1_writing a1_order_size a1_order) Q) (kX46_79 : (Nat → Int32) → Option (Int32 × Int32 × Int32 × Int32 × (Nat → Int32) × (Nat → Int32) × Int32 × (Nat → Int32))) (hkX46_79 : ∀ (worths_79 : (Nat → Int32)) (H : Heap) (locs : List Loc) (ls : Array Slot), kX46_79 worths_79 = some R → lv_has ls 4 [(0, .ref (ad 0)), (1, .ref (da1 0)), (2, .int u2_46)] → va_P D vwCl (wd_X2_seek cI ad da1 size_u36 writingBits_u36 found_u36 mostWorth_u36 worths_size worths_79 tried_size tried_u36 best_size_u36 best_u36 a1_size a1_year a1_kinds_size a1_kinds a1_figures_size a1_figures a1_styles_size a1_styles a1_writing_size a1_writing a1_order_size a1_order) H → va_D A (wd_X2_seek cI ad da1 size_u36 writingBits_u36 found_u36 mostWorth_u36 worths_size worths_79 tried_size tried_u36 best_size_u36 best_u36 a1_size a1_year a1_kinds_size a1_kinds a1_figures_size a1_figures a1_styles_size a1_styles a1_writing_size a1_writing a1_order_size a1_order) → va_S A s.heap H locs → Wh p l e 11 s m args below meth c H locs Q (F0 m 79 ls [])) : ∀ (fuel : Nat) (v3_46 : Int32) (worths_46 : (Nat → Int32)) (H : Heap) (locs : List Loc) (ls : Array Slot), f_X2_seek_46 a1_year a1_kinds a1_figures a1_styles size_u36 u2_46 kX46_79 fuel v3_46 worths_46 = some R → lv_has ls 4 [(0, .ref (ad 0)), (1, .ref (da1 0)), (2, .int u2_46), (3, .int v3_46)] → va_P D vwCl (wd_X2_seek cI ad da1 size_u36 writingBits_u36 found_u36 mostWorth_u36 worths_size worths_46 tried_size tried_u36 best_size_u36 best_u36 a1_size a1_year a1_kinds_size a1_kinds a1_figures_size a1_figures a1_styles_size a1_styles a1_writing_size a1_writing a1_order_size a1_order) H → va_D A (wd_X2_seek cI ad da1 size_u36 writingBits_u36 found_u36 mostWorth_u36 worths_size worths_46 tried_size tried_u36 best_size_u36 best_u36 a1_size a1_year a1_kinds_size a1_kinds a1_figures_size a1_figures a1_styles_size a1_styles a1_writing_size a1_writing a1_order_size a1_order) → va_S A s.heap H locs → Wh p l e 11 s m args below meth c H locs Q (F0 m 46 ls []) := by
  have hx := X.1
  have hb := X.2.1
  intro fuel
  induction fuel with
  | zero =>
    intro v3_46 worths_46 H locs ls hf hl hP hD hS
    cases hf
  | succ fuel ih =>
    intro v3_46 worths_46 H locs ls hf hl hP hD hS
    replace hf : (if size_u36 ≤ v3_46 then (kX46_79 worths_46) else ((f_X0_worthEndedBy a1_year a1_kinds a1_figures a1_styles u2_46 v3_46).bind fun (r67 : Int32) => ((f_X3_set 49 worths_46 (((7 : Int32) * u2_46) + v3_46) r67).bind fun (r70 : (Nat → Int32)) => (f_X2_seek_46 a1_year a1_kinds a1_figures a1_styles size_u36 u2_46 kX46_79 fuel (v3_46 + (1 : Int32)) r70)))) = some R := hf
    refine lv_iload_n hx hb dX2_seek_46 rfl (lv_at hl 3 rfl) ?_
    refine lv_aload_n hx hb dX2_seek_47 rfl (lv_at hl 0 rfl) ?_
    refine fgX2_26 X hP (q0 := 0) rfl rfl dX2_seek_48 ?_
    refine lv_icmp_ge (tgt := 79) hx hb dX2_seek_51 (by decide) (fun c51 => ?_) (fun c51 => ?_)
    · have hf := iT c51 hf
      exact hkX46_79 worths_46 _ _ _ hf (lv_sub hl [0, 1, 2] rfl) hP hD hS
    · have hf := iF c51 hf
      refine lv_aload_n hx hb dX2_seek_54 rfl (lv_at hl 0 rfl) ?_
      refine fgX2_14 X hP (q0 := 0) rfl rfl dX2_seek_55 ?_
      refine lv_bipush (v := 7) hx hb dX2_seek_58 (by decide) ?_
      refine lv_iload_n hx hb dX2_seek_60 rfl (lv_at hl 2 rfl) ?_
      refine lv_imul hx hb dX2_seek_61 ?_
      refine lv_iload_n hx hb dX2_seek_62 rfl (lv_at hl 3 rfl) ?_
      refine lv_iadd hx hb dX2_seek_63 ?_
      refine lv_aload_n hx hb dX2_seek_64 rfl (lv_at hl 1 rfl) ?_
      refine lv_iload_n hx hb dX2_seek_65 rfl (lv_at hl 2 rfl) ?_
      refine lv_iload_n hx hb dX2_seek_66 rfl (lv_at hl 3 rfl) ?_
      obtain ⟨r67, hq67, hf⟩ := bS hf
      refine ro_i X hP hD hS [7, 8, 9, 10, 11, 12, 13] rfl (run_N X hP hD hS [7, 8, 9, 10, 11, 12, 13] rfl rfl (c_X0_worthEndedBy l D cI aS da1 a1_size a1_year a1_kinds_size a1_kinds a1_figures_size a1_figures a1_styles_size a1_styles u2_46 v3_46 _ hq67 _) lkX2_46 (by decide) (q0 := 7) rfl rfl rfl rfl (Nat.le_of_ble_eq_true rfl) hl.1 dX2_seek_67) (fun H locs hP hS => ?_)
      obtain ⟨r70, hq70, hf⟩ := bS hf
      refine wr_v X hP hD hS [1, 2] rfl (ws' := (wd_X2_seek cI ad da1 size_u36 writingBits_u36 found_u36 mostWorth_u36 worths_size r70 tried_size tried_u36 best_size_u36 best_u36 a1_size a1_year a1_kinds_size a1_kinds a1_figures_size a1_figures a1_styles_size a1_styles a1_writing_size a1_writing a1_order_size a1_order)) (Nat.le_of_ble_eq_true rfl) rfl rfl (run_N X hP hD hS [1, 2] rfl rfl (c_X3_set l D cI aS (fun k => ad (1 + k)) 49 worths_size worths_46 (((7 : Int32) * u2_46) + v3_46) r67 _ hq70 _) lkX2_50 (by decide) (q0 := 1) rfl rfl rfl rfl (Nat.le_of_ble_eq_true rfl) hl.1 dX2_seek_70) (fun H locs hP hD hS => ?_)
      refine lv_iinc (v := (v3_46 + (1 : Int32))) (lv' := [(3, .int (v3_46 + (1 : Int32))), (0, .ref (ad 0)), (1, .ref (da1 0)), (2, .int u2_46)]) hx hb dX2_seek_73 hl (k := 3) rfl rfl (by decide) rfl (fun ls hl => ?_)
      refine lv_goto (tgt := 46) hx hb dX2_seek_76 (by decide) ?_
      exact ih (v3_46 + (1 : Int32)) r70 _ _ _ hf (lv_sub hl [1, 2, 3, 0] rfl) hP hD hS
set_option maxHeartbeats 4000000 in
set_option maxRecDepth 100000 in
theorem w_X2_seek_79 {p : Program} {l : Launch} {e : Env} {s : State} {m : MethodId} {args : Array Value} {below : List Frame} {meth : Method} {c : Code} {D : va_G} {cI : ClassId} {aS : aSt} {A : Nat → Prop} {Q : State → Prop}  (ad : Nat → Nat) (da1 : Nat → Nat) (worths_size : Int32) (tried_size : Int32) (a1_size : Int32) (a1_year : Int32) (a1_kinds_size : Int32) (a1_kinds : (Nat → Int32)) (a1_figures_size : Int32) (a1_figures : (Nat → Int32)) (a1_styles_size : Int32) (a1_styles : (Nat → Int32)) (a1_writing_size : Int32) (a1_writing : (Nat → Int32)) (a1_order_size : Int32) (a1_order : (Nat → Int32)) (size_u36 : Int32) (writingBits_u36 : Int32) (found_u36 : Int32) (mostWorth_u36 : Int32) (tried_u36 : (Nat → Int32)) (best_size_u36 : Int32) (best_u36 : (Nat → Int32)) {R : Int32 × Int32 × Int32 × Int32 × (Nat → Int32) × (Nat → Int32) × Int32 × (Nat → Int32)} (X : Bx p s m args meth c cX2_seek 4 none RX2 D cI aS A) (hret : RtV p l e 11 s m args below meth c cX2_seek D A (wd_X2_seek cI ad da1 R.1 R.2.1 R.2.2.1 R.2.2.2.1 worths_size R.2.2.2.2.1 tried_size R.2.2.2.2.2.1 R.2.2.2.2.2.2.1 R.2.2.2.2.2.2.2 a1_size a1_year a1_kinds_size a1_kinds a1_figures_size a1_figures a1_styles_size a1_styles a1_writing_size a1_writing a1_order_size a1_order) Q) (kL36 : Int32 → (Nat → Int32) → Option (Int32 × Int32 × Int32 × Int32 × (Nat → Int32) × (Nat → Int32) × Int32 × (Nat → Int32))) (hkL36 : ∀ (v2_36 : Int32) (worths_36 : (Nat → Int32)) (H : Heap) (locs : List Loc) (ls : Array Slot), kL36 v2_36 worths_36 = some R → lv_has ls 4 [(0, .ref (ad 0)), (1, .ref (da1 0)), (2, .int v2_36)] → va_P D vwCl (wd_X2_seek cI ad da1 size_u36 writingBits_u36 found_u36 mostWorth_u36 worths_size worths_36 tried_size tried_u36 best_size_u36 best_u36 a1_size a1_year a1_kinds_size a1_kinds a1_figures_size a1_figures a1_styles_size a1_styles a1_writing_size a1_writing a1_order_size a1_order) H → va_D A (wd_X2_seek cI ad da1 size_u36 writingBits_u36 found_u36 mostWorth_u36 worths_size worths_36 tried_size tried_u36 best_size_u36 best_u36 a1_size a1_year a1_kinds_size a1_kinds a1_figures_size a1_figures a1_styles_size a1_styles a1_writing_size a1_writing a1_order_size a1_order) → va_S A s.heap H locs → Wh p l e 11 s m args below meth c H locs Q (F0 m 36 ls [])) : ∀ (v2_79 : Int32) (worths_79 : (Nat → Int32)) (H : Heap) (locs : List Loc) (ls : Array Slot), f_X2_seek_79  kL36 v2_79 worths_79 = some R → lv_has ls 4 [(0, .ref (ad 0)), (1, .ref (da1 0)), (2, .int v2_79)] → va_P D vwCl (wd_X2_seek cI ad da1 size_u36 writingBits_u36 found_u36 mostWorth_u36 worths_size worths_79 tried_size tried_u36 best_size_u36 best_u36 a1_size a1_year a1_kinds_size a1_kinds a1_figures_size a1_figures a1_styles_size a1_styles a1_writing_size a1_writing a1_order_size a1_order) H → va_D A (wd_X2_seek cI ad da1 size_u36 writingBits_u36 found_u36 mostWorth_u36 worths_size worths_79 tried_size tried_u36 best_size_u36 best_u36 a1_size a1_year a1_kinds_size a1_kinds a1_figures_size a1_figures a1_styles_size a1_styles a1_writing_size a1_writing a1_order_size a1_order) → va_S A s.heap H locs → Wh p l e 11 s m args below meth c H locs Q (F0 m 79 ls []) := by
  have hx := X.1
  have hb := X.2.1
  intro v2_79 worths_79 H locs ls hf hl hP hD hS
  replace hf : (kL36 (v2_79 + (1 : Int32)) worths_79) = some R := hf
  refine lv_iinc (v := (v2_79 + (1 : Int32))) (lv' := [(2, .int (v2_79 + (1 : Int32))), (0, .ref (ad 0)), (1, .ref (da1 0))]) hx hb dX2_seek_79 hl (k := 2) rfl rfl (by decide) rfl (fun ls hl => ?_)
  refine lv_goto (tgt := 36) hx hb dX2_seek_82 (by decide) ?_
  exact hkL36 (v2_79 + (1 : Int32)) worths_79 _ _ _ hf (lv_sub hl [1, 2, 0] rfl) hP hD hS
set_option maxHeartbeats 4000000 in
set_option maxRecDepth 100000 in
theorem w_X2_seek_36 {p : Program} {l : Launch} {e : Env} {s : State} {m : MethodId} {args : Array Value} {below : List Frame} {meth : Method} {c : Code} {D : va_G} {cI : ClassId} {aS : aSt} {A : Nat → Prop} {Q : State → Prop}  (ad : Nat → Nat) (da1 : Nat → Nat) (worths_size : Int32) (tried_size : Int32) (a1_size : Int32) (a1_year : Int32) (a1_kinds_size : Int32) (a1_kinds : (Nat → Int32)) (a1_figures_size : Int32) (a1_figures : (Nat → Int32)) (a1_styles_size : Int32) (a1_styles : (Nat → Int32)) (a1_writing_size : Int32) (a1_writing : (Nat → Int32)) (a1_order_size : Int32) (a1_order : (Nat → Int32)) (size_u36 : Int32) (writingBits_u36 : Int32) (found_u36 : Int32) (mostWorth_u36 : Int32) (tried_u36 : (Nat → Int32)) (best_size_u36 : Int32) (best_u36 : (Nat → Int32)) {R : Int32 × Int32 × Int32 × Int32 × (Nat → Int32) × (Nat → Int32) × Int32 × (Nat → Int32)} (X : Bx p s m args meth c cX2_seek 4 none RX2 D cI aS A) (hret : RtV p l e 11 s m args below meth c cX2_seek D A (wd_X2_seek cI ad da1 R.1 R.2.1 R.2.2.1 R.2.2.2.1 worths_size R.2.2.2.2.1 tried_size R.2.2.2.2.2.1 R.2.2.2.2.2.2.1 R.2.2.2.2.2.2.2 a1_size a1_year a1_kinds_size a1_kinds a1_figures_size a1_figures a1_styles_size a1_styles a1_writing_size a1_writing a1_order_size a1_order) Q) (kX36_85 : (Nat → Int32) → Option (Int32 × Int32 × Int32 × Int32 × (Nat → Int32) × (Nat → Int32) × Int32 × (Nat → Int32))) (hkX36_85 : ∀ (worths_85 : (Nat → Int32)) (H : Heap) (locs : List Loc) (ls : Array Slot), kX36_85 worths_85 = some R → lv_has ls 4 [(0, .ref (ad 0)), (1, .ref (da1 0))] → va_P D vwCl (wd_X2_seek cI ad da1 size_u36 writingBits_u36 found_u36 mostWorth_u36 worths_size worths_85 tried_size tried_u36 best_size_u36 best_u36 a1_size a1_year a1_kinds_size a1_kinds a1_figures_size a1_figures a1_styles_size a1_styles a1_writing_size a1_writing a1_order_size a1_order) H → va_D A (wd_X2_seek cI ad da1 size_u36 writingBits_u36 found_u36 mostWorth_u36 worths_size worths_85 tried_size tried_u36 best_size_u36 best_u36 a1_size a1_year a1_kinds_size a1_kinds a1_figures_size a1_figures a1_styles_size a1_styles a1_writing_size a1_writing a1_order_size a1_order) → va_S A s.heap H locs → Wh p l e 11 s m args below meth c H locs Q (F0 m 85 ls [])) : ∀ (fuel : Nat) (v2_36 : Int32) (worths_36 : (Nat → Int32)) (H : Heap) (locs : List Loc) (ls : Array Slot), f_X2_seek_36 a1_year a1_kinds a1_figures a1_styles size_u36 kX36_85 fuel v2_36 worths_36 = some R → lv_has ls 4 [(0, .ref (ad 0)), (1, .ref (da1 0)), (2, .int v2_36)] → va_P D vwCl (wd_X2_seek cI ad da1 size_u36 writingBits_u36 found_u36 mostWorth_u36 worths_size worths_36 tried_size tried_u36 best_size_u36 best_u36 a1_size a1_year a1_kinds_size a1_kinds a1_figures_size a1_figures a1_styles_size a1_styles a1_writing_size a1_writing a1_order_size a1_order) H → va_D A (wd_X2_seek cI ad da1 size_u36 writingBits_u36 found_u36 mostWorth_u36 worths_size worths_36 tried_size tried_u36 best_size_u36 best_u36 a1_size a1_year a1_kinds_size a1_kinds a1_figures_size a1_figures a1_styles_size a1_styles a1_writing_size a1_writing a1_order_size a1_order) → va_S A s.heap H locs → Wh p l e 11 s m args below meth c H locs Q (F0 m 36 ls []) := by
  have hx := X.1
  have hb := X.2.1
  intro fuel
  induction fuel with
  | zero =>
    intro v2_36 worths_36 H locs ls hf hl hP hD hS
    cases hf
  | succ fuel ih =>
    intro v2_36 worths_36 H locs ls hf hl hP hD hS
    replace hf : (if size_u36 ≤ v2_36 then (kX36_85 worths_36) else (f_X2_seek_46 a1_year a1_kinds a1_figures a1_styles size_u36 v2_36 (fun (worths_79 : (Nat → Int32)) => (f_X2_seek_79  (f_X2_seek_36 a1_year a1_kinds a1_figures a1_styles size_u36 kX36_85 fuel) v2_36 worths_79)) FU (0 : Int32) worths_36)) = some R := hf
    refine lv_iload_n hx hb dX2_seek_36 rfl (lv_at hl 2 rfl) ?_
    refine lv_aload_n hx hb dX2_seek_37 rfl (lv_at hl 0 rfl) ?_
    refine fgX2_26 X hP (q0 := 0) rfl rfl dX2_seek_38 ?_
    refine lv_icmp_ge (tgt := 85) hx hb dX2_seek_41 (by decide) (fun c41 => ?_) (fun c41 => ?_)
    · have hf := iT c41 hf
      exact hkX36_85 worths_36 _ _ _ hf (lv_sub hl [0, 1] rfl) hP hD hS
    · have hf := iF c41 hf
      refine lv_iconst (v := 0) hx hb dX2_seek_44 (by decide) ?_
      refine lv_istore_n (lv' := [(3, .int (0 : Int32)), (0, .ref (ad 0)), (1, .ref (da1 0)), (2, .int v2_36)]) hx hb dX2_seek_45 rfl hl (by decide) rfl (fun ls hl => ?_)
      exact w_X2_seek_46 ad da1 worths_size tried_size a1_size a1_year a1_kinds_size a1_kinds a1_figures_size a1_figures a1_styles_size a1_styles a1_writing_size a1_writing a1_order_size a1_order size_u36 writingBits_u36 found_u36 mostWorth_u36 tried_u36 best_size_u36 best_u36 v2_36 X hret _ (fun worths_79 _ _ _ hf hl hP hD hS => w_X2_seek_79 ad da1 worths_size tried_size a1_size a1_year a1_kinds_size a1_kinds a1_figures_size a1_figures a1_styles_size a1_styles a1_writing_size a1_writing a1_order_size a1_order size_u36 writingBits_u36 found_u36 mostWorth_u36 tried_u36 best_size_u36 best_u36 X hret _ ih v2_36 worths_79 _ _ _ hf (lv_sub hl [0, 1, 2] rfl) hP hD hS) _ (0 : Int32) worths_36 _ _ _ hf (lv_sub hl [1, 2, 3, 0] rfl) hP hD hS
set_option maxHeartbeats 4000000 in
set_option maxRecDepth 100000 in
theorem w_X2_seek_117 {p : Program} {l : Launch} {e : Env} {s : State} {m : MethodId} {args : Array Value} {below : List Frame} {meth : Method} {c : Code} {D : va_G} {cI : ClassId} {aS : aSt} {A : Nat → Prop} {Q : State → Prop}  (ad : Nat → Nat) (da1 : Nat → Nat) (worths_size : Int32) (tried_size : Int32) (a1_size : Int32) (a1_year : Int32) (a1_kinds_size : Int32) (a1_kinds : (Nat → Int32)) (a1_figures_size : Int32) (a1_figures : (Nat → Int32)) (a1_styles_size : Int32) (a1_styles : (Nat → Int32)) (a1_writing_size : Int32) (a1_writing : (Nat → Int32)) (a1_order_size : Int32) (a1_order : (Nat → Int32)) {R : Int32 × Int32 × Int32 × Int32 × (Nat → Int32) × (Nat → Int32) × Int32 × (Nat → Int32)} (X : Bx p s m args meth c cX2_seek 4 none RX2 D cI aS A) (hret : RtV p l e 11 s m args below meth c cX2_seek D A (wd_X2_seek cI ad da1 R.1 R.2.1 R.2.2.1 R.2.2.2.1 worths_size R.2.2.2.2.1 tried_size R.2.2.2.2.2.1 R.2.2.2.2.2.2.1 R.2.2.2.2.2.2.2 a1_size a1_year a1_kinds_size a1_kinds a1_figures_size a1_figures a1_styles_size a1_styles a1_writing_size a1_writing a1_order_size a1_order) Q) : ∀ (v2_117 : Int32) (size_117 : Int32) (writingBits_117 : Int32) (found_117 : Int32) (mostWorth_117 : Int32) (worths_117 : (Nat → Int32)) (tried_117 : (Nat → Int32)) (best_size_117 : Int32) (best_117 : (Nat → Int32)) (t0_117 : Int32) (H : Heap) (locs : List Loc) (ls : Array Slot), f_X2_seek_117 tried_size  v2_117 size_117 writingBits_117 found_117 mostWorth_117 worths_117 tried_117 best_size_117 best_117 t0_117 = some R → lv_has ls 4 [(0, .ref (ad 0)), (2, .int v2_117)] → va_P D vwCl (wd_X2_seek cI ad da1 size_117 writingBits_117 found_117 mostWorth_117 worths_size worths_117 tried_size tried_117 best_size_117 best_117 a1_size a1_year a1_kinds_size a1_kinds a1_figures_size a1_figures a1_styles_size a1_styles a1_writing_size a1_writing a1_order_size a1_order) H → va_D A (wd_X2_seek cI ad da1 size_117 writingBits_117 found_117 mostWorth_117 worths_size worths_117 tried_size tried_117 best_size_117 best_117 a1_size a1_year a1_kinds_size a1_kinds a1_figures_size a1_figures a1_styles_size a1_styles a1_writing_size a1_writing a1_order_size a1_order) → va_S A s.heap H locs → Wh p l e 11 s m args below meth c H locs Q (F0 m 117 ls [.int t0_117]) := by
  have hx := X.1
  have hb := X.2.1
  intro v2_117 size_117 writingBits_117 found_117 mostWorth_117 worths_117 tried_117 best_size_117 best_117 t0_117 H locs ls hf hl hP hD hS
  replace hf : ((f_X2_placeNext size_117 writingBits_117 found_117 mostWorth_117 worths_117 tried_size tried_117 best_size_117 best_117 (1 : Int32) (shlI (1 : Int32) v2_117) t0_117 t0_117 (0 : Int32)).bind fun (r126 : Int32 × Int32 × (Nat → Int32) × Int32 × (Nat → Int32)) => (some (size_117, writingBits_117, r126.1, r126.2.1, worths_117, r126.2.2.1, r126.2.2.2.1, r126.2.2.2.2))) = some R := hf
  refine lv_istore_n (lv' := [(3, .int t0_117), (0, .ref (ad 0)), (2, .int v2_117)]) hx hb dX2_seek_117 rfl hl (by decide) rfl (fun ls hl => ?_)
  refine lv_aload_n hx hb dX2_seek_118 rfl (lv_at hl 1 rfl) ?_
  refine lv_iconst (v := 1) hx hb dX2_seek_119 (by decide) ?_
  refine lv_iconst (v := 1) hx hb dX2_seek_120 (by decide) ?_
  refine lv_iload_n hx hb dX2_seek_121 rfl (lv_at hl 2 rfl) ?_
  refine x_ishl hx hb dX2_seek_122 ?_
  refine lv_iload_n hx hb dX2_seek_123 rfl (lv_at hl 0 rfl) ?_
  refine lv_iload_n hx hb dX2_seek_124 rfl (lv_at hl 0 rfl) ?_
  refine lv_iconst (v := 0) hx hb dX2_seek_125 (by decide) ?_
  obtain ⟨r126, hq126, hf⟩ := bS hf
  refine wr_v X hP hD hS [0, 1, 2, 3, 4, 5, 6] rfl (ws' := (wd_X2_seek cI ad da1 size_117 writingBits_117 r126.1 r126.2.1 worths_size worths_117 tried_size r126.2.2.1 r126.2.2.2.1 r126.2.2.2.2 a1_size a1_year a1_kinds_size a1_kinds a1_figures_size a1_figures a1_styles_size a1_styles a1_writing_size a1_writing a1_order_size a1_order)) (Nat.le_of_ble_eq_true rfl) rfl rfl (run_V X hP hD hS [0, 1, 2, 3, 4, 5, 6] rfl rfl (c_X2_placeNext l D cI aS ad size_117 writingBits_117 found_117 mostWorth_117 worths_size worths_117 tried_size tried_117 best_size_117 best_117 (1 : Int32) (shlI (1 : Int32) v2_117) t0_117 t0_117 (0 : Int32) _ hq126 _) lkX2_65 (by decide) (q0 := 0) rfl rfl rfl rfl (Nat.le_of_ble_eq_true rfl) hl.1 dX2_seek_126) (fun H locs hP hD hS => ?_)
  have hR := Option.some.inj hf
  subst hR
  exact hret _ _ _ _ hP hD hS dX2_seek_129
set_option maxHeartbeats 4000000 in
set_option maxRecDepth 100000 in
theorem w_X2_seek_85 {p : Program} {l : Launch} {e : Env} {s : State} {m : MethodId} {args : Array Value} {below : List Frame} {meth : Method} {c : Code} {D : va_G} {cI : ClassId} {aS : aSt} {A : Nat → Prop} {Q : State → Prop}  (ad : Nat → Nat) (da1 : Nat → Nat) (worths_size : Int32) (tried_size : Int32) (a1_size : Int32) (a1_year : Int32) (a1_kinds_size : Int32) (a1_kinds : (Nat → Int32)) (a1_figures_size : Int32) (a1_figures : (Nat → Int32)) (a1_styles_size : Int32) (a1_styles : (Nat → Int32)) (a1_writing_size : Int32) (a1_writing : (Nat → Int32)) (a1_order_size : Int32) (a1_order : (Nat → Int32)) {R : Int32 × Int32 × Int32 × Int32 × (Nat → Int32) × (Nat → Int32) × Int32 × (Nat → Int32)} (X : Bx p s m args meth c cX2_seek 4 none RX2 D cI aS A) (hret : RtV p l e 11 s m args below meth c cX2_seek D A (wd_X2_seek cI ad da1 R.1 R.2.1 R.2.2.1 R.2.2.2.1 worths_size R.2.2.2.2.1 tried_size R.2.2.2.2.2.1 R.2.2.2.2.2.2.1 R.2.2.2.2.2.2.2 a1_size a1_year a1_kinds_size a1_kinds a1_figures_size a1_figures a1_styles_size a1_styles a1_writing_size a1_writing a1_order_size a1_order) Q) : ∀ (size_85 : Int32) (writingBits_85 : Int32) (found_85 : Int32) (mostWorth_85 : Int32) (worths_85 : (Nat → Int32)) (tried_85 : (Nat → Int32)) (best_size_85 : Int32) (best_85 : (Nat → Int32)) (H : Heap) (locs : List Loc) (ls : Array Slot), f_X2_seek_85 tried_size a1_writing a1_order  size_85 writingBits_85 found_85 mostWorth_85 worths_85 tried_85 best_size_85 best_85 = some R → lv_has ls 4 [(0, .ref (ad 0)), (1, .ref (da1 0))] → va_P D vwCl (wd_X2_seek cI ad da1 size_85 writingBits_85 found_85 mostWorth_85 worths_size worths_85 tried_size tried_85 best_size_85 best_85 a1_size a1_year a1_kinds_size a1_kinds a1_figures_size a1_figures a1_styles_size a1_styles a1_writing_size a1_writing a1_order_size a1_order) H → va_D A (wd_X2_seek cI ad da1 size_85 writingBits_85 found_85 mostWorth_85 worths_size worths_85 tried_size tried_85 best_size_85 best_85 a1_size a1_year a1_kinds_size a1_kinds a1_figures_size a1_figures a1_styles_size a1_styles a1_writing_size a1_writing a1_order_size a1_order) → va_S A s.heap H locs → Wh p l e 11 s m args below meth c H locs Q (F0 m 85 ls []) := by
  have hx := X.1
  have hb := X.2.1
  intro size_85 writingBits_85 found_85 mostWorth_85 worths_85 tried_85 best_size_85 best_85 H locs ls hf hl hP hD hS
  replace hf : ((f_X3_get 7 a1_order (0 : Int32)).bind fun (r90 : Int32) => ((f_X3_set 7 tried_85 (0 : Int32) r90).bind fun (r100 : (Nat → Int32)) => ((f_X0_isWriting a1_writing r90).bind fun (r105 : Int32) => (if r105 = 0 then (f_X2_seek_117 tried_size  r90 size_85 writingBits_85 found_85 mostWorth_85 worths_85 r100 best_size_85 best_85 (-9 : Int32)) else (f_X2_seek_117 tried_size  r90 size_85 writingBits_85 found_85 mostWorth_85 worths_85 r100 best_size_85 best_85 r90))))) = some R := hf
  refine lv_aload_n hx hb dX2_seek_85 rfl (lv_at hl 1 rfl) ?_
  refine fgX2_54 X hP (q0 := 7) rfl rfl dX2_seek_86 ?_
  refine lv_iconst (v := 0) hx hb dX2_seek_89 (by decide) ?_
  obtain ⟨r90, hq90, hf⟩ := bS hf
  refine ro_i X hP hD hS [16, 17] rfl (run_N X hP hD hS [16, 17] rfl rfl (c_X3_get l D cI aS (fun k => da1 (11 + k)) 7 a1_order_size a1_order (0 : Int32) _ hq90 _) lkX2_57 (by decide) (q0 := 16) rfl rfl rfl rfl (Nat.le_of_ble_eq_true rfl) hl.1 dX2_seek_90) (fun H locs hP hS => ?_)
  refine lv_istore_n (lv' := [(2, .int r90), (0, .ref (ad 0)), (1, .ref (da1 0))]) hx hb dX2_seek_93 rfl hl (by decide) rfl (fun ls hl => ?_)
  refine lv_aload_n hx hb dX2_seek_94 rfl (lv_at hl 1 rfl) ?_
  refine fgX2_20 X hP (q0 := 0) rfl rfl dX2_seek_95 ?_
  refine lv_iconst (v := 0) hx hb dX2_seek_98 (by decide) ?_
  refine lv_iload_n hx hb dX2_seek_99 rfl (lv_at hl 0 rfl) ?_
  obtain ⟨r100, hq100, hf⟩ := bS hf
  refine wr_v X hP hD hS [3, 4] rfl (ws' := (wd_X2_seek cI ad da1 size_85 writingBits_85 found_85 mostWorth_85 worths_size worths_85 tried_size r100 best_size_85 best_85 a1_size a1_year a1_kinds_size a1_kinds a1_figures_size a1_figures a1_styles_size a1_styles a1_writing_size a1_writing a1_order_size a1_order)) (Nat.le_of_ble_eq_true rfl) rfl rfl (run_N X hP hD hS [3, 4] rfl rfl (c_X3_set l D cI aS (fun k => ad (3 + k)) 7 tried_size tried_85 (0 : Int32) r90 _ hq100 _) lkX2_50 (by decide) (q0 := 3) rfl rfl rfl rfl (Nat.le_of_ble_eq_true rfl) hl.1 dX2_seek_100) (fun H locs hP hD hS => ?_)
  refine lv_aload_n hx hb dX2_seek_103 rfl (lv_at hl 2 rfl) ?_
  refine lv_iload_n hx hb dX2_seek_104 rfl (lv_at hl 0 rfl) ?_
  obtain ⟨r105, hq105, hf⟩ := bS hf
  refine ro_i X hP hD hS [7, 14, 15] rfl (run_N X hP hD hS [7, 14, 15] rfl rfl (c_X0_isWriting l D cI aS da1 a1_size a1_year a1_writing_size a1_writing r90 _ hq105 _) lkX2_61 (by decide) (q0 := 7) rfl rfl rfl rfl (Nat.le_of_ble_eq_true rfl) hl.1 dX2_seek_105) (fun H locs hP hS => ?_)
  refine lv_if_eq (tgt := 115) hx hb dX2_seek_108 (by decide) (fun c108 => ?_) (fun c108 => ?_)
  · have hf := iT c108 hf
    refine lv_bipush (v := -9) hx hb dX2_seek_115 (by decide) ?_
    exact w_X2_seek_117 ad da1 worths_size tried_size a1_size a1_year a1_kinds_size a1_kinds a1_figures_size a1_figures a1_styles_size a1_styles a1_writing_size a1_writing a1_order_size a1_order X hret  r90 size_85 writingBits_85 found_85 mostWorth_85 worths_85 r100 best_size_85 best_85 (-9 : Int32) _ _ _ hf (lv_sub hl [1, 0] rfl) hP hD hS
  · have hf := iF c108 hf
    refine lv_iload_n hx hb dX2_seek_111 rfl (lv_at hl 0 rfl) ?_
    refine lv_goto (tgt := 117) hx hb dX2_seek_112 (by decide) ?_
    exact w_X2_seek_117 ad da1 worths_size tried_size a1_size a1_year a1_kinds_size a1_kinds a1_figures_size a1_figures a1_styles_size a1_styles a1_writing_size a1_writing a1_order_size a1_order X hret  r90 size_85 writingBits_85 found_85 mostWorth_85 worths_85 r100 best_size_85 best_85 r90 _ _ _ hf (lv_sub hl [1, 0] rfl) hP hD hS
set_option maxHeartbeats 4000000 in
set_option maxRecDepth 100000 in
theorem c_X2_seek (l : Launch) (D : va_G) (cI : ClassId) (aS : aSt) (ad : Nat → Nat) (da1 : Nat → Nat) (size : Int32) (writingBits : Int32) (found : Int32) (mostWorth : Int32) (worths_size : Int32) (worths : (Nat → Int32)) (tried_size : Int32) (tried : (Nat → Int32)) (best_size : Int32) (best : (Nat → Int32)) (a1_size : Int32) (a1_year : Int32) (a1_kinds_size : Int32) (a1_kinds : (Nat → Int32)) (a1_figures_size : Int32) (a1_figures : (Nat → Int32)) (a1_styles_size : Int32) (a1_styles : (Nat → Int32)) (a1_writing_size : Int32) (a1_writing : (Nat → Int32)) (a1_order_size : Int32) (a1_order : (Nat → Int32)) (R : Int32 × Int32 × Int32 × Int32 × (Nat → Int32) × (Nat → Int32) × Int32 × (Nat → Int32)) (hf : f_X2_seek size writingBits found mostWorth worths tried_size tried best_size best a1_size a1_year a1_kinds a1_figures a1_styles a1_writing a1_order = some R) : CtV l yX2_seek cX2_seek 4 none 11 D cI aS [.ref (ad 0), .ref (da1 0)] (wd_X2_seek cI ad da1 size writingBits found mostWorth worths_size worths tried_size tried best_size best a1_size a1_year a1_kinds_size a1_kinds a1_figures_size a1_figures a1_styles_size a1_styles a1_writing_size a1_writing a1_order_size a1_order) (wd_X2_seek cI ad da1 R.1 R.2.1 R.2.2.1 R.2.2.2.1 worths_size R.2.2.2.2.1 tried_size R.2.2.2.2.2.1 R.2.2.2.2.2.2.1 R.2.2.2.2.2.2.2 a1_size a1_year a1_kinds_size a1_kinds a1_figures_size a1_figures a1_styles_size a1_styles a1_writing_size a1_writing a1_order_size a1_order) := by
  refine ctV_of (by decide) rfl (Nat.le_of_ble_eq_true rfl) ?_
  intro p e s m below meth c A Q ls X hret hP hD hl
  have hS : va_S A s.heap s.heap [] := va_S.rf
  have hx := X.1
  have hb := X.2.1
  have hl : lv_has ls 4 [(0, .ref (ad 0)), (1, .ref (da1 0))] := hl
  replace hf : ((f_X0_writingBits a1_size a1_writing).bind fun (r10 : Int32) => (if a1_size = 0 then (some (a1_size, r10, (0 : Int32), (0 : Int32), worths, tried, best_size, best)) else (f_X2_seek_36 a1_year a1_kinds a1_figures a1_styles a1_size (fun (worths_85 : (Nat → Int32)) => (f_X2_seek_85 tried_size a1_writing a1_order  a1_size r10 (0 : Int32) (0 : Int32) worths_85 tried best_size best)) FU (0 : Int32) worths))) = some R := hf
  refine lv_aload_n hx hb dX2_seek_0 rfl (lv_at hl 0 rfl) ?_
  refine lv_aload_n hx hb dX2_seek_1 rfl (lv_at hl 1 rfl) ?_
  refine fgX2_40 X hP (q0 := 7) rfl rfl dX2_seek_2 ?_
  refine fpX2_26 X hP hD hS (q0 := 0) (ws' := (wd_X2_seek cI ad da1 a1_size writingBits found mostWorth worths_size worths tried_size tried best_size best a1_size a1_year a1_kinds_size a1_kinds a1_figures_size a1_figures a1_styles_size a1_styles a1_writing_size a1_writing a1_order_size a1_order)) rfl rfl rfl (Nat.le_of_ble_eq_true rfl) rfl dX2_seek_5 (fun H locs hP hD hS => ?_)
  refine lv_aload_n hx hb dX2_seek_8 rfl (lv_at hl 0 rfl) ?_
  refine lv_aload_n hx hb dX2_seek_9 rfl (lv_at hl 1 rfl) ?_
  obtain ⟨r10, hq10, hf⟩ := bS hf
  refine ro_i X hP hD hS [7, 14, 15] rfl (run_N X hP hD hS [7, 14, 15] rfl rfl (c_X0_writingBits l D cI aS da1 a1_size a1_year a1_writing_size a1_writing _ hq10 _) lkX2_43 (by decide) (q0 := 7) rfl rfl rfl rfl (Nat.le_of_ble_eq_true rfl) hl.1 dX2_seek_10) (fun H locs hP hS => ?_)
  refine fpX2_30 X hP hD hS (q0 := 0) (ws' := (wd_X2_seek cI ad da1 a1_size r10 found mostWorth worths_size worths tried_size tried best_size best a1_size a1_year a1_kinds_size a1_kinds a1_figures_size a1_figures a1_styles_size a1_styles a1_writing_size a1_writing a1_order_size a1_order)) rfl rfl rfl (Nat.le_of_ble_eq_true rfl) rfl dX2_seek_13 (fun H locs hP hD hS => ?_)
  refine lv_aload_n hx hb dX2_seek_16 rfl (lv_at hl 0 rfl) ?_
  refine lv_iconst (v := 0) hx hb dX2_seek_17 (by decide) ?_
  refine fpX2_33 X hP hD hS (q0 := 0) (ws' := (wd_X2_seek cI ad da1 a1_size r10 (0 : Int32) mostWorth worths_size worths tried_size tried best_size best a1_size a1_year a1_kinds_size a1_kinds a1_figures_size a1_figures a1_styles_size a1_styles a1_writing_size a1_writing a1_order_size a1_order)) rfl rfl rfl (Nat.le_of_ble_eq_true rfl) rfl dX2_seek_18 (fun H locs hP hD hS => ?_)
  refine lv_aload_n hx hb dX2_seek_21 rfl (lv_at hl 0 rfl) ?_
  refine lv_iconst (v := 0) hx hb dX2_seek_22 (by decide) ?_
  refine fpX2_37 X hP hD hS (q0 := 0) (ws' := (wd_X2_seek cI ad da1 a1_size r10 (0 : Int32) (0 : Int32) worths_size worths tried_size tried best_size best a1_size a1_year a1_kinds_size a1_kinds a1_figures_size a1_figures a1_styles_size a1_styles a1_writing_size a1_writing a1_order_size a1_order)) rfl rfl rfl (Nat.le_of_ble_eq_true rfl) rfl dX2_seek_23 (fun H locs hP hD hS => ?_)
  refine lv_aload_n hx hb dX2_seek_26 rfl (lv_at hl 0 rfl) ?_
  refine fgX2_26 X hP (q0 := 0) rfl rfl dX2_seek_27 ?_
  refine lv_if_ne (tgt := 34) hx hb dX2_seek_30 (by decide) (fun c30 => ?_) (fun c30 => ?_)
  · have hf := iF c30 hf
    refine lv_iconst (v := 0) hx hb dX2_seek_34 (by decide) ?_
    refine lv_istore_n (lv' := [(2, .int (0 : Int32)), (0, .ref (ad 0)), (1, .ref (da1 0))]) hx hb dX2_seek_35 rfl hl (by decide) rfl (fun ls hl => ?_)
    exact w_X2_seek_36 ad da1 worths_size tried_size a1_size a1_year a1_kinds_size a1_kinds a1_figures_size a1_figures a1_styles_size a1_styles a1_writing_size a1_writing a1_order_size a1_order a1_size r10 (0 : Int32) (0 : Int32) tried best_size best X hret _ (fun worths_85 _ _ _ hf hl hP hD hS => w_X2_seek_85 ad da1 worths_size tried_size a1_size a1_year a1_kinds_size a1_kinds a1_figures_size a1_figures a1_styles_size a1_styles a1_writing_size a1_writing a1_order_size a1_order X hret  a1_size r10 (0 : Int32) (0 : Int32) worths_85 tried best_size best _ _ _ hf (lv_sub hl [0, 1] rfl) hP hD hS) _ (0 : Int32) worths _ _ _ hf (lv_sub hl [1, 2, 0] rfl) hP hD hS
  · have hf := iT c30 hf
    have hR := Option.some.inj hf
    subst hR
    exact hret _ _ _ _ hP hD hS dX2_seek_33
