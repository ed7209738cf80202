abbrev wd_X0_addFame (cI : ClassId) (ad : Nat → Nat) (size : Int32) (year : Int32) (fames_size : Int32) (fames : (Nat → Int32)) : va_W := [((ad 0), .inr (0, [.ref (ad 1), .ref (ad 3), .ref (ad 5), .ref (ad 7), .ref (ad 9), .ref (ad 11), .ref (ad 13), .int size, .int year])), ((ad 7), .inr (3, [.ref (ad 8), .int fames_size])), ((ad 8), .inl (cI, 7, .inl fames))]
def f_X0_addFame (fames : (Nat → Int32)) (x1 : Int32) (x2 : Int32) : Option ((Nat → Int32)) := ((f_X3_get 7 fames x1).bind fun (r13 : Int32) => ((f_X3_set 7 fames x1 (maxI (0 : Int32) (minI (99 : Int32) (r13 + x2)))).bind fun (r24 : (Nat → Int32)) => (some r24)))
set_option maxHeartbeats 4000000 in
set_option maxRecDepth 100000 in
theorem c_X0_addFame (l : Launch) (D : va_G) (cI : ClassId) (aS : aSt) (ad : Nat → Nat) (size : Int32) (year : Int32) (fames_size : Int32) (fames : (Nat → Int32)) (x1 : Int32) (x2 : Int32) (R : (Nat → Int32)) (hf : f_X0_addFame fames x1 x2 = some R) : CtV l yX0_addFame cX0_addFame 3 none 6 D cI aS [.ref (ad 0), .int x1, .int x2] (wd_X0_addFame cI ad size year fames_size fames) (wd_X0_addFame cI ad size year fames_size R) := by
  refine ctV_of (by decide) rfl (Nat.le_of_ble_eq_true rfl) ?_
  intro p e s m below meth c A Q ls X hret hP hD hl
  have hS : va_S A s.heap s.heap [] := va_S.rf
  have hx := X.1
  have hb := X.2.1
  have hl : lv_has ls 3 [(0, .ref (ad 0)), (1, .int x1), (2, .int x2)] := hl
  replace hf : ((f_X3_get 7 fames x1).bind fun (r13 : Int32) => ((f_X3_set 7 fames x1 (maxI (0 : Int32) (minI (99 : Int32) (r13 + x2)))).bind fun (r24 : (Nat → Int32)) => (some r24))) = some R := hf
  refine lv_aload_n hx hb dX0_addFame_0 rfl (lv_at hl 0 rfl) ?_
  refine fgX0_26 X hP (q0 := 0) rfl rfl dX0_addFame_1 ?_
  refine lv_iload_n hx hb dX0_addFame_4 rfl (lv_at hl 1 rfl) ?_
  refine lv_iconst (v := 0) hx hb dX0_addFame_5 (by decide) ?_
  refine lv_bipush (v := 99) hx hb dX0_addFame_6 (by decide) ?_
  refine lv_aload_n hx hb dX0_addFame_8 rfl (lv_at hl 0 rfl) ?_
  refine fgX0_26 X hP (q0 := 0) rfl rfl dX0_addFame_9 ?_
  refine lv_iload_n hx hb dX0_addFame_12 rfl (lv_at hl 1 rfl) ?_
  obtain ⟨r13, hq13, hf⟩ := bS hf
  refine ro_i X hP hD hS [1, 2] rfl (run_N X hP hD hS [1, 2] rfl rfl (c_X3_get l D cI aS (fun k => ad (7 + k)) 7 fames_size fames x1 _ hq13 _) lkX0_60 (by decide) (q0 := 1) rfl rfl rfl rfl (Nat.le_of_ble_eq_true rfl) hl.1 dX0_addFame_13) (fun H locs hP hS => ?_)
  refine lv_iload_n hx hb dX0_addFame_16 rfl (lv_at hl 2 rfl) ?_
  refine lv_iadd hx hb dX0_addFame_17 ?_
  refine x_mmin X mw_518 mw_384 mw_105 mw_385 (by decide) hl.1 (Nat.le_of_ble_eq_true rfl) dX0_addFame_18 ?_
  refine x_mmax X mw_519 mw_136 mw_105 mw_137 (by decide) hl.1 (Nat.le_of_ble_eq_true rfl) dX0_addFame_21 ?_
  obtain ⟨r24, hq24, hf⟩ := bS hf
  refine wr_v X hP hD hS [1, 2] rfl (ws' := (wd_X0_addFame cI ad size year fames_size r24)) (Nat.le_of_ble_eq_true rfl) rfl rfl (run_N X hP hD hS [1, 2] rfl rfl (c_X3_set l D cI aS (fun k => ad (7 + k)) 7 fames_size fames x1 (maxI (0 : Int32) (minI (99 : Int32) (r13 + x2))) _ hq24 _) lkX0_49 (by decide) (q0 := 1) rfl rfl rfl rfl (Nat.le_of_ble_eq_true rfl) hl.1 dX0_addFame_24) (fun H locs hP hD hS => ?_)
  have hR := Option.some.inj hf
  subst hR
  exact hret _ _ _ _ hP hD hS dX0_addFame_27

abbrev wd_X0_isWriting (cI : ClassId) (ad : Nat → Nat) (size : Int32) (year : Int32) (writing_size : Int32) (writing : (Nat → Int32)) : va_W := [((ad 0), .inr (0, [.ref (ad 1), .ref (ad 3), .ref (ad 5), .ref (ad 7), .ref (ad 9), .ref (ad 11), .ref (ad 13), .int size, .int year])), ((ad 9), .inr (3, [.ref (ad 10), .int writing_size])), ((ad 10), .inl (cI, 7, .inl writing))]
def f_X0_isWriting (writing : (Nat → Int32)) (x1 : Int32) : Option (Int32) := ((f_X3_get 7 writing x1).bind fun (r5 : Int32) => (if r5 = (1 : Int32) then (some (1 : Int32)) else (some (0 : Int32))))
set_option maxHeartbeats 4000000 in
set_option maxRecDepth 100000 in
theorem c_X0_isWriting (l : Launch) (D : va_G) (cI : ClassId) (aS : aSt) (ad : Nat → Nat) (size : Int32) (year : Int32) (writing_size : Int32) (writing : (Nat → Int32)) (x1 : Int32) (R : Int32) (hf : f_X0_isWriting writing x1 = some R) : CtI l yX0_isWriting cX0_isWriting 2 (some .boolean) 1 D cI aS [.ref (ad 0), .int x1] (wd_X0_isWriting cI ad size year writing_size writing) (wd_X0_isWriting cI ad size year writing_size writing) R := by
  refine ctI_of (by decide) ⟨_, rfl⟩ (Nat.le_of_ble_eq_true rfl) ?_
  intro p e s m below meth c A Q ls X hret hP hD hl
  have hS : va_S A s.heap s.heap [] := va_S.rf
  have hx := X.1
  have hb := X.2.1
  have hl : lv_has ls 2 [(0, .ref (ad 0)), (1, .int x1)] := hl
  replace hf : ((f_X3_get 7 writing x1).bind fun (r5 : Int32) => (if r5 = (1 : Int32) then (some (1 : Int32)) else (some (0 : Int32)))) = some R := hf
  refine lv_aload_n hx hb dX0_isWriting_0 rfl (lv_at hl 0 rfl) ?_
  refine fgX0_29 X hP (q0 := 0) rfl rfl dX0_isWriting_1 ?_
  refine lv_iload_n hx hb dX0_isWriting_4 rfl (lv_at hl 1 rfl) ?_
  obtain ⟨r5, hq5, hf⟩ := bS hf
  refine ro_i X hP hD hS [1, 2] rfl (run_N X hP hD hS [1, 2] rfl rfl (c_X3_get l D cI aS (fun k => ad (9 + k)) 7 writing_size writing x1 _ hq5 _) lkX0_60 (by decide) (q0 := 1) rfl rfl rfl rfl (Nat.le_of_ble_eq_true rfl) hl.1 dX0_isWriting_5) (fun H locs hP hS => ?_)
  refine lv_iconst (v := 1) hx hb dX0_isWriting_8 (by decide) ?_
  refine lv_icmp_ne (tgt := 16) hx hb dX0_isWriting_9 (by decide) (fun c9 => ?_) (fun c9 => ?_)
  · have hf := iF c9 hf
    refine lv_iconst (v := 0) hx hb dX0_isWriting_16 (by decide) ?_
    have hR := Option.some.inj hf
    subst hR
    exact hret _ _ _ _ _ rfl (fun _ hn => by cases hn; rfl) hP hD hS dX0_isWriting_17
  · have hf := iT c9 hf
    refine lv_iconst (v := 1) hx hb dX0_isWriting_12 (by decide) ?_
    refine lv_goto (tgt := 17) hx hb dX0_isWriting_13 (by decide) ?_
    have hR := Option.some.inj hf
    subst hR
    exact hret _ _ _ _ _ rfl (fun _ hn => by cases hn; rfl) hP hD hS dX0_isWriting_17

abbrev wd_X0_tellEnders (cI : ClassId) (ad : Nat → Nat) (size : Int32) (year : Int32) (writing_size : Int32) (writing : (Nat → Int32)) (order_size : Int32) (order : (Nat → Int32)) (enders_size : Int32) (enders : (Nat → Int32)) : va_W := [((ad 0), .inr (0, [.ref (ad 1), .ref (ad 3), .ref (ad 5), .ref (ad 7), .ref (ad 9), .ref (ad 11), .ref (ad 13), .int size, .int year])), ((ad 9), .inr (3, [.ref (ad 10), .int writing_size])), ((ad 10), .inl (cI, 7, .inl writing)), ((ad 11), .inr (3, [.ref (ad 12), .int order_size])), ((ad 12), .inl (cI, 7, .inl order)), ((ad 13), .inr (3, [.ref (ad 14), .int enders_size])), ((ad 14), .inl (cI, 7, .inl enders))]
def f_X0_tellEnders_71  (kL12 : Int32 → Int32 → (Nat → Int32) → Option ((Nat → Int32))) (v1_71 : Int32) (v2_71 : Int32) (enders_71 : (Nat → Int32)) : Option ((Nat → Int32)) := (kL12 v1_71 (v2_71 + (-1 : Int32)) enders_71)
def f_X0_tellEnders_58 (writing : (Nat → Int32)) (kL12 : Int32 → Int32 → (Nat → Int32) → Option ((Nat → Int32))) (v1_58 : Int32) (v2_58 : Int32) (v3_58 : Int32) (enders_58 : (Nat → Int32)) (t1_58 : Int32) (t2_58 : Int32) : Option ((Nat → Int32)) := ((f_X3_set 7 enders_58 t1_58 t2_58).bind fun (r58 : (Nat → Int32)) => ((f_X0_isWriting writing v3_58).bind fun (r63 : Int32) => (if r63 = 0 then (f_X0_tellEnders_71  kL12 v1_58 v2_58 r58) else (f_X0_tellEnders_71  kL12 v3_58 v2_58 r58))))
def f_X0_tellEnders_38 (writing : (Nat → Int32)) (order : (Nat → Int32)) (kL12 : Int32 → Int32 → (Nat → Int32) → Option ((Nat → Int32))) (v1_38 : Int32) (v2_38 : Int32) (enders_38 : (Nat → Int32)) (t1_38 : Int32) : Option ((Nat → Int32)) := ((f_X3_get 7 order t1_38).bind fun (r38 : Int32) => (if v1_38 = r38 then (f_X0_tellEnders_58 writing kL12 v1_38 v2_38 r38 enders_38 r38 (-9 : Int32)) else (f_X0_tellEnders_58 writing kL12 v1_38 v2_38 r38 enders_38 r38 v1_38)))
def f_X0_tellEnders_12 (size : Int32) (writing : (Nat → Int32)) (order : (Nat → Int32))  : Nat → Int32 → Int32 → (Nat → Int32) → Option ((Nat → Int32))
  | 0 => fun _ _ _ => none
  | fuel + 1 => fun v1_12 v2_12 enders_12 => (if v2_12 < 0 then (some enders_12) else (if size ≤ v2_12 then (f_X0_tellEnders_38 writing order (f_X0_tellEnders_12 size writing order  fuel) v1_12 v2_12 enders_12 (v2_12 - size)) else (f_X0_tellEnders_38 writing order (f_X0_tellEnders_12 size writing order  fuel) v1_12 v2_12 enders_12 v2_12)))
theorem e_X0_tellEnders_12 (size : Int32) (writing : (Nat → Int32)) (order : (Nat → Int32))  (fuel : Nat) (v1_12 : Int32) (v2_12 : Int32) (enders_12 : (Nat → Int32)) : f_X0_tellEnders_12 size writing order  (fuel + 1) v1_12 v2_12 enders_12 = (if v2_12 < 0 then (some enders_12) else (if size ≤ v2_12 then (f_X0_tellEnders_38 writing order (f_X0_tellEnders_12 size writing order  fuel) v1_12 v2_12 enders_12 (v2_12 - size)) else (f_X0_tellEnders_38 writing order (f_X0_tellEnders_12 size writing order  fuel) v1_12 v2_12 enders_12 v2_12))) := rfl
def f_X0_tellEnders (size : Int32) (writing : (Nat → Int32)) (order : (Nat → Int32)) (enders : (Nat → Int32)) : Option ((Nat → Int32)) := (f_X0_tellEnders_12 size writing order  FU (-9 : Int32) (((2 : Int32) * size) - (1 : Int32)) enders)
set_option maxHeartbeats 4000000 in
set_option maxRecDepth 100000 in
theorem w_X0_tellEnders_71 {p : Program} {l : Launch} {e : Env} {s : State} {m : MethodId} {args : Array Value} {below : List Frame} {meth : Method} {c : Code} {D : va_G} {cI : ClassId} {aS : aSt} {A : Nat → Prop} {Q : State → Prop}  (ad : Nat → Nat) (size : Int32) (year : Int32) (writing_size : Int32) (writing : (Nat → Int32)) (order_size : Int32) (order : (Nat → Int32)) (enders_size : Int32) {R : (Nat → Int32)} (X : Bx p s m args meth c cX0_tellEnders 4 none RX0 D cI aS A) (hret : RtV p l e 2 s m args below meth c cX0_tellEnders D A (wd_X0_tellEnders cI ad size year writing_size writing order_size order enders_size R) Q) (kL12 : Int32 → Int32 → (Nat → Int32) → Option ((Nat → Int32))) (hkL12 : ∀ (v1_12 : Int32) (v2_12 : Int32) (enders_12 : (Nat → Int32)) (H : Heap) (locs : List Loc) (ls : Array Slot), kL12 v1_12 v2_12 enders_12 = some R → lv_has ls 4 [(0, .ref (ad 0)), (1, .int v1_12), (2, .int v2_12)] → va_P D vwCl (wd_X0_tellEnders cI ad size year writing_size writing order_size order enders_size enders_12) H → va_D A (wd_X0_tellEnders cI ad size year writing_size writing order_size order enders_size enders_12) → va_S A s.heap H locs → Wh p l e 2 s m args below meth c H locs Q (F0 m 12 ls [])) : ∀ (v1_71 : Int32) (v2_71 : Int32) (enders_71 : (Nat → Int32)) (H : Heap) (locs : List Loc) (ls : Array Slot), f_X0_tellEnders_71  kL12 v1_71 v2_71 enders_71 = some R → lv_has ls 4 [(0, .ref (ad 0)), (1, .int v1_71), (2, .int v2_71)] → va_P D vwCl (wd_X0_tellEnders cI ad size year writing_size writing order_size order enders_size enders_71) H → va_D A (wd_X0_tellEnders cI ad size year writing_size writing order_size order enders_size enders_71) → va_S A s.heap H locs → Wh p l e 2 s m args below meth c H locs Q (F0 m 71 ls []) := by
  have hx := X.1
  have hb := X.2.1
  intro v1_71 v2_71 enders_71 H locs ls hf hl hP hD hS
  replace hf : (kL12 v1_71 (v2_71 + (-1 : Int32)) enders_71) = some R := hf
  refine lv_iinc (v := (v2_71 + (-1 : Int32))) (lv' := [(2, .int (v2_71 + (-1 : Int32))), (0, .ref (ad 0)), (1, .int v1_71)]) hx hb dX0_tellEnders_71 hl (k := 2) rfl rfl (by decide) rfl (fun ls hl => ?_)
  refine lv_goto (tgt := 12) hx hb dX0_tellEnders_74 (by decide) ?_
  exact hkL12 v1_71 (v2_71 + (-1 : Int32)) enders_71 _ _ _ hf (lv_sub hl [1, 2, 0] rfl) hP hD hS
set_option maxHeartbeats 4000000 in
set_option maxRecDepth 100000 in
theorem w_X0_tellEnders_58 {p : Program} {l : Launch} {e : Env} {s : State} {m : MethodId} {args : Array Value} {below : List Frame} {meth : Method} {c : Code} {D : va_G} {cI : ClassId} {aS : aSt} {A : Nat → Prop} {Q : State → Prop}  (ad : Nat → Nat) (size : Int32) (year : Int32) (writing_size : Int32) (writing : (Nat → Int32)) (order_size : Int32) (order : (Nat → Int32)) (enders_size : Int32) {R : (Nat → Int32)} (X : Bx p s m args meth c cX0_tellEnders 4 none RX0 D cI aS A) (hret : RtV p l e 2 s m args below meth c cX0_tellEnders D A (wd_X0_tellEnders cI ad size year writing_size writing order_size order enders_size R) Q) (kL12 : Int32 → Int32 → (Nat → Int32) → Option ((Nat → Int32))) (hkL12 : ∀ (v1_12 : Int32) (v2_12 : Int32) (enders_12 : (Nat → Int32)) (H : Heap) (locs : List Loc) (ls : Array Slot), kL12 v1_12 v2_12 enders_12 = some R → lv_has ls 4 [(0, .ref (ad 0)), (1, .int v1_12), (2, .int v2_12)] → va_P D vwCl (wd_X0_tellEnders cI ad size year writing_size writing order_size order enders_size enders_12) H → va_D A (wd_X0_tellEnders cI ad size year writing_size writing order_size order enders_size enders_12) → va_S A s.heap H locs → Wh p l e 2 s m args below meth c H locs Q (F0 m 12 ls [])) : ∀ (v1_58 : Int32) (v2_58 : Int32) (v3_58 : Int32) (enders_58 : (Nat → Int32)) (t1_58 : Int32) (t2_58 : Int32) (H : Heap) (locs : List Loc) (ls : Array Slot), f_X0_tellEnders_58 writing kL12 v1_58 v2_58 v3_58 enders_58 t1_58 t2_58 = some R → lv_has ls 4 [(0, .ref (ad 0)), (1, .int v1_58), (2, .int v2_58), (3, .int v3_58)] → va_P D vwCl (wd_X0_tellEnders cI ad size year writing_size writing order_size order enders_size enders_58) H → va_D A (wd_X0_tellEnders cI ad size year writing_size writing order_size order enders_size enders_58) → va_S A s.heap H locs → Wh p l e 2 s m args below meth c H locs Q (F0 m 58 ls [.int t2_58, .int t1_58, .ref (ad 13)]) := by
  have hx := X.1
  have hb := X.2.1
  intro v1_58 v2_58 v3_58 enders_58 t1_58 t2_58 H locs ls hf hl hP hD hS
  replace hf : ((f_X3_set 7 enders_58 t1_58 t2_58).bind fun (r58 : (Nat → Int32)) => ((f_X0_isWriting writing v3_58).bind fun (r63 : Int32) => (if r63 = 0 then (f_X0_tellEnders_71  kL12 v1_58 v2_58 r58) else (f_X0_tellEnders_71  kL12 v3_58 v2_58 r58)))) = some R := hf
  obtain ⟨r58, hq58, hf⟩ := bS hf
  refine wr_v X hP hD hS [5, 6] rfl (ws' := (wd_X0_tellEnders cI ad size year writing_size writing order_size order enders_size r58)) (Nat.le_of_ble_eq_true rfl) rfl rfl (run_N X hP hD hS [5, 6] rfl rfl (c_X3_set l D cI aS (fun k => ad (13 + k)) 7 enders_size enders_58 t1_58 t2_58 _ hq58 _) lkX0_49 (by decide) (q0 := 5) rfl rfl rfl rfl (Nat.le_of_ble_eq_true rfl) hl.1 dX0_tellEnders_58) (fun H locs hP hD hS => ?_)
  refine lv_aload_n hx hb dX0_tellEnders_61 rfl (lv_at hl 0 rfl) ?_
  refine lv_iload_n hx hb dX0_tellEnders_62 rfl (lv_at hl 3 rfl) ?_
  obtain ⟨r63, hq63, hf⟩ := bS hf
  refine ro_i X hP hD hS [0, 1, 2] rfl (run_V X hP hD hS [0, 1, 2] rfl rfl (c_X0_isWriting l D cI aS ad size year writing_size writing v3_58 _ hq63 _) lkX0_73 (by decide) (q0 := 0) rfl rfl rfl rfl (Nat.le_of_ble_eq_true rfl) hl.1 dX0_tellEnders_63) (fun H locs hP hS => ?_)
  refine lv_if_eq (tgt := 71) hx hb dX0_tellEnders_66 (by decide) (fun c66 => ?_) (fun c66 => ?_)
  · have hf := iT c66 hf
    exact w_X0_tellEnders_71 ad size year writing_size writing order_size order enders_size X hret _ hkL12 v1_58 v2_58 r58 _ _ _ hf (lv_sub hl [0, 1, 2] rfl) hP hD hS
  · have hf := iF c66 hf
    refine lv_iload_n hx hb dX0_tellEnders_69 rfl (lv_at hl 3 rfl) ?_
    refine lv_istore_n (lv' := [(1, .int v3_58), (0, .ref (ad 0)), (2, .int v2_58), (3, .int v3_58)]) hx hb dX0_tellEnders_70 rfl hl (by decide) rfl (fun ls hl => ?_)
    exact w_X0_tellEnders_71 ad size year writing_size writing order_size order enders_size X hret _ hkL12 v3_58 v2_58 r58 _ _ _ hf (lv_sub hl [1, 0, 2] rfl) hP hD hS
set_option maxHeartbeats 4000000 in
set_option maxRecDepth 100000 in
theorem w_X0_tellEnders_38 {p : Program} {l : Launch} {e : Env} {s : State} {m : MethodId} {args : Array Value} {below : List Frame} {meth : Method} {c : Code} {D : va_G} {cI : ClassId} {aS : aSt} {A : Nat → Prop} {Q : State → Prop}  (ad : Nat → Nat) (size : Int32) (year : Int32) (writing_size : Int32) (writing : (Nat → Int32)) (order_size : Int32) (order : (Nat → Int32)) (enders_size : Int32) {R : (Nat → Int32)} (X : Bx p s m args meth c cX0_tellEnders 4 none RX0 D cI aS A) (hret : RtV p l e 2 s m args below meth c cX0_tellEnders D A (wd_X0_tellEnders cI ad size year writing_size writing order_size order enders_size R) Q) (kL12 : Int32 → Int32 → (Nat → Int32) → Option ((Nat → Int32))) (hkL12 : ∀ (v1_12 : Int32) (v2_12 : Int32) (enders_12 : (Nat → Int32)) (H : Heap) (locs : List Loc) (ls : Array Slot), kL12 v1_12 v2_12 enders_12 = some R → lv_has ls 4 [(0, .ref (ad 0)), (1, .int v1_12), (2, .int v2_12)] → va_P D vwCl (wd_X0_tellEnders cI ad size year writing_size writing order_size order enders_size enders_12) H → va_D A (wd_X0_tellEnders cI ad size year writing_size writing order_size order enders_size enders_12) → va_S A s.heap H locs → Wh p l e 2 s m args below meth c H locs Q (F0 m 12 ls [])) : ∀ (v1_38 : Int32) (v2_38 : Int32) (enders_38 : (Nat → Int32)) (t1_38 : Int32) (H : Heap) (locs : List Loc) (ls : Array Slot), f_X0_tellEnders_38 writing order kL12 v1_38 v2_38 enders_38 t1_38 = some R → lv_has ls 4 [(0, .ref (ad 0)), (1, .int v1_38), (2, .int v2_38)] → va_P D vwCl (wd_X0_tellEnders cI ad size year writing_size writing order_size order enders_size enders_38) H → va_D A (wd_X0_tellEnders cI ad size year writing_size writing order_size order enders_size enders_38) → va_S A s.heap H locs → Wh p l e 2 s m args below meth c H locs Q (F0 m 38 ls [.int t1_38, .ref (ad 11)]) := by
  have hx := X.1
  have hb := X.2.1
  intro v1_38 v2_38 enders_38 t1_38 H locs ls hf hl hP hD hS
  replace hf : ((f_X3_get 7 order t1_38).bind fun (r38 : Int32) => (if v1_38 = r38 then (f_X0_tellEnders_58 writing kL12 v1_38 v2_38 r38 enders_38 r38 (-9 : Int32)) else (f_X0_tellEnders_58 writing kL12 v1_38 v2_38 r38 enders_38 r38 v1_38))) = some R := hf
  obtain ⟨r38, hq38, hf⟩ := bS hf
  refine ro_i X hP hD hS [3, 4] rfl (run_N X hP hD hS [3, 4] rfl rfl (c_X3_get l D cI aS (fun k => ad (11 + k)) 7 order_size order t1_38 _ hq38 _) lkX0_60 (by decide) (q0 := 3) rfl rfl rfl rfl (Nat.le_of_ble_eq_true rfl) hl.1 dX0_tellEnders_38) (fun H locs hP hS => ?_)
  refine lv_istore_n (lv' := [(3, .int r38), (0, .ref (ad 0)), (1, .int v1_38), (2, .int v2_38)]) hx hb dX0_tellEnders_41 rfl hl (by decide) rfl (fun ls hl => ?_)
  refine lv_aload_n hx hb dX0_tellEnders_42 rfl (lv_at hl 1 rfl) ?_
  refine fgX0_35 X hP (q0 := 0) rfl rfl dX0_tellEnders_43 ?_
  refine lv_iload_n hx hb dX0_tellEnders_46 rfl (lv_at hl 0 rfl) ?_
  refine lv_iload_n hx hb dX0_tellEnders_47 rfl (lv_at hl 2 rfl) ?_
  refine lv_iload_n hx hb dX0_tellEnders_48 rfl (lv_at hl 0 rfl) ?_
  refine lv_icmp_ne (tgt := 57) hx hb dX0_tellEnders_49 (by decide) (fun c49 => ?_) (fun c49 => ?_)
  · have hf := iF c49 hf
    refine lv_iload_n hx hb dX0_tellEnders_57 rfl (lv_at hl 2 rfl) ?_
    exact w_X0_tellEnders_58 ad size year writing_size writing order_size order enders_size X hret _ hkL12 v1_38 v2_38 r38 enders_38 r38 v1_38 _ _ _ hf (lv_sub hl [1, 2, 3, 0] rfl) hP hD hS
  · have hf := iT c49 hf
    refine lv_bipush (v := -9) hx hb dX0_tellEnders_52 (by decide) ?_
    refine lv_goto (tgt := 58) hx hb dX0_tellEnders_54 (by decide) ?_
    exact w_X0_tellEnders_58 ad size year writing_size writing order_size order enders_size X hret _ hkL12 v1_38 v2_38 r38 enders_38 r38 (-9 : Int32) _ _ _ hf (lv_sub hl [1, 2, 3, 0] rfl) hP hD hS
set_option maxHeartbeats 4000000 in
set_option maxRecDepth 100000 in
theorem w_X0_tellEnders_12 {p : Program} {l : Launch} {e : Env} {s : State} {m : MethodId} {args : Array Value} {below : List Frame} {meth : Method} {c : Code} {D : va_G} {cI : ClassId} {aS : aSt} {A : Nat → Prop} {Q : State → Prop}  (ad : Nat → Nat) (size : Int32) (year : Int32) (writing_size : Int32) (writing : (Nat → Int32)) (order_size : Int32) (order : (Nat → Int32)) (enders_size : Int32) {R : (Nat → Int32)} (X : Bx p s m args meth c cX0_tellEnders 4 none RX0 D cI aS A) (hret : RtV p l e 2 s m args below meth c cX0_tellEnders D A (wd_X0_tellEnders cI ad size year writing_size writing order_size order enders_size R) Q) : ∀ (fuel : Nat) (v1_12 : Int32) (v2_12 : Int32) (enders_12 : (Nat → Int32)) (H : Heap) (locs : List Loc) (ls : Array Slot), f_X0_tellEnders_12 size writing order  fuel v1_12 v2_12 enders_12 = some R → lv_has ls 4 [(0, .ref (ad 0)), (1, .int v1_12), (2, .int v2_12)] → va_P D vwCl (wd_X0_tellEnders cI ad size year writing_size writing order_size order enders_size enders_12) H → va_D A (wd_X0_tellEnders cI ad size year writing_size writing order_size order enders_size enders_12) → va_S A s.heap H locs → Wh p l e 2 s m args below meth c H locs Q (F0 m 12 ls []) := by
  have hx := X.1
  have hb := X.2.1
  intro fuel
  induction fuel with
  | zero =>
    intro v1_12 v2_12 enders_12 H locs ls hf hl hP hD hS
    cases hf
  | succ fuel ih =>
    intro v1_12 v2_12 enders_12 H locs ls hf hl hP hD hS
    replace hf : (if v2_12 < 0 then (some enders_12) else (if size ≤ v2_12 then (f_X0_tellEnders_38 writing order (f_X0_tellEnders_12 size writing order  fuel) v1_12 v2_12 enders_12 (v2_12 - size)) else (f_X0_tellEnders_38 writing order (f_X0_tellEnders_12 size writing order  fuel) v1_12 v2_12 enders_12 v2_12))) = some R := hf
    refine lv_iload_n hx hb dX0_tellEnders_12 rfl (lv_at hl 2 rfl) ?_
    refine lv_if_lt (tgt := 77) hx hb dX0_tellEnders_13 (by decide) (fun c13 => ?_) (fun c13 => ?_)
    · have hf := iT c13 hf
      have hR := Option.some.inj hf
      subst hR
      exact hret _ _ _ _ hP hD hS dX0_tellEnders_77
    · have hf := iF c13 hf
      refine lv_aload_n hx hb dX0_tellEnders_16 rfl (lv_at hl 0 rfl) ?_
      refine fgX0_32 X hP (q0 := 0) rfl rfl dX0_tellEnders_17 ?_
      refine lv_iload_n hx hb dX0_tellEnders_20 rfl (lv_at hl 2 rfl) ?_
      refine lv_aload_n hx hb dX0_tellEnders_21 rfl (lv_at hl 0 rfl) ?_
      refine fgX0_38 X hP (q0 := 0) rfl rfl dX0_tellEnders_22 ?_
      refine lv_icmp_ge (tgt := 32) hx hb dX0_tellEnders_25 (by decide) (fun c25 => ?_) (fun c25 => ?_)
      · have hf := iT c25 hf
        refine lv_iload_n hx hb dX0_tellEnders_32 rfl (lv_at hl 2 rfl) ?_
        refine lv_aload_n hx hb dX0_tellEnders_33 rfl (lv_at hl 0 rfl) ?_
        refine fgX0_38 X hP (q0 := 0) rfl rfl dX0_tellEnders_34 ?_
        refine lv_isub hx hb dX0_tellEnders_37 ?_
        exact w_X0_tellEnders_38 ad size year writing_size writing order_size order enders_size X hret _ ih v1_12 v2_12 enders_12 (v2_12 - size) _ _ _ hf (lv_sub hl [0, 1, 2] rfl) hP hD hS
      · have hf := iF c25 hf
        refine lv_iload_n hx hb dX0_tellEnders_28 rfl (lv_at hl 2 rfl) ?_
        refine lv_goto (tgt := 38) hx hb dX0_tellEnders_29 (by decide) ?_
        exact w_X0_tellEnders_38 ad size year writing_size writing order_size order enders_size X hret _ ih v1_12 v2_12 enders_12 v2_12 _ _ _ hf (lv_sub hl [0, 1, 2] rfl) hP hD hS
set_option maxHeartbeats 4000000 in
set_option maxRecDepth 100000 in
theorem c_X0_tellEnders (l : Launch) (D : va_G) (cI : ClassId) (aS : aSt) (ad : Nat → Nat) (size : Int32) (year : Int32) (writing_size : Int32) (writing : (Nat → Int32)) (order_size : Int32) (order : (Nat → Int32)) (enders_size : Int32) (enders : (Nat → Int32)) (R : (Nat → Int32)) (hf : f_X0_tellEnders size writing order enders = some R) : CtV l yX0_tellEnders cX0_tellEnders 4 none 2 D cI aS [.ref (ad 0)] (wd_X0_tellEnders cI ad size year writing_size writing order_size order enders_size enders) (wd_X0_tellEnders cI ad size year writing_size writing order_size order enders_size R) := by
  refine ctV_of (by decide) rfl (Nat.le_of_ble_eq_true rfl) ?_
  intro p e s m below meth c A Q ls X hret hP hD hl
  have hS : va_S A s.heap s.heap [] := va_S.rf
  have hx := X.1
  have hb := X.2.1
  have hl : lv_has ls 4 [(0, .ref (ad 0))] := hl
  replace hf : (f_X0_tellEnders_12 size writing order  FU (-9 : Int32) (((2 : Int32) * size) - (1 : Int32)) enders) = some R := hf
  refine lv_bipush (v := -9) hx hb dX0_tellEnders_0 (by decide) ?_
  refine lv_istore_n (lv' := [(1, .int (-9 : Int32)), (0, .ref (ad 0))]) hx hb dX0_tellEnders_2 rfl hl (by decide) rfl (fun ls hl => ?_)
  refine lv_iconst (v := 2) hx hb dX0_tellEnders_3 (by decide) ?_
  refine lv_aload_n hx hb dX0_tellEnders_4 rfl (lv_at hl 1 rfl) ?_
  refine fgX0_38 X hP (q0 := 0) rfl rfl dX0_tellEnders_5 ?_
  refine lv_imul hx hb dX0_tellEnders_8 ?_
  refine lv_iconst (v := 1) hx hb dX0_tellEnders_9 (by decide) ?_
  refine lv_isub hx hb dX0_tellEnders_10 ?_
  refine lv_istore_n (lv' := [(2, .int (((2 : Int32) * size) - (1 : Int32))), (1, .int (-9 : Int32)), (0, .ref (ad 0))]) hx hb dX0_tellEnders_11 rfl hl (by decide) rfl (fun ls hl => ?_)
  exact w_X0_tellEnders_12 ad size year writing_size writing order_size order enders_size X hret  _ (-9 : Int32) (((2 : Int32) * size) - (1 : Int32)) enders _ _ _ hf (lv_sub hl [2, 1, 0] rfl) hP hD hS

abbrev wd_X0_addWriter (cI : ClassId) (ad : Nat → Nat) (size : Int32) (year : Int32) (kinds_size : Int32) (kinds : (Nat → Int32)) (figures_size : Int32) (figures : (Nat → Int32)) (styles_size : Int32) (styles : (Nat → Int32)) (fames_size : Int32) (fames : (Nat → Int32)) (writing_size : Int32) (writing : (Nat → Int32)) (order_size : Int32) (order : (Nat → Int32)) (enders_size : Int32) (enders : (Nat → Int32)) : va_W := [((ad 0), .inr (0, [.ref (ad 1), .ref (ad 3), .ref (ad 5), .ref (ad 7), .ref (ad 9), .ref (ad 11), .ref (ad 13), .int size, .int year])), ((ad 1), .inr (3, [.ref (ad 2), .int kinds_size])), ((ad 2), .inl (cI, 7, .inl kinds)), ((ad 3), .inr (3, [.ref (ad 4), .int figures_size])), ((ad 4), .inl (cI, 7, .inl figures)), ((ad 5), .inr (3, [.ref (ad 6), .int styles_size])), ((ad 6), .inl (cI, 7, .inl styles)), ((ad 7), .inr (3, [.ref (ad 8), .int fames_size])), ((ad 8), .inl (cI, 7, .inl fames)), ((ad 9), .inr (3, [.ref (ad 10), .int writing_size])), ((ad 10), .inl (cI, 7, .inl writing)), ((ad 11), .inr (3, [.ref (ad 12), .int order_size])), ((ad 12), .inl (cI, 7, .inl order)), ((ad 13), .inr (3, [.ref (ad 14), .int enders_size])), ((ad 14), .inl (cI, 7, .inl enders))]
def f_X0_addWriter (size : Int32) (kinds : (Nat → Int32)) (figures : (Nat → Int32)) (styles : (Nat → Int32)) (fames : (Nat → Int32)) (writing : (Nat → Int32)) (order : (Nat → Int32)) (enders : (Nat → Int32)) (x1 : Int32) (x2 : Int32) (x3 : Int32) : Option (Int32 × (Nat → Int32) × (Nat → Int32) × (Nat → Int32) × (Nat → Int32) × (Nat → Int32) × (Nat → Int32) × (Nat → Int32)) := (if size < (7 : Int32) then ((f_X3_set 7 kinds size x1).bind fun (r19 : (Nat → Int32)) => ((f_X3_set 7 figures size x2).bind fun (r31 : (Nat → Int32)) => ((f_X3_set 7 styles size x3).bind fun (r43 : (Nat → Int32)) => ((f_X3_set 7 fames size (50 : Int32)).bind fun (r56 : (Nat → Int32)) => ((f_X3_set 7 writing size (1 : Int32)).bind fun (r68 : (Nat → Int32)) => ((f_X3_set 7 order size size).bind fun (r83 : (Nat → Int32)) => ((f_X0_tellEnders (size + (1 : Int32)) r68 r83 enders).bind fun (r97 : (Nat → Int32)) => (some ((size + (1 : Int32)), r19, r31, r43, r56, r68, r83, r97))))))))) else (some (size, kinds, figures, styles, fames, writing, order, enders)))
set_option maxHeartbeats 4000000 in
set_option maxRecDepth 100000 in
theorem c_X0_addWriter (l : Launch) (D : va_G) (cI : ClassId) (aS : aSt) (ad : Nat → Nat) (size : Int32) (year : Int32) (kinds_size : Int32) (kinds : (Nat → Int32)) (figures_size : Int32) (figures : (Nat → Int32)) (styles_size : Int32) (styles : (Nat → Int32)) (fames_size : Int32) (fames : (Nat → Int32)) (writing_size : Int32) (writing : (Nat → Int32)) (order_size : Int32) (order : (Nat → Int32)) (enders_size : Int32) (enders : (Nat → Int32)) (x1 : Int32) (x2 : Int32) (x3 : Int32) (R : Int32 × (Nat → Int32) × (Nat → Int32) × (Nat → Int32) × (Nat → Int32) × (Nat → Int32) × (Nat → Int32) × (Nat → Int32)) (hf : f_X0_addWriter size kinds figures styles fames writing order enders x1 x2 x3 = some R) : CtV l yX0_addWriter cX0_addWriter 4 none 3 D cI aS [.ref (ad 0), .int x1, .int x2, .int x3] (wd_X0_addWriter cI ad size year kinds_size kinds figures_size figures styles_size styles fames_size fames writing_size writing order_size order enders_size enders) (wd_X0_addWriter cI ad R.1 year kinds_size R.2.1 figures_size R.2.2.1 styles_size R.2.2.2.1 fames_size R.2.2.2.2.1 writing_size R.2.2.2.2.2.1 order_size R.2.2.2.2.2.2.1 enders_size R.2.2.2.2.2.2.2) := by
  refine ctV_of (by decide) rfl (Nat.le_of_ble_eq_true rfl) ?_
  intro p e s m below meth c A Q ls X hret hP hD hl
  have hS : va_S A s.heap s.heap [] := va_S.rf
  have hx := X.1
  have hb := X.2.1
  have hl : lv_has ls 4 [(0, .ref (ad 0)), (1, .int x1), (2, .int x2), (3, .int x3)] := hl
  replace hf : (if size < (7 : Int32) then ((f_X3_set 7 kinds size x1).bind fun (r19 : (Nat → Int32)) => ((f_X3_set 7 figures size x2).bind fun (r31 : (Nat → Int32)) => ((f_X3_set 7 styles size x3).bind fun (r43 : (Nat → Int32)) => ((f_X3_set 7 fames size (50 : Int32)).bind fun (r56 : (Nat → Int32)) => ((f_X3_set 7 writing size (1 : Int32)).bind fun (r68 : (Nat → Int32)) => ((f_X3_set 7 order size size).bind fun (r83 : (Nat → Int32)) => ((f_X0_tellEnders (size + (1 : Int32)) r68 r83 enders).bind fun (r97 : (Nat → Int32)) => (some ((size + (1 : Int32)), r19, r31, r43, r56, r68, r83, r97))))))))) else (some (size, kinds, figures, styles, fames, writing, order, enders))) = some R := hf
  refine lv_aload_n hx hb dX0_addWriter_0 rfl (lv_at hl 0 rfl) ?_
  refine fgX0_38 X hP (q0 := 0) rfl rfl dX0_addWriter_1 ?_
  refine lv_bipush (v := 7) hx hb dX0_addWriter_4 (by decide) ?_
  refine lv_icmp_lt (tgt := 10) hx hb dX0_addWriter_6 (by decide) (fun c6 => ?_) (fun c6 => ?_)
  · have hf := iT c6 hf
    refine lv_aload_n hx hb dX0_addWriter_10 rfl (lv_at hl 0 rfl) ?_
    refine fgX0_14 X hP (q0 := 0) rfl rfl dX0_addWriter_11 ?_
    refine lv_aload_n hx hb dX0_addWriter_14 rfl (lv_at hl 0 rfl) ?_
    refine fgX0_38 X hP (q0 := 0) rfl rfl dX0_addWriter_15 ?_
    refine lv_iload_n hx hb dX0_addWriter_18 rfl (lv_at hl 1 rfl) ?_
    obtain ⟨r19, hq19, hf⟩ := bS hf
    refine wr_v X hP hD hS [1, 2] rfl (ws' := (wd_X0_addWriter cI ad size year kinds_size r19 figures_size figures styles_size styles fames_size fames writing_size writing order_size order enders_size enders)) (Nat.le_of_ble_eq_true rfl) rfl rfl (run_N X hP hD hS [1, 2] rfl rfl (c_X3_set l D cI aS (fun k => ad (1 + k)) 7 kinds_size kinds size x1 _ hq19 _) lkX0_49 (by decide) (q0 := 1) rfl rfl rfl rfl (Nat.le_of_ble_eq_true rfl) hl.1 dX0_addWriter_19) (fun H locs hP hD hS => ?_)
    refine lv_aload_n hx hb dX0_addWriter_22 rfl (lv_at hl 0 rfl) ?_
    refine fgX0_20 X hP (q0 := 0) rfl rfl dX0_addWriter_23 ?_
    refine lv_aload_n hx hb dX0_addWriter_26 rfl (lv_at hl 0 rfl) ?_
    refine fgX0_38 X hP (q0 := 0) rfl rfl dX0_addWriter_27 ?_
    refine lv_iload_n hx hb dX0_addWriter_30 rfl (lv_at hl 2 rfl) ?_
    obtain ⟨r31, hq31, hf⟩ := bS hf
    refine wr_v X hP hD hS [3, 4] rfl (ws' := (wd_X0_addWriter cI ad size year kinds_size r19 figures_size r31 styles_size styles fames_size fames writing_size writing order_size order enders_size enders)) (Nat.le_of_ble_eq_true rfl) rfl rfl (run_N X hP hD hS [3, 4] rfl rfl (c_X3_set l D cI aS (fun k => ad (3 + k)) 7 figures_size figures size x2 _ hq31 _) lkX0_49 (by decide) (q0 := 3) rfl rfl rfl rfl (Nat.le_of_ble_eq_true rfl) hl.1 dX0_addWriter_31) (fun H locs hP hD hS => ?_)
    refine lv_aload_n hx hb dX0_addWriter_34 rfl (lv_at hl 0 rfl) ?_
    refine fgX0_23 X hP (q0 := 0) rfl rfl dX0_addWriter_35 ?_
    refine lv_aload_n hx hb dX0_addWriter_38 rfl (lv_at hl 0 rfl) ?_
    refine fgX0_38 X hP (q0 := 0) rfl rfl dX0_addWriter_39 ?_
    refine lv_iload_n hx hb dX0_addWriter_42 rfl (lv_at hl 3 rfl) ?_
    obtain ⟨r43, hq43, hf⟩ := bS hf
    refine wr_v X hP hD hS [5, 6] rfl (ws' := (wd_X0_addWriter cI ad size year kinds_size r19 figures_size r31 styles_size r43 fames_size fames writing_size writing order_size order enders_size enders)) (Nat.le_of_ble_eq_true rfl) rfl rfl (run_N X hP hD hS [5, 6] rfl rfl (c_X3_set l D cI aS (fun k => ad (5 + k)) 7 styles_size styles size x3 _ hq43 _) lkX0_49 (by decide) (q0 := 5) rfl rfl rfl rfl (Nat.le_of_ble_eq_true rfl) hl.1 dX0_addWriter_43) (fun H locs hP hD hS => ?_)
    refine lv_aload_n hx hb dX0_addWriter_46 rfl (lv_at hl 0 rfl) ?_
    refine fgX0_26 X hP (q0 := 0) rfl rfl dX0_addWriter_47 ?_
    refine lv_aload_n hx hb dX0_addWriter_50 rfl (lv_at hl 0 rfl) ?_
    refine fgX0_38 X hP (q0 := 0) rfl rfl dX0_addWriter_51 ?_
    refine lv_bipush (v := 50) hx hb dX0_addWriter_54 (by decide) ?_
    obtain ⟨r56, hq56, hf⟩ := bS hf
    refine wr_v X hP hD hS [7, 8] rfl (ws' := (wd_X0_addWriter cI ad size year kinds_size r19 figures_size r31 styles_size r43 fames_size r56 writing_size writing order_size order enders_size enders)) (Nat.le_of_ble_eq_true rfl) rfl rfl (run_N X hP hD hS [7, 8] rfl rfl (c_X3_set l D cI aS (fun k => ad (7 + k)) 7 fames_size fames size (50 : Int32) _ hq56 _) lkX0_49 (by decide) (q0 := 7) rfl rfl rfl rfl (Nat.le_of_ble_eq_true rfl) hl.1 dX0_addWriter_56) (fun H locs hP hD hS => ?_)
    refine lv_aload_n hx hb dX0_addWriter_59 rfl (lv_at hl 0 rfl) ?_
    refine fgX0_29 X hP (q0 := 0) rfl rfl dX0_addWriter_60 ?_
    refine lv_aload_n hx hb dX0_addWriter_63 rfl (lv_at hl 0 rfl) ?_
    refine fgX0_38 X hP (q0 := 0) rfl rfl dX0_addWriter_64 ?_
    refine lv_iconst (v := 1) hx hb dX0_addWriter_67 (by decide) ?_
    obtain ⟨r68, hq68, hf⟩ := bS hf
    refine wr_v X hP hD hS [9, 10] rfl (ws' := (wd_X0_addWriter cI ad size year kinds_size r19 figures_size r31 styles_size r43 fames_size r56 writing_size r68 order_size order enders_size enders)) (Nat.le_of_ble_eq_true rfl) rfl rfl (run_N X hP hD hS [9, 10] rfl rfl (c_X3_set l D cI aS (fun k => ad (9 + k)) 7 writing_size writing size (1 : Int32) _ hq68 _) lkX0_49 (by decide) (q0 := 9) rfl rfl rfl rfl (Nat.le_of_ble_eq_true rfl) hl.1 dX0_addWriter_68) (fun H locs hP hD hS => ?_)
    refine lv_aload_n hx hb dX0_addWriter_71 rfl (lv_at hl 0 rfl) ?_
    refine fgX0_32 X hP (q0 := 0) rfl rfl dX0_addWriter_72 ?_
    refine lv_aload_n hx hb dX0_addWriter_75 rfl (lv_at hl 0 rfl) ?_
    refine fgX0_38 X hP (q0 := 0) rfl rfl dX0_addWriter_76 ?_
    refine lv_aload_n hx hb dX0_addWriter_79 rfl (lv_at hl 0 rfl) ?_
    refine fgX0_38 X hP (q0 := 0) rfl rfl dX0_addWriter_80 ?_
    obtain ⟨r83, hq83, hf⟩ := bS hf
    refine wr_v X hP hD hS [11, 12] rfl (ws' := (wd_X0_addWriter cI ad size year kinds_size r19 figures_size r31 styles_size r43 fames_size r56 writing_size r68 order_size r83 enders_size enders)) (Nat.le_of_ble_eq_true rfl) rfl rfl (run_N X hP hD hS [11, 12] rfl rfl (c_X3_set l D cI aS (fun k => ad (11 + k)) 7 order_size order size size _ hq83 _) lkX0_49 (by decide) (q0 := 11) rfl rfl rfl rfl (Nat.le_of_ble_eq_true rfl) hl.1 dX0_addWriter_83) (fun H locs hP hD hS => ?_)
    refine lv_aload_n hx hb dX0_addWriter_86 rfl (lv_at hl 0 rfl) ?_
    refine lv_dup hx hb dX0_addWriter_87 rfl ?_
    refine fgX0_38 X hP (q0 := 0) rfl rfl dX0_addWriter_88 ?_
    refine lv_iconst (v := 1) hx hb dX0_addWriter_91 (by decide) ?_
    refine lv_iadd hx hb dX0_addWriter_92 ?_
    refine fpX0_38 X hP hD hS (q0 := 0) (ws' := (wd_X0_addWriter cI ad (size + (1 : Int32)) year kinds_size r19 figures_size r31 styles_size r43 fames_size r56 writing_size r68 order_size r83 enders_size enders)) rfl rfl rfl (Nat.le_of_ble_eq_true rfl) rfl dX0_addWriter_93 (fun H locs hP hD hS => ?_)
    refine lv_aload_n hx hb dX0_addWriter_96 rfl (lv_at hl 0 rfl) ?_
    obtain ⟨r97, hq97, hf⟩ := bS hf
    refine wr_v X hP hD hS [0, 9, 10, 11, 12, 13, 14] rfl (ws' := (wd_X0_addWriter cI ad (size + (1 : Int32)) year kinds_size r19 figures_size r31 styles_size r43 fames_size r56 writing_size r68 order_size r83 enders_size r97)) (Nat.le_of_ble_eq_true rfl) rfl rfl (run_V X hP hD hS [0, 9, 10, 11, 12, 13, 14] rfl rfl (c_X0_tellEnders l D cI aS ad (size + (1 : Int32)) year writing_size r68 order_size r83 enders_size enders _ hq97 _) lkX0_53 (by decide) (q0 := 0) rfl rfl rfl rfl (Nat.le_of_ble_eq_true rfl) hl.1 dX0_addWriter_97) (fun H locs hP hD hS => ?_)
    have hR := Option.some.inj hf
    subst hR
    exact hret _ _ _ _ hP hD hS dX0_addWriter_100
  · have hf := iF c6 hf
    have hR := Option.some.inj hf
    subst hR
    exact hret _ _ _ _ hP hD hS dX0_addWriter_9

abbrev wd_X0_isEnded (cI : ClassId) (ad : Nat → Nat) (size : Int32) (year : Int32) (writing_size : Int32) (writing : (Nat → Int32)) (enders_size : Int32) (enders : (Nat → Int32)) : va_W := [((ad 0), .inr (0, [.ref (ad 1), .ref (ad 3), .ref (ad 5), .ref (ad 7), .ref (ad 9), .ref (ad 11), .ref (ad 13), .int size, .int year])), ((ad 9), .inr (3, [.ref (ad 10), .int writing_size])), ((ad 10), .inl (cI, 7, .inl writing)), ((ad 13), .inr (3, [.ref (ad 14), .int enders_size])), ((ad 14), .inl (cI, 7, .inl enders))]
def f_X0_isEnded (writing : (Nat → Int32)) (enders : (Nat → Int32)) (x1 : Int32) : Option (Int32) := ((f_X0_isWriting writing x1).bind fun (r2 : Int32) => (if r2 = 0 then (some (0 : Int32)) else ((f_X3_get 7 enders x1).bind fun (r13 : Int32) => (if r13 < 0 then (some (0 : Int32)) else (some (1 : Int32))))))
set_option maxHeartbeats 4000000 in
set_option maxRecDepth 100000 in
theorem c_X0_isEnded (l : Launch) (D : va_G) (cI : ClassId) (aS : aSt) (ad : Nat → Nat) (size : Int32) (year : Int32) (writing_size : Int32) (writing : (Nat → Int32)) (enders_size : Int32) (enders : (Nat → Int32)) (x1 : Int32) (R : Int32) (hf : f_X0_isEnded writing enders x1 = some R) : CtI l yX0_isEnded cX0_isEnded 2 (some .boolean) 2 D cI aS [.ref (ad 0), .int x1] (wd_X0_isEnded cI ad size year writing_size writing enders_size enders) (wd_X0_isEnded cI ad size year writing_size writing enders_size enders) R := by
  refine ctI_of (by decide) ⟨_, rfl⟩ (Nat.le_of_ble_eq_true rfl) ?_
  intro p e s m below meth c A Q ls X hret hP hD hl
  have hS : va_S A s.heap s.heap [] := va_S.rf
  have hx := X.1
  have hb := X.2.1
  have hl : lv_has ls 2 [(0, .ref (ad 0)), (1, .int x1)] := hl
  replace hf : ((f_X0_isWriting writing x1).bind fun (r2 : Int32) => (if r2 = 0 then (some (0 : Int32)) else ((f_X3_get 7 enders x1).bind fun (r13 : Int32) => (if r13 < 0 then (some (0 : Int32)) else (some (1 : Int32)))))) = some R := hf
  refine lv_aload_n hx hb dX0_isEnded_0 rfl (lv_at hl 0 rfl) ?_
  refine lv_iload_n hx hb dX0_isEnded_1 rfl (lv_at hl 1 rfl) ?_
  obtain ⟨r2, hq2, hf⟩ := bS hf
  refine ro_i X hP hD hS [0, 1, 2] rfl (run_V X hP hD hS [0, 1, 2] rfl rfl (c_X0_isWriting l D cI aS ad size year writing_size writing x1 _ hq2 _) lkX0_73 (by decide) (q0 := 0) rfl rfl rfl rfl (Nat.le_of_ble_eq_true rfl) hl.1 dX0_isEnded_2) (fun H locs hP hS => ?_)
  refine lv_if_eq (tgt := 23) hx hb dX0_isEnded_5 (by decide) (fun c5 => ?_) (fun c5 => ?_)
  · have hf := iT c5 hf
    refine lv_iconst (v := 0) hx hb dX0_isEnded_23 (by decide) ?_
    have hR := Option.some.inj hf
    subst hR
    exact hret _ _ _ _ _ rfl (fun _ hn => by cases hn; rfl) hP hD hS dX0_isEnded_24
  · have hf := iF c5 hf
    refine lv_aload_n hx hb dX0_isEnded_8 rfl (lv_at hl 0 rfl) ?_
    refine fgX0_35 X hP (q0 := 0) rfl rfl dX0_isEnded_9 ?_
    refine lv_iload_n hx hb dX0_isEnded_12 rfl (lv_at hl 1 rfl) ?_
    obtain ⟨r13, hq13, hf⟩ := bS hf
    refine ro_i X hP hD hS [3, 4] rfl (run_N X hP hD hS [3, 4] rfl rfl (c_X3_get l D cI aS (fun k => ad (13 + k)) 7 enders_size enders x1 _ hq13 _) lkX0_60 (by decide) (q0 := 3) rfl rfl rfl rfl (Nat.le_of_ble_eq_true rfl) hl.1 dX0_isEnded_13) (fun H locs hP hS => ?_)
    refine lv_if_lt (tgt := 23) hx hb dX0_isEnded_16 (by decide) (fun c16 => ?_) (fun c16 => ?_)
    · have hf := iT c16 hf
      refine lv_iconst (v := 0) hx hb dX0_isEnded_23 (by decide) ?_
      have hR := Option.some.inj hf
      subst hR
      exact hret _ _ _ _ _ rfl (fun _ hn => by cases hn; rfl) hP hD hS dX0_isEnded_24
    · have hf := iF c16 hf
      refine lv_iconst (v := 1) hx hb dX0_isEnded_19 (by decide) ?_
      refine lv_goto (tgt := 24) hx hb dX0_isEnded_20 (by decide) ?_
      have hR := Option.some.inj hf
      subst hR
      exact hret _ _ _ _ _ rfl (fun _ hn => by cases hn; rfl) hP hD hS dX0_isEnded_24

abbrev wd_X4_opensWith (cI : ClassId)  : va_W := []
def f_X4_opensWith (x0 : Int32) (x1 : Int32) : Option (Int32) := (some (remI (x0 + x1) (10 : Int32)))
set_option maxHeartbeats 4000000 in
set_option maxRecDepth 100000 in
theorem c_X4_opensWith (l : Launch) (D : va_G) (cI : ClassId) (aS : aSt) (x0 : Int32) (x1 : Int32) (R : Int32) (hf : f_X4_opensWith x0 x1 = some R) : CtI l yX4_opensWith cX4_opensWith 2 (some .int) 0 D cI aS [.int x0, .int x1] (wd_X4_opensWith cI ) (wd_X4_opensWith cI ) R := by
  refine ctI_of (by decide) ⟨_, rfl⟩ (Nat.le_of_ble_eq_true rfl) ?_
  intro p e s m below meth c A Q ls X hret hP hD hl
  have hS : va_S A s.heap s.heap [] := va_S.rf
  have hx := X.1
  have hb := X.2.1
  have hl : lv_has ls 2 [(0, .int x0), (1, .int x1)] := hl
  replace hf : (some (remI (x0 + x1) (10 : Int32))) = some R := hf
  refine lv_iload_n hx hb dX4_opensWith_0 rfl (lv_at hl 0 rfl) ?_
  refine lv_iload_n hx hb dX4_opensWith_1 rfl (lv_at hl 1 rfl) ?_
  refine lv_iadd hx hb dX4_opensWith_2 ?_
  refine lv_bipush (v := 10) hx hb dX4_opensWith_3 (by decide) ?_
  refine x_irem hx hb dX4_opensWith_5 (by decide) ?_
  have hR := Option.some.inj hf
  subst hR
  exact hret _ _ _ _ _ rfl (fun _ hn => by cases hn; rfl) hP hD hS dX4_opensWith_6

abbrev wd_X4_endOfKind (cI : ClassId)  : va_W := []
def f_X4_endOfKind (x0 : Int32) (x1 : Int32) (x2 : Int32) : Option (Int32) := (if x0 = (1 : Int32) then (some ((9 : Int32) - (remI (x2 + x1) (10 : Int32)))) else (if x0 = (2 : Int32) then (some (0 : Int32)) else (if x0 = (3 : Int32) then (some (5 : Int32)) else (if x0 = (4 : Int32) then (if (5 : Int32) ≤ x2 then (some x2) else (some ((9 : Int32) - (remI (x2 + x1) (10 : Int32))))) else (if x0 = (5 : Int32) then (if (remI x2 (2 : Int32)) = (1 : Int32) then (some (9 : Int32)) else (some (0 : Int32))) else (some (remI (x2 + x1) (10 : Int32))))))))
set_option maxHeartbeats 4000000 in
set_option maxRecDepth 100000 in
theorem c_X4_endOfKind (l : Launch) (D : va_G) (cI : ClassId) (aS : aSt) (x0 : Int32) (x1 : Int32) (x2 : Int32) (R : Int32) (hf : f_X4_endOfKind x0 x1 x2 = some R) : CtI l yX4_endOfKind cX4_endOfKind 6 (some .int) 0 D cI aS [.int x0, .int x1, .int x2] (wd_X4_endOfKind cI ) (wd_X4_endOfKind cI ) R := by
  refine ctI_of (by decide) ⟨_, rfl⟩ (Nat.le_of_ble_eq_true rfl) ?_
  intro p e s m below meth c A Q ls X hret hP hD hl
  have hS : va_S A s.heap s.heap [] := va_S.rf
  have hx := X.1
  have hb := X.2.1
  have hl : lv_has ls 6 [(0, .int x0), (1, .int x1), (2, .int x2)] := hl
  replace hf : (if x0 = (1 : Int32) then (some ((9 : Int32) - (remI (x2 + x1) (10 : Int32)))) else (if x0 = (2 : Int32) then (some (0 : Int32)) else (if x0 = (3 : Int32) then (some (5 : Int32)) else (if x0 = (4 : Int32) then (if (5 : Int32) ≤ x2 then (some x2) else (some ((9 : Int32) - (remI (x2 + x1) (10 : Int32))))) else (if x0 = (5 : Int32) then (if (remI x2 (2 : Int32)) = (1 : Int32) then (some (9 : Int32)) else (some (0 : Int32))) else (some (remI (x2 + x1) (10 : Int32)))))))) = some R := hf
  refine lv_iload_n hx hb dX4_endOfKind_0 rfl (lv_at hl 2 rfl) ?_
  refine lv_iload_n hx hb dX4_endOfKind_1 rfl (lv_at hl 1 rfl) ?_
  refine lv_iadd hx hb dX4_endOfKind_2 ?_
  refine lv_bipush (v := 10) hx hb dX4_endOfKind_3 (by decide) ?_
  refine x_irem hx hb dX4_endOfKind_5 (by decide) ?_
  refine lv_istore_n (lv' := [(3, .int (remI (x2 + x1) (10 : Int32))), (0, .int x0), (1, .int x1), (2, .int x2)]) hx hb dX4_endOfKind_6 rfl hl (by decide) rfl (fun ls hl => ?_)
  refine lv_bipush (v := 9) hx hb dX4_endOfKind_7 (by decide) ?_
  refine lv_iload_n hx hb dX4_endOfKind_9 rfl (lv_at hl 0 rfl) ?_
  refine lv_isub hx hb dX4_endOfKind_10 ?_
  refine lv_istore (lv' := [(4, .int ((9 : Int32) - (remI (x2 + x1) (10 : Int32)))), (3, .int (remI (x2 + x1) (10 : Int32))), (0, .int x0), (1, .int x1), (2, .int x2)]) hx hb dX4_endOfKind_11 hl (by decide) rfl (fun ls hl => ?_)
  refine lv_iconst (v := 0) hx hb dX4_endOfKind_13 (by decide) ?_
  refine lv_istore (lv' := [(5, .int (0 : Int32)), (4, .int ((9 : Int32) - (remI (x2 + x1) (10 : Int32)))), (3, .int (remI (x2 + x1) (10 : Int32))), (0, .int x0), (1, .int x1), (2, .int x2)]) hx hb dX4_endOfKind_14 hl (by decide) rfl (fun ls hl => ?_)
  refine lv_iload_n hx hb dX4_endOfKind_16 rfl (lv_at hl 3 rfl) ?_
  by_cases c17_0 : x0 = (1 : Int32)
  · have hf := iT c17_0 hf
    refine tsIn (tgt := 56) (off := 39) hx hb dX4_endOfKind_17 c17_0 (by decide) (by decide) (by decide) (by decide) ?_
    refine lv_iload hx hb dX4_endOfKind_56 (lv_at hl 1 rfl) ?_
    have hR := Option.some.inj hf
    subst hR
    exact hret _ _ _ _ _ rfl (fun _ hn => by cases hn; rfl) hP hD hS dX4_endOfKind_58
  have hf := iF c17_0 hf
  by_cases c17_1 : x0 = (2 : Int32)
  · have hf := iT c17_1 hf
    refine tsIn (tgt := 59) (off := 42) hx hb dX4_endOfKind_17 c17_1 (by decide) (by decide) (by decide) (by decide) ?_
    refine lv_iload hx hb dX4_endOfKind_59 (lv_at hl 0 rfl) ?_
    have hR := Option.some.inj hf
    subst hR
    exact hret _ _ _ _ _ rfl (fun _ hn => by cases hn; rfl) hP hD hS dX4_endOfKind_61
  have hf := iF c17_1 hf
  by_cases c17_2 : x0 = (3 : Int32)
  · have hf := iT c17_2 hf
    refine tsIn (tgt := 62) (off := 45) hx hb dX4_endOfKind_17 c17_2 (by decide) (by decide) (by decide) (by decide) ?_
    refine lv_iconst (v := 5) hx hb dX4_endOfKind_62 (by decide) ?_
    have hR := Option.some.inj hf
    subst hR
    exact hret _ _ _ _ _ rfl (fun _ hn => by cases hn; rfl) hP hD hS dX4_endOfKind_63
  have hf := iF c17_2 hf
  by_cases c17_3 : x0 = (4 : Int32)
  · have hf := iT c17_3 hf
    refine tsIn (tgt := 64) (off := 47) hx hb dX4_endOfKind_17 c17_3 (by decide) (by decide) (by decide) (by decide) ?_
    refine lv_iload_n hx hb dX4_endOfKind_64 rfl (lv_at hl 5 rfl) ?_
    refine lv_iconst (v := 5) hx hb dX4_endOfKind_65 (by decide) ?_
    refine lv_icmp_ge (tgt := 74) hx hb dX4_endOfKind_66 (by decide) (fun c66 => ?_) (fun c66 => ?_)
    · have hf := iT c66 hf
      refine lv_iload_n hx hb dX4_endOfKind_74 rfl (lv_at hl 5 rfl) ?_
      have hR := Option.some.inj hf
      subst hR
      exact hret _ _ _ _ _ rfl (fun _ hn => by cases hn; rfl) hP hD hS dX4_endOfKind_75
    · have hf := iF c66 hf
      refine lv_iload hx hb dX4_endOfKind_69 (lv_at hl 1 rfl) ?_
      refine lv_goto (tgt := 75) hx hb dX4_endOfKind_71 (by decide) ?_
      have hR := Option.some.inj hf
      subst hR
      exact hret _ _ _ _ _ rfl (fun _ hn => by cases hn; rfl) hP hD hS dX4_endOfKind_75
  have hf := iF c17_3 hf
  by_cases c17_4 : x0 = (5 : Int32)
  · have hf := iT c17_4 hf
    refine tsIn (tgt := 76) (off := 59) hx hb dX4_endOfKind_17 c17_4 (by decide) (by decide) (by decide) (by decide) ?_
    refine lv_iload_n hx hb dX4_endOfKind_76 rfl (lv_at hl 5 rfl) ?_
    refine lv_iconst (v := 2) hx hb dX4_endOfKind_77 (by decide) ?_
    refine x_irem hx hb dX4_endOfKind_78 (by decide) ?_
    refine lv_iconst (v := 1) hx hb dX4_endOfKind_79 (by decide) ?_
    refine lv_icmp_ne (tgt := 88) hx hb dX4_endOfKind_80 (by decide) (fun c80 => ?_) (fun c80 => ?_)
    · have hf := iF c80 hf
      refine lv_iload hx hb dX4_endOfKind_88 (lv_at hl 0 rfl) ?_
      have hR := Option.some.inj hf
      subst hR
      exact hret _ _ _ _ _ rfl (fun _ hn => by cases hn; rfl) hP hD hS dX4_endOfKind_90
    · have hf := iT c80 hf
      refine lv_bipush (v := 9) hx hb dX4_endOfKind_83 (by decide) ?_
      refine lv_goto (tgt := 90) hx hb dX4_endOfKind_85 (by decide) ?_
      have hR := Option.some.inj hf
      subst hR
      exact hret _ _ _ _ _ rfl (fun _ hn => by cases hn; rfl) hP hD hS dX4_endOfKind_90
  have hf := iF c17_4 hf
  refine tsD (keys := [1, 2, 3, 4, 5]) (tgt := 91) hx hb dX4_endOfKind_17 (List.forall_mem_cons.mpr ⟨i32ne c17_0 (by decide), (List.forall_mem_cons.mpr ⟨i32ne c17_1 (by decide), (List.forall_mem_cons.mpr ⟨i32ne c17_2 (by decide), (List.forall_mem_cons.mpr ⟨i32ne c17_3 (by decide), (List.forall_mem_cons.mpr ⟨i32ne c17_4 (by decide), (fun _ h => absurd h List.not_mem_nil)⟩)⟩)⟩)⟩)⟩) (by decide) (by decide) (by decide) ?_
  refine lv_iload_n hx hb dX4_endOfKind_91 rfl (lv_at hl 2 rfl) ?_
  have hR := Option.some.inj hf
  subst hR
  exact hret _ _ _ _ _ rfl (fun _ hn => by cases hn; rfl) hP hD hS dX4_endOfKind_92

abbrev wd_X4_worthBetween (cI : ClassId)  : va_W := []
def f_X4_worthBetween_14   (t0_14 : Int32) : Option (Int32) := (if ((10 : Int32) - t0_14) ≤ t0_14 then (some ((9 : Int32) - ((2 : Int32) * ((10 : Int32) - t0_14)))) else (some ((9 : Int32) - ((2 : Int32) * t0_14))))
def f_X4_worthBetween (x0 : Int32) (x1 : Int32) : Option (Int32) := (if x0 ≤ x1 then (f_X4_worthBetween_14   (x1 - x0)) else (f_X4_worthBetween_14   (x0 - x1)))
set_option maxHeartbeats 4000000 in
set_option maxRecDepth 100000 in
theorem w_X4_worthBetween_14 {p : Program} {l : Launch} {e : Env} {s : State} {m : MethodId} {args : Array Value} {below : List Frame} {meth : Method} {c : Code} {D : va_G} {cI : ClassId} {aS : aSt} {A : Nat → Prop} {Q : State → Prop}  (x0 : Int32) (x1 : Int32) {R : Int32} (X : Bx p s m args meth c cX4_worthBetween 4 (some .int) RX4 D cI aS A) (hret : RtI p l e 0 s m args below meth c cX4_worthBetween (some .int) D A (wd_X4_worthBetween cI ) R Q) : ∀ (t0_14 : Int32) (H : Heap) (locs : List Loc) (ls : Array Slot), f_X4_worthBetween_14   t0_14 = some R → lv_has ls 4 [] → va_P D vwCl (wd_X4_worthBetween cI ) H → va_D A (wd_X4_worthBetween cI ) → va_S A s.heap H locs → Wh p l e 0 s m args below meth c H locs Q (F0 m 14 ls [.int t0_14]) := by
  have hx := X.1
  have hb := X.2.1
  intro t0_14 H locs ls hf hl hP hD hS
  replace hf : (if ((10 : Int32) - t0_14) ≤ t0_14 then (some ((9 : Int32) - ((2 : Int32) * ((10 : Int32) - t0_14)))) else (some ((9 : Int32) - ((2 : Int32) * t0_14)))) = some R := hf
  refine lv_istore_n (lv' := [(2, .int t0_14)]) hx hb dX4_worthBetween_14 rfl hl (by decide) rfl (fun ls hl => ?_)
  refine lv_bipush (v := 10) hx hb dX4_worthBetween_15 (by decide) ?_
  refine lv_iload_n hx hb dX4_worthBetween_17 rfl (lv_at hl 0 rfl) ?_
  refine lv_isub hx hb dX4_worthBetween_18 ?_
  refine lv_istore_n (lv' := [(3, .int ((10 : Int32) - t0_14)), (2, .int t0_14)]) hx hb dX4_worthBetween_19 rfl hl (by decide) rfl (fun ls hl => ?_)
  refine lv_bipush (v := 9) hx hb dX4_worthBetween_20 (by decide) ?_
  refine lv_iconst (v := 2) hx hb dX4_worthBetween_22 (by decide) ?_
  refine lv_iload_n hx hb dX4_worthBetween_23 rfl (lv_at hl 1 rfl) ?_
  refine lv_iload_n hx hb dX4_worthBetween_24 rfl (lv_at hl 0 rfl) ?_
  refine lv_icmp_ge (tgt := 32) hx hb dX4_worthBetween_25 (by decide) (fun c25 => ?_) (fun c25 => ?_)
  · have hf := iT c25 hf
    refine lv_iload_n hx hb dX4_worthBetween_32 rfl (lv_at hl 0 rfl) ?_
    refine lv_imul hx hb dX4_worthBetween_33 ?_
    refine lv_isub hx hb dX4_worthBetween_34 ?_
    have hR := Option.some.inj hf
    subst hR
    exact hret _ _ _ _ _ rfl (fun _ hn => by cases hn; rfl) hP hD hS dX4_worthBetween_35
  · have hf := iF c25 hf
    refine lv_iload_n hx hb dX4_worthBetween_28 rfl (lv_at hl 1 rfl) ?_
    refine lv_goto (tgt := 33) hx hb dX4_worthBetween_29 (by decide) ?_
    refine lv_imul hx hb dX4_worthBetween_33 ?_
    refine lv_isub hx hb dX4_worthBetween_34 ?_
    have hR := Option.some.inj hf
    subst hR
    exact hret _ _ _ _ _ rfl (fun _ hn => by cases hn; rfl) hP hD hS dX4_worthBetween_35
set_option maxHeartbeats 4000000 in
set_option maxRecDepth 100000 in
theorem c_X4_worthBetween (l : Launch) (D : va_G) (cI : ClassId) (aS : aSt) (x0 : Int32) (x1 : Int32) (R : Int32) (hf : f_X4_worthBetween x0 x1 = some R) : CtI l yX4_worthBetween cX4_worthBetween 4 (some .int) 0 D cI aS [.int x0, .int x1] (wd_X4_worthBetween cI ) (wd_X4_worthBetween cI ) R := by
  refine ctI_of (by decide) ⟨_, rfl⟩ (Nat.le_of_ble_eq_true rfl) ?_
  intro p e s m below meth c A Q ls X hret hP hD hl
  have hS : va_S A s.heap s.heap [] := va_S.rf
  have hx := X.1
  have hb := X.2.1
  have hl : lv_has ls 4 [(0, .int x0), (1, .int x1)] := hl
  replace hf : (if x0 ≤ x1 then (f_X4_worthBetween_14   (x1 - x0)) else (f_X4_worthBetween_14   (x0 - x1))) = some R := hf
  refine lv_iload_n hx hb dX4_worthBetween_0 rfl (lv_at hl 0 rfl) ?_
  refine lv_iload_n hx hb dX4_worthBetween_1 rfl (lv_at hl 1 rfl) ?_
  refine lv_icmp_le (tgt := 11) hx hb dX4_worthBetween_2 (by decide) (fun c2 => ?_) (fun c2 => ?_)
  · have hf := iT c2 hf
    refine lv_iload_n hx hb dX4_worthBetween_11 rfl (lv_at hl 1 rfl) ?_
    refine lv_iload_n hx hb dX4_worthBetween_12 rfl (lv_at hl 0 rfl) ?_
    refine lv_isub hx hb dX4_worthBetween_13 ?_
    exact w_X4_worthBetween_14 x0 x1 X hret  (x1 - x0) _ _ _ hf (lv_sub hl [] rfl) hP hD hS
  · have hf := iF c2 hf
    refine lv_iload_n hx hb dX4_worthBetween_5 rfl (lv_at hl 0 rfl) ?_
    refine lv_iload_n hx hb dX4_worthBetween_6 rfl (lv_at hl 1 rfl) ?_
    refine lv_isub hx hb dX4_worthBetween_7 ?_
    refine lv_goto (tgt := 14) hx hb dX4_worthBetween_8 (by decide) ?_
    exact w_X4_worthBetween_14 x0 x1 X hret  (x0 - x1) _ _ _ hf (lv_sub hl [] rfl) hP hD hS

abbrev wd_X0_worthEndedBy (cI : ClassId) (ad : Nat → Nat) (size : Int32) (year : Int32) (kinds_size : Int32) (kinds : (Nat → Int32)) (figures_size : Int32) (figures : (Nat → Int32)) (styles_size : Int32) (styles : (Nat → Int32)) : va_W := [((ad 0), .inr (0, [.ref (ad 1), .ref (ad 3), .ref (ad 5), .ref (ad 7), .ref (ad 9), .ref (ad 11), .ref (ad 13), .int size, .int year])), ((ad 1), .inr (3, [.ref (ad 2), .int kinds_size])), ((ad 2), .inl (cI, 7, .inl kinds)), ((ad 3), .inr (3, [.ref (ad 4), .int figures_size])), ((ad 4), .inl (cI, 7, .inl figures)), ((ad 5), .inr (3, [.ref (ad 6), .int styles_size])), ((ad 6), .inl (cI, 7, .inl styles))]
def f_X0_worthEndedBy (year : Int32) (kinds : (Nat → Int32)) (figures : (Nat → Int32)) (styles : (Nat → Int32)) (x1 : Int32) (x2 : Int32) : Option (Int32) := ((f_X3_get 7 styles x1).bind fun (r5 : Int32) => ((f_X4_opensWith r5 year).bind fun (r12 : Int32) => ((f_X3_get 7 kinds x2).bind fun (r21 : Int32) => ((f_X3_get 7 figures x2).bind fun (r29 : Int32) => ((f_X4_endOfKind r21 r29 r12).bind fun (r33 : Int32) => ((f_X4_worthBetween r12 r33).bind fun (r41 : Int32) => (some r41)))))))
set_option maxHeartbeats 4000000 in
set_option maxRecDepth 100000 in
theorem c_X0_worthEndedBy (l : Launch) (D : va_G) (cI : ClassId) (aS : aSt) (ad : Nat → Nat) (size : Int32) (year : Int32) (kinds_size : Int32) (kinds : (Nat → Int32)) (figures_size : Int32) (figures : (Nat → Int32)) (styles_size : Int32) (styles : (Nat → Int32)) (x1 : Int32) (x2 : Int32) (R : Int32) (hf : f_X0_worthEndedBy year kinds figures styles x1 x2 = some R) : CtI l yX0_worthEndedBy cX0_worthEndedBy 5 (some .int) 1 D cI aS [.ref (ad 0), .int x1, .int x2] (wd_X0_worthEndedBy cI ad size year kinds_size kinds figures_size figures styles_size styles) (wd_X0_worthEndedBy cI ad size year kinds_size kinds figures_size figures styles_size styles) R := by
  refine ctI_of (by decide) ⟨_, rfl⟩ (Nat.le_of_ble_eq_true rfl) ?_
  intro p e s m below meth c A Q ls X hret hP hD hl
  have hS : va_S A s.heap s.heap [] := va_S.rf
  have hx := X.1
  have hb := X.2.1
  have hl : lv_has ls 5 [(0, .ref (ad 0)), (1, .int x1), (2, .int x2)] := hl
  replace hf : ((f_X3_get 7 styles x1).bind fun (r5 : Int32) => ((f_X4_opensWith r5 year).bind fun (r12 : Int32) => ((f_X3_get 7 kinds x2).bind fun (r21 : Int32) => ((f_X3_get 7 figures x2).bind fun (r29 : Int32) => ((f_X4_endOfKind r21 r29 r12).bind fun (r33 : Int32) => ((f_X4_worthBetween r12 r33).bind fun (r41 : Int32) => (some r41))))))) = some R := hf
  refine lv_aload_n hx hb dX0_worthEndedBy_0 rfl (lv_at hl 0 rfl) ?_
  refine fgX0_23 X hP (q0 := 0) rfl rfl dX0_worthEndedBy_1 ?_
  refine lv_iload_n hx hb dX0_worthEndedBy_4 rfl (lv_at hl 1 rfl) ?_
  obtain ⟨r5, hq5, hf⟩ := bS hf
  refine ro_i X hP hD hS [5, 6] rfl (run_N X hP hD hS [5, 6] rfl rfl (c_X3_get l D cI aS (fun k => ad (5 + k)) 7 styles_size styles x1 _ hq5 _) lkX0_60 (by decide) (q0 := 5) rfl rfl rfl rfl (Nat.le_of_ble_eq_true rfl) hl.1 dX0_worthEndedBy_5) (fun H locs hP hS => ?_)
  refine lv_aload_n hx hb dX0_worthEndedBy_8 rfl (lv_at hl 0 rfl) ?_
  refine fgX0_42 X hP (q0 := 0) rfl rfl dX0_worthEndedBy_9 ?_
  obtain ⟨r12, hq12, hf⟩ := bS hf
  refine ro_i X hP hD hS [] rfl (run_SN X hP hD hS [] rfl rfl (c_X4_opensWith l D cI aS r5 year _ hq12 _) lkX0_76 (by decide) rfl rfl (Nat.le_of_ble_eq_true rfl) hl.1 dX0_worthEndedBy_12) (fun H locs hP hS => ?_)
  refine lv_istore_n (lv' := [(3, .int r12), (0, .ref (ad 0)), (1, .int x1), (2, .int x2)]) hx hb dX0_worthEndedBy_15 rfl hl (by decide) rfl (fun ls hl => ?_)
  refine lv_aload_n hx hb dX0_worthEndedBy_16 rfl (lv_at hl 1 rfl) ?_
  refine fgX0_14 X hP (q0 := 0) rfl rfl dX0_worthEndedBy_17 ?_
  refine lv_iload_n hx hb dX0_worthEndedBy_20 rfl (lv_at hl 3 rfl) ?_
  obtain ⟨r21, hq21, hf⟩ := bS hf
  refine ro_i X hP hD hS [1, 2] rfl (run_N X hP hD hS [1, 2] rfl rfl (c_X3_get l D cI aS (fun k => ad (1 + k)) 7 kinds_size kinds x2 _ hq21 _) lkX0_60 (by decide) (q0 := 1) rfl rfl rfl rfl (Nat.le_of_ble_eq_true rfl) hl.1 dX0_worthEndedBy_21) (fun H locs hP hS => ?_)
  refine lv_aload_n hx hb dX0_worthEndedBy_24 rfl (lv_at hl 1 rfl) ?_
  refine fgX0_20 X hP (q0 := 0) rfl rfl dX0_worthEndedBy_25 ?_
  refine lv_iload_n hx hb dX0_worthEndedBy_28 rfl (lv_at hl 3 rfl) ?_
  obtain ⟨r29, hq29, hf⟩ := bS hf
  refine ro_i X hP hD hS [3, 4] rfl (run_N X hP hD hS [3, 4] rfl rfl (c_X3_get l D cI aS (fun k => ad (3 + k)) 7 figures_size figures x2 _ hq29 _) lkX0_60 (by decide) (q0 := 3) rfl rfl rfl rfl (Nat.le_of_ble_eq_true rfl) hl.1 dX0_worthEndedBy_29) (fun H locs hP hS => ?_)
  refine lv_iload_n hx hb dX0_worthEndedBy_32 rfl (lv_at hl 0 rfl) ?_
  obtain ⟨r33, hq33, hf⟩ := bS hf
  refine ro_i X hP hD hS [] rfl (run_SN X hP hD hS [] rfl rfl (c_X4_endOfKind l D cI aS r21 r29 r12 _ hq33 _) lkX0_82 (by decide) rfl rfl (Nat.le_of_ble_eq_true rfl) hl.1 dX0_worthEndedBy_33) (fun H locs hP hS => ?_)
  refine lv_istore (lv' := [(4, .int r33), (3, .int r12), (0, .ref (ad 0)), (1, .int x1), (2, .int x2)]) hx hb dX0_worthEndedBy_36 hl (by decide) rfl (fun ls hl => ?_)
  refine lv_iload_n hx hb dX0_worthEndedBy_38 rfl (lv_at hl 1 rfl) ?_
  refine lv_iload hx hb dX0_worthEndedBy_39 (lv_at hl 0 rfl) ?_
  obtain ⟨r41, hq41, hf⟩ := bS hf
  refine ro_i X hP hD hS [] rfl (run_SN X hP hD hS [] rfl rfl (c_X4_worthBetween l D cI aS r12 r33 _ hq41 _) lkX0_92 (by decide) rfl rfl (Nat.le_of_ble_eq_true rfl) hl.1 dX0_worthEndedBy_41) (fun H locs hP hS => ?_)
  have hR := Option.some.inj hf
  subst hR
  exact hret _ _ _ _ _ rfl (fun _ hn => by cases hn; rfl) hP hD hS dX0_worthEndedBy_44

abbrev wd_X0_worthOf (cI : ClassId) (ad : Nat → Nat) (size : Int32) (year : Int32) (kinds_size : Int32) (kinds : (Nat → Int32)) (figures_size : Int32) (figures : (Nat → Int32)) (styles_size : Int32) (styles : (Nat → Int32)) (writing_size : Int32) (writing : (Nat → Int32)) (enders_size : Int32) (enders : (Nat → Int32)) : va_W := [((ad 0), .inr (0, [.ref (ad 1), .ref (ad 3), .ref (ad 5), .ref (ad 7), .ref (ad 9), .ref (ad 11), .ref (ad 13), .int size, .int year])), ((ad 1), .inr (3, [.ref (ad 2), .int kinds_size])), ((ad 2), .inl (cI, 7, .inl kinds)), ((ad 3), .inr (3, [.ref (ad 4), .int figures_size])), ((ad 4), .inl (cI, 7, .inl figures)), ((ad 5), .inr (3, [.ref (ad 6), .int styles_size])), ((ad 6), .inl (cI, 7, .inl styles)), ((ad 9), .inr (3, [.ref (ad 10), .int writing_size])), ((ad 10), .inl (cI, 7, .inl writing)), ((ad 13), .inr (3, [.ref (ad 14), .int enders_size])), ((ad 14), .inl (cI, 7, .inl enders))]
def f_X0_worthOf (year : Int32) (kinds : (Nat → Int32)) (figures : (Nat → Int32)) (styles : (Nat → Int32)) (writing : (Nat → Int32)) (enders : (Nat → Int32)) (x1 : Int32) : Option (Int32) := ((f_X0_isEnded writing enders x1).bind fun (r2 : Int32) => (if r2 = 0 then (some (0 : Int32)) else ((f_X3_get 7 enders x1).bind fun (r15 : Int32) => ((f_X0_worthEndedBy year kinds figures styles x1 r15).bind fun (r18 : Int32) => (some r18)))))
set_option maxHeartbeats 4000000 in
set_option maxRecDepth 100000 in
theorem c_X0_worthOf (l : Launch) (D : va_G) (cI : ClassId) (aS : aSt) (ad : Nat → Nat) (size : Int32) (year : Int32) (kinds_size : Int32) (kinds : (Nat → Int32)) (figures_size : Int32) (figures : (Nat → Int32)) (styles_size : Int32) (styles : (Nat → Int32)) (writing_size : Int32) (writing : (Nat → Int32)) (enders_size : Int32) (enders : (Nat → Int32)) (x1 : Int32) (R : Int32) (hf : f_X0_worthOf year kinds figures styles writing enders x1 = some R) : CtI l yX0_worthOf cX0_worthOf 2 (some .int) 3 D cI aS [.ref (ad 0), .int x1] (wd_X0_worthOf cI ad size year kinds_size kinds figures_size figures styles_size styles writing_size writing enders_size enders) (wd_X0_worthOf cI ad size year kinds_size kinds figures_size figures styles_size styles writing_size writing enders_size enders) R := by
  refine ctI_of (by decide) ⟨_, rfl⟩ (Nat.le_of_ble_eq_true rfl) ?_
  intro p e s m below meth c A Q ls X hret hP hD hl
  have hS : va_S A s.heap s.heap [] := va_S.rf
  have hx := X.1
  have hb := X.2.1
  have hl : lv_has ls 2 [(0, .ref (ad 0)), (1, .int x1)] := hl
  replace hf : ((f_X0_isEnded writing enders x1).bind fun (r2 : Int32) => (if r2 = 0 then (some (0 : Int32)) else ((f_X3_get 7 enders x1).bind fun (r15 : Int32) => ((f_X0_worthEndedBy year kinds figures styles x1 r15).bind fun (r18 : Int32) => (some r18))))) = some R := hf
  refine lv_aload_n hx hb dX0_worthOf_0 rfl (lv_at hl 0 rfl) ?_
  refine lv_iload_n hx hb dX0_worthOf_1 rfl (lv_at hl 1 rfl) ?_
  obtain ⟨r2, hq2, hf⟩ := bS hf
  refine ro_i X hP hD hS [0, 7, 8, 9, 10] rfl (run_V X hP hD hS [0, 7, 8, 9, 10] rfl rfl (c_X0_isEnded l D cI aS ad size year writing_size writing enders_size enders x1 _ hq2 _) lkX0_86 (by decide) (q0 := 0) rfl rfl rfl rfl (Nat.le_of_ble_eq_true rfl) hl.1 dX0_worthOf_2) (fun H locs hP hS => ?_)
  refine lv_if_eq (tgt := 24) hx hb dX0_worthOf_5 (by decide) (fun c5 => ?_) (fun c5 => ?_)
  · have hf := iT c5 hf
    refine lv_iconst (v := 0) hx hb dX0_worthOf_24 (by decide) ?_
    have hR := Option.some.inj hf
    subst hR
    exact hret _ _ _ _ _ rfl (fun _ hn => by cases hn; rfl) hP hD hS dX0_worthOf_25
  · have hf := iF c5 hf
    refine lv_aload_n hx hb dX0_worthOf_8 rfl (lv_at hl 0 rfl) ?_
    refine lv_iload_n hx hb dX0_worthOf_9 rfl (lv_at hl 1 rfl) ?_
    refine lv_aload_n hx hb dX0_worthOf_10 rfl (lv_at hl 0 rfl) ?_
    refine fgX0_35 X hP (q0 := 0) rfl rfl dX0_worthOf_11 ?_
    refine lv_iload_n hx hb dX0_worthOf_14 rfl (lv_at hl 1 rfl) ?_
    obtain ⟨r15, hq15, hf⟩ := bS hf
    refine ro_i X hP hD hS [9, 10] rfl (run_N X hP hD hS [9, 10] rfl rfl (c_X3_get l D cI aS (fun k => ad (13 + k)) 7 enders_size enders x1 _ hq15 _) lkX0_60 (by decide) (q0 := 9) rfl rfl rfl rfl (Nat.le_of_ble_eq_true rfl) hl.1 dX0_worthOf_15) (fun H locs hP hS => ?_)
    obtain ⟨r18, hq18, hf⟩ := bS hf
    refine ro_i X hP hD hS [0, 1, 2, 3, 4, 5, 6] rfl (run_V X hP hD hS [0, 1, 2, 3, 4, 5, 6] rfl rfl (c_X0_worthEndedBy l D cI aS ad size year kinds_size kinds figures_size figures styles_size styles x1 r15 _ hq18 _) lkX0_95 (by decide) (q0 := 0) rfl rfl rfl rfl (Nat.le_of_ble_eq_true rfl) hl.1 dX0_worthOf_18) (fun H locs hP hS => ?_)
    refine lv_goto (tgt := 25) hx hb dX0_worthOf_21 (by decide) ?_
    have hR := Option.some.inj hf
    subst hR
    exact hret _ _ _ _ _ rfl (fun _ hn => by cases hn; rfl) hP hD hS dX0_worthOf_25

abbrev wd_X0_allWorth (cI : ClassId) (ad : Nat → Nat) (size : Int32) (year : Int32) (kinds_size : Int32) (kinds : (Nat → Int32)) (figures_size : Int32) (figures : (Nat → Int32)) (styles_size : Int32) (styles : (Nat → Int32)) (writing_size : Int32) (writing : (Nat → Int32)) (enders_size : Int32) (enders : (Nat → Int32)) : va_W := [((ad 0), .inr (0, [.ref (ad 1), .ref (ad 3), .ref (ad 5), .ref (ad 7), .ref (ad 9), .ref (ad 11), .ref (ad 13), .int size, .int year])), ((ad 1), .inr (3, [.ref (ad 2), .int kinds_size])), ((ad 2), .inl (cI, 7, .inl kinds)), ((ad 3), .inr (3, [.ref (ad 4), .int figures_size])), ((ad 4), .inl (cI, 7, .inl figures)), ((ad 5), .inr (3, [.ref (ad 6), .int styles_size])), ((ad 6), .inl (cI, 7, .inl styles)), ((ad 9), .inr (3, [.ref (ad 10), .int writing_size])), ((ad 10), .inl (cI, 7, .inl writing)), ((ad 13), .inr (3, [.ref (ad 14), .int enders_size])), ((ad 14), .inl (cI, 7, .inl enders))]
def f_X0_allWorth_4 (size : Int32) (year : Int32) (kinds : (Nat → Int32)) (figures : (Nat → Int32)) (styles : (Nat → Int32)) (writing : (Nat → Int32)) (enders : (Nat → Int32))  : Nat → Int32 → Int32 → Option (Int32)
  | 0 => fun _ _ => none
  | fuel + 1 => fun v1_4 v2_4 => (if size ≤ v2_4 then (some v1_4) else ((f_X0_worthOf year kinds figures styles writing enders v2_4).bind fun (r15 : Int32) => (f_X0_allWorth_4 size year kinds figures styles writing enders  fuel (v1_4 + r15) (v2_4 + (1 : Int32)))))
theorem e_X0_allWorth_4 (size : Int32) (year : Int32) (kinds : (Nat → Int32)) (figures : (Nat → Int32)) (styles : (Nat → Int32)) (writing : (Nat → Int32)) (enders : (Nat → Int32))  (fuel : Nat) (v1_4 : Int32) (v2_4 : Int32) : f_X0_allWorth_4 size year kinds figures styles writing enders  (fuel + 1) v1_4 v2_4 = (if size ≤ v2_4 then (some v1_4) else ((f_X0_worthOf year kinds figures styles writing enders v2_4).bind fun (r15 : Int32) => (f_X0_allWorth_4 size year kinds figures styles writing enders  fuel (v1_4 + r15) (v2_4 + (1 : Int32))))) := rfl
def f_X0_allWorth (size : Int32) (year : Int32) (kinds : (Nat → Int32)) (figures : (Nat → Int32)) (styles : (Nat → Int32)) (writing : (Nat → Int32)) (enders : (Nat → Int32)) : Option (Int32) := (f_X0_allWorth_4 size year kinds figures styles writing enders  FU (0 : Int32) (0 : Int32))
set_option maxHeartbeats 4000000 in
set_option maxRecDepth 100000 in
theorem w_X0_allWorth_4 {p : Program} {l : Launch} {e : Env} {s : State} {m : MethodId} {args : Array Value} {below : List Frame} {meth : Method} {c : Code} {D : va_G} {cI : ClassId} {aS : aSt} {A : Nat → Prop} {Q : State → Prop}  (ad : Nat → Nat) (size : Int32) (year : Int32) (kinds_size : Int32) (kinds : (Nat → Int32)) (figures_size : Int32) (figures : (Nat → Int32)) (styles_size : Int32) (styles : (Nat → Int32)) (writing_size : Int32) (writing : (Nat → Int32)) (enders_size : Int32) (enders : (Nat → Int32)) {R : Int32} (X : Bx p s m args meth c cX0_allWorth 3 (some .int) RX0 D cI aS A) (hret : RtI p l e 4 s m args below meth c cX0_allWorth (some .int) D A (wd_X0_allWorth cI ad size year kinds_size kinds figures_size figures styles_size styles writing_size writing enders_size enders) R Q) : ∀ (fuel : Nat) (v1_4 : Int32) (v2_4 : Int32) (H : Heap) (locs : List Loc) (ls : Array Slot), f_X0_allWorth_4 size year kinds figures styles writing enders  fuel v1_4 v2_4 = some R → lv_has ls 3 [(0, .ref (ad 0)), (1, .int v1_4), (2, .int v2_4)] → va_P D vwCl (wd_X0_allWorth cI ad size year kinds_size kinds figures_size figures styles_size styles writing_size writing enders_size enders) H → va_D A (wd_X0_allWorth cI ad size year kinds_size kinds figures_size figures styles_size styles writing_size writing enders_size enders) → va_S A s.heap H locs → Wh p l e 4 s m args below meth c H locs Q (F0 m 4 ls []) := by
  have hx := X.1
  have hb := X.2.1
  intro fuel
  induction fuel with
  | zero =>
    intro v1_4 v2_4 H locs ls hf hl hP hD hS
    cases hf
  | succ fuel ih =>
    intro v1_4 v2_4 H locs ls hf hl hP hD hS
    replace hf : (if size ≤ v2_4 then (some v1_4) else ((f_X0_worthOf year kinds figures styles writing enders v2_4).bind fun (r15 : Int32) => (f_X0_allWorth_4 size year kinds figures styles writing enders  fuel (v1_4 + r15) (v2_4 + (1 : Int32))))) = some R := hf
    refine lv_iload_n hx hb dX0_allWorth_4 rfl (lv_at hl 2 rfl) ?_
    refine lv_aload_n hx hb dX0_allWorth_5 rfl (lv_at hl 0 rfl) ?_
    refine fgX0_38 X hP (q0 := 0) rfl rfl dX0_allWorth_6 ?_
    refine lv_icmp_ge (tgt := 26) hx hb dX0_allWorth_9 (by decide) (fun c9 => ?_) (fun c9 => ?_)
    · have hf := iT c9 hf
      refine lv_iload_n hx hb dX0_allWorth_26 rfl (lv_at hl 1 rfl) ?_
      have hR := Option.some.inj hf
      subst hR
      exact hret _ _ _ _ _ rfl (fun _ hn => by cases hn; rfl) hP hD hS dX0_allWorth_27
    · have hf := iF c9 hf
      refine lv_iload_n hx hb dX0_allWorth_12 rfl (lv_at hl 1 rfl) ?_
      refine lv_aload_n hx hb dX0_allWorth_13 rfl (lv_at hl 0 rfl) ?_
      refine lv_iload_n hx hb dX0_allWorth_14 rfl (lv_at hl 2 rfl) ?_
      obtain ⟨r15, hq15, hf⟩ := bS hf
      refine ro_i X hP hD hS [0, 1, 2, 3, 4, 5, 6, 7, 8, 9, 10] rfl (run_V X hP hD hS [0, 1, 2, 3, 4, 5, 6, 7, 8, 9, 10] rfl rfl (c_X0_worthOf l D cI aS ad size year kinds_size kinds figures_size figures styles_size styles writing_size writing enders_size enders v2_4 _ hq15 _) lkX0_98 (by decide) (q0 := 0) rfl rfl rfl rfl (Nat.le_of_ble_eq_true rfl) hl.1 dX0_allWorth_15) (fun H locs hP hS => ?_)
      refine lv_iadd hx hb dX0_allWorth_18 ?_
      refine lv_istore_n (lv' := [(1, .int (v1_4 + r15)), (0, .ref (ad 0)), (2, .int v2_4)]) hx hb dX0_allWorth_19 rfl hl (by decide) rfl (fun ls hl => ?_)
      refine lv_iinc (v := (v2_4 + (1 : Int32))) (lv' := [(2, .int (v2_4 + (1 : Int32))), (1, .int (v1_4 + r15)), (0, .ref (ad 0))]) hx hb dX0_allWorth_20 hl (k := 2) rfl rfl (by decide) rfl (fun ls hl => ?_)
      refine lv_goto (tgt := 4) hx hb dX0_allWorth_23 (by decide) ?_
      exact ih (v1_4 + r15) (v2_4 + (1 : Int32)) _ _ _ hf (lv_sub hl [2, 1, 0] rfl) hP hD hS
set_option maxHeartbeats 4000000 in
set_option maxRecDepth 100000 in
theorem c_X0_allWorth (l : Launch) (D : va_G) (cI : ClassId) (aS : aSt) (ad : Nat → Nat) (size : Int32) (year : Int32) (kinds_size : Int32) (kinds : (Nat → Int32)) (figures_size : Int32) (figures : (Nat → Int32)) (styles_size : Int32) (styles : (Nat → Int32)) (writing_size : Int32) (writing : (Nat → Int32)) (enders_size : Int32) (enders : (Nat → Int32)) (R : Int32) (hf : f_X0_allWorth size year kinds figures styles writing enders = some R) : CtI l yX0_allWorth cX0_allWorth 3 (some .int) 4 D cI aS [.ref (ad 0)] (wd_X0_allWorth cI ad size year kinds_size kinds figures_size figures styles_size styles writing_size writing enders_size enders) (wd_X0_allWorth cI ad size year kinds_size kinds figures_size figures styles_size styles writing_size writing enders_size enders) R := by
  refine ctI_of (by decide) ⟨_, rfl⟩ (Nat.le_of_ble_eq_true rfl) ?_
  intro p e s m below meth c A Q ls X hret hP hD hl
  have hS : va_S A s.heap s.heap [] := va_S.rf
  have hx := X.1
  have hb := X.2.1
  have hl : lv_has ls 3 [(0, .ref (ad 0))] := hl
  replace hf : (f_X0_allWorth_4 size year kinds figures styles writing enders  FU (0 : Int32) (0 : Int32)) = some R := hf
  refine lv_iconst (v := 0) hx hb dX0_allWorth_0 (by decide) ?_
  refine lv_istore_n (lv' := [(1, .int (0 : Int32)), (0, .ref (ad 0))]) hx hb dX0_allWorth_1 rfl hl (by decide) rfl (fun ls hl => ?_)
  refine lv_iconst (v := 0) hx hb dX0_allWorth_2 (by decide) ?_
  refine lv_istore_n (lv' := [(2, .int (0 : Int32)), (1, .int (0 : Int32)), (0, .ref (ad 0))]) hx hb dX0_allWorth_3 rfl hl (by decide) rfl (fun ls hl => ?_)
  exact w_X0_allWorth_4 ad size year kinds_size kinds figures_size figures styles_size styles writing_size writing enders_size enders X hret  _ (0 : Int32) (0 : Int32) _ _ _ hf (lv_sub hl [2, 1, 0] rfl) hP hD hS

abbrev wd_X4_gainOfKind (cI : ClassId)  : va_W := []
def f_X4_gainOfKind (x0 : Int32) : Option (Int32) := (if x0 = (1 : Int32) then (some (1 : Int32)) else (if x0 = (2 : Int32) then (some ((0 : Int32) - (2 : Int32))) else (if x0 = (4 : Int32) then (some (1 : Int32)) else (if x0 = (5 : Int32) then (some (((0 : Int32) - (2 : Int32)) + (4 : Int32))) else (some (0 : Int32))))))
set_option maxHeartbeats 4000000 in
set_option maxRecDepth 100000 in
theorem c_X4_gainOfKind (l : Launch) (D : va_G) (cI : ClassId) (aS : aSt) (x0 : Int32) (R : Int32) (hf : f_X4_gainOfKind x0 = some R) : CtI l yX4_gainOfKind cX4_gainOfKind 4 (some .int) 0 D cI aS [.int x0] (wd_X4_gainOfKind cI ) (wd_X4_gainOfKind cI ) R := by
  refine ctI_of (by decide) ⟨_, rfl⟩ (Nat.le_of_ble_eq_true rfl) ?_
  intro p e s m below meth c A Q ls X hret hP hD hl
  have hS : va_S A s.heap s.heap [] := va_S.rf
  have hx := X.1
  have hb := X.2.1
  have hl : lv_has ls 4 [(0, .int x0)] := hl
  replace hf : (if x0 = (1 : Int32) then (some (1 : Int32)) else (if x0 = (2 : Int32) then (some ((0 : Int32) - (2 : Int32))) else (if x0 = (4 : Int32) then (some (1 : Int32)) else (if x0 = (5 : Int32) then (some (((0 : Int32) - (2 : Int32)) + (4 : Int32))) else (some (0 : Int32)))))) = some R := hf
  refine lv_iconst (v := 0) hx hb dX4_gainOfKind_0 (by decide) ?_
  refine lv_istore_n (lv' := [(1, .int (0 : Int32)), (0, .int x0)]) hx hb dX4_gainOfKind_1 rfl hl (by decide) rfl (fun ls hl => ?_)
  refine lv_iconst (v := 1) hx hb dX4_gainOfKind_2 (by decide) ?_
  refine lv_istore_n (lv' := [(2, .int (1 : Int32)), (1, .int (0 : Int32)), (0, .int x0)]) hx hb dX4_gainOfKind_3 rfl hl (by decide) rfl (fun ls hl => ?_)
  refine lv_iload_n hx hb dX4_gainOfKind_4 rfl (lv_at hl 1 rfl) ?_
  refine lv_iconst (v := 2) hx hb dX4_gainOfKind_5 (by decide) ?_
  refine lv_isub hx hb dX4_gainOfKind_6 ?_
  refine lv_istore_n (lv' := [(3, .int ((0 : Int32) - (2 : Int32))), (2, .int (1 : Int32)), (1, .int (0 : Int32)), (0, .int x0)]) hx hb dX4_gainOfKind_7 rfl hl (by decide) rfl (fun ls hl => ?_)
  refine lv_iload_n hx hb dX4_gainOfKind_8 rfl (lv_at hl 3 rfl) ?_
  by_cases c9_0 : x0 = (1 : Int32)
  · have hf := iT c9_0 hf
    refine tsIn (tgt := 48) (off := 39) hx hb dX4_gainOfKind_9 c9_0 (by decide) (by decide) (by decide) (by decide) ?_
    refine lv_iload_n hx hb dX4_gainOfKind_48 rfl (lv_at hl 1 rfl) ?_
    have hR := Option.some.inj hf
    subst hR
    exact hret _ _ _ _ _ rfl (fun _ hn => by cases hn; rfl) hP hD hS dX4_gainOfKind_49
  have hf := iF c9_0 hf
  by_cases c9_1 : x0 = (2 : Int32)
  · have hf := iT c9_1 hf
    refine tsIn (tgt := 50) (off := 41) hx hb dX4_gainOfKind_9 c9_1 (by decide) (by decide) (by decide) (by decide) ?_
    refine lv_iload_n hx hb dX4_gainOfKind_50 rfl (lv_at hl 0 rfl) ?_
    have hR := Option.some.inj hf
    subst hR
    exact hret _ _ _ _ _ rfl (fun _ hn => by cases hn; rfl) hP hD hS dX4_gainOfKind_51
  have hf := iF c9_1 hf
  by_cases c9_2 : x0 = (4 : Int32)
  · have hf := iT c9_2 hf
    refine tsIn (tgt := 48) (off := 39) hx hb dX4_gainOfKind_9 c9_2 (by decide) (by decide) (by decide) (by decide) ?_
    refine lv_iload_n hx hb dX4_gainOfKind_48 rfl (lv_at hl 1 rfl) ?_
    have hR := Option.some.inj hf
    subst hR
    exact hret _ _ _ _ _ rfl (fun _ hn => by cases hn; rfl) hP hD hS dX4_gainOfKind_49
  have hf := iF c9_2 hf
  by_cases c9_3 : x0 = (5 : Int32)
  · have hf := iT c9_3 hf
    refine tsIn (tgt := 52) (off := 43) hx hb dX4_gainOfKind_9 c9_3 (by decide) (by decide) (by decide) (by decide) ?_
    refine lv_iload_n hx hb dX4_gainOfKind_52 rfl (lv_at hl 0 rfl) ?_
    refine lv_iconst (v := 4) hx hb dX4_gainOfKind_53 (by decide) ?_
    refine lv_iadd hx hb dX4_gainOfKind_54 ?_
    have hR := Option.some.inj hf
    subst hR
    exact hret _ _ _ _ _ rfl (fun _ hn => by cases hn; rfl) hP hD hS dX4_gainOfKind_55
  have hf := iF c9_3 hf
  refine tsD (keys := [1, 2, 4, 5]) (tgt := 56) hx hb dX4_gainOfKind_9 (List.forall_mem_cons.mpr ⟨i32ne c9_0 (by decide), (List.forall_mem_cons.mpr ⟨i32ne c9_1 (by decide), (List.forall_mem_cons.mpr ⟨i32ne c9_2 (by decide), (List.forall_mem_cons.mpr ⟨i32ne c9_3 (by decide), (fun _ h => absurd h List.not_mem_nil)⟩)⟩)⟩)⟩) (by decide) (by decide) (by decide) ?_
  refine lv_iload_n hx hb dX4_gainOfKind_56 rfl (lv_at hl 2 rfl) ?_
  have hR := Option.some.inj hf
  subst hR
  exact hret _ _ _ _ _ rfl (fun _ hn => by cases hn; rfl) hP hD hS dX4_gainOfKind_57

abbrev wd_X0_bookIsRead (cI : ClassId) (ad : Nat → Nat) (size : Int32) (year : Int32) (kinds_size : Int32) (kinds : (Nat → Int32)) (figures_size : Int32) (figures : (Nat → Int32)) (styles_size : Int32) (styles : (Nat → Int32)) (fames_size : Int32) (fames : (Nat → Int32)) (writing_size : Int32) (writing : (Nat → Int32)) (enders_size : Int32) (enders : (Nat → Int32)) : va_W := [((ad 0), .inr (0, [.ref (ad 1), .ref (ad 3), .ref (ad 5), .ref (ad 7), .ref (ad 9), .ref (ad 11), .ref (ad 13), .int size, .int year])), ((ad 1), .inr (3, [.ref (ad 2), .int kinds_size])), ((ad 2), .inl (cI, 7, .inl kinds)), ((ad 3), .inr (3, [.ref (ad 4), .int figures_size])), ((ad 4), .inl (cI, 7, .inl figures)), ((ad 5), .inr (3, [.ref (ad 6), .int styles_size])), ((ad 6), .inl (cI, 7, .inl styles)), ((ad 7), .inr (3, [.ref (ad 8), .int fames_size])), ((ad 8), .inl (cI, 7, .inl fames)), ((ad 9), .inr (3, [.ref (ad 10), .int writing_size])), ((ad 10), .inl (cI, 7, .inl writing)), ((ad 13), .inr (3, [.ref (ad 14), .int enders_size])), ((ad 14), .inl (cI, 7, .inl enders))]
def f_X0_bookIsRead (year : Int32) (kinds : (Nat → Int32)) (figures : (Nat → Int32)) (styles : (Nat → Int32)) (fames : (Nat → Int32)) (writing : (Nat → Int32)) (enders : (Nat → Int32)) (x1 : Int32) : Option ((Nat → Int32)) := ((f_X3_get 7 enders x1).bind fun (r5 : Int32) => ((f_X0_isWriting writing x1).bind fun (r11 : Int32) => (if r11 = 0 then (some fames) else (if r5 < 0 then (some fames) else ((f_X0_worthEndedBy year kinds figures styles x1 r5).bind fun (r26 : Int32) => ((f_X0_addFame fames x1 r26).bind fun (r29 : (Nat → Int32)) => ((f_X3_get 7 kinds r5).bind fun (r39 : Int32) => ((f_X4_gainOfKind r39).bind fun (r42 : Int32) => ((f_X0_addFame r29 r5 r42).bind fun (r45 : (Nat → Int32)) => (some r45))))))))))
set_option maxHeartbeats 4000000 in
set_option maxRecDepth 100000 in
theorem c_X0_bookIsRead (l : Launch) (D : va_G) (cI : ClassId) (aS : aSt) (ad : Nat → Nat) (size : Int32) (year : Int32) (kinds_size : Int32) (kinds : (Nat → Int32)) (figures_size : Int32) (figures : (Nat → Int32)) (styles_size : Int32) (styles : (Nat → Int32)) (fames_size : Int32) (fames : (Nat → Int32)) (writing_size : Int32) (writing : (Nat → Int32)) (enders_size : Int32) (enders : (Nat → Int32)) (x1 : Int32) (R : (Nat → Int32)) (hf : f_X0_bookIsRead year kinds figures styles fames writing enders x1 = some R) : CtV l yX0_bookIsRead cX0_bookIsRead 3 none 7 D cI aS [.ref (ad 0), .int x1] (wd_X0_bookIsRead cI ad size year kinds_size kinds figures_size figures styles_size styles fames_size fames writing_size writing enders_size enders) (wd_X0_bookIsRead cI ad size year kinds_size kinds figures_size figures styles_size styles fames_size R writing_size writing enders_size enders) := by
  refine ctV_of (by decide) rfl (Nat.le_of_ble_eq_true rfl) ?_
  intro p e s m below meth c A Q ls X hret hP hD hl
  have hS : va_S A s.heap s.heap [] := va_S.rf
  have hx := X.1
  have hb := X.2.1
  have hl : lv_has ls 3 [(0, .ref (ad 0)), (1, .int x1)] := hl
  replace hf : ((f_X3_get 7 enders x1).bind fun (r5 : Int32) => ((f_X0_isWriting writing x1).bind fun (r11 : Int32) => (if r11 = 0 then (some fames) else (if r5 < 0 then (some fames) else ((f_X0_worthEndedBy year kinds figures styles x1 r5).bind fun (r26 : Int32) => ((f_X0_addFame fames x1 r26).bind fun (r29 : (Nat → Int32)) => ((f_X3_get 7 kinds r5).bind fun (r39 : Int32) => ((f_X4_gainOfKind r39).bind fun (r42 : Int32) => ((f_X0_addFame r29 r5 r42).bind fun (r45 : (Nat → Int32)) => (some r45)))))))))) = some R := hf
  refine lv_aload_n hx hb dX0_bookIsRead_0 rfl (lv_at hl 0 rfl) ?_
  refine fgX0_35 X hP (q0 := 0) rfl rfl dX0_bookIsRead_1 ?_
  refine lv_iload_n hx hb dX0_bookIsRead_4 rfl (lv_at hl 1 rfl) ?_
  obtain ⟨r5, hq5, hf⟩ := bS hf
  refine ro_i X hP hD hS [11, 12] rfl (run_N X hP hD hS [11, 12] rfl rfl (c_X3_get l D cI aS (fun k => ad (13 + k)) 7 enders_size enders x1 _ hq5 _) lkX0_60 (by decide) (q0 := 11) rfl rfl rfl rfl (Nat.le_of_ble_eq_true rfl) hl.1 dX0_bookIsRead_5) (fun H locs hP hS => ?_)
  refine lv_istore_n (lv' := [(2, .int r5), (0, .ref (ad 0)), (1, .int x1)]) hx hb dX0_bookIsRead_8 rfl hl (by decide) rfl (fun ls hl => ?_)
  refine lv_aload_n hx hb dX0_bookIsRead_9 rfl (lv_at hl 1 rfl) ?_
  refine lv_iload_n hx hb dX0_bookIsRead_10 rfl (lv_at hl 2 rfl) ?_
  obtain ⟨r11, hq11, hf⟩ := bS hf
  refine ro_i X hP hD hS [0, 9, 10] rfl (run_V X hP hD hS [0, 9, 10] rfl rfl (c_X0_isWriting l D cI aS ad size year writing_size writing x1 _ hq11 _) lkX0_73 (by decide) (q0 := 0) rfl rfl rfl rfl (Nat.le_of_ble_eq_true rfl) hl.1 dX0_bookIsRead_11) (fun H locs hP hS => ?_)
  refine lv_if_eq (tgt := 48) hx hb dX0_bookIsRead_14 (by decide) (fun c14 => ?_) (fun c14 => ?_)
  · have hf := iT c14 hf
    have hR := Option.some.inj hf
    subst hR
    exact hret _ _ _ _ hP hD hS dX0_bookIsRead_48
  · have hf := iF c14 hf
    refine lv_iload_n hx hb dX0_bookIsRead_17 rfl (lv_at hl 0 rfl) ?_
    refine lv_if_lt (tgt := 48) hx hb dX0_bookIsRead_18 (by decide) (fun c18 => ?_) (fun c18 => ?_)
    · have hf := iT c18 hf
      have hR := Option.some.inj hf
      subst hR
      exact hret _ _ _ _ hP hD hS dX0_bookIsRead_48
    · have hf := iF c18 hf
      refine lv_aload_n hx hb dX0_bookIsRead_21 rfl (lv_at hl 1 rfl) ?_
      refine lv_iload_n hx hb dX0_bookIsRead_22 rfl (lv_at hl 2 rfl) ?_
      refine lv_aload_n hx hb dX0_bookIsRead_23 rfl (lv_at hl 1 rfl) ?_
      refine lv_iload_n hx hb dX0_bookIsRead_24 rfl (lv_at hl 2 rfl) ?_
      refine lv_iload_n hx hb dX0_bookIsRead_25 rfl (lv_at hl 0 rfl) ?_
      obtain ⟨r26, hq26, hf⟩ := bS hf
      refine ro_i X hP hD hS [0, 1, 2, 3, 4, 5, 6] rfl (run_V X hP hD hS [0, 1, 2, 3, 4, 5, 6] rfl rfl (c_X0_worthEndedBy l D cI aS ad size year kinds_size kinds figures_size figures styles_size styles x1 r5 _ hq26 _) lkX0_95 (by decide) (q0 := 0) rfl rfl rfl rfl (Nat.le_of_ble_eq_true rfl) hl.1 dX0_bookIsRead_26) (fun H locs hP hS => ?_)
      obtain ⟨r29, hq29, hf⟩ := bS hf
      refine wr_v X hP hD hS [0, 7, 8] rfl (ws' := (wd_X0_bookIsRead cI ad size year kinds_size kinds figures_size figures styles_size styles fames_size r29 writing_size writing enders_size enders)) (Nat.le_of_ble_eq_true rfl) rfl rfl (run_V X hP hD hS [0, 7, 8] rfl rfl (c_X0_addFame l D cI aS ad size year fames_size fames x1 r26 _ hq29 _) lkX0_104 (by decide) (q0 := 0) rfl rfl rfl rfl (Nat.le_of_ble_eq_true rfl) hl.1 dX0_bookIsRead_29) (fun H locs hP hD hS => ?_)
      refine lv_aload_n hx hb dX0_bookIsRead_32 rfl (lv_at hl 1 rfl) ?_
      refine lv_iload_n hx hb dX0_bookIsRead_33 rfl (lv_at hl 0 rfl) ?_
      refine lv_aload_n hx hb dX0_bookIsRead_34 rfl (lv_at hl 1 rfl) ?_
      refine fgX0_14 X hP (q0 := 0) rfl rfl dX0_bookIsRead_35 ?_
      refine lv_iload_n hx hb dX0_bookIsRead_38 rfl (lv_at hl 0 rfl) ?_
      obtain ⟨r39, hq39, hf⟩ := bS hf
      refine ro_i X hP hD hS [1, 2] rfl (run_N X hP hD hS [1, 2] rfl rfl (c_X3_get l D cI aS (fun k => ad (1 + k)) 7 kinds_size kinds r5 _ hq39 _) lkX0_60 (by decide) (q0 := 1) rfl rfl rfl rfl (Nat.le_of_ble_eq_true rfl) hl.1 dX0_bookIsRead_39) (fun H locs hP hS => ?_)
      obtain ⟨r42, hq42, hf⟩ := bS hf
      refine ro_i X hP hD hS [] rfl (run_SN X hP hD hS [] rfl rfl (c_X4_gainOfKind l D cI aS r39 _ hq42 _) lkX0_107 (by decide) rfl rfl (Nat.le_of_ble_eq_true rfl) hl.1 dX0_bookIsRead_42) (fun H locs hP hS => ?_)
      obtain ⟨r45, hq45, hf⟩ := bS hf
      refine wr_v X hP hD hS [0, 7, 8] rfl (ws' := (wd_X0_bookIsRead cI ad size year kinds_size kinds figures_size figures styles_size styles fames_size r45 writing_size writing enders_size enders)) (Nat.le_of_ble_eq_true rfl) rfl rfl (run_V X hP hD hS [0, 7, 8] rfl rfl (c_X0_addFame l D cI aS ad size year fames_size r29 r5 r42 _ hq45 _) lkX0_104 (by decide) (q0 := 0) rfl rfl rfl rfl (Nat.le_of_ble_eq_true rfl) hl.1 dX0_bookIsRead_45) (fun H locs hP hD hS => ?_)
      have hR := Option.some.inj hf
      subst hR
      exact hret _ _ _ _ hP hD hS dX0_bookIsRead_48

abbrev wd_X0_placeOf (cI : ClassId) (ad : Nat → Nat) (size : Int32) (year : Int32) (order_size : Int32) (order : (Nat → Int32)) : va_W := [((ad 0), .inr (0, [.ref (ad 1), .ref (ad 3), .ref (ad 5), .ref (ad 7), .ref (ad 9), .ref (ad 11), .ref (ad 13), .int size, .int year])), ((ad 11), .inr (3, [.ref (ad 12), .int order_size])), ((ad 12), .inl (cI, 7, .inl order))]
def f_X0_placeOf_2 (size : Int32) (order : (Nat → Int32)) (x1 : Int32)  : Nat → Int32 → Option (Int32)
  | 0 => fun _ => none
  | fuel + 1 => fun v2_2 => (if size ≤ v2_2 then (some (-9 : Int32)) else ((f_X3_get 7 order v2_2).bind fun (r15 : Int32) => (if r15 = x1 then (some v2_2) else (f_X0_placeOf_2 size order x1  fuel (v2_2 + (1 : Int32))))))
theorem e_X0_placeOf_2 (size : Int32) (order : (Nat → Int32)) (x1 : Int32)  (fuel : Nat) (v2_2 : Int32) : f_X0_placeOf_2 size order x1  (fuel + 1) v2_2 = (if size ≤ v2_2 then (some (-9 : Int32)) else ((f_X3_get 7 order v2_2).bind fun (r15 : Int32) => (if r15 = x1 then (some v2_2) else (f_X0_placeOf_2 size order x1  fuel (v2_2 + (1 : Int32)))))) := rfl
def f_X0_placeOf (size : Int32) (order : (Nat → Int32)) (x1 : Int32) : Option (Int32) := (f_X0_placeOf_2 size order x1  FU (0 : Int32))
set_option maxHeartbeats 4000000 in
set_option maxRecDepth 100000 in
theorem w_X0_placeOf_2 {p : Program} {l : Launch} {e : Env} {s : State} {m : MethodId} {args : Array Value} {below : List Frame} {meth : Method} {c : Code} {D : va_G} {cI : ClassId} {aS : aSt} {A : Nat → Prop} {Q : State → Prop}  (ad : Nat → Nat) (size : Int32) (year : Int32) (order_size : Int32) (order : (Nat → Int32)) (x1 : Int32) {R : Int32} (X : Bx p s m args meth c cX0_placeOf 3 (some .int) RX0 D cI aS A) (hret : RtI p l e 1 s m args below meth c cX0_placeOf (some .int) D A (wd_X0_placeOf cI ad size year order_size order) R Q) : ∀ (fuel : Nat) (v2_2 : Int32) (H : Heap) (locs : List Loc) (ls : Array Slot), f_X0_placeOf_2 size order x1  fuel v2_2 = some R → lv_has ls 3 [(0, .ref (ad 0)), (1, .int x1), (2, .int v2_2)] → va_P D vwCl (wd_X0_placeOf cI ad size year order_size order) H → va_D A (wd_X0_placeOf cI ad size year order_size order) → va_S A s.heap H locs → Wh p l e 1 s m args below meth c H locs Q (F0 m 2 ls []) := by
  have hx := X.1
  have hb := X.2.1
  intro fuel
  induction fuel with
  | zero =>
    intro v2_2 H locs ls hf hl hP hD hS
    cases hf
  | succ fuel ih =>
    intro v2_2 H locs ls hf hl hP hD hS
    replace hf : (if size ≤ v2_2 then (some (-9 : Int32)) else ((f_X3_get 7 order v2_2).bind fun (r15 : Int32) => (if r15 = x1 then (some v2_2) else (f_X0_placeOf_2 size order x1  fuel (v2_2 + (1 : Int32)))))) = some R := hf
    refine lv_iload_n hx hb dX0_placeOf_2 rfl (lv_at hl 2 rfl) ?_
    refine lv_aload_n hx hb dX0_placeOf_3 rfl (lv_at hl 0 rfl) ?_
    refine fgX0_38 X hP (q0 := 0) rfl rfl dX0_placeOf_4 ?_
    refine lv_icmp_ge (tgt := 30) hx hb dX0_placeOf_7 (by decide) (fun c7 => ?_) (fun c7 => ?_)
    · have hf := iT c7 hf
      refine lv_bipush (v := -9) hx hb dX0_placeOf_30 (by decide) ?_
      have hR := Option.some.inj hf
      subst hR
      exact hret _ _ _ _ _ rfl (fun _ hn => by cases hn; rfl) hP hD hS dX0_placeOf_32
    · have hf := iF c7 hf
      refine lv_aload_n hx hb dX0_placeOf_10 rfl (lv_at hl 0 rfl) ?_
      refine fgX0_32 X hP (q0 := 0) rfl rfl dX0_placeOf_11 ?_
      refine lv_iload_n hx hb dX0_placeOf_14 rfl (lv_at hl 2 rfl) ?_
      obtain ⟨r15, hq15, hf⟩ := bS hf
      refine ro_i X hP hD hS [1, 2] rfl (run_N X hP hD hS [1, 2] rfl rfl (c_X3_get l D cI aS (fun k => ad (11 + k)) 7 order_size order v2_2 _ hq15 _) lkX0_60 (by decide) (q0 := 1) rfl rfl rfl rfl (Nat.le_of_ble_eq_true rfl) hl.1 dX0_placeOf_15) (fun H locs hP hS => ?_)
      refine lv_iload_n hx hb dX0_placeOf_18 rfl (lv_at hl 1 rfl) ?_
      refine lv_icmp_ne (tgt := 24) hx hb dX0_placeOf_19 (by decide) (fun c19 => ?_) (fun c19 => ?_)
      · have hf := iF c19 hf
        refine lv_iinc (v := (v2_2 + (1 : Int32))) (lv' := [(2, .int (v2_2 + (1 : Int32))), (0, .ref (ad 0)), (1, .int x1)]) hx hb dX0_placeOf_24 hl (k := 2) rfl rfl (by decide) rfl (fun ls hl => ?_)
        refine lv_goto (tgt := 2) hx hb dX0_placeOf_27 (by decide) ?_
        exact ih (v2_2 + (1 : Int32)) _ _ _ hf (lv_sub hl [1, 2, 0] rfl) hP hD hS
      · have hf := iT c19 hf
        refine lv_iload_n hx hb dX0_placeOf_22 rfl (lv_at hl 2 rfl) ?_
        have hR := Option.some.inj hf
        subst hR
        exact hret _ _ _ _ _ rfl (fun _ hn => by cases hn; rfl) hP hD hS dX0_placeOf_23
set_option maxHeartbeats 4000000 in
set_option maxRecDepth 100000 in
theorem c_X0_placeOf (l : Launch) (D : va_G) (cI : ClassId) (aS : aSt) (ad : Nat → Nat) (size : Int32) (year : Int32) (order_size : Int32) (order : (Nat → Int32)) (x1 : Int32) (R : Int32) (hf : f_X0_placeOf size order x1 = some R) : CtI l yX0_placeOf cX0_placeOf 3 (some .int) 1 D cI aS [.ref (ad 0), .int x1] (wd_X0_placeOf cI ad size year order_size order) (wd_X0_placeOf cI ad size year order_size order) R := by
  refine ctI_of (by decide) ⟨_, rfl⟩ (Nat.le_of_ble_eq_true rfl) ?_
  intro p e s m below meth c A Q ls X hret hP hD hl
  have hS : va_S A s.heap s.heap [] := va_S.rf
  have hx := X.1
  have hb := X.2.1
  have hl : lv_has ls 3 [(0, .ref (ad 0)), (1, .int x1)] := hl
  replace hf : (f_X0_placeOf_2 size order x1  FU (0 : Int32)) = some R := hf
  refine lv_iconst (v := 0) hx hb dX0_placeOf_0 (by decide) ?_
  refine lv_istore_n (lv' := [(2, .int (0 : Int32)), (0, .ref (ad 0)), (1, .int x1)]) hx hb dX0_placeOf_1 rfl hl (by decide) rfl (fun ls hl => ?_)
  exact w_X0_placeOf_2 ad size year order_size order x1 X hret  _ (0 : Int32) _ _ _ hf (lv_sub hl [1, 2, 0] rfl) hP hD hS

abbrev wd_X0_bringBehind (cI : ClassId) (ad : Nat → Nat) (size : Int32) (year : Int32) (writing_size : Int32) (writing : (Nat → Int32)) (order_size : Int32) (order : (Nat → Int32)) (enders_size : Int32) (enders : (Nat → Int32)) : va_W := [((ad 0), .inr (0, [.ref (ad 1), .ref (ad 3), .ref (ad 5), .ref (ad 7), .ref (ad 9), .ref (ad 11), .ref (ad 13), .int size, .int year])), ((ad 9), .inr (3, [.ref (ad 10), .int writing_size])), ((ad 10), .inl (cI, 7, .inl writing)), ((ad 11), .inr (3, [.ref (ad 12), .int order_size])), ((ad 12), .inl (cI, 7, .inl order)), ((ad 13), .inr (3, [.ref (ad 14), .int enders_size])), ((ad 14), .inl (cI, 7, .inl enders))]
def f_X0_bringBehind_10 (size : Int32) (kX10_44 : (Nat → Int32) → Option ((Nat → Int32) × (Nat → Int32))) : Nat → Int32 → (Nat → Int32) → Option ((Nat → Int32) × (Nat → Int32))
  | 0 => fun _ _ => none
  | fuel + 1 => fun v3_10 order_10 => (if size ≤ (v3_10 + (1 : Int32)) then (kX10_44 order_10) else ((f_X3_get 7 order_10 (v3_10 + (1 : Int32))).bind fun (r32 : Int32) => ((f_X3_set 7 order_10 v3_10 r32).bind fun (r35 : (Nat → Int32)) => (f_X0_bringBehind_10 size kX10_44 fuel (v3_10 + (1 : Int32)) r35))))
theorem e_X0_bringBehind_10 (size : Int32) (kX10_44 : (Nat → Int32) → Option ((Nat → Int32) × (Nat → Int32))) (fuel : Nat) (v3_10 : Int32) (order_10 : (Nat → Int32)) : f_X0_bringBehind_10 size kX10_44 (fuel + 1) v3_10 order_10 = (if size ≤ (v3_10 + (1 : Int32)) then (kX10_44 order_10) else ((f_X3_get 7 order_10 (v3_10 + (1 : Int32))).bind fun (r32 : Int32) => ((f_X3_set 7 order_10 v3_10 r32).bind fun (r35 : (Nat → Int32)) => (f_X0_bringBehind_10 size kX10_44 fuel (v3_10 + (1 : Int32)) r35)))) := rfl
def f_X0_bringBehind_60 (u3_60 : Int32) (kX60_97 : (Nat → Int32) → Option ((Nat → Int32) × (Nat → Int32))) : Nat → Int32 → (Nat → Int32) → Option ((Nat → Int32) × (Nat → Int32))
  | 0 => fun _ _ => none
  | fuel + 1 => fun v4_60 order_60 => (if v4_60 ≤ u3_60 then (kX60_97 order_60) else (if v4_60 ≤ 0 then (kX60_97 order_60) else ((f_X3_get 7 order_60 (v4_60 - (1 : Int32))).bind fun (r85 : Int32) => ((f_X3_set 7 order_60 v4_60 r85).bind fun (r88 : (Nat → Int32)) => (f_X0_bringBehind_60 u3_60 kX60_97 fuel (v4_60 + (-1 : Int32)) r88)))))
theorem e_X0_bringBehind_60 (u3_60 : Int32) (kX60_97 : (Nat → Int32) → Option ((Nat → Int32) × (Nat → Int32))) (fuel : Nat) (v4_60 : Int32) (order_60 : (Nat → Int32)) : f_X0_bringBehind_60 u3_60 kX60_97 (fuel + 1) v4_60 order_60 = (if v4_60 ≤ u3_60 then (kX60_97 order_60) else (if v4_60 ≤ 0 then (kX60_97 order_60) else ((f_X3_get 7 order_60 (v4_60 - (1 : Int32))).bind fun (r85 : Int32) => ((f_X3_set 7 order_60 v4_60 r85).bind fun (r88 : (Nat → Int32)) => (f_X0_bringBehind_60 u3_60 kX60_97 fuel (v4_60 + (-1 : Int32)) r88))))) := rfl
def f_X0_bringBehind_97 (size : Int32) (writing : (Nat → Int32)) (x1 : Int32)  (v3_97 : Int32) (order_97 : (Nat → Int32)) (enders_97 : (Nat → Int32)) : Option ((Nat → Int32) × (Nat → Int32)) := ((f_X3_set 7 order_97 v3_97 x1).bind fun (r103 : (Nat → Int32)) => ((f_X0_tellEnders size writing r103 enders_97).bind fun (r107 : (Nat → Int32)) => (some (r103, r107))))
def f_X0_bringBehind_44 (size : Int32) (writing : (Nat → Int32)) (x1 : Int32) (x2 : Int32)  (order_44 : (Nat → Int32)) (enders_44 : (Nat → Int32)) : Option ((Nat → Int32) × (Nat → Int32)) := ((f_X0_placeOf size order_44 x2).bind fun (r46 : Int32) => (f_X0_bringBehind_60 (r46 + (1 : Int32)) (fun (order_97 : (Nat → Int32)) => (f_X0_bringBehind_97 size writing x1  (r46 + (1 : Int32)) order_97 enders_44)) FU (size - (1 : Int32)) order_44))
def f_X0_bringBehind (size : Int32) (writing : (Nat → Int32)) (order : (Nat → Int32)) (enders : (Nat → Int32)) (x1 : Int32) (x2 : Int32) : Option ((Nat → Int32) × (Nat → Int32)) := ((f_X0_placeOf size order x1).bind fun (r3 : Int32) => (f_X0_bringBehind_10 size (fun (order_44 : (Nat → Int32)) => (f_X0_bringBehind_44 size writing x1 x2  order_44 enders)) FU (maxI (0 : Int32) r3) order))
set_option maxHeartbeats 4000000 in
set_option maxRecDepth 100000 in
theorem w_X0_bringBehind_10 {p : Program} {l : Launch} {e : Env} {s : State} {m : MethodId} {args : Array Value} {below : List Frame} {meth : Method} {c : Code} {D : va_G} {cI : ClassId} {aS : aSt} {A : Nat → Prop} {Q : State → Prop}  (ad : Nat → Nat) (size : Int32) (year : Int32) (writing_size : Int32) (writing : (Nat → Int32)) (order_size : Int32) (enders_size : Int32) (x1 : Int32) (x2 : Int32) (enders_u10 : (Nat → Int32)) {R : (Nat → Int32) × (Nat → Int32)} (X : Bx p s m args meth c cX0_bringBehind 5 none RX0 D cI aS A) (hret : RtV p l e 6 s m args below meth c cX0_bringBehind D A (wd_X0_bringBehind cI ad size year writing_size writing order_size R.1 enders_size R.2) Q) (kX10_44 : (Nat → Int32) → Option ((Nat → Int32) × (Nat → Int32))) (hkX10_44 : ∀ (order_44 : (Nat → Int32)) (H : Heap) (locs : List Loc) (ls : Array Slot), kX10_44 order_44 = some R → lv_has ls 5 [(0, .ref (ad 0)), (1, .int x1), (2, .int x2)] → va_P D vwCl (wd_X0_bringBehind cI ad size year writing_size writing order_size order_44 enders_size enders_u10) H → va_D A (wd_X0_bringBehind cI ad size year writing_size writing order_size order_44 enders_size enders_u10) → va_S A s.heap H locs → Wh p l e 6 s m args below meth c H locs Q (F0 m 44 ls [])) : ∀ (fuel : Nat) (v3_10 : Int32) (order_10 : (Nat → Int32)) (H : Heap) (locs : List Loc) (ls : Array Slot), f_X0_bringBehind_10 size kX10_44 fuel v3_10 order_10 = some R → lv_has ls 5 [(0, .ref (ad 0)), (1, .int x1), (2, .int x2), (3, .int v3_10)] → va_P D vwCl (wd_X0_bringBehind cI ad size year writing_size writing order_size order_10 enders_size enders_u10) H → va_D A (wd_X0_bringBehind cI ad size year writing_size writing order_size order_10 enders_size enders_u10) → va_S A s.heap H locs → Wh p l e 6 s m args below meth c H locs Q (F0 m 10 ls []) := by
  have hx := X.1
  have hb := X.2.1
  intro fuel
  induction fuel with
  | zero =>
    intro v3_10 order_10 H locs ls hf hl hP hD hS
    cases hf
  | succ fuel ih =>
    intro v3_10 order_10 H locs ls hf hl hP hD hS
    replace hf : (if size ≤ (v3_10 + (1 : Int32)) then (kX10_44 order_10) else ((f_X3_get 7 order_10 (v3_10 + (1 : Int32))).bind fun (r32 : Int32) => ((f_X3_set 7 order_10 v3_10 r32).bind fun (r35 : (Nat → Int32)) => (f_X0_bringBehind_10 size kX10_44 fuel (v3_10 + (1 : Int32)) r35)))) = some R := hf
    refine lv_iload_n hx hb dX0_bringBehind_10 rfl (lv_at hl 3 rfl) ?_
    refine lv_iconst (v := 1) hx hb dX0_bringBehind_11 (by decide) ?_
    refine lv_iadd hx hb dX0_bringBehind_12 ?_
    refine lv_aload_n hx hb dX0_bringBehind_13 rfl (lv_at hl 0 rfl) ?_
    refine fgX0_38 X hP (q0 := 0) rfl rfl dX0_bringBehind_14 ?_
    refine lv_icmp_ge (tgt := 44) hx hb dX0_bringBehind_17 (by decide) (fun c17 => ?_) (fun c17 => ?_)
    · have hf := iT c17 hf
      exact hkX10_44 order_10 _ _ _ hf (lv_sub hl [0, 1, 2] rfl) hP hD hS
    · have hf := iF c17 hf
      refine lv_aload_n hx hb dX0_bringBehind_20 rfl (lv_at hl 0 rfl) ?_
      refine fgX0_32 X hP (q0 := 0) rfl rfl dX0_bringBehind_21 ?_
      refine lv_iload_n hx hb dX0_bringBehind_24 rfl (lv_at hl 3 rfl) ?_
      refine lv_aload_n hx hb dX0_bringBehind_25 rfl (lv_at hl 0 rfl) ?_
      refine fgX0_32 X hP (q0 := 0) rfl rfl dX0_bringBehind_26 ?_
      refine lv_iload_n hx hb dX0_bringBehind_29 rfl (lv_at hl 3 rfl) ?_
      refine lv_iconst (v := 1) hx hb dX0_bringBehind_30 (by decide) ?_
      refine lv_iadd hx hb dX0_bringBehind_31 ?_
      obtain ⟨r32, hq32, hf⟩ := bS hf
      refine ro_i X hP hD hS [3, 4] rfl (run_N X hP hD hS [3, 4] rfl rfl (c_X3_get l D cI aS (fun k => ad (11 + k)) 7 order_size order_10 (v3_10 + (1 : Int32)) _ hq32 _) lkX0_60 (by decide) (q0 := 3) rfl rfl rfl rfl (Nat.le_of_ble_eq_true rfl) hl.1 dX0_bringBehind_32) (fun H locs hP hS => ?_)
      obtain ⟨r35, hq35, hf⟩ := bS hf
      refine wr_v X hP hD hS [3, 4] rfl (ws' := (wd_X0_bringBehind cI ad size year writing_size writing order_size r35 enders_size enders_u10)) (Nat.le_of_ble_eq_true rfl) rfl rfl (run_N X hP hD hS [3, 4] rfl rfl (c_X3_set l D cI aS (fun k => ad (11 + k)) 7 order_size order_10 v3_10 r32 _ hq35 _) lkX0_49 (by decide) (q0 := 3) rfl rfl rfl rfl (Nat.le_of_ble_eq_true rfl) hl.1 dX0_bringBehind_35) (fun H locs hP hD hS => ?_)
      refine lv_iinc (v := (v3_10 + (1 : Int32))) (lv' := [(3, .int (v3_10 + (1 : Int32))), (0, .ref (ad 0)), (1, .int x1), (2, .int x2)]) hx hb dX0_bringBehind_38 hl (k := 3) rfl rfl (by decide) rfl (fun ls hl => ?_)
      refine lv_goto (tgt := 10) hx hb dX0_bringBehind_41 (by decide) ?_
      exact ih (v3_10 + (1 : Int32)) r35 _ _ _ hf (lv_sub hl [1, 2, 3, 0] rfl) hP hD hS
set_option maxHeartbeats 4000000 in
set_option maxRecDepth 100000 in
theorem w_X0_bringBehind_60 {p : Program} {l : Launch} {e : Env} {s : State} {m : MethodId} {args : Array Value} {below : List Frame} {meth : Method} {c : Code} {D : va_G} {cI : ClassId} {aS : aSt} {A : Nat → Prop} {Q : State → Prop}  (ad : Nat → Nat) (size : Int32) (year : Int32) (writing_size : Int32) (writing : (Nat → Int32)) (order_size : Int32) (enders_size : Int32) (x1 : Int32) (x2 : Int32) (u3_60 : Int32) (enders_u60 : (Nat → Int32)) {R : (Nat → Int32) × (Nat → Int32)} (X : Bx p s m args meth c cX0_bringBehind 5 none RX0 D cI aS A) (hret : RtV p l e 6 s m args below meth c cX0_bringBehind D A (wd_X0_bringBehind cI ad size year writing_size writing order_size R.1 enders_size R.2) Q) (kX60_97 : (Nat → Int32) → Option ((Nat → Int32) × (Nat → Int32))) (hkX60_97 : ∀ (order_97 : (Nat → Int32)) (H : Heap) (locs : List Loc) (ls : Array Slot), kX60_97 order_97 = some R → lv_has ls 5 [(0, .ref (ad 0)), (1, .int x1), (3, .int u3_60)] → va_P D vwCl (wd_X0_bringBehind cI ad size year writing_size writing order_size order_97 enders_size enders_u60) H → va_D A (wd_X0_bringBehind cI ad size year writing_size writing order_size order_97 enders_size enders_u60) → va_S A s.heap H locs → Wh p l e 6 s m args below meth c H locs Q (F0 m 97 ls [])) : ∀ (fuel : Nat) (v4_60 : Int32) (order_60 : (Nat → Int32)) (H : Heap) (locs : List Loc) (ls : Array Slot), f_X0_bringBehind_60 u3_60 kX60_97 fuel v4_60 order_60 = some R → lv_has ls 5 [(0, .ref (ad 0)), (1, .int x1), (3, .int u3_60), (4, .int v4_60)] → va_P D vwCl (wd_X0_bringBehind cI ad size year writing_size writing order_size order_60 enders_size enders_u60) H → va_D A (wd_X0_bringBehind cI ad size year writing_size writing order_size order_60 enders_size enders_u60) → va_S A s.heap H locs → Wh p l e 6 s m args below meth c H locs Q (F0 m 60 ls []) := by
  have hx := X.1
  have hb := X.2.1
  intro fuel
  induction fuel with
  | zero =>
    intro v4_60 order_60 H locs ls hf hl hP hD hS
    cases hf
  | succ fuel ih =>
    intro v4_60 order_60 H locs ls hf hl hP hD hS
    replace hf : (if v4_60 ≤ u3_60 then (kX60_97 order_60) else (if v4_60 ≤ 0 then (kX60_97 order_60) else ((f_X3_get 7 order_60 (v4_60 - (1 : Int32))).bind fun (r85 : Int32) => ((f_X3_set 7 order_60 v4_60 r85).bind fun (r88 : (Nat → Int32)) => (f_X0_bringBehind_60 u3_60 kX60_97 fuel (v4_60 + (-1 : Int32)) r88))))) = some R := hf
    refine lv_iload hx hb dX0_bringBehind_60 (lv_at hl 3 rfl) ?_
    refine lv_iload_n hx hb dX0_bringBehind_62 rfl (lv_at hl 2 rfl) ?_
    refine lv_icmp_le (tgt := 97) hx hb dX0_bringBehind_63 (by decide) (fun c63 => ?_) (fun c63 => ?_)
    · have hf := iT c63 hf
      exact hkX60_97 order_60 _ _ _ hf (lv_sub hl [0, 1, 2] rfl) hP hD hS
    · have hf := iF c63 hf
      refine lv_iload hx hb dX0_bringBehind_66 (lv_at hl 3 rfl) ?_
      refine lv_if_le (tgt := 97) hx hb dX0_bringBehind_68 (by decide) (fun c68 => ?_) (fun c68 => ?_)
      · have hf := iT c68 hf
        exact hkX60_97 order_60 _ _ _ hf (lv_sub hl [0, 1, 2] rfl) hP hD hS
      · have hf := iF c68 hf
        refine lv_aload_n hx hb dX0_bringBehind_71 rfl (lv_at hl 0 rfl) ?_
        refine fgX0_32 X hP (q0 := 0) rfl rfl dX0_bringBehind_72 ?_
        refine lv_iload hx hb dX0_bringBehind_75 (lv_at hl 3 rfl) ?_
        refine lv_aload_n hx hb dX0_bringBehind_77 rfl (lv_at hl 0 rfl) ?_
        refine fgX0_32 X hP (q0 := 0) rfl rfl dX0_bringBehind_78 ?_
        refine lv_iload hx hb dX0_bringBehind_81 (lv_at hl 3 rfl) ?_
        refine lv_iconst (v := 1) hx hb dX0_bringBehind_83 (by decide) ?_
        refine lv_isub hx hb dX0_bringBehind_84 ?_
        obtain ⟨r85, hq85, hf⟩ := bS hf
        refine ro_i X hP hD hS [3, 4] rfl (run_N X hP hD hS [3, 4] rfl rfl (c_X3_get l D cI aS (fun k => ad (11 + k)) 7 order_size order_60 (v4_60 - (1 : Int32)) _ hq85 _) lkX0_60 (by decide) (q0 := 3) rfl rfl rfl rfl (Nat.le_of_ble_eq_true rfl) hl.1 dX0_bringBehind_85) (fun H locs hP hS => ?_)
        obtain ⟨r88, hq88, hf⟩ := bS hf
        refine wr_v X hP hD hS [3, 4] rfl (ws' := (wd_X0_bringBehind cI ad size year writing_size writing order_size r88 enders_size enders_u60)) (Nat.le_of_ble_eq_true rfl) rfl rfl (run_N X hP hD hS [3, 4] rfl rfl (c_X3_set l D cI aS (fun k => ad (11 + k)) 7 order_size order_60 v4_60 r85 _ hq88 _) lkX0_49 (by decide) (q0 := 3) rfl rfl rfl rfl (Nat.le_of_ble_eq_true rfl) hl.1 dX0_bringBehind_88) (fun H locs hP hD hS => ?_)
        refine lv_iinc (v := (v4_60 + (-1 : Int32))) (lv' := [(4, .int (v4_60 + (-1 : Int32))), (0, .ref (ad 0)), (1, .int x1), (3, .int u3_60)]) hx hb dX0_bringBehind_91 hl (k := 3) rfl rfl (by decide) rfl (fun ls hl => ?_)
        refine lv_goto (tgt := 60) hx hb dX0_bringBehind_94 (by decide) ?_
        exact ih (v4_60 + (-1 : Int32)) r88 _ _ _ hf (lv_sub hl [1, 2, 3, 0] rfl) hP hD hS
set_option maxHeartbeats 4000000 in
set_option maxRecDepth 100000 in
theorem w_X0_bringBehind_97 {p : Program} {l : Launch} {e : Env} {s : State} {m : MethodId} {args : Array Value} {below : List Frame} {meth : Method} {c : Code} {D : va_G} {cI : ClassId} {aS : aSt} {A : Nat → Prop} {Q : State → Prop}  (ad : Nat → Nat) (size : Int32) (year : Int32) (writing_size : Int32) (writing : (Nat → Int32)) (order_size : Int32) (enders_size : Int32) (x1 : Int32) (x2 : Int32) {R : (Nat → Int32) × (Nat → Int32)} (X : Bx p s m args meth c cX0_bringBehind 5 none RX0 D cI aS A) (hret : RtV p l e 6 s m args below meth c cX0_bringBehind D A (wd_X0_bringBehind cI ad size year writing_size writing order_size R.1 enders_size R.2) Q) : ∀ (v3_97 : Int32) (order_97 : (Nat → Int32)) (enders_97 : (Nat → Int32)) (H : Heap) (locs : List Loc) (ls : Array Slot), f_X0_bringBehind_97 size writing x1  v3_97 order_97 enders_97 = some R → lv_has ls 5 [(0, .ref (ad 0)), (1, .int x1), (3, .int v3_97)] → va_P D vwCl (wd_X0_bringBehind cI ad size year writing_size writing order_size order_97 enders_size enders_97) H → va_D A (wd_X0_bringBehind cI ad size year writing_size writing order_size order_97 enders_size enders_97) → va_S A s.heap H locs → Wh p l e 6 s m args below meth c H locs Q (F0 m 97 ls []) := by
  have hx := X.1
  have hb := X.2.1
  intro v3_97 order_97 enders_97 H locs ls hf hl hP hD hS
  replace hf : ((f_X3_set 7 order_97 v3_97 x1).bind fun (r103 : (Nat → Int32)) => ((f_X0_tellEnders size writing r103 enders_97).bind fun (r107 : (Nat → Int32)) => (some (r103, r107)))) = some R := hf
  refine lv_aload_n hx hb dX0_bringBehind_97 rfl (lv_at hl 0 rfl) ?_
  refine fgX0_32 X hP (q0 := 0) rfl rfl dX0_bringBehind_98 ?_
  refine lv_iload_n hx hb dX0_bringBehind_101 rfl (lv_at hl 2 rfl) ?_
  refine lv_iload_n hx hb dX0_bringBehind_102 rfl (lv_at hl 1 rfl) ?_
  obtain ⟨r103, hq103, hf⟩ := bS hf
  refine wr_v X hP hD hS [3, 4] rfl (ws' := (wd_X0_bringBehind cI ad size year writing_size writing order_size r103 enders_size enders_97)) (Nat.le_of_ble_eq_true rfl) rfl rfl (run_N X hP hD hS [3, 4] rfl rfl (c_X3_set l D cI aS (fun k => ad (11 + k)) 7 order_size order_97 v3_97 x1 _ hq103 _) lkX0_49 (by decide) (q0 := 3) rfl rfl rfl rfl (Nat.le_of_ble_eq_true rfl) hl.1 dX0_bringBehind_103) (fun H locs hP hD hS => ?_)
  refine lv_aload_n hx hb dX0_bringBehind_106 rfl (lv_at hl 0 rfl) ?_
  obtain ⟨r107, hq107, hf⟩ := bS hf
  refine wr_v X hP hD hS [0, 1, 2, 3, 4, 5, 6] rfl (ws' := (wd_X0_bringBehind cI ad size year writing_size writing order_size r103 enders_size r107)) (Nat.le_of_ble_eq_true rfl) rfl rfl (run_V X hP hD hS [0, 1, 2, 3, 4, 5, 6] rfl rfl (c_X0_tellEnders l D cI aS ad size year writing_size writing order_size r103 enders_size enders_97 _ hq107 _) lkX0_53 (by decide) (q0 := 0) rfl rfl rfl rfl (Nat.le_of_ble_eq_true rfl) hl.1 dX0_bringBehind_107) (fun H locs hP hD hS => ?_)
  have hR := Option.some.inj hf
  subst hR
  exact hret _ _ _ _ hP hD hS dX0_bringBehind_110
set_option maxHeartbeats 4000000 in
set_option maxRecDepth 100000 in
theorem w_X0_bringBehind_44 {p : Program} {l : Launch} {e : Env} {s : State} {m : MethodId} {args : Array Value} {below : List Frame} {meth : Method} {c : Code} {D : va_G} {cI : ClassId} {aS : aSt} {A : Nat → Prop} {Q : State → Prop}  (ad : Nat → Nat) (size : Int32) (year : Int32) (writing_size : Int32) (writing : (Nat → Int32)) (order_size : Int32) (enders_size : Int32) (x1 : Int32) (x2 : Int32) {R : (Nat → Int32) × (Nat → Int32)} (X : Bx p s m args meth c cX0_bringBehind 5 none RX0 D cI aS A) (hret : RtV p l e 6 s m args below meth c cX0_bringBehind D A (wd_X0_bringBehind cI ad size year writing_size writing order_size R.1 enders_size R.2) Q) : ∀ (order_44 : (Nat → Int32)) (enders_44 : (Nat → Int32)) (H : Heap) (locs : List Loc) (ls : Array Slot), f_X0_bringBehind_44 size writing x1 x2  order_44 enders_44 = some R → lv_has ls 5 [(0, .ref (ad 0)), (1, .int x1), (2, .int x2)] → va_P D vwCl (wd_X0_bringBehind cI ad size year writing_size writing order_size order_44 enders_size enders_44) H → va_D A (wd_X0_bringBehind cI ad size year writing_size writing order_size order_44 enders_size enders_44) → va_S A s.heap H locs → Wh p l e 6 s m args below meth c H locs Q (F0 m 44 ls []) := by
  have hx := X.1
  have hb := X.2.1
  intro order_44 enders_44 H locs ls hf hl hP hD hS
  replace hf : ((f_X0_placeOf size order_44 x2).bind fun (r46 : Int32) => (f_X0_bringBehind_60 (r46 + (1 : Int32)) (fun (order_97 : (Nat → Int32)) => (f_X0_bringBehind_97 size writing x1  (r46 + (1 : Int32)) order_97 enders_44)) FU (size - (1 : Int32)) order_44)) = some R := hf
  refine lv_aload_n hx hb dX0_bringBehind_44 rfl (lv_at hl 0 rfl) ?_
  refine lv_iload_n hx hb dX0_bringBehind_45 rfl (lv_at hl 2 rfl) ?_
  obtain ⟨r46, hq46, hf⟩ := bS hf
  refine ro_i X hP hD hS [0, 3, 4] rfl (run_V X hP hD hS [0, 3, 4] rfl rfl (c_X0_placeOf l D cI aS ad size year order_size order_44 x2 _ hq46 _) lkX0_64 (by decide) (q0 := 0) rfl rfl rfl rfl (Nat.le_of_ble_eq_true rfl) hl.1 dX0_bringBehind_46) (fun H locs hP hS => ?_)
  refine lv_iconst (v := 1) hx hb dX0_bringBehind_49 (by decide) ?_
  refine lv_iadd hx hb dX0_bringBehind_50 ?_
  refine lv_istore_n (lv' := [(3, .int (r46 + (1 : Int32))), (0, .ref (ad 0)), (1, .int x1), (2, .int x2)]) hx hb dX0_bringBehind_51 rfl hl (by decide) rfl (fun ls hl => ?_)
  refine lv_aload_n hx hb dX0_bringBehind_52 rfl (lv_at hl 1 rfl) ?_
  refine fgX0_38 X hP (q0 := 0) rfl rfl dX0_bringBehind_53 ?_
  refine lv_iconst (v := 1) hx hb dX0_bringBehind_56 (by decide) ?_
  refine lv_isub hx hb dX0_bringBehind_57 ?_
  refine lv_istore (lv' := [(4, .int (size - (1 : Int32))), (3, .int (r46 + (1 : Int32))), (0, .ref (ad 0)), (1, .int x1), (2, .int x2)]) hx hb dX0_bringBehind_58 hl (by decide) rfl (fun ls hl => ?_)
  exact w_X0_bringBehind_60 ad size year writing_size writing order_size enders_size x1 x2 (r46 + (1 : Int32)) enders_44 X hret _ (fun order_97 _ _ _ hf hl hP hD hS => w_X0_bringBehind_97 ad size year writing_size writing order_size enders_size x1 x2 X hret  (r46 + (1 : Int32)) order_97 enders_44 _ _ _ hf (lv_sub hl [0, 1, 2] rfl) hP hD hS) _ (size - (1 : Int32)) order_44 _ _ _ hf (lv_sub hl [2, 3, 1, 0] rfl) hP hD hS
set_option maxHeartbeats 4000000 in
set_option maxRecDepth 100000 in
theorem c_X0_bringBehind (l : Launch) (D : va_G) (cI : ClassId) (aS : aSt) (ad : Nat → Nat) (size : Int32) (year : Int32) (writing_size : Int32) (writing : (Nat → Int32)) (order_size : Int32) (order : (Nat → Int32)) (enders_size : Int32) (enders : (Nat → Int32)) (x1 : Int32) (x2 : Int32) (R : (Nat → Int32) × (Nat → Int32)) (hf : f_X0_bringBehind size writing order enders x1 x2 = some R) : CtV l yX0_bringBehind cX0_bringBehind 5 none 6 D cI aS [.ref (ad 0), .int x1, .int x2] (wd_X0_bringBehind cI ad size year writing_size writing order_size order enders_size enders) (wd_X0_bringBehind cI ad size year writing_size writing order_size R.1 enders_size R.2) := by
  refine ctV_of (by decide) rfl (Nat.le_of_ble_eq_true rfl) ?_
  intro p e s m below meth c A Q ls X hret hP hD hl
  have hS : va_S A s.heap s.heap [] := va_S.rf
  have hx := X.1
  have hb := X.2.1
  have hl : lv_has ls 5 [(0, .ref (ad 0)), (1, .int x1), (2, .int x2)] := hl
  replace hf : ((f_X0_placeOf size order x1).bind fun (r3 : Int32) => (f_X0_bringBehind_10 size (fun (order_44 : (Nat → Int32)) => (f_X0_bringBehind_44 size writing x1 x2  order_44 enders)) FU (maxI (0 : Int32) r3) order)) = some R := hf
  refine lv_iconst (v := 0) hx hb dX0_bringBehind_0 (by decide) ?_
  refine lv_aload_n hx hb dX0_bringBehind_1 rfl (lv_at hl 0 rfl) ?_
  refine lv_iload_n hx hb dX0_bringBehind_2 rfl (lv_at hl 1 rfl) ?_
  obtain ⟨r3, hq3, hf⟩ := bS hf
  refine ro_i X hP hD hS [0, 3, 4] rfl (run_V X hP hD hS [0, 3, 4] rfl rfl (c_X0_placeOf l D cI aS ad size year order_size order x1 _ hq3 _) lkX0_64 (by decide) (q0 := 0) rfl rfl rfl rfl (Nat.le_of_ble_eq_true rfl) hl.1 dX0_bringBehind_3) (fun H locs hP hS => ?_)
  refine x_mmax X mw_519 mw_136 mw_105 mw_137 (by decide) hl.1 (Nat.le_of_ble_eq_true rfl) dX0_bringBehind_6 ?_
  refine lv_istore_n (lv' := [(3, .int (maxI (0 : Int32) r3)), (0, .ref (ad 0)), (1, .int x1), (2, .int x2)]) hx hb dX0_bringBehind_9 rfl hl (by decide) rfl (fun ls hl => ?_)
  exact w_X0_bringBehind_10 ad size year writing_size writing order_size enders_size x1 x2 enders X hret _ (fun order_44 _ _ _ hf hl hP hD hS => w_X0_bringBehind_44 ad size year writing_size writing order_size enders_size x1 x2 X hret  order_44 enders _ _ _ hf (lv_sub hl [0, 1, 2] rfl) hP hD hS) _ (maxI (0 : Int32) r3) order _ _ _ hf (lv_sub hl [1, 2, 3, 0] rfl) hP hD hS

abbrev wd_X0_endBy (cI : ClassId) (ad : Nat → Nat) (size : Int32) (year : Int32) (kinds_size : Int32) (kinds : (Nat → Int32)) (figures_size : Int32) (figures : (Nat → Int32)) : va_W := [((ad 0), .inr (0, [.ref (ad 1), .ref (ad 3), .ref (ad 5), .ref (ad 7), .ref (ad 9), .ref (ad 11), .ref (ad 13), .int size, .int year])), ((ad 1), .inr (3, [.ref (ad 2), .int kinds_size])), ((ad 2), .inl (cI, 7, .inl kinds)), ((ad 3), .inr (3, [.ref (ad 4), .int figures_size])), ((ad 4), .inl (cI, 7, .inl figures))]
def f_X0_endBy (kinds : (Nat → Int32)) (figures : (Nat → Int32)) (x1 : Int32) (x2 : Int32) : Option (Int32) := ((f_X3_get 7 kinds x1).bind fun (r5 : Int32) => ((f_X3_get 7 figures x1).bind fun (r13 : Int32) => ((f_X4_endOfKind r5 r13 x2).bind fun (r17 : Int32) => (some r17))))
set_option maxHeartbeats 4000000 in
set_option maxRecDepth 100000 in
theorem c_X0_endBy (l : Launch) (D : va_G) (cI : ClassId) (aS : aSt) (ad : Nat → Nat) (size : Int32) (year : Int32) (kinds_size : Int32) (kinds : (Nat → Int32)) (figures_size : Int32) (figures : (Nat → Int32)) (x1 : Int32) (x2 : Int32) (R : Int32) (hf : f_X0_endBy kinds figures x1 x2 = some R) : CtI l yX0_endBy cX0_endBy 3 (some .int) 1 D cI aS [.ref (ad 0), .int x1, .int x2] (wd_X0_endBy cI ad size year kinds_size kinds figures_size figures) (wd_X0_endBy cI ad size year kinds_size kinds figures_size figures) R := by
  refine ctI_of (by decide) ⟨_, rfl⟩ (Nat.le_of_ble_eq_true rfl) ?_
  intro p e s m below meth c A Q ls X hret hP hD hl
  have hS : va_S A s.heap s.heap [] := va_S.rf
  have hx := X.1
  have hb := X.2.1
  have hl : lv_has ls 3 [(0, .ref (ad 0)), (1, .int x1), (2, .int x2)] := hl
  replace hf : ((f_X3_get 7 kinds x1).bind fun (r5 : Int32) => ((f_X3_get 7 figures x1).bind fun (r13 : Int32) => ((f_X4_endOfKind r5 r13 x2).bind fun (r17 : Int32) => (some r17)))) = some R := hf
  refine lv_aload_n hx hb dX0_endBy_0 rfl (lv_at hl 0 rfl) ?_
  refine fgX0_14 X hP (q0 := 0) rfl rfl dX0_endBy_1 ?_
  refine lv_iload_n hx hb dX0_endBy_4 rfl (lv_at hl 1 rfl) ?_
  obtain ⟨r5, hq5, hf⟩ := bS hf
  refine ro_i X hP hD hS [1, 2] rfl (run_N X hP hD hS [1, 2] rfl rfl (c_X3_get l D cI aS (fun k => ad (1 + k)) 7 kinds_size kinds x1 _ hq5 _) lkX0_60 (by decide) (q0 := 1) rfl rfl rfl rfl (Nat.le_of_ble_eq_true rfl) hl.1 dX0_endBy_5) (fun H locs hP hS => ?_)
  refine lv_aload_n hx hb dX0_endBy_8 rfl (lv_at hl 0 rfl) ?_
  refine fgX0_20 X hP (q0 := 0) rfl rfl dX0_endBy_9 ?_
  refine lv_iload_n hx hb dX0_endBy_12 rfl (lv_at hl 1 rfl) ?_
  obtain ⟨r13, hq13, hf⟩ := bS hf
  refine ro_i X hP hD hS [3, 4] rfl (run_N X hP hD hS [3, 4] rfl rfl (c_X3_get l D cI aS (fun k => ad (3 + k)) 7 figures_size figures x1 _ hq13 _) lkX0_60 (by decide) (q0 := 3) rfl rfl rfl rfl (Nat.le_of_ble_eq_true rfl) hl.1 dX0_endBy_13) (fun H locs hP hS => ?_)
  refine lv_iload_n hx hb dX0_endBy_16 rfl (lv_at hl 2 rfl) ?_
  obtain ⟨r17, hq17, hf⟩ := bS hf
  refine ro_i X hP hD hS [] rfl (run_SN X hP hD hS [] rfl rfl (c_X4_endOfKind l D cI aS r5 r13 x2 _ hq17 _) lkX0_82 (by decide) rfl rfl (Nat.le_of_ble_eq_true rfl) hl.1 dX0_endBy_17) (fun H locs hP hS => ?_)
  have hR := Option.some.inj hf
  subst hR
  exact hret _ _ _ _ _ rfl (fun _ hn => by cases hn; rfl) hP hD hS dX0_endBy_20

abbrev wd_X0_opensOf (cI : ClassId) (ad : Nat → Nat) (size : Int32) (year : Int32) (styles_size : Int32) (styles : (Nat → Int32)) : va_W := [((ad 0), .inr (0, [.ref (ad 1), .ref (ad 3), .ref (ad 5), .ref (ad 7), .ref (ad 9), .ref (ad 11), .ref (ad 13), .int size, .int year])), ((ad 5), .inr (3, [.ref (ad 6), .int styles_size])), ((ad 6), .inl (cI, 7, .inl styles))]
def f_X0_opensOf (year : Int32) (styles : (Nat → Int32)) (x1 : Int32) : Option (Int32) := ((f_X3_get 7 styles x1).bind fun (r5 : Int32) => ((f_X4_opensWith r5 year).bind fun (r12 : Int32) => (some r12)))
set_option maxHeartbeats 4000000 in
set_option maxRecDepth 100000 in
theorem c_X0_opensOf (l : Launch) (D : va_G) (cI : ClassId) (aS : aSt) (ad : Nat → Nat) (size : Int32) (year : Int32) (styles_size : Int32) (styles : (Nat → Int32)) (x1 : Int32) (R : Int32) (hf : f_X0_opensOf year styles x1 = some R) : CtI l yX0_opensOf cX0_opensOf 2 (some .int) 1 D cI aS [.ref (ad 0), .int x1] (wd_X0_opensOf cI ad size year styles_size styles) (wd_X0_opensOf cI ad size year styles_size styles) R := by
  refine ctI_of (by decide) ⟨_, rfl⟩ (Nat.le_of_ble_eq_true rfl) ?_
  intro p e s m below meth c A Q ls X hret hP hD hl
  have hS : va_S A s.heap s.heap [] := va_S.rf
  have hx := X.1
  have hb := X.2.1
  have hl : lv_has ls 2 [(0, .ref (ad 0)), (1, .int x1)] := hl
  replace hf : ((f_X3_get 7 styles x1).bind fun (r5 : Int32) => ((f_X4_opensWith r5 year).bind fun (r12 : Int32) => (some r12))) = some R := hf
  refine lv_aload_n hx hb dX0_opensOf_0 rfl (lv_at hl 0 rfl) ?_
  refine fgX0_23 X hP (q0 := 0) rfl rfl dX0_opensOf_1 ?_
  refine lv_iload_n hx hb dX0_opensOf_4 rfl (lv_at hl 1 rfl) ?_
  obtain ⟨r5, hq5, hf⟩ := bS hf
  refine ro_i X hP hD hS [1, 2] rfl (run_N X hP hD hS [1, 2] rfl rfl (c_X3_get l D cI aS (fun k => ad (5 + k)) 7 styles_size styles x1 _ hq5 _) lkX0_60 (by decide) (q0 := 1) rfl rfl rfl rfl (Nat.le_of_ble_eq_true rfl) hl.1 dX0_opensOf_5) (fun H locs hP hS => ?_)
  refine lv_aload_n hx hb dX0_opensOf_8 rfl (lv_at hl 0 rfl) ?_
  refine fgX0_42 X hP (q0 := 0) rfl rfl dX0_opensOf_9 ?_
  obtain ⟨r12, hq12, hf⟩ := bS hf
  refine ro_i X hP hD hS [] rfl (run_SN X hP hD hS [] rfl rfl (c_X4_opensWith l D cI aS r5 year _ hq12 _) lkX0_76 (by decide) rfl rfl (Nat.le_of_ble_eq_true rfl) hl.1 dX0_opensOf_12) (fun H locs hP hS => ?_)
  have hR := Option.some.inj hf
  subst hR
  exact hret _ _ _ _ _ rfl (fun _ hn => by cases hn; rfl) hP hD hS dX0_opensOf_15

abbrev wd_X0_endsOf (cI : ClassId) (ad : Nat → Nat) (size : Int32) (year : Int32) (kinds_size : Int32) (kinds : (Nat → Int32)) (figures_size : Int32) (figures : (Nat → Int32)) (styles_size : Int32) (styles : (Nat → Int32)) (writing_size : Int32) (writing : (Nat → Int32)) (enders_size : Int32) (enders : (Nat → Int32)) : va_W := [((ad 0), .inr (0, [.ref (ad 1), .ref (ad 3), .ref (ad 5), .ref (ad 7), .ref (ad 9), .ref (ad 11), .ref (ad 13), .int size, .int year])), ((ad 1), .inr (3, [.ref (ad 2), .int kinds_size])), ((ad 2), .inl (cI, 7, .inl kinds)), ((ad 3), .inr (3, [.ref (ad 4), .int figures_size])), ((ad 4), .inl (cI, 7, .inl figures)), ((ad 5), .inr (3, [.ref (ad 6), .int styles_size])), ((ad 6), .inl (cI, 7, .inl styles)), ((ad 9), .inr (3, [.ref (ad 10), .int writing_size])), ((ad 10), .inl (cI, 7, .inl writing)), ((ad 13), .inr (3, [.ref (ad 14), .int enders_size])), ((ad 14), .inl (cI, 7, .inl enders))]
def f_X0_endsOf (year : Int32) (kinds : (Nat → Int32)) (figures : (Nat → Int32)) (styles : (Nat → Int32)) (writing : (Nat → Int32)) (enders : (Nat → Int32)) (x1 : Int32) : Option (Int32) := ((f_X0_isEnded writing enders x1).bind fun (r2 : Int32) => (if r2 = 0 then (some (-9 : Int32)) else ((f_X3_get 7 enders x1).bind fun (r14 : Int32) => ((f_X0_opensOf year styles x1).bind fun (r19 : Int32) => ((f_X0_endBy kinds figures r14 r19).bind fun (r22 : Int32) => (some r22))))))
set_option maxHeartbeats 4000000 in
set_option maxRecDepth 100000 in
theorem c_X0_endsOf (l : Launch) (D : va_G) (cI : ClassId) (aS : aSt) (ad : Nat → Nat) (size : Int32) (year : Int32) (kinds_size : Int32) (kinds : (Nat → Int32)) (figures_size : Int32) (figures : (Nat → Int32)) (styles_size : Int32) (styles : (Nat → Int32)) (writing_size : Int32) (writing : (Nat → Int32)) (enders_size : Int32) (enders : (Nat → Int32)) (x1 : Int32) (R : Int32) (hf : f_X0_endsOf year kinds figures styles writing enders x1 = some R) : CtI l yX0_endsOf cX0_endsOf 2 (some .int) 3 D cI aS [.ref (ad 0), .int x1] (wd_X0_endsOf cI ad size year kinds_size kinds figures_size figures styles_size styles writing_size writing enders_size enders) (wd_X0_endsOf cI ad size year kinds_size kinds figures_size figures styles_size styles writing_size writing enders_size enders) R := by
  refine ctI_of (by decide) ⟨_, rfl⟩ (Nat.le_of_ble_eq_true rfl) ?_
  intro p e s m below meth c A Q ls X hret hP hD hl
  have hS : va_S A s.heap s.heap [] := va_S.rf
  have hx := X.1
  have hb := X.2.1
  have hl : lv_has ls 2 [(0, .ref (ad 0)), (1, .int x1)] := hl
  replace hf : ((f_X0_isEnded writing enders x1).bind fun (r2 : Int32) => (if r2 = 0 then (some (-9 : Int32)) else ((f_X3_get 7 enders x1).bind fun (r14 : Int32) => ((f_X0_opensOf year styles x1).bind fun (r19 : Int32) => ((f_X0_endBy kinds figures r14 r19).bind fun (r22 : Int32) => (some r22)))))) = some R := hf
  refine lv_aload_n hx hb dX0_endsOf_0 rfl (lv_at hl 0 rfl) ?_
  refine lv_iload_n hx hb dX0_endsOf_1 rfl (lv_at hl 1 rfl) ?_
  obtain ⟨r2, hq2, hf⟩ := bS hf
  refine ro_i X hP hD hS [0, 7, 8, 9, 10] rfl (run_V X hP hD hS [0, 7, 8, 9, 10] rfl rfl (c_X0_isEnded l D cI aS ad size year writing_size writing enders_size enders x1 _ hq2 _) lkX0_86 (by decide) (q0 := 0) rfl rfl rfl rfl (Nat.le_of_ble_eq_true rfl) hl.1 dX0_endsOf_2) (fun H locs hP hS => ?_)
  refine lv_if_eq (tgt := 28) hx hb dX0_endsOf_5 (by decide) (fun c5 => ?_) (fun c5 => ?_)
  · have hf := iT c5 hf
    refine lv_bipush (v := -9) hx hb dX0_endsOf_28 (by decide) ?_
    have hR := Option.some.inj hf
    subst hR
    exact hret _ _ _ _ _ rfl (fun _ hn => by cases hn; rfl) hP hD hS dX0_endsOf_30
  · have hf := iF c5 hf
    refine lv_aload_n hx hb dX0_endsOf_8 rfl (lv_at hl 0 rfl) ?_
    refine lv_aload_n hx hb dX0_endsOf_9 rfl (lv_at hl 0 rfl) ?_
    refine fgX0_35 X hP (q0 := 0) rfl rfl dX0_endsOf_10 ?_
    refine lv_iload_n hx hb dX0_endsOf_13 rfl (lv_at hl 1 rfl) ?_
    obtain ⟨r14, hq14, hf⟩ := bS hf
    refine ro_i X hP hD hS [9, 10] rfl (run_N X hP hD hS [9, 10] rfl rfl (c_X3_get l D cI aS (fun k => ad (13 + k)) 7 enders_size enders x1 _ hq14 _) lkX0_60 (by decide) (q0 := 9) rfl rfl rfl rfl (Nat.le_of_ble_eq_true rfl) hl.1 dX0_endsOf_14) (fun H locs hP hS => ?_)
    refine lv_aload_n hx hb dX0_endsOf_17 rfl (lv_at hl 0 rfl) ?_
    refine lv_iload_n hx hb dX0_endsOf_18 rfl (lv_at hl 1 rfl) ?_
    obtain ⟨r19, hq19, hf⟩ := bS hf
    refine ro_i X hP hD hS [0, 5, 6] rfl (run_V X hP hD hS [0, 5, 6] rfl rfl (c_X0_opensOf l D cI aS ad size year styles_size styles x1 _ hq19 _) lkX0_79 (by decide) (q0 := 0) rfl rfl rfl rfl (Nat.le_of_ble_eq_true rfl) hl.1 dX0_endsOf_19) (fun H locs hP hS => ?_)
    obtain ⟨r22, hq22, hf⟩ := bS hf
    refine ro_i X hP hD hS [0, 1, 2, 3, 4] rfl (run_V X hP hD hS [0, 1, 2, 3, 4] rfl rfl (c_X0_endBy l D cI aS ad size year kinds_size kinds figures_size figures r14 r19 _ hq22 _) lkX0_89 (by decide) (q0 := 0) rfl rfl rfl rfl (Nat.le_of_ble_eq_true rfl) hl.1 dX0_endsOf_22) (fun H locs hP hS => ?_)
    refine lv_goto (tgt := 30) hx hb dX0_endsOf_25 (by decide) ?_
    have hR := Option.some.inj hf
    subst hR
    exact hret _ _ _ _ _ rfl (fun _ hn => by cases hn; rfl) hP hD hS dX0_endsOf_30

abbrev wd_X0_forgotten (cI : ClassId) (ad : Nat → Nat) (size : Int32) (year : Int32) (fames_size : Int32) (fames : (Nat → Int32)) : va_W := [((ad 0), .inr (0, [.ref (ad 1), .ref (ad 3), .ref (ad 5), .ref (ad 7), .ref (ad 9), .ref (ad 11), .ref (ad 13), .int size, .int year])), ((ad 7), .inr (3, [.ref (ad 8), .int fames_size])), ((ad 8), .inl (cI, 7, .inl fames))]
def f_X0_forgotten_2 (size : Int32) (fames : (Nat → Int32))  : Nat → Int32 → Option (Int32)
  | 0 => fun _ => none
  | fuel + 1 => fun v1_2 => (if size ≤ v1_2 then (some (-9 : Int32)) else ((f_X3_get 7 fames v1_2).bind fun (r15 : Int32) => (if r15 = 0 then (some v1_2) else (f_X0_forgotten_2 size fames  fuel (v1_2 + (1 : Int32))))))
theorem e_X0_forgotten_2 (size : Int32) (fames : (Nat → Int32))  (fuel : Nat) (v1_2 : Int32) : f_X0_forgotten_2 size fames  (fuel + 1) v1_2 = (if size ≤ v1_2 then (some (-9 : Int32)) else ((f_X3_get 7 fames v1_2).bind fun (r15 : Int32) => (if r15 = 0 then (some v1_2) else (f_X0_forgotten_2 size fames  fuel (v1_2 + (1 : Int32)))))) := rfl
def f_X0_forgotten (size : Int32) (fames : (Nat → Int32)) : Option (Int32) := (f_X0_forgotten_2 size fames  FU (0 : Int32))
set_option maxHeartbeats 4000000 in
set_option maxRecDepth 100000 in
theorem w_X0_forgotten_2 {p : Program} {l : Launch} {e : Env} {s : State} {m : MethodId} {args : Array Value} {below : List Frame} {meth : Method} {c : Code} {D : va_G} {cI : ClassId} {aS : aSt} {A : Nat → Prop} {Q : State → Prop}  (ad : Nat → Nat) (size : Int32) (year : Int32) (fames_size : Int32) (fames : (Nat → Int32)) {R : Int32} (X : Bx p s m args meth c cX0_forgotten 2 (some .int) RX0 D cI aS A) (hret : RtI p l e 1 s m args below meth c cX0_forgotten (some .int) D A (wd_X0_forgotten cI ad size year fames_size fames) R Q) : ∀ (fuel : Nat) (v1_2 : Int32) (H : Heap) (locs : List Loc) (ls : Array Slot), f_X0_forgotten_2 size fames  fuel v1_2 = some R → lv_has ls 2 [(0, .ref (ad 0)), (1, .int v1_2)] → va_P D vwCl (wd_X0_forgotten cI ad size year fames_size fames) H → va_D A (wd_X0_forgotten cI ad size year fames_size fames) → va_S A s.heap H locs → Wh p l e 1 s m args below meth c H locs Q (F0 m 2 ls []) := by
  have hx := X.1
  have hb := X.2.1
  intro fuel
  induction fuel with
  | zero =>
    intro v1_2 H locs ls hf hl hP hD hS
    cases hf
  | succ fuel ih =>
    intro v1_2 H locs ls hf hl hP hD hS
    replace hf : (if size ≤ v1_2 then (some (-9 : Int32)) else ((f_X3_get 7 fames v1_2).bind fun (r15 : Int32) => (if r15 = 0 then (some v1_2) else (f_X0_forgotten_2 size fames  fuel (v1_2 + (1 : Int32)))))) = some R := hf
    refine lv_iload_n hx hb dX0_forgotten_2 rfl (lv_at hl 1 rfl) ?_
    refine lv_aload_n hx hb dX0_forgotten_3 rfl (lv_at hl 0 rfl) ?_
    refine fgX0_38 X hP (q0 := 0) rfl rfl dX0_forgotten_4 ?_
    refine lv_icmp_ge (tgt := 29) hx hb dX0_forgotten_7 (by decide) (fun c7 => ?_) (fun c7 => ?_)
    · have hf := iT c7 hf
      refine lv_bipush (v := -9) hx hb dX0_forgotten_29 (by decide) ?_
      have hR := Option.some.inj hf
      subst hR
      exact hret _ _ _ _ _ rfl (fun _ hn => by cases hn; rfl) hP hD hS dX0_forgotten_31
    · have hf := iF c7 hf
      refine lv_aload_n hx hb dX0_forgotten_10 rfl (lv_at hl 0 rfl) ?_
      refine fgX0_26 X hP (q0 := 0) rfl rfl dX0_forgotten_11 ?_
      refine lv_iload_n hx hb dX0_forgotten_14 rfl (lv_at hl 1 rfl) ?_
      obtain ⟨r15, hq15, hf⟩ := bS hf
      refine ro_i X hP hD hS [1, 2] rfl (run_N X hP hD hS [1, 2] rfl rfl (c_X3_get l D cI aS (fun k => ad (7 + k)) 7 fames_size fames v1_2 _ hq15 _) lkX0_60 (by decide) (q0 := 1) rfl rfl rfl rfl (Nat.le_of_ble_eq_true rfl) hl.1 dX0_forgotten_15) (fun H locs hP hS => ?_)
      refine lv_if_ne (tgt := 23) hx hb dX0_forgotten_18 (by decide) (fun c18 => ?_) (fun c18 => ?_)
      · have hf := iF c18 hf
        refine lv_iinc (v := (v1_2 + (1 : Int32))) (lv' := [(1, .int (v1_2 + (1 : Int32))), (0, .ref (ad 0))]) hx hb dX0_forgotten_23 hl (k := 1) rfl rfl (by decide) rfl (fun ls hl => ?_)
        refine lv_goto (tgt := 2) hx hb dX0_forgotten_26 (by decide) ?_
        exact ih (v1_2 + (1 : Int32)) _ _ _ hf (lv_sub hl [1, 0] rfl) hP hD hS
      · have hf := iT c18 hf
        refine lv_iload_n hx hb dX0_forgotten_21 rfl (lv_at hl 1 rfl) ?_
        have hR := Option.some.inj hf
        subst hR
        exact hret _ _ _ _ _ rfl (fun _ hn => by cases hn; rfl) hP hD hS dX0_forgotten_22
set_option maxHeartbeats 4000000 in
set_option maxRecDepth 100000 in
theorem c_X0_forgotten (l : Launch) (D : va_G) (cI : ClassId) (aS : aSt) (ad : Nat → Nat) (size : Int32) (year : Int32) (fames_size : Int32) (fames : (Nat → Int32)) (R : Int32) (hf : f_X0_forgotten size fames = some R) : CtI l yX0_forgotten cX0_forgotten 2 (some .int) 1 D cI aS [.ref (ad 0)] (wd_X0_forgotten cI ad size year fames_size fames) (wd_X0_forgotten cI ad size year fames_size fames) R := by
  refine ctI_of (by decide) ⟨_, rfl⟩ (Nat.le_of_ble_eq_true rfl) ?_
  intro p e s m below meth c A Q ls X hret hP hD hl
  have hS : va_S A s.heap s.heap [] := va_S.rf
  have hx := X.1
  have hb := X.2.1
  have hl : lv_has ls 2 [(0, .ref (ad 0))] := hl
  replace hf : (f_X0_forgotten_2 size fames  FU (0 : Int32)) = some R := hf
  refine lv_iconst (v := 0) hx hb dX0_forgotten_0 (by decide) ?_
  refine lv_istore_n (lv' := [(1, .int (0 : Int32)), (0, .ref (ad 0))]) hx hb dX0_forgotten_1 rfl hl (by decide) rfl (fun ls hl => ?_)
  exact w_X0_forgotten_2 ad size year fames_size fames X hret  _ (0 : Int32) _ _ _ hf (lv_sub hl [1, 0] rfl) hP hD hS

abbrev wd_X0_has (cI : ClassId) (ad : Nat → Nat) (size : Int32) (year : Int32) : va_W := [((ad 0), .inr (0, [.ref (ad 1), .ref (ad 3), .ref (ad 5), .ref (ad 7), .ref (ad 9), .ref (ad 11), .ref (ad 13), .int size, .int year]))]
def f_X0_has (size : Int32) (x1 : Int32) : Option (Int32) := (if x1 < 0 then (some (0 : Int32)) else (if size ≤ x1 then (some (0 : Int32)) else (some (1 : Int32))))
set_option maxHeartbeats 4000000 in
set_option maxRecDepth 100000 in
theorem c_X0_has (l : Launch) (D : va_G) (cI : ClassId) (aS : aSt) (ad : Nat → Nat) (size : Int32) (year : Int32) (x1 : Int32) (R : Int32) (hf : f_X0_has size x1 = some R) : CtI l yX0_has cX0_has 2 (some .boolean) 0 D cI aS [.ref (ad 0), .int x1] (wd_X0_has cI ad size year) (wd_X0_has cI ad size year) R := by
  refine ctI_of (by decide) ⟨_, rfl⟩ (Nat.le_of_ble_eq_true rfl) ?_
  intro p e s m below meth c A Q ls X hret hP hD hl
  have hS : va_S A s.heap s.heap [] := va_S.rf
  have hx := X.1
  have hb := X.2.1
  have hl : lv_has ls 2 [(0, .ref (ad 0)), (1, .int x1)] := hl
  replace hf : (if x1 < 0 then (some (0 : Int32)) else (if size ≤ x1 then (some (0 : Int32)) else (some (1 : Int32)))) = some R := hf
  refine lv_iload_n hx hb dX0_has_0 rfl (lv_at hl 1 rfl) ?_
  refine lv_if_lt (tgt := 16) hx hb dX0_has_1 (by decide) (fun c1 => ?_) (fun c1 => ?_)
  · have hf := iT c1 hf
    refine lv_iconst (v := 0) hx hb dX0_has_16 (by decide) ?_
    have hR := Option.some.inj hf
    subst hR
    exact hret _ _ _ _ _ rfl (fun _ hn => by cases hn; rfl) hP hD hS dX0_has_17
  · have hf := iF c1 hf
    refine lv_iload_n hx hb dX0_has_4 rfl (lv_at hl 1 rfl) ?_
    refine lv_aload_n hx hb dX0_has_5 rfl (lv_at hl 0 rfl) ?_
    refine fgX0_38 X hP (q0 := 0) rfl rfl dX0_has_6 ?_
    refine lv_icmp_ge (tgt := 16) hx hb dX0_has_9 (by decide) (fun c9 => ?_) (fun c9 => ?_)
    · have hf := iT c9 hf
      refine lv_iconst (v := 0) hx hb dX0_has_16 (by decide) ?_
      have hR := Option.some.inj hf
      subst hR
      exact hret _ _ _ _ _ rfl (fun _ hn => by cases hn; rfl) hP hD hS dX0_has_17
    · have hf := iF c9 hf
      refine lv_iconst (v := 1) hx hb dX0_has_12 (by decide) ?_
      refine lv_goto (tgt := 17) hx hb dX0_has_13 (by decide) ?_
      have hR := Option.some.inj hf
      subst hR
      exact hret _ _ _ _ _ rfl (fun _ hn => by cases hn; rfl) hP hD hS dX0_has_17

abbrev wd_X0_hasRoomFor (cI : ClassId) (ad : Nat → Nat) (size : Int32) (year : Int32) : va_W := [((ad 0), .inr (0, [.ref (ad 1), .ref (ad 3), .ref (ad 5), .ref (ad 7), .ref (ad 9), .ref (ad 11), .ref (ad 13), .int size, .int year]))]
def f_X0_hasRoomFor (year : Int32) (x1 : Int32) : Option (Int32) := (if (60 : Int32) < x1 then (some (0 : Int32)) else (if (999 : Int32) < (year + x1) then (some (0 : Int32)) else (some (1 : Int32))))
set_option maxHeartbeats 4000000 in
set_option maxRecDepth 100000 in
theorem c_X0_hasRoomFor (l : Launch) (D : va_G) (cI : ClassId) (aS : aSt) (ad : Nat → Nat) (size : Int32) (year : Int32) (x1 : Int32) (R : Int32) (hf : f_X0_hasRoomFor year x1 = some R) : CtI l yX0_hasRoomFor cX0_hasRoomFor 2 (some .boolean) 0 D cI aS [.ref (ad 0), .int x1] (wd_X0_hasRoomFor cI ad size year) (wd_X0_hasRoomFor cI ad size year) R := by
  refine ctI_of (by decide) ⟨_, rfl⟩ (Nat.le_of_ble_eq_true rfl) ?_
  intro p e s m below meth c A Q ls X hret hP hD hl
  have hS : va_S A s.heap s.heap [] := va_S.rf
  have hx := X.1
  have hb := X.2.1
  have hl : lv_has ls 2 [(0, .ref (ad 0)), (1, .int x1)] := hl
  replace hf : (if (60 : Int32) < x1 then (some (0 : Int32)) else (if (999 : Int32) < (year + x1) then (some (0 : Int32)) else (some (1 : Int32)))) = some R := hf
  refine lv_iload_n hx hb dX0_hasRoomFor_0 rfl (lv_at hl 1 rfl) ?_
  refine lv_bipush (v := 60) hx hb dX0_hasRoomFor_1 (by decide) ?_
  refine lv_icmp_gt (tgt := 22) hx hb dX0_hasRoomFor_3 (by decide) (fun c3 => ?_) (fun c3 => ?_)
  · have hf := iT c3 hf
    refine lv_iconst (v := 0) hx hb dX0_hasRoomFor_22 (by decide) ?_
    have hR := Option.some.inj hf
    subst hR
    exact hret _ _ _ _ _ rfl (fun _ hn => by cases hn; rfl) hP hD hS dX0_hasRoomFor_23
  · have hf := iF c3 hf
    refine lv_aload_n hx hb dX0_hasRoomFor_6 rfl (lv_at hl 0 rfl) ?_
    refine fgX0_42 X hP (q0 := 0) rfl rfl dX0_hasRoomFor_7 ?_
    refine lv_iload_n hx hb dX0_hasRoomFor_10 rfl (lv_at hl 1 rfl) ?_
    refine lv_iadd hx hb dX0_hasRoomFor_11 ?_
    refine lv_sipush (v := 999) hx hb dX0_hasRoomFor_12 (by decide) ?_
    refine lv_icmp_gt (tgt := 22) hx hb dX0_hasRoomFor_15 (by decide) (fun c15 => ?_) (fun c15 => ?_)
    · have hf := iT c15 hf
      refine lv_iconst (v := 0) hx hb dX0_hasRoomFor_22 (by decide) ?_
      have hR := Option.some.inj hf
      subst hR
      exact hret _ _ _ _ _ rfl (fun _ hn => by cases hn; rfl) hP hD hS dX0_hasRoomFor_23
    · have hf := iF c15 hf
      refine lv_iconst (v := 1) hx hb dX0_hasRoomFor_18 (by decide) ?_
      refine lv_goto (tgt := 23) hx hb dX0_hasRoomFor_19 (by decide) ?_
      have hR := Option.some.inj hf
      subst hR
      exact hret _ _ _ _ _ rfl (fun _ hn => by cases hn; rfl) hP hD hS dX0_hasRoomFor_23

abbrev wd_X0_hasTwo (cI : ClassId) (ad : Nat → Nat) (size : Int32) (year : Int32) : va_W := [((ad 0), .inr (0, [.ref (ad 1), .ref (ad 3), .ref (ad 5), .ref (ad 7), .ref (ad 9), .ref (ad 11), .ref (ad 13), .int size, .int year]))]
def f_X0_hasTwo (size : Int32) (x1 : Int32) (x2 : Int32) : Option (Int32) := ((f_X0_has size x1).bind fun (r2 : Int32) => (if r2 = 0 then (some (0 : Int32)) else ((f_X0_has size x2).bind fun (r10 : Int32) => (if r10 = 0 then (some (0 : Int32)) else (if x1 = x2 then (some (0 : Int32)) else (some (1 : Int32)))))))
set_option maxHeartbeats 4000000 in
set_option maxRecDepth 100000 in
theorem c_X0_hasTwo (l : Launch) (D : va_G) (cI : ClassId) (aS : aSt) (ad : Nat → Nat) (size : Int32) (year : Int32) (x1 : Int32) (x2 : Int32) (R : Int32) (hf : f_X0_hasTwo size x1 x2 = some R) : CtI l yX0_hasTwo cX0_hasTwo 3 (some .boolean) 1 D cI aS [.ref (ad 0), .int x1, .int x2] (wd_X0_hasTwo cI ad size year) (wd_X0_hasTwo cI ad size year) R := by
  refine ctI_of (by decide) ⟨_, rfl⟩ (Nat.le_of_ble_eq_true rfl) ?_
  intro p e s m below meth c A Q ls X hret hP hD hl
  have hS : va_S A s.heap s.heap [] := va_S.rf
  have hx := X.1
  have hb := X.2.1
  have hl : lv_has ls 3 [(0, .ref (ad 0)), (1, .int x1), (2, .int x2)] := hl
  replace hf : ((f_X0_has size x1).bind fun (r2 : Int32) => (if r2 = 0 then (some (0 : Int32)) else ((f_X0_has size x2).bind fun (r10 : Int32) => (if r10 = 0 then (some (0 : Int32)) else (if x1 = x2 then (some (0 : Int32)) else (some (1 : Int32))))))) = some R := hf
  refine lv_aload_n hx hb dX0_hasTwo_0 rfl (lv_at hl 0 rfl) ?_
  refine lv_iload_n hx hb dX0_hasTwo_1 rfl (lv_at hl 1 rfl) ?_
  obtain ⟨r2, hq2, hf⟩ := bS hf
  refine ro_i X hP hD hS [0] rfl (run_V X hP hD hS [0] rfl rfl (c_X0_has l D cI aS ad size year x1 _ hq2 _) lkX0_56 (by decide) (q0 := 0) rfl rfl rfl rfl (Nat.le_of_ble_eq_true rfl) hl.1 dX0_hasTwo_2) (fun H locs hP hS => ?_)
  refine lv_if_eq (tgt := 25) hx hb dX0_hasTwo_5 (by decide) (fun c5 => ?_) (fun c5 => ?_)
  · have hf := iT c5 hf
    refine lv_iconst (v := 0) hx hb dX0_hasTwo_25 (by decide) ?_
    have hR := Option.some.inj hf
    subst hR
    exact hret _ _ _ _ _ rfl (fun _ hn => by cases hn; rfl) hP hD hS dX0_hasTwo_26
  · have hf := iF c5 hf
    refine lv_aload_n hx hb dX0_hasTwo_8 rfl (lv_at hl 0 rfl) ?_
    refine lv_iload_n hx hb dX0_hasTwo_9 rfl (lv_at hl 2 rfl) ?_
    obtain ⟨r10, hq10, hf⟩ := bS hf
    refine ro_i X hP hD hS [0] rfl (run_V X hP hD hS [0] rfl rfl (c_X0_has l D cI aS ad size year x2 _ hq10 _) lkX0_56 (by decide) (q0 := 0) rfl rfl rfl rfl (Nat.le_of_ble_eq_true rfl) hl.1 dX0_hasTwo_10) (fun H locs hP hS => ?_)
    refine lv_if_eq (tgt := 25) hx hb dX0_hasTwo_13 (by decide) (fun c13 => ?_) (fun c13 => ?_)
    · have hf := iT c13 hf
      refine lv_iconst (v := 0) hx hb dX0_hasTwo_25 (by decide) ?_
      have hR := Option.some.inj hf
      subst hR
      exact hret _ _ _ _ _ rfl (fun _ hn => by cases hn; rfl) hP hD hS dX0_hasTwo_26
    · have hf := iF c13 hf
      refine lv_iload_n hx hb dX0_hasTwo_16 rfl (lv_at hl 1 rfl) ?_
      refine lv_iload_n hx hb dX0_hasTwo_17 rfl (lv_at hl 2 rfl) ?_
      refine lv_icmp_eq (tgt := 25) hx hb dX0_hasTwo_18 (by decide) (fun c18 => ?_) (fun c18 => ?_)
      · have hf := iT c18 hf
        refine lv_iconst (v := 0) hx hb dX0_hasTwo_25 (by decide) ?_
        have hR := Option.some.inj hf
        subst hR
        exact hret _ _ _ _ _ rfl (fun _ hn => by cases hn; rfl) hP hD hS dX0_hasTwo_26
      · have hf := iF c18 hf
        refine lv_iconst (v := 1) hx hb dX0_hasTwo_21 (by decide) ?_
        refine lv_goto (tgt := 26) hx hb dX0_hasTwo_22 (by decide) ?_
        have hR := Option.some.inj hf
        subst hR
        exact hret _ _ _ _ _ rfl (fun _ hn => by cases hn; rfl) hP hD hS dX0_hasTwo_26

abbrev wd_X0_howManyForgotten (cI : ClassId) (ad : Nat → Nat) (size : Int32) (year : Int32) (fames_size : Int32) (fames : (Nat → Int32)) : va_W := [((ad 0), .inr (0, [.ref (ad 1), .ref (ad 3), .ref (ad 5), .ref (ad 7), .ref (ad 9), .ref (ad 11), .ref (ad 13), .int size, .int year])), ((ad 7), .inr (3, [.ref (ad 8), .int fames_size])), ((ad 8), .inl (cI, 7, .inl fames))]
def f_X0_howManyForgotten_26  (kL4 : Int32 → Int32 → Option (Int32)) (v1_26 : Int32) (v2_26 : Int32) : Option (Int32) := (kL4 v1_26 (v2_26 + (1 : Int32)))
def f_X0_howManyForgotten_4 (size : Int32) (fames : (Nat → Int32))  : Nat → Int32 → Int32 → Option (Int32)
  | 0 => fun _ _ => none
  | fuel + 1 => fun v1_4 v2_4 => (if size ≤ v2_4 then (some v1_4) else ((f_X3_get 7 fames v2_4).bind fun (r17 : Int32) => (if r17 = 0 then (f_X0_howManyForgotten_26  (f_X0_howManyForgotten_4 size fames  fuel) (v1_4 + (1 : Int32)) v2_4) else (f_X0_howManyForgotten_26  (f_X0_howManyForgotten_4 size fames  fuel) v1_4 v2_4))))
theorem e_X0_howManyForgotten_4 (size : Int32) (fames : (Nat → Int32))  (fuel : Nat) (v1_4 : Int32) (v2_4 : Int32) : f_X0_howManyForgotten_4 size fames  (fuel + 1) v1_4 v2_4 = (if size ≤ v2_4 then (some v1_4) else ((f_X3_get 7 fames v2_4).bind fun (r17 : Int32) => (if r17 = 0 then (f_X0_howManyForgotten_26  (f_X0_howManyForgotten_4 size fames  fuel) (v1_4 + (1 : Int32)) v2_4) else (f_X0_howManyForgotten_26  (f_X0_howManyForgotten_4 size fames  fuel) v1_4 v2_4)))) := rfl
def f_X0_howManyForgotten (size : Int32) (fames : (Nat → Int32)) : Option (Int32) := (f_X0_howManyForgotten_4 size fames  FU (0 : Int32) (0 : Int32))
set_option maxHeartbeats 4000000 in
set_option maxRecDepth 100000 in
theorem w_X0_howManyForgotten_26 {p : Program} {l : Launch} {e : Env} {s : State} {m : MethodId} {args : Array Value} {below : List Frame} {meth : Method} {c : Code} {D : va_G} {cI : ClassId} {aS : aSt} {A : Nat → Prop} {Q : State → Prop}  (ad : Nat → Nat) (size : Int32) (year : Int32) (fames_size : Int32) (fames : (Nat → Int32)) {R : Int32} (X : Bx p s m args meth c cX0_howManyForgotten 3 (some .int) RX0 D cI aS A) (hret : RtI p l e 1 s m args below meth c cX0_howManyForgotten (some .int) D A (wd_X0_howManyForgotten cI ad size year fames_size fames) R Q) (kL4 : Int32 → Int32 → Option (Int32)) (hkL4 : ∀ (v1_4 : Int32) (v2_4 : Int32) (H : Heap) (locs : List Loc) (ls : Array Slot), kL4 v1_4 v2_4 = some R → lv_has ls 3 [(0, .ref (ad 0)), (1, .int v1_4), (2, .int v2_4)] → va_P D vwCl (wd_X0_howManyForgotten cI ad size year fames_size fames) H → va_D A (wd_X0_howManyForgotten cI ad size year fames_size fames) → va_S A s.heap H locs → Wh p l e 1 s m args below meth c H locs Q (F0 m 4 ls [])) : ∀ (v1_26 : Int32) (v2_26 : Int32) (H : Heap) (locs : List Loc) (ls : Array Slot), f_X0_howManyForgotten_26  kL4 v1_26 v2_26 = some R → lv_has ls 3 [(0, .ref (ad 0)), (1, .int v1_26), (2, .int v2_26)] → va_P D vwCl (wd_X0_howManyForgotten cI ad size year fames_size fames) H → va_D A (wd_X0_howManyForgotten cI ad size year fames_size fames) → va_S A s.heap H locs → Wh p l e 1 s m args below meth c H locs Q (F0 m 26 ls []) := by
  have hx := X.1
  have hb := X.2.1
  intro v1_26 v2_26 H locs ls hf hl hP hD hS
  replace hf : (kL4 v1_26 (v2_26 + (1 : Int32))) = some R := hf
  refine lv_iinc (v := (v2_26 + (1 : Int32))) (lv' := [(2, .int (v2_26 + (1 : Int32))), (0, .ref (ad 0)), (1, .int v1_26)]) hx hb dX0_howManyForgotten_26 hl (k := 2) rfl rfl (by decide) rfl (fun ls hl => ?_)
  refine lv_goto (tgt := 4) hx hb dX0_howManyForgotten_29 (by decide) ?_
  exact hkL4 v1_26 (v2_26 + (1 : Int32)) _ _ _ hf (lv_sub hl [1, 2, 0] rfl) hP hD hS
set_option maxHeartbeats 4000000 in
set_option maxRecDepth 100000 in
theorem w_X0_howManyForgotten_4 {p : Program} {l : Launch} {e : Env} {s : State} {m : MethodId} {args : Array Value} {below : List Frame} {meth : Method} {c : Code} {D : va_G} {cI : ClassId} {aS : aSt} {A : Nat → Prop} {Q : State → Prop}  (ad : Nat → Nat) (size : Int32) (year : Int32) (fames_size : Int32) (fames : (Nat → Int32)) {R : Int32} (X : Bx p s m args meth c cX0_howManyForgotten 3 (some .int) RX0 D cI aS A) (hret : RtI p l e 1 s m args below meth c cX0_howManyForgotten (some .int) D A (wd_X0_howManyForgotten cI ad size year fames_size fames) R Q) : ∀ (fuel : Nat) (v1_4 : Int32) (v2_4 : Int32) (H : Heap) (locs : List Loc) (ls : Array Slot), f_X0_howManyForgotten_4 size fames  fuel v1_4 v2_4 = some R → lv_has ls 3 [(0, .ref (ad 0)), (1, .int v1_4), (2, .int v2_4)] → va_P D vwCl (wd_X0_howManyForgotten cI ad size year fames_size fames) H → va_D A (wd_X0_howManyForgotten cI ad size year fames_size fames) → va_S A s.heap H locs → Wh p l e 1 s m args below meth c H locs Q (F0 m 4 ls []) := by
  have hx := X.1
  have hb := X.2.1
  intro fuel
  induction fuel with
  | zero =>
    intro v1_4 v2_4 H locs ls hf hl hP hD hS
    cases hf
  | succ fuel ih =>
    intro v1_4 v2_4 H locs ls hf hl hP hD hS
    replace hf : (if size ≤ v2_4 then (some v1_4) else ((f_X3_get 7 fames v2_4).bind fun (r17 : Int32) => (if r17 = 0 then (f_X0_howManyForgotten_26  (f_X0_howManyForgotten_4 size fames  fuel) (v1_4 + (1 : Int32)) v2_4) else (f_X0_howManyForgotten_26  (f_X0_howManyForgotten_4 size fames  fuel) v1_4 v2_4)))) = some R := hf
    refine lv_iload_n hx hb dX0_howManyForgotten_4 rfl (lv_at hl 2 rfl) ?_
    refine lv_aload_n hx hb dX0_howManyForgotten_5 rfl (lv_at hl 0 rfl) ?_
    refine fgX0_38 X hP (q0 := 0) rfl rfl dX0_howManyForgotten_6 ?_
    refine lv_icmp_ge (tgt := 32) hx hb dX0_howManyForgotten_9 (by decide) (fun c9 => ?_) (fun c9 => ?_)
    · have hf := iT c9 hf
      refine lv_iload_n hx hb dX0_howManyForgotten_32 rfl (lv_at hl 1 rfl) ?_
      have hR := Option.some.inj hf
      subst hR
      exact hret _ _ _ _ _ rfl (fun _ hn => by cases hn; rfl) hP hD hS dX0_howManyForgotten_33
    · have hf := iF c9 hf
      refine lv_aload_n hx hb dX0_howManyForgotten_12 rfl (lv_at hl 0 rfl) ?_
      refine fgX0_26 X hP (q0 := 0) rfl rfl dX0_howManyForgotten_13 ?_
      refine lv_iload_n hx hb dX0_howManyForgotten_16 rfl (lv_at hl 2 rfl) ?_
      obtain ⟨r17, hq17, hf⟩ := bS hf
      refine ro_i X hP hD hS [1, 2] rfl (run_N X hP hD hS [1, 2] rfl rfl (c_X3_get l D cI aS (fun k => ad (7 + k)) 7 fames_size fames v2_4 _ hq17 _) lkX0_60 (by decide) (q0 := 1) rfl rfl rfl rfl (Nat.le_of_ble_eq_true rfl) hl.1 dX0_howManyForgotten_17) (fun H locs hP hS => ?_)
      refine lv_if_ne (tgt := 26) hx hb dX0_howManyForgotten_20 (by decide) (fun c20 => ?_) (fun c20 => ?_)
      · have hf := iF c20 hf
        exact w_X0_howManyForgotten_26 ad size year fames_size fames X hret _ ih v1_4 v2_4 _ _ _ hf (lv_sub hl [0, 1, 2] rfl) hP hD hS
      · have hf := iT c20 hf
        refine lv_iinc (v := (v1_4 + (1 : Int32))) (lv' := [(1, .int (v1_4 + (1 : Int32))), (0, .ref (ad 0)), (2, .int v2_4)]) hx hb dX0_howManyForgotten_23 hl (k := 1) rfl rfl (by decide) rfl (fun ls hl => ?_)
        exact w_X0_howManyForgotten_26 ad size year fames_size fames X hret _ ih (v1_4 + (1 : Int32)) v2_4 _ _ _ hf (lv_sub hl [1, 0, 2] rfl) hP hD hS
set_option maxHeartbeats 4000000 in
set_option maxRecDepth 100000 in
theorem c_X0_howManyForgotten (l : Launch) (D : va_G) (cI : ClassId) (aS : aSt) (ad : Nat → Nat) (size : Int32) (year : Int32) (fames_size : Int32) (fames : (Nat → Int32)) (R : Int32) (hf : f_X0_howManyForgotten size fames = some R) : CtI l yX0_howManyForgotten cX0_howManyForgotten 3 (some .int) 1 D cI aS [.ref (ad 0)] (wd_X0_howManyForgotten cI ad size year fames_size fames) (wd_X0_howManyForgotten cI ad size year fames_size fames) R := by
  refine ctI_of (by decide) ⟨_, rfl⟩ (Nat.le_of_ble_eq_true rfl) ?_
  intro p e s m below meth c A Q ls X hret hP hD hl
  have hS : va_S A s.heap s.heap [] := va_S.rf
  have hx := X.1
  have hb := X.2.1
  have hl : lv_has ls 3 [(0, .ref (ad 0))] := hl
  replace hf : (f_X0_howManyForgotten_4 size fames  FU (0 : Int32) (0 : Int32)) = some R := hf
  refine lv_iconst (v := 0) hx hb dX0_howManyForgotten_0 (by decide) ?_
  refine lv_istore_n (lv' := [(1, .int (0 : Int32)), (0, .ref (ad 0))]) hx hb dX0_howManyForgotten_1 rfl hl (by decide) rfl (fun ls hl => ?_)
  refine lv_iconst (v := 0) hx hb dX0_howManyForgotten_2 (by decide) ?_
  refine lv_istore_n (lv' := [(2, .int (0 : Int32)), (1, .int (0 : Int32)), (0, .ref (ad 0))]) hx hb dX0_howManyForgotten_3 rfl hl (by decide) rfl (fun ls hl => ?_)
  exact w_X0_howManyForgotten_4 ad size year fames_size fames X hret  _ (0 : Int32) (0 : Int32) _ _ _ hf (lv_sub hl [2, 1, 0] rfl) hP hD hS

abbrev wd_X0_openAlike (cI : ClassId) (ad : Nat → Nat) (size : Int32) (year : Int32) (styles_size : Int32) (styles : (Nat → Int32)) (writing_size : Int32) (writing : (Nat → Int32)) : va_W := [((ad 0), .inr (0, [.ref (ad 1), .ref (ad 3), .ref (ad 5), .ref (ad 7), .ref (ad 9), .ref (ad 11), .ref (ad 13), .int size, .int year])), ((ad 5), .inr (3, [.ref (ad 6), .int styles_size])), ((ad 6), .inl (cI, 7, .inl styles)), ((ad 9), .inr (3, [.ref (ad 10), .int writing_size])), ((ad 10), .inl (cI, 7, .inl writing))]
def f_X0_openAlike (year : Int32) (styles : (Nat → Int32)) (writing : (Nat → Int32)) (x1 : Int32) (x2 : Int32) : Option (Int32) := ((f_X0_isWriting writing x1).bind fun (r2 : Int32) => (if r2 = 0 then (some (0 : Int32)) else ((f_X0_isWriting writing x2).bind fun (r10 : Int32) => (if r10 = 0 then (some (0 : Int32)) else ((f_X0_opensOf year styles x1).bind fun (r18 : Int32) => ((f_X0_opensOf year styles x2).bind fun (r23 : Int32) => (if r18 = r23 then (some (1 : Int32)) else (some (0 : Int32)))))))))
set_option maxHeartbeats 4000000 in
set_option maxRecDepth 100000 in
theorem c_X0_openAlike (l : Launch) (D : va_G) (cI : ClassId) (aS : aSt) (ad : Nat → Nat) (size : Int32) (year : Int32) (styles_size : Int32) (styles : (Nat → Int32)) (writing_size : Int32) (writing : (Nat → Int32)) (x1 : Int32) (x2 : Int32) (R : Int32) (hf : f_X0_openAlike year styles writing x1 x2 = some R) : CtI l yX0_openAlike cX0_openAlike 3 (some .boolean) 2 D cI aS [.ref (ad 0), .int x1, .int x2] (wd_X0_openAlike cI ad size year styles_size styles writing_size writing) (wd_X0_openAlike cI ad size year styles_size styles writing_size writing) R := by
  refine ctI_of (by decide) ⟨_, rfl⟩ (Nat.le_of_ble_eq_true rfl) ?_
  intro p e s m below meth c A Q ls X hret hP hD hl
  have hS : va_S A s.heap s.heap [] := va_S.rf
  have hx := X.1
  have hb := X.2.1
  have hl : lv_has ls 3 [(0, .ref (ad 0)), (1, .int x1), (2, .int x2)] := hl
  replace hf : ((f_X0_isWriting writing x1).bind fun (r2 : Int32) => (if r2 = 0 then (some (0 : Int32)) else ((f_X0_isWriting writing x2).bind fun (r10 : Int32) => (if r10 = 0 then (some (0 : Int32)) else ((f_X0_opensOf year styles x1).bind fun (r18 : Int32) => ((f_X0_opensOf year styles x2).bind fun (r23 : Int32) => (if r18 = r23 then (some (1 : Int32)) else (some (0 : Int32))))))))) = some R := hf
  refine lv_aload_n hx hb dX0_openAlike_0 rfl (lv_at hl 0 rfl) ?_
  refine lv_iload_n hx hb dX0_openAlike_1 rfl (lv_at hl 1 rfl) ?_
  obtain ⟨r2, hq2, hf⟩ := bS hf
  refine ro_i X hP hD hS [0, 3, 4] rfl (run_V X hP hD hS [0, 3, 4] rfl rfl (c_X0_isWriting l D cI aS ad size year writing_size writing x1 _ hq2 _) lkX0_73 (by decide) (q0 := 0) rfl rfl rfl rfl (Nat.le_of_ble_eq_true rfl) hl.1 dX0_openAlike_2) (fun H locs hP hS => ?_)
  refine lv_if_eq (tgt := 33) hx hb dX0_openAlike_5 (by decide) (fun c5 => ?_) (fun c5 => ?_)
  · have hf := iT c5 hf
    refine lv_iconst (v := 0) hx hb dX0_openAlike_33 (by decide) ?_
    have hR := Option.some.inj hf
    subst hR
    exact hret _ _ _ _ _ rfl (fun _ hn => by cases hn; rfl) hP hD hS dX0_openAlike_34
  · have hf := iF c5 hf
    refine lv_aload_n hx hb dX0_openAlike_8 rfl (lv_at hl 0 rfl) ?_
    refine lv_iload_n hx hb dX0_openAlike_9 rfl (lv_at hl 2 rfl) ?_
    obtain ⟨r10, hq10, hf⟩ := bS hf
    refine ro_i X hP hD hS [0, 3, 4] rfl (run_V X hP hD hS [0, 3, 4] rfl rfl (c_X0_isWriting l D cI aS ad size year writing_size writing x2 _ hq10 _) lkX0_73 (by decide) (q0 := 0) rfl rfl rfl rfl (Nat.le_of_ble_eq_true rfl) hl.1 dX0_openAlike_10) (fun H locs hP hS => ?_)
    refine lv_if_eq (tgt := 33) hx hb dX0_openAlike_13 (by decide) (fun c13 => ?_) (fun c13 => ?_)
    · have hf := iT c13 hf
      refine lv_iconst (v := 0) hx hb dX0_openAlike_33 (by decide) ?_
      have hR := Option.some.inj hf
      subst hR
      exact hret _ _ _ _ _ rfl (fun _ hn => by cases hn; rfl) hP hD hS dX0_openAlike_34
    · have hf := iF c13 hf
      refine lv_aload_n hx hb dX0_openAlike_16 rfl (lv_at hl 0 rfl) ?_
      refine lv_iload_n hx hb dX0_openAlike_17 rfl (lv_at hl 1 rfl) ?_
      obtain ⟨r18, hq18, hf⟩ := bS hf
      refine ro_i X hP hD hS [0, 1, 2] rfl (run_V X hP hD hS [0, 1, 2] rfl rfl (c_X0_opensOf l D cI aS ad size year styles_size styles x1 _ hq18 _) lkX0_79 (by decide) (q0 := 0) rfl rfl rfl rfl (Nat.le_of_ble_eq_true rfl) hl.1 dX0_openAlike_18) (fun H locs hP hS => ?_)
      refine lv_aload_n hx hb dX0_openAlike_21 rfl (lv_at hl 0 rfl) ?_
      refine lv_iload_n hx hb dX0_openAlike_22 rfl (lv_at hl 2 rfl) ?_
      obtain ⟨r23, hq23, hf⟩ := bS hf
      refine ro_i X hP hD hS [0, 1, 2] rfl (run_V X hP hD hS [0, 1, 2] rfl rfl (c_X0_opensOf l D cI aS ad size year styles_size styles x2 _ hq23 _) lkX0_79 (by decide) (q0 := 0) rfl rfl rfl rfl (Nat.le_of_ble_eq_true rfl) hl.1 dX0_openAlike_23) (fun H locs hP hS => ?_)
      refine lv_icmp_ne (tgt := 33) hx hb dX0_openAlike_26 (by decide) (fun c26 => ?_) (fun c26 => ?_)
      · have hf := iF c26 hf
        refine lv_iconst (v := 0) hx hb dX0_openAlike_33 (by decide) ?_
        have hR := Option.some.inj hf
        subst hR
        exact hret _ _ _ _ _ rfl (fun _ hn => by cases hn; rfl) hP hD hS dX0_openAlike_34
      · have hf := iT c26 hf
        refine lv_iconst (v := 1) hx hb dX0_openAlike_29 (by decide) ?_
        refine lv_goto (tgt := 34) hx hb dX0_openAlike_30 (by decide) ?_
        have hR := Option.some.inj hf
        subst hR
        exact hret _ _ _ _ _ rfl (fun _ hn => by cases hn; rfl) hP hD hS dX0_openAlike_34

abbrev wd_X0_passYears (cI : ClassId) (ad : Nat → Nat) (size : Int32) (year : Int32) (kinds_size : Int32) (kinds : (Nat → Int32)) (figures_size : Int32) (figures : (Nat → Int32)) (styles_size : Int32) (styles : (Nat → Int32)) (fames_size : Int32) (fames : (Nat → Int32)) (writing_size : Int32) (writing : (Nat → Int32)) (enders_size : Int32) (enders : (Nat → Int32)) : va_W := [((ad 0), .inr (0, [.ref (ad 1), .ref (ad 3), .ref (ad 5), .ref (ad 7), .ref (ad 9), .ref (ad 11), .ref (ad 13), .int size, .int year])), ((ad 1), .inr (3, [.ref (ad 2), .int kinds_size])), ((ad 2), .inl (cI, 7, .inl kinds)), ((ad 3), .inr (3, [.ref (ad 4), .int figures_size])), ((ad 4), .inl (cI, 7, .inl figures)), ((ad 5), .inr (3, [.ref (ad 6), .int styles_size])), ((ad 6), .inl (cI, 7, .inl styles)), ((ad 7), .inr (3, [.ref (ad 8), .int fames_size])), ((ad 8), .inl (cI, 7, .inl fames)), ((ad 9), .inr (3, [.ref (ad 10), .int writing_size])), ((ad 10), .inl (cI, 7, .inl writing)), ((ad 13), .inr (3, [.ref (ad 14), .int enders_size])), ((ad 14), .inl (cI, 7, .inl enders))]
def f_X0_passYears_25 (size : Int32) (kinds : (Nat → Int32)) (figures : (Nat → Int32)) (styles : (Nat → Int32)) (writing : (Nat → Int32)) (enders : (Nat → Int32)) (year_u25 : Int32) (kX25_44 : (Nat → Int32) → Option (Int32 × (Nat → Int32))) : Nat → Int32 → (Nat → Int32) → Option (Int32 × (Nat → Int32))
  | 0 => fun _ _ => none
  | fuel + 1 => fun v3_25 fames_25 => (if size ≤ v3_25 then (kX25_44 fames_25) else ((f_X0_bookIsRead year_u25 kinds figures styles fames_25 writing enders v3_25).bind fun (r35 : (Nat → Int32)) => (f_X0_passYears_25 size kinds figures styles writing enders year_u25 kX25_44 fuel (v3_25 + (1 : Int32)) r35)))
theorem e_X0_passYears_25 (size : Int32) (kinds : (Nat → Int32)) (figures : (Nat → Int32)) (styles : (Nat → Int32)) (writing : (Nat → Int32)) (enders : (Nat → Int32)) (year_u25 : Int32) (kX25_44 : (Nat → Int32) → Option (Int32 × (Nat → Int32))) (fuel : Nat) (v3_25 : Int32) (fames_25 : (Nat → Int32)) : f_X0_passYears_25 size kinds figures styles writing enders year_u25 kX25_44 (fuel + 1) v3_25 fames_25 = (if size ≤ v3_25 then (kX25_44 fames_25) else ((f_X0_bookIsRead year_u25 kinds figures styles fames_25 writing enders v3_25).bind fun (r35 : (Nat → Int32)) => (f_X0_passYears_25 size kinds figures styles writing enders year_u25 kX25_44 fuel (v3_25 + (1 : Int32)) r35))) := rfl
def f_X0_passYears_44  (kL2 : Int32 → Int32 → (Nat → Int32) → Option (Int32 × (Nat → Int32))) (v2_44 : Int32) (year_44 : Int32) (fames_44 : (Nat → Int32)) : Option (Int32 × (Nat → Int32)) := (kL2 (v2_44 + (1 : Int32)) year_44 fames_44)
def f_X0_passYears_2 (size : Int32) (kinds : (Nat → Int32)) (figures : (Nat → Int32)) (styles : (Nat → Int32)) (writing : (Nat → Int32)) (enders : (Nat → Int32)) (x1 : Int32)  : Nat → Int32 → Int32 → (Nat → Int32) → Option (Int32 × (Nat → Int32))
  | 0 => fun _ _ _ => none
  | fuel + 1 => fun v2_2 year_2 fames_2 => (if x1 ≤ v2_2 then (some (year_2, fames_2)) else (if (60 : Int32) ≤ v2_2 then (some (year_2, fames_2)) else (f_X0_passYears_25 size kinds figures styles writing enders (year_2 + (1 : Int32)) (fun (fames_44 : (Nat → Int32)) => (f_X0_passYears_44  (f_X0_passYears_2 size kinds figures styles writing enders x1  fuel) v2_2 (year_2 + (1 : Int32)) fames_44)) FU (0 : Int32) fames_2)))
theorem e_X0_passYears_2 (size : Int32) (kinds : (Nat → Int32)) (figures : (Nat → Int32)) (styles : (Nat → Int32)) (writing : (Nat → Int32)) (enders : (Nat → Int32)) (x1 : Int32)  (fuel : Nat) (v2_2 : Int32) (year_2 : Int32) (fames_2 : (Nat → Int32)) : f_X0_passYears_2 size kinds figures styles writing enders x1  (fuel + 1) v2_2 year_2 fames_2 = (if x1 ≤ v2_2 then (some (year_2, fames_2)) else (if (60 : Int32) ≤ v2_2 then (some (year_2, fames_2)) else (f_X0_passYears_25 size kinds figures styles writing enders (year_2 + (1 : Int32)) (fun (fames_44 : (Nat → Int32)) => (f_X0_passYears_44  (f_X0_passYears_2 size kinds figures styles writing enders x1  fuel) v2_2 (year_2 + (1 : Int32)) fames_44)) FU (0 : Int32) fames_2))) := rfl
def f_X0_passYears (size : Int32) (year : Int32) (kinds : (Nat → Int32)) (figures : (Nat → Int32)) (styles : (Nat → Int32)) (fames : (Nat → Int32)) (writing : (Nat → Int32)) (enders : (Nat → Int32)) (x1 : Int32) : Option (Int32 × (Nat → Int32)) := (f_X0_passYears_2 size kinds figures styles writing enders x1  FU (0 : Int32) year fames)
set_option maxHeartbeats 4000000 in
set_option maxRecDepth 100000 in
theorem w_X0_passYears_25 {p : Program} {l : Launch} {e : Env} {s : State} {m : MethodId} {args : Array Value} {below : List Frame} {meth : Method} {c : Code} {D : va_G} {cI : ClassId} {aS : aSt} {A : Nat → Prop} {Q : State → Prop}  (ad : Nat → Nat) (size : Int32) (kinds_size : Int32) (kinds : (Nat → Int32)) (figures_size : Int32) (figures : (Nat → Int32)) (styles_size : Int32) (styles : (Nat → Int32)) (fames_size : Int32) (writing_size : Int32) (writing : (Nat → Int32)) (enders_size : Int32) (enders : (Nat → Int32)) (x1 : Int32) (u2_25 : Int32) (year_u25 : Int32) {R : Int32 × (Nat → Int32)} (X : Bx p s m args meth c cX0_passYears 4 none RX0 D cI aS A) (hret : RtV p l e 8 s m args below meth c cX0_passYears D A (wd_X0_passYears cI ad size R.1 kinds_size kinds figures_size figures styles_size styles fames_size R.2 writing_size writing enders_size enders) Q) (kX25_44 : (Nat → Int32) → Option (Int32 × (Nat → Int32))) (hkX25_44 : ∀ (fames_44 : (Nat → Int32)) (H : Heap) (locs : List Loc) (ls : Array Slot), kX25_44 fames_44 = some R → lv_has ls 4 [(0, .ref (ad 0)), (1, .int x1), (2, .int u2_25)] → va_P D vwCl (wd_X0_passYears cI ad size year_u25 kinds_size kinds figures_size figures styles_size styles fames_size fames_44 writing_size writing enders_size enders) H → va_D A (wd_X0_passYears cI ad size year_u25 kinds_size kinds figures_size figures styles_size styles fames_size fames_44 writing_size writing enders_size enders) → va_S A s.heap H locs → Wh p l e 8 s m args below meth c H locs Q (F0 m 44 ls [])) : ∀ (fuel : Nat) (v3_25 : Int32) (fames_25 : (Nat → Int32)) (H : Heap) (locs : List Loc) (ls : Array Slot), f_X0_passYears_25 size kinds figures styles writing enders year_u25 kX25_44 fuel v3_25 fames_25 = some R → lv_has ls 4 [(0, .ref (ad 0)), (1, .int x1), (2, .int u2_25), (3, .int v3_25)] → va_P D vwCl (wd_X0_passYears cI ad size year_u25 kinds_size kinds figures_size figures styles_size styles fames_size fames_25 writing_size writing enders_size enders) H → va_D A (wd_X0_passYears cI ad size year_u25 kinds_size kinds figures_size figures styles_size styles fames_size fames_25 writing_size writing enders_size enders) → va_S A s.heap H locs → Wh p l e 8 s m args below meth c H locs Q (F0 m 25 ls []) := by
  have hx := X.1
  have hb := X.2.1
  intro fuel
  induction fuel with
  | zero =>
    intro v3_25 fames_25 H locs ls hf hl hP hD hS
    cases hf
  | succ fuel ih =>
    intro v3_25 fames_25 H locs ls hf hl hP hD hS
    replace hf : (if size ≤ v3_25 then (kX25_44 fames_25) else ((f_X0_bookIsRead year_u25 kinds figures styles fames_25 writing enders v3_25).bind fun (r35 : (Nat → Int32)) => (f_X0_passYears_25 size kinds figures styles writing enders year_u25 kX25_44 fuel (v3_25 + (1 : Int32)) r35))) = some R := hf
    refine lv_iload_n hx hb dX0_passYears_25 rfl (lv_at hl 3 rfl) ?_
    refine lv_aload_n hx hb dX0_passYears_26 rfl (lv_at hl 0 rfl) ?_
    refine fgX0_38 X hP (q0 := 0) rfl rfl dX0_passYears_27 ?_
    refine lv_icmp_ge (tgt := 44) hx hb dX0_passYears_30 (by decide) (fun c30 => ?_) (fun c30 => ?_)
    · have hf := iT c30 hf
      exact hkX25_44 fames_25 _ _ _ hf (lv_sub hl [0, 1, 2] rfl) hP hD hS
    · have hf := iF c30 hf
      refine lv_aload_n hx hb dX0_passYears_33 rfl (lv_at hl 0 rfl) ?_
      refine lv_iload_n hx hb dX0_passYears_34 rfl (lv_at hl 3 rfl) ?_
      obtain ⟨r35, hq35, hf⟩ := bS hf
      refine wr_v X hP hD hS [0, 1, 2, 3, 4, 5, 6, 7, 8, 9, 10, 11, 12] rfl (ws' := (wd_X0_passYears cI ad size year_u25 kinds_size kinds figures_size figures styles_size styles fames_size r35 writing_size writing enders_size enders)) (Nat.le_of_ble_eq_true rfl) rfl rfl (run_V X hP hD hS [0, 1, 2, 3, 4, 5, 6, 7, 8, 9, 10, 11, 12] rfl rfl (c_X0_bookIsRead l D cI aS ad size year_u25 kinds_size kinds figures_size figures styles_size styles fames_size fames_25 writing_size writing enders_size enders v3_25 _ hq35 _) lkX0_101 (by decide) (q0 := 0) rfl rfl rfl rfl (Nat.le_of_ble_eq_true rfl) hl.1 dX0_passYears_35) (fun H locs hP hD hS => ?_)
      refine lv_iinc (v := (v3_25 + (1 : Int32))) (lv' := [(3, .int (v3_25 + (1 : Int32))), (0, .ref (ad 0)), (1, .int x1), (2, .int u2_25)]) hx hb dX0_passYears_38 hl (k := 3) rfl rfl (by decide) rfl (fun ls hl => ?_)
      refine lv_goto (tgt := 25) hx hb dX0_passYears_41 (by decide) ?_
      exact ih (v3_25 + (1 : Int32)) r35 _ _ _ hf (lv_sub hl [1, 2, 3, 0] rfl) hP hD hS
set_option maxHeartbeats 4000000 in
set_option maxRecDepth 100000 in
theorem w_X0_passYears_44 {p : Program} {l : Launch} {e : Env} {s : State} {m : MethodId} {args : Array Value} {below : List Frame} {meth : Method} {c : Code} {D : va_G} {cI : ClassId} {aS : aSt} {A : Nat → Prop} {Q : State → Prop}  (ad : Nat → Nat) (size : Int32) (kinds_size : Int32) (kinds : (Nat → Int32)) (figures_size : Int32) (figures : (Nat → Int32)) (styles_size : Int32) (styles : (Nat → Int32)) (fames_size : Int32) (writing_size : Int32) (writing : (Nat → Int32)) (enders_size : Int32) (enders : (Nat → Int32)) (x1 : Int32) {R : Int32 × (Nat → Int32)} (X : Bx p s m args meth c cX0_passYears 4 none RX0 D cI aS A) (hret : RtV p l e 8 s m args below meth c cX0_passYears D A (wd_X0_passYears cI ad size R.1 kinds_size kinds figures_size figures styles_size styles fames_size R.2 writing_size writing enders_size enders) Q) (kL2 : Int32 → Int32 → (Nat → Int32) → Option (Int32 × (Nat → Int32))) (hkL2 : ∀ (v2_2 : Int32) (year_2 : Int32) (fames_2 : (Nat → Int32)) (H : Heap) (locs : List Loc) (ls : Array Slot), kL2 v2_2 year_2 fames_2 = some R → lv_has ls 4 [(0, .ref (ad 0)), (1, .int x1), (2, .int v2_2)] → va_P D vwCl (wd_X0_passYears cI ad size year_2 kinds_size kinds figures_size figures styles_size styles fames_size fames_2 writing_size writing enders_size enders) H → va_D A (wd_X0_passYears cI ad size year_2 kinds_size kinds figures_size figures styles_size styles fames_size fames_2 writing_size writing enders_size enders) → va_S A s.heap H locs → Wh p l e 8 s m args below meth c H locs Q (F0 m 2 ls [])) : ∀ (v2_44 : Int32) (year_44 : Int32) (fames_44 : (Nat → Int32)) (H : Heap) (locs : List Loc) (ls : Array Slot), f_X0_passYears_44  kL2 v2_44 year_44 fames_44 = some R → lv_has ls 4 [(0, .ref (ad 0)), (1, .int x1), (2, .int v2_44)] → va_P D vwCl (wd_X0_passYears cI ad size year_44 kinds_size kinds figures_size figures styles_size styles fames_size fames_44 writing_size writing enders_size enders) H → va_D A (wd_X0_passYears cI ad size year_44 kinds_size kinds figures_size figures styles_size styles fames_size fames_44 writing_size writing enders_size enders) → va_S A s.heap H locs → Wh p l e 8 s m args below meth c H locs Q (F0 m 44 ls []) := by
  have hx := X.1
  have hb := X.2.1
  intro v2_44 year_44 fames_44 H locs ls hf hl hP hD hS
  replace hf : (kL2 (v2_44 + (1 : Int32)) year_44 fames_44) = some R := hf
  refine lv_iinc (v := (v2_44 + (1 : Int32))) (lv' := [(2, .int (v2_44 + (1 : Int32))), (0, .ref (ad 0)), (1, .int x1)]) hx hb dX0_passYears_44 hl (k := 2) rfl rfl (by decide) rfl (fun ls hl => ?_)
  refine lv_goto (tgt := 2) hx hb dX0_passYears_47 (by decide) ?_
  exact hkL2 (v2_44 + (1 : Int32)) year_44 fames_44 _ _ _ hf (lv_sub hl [1, 2, 0] rfl) hP hD hS
set_option maxHeartbeats 4000000 in
set_option maxRecDepth 100000 in
theorem w_X0_passYears_2 {p : Program} {l : Launch} {e : Env} {s : State} {m : MethodId} {args : Array Value} {below : List Frame} {meth : Method} {c : Code} {D : va_G} {cI : ClassId} {aS : aSt} {A : Nat → Prop} {Q : State → Prop}  (ad : Nat → Nat) (size : Int32) (kinds_size : Int32) (kinds : (Nat → Int32)) (figures_size : Int32) (figures : (Nat → Int32)) (styles_size : Int32) (styles : (Nat → Int32)) (fames_size : Int32) (writing_size : Int32) (writing : (Nat → Int32)) (enders_size : Int32) (enders : (Nat → Int32)) (x1 : Int32) {R : Int32 × (Nat → Int32)} (X : Bx p s m args meth c cX0_passYears 4 none RX0 D cI aS A) (hret : RtV p l e 8 s m args below meth c cX0_passYears D A (wd_X0_passYears cI ad size R.1 kinds_size kinds figures_size figures styles_size styles fames_size R.2 writing_size writing enders_size enders) Q) : ∀ (fuel : Nat) (v2_2 : Int32) (year_2 : Int32) (fames_2 : (Nat → Int32)) (H : Heap) (locs : List Loc) (ls : Array Slot), f_X0_passYears_2 size kinds figures styles writing enders x1  fuel v2_2 year_2 fames_2 = some R → lv_has ls 4 [(0, .ref (ad 0)), (1, .int x1), (2, .int v2_2)] → va_P D vwCl (wd_X0_passYears cI ad size year_2 kinds_size kinds figures_size figures styles_size styles fames_size fames_2 writing_size writing enders_size enders) H → va_D A (wd_X0_passYears cI ad size year_2 kinds_size kinds figures_size figures styles_size styles fames_size fames_2 writing_size writing enders_size enders) → va_S A s.heap H locs → Wh p l e 8 s m args below meth c H locs Q (F0 m 2 ls []) := by
  have hx := X.1
  have hb := X.2.1
  intro fuel
  induction fuel with
  | zero =>
    intro v2_2 year_2 fames_2 H locs ls hf hl hP hD hS
    cases hf
  | succ fuel ih =>
    intro v2_2 year_2 fames_2 H locs ls hf hl hP hD hS
    replace hf : (if x1 ≤ v2_2 then (some (year_2, fames_2)) else (if (60 : Int32) ≤ v2_2 then (some (year_2, fames_2)) else (f_X0_passYears_25 size kinds figures styles writing enders (year_2 + (1 : Int32)) (fun (fames_44 : (Nat → Int32)) => (f_X0_passYears_44  (f_X0_passYears_2 size kinds figures styles writing enders x1  fuel) v2_2 (year_2 + (1 : Int32)) fames_44)) FU (0 : Int32) fames_2))) = some R := hf
    refine lv_iload_n hx hb dX0_passYears_2 rfl (lv_at hl 2 rfl) ?_
    refine lv_iload_n hx hb dX0_passYears_3 rfl (lv_at hl 1 rfl) ?_
    refine lv_icmp_ge (tgt := 50) hx hb dX0_passYears_4 (by decide) (fun c4 => ?_) (fun c4 => ?_)
    · have hf := iT c4 hf
      have hR := Option.some.inj hf
      subst hR
      exact hret _ _ _ _ hP hD hS dX0_passYears_50
    · have hf := iF c4 hf
      refine lv_iload_n hx hb dX0_passYears_7 rfl (lv_at hl 2 rfl) ?_
      refine lv_bipush (v := 60) hx hb dX0_passYears_8 (by decide) ?_
      refine lv_icmp_ge (tgt := 50) hx hb dX0_passYears_10 (by decide) (fun c10 => ?_) (fun c10 => ?_)
      · have hf := iT c10 hf
        have hR := Option.some.inj hf
        subst hR
        exact hret _ _ _ _ hP hD hS dX0_passYears_50
      · have hf := iF c10 hf
        refine lv_aload_n hx hb dX0_passYears_13 rfl (lv_at hl 0 rfl) ?_
        refine lv_dup hx hb dX0_passYears_14 rfl ?_
        refine fgX0_42 X hP (q0 := 0) rfl rfl dX0_passYears_15 ?_
        refine lv_iconst (v := 1) hx hb dX0_passYears_18 (by decide) ?_
        refine lv_iadd hx hb dX0_passYears_19 ?_
        refine fpX0_42 X hP hD hS (q0 := 0) (ws' := (wd_X0_passYears cI ad size (year_2 + (1 : Int32)) kinds_size kinds figures_size figures styles_size styles fames_size fames_2 writing_size writing enders_size enders)) rfl rfl rfl (Nat.le_of_ble_eq_true rfl) rfl dX0_passYears_20 (fun H locs hP hD hS => ?_)
        refine lv_iconst (v := 0) hx hb dX0_passYears_23 (by decide) ?_
        refine lv_istore_n (lv' := [(3, .int (0 : Int32)), (0, .ref (ad 0)), (1, .int x1), (2, .int v2_2)]) hx hb dX0_passYears_24 rfl hl (by decide) rfl (fun ls hl => ?_)
        exact w_X0_passYears_25 ad size kinds_size kinds figures_size figures styles_size styles fames_size writing_size writing enders_size enders x1 v2_2 (year_2 + (1 : Int32)) X hret _ (fun fames_44 _ _ _ hf hl hP hD hS => w_X0_passYears_44 ad size kinds_size kinds figures_size figures styles_size styles fames_size writing_size writing enders_size enders x1 X hret _ ih v2_2 (year_2 + (1 : Int32)) fames_44 _ _ _ hf (lv_sub hl [0, 1, 2] rfl) hP hD hS) _ (0 : Int32) fames_2 _ _ _ hf (lv_sub hl [1, 2, 3, 0] rfl) hP hD hS
set_option maxHeartbeats 4000000 in
set_option maxRecDepth 100000 in
theorem c_X0_passYears (l : Launch) (D : va_G) (cI : ClassId) (aS : aSt) (ad : Nat → Nat) (size : Int32) (year : Int32) (kinds_size : Int32) (kinds : (Nat → Int32)) (figures_size : Int32) (figures : (Nat → Int32)) (styles_size : Int32) (styles : (Nat → Int32)) (fames_size : Int32) (fames : (Nat → Int32)) (writing_size : Int32) (writing : (Nat → Int32)) (enders_size : Int32) (enders : (Nat → Int32)) (x1 : Int32) (R : Int32 × (Nat → Int32)) (hf : f_X0_passYears size year kinds figures styles fames writing enders x1 = some R) : CtV l yX0_passYears cX0_passYears 4 none 8 D cI aS [.ref (ad 0), .int x1] (wd_X0_passYears cI ad size year kinds_size kinds figures_size figures styles_size styles fames_size fames writing_size writing enders_size enders) (wd_X0_passYears cI ad size R.1 kinds_size kinds figures_size figures styles_size styles fames_size R.2 writing_size writing enders_size enders) := by
  refine ctV_of (by decide) rfl (Nat.le_of_ble_eq_true rfl) ?_
  intro p e s m below meth c A Q ls X hret hP hD hl
  have hS : va_S A s.heap s.heap [] := va_S.rf
  have hx := X.1
  have hb := X.2.1
  have hl : lv_has ls 4 [(0, .ref (ad 0)), (1, .int x1)] := hl
  replace hf : (f_X0_passYears_2 size kinds figures styles writing enders x1  FU (0 : Int32) year fames) = some R := hf
  refine lv_iconst (v := 0) hx hb dX0_passYears_0 (by decide) ?_
  refine lv_istore_n (lv' := [(2, .int (0 : Int32)), (0, .ref (ad 0)), (1, .int x1)]) hx hb dX0_passYears_1 rfl hl (by decide) rfl (fun ls hl => ?_)
  exact w_X0_passYears_2 ad size kinds_size kinds figures_size figures styles_size styles fames_size writing_size writing enders_size enders x1 X hret  _ (0 : Int32) year fames _ _ _ hf (lv_sub hl [1, 2, 0] rfl) hP hD hS

abbrev wd_X0_swapPlaces (cI : ClassId) (ad : Nat → Nat) (size : Int32) (year : Int32) (writing_size : Int32) (writing : (Nat → Int32)) (order_size : Int32) (order : (Nat → Int32)) (enders_size : Int32) (enders : (Nat → Int32)) : va_W := [((ad 0), .inr (0, [.ref (ad 1), .ref (ad 3), .ref (ad 5), .ref (ad 7), .ref (ad 9), .ref (ad 11), .ref (ad 13), .int size, .int year])), ((ad 9), .inr (3, [.ref (ad 10), .int writing_size])), ((ad 10), .inl (cI, 7, .inl writing)), ((ad 11), .inr (3, [.ref (ad 12), .int order_size])), ((ad 12), .inl (cI, 7, .inl order)), ((ad 13), .inr (3, [.ref (ad 14), .int enders_size])), ((ad 14), .inl (cI, 7, .inl enders))]
def f_X0_swapPlaces (size : Int32) (writing : (Nat → Int32)) (order : (Nat → Int32)) (enders : (Nat → Int32)) (x1 : Int32) (x2 : Int32) : Option ((Nat → Int32) × (Nat → Int32)) := ((f_X0_placeOf size order x1).bind fun (r2 : Int32) => ((f_X0_placeOf size order x2).bind fun (r8 : Int32) => ((f_X3_set 7 order r2 x2).bind fun (r19 : (Nat → Int32)) => ((f_X3_set 7 r19 r8 x1).bind fun (r29 : (Nat → Int32)) => ((f_X0_tellEnders size writing r29 enders).bind fun (r33 : (Nat → Int32)) => (some (r29, r33)))))))
set_option maxHeartbeats 4000000 in
set_option maxRecDepth 100000 in
theorem c_X0_swapPlaces (l : Launch) (D : va_G) (cI : ClassId) (aS : aSt) (ad : Nat → Nat) (size : Int32) (year : Int32) (writing_size : Int32) (writing : (Nat → Int32)) (order_size : Int32) (order : (Nat → Int32)) (enders_size : Int32) (enders : (Nat → Int32)) (x1 : Int32) (x2 : Int32) (R : (Nat → Int32) × (Nat → Int32)) (hf : f_X0_swapPlaces size writing order enders x1 x2 = some R) : CtV l yX0_swapPlaces cX0_swapPlaces 5 none 3 D cI aS [.ref (ad 0), .int x1, .int x2] (wd_X0_swapPlaces cI ad size year writing_size writing order_size order enders_size enders) (wd_X0_swapPlaces cI ad size year writing_size writing order_size R.1 enders_size R.2) := by
  refine ctV_of (by decide) rfl (Nat.le_of_ble_eq_true rfl) ?_
  intro p e s m below meth c A Q ls X hret hP hD hl
  have hS : va_S A s.heap s.heap [] := va_S.rf
  have hx := X.1
  have hb := X.2.1
  have hl : lv_has ls 5 [(0, .ref (ad 0)), (1, .int x1), (2, .int x2)] := hl
  replace hf : ((f_X0_placeOf size order x1).bind fun (r2 : Int32) => ((f_X0_placeOf size order x2).bind fun (r8 : Int32) => ((f_X3_set 7 order r2 x2).bind fun (r19 : (Nat → Int32)) => ((f_X3_set 7 r19 r8 x1).bind fun (r29 : (Nat → Int32)) => ((f_X0_tellEnders size writing r29 enders).bind fun (r33 : (Nat → Int32)) => (some (r29, r33))))))) = some R := hf
  refine lv_aload_n hx hb dX0_swapPlaces_0 rfl (lv_at hl 0 rfl) ?_
  refine lv_iload_n hx hb dX0_swapPlaces_1 rfl (lv_at hl 1 rfl) ?_
  obtain ⟨r2, hq2, hf⟩ := bS hf
  refine ro_i X hP hD hS [0, 3, 4] rfl (run_V X hP hD hS [0, 3, 4] rfl rfl (c_X0_placeOf l D cI aS ad size year order_size order x1 _ hq2 _) lkX0_64 (by decide) (q0 := 0) rfl rfl rfl rfl (Nat.le_of_ble_eq_true rfl) hl.1 dX0_swapPlaces_2) (fun H locs hP hS => ?_)
  refine lv_istore_n (lv' := [(3, .int r2), (0, .ref (ad 0)), (1, .int x1), (2, .int x2)]) hx hb dX0_swapPlaces_5 rfl hl (by decide) rfl (fun ls hl => ?_)
  refine lv_aload_n hx hb dX0_swapPlaces_6 rfl (lv_at hl 1 rfl) ?_
  refine lv_iload_n hx hb dX0_swapPlaces_7 rfl (lv_at hl 3 rfl) ?_
  obtain ⟨r8, hq8, hf⟩ := bS hf
  refine ro_i X hP hD hS [0, 3, 4] rfl (run_V X hP hD hS [0, 3, 4] rfl rfl (c_X0_placeOf l D cI aS ad size year order_size order x2 _ hq8 _) lkX0_64 (by decide) (q0 := 0) rfl rfl rfl rfl (Nat.le_of_ble_eq_true rfl) hl.1 dX0_swapPlaces_8) (fun H locs hP hS => ?_)
  refine lv_istore (lv' := [(4, .int r8), (3, .int r2), (0, .ref (ad 0)), (1, .int x1), (2, .int x2)]) hx hb dX0_swapPlaces_11 hl (by decide) rfl (fun ls hl => ?_)
  refine lv_aload_n hx hb dX0_swapPlaces_13 rfl (lv_at hl 2 rfl) ?_
  refine fgX0_32 X hP (q0 := 0) rfl rfl dX0_swapPlaces_14 ?_
  refine lv_iload_n hx hb dX0_swapPlaces_17 rfl (lv_at hl 1 rfl) ?_
  refine lv_iload_n hx hb dX0_swapPlaces_18 rfl (lv_at hl 4 rfl) ?_
  obtain ⟨r19, hq19, hf⟩ := bS hf
  refine wr_v X hP hD hS [3, 4] rfl (ws' := (wd_X0_swapPlaces cI ad size year writing_size writing order_size r19 enders_size enders)) (Nat.le_of_ble_eq_true rfl) rfl rfl (run_N X hP hD hS [3, 4] rfl rfl (c_X3_set l D cI aS (fun k => ad (11 + k)) 7 order_size order r2 x2 _ hq19 _) lkX0_49 (by decide) (q0 := 3) rfl rfl rfl rfl (Nat.le_of_ble_eq_true rfl) hl.1 dX0_swapPlaces_19) (fun H locs hP hD hS => ?_)
  refine lv_aload_n hx hb dX0_swapPlaces_22 rfl (lv_at hl 2 rfl) ?_
  refine fgX0_32 X hP (q0 := 0) rfl rfl dX0_swapPlaces_23 ?_
  refine lv_iload hx hb dX0_swapPlaces_26 (lv_at hl 0 rfl) ?_
  refine lv_iload_n hx hb dX0_swapPlaces_28 rfl (lv_at hl 3 rfl) ?_
  obtain ⟨r29, hq29, hf⟩ := bS hf
  refine wr_v X hP hD hS [3, 4] rfl (ws' := (wd_X0_swapPlaces cI ad size year writing_size writing order_size r29 enders_size enders)) (Nat.le_of_ble_eq_true rfl) rfl rfl (run_N X hP hD hS [3, 4] rfl rfl (c_X3_set l D cI aS (fun k => ad (11 + k)) 7 order_size r19 r8 x1 _ hq29 _) lkX0_49 (by decide) (q0 := 3) rfl rfl rfl rfl (Nat.le_of_ble_eq_true rfl) hl.1 dX0_swapPlaces_29) (fun H locs hP hD hS => ?_)
  refine lv_aload_n hx hb dX0_swapPlaces_32 rfl (lv_at hl 2 rfl) ?_
  obtain ⟨r33, hq33, hf⟩ := bS hf
  refine wr_v X hP hD hS [0, 1, 2, 3, 4, 5, 6] rfl (ws' := (wd_X0_swapPlaces cI ad size year writing_size writing order_size r29 enders_size r33)) (Nat.le_of_ble_eq_true rfl) rfl rfl (run_V X hP hD hS [0, 1, 2, 3, 4, 5, 6] rfl rfl (c_X0_tellEnders l D cI aS ad size year writing_size writing order_size r29 enders_size enders _ hq33 _) lkX0_53 (by decide) (q0 := 0) rfl rfl rfl rfl (Nat.le_of_ble_eq_true rfl) hl.1 dX0_swapPlaces_33) (fun H locs hP hD hS => ?_)
  have hR := Option.some.inj hf
  subst hR
  exact hret _ _ _ _ hP hD hS dX0_swapPlaces_36

abbrev wd_X0_take (cI : ClassId) (ad da1 : Nat → Nat) (size : Int32) (year : Int32) (kinds_size : Int32) (kinds : (Nat → Int32)) (figures_size : Int32) (figures : (Nat → Int32)) (styles_size : Int32) (styles : (Nat → Int32)) (fames_size : Int32) (fames : (Nat → Int32)) (writing_size : Int32) (writing : (Nat → Int32)) (order_size : Int32) (order : (Nat → Int32)) (enders_size : Int32) (enders : (Nat → Int32)) (a1_size : Int32) (a1_year : Int32) (a1_kinds_size : Int32) (a1_kinds : (Nat → Int32)) (a1_figures_size : Int32) (a1_figures : (Nat → Int32)) (a1_styles_size : Int32) (a1_styles : (Nat → Int32)) (a1_fames_size : Int32) (a1_fames : (Nat → Int32)) (a1_writing_size : Int32) (a1_writing : (Nat → Int32)) (a1_order_size : Int32) (a1_order : (Nat → Int32)) (a1_enders_size : Int32) (a1_enders : (Nat → Int32)) : va_W := [((ad 0), .inr (0, [.ref (ad 1), .ref (ad 3), .ref (ad 5), .ref (ad 7), .ref (ad 9), .ref (ad 11), .ref (ad 13), .int size, .int year])), ((ad 1), .inr (3, [.ref (ad 2), .int kinds_size])), ((ad 2), .inl (cI, 7, .inl kinds)), ((ad 3), .inr (3, [.ref (ad 4), .int figures_size])), ((ad 4), .inl (cI, 7, .inl figures)), ((ad 5), .inr (3, [.ref (ad 6), .int styles_size])), ((ad 6), .inl (cI, 7, .inl styles)), ((ad 7), .inr (3, [.ref (ad 8), .int fames_size])), ((ad 8), .inl (cI, 7, .inl fames)), ((ad 9), .inr (3, [.ref (ad 10), .int writing_size])), ((ad 10), .inl (cI, 7, .inl writing)), ((ad 11), .inr (3, [.ref (ad 12), .int order_size])), ((ad 12), .inl (cI, 7, .inl order)), ((ad 13), .inr (3, [.ref (ad 14), .int enders_size])), ((ad 14), .inl (cI, 7, .inl enders)), ((da1 0), .inr (0, [.ref (da1 1), .ref (da1 3), .ref (da1 5), .ref (da1 7), .ref (da1 9), .ref (da1 11), .ref (da1 13), .int a1_size, .int a1_year])), ((da1 1), .inr (3, [.ref (da1 2), .int a1_kinds_size])), ((da1 2), .inl (cI, 7, .inl a1_kinds)), ((da1 3), .inr (3, [.ref (da1 4), .int a1_figures_size])), ((da1 4), .inl (cI, 7, .inl a1_figures)), ((da1 5), .inr (3, [.ref (da1 6), .int a1_styles_size])), ((da1 6), .inl (cI, 7, .inl a1_styles)), ((da1 7), .inr (3, [.ref (da1 8), .int a1_fames_size])), ((da1 8), .inl (cI, 7, .inl a1_fames)), ((da1 9), .inr (3, [.ref (da1 10), .int a1_writing_size])), ((da1 10), .inl (cI, 7, .inl a1_writing)), ((da1 11), .inr (3, [.ref (da1 12), .int a1_order_size])), ((da1 12), .inl (cI, 7, .inl a1_order)), ((da1 13), .inr (3, [.ref (da1 14), .int a1_enders_size])), ((da1 14), .inl (cI, 7, .inl a1_enders))]
def f_X0_take (size : Int32) (year : Int32) (kinds_size : Int32) (kinds : (Nat → Int32)) (figures_size : Int32) (figures : (Nat → Int32)) (styles_size : Int32) (styles : (Nat → Int32)) (fames_size : Int32) (fames : (Nat → Int32)) (writing_size : Int32) (writing : (Nat → Int32)) (order_size : Int32) (order : (Nat → Int32)) (enders_size : Int32) (enders : (Nat → Int32)) (a1_size : Int32) (a1_year : Int32) (a1_kinds_size : Int32) (a1_kinds : (Nat → Int32)) (a1_figures_size : Int32) (a1_figures : (Nat → Int32)) (a1_styles_size : Int32) (a1_styles : (Nat → Int32)) (a1_fames_size : Int32) (a1_fames : (Nat → Int32)) (a1_writing_size : Int32) (a1_writing : (Nat → Int32)) (a1_order_size : Int32) (a1_order : (Nat → Int32)) (a1_enders_size : Int32) (a1_enders : (Nat → Int32)) : Option (Int32 × Int32 × Int32 × (Nat → Int32) × Int32 × (Nat → Int32) × Int32 × (Nat → Int32) × Int32 × (Nat → Int32) × Int32 × (Nat → Int32) × Int32 × (Nat → Int32) × Int32 × (Nat → Int32)) := ((f_X3_take 7 7 kinds_size kinds a1_kinds_size a1_kinds).bind fun (r8 : Int32 × (Nat → Int32)) => ((f_X3_take 7 7 figures_size figures a1_figures_size a1_figures).bind fun (r19 : Int32 × (Nat → Int32)) => ((f_X3_take 7 7 styles_size styles a1_styles_size a1_styles).bind fun (r30 : Int32 × (Nat → Int32)) => ((f_X3_take 7 7 fames_size fames a1_fames_size a1_fames).bind fun (r41 : Int32 × (Nat → Int32)) => ((f_X3_take 7 7 writing_size writing a1_writing_size a1_writing).bind fun (r52 : Int32 × (Nat → Int32)) => ((f_X3_take 7 7 order_size order a1_order_size a1_order).bind fun (r63 : Int32 × (Nat → Int32)) => ((f_X3_take 7 7 enders_size enders a1_enders_size a1_enders).bind fun (r74 : Int32 × (Nat → Int32)) => (some (a1_size, a1_year, r8.1, r8.2, r19.1, r19.2, r30.1, r30.2, r41.1, r41.2, r52.1, r52.2, r63.1, r63.2, r74.1, r74.2)))))))))
set_option maxHeartbeats 4000000 in
set_option maxRecDepth 100000 in
theorem c_X0_take (l : Launch) (D : va_G) (cI : ClassId) (aS : aSt) (ad : Nat → Nat) (da1 : Nat → Nat) (size : Int32) (year : Int32) (kinds_size : Int32) (kinds : (Nat → Int32)) (figures_size : Int32) (figures : (Nat → Int32)) (styles_size : Int32) (styles : (Nat → Int32)) (fames_size : Int32) (fames : (Nat → Int32)) (writing_size : Int32) (writing : (Nat → Int32)) (order_size : Int32) (order : (Nat → Int32)) (enders_size : Int32) (enders : (Nat → Int32)) (a1_size : Int32) (a1_year : Int32) (a1_kinds_size : Int32) (a1_kinds : (Nat → Int32)) (a1_figures_size : Int32) (a1_figures : (Nat → Int32)) (a1_styles_size : Int32) (a1_styles : (Nat → Int32)) (a1_fames_size : Int32) (a1_fames : (Nat → Int32)) (a1_writing_size : Int32) (a1_writing : (Nat → Int32)) (a1_order_size : Int32) (a1_order : (Nat → Int32)) (a1_enders_size : Int32) (a1_enders : (Nat → Int32)) (R : Int32 × Int32 × Int32 × (Nat → Int32) × Int32 × (Nat → Int32) × Int32 × (Nat → Int32) × Int32 × (Nat → Int32) × Int32 × (Nat → Int32) × Int32 × (Nat → Int32) × Int32 × (Nat → Int32)) (hf : f_X0_take size year kinds_size kinds figures_size figures styles_size styles fames_size fames writing_size writing order_size order enders_size enders a1_size a1_year a1_kinds_size a1_kinds a1_figures_size a1_figures a1_styles_size a1_styles a1_fames_size a1_fames a1_writing_size a1_writing a1_order_size a1_order a1_enders_size a1_enders = some R) : CtV l yX0_take cX0_take 2 none 1 D cI aS [.ref (ad 0), .ref (da1 0)] (wd_X0_take cI ad da1 size year kinds_size kinds figures_size figures styles_size styles fames_size fames writing_size writing order_size order enders_size enders a1_size a1_year a1_kinds_size a1_kinds a1_figures_size a1_figures a1_styles_size a1_styles a1_fames_size a1_fames a1_writing_size a1_writing a1_order_size a1_order a1_enders_size a1_enders) (wd_X0_take cI ad da1 R.1 R.2.1 R.2.2.1 R.2.2.2.1 R.2.2.2.2.1 R.2.2.2.2.2.1 R.2.2.2.2.2.2.1 R.2.2.2.2.2.2.2.1 R.2.2.2.2.2.2.2.2.1 R.2.2.2.2.2.2.2.2.2.1 R.2.2.2.2.2.2.2.2.2.2.1 R.2.2.2.2.2.2.2.2.2.2.2.1 R.2.2.2.2.2.2.2.2.2.2.2.2.1 R.2.2.2.2.2.2.2.2.2.2.2.2.2.1 R.2.2.2.2.2.2.2.2.2.2.2.2.2.2.1 R.2.2.2.2.2.2.2.2.2.2.2.2.2.2.2 a1_size a1_year a1_kinds_size a1_kinds a1_figures_size a1_figures a1_styles_size a1_styles a1_fames_size a1_fames a1_writing_size a1_writing a1_order_size a1_order a1_enders_size a1_enders) := by
  refine ctV_of (by decide) rfl (Nat.le_of_ble_eq_true rfl) ?_
  intro p e s m below meth c A Q ls X hret hP hD hl
  have hS : va_S A s.heap s.heap [] := va_S.rf
  have hx := X.1
  have hb := X.2.1
  have hl : lv_has ls 2 [(0, .ref (ad 0)), (1, .ref (da1 0))] := hl
  replace hf : ((f_X3_take 7 7 kinds_size kinds a1_kinds_size a1_kinds).bind fun (r8 : Int32 × (Nat → Int32)) => ((f_X3_take 7 7 figures_size figures a1_figures_size a1_figures).bind fun (r19 : Int32 × (Nat → Int32)) => ((f_X3_take 7 7 styles_size styles a1_styles_size a1_styles).bind fun (r30 : Int32 × (Nat → Int32)) => ((f_X3_take 7 7 fames_size fames a1_fames_size a1_fames).bind fun (r41 : Int32 × (Nat → Int32)) => ((f_X3_take 7 7 writing_size writing a1_writing_size a1_writing).bind fun (r52 : Int32 × (Nat → Int32)) => ((f_X3_take 7 7 order_size order a1_order_size a1_order).bind fun (r63 : Int32 × (Nat → Int32)) => ((f_X3_take 7 7 enders_size enders a1_enders_size a1_enders).bind fun (r74 : Int32 × (Nat → Int32)) => (some (a1_size, a1_year, r8.1, r8.2, r19.1, r19.2, r30.1, r30.2, r41.1, r41.2, r52.1, r52.2, r63.1, r63.2, r74.1, r74.2))))))))) = some R := hf
  refine lv_aload_n hx hb dX0_take_0 rfl (lv_at hl 0 rfl) ?_
  refine fgX0_14 X hP (q0 := 0) rfl rfl dX0_take_1 ?_
  refine lv_aload_n hx hb dX0_take_4 rfl (lv_at hl 1 rfl) ?_
  refine fgX0_14 X hP (q0 := 15) rfl rfl dX0_take_5 ?_
  obtain ⟨r8, hq8, hf⟩ := bS hf
  refine wr_v X hP hD hS [1, 2, 16, 17] rfl (ws' := (wd_X0_take cI ad da1 size year r8.1 r8.2 figures_size figures styles_size styles fames_size fames writing_size writing order_size order enders_size enders a1_size a1_year a1_kinds_size a1_kinds a1_figures_size a1_figures a1_styles_size a1_styles a1_fames_size a1_fames a1_writing_size a1_writing a1_order_size a1_order a1_enders_size a1_enders)) (Nat.le_of_ble_eq_true rfl) rfl rfl (run_N X hP hD hS [1, 2, 16, 17] rfl rfl (c_X3_take l D cI aS (fun k => ad (1 + k)) (fun k => da1 (1 + k)) 7 7 kinds_size kinds a1_kinds_size a1_kinds _ hq8 _) lkX0_45 (by decide) (q0 := 1) rfl rfl rfl rfl (Nat.le_of_ble_eq_true rfl) hl.1 dX0_take_8) (fun H locs hP hD hS => ?_)
  refine lv_aload_n hx hb dX0_take_11 rfl (lv_at hl 0 rfl) ?_
  refine fgX0_20 X hP (q0 := 0) rfl rfl dX0_take_12 ?_
  refine lv_aload_n hx hb dX0_take_15 rfl (lv_at hl 1 rfl) ?_
  refine fgX0_20 X hP (q0 := 15) rfl rfl dX0_take_16 ?_
  obtain ⟨r19, hq19, hf⟩ := bS hf
  refine wr_v X hP hD hS [3, 4, 18, 19] rfl (ws' := (wd_X0_take cI ad da1 size year r8.1 r8.2 r19.1 r19.2 styles_size styles fames_size fames writing_size writing order_size order enders_size enders a1_size a1_year a1_kinds_size a1_kinds a1_figures_size a1_figures a1_styles_size a1_styles a1_fames_size a1_fames a1_writing_size a1_writing a1_order_size a1_order a1_enders_size a1_enders)) (Nat.le_of_ble_eq_true rfl) rfl rfl (run_N X hP hD hS [3, 4, 18, 19] rfl rfl (c_X3_take l D cI aS (fun k => ad (3 + k)) (fun k => da1 (3 + k)) 7 7 figures_size figures a1_figures_size a1_figures _ hq19 _) lkX0_45 (by decide) (q0 := 3) rfl rfl rfl rfl (Nat.le_of_ble_eq_true rfl) hl.1 dX0_take_19) (fun H locs hP hD hS => ?_)
  refine lv_aload_n hx hb dX0_take_22 rfl (lv_at hl 0 rfl) ?_
  refine fgX0_23 X hP (q0 := 0) rfl rfl dX0_take_23 ?_
  refine lv_aload_n hx hb dX0_take_26 rfl (lv_at hl 1 rfl) ?_
  refine fgX0_23 X hP (q0 := 15) rfl rfl dX0_take_27 ?_
  obtain ⟨r30, hq30, hf⟩ := bS hf
  refine wr_v X hP hD hS [5, 6, 20, 21] rfl (ws' := (wd_X0_take cI ad da1 size year r8.1 r8.2 r19.1 r19.2 r30.1 r30.2 fames_size fames writing_size writing order_size order enders_size enders a1_size a1_year a1_kinds_size a1_kinds a1_figures_size a1_figures a1_styles_size a1_styles a1_fames_size a1_fames a1_writing_size a1_writing a1_order_size a1_order a1_enders_size a1_enders)) (Nat.le_of_ble_eq_true rfl) rfl rfl (run_N X hP hD hS [5, 6, 20, 21] rfl rfl (c_X3_take l D cI aS (fun k => ad (5 + k)) (fun k => da1 (5 + k)) 7 7 styles_size styles a1_styles_size a1_styles _ hq30 _) lkX0_45 (by decide) (q0 := 5) rfl rfl rfl rfl (Nat.le_of_ble_eq_true rfl) hl.1 dX0_take_30) (fun H locs hP hD hS => ?_)
  refine lv_aload_n hx hb dX0_take_33 rfl (lv_at hl 0 rfl) ?_
  refine fgX0_26 X hP (q0 := 0) rfl rfl dX0_take_34 ?_
  refine lv_aload_n hx hb dX0_take_37 rfl (lv_at hl 1 rfl) ?_
  refine fgX0_26 X hP (q0 := 15) rfl rfl dX0_take_38 ?_
  obtain ⟨r41, hq41, hf⟩ := bS hf
  refine wr_v X hP hD hS [7, 8, 22, 23] rfl (ws' := (wd_X0_take cI ad da1 size year r8.1 r8.2 r19.1 r19.2 r30.1 r30.2 r41.1 r41.2 writing_size writing order_size order enders_size enders a1_size a1_year a1_kinds_size a1_kinds a1_figures_size a1_figures a1_styles_size a1_styles a1_fames_size a1_fames a1_writing_size a1_writing a1_order_size a1_order a1_enders_size a1_enders)) (Nat.le_of_ble_eq_true rfl) rfl rfl (run_N X hP hD hS [7, 8, 22, 23] rfl rfl (c_X3_take l D cI aS (fun k => ad (7 + k)) (fun k => da1 (7 + k)) 7 7 fames_size fames a1_fames_size a1_fames _ hq41 _) lkX0_45 (by decide) (q0 := 7) rfl rfl rfl rfl (Nat.le_of_ble_eq_true rfl) hl.1 dX0_take_41) (fun H locs hP hD hS => ?_)
  refine lv_aload_n hx hb dX0_take_44 rfl (lv_at hl 0 rfl) ?_
  refine fgX0_29 X hP (q0 := 0) rfl rfl dX0_take_45 ?_
  refine lv_aload_n hx hb dX0_take_48 rfl (lv_at hl 1 rfl) ?_
  refine fgX0_29 X hP (q0 := 15) rfl rfl dX0_take_49 ?_
  obtain ⟨r52, hq52, hf⟩ := bS hf
  refine wr_v X hP hD hS [9, 10, 24, 25] rfl (ws' := (wd_X0_take cI ad da1 size year r8.1 r8.2 r19.1 r19.2 r30.1 r30.2 r41.1 r41.2 r52.1 r52.2 order_size order enders_size enders a1_size a1_year a1_kinds_size a1_kinds a1_figures_size a1_figures a1_styles_size a1_styles a1_fames_size a1_fames a1_writing_size a1_writing a1_order_size a1_order a1_enders_size a1_enders)) (Nat.le_of_ble_eq_true rfl) rfl rfl (run_N X hP hD hS [9, 10, 24, 25] rfl rfl (c_X3_take l D cI aS (fun k => ad (9 + k)) (fun k => da1 (9 + k)) 7 7 writing_size writing a1_writing_size a1_writing _ hq52 _) lkX0_45 (by decide) (q0 := 9) rfl rfl rfl rfl (Nat.le_of_ble_eq_true rfl) hl.1 dX0_take_52) (fun H locs hP hD hS => ?_)
  refine lv_aload_n hx hb dX0_take_55 rfl (lv_at hl 0 rfl) ?_
  refine fgX0_32 X hP (q0 := 0) rfl rfl dX0_take_56 ?_
  refine lv_aload_n hx hb dX0_take_59 rfl (lv_at hl 1 rfl) ?_
  refine fgX0_32 X hP (q0 := 15) rfl rfl dX0_take_60 ?_
  obtain ⟨r63, hq63, hf⟩ := bS hf
  refine wr_v X hP hD hS [11, 12, 26, 27] rfl (ws' := (wd_X0_take cI ad da1 size year r8.1 r8.2 r19.1 r19.2 r30.1 r30.2 r41.1 r41.2 r52.1 r52.2 r63.1 r63.2 enders_size enders a1_size a1_year a1_kinds_size a1_kinds a1_figures_size a1_figures a1_styles_size a1_styles a1_fames_size a1_fames a1_writing_size a1_writing a1_order_size a1_order a1_enders_size a1_enders)) (Nat.le_of_ble_eq_true rfl) rfl rfl (run_N X hP hD hS [11, 12, 26, 27] rfl rfl (c_X3_take l D cI aS (fun k => ad (11 + k)) (fun k => da1 (11 + k)) 7 7 order_size order a1_order_size a1_order _ hq63 _) lkX0_45 (by decide) (q0 := 11) rfl rfl rfl rfl (Nat.le_of_ble_eq_true rfl) hl.1 dX0_take_63) (fun H locs hP hD hS => ?_)
  refine lv_aload_n hx hb dX0_take_66 rfl (lv_at hl 0 rfl) ?_
  refine fgX0_35 X hP (q0 := 0) rfl rfl dX0_take_67 ?_
  refine lv_aload_n hx hb dX0_take_70 rfl (lv_at hl 1 rfl) ?_
  refine fgX0_35 X hP (q0 := 15) rfl rfl dX0_take_71 ?_
  obtain ⟨r74, hq74, hf⟩ := bS hf
  refine wr_v X hP hD hS [13, 14, 28, 29] rfl (ws' := (wd_X0_take cI ad da1 size year r8.1 r8.2 r19.1 r19.2 r30.1 r30.2 r41.1 r41.2 r52.1 r52.2 r63.1 r63.2 r74.1 r74.2 a1_size a1_year a1_kinds_size a1_kinds a1_figures_size a1_figures a1_styles_size a1_styles a1_fames_size a1_fames a1_writing_size a1_writing a1_order_size a1_order a1_enders_size a1_enders)) (Nat.le_of_ble_eq_true rfl) rfl rfl (run_N X hP hD hS [13, 14, 28, 29] rfl rfl (c_X3_take l D cI aS (fun k => ad (13 + k)) (fun k => da1 (13 + k)) 7 7 enders_size enders a1_enders_size a1_enders _ hq74 _) lkX0_45 (by decide) (q0 := 13) rfl rfl rfl rfl (Nat.le_of_ble_eq_true rfl) hl.1 dX0_take_74) (fun H locs hP hD hS => ?_)
  refine lv_aload_n hx hb dX0_take_77 rfl (lv_at hl 0 rfl) ?_
  refine lv_aload_n hx hb dX0_take_78 rfl (lv_at hl 1 rfl) ?_
  refine fgX0_38 X hP (q0 := 15) rfl rfl dX0_take_79 ?_
  refine fpX0_38 X hP hD hS (q0 := 0) (ws' := (wd_X0_take cI ad da1 a1_size year r8.1 r8.2 r19.1 r19.2 r30.1 r30.2 r41.1 r41.2 r52.1 r52.2 r63.1 r63.2 r74.1 r74.2 a1_size a1_year a1_kinds_size a1_kinds a1_figures_size a1_figures a1_styles_size a1_styles a1_fames_size a1_fames a1_writing_size a1_writing a1_order_size a1_order a1_enders_size a1_enders)) rfl rfl rfl (Nat.le_of_ble_eq_true rfl) rfl dX0_take_82 (fun H locs hP hD hS => ?_)
  refine lv_aload_n hx hb dX0_take_85 rfl (lv_at hl 0 rfl) ?_
  refine lv_aload_n hx hb dX0_take_86 rfl (lv_at hl 1 rfl) ?_
  refine fgX0_42 X hP (q0 := 15) rfl rfl dX0_take_87 ?_
  refine fpX0_42 X hP hD hS (q0 := 0) (ws' := (wd_X0_take cI ad da1 a1_size a1_year r8.1 r8.2 r19.1 r19.2 r30.1 r30.2 r41.1 r41.2 r52.1 r52.2 r63.1 r63.2 r74.1 r74.2 a1_size a1_year a1_kinds_size a1_kinds a1_figures_size a1_figures a1_styles_size a1_styles a1_fames_size a1_fames a1_writing_size a1_writing a1_order_size a1_order a1_enders_size a1_enders)) rfl rfl rfl (Nat.le_of_ble_eq_true rfl) rfl dX0_take_90 (fun H locs hP hD hS => ?_)
  have hR := Option.some.inj hf
  subst hR
  exact hret _ _ _ _ hP hD hS dX0_take_93

abbrev wd_X0_toggleWriting (cI : ClassId) (ad : Nat → Nat) (size : Int32) (year : Int32) (writing_size : Int32) (writing : (Nat → Int32)) (order_size : Int32) (order : (Nat → Int32)) (enders_size : Int32) (enders : (Nat → Int32)) : va_W := [((ad 0), .inr (0, [.ref (ad 1), .ref (ad 3), .ref (ad 5), .ref (ad 7), .ref (ad 9), .ref (ad 11), .ref (ad 13), .int size, .int year])), ((ad 9), .inr (3, [.ref (ad 10), .int writing_size])), ((ad 10), .inl (cI, 7, .inl writing)), ((ad 11), .inr (3, [.ref (ad 12), .int order_size])), ((ad 12), .inl (cI, 7, .inl order)), ((ad 13), .inr (3, [.ref (ad 14), .int enders_size])), ((ad 14), .inl (cI, 7, .inl enders))]
def f_X0_toggleWriting (size : Int32) (writing : (Nat → Int32)) (order : (Nat → Int32)) (enders : (Nat → Int32)) (x1 : Int32) : Option ((Nat → Int32) × (Nat → Int32)) := ((f_X3_get 7 writing x1).bind fun (r11 : Int32) => ((f_X3_set 7 writing x1 ((1 : Int32) - r11)).bind fun (r15 : (Nat → Int32)) => ((f_X0_tellEnders size r15 order enders).bind fun (r19 : (Nat → Int32)) => (some (r15, r19)))))
set_option maxHeartbeats 4000000 in
set_option maxRecDepth 100000 in
theorem c_X0_toggleWriting (l : Launch) (D : va_G) (cI : ClassId) (aS : aSt) (ad : Nat → Nat) (size : Int32) (year : Int32) (writing_size : Int32) (writing : (Nat → Int32)) (order_size : Int32) (order : (Nat → Int32)) (enders_size : Int32) (enders : (Nat → Int32)) (x1 : Int32) (R : (Nat → Int32) × (Nat → Int32)) (hf : f_X0_toggleWriting size writing order enders x1 = some R) : CtV l yX0_toggleWriting cX0_toggleWriting 2 none 3 D cI aS [.ref (ad 0), .int x1] (wd_X0_toggleWriting cI ad size year writing_size writing order_size order enders_size enders) (wd_X0_toggleWriting cI ad size year writing_size R.1 order_size order enders_size R.2) := by
  refine ctV_of (by decide) rfl (Nat.le_of_ble_eq_true rfl) ?_
  intro p e s m below meth c A Q ls X hret hP hD hl
  have hS : va_S A s.heap s.heap [] := va_S.rf
  have hx := X.1
  have hb := X.2.1
  have hl : lv_has ls 2 [(0, .ref (ad 0)), (1, .int x1)] := hl
  replace hf : ((f_X3_get 7 writing x1).bind fun (r11 : Int32) => ((f_X3_set 7 writing x1 ((1 : Int32) - r11)).bind fun (r15 : (Nat → Int32)) => ((f_X0_tellEnders size r15 order enders).bind fun (r19 : (Nat → Int32)) => (some (r15, r19))))) = some R := hf
  refine lv_aload_n hx hb dX0_toggleWriting_0 rfl (lv_at hl 0 rfl) ?_
  refine fgX0_29 X hP (q0 := 0) rfl rfl dX0_toggleWriting_1 ?_
  refine lv_iload_n hx hb dX0_toggleWriting_4 rfl (lv_at hl 1 rfl) ?_
  refine lv_iconst (v := 1) hx hb dX0_toggleWriting_5 (by decide) ?_
  refine lv_aload_n hx hb dX0_toggleWriting_6 rfl (lv_at hl 0 rfl) ?_
  refine fgX0_29 X hP (q0 := 0) rfl rfl dX0_toggleWriting_7 ?_
  refine lv_iload_n hx hb dX0_toggleWriting_10 rfl (lv_at hl 1 rfl) ?_
  obtain ⟨r11, hq11, hf⟩ := bS hf
  refine ro_i X hP hD hS [1, 2] rfl (run_N X hP hD hS [1, 2] rfl rfl (c_X3_get l D cI aS (fun k => ad (9 + k)) 7 writing_size writing x1 _ hq11 _) lkX0_60 (by decide) (q0 := 1) rfl rfl rfl rfl (Nat.le_of_ble_eq_true rfl) hl.1 dX0_toggleWriting_11) (fun H locs hP hS => ?_)
  refine lv_isub hx hb dX0_toggleWriting_14 ?_
  obtain ⟨r15, hq15, hf⟩ := bS hf
  refine wr_v X hP hD hS [1, 2] rfl (ws' := (wd_X0_toggleWriting cI ad size year writing_size r15 order_size order enders_size enders)) (Nat.le_of_ble_eq_true rfl) rfl rfl (run_N X hP hD hS [1, 2] rfl rfl (c_X3_set l D cI aS (fun k => ad (9 + k)) 7 writing_size writing x1 ((1 : Int32) - r11) _ hq15 _) lkX0_49 (by decide) (q0 := 1) rfl rfl rfl rfl (Nat.le_of_ble_eq_true rfl) hl.1 dX0_toggleWriting_15) (fun H locs hP hD hS => ?_)
  refine lv_aload_n hx hb dX0_toggleWriting_18 rfl (lv_at hl 0 rfl) ?_
  obtain ⟨r19, hq19, hf⟩ := bS hf
  refine wr_v X hP hD hS [0, 1, 2, 3, 4, 5, 6] rfl (ws' := (wd_X0_toggleWriting cI ad size year writing_size r15 order_size order enders_size r19)) (Nat.le_of_ble_eq_true rfl) rfl rfl (run_V X hP hD hS [0, 1, 2, 3, 4, 5, 6] rfl rfl (c_X0_tellEnders l D cI aS ad size year writing_size r15 order_size order enders_size enders _ hq19 _) lkX0_53 (by decide) (q0 := 0) rfl rfl rfl rfl (Nat.le_of_ble_eq_true rfl) hl.1 dX0_toggleWriting_19) (fun H locs hP hD hS => ?_)
  have hR := Option.some.inj hf
  subst hR
  exact hret _ _ _ _ hP hD hS dX0_toggleWriting_22

abbrev wd_X0_writingBits (cI : ClassId) (ad : Nat → Nat) (size : Int32) (year : Int32) (writing_size : Int32) (writing : (Nat → Int32)) : va_W := [((ad 0), .inr (0, [.ref (ad 1), .ref (ad 3), .ref (ad 5), .ref (ad 7), .ref (ad 9), .ref (ad 11), .ref (ad 13), .int size, .int year])), ((ad 9), .inr (3, [.ref (ad 10), .int writing_size])), ((ad 10), .inl (cI, 7, .inl writing))]
def f_X0_writingBits_4 (size : Int32) (writing : (Nat → Int32))  : Nat → Int32 → Int32 → Option (Int32)
  | 0 => fun _ _ => none
  | fuel + 1 => fun v1_4 v2_4 => (if size ≤ v2_4 then (some v1_4) else ((f_X3_get 7 writing v2_4).bind fun (r18 : Int32) => (f_X0_writingBits_4 size writing  fuel (v1_4 ||| (shlI r18 v2_4)) (v2_4 + (1 : Int32)))))
theorem e_X0_writingBits_4 (size : Int32) (writing : (Nat → Int32))  (fuel : Nat) (v1_4 : Int32) (v2_4 : Int32) : f_X0_writingBits_4 size writing  (fuel + 1) v1_4 v2_4 = (if size ≤ v2_4 then (some v1_4) else ((f_X3_get 7 writing v2_4).bind fun (r18 : Int32) => (f_X0_writingBits_4 size writing  fuel (v1_4 ||| (shlI r18 v2_4)) (v2_4 + (1 : Int32))))) := rfl
def f_X0_writingBits (size : Int32) (writing : (Nat → Int32)) : Option (Int32) := (f_X0_writingBits_4 size writing  FU (0 : Int32) (0 : Int32))
set_option maxHeartbeats 4000000 in
set_option maxRecDepth 100000 in
theorem w_X0_writingBits_4 {p : Program} {l : Launch} {e : Env} {s : State} {m : MethodId} {args : Array Value} {below : List Frame} {meth : Method} {c : Code} {D : va_G} {cI : ClassId} {aS : aSt} {A : Nat → Prop} {Q : State → Prop}  (ad : Nat → Nat) (size : Int32) (year : Int32) (writing_size : Int32) (writing : (Nat → Int32)) {R : Int32} (X : Bx p s m args meth c cX0_writingBits 3 (some .int) RX0 D cI aS A) (hret : RtI p l e 1 s m args below meth c cX0_writingBits (some .int) D A (wd_X0_writingBits cI ad size year writing_size writing) R Q) : ∀ (fuel : Nat) (v1_4 : Int32) (v2_4 : Int32) (H : Heap) (locs : List Loc) (ls : Array Slot), f_X0_writingBits_4 size writing  fuel v1_4 v2_4 = some R → lv_has ls 3 [(0, .ref (ad 0)), (1, .int v1_4), (2, .int v2_4)] → va_P D vwCl (wd_X0_writingBits cI ad size year writing_size writing) H → va_D A (wd_X0_writingBits cI ad size year writing_size writing) → va_S A s.heap H locs → Wh p l e 1 s m args below meth c H locs Q (F0 m 4 ls []) := by
  have hx := X.1
  have hb := X.2.1
  intro fuel
  induction fuel with
  | zero =>
    intro v1_4 v2_4 H locs ls hf hl hP hD hS
    cases hf
  | succ fuel ih =>
    intro v1_4 v2_4 H locs ls hf hl hP hD hS
    replace hf : (if size ≤ v2_4 then (some v1_4) else ((f_X3_get 7 writing v2_4).bind fun (r18 : Int32) => (f_X0_writingBits_4 size writing  fuel (v1_4 ||| (shlI r18 v2_4)) (v2_4 + (1 : Int32))))) = some R := hf
    refine lv_iload_n hx hb dX0_writingBits_4 rfl (lv_at hl 2 rfl) ?_
    refine lv_aload_n hx hb dX0_writingBits_5 rfl (lv_at hl 0 rfl) ?_
    refine fgX0_38 X hP (q0 := 0) rfl rfl dX0_writingBits_6 ?_
    refine lv_icmp_ge (tgt := 31) hx hb dX0_writingBits_9 (by decide) (fun c9 => ?_) (fun c9 => ?_)
    · have hf := iT c9 hf
      refine lv_iload_n hx hb dX0_writingBits_31 rfl (lv_at hl 1 rfl) ?_
      have hR := Option.some.inj hf
      subst hR
      exact hret _ _ _ _ _ rfl (fun _ hn => by cases hn; rfl) hP hD hS dX0_writingBits_32
    · have hf := iF c9 hf
      refine lv_iload_n hx hb dX0_writingBits_12 rfl (lv_at hl 1 rfl) ?_
      refine lv_aload_n hx hb dX0_writingBits_13 rfl (lv_at hl 0 rfl) ?_
      refine fgX0_29 X hP (q0 := 0) rfl rfl dX0_writingBits_14 ?_
      refine lv_iload_n hx hb dX0_writingBits_17 rfl (lv_at hl 2 rfl) ?_
      obtain ⟨r18, hq18, hf⟩ := bS hf
      refine ro_i X hP hD hS [1, 2] rfl (run_N X hP hD hS [1, 2] rfl rfl (c_X3_get l D cI aS (fun k => ad (9 + k)) 7 writing_size writing v2_4 _ hq18 _) lkX0_60 (by decide) (q0 := 1) rfl rfl rfl rfl (Nat.le_of_ble_eq_true rfl) hl.1 dX0_writingBits_18) (fun H locs hP hS => ?_)
      refine lv_iload_n hx hb dX0_writingBits_21 rfl (lv_at hl 2 rfl) ?_
      refine x_ishl hx hb dX0_writingBits_22 ?_
      refine lv_ior hx hb dX0_writingBits_23 ?_
      refine lv_istore_n (lv' := [(1, .int (v1_4 ||| (shlI r18 v2_4))), (0, .ref (ad 0)), (2, .int v2_4)]) hx hb dX0_writingBits_24 rfl hl (by decide) rfl (fun ls hl => ?_)
      refine lv_iinc (v := (v2_4 + (1 : Int32))) (lv' := [(2, .int (v2_4 + (1 : Int32))), (1, .int (v1_4 ||| (shlI r18 v2_4))), (0, .ref (ad 0))]) hx hb dX0_writingBits_25 hl (k := 2) rfl rfl (by decide) rfl (fun ls hl => ?_)
      refine lv_goto (tgt := 4) hx hb dX0_writingBits_28 (by decide) ?_
      exact ih (v1_4 ||| (shlI r18 v2_4)) (v2_4 + (1 : Int32)) _ _ _ hf (lv_sub hl [2, 1, 0] rfl) hP hD hS
set_option maxHeartbeats 4000000 in
set_option maxRecDepth 100000 in
theorem c_X0_writingBits (l : Launch) (D : va_G) (cI : ClassId) (aS : aSt) (ad : Nat → Nat) (size : Int32) (year : Int32) (writing_size : Int32) (writing : (Nat → Int32)) (R : Int32) (hf : f_X0_writingBits size writing = some R) : CtI l yX0_writingBits cX0_writingBits 3 (some .int) 1 D cI aS [.ref (ad 0)] (wd_X0_writingBits cI ad size year writing_size writing) (wd_X0_writingBits cI ad size year writing_size writing) R := by
  refine ctI_of (by decide) ⟨_, rfl⟩ (Nat.le_of_ble_eq_true rfl) ?_
  intro p e s m below meth c A Q ls X hret hP hD hl
  have hS : va_S A s.heap s.heap [] := va_S.rf
  have hx := X.1
  have hb := X.2.1
  have hl : lv_has ls 3 [(0, .ref (ad 0))] := hl
  replace hf : (f_X0_writingBits_4 size writing  FU (0 : Int32) (0 : Int32)) = some R := hf
  refine lv_iconst (v := 0) hx hb dX0_writingBits_0 (by decide) ?_
  refine lv_istore_n (lv' := [(1, .int (0 : Int32)), (0, .ref (ad 0))]) hx hb dX0_writingBits_1 rfl hl (by decide) rfl (fun ls hl => ?_)
  refine lv_iconst (v := 0) hx hb dX0_writingBits_2 (by decide) ?_
  refine lv_istore_n (lv' := [(2, .int (0 : Int32)), (1, .int (0 : Int32)), (0, .ref (ad 0))]) hx hb dX0_writingBits_3 rfl hl (by decide) rfl (fun ls hl => ?_)
  exact w_X0_writingBits_4 ad size year writing_size writing X hret  _ (0 : Int32) (0 : Int32) _ _ _ hf (lv_sub hl [2, 1, 0] rfl) hP hD hS
