abbrev wd_X4_bestRead (cI : ClassId) (ad : Nat → Nat) (isKept : Int32) (now_size : Int32) (now_year : Int32) (now_kinds_size : Int32) (now_kinds : (Nat → Int32)) (now_figures_size : Int32) (now_figures : (Nat → Int32)) (now_styles_size : Int32) (now_styles : (Nat → Int32)) (now_writing_size : Int32) (now_writing : (Nat → Int32)) (now_enders_size : Int32) (now_enders : (Nat → Int32)) : va_W := [((ad 0), .inr (4, [.ref (ad 1), .ref (ad 16), .ref (ad 31), .int isKept, .ref (ad 46), .ref (ad 49), .ref (ad 51), .ref (ad 53), .ref (ad 55), .ref (ad 57)])), ((ad 1), .inr (0, [.ref (ad 2), .ref (ad 4), .ref (ad 6), .ref (ad 8), .ref (ad 10), .ref (ad 12), .ref (ad 14), .int now_size, .int now_year])), ((ad 2), .inr (3, [.ref (ad 3), .int now_kinds_size])), ((ad 3), .inl (cI, 7, .inl now_kinds)), ((ad 4), .inr (3, [.ref (ad 5), .int now_figures_size])), ((ad 5), .inl (cI, 7, .inl now_figures)), ((ad 6), .inr (3, [.ref (ad 7), .int now_styles_size])), ((ad 7), .inl (cI, 7, .inl now_styles)), ((ad 10), .inr (3, [.ref (ad 11), .int now_writing_size])), ((ad 11), .inl (cI, 7, .inl now_writing)), ((ad 14), .inr (3, [.ref (ad 15), .int now_enders_size])), ((ad 15), .inl (cI, 7, .inl now_enders))]
def f_X4_bestRead_54  (kL5 : Int32 → Int32 → Option (Int32)) (v1_54 : Int32) (v2_54 : Int32) : Option (Int32) := (kL5 v1_54 (v2_54 + (1 : Int32)))
def f_X4_bestRead_52  (kL5 : Int32 → Int32 → Option (Int32)) (v2_52 : Int32) : Option (Int32) := (f_X4_bestRead_54  kL5 v2_52 v2_52)
def f_X4_bestRead_5 (now_size : Int32) (now_year : Int32) (now_kinds : (Nat → Int32)) (now_figures : (Nat → Int32)) (now_styles : (Nat → Int32)) (now_writing : (Nat → Int32)) (now_enders : (Nat → Int32))  : Nat → Int32 → Int32 → Option (Int32)
  | 0 => fun _ _ => none
  | fuel + 1 => fun v1_5 v2_5 => (if now_size ≤ v2_5 then (some v1_5) else ((f_X0_isEnded now_writing now_enders v2_5).bind fun (r21 : Int32) => (if r21 = 0 then (f_X4_bestRead_54  (f_X4_bestRead_5 now_size now_year now_kinds now_figures now_styles now_writing now_enders  fuel) v1_5 v2_5) else (if v1_5 = (-9 : Int32) then (f_X4_bestRead_52  (f_X4_bestRead_5 now_size now_year now_kinds now_figures now_styles now_writing now_enders  fuel) v2_5) else ((f_X0_worthOf now_year now_kinds now_figures now_styles now_writing now_enders v2_5).bind fun (r38 : Int32) => ((f_X0_worthOf now_year now_kinds now_figures now_styles now_writing now_enders v1_5).bind fun (r46 : Int32) => (if r38 ≤ r46 then (f_X4_bestRead_54  (f_X4_bestRead_5 now_size now_year now_kinds now_figures now_styles now_writing now_enders  fuel) v1_5 v2_5) else (f_X4_bestRead_52  (f_X4_bestRead_5 now_size now_year now_kinds now_figures now_styles now_writing now_enders  fuel) v2_5))))))))
theorem e_X4_bestRead_5 (now_size : Int32) (now_year : Int32) (now_kinds : (Nat → Int32)) (now_figures : (Nat → Int32)) (now_styles : (Nat → Int32)) (now_writing : (Nat → Int32)) (now_enders : (Nat → Int32))  (fuel : Nat) (v1_5 : Int32) (v2_5 : Int32) : f_X4_bestRead_5 now_size now_year now_kinds now_figures now_styles now_writing now_enders  (fuel + 1) v1_5 v2_5 = (if now_size ≤ v2_5 then (some v1_5) else ((f_X0_isEnded now_writing now_enders v2_5).bind fun (r21 : Int32) => (if r21 = 0 then (f_X4_bestRead_54  (f_X4_bestRead_5 now_size now_year now_kinds now_figures now_styles now_writing now_enders  fuel) v1_5 v2_5) else (if v1_5 = (-9 : Int32) then (f_X4_bestRead_52  (f_X4_bestRead_5 now_size now_year now_kinds now_figures now_styles now_writing now_enders  fuel) v2_5) else ((f_X0_worthOf now_year now_kinds now_figures now_styles now_writing now_enders v2_5).bind fun (r38 : Int32) => ((f_X0_worthOf now_year now_kinds now_figures now_styles now_writing now_enders v1_5).bind fun (r46 : Int32) => (if r38 ≤ r46 then (f_X4_bestRead_54  (f_X4_bestRead_5 now_size now_year now_kinds now_figures now_styles now_writing now_enders  fuel) v1_5 v2_5) else (f_X4_bestRead_52  (f_X4_bestRead_5 now_size now_year now_kinds now_figures now_styles now_writing now_enders  fuel) v2_5)))))))) := rfl
def f_X4_bestRead (now_size : Int32) (now_year : Int32) (now_kinds : (Nat → Int32)) (now_figures : (Nat → Int32)) (now_styles : (Nat → Int32)) (now_writing : (Nat → Int32)) (now_enders : (Nat → Int32)) : Option (Int32) := (f_X4_bestRead_5 now_size now_year now_kinds now_figures now_styles now_writing now_enders  FU (-9 : Int32) (0 : Int32))
set_option maxHeartbeats 4000000 in
set_option maxRecDepth 100000 in
theorem w_X4_bestRead_54 {p : Program} {l : Launch} {e : Env} {s : State} {m : MethodId} {args : Array Value} {below : List Frame} {meth : Method} {c : Code} {D : va_G} {cI : ClassId} {aS : aSt} {A : Nat → Prop} {Q : State → Prop}  (ad : Nat → Nat) (isKept : Int32) (now_size : Int32) (now_year : Int32) (now_kinds_size : Int32) (now_kinds : (Nat → Int32)) (now_figures_size : Int32) (now_figures : (Nat → Int32)) (now_styles_size : Int32) (now_styles : (Nat → Int32)) (now_writing_size : Int32) (now_writing : (Nat → Int32)) (now_enders_size : Int32) (now_enders : (Nat → Int32)) {R : Int32} (X : Bx p s m args meth c cX4_bestRead 3 (some .int) RX4 D cI aS A) (hret : RtI p l e 4 s m args below meth c cX4_bestRead (some .int) D A (wd_X4_bestRead cI ad isKept now_size now_year now_kinds_size now_kinds now_figures_size now_figures now_styles_size now_styles now_writing_size now_writing now_enders_size now_enders) R Q) (kL5 : Int32 → Int32 → Option (Int32)) (hkL5 : ∀ (v1_5 : Int32) (v2_5 : Int32) (H : Heap) (locs : List Loc) (ls : Array Slot), kL5 v1_5 v2_5 = some R → lv_has ls 3 [(0, .ref (ad 0)), (1, .int v1_5), (2, .int v2_5)] → va_P D vwCl (wd_X4_bestRead cI ad isKept now_size now_year now_kinds_size now_kinds now_figures_size now_figures now_styles_size now_styles now_writing_size now_writing now_enders_size now_enders) H → va_D A (wd_X4_bestRead cI ad isKept now_size now_year now_kinds_size now_kinds now_figures_size now_figures now_styles_size now_styles now_writing_size now_writing now_enders_size now_enders) → va_S A s.heap H locs → Wh p l e 4 s m args below meth c H locs Q (F0 m 5 ls [])) : ∀ (v1_54 : Int32) (v2_54 : Int32) (H : Heap) (locs : List Loc) (ls : Array Slot), f_X4_bestRead_54  kL5 v1_54 v2_54 = some R → lv_has ls 3 [(0, .ref (ad 0)), (1, .int v1_54), (2, .int v2_54)] → va_P D vwCl (wd_X4_bestRead cI ad isKept now_size now_year now_kinds_size now_kinds now_figures_size now_figures now_styles_size now_styles now_writing_size now_writing now_enders_size now_enders) H → va_D A (wd_X4_bestRead cI ad isKept now_size now_year now_kinds_size now_kinds now_figures_size now_figures now_styles_size now_styles now_writing_size now_writing now_enders_size now_enders) → va_S A s.heap H locs → Wh p l e 4 s m args below meth c H locs Q (F0 m 54 ls []) := by
  have hx := X.1
  have hb := X.2.1
  intro v1_54 v2_54 H locs ls hf hl hP hD hS
  replace hf : (kL5 v1_54 (v2_54 + (1 : Int32))) = some R := hf
  refine lv_iinc (v := (v2_54 + (1 : Int32))) (lv' := [(2, .int (v2_54 + (1 : Int32))), (0, .ref (ad 0)), (1, .int v1_54)]) hx hb dX4_bestRead_54 hl (k := 2) rfl rfl (by decide) rfl (fun ls hl => ?_)
  refine lv_goto (tgt := 5) hx hb dX4_bestRead_57 (by decide) ?_
  exact hkL5 v1_54 (v2_54 + (1 : Int32)) _ _ _ hf (lv_sub hl [1, 2, 0] rfl) hP hD hS
set_option maxHeartbeats 4000000 in
set_option maxRecDepth 100000 in
theorem w_X4_bestRead_52 {p : Program} {l : Launch} {e : Env} {s : State} {m : MethodId} {args : Array Value} {below : List Frame} {meth : Method} {c : Code} {D : va_G} {cI : ClassId} {aS : aSt} {A : Nat → Prop} {Q : State → Prop}  (ad : Nat → Nat) (isKept : Int32) (now_size : Int32) (now_year : Int32) (now_kinds_size : Int32) (now_kinds : (Nat → Int32)) (now_figures_size : Int32) (now_figures : (Nat → Int32)) (now_styles_size : Int32) (now_styles : (Nat → Int32)) (now_writing_size : Int32) (now_writing : (Nat → Int32)) (now_enders_size : Int32) (now_enders : (Nat → Int32)) {R : Int32} (X : Bx p s m args meth c cX4_bestRead 3 (some .int) RX4 D cI aS A) (hret : RtI p l e 4 s m args below meth c cX4_bestRead (some .int) D A (wd_X4_bestRead cI ad isKept now_size now_year now_kinds_size now_kinds now_figures_size now_figures now_styles_size now_styles now_writing_size now_writing now_enders_size now_enders) R Q) (kL5 : Int32 → Int32 → Option (Int32)) (hkL5 : ∀ (v1_5 : Int32) (v2_5 : Int32) (H : Heap) (locs : List Loc) (ls : Array Slot), kL5 v1_5 v2_5 = some R → lv_has ls 3 [(0, .ref (ad 0)), (1, .int v1_5), (2, .int v2_5)] → va_P D vwCl (wd_X4_bestRead cI ad isKept now_size now_year now_kinds_size now_kinds now_figures_size now_figures now_styles_size now_styles now_writing_size now_writing now_enders_size now_enders) H → va_D A (wd_X4_bestRead cI ad isKept now_size now_year now_kinds_size now_kinds now_figures_size now_figures now_styles_size now_styles now_writing_size now_writing now_enders_size now_enders) → va_S A s.heap H locs → Wh p l e 4 s m args below meth c H locs Q (F0 m 5 ls [])) : ∀ (v2_52 : Int32) (H : Heap) (locs : List Loc) (ls : Array Slot), f_X4_bestRead_52  kL5 v2_52 = some R → lv_has ls 3 [(0, .ref (ad 0)), (2, .int v2_52)] → va_P D vwCl (wd_X4_bestRead cI ad isKept now_size now_year now_kinds_size now_kinds now_figures_size now_figures now_styles_size now_styles now_writing_size now_writing now_enders_size now_enders) H → va_D A (wd_X4_bestRead cI ad isKept now_size now_year now_kinds_size now_kinds now_figures_size now_figures now_styles_size now_styles now_writing_size now_writing now_enders_size now_enders) → va_S A s.heap H locs → Wh p l e 4 s m args below meth c H locs Q (F0 m 52 ls []) := by
  have hx := X.1
  have hb := X.2.1
  intro v2_52 H locs ls hf hl hP hD hS
  replace hf : (f_X4_bestRead_54  kL5 v2_52 v2_52) = some R := hf
  refine lv_iload_n hx hb dX4_bestRead_52 rfl (lv_at hl 1 rfl) ?_
  refine lv_istore_n (lv' := [(1, .int v2_52), (0, .ref (ad 0)), (2, .int v2_52)]) hx hb dX4_bestRead_53 rfl hl (by decide) rfl (fun ls hl => ?_)
  exact w_X4_bestRead_54 ad isKept now_size now_year now_kinds_size now_kinds now_figures_size now_figures now_styles_size now_styles now_writing_size now_writing now_enders_size now_enders X hret _ hkL5 v2_52 v2_52 _ _ _ hf (lv_sub hl [1, 0, 2] rfl) hP hD hS
set_option maxHeartbeats 4000000 in
set_option maxRecDepth 100000 in
theorem w_X4_bestRead_5 {p : Program} {l : Launch} {e : Env} {s : State} {m : MethodId} {args : Array Value} {below : List Frame} {meth : Method} {c : Code} {D : va_G} {cI : ClassId} {aS : aSt} {A : Nat → Prop} {Q : State → Prop}  (ad : Nat → Nat) (isKept : Int32) (now_size : Int32) (now_year : Int32) (now_kinds_size : Int32) (now_kinds : (Nat → Int32)) (now_figures_size : Int32) (now_figures : (Nat → Int32)) (now_styles_size : Int32) (now_styles : (Nat → Int32)) (now_writing_size : Int32) (now_writing : (Nat → Int32)) (now_enders_size : Int32) (now_enders : (Nat → Int32)) {R : Int32} (X : Bx p s m args meth c cX4_bestRead 3 (some .int) RX4 D cI aS A) (hret : RtI p l e 4 s m args below meth c cX4_bestRead (some .int) D A (wd_X4_bestRead cI ad isKept now_size now_year now_kinds_size now_kinds now_figures_size now_figures now_styles_size now_styles now_writing_size now_writing now_enders_size now_enders) R Q) : ∀ (fuel : Nat) (v1_5 : Int32) (v2_5 : Int32) (H : Heap) (locs : List Loc) (ls : Array Slot), f_X4_bestRead_5 now_size now_year now_kinds now_figures now_styles now_writing now_enders  fuel v1_5 v2_5 = some R → lv_has ls 3 [(0, .ref (ad 0)), (1, .int v1_5), (2, .int v2_5)] → va_P D vwCl (wd_X4_bestRead cI ad isKept now_size now_year now_kinds_size now_kinds now_figures_size now_figures now_styles_size now_styles now_writing_size now_writing now_enders_size now_enders) H → va_D A (wd_X4_bestRead cI ad isKept now_size now_year now_kinds_size now_kinds now_figures_size now_figures now_styles_size now_styles now_writing_size now_writing now_enders_size now_enders) → va_S A s.heap H locs → Wh p l e 4 s m args below meth c H locs Q (F0 m 5 ls []) := by
  have hx := X.1
  have hb := X.2.1
  intro fuel
  induction fuel with
  | zero =>
    intro v1_5 v2_5 H locs ls hf hl hP hD hS
    cases hf
  | succ fuel ih =>
    intro v1_5 v2_5 H locs ls hf hl hP hD hS
    replace hf : (if now_size ≤ v2_5 then (some v1_5) else ((f_X0_isEnded now_writing now_enders v2_5).bind fun (r21 : Int32) => (if r21 = 0 then (f_X4_bestRead_54  (f_X4_bestRead_5 now_size now_year now_kinds now_figures now_styles now_writing now_enders  fuel) v1_5 v2_5) else (if v1_5 = (-9 : Int32) then (f_X4_bestRead_52  (f_X4_bestRead_5 now_size now_year now_kinds now_figures now_styles now_writing now_enders  fuel) v2_5) else ((f_X0_worthOf now_year now_kinds now_figures now_styles now_writing now_enders v2_5).bind fun (r38 : Int32) => ((f_X0_worthOf now_year now_kinds now_figures now_styles now_writing now_enders v1_5).bind fun (r46 : Int32) => (if r38 ≤ r46 then (f_X4_bestRead_54  (f_X4_bestRead_5 now_size now_year now_kinds now_figures now_styles now_writing now_enders  fuel) v1_5 v2_5) else (f_X4_bestRead_52  (f_X4_bestRead_5 now_size now_year now_kinds now_figures now_styles now_writing now_enders  fuel) v2_5)))))))) = some R := hf
    refine lv_iload_n hx hb dX4_bestRead_5 rfl (lv_at hl 2 rfl) ?_
    refine lv_aload_n hx hb dX4_bestRead_6 rfl (lv_at hl 0 rfl) ?_
    refine fgX4_10 X hP (q0 := 0) rfl rfl dX4_bestRead_7 ?_
    refine fgX4_108 X hP (q0 := 1) rfl rfl dX4_bestRead_10 ?_
    refine lv_icmp_ge (tgt := 60) hx hb dX4_bestRead_13 (by decide) (fun c13 => ?_) (fun c13 => ?_)
    · have hf := iT c13 hf
      refine lv_iload_n hx hb dX4_bestRead_60 rfl (lv_at hl 1 rfl) ?_
      have hR := Option.some.inj hf
      subst hR
      exact hret _ _ _ _ _ rfl (fun _ hn => by cases hn; rfl) hP hD hS dX4_bestRead_61
    · have hf := iF c13 hf
      refine lv_aload_n hx hb dX4_bestRead_16 rfl (lv_at hl 0 rfl) ?_
      refine fgX4_10 X hP (q0 := 0) rfl rfl dX4_bestRead_17 ?_
      refine lv_iload_n hx hb dX4_bestRead_20 rfl (lv_at hl 2 rfl) ?_
      obtain ⟨r21, hq21, hf⟩ := bS hf
      refine ro_i X hP hD hS [1, 8, 9, 10, 11] rfl (run_N X hP hD hS [1, 8, 9, 10, 11] rfl rfl (c_X0_isEnded l D cI aS (fun k => ad (1 + k)) now_size now_year now_writing_size now_writing now_enders_size now_enders v2_5 _ hq21 _) lkX4_207 (by decide) (q0 := 1) rfl rfl rfl rfl (Nat.le_of_ble_eq_true rfl) hl.1 dX4_bestRead_21) (fun H locs hP hS => ?_)
      refine lv_if_eq (tgt := 54) hx hb dX4_bestRead_24 (by decide) (fun c24 => ?_) (fun c24 => ?_)
      · have hf := iT c24 hf
        exact w_X4_bestRead_54 ad isKept now_size now_year now_kinds_size now_kinds now_figures_size now_figures now_styles_size now_styles now_writing_size now_writing now_enders_size now_enders X hret _ ih v1_5 v2_5 _ _ _ hf (lv_sub hl [0, 1, 2] rfl) hP hD hS
      · have hf := iF c24 hf
        refine lv_iload_n hx hb dX4_bestRead_27 rfl (lv_at hl 1 rfl) ?_
        refine lv_bipush (v := -9) hx hb dX4_bestRead_28 (by decide) ?_
        refine lv_icmp_eq (tgt := 52) hx hb dX4_bestRead_30 (by decide) (fun c30 => ?_) (fun c30 => ?_)
        · have hf := iT c30 hf
          exact w_X4_bestRead_52 ad isKept now_size now_year now_kinds_size now_kinds now_figures_size now_figures now_styles_size now_styles now_writing_size now_writing now_enders_size now_enders X hret _ ih v2_5 _ _ _ hf (lv_sub hl [0, 2] rfl) hP hD hS
        · have hf := iF c30 hf
          refine lv_aload_n hx hb dX4_bestRead_33 rfl (lv_at hl 0 rfl) ?_
          refine fgX4_10 X hP (q0 := 0) rfl rfl dX4_bestRead_34 ?_
          refine lv_iload_n hx hb dX4_bestRead_37 rfl (lv_at hl 2 rfl) ?_
          obtain ⟨r38, hq38, hf⟩ := bS hf
          refine ro_i X hP hD hS [1, 2, 3, 4, 5, 6, 7, 8, 9, 10, 11] rfl (run_N X hP hD hS [1, 2, 3, 4, 5, 6, 7, 8, 9, 10, 11] rfl rfl (c_X0_worthOf l D cI aS (fun k => ad (1 + k)) now_size now_year now_kinds_size now_kinds now_figures_size now_figures now_styles_size now_styles now_writing_size now_writing now_enders_size now_enders v2_5 _ hq38 _) lkX4_176 (by decide) (q0 := 1) rfl rfl rfl rfl (Nat.le_of_ble_eq_true rfl) hl.1 dX4_bestRead_38) (fun H locs hP hS => ?_)
          refine lv_aload_n hx hb dX4_bestRead_41 rfl (lv_at hl 0 rfl) ?_
          refine fgX4_10 X hP (q0 := 0) rfl rfl dX4_bestRead_42 ?_
          refine lv_iload_n hx hb dX4_bestRead_45 rfl (lv_at hl 1 rfl) ?_
          obtain ⟨r46, hq46, hf⟩ := bS hf
          refine ro_i X hP hD hS [1, 2, 3, 4, 5, 6, 7, 8, 9, 10, 11] rfl (run_N X hP hD hS [1, 2, 3, 4, 5, 6, 7, 8, 9, 10, 11] rfl rfl (c_X0_worthOf l D cI aS (fun k => ad (1 + k)) now_size now_year now_kinds_size now_kinds now_figures_size now_figures now_styles_size now_styles now_writing_size now_writing now_enders_size now_enders v1_5 _ hq46 _) lkX4_176 (by decide) (q0 := 1) rfl rfl rfl rfl (Nat.le_of_ble_eq_true rfl) hl.1 dX4_bestRead_46) (fun H locs hP hS => ?_)
          refine lv_icmp_le (tgt := 54) hx hb dX4_bestRead_49 (by decide) (fun c49 => ?_) (fun c49 => ?_)
          · have hf := iT c49 hf
            exact w_X4_bestRead_54 ad isKept now_size now_year now_kinds_size now_kinds now_figures_size now_figures now_styles_size now_styles now_writing_size now_writing now_enders_size now_enders X hret _ ih v1_5 v2_5 _ _ _ hf (lv_sub hl [0, 1, 2] rfl) hP hD hS
          · have hf := iF c49 hf
            exact w_X4_bestRead_52 ad isKept now_size now_year now_kinds_size now_kinds now_figures_size now_figures now_styles_size now_styles now_writing_size now_writing now_enders_size now_enders X hret _ ih v2_5 _ _ _ hf (lv_sub hl [0, 2] rfl) hP hD hS
set_option maxHeartbeats 4000000 in
set_option maxRecDepth 100000 in
theorem c_X4_bestRead (l : Launch) (D : va_G) (cI : ClassId) (aS : aSt) (ad : Nat → Nat) (isKept : Int32) (now_size : Int32) (now_year : Int32) (now_kinds_size : Int32) (now_kinds : (Nat → Int32)) (now_figures_size : Int32) (now_figures : (Nat → Int32)) (now_styles_size : Int32) (now_styles : (Nat → Int32)) (now_writing_size : Int32) (now_writing : (Nat → Int32)) (now_enders_size : Int32) (now_enders : (Nat → Int32)) (R : Int32) (hf : f_X4_bestRead now_size now_year now_kinds now_figures now_styles now_writing now_enders = some R) : CtI l yX4_bestRead cX4_bestRead 3 (some .int) 4 D cI aS [.ref (ad 0)] (wd_X4_bestRead cI ad isKept now_size now_year now_kinds_size now_kinds now_figures_size now_figures now_styles_size now_styles now_writing_size now_writing now_enders_size now_enders) (wd_X4_bestRead cI ad isKept now_size now_year now_kinds_size now_kinds now_figures_size now_figures now_styles_size now_styles now_writing_size now_writing now_enders_size now_enders) R := by
  refine ctI_of (by decide) ⟨_, rfl⟩ (Nat.le_of_ble_eq_true rfl) ?_
  intro p e s m below meth c A Q ls X hret hP hD hl
  have hS : va_S A s.heap s.heap [] := va_S.rf
  have hx := X.1
  have hb := X.2.1
  have hl : lv_has ls 3 [(0, .ref (ad 0))] := hl
  replace hf : (f_X4_bestRead_5 now_size now_year now_kinds now_figures now_styles now_writing now_enders  FU (-9 : Int32) (0 : Int32)) = some R := hf
  refine lv_bipush (v := -9) hx hb dX4_bestRead_0 (by decide) ?_
  refine lv_istore_n (lv' := [(1, .int (-9 : Int32)), (0, .ref (ad 0))]) hx hb dX4_bestRead_2 rfl hl (by decide) rfl (fun ls hl => ?_)
  refine lv_iconst (v := 0) hx hb dX4_bestRead_3 (by decide) ?_
  refine lv_istore_n (lv' := [(2, .int (0 : Int32)), (1, .int (-9 : Int32)), (0, .ref (ad 0))]) hx hb dX4_bestRead_4 rfl hl (by decide) rfl (fun ls hl => ?_)
  exact w_X4_bestRead_5 ad isKept now_size now_year now_kinds_size now_kinds now_figures_size now_figures now_styles_size now_styles now_writing_size now_writing now_enders_size now_enders X hret  _ (-9 : Int32) (0 : Int32) _ _ _ hf (lv_sub hl [2, 1, 0] rfl) hP hD hS

abbrev wd_X4_chain (cI : ClassId) (ad : Nat → Nat) (isKept : Int32) (now_size : Int32) (now_year : Int32) (now_writing_size : Int32) (now_writing : (Nat → Int32)) (now_enders_size : Int32) (now_enders : (Nat → Int32)) (refusals_size : Int32) (refusals : (Nat → Int32)) : va_W := [((ad 0), .inr (4, [.ref (ad 1), .ref (ad 16), .ref (ad 31), .int isKept, .ref (ad 46), .ref (ad 49), .ref (ad 51), .ref (ad 53), .ref (ad 55), .ref (ad 57)])), ((ad 1), .inr (0, [.ref (ad 2), .ref (ad 4), .ref (ad 6), .ref (ad 8), .ref (ad 10), .ref (ad 12), .ref (ad 14), .int now_size, .int now_year])), ((ad 10), .inr (3, [.ref (ad 11), .int now_writing_size])), ((ad 11), .inl (cI, 7, .inl now_writing)), ((ad 14), .inr (3, [.ref (ad 15), .int now_enders_size])), ((ad 15), .inl (cI, 7, .inl now_enders)), ((ad 51), .inr (3, [.ref (ad 52), .int refusals_size])), ((ad 52), .inl (cI, 7, .inl refusals))]
def f_X4_chain_37 (now_enders : (Nat → Int32)) (kX37_80 : Int32 → Option (Int32 × (Nat → Int32))) : Nat → Int32 → Int32 → Int32 → Option (Int32 × (Nat → Int32))
  | 0 => fun _ _ _ => none
  | fuel + 1 => fun v2_37 v3_37 v4_37 => (if (7 : Int32) ≤ v4_37 then (kX37_80 v2_37) else (if v3_37 < 0 then (kX37_80 v2_37) else (if ((shrI v2_37 v3_37) &&& (1 : Int32)) = 0 then ((f_X3_get 7 now_enders v3_37).bind fun (r70 : Int32) => (f_X4_chain_37 now_enders kX37_80 fuel (v2_37 ||| (shlI (1 : Int32) v3_37)) r70 (v4_37 + (1 : Int32)))) else (kX37_80 v2_37))))
theorem e_X4_chain_37 (now_enders : (Nat → Int32)) (kX37_80 : Int32 → Option (Int32 × (Nat → Int32))) (fuel : Nat) (v2_37 : Int32) (v3_37 : Int32) (v4_37 : Int32) : f_X4_chain_37 now_enders kX37_80 (fuel + 1) v2_37 v3_37 v4_37 = (if (7 : Int32) ≤ v4_37 then (kX37_80 v2_37) else (if v3_37 < 0 then (kX37_80 v2_37) else (if ((shrI v2_37 v3_37) &&& (1 : Int32)) = 0 then ((f_X3_get 7 now_enders v3_37).bind fun (r70 : Int32) => (f_X4_chain_37 now_enders kX37_80 fuel (v2_37 ||| (shlI (1 : Int32) v3_37)) r70 (v4_37 + (1 : Int32)))) else (kX37_80 v2_37)))) := rfl
def f_X4_chain_80   (v2_80 : Int32) (refusals_80 : (Nat → Int32)) : Option (Int32 × (Nat → Int32)) := ((j_bitCount v2_80).bind fun (r81 : Int32) => (some (r81, refusals_80)))
def f_X4_chain (now_size : Int32) (now_writing : (Nat → Int32)) (now_enders : (Nat → Int32)) (refusals : (Nat → Int32)) (x1 : Int32) : Option (Int32 × (Nat → Int32)) := ((f_X0_has now_size x1).bind fun (r5 : Int32) => (if r5 = 0 then ((f_X4_refused refusals (-1 : Int32)).bind fun (r13 : Int32 × (Nat → Int32)) => (some (r13.1, r13.2))) else ((f_X0_isEnded now_writing now_enders x1).bind fun (r22 : Int32) => (if r22 = 0 then (some ((0 : Int32), refusals)) else (f_X4_chain_37 now_enders (fun (v2_80 : Int32) => (f_X4_chain_80   v2_80 refusals)) FU (0 : Int32) x1 (0 : Int32))))))
set_option maxHeartbeats 4000000 in
set_option maxRecDepth 100000 in
theorem w_X4_chain_37 {p : Program} {l : Launch} {e : Env} {s : State} {m : MethodId} {args : Array Value} {below : List Frame} {meth : Method} {c : Code} {D : va_G} {cI : ClassId} {aS : aSt} {A : Nat → Prop} {Q : State → Prop}  (ad : Nat → Nat) (isKept : Int32) (now_size : Int32) (now_year : Int32) (now_writing_size : Int32) (now_writing : (Nat → Int32)) (now_enders_size : Int32) (now_enders : (Nat → Int32)) (refusals_size : Int32) (x1 : Int32) (refusals_u37 : (Nat → Int32)) {R : Int32 × (Nat → Int32)} (X : Bx p s m args meth c cX4_chain 5 (some .int) RX4 D cI aS A) (hret : RtI p l e 6 s m args below meth c cX4_chain (some .int) D A (wd_X4_chain cI ad isKept now_size now_year now_writing_size now_writing now_enders_size now_enders refusals_size R.2) R.1 Q) (kX37_80 : Int32 → Option (Int32 × (Nat → Int32))) (hkX37_80 : ∀ (v2_80 : Int32) (H : Heap) (locs : List Loc) (ls : Array Slot), kX37_80 v2_80 = some R → lv_has ls 5 [(2, .int v2_80)] → va_P D vwCl (wd_X4_chain cI ad isKept now_size now_year now_writing_size now_writing now_enders_size now_enders refusals_size refusals_u37) H → va_D A (wd_X4_chain cI ad isKept now_size now_year now_writing_size now_writing now_enders_size now_enders refusals_size refusals_u37) → va_S A s.heap H locs → Wh p l e 6 s m args below meth c H locs Q (F0 m 80 ls [])) : ∀ (fuel : Nat) (v2_37 : Int32) (v3_37 : Int32) (v4_37 : Int32) (H : Heap) (locs : List Loc) (ls : Array Slot), f_X4_chain_37 now_enders kX37_80 fuel v2_37 v3_37 v4_37 = some R → lv_has ls 5 [(0, .ref (ad 0)), (2, .int v2_37), (3, .int v3_37), (4, .int v4_37)] → va_P D vwCl (wd_X4_chain cI ad isKept now_size now_year now_writing_size now_writing now_enders_size now_enders refusals_size refusals_u37) H → va_D A (wd_X4_chain cI ad isKept now_size now_year now_writing_size now_writing now_enders_size now_enders refusals_size refusals_u37) → va_S A s.heap H locs → Wh p l e 6 s m args below meth c H locs Q (F0 m 37 ls []) := by
  have hx := X.1
  have hb := X.2.1
  intro fuel
  induction fuel with
  | zero =>
    intro v2_37 v3_37 v4_37 H locs ls hf hl hP hD hS
    cases hf
  | succ fuel ih =>
    intro v2_37 v3_37 v4_37 H locs ls hf hl hP hD hS
    replace hf : (if (7 : Int32) ≤ v4_37 then (kX37_80 v2_37) else (if v3_37 < 0 then (kX37_80 v2_37) else (if ((shrI v2_37 v3_37) &&& (1 : Int32)) = 0 then ((f_X3_get 7 now_enders v3_37).bind fun (r70 : Int32) => (f_X4_chain_37 now_enders kX37_80 fuel (v2_37 ||| (shlI (1 : Int32) v3_37)) r70 (v4_37 + (1 : Int32)))) else (kX37_80 v2_37)))) = some R := hf
    refine lv_iload hx hb dX4_chain_37 (lv_at hl 3 rfl) ?_
    refine lv_bipush (v := 7) hx hb dX4_chain_39 (by decide) ?_
    refine lv_icmp_ge (tgt := 80) hx hb dX4_chain_41 (by decide) (fun c41 => ?_) (fun c41 => ?_)
    · have hf := iT c41 hf
      exact hkX37_80 v2_37 _ _ _ hf (lv_sub hl [1] rfl) hP hD hS
    · have hf := iF c41 hf
      refine lv_iload_n hx hb dX4_chain_44 rfl (lv_at hl 2 rfl) ?_
      refine lv_if_lt (tgt := 80) hx hb dX4_chain_45 (by decide) (fun c45 => ?_) (fun c45 => ?_)
      · have hf := iT c45 hf
        exact hkX37_80 v2_37 _ _ _ hf (lv_sub hl [1] rfl) hP hD hS
      · have hf := iF c45 hf
        refine lv_iload_n hx hb dX4_chain_48 rfl (lv_at hl 1 rfl) ?_
        refine lv_iload_n hx hb dX4_chain_49 rfl (lv_at hl 2 rfl) ?_
        refine x_ishr hx hb dX4_chain_50 ?_
        refine lv_iconst (v := 1) hx hb dX4_chain_51 (by decide) ?_
        refine lv_iand hx hb dX4_chain_52 ?_
        refine lv_if_ne (tgt := 80) hx hb dX4_chain_53 (by decide) (fun c53 => ?_) (fun c53 => ?_)
        · have hf := iF c53 hf
          exact hkX37_80 v2_37 _ _ _ hf (lv_sub hl [1] rfl) hP hD hS
        · have hf := iT c53 hf
          refine lv_iload_n hx hb dX4_chain_56 rfl (lv_at hl 1 rfl) ?_
          refine lv_iconst (v := 1) hx hb dX4_chain_57 (by decide) ?_
          refine lv_iload_n hx hb dX4_chain_58 rfl (lv_at hl 2 rfl) ?_
          refine x_ishl hx hb dX4_chain_59 ?_
          refine lv_ior hx hb dX4_chain_60 ?_
          refine lv_istore_n (lv' := [(2, .int (v2_37 ||| (shlI (1 : Int32) v3_37))), (0, .ref (ad 0)), (3, .int v3_37), (4, .int v4_37)]) hx hb dX4_chain_61 rfl hl (by decide) rfl (fun ls hl => ?_)
          refine lv_aload_n hx hb dX4_chain_62 rfl (lv_at hl 1 rfl) ?_
          refine fgX4_10 X hP (q0 := 0) rfl rfl dX4_chain_63 ?_
          refine fgX4_157 X hP (q0 := 1) rfl rfl dX4_chain_66 ?_
          refine lv_iload_n hx hb dX4_chain_69 rfl (lv_at hl 2 rfl) ?_
          obtain ⟨r70, hq70, hf⟩ := bS hf
          refine ro_i X hP hD hS [4, 5] rfl (run_N X hP hD hS [4, 5] rfl rfl (c_X3_get l D cI aS (fun k => ad (14 + k)) 7 now_enders_size now_enders v3_37 _ hq70 _) lkX4_105 (by decide) (q0 := 4) rfl rfl rfl rfl (Nat.le_of_ble_eq_true rfl) hl.1 dX4_chain_70) (fun H locs hP hS => ?_)
          refine lv_istore_n (lv' := [(3, .int r70), (2, .int (v2_37 ||| (shlI (1 : Int32) v3_37))), (0, .ref (ad 0)), (4, .int v4_37)]) hx hb dX4_chain_73 rfl hl (by decide) rfl (fun ls hl => ?_)
          refine lv_iinc (v := (v4_37 + (1 : Int32))) (lv' := [(4, .int (v4_37 + (1 : Int32))), (3, .int r70), (2, .int (v2_37 ||| (shlI (1 : Int32) v3_37))), (0, .ref (ad 0))]) hx hb dX4_chain_74 hl (k := 3) rfl rfl (by decide) rfl (fun ls hl => ?_)
          refine lv_goto (tgt := 37) hx hb dX4_chain_77 (by decide) ?_
          exact ih (v2_37 ||| (shlI (1 : Int32) v3_37)) r70 (v4_37 + (1 : Int32)) _ _ _ hf (lv_sub hl [3, 2, 1, 0] rfl) hP hD hS
set_option maxHeartbeats 4000000 in
set_option maxRecDepth 100000 in
theorem w_X4_chain_80 {p : Program} {l : Launch} {e : Env} {s : State} {m : MethodId} {args : Array Value} {below : List Frame} {meth : Method} {c : Code} {D : va_G} {cI : ClassId} {aS : aSt} {A : Nat → Prop} {Q : State → Prop}  (ad : Nat → Nat) (isKept : Int32) (now_size : Int32) (now_year : Int32) (now_writing_size : Int32) (now_writing : (Nat → Int32)) (now_enders_size : Int32) (now_enders : (Nat → Int32)) (refusals_size : Int32) (x1 : Int32) {R : Int32 × (Nat → Int32)} (X : Bx p s m args meth c cX4_chain 5 (some .int) RX4 D cI aS A) (hret : RtI p l e 6 s m args below meth c cX4_chain (some .int) D A (wd_X4_chain cI ad isKept now_size now_year now_writing_size now_writing now_enders_size now_enders refusals_size R.2) R.1 Q) : ∀ (v2_80 : Int32) (refusals_80 : (Nat → Int32)) (H : Heap) (locs : List Loc) (ls : Array Slot), f_X4_chain_80   v2_80 refusals_80 = some R → lv_has ls 5 [(2, .int v2_80)] → va_P D vwCl (wd_X4_chain cI ad isKept now_size now_year now_writing_size now_writing now_enders_size now_enders refusals_size refusals_80) H → va_D A (wd_X4_chain cI ad isKept now_size now_year now_writing_size now_writing now_enders_size now_enders refusals_size refusals_80) → va_S A s.heap H locs → Wh p l e 6 s m args below meth c H locs Q (F0 m 80 ls []) := by
  have hx := X.1
  have hb := X.2.1
  intro v2_80 refusals_80 H locs ls hf hl hP hD hS
  replace hf : ((j_bitCount v2_80).bind fun (r81 : Int32) => (some (r81, refusals_80))) = some R := hf
  refine lv_iload_n hx hb dX4_chain_80 rfl (lv_at hl 0 rfl) ?_
  obtain ⟨r81, hq81, hf⟩ := bS hf
  refine ro_i X hP hD hS [] rfl (run_JS X hP hD hS (cj_bitCount l D cI aS v2_80 _ hq81 _) ljX4_210 (by decide) rfl rfl (Nat.le_of_ble_eq_true rfl) hl.1 dX4_chain_81) (fun H locs hP hS => ?_)
  have hR := Option.some.inj hf
  subst hR
  exact hret _ _ _ _ _ rfl (fun _ hn => by cases hn; rfl) hP hD hS dX4_chain_84
set_option maxHeartbeats 4000000 in
set_option maxRecDepth 100000 in
theorem c_X4_chain (l : Launch) (D : va_G) (cI : ClassId) (aS : aSt) (ad : Nat → Nat) (isKept : Int32) (now_size : Int32) (now_year : Int32) (now_writing_size : Int32) (now_writing : (Nat → Int32)) (now_enders_size : Int32) (now_enders : (Nat → Int32)) (refusals_size : Int32) (refusals : (Nat → Int32)) (x1 : Int32) (R : Int32 × (Nat → Int32)) (hf : f_X4_chain now_size now_writing now_enders refusals x1 = some R) : CtI l yX4_chain cX4_chain 5 (some .int) 6 D cI aS [.ref (ad 0), .int x1] (wd_X4_chain cI ad isKept now_size now_year now_writing_size now_writing now_enders_size now_enders refusals_size refusals) (wd_X4_chain cI ad isKept now_size now_year now_writing_size now_writing now_enders_size now_enders refusals_size R.2) R.1 := by
  refine ctI_of (by decide) ⟨_, rfl⟩ (Nat.le_of_ble_eq_true rfl) ?_
  intro p e s m below meth c A Q ls X hret hP hD hl
  have hS : va_S A s.heap s.heap [] := va_S.rf
  have hx := X.1
  have hb := X.2.1
  have hl : lv_has ls 5 [(0, .ref (ad 0)), (1, .int x1)] := hl
  replace hf : ((f_X0_has now_size x1).bind fun (r5 : Int32) => (if r5 = 0 then ((f_X4_refused refusals (-1 : Int32)).bind fun (r13 : Int32 × (Nat → Int32)) => (some (r13.1, r13.2))) else ((f_X0_isEnded now_writing now_enders x1).bind fun (r22 : Int32) => (if r22 = 0 then (some ((0 : Int32), refusals)) else (f_X4_chain_37 now_enders (fun (v2_80 : Int32) => (f_X4_chain_80   v2_80 refusals)) FU (0 : Int32) x1 (0 : Int32)))))) = some R := hf
  refine lv_aload_n hx hb dX4_chain_0 rfl (lv_at hl 0 rfl) ?_
  refine fgX4_10 X hP (q0 := 0) rfl rfl dX4_chain_1 ?_
  refine lv_iload_n hx hb dX4_chain_4 rfl (lv_at hl 1 rfl) ?_
  obtain ⟨r5, hq5, hf⟩ := bS hf
  refine ro_i X hP hD hS [1] rfl (run_N X hP hD hS [1] rfl rfl (c_X0_has l D cI aS (fun k => ad (1 + k)) now_size now_year x1 _ hq5 _) lkX4_116 (by decide) (q0 := 1) rfl rfl rfl rfl (Nat.le_of_ble_eq_true rfl) hl.1 dX4_chain_5) (fun H locs hP hS => ?_)
  refine lv_if_ne (tgt := 17) hx hb dX4_chain_8 (by decide) (fun c8 => ?_) (fun c8 => ?_)
  · have hf := iF c8 hf
    refine lv_aload_n hx hb dX4_chain_17 rfl (lv_at hl 0 rfl) ?_
    refine fgX4_10 X hP (q0 := 0) rfl rfl dX4_chain_18 ?_
    refine lv_iload_n hx hb dX4_chain_21 rfl (lv_at hl 1 rfl) ?_
    obtain ⟨r22, hq22, hf⟩ := bS hf
    refine ro_i X hP hD hS [1, 2, 3, 4, 5] rfl (run_N X hP hD hS [1, 2, 3, 4, 5] rfl rfl (c_X0_isEnded l D cI aS (fun k => ad (1 + k)) now_size now_year now_writing_size now_writing now_enders_size now_enders x1 _ hq22 _) lkX4_207 (by decide) (q0 := 1) rfl rfl rfl rfl (Nat.le_of_ble_eq_true rfl) hl.1 dX4_chain_22) (fun H locs hP hS => ?_)
    refine lv_if_ne (tgt := 30) hx hb dX4_chain_25 (by decide) (fun c25 => ?_) (fun c25 => ?_)
    · have hf := iF c25 hf
      refine lv_iconst (v := 0) hx hb dX4_chain_30 (by decide) ?_
      refine lv_istore_n (lv' := [(2, .int (0 : Int32)), (0, .ref (ad 0)), (1, .int x1)]) hx hb dX4_chain_31 rfl hl (by decide) rfl (fun ls hl => ?_)
      refine lv_iload_n hx hb dX4_chain_32 rfl (lv_at hl 2 rfl) ?_
      refine lv_istore_n (lv' := [(3, .int x1), (2, .int (0 : Int32)), (0, .ref (ad 0)), (1, .int x1)]) hx hb dX4_chain_33 rfl hl (by decide) rfl (fun ls hl => ?_)
      refine lv_iconst (v := 0) hx hb dX4_chain_34 (by decide) ?_
      refine lv_istore (lv' := [(4, .int (0 : Int32)), (3, .int x1), (2, .int (0 : Int32)), (0, .ref (ad 0)), (1, .int x1)]) hx hb dX4_chain_35 hl (by decide) rfl (fun ls hl => ?_)
      exact w_X4_chain_37 ad isKept now_size now_year now_writing_size now_writing now_enders_size now_enders refusals_size x1 refusals X hret _ (fun v2_80 _ _ _ hf hl hP hD hS => w_X4_chain_80 ad isKept now_size now_year now_writing_size now_writing now_enders_size now_enders refusals_size x1 X hret  v2_80 refusals _ _ _ hf (lv_sub hl [0] rfl) hP hD hS) _ (0 : Int32) x1 (0 : Int32) _ _ _ hf (lv_sub hl [3, 2, 1, 0] rfl) hP hD hS
    · have hf := iT c25 hf
      refine lv_iconst (v := 0) hx hb dX4_chain_28 (by decide) ?_
      have hR := Option.some.inj hf
      subst hR
      exact hret _ _ _ _ _ rfl (fun _ hn => by cases hn; rfl) hP hD hS dX4_chain_29
  · have hf := iT c8 hf
    refine lv_aload_n hx hb dX4_chain_11 rfl (lv_at hl 0 rfl) ?_
    refine lv_iconst (v := -1) hx hb dX4_chain_12 (by decide) ?_
    obtain ⟨r13, hq13, hf⟩ := bS hf
    refine wr_i X hP hD hS [0, 6, 7] rfl (ws' := (wd_X4_chain cI ad isKept now_size now_year now_writing_size now_writing now_enders_size now_enders refusals_size r13.2)) (Nat.le_of_ble_eq_true rfl) rfl rfl (run_V X hP hD hS [0, 6, 7] rfl rfl (c_X4_refused l D cI aS ad isKept refusals_size refusals (-1 : Int32) _ hq13 _) lkX4_58 (by decide) (q0 := 0) rfl rfl rfl rfl (Nat.le_of_ble_eq_true rfl) hl.1 dX4_chain_13) (fun H locs hP hD hS => ?_)
    have hR := Option.some.inj hf
    subst hR
    exact hret _ _ _ _ _ rfl (fun _ hn => by cases hn; rfl) hP hD hS dX4_chain_16

abbrev wd_X4_well (cI : ClassId) (ad : Nat → Nat) (isKept : Int32) (now_size : Int32) (now_year : Int32) (now_kinds_size : Int32) (now_kinds : (Nat → Int32)) (now_figures_size : Int32) (now_figures : (Nat → Int32)) (now_styles_size : Int32) (now_styles : (Nat → Int32)) (now_writing_size : Int32) (now_writing : (Nat → Int32)) (now_enders_size : Int32) (now_enders : (Nat → Int32)) : va_W := [((ad 0), .inr (4, [.ref (ad 1), .ref (ad 16), .ref (ad 31), .int isKept, .ref (ad 46), .ref (ad 49), .ref (ad 51), .ref (ad 53), .ref (ad 55), .ref (ad 57)])), ((ad 1), .inr (0, [.ref (ad 2), .ref (ad 4), .ref (ad 6), .ref (ad 8), .ref (ad 10), .ref (ad 12), .ref (ad 14), .int now_size, .int now_year])), ((ad 2), .inr (3, [.ref (ad 3), .int now_kinds_size])), ((ad 3), .inl (cI, 7, .inl now_kinds)), ((ad 4), .inr (3, [.ref (ad 5), .int now_figures_size])), ((ad 5), .inl (cI, 7, .inl now_figures)), ((ad 6), .inr (3, [.ref (ad 7), .int now_styles_size])), ((ad 7), .inl (cI, 7, .inl now_styles)), ((ad 10), .inr (3, [.ref (ad 11), .int now_writing_size])), ((ad 11), .inl (cI, 7, .inl now_writing)), ((ad 14), .inr (3, [.ref (ad 15), .int now_enders_size])), ((ad 15), .inl (cI, 7, .inl now_enders))]
def f_X4_well_33  (kL4 : Int32 → Int32 → Option (Int32)) (v1_33 : Int32) (v2_33 : Int32) : Option (Int32) := (kL4 v1_33 (v2_33 + (1 : Int32)))
def f_X4_well_4 (now_size : Int32) (now_year : Int32) (now_kinds : (Nat → Int32)) (now_figures : (Nat → Int32)) (now_styles : (Nat → Int32)) (now_writing : (Nat → Int32)) (now_enders : (Nat → Int32))  : Nat → Int32 → Int32 → Option (Int32)
  | 0 => fun _ _ => none
  | fuel + 1 => fun v1_4 v2_4 => (if now_size ≤ v2_4 then (some v1_4) else ((f_X0_worthOf now_year now_kinds now_figures now_styles now_writing now_enders v2_4).bind fun (r20 : Int32) => (if r20 < (5 : Int32) then (f_X4_well_33  (f_X4_well_4 now_size now_year now_kinds now_figures now_styles now_writing now_enders  fuel) v1_4 v2_4) else (f_X4_well_33  (f_X4_well_4 now_size now_year now_kinds now_figures now_styles now_writing now_enders  fuel) (v1_4 ||| (shlI (1 : Int32) v2_4)) v2_4))))
theorem e_X4_well_4 (now_size : Int32) (now_year : Int32) (now_kinds : (Nat → Int32)) (now_figures : (Nat → Int32)) (now_styles : (Nat → Int32)) (now_writing : (Nat → Int32)) (now_enders : (Nat → Int32))  (fuel : Nat) (v1_4 : Int32) (v2_4 : Int32) : f_X4_well_4 now_size now_year now_kinds now_figures now_styles now_writing now_enders  (fuel + 1) v1_4 v2_4 = (if now_size ≤ v2_4 then (some v1_4) else ((f_X0_worthOf now_year now_kinds now_figures now_styles now_writing now_enders v2_4).bind fun (r20 : Int32) => (if r20 < (5 : Int32) then (f_X4_well_33  (f_X4_well_4 now_size now_year now_kinds now_figures now_styles now_writing now_enders  fuel) v1_4 v2_4) else (f_X4_well_33  (f_X4_well_4 now_size now_year now_kinds now_figures now_styles now_writing now_enders  fuel) (v1_4 ||| (shlI (1 : Int32) v2_4)) v2_4)))) := rfl
def f_X4_well (now_size : Int32) (now_year : Int32) (now_kinds : (Nat → Int32)) (now_figures : (Nat → Int32)) (now_styles : (Nat → Int32)) (now_writing : (Nat → Int32)) (now_enders : (Nat → Int32)) : Option (Int32) := (f_X4_well_4 now_size now_year now_kinds now_figures now_styles now_writing now_enders  FU (0 : Int32) (0 : Int32))
set_option maxHeartbeats 4000000 in
set_option maxRecDepth 100000 in
theorem w_X4_well_33 {p : Program} {l : Launch} {e : Env} {s : State} {m : MethodId} {args : Array Value} {below : List Frame} {meth : Method} {c : Code} {D : va_G} {cI : ClassId} {aS : aSt} {A : Nat → Prop} {Q : State → Prop}  (ad : Nat → Nat) (isKept : Int32) (now_size : Int32) (now_year : Int32) (now_kinds_size : Int32) (now_kinds : (Nat → Int32)) (now_figures_size : Int32) (now_figures : (Nat → Int32)) (now_styles_size : Int32) (now_styles : (Nat → Int32)) (now_writing_size : Int32) (now_writing : (Nat → Int32)) (now_enders_size : Int32) (now_enders : (Nat → Int32)) {R : Int32} (X : Bx p s m args meth c cX4_well 3 (some .int) RX4 D cI aS A) (hret : RtI p l e 4 s m args below meth c cX4_well (some .int) D A (wd_X4_well cI ad isKept now_size now_year now_kinds_size now_kinds now_figures_size now_figures now_styles_size now_styles now_writing_size now_writing now_enders_size now_enders) R Q) (kL4 : Int32 → Int32 → Option (Int32)) (hkL4 : ∀ (v1_4 : Int32) (v2_4 : Int32) (H : Heap) (locs : List Loc) (ls : Array Slot), kL4 v1_4 v2_4 = some R → lv_has ls 3 [(0, .ref (ad 0)), (1, .int v1_4), (2, .int v2_4)] → va_P D vwCl (wd_X4_well cI ad isKept now_size now_year now_kinds_size now_kinds now_figures_size now_figures now_styles_size now_styles now_writing_size now_writing now_enders_size now_enders) H → va_D A (wd_X4_well cI ad isKept now_size now_year now_kinds_size now_kinds now_figures_size now_figures now_styles_size now_styles now_writing_size now_writing now_enders_size now_enders) → va_S A s.heap H locs → Wh p l e 4 s m args below meth c H locs Q (F0 m 4 ls [])) : ∀ (v1_33 : Int32) (v2_33 : Int32) (H : Heap) (locs : List Loc) (ls : Array Slot), f_X4_well_33  kL4 v1_33 v2_33 = some R → lv_has ls 3 [(0, .ref (ad 0)), (1, .int v1_33), (2, .int v2_33)] → va_P D vwCl (wd_X4_well cI ad isKept now_size now_year now_kinds_size now_kinds now_figures_size now_figures now_styles_size now_styles now_writing_size now_writing now_enders_size now_enders) H → va_D A (wd_X4_well cI ad isKept now_size now_year now_kinds_size now_kinds now_figures_size now_figures now_styles_size now_styles now_writing_size now_writing now_enders_size now_enders) → va_S A s.heap H locs → Wh p l e 4 s m args below meth c H locs Q (F0 m 33 ls []) := by
  have hx := X.1
  have hb := X.2.1
  intro v1_33 v2_33 H locs ls hf hl hP hD hS
  replace hf : (kL4 v1_33 (v2_33 + (1 : Int32))) = some R := hf
  refine lv_iinc (v := (v2_33 + (1 : Int32))) (lv' := [(2, .int (v2_33 + (1 : Int32))), (0, .ref (ad 0)), (1, .int v1_33)]) hx hb dX4_well_33 hl (k := 2) rfl rfl (by decide) rfl (fun ls hl => ?_)
  refine lv_goto (tgt := 4) hx hb dX4_well_36 (by decide) ?_
  exact hkL4 v1_33 (v2_33 + (1 : Int32)) _ _ _ hf (lv_sub hl [1, 2, 0] rfl) hP hD hS
set_option maxHeartbeats 4000000 in
set_option maxRecDepth 100000 in
theorem w_X4_well_4 {p : Program} {l : Launch} {e : Env} {s : State} {m : MethodId} {args : Array Value} {below : List Frame} {meth : Method} {c : Code} {D : va_G} {cI : ClassId} {aS : aSt} {A : Nat → Prop} {Q : State → Prop}  (ad : Nat → Nat) (isKept : Int32) (now_size : Int32) (now_year : Int32) (now_kinds_size : Int32) (now_kinds : (Nat → Int32)) (now_figures_size : Int32) (now_figures : (Nat → Int32)) (now_styles_size : Int32) (now_styles : (Nat → Int32)) (now_writing_size : Int32) (now_writing : (Nat → Int32)) (now_enders_size : Int32) (now_enders : (Nat → Int32)) {R : Int32} (X : Bx p s m args meth c cX4_well 3 (some .int) RX4 D cI aS A) (hret : RtI p l e 4 s m args below meth c cX4_well (some .int) D A (wd_X4_well cI ad isKept now_size now_year now_kinds_size now_kinds now_figures_size now_figures now_styles_size now_styles now_writing_size now_writing now_enders_size now_enders) R Q) : ∀ (fuel : Nat) (v1_4 : Int32) (v2_4 : Int32) (H : Heap) (locs : List Loc) (ls : Array Slot), f_X4_well_4 now_size now_year now_kinds now_figures now_styles now_writing now_enders  fuel v1_4 v2_4 = some R → lv_has ls 3 [(0, .ref (ad 0)), (1, .int v1_4), (2, .int v2_4)] → va_P D vwCl (wd_X4_well cI ad isKept now_size now_year now_kinds_size now_kinds now_figures_size now_figures now_styles_size now_styles now_writing_size now_writing now_enders_size now_enders) H → va_D A (wd_X4_well cI ad isKept now_size now_year now_kinds_size now_kinds now_figures_size now_figures now_styles_size now_styles now_writing_size now_writing now_enders_size now_enders) → va_S A s.heap H locs → Wh p l e 4 s m args below meth c H locs Q (F0 m 4 ls []) := by
  have hx := X.1
  have hb := X.2.1
  intro fuel
  induction fuel with
  | zero =>
    intro v1_4 v2_4 H locs ls hf hl hP hD hS
    cases hf
  | succ fuel ih =>
    intro v1_4 v2_4 H locs ls hf hl hP hD hS
    replace hf : (if now_size ≤ v2_4 then (some v1_4) else ((f_X0_worthOf now_year now_kinds now_figures now_styles now_writing now_enders v2_4).bind fun (r20 : Int32) => (if r20 < (5 : Int32) then (f_X4_well_33  (f_X4_well_4 now_size now_year now_kinds now_figures now_styles now_writing now_enders  fuel) v1_4 v2_4) else (f_X4_well_33  (f_X4_well_4 now_size now_year now_kinds now_figures now_styles now_writing now_enders  fuel) (v1_4 ||| (shlI (1 : Int32) v2_4)) v2_4)))) = some R := hf
    refine lv_iload_n hx hb dX4_well_4 rfl (lv_at hl 2 rfl) ?_
    refine lv_aload_n hx hb dX4_well_5 rfl (lv_at hl 0 rfl) ?_
    refine fgX4_10 X hP (q0 := 0) rfl rfl dX4_well_6 ?_
    refine fgX4_108 X hP (q0 := 1) rfl rfl dX4_well_9 ?_
    refine lv_icmp_ge (tgt := 39) hx hb dX4_well_12 (by decide) (fun c12 => ?_) (fun c12 => ?_)
    · have hf := iT c12 hf
      refine lv_iload_n hx hb dX4_well_39 rfl (lv_at hl 1 rfl) ?_
      have hR := Option.some.inj hf
      subst hR
      exact hret _ _ _ _ _ rfl (fun _ hn => by cases hn; rfl) hP hD hS dX4_well_40
    · have hf := iF c12 hf
      refine lv_aload_n hx hb dX4_well_15 rfl (lv_at hl 0 rfl) ?_
      refine fgX4_10 X hP (q0 := 0) rfl rfl dX4_well_16 ?_
      refine lv_iload_n hx hb dX4_well_19 rfl (lv_at hl 2 rfl) ?_
      obtain ⟨r20, hq20, hf⟩ := bS hf
      refine ro_i X hP hD hS [1, 2, 3, 4, 5, 6, 7, 8, 9, 10, 11] rfl (run_N X hP hD hS [1, 2, 3, 4, 5, 6, 7, 8, 9, 10, 11] rfl rfl (c_X0_worthOf l D cI aS (fun k => ad (1 + k)) now_size now_year now_kinds_size now_kinds now_figures_size now_figures now_styles_size now_styles now_writing_size now_writing now_enders_size now_enders v2_4 _ hq20 _) lkX4_176 (by decide) (q0 := 1) rfl rfl rfl rfl (Nat.le_of_ble_eq_true rfl) hl.1 dX4_well_20) (fun H locs hP hS => ?_)
      refine lv_iconst (v := 5) hx hb dX4_well_23 (by decide) ?_
      refine lv_icmp_lt (tgt := 33) hx hb dX4_well_24 (by decide) (fun c24 => ?_) (fun c24 => ?_)
      · have hf := iT c24 hf
        exact w_X4_well_33 ad isKept now_size now_year now_kinds_size now_kinds now_figures_size now_figures now_styles_size now_styles now_writing_size now_writing now_enders_size now_enders X hret _ ih v1_4 v2_4 _ _ _ hf (lv_sub hl [0, 1, 2] rfl) hP hD hS
      · have hf := iF c24 hf
        refine lv_iload_n hx hb dX4_well_27 rfl (lv_at hl 1 rfl) ?_
        refine lv_iconst (v := 1) hx hb dX4_well_28 (by decide) ?_
        refine lv_iload_n hx hb dX4_well_29 rfl (lv_at hl 2 rfl) ?_
        refine x_ishl hx hb dX4_well_30 ?_
        refine lv_ior hx hb dX4_well_31 ?_
        refine lv_istore_n (lv' := [(1, .int (v1_4 ||| (shlI (1 : Int32) v2_4))), (0, .ref (ad 0)), (2, .int v2_4)]) hx hb dX4_well_32 rfl hl (by decide) rfl (fun ls hl => ?_)
        exact w_X4_well_33 ad isKept now_size now_year now_kinds_size now_kinds now_figures_size now_figures now_styles_size now_styles now_writing_size now_writing now_enders_size now_enders X hret _ ih (v1_4 ||| (shlI (1 : Int32) v2_4)) v2_4 _ _ _ hf (lv_sub hl [1, 0, 2] rfl) hP hD hS
set_option maxHeartbeats 4000000 in
set_option maxRecDepth 100000 in
theorem c_X4_well (l : Launch) (D : va_G) (cI : ClassId) (aS : aSt) (ad : Nat → Nat) (isKept : Int32) (now_size : Int32) (now_year : Int32) (now_kinds_size : Int32) (now_kinds : (Nat → Int32)) (now_figures_size : Int32) (now_figures : (Nat → Int32)) (now_styles_size : Int32) (now_styles : (Nat → Int32)) (now_writing_size : Int32) (now_writing : (Nat → Int32)) (now_enders_size : Int32) (now_enders : (Nat → Int32)) (R : Int32) (hf : f_X4_well now_size now_year now_kinds now_figures now_styles now_writing now_enders = some R) : CtI l yX4_well cX4_well 3 (some .int) 4 D cI aS [.ref (ad 0)] (wd_X4_well cI ad isKept now_size now_year now_kinds_size now_kinds now_figures_size now_figures now_styles_size now_styles now_writing_size now_writing now_enders_size now_enders) (wd_X4_well cI ad isKept now_size now_year now_kinds_size now_kinds now_figures_size now_figures now_styles_size now_styles now_writing_size now_writing now_enders_size now_enders) R := by
  refine ctI_of (by decide) ⟨_, rfl⟩ (Nat.le_of_ble_eq_true rfl) ?_
  intro p e s m below meth c A Q ls X hret hP hD hl
  have hS : va_S A s.heap s.heap [] := va_S.rf
  have hx := X.1
  have hb := X.2.1
  have hl : lv_has ls 3 [(0, .ref (ad 0))] := hl
  replace hf : (f_X4_well_4 now_size now_year now_kinds now_figures now_styles now_writing now_enders  FU (0 : Int32) (0 : Int32)) = some R := hf
  refine lv_iconst (v := 0) hx hb dX4_well_0 (by decide) ?_
  refine lv_istore_n (lv' := [(1, .int (0 : Int32)), (0, .ref (ad 0))]) hx hb dX4_well_1 rfl hl (by decide) rfl (fun ls hl => ?_)
  refine lv_iconst (v := 0) hx hb dX4_well_2 (by decide) ?_
  refine lv_istore_n (lv' := [(2, .int (0 : Int32)), (1, .int (0 : Int32)), (0, .ref (ad 0))]) hx hb dX4_well_3 rfl hl (by decide) rfl (fun ls hl => ?_)
  exact w_X4_well_4 ad isKept now_size now_year now_kinds_size now_kinds now_figures_size now_figures now_styles_size now_styles now_writing_size now_writing now_enders_size now_enders X hret  _ (0 : Int32) (0 : Int32) _ _ _ hf (lv_sub hl [2, 1, 0] rfl) hP hD hS

abbrev wd_X4_ending (cI : ClassId) (ad : Nat → Nat) (isKept : Int32) (now_size : Int32) (now_year : Int32) (now_kinds_size : Int32) (now_kinds : (Nat → Int32)) (now_figures_size : Int32) (now_figures : (Nat → Int32)) (now_styles_size : Int32) (now_styles : (Nat → Int32)) (now_writing_size : Int32) (now_writing : (Nat → Int32)) (now_enders_size : Int32) (now_enders : (Nat → Int32)) (refusals_size : Int32) (refusals : (Nat → Int32)) : va_W := [((ad 0), .inr (4, [.ref (ad 1), .ref (ad 16), .ref (ad 31), .int isKept, .ref (ad 46), .ref (ad 49), .ref (ad 51), .ref (ad 53), .ref (ad 55), .ref (ad 57)])), ((ad 1), .inr (0, [.ref (ad 2), .ref (ad 4), .ref (ad 6), .ref (ad 8), .ref (ad 10), .ref (ad 12), .ref (ad 14), .int now_size, .int now_year])), ((ad 2), .inr (3, [.ref (ad 3), .int now_kinds_size])), ((ad 3), .inl (cI, 7, .inl now_kinds)), ((ad 4), .inr (3, [.ref (ad 5), .int now_figures_size])), ((ad 5), .inl (cI, 7, .inl now_figures)), ((ad 6), .inr (3, [.ref (ad 7), .int now_styles_size])), ((ad 7), .inl (cI, 7, .inl now_styles)), ((ad 10), .inr (3, [.ref (ad 11), .int now_writing_size])), ((ad 11), .inl (cI, 7, .inl now_writing)), ((ad 14), .inr (3, [.ref (ad 15), .int now_enders_size])), ((ad 15), .inl (cI, 7, .inl now_enders)), ((ad 51), .inr (3, [.ref (ad 52), .int refusals_size])), ((ad 52), .inl (cI, 7, .inl refusals))]
def f_X4_ending_54  (kL28 : Int32 → Int32 → Option (Int32 × (Nat → Int32))) (v2_54 : Int32) (v3_54 : Int32) : Option (Int32 × (Nat → Int32)) := (kL28 v2_54 (v3_54 + (1 : Int32)))
def f_X4_ending_28 (now_size : Int32) (now_year : Int32) (now_kinds : (Nat → Int32)) (now_figures : (Nat → Int32)) (now_styles : (Nat → Int32)) (now_writing : (Nat → Int32)) (now_enders : (Nat → Int32)) (x1 : Int32) (refusals_u28 : (Nat → Int32))  : Nat → Int32 → Int32 → Option (Int32 × (Nat → Int32))
  | 0 => fun _ _ => none
  | fuel + 1 => fun v2_28 v3_28 => (if now_size ≤ v3_28 then (some (v2_28, refusals_u28)) else ((f_X0_endsOf now_year now_kinds now_figures now_styles now_writing now_enders v3_28).bind fun (r44 : Int32) => (if r44 = x1 then (f_X4_ending_54  (f_X4_ending_28 now_size now_year now_kinds now_figures now_styles now_writing now_enders x1 refusals_u28  fuel) (v2_28 + (1 : Int32)) v3_28) else (f_X4_ending_54  (f_X4_ending_28 now_size now_year now_kinds now_figures now_styles now_writing now_enders x1 refusals_u28  fuel) v2_28 v3_28))))
theorem e_X4_ending_28 (now_size : Int32) (now_year : Int32) (now_kinds : (Nat → Int32)) (now_figures : (Nat → Int32)) (now_styles : (Nat → Int32)) (now_writing : (Nat → Int32)) (now_enders : (Nat → Int32)) (x1 : Int32) (refusals_u28 : (Nat → Int32))  (fuel : Nat) (v2_28 : Int32) (v3_28 : Int32) : f_X4_ending_28 now_size now_year now_kinds now_figures now_styles now_writing now_enders x1 refusals_u28  (fuel + 1) v2_28 v3_28 = (if now_size ≤ v3_28 then (some (v2_28, refusals_u28)) else ((f_X0_endsOf now_year now_kinds now_figures now_styles now_writing now_enders v3_28).bind fun (r44 : Int32) => (if r44 = x1 then (f_X4_ending_54  (f_X4_ending_28 now_size now_year now_kinds now_figures now_styles now_writing now_enders x1 refusals_u28  fuel) (v2_28 + (1 : Int32)) v3_28) else (f_X4_ending_54  (f_X4_ending_28 now_size now_year now_kinds now_figures now_styles now_writing now_enders x1 refusals_u28  fuel) v2_28 v3_28)))) := rfl
def f_X4_ending (now_size : Int32) (now_year : Int32) (now_kinds : (Nat → Int32)) (now_figures : (Nat → Int32)) (now_styles : (Nat → Int32)) (now_writing : (Nat → Int32)) (now_enders : (Nat → Int32)) (refusals : (Nat → Int32)) (x1 : Int32) : Option (Int32 × (Nat → Int32)) := (if 0 ≤ x1 then (if x1 < (10 : Int32) then (f_X4_ending_28 now_size now_year now_kinds now_figures now_styles now_writing now_enders x1 refusals  FU (0 : Int32) (0 : Int32)) else ((f_X4_refused refusals (-6 : Int32)).bind fun (r20 : Int32 × (Nat → Int32)) => (some (r20.1, r20.2)))) else ((f_X4_refused refusals (-4 : Int32)).bind fun (r7 : Int32 × (Nat → Int32)) => (some (r7.1, r7.2))))
set_option maxHeartbeats 4000000 in
set_option maxRecDepth 100000 in
theorem w_X4_ending_54 {p : Program} {l : Launch} {e : Env} {s : State} {m : MethodId} {args : Array Value} {below : List Frame} {meth : Method} {c : Code} {D : va_G} {cI : ClassId} {aS : aSt} {A : Nat → Prop} {Q : State → Prop}  (ad : Nat → Nat) (isKept : Int32) (now_size : Int32) (now_year : Int32) (now_kinds_size : Int32) (now_kinds : (Nat → Int32)) (now_figures_size : Int32) (now_figures : (Nat → Int32)) (now_styles_size : Int32) (now_styles : (Nat → Int32)) (now_writing_size : Int32) (now_writing : (Nat → Int32)) (now_enders_size : Int32) (now_enders : (Nat → Int32)) (refusals_size : Int32) (x1 : Int32) (refusals_u28 : (Nat → Int32)) {R : Int32 × (Nat → Int32)} (X : Bx p s m args meth c cX4_ending 4 (some .int) RX4 D cI aS A) (hret : RtI p l e 4 s m args below meth c cX4_ending (some .int) D A (wd_X4_ending cI ad isKept now_size now_year now_kinds_size now_kinds now_figures_size now_figures now_styles_size now_styles now_writing_size now_writing now_enders_size now_enders refusals_size R.2) R.1 Q) (kL28 : Int32 → Int32 → Option (Int32 × (Nat → Int32))) (hkL28 : ∀ (v2_28 : Int32) (v3_28 : Int32) (H : Heap) (locs : List Loc) (ls : Array Slot), kL28 v2_28 v3_28 = some R → lv_has ls 4 [(0, .ref (ad 0)), (1, .int x1), (2, .int v2_28), (3, .int v3_28)] → va_P D vwCl (wd_X4_ending cI ad isKept now_size now_year now_kinds_size now_kinds now_figures_size now_figures now_styles_size now_styles now_writing_size now_writing now_enders_size now_enders refusals_size refusals_u28) H → va_D A (wd_X4_ending cI ad isKept now_size now_year now_kinds_size now_kinds now_figures_size now_figures now_styles_size now_styles now_writing_size now_writing now_enders_size now_enders refusals_size refusals_u28) → va_S A s.heap H locs → Wh p l e 4 s m args below meth c H locs Q (F0 m 28 ls [])) : ∀ (v2_54 : Int32) (v3_54 : Int32) (H : Heap) (locs : List Loc) (ls : Array Slot), f_X4_ending_54  kL28 v2_54 v3_54 = some R → lv_has ls 4 [(0, .ref (ad 0)), (1, .int x1), (2, .int v2_54), (3, .int v3_54)] → va_P D vwCl (wd_X4_ending cI ad isKept now_size now_year now_kinds_size now_kinds now_figures_size now_figures now_styles_size now_styles now_writing_size now_writing now_enders_size now_enders refusals_size refusals_u28) H → va_D A (wd_X4_ending cI ad isKept now_size now_year now_kinds_size now_kinds now_figures_size now_figures now_styles_size now_styles now_writing_size now_writing now_enders_size now_enders refusals_size refusals_u28) → va_S A s.heap H locs → Wh p l e 4 s m args below meth c H locs Q (F0 m 54 ls []) := by
  have hx := X.1
  have hb := X.2.1
  intro v2_54 v3_54 H locs ls hf hl hP hD hS
  replace hf : (kL28 v2_54 (v3_54 + (1 : Int32))) = some R := hf
  refine lv_iinc (v := (v3_54 + (1 : Int32))) (lv' := [(3, .int (v3_54 + (1 : Int32))), (0, .ref (ad 0)), (1, .int x1), (2, .int v2_54)]) hx hb dX4_ending_54 hl (k := 3) rfl rfl (by decide) rfl (fun ls hl => ?_)
  refine lv_goto (tgt := 28) hx hb dX4_ending_57 (by decide) ?_
  exact hkL28 v2_54 (v3_54 + (1 : Int32)) _ _ _ hf (lv_sub hl [1, 2, 3, 0] rfl) hP hD hS
set_option maxHeartbeats 4000000 in
set_option maxRecDepth 100000 in
theorem w_X4_ending_28 {p : Program} {l : Launch} {e : Env} {s : State} {m : MethodId} {args : Array Value} {below : List Frame} {meth : Method} {c : Code} {D : va_G} {cI : ClassId} {aS : aSt} {A : Nat → Prop} {Q : State → Prop}  (ad : Nat → Nat) (isKept : Int32) (now_size : Int32) (now_year : Int32) (now_kinds_size : Int32) (now_kinds : (Nat → Int32)) (now_figures_size : Int32) (now_figures : (Nat → Int32)) (now_styles_size : Int32) (now_styles : (Nat → Int32)) (now_writing_size : Int32) (now_writing : (Nat → Int32)) (now_enders_size : Int32) (now_enders : (Nat → Int32)) (refusals_size : Int32) (x1 : Int32) (refusals_u28 : (Nat → Int32)) {R : Int32 × (Nat → Int32)} (X : Bx p s m args meth c cX4_ending 4 (some .int) RX4 D cI aS A) (hret : RtI p l e 4 s m args below meth c cX4_ending (some .int) D A (wd_X4_ending cI ad isKept now_size now_year now_kinds_size now_kinds now_figures_size now_figures now_styles_size now_styles now_writing_size now_writing now_enders_size now_enders refusals_size R.2) R.1 Q) : ∀ (fuel : Nat) (v2_28 : Int32) (v3_28 : Int32) (H : Heap) (locs : List Loc) (ls : Array Slot), f_X4_ending_28 now_size now_year now_kinds now_figures now_styles now_writing now_enders x1 refusals_u28  fuel v2_28 v3_28 = some R → lv_has ls 4 [(0, .ref (ad 0)), (1, .int x1), (2, .int v2_28), (3, .int v3_28)] → va_P D vwCl (wd_X4_ending cI ad isKept now_size now_year now_kinds_size now_kinds now_figures_size now_figures now_styles_size now_styles now_writing_size now_writing now_enders_size now_enders refusals_size refusals_u28) H → va_D A (wd_X4_ending cI ad isKept now_size now_year now_kinds_size now_kinds now_figures_size now_figures now_styles_size now_styles now_writing_size now_writing now_enders_size now_enders refusals_size refusals_u28) → va_S A s.heap H locs → Wh p l e 4 s m args below meth c H locs Q (F0 m 28 ls []) := by
  have hx := X.1
  have hb := X.2.1
  intro fuel
  induction fuel with
  | zero =>
    intro v2_28 v3_28 H locs ls hf hl hP hD hS
    cases hf
  | succ fuel ih =>
    intro v2_28 v3_28 H locs ls hf hl hP hD hS
    replace hf : (if now_size ≤ v3_28 then (some (v2_28, refusals_u28)) else ((f_X0_endsOf now_year now_kinds now_figures now_styles now_writing now_enders v3_28).bind fun (r44 : Int32) => (if r44 = x1 then (f_X4_ending_54  (f_X4_ending_28 now_size now_year now_kinds now_figures now_styles now_writing now_enders x1 refusals_u28  fuel) (v2_28 + (1 : Int32)) v3_28) else (f_X4_ending_54  (f_X4_ending_28 now_size now_year now_kinds now_figures now_styles now_writing now_enders x1 refusals_u28  fuel) v2_28 v3_28)))) = some R := hf
    refine lv_iload_n hx hb dX4_ending_28 rfl (lv_at hl 3 rfl) ?_
    refine lv_aload_n hx hb dX4_ending_29 rfl (lv_at hl 0 rfl) ?_
    refine fgX4_10 X hP (q0 := 0) rfl rfl dX4_ending_30 ?_
    refine fgX4_108 X hP (q0 := 1) rfl rfl dX4_ending_33 ?_
    refine lv_icmp_ge (tgt := 60) hx hb dX4_ending_36 (by decide) (fun c36 => ?_) (fun c36 => ?_)
    · have hf := iT c36 hf
      refine lv_iload_n hx hb dX4_ending_60 rfl (lv_at hl 2 rfl) ?_
      have hR := Option.some.inj hf
      subst hR
      exact hret _ _ _ _ _ rfl (fun _ hn => by cases hn; rfl) hP hD hS dX4_ending_61
    · have hf := iF c36 hf
      refine lv_aload_n hx hb dX4_ending_39 rfl (lv_at hl 0 rfl) ?_
      refine fgX4_10 X hP (q0 := 0) rfl rfl dX4_ending_40 ?_
      refine lv_iload_n hx hb dX4_ending_43 rfl (lv_at hl 3 rfl) ?_
      obtain ⟨r44, hq44, hf⟩ := bS hf
      refine ro_i X hP hD hS [1, 2, 3, 4, 5, 6, 7, 8, 9, 10, 11] rfl (run_N X hP hD hS [1, 2, 3, 4, 5, 6, 7, 8, 9, 10, 11] rfl rfl (c_X0_endsOf l D cI aS (fun k => ad (1 + k)) now_size now_year now_kinds_size now_kinds now_figures_size now_figures now_styles_size now_styles now_writing_size now_writing now_enders_size now_enders v3_28 _ hq44 _) lkX4_173 (by decide) (q0 := 1) rfl rfl rfl rfl (Nat.le_of_ble_eq_true rfl) hl.1 dX4_ending_44) (fun H locs hP hS => ?_)
      refine lv_iload_n hx hb dX4_ending_47 rfl (lv_at hl 1 rfl) ?_
      refine lv_icmp_ne (tgt := 54) hx hb dX4_ending_48 (by decide) (fun c48 => ?_) (fun c48 => ?_)
      · have hf := iF c48 hf
        exact w_X4_ending_54 ad isKept now_size now_year now_kinds_size now_kinds now_figures_size now_figures now_styles_size now_styles now_writing_size now_writing now_enders_size now_enders refusals_size x1 refusals_u28 X hret _ ih v2_28 v3_28 _ _ _ hf (lv_sub hl [0, 1, 2, 3] rfl) hP hD hS
      · have hf := iT c48 hf
        refine lv_iinc (v := (v2_28 + (1 : Int32))) (lv' := [(2, .int (v2_28 + (1 : Int32))), (0, .ref (ad 0)), (1, .int x1), (3, .int v3_28)]) hx hb dX4_ending_51 hl (k := 2) rfl rfl (by decide) rfl (fun ls hl => ?_)
        exact w_X4_ending_54 ad isKept now_size now_year now_kinds_size now_kinds now_figures_size now_figures now_styles_size now_styles now_writing_size now_writing now_enders_size now_enders refusals_size x1 refusals_u28 X hret _ ih (v2_28 + (1 : Int32)) v3_28 _ _ _ hf (lv_sub hl [1, 2, 0, 3] rfl) hP hD hS
set_option maxHeartbeats 4000000 in
set_option maxRecDepth 100000 in
theorem c_X4_ending (l : Launch) (D : va_G) (cI : ClassId) (aS : aSt) (ad : Nat → Nat) (isKept : Int32) (now_size : Int32) (now_year : Int32) (now_kinds_size : Int32) (now_kinds : (Nat → Int32)) (now_figures_size : Int32) (now_figures : (Nat → Int32)) (now_styles_size : Int32) (now_styles : (Nat → Int32)) (now_writing_size : Int32) (now_writing : (Nat → Int32)) (now_enders_size : Int32) (now_enders : (Nat → Int32)) (refusals_size : Int32) (refusals : (Nat → Int32)) (x1 : Int32) (R : Int32 × (Nat → Int32)) (hf : f_X4_ending now_size now_year now_kinds now_figures now_styles now_writing now_enders refusals x1 = some R) : CtI l yX4_ending cX4_ending 4 (some .int) 4 D cI aS [.ref (ad 0), .int x1] (wd_X4_ending cI ad isKept now_size now_year now_kinds_size now_kinds now_figures_size now_figures now_styles_size now_styles now_writing_size now_writing now_enders_size now_enders refusals_size refusals) (wd_X4_ending cI ad isKept now_size now_year now_kinds_size now_kinds now_figures_size now_figures now_styles_size now_styles now_writing_size now_writing now_enders_size now_enders refusals_size R.2) R.1 := by
  refine ctI_of (by decide) ⟨_, rfl⟩ (Nat.le_of_ble_eq_true rfl) ?_
  intro p e s m below meth c A Q ls X hret hP hD hl
  have hS : va_S A s.heap s.heap [] := va_S.rf
  have hx := X.1
  have hb := X.2.1
  have hl : lv_has ls 4 [(0, .ref (ad 0)), (1, .int x1)] := hl
  replace hf : (if 0 ≤ x1 then (if x1 < (10 : Int32) then (f_X4_ending_28 now_size now_year now_kinds now_figures now_styles now_writing now_enders x1 refusals  FU (0 : Int32) (0 : Int32)) else ((f_X4_refused refusals (-6 : Int32)).bind fun (r20 : Int32 × (Nat → Int32)) => (some (r20.1, r20.2)))) else ((f_X4_refused refusals (-4 : Int32)).bind fun (r7 : Int32 × (Nat → Int32)) => (some (r7.1, r7.2)))) = some R := hf
  refine lv_iload_n hx hb dX4_ending_0 rfl (lv_at hl 1 rfl) ?_
  refine lv_if_ge (tgt := 11) hx hb dX4_ending_1 (by decide) (fun c1 => ?_) (fun c1 => ?_)
  · have hf := iT c1 hf
    refine lv_iload_n hx hb dX4_ending_11 rfl (lv_at hl 1 rfl) ?_
    refine lv_bipush (v := 10) hx hb dX4_ending_12 (by decide) ?_
    refine lv_icmp_lt (tgt := 24) hx hb dX4_ending_14 (by decide) (fun c14 => ?_) (fun c14 => ?_)
    · have hf := iT c14 hf
      refine lv_iconst (v := 0) hx hb dX4_ending_24 (by decide) ?_
      refine lv_istore_n (lv' := [(2, .int (0 : Int32)), (0, .ref (ad 0)), (1, .int x1)]) hx hb dX4_ending_25 rfl hl (by decide) rfl (fun ls hl => ?_)
      refine lv_iconst (v := 0) hx hb dX4_ending_26 (by decide) ?_
      refine lv_istore_n (lv' := [(3, .int (0 : Int32)), (2, .int (0 : Int32)), (0, .ref (ad 0)), (1, .int x1)]) hx hb dX4_ending_27 rfl hl (by decide) rfl (fun ls hl => ?_)
      exact w_X4_ending_28 ad isKept now_size now_year now_kinds_size now_kinds now_figures_size now_figures now_styles_size now_styles now_writing_size now_writing now_enders_size now_enders refusals_size x1 refusals X hret  _ (0 : Int32) (0 : Int32) _ _ _ hf (lv_sub hl [2, 3, 1, 0] rfl) hP hD hS
    · have hf := iF c14 hf
      refine lv_aload_n hx hb dX4_ending_17 rfl (lv_at hl 0 rfl) ?_
      refine lv_bipush (v := -6) hx hb dX4_ending_18 (by decide) ?_
      obtain ⟨r20, hq20, hf⟩ := bS hf
      refine wr_i X hP hD hS [0, 12, 13] rfl (ws' := (wd_X4_ending cI ad isKept now_size now_year now_kinds_size now_kinds now_figures_size now_figures now_styles_size now_styles now_writing_size now_writing now_enders_size now_enders refusals_size r20.2)) (Nat.le_of_ble_eq_true rfl) rfl rfl (run_V X hP hD hS [0, 12, 13] rfl rfl (c_X4_refused l D cI aS ad isKept refusals_size refusals (-6 : Int32) _ hq20 _) lkX4_58 (by decide) (q0 := 0) rfl rfl rfl rfl (Nat.le_of_ble_eq_true rfl) hl.1 dX4_ending_20) (fun H locs hP hD hS => ?_)
      have hR := Option.some.inj hf
      subst hR
      exact hret _ _ _ _ _ rfl (fun _ hn => by cases hn; rfl) hP hD hS dX4_ending_23
  · have hf := iF c1 hf
    refine lv_aload_n hx hb dX4_ending_4 rfl (lv_at hl 0 rfl) ?_
    refine lv_bipush (v := -4) hx hb dX4_ending_5 (by decide) ?_
    obtain ⟨r7, hq7, hf⟩ := bS hf
    refine wr_i X hP hD hS [0, 12, 13] rfl (ws' := (wd_X4_ending cI ad isKept now_size now_year now_kinds_size now_kinds now_figures_size now_figures now_styles_size now_styles now_writing_size now_writing now_enders_size now_enders refusals_size r7.2)) (Nat.le_of_ble_eq_true rfl) rfl rfl (run_V X hP hD hS [0, 12, 13] rfl rfl (c_X4_refused l D cI aS ad isKept refusals_size refusals (-4 : Int32) _ hq7 _) lkX4_58 (by decide) (q0 := 0) rfl rfl rfl rfl (Nat.le_of_ble_eq_true rfl) hl.1 dX4_ending_7) (fun H locs hP hD hS => ?_)
    have hR := Option.some.inj hf
    subst hR
    exact hret _ _ _ _ _ rfl (fun _ hn => by cases hn; rfl) hP hD hS dX4_ending_10

abbrev wd_X4_worstRead (cI : ClassId) (ad : Nat → Nat) (isKept : Int32) (now_size : Int32) (now_year : Int32) (now_kinds_size : Int32) (now_kinds : (Nat → Int32)) (now_figures_size : Int32) (now_figures : (Nat → Int32)) (now_styles_size : Int32) (now_styles : (Nat → Int32)) (now_writing_size : Int32) (now_writing : (Nat → Int32)) (now_enders_size : Int32) (now_enders : (Nat → Int32)) : va_W := [((ad 0), .inr (4, [.ref (ad 1), .ref (ad 16), .ref (ad 31), .int isKept, .ref (ad 46), .ref (ad 49), .ref (ad 51), .ref (ad 53), .ref (ad 55), .ref (ad 57)])), ((ad 1), .inr (0, [.ref (ad 2), .ref (ad 4), .ref (ad 6), .ref (ad 8), .ref (ad 10), .ref (ad 12), .ref (ad 14), .int now_size, .int now_year])), ((ad 2), .inr (3, [.ref (ad 3), .int now_kinds_size])), ((ad 3), .inl (cI, 7, .inl now_kinds)), ((ad 4), .inr (3, [.ref (ad 5), .int now_figures_size])), ((ad 5), .inl (cI, 7, .inl now_figures)), ((ad 6), .inr (3, [.ref (ad 7), .int now_styles_size])), ((ad 7), .inl (cI, 7, .inl now_styles)), ((ad 10), .inr (3, [.ref (ad 11), .int now_writing_size])), ((ad 11), .inl (cI, 7, .inl now_writing)), ((ad 14), .inr (3, [.ref (ad 15), .int now_enders_size])), ((ad 15), .inl (cI, 7, .inl now_enders))]
def f_X4_worstRead_54  (kL5 : Int32 → Int32 → Option (Int32)) (v1_54 : Int32) (v2_54 : Int32) : Option (Int32) := (kL5 v1_54 (v2_54 + (1 : Int32)))
def f_X4_worstRead_52  (kL5 : Int32 → Int32 → Option (Int32)) (v2_52 : Int32) : Option (Int32) := (f_X4_worstRead_54  kL5 v2_52 v2_52)
def f_X4_worstRead_5 (now_size : Int32) (now_year : Int32) (now_kinds : (Nat → Int32)) (now_figures : (Nat → Int32)) (now_styles : (Nat → Int32)) (now_writing : (Nat → Int32)) (now_enders : (Nat → Int32))  : Nat → Int32 → Int32 → Option (Int32)
  | 0 => fun _ _ => none
  | fuel + 1 => fun v1_5 v2_5 => (if now_size ≤ v2_5 then (some v1_5) else ((f_X0_isEnded now_writing now_enders v2_5).bind fun (r21 : Int32) => (if r21 = 0 then (f_X4_worstRead_54  (f_X4_worstRead_5 now_size now_year now_kinds now_figures now_styles now_writing now_enders  fuel) v1_5 v2_5) else (if v1_5 = (-9 : Int32) then (f_X4_worstRead_52  (f_X4_worstRead_5 now_size now_year now_kinds now_figures now_styles now_writing now_enders  fuel) v2_5) else ((f_X0_worthOf now_year now_kinds now_figures now_styles now_writing now_enders v2_5).bind fun (r38 : Int32) => ((f_X0_worthOf now_year now_kinds now_figures now_styles now_writing now_enders v1_5).bind fun (r46 : Int32) => (if r46 ≤ r38 then (f_X4_worstRead_54  (f_X4_worstRead_5 now_size now_year now_kinds now_figures now_styles now_writing now_enders  fuel) v1_5 v2_5) else (f_X4_worstRead_52  (f_X4_worstRead_5 now_size now_year now_kinds now_figures now_styles now_writing now_enders  fuel) v2_5))))))))
theorem e_X4_worstRead_5 (now_size : Int32) (now_year : Int32) (now_kinds : (Nat → Int32)) (now_figures : (Nat → Int32)) (now_styles : (Nat → Int32)) (now_writing : (Nat → Int32)) (now_enders : (Nat → Int32))  (fuel : Nat) (v1_5 : Int32) (v2_5 : Int32) : f_X4_worstRead_5 now_size now_year now_kinds now_figures now_styles now_writing now_enders  (fuel + 1) v1_5 v2_5 = (if now_size ≤ v2_5 then (some v1_5) else ((f_X0_isEnded now_writing now_enders v2_5).bind fun (r21 : Int32) => (if r21 = 0 then (f_X4_worstRead_54  (f_X4_worstRead_5 now_size now_year now_kinds now_figures now_styles now_writing now_enders  fuel) v1_5 v2_5) else (if v1_5 = (-9 : Int32) then (f_X4_worstRead_52  (f_X4_worstRead_5 now_size now_year now_kinds now_figures now_styles now_writing now_enders  fuel) v2_5) else ((f_X0_worthOf now_year now_kinds now_figures now_styles now_writing now_enders v2_5).bind fun (r38 : Int32) => ((f_X0_worthOf now_year now_kinds now_figures now_styles now_writing now_enders v1_5).bind fun (r46 : Int32) => (if r46 ≤ r38 then (f_X4_worstRead_54  (f_X4_worstRead_5 now_size now_year now_kinds now_figures now_styles now_writing now_enders  fuel) v1_5 v2_5) else (f_X4_worstRead_52  (f_X4_worstRead_5 now_size now_year now_kinds now_figures now_styles now_writing now_enders  fuel) v2_5)))))))) := rfl
def f_X4_worstRead (now_size : Int32) (now_year : Int32) (now_kinds : (Nat → Int32)) (now_figures : (Nat → Int32)) (now_styles : (Nat → Int32)) (now_writing : (Nat → Int32)) (now_enders : (Nat → Int32)) : Option (Int32) := (f_X4_worstRead_5 now_size now_year now_kinds now_figures now_styles now_writing now_enders  FU (-9 : Int32) (0 : Int32))
set_option maxHeartbeats 4000000 in
set_option maxRecDepth 100000 in
theorem w_X4_worstRead_54 {p : Program} {l : Launch} {e : Env} {s : State} {m : MethodId} {args : Array Value} {below : List Frame} {meth : Method} {c : Code} {D : va_G} {cI : ClassId} {aS : aSt} {A : Nat → Prop} {Q : State → Prop}  (ad : Nat → Nat) (isKept : Int32) (now_size : Int32) (now_year : Int32) (now_kinds_size : Int32) (now_kinds : (Nat → Int32)) (now_figures_size : Int32) (now_figures : (Nat → Int32)) (now_styles_size : Int32) (now_styles : (Nat → Int32)) (now_writing_size : Int32) (now_writing : (Nat → Int32)) (now_enders_size : Int32) (now_enders : (Nat → Int32)) {R : Int32} (X : Bx p s m args meth c cX4_worstRead 3 (some .int) RX4 D cI aS A) (hret : RtI p l e 4 s m args below meth c cX4_worstRead (some .int) D A (wd_X4_worstRead cI ad isKept now_size now_year now_kinds_size now_kinds now_figures_size now_figures now_styles_size now_styles now_writing_size now_writing now_enders_size now_enders) R Q) (kL5 : Int32 → Int32 → Option (Int32)) (hkL5 : ∀ (v1_5 : Int32) (v2_5 : Int32) (H : Heap) (locs : List Loc) (ls : Array Slot), kL5 v1_5 v2_5 = some R → lv_has ls 3 [(0, .ref (ad 0)), (1, .int v1_5), (2, .int v2_5)] → va_P D vwCl (wd_X4_worstRead cI ad isKept now_size now_year now_kinds_size now_kinds now_figures_size now_figures now_styles_size now_styles now_writing_size now_writing now_enders_size now_enders) H → va_D A (wd_X4_worstRead cI ad isKept now_size now_year now_kinds_size now_kinds now_figures_size now_figures now_styles_size now_styles now_writing_size now_writing now_enders_size now_enders) → va_S A s.heap H locs → Wh p l e 4 s m args below meth c H locs Q (F0 m 5 ls [])) : ∀ (v1_54 : Int32) (v2_54 : Int32) (H : Heap) (locs : List Loc) (ls : Array Slot), f_X4_worstRead_54  kL5 v1_54 v2_54 = some R → lv_has ls 3 [(0, .ref (ad 0)), (1, .int v1_54), (2, .int v2_54)] → va_P D vwCl (wd_X4_worstRead cI ad isKept now_size now_year now_kinds_size now_kinds now_figures_size now_figures now_styles_size now_styles now_writing_size now_writing now_enders_size now_enders) H → va_D A (wd_X4_worstRead cI ad isKept now_size now_year now_kinds_size now_kinds now_figures_size now_figures now_styles_size now_styles now_writing_size now_writing now_enders_size now_enders) → va_S A s.heap H locs → Wh p l e 4 s m args below meth c H locs Q (F0 m 54 ls []) := by
  have hx := X.1
  have hb := X.2.1
  intro v1_54 v2_54 H locs ls hf hl hP hD hS
  replace hf : (kL5 v1_54 (v2_54 + (1 : Int32))) = some R := hf
  refine lv_iinc (v := (v2_54 + (1 : Int32))) (lv' := [(2, .int (v2_54 + (1 : Int32))), (0, .ref (ad 0)), (1, .int v1_54)]) hx hb dX4_worstRead_54 hl (k := 2) rfl rfl (by decide) rfl (fun ls hl => ?_)
  refine lv_goto (tgt := 5) hx hb dX4_worstRead_57 (by decide) ?_
  exact hkL5 v1_54 (v2_54 + (1 : Int32)) _ _ _ hf (lv_sub hl [1, 2, 0] rfl) hP hD hS
set_option maxHeartbeats 4000000 in
set_option maxRecDepth 100000 in
theorem w_X4_worstRead_52 {p : Program} {l : Launch} {e : Env} {s : State} {m : MethodId} {args : Array Value} {below : List Frame} {meth : Method} {c : Code} {D : va_G} {cI : ClassId} {aS : aSt} {A : Nat → Prop} {Q : State → Prop}  (ad : Nat → Nat) (isKept : Int32) (now_size : Int32) (now_year : Int32) (now_kinds_size : Int32) (now_kinds : (Nat → Int32)) (now_figures_size : Int32) (now_figures : (Nat → Int32)) (now_styles_size : Int32) (now_styles : (Nat → Int32)) (now_writing_size : Int32) (now_writing : (Nat → Int32)) (now_enders_size : Int32) (now_enders : (Nat → Int32)) {R : Int32} (X : Bx p s m args meth c cX4_worstRead 3 (some .int) RX4 D cI aS A) (hret : RtI p l e 4 s m args below meth c cX4_worstRead (some .int) D A (wd_X4_worstRead cI ad isKept now_size now_year now_kinds_size now_kinds now_figures_size now_figures now_styles_size now_styles now_writing_size now_writing now_enders_size now_enders) R Q) (kL5 : Int32 → Int32 → Option (Int32)) (hkL5 : ∀ (v1_5 : Int32) (v2_5 : Int32) (H : Heap) (locs : List Loc) (ls : Array Slot), kL5 v1_5 v2_5 = some R → lv_has ls 3 [(0, .ref (ad 0)), (1, .int v1_5), (2, .int v2_5)] → va_P D vwCl (wd_X4_worstRead cI ad isKept now_size now_year now_kinds_size now_kinds now_figures_size now_figures now_styles_size now_styles now_writing_size now_writing now_enders_size now_enders) H → va_D A (wd_X4_worstRead cI ad isKept now_size now_year now_kinds_size now_kinds now_figures_size now_figures now_styles_size now_styles now_writing_size now_writing now_enders_size now_enders) → va_S A s.heap H locs → Wh p l e 4 s m args below meth c H locs Q (F0 m 5 ls [])) : ∀ (v2_52 : Int32) (H : Heap) (locs : List Loc) (ls : Array Slot), f_X4_worstRead_52  kL5 v2_52 = some R → lv_has ls 3 [(0, .ref (ad 0)), (2, .int v2_52)] → va_P D vwCl (wd_X4_worstRead cI ad isKept now_size now_year now_kinds_size now_kinds now_figures_size now_figures now_styles_size now_styles now_writing_size now_writing now_enders_size now_enders) H → va_D A (wd_X4_worstRead cI ad isKept now_size now_year now_kinds_size now_kinds now_figures_size now_figures now_styles_size now_styles now_writing_size now_writing now_enders_size now_enders) → va_S A s.heap H locs → Wh p l e 4 s m args below meth c H locs Q (F0 m 52 ls []) := by
  have hx := X.1
  have hb := X.2.1
  intro v2_52 H locs ls hf hl hP hD hS
  replace hf : (f_X4_worstRead_54  kL5 v2_52 v2_52) = some R := hf
  refine lv_iload_n hx hb dX4_worstRead_52 rfl (lv_at hl 1 rfl) ?_
  refine lv_istore_n (lv' := [(1, .int v2_52), (0, .ref (ad 0)), (2, .int v2_52)]) hx hb dX4_worstRead_53 rfl hl (by decide) rfl (fun ls hl => ?_)
  exact w_X4_worstRead_54 ad isKept now_size now_year now_kinds_size now_kinds now_figures_size now_figures now_styles_size now_styles now_writing_size now_writing now_enders_size now_enders X hret _ hkL5 v2_52 v2_52 _ _ _ hf (lv_sub hl [1, 0, 2] rfl) hP hD hS
set_option maxHeartbeats 4000000 in
set_option maxRecDepth 100000 in
theorem w_X4_worstRead_5 {p : Program} {l : Launch} {e : Env} {s : State} {m : MethodId} {args : Array Value} {below : List Frame} {meth : Method} {c : Code} {D : va_G} {cI : ClassId} {aS : aSt} {A : Nat → Prop} {Q : State → Prop}  (ad : Nat → Nat) (isKept : Int32) (now_size : Int32) (now_year : Int32) (now_kinds_size : Int32) (now_kinds : (Nat → Int32)) (now_figures_size : Int32) (now_figures : (Nat → Int32)) (now_styles_size : Int32) (now_styles : (Nat → Int32)) (now_writing_size : Int32) (now_writing : (Nat → Int32)) (now_enders_size : Int32) (now_enders : (Nat → Int32)) {R : Int32} (X : Bx p s m args meth c cX4_worstRead 3 (some .int) RX4 D cI aS A) (hret : RtI p l e 4 s m args below meth c cX4_worstRead (some .int) D A (wd_X4_worstRead cI ad isKept now_size now_year now_kinds_size now_kinds now_figures_size now_figures now_styles_size now_styles now_writing_size now_writing now_enders_size now_enders) R Q) : ∀ (fuel : Nat) (v1_5 : Int32) (v2_5 : Int32) (H : Heap) (locs : List Loc) (ls : Array Slot), f_X4_worstRead_5 now_size now_year now_kinds now_figures now_styles now_writing now_enders  fuel v1_5 v2_5 = some R → lv_has ls 3 [(0, .ref (ad 0)), (1, .int v1_5), (2, .int v2_5)] → va_P D vwCl (wd_X4_worstRead cI ad isKept now_size now_year now_kinds_size now_kinds now_figures_size now_figures now_styles_size now_styles now_writing_size now_writing now_enders_size now_enders) H → va_D A (wd_X4_worstRead cI ad isKept now_size now_year now_kinds_size now_kinds now_figures_size now_figures now_styles_size now_styles now_writing_size now_writing now_enders_size now_enders) → va_S A s.heap H locs → Wh p l e 4 s m args below meth c H locs Q (F0 m 5 ls []) := by
  have hx := X.1
  have hb := X.2.1
  intro fuel
  induction fuel with
  | zero =>
    intro v1_5 v2_5 H locs ls hf hl hP hD hS
    cases hf
  | succ fuel ih =>
    intro v1_5 v2_5 H locs ls hf hl hP hD hS
    replace hf : (if now_size ≤ v2_5 then (some v1_5) else ((f_X0_isEnded now_writing now_enders v2_5).bind fun (r21 : Int32) => (if r21 = 0 then (f_X4_worstRead_54  (f_X4_worstRead_5 now_size now_year now_kinds now_figures now_styles now_writing now_enders  fuel) v1_5 v2_5) else (if v1_5 = (-9 : Int32) then (f_X4_worstRead_52  (f_X4_worstRead_5 now_size now_year now_kinds now_figures now_styles now_writing now_enders  fuel) v2_5) else ((f_X0_worthOf now_year now_kinds now_figures now_styles now_writing now_enders v2_5).bind fun (r38 : Int32) => ((f_X0_worthOf now_year now_kinds now_figures now_styles now_writing now_enders v1_5).bind fun (r46 : Int32) => (if r46 ≤ r38 then (f_X4_worstRead_54  (f_X4_worstRead_5 now_size now_year now_kinds now_figures now_styles now_writing now_enders  fuel) v1_5 v2_5) else (f_X4_worstRead_52  (f_X4_worstRead_5 now_size now_year now_kinds now_figures now_styles now_writing now_enders  fuel) v2_5)))))))) = some R := hf
    refine lv_iload_n hx hb dX4_worstRead_5 rfl (lv_at hl 2 rfl) ?_
    refine lv_aload_n hx hb dX4_worstRead_6 rfl (lv_at hl 0 rfl) ?_
    refine fgX4_10 X hP (q0 := 0) rfl rfl dX4_worstRead_7 ?_
    refine fgX4_108 X hP (q0 := 1) rfl rfl dX4_worstRead_10 ?_
    refine lv_icmp_ge (tgt := 60) hx hb dX4_worstRead_13 (by decide) (fun c13 => ?_) (fun c13 => ?_)
    · have hf := iT c13 hf
      refine lv_iload_n hx hb dX4_worstRead_60 rfl (lv_at hl 1 rfl) ?_
      have hR := Option.some.inj hf
      subst hR
      exact hret _ _ _ _ _ rfl (fun _ hn => by cases hn; rfl) hP hD hS dX4_worstRead_61
    · have hf := iF c13 hf
      refine lv_aload_n hx hb dX4_worstRead_16 rfl (lv_at hl 0 rfl) ?_
      refine fgX4_10 X hP (q0 := 0) rfl rfl dX4_worstRead_17 ?_
      refine lv_iload_n hx hb dX4_worstRead_20 rfl (lv_at hl 2 rfl) ?_
      obtain ⟨r21, hq21, hf⟩ := bS hf
      refine ro_i X hP hD hS [1, 8, 9, 10, 11] rfl (run_N X hP hD hS [1, 8, 9, 10, 11] rfl rfl (c_X0_isEnded l D cI aS (fun k => ad (1 + k)) now_size now_year now_writing_size now_writing now_enders_size now_enders v2_5 _ hq21 _) lkX4_207 (by decide) (q0 := 1) rfl rfl rfl rfl (Nat.le_of_ble_eq_true rfl) hl.1 dX4_worstRead_21) (fun H locs hP hS => ?_)
      refine lv_if_eq (tgt := 54) hx hb dX4_worstRead_24 (by decide) (fun c24 => ?_) (fun c24 => ?_)
      · have hf := iT c24 hf
        exact w_X4_worstRead_54 ad isKept now_size now_year now_kinds_size now_kinds now_figures_size now_figures now_styles_size now_styles now_writing_size now_writing now_enders_size now_enders X hret _ ih v1_5 v2_5 _ _ _ hf (lv_sub hl [0, 1, 2] rfl) hP hD hS
      · have hf := iF c24 hf
        refine lv_iload_n hx hb dX4_worstRead_27 rfl (lv_at hl 1 rfl) ?_
        refine lv_bipush (v := -9) hx hb dX4_worstRead_28 (by decide) ?_
        refine lv_icmp_eq (tgt := 52) hx hb dX4_worstRead_30 (by decide) (fun c30 => ?_) (fun c30 => ?_)
        · have hf := iT c30 hf
          exact w_X4_worstRead_52 ad isKept now_size now_year now_kinds_size now_kinds now_figures_size now_figures now_styles_size now_styles now_writing_size now_writing now_enders_size now_enders X hret _ ih v2_5 _ _ _ hf (lv_sub hl [0, 2] rfl) hP hD hS
        · have hf := iF c30 hf
          refine lv_aload_n hx hb dX4_worstRead_33 rfl (lv_at hl 0 rfl) ?_
          refine fgX4_10 X hP (q0 := 0) rfl rfl dX4_worstRead_34 ?_
          refine lv_iload_n hx hb dX4_worstRead_37 rfl (lv_at hl 2 rfl) ?_
          obtain ⟨r38, hq38, hf⟩ := bS hf
          refine ro_i X hP hD hS [1, 2, 3, 4, 5, 6, 7, 8, 9, 10, 11] rfl (run_N X hP hD hS [1, 2, 3, 4, 5, 6, 7, 8, 9, 10, 11] rfl rfl (c_X0_worthOf l D cI aS (fun k => ad (1 + k)) now_size now_year now_kinds_size now_kinds now_figures_size now_figures now_styles_size now_styles now_writing_size now_writing now_enders_size now_enders v2_5 _ hq38 _) lkX4_176 (by decide) (q0 := 1) rfl rfl rfl rfl (Nat.le_of_ble_eq_true rfl) hl.1 dX4_worstRead_38) (fun H locs hP hS => ?_)
          refine lv_aload_n hx hb dX4_worstRead_41 rfl (lv_at hl 0 rfl) ?_
          refine fgX4_10 X hP (q0 := 0) rfl rfl dX4_worstRead_42 ?_
          refine lv_iload_n hx hb dX4_worstRead_45 rfl (lv_at hl 1 rfl) ?_
          obtain ⟨r46, hq46, hf⟩ := bS hf
          refine ro_i X hP hD hS [1, 2, 3, 4, 5, 6, 7, 8, 9, 10, 11] rfl (run_N X hP hD hS [1, 2, 3, 4, 5, 6, 7, 8, 9, 10, 11] rfl rfl (c_X0_worthOf l D cI aS (fun k => ad (1 + k)) now_size now_year now_kinds_size now_kinds now_figures_size now_figures now_styles_size now_styles now_writing_size now_writing now_enders_size now_enders v1_5 _ hq46 _) lkX4_176 (by decide) (q0 := 1) rfl rfl rfl rfl (Nat.le_of_ble_eq_true rfl) hl.1 dX4_worstRead_46) (fun H locs hP hS => ?_)
          refine lv_icmp_ge (tgt := 54) hx hb dX4_worstRead_49 (by decide) (fun c49 => ?_) (fun c49 => ?_)
          · have hf := iT c49 hf
            exact w_X4_worstRead_54 ad isKept now_size now_year now_kinds_size now_kinds now_figures_size now_figures now_styles_size now_styles now_writing_size now_writing now_enders_size now_enders X hret _ ih v1_5 v2_5 _ _ _ hf (lv_sub hl [0, 1, 2] rfl) hP hD hS
          · have hf := iF c49 hf
            exact w_X4_worstRead_52 ad isKept now_size now_year now_kinds_size now_kinds now_figures_size now_figures now_styles_size now_styles now_writing_size now_writing now_enders_size now_enders X hret _ ih v2_5 _ _ _ hf (lv_sub hl [0, 2] rfl) hP hD hS
set_option maxHeartbeats 4000000 in
set_option maxRecDepth 100000 in
theorem c_X4_worstRead (l : Launch) (D : va_G) (cI : ClassId) (aS : aSt) (ad : Nat → Nat) (isKept : Int32) (now_size : Int32) (now_year : Int32) (now_kinds_size : Int32) (now_kinds : (Nat → Int32)) (now_figures_size : Int32) (now_figures : (Nat → Int32)) (now_styles_size : Int32) (now_styles : (Nat → Int32)) (now_writing_size : Int32) (now_writing : (Nat → Int32)) (now_enders_size : Int32) (now_enders : (Nat → Int32)) (R : Int32) (hf : f_X4_worstRead now_size now_year now_kinds now_figures now_styles now_writing now_enders = some R) : CtI l yX4_worstRead cX4_worstRead 3 (some .int) 4 D cI aS [.ref (ad 0)] (wd_X4_worstRead cI ad isKept now_size now_year now_kinds_size now_kinds now_figures_size now_figures now_styles_size now_styles now_writing_size now_writing now_enders_size now_enders) (wd_X4_worstRead cI ad isKept now_size now_year now_kinds_size now_kinds now_figures_size now_figures now_styles_size now_styles now_writing_size now_writing now_enders_size now_enders) R := by
  refine ctI_of (by decide) ⟨_, rfl⟩ (Nat.le_of_ble_eq_true rfl) ?_
  intro p e s m below meth c A Q ls X hret hP hD hl
  have hS : va_S A s.heap s.heap [] := va_S.rf
  have hx := X.1
  have hb := X.2.1
  have hl : lv_has ls 3 [(0, .ref (ad 0))] := hl
  replace hf : (f_X4_worstRead_5 now_size now_year now_kinds now_figures now_styles now_writing now_enders  FU (-9 : Int32) (0 : Int32)) = some R := hf
  refine lv_bipush (v := -9) hx hb dX4_worstRead_0 (by decide) ?_
  refine lv_istore_n (lv' := [(1, .int (-9 : Int32)), (0, .ref (ad 0))]) hx hb dX4_worstRead_2 rfl hl (by decide) rfl (fun ls hl => ?_)
  refine lv_iconst (v := 0) hx hb dX4_worstRead_3 (by decide) ?_
  refine lv_istore_n (lv' := [(2, .int (0 : Int32)), (1, .int (-9 : Int32)), (0, .ref (ad 0))]) hx hb dX4_worstRead_4 rfl hl (by decide) rfl (fun ls hl => ?_)
  exact w_X4_worstRead_5 ad isKept now_size now_year now_kinds_size now_kinds now_figures_size now_figures now_styles_size now_styles now_writing_size now_writing now_enders_size now_enders X hret  _ (-9 : Int32) (0 : Int32) _ _ _ hf (lv_sub hl [2, 1, 0] rfl) hP hD hS

abbrev wd_X4_join (cI : ClassId) (ad : Nat → Nat) (isKept : Int32) (now_size : Int32) (now_year : Int32) (now_kinds_size : Int32) (now_kinds : (Nat → Int32)) (now_figures_size : Int32) (now_figures : (Nat → Int32)) (now_styles_size : Int32) (now_styles : (Nat → Int32)) (now_writing_size : Int32) (now_writing : (Nat → Int32)) (now_enders_size : Int32) (now_enders : (Nat → Int32)) : va_W := [((ad 0), .inr (4, [.ref (ad 1), .ref (ad 16), .ref (ad 31), .int isKept, .ref (ad 46), .ref (ad 49), .ref (ad 51), .ref (ad 53), .ref (ad 55), .ref (ad 57)])), ((ad 1), .inr (0, [.ref (ad 2), .ref (ad 4), .ref (ad 6), .ref (ad 8), .ref (ad 10), .ref (ad 12), .ref (ad 14), .int now_size, .int now_year])), ((ad 2), .inr (3, [.ref (ad 3), .int now_kinds_size])), ((ad 3), .inl (cI, 7, .inl now_kinds)), ((ad 4), .inr (3, [.ref (ad 5), .int now_figures_size])), ((ad 5), .inl (cI, 7, .inl now_figures)), ((ad 6), .inr (3, [.ref (ad 7), .int now_styles_size])), ((ad 7), .inl (cI, 7, .inl now_styles)), ((ad 10), .inr (3, [.ref (ad 11), .int now_writing_size])), ((ad 11), .inl (cI, 7, .inl now_writing)), ((ad 14), .inr (3, [.ref (ad 15), .int now_enders_size])), ((ad 15), .inl (cI, 7, .inl now_enders))]
def f_X4_join (now_size : Int32) (now_year : Int32) (now_kinds : (Nat → Int32)) (now_figures : (Nat → Int32)) (now_styles : (Nat → Int32)) (now_writing : (Nat → Int32)) (now_enders : (Nat → Int32)) : Option (Int32) := ((f_X4_worstRead now_size now_year now_kinds now_figures now_styles now_writing now_enders).bind fun (r1 : Int32) => (some r1))
set_option maxHeartbeats 4000000 in
set_option maxRecDepth 100000 in
theorem c_X4_join (l : Launch) (D : va_G) (cI : ClassId) (aS : aSt) (ad : Nat → Nat) (isKept : Int32) (now_size : Int32) (now_year : Int32) (now_kinds_size : Int32) (now_kinds : (Nat → Int32)) (now_figures_size : Int32) (now_figures : (Nat → Int32)) (now_styles_size : Int32) (now_styles : (Nat → Int32)) (now_writing_size : Int32) (now_writing : (Nat → Int32)) (now_enders_size : Int32) (now_enders : (Nat → Int32)) (R : Int32) (hf : f_X4_join now_size now_year now_kinds now_figures now_styles now_writing now_enders = some R) : CtI l yX4_join cX4_join 1 (some .int) 5 D cI aS [.ref (ad 0)] (wd_X4_join cI ad isKept now_size now_year now_kinds_size now_kinds now_figures_size now_figures now_styles_size now_styles now_writing_size now_writing now_enders_size now_enders) (wd_X4_join cI ad isKept now_size now_year now_kinds_size now_kinds now_figures_size now_figures now_styles_size now_styles now_writing_size now_writing now_enders_size now_enders) R := by
  refine ctI_of (by decide) ⟨_, rfl⟩ (Nat.le_of_ble_eq_true rfl) ?_
  intro p e s m below meth c A Q ls X hret hP hD hl
  have hS : va_S A s.heap s.heap [] := va_S.rf
  have hx := X.1
  have hb := X.2.1
  have hl : lv_has ls 1 [(0, .ref (ad 0))] := hl
  replace hf : ((f_X4_worstRead now_size now_year now_kinds now_figures now_styles now_writing now_enders).bind fun (r1 : Int32) => (some r1)) = some R := hf
  refine lv_aload_n hx hb dX4_join_0 rfl (lv_at hl 0 rfl) ?_
  obtain ⟨r1, hq1, hf⟩ := bS hf
  refine ro_i X hP hD hS [0, 1, 2, 3, 4, 5, 6, 7, 8, 9, 10, 11] rfl (run_V X hP hD hS [0, 1, 2, 3, 4, 5, 6, 7, 8, 9, 10, 11] rfl rfl (c_X4_worstRead l D cI aS ad isKept now_size now_year now_kinds_size now_kinds now_figures_size now_figures now_styles_size now_styles now_writing_size now_writing now_enders_size now_enders _ hq1 _) lkX4_204 (by decide) (q0 := 0) rfl rfl rfl rfl (Nat.le_of_ble_eq_true rfl) hl.1 dX4_join_1) (fun H locs hP hS => ?_)
  have hR := Option.some.inj hf
  subst hR
  exact hret _ _ _ _ _ rfl (fun _ hn => by cases hn; rfl) hP hD hS dX4_join_4

abbrev wd_X4_mutual (cI : ClassId) (ad : Nat → Nat) (isKept : Int32) (now_size : Int32) (now_year : Int32) (now_enders_size : Int32) (now_enders : (Nat → Int32)) : va_W := [((ad 0), .inr (4, [.ref (ad 1), .ref (ad 16), .ref (ad 31), .int isKept, .ref (ad 46), .ref (ad 49), .ref (ad 51), .ref (ad 53), .ref (ad 55), .ref (ad 57)])), ((ad 1), .inr (0, [.ref (ad 2), .ref (ad 4), .ref (ad 6), .ref (ad 8), .ref (ad 10), .ref (ad 12), .ref (ad 14), .int now_size, .int now_year])), ((ad 14), .inr (3, [.ref (ad 15), .int now_enders_size])), ((ad 15), .inl (cI, 7, .inl now_enders))]
def f_X4_mutual_50  (kL4 : Int32 → Int32 → Option (Int32)) (v1_50 : Int32) (v2_50 : Int32) : Option (Int32) := (kL4 v1_50 (v2_50 + (1 : Int32)))
def f_X4_mutual_4 (now_size : Int32) (now_enders : (Nat → Int32))  : Nat → Int32 → Int32 → Option (Int32)
  | 0 => fun _ _ => none
  | fuel + 1 => fun v1_4 v2_4 => (if now_size ≤ v2_4 then (some v1_4) else ((f_X3_get 7 now_enders v2_4).bind fun (r23 : Int32) => (if r23 ≤ v2_4 then (f_X4_mutual_50  (f_X4_mutual_4 now_size now_enders  fuel) v1_4 v2_4) else ((f_X3_get 7 now_enders r23).bind fun (r40 : Int32) => (if r40 = v2_4 then (f_X4_mutual_50  (f_X4_mutual_4 now_size now_enders  fuel) (v1_4 + (1 : Int32)) v2_4) else (f_X4_mutual_50  (f_X4_mutual_4 now_size now_enders  fuel) v1_4 v2_4))))))
theorem e_X4_mutual_4 (now_size : Int32) (now_enders : (Nat → Int32))  (fuel : Nat) (v1_4 : Int32) (v2_4 : Int32) : f_X4_mutual_4 now_size now_enders  (fuel + 1) v1_4 v2_4 = (if now_size ≤ v2_4 then (some v1_4) else ((f_X3_get 7 now_enders v2_4).bind fun (r23 : Int32) => (if r23 ≤ v2_4 then (f_X4_mutual_50  (f_X4_mutual_4 now_size now_enders  fuel) v1_4 v2_4) else ((f_X3_get 7 now_enders r23).bind fun (r40 : Int32) => (if r40 = v2_4 then (f_X4_mutual_50  (f_X4_mutual_4 now_size now_enders  fuel) (v1_4 + (1 : Int32)) v2_4) else (f_X4_mutual_50  (f_X4_mutual_4 now_size now_enders  fuel) v1_4 v2_4)))))) := rfl
def f_X4_mutual (now_size : Int32) (now_enders : (Nat → Int32)) : Option (Int32) := (f_X4_mutual_4 now_size now_enders  FU (0 : Int32) (0 : Int32))
set_option maxHeartbeats 4000000 in
set_option maxRecDepth 100000 in
theorem w_X4_mutual_50 {p : Program} {l : Launch} {e : Env} {s : State} {m : MethodId} {args : Array Value} {below : List Frame} {meth : Method} {c : Code} {D : va_G} {cI : ClassId} {aS : aSt} {A : Nat → Prop} {Q : State → Prop}  (ad : Nat → Nat) (isKept : Int32) (now_size : Int32) (now_year : Int32) (now_enders_size : Int32) (now_enders : (Nat → Int32)) {R : Int32} (X : Bx p s m args meth c cX4_mutual 4 (some .int) RX4 D cI aS A) (hret : RtI p l e 1 s m args below meth c cX4_mutual (some .int) D A (wd_X4_mutual cI ad isKept now_size now_year now_enders_size now_enders) R Q) (kL4 : Int32 → Int32 → Option (Int32)) (hkL4 : ∀ (v1_4 : Int32) (v2_4 : Int32) (H : Heap) (locs : List Loc) (ls : Array Slot), kL4 v1_4 v2_4 = some R → lv_has ls 4 [(0, .ref (ad 0)), (1, .int v1_4), (2, .int v2_4)] → va_P D vwCl (wd_X4_mutual cI ad isKept now_size now_year now_enders_size now_enders) H → va_D A (wd_X4_mutual cI ad isKept now_size now_year now_enders_size now_enders) → va_S A s.heap H locs → Wh p l e 1 s m args below meth c H locs Q (F0 m 4 ls [])) : ∀ (v1_50 : Int32) (v2_50 : Int32) (H : Heap) (locs : List Loc) (ls : Array Slot), f_X4_mutual_50  kL4 v1_50 v2_50 = some R → lv_has ls 4 [(0, .ref (ad 0)), (1, .int v1_50), (2, .int v2_50)] → va_P D vwCl (wd_X4_mutual cI ad isKept now_size now_year now_enders_size now_enders) H → va_D A (wd_X4_mutual cI ad isKept now_size now_year now_enders_size now_enders) → va_S A s.heap H locs → Wh p l e 1 s m args below meth c H locs Q (F0 m 50 ls []) := by
  have hx := X.1
  have hb := X.2.1
  intro v1_50 v2_50 H locs ls hf hl hP hD hS
  replace hf : (kL4 v1_50 (v2_50 + (1 : Int32))) = some R := hf
  refine lv_iinc (v := (v2_50 + (1 : Int32))) (lv' := [(2, .int (v2_50 + (1 : Int32))), (0, .ref (ad 0)), (1, .int v1_50)]) hx hb dX4_mutual_50 hl (k := 2) rfl rfl (by decide) rfl (fun ls hl => ?_)
  refine lv_goto (tgt := 4) hx hb dX4_mutual_53 (by decide) ?_
  exact hkL4 v1_50 (v2_50 + (1 : Int32)) _ _ _ hf (lv_sub hl [1, 2, 0] rfl) hP hD hS
set_option maxHeartbeats 4000000 in
set_option maxRecDepth 100000 in
theorem w_X4_mutual_4 {p : Program} {l : Launch} {e : Env} {s : State} {m : MethodId} {args : Array Value} {below : List Frame} {meth : Method} {c : Code} {D : va_G} {cI : ClassId} {aS : aSt} {A : Nat → Prop} {Q : State → Prop}  (ad : Nat → Nat) (isKept : Int32) (now_size : Int32) (now_year : Int32) (now_enders_size : Int32) (now_enders : (Nat → Int32)) {R : Int32} (X : Bx p s m args meth c cX4_mutual 4 (some .int) RX4 D cI aS A) (hret : RtI p l e 1 s m args below meth c cX4_mutual (some .int) D A (wd_X4_mutual cI ad isKept now_size now_year now_enders_size now_enders) R Q) : ∀ (fuel : Nat) (v1_4 : Int32) (v2_4 : Int32) (H : Heap) (locs : List Loc) (ls : Array Slot), f_X4_mutual_4 now_size now_enders  fuel v1_4 v2_4 = some R → lv_has ls 4 [(0, .ref (ad 0)), (1, .int v1_4), (2, .int v2_4)] → va_P D vwCl (wd_X4_mutual cI ad isKept now_size now_year now_enders_size now_enders) H → va_D A (wd_X4_mutual cI ad isKept now_size now_year now_enders_size now_enders) → va_S A s.heap H locs → Wh p l e 1 s m args below meth c H locs Q (F0 m 4 ls []) := by
  have hx := X.1
  have hb := X.2.1
  intro fuel
  induction fuel with
  | zero =>
    intro v1_4 v2_4 H locs ls hf hl hP hD hS
    cases hf
  | succ fuel ih =>
    intro v1_4 v2_4 H locs ls hf hl hP hD hS
    replace hf : (if now_size ≤ v2_4 then (some v1_4) else ((f_X3_get 7 now_enders v2_4).bind fun (r23 : Int32) => (if r23 ≤ v2_4 then (f_X4_mutual_50  (f_X4_mutual_4 now_size now_enders  fuel) v1_4 v2_4) else ((f_X3_get 7 now_enders r23).bind fun (r40 : Int32) => (if r40 = v2_4 then (f_X4_mutual_50  (f_X4_mutual_4 now_size now_enders  fuel) (v1_4 + (1 : Int32)) v2_4) else (f_X4_mutual_50  (f_X4_mutual_4 now_size now_enders  fuel) v1_4 v2_4)))))) = some R := hf
    refine lv_iload_n hx hb dX4_mutual_4 rfl (lv_at hl 2 rfl) ?_
    refine lv_aload_n hx hb dX4_mutual_5 rfl (lv_at hl 0 rfl) ?_
    refine fgX4_10 X hP (q0 := 0) rfl rfl dX4_mutual_6 ?_
    refine fgX4_108 X hP (q0 := 1) rfl rfl dX4_mutual_9 ?_
    refine lv_icmp_ge (tgt := 56) hx hb dX4_mutual_12 (by decide) (fun c12 => ?_) (fun c12 => ?_)
    · have hf := iT c12 hf
      refine lv_iload_n hx hb dX4_mutual_56 rfl (lv_at hl 1 rfl) ?_
      have hR := Option.some.inj hf
      subst hR
      exact hret _ _ _ _ _ rfl (fun _ hn => by cases hn; rfl) hP hD hS dX4_mutual_57
    · have hf := iF c12 hf
      refine lv_aload_n hx hb dX4_mutual_15 rfl (lv_at hl 0 rfl) ?_
      refine fgX4_10 X hP (q0 := 0) rfl rfl dX4_mutual_16 ?_
      refine fgX4_157 X hP (q0 := 1) rfl rfl dX4_mutual_19 ?_
      refine lv_iload_n hx hb dX4_mutual_22 rfl (lv_at hl 2 rfl) ?_
      obtain ⟨r23, hq23, hf⟩ := bS hf
      refine ro_i X hP hD hS [2, 3] rfl (run_N X hP hD hS [2, 3] rfl rfl (c_X3_get l D cI aS (fun k => ad (14 + k)) 7 now_enders_size now_enders v2_4 _ hq23 _) lkX4_105 (by decide) (q0 := 2) rfl rfl rfl rfl (Nat.le_of_ble_eq_true rfl) hl.1 dX4_mutual_23) (fun H locs hP hS => ?_)
      refine lv_istore_n (lv' := [(3, .int r23), (0, .ref (ad 0)), (1, .int v1_4), (2, .int v2_4)]) hx hb dX4_mutual_26 rfl hl (by decide) rfl (fun ls hl => ?_)
      refine lv_iload_n hx hb dX4_mutual_27 rfl (lv_at hl 0 rfl) ?_
      refine lv_iload_n hx hb dX4_mutual_28 rfl (lv_at hl 3 rfl) ?_
      refine lv_icmp_le (tgt := 50) hx hb dX4_mutual_29 (by decide) (fun c29 => ?_) (fun c29 => ?_)
      · have hf := iT c29 hf
        exact w_X4_mutual_50 ad isKept now_size now_year now_enders_size now_enders X hret _ ih v1_4 v2_4 _ _ _ hf (lv_sub hl [1, 2, 3] rfl) hP hD hS
      · have hf := iF c29 hf
        refine lv_aload_n hx hb dX4_mutual_32 rfl (lv_at hl 1 rfl) ?_
        refine fgX4_10 X hP (q0 := 0) rfl rfl dX4_mutual_33 ?_
        refine fgX4_157 X hP (q0 := 1) rfl rfl dX4_mutual_36 ?_
        refine lv_iload_n hx hb dX4_mutual_39 rfl (lv_at hl 0 rfl) ?_
        obtain ⟨r40, hq40, hf⟩ := bS hf
        refine ro_i X hP hD hS [2, 3] rfl (run_N X hP hD hS [2, 3] rfl rfl (c_X3_get l D cI aS (fun k => ad (14 + k)) 7 now_enders_size now_enders r23 _ hq40 _) lkX4_105 (by decide) (q0 := 2) rfl rfl rfl rfl (Nat.le_of_ble_eq_true rfl) hl.1 dX4_mutual_40) (fun H locs hP hS => ?_)
        refine lv_iload_n hx hb dX4_mutual_43 rfl (lv_at hl 3 rfl) ?_
        refine lv_icmp_ne (tgt := 50) hx hb dX4_mutual_44 (by decide) (fun c44 => ?_) (fun c44 => ?_)
        · have hf := iF c44 hf
          exact w_X4_mutual_50 ad isKept now_size now_year now_enders_size now_enders X hret _ ih v1_4 v2_4 _ _ _ hf (lv_sub hl [1, 2, 3] rfl) hP hD hS
        · have hf := iT c44 hf
          refine lv_iinc (v := (v1_4 + (1 : Int32))) (lv' := [(1, .int (v1_4 + (1 : Int32))), (3, .int r23), (0, .ref (ad 0)), (2, .int v2_4)]) hx hb dX4_mutual_47 hl (k := 2) rfl rfl (by decide) rfl (fun ls hl => ?_)
          exact w_X4_mutual_50 ad isKept now_size now_year now_enders_size now_enders X hret _ ih (v1_4 + (1 : Int32)) v2_4 _ _ _ hf (lv_sub hl [2, 0, 3] rfl) hP hD hS
set_option maxHeartbeats 4000000 in
set_option maxRecDepth 100000 in
theorem c_X4_mutual (l : Launch) (D : va_G) (cI : ClassId) (aS : aSt) (ad : Nat → Nat) (isKept : Int32) (now_size : Int32) (now_year : Int32) (now_enders_size : Int32) (now_enders : (Nat → Int32)) (R : Int32) (hf : f_X4_mutual now_size now_enders = some R) : CtI l yX4_mutual cX4_mutual 4 (some .int) 1 D cI aS [.ref (ad 0)] (wd_X4_mutual cI ad isKept now_size now_year now_enders_size now_enders) (wd_X4_mutual cI ad isKept now_size now_year now_enders_size now_enders) R := by
  refine ctI_of (by decide) ⟨_, rfl⟩ (Nat.le_of_ble_eq_true rfl) ?_
  intro p e s m below meth c A Q ls X hret hP hD hl
  have hS : va_S A s.heap s.heap [] := va_S.rf
  have hx := X.1
  have hb := X.2.1
  have hl : lv_has ls 4 [(0, .ref (ad 0))] := hl
  replace hf : (f_X4_mutual_4 now_size now_enders  FU (0 : Int32) (0 : Int32)) = some R := hf
  refine lv_iconst (v := 0) hx hb dX4_mutual_0 (by decide) ?_
  refine lv_istore_n (lv' := [(1, .int (0 : Int32)), (0, .ref (ad 0))]) hx hb dX4_mutual_1 rfl hl (by decide) rfl (fun ls hl => ?_)
  refine lv_iconst (v := 0) hx hb dX4_mutual_2 (by decide) ?_
  refine lv_istore_n (lv' := [(2, .int (0 : Int32)), (1, .int (0 : Int32)), (0, .ref (ad 0))]) hx hb dX4_mutual_3 rfl hl (by decide) rfl (fun ls hl => ?_)
  exact w_X4_mutual_4 ad isKept now_size now_year now_enders_size now_enders X hret  _ (0 : Int32) (0 : Int32) _ _ _ hf (lv_sub hl [2, 1, 0] rfl) hP hD hS

abbrev wd_X4_read (cI : ClassId) (ad : Nat → Nat) (isKept : Int32) (now_size : Int32) (now_year : Int32) (now_kinds_size : Int32) (now_kinds : (Nat → Int32)) (now_figures_size : Int32) (now_figures : (Nat → Int32)) (now_styles_size : Int32) (now_styles : (Nat → Int32)) (now_writing_size : Int32) (now_writing : (Nat → Int32)) (now_enders_size : Int32) (now_enders : (Nat → Int32)) (refusals_size : Int32) (refusals : (Nat → Int32)) : va_W := [((ad 0), .inr (4, [.ref (ad 1), .ref (ad 16), .ref (ad 31), .int isKept, .ref (ad 46), .ref (ad 49), .ref (ad 51), .ref (ad 53), .ref (ad 55), .ref (ad 57)])), ((ad 1), .inr (0, [.ref (ad 2), .ref (ad 4), .ref (ad 6), .ref (ad 8), .ref (ad 10), .ref (ad 12), .ref (ad 14), .int now_size, .int now_year])), ((ad 2), .inr (3, [.ref (ad 3), .int now_kinds_size])), ((ad 3), .inl (cI, 7, .inl now_kinds)), ((ad 4), .inr (3, [.ref (ad 5), .int now_figures_size])), ((ad 5), .inl (cI, 7, .inl now_figures)), ((ad 6), .inr (3, [.ref (ad 7), .int now_styles_size])), ((ad 7), .inl (cI, 7, .inl now_styles)), ((ad 10), .inr (3, [.ref (ad 11), .int now_writing_size])), ((ad 11), .inl (cI, 7, .inl now_writing)), ((ad 14), .inr (3, [.ref (ad 15), .int now_enders_size])), ((ad 15), .inl (cI, 7, .inl now_enders)), ((ad 51), .inr (3, [.ref (ad 52), .int refusals_size])), ((ad 52), .inl (cI, 7, .inl refusals))]
def f_X4_read_16 (now_size : Int32) (now_year : Int32) (now_kinds : (Nat → Int32)) (now_figures : (Nat → Int32)) (now_styles : (Nat → Int32)) (now_writing : (Nat → Int32)) (now_enders : (Nat → Int32)) (x1 : Int32)  (refusals_16 : (Nat → Int32)) : Option (Int32 × (Nat → Int32)) := (if x1 = 0 then ((f_X4_bestRead now_size now_year now_kinds now_figures now_styles now_writing now_enders).bind fun (r21 : Int32) => (some (r21, refusals_16))) else ((f_X4_worstRead now_size now_year now_kinds now_figures now_styles now_writing now_enders).bind fun (r28 : Int32) => (some (r28, refusals_16))))
def f_X4_read (now_size : Int32) (now_year : Int32) (now_kinds : (Nat → Int32)) (now_figures : (Nat → Int32)) (now_styles : (Nat → Int32)) (now_writing : (Nat → Int32)) (now_enders : (Nat → Int32)) (refusals : (Nat → Int32)) (x1 : Int32) : Option (Int32 × (Nat → Int32)) := (if x1 = 0 then (f_X4_read_16 now_size now_year now_kinds now_figures now_styles now_writing now_enders x1  refusals) else (if x1 = (1 : Int32) then (f_X4_read_16 now_size now_year now_kinds now_figures now_styles now_writing now_enders x1  refusals) else ((f_X4_refused refusals (-2 : Int32)).bind fun (r12 : Int32 × (Nat → Int32)) => (some (r12.1, r12.2)))))
set_option maxHeartbeats 4000000 in
set_option maxRecDepth 100000 in
theorem w_X4_read_16 {p : Program} {l : Launch} {e : Env} {s : State} {m : MethodId} {args : Array Value} {below : List Frame} {meth : Method} {c : Code} {D : va_G} {cI : ClassId} {aS : aSt} {A : Nat → Prop} {Q : State → Prop}  (ad : Nat → Nat) (isKept : Int32) (now_size : Int32) (now_year : Int32) (now_kinds_size : Int32) (now_kinds : (Nat → Int32)) (now_figures_size : Int32) (now_figures : (Nat → Int32)) (now_styles_size : Int32) (now_styles : (Nat → Int32)) (now_writing_size : Int32) (now_writing : (Nat → Int32)) (now_enders_size : Int32) (now_enders : (Nat → Int32)) (refusals_size : Int32) (x1 : Int32) {R : Int32 × (Nat → Int32)} (X : Bx p s m args meth c cX4_read 2 (some .int) RX4 D cI aS A) (hret : RtI p l e 5 s m args below meth c cX4_read (some .int) D A (wd_X4_read cI ad isKept now_size now_year now_kinds_size now_kinds now_figures_size now_figures now_styles_size now_styles now_writing_size now_writing now_enders_size now_enders refusals_size R.2) R.1 Q) : ∀ (refusals_16 : (Nat → Int32)) (H : Heap) (locs : List Loc) (ls : Array Slot), f_X4_read_16 now_size now_year now_kinds now_figures now_styles now_writing now_enders x1  refusals_16 = some R → lv_has ls 2 [(0, .ref (ad 0)), (1, .int x1)] → va_P D vwCl (wd_X4_read cI ad isKept now_size now_year now_kinds_size now_kinds now_figures_size now_figures now_styles_size now_styles now_writing_size now_writing now_enders_size now_enders refusals_size refusals_16) H → va_D A (wd_X4_read cI ad isKept now_size now_year now_kinds_size now_kinds now_figures_size now_figures now_styles_size now_styles now_writing_size now_writing now_enders_size now_enders refusals_size refusals_16) → va_S A s.heap H locs → Wh p l e 5 s m args below meth c H locs Q (F0 m 16 ls []) := by
  have hx := X.1
  have hb := X.2.1
  intro refusals_16 H locs ls hf hl hP hD hS
  replace hf : (if x1 = 0 then ((f_X4_bestRead now_size now_year now_kinds now_figures now_styles now_writing now_enders).bind fun (r21 : Int32) => (some (r21, refusals_16))) else ((f_X4_worstRead now_size now_year now_kinds now_figures now_styles now_writing now_enders).bind fun (r28 : Int32) => (some (r28, refusals_16)))) = some R := hf
  refine lv_iload_n hx hb dX4_read_16 rfl (lv_at hl 1 rfl) ?_
  refine lv_if_ne (tgt := 27) hx hb dX4_read_17 (by decide) (fun c17 => ?_) (fun c17 => ?_)
  · have hf := iF c17 hf
    refine lv_aload_n hx hb dX4_read_27 rfl (lv_at hl 0 rfl) ?_
    obtain ⟨r28, hq28, hf⟩ := bS hf
    refine ro_i X hP hD hS [0, 1, 2, 3, 4, 5, 6, 7, 8, 9, 10, 11] rfl (run_V X hP hD hS [0, 1, 2, 3, 4, 5, 6, 7, 8, 9, 10, 11] rfl rfl (c_X4_worstRead l D cI aS ad isKept now_size now_year now_kinds_size now_kinds now_figures_size now_figures now_styles_size now_styles now_writing_size now_writing now_enders_size now_enders _ hq28 _) lkX4_204 (by decide) (q0 := 0) rfl rfl rfl rfl (Nat.le_of_ble_eq_true rfl) hl.1 dX4_read_28) (fun H locs hP hS => ?_)
    have hR := Option.some.inj hf
    subst hR
    exact hret _ _ _ _ _ rfl (fun _ hn => by cases hn; rfl) hP hD hS dX4_read_31
  · have hf := iT c17 hf
    refine lv_aload_n hx hb dX4_read_20 rfl (lv_at hl 0 rfl) ?_
    obtain ⟨r21, hq21, hf⟩ := bS hf
    refine ro_i X hP hD hS [0, 1, 2, 3, 4, 5, 6, 7, 8, 9, 10, 11] rfl (run_V X hP hD hS [0, 1, 2, 3, 4, 5, 6, 7, 8, 9, 10, 11] rfl rfl (c_X4_bestRead l D cI aS ad isKept now_size now_year now_kinds_size now_kinds now_figures_size now_figures now_styles_size now_styles now_writing_size now_writing now_enders_size now_enders _ hq21 _) lkX4_201 (by decide) (q0 := 0) rfl rfl rfl rfl (Nat.le_of_ble_eq_true rfl) hl.1 dX4_read_21) (fun H locs hP hS => ?_)
    refine lv_goto (tgt := 31) hx hb dX4_read_24 (by decide) ?_
    have hR := Option.some.inj hf
    subst hR
    exact hret _ _ _ _ _ rfl (fun _ hn => by cases hn; rfl) hP hD hS dX4_read_31
set_option maxHeartbeats 4000000 in
set_option maxRecDepth 100000 in
theorem c_X4_read (l : Launch) (D : va_G) (cI : ClassId) (aS : aSt) (ad : Nat → Nat) (isKept : Int32) (now_size : Int32) (now_year : Int32) (now_kinds_size : Int32) (now_kinds : (Nat → Int32)) (now_figures_size : Int32) (now_figures : (Nat → Int32)) (now_styles_size : Int32) (now_styles : (Nat → Int32)) (now_writing_size : Int32) (now_writing : (Nat → Int32)) (now_enders_size : Int32) (now_enders : (Nat → Int32)) (refusals_size : Int32) (refusals : (Nat → Int32)) (x1 : Int32) (R : Int32 × (Nat → Int32)) (hf : f_X4_read now_size now_year now_kinds now_figures now_styles now_writing now_enders refusals x1 = some R) : CtI l yX4_read cX4_read 2 (some .int) 5 D cI aS [.ref (ad 0), .int x1] (wd_X4_read cI ad isKept now_size now_year now_kinds_size now_kinds now_figures_size now_figures now_styles_size now_styles now_writing_size now_writing now_enders_size now_enders refusals_size refusals) (wd_X4_read cI ad isKept now_size now_year now_kinds_size now_kinds now_figures_size now_figures now_styles_size now_styles now_writing_size now_writing now_enders_size now_enders refusals_size R.2) R.1 := by
  refine ctI_of (by decide) ⟨_, rfl⟩ (Nat.le_of_ble_eq_true rfl) ?_
  intro p e s m below meth c A Q ls X hret hP hD hl
  have hS : va_S A s.heap s.heap [] := va_S.rf
  have hx := X.1
  have hb := X.2.1
  have hl : lv_has ls 2 [(0, .ref (ad 0)), (1, .int x1)] := hl
  replace hf : (if x1 = 0 then (f_X4_read_16 now_size now_year now_kinds now_figures now_styles now_writing now_enders x1  refusals) else (if x1 = (1 : Int32) then (f_X4_read_16 now_size now_year now_kinds now_figures now_styles now_writing now_enders x1  refusals) else ((f_X4_refused refusals (-2 : Int32)).bind fun (r12 : Int32 × (Nat → Int32)) => (some (r12.1, r12.2))))) = some R := hf
  refine lv_iload_n hx hb dX4_read_0 rfl (lv_at hl 1 rfl) ?_
  refine lv_if_eq (tgt := 16) hx hb dX4_read_1 (by decide) (fun c1 => ?_) (fun c1 => ?_)
  · have hf := iT c1 hf
    exact w_X4_read_16 ad isKept now_size now_year now_kinds_size now_kinds now_figures_size now_figures now_styles_size now_styles now_writing_size now_writing now_enders_size now_enders refusals_size x1 X hret  refusals _ _ _ hf (lv_sub hl [0, 1] rfl) hP hD hS
  · have hf := iF c1 hf
    refine lv_iload_n hx hb dX4_read_4 rfl (lv_at hl 1 rfl) ?_
    refine lv_iconst (v := 1) hx hb dX4_read_5 (by decide) ?_
    refine lv_icmp_eq (tgt := 16) hx hb dX4_read_6 (by decide) (fun c6 => ?_) (fun c6 => ?_)
    · have hf := iT c6 hf
      exact w_X4_read_16 ad isKept now_size now_year now_kinds_size now_kinds now_figures_size now_figures now_styles_size now_styles now_writing_size now_writing now_enders_size now_enders refusals_size x1 X hret  refusals _ _ _ hf (lv_sub hl [0, 1] rfl) hP hD hS
    · have hf := iF c6 hf
      refine lv_aload_n hx hb dX4_read_9 rfl (lv_at hl 0 rfl) ?_
      refine lv_bipush (v := -2) hx hb dX4_read_10 (by decide) ?_
      obtain ⟨r12, hq12, hf⟩ := bS hf
      refine wr_i X hP hD hS [0, 12, 13] rfl (ws' := (wd_X4_read cI ad isKept now_size now_year now_kinds_size now_kinds now_figures_size now_figures now_styles_size now_styles now_writing_size now_writing now_enders_size now_enders refusals_size r12.2)) (Nat.le_of_ble_eq_true rfl) rfl rfl (run_V X hP hD hS [0, 12, 13] rfl rfl (c_X4_refused l D cI aS ad isKept refusals_size refusals (-2 : Int32) _ hq12 _) lkX4_58 (by decide) (q0 := 0) rfl rfl rfl rfl (Nat.le_of_ble_eq_true rfl) hl.1 dX4_read_12) (fun H locs hP hD hS => ?_)
      have hR := Option.some.inj hf
      subst hR
      exact hret _ _ _ _ _ rfl (fun _ hn => by cases hn; rfl) hP hD hS dX4_read_15

abbrev wd_X4_same (cI : ClassId) (ad : Nat → Nat) (isKept : Int32) (now_size : Int32) (now_year : Int32) (now_styles_size : Int32) (now_styles : (Nat → Int32)) (now_writing_size : Int32) (now_writing : (Nat → Int32)) (refusals_size : Int32) (refusals : (Nat → Int32)) : va_W := [((ad 0), .inr (4, [.ref (ad 1), .ref (ad 16), .ref (ad 31), .int isKept, .ref (ad 46), .ref (ad 49), .ref (ad 51), .ref (ad 53), .ref (ad 55), .ref (ad 57)])), ((ad 1), .inr (0, [.ref (ad 2), .ref (ad 4), .ref (ad 6), .ref (ad 8), .ref (ad 10), .ref (ad 12), .ref (ad 14), .int now_size, .int now_year])), ((ad 6), .inr (3, [.ref (ad 7), .int now_styles_size])), ((ad 7), .inl (cI, 7, .inl now_styles)), ((ad 10), .inr (3, [.ref (ad 11), .int now_writing_size])), ((ad 11), .inl (cI, 7, .inl now_writing)), ((ad 51), .inr (3, [.ref (ad 52), .int refusals_size])), ((ad 52), .inl (cI, 7, .inl refusals))]
def f_X4_same_90  (kL42 : Int32 → Int32 → Int32 → Option (Int32 × (Nat → Int32))) (v2_90 : Int32) (v3_90 : Int32) (v5_90 : Int32) : Option (Int32 × (Nat → Int32)) := (kL42 v2_90 v3_90 (v5_90 + (1 : Int32)))
def f_X4_same_89  (kL42 : Int32 → Int32 → Int32 → Option (Int32 × (Nat → Int32))) (v2_89 : Int32) (v5_89 : Int32) (t0_89 : Int32) : Option (Int32 × (Nat → Int32)) := (f_X4_same_90  kL42 v2_89 t0_89 v5_89)
def f_X4_same_42 (now_size : Int32) (now_year : Int32) (now_styles : (Nat → Int32)) (now_writing : (Nat → Int32)) (u4_42 : Int32) (kX42_96 : Int32 → Int32 → Option (Int32 × (Nat → Int32))) : Nat → Int32 → Int32 → Int32 → Option (Int32 × (Nat → Int32))
  | 0 => fun _ _ _ => none
  | fuel + 1 => fun v2_42 v3_42 v5_42 => (if now_size ≤ v5_42 then (kX42_96 v2_42 v3_42) else ((f_X0_openAlike now_year now_styles now_writing u4_42 v5_42).bind fun (r62 : Int32) => (if r62 = 0 then (f_X4_same_90  (f_X4_same_42 now_size now_year now_styles now_writing u4_42 kX42_96 fuel) v2_42 v3_42 v5_42) else (if v3_42 = (-9 : Int32) then (f_X4_same_89  (f_X4_same_42 now_size now_year now_styles now_writing u4_42 kX42_96 fuel) (v2_42 + (1 : Int32)) v5_42 (((10 : Int32) * u4_42) + v5_42)) else (f_X4_same_89  (f_X4_same_42 now_size now_year now_styles now_writing u4_42 kX42_96 fuel) (v2_42 + (1 : Int32)) v5_42 v3_42)))))
theorem e_X4_same_42 (now_size : Int32) (now_year : Int32) (now_styles : (Nat → Int32)) (now_writing : (Nat → Int32)) (u4_42 : Int32) (kX42_96 : Int32 → Int32 → Option (Int32 × (Nat → Int32))) (fuel : Nat) (v2_42 : Int32) (v3_42 : Int32) (v5_42 : Int32) : f_X4_same_42 now_size now_year now_styles now_writing u4_42 kX42_96 (fuel + 1) v2_42 v3_42 v5_42 = (if now_size ≤ v5_42 then (kX42_96 v2_42 v3_42) else ((f_X0_openAlike now_year now_styles now_writing u4_42 v5_42).bind fun (r62 : Int32) => (if r62 = 0 then (f_X4_same_90  (f_X4_same_42 now_size now_year now_styles now_writing u4_42 kX42_96 fuel) v2_42 v3_42 v5_42) else (if v3_42 = (-9 : Int32) then (f_X4_same_89  (f_X4_same_42 now_size now_year now_styles now_writing u4_42 kX42_96 fuel) (v2_42 + (1 : Int32)) v5_42 (((10 : Int32) * u4_42) + v5_42)) else (f_X4_same_89  (f_X4_same_42 now_size now_year now_styles now_writing u4_42 kX42_96 fuel) (v2_42 + (1 : Int32)) v5_42 v3_42))))) := rfl
def f_X4_same_96  (kL24 : Int32 → Int32 → Int32 → Option (Int32 × (Nat → Int32))) (v2_96 : Int32) (v3_96 : Int32) (v4_96 : Int32) : Option (Int32 × (Nat → Int32)) := (kL24 v2_96 v3_96 (v4_96 + (1 : Int32)))
def f_X4_same_24 (now_size : Int32) (now_year : Int32) (now_styles : (Nat → Int32)) (now_writing : (Nat → Int32)) (kX24_102 : Int32 → Int32 → Option (Int32 × (Nat → Int32))) : Nat → Int32 → Int32 → Int32 → Option (Int32 × (Nat → Int32))
  | 0 => fun _ _ _ => none
  | fuel + 1 => fun v2_24 v3_24 v4_24 => (if now_size ≤ v4_24 then (kX24_102 v2_24 v3_24) else (f_X4_same_42 now_size now_year now_styles now_writing v4_24 (fun (v2_96 : Int32) (v3_96 : Int32) => (f_X4_same_96  (f_X4_same_24 now_size now_year now_styles now_writing kX24_102 fuel) v2_96 v3_96 v4_24)) FU v2_24 v3_24 (v4_24 + (1 : Int32))))
theorem e_X4_same_24 (now_size : Int32) (now_year : Int32) (now_styles : (Nat → Int32)) (now_writing : (Nat → Int32)) (kX24_102 : Int32 → Int32 → Option (Int32 × (Nat → Int32))) (fuel : Nat) (v2_24 : Int32) (v3_24 : Int32) (v4_24 : Int32) : f_X4_same_24 now_size now_year now_styles now_writing kX24_102 (fuel + 1) v2_24 v3_24 v4_24 = (if now_size ≤ v4_24 then (kX24_102 v2_24 v3_24) else (f_X4_same_42 now_size now_year now_styles now_writing v4_24 (fun (v2_96 : Int32) (v3_96 : Int32) => (f_X4_same_96  (f_X4_same_24 now_size now_year now_styles now_writing kX24_102 fuel) v2_96 v3_96 v4_24)) FU v2_24 v3_24 (v4_24 + (1 : Int32)))) := rfl
def f_X4_same_102 (x1 : Int32)  (v2_102 : Int32) (v3_102 : Int32) (refusals_102 : (Nat → Int32)) : Option (Int32 × (Nat → Int32)) := (if x1 = 0 then (some (v2_102, refusals_102)) else (some (v3_102, refusals_102)))
def f_X4_same_16 (now_size : Int32) (now_year : Int32) (now_styles : (Nat → Int32)) (now_writing : (Nat → Int32)) (x1 : Int32)  (refusals_16 : (Nat → Int32)) : Option (Int32 × (Nat → Int32)) := (f_X4_same_24 now_size now_year now_styles now_writing (fun (v2_102 : Int32) (v3_102 : Int32) => (f_X4_same_102 x1  v2_102 v3_102 refusals_16)) FU (0 : Int32) (-9 : Int32) (0 : Int32))
def f_X4_same (now_size : Int32) (now_year : Int32) (now_styles : (Nat → Int32)) (now_writing : (Nat → Int32)) (refusals : (Nat → Int32)) (x1 : Int32) : Option (Int32 × (Nat → Int32)) := (if x1 = 0 then (f_X4_same_16 now_size now_year now_styles now_writing x1  refusals) else (if x1 = (1 : Int32) then (f_X4_same_16 now_size now_year now_styles now_writing x1  refusals) else ((f_X4_refused refusals (-2 : Int32)).bind fun (r12 : Int32 × (Nat → Int32)) => (some (r12.1, r12.2)))))
set_option maxHeartbeats 4000000 in
set_option maxRecDepth 100000 in
theorem w_X4_same_90 {p : Program} {l : Launch} {e : Env} {s : State} {m : MethodId} {args : Array Value} {below : List Frame} {meth : Method} {c : Code} {D : va_G} {cI : ClassId} {aS : aSt} {A : Nat → Prop} {Q : State → Prop}  (ad : Nat → Nat) (isKept : Int32) (now_size : Int32) (now_year : Int32) (now_styles_size : Int32) (now_styles : (Nat → Int32)) (now_writing_size : Int32) (now_writing : (Nat → Int32)) (refusals_size : Int32) (x1 : Int32) (refusals_u24 : (Nat → Int32)) (u4_42 : Int32) {R : Int32 × (Nat → Int32)} (X : Bx p s m args meth c cX4_same 6 (some .int) RX4 D cI aS A) (hret : RtI p l e 3 s m args below meth c cX4_same (some .int) D A (wd_X4_same cI ad isKept now_size now_year now_styles_size now_styles now_writing_size now_writing refusals_size R.2) R.1 Q) (kL42 : Int32 → Int32 → Int32 → Option (Int32 × (Nat → Int32))) (hkL42 : ∀ (v2_42 : Int32) (v3_42 : Int32) (v5_42 : Int32) (H : Heap) (locs : List Loc) (ls : Array Slot), kL42 v2_42 v3_42 v5_42 = some R → lv_has ls 6 [(0, .ref (ad 0)), (1, .int x1), (2, .int v2_42), (3, .int v3_42), (4, .int u4_42), (5, .int v5_42)] → va_P D vwCl (wd_X4_same cI ad isKept now_size now_year now_styles_size now_styles now_writing_size now_writing refusals_size refusals_u24) H → va_D A (wd_X4_same cI ad isKept now_size now_year now_styles_size now_styles now_writing_size now_writing refusals_size refusals_u24) → va_S A s.heap H locs → Wh p l e 3 s m args below meth c H locs Q (F0 m 42 ls [])) : ∀ (v2_90 : Int32) (v3_90 : Int32) (v5_90 : Int32) (H : Heap) (locs : List Loc) (ls : Array Slot), f_X4_same_90  kL42 v2_90 v3_90 v5_90 = some R → lv_has ls 6 [(0, .ref (ad 0)), (1, .int x1), (2, .int v2_90), (3, .int v3_90), (4, .int u4_42), (5, .int v5_90)] → va_P D vwCl (wd_X4_same cI ad isKept now_size now_year now_styles_size now_styles now_writing_size now_writing refusals_size refusals_u24) H → va_D A (wd_X4_same cI ad isKept now_size now_year now_styles_size now_styles now_writing_size now_writing refusals_size refusals_u24) → va_S A s.heap H locs → Wh p l e 3 s m args below meth c H locs Q (F0 m 90 ls []) := by
  have hx := X.1
  have hb := X.2.1
  intro v2_90 v3_90 v5_90 H locs ls hf hl hP hD hS
  replace hf : (kL42 v2_90 v3_90 (v5_90 + (1 : Int32))) = some R := hf
  refine lv_iinc (v := (v5_90 + (1 : Int32))) (lv' := [(5, .int (v5_90 + (1 : Int32))), (0, .ref (ad 0)), (1, .int x1), (2, .int v2_90), (3, .int v3_90), (4, .int u4_42)]) hx hb dX4_same_90 hl (k := 5) rfl rfl (by decide) rfl (fun ls hl => ?_)
  refine lv_goto (tgt := 42) hx hb dX4_same_93 (by decide) ?_
  exact hkL42 v2_90 v3_90 (v5_90 + (1 : Int32)) _ _ _ hf (lv_sub hl [1, 2, 3, 4, 5, 0] rfl) hP hD hS
set_option maxHeartbeats 4000000 in
set_option maxRecDepth 100000 in
theorem w_X4_same_89 {p : Program} {l : Launch} {e : Env} {s : State} {m : MethodId} {args : Array Value} {below : List Frame} {meth : Method} {c : Code} {D : va_G} {cI : ClassId} {aS : aSt} {A : Nat → Prop} {Q : State → Prop}  (ad : Nat → Nat) (isKept : Int32) (now_size : Int32) (now_year : Int32) (now_styles_size : Int32) (now_styles : (Nat → Int32)) (now_writing_size : Int32) (now_writing : (Nat → Int32)) (refusals_size : Int32) (x1 : Int32) (refusals_u24 : (Nat → Int32)) (u4_42 : Int32) {R : Int32 × (Nat → Int32)} (X : Bx p s m args meth c cX4_same 6 (some .int) RX4 D cI aS A) (hret : RtI p l e 3 s m args below meth c cX4_same (some .int) D A (wd_X4_same cI ad isKept now_size now_year now_styles_size now_styles now_writing_size now_writing refusals_size R.2) R.1 Q) (kL42 : Int32 → Int32 → Int32 → Option (Int32 × (Nat → Int32))) (hkL42 : ∀ (v2_42 : Int32) (v3_42 : Int32) (v5_42 : Int32) (H : Heap) (locs : List Loc) (ls : Array Slot), kL42 v2_42 v3_42 v5_42 = some R → lv_has ls 6 [(0, .ref (ad 0)), (1, .int x1), (2, .int v2_42), (3, .int v3_42), (4, .int u4_42), (5, .int v5_42)] → va_P D vwCl (wd_X4_same cI ad isKept now_size now_year now_styles_size now_styles now_writing_size now_writing refusals_size refusals_u24) H → va_D A (wd_X4_same cI ad isKept now_size now_year now_styles_size now_styles now_writing_size now_writing refusals_size refusals_u24) → va_S A s.heap H locs → Wh p l e 3 s m args below meth c H locs Q (F0 m 42 ls [])) : ∀ (v2_89 : Int32) (v5_89 : Int32) (t0_89 : Int32) (H : Heap) (locs : List Loc) (ls : Array Slot), f_X4_same_89  kL42 v2_89 v5_89 t0_89 = some R → lv_has ls 6 [(0, .ref (ad 0)), (1, .int x1), (2, .int v2_89), (4, .int u4_42), (5, .int v5_89)] → va_P D vwCl (wd_X4_same cI ad isKept now_size now_year now_styles_size now_styles now_writing_size now_writing refusals_size refusals_u24) H → va_D A (wd_X4_same cI ad isKept now_size now_year now_styles_size now_styles now_writing_size now_writing refusals_size refusals_u24) → va_S A s.heap H locs → Wh p l e 3 s m args below meth c H locs Q (F0 m 89 ls [.int t0_89]) := by
  have hx := X.1
  have hb := X.2.1
  intro v2_89 v5_89 t0_89 H locs ls hf hl hP hD hS
  replace hf : (f_X4_same_90  kL42 v2_89 t0_89 v5_89) = some R := hf
  refine lv_istore_n (lv' := [(3, .int t0_89), (0, .ref (ad 0)), (1, .int x1), (2, .int v2_89), (4, .int u4_42), (5, .int v5_89)]) hx hb dX4_same_89 rfl hl (by decide) rfl (fun ls hl => ?_)
  exact w_X4_same_90 ad isKept now_size now_year now_styles_size now_styles now_writing_size now_writing refusals_size x1 refusals_u24 u4_42 X hret _ hkL42 v2_89 t0_89 v5_89 _ _ _ hf (lv_sub hl [1, 2, 3, 0, 4, 5] rfl) hP hD hS
set_option maxHeartbeats 4000000 in
set_option maxRecDepth 100000 in
theorem w_X4_same_42 {p : Program} {l : Launch} {e : Env} {s : State} {m : MethodId} {args : Array Value} {below : List Frame} {meth : Method} {c : Code} {D : va_G} {cI : ClassId} {aS : aSt} {A : Nat → Prop} {Q : State → Prop}  (ad : Nat → Nat) (isKept : Int32) (now_size : Int32) (now_year : Int32) (now_styles_size : Int32) (now_styles : (Nat → Int32)) (now_writing_size : Int32) (now_writing : (Nat → Int32)) (refusals_size : Int32) (x1 : Int32) (refusals_u24 : (Nat → Int32)) (u4_42 : Int32) {R : Int32 × (Nat → Int32)} (X : Bx p s m args meth c cX4_same 6 (some .int) RX4 D cI aS A) (hret : RtI p l e 3 s m args below meth c cX4_same (some .int) D A (wd_X4_same cI ad isKept now_size now_year now_styles_size now_styles now_writing_size now_writing refusals_size R.2) R.1 Q) (kX42_96 : Int32 → Int32 → Option (Int32 × (Nat → Int32))) (hkX42_96 : ∀ (v2_96 : Int32) (v3_96 : Int32) (H : Heap) (locs : List Loc) (ls : Array Slot), kX42_96 v2_96 v3_96 = some R → lv_has ls 6 [(0, .ref (ad 0)), (1, .int x1), (2, .int v2_96), (3, .int v3_96), (4, .int u4_42)] → va_P D vwCl (wd_X4_same cI ad isKept now_size now_year now_styles_size now_styles now_writing_size now_writing refusals_size refusals_u24) H → va_D A (wd_X4_same cI ad isKept now_size now_year now_styles_size now_styles now_writing_size now_writing refusals_size refusals_u24) → va_S A s.heap H locs → Wh p l e 3 s m args below meth c H locs Q (F0 m 96 ls [])) : ∀ (fuel : Nat) (v2_42 : Int32) (v3_42 : Int32) (v5_42 : Int32) (H : Heap) (locs : List Loc) (ls : Array Slot), f_X4_same_42 now_size now_year now_styles now_writing u4_42 kX42_96 fuel v2_42 v3_42 v5_42 = some R → lv_has ls 6 [(0, .ref (ad 0)), (1, .int x1), (2, .int v2_42), (3, .int v3_42), (4, .int u4_42), (5, .int v5_42)] → va_P D vwCl (wd_X4_same cI ad isKept now_size now_year now_styles_size now_styles now_writing_size now_writing refusals_size refusals_u24) H → va_D A (wd_X4_same cI ad isKept now_size now_year now_styles_size now_styles now_writing_size now_writing refusals_size refusals_u24) → va_S A s.heap H locs → Wh p l e 3 s m args below meth c H locs Q (F0 m 42 ls []) := by
  have hx := X.1
  have hb := X.2.1
  intro fuel
  induction fuel with
  | zero =>
    intro v2_42 v3_42 v5_42 H locs ls hf hl hP hD hS
    cases hf
  | succ fuel ih =>
    intro v2_42 v3_42 v5_42 H locs ls hf hl hP hD hS
    replace hf : (if now_size ≤ v5_42 then (kX42_96 v2_42 v3_42) else ((f_X0_openAlike now_year now_styles now_writing u4_42 v5_42).bind fun (r62 : Int32) => (if r62 = 0 then (f_X4_same_90  (f_X4_same_42 now_size now_year now_styles now_writing u4_42 kX42_96 fuel) v2_42 v3_42 v5_42) else (if v3_42 = (-9 : Int32) then (f_X4_same_89  (f_X4_same_42 now_size now_year now_styles now_writing u4_42 kX42_96 fuel) (v2_42 + (1 : Int32)) v5_42 (((10 : Int32) * u4_42) + v5_42)) else (f_X4_same_89  (f_X4_same_42 now_size now_year now_styles now_writing u4_42 kX42_96 fuel) (v2_42 + (1 : Int32)) v5_42 v3_42))))) = some R := hf
    refine lv_iload hx hb dX4_same_42 (lv_at hl 5 rfl) ?_
    refine lv_aload_n hx hb dX4_same_44 rfl (lv_at hl 0 rfl) ?_
    refine fgX4_10 X hP (q0 := 0) rfl rfl dX4_same_45 ?_
    refine fgX4_108 X hP (q0 := 1) rfl rfl dX4_same_48 ?_
    refine lv_icmp_ge (tgt := 96) hx hb dX4_same_51 (by decide) (fun c51 => ?_) (fun c51 => ?_)
    · have hf := iT c51 hf
      exact hkX42_96 v2_42 v3_42 _ _ _ hf (lv_sub hl [0, 1, 2, 3, 4] rfl) hP hD hS
    · have hf := iF c51 hf
      refine lv_aload_n hx hb dX4_same_54 rfl (lv_at hl 0 rfl) ?_
      refine fgX4_10 X hP (q0 := 0) rfl rfl dX4_same_55 ?_
      refine lv_iload hx hb dX4_same_58 (lv_at hl 4 rfl) ?_
      refine lv_iload hx hb dX4_same_60 (lv_at hl 5 rfl) ?_
      obtain ⟨r62, hq62, hf⟩ := bS hf
      refine ro_i X hP hD hS [1, 2, 3, 4, 5] rfl (run_N X hP hD hS [1, 2, 3, 4, 5] rfl rfl (c_X0_openAlike l D cI aS (fun k => ad (1 + k)) now_size now_year now_styles_size now_styles now_writing_size now_writing u4_42 v5_42 _ hq62 _) lkX4_215 (by decide) (q0 := 1) rfl rfl rfl rfl (Nat.le_of_ble_eq_true rfl) hl.1 dX4_same_62) (fun H locs hP hS => ?_)
      refine lv_if_eq (tgt := 90) hx hb dX4_same_65 (by decide) (fun c65 => ?_) (fun c65 => ?_)
      · have hf := iT c65 hf
        exact w_X4_same_90 ad isKept now_size now_year now_styles_size now_styles now_writing_size now_writing refusals_size x1 refusals_u24 u4_42 X hret _ ih v2_42 v3_42 v5_42 _ _ _ hf (lv_sub hl [0, 1, 2, 3, 4, 5] rfl) hP hD hS
      · have hf := iF c65 hf
        refine lv_iinc (v := (v2_42 + (1 : Int32))) (lv' := [(2, .int (v2_42 + (1 : Int32))), (0, .ref (ad 0)), (1, .int x1), (3, .int v3_42), (4, .int u4_42), (5, .int v5_42)]) hx hb dX4_same_68 hl (k := 2) rfl rfl (by decide) rfl (fun ls hl => ?_)
        refine lv_iload_n hx hb dX4_same_71 rfl (lv_at hl 3 rfl) ?_
        refine lv_bipush (v := -9) hx hb dX4_same_72 (by decide) ?_
        refine lv_icmp_ne (tgt := 88) hx hb dX4_same_74 (by decide) (fun c74 => ?_) (fun c74 => ?_)
        · have hf := iF c74 hf
          refine lv_iload_n hx hb dX4_same_88 rfl (lv_at hl 3 rfl) ?_
          exact w_X4_same_89 ad isKept now_size now_year now_styles_size now_styles now_writing_size now_writing refusals_size x1 refusals_u24 u4_42 X hret _ ih (v2_42 + (1 : Int32)) v5_42 v3_42 _ _ _ hf (lv_sub hl [1, 2, 0, 4, 5] rfl) hP hD hS
        · have hf := iT c74 hf
          refine lv_bipush (v := 10) hx hb dX4_same_77 (by decide) ?_
          refine lv_iload hx hb dX4_same_79 (lv_at hl 4 rfl) ?_
          refine lv_imul hx hb dX4_same_81 ?_
          refine lv_iload hx hb dX4_same_82 (lv_at hl 5 rfl) ?_
          refine lv_iadd hx hb dX4_same_84 ?_
          refine lv_goto (tgt := 89) hx hb dX4_same_85 (by decide) ?_
          exact w_X4_same_89 ad isKept now_size now_year now_styles_size now_styles now_writing_size now_writing refusals_size x1 refusals_u24 u4_42 X hret _ ih (v2_42 + (1 : Int32)) v5_42 (((10 : Int32) * u4_42) + v5_42) _ _ _ hf (lv_sub hl [1, 2, 0, 4, 5] rfl) hP hD hS
set_option maxHeartbeats 4000000 in
set_option maxRecDepth 100000 in
theorem w_X4_same_96 {p : Program} {l : Launch} {e : Env} {s : State} {m : MethodId} {args : Array Value} {below : List Frame} {meth : Method} {c : Code} {D : va_G} {cI : ClassId} {aS : aSt} {A : Nat → Prop} {Q : State → Prop}  (ad : Nat → Nat) (isKept : Int32) (now_size : Int32) (now_year : Int32) (now_styles_size : Int32) (now_styles : (Nat → Int32)) (now_writing_size : Int32) (now_writing : (Nat → Int32)) (refusals_size : Int32) (x1 : Int32) (refusals_u24 : (Nat → Int32)) {R : Int32 × (Nat → Int32)} (X : Bx p s m args meth c cX4_same 6 (some .int) RX4 D cI aS A) (hret : RtI p l e 3 s m args below meth c cX4_same (some .int) D A (wd_X4_same cI ad isKept now_size now_year now_styles_size now_styles now_writing_size now_writing refusals_size R.2) R.1 Q) (kL24 : Int32 → Int32 → Int32 → Option (Int32 × (Nat → Int32))) (hkL24 : ∀ (v2_24 : Int32) (v3_24 : Int32) (v4_24 : Int32) (H : Heap) (locs : List Loc) (ls : Array Slot), kL24 v2_24 v3_24 v4_24 = some R → lv_has ls 6 [(0, .ref (ad 0)), (1, .int x1), (2, .int v2_24), (3, .int v3_24), (4, .int v4_24)] → va_P D vwCl (wd_X4_same cI ad isKept now_size now_year now_styles_size now_styles now_writing_size now_writing refusals_size refusals_u24) H → va_D A (wd_X4_same cI ad isKept now_size now_year now_styles_size now_styles now_writing_size now_writing refusals_size refusals_u24) → va_S A s.heap H locs → Wh p l e 3 s m args below meth c H locs Q (F0 m 24 ls [])) : ∀ (v2_96 : Int32) (v3_96 : Int32) (v4_96 : Int32) (H : Heap) (locs : List Loc) (ls : Array Slot), f_X4_same_96  kL24 v2_96 v3_96 v4_96 = some R → lv_has ls 6 [(0, .ref (ad 0)), (1, .int x1), (2, .int v2_96), (3, .int v3_96), (4, .int v4_96)] → va_P D vwCl (wd_X4_same cI ad isKept now_size now_year now_styles_size now_styles now_writing_size now_writing refusals_size refusals_u24) H → va_D A (wd_X4_same cI ad isKept now_size now_year now_styles_size now_styles now_writing_size now_writing refusals_size refusals_u24) → va_S A s.heap H locs → Wh p l e 3 s m args below meth c H locs Q (F0 m 96 ls []) := by
  have hx := X.1
  have hb := X.2.1
  intro v2_96 v3_96 v4_96 H locs ls hf hl hP hD hS
  replace hf : (kL24 v2_96 v3_96 (v4_96 + (1 : Int32))) = some R := hf
  refine lv_iinc (v := (v4_96 + (1 : Int32))) (lv' := [(4, .int (v4_96 + (1 : Int32))), (0, .ref (ad 0)), (1, .int x1), (2, .int v2_96), (3, .int v3_96)]) hx hb dX4_same_96 hl (k := 4) rfl rfl (by decide) rfl (fun ls hl => ?_)
  refine lv_goto (tgt := 24) hx hb dX4_same_99 (by decide) ?_
  exact hkL24 v2_96 v3_96 (v4_96 + (1 : Int32)) _ _ _ hf (lv_sub hl [1, 2, 3, 4, 0] rfl) hP hD hS
set_option maxHeartbeats 4000000 in
set_option maxRecDepth 100000 in
theorem w_X4_same_24 {p : Program} {l : Launch} {e : Env} {s : State} {m : MethodId} {args : Array Value} {below : List Frame} {meth : Method} {c : Code} {D : va_G} {cI : ClassId} {aS : aSt} {A : Nat → Prop} {Q : State → Prop}  (ad : Nat → Nat) (isKept : Int32) (now_size : Int32) (now_year : Int32) (now_styles_size : Int32) (now_styles : (Nat → Int32)) (now_writing_size : Int32) (now_writing : (Nat → Int32)) (refusals_size : Int32) (x1 : Int32) (refusals_u24 : (Nat → Int32)) {R : Int32 × (Nat → Int32)} (X : Bx p s m args meth c cX4_same 6 (some .int) RX4 D cI aS A) (hret : RtI p l e 3 s m args below meth c cX4_same (some .int) D A (wd_X4_same cI ad isKept now_size now_year now_styles_size now_styles now_writing_size now_writing refusals_size R.2) R.1 Q) (kX24_102 : Int32 → Int32 → Option (Int32 × (Nat → Int32))) (hkX24_102 : ∀ (v2_102 : Int32) (v3_102 : Int32) (H : Heap) (locs : List Loc) (ls : Array Slot), kX24_102 v2_102 v3_102 = some R → lv_has ls 6 [(1, .int x1), (2, .int v2_102), (3, .int v3_102)] → va_P D vwCl (wd_X4_same cI ad isKept now_size now_year now_styles_size now_styles now_writing_size now_writing refusals_size refusals_u24) H → va_D A (wd_X4_same cI ad isKept now_size now_year now_styles_size now_styles now_writing_size now_writing refusals_size refusals_u24) → va_S A s.heap H locs → Wh p l e 3 s m args below meth c H locs Q (F0 m 102 ls [])) : ∀ (fuel : Nat) (v2_24 : Int32) (v3_24 : Int32) (v4_24 : Int32) (H : Heap) (locs : List Loc) (ls : Array Slot), f_X4_same_24 now_size now_year now_styles now_writing kX24_102 fuel v2_24 v3_24 v4_24 = some R → lv_has ls 6 [(0, .ref (ad 0)), (1, .int x1), (2, .int v2_24), (3, .int v3_24), (4, .int v4_24)] → va_P D vwCl (wd_X4_same cI ad isKept now_size now_year now_styles_size now_styles now_writing_size now_writing refusals_size refusals_u24) H → va_D A (wd_X4_same cI ad isKept now_size now_year now_styles_size now_styles now_writing_size now_writing refusals_size refusals_u24) → va_S A s.heap H locs → Wh p l e 3 s m args below meth c H locs Q (F0 m 24 ls []) := by
  have hx := X.1
  have hb := X.2.1
  intro fuel
  induction fuel with
  | zero =>
    intro v2_24 v3_24 v4_24 H locs ls hf hl hP hD hS
    cases hf
  | succ fuel ih =>
    intro v2_24 v3_24 v4_24 H locs ls hf hl hP hD hS
    replace hf : (if now_size ≤ v4_24 then (kX24_102 v2_24 v3_24) else (f_X4_same_42 now_size now_year now_styles now_writing v4_24 (fun (v2_96 : Int32) (v3_96 : Int32) => (f_X4_same_96  (f_X4_same_24 now_size now_year now_styles now_writing kX24_102 fuel) v2_96 v3_96 v4_24)) FU v2_24 v3_24 (v4_24 + (1 : Int32)))) = some R := hf
    refine lv_iload hx hb dX4_same_24 (lv_at hl 4 rfl) ?_
    refine lv_aload_n hx hb dX4_same_26 rfl (lv_at hl 0 rfl) ?_
    refine fgX4_10 X hP (q0 := 0) rfl rfl dX4_same_27 ?_
    refine fgX4_108 X hP (q0 := 1) rfl rfl dX4_same_30 ?_
    refine lv_icmp_ge (tgt := 102) hx hb dX4_same_33 (by decide) (fun c33 => ?_) (fun c33 => ?_)
    · have hf := iT c33 hf
      exact hkX24_102 v2_24 v3_24 _ _ _ hf (lv_sub hl [1, 2, 3] rfl) hP hD hS
    · have hf := iF c33 hf
      refine lv_iload hx hb dX4_same_36 (lv_at hl 4 rfl) ?_
      refine lv_iconst (v := 1) hx hb dX4_same_38 (by decide) ?_
      refine lv_iadd hx hb dX4_same_39 ?_
      refine lv_istore (lv' := [(5, .int (v4_24 + (1 : Int32))), (0, .ref (ad 0)), (1, .int x1), (2, .int v2_24), (3, .int v3_24), (4, .int v4_24)]) hx hb dX4_same_40 hl (by decide) rfl (fun ls hl => ?_)
      exact w_X4_same_42 ad isKept now_size now_year now_styles_size now_styles now_writing_size now_writing refusals_size x1 refusals_u24 v4_24 X hret _ (fun v2_96 v3_96 _ _ _ hf hl hP hD hS => w_X4_same_96 ad isKept now_size now_year now_styles_size now_styles now_writing_size now_writing refusals_size x1 refusals_u24 X hret _ ih v2_96 v3_96 v4_24 _ _ _ hf (lv_sub hl [0, 1, 2, 3, 4] rfl) hP hD hS) _ v2_24 v3_24 (v4_24 + (1 : Int32)) _ _ _ hf (lv_sub hl [1, 2, 3, 4, 5, 0] rfl) hP hD hS
set_option maxHeartbeats 4000000 in
set_option maxRecDepth 100000 in
theorem w_X4_same_102 {p : Program} {l : Launch} {e : Env} {s : State} {m : MethodId} {args : Array Value} {below : List Frame} {meth : Method} {c : Code} {D : va_G} {cI : ClassId} {aS : aSt} {A : Nat → Prop} {Q : State → Prop}  (ad : Nat → Nat) (isKept : Int32) (now_size : Int32) (now_year : Int32) (now_styles_size : Int32) (now_styles : (Nat → Int32)) (now_writing_size : Int32) (now_writing : (Nat → Int32)) (refusals_size : Int32) (x1 : Int32) {R : Int32 × (Nat → Int32)} (X : Bx p s m args meth c cX4_same 6 (some .int) RX4 D cI aS A) (hret : RtI p l e 3 s m args below meth c cX4_same (some .int) D A (wd_X4_same cI ad isKept now_size now_year now_styles_size now_styles now_writing_size now_writing refusals_size R.2) R.1 Q) : ∀ (v2_102 : Int32) (v3_102 : Int32) (refusals_102 : (Nat → Int32)) (H : Heap) (locs : List Loc) (ls : Array Slot), f_X4_same_102 x1  v2_102 v3_102 refusals_102 = some R → lv_has ls 6 [(1, .int x1), (2, .int v2_102), (3, .int v3_102)] → va_P D vwCl (wd_X4_same cI ad isKept now_size now_year now_styles_size now_styles now_writing_size now_writing refusals_size refusals_102) H → va_D A (wd_X4_same cI ad isKept now_size now_year now_styles_size now_styles now_writing_size now_writing refusals_size refusals_102) → va_S A s.heap H locs → Wh p l e 3 s m args below meth c H locs Q (F0 m 102 ls []) := by
  have hx := X.1
  have hb := X.2.1
  intro v2_102 v3_102 refusals_102 H locs ls hf hl hP hD hS
  replace hf : (if x1 = 0 then (some (v2_102, refusals_102)) else (some (v3_102, refusals_102))) = some R := hf
  refine lv_iload_n hx hb dX4_same_102 rfl (lv_at hl 0 rfl) ?_
  refine lv_if_ne (tgt := 110) hx hb dX4_same_103 (by decide) (fun c103 => ?_) (fun c103 => ?_)
  · have hf := iF c103 hf
    refine lv_iload_n hx hb dX4_same_110 rfl (lv_at hl 2 rfl) ?_
    have hR := Option.some.inj hf
    subst hR
    exact hret _ _ _ _ _ rfl (fun _ hn => by cases hn; rfl) hP hD hS dX4_same_111
  · have hf := iT c103 hf
    refine lv_iload_n hx hb dX4_same_106 rfl (lv_at hl 1 rfl) ?_
    refine lv_goto (tgt := 111) hx hb dX4_same_107 (by decide) ?_
    have hR := Option.some.inj hf
    subst hR
    exact hret _ _ _ _ _ rfl (fun _ hn => by cases hn; rfl) hP hD hS dX4_same_111
set_option maxHeartbeats 4000000 in
set_option maxRecDepth 100000 in
theorem w_X4_same_16 {p : Program} {l : Launch} {e : Env} {s : State} {m : MethodId} {args : Array Value} {below : List Frame} {meth : Method} {c : Code} {D : va_G} {cI : ClassId} {aS : aSt} {A : Nat → Prop} {Q : State → Prop}  (ad : Nat → Nat) (isKept : Int32) (now_size : Int32) (now_year : Int32) (now_styles_size : Int32) (now_styles : (Nat → Int32)) (now_writing_size : Int32) (now_writing : (Nat → Int32)) (refusals_size : Int32) (x1 : Int32) {R : Int32 × (Nat → Int32)} (X : Bx p s m args meth c cX4_same 6 (some .int) RX4 D cI aS A) (hret : RtI p l e 3 s m args below meth c cX4_same (some .int) D A (wd_X4_same cI ad isKept now_size now_year now_styles_size now_styles now_writing_size now_writing refusals_size R.2) R.1 Q) : ∀ (refusals_16 : (Nat → Int32)) (H : Heap) (locs : List Loc) (ls : Array Slot), f_X4_same_16 now_size now_year now_styles now_writing x1  refusals_16 = some R → lv_has ls 6 [(0, .ref (ad 0)), (1, .int x1)] → va_P D vwCl (wd_X4_same cI ad isKept now_size now_year now_styles_size now_styles now_writing_size now_writing refusals_size refusals_16) H → va_D A (wd_X4_same cI ad isKept now_size now_year now_styles_size now_styles now_writing_size now_writing refusals_size refusals_16) → va_S A s.heap H locs → Wh p l e 3 s m args below meth c H locs Q (F0 m 16 ls []) := by
  have hx := X.1
  have hb := X.2.1
  intro refusals_16 H locs ls hf hl hP hD hS
  replace hf : (f_X4_same_24 now_size now_year now_styles now_writing (fun (v2_102 : Int32) (v3_102 : Int32) => (f_X4_same_102 x1  v2_102 v3_102 refusals_16)) FU (0 : Int32) (-9 : Int32) (0 : Int32)) = some R := hf
  refine lv_iconst (v := 0) hx hb dX4_same_16 (by decide) ?_
  refine lv_istore_n (lv' := [(2, .int (0 : Int32)), (0, .ref (ad 0)), (1, .int x1)]) hx hb dX4_same_17 rfl hl (by decide) rfl (fun ls hl => ?_)
  refine lv_bipush (v := -9) hx hb dX4_same_18 (by decide) ?_
  refine lv_istore_n (lv' := [(3, .int (-9 : Int32)), (2, .int (0 : Int32)), (0, .ref (ad 0)), (1, .int x1)]) hx hb dX4_same_20 rfl hl (by decide) rfl (fun ls hl => ?_)
  refine lv_iconst (v := 0) hx hb dX4_same_21 (by decide) ?_
  refine lv_istore (lv' := [(4, .int (0 : Int32)), (3, .int (-9 : Int32)), (2, .int (0 : Int32)), (0, .ref (ad 0)), (1, .int x1)]) hx hb dX4_same_22 hl (by decide) rfl (fun ls hl => ?_)
  exact w_X4_same_24 ad isKept now_size now_year now_styles_size now_styles now_writing_size now_writing refusals_size x1 refusals_16 X hret _ (fun v2_102 v3_102 _ _ _ hf hl hP hD hS => w_X4_same_102 ad isKept now_size now_year now_styles_size now_styles now_writing_size now_writing refusals_size x1 X hret  v2_102 v3_102 refusals_16 _ _ _ hf (lv_sub hl [0, 1, 2] rfl) hP hD hS) _ (0 : Int32) (-9 : Int32) (0 : Int32) _ _ _ hf (lv_sub hl [3, 4, 2, 1, 0] rfl) hP hD hS
set_option maxHeartbeats 4000000 in
set_option maxRecDepth 100000 in
theorem c_X4_same (l : Launch) (D : va_G) (cI : ClassId) (aS : aSt) (ad : Nat → Nat) (isKept : Int32) (now_size : Int32) (now_year : Int32) (now_styles_size : Int32) (now_styles : (Nat → Int32)) (now_writing_size : Int32) (now_writing : (Nat → Int32)) (refusals_size : Int32) (refusals : (Nat → Int32)) (x1 : Int32) (R : Int32 × (Nat → Int32)) (hf : f_X4_same now_size now_year now_styles now_writing refusals x1 = some R) : CtI l yX4_same cX4_same 6 (some .int) 3 D cI aS [.ref (ad 0), .int x1] (wd_X4_same cI ad isKept now_size now_year now_styles_size now_styles now_writing_size now_writing refusals_size refusals) (wd_X4_same cI ad isKept now_size now_year now_styles_size now_styles now_writing_size now_writing refusals_size R.2) R.1 := by
  refine ctI_of (by decide) ⟨_, rfl⟩ (Nat.le_of_ble_eq_true rfl) ?_
  intro p e s m below meth c A Q ls X hret hP hD hl
  have hS : va_S A s.heap s.heap [] := va_S.rf
  have hx := X.1
  have hb := X.2.1
  have hl : lv_has ls 6 [(0, .ref (ad 0)), (1, .int x1)] := hl
  replace hf : (if x1 = 0 then (f_X4_same_16 now_size now_year now_styles now_writing x1  refusals) else (if x1 = (1 : Int32) then (f_X4_same_16 now_size now_year now_styles now_writing x1  refusals) else ((f_X4_refused refusals (-2 : Int32)).bind fun (r12 : Int32 × (Nat → Int32)) => (some (r12.1, r12.2))))) = some R := hf
  refine lv_iload_n hx hb dX4_same_0 rfl (lv_at hl 1 rfl) ?_
  refine lv_if_eq (tgt := 16) hx hb dX4_same_1 (by decide) (fun c1 => ?_) (fun c1 => ?_)
  · have hf := iT c1 hf
    exact w_X4_same_16 ad isKept now_size now_year now_styles_size now_styles now_writing_size now_writing refusals_size x1 X hret  refusals _ _ _ hf (lv_sub hl [0, 1] rfl) hP hD hS
  · have hf := iF c1 hf
    refine lv_iload_n hx hb dX4_same_4 rfl (lv_at hl 1 rfl) ?_
    refine lv_iconst (v := 1) hx hb dX4_same_5 (by decide) ?_
    refine lv_icmp_eq (tgt := 16) hx hb dX4_same_6 (by decide) (fun c6 => ?_) (fun c6 => ?_)
    · have hf := iT c6 hf
      exact w_X4_same_16 ad isKept now_size now_year now_styles_size now_styles now_writing_size now_writing refusals_size x1 X hret  refusals _ _ _ hf (lv_sub hl [0, 1] rfl) hP hD hS
    · have hf := iF c6 hf
      refine lv_aload_n hx hb dX4_same_9 rfl (lv_at hl 0 rfl) ?_
      refine lv_bipush (v := -2) hx hb dX4_same_10 (by decide) ?_
      obtain ⟨r12, hq12, hf⟩ := bS hf
      refine wr_i X hP hD hS [0, 6, 7] rfl (ws' := (wd_X4_same cI ad isKept now_size now_year now_styles_size now_styles now_writing_size now_writing refusals_size r12.2)) (Nat.le_of_ble_eq_true rfl) rfl rfl (run_V X hP hD hS [0, 6, 7] rfl rfl (c_X4_refused l D cI aS ad isKept refusals_size refusals (-2 : Int32) _ hq12 _) lkX4_58 (by decide) (q0 := 0) rfl rfl rfl rfl (Nat.le_of_ble_eq_true rfl) hl.1 dX4_same_12) (fun H locs hP hD hS => ?_)
      have hR := Option.some.inj hf
      subst hR
      exact hret _ _ _ _ _ rfl (fun _ hn => by cases hn; rfl) hP hD hS dX4_same_15

abbrev wd_X4_worth (cI : ClassId) (ad : Nat → Nat) (isKept : Int32) (now_size : Int32) (now_year : Int32) (now_kinds_size : Int32) (now_kinds : (Nat → Int32)) (now_figures_size : Int32) (now_figures : (Nat → Int32)) (now_styles_size : Int32) (now_styles : (Nat → Int32)) (now_writing_size : Int32) (now_writing : (Nat → Int32)) (now_enders_size : Int32) (now_enders : (Nat → Int32)) : va_W := [((ad 0), .inr (4, [.ref (ad 1), .ref (ad 16), .ref (ad 31), .int isKept, .ref (ad 46), .ref (ad 49), .ref (ad 51), .ref (ad 53), .ref (ad 55), .ref (ad 57)])), ((ad 1), .inr (0, [.ref (ad 2), .ref (ad 4), .ref (ad 6), .ref (ad 8), .ref (ad 10), .ref (ad 12), .ref (ad 14), .int now_size, .int now_year])), ((ad 2), .inr (3, [.ref (ad 3), .int now_kinds_size])), ((ad 3), .inl (cI, 7, .inl now_kinds)), ((ad 4), .inr (3, [.ref (ad 5), .int now_figures_size])), ((ad 5), .inl (cI, 7, .inl now_figures)), ((ad 6), .inr (3, [.ref (ad 7), .int now_styles_size])), ((ad 7), .inl (cI, 7, .inl now_styles)), ((ad 10), .inr (3, [.ref (ad 11), .int now_writing_size])), ((ad 11), .inl (cI, 7, .inl now_writing)), ((ad 14), .inr (3, [.ref (ad 15), .int now_enders_size])), ((ad 15), .inl (cI, 7, .inl now_enders))]
def f_X4_worth (now_size : Int32) (now_year : Int32) (now_kinds : (Nat → Int32)) (now_figures : (Nat → Int32)) (now_styles : (Nat → Int32)) (now_writing : (Nat → Int32)) (now_enders : (Nat → Int32)) : Option (Int32) := ((f_X0_allWorth now_size now_year now_kinds now_figures now_styles now_writing now_enders).bind fun (r4 : Int32) => (some r4))
set_option maxHeartbeats 4000000 in
set_option maxRecDepth 100000 in
theorem c_X4_worth (l : Launch) (D : va_G) (cI : ClassId) (aS : aSt) (ad : Nat → Nat) (isKept : Int32) (now_size : Int32) (now_year : Int32) (now_kinds_size : Int32) (now_kinds : (Nat → Int32)) (now_figures_size : Int32) (now_figures : (Nat → Int32)) (now_styles_size : Int32) (now_styles : (Nat → Int32)) (now_writing_size : Int32) (now_writing : (Nat → Int32)) (now_enders_size : Int32) (now_enders : (Nat → Int32)) (R : Int32) (hf : f_X4_worth now_size now_year now_kinds now_figures now_styles now_writing now_enders = some R) : CtI l yX4_worth cX4_worth 1 (some .int) 5 D cI aS [.ref (ad 0)] (wd_X4_worth cI ad isKept now_size now_year now_kinds_size now_kinds now_figures_size now_figures now_styles_size now_styles now_writing_size now_writing now_enders_size now_enders) (wd_X4_worth cI ad isKept now_size now_year now_kinds_size now_kinds now_figures_size now_figures now_styles_size now_styles now_writing_size now_writing now_enders_size now_enders) R := by
  refine ctI_of (by decide) ⟨_, rfl⟩ (Nat.le_of_ble_eq_true rfl) ?_
  intro p e s m below meth c A Q ls X hret hP hD hl
  have hS : va_S A s.heap s.heap [] := va_S.rf
  have hx := X.1
  have hb := X.2.1
  have hl : lv_has ls 1 [(0, .ref (ad 0))] := hl
  replace hf : ((f_X0_allWorth now_size now_year now_kinds now_figures now_styles now_writing now_enders).bind fun (r4 : Int32) => (some r4)) = some R := hf
  refine lv_aload_n hx hb dX4_worth_0 rfl (lv_at hl 0 rfl) ?_
  refine fgX4_10 X hP (q0 := 0) rfl rfl dX4_worth_1 ?_
  obtain ⟨r4, hq4, hf⟩ := bS hf
  refine ro_i X hP hD hS [1, 2, 3, 4, 5, 6, 7, 8, 9, 10, 11] rfl (run_N X hP hD hS [1, 2, 3, 4, 5, 6, 7, 8, 9, 10, 11] rfl rfl (c_X0_allWorth l D cI aS (fun k => ad (1 + k)) now_size now_year now_kinds_size now_kinds now_figures_size now_figures now_styles_size now_styles now_writing_size now_writing now_enders_size now_enders _ hq4 _) lkX4_198 (by decide) (q0 := 1) rfl rfl rfl rfl (Nat.le_of_ble_eq_true rfl) hl.1 dX4_worth_4) (fun H locs hP hS => ?_)
  have hR := Option.some.inj hf
  subst hR
  exact hret _ _ _ _ _ rfl (fun _ hn => by cases hn; rfl) hP hD hS dX4_worth_7
