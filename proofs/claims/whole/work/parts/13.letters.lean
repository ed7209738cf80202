abbrev wd_X1_digitAt (cI : ClassId) (ad : Nat → Nat) (text_size : Int32) (text : (Nat → Int32)) : va_W := [((ad 0), .inr (1, [.ref (ad 1)])), ((ad 1), .inr (3, [.ref (ad 2), .int text_size])), ((ad 2), .inl (cI, 96, .inl text))]
def f_X1_digitAt (text : (Nat → Int32)) (x1 : Int32) : Option (Int32) := ((f_X3_get 96 text x1).bind fun (r5 : Int32) => (some (r5 - (48 : Int32))))
set_option maxHeartbeats 4000000 in
set_option maxRecDepth 100000 in
theorem c_X1_digitAt (l : Launch) (D : va_G) (cI : ClassId) (aS : aSt) (ad : Nat → Nat) (text_size : Int32) (text : (Nat → Int32)) (x1 : Int32) (R : Int32) (hf : f_X1_digitAt text x1 = some R) : CtI l yX1_digitAt cX1_digitAt 2 (some .int) 1 D cI aS [.ref (ad 0), .int x1] (wd_X1_digitAt cI ad text_size text) (wd_X1_digitAt cI ad text_size text) R := by
  refine ctI_of (by decide) ⟨_, rfl⟩ (Nat.le_of_ble_eq_true rfl) ?_
  intro p e s m below meth c A Q ls X hret hP hD hl
  have hS : va_S A s.heap s.heap [] := va_S.rf
  have hx := X.1
  have hb := X.2.1
  have hl : lv_has ls 2 [(0, .ref (ad 0)), (1, .int x1)] := hl
  replace hf : ((f_X3_get 96 text x1).bind fun (r5 : Int32) => (some (r5 - (48 : Int32)))) = some R := hf
  refine lv_aload_n hx hb dX1_digitAt_0 rfl (lv_at hl 0 rfl) ?_
  refine fgX1_14 X hP (q0 := 0) rfl rfl dX1_digitAt_1 ?_
  refine lv_iload_n hx hb dX1_digitAt_4 rfl (lv_at hl 1 rfl) ?_
  obtain ⟨r5, hq5, hf⟩ := bS hf
  refine ro_i X hP hD hS [1, 2] rfl (run_N X hP hD hS [1, 2] rfl rfl (c_X3_get l D cI aS (fun k => ad (1 + k)) 96 text_size text x1 _ hq5 _) lkX1_52 (by decide) (q0 := 1) rfl rfl rfl rfl (Nat.le_of_ble_eq_true rfl) hl.1 dX1_digitAt_5) (fun H locs hP hS => ?_)
  refine lv_bipush (v := 48) hx hb dX1_digitAt_8 (by decide) ?_
  refine lv_isub hx hb dX1_digitAt_10 ?_
  have hR := Option.some.inj hf
  subst hR
  exact hret _ _ _ _ _ rfl (fun _ hn => by cases hn; rfl) hP hD hS dX1_digitAt_11

abbrev wd_X1_kindAt (cI : ClassId) (ad : Nat → Nat) (text_size : Int32) (text : (Nat → Int32)) : va_W := [((ad 0), .inr (1, [.ref (ad 1)])), ((ad 1), .inr (3, [.ref (ad 2), .int text_size])), ((ad 2), .inl (cI, 96, .inl text))]
def f_X1_kindAt (text : (Nat → Int32)) (x1 : Int32) : Option (Int32) := ((f_X3_get 96 text x1).bind fun (r7 : Int32) => ((j_indexOf 7 (i2cI r7)).bind fun (r11 : Int32) => (some r11)))
set_option maxHeartbeats 4000000 in
set_option maxRecDepth 100000 in
theorem c_X1_kindAt (l : Launch) (D : va_G) (cI : ClassId) (aS : aSt) (ad : Nat → Nat) (text_size : Int32) (text : (Nat → Int32)) (x1 : Int32) (R : Int32) (hf : f_X1_kindAt text x1 = some R) : CtI l yX1_kindAt cX1_kindAt 2 (some .int) 6 D cI aS [.ref (ad 0), .int x1] (wd_X1_kindAt cI ad text_size text) (wd_X1_kindAt cI ad text_size text) R := by
  refine ctI_of (by decide) ⟨_, rfl⟩ (Nat.le_of_ble_eq_true rfl) ?_
  intro p e s m below meth c A Q ls X hret hP hD hl
  have hS : va_S A s.heap s.heap [] := va_S.rf
  have hx := X.1
  have hb := X.2.1
  have hl : lv_has ls 2 [(0, .ref (ad 0)), (1, .int x1)] := hl
  replace hf : ((f_X3_get 96 text x1).bind fun (r7 : Int32) => ((j_indexOf 7 (i2cI r7)).bind fun (r11 : Int32) => (some r11))) = some R := hf
  refine va_ldcS hx hb X.2.2.2.2.1 (X.2.2.2.2.2.2.2.1.2.2 7 _ rfl) dX1_kindAt_0 ?_
  refine lv_aload_n hx hb dX1_kindAt_2 rfl (lv_at hl 0 rfl) ?_
  refine fgX1_14 X hP (q0 := 0) rfl rfl dX1_kindAt_3 ?_
  refine lv_iload_n hx hb dX1_kindAt_6 rfl (lv_at hl 1 rfl) ?_
  obtain ⟨r7, hq7, hf⟩ := bS hf
  refine ro_i X hP hD hS [1, 2] rfl (run_N X hP hD hS [1, 2] rfl rfl (c_X3_get l D cI aS (fun k => ad (1 + k)) 96 text_size text x1 _ hq7 _) lkX1_52 (by decide) (q0 := 1) rfl rfl rfl rfl (Nat.le_of_ble_eq_true rfl) hl.1 dX1_kindAt_7) (fun H locs hP hS => ?_)
  refine x_i2c hx hb dX1_kindAt_10 ?_
  obtain ⟨r11, hq11, hf⟩ := bS hf
  refine ro_i X hP hD hS [] rfl (run_J X hP hD hS (cj_indexOf l D cI aS 7 (i2cI r7) _ hq11 _) (j_indexOf_lt hq11) ljX1_76 (by decide) rfl rfl (Nat.le_of_ble_eq_true rfl) hl.1 dX1_kindAt_11) (fun H locs hP hS => ?_)
  have hR := Option.some.inj hf
  subst hR
  exact hret _ _ _ _ _ rfl (fun _ hn => by cases hn; rfl) hP hD hS dX1_kindAt_14

abbrev wd_X1_fits (cI : ClassId) (ad : Nat → Nat) (text_size : Int32) (text : (Nat → Int32)) : va_W := [((ad 0), .inr (1, [.ref (ad 1)])), ((ad 1), .inr (3, [.ref (ad 2), .int text_size])), ((ad 2), .inl (cI, 96, .inl text))]
def f_X1_fits (text_size : Int32) (text : (Nat → Int32)) (x1 : Int32) (x2 : Int32) : Option (Int32) := (if x1 < text_size then (if x2 = (107 : Int32) then ((f_X1_kindAt text x1).bind fun (r21 : Int32) => (if r21 < 0 then (some (0 : Int32)) else (some (1 : Int32)))) else (if x2 = (48 : Int32) then ((f_X1_digitAt text x1).bind fun (r41 : Int32) => (if r41 < 0 then (some (0 : Int32)) else (if (10 : Int32) ≤ r41 then (some (0 : Int32)) else (some (1 : Int32))))) else ((f_X3_get 96 text x1).bind fun (r66 : Int32) => (if r66 = x2 then (some (1 : Int32)) else (some (0 : Int32)))))) else (some (0 : Int32)))
set_option maxHeartbeats 4000000 in
set_option maxRecDepth 100000 in
theorem c_X1_fits (l : Launch) (D : va_G) (cI : ClassId) (aS : aSt) (ad : Nat → Nat) (text_size : Int32) (text : (Nat → Int32)) (x1 : Int32) (x2 : Int32) (R : Int32) (hf : f_X1_fits text_size text x1 x2 = some R) : CtI l yX1_fits cX1_fits 4 (some .boolean) 7 D cI aS [.ref (ad 0), .int x1, .int x2] (wd_X1_fits cI ad text_size text) (wd_X1_fits cI ad text_size text) R := by
  refine ctI_of (by decide) ⟨_, rfl⟩ (Nat.le_of_ble_eq_true rfl) ?_
  intro p e s m below meth c A Q ls X hret hP hD hl
  have hS : va_S A s.heap s.heap [] := va_S.rf
  have hx := X.1
  have hb := X.2.1
  have hl : lv_has ls 4 [(0, .ref (ad 0)), (1, .int x1), (2, .int x2)] := hl
  replace hf : (if x1 < text_size then (if x2 = (107 : Int32) then ((f_X1_kindAt text x1).bind fun (r21 : Int32) => (if r21 < 0 then (some (0 : Int32)) else (some (1 : Int32)))) else (if x2 = (48 : Int32) then ((f_X1_digitAt text x1).bind fun (r41 : Int32) => (if r41 < 0 then (some (0 : Int32)) else (if (10 : Int32) ≤ r41 then (some (0 : Int32)) else (some (1 : Int32))))) else ((f_X3_get 96 text x1).bind fun (r66 : Int32) => (if r66 = x2 then (some (1 : Int32)) else (some (0 : Int32)))))) else (some (0 : Int32))) = some R := hf
  refine lv_iload_n hx hb dX1_fits_0 rfl (lv_at hl 1 rfl) ?_
  refine lv_aload_n hx hb dX1_fits_1 rfl (lv_at hl 0 rfl) ?_
  refine fgX1_14 X hP (q0 := 0) rfl rfl dX1_fits_2 ?_
  refine fgX1_20 X hP (q0 := 1) rfl rfl dX1_fits_5 ?_
  refine lv_icmp_lt (tgt := 13) hx hb dX1_fits_8 (by decide) (fun c8 => ?_) (fun c8 => ?_)
  · have hf := iT c8 hf
    refine lv_iload_n hx hb dX1_fits_13 rfl (lv_at hl 2 rfl) ?_
    refine lv_bipush (v := 107) hx hb dX1_fits_14 (by decide) ?_
    refine lv_icmp_ne (tgt := 33) hx hb dX1_fits_16 (by decide) (fun c16 => ?_) (fun c16 => ?_)
    · have hf := iF c16 hf
      refine lv_iload_n hx hb dX1_fits_33 rfl (lv_at hl 2 rfl) ?_
      refine lv_bipush (v := 48) hx hb dX1_fits_34 (by decide) ?_
      refine lv_icmp_ne (tgt := 61) hx hb dX1_fits_36 (by decide) (fun c36 => ?_) (fun c36 => ?_)
      · have hf := iF c36 hf
        refine lv_aload_n hx hb dX1_fits_61 rfl (lv_at hl 0 rfl) ?_
        refine fgX1_14 X hP (q0 := 0) rfl rfl dX1_fits_62 ?_
        refine lv_iload_n hx hb dX1_fits_65 rfl (lv_at hl 1 rfl) ?_
        obtain ⟨r66, hq66, hf⟩ := bS hf
        refine ro_i X hP hD hS [1, 2] rfl (run_N X hP hD hS [1, 2] rfl rfl (c_X3_get l D cI aS (fun k => ad (1 + k)) 96 text_size text x1 _ hq66 _) lkX1_52 (by decide) (q0 := 1) rfl rfl rfl rfl (Nat.le_of_ble_eq_true rfl) hl.1 dX1_fits_66) (fun H locs hP hS => ?_)
        refine lv_iload_n hx hb dX1_fits_69 rfl (lv_at hl 2 rfl) ?_
        refine lv_icmp_ne (tgt := 77) hx hb dX1_fits_70 (by decide) (fun c70 => ?_) (fun c70 => ?_)
        · have hf := iF c70 hf
          refine lv_iconst (v := 0) hx hb dX1_fits_77 (by decide) ?_
          have hR := Option.some.inj hf
          subst hR
          exact hret _ _ _ _ _ rfl (fun _ hn => by cases hn; rfl) hP hD hS dX1_fits_78
        · have hf := iT c70 hf
          refine lv_iconst (v := 1) hx hb dX1_fits_73 (by decide) ?_
          refine lv_goto (tgt := 78) hx hb dX1_fits_74 (by decide) ?_
          have hR := Option.some.inj hf
          subst hR
          exact hret _ _ _ _ _ rfl (fun _ hn => by cases hn; rfl) hP hD hS dX1_fits_78
      · have hf := iT c36 hf
        refine lv_aload_n hx hb dX1_fits_39 rfl (lv_at hl 0 rfl) ?_
        refine lv_iload_n hx hb dX1_fits_40 rfl (lv_at hl 1 rfl) ?_
        obtain ⟨r41, hq41, hf⟩ := bS hf
        refine ro_i X hP hD hS [0, 1, 2] rfl (run_V X hP hD hS [0, 1, 2] rfl rfl (c_X1_digitAt l D cI aS ad text_size text x1 _ hq41 _) lkX1_71 (by decide) (q0 := 0) rfl rfl rfl rfl (Nat.le_of_ble_eq_true rfl) hl.1 dX1_fits_41) (fun H locs hP hS => ?_)
        refine lv_istore_n (lv' := [(3, .int r41), (0, .ref (ad 0)), (1, .int x1), (2, .int x2)]) hx hb dX1_fits_44 rfl hl (by decide) rfl (fun ls hl => ?_)
        refine lv_iload_n hx hb dX1_fits_45 rfl (lv_at hl 0 rfl) ?_
        refine lv_if_lt (tgt := 59) hx hb dX1_fits_46 (by decide) (fun c46 => ?_) (fun c46 => ?_)
        · have hf := iT c46 hf
          refine lv_iconst (v := 0) hx hb dX1_fits_59 (by decide) ?_
          have hR := Option.some.inj hf
          subst hR
          exact hret _ _ _ _ _ rfl (fun _ hn => by cases hn; rfl) hP hD hS dX1_fits_60
        · have hf := iF c46 hf
          refine lv_iload_n hx hb dX1_fits_49 rfl (lv_at hl 0 rfl) ?_
          refine lv_bipush (v := 10) hx hb dX1_fits_50 (by decide) ?_
          refine lv_icmp_ge (tgt := 59) hx hb dX1_fits_52 (by decide) (fun c52 => ?_) (fun c52 => ?_)
          · have hf := iT c52 hf
            refine lv_iconst (v := 0) hx hb dX1_fits_59 (by decide) ?_
            have hR := Option.some.inj hf
            subst hR
            exact hret _ _ _ _ _ rfl (fun _ hn => by cases hn; rfl) hP hD hS dX1_fits_60
          · have hf := iF c52 hf
            refine lv_iconst (v := 1) hx hb dX1_fits_55 (by decide) ?_
            refine lv_goto (tgt := 60) hx hb dX1_fits_56 (by decide) ?_
            have hR := Option.some.inj hf
            subst hR
            exact hret _ _ _ _ _ rfl (fun _ hn => by cases hn; rfl) hP hD hS dX1_fits_60
    · have hf := iT c16 hf
      refine lv_aload_n hx hb dX1_fits_19 rfl (lv_at hl 0 rfl) ?_
      refine lv_iload_n hx hb dX1_fits_20 rfl (lv_at hl 1 rfl) ?_
      obtain ⟨r21, hq21, hf⟩ := bS hf
      refine ro_i X hP hD hS [0, 1, 2] rfl (run_V X hP hD hS [0, 1, 2] rfl rfl (c_X1_kindAt l D cI aS ad text_size text x1 _ hq21 _) lkX1_68 (by decide) (q0 := 0) rfl rfl rfl rfl (Nat.le_of_ble_eq_true rfl) hl.1 dX1_fits_21) (fun H locs hP hS => ?_)
      refine lv_if_lt (tgt := 31) hx hb dX1_fits_24 (by decide) (fun c24 => ?_) (fun c24 => ?_)
      · have hf := iT c24 hf
        refine lv_iconst (v := 0) hx hb dX1_fits_31 (by decide) ?_
        have hR := Option.some.inj hf
        subst hR
        exact hret _ _ _ _ _ rfl (fun _ hn => by cases hn; rfl) hP hD hS dX1_fits_32
      · have hf := iF c24 hf
        refine lv_iconst (v := 1) hx hb dX1_fits_27 (by decide) ?_
        refine lv_goto (tgt := 32) hx hb dX1_fits_28 (by decide) ?_
        have hR := Option.some.inj hf
        subst hR
        exact hret _ _ _ _ _ rfl (fun _ hn => by cases hn; rfl) hP hD hS dX1_fits_32
  · have hf := iF c8 hf
    refine lv_iconst (v := 0) hx hb dX1_fits_11 (by decide) ?_
    have hR := Option.some.inj hf
    subst hR
    exact hret _ _ _ _ _ rfl (fun _ hn => by cases hn; rfl) hP hD hS dX1_fits_12

abbrev wd_X1_howManyFit (cI : ClassId) (ad : Nat → Nat) (text_size : Int32) (text : (Nat → Int32)) : va_W := [((ad 0), .inr (1, [.ref (ad 1)])), ((ad 1), .inr (3, [.ref (ad 2), .int text_size])), ((ad 2), .inl (cI, 96, .inl text))]
def f_X1_howManyFit_2 (text_size : Int32) (text : (Nat → Int32)) (x1 : Int32) (x2 : Nat)  : Nat → Int32 → Option (Int32)
  | 0 => fun _ => none
  | fuel + 1 => fun v3_2 => ((j_length x2).bind fun (r4 : Int32) => (if r4 ≤ v3_2 then (some v3_2) else ((j_charAt x2 v3_2).bind fun (r16 : Int32) => ((f_X1_fits text_size text (x1 + v3_2) r16).bind fun (r19 : Int32) => (if r19 = 0 then (some v3_2) else (f_X1_howManyFit_2 text_size text x1 x2  fuel (v3_2 + (1 : Int32))))))))
theorem e_X1_howManyFit_2 (text_size : Int32) (text : (Nat → Int32)) (x1 : Int32) (x2 : Nat)  (fuel : Nat) (v3_2 : Int32) : f_X1_howManyFit_2 text_size text x1 x2  (fuel + 1) v3_2 = ((j_length x2).bind fun (r4 : Int32) => (if r4 ≤ v3_2 then (some v3_2) else ((j_charAt x2 v3_2).bind fun (r16 : Int32) => ((f_X1_fits text_size text (x1 + v3_2) r16).bind fun (r19 : Int32) => (if r19 = 0 then (some v3_2) else (f_X1_howManyFit_2 text_size text x1 x2  fuel (v3_2 + (1 : Int32)))))))) := rfl
def f_X1_howManyFit (text_size : Int32) (text : (Nat → Int32)) (x1 : Int32) (x2 : Nat) : Option (Int32) := (f_X1_howManyFit_2 text_size text x1 x2  FU (0 : Int32))
set_option maxHeartbeats 4000000 in
set_option maxRecDepth 100000 in
theorem w_X1_howManyFit_2 {p : Program} {l : Launch} {e : Env} {s : State} {m : MethodId} {args : Array Value} {below : List Frame} {meth : Method} {c : Code} {D : va_G} {cI : ClassId} {aS : aSt} {A : Nat → Prop} {Q : State → Prop}  (ad : Nat → Nat) (text_size : Int32) (text : (Nat → Int32)) (x1 : Int32) (x2 : Nat) {R : Int32} (X : Bx p s m args meth c cX1_howManyFit 4 (some .int) RX1 D cI aS A) (hret : RtI p l e 8 s m args below meth c cX1_howManyFit (some .int) D A (wd_X1_howManyFit cI ad text_size text) R Q) : ∀ (fuel : Nat) (v3_2 : Int32) (H : Heap) (locs : List Loc) (ls : Array Slot), f_X1_howManyFit_2 text_size text x1 x2  fuel v3_2 = some R → lv_has ls 4 [(0, .ref (ad 0)), (1, .int x1), (2, .ref (aS.1 x2)), (3, .int v3_2)] → va_P D vwCl (wd_X1_howManyFit cI ad text_size text) H → va_D A (wd_X1_howManyFit cI ad text_size text) → va_S A s.heap H locs → Wh p l e 8 s m args below meth c H locs Q (F0 m 2 ls []) := by
  have hx := X.1
  have hb := X.2.1
  intro fuel
  induction fuel with
  | zero =>
    intro v3_2 H locs ls hf hl hP hD hS
    cases hf
  | succ fuel ih =>
    intro v3_2 H locs ls hf hl hP hD hS
    replace hf : ((j_length x2).bind fun (r4 : Int32) => (if r4 ≤ v3_2 then (some v3_2) else ((j_charAt x2 v3_2).bind fun (r16 : Int32) => ((f_X1_fits text_size text (x1 + v3_2) r16).bind fun (r19 : Int32) => (if r19 = 0 then (some v3_2) else (f_X1_howManyFit_2 text_size text x1 x2  fuel (v3_2 + (1 : Int32)))))))) = some R := hf
    refine lv_iload_n hx hb dX1_howManyFit_2 rfl (lv_at hl 3 rfl) ?_
    refine lv_aload_n hx hb dX1_howManyFit_3 rfl (lv_at hl 2 rfl) ?_
    obtain ⟨r4, hq4, hf⟩ := bS hf
    refine ro_i X hP hD hS [] rfl (run_J X hP hD hS (cj_length l D cI aS x2 _ hq4 _) (j_length_lt hq4) ljX1_38 (by decide) rfl rfl (Nat.le_of_ble_eq_true rfl) hl.1 dX1_howManyFit_4) (fun H locs hP hS => ?_)
    refine lv_icmp_ge (tgt := 31) hx hb dX1_howManyFit_7 (by decide) (fun c7 => ?_) (fun c7 => ?_)
    · have hf := iT c7 hf
      refine lv_iload_n hx hb dX1_howManyFit_31 rfl (lv_at hl 3 rfl) ?_
      have hR := Option.some.inj hf
      subst hR
      exact hret _ _ _ _ _ rfl (fun _ hn => by cases hn; rfl) hP hD hS dX1_howManyFit_32
    · have hf := iF c7 hf
      refine lv_aload_n hx hb dX1_howManyFit_10 rfl (lv_at hl 0 rfl) ?_
      refine lv_iload_n hx hb dX1_howManyFit_11 rfl (lv_at hl 1 rfl) ?_
      refine lv_iload_n hx hb dX1_howManyFit_12 rfl (lv_at hl 3 rfl) ?_
      refine lv_iadd hx hb dX1_howManyFit_13 ?_
      refine lv_aload_n hx hb dX1_howManyFit_14 rfl (lv_at hl 2 rfl) ?_
      refine lv_iload_n hx hb dX1_howManyFit_15 rfl (lv_at hl 3 rfl) ?_
      obtain ⟨r16, hq16, hf⟩ := bS hf
      refine ro_i X hP hD hS [] rfl (run_J X hP hD hS (cj_charAt l D cI aS x2 v3_2 _ hq16 _) (j_charAt_lt hq16) ljX1_42 (by decide) rfl rfl (Nat.le_of_ble_eq_true rfl) hl.1 dX1_howManyFit_16) (fun H locs hP hS => ?_)
      obtain ⟨r19, hq19, hf⟩ := bS hf
      refine ro_i X hP hD hS [0, 1, 2] rfl (run_V X hP hD hS [0, 1, 2] rfl rfl (c_X1_fits l D cI aS ad text_size text (x1 + v3_2) r16 _ hq19 _) lkX1_46 (by decide) (q0 := 0) rfl rfl rfl rfl (Nat.le_of_ble_eq_true rfl) hl.1 dX1_howManyFit_19) (fun H locs hP hS => ?_)
      refine lv_if_eq (tgt := 31) hx hb dX1_howManyFit_22 (by decide) (fun c22 => ?_) (fun c22 => ?_)
      · have hf := iT c22 hf
        refine lv_iload_n hx hb dX1_howManyFit_31 rfl (lv_at hl 3 rfl) ?_
        have hR := Option.some.inj hf
        subst hR
        exact hret _ _ _ _ _ rfl (fun _ hn => by cases hn; rfl) hP hD hS dX1_howManyFit_32
      · have hf := iF c22 hf
        refine lv_iinc (v := (v3_2 + (1 : Int32))) (lv' := [(3, .int (v3_2 + (1 : Int32))), (0, .ref (ad 0)), (1, .int x1), (2, .ref (aS.1 x2))]) hx hb dX1_howManyFit_25 hl (k := 3) rfl rfl (by decide) rfl (fun ls hl => ?_)
        refine lv_goto (tgt := 2) hx hb dX1_howManyFit_28 (by decide) ?_
        exact ih (v3_2 + (1 : Int32)) _ _ _ hf (lv_sub hl [1, 2, 3, 0] rfl) hP hD hS
set_option maxHeartbeats 4000000 in
set_option maxRecDepth 100000 in
theorem c_X1_howManyFit (l : Launch) (D : va_G) (cI : ClassId) (aS : aSt) (ad : Nat → Nat) (text_size : Int32) (text : (Nat → Int32)) (x1 : Int32) (x2 : Nat) (R : Int32) (hf : f_X1_howManyFit text_size text x1 x2 = some R) : CtI l yX1_howManyFit cX1_howManyFit 4 (some .int) 8 D cI aS [.ref (ad 0), .int x1, .ref (aS.1 x2)] (wd_X1_howManyFit cI ad text_size text) (wd_X1_howManyFit cI ad text_size text) R := by
  refine ctI_of (by decide) ⟨_, rfl⟩ (Nat.le_of_ble_eq_true rfl) ?_
  intro p e s m below meth c A Q ls X hret hP hD hl
  have hS : va_S A s.heap s.heap [] := va_S.rf
  have hx := X.1
  have hb := X.2.1
  have hl : lv_has ls 4 [(0, .ref (ad 0)), (1, .int x1), (2, .ref (aS.1 x2))] := hl
  replace hf : (f_X1_howManyFit_2 text_size text x1 x2  FU (0 : Int32)) = some R := hf
  refine lv_iconst (v := 0) hx hb dX1_howManyFit_0 (by decide) ?_
  refine lv_istore_n (lv' := [(3, .int (0 : Int32)), (0, .ref (ad 0)), (1, .int x1), (2, .ref (aS.1 x2))]) hx hb dX1_howManyFit_1 rfl hl (by decide) rfl (fun ls hl => ?_)
  exact w_X1_howManyFit_2 ad text_size text x1 x2 X hret  _ (0 : Int32) _ _ _ hf (lv_sub hl [1, 2, 3, 0] rfl) hP hD hS

abbrev wd_X1_shapeAt (cI : ClassId) (ad : Nat → Nat) (text_size : Int32) (text : (Nat → Int32)) : va_W := [((ad 0), .inr (1, [.ref (ad 1)])), ((ad 1), .inr (3, [.ref (ad 2), .int text_size])), ((ad 2), .inl (cI, 96, .inl text))]
def f_X1_shapeAt (text_size : Int32) (text : (Nat → Int32)) (x1 : Int32) : Option (Nat) := (if x1 < text_size then ((f_X3_get 96 text x1).bind fun (r19 : Int32) => (if r19 = (102 : Int32) then (some 5) else (if r19 = (115 : Int32) then (some 3) else (if r19 = (116 : Int32) then (some 4) else (if r19 = (119 : Int32) then (some 1) else (if r19 = (120 : Int32) then (some 2) else (if r19 = (121 : Int32) then (some 6) else (some 0)))))))) else (some 0))
set_option maxHeartbeats 4000000 in
set_option maxRecDepth 100000 in
theorem c_X1_shapeAt (l : Launch) (D : va_G) (cI : ClassId) (aS : aSt) (ad : Nat → Nat) (text_size : Int32) (text : (Nat → Int32)) (x1 : Int32) (R : Nat) (hf : f_X1_shapeAt text_size text x1 = some R) : CtR l yX1_shapeAt cX1_shapeAt 2 (some (.object "java/lang/String")) 1 D cI aS [.ref (ad 0), .int x1] (wd_X1_shapeAt cI ad text_size text) (wd_X1_shapeAt cI ad text_size text) (aS.1 R) := by
  refine ctR_of (by decide) ⟨_, rfl⟩ (Nat.le_of_ble_eq_true rfl) ?_
  intro p e s m below meth c A Q ls X hret hP hD hl
  have hS : va_S A s.heap s.heap [] := va_S.rf
  have hx := X.1
  have hb := X.2.1
  have hl : lv_has ls 2 [(0, .ref (ad 0)), (1, .int x1)] := hl
  replace hf : (if x1 < text_size then ((f_X3_get 96 text x1).bind fun (r19 : Int32) => (if r19 = (102 : Int32) then (some 5) else (if r19 = (115 : Int32) then (some 3) else (if r19 = (116 : Int32) then (some 4) else (if r19 = (119 : Int32) then (some 1) else (if r19 = (120 : Int32) then (some 2) else (if r19 = (121 : Int32) then (some 6) else (some 0)))))))) else (some 0)) = some R := hf
  refine lv_iload_n hx hb dX1_shapeAt_0 rfl (lv_at hl 1 rfl) ?_
  refine lv_aload_n hx hb dX1_shapeAt_1 rfl (lv_at hl 0 rfl) ?_
  refine fgX1_14 X hP (q0 := 0) rfl rfl dX1_shapeAt_2 ?_
  refine fgX1_20 X hP (q0 := 1) rfl rfl dX1_shapeAt_5 ?_
  refine lv_icmp_lt (tgt := 14) hx hb dX1_shapeAt_8 (by decide) (fun c8 => ?_) (fun c8 => ?_)
  · have hf := iT c8 hf
    refine lv_aload_n hx hb dX1_shapeAt_14 rfl (lv_at hl 0 rfl) ?_
    refine fgX1_14 X hP (q0 := 0) rfl rfl dX1_shapeAt_15 ?_
    refine lv_iload_n hx hb dX1_shapeAt_18 rfl (lv_at hl 1 rfl) ?_
    obtain ⟨r19, hq19, hf⟩ := bS hf
    refine ro_i X hP hD hS [1, 2] rfl (run_N X hP hD hS [1, 2] rfl rfl (c_X3_get l D cI aS (fun k => ad (1 + k)) 96 text_size text x1 _ hq19 _) lkX1_52 (by decide) (q0 := 1) rfl rfl rfl rfl (Nat.le_of_ble_eq_true rfl) hl.1 dX1_shapeAt_19) (fun H locs hP hS => ?_)
    by_cases c22_0 : r19 = (102 : Int32)
    · have hf := iT c22_0 hf
      refine tsIn (tgt := 128) (off := 106) hx hb dX1_shapeAt_22 c22_0 (by decide) (by decide) (by decide) (by decide) ?_
      refine va_ldcS hx hb X.2.2.2.2.1 (X.2.2.2.2.2.2.2.1.2.2 5 _ rfl) dX1_shapeAt_128 ?_
      have hR := Option.some.inj hf
      subst hR
      exact hret _ _ _ _ _ rfl hP hD hS dX1_shapeAt_130
    have hf := iF c22_0 hf
    by_cases c22_1 : r19 = (115 : Int32)
    · have hf := iT c22_1 hf
      refine tsIn (tgt := 122) (off := 100) hx hb dX1_shapeAt_22 c22_1 (by decide) (by decide) (by decide) (by decide) ?_
      refine va_ldcS hx hb X.2.2.2.2.1 (X.2.2.2.2.2.2.2.1.2.2 3 _ rfl) dX1_shapeAt_122 ?_
      have hR := Option.some.inj hf
      subst hR
      exact hret _ _ _ _ _ rfl hP hD hS dX1_shapeAt_124
    have hf := iF c22_1 hf
    by_cases c22_2 : r19 = (116 : Int32)
    · have hf := iT c22_2 hf
      refine tsIn (tgt := 125) (off := 103) hx hb dX1_shapeAt_22 c22_2 (by decide) (by decide) (by decide) (by decide) ?_
      refine va_ldcS hx hb X.2.2.2.2.1 (X.2.2.2.2.2.2.2.1.2.2 4 _ rfl) dX1_shapeAt_125 ?_
      have hR := Option.some.inj hf
      subst hR
      exact hret _ _ _ _ _ rfl hP hD hS dX1_shapeAt_127
    have hf := iF c22_2 hf
    by_cases c22_3 : r19 = (119 : Int32)
    · have hf := iT c22_3 hf
      refine tsIn (tgt := 116) (off := 94) hx hb dX1_shapeAt_22 c22_3 (by decide) (by decide) (by decide) (by decide) ?_
      refine va_ldcS hx hb X.2.2.2.2.1 (X.2.2.2.2.2.2.2.1.2.2 1 _ rfl) dX1_shapeAt_116 ?_
      have hR := Option.some.inj hf
      subst hR
      exact hret _ _ _ _ _ rfl hP hD hS dX1_shapeAt_118
    have hf := iF c22_3 hf
    by_cases c22_4 : r19 = (120 : Int32)
    · have hf := iT c22_4 hf
      refine tsIn (tgt := 119) (off := 97) hx hb dX1_shapeAt_22 c22_4 (by decide) (by decide) (by decide) (by decide) ?_
      refine va_ldcS hx hb X.2.2.2.2.1 (X.2.2.2.2.2.2.2.1.2.2 2 _ rfl) dX1_shapeAt_119 ?_
      have hR := Option.some.inj hf
      subst hR
      exact hret _ _ _ _ _ rfl hP hD hS dX1_shapeAt_121
    have hf := iF c22_4 hf
    by_cases c22_5 : r19 = (121 : Int32)
    · have hf := iT c22_5 hf
      refine tsIn (tgt := 131) (off := 109) hx hb dX1_shapeAt_22 c22_5 (by decide) (by decide) (by decide) (by decide) ?_
      refine va_ldcS hx hb X.2.2.2.2.1 (X.2.2.2.2.2.2.2.1.2.2 6 _ rfl) dX1_shapeAt_131 ?_
      have hR := Option.some.inj hf
      subst hR
      exact hret _ _ _ _ _ rfl hP hD hS dX1_shapeAt_133
    have hf := iF c22_5 hf
    refine tsD (keys := [102, 115, 116, 119, 120, 121]) (tgt := 134) hx hb dX1_shapeAt_22 (List.forall_mem_cons.mpr ⟨i32ne c22_0 (by decide), (List.forall_mem_cons.mpr ⟨i32ne c22_1 (by decide), (List.forall_mem_cons.mpr ⟨i32ne c22_2 (by decide), (List.forall_mem_cons.mpr ⟨i32ne c22_3 (by decide), (List.forall_mem_cons.mpr ⟨i32ne c22_4 (by decide), (List.forall_mem_cons.mpr ⟨i32ne c22_5 (by decide), (fun _ h => absurd h List.not_mem_nil)⟩)⟩)⟩)⟩)⟩)⟩) (by decide) (by decide) (by decide) ?_
    refine va_ldcS hx hb X.2.2.2.2.1 (X.2.2.2.2.2.2.2.1.2.2 0 _ rfl) dX1_shapeAt_134 ?_
    have hR := Option.some.inj hf
    subst hR
    exact hret _ _ _ _ _ rfl hP hD hS dX1_shapeAt_136
  · have hf := iF c8 hf
    refine va_ldcS hx hb X.2.2.2.2.1 (X.2.2.2.2.2.2.2.1.2.2 0 _ rfl) dX1_shapeAt_11 ?_
    have hR := Option.some.inj hf
    subst hR
    exact hret _ _ _ _ _ rfl hP hD hS dX1_shapeAt_13

abbrev wd_X1_wrongPlace (cI : ClassId) (ad : Nat → Nat) (text_size : Int32) (text : (Nat → Int32)) : va_W := [((ad 0), .inr (1, [.ref (ad 1)])), ((ad 1), .inr (3, [.ref (ad 2), .int text_size])), ((ad 2), .inl (cI, 96, .inl text))]
def f_X1_wrongPlace_25 (text_size : Int32) (text : (Nat → Int32)) (kL4 : Int32 → Int32 → Option (Int32)) (v1_25 : Int32) (v2_25 : Int32) : Option (Int32) := ((f_X1_shapeAt text_size text v1_25).bind fun (r27 : Nat) => ((f_X1_howManyFit text_size text v1_25 r27).bind fun (r34 : Int32) => ((j_isEmpty r27).bind fun (r40 : Int32) => (if r40 = 0 then ((j_length r27).bind fun (r49 : Int32) => (if r49 ≤ r34 then ((j_length r27).bind fun (r62 : Int32) => (kL4 (v1_25 + r62) (v2_25 + (1 : Int32)))) else (some (v1_25 + r34)))) else (some (v1_25 + r34))))))
def f_X1_wrongPlace_4 (text_size : Int32) (text : (Nat → Int32))  : Nat → Int32 → Int32 → Option (Int32)
  | 0 => fun _ _ => none
  | fuel + 1 => fun v1_4 v2_4 => (if v2_4 = 0 then (f_X1_wrongPlace_25 text_size text (f_X1_wrongPlace_4 text_size text  fuel) v1_4 v2_4) else (if (96 : Int32) ≤ v2_4 then (some (-1 : Int32)) else (if text_size ≤ v1_4 then (some (-1 : Int32)) else (f_X1_wrongPlace_25 text_size text (f_X1_wrongPlace_4 text_size text  fuel) v1_4 v2_4))))
theorem e_X1_wrongPlace_4 (text_size : Int32) (text : (Nat → Int32))  (fuel : Nat) (v1_4 : Int32) (v2_4 : Int32) : f_X1_wrongPlace_4 text_size text  (fuel + 1) v1_4 v2_4 = (if v2_4 = 0 then (f_X1_wrongPlace_25 text_size text (f_X1_wrongPlace_4 text_size text  fuel) v1_4 v2_4) else (if (96 : Int32) ≤ v2_4 then (some (-1 : Int32)) else (if text_size ≤ v1_4 then (some (-1 : Int32)) else (f_X1_wrongPlace_25 text_size text (f_X1_wrongPlace_4 text_size text  fuel) v1_4 v2_4)))) := rfl
def f_X1_wrongPlace (text_size : Int32) (text : (Nat → Int32)) : Option (Int32) := (f_X1_wrongPlace_4 text_size text  FU (0 : Int32) (0 : Int32))
set_option maxHeartbeats 4000000 in
set_option maxRecDepth 100000 in
theorem w_X1_wrongPlace_25 {p : Program} {l : Launch} {e : Env} {s : State} {m : MethodId} {args : Array Value} {below : List Frame} {meth : Method} {c : Code} {D : va_G} {cI : ClassId} {aS : aSt} {A : Nat → Prop} {Q : State → Prop}  (ad : Nat → Nat) (text_size : Int32) (text : (Nat → Int32)) {R : Int32} (X : Bx p s m args meth c cX1_wrongPlace 5 (some .int) RX1 D cI aS A) (hret : RtI p l e 9 s m args below meth c cX1_wrongPlace (some .int) D A (wd_X1_wrongPlace cI ad text_size text) R Q) (kL4 : Int32 → Int32 → Option (Int32)) (hkL4 : ∀ (v1_4 : Int32) (v2_4 : Int32) (H : Heap) (locs : List Loc) (ls : Array Slot), kL4 v1_4 v2_4 = some R → lv_has ls 5 [(0, .ref (ad 0)), (1, .int v1_4), (2, .int v2_4)] → va_P D vwCl (wd_X1_wrongPlace cI ad text_size text) H → va_D A (wd_X1_wrongPlace cI ad text_size text) → va_S A s.heap H locs → Wh p l e 9 s m args below meth c H locs Q (F0 m 4 ls [])) : ∀ (v1_25 : Int32) (v2_25 : Int32) (H : Heap) (locs : List Loc) (ls : Array Slot), f_X1_wrongPlace_25 text_size text kL4 v1_25 v2_25 = some R → lv_has ls 5 [(0, .ref (ad 0)), (1, .int v1_25), (2, .int v2_25)] → va_P D vwCl (wd_X1_wrongPlace cI ad text_size text) H → va_D A (wd_X1_wrongPlace cI ad text_size text) → va_S A s.heap H locs → Wh p l e 9 s m args below meth c H locs Q (F0 m 25 ls []) := by
  have hx := X.1
  have hb := X.2.1
  intro v1_25 v2_25 H locs ls hf hl hP hD hS
  replace hf : ((f_X1_shapeAt text_size text v1_25).bind fun (r27 : Nat) => ((f_X1_howManyFit text_size text v1_25 r27).bind fun (r34 : Int32) => ((j_isEmpty r27).bind fun (r40 : Int32) => (if r40 = 0 then ((j_length r27).bind fun (r49 : Int32) => (if r49 ≤ r34 then ((j_length r27).bind fun (r62 : Int32) => (kL4 (v1_25 + r62) (v2_25 + (1 : Int32)))) else (some (v1_25 + r34)))) else (some (v1_25 + r34)))))) = some R := hf
  refine lv_aload_n hx hb dX1_wrongPlace_25 rfl (lv_at hl 0 rfl) ?_
  refine lv_iload_n hx hb dX1_wrongPlace_26 rfl (lv_at hl 1 rfl) ?_
  obtain ⟨r27, hq27, hf⟩ := bS hf
  refine ro_r X hP hD hS [0, 1, 2] rfl (run_V X hP hD hS [0, 1, 2] rfl rfl (c_X1_shapeAt l D cI aS ad text_size text v1_25 _ hq27 _) lkX1_24 (by decide) (q0 := 0) rfl rfl rfl rfl (Nat.le_of_ble_eq_true rfl) hl.1 dX1_wrongPlace_27) (fun H locs hP hS => ?_)
  refine lv_astore_n (lv' := [(3, .ref (aS.1 r27)), (0, .ref (ad 0)), (1, .int v1_25), (2, .int v2_25)]) hx hb dX1_wrongPlace_30 rfl hl (by decide) rfl (fun ls hl => ?_)
  refine lv_aload_n hx hb dX1_wrongPlace_31 rfl (lv_at hl 1 rfl) ?_
  refine lv_iload_n hx hb dX1_wrongPlace_32 rfl (lv_at hl 2 rfl) ?_
  refine lv_aload_n hx hb dX1_wrongPlace_33 rfl (lv_at hl 0 rfl) ?_
  obtain ⟨r34, hq34, hf⟩ := bS hf
  refine ro_i X hP hD hS [0, 1, 2] rfl (run_V X hP hD hS [0, 1, 2] rfl rfl (c_X1_howManyFit l D cI aS ad text_size text v1_25 r27 _ hq34 _) lkX1_28 (by decide) (q0 := 0) rfl rfl rfl rfl (Nat.le_of_ble_eq_true rfl) hl.1 dX1_wrongPlace_34) (fun H locs hP hS => ?_)
  refine lv_istore (lv' := [(4, .int r34), (3, .ref (aS.1 r27)), (0, .ref (ad 0)), (1, .int v1_25), (2, .int v2_25)]) hx hb dX1_wrongPlace_37 hl (by decide) rfl (fun ls hl => ?_)
  refine lv_aload_n hx hb dX1_wrongPlace_39 rfl (lv_at hl 1 rfl) ?_
  obtain ⟨r40, hq40, hf⟩ := bS hf
  refine ro_i X hP hD hS [] rfl (run_J X hP hD hS (cj_isEmpty l D cI aS r27 _ hq40 _) (j_isEmpty_lt hq40) ljX1_32 (by decide) rfl rfl (Nat.le_of_ble_eq_true rfl) hl.1 dX1_wrongPlace_40) (fun H locs hP hS => ?_)
  refine lv_if_ne (tgt := 55) hx hb dX1_wrongPlace_43 (by decide) (fun c43 => ?_) (fun c43 => ?_)
  · have hf := iF c43 hf
    refine lv_iload_n hx hb dX1_wrongPlace_55 rfl (lv_at hl 3 rfl) ?_
    refine lv_iload hx hb dX1_wrongPlace_56 (lv_at hl 0 rfl) ?_
    refine lv_iadd hx hb dX1_wrongPlace_58 ?_
    have hR := Option.some.inj hf
    subst hR
    exact hret _ _ _ _ _ rfl (fun _ hn => by cases hn; rfl) hP hD hS dX1_wrongPlace_59
  · have hf := iT c43 hf
    refine lv_iload hx hb dX1_wrongPlace_46 (lv_at hl 0 rfl) ?_
    refine lv_aload_n hx hb dX1_wrongPlace_48 rfl (lv_at hl 1 rfl) ?_
    obtain ⟨r49, hq49, hf⟩ := bS hf
    refine ro_i X hP hD hS [] rfl (run_J X hP hD hS (cj_length l D cI aS r27 _ hq49 _) (j_length_lt hq49) ljX1_38 (by decide) rfl rfl (Nat.le_of_ble_eq_true rfl) hl.1 dX1_wrongPlace_49) (fun H locs hP hS => ?_)
    refine lv_icmp_ge (tgt := 60) hx hb dX1_wrongPlace_52 (by decide) (fun c52 => ?_) (fun c52 => ?_)
    · have hf := iT c52 hf
      refine lv_iload_n hx hb dX1_wrongPlace_60 rfl (lv_at hl 3 rfl) ?_
      refine lv_aload_n hx hb dX1_wrongPlace_61 rfl (lv_at hl 1 rfl) ?_
      obtain ⟨r62, hq62, hf⟩ := bS hf
      refine ro_i X hP hD hS [] rfl (run_J X hP hD hS (cj_length l D cI aS r27 _ hq62 _) (j_length_lt hq62) ljX1_38 (by decide) rfl rfl (Nat.le_of_ble_eq_true rfl) hl.1 dX1_wrongPlace_62) (fun H locs hP hS => ?_)
      refine lv_iadd hx hb dX1_wrongPlace_65 ?_
      refine lv_istore_n (lv' := [(1, .int (v1_25 + r62)), (4, .int r34), (3, .ref (aS.1 r27)), (0, .ref (ad 0)), (2, .int v2_25)]) hx hb dX1_wrongPlace_66 rfl hl (by decide) rfl (fun ls hl => ?_)
      refine lv_iinc (v := (v2_25 + (1 : Int32))) (lv' := [(2, .int (v2_25 + (1 : Int32))), (1, .int (v1_25 + r62)), (4, .int r34), (3, .ref (aS.1 r27)), (0, .ref (ad 0))]) hx hb dX1_wrongPlace_67 hl (k := 4) rfl rfl (by decide) rfl (fun ls hl => ?_)
      refine lv_goto (tgt := 4) hx hb dX1_wrongPlace_70 (by decide) ?_
      exact hkL4 (v1_25 + r62) (v2_25 + (1 : Int32)) _ _ _ hf (lv_sub hl [4, 1, 0] rfl) hP hD hS
    · have hf := iF c52 hf
      refine lv_iload_n hx hb dX1_wrongPlace_55 rfl (lv_at hl 3 rfl) ?_
      refine lv_iload hx hb dX1_wrongPlace_56 (lv_at hl 0 rfl) ?_
      refine lv_iadd hx hb dX1_wrongPlace_58 ?_
      have hR := Option.some.inj hf
      subst hR
      exact hret _ _ _ _ _ rfl (fun _ hn => by cases hn; rfl) hP hD hS dX1_wrongPlace_59
set_option maxHeartbeats 4000000 in
set_option maxRecDepth 100000 in
theorem w_X1_wrongPlace_4 {p : Program} {l : Launch} {e : Env} {s : State} {m : MethodId} {args : Array Value} {below : List Frame} {meth : Method} {c : Code} {D : va_G} {cI : ClassId} {aS : aSt} {A : Nat → Prop} {Q : State → Prop}  (ad : Nat → Nat) (text_size : Int32) (text : (Nat → Int32)) {R : Int32} (X : Bx p s m args meth c cX1_wrongPlace 5 (some .int) RX1 D cI aS A) (hret : RtI p l e 9 s m args below meth c cX1_wrongPlace (some .int) D A (wd_X1_wrongPlace cI ad text_size text) R Q) : ∀ (fuel : Nat) (v1_4 : Int32) (v2_4 : Int32) (H : Heap) (locs : List Loc) (ls : Array Slot), f_X1_wrongPlace_4 text_size text  fuel v1_4 v2_4 = some R → lv_has ls 5 [(0, .ref (ad 0)), (1, .int v1_4), (2, .int v2_4)] → va_P D vwCl (wd_X1_wrongPlace cI ad text_size text) H → va_D A (wd_X1_wrongPlace cI ad text_size text) → va_S A s.heap H locs → Wh p l e 9 s m args below meth c H locs Q (F0 m 4 ls []) := by
  have hx := X.1
  have hb := X.2.1
  intro fuel
  induction fuel with
  | zero =>
    intro v1_4 v2_4 H locs ls hf hl hP hD hS
    cases hf
  | succ fuel ih =>
    intro v1_4 v2_4 H locs ls hf hl hP hD hS
    replace hf : (if v2_4 = 0 then (f_X1_wrongPlace_25 text_size text (f_X1_wrongPlace_4 text_size text  fuel) v1_4 v2_4) else (if (96 : Int32) ≤ v2_4 then (some (-1 : Int32)) else (if text_size ≤ v1_4 then (some (-1 : Int32)) else (f_X1_wrongPlace_25 text_size text (f_X1_wrongPlace_4 text_size text  fuel) v1_4 v2_4)))) = some R := hf
    refine lv_iload_n hx hb dX1_wrongPlace_4 rfl (lv_at hl 2 rfl) ?_
    refine lv_if_eq (tgt := 25) hx hb dX1_wrongPlace_5 (by decide) (fun c5 => ?_) (fun c5 => ?_)
    · have hf := iT c5 hf
      exact w_X1_wrongPlace_25 ad text_size text X hret _ ih v1_4 v2_4 _ _ _ hf (lv_sub hl [0, 1, 2] rfl) hP hD hS
    · have hf := iF c5 hf
      refine lv_iload_n hx hb dX1_wrongPlace_8 rfl (lv_at hl 2 rfl) ?_
      refine lv_bipush (v := 96) hx hb dX1_wrongPlace_9 (by decide) ?_
      refine lv_icmp_ge (tgt := 73) hx hb dX1_wrongPlace_11 (by decide) (fun c11 => ?_) (fun c11 => ?_)
      · have hf := iT c11 hf
        refine lv_iconst (v := -1) hx hb dX1_wrongPlace_73 (by decide) ?_
        have hR := Option.some.inj hf
        subst hR
        exact hret _ _ _ _ _ rfl (fun _ hn => by cases hn; rfl) hP hD hS dX1_wrongPlace_74
      · have hf := iF c11 hf
        refine lv_iload_n hx hb dX1_wrongPlace_14 rfl (lv_at hl 1 rfl) ?_
        refine lv_aload_n hx hb dX1_wrongPlace_15 rfl (lv_at hl 0 rfl) ?_
        refine fgX1_14 X hP (q0 := 0) rfl rfl dX1_wrongPlace_16 ?_
        refine fgX1_20 X hP (q0 := 1) rfl rfl dX1_wrongPlace_19 ?_
        refine lv_icmp_ge (tgt := 73) hx hb dX1_wrongPlace_22 (by decide) (fun c22 => ?_) (fun c22 => ?_)
        · have hf := iT c22 hf
          refine lv_iconst (v := -1) hx hb dX1_wrongPlace_73 (by decide) ?_
          have hR := Option.some.inj hf
          subst hR
          exact hret _ _ _ _ _ rfl (fun _ hn => by cases hn; rfl) hP hD hS dX1_wrongPlace_74
        · have hf := iF c22 hf
          exact w_X1_wrongPlace_25 ad text_size text X hret _ ih v1_4 v2_4 _ _ _ hf (lv_sub hl [0, 1, 2] rfl) hP hD hS
set_option maxHeartbeats 4000000 in
set_option maxRecDepth 100000 in
theorem c_X1_wrongPlace (l : Launch) (D : va_G) (cI : ClassId) (aS : aSt) (ad : Nat → Nat) (text_size : Int32) (text : (Nat → Int32)) (R : Int32) (hf : f_X1_wrongPlace text_size text = some R) : CtI l yX1_wrongPlace cX1_wrongPlace 5 (some .int) 9 D cI aS [.ref (ad 0)] (wd_X1_wrongPlace cI ad text_size text) (wd_X1_wrongPlace cI ad text_size text) R := by
  refine ctI_of (by decide) ⟨_, rfl⟩ (Nat.le_of_ble_eq_true rfl) ?_
  intro p e s m below meth c A Q ls X hret hP hD hl
  have hS : va_S A s.heap s.heap [] := va_S.rf
  have hx := X.1
  have hb := X.2.1
  have hl : lv_has ls 5 [(0, .ref (ad 0))] := hl
  replace hf : (f_X1_wrongPlace_4 text_size text  FU (0 : Int32) (0 : Int32)) = some R := hf
  refine lv_iconst (v := 0) hx hb dX1_wrongPlace_0 (by decide) ?_
  refine lv_istore_n (lv' := [(1, .int (0 : Int32)), (0, .ref (ad 0))]) hx hb dX1_wrongPlace_1 rfl hl (by decide) rfl (fun ls hl => ?_)
  refine lv_iconst (v := 0) hx hb dX1_wrongPlace_2 (by decide) ?_
  refine lv_istore_n (lv' := [(2, .int (0 : Int32)), (1, .int (0 : Int32)), (0, .ref (ad 0))]) hx hb dX1_wrongPlace_3 rfl hl (by decide) rfl (fun ls hl => ?_)
  exact w_X1_wrongPlace_4 ad text_size text X hret  _ (0 : Int32) (0 : Int32) _ _ _ hf (lv_sub hl [2, 1, 0] rfl) hP hD hS
