set_option maxHeartbeats 4000000 in
set_option maxRecDepth 100000 in
theorem c_X4_init (l : Launch) (D : va_G) (cI : ClassId) (aS : aSt) (a : Nat) : CtN l yX4_init cX4_init 1 3 63 430 D cI aS [] a [(a, .inr (4, [.null, .null, .null, .int 0, .null, .null, .null, .null, .null, .null]))] (wz_X4 cI) := by
  refine ctN_of (by decide) rfl (Nat.le_of_ble_eq_true rfl) ?_
  intro p e s m below meth c A Q ls X hin hret hP hD hl
  have hS : va_S A s.heap s.heap [] := va_S.rf
  have hx := X.1
  have hb := X.2.1
  have hl : lv_has ls 1 [(0, .ref a)] := hl
  refine lv_aload_n hx hb dX4_init_0 rfl (lv_at hl 0 rfl) ?_
  refine x_objInit X mw_120 hl.1 (Nat.le_of_ble_eq_true rfl) (Nat.le_of_ble_eq_true rfl) dX4_init_1 ?_
  refine lv_aload_n hx hb dX4_init_4 rfl (lv_at hl 0 rfl) ?_
  refine x_new (C := RX0) (T := TX0) (N := 9) (ci := 0) (fs := [.null, .null, .null, .null, .null, .null, .null, .int 0, .int 0]) X inT0 tyX0_ok mw_123 mw_124 mw_103 rfl (by decide) hP hD hS (Nat.le_of_ble_eq_true rfl) (Nat.le_of_ble_eq_true rfl) dX4_init_5 (fun q1 H hP1 hD1 hS1 => ?_)
  refine lv_dup hx hb dX4_init_8 rfl ?_
  refine x_ctorN (w0 := (a, .inr (4, [.null, .null, .null, .int 0, .null, .null, .null, .null, .null, .null])) :: []) (wf := wz_X0 cI) X hP1 hD1 hS1 (c_X0_init l D cI aS q1) lkX4_9 (Nat.le_of_ble_eq_true rfl) (Nat.le_of_ble_eq_true rfl) rfl rfl (Nat.le_of_ble_eq_true rfl) hl.1 (Nat.le_of_ble_eq_true rfl) (Nat.le_of_ble_eq_true rfl) dX4_init_9 (fun r1 H locs had hP2 hD2 hS2 => ?_)
  subst had
  have hP3 : va_P D vwCl ((a, .inr (4, [.null, .null, .null, .int 0, .null, .null, .null, .null, .null, .null])) :: ([] ++ wz_X0 cI r1)) H := hP2
  have hD3 : va_D A ((a, .inr (4, [.null, .null, .null, .int 0, .null, .null, .null, .null, .null, .null])) :: ([] ++ wz_X0 cI r1)) := hD2
  refine x_putF (C := RX4) (T := TX4) (N := 10) (ci := 4) (k := 0) X inT4 tyX4_ok nmX4 rfl (by decide) mw_234 rfl hin rfl hP3 hD3 hS2 rfl rfl (Nat.le_of_ble_eq_true rfl) dX4_init_12 (fun H locs hP4 hD4 hS3 => ?_)
  have hP5 : va_P D vwCl ((a, .inr (4, [.ref (r1 0), .null, .null, .int 0, .null, .null, .null, .null, .null, .null])) :: ([] ++ wz_X0 cI r1)) H := hP4
  have hD5 : va_D A ((a, .inr (4, [.ref (r1 0), .null, .null, .int 0, .null, .null, .null, .null, .null, .null])) :: ([] ++ wz_X0 cI r1)) := hD4
  refine lv_aload_n hx hb dX4_init_15 rfl (lv_at hl 0 rfl) ?_
  refine x_new (C := RX0) (T := TX0) (N := 9) (ci := 0) (fs := [.null, .null, .null, .null, .null, .null, .null, .int 0, .int 0]) X inT0 tyX0_ok mw_123 mw_124 mw_103 rfl (by decide) hP5 hD5 hS3 (Nat.le_of_ble_eq_true rfl) (Nat.le_of_ble_eq_true rfl) dX4_init_16 (fun q2 H hP6 hD6 hS4 => ?_)
  refine lv_dup hx hb dX4_init_19 rfl ?_
  refine x_ctorN (w0 := (a, .inr (4, [.ref (r1 0), .null, .null, .int 0, .null, .null, .null, .null, .null, .null])) :: ([] ++ wz_X0 cI r1)) (wf := wz_X0 cI) X hP6 hD6 hS4 (c_X0_init l D cI aS q2) lkX4_9 (Nat.le_of_ble_eq_true rfl) (Nat.le_of_ble_eq_true rfl) rfl rfl (Nat.le_of_ble_eq_true rfl) hl.1 (Nat.le_of_ble_eq_true rfl) (Nat.le_of_ble_eq_true rfl) dX4_init_20 (fun r2 H locs had hP7 hD7 hS5 => ?_)
  subst had
  have hP8 : va_P D vwCl ((a, .inr (4, [.ref (r1 0), .null, .null, .int 0, .null, .null, .null, .null, .null, .null])) :: (([] ++ wz_X0 cI r1) ++ wz_X0 cI r2)) H := hP7
  have hD8 : va_D A ((a, .inr (4, [.ref (r1 0), .null, .null, .int 0, .null, .null, .null, .null, .null, .null])) :: (([] ++ wz_X0 cI r1) ++ wz_X0 cI r2)) := hD7
  refine x_putF (C := RX4) (T := TX4) (N := 10) (ci := 4) (k := 1) X inT4 tyX4_ok nmX4 rfl (by decide) mw_235 rfl hin rfl hP8 hD8 hS5 rfl rfl (Nat.le_of_ble_eq_true rfl) dX4_init_23 (fun H locs hP9 hD9 hS6 => ?_)
  have hP10 : va_P D vwCl ((a, .inr (4, [.ref (r1 0), .ref (r2 0), .null, .int 0, .null, .null, .null, .null, .null, .null])) :: (([] ++ wz_X0 cI r1) ++ wz_X0 cI r2)) H := hP9
  have hD10 : va_D A ((a, .inr (4, [.ref (r1 0), .ref (r2 0), .null, .int 0, .null, .null, .null, .null, .null, .null])) :: (([] ++ wz_X0 cI r1) ++ wz_X0 cI r2)) := hD9
  refine lv_aload_n hx hb dX4_init_26 rfl (lv_at hl 0 rfl) ?_
  refine x_new (C := RX0) (T := TX0) (N := 9) (ci := 0) (fs := [.null, .null, .null, .null, .null, .null, .null, .int 0, .int 0]) X inT0 tyX0_ok mw_123 mw_124 mw_103 rfl (by decide) hP10 hD10 hS6 (Nat.le_of_ble_eq_true rfl) (Nat.le_of_ble_eq_true rfl) dX4_init_27 (fun q3 H hP11 hD11 hS7 => ?_)
  refine lv_dup hx hb dX4_init_30 rfl ?_
  refine x_ctorN (w0 := (a, .inr (4, [.ref (r1 0), .ref (r2 0), .null, .int 0, .null, .null, .null, .null, .null, .null])) :: (([] ++ wz_X0 cI r1) ++ wz_X0 cI r2)) (wf := wz_X0 cI) X hP11 hD11 hS7 (c_X0_init l D cI aS q3) lkX4_9 (Nat.le_of_ble_eq_true rfl) (Nat.le_of_ble_eq_true rfl) rfl rfl (Nat.le_of_ble_eq_true rfl) hl.1 (Nat.le_of_ble_eq_true rfl) (Nat.le_of_ble_eq_true rfl) dX4_init_31 (fun r3 H locs had hP12 hD12 hS8 => ?_)
  subst had
  have hP13 : va_P D vwCl ((a, .inr (4, [.ref (r1 0), .ref (r2 0), .null, .int 0, .null, .null, .null, .null, .null, .null])) :: ((([] ++ wz_X0 cI r1) ++ wz_X0 cI r2) ++ wz_X0 cI r3)) H := hP12
  have hD13 : va_D A ((a, .inr (4, [.ref (r1 0), .ref (r2 0), .null, .int 0, .null, .null, .null, .null, .null, .null])) :: ((([] ++ wz_X0 cI r1) ++ wz_X0 cI r2) ++ wz_X0 cI r3)) := hD12
  refine x_putF (C := RX4) (T := TX4) (N := 10) (ci := 4) (k := 2) X inT4 tyX4_ok nmX4 rfl (by decide) mw_236 rfl hin rfl hP13 hD13 hS8 rfl rfl (Nat.le_of_ble_eq_true rfl) dX4_init_34 (fun H locs hP14 hD14 hS9 => ?_)
  have hP15 : va_P D vwCl ((a, .inr (4, [.ref (r1 0), .ref (r2 0), .ref (r3 0), .int 0, .null, .null, .null, .null, .null, .null])) :: ((([] ++ wz_X0 cI r1) ++ wz_X0 cI r2) ++ wz_X0 cI r3)) H := hP14
  have hD15 : va_D A ((a, .inr (4, [.ref (r1 0), .ref (r2 0), .ref (r3 0), .int 0, .null, .null, .null, .null, .null, .null])) :: ((([] ++ wz_X0 cI r1) ++ wz_X0 cI r2) ++ wz_X0 cI r3)) := hD14
  refine lv_aload_n hx hb dX4_init_37 rfl (lv_at hl 0 rfl) ?_
  refine lv_iconst (v := 0) hx hb dX4_init_38 (by decide) ?_
  refine x_put (C := RX4) (T := TX4) (N := 10) (ci := 4) (k := 3) X inT4 tyX4_ok nmX4 rfl (by decide) mw_237 rfl hP15 hD15 hS9 rfl rfl (Nat.le_of_ble_eq_true rfl) dX4_init_39 (fun H locs hP16 hD16 hS10 => ?_)
  have hP17 : va_P D vwCl ((a, .inr (4, [.ref (r1 0), .ref (r2 0), .ref (r3 0), .int 0, .null, .null, .null, .null, .null, .null])) :: ((([] ++ wz_X0 cI r1) ++ wz_X0 cI r2) ++ wz_X0 cI r3)) H := hP16
  have hD17 : va_D A ((a, .inr (4, [.ref (r1 0), .ref (r2 0), .ref (r3 0), .int 0, .null, .null, .null, .null, .null, .null])) :: ((([] ++ wz_X0 cI r1) ++ wz_X0 cI r2) ++ wz_X0 cI r3)) := hD16
  refine lv_aload_n hx hb dX4_init_42 rfl (lv_at hl 0 rfl) ?_
  refine x_new (C := RX1) (T := TX1) (N := 1) (ci := 1) (fs := [.null]) X inT1 tyX1_ok mw_187 mw_188 mw_106 rfl (by decide) hP17 hD17 hS10 (Nat.le_of_ble_eq_true rfl) (Nat.le_of_ble_eq_true rfl) dX4_init_43 (fun q4 H hP18 hD18 hS11 => ?_)
  refine lv_dup hx hb dX4_init_46 rfl ?_
  refine x_ctorN (w0 := (a, .inr (4, [.ref (r1 0), .ref (r2 0), .ref (r3 0), .int 0, .null, .null, .null, .null, .null, .null])) :: ((([] ++ wz_X0 cI r1) ++ wz_X0 cI r2) ++ wz_X0 cI r3)) (wf := wz_X1 cI) X hP18 hD18 hS11 (c_X1_init l D cI aS q4) lkX4_28 (Nat.le_of_ble_eq_true rfl) (Nat.le_of_ble_eq_true rfl) rfl rfl (Nat.le_of_ble_eq_true rfl) hl.1 (Nat.le_of_ble_eq_true rfl) (Nat.le_of_ble_eq_true rfl) dX4_init_47 (fun r4 H locs had hP19 hD19 hS12 => ?_)
  subst had
  have hP20 : va_P D vwCl ((a, .inr (4, [.ref (r1 0), .ref (r2 0), .ref (r3 0), .int 0, .null, .null, .null, .null, .null, .null])) :: (((([] ++ wz_X0 cI r1) ++ wz_X0 cI r2) ++ wz_X0 cI r3) ++ wz_X1 cI r4)) H := hP19
  have hD20 : va_D A ((a, .inr (4, [.ref (r1 0), .ref (r2 0), .ref (r3 0), .int 0, .null, .null, .null, .null, .null, .null])) :: (((([] ++ wz_X0 cI r1) ++ wz_X0 cI r2) ++ wz_X0 cI r3) ++ wz_X1 cI r4)) := hD19
  refine x_putF (C := RX4) (T := TX4) (N := 10) (ci := 4) (k := 4) X inT4 tyX4_ok nmX4 rfl (by decide) mw_238 rfl hin rfl hP20 hD20 hS12 rfl rfl (Nat.le_of_ble_eq_true rfl) dX4_init_50 (fun H locs hP21 hD21 hS13 => ?_)
  have hP22 : va_P D vwCl ((a, .inr (4, [.ref (r1 0), .ref (r2 0), .ref (r3 0), .int 0, .ref (r4 0), .null, .null, .null, .null, .null])) :: (((([] ++ wz_X0 cI r1) ++ wz_X0 cI r2) ++ wz_X0 cI r3) ++ wz_X1 cI r4)) H := hP21
  have hD22 : va_D A ((a, .inr (4, [.ref (r1 0), .ref (r2 0), .ref (r3 0), .int 0, .ref (r4 0), .null, .null, .null, .null, .null])) :: (((([] ++ wz_X0 cI r1) ++ wz_X0 cI r2) ++ wz_X0 cI r3) ++ wz_X1 cI r4)) := hD21
  refine lv_aload_n hx hb dX4_init_53 rfl (lv_at hl 0 rfl) ?_
  refine x_new (C := RX3) (T := TX3) (N := 2) (ci := 3) (fs := [.null, .int 0]) X inT3 tyX3_ok mw_200 mw_130 mw_104 rfl (by decide) hP22 hD22 hS13 (Nat.le_of_ble_eq_true rfl) (Nat.le_of_ble_eq_true rfl) dX4_init_54 (fun q5 H hP23 hD23 hS14 => ?_)
  refine lv_dup hx hb dX4_init_57 rfl ?_
  refine lv_bipush (v := 16) hx hb dX4_init_58 (by decide) ?_
  refine x_ctorN (w0 := (a, .inr (4, [.ref (r1 0), .ref (r2 0), .ref (r3 0), .int 0, .ref (r4 0), .null, .null, .null, .null, .null])) :: (((([] ++ wz_X0 cI r1) ++ wz_X0 cI r2) ++ wz_X0 cI r3) ++ wz_X1 cI r4)) (wf := wz_X3 cI 16) X hP23 hD23 hS14 (c_X3_init l D cI aS q5 16 (by omega) (by omega)) lkX4_35 (Nat.le_of_ble_eq_true rfl) (Nat.le_of_ble_eq_true rfl) rfl rfl (Nat.le_of_ble_eq_true rfl) hl.1 (Nat.le_of_ble_eq_true rfl) (Nat.le_of_ble_eq_true rfl) dX4_init_60 (fun r5 H locs had hP24 hD24 hS15 => ?_)
  subst had
  have hP25 : va_P D vwCl ((a, .inr (4, [.ref (r1 0), .ref (r2 0), .ref (r3 0), .int 0, .ref (r4 0), .null, .null, .null, .null, .null])) :: ((((([] ++ wz_X0 cI r1) ++ wz_X0 cI r2) ++ wz_X0 cI r3) ++ wz_X1 cI r4) ++ wz_X3 cI 16 r5)) H := hP24
  have hD25 : va_D A ((a, .inr (4, [.ref (r1 0), .ref (r2 0), .ref (r3 0), .int 0, .ref (r4 0), .null, .null, .null, .null, .null])) :: ((((([] ++ wz_X0 cI r1) ++ wz_X0 cI r2) ++ wz_X0 cI r3) ++ wz_X1 cI r4) ++ wz_X3 cI 16 r5)) := hD24
  refine x_putF (C := RX4) (T := TX4) (N := 10) (ci := 4) (k := 5) X inT4 tyX4_ok nmX4 rfl (by decide) mw_239 rfl hin rfl hP25 hD25 hS15 rfl rfl (Nat.le_of_ble_eq_true rfl) dX4_init_63 (fun H locs hP26 hD26 hS16 => ?_)
  have hP27 : va_P D vwCl ((a, .inr (4, [.ref (r1 0), .ref (r2 0), .ref (r3 0), .int 0, .ref (r4 0), .ref (r5 0), .null, .null, .null, .null])) :: ((((([] ++ wz_X0 cI r1) ++ wz_X0 cI r2) ++ wz_X0 cI r3) ++ wz_X1 cI r4) ++ wz_X3 cI 16 r5)) H := hP26
  have hD27 : va_D A ((a, .inr (4, [.ref (r1 0), .ref (r2 0), .ref (r3 0), .int 0, .ref (r4 0), .ref (r5 0), .null, .null, .null, .null])) :: ((((([] ++ wz_X0 cI r1) ++ wz_X0 cI r2) ++ wz_X0 cI r3) ++ wz_X1 cI r4) ++ wz_X3 cI 16 r5)) := hD26
  refine lv_aload_n hx hb dX4_init_66 rfl (lv_at hl 0 rfl) ?_
  refine x_new (C := RX3) (T := TX3) (N := 2) (ci := 3) (fs := [.null, .int 0]) X inT3 tyX3_ok mw_200 mw_130 mw_104 rfl (by decide) hP27 hD27 hS16 (Nat.le_of_ble_eq_true rfl) (Nat.le_of_ble_eq_true rfl) dX4_init_67 (fun q6 H hP28 hD28 hS17 => ?_)
  refine lv_dup hx hb dX4_init_70 rfl ?_
  refine lv_bipush (v := 7) hx hb dX4_init_71 (by decide) ?_
  refine x_ctorN (w0 := (a, .inr (4, [.ref (r1 0), .ref (r2 0), .ref (r3 0), .int 0, .ref (r4 0), .ref (r5 0), .null, .null, .null, .null])) :: ((((([] ++ wz_X0 cI r1) ++ wz_X0 cI r2) ++ wz_X0 cI r3) ++ wz_X1 cI r4) ++ wz_X3 cI 16 r5)) (wf := wz_X3 cI 7) X hP28 hD28 hS17 (c_X3_init l D cI aS q6 7 (by omega) (by omega)) lkX4_35 (Nat.le_of_ble_eq_true rfl) (Nat.le_of_ble_eq_true rfl) rfl rfl (Nat.le_of_ble_eq_true rfl) hl.1 (Nat.le_of_ble_eq_true rfl) (Nat.le_of_ble_eq_true rfl) dX4_init_73 (fun r6 H locs had hP29 hD29 hS18 => ?_)
  subst had
  have hP30 : va_P D vwCl ((a, .inr (4, [.ref (r1 0), .ref (r2 0), .ref (r3 0), .int 0, .ref (r4 0), .ref (r5 0), .null, .null, .null, .null])) :: (((((([] ++ wz_X0 cI r1) ++ wz_X0 cI r2) ++ wz_X0 cI r3) ++ wz_X1 cI r4) ++ wz_X3 cI 16 r5) ++ wz_X3 cI 7 r6)) H := hP29
  have hD30 : va_D A ((a, .inr (4, [.ref (r1 0), .ref (r2 0), .ref (r3 0), .int 0, .ref (r4 0), .ref (r5 0), .null, .null, .null, .null])) :: (((((([] ++ wz_X0 cI r1) ++ wz_X0 cI r2) ++ wz_X0 cI r3) ++ wz_X1 cI r4) ++ wz_X3 cI 16 r5) ++ wz_X3 cI 7 r6)) := hD29
  refine x_putF (C := RX4) (T := TX4) (N := 10) (ci := 4) (k := 6) X inT4 tyX4_ok nmX4 rfl (by decide) mw_240 rfl hin rfl hP30 hD30 hS18 rfl rfl (Nat.le_of_ble_eq_true rfl) dX4_init_76 (fun H locs hP31 hD31 hS19 => ?_)
  have hP32 : va_P D vwCl ((a, .inr (4, [.ref (r1 0), .ref (r2 0), .ref (r3 0), .int 0, .ref (r4 0), .ref (r5 0), .ref (r6 0), .null, .null, .null])) :: (((((([] ++ wz_X0 cI r1) ++ wz_X0 cI r2) ++ wz_X0 cI r3) ++ wz_X1 cI r4) ++ wz_X3 cI 16 r5) ++ wz_X3 cI 7 r6)) H := hP31
  have hD32 : va_D A ((a, .inr (4, [.ref (r1 0), .ref (r2 0), .ref (r3 0), .int 0, .ref (r4 0), .ref (r5 0), .ref (r6 0), .null, .null, .null])) :: (((((([] ++ wz_X0 cI r1) ++ wz_X0 cI r2) ++ wz_X0 cI r3) ++ wz_X1 cI r4) ++ wz_X3 cI 16 r5) ++ wz_X3 cI 7 r6)) := hD31
  refine lv_aload_n hx hb dX4_init_79 rfl (lv_at hl 0 rfl) ?_
  refine x_new (C := RX3) (T := TX3) (N := 2) (ci := 3) (fs := [.null, .int 0]) X inT3 tyX3_ok mw_200 mw_130 mw_104 rfl (by decide) hP32 hD32 hS19 (Nat.le_of_ble_eq_true rfl) (Nat.le_of_ble_eq_true rfl) dX4_init_80 (fun q7 H hP33 hD33 hS20 => ?_)
  refine lv_dup hx hb dX4_init_83 rfl ?_
  refine lv_iconst (v := 4) hx hb dX4_init_84 (by decide) ?_
  refine x_ctorN (w0 := (a, .inr (4, [.ref (r1 0), .ref (r2 0), .ref (r3 0), .int 0, .ref (r4 0), .ref (r5 0), .ref (r6 0), .null, .null, .null])) :: (((((([] ++ wz_X0 cI r1) ++ wz_X0 cI r2) ++ wz_X0 cI r3) ++ wz_X1 cI r4) ++ wz_X3 cI 16 r5) ++ wz_X3 cI 7 r6)) (wf := wz_X3 cI 4) X hP33 hD33 hS20 (c_X3_init l D cI aS q7 4 (by omega) (by omega)) lkX4_35 (Nat.le_of_ble_eq_true rfl) (Nat.le_of_ble_eq_true rfl) rfl rfl (Nat.le_of_ble_eq_true rfl) hl.1 (Nat.le_of_ble_eq_true rfl) (Nat.le_of_ble_eq_true rfl) dX4_init_85 (fun r7 H locs had hP34 hD34 hS21 => ?_)
  subst had
  have hP35 : va_P D vwCl ((a, .inr (4, [.ref (r1 0), .ref (r2 0), .ref (r3 0), .int 0, .ref (r4 0), .ref (r5 0), .ref (r6 0), .null, .null, .null])) :: ((((((([] ++ wz_X0 cI r1) ++ wz_X0 cI r2) ++ wz_X0 cI r3) ++ wz_X1 cI r4) ++ wz_X3 cI 16 r5) ++ wz_X3 cI 7 r6) ++ wz_X3 cI 4 r7)) H := hP34
  have hD35 : va_D A ((a, .inr (4, [.ref (r1 0), .ref (r2 0), .ref (r3 0), .int 0, .ref (r4 0), .ref (r5 0), .ref (r6 0), .null, .null, .null])) :: ((((((([] ++ wz_X0 cI r1) ++ wz_X0 cI r2) ++ wz_X0 cI r3) ++ wz_X1 cI r4) ++ wz_X3 cI 16 r5) ++ wz_X3 cI 7 r6) ++ wz_X3 cI 4 r7)) := hD34
  refine x_putF (C := RX4) (T := TX4) (N := 10) (ci := 4) (k := 7) X inT4 tyX4_ok nmX4 rfl (by decide) mw_241 rfl hin rfl hP35 hD35 hS21 rfl rfl (Nat.le_of_ble_eq_true rfl) dX4_init_88 (fun H locs hP36 hD36 hS22 => ?_)
  have hP37 : va_P D vwCl ((a, .inr (4, [.ref (r1 0), .ref (r2 0), .ref (r3 0), .int 0, .ref (r4 0), .ref (r5 0), .ref (r6 0), .ref (r7 0), .null, .null])) :: ((((((([] ++ wz_X0 cI r1) ++ wz_X0 cI r2) ++ wz_X0 cI r3) ++ wz_X1 cI r4) ++ wz_X3 cI 16 r5) ++ wz_X3 cI 7 r6) ++ wz_X3 cI 4 r7)) H := hP36
  have hD37 : va_D A ((a, .inr (4, [.ref (r1 0), .ref (r2 0), .ref (r3 0), .int 0, .ref (r4 0), .ref (r5 0), .ref (r6 0), .ref (r7 0), .null, .null])) :: ((((((([] ++ wz_X0 cI r1) ++ wz_X0 cI r2) ++ wz_X0 cI r3) ++ wz_X1 cI r4) ++ wz_X3 cI 16 r5) ++ wz_X3 cI 7 r6) ++ wz_X3 cI 4 r7)) := hD36
  refine lv_aload_n hx hb dX4_init_91 rfl (lv_at hl 0 rfl) ?_
  refine x_new (C := RX3) (T := TX3) (N := 2) (ci := 3) (fs := [.null, .int 0]) X inT3 tyX3_ok mw_200 mw_130 mw_104 rfl (by decide) hP37 hD37 hS22 (Nat.le_of_ble_eq_true rfl) (Nat.le_of_ble_eq_true rfl) dX4_init_92 (fun q8 H hP38 hD38 hS23 => ?_)
  refine lv_dup hx hb dX4_init_95 rfl ?_
  refine lv_iconst (v := 4) hx hb dX4_init_96 (by decide) ?_
  refine x_ctorN (w0 := (a, .inr (4, [.ref (r1 0), .ref (r2 0), .ref (r3 0), .int 0, .ref (r4 0), .ref (r5 0), .ref (r6 0), .ref (r7 0), .null, .null])) :: ((((((([] ++ wz_X0 cI r1) ++ wz_X0 cI r2) ++ wz_X0 cI r3) ++ wz_X1 cI r4) ++ wz_X3 cI 16 r5) ++ wz_X3 cI 7 r6) ++ wz_X3 cI 4 r7)) (wf := wz_X3 cI 4) X hP38 hD38 hS23 (c_X3_init l D cI aS q8 4 (by omega) (by omega)) lkX4_35 (Nat.le_of_ble_eq_true rfl) (Nat.le_of_ble_eq_true rfl) rfl rfl (Nat.le_of_ble_eq_true rfl) hl.1 (Nat.le_of_ble_eq_true rfl) (Nat.le_of_ble_eq_true rfl) dX4_init_97 (fun r8 H locs had hP39 hD39 hS24 => ?_)
  subst had
  have hP40 : va_P D vwCl ((a, .inr (4, [.ref (r1 0), .ref (r2 0), .ref (r3 0), .int 0, .ref (r4 0), .ref (r5 0), .ref (r6 0), .ref (r7 0), .null, .null])) :: (((((((([] ++ wz_X0 cI r1) ++ wz_X0 cI r2) ++ wz_X0 cI r3) ++ wz_X1 cI r4) ++ wz_X3 cI 16 r5) ++ wz_X3 cI 7 r6) ++ wz_X3 cI 4 r7) ++ wz_X3 cI 4 r8)) H := hP39
  have hD40 : va_D A ((a, .inr (4, [.ref (r1 0), .ref (r2 0), .ref (r3 0), .int 0, .ref (r4 0), .ref (r5 0), .ref (r6 0), .ref (r7 0), .null, .null])) :: (((((((([] ++ wz_X0 cI r1) ++ wz_X0 cI r2) ++ wz_X0 cI r3) ++ wz_X1 cI r4) ++ wz_X3 cI 16 r5) ++ wz_X3 cI 7 r6) ++ wz_X3 cI 4 r7) ++ wz_X3 cI 4 r8)) := hD39
  refine x_putF (C := RX4) (T := TX4) (N := 10) (ci := 4) (k := 8) X inT4 tyX4_ok nmX4 rfl (by decide) mw_242 rfl hin rfl hP40 hD40 hS24 rfl rfl (Nat.le_of_ble_eq_true rfl) dX4_init_100 (fun H locs hP41 hD41 hS25 => ?_)
  have hP42 : va_P D vwCl ((a, .inr (4, [.ref (r1 0), .ref (r2 0), .ref (r3 0), .int 0, .ref (r4 0), .ref (r5 0), .ref (r6 0), .ref (r7 0), .ref (r8 0), .null])) :: (((((((([] ++ wz_X0 cI r1) ++ wz_X0 cI r2) ++ wz_X0 cI r3) ++ wz_X1 cI r4) ++ wz_X3 cI 16 r5) ++ wz_X3 cI 7 r6) ++ wz_X3 cI 4 r7) ++ wz_X3 cI 4 r8)) H := hP41
  have hD42 : va_D A ((a, .inr (4, [.ref (r1 0), .ref (r2 0), .ref (r3 0), .int 0, .ref (r4 0), .ref (r5 0), .ref (r6 0), .ref (r7 0), .ref (r8 0), .null])) :: (((((((([] ++ wz_X0 cI r1) ++ wz_X0 cI r2) ++ wz_X0 cI r3) ++ wz_X1 cI r4) ++ wz_X3 cI 16 r5) ++ wz_X3 cI 7 r6) ++ wz_X3 cI 4 r7) ++ wz_X3 cI 4 r8)) := hD41
  refine lv_aload_n hx hb dX4_init_103 rfl (lv_at hl 0 rfl) ?_
  refine x_new (C := RX2) (T := TX2) (N := 7) (ci := 2) (fs := [.null, .null, .null, .int 0, .int 0, .int 0, .int 0]) X inT2 tyX2_ok mw_202 mw_203 mw_107 rfl (by decide) hP42 hD42 hS25 (Nat.le_of_ble_eq_true rfl) (Nat.le_of_ble_eq_true rfl) dX4_init_104 (fun q9 H hP43 hD43 hS26 => ?_)
  refine lv_dup hx hb dX4_init_107 rfl ?_
  refine x_ctorN (w0 := (a, .inr (4, [.ref (r1 0), .ref (r2 0), .ref (r3 0), .int 0, .ref (r4 0), .ref (r5 0), .ref (r6 0), .ref (r7 0), .ref (r8 0), .null])) :: (((((((([] ++ wz_X0 cI r1) ++ wz_X0 cI r2) ++ wz_X0 cI r3) ++ wz_X1 cI r4) ++ wz_X3 cI 16 r5) ++ wz_X3 cI 7 r6) ++ wz_X3 cI 4 r7) ++ wz_X3 cI 4 r8)) (wf := wz_X2 cI) X hP43 hD43 hS26 (c_X2_init l D cI aS q9) lkX4_53 (Nat.le_of_ble_eq_true rfl) (Nat.le_of_ble_eq_true rfl) rfl rfl (Nat.le_of_ble_eq_true rfl) hl.1 (Nat.le_of_ble_eq_true rfl) (Nat.le_of_ble_eq_true rfl) dX4_init_108 (fun r9 H locs had hP44 hD44 hS27 => ?_)
  subst had
  have hP45 : va_P D vwCl ((a, .inr (4, [.ref (r1 0), .ref (r2 0), .ref (r3 0), .int 0, .ref (r4 0), .ref (r5 0), .ref (r6 0), .ref (r7 0), .ref (r8 0), .null])) :: ((((((((([] ++ wz_X0 cI r1) ++ wz_X0 cI r2) ++ wz_X0 cI r3) ++ wz_X1 cI r4) ++ wz_X3 cI 16 r5) ++ wz_X3 cI 7 r6) ++ wz_X3 cI 4 r7) ++ wz_X3 cI 4 r8) ++ wz_X2 cI r9)) H := hP44
  have hD45 : va_D A ((a, .inr (4, [.ref (r1 0), .ref (r2 0), .ref (r3 0), .int 0, .ref (r4 0), .ref (r5 0), .ref (r6 0), .ref (r7 0), .ref (r8 0), .null])) :: ((((((((([] ++ wz_X0 cI r1) ++ wz_X0 cI r2) ++ wz_X0 cI r3) ++ wz_X1 cI r4) ++ wz_X3 cI 16 r5) ++ wz_X3 cI 7 r6) ++ wz_X3 cI 4 r7) ++ wz_X3 cI 4 r8) ++ wz_X2 cI r9)) := hD44
  refine x_putF (C := RX4) (T := TX4) (N := 10) (ci := 4) (k := 9) X inT4 tyX4_ok nmX4 rfl (by decide) mw_243 rfl hin rfl hP45 hD45 hS27 rfl rfl (Nat.le_of_ble_eq_true rfl) dX4_init_111 (fun H locs hP46 hD46 hS28 => ?_)
  have hP47 : va_P D vwCl ((a, .inr (4, [.ref (r1 0), .ref (r2 0), .ref (r3 0), .int 0, .ref (r4 0), .ref (r5 0), .ref (r6 0), .ref (r7 0), .ref (r8 0), .ref (r9 0)])) :: ((((((((([] ++ wz_X0 cI r1) ++ wz_X0 cI r2) ++ wz_X0 cI r3) ++ wz_X1 cI r4) ++ wz_X3 cI 16 r5) ++ wz_X3 cI 7 r6) ++ wz_X3 cI 4 r7) ++ wz_X3 cI 4 r8) ++ wz_X2 cI r9)) H := hP46
  have hD47 : va_D A ((a, .inr (4, [.ref (r1 0), .ref (r2 0), .ref (r3 0), .int 0, .ref (r4 0), .ref (r5 0), .ref (r6 0), .ref (r7 0), .ref (r8 0), .ref (r9 0)])) :: ((((((((([] ++ wz_X0 cI r1) ++ wz_X0 cI r2) ++ wz_X0 cI r3) ++ wz_X1 cI r4) ++ wz_X3 cI 16 r5) ++ wz_X3 cI 7 r6) ++ wz_X3 cI 4 r7) ++ wz_X3 cI 4 r8) ++ wz_X2 cI r9)) := hD46
  have hP48 : va_P D vwCl (wz_X4 cI (fun k => ([a, r1 0, r1 1, r1 2, r1 3, r1 4, r1 5, r1 6, r1 7, r1 8, r1 9, r1 10, r1 11, r1 12, r1 13, r1 14, r2 0, r2 1, r2 2, r2 3, r2 4, r2 5, r2 6, r2 7, r2 8, r2 9, r2 10, r2 11, r2 12, r2 13, r2 14, r3 0, r3 1, r3 2, r3 3, r3 4, r3 5, r3 6, r3 7, r3 8, r3 9, r3 10, r3 11, r3 12, r3 13, r3 14, r4 0, r4 1, r4 2, r5 0, r5 1, r6 0, r6 1, r7 0, r7 1, r8 0, r8 1, r9 0, r9 1, r9 2, r9 3, r9 4, r9 5, r9 6] : List Nat).getD k 0)) H := hP47
  have hD48 : va_D A (wz_X4 cI (fun k => ([a, r1 0, r1 1, r1 2, r1 3, r1 4, r1 5, r1 6, r1 7, r1 8, r1 9, r1 10, r1 11, r1 12, r1 13, r1 14, r2 0, r2 1, r2 2, r2 3, r2 4, r2 5, r2 6, r2 7, r2 8, r2 9, r2 10, r2 11, r2 12, r2 13, r2 14, r3 0, r3 1, r3 2, r3 3, r3 4, r3 5, r3 6, r3 7, r3 8, r3 9, r3 10, r3 11, r3 12, r3 13, r3 14, r4 0, r4 1, r4 2, r5 0, r5 1, r6 0, r6 1, r7 0, r7 1, r8 0, r8 1, r9 0, r9 1, r9 2, r9 3, r9 4, r9 5, r9 6] : List Nat).getD k 0)) := hD47
  exact hret (fun k => ([a, r1 0, r1 1, r1 2, r1 3, r1 4, r1 5, r1 6, r1 7, r1 8, r1 9, r1 10, r1 11, r1 12, r1 13, r1 14, r2 0, r2 1, r2 2, r2 3, r2 4, r2 5, r2 6, r2 7, r2 8, r2 9, r2 10, r2 11, r2 12, r2 13, r2 14, r3 0, r3 1, r3 2, r3 3, r3 4, r3 5, r3 6, r3 7, r3 8, r3 9, r3 10, r3 11, r3 12, r3 13, r3 14, r4 0, r4 1, r4 2, r5 0, r5 1, r6 0, r6 1, r7 0, r7 1, r8 0, r8 1, r9 0, r9 1, r9 2, r9 3, r9 4, r9 5, r9 6] : List Nat).getD k 0) H _ _ _ rfl hP48 hD48 hS28 dX4_init_114
