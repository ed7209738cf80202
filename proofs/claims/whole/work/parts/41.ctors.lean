abbrev wz_X3 (cI : ClassId) (n : Nat) (ad : Nat → Nat) : va_W := [(ad 0, .inr (3, [.ref (ad 1), .int 0])), (ad 1, .inl (cI, n, .inl (fun _ => 0)))]
abbrev wz_X0 (cI : ClassId) (ad : Nat → Nat) : va_W := [(ad 0, .inr (0, [.ref (ad 1), .ref (ad 3), .ref (ad 5), .ref (ad 7), .ref (ad 9), .ref (ad 11), .ref (ad 13), .int 0, .int 0])), (ad 1, .inr (3, [.ref (ad 2), .int 0])), (ad 2, .inl (cI, 7, .inl (fun _ => 0))), (ad 3, .inr (3, [.ref (ad 4), .int 0])), (ad 4, .inl (cI, 7, .inl (fun _ => 0))), (ad 5, .inr (3, [.ref (ad 6), .int 0])), (ad 6, .inl (cI, 7, .inl (fun _ => 0))), (ad 7, .inr (3, [.ref (ad 8), .int 0])), (ad 8, .inl (cI, 7, .inl (fun _ => 0))), (ad 9, .inr (3, [.ref (ad 10), .int 0])), (ad 10, .inl (cI, 7, .inl (fun _ => 0))), (ad 11, .inr (3, [.ref (ad 12), .int 0])), (ad 12, .inl (cI, 7, .inl (fun _ => 0))), (ad 13, .inr (3, [.ref (ad 14), .int 0])), (ad 14, .inl (cI, 7, .inl (fun _ => 0)))]
abbrev wz_X1 (cI : ClassId) (ad : Nat → Nat) : va_W := [(ad 0, .inr (1, [.ref (ad 1)])), (ad 1, .inr (3, [.ref (ad 2), .int 0])), (ad 2, .inl (cI, 96, .inl (fun _ => 0)))]
abbrev wz_X2 (cI : ClassId) (ad : Nat → Nat) : va_W := [(ad 0, .inr (2, [.ref (ad 1), .ref (ad 3), .ref (ad 5), .int 0, .int 0, .int 0, .int 0])), (ad 1, .inr (3, [.ref (ad 2), .int 0])), (ad 2, .inl (cI, 49, .inl (fun _ => 0))), (ad 3, .inr (3, [.ref (ad 4), .int 0])), (ad 4, .inl (cI, 7, .inl (fun _ => 0))), (ad 5, .inr (3, [.ref (ad 6), .int 0])), (ad 6, .inl (cI, 7, .inl (fun _ => 0)))]
abbrev wz_X4 (cI : ClassId) (ad : Nat → Nat) : va_W := [(ad 0, .inr (4, [.ref (ad 1), .ref (ad 16), .ref (ad 31), .int 0, .ref (ad 46), .ref (ad 49), .ref (ad 51), .ref (ad 53), .ref (ad 55), .ref (ad 57)])), (ad 1, .inr (0, [.ref (ad 2), .ref (ad 4), .ref (ad 6), .ref (ad 8), .ref (ad 10), .ref (ad 12), .ref (ad 14), .int 0, .int 0])), (ad 2, .inr (3, [.ref (ad 3), .int 0])), (ad 3, .inl (cI, 7, .inl (fun _ => 0))), (ad 4, .inr (3, [.ref (ad 5), .int 0])), (ad 5, .inl (cI, 7, .inl (fun _ => 0))), (ad 6, .inr (3, [.ref (ad 7), .int 0])), (ad 7, .inl (cI, 7, .inl (fun _ => 0))), (ad 8, .inr (3, [.ref (ad 9), .int 0])), (ad 9, .inl (cI, 7, .inl (fun _ => 0))), (ad 10, .inr (3, [.ref (ad 11), .int 0])), (ad 11, .inl (cI, 7, .inl (fun _ => 0))), (ad 12, .inr (3, [.ref (ad 13), .int 0])), (ad 13, .inl (cI, 7, .inl (fun _ => 0))), (ad 14, .inr (3, [.ref (ad 15), .int 0])), (ad 15, .inl (cI, 7, .inl (fun _ => 0))), (ad 16, .inr (0, [.ref (ad 17), .ref (ad 19), .ref (ad 21), .ref (ad 23), .ref (ad 25), .ref (ad 27), .ref (ad 29), .int 0, .int 0])), (ad 17, .inr (3, [.ref (ad 18), .int 0])), (ad 18, .inl (cI, 7, .inl (fun _ => 0))), (ad 19, .inr (3, [.ref (ad 20), .int 0])), (ad 20, .inl (cI, 7, .inl (fun _ => 0))), (ad 21, .inr (3, [.ref (ad 22), .int 0])), (ad 22, .inl (cI, 7, .inl (fun _ => 0))), (ad 23, .inr (3, [.ref (ad 24), .int 0])), (ad 24, .inl (cI, 7, .inl (fun _ => 0))), (ad 25, .inr (3, [.ref (ad 26), .int 0])), (ad 26, .inl (cI, 7, .inl (fun _ => 0))), (ad 27, .inr (3, [.ref (ad 28), .int 0])), (ad 28, .inl (cI, 7, .inl (fun _ => 0))), (ad 29, .inr (3, [.ref (ad 30), .int 0])), (ad 30, .inl (cI, 7, .inl (fun _ => 0))), (ad 31, .inr (0, [.ref (ad 32), .ref (ad 34), .ref (ad 36), .ref (ad 38), .ref (ad 40), .ref (ad 42), .ref (ad 44), .int 0, .int 0])), (ad 32, .inr (3, [.ref (ad 33), .int 0])), (ad 33, .inl (cI, 7, .inl (fun _ => 0))), (ad 34, .inr (3, [.ref (ad 35), .int 0])), (ad 35, .inl (cI, 7, .inl (fun _ => 0))), (ad 36, .inr (3, [.ref (ad 37), .int 0])), (ad 37, .inl (cI, 7, .inl (fun _ => 0))), (ad 38, .inr (3, [.ref (ad 39), .int 0])), (ad 39, .inl (cI, 7, .inl (fun _ => 0))), (ad 40, .inr (3, [.ref (ad 41), .int 0])), (ad 41, .inl (cI, 7, .inl (fun _ => 0))), (ad 42, .inr (3, [.ref (ad 43), .int 0])), (ad 43, .inl (cI, 7, .inl (fun _ => 0))), (ad 44, .inr (3, [.ref (ad 45), .int 0])), (ad 45, .inl (cI, 7, .inl (fun _ => 0))), (ad 46, .inr (1, [.ref (ad 47)])), (ad 47, .inr (3, [.ref (ad 48), .int 0])), (ad 48, .inl (cI, 96, .inl (fun _ => 0))), (ad 49, .inr (3, [.ref (ad 50), .int 0])), (ad 50, .inl (cI, 16, .inl (fun _ => 0))), (ad 51, .inr (3, [.ref (ad 52), .int 0])), (ad 52, .inl (cI, 7, .inl (fun _ => 0))), (ad 53, .inr (3, [.ref (ad 54), .int 0])), (ad 54, .inl (cI, 4, .inl (fun _ => 0))), (ad 55, .inr (3, [.ref (ad 56), .int 0])), (ad 56, .inl (cI, 4, .inl (fun _ => 0))), (ad 57, .inr (2, [.ref (ad 58), .ref (ad 60), .ref (ad 62), .int 0, .int 0, .int 0, .int 0])), (ad 58, .inr (3, [.ref (ad 59), .int 0])), (ad 59, .inl (cI, 49, .inl (fun _ => 0))), (ad 60, .inr (3, [.ref (ad 61), .int 0])), (ad 61, .inl (cI, 7, .inl (fun _ => 0))), (ad 62, .inr (3, [.ref (ad 63), .int 0])), (ad 63, .inl (cI, 7, .inl (fun _ => 0)))]
abbrev wz_X5 (cI : ClassId) (ad : Nat → Nat) : va_W := [(ad 0, .inr (5, [.ref (ad 1), .ref (ad 2), .ref (ad 3), .ref (ad 4), .ref (ad 5), .ref (ad 6), .ref (ad 7), .int 0, .int 0, .ref (ad 8), .ref (ad 9), .ref (ad 10), .ref (ad 11), .int 0, .int 0, .int 0, .ref (ad 12), .int 0, .int 0, .int 0, .int 0, .ref (ad 13), .ref (ad 14), .ref (ad 15), .int 0])), (ad 1, .inl (cI, 7, .inl (fun _ => 0))), (ad 2, .inl (cI, 7, .inl (fun _ => 0))), (ad 3, .inl (cI, 7, .inl (fun _ => 0))), (ad 4, .inl (cI, 7, .inl (fun _ => 0))), (ad 5, .inl (cI, 7, .inl (fun _ => 0))), (ad 6, .inl (cI, 7, .inl (fun _ => 0))), (ad 7, .inl (cI, 7, .inl (fun _ => 0))), (ad 8, .inl (cI, 96, .inl (fun _ => 0))), (ad 9, .inl (cI, 48, .inl (fun _ => 0))), (ad 10, .inl (cI, 48, .inl (fun _ => 0))), (ad 11, .inl (cI, 144, .inl (fun _ => 0))), (ad 12, .inl (cI, 132, .inl (fun _ => 0))), (ad 13, .inl (cI, 7, .inl (fun _ => 0))), (ad 14, .inl (cI, 8, .inl (fun _ => 0))), (ad 15, .inl (cI, 16, .inl (fun _ => 0)))]
theorem mw_134 : Cond.methodLink RX3 1 objectInit ∈ wTT := wTT_of 134 (by decide +kernel) rfl
theorem mw_135 : Cond.methodLink RX3 13 Lib.Math.max.name ∈ wTT := wTT_of 135 (by decide +kernel) rfl
theorem mw_128 : Cond.methodLink RX0 3 objectInit ∈ wTT := wTT_of 128 (by decide +kernel) rfl
theorem mw_129 : Cond.classLink RX0 9 RX3 ∈ wTT := wTT_of 129 (by decide +kernel) rfl
theorem mw_130 : Cond.instantiable RX3 2 ∈ wTT := wTT_of 130 (by decide +kernel) rfl
theorem mw_131 : Cond.methodLinkNest RX0 11 yX3_init RX4 ∈ wNW := wNW_of 131 (by decide +kernel) rfl
theorem mw_132 : Cond.instanceMethod yX3_init ∈ wTT := wTT_of 132 (by decide +kernel) rfl
theorem mw_133 : Cond.code yX3_init cX3_init 2 none ∈ wTT := wTT_of 133 (by decide +kernel) rfl
theorem mw_192 : Cond.methodLink RX1 3 objectInit ∈ wTT := wTT_of 192 (by decide +kernel) rfl
theorem mw_193 : Cond.classLink RX1 9 RX3 ∈ wTT := wTT_of 193 (by decide +kernel) rfl
theorem mw_194 : Cond.methodLinkNest RX1 11 yX3_init RX4 ∈ wNW := wNW_of 194 (by decide +kernel) rfl
theorem mw_207 : Cond.methodLink RX2 3 objectInit ∈ wTT := wTT_of 207 (by decide +kernel) rfl
theorem mw_208 : Cond.classLink RX2 9 RX3 ∈ wTT := wTT_of 208 (by decide +kernel) rfl
theorem mw_209 : Cond.methodLinkNest RX2 11 yX3_init RX4 ∈ wNW := wNW_of 209 (by decide +kernel) rfl
theorem mw_120 : Cond.methodLink RX4 1 objectInit ∈ wTT := wTT_of 120 (by decide +kernel) rfl
theorem mw_123 : Cond.classLink RX4 7 RX0 ∈ wTT := wTT_of 123 (by decide +kernel) rfl
theorem mw_124 : Cond.instantiable RX0 9 ∈ wTT := wTT_of 124 (by decide +kernel) rfl
theorem mw_125 : Cond.methodLinkNest RX4 9 yX0_init RX4 ∈ wNW := wNW_of 125 (by decide +kernel) rfl
theorem mw_126 : Cond.instanceMethod yX0_init ∈ wTT := wTT_of 126 (by decide +kernel) rfl
theorem mw_127 : Cond.code yX0_init cX0_init 1 none ∈ wTT := wTT_of 127 (by decide +kernel) rfl
theorem mw_187 : Cond.classLink RX4 26 RX1 ∈ wTT := wTT_of 187 (by decide +kernel) rfl
theorem mw_188 : Cond.instantiable RX1 1 ∈ wTT := wTT_of 188 (by decide +kernel) rfl
theorem mw_189 : Cond.methodLinkNest RX4 28 yX1_init RX4 ∈ wNW := wNW_of 189 (by decide +kernel) rfl
theorem mw_190 : Cond.instanceMethod yX1_init ∈ wTT := wTT_of 190 (by decide +kernel) rfl
theorem mw_191 : Cond.code yX1_init cX1_init 1 none ∈ wTT := wTT_of 191 (by decide +kernel) rfl
theorem mw_200 : Cond.classLink RX4 33 RX3 ∈ wTT := wTT_of 200 (by decide +kernel) rfl
theorem mw_201 : Cond.methodLinkNest RX4 35 yX3_init RX4 ∈ wNW := wNW_of 201 (by decide +kernel) rfl
theorem mw_202 : Cond.classLink RX4 51 RX2 ∈ wTT := wTT_of 202 (by decide +kernel) rfl
theorem mw_203 : Cond.instantiable RX2 7 ∈ wTT := wTT_of 203 (by decide +kernel) rfl
theorem mw_204 : Cond.methodLinkNest RX4 53 yX2_init RX4 ∈ wNW := wNW_of 204 (by decide +kernel) rfl
theorem mw_205 : Cond.instanceMethod yX2_init ∈ wTT := wTT_of 205 (by decide +kernel) rfl
theorem mw_206 : Cond.code yX2_init cX2_init 1 none ∈ wTT := wTT_of 206 (by decide +kernel) rfl
theorem mw_842 : Cond.methodLink RX5 1 objectInit ∈ wTT := wTT_of 842 (by decide +kernel) rfl
theorem lkX0_11 : LkIN RX0 11 yX3_init cX3_init 2 1 := ⟨mw_131, mw_132, mw_104, mw_133, ⟨by decide, by decide, by decide +kernel⟩, rfl, by decide⟩
theorem lkX1_11 : LkIN RX1 11 yX3_init cX3_init 2 1 := ⟨mw_194, mw_132, mw_104, mw_133, ⟨by decide, by decide, by decide +kernel⟩, rfl, by decide⟩
theorem lkX2_11 : LkIN RX2 11 yX3_init cX3_init 2 1 := ⟨mw_209, mw_132, mw_104, mw_133, ⟨by decide, by decide, by decide +kernel⟩, rfl, by decide⟩
theorem lkX4_9 : LkIN RX4 9 yX0_init cX0_init 1 0 := ⟨mw_125, mw_126, mw_103, mw_127, ⟨by decide, by decide, by decide +kernel⟩, rfl, by decide⟩
theorem lkX4_28 : LkIN RX4 28 yX1_init cX1_init 1 0 := ⟨mw_189, mw_190, mw_106, mw_191, ⟨by decide, by decide, by decide +kernel⟩, rfl, by decide⟩
theorem lkX4_35 : LkIN RX4 35 yX3_init cX3_init 2 1 := ⟨mw_201, mw_132, mw_104, mw_133, ⟨by decide, by decide, by decide +kernel⟩, rfl, by decide⟩
theorem lkX4_53 : LkIN RX4 53 yX2_init cX2_init 1 0 := ⟨mw_204, mw_205, mw_107, mw_206, ⟨by decide, by decide, by decide +kernel⟩, rfl, by decide⟩
set_option maxHeartbeats 4000000 in
set_option maxRecDepth 100000 in
theorem c_X3_init (l : Launch) (D : va_G) (cI : ClassId) (aS : aSt) (a : Nat) (n : Nat) (h0 : 0 < n) (hn : n ≤ 1000) : CtN l yX3_init cX3_init 2 1 1 n D cI aS [.int (nI n)] a [(a, .inr (3, [.null, .int 0]))] (wz_X3 cI n) := by
  refine ctN_of (by decide) rfl (Nat.le_of_ble_eq_true rfl) ?_
  intro p e s m below meth c A Q ls X hin hret hP hD hl
  have hS : va_S A s.heap s.heap [] := va_S.rf
  have hx := X.1
  have hb := X.2.1
  have hl : lv_has ls 2 [(0, .ref a), (1, .int (nI n))] := hl
  refine lv_aload_n hx hb dX3_init_0 rfl (lv_at hl 0 rfl) ?_
  refine x_objInit X mw_134 hl.1 (Nat.le_of_ble_eq_true rfl) (Nat.le_of_ble_eq_true rfl) dX3_init_1 ?_
  refine lv_aload_n hx hb dX3_init_4 rfl (lv_at hl 0 rfl) ?_
  refine lv_iconst (v := 0) hx hb dX3_init_5 (by decide) ?_
  refine x_put (C := RX3) (T := TX3) (N := 2) (ci := 3) (k := 1) X inT3 tyX3_ok nmX3 rfl (by decide) mw_139 rfl hP hD hS rfl rfl (Nat.le_of_ble_eq_true rfl) dX3_init_6 (fun H locs hP1 hD1 hS1 => ?_)
  have hP2 : va_P D vwCl ((a, .inr (3, [.null, .int 0])) :: []) H := hP1
  have hD2 : va_D A ((a, .inr (3, [.null, .int 0])) :: []) := hD1
  refine lv_aload_n hx hb dX3_init_9 rfl (lv_at hl 0 rfl) ?_
  refine lv_iconst (v := 0) hx hb dX3_init_10 (by decide) ?_
  refine lv_iload_n hx hb dX3_init_11 rfl (lv_at hl 1 rfl) ?_
  refine va_mmax hx hb (X.2.2.2.1.trans hl.1.symm) X.2.2.2.2.1 (X.hts mw_135) (X.hts mw_136) (X.hts mw_105) (X.hts mw_137) (Nat.le_of_ble_eq_true rfl) (Nat.le_of_ble_eq_true rfl) (Nat.le_of_ble_eq_true rfl) (Nat.zero_le _) dX3_init_12 ?_
  rw [show (if (0 : Int32) < nI n then nI n else 0) = nI n from if_pos (nI_lt (a := 0) (by omega) (by omega))]
  refine x_newa (n := n) X hP2 hD2 hS1 (by omega) (Nat.le_refl _) (by show 0 + n ≤ n; omega) dX3_init_15 (fun q1 H hP3 hD3 hS2 => ?_)
  have hP4 : va_P D vwCl ((a, .inr (3, [.null, .int 0])) :: ([] ++ [(q1, .inl (cI, n, .inl (fun _ => 0)))])) H := hP3
  have hD4 : va_D A ((a, .inr (3, [.null, .int 0])) :: ([] ++ [(q1, .inl (cI, n, .inl (fun _ => 0)))])) := hD3
  refine x_putF (C := RX3) (T := TX3) (N := 2) (ci := 3) (k := 0) X inT3 tyX3_ok nmX3 rfl (by decide) mw_138 rfl hin rfl hP4 hD4 hS2 rfl rfl (Nat.le_of_ble_eq_true rfl) dX3_init_17 (fun H locs hP5 hD5 hS3 => ?_)
  have hP6 : va_P D vwCl ((a, .inr (3, [.ref q1, .int 0])) :: ([] ++ [(q1, .inl (cI, n, .inl (fun _ => 0)))])) H := hP5
  have hD6 : va_D A ((a, .inr (3, [.ref q1, .int 0])) :: ([] ++ [(q1, .inl (cI, n, .inl (fun _ => 0)))])) := hD5
  have hP7 : va_P D vwCl (wz_X3 cI n (fun k => ([a, q1] : List Nat).getD k 0)) H := hP6
  have hD7 : va_D A (wz_X3 cI n (fun k => ([a, q1] : List Nat).getD k 0)) := hD6
  refine W.widen (k := 1) (n := n) (Nat.le_refl _) (by omega) ?_
  exact hret (fun k => ([a, q1] : List Nat).getD k 0) H _ _ _ rfl hP7 hD7 hS3 dX3_init_20
set_option maxHeartbeats 4000000 in
set_option maxRecDepth 100000 in
theorem c_X0_init (l : Launch) (D : va_G) (cI : ClassId) (aS : aSt) (a : Nat) : CtN l yX0_init cX0_init 1 2 14 63 D cI aS [] a [(a, .inr (0, [.null, .null, .null, .null, .null, .null, .null, .int 0, .int 0]))] (wz_X0 cI) := by
  refine ctN_of (by decide) rfl (Nat.le_of_ble_eq_true rfl) ?_
  intro p e s m below meth c A Q ls X hin hret hP hD hl
  have hS : va_S A s.heap s.heap [] := va_S.rf
  have hx := X.1
  have hb := X.2.1
  have hl : lv_has ls 1 [(0, .ref a)] := hl
  refine lv_aload_n hx hb dX0_init_0 rfl (lv_at hl 0 rfl) ?_
  refine x_objInit X mw_128 hl.1 (Nat.le_of_ble_eq_true rfl) (Nat.le_of_ble_eq_true rfl) dX0_init_1 ?_
  refine lv_aload_n hx hb dX0_init_4 rfl (lv_at hl 0 rfl) ?_
  refine x_new (C := RX3) (T := TX3) (N := 2) (ci := 3) (fs := [.null, .int 0]) X inT3 tyX3_ok mw_129 mw_130 mw_104 rfl (by decide) hP hD hS (Nat.le_of_ble_eq_true rfl) (Nat.le_of_ble_eq_true rfl) dX0_init_5 (fun q1 H hP1 hD1 hS1 => ?_)
  refine lv_dup hx hb dX0_init_8 rfl ?_
  refine lv_bipush (v := 7) hx hb dX0_init_9 (by decide) ?_
  refine x_ctorN (w0 := (a, .inr (0, [.null, .null, .null, .null, .null, .null, .null, .int 0, .int 0])) :: []) (wf := wz_X3 cI 7) X hP1 hD1 hS1 (c_X3_init l D cI aS q1 7 (by omega) (by omega)) lkX0_11 (Nat.le_of_ble_eq_true rfl) (Nat.le_of_ble_eq_true rfl) rfl rfl (Nat.le_of_ble_eq_true rfl) hl.1 (Nat.le_of_ble_eq_true rfl) (Nat.le_of_ble_eq_true rfl) dX0_init_11 (fun r1 H locs had hP2 hD2 hS2 => ?_)
  subst had
  have hP3 : va_P D vwCl ((a, .inr (0, [.null, .null, .null, .null, .null, .null, .null, .int 0, .int 0])) :: ([] ++ wz_X3 cI 7 r1)) H := hP2
  have hD3 : va_D A ((a, .inr (0, [.null, .null, .null, .null, .null, .null, .null, .int 0, .int 0])) :: ([] ++ wz_X3 cI 7 r1)) := hD2
  refine x_putF (C := RX0) (T := TX0) (N := 9) (ci := 0) (k := 0) X inT0 tyX0_ok nmX0 rfl (by decide) mw_148 rfl hin rfl hP3 hD3 hS2 rfl rfl (Nat.le_of_ble_eq_true rfl) dX0_init_14 (fun H locs hP4 hD4 hS3 => ?_)
  have hP5 : va_P D vwCl ((a, .inr (0, [.ref (r1 0), .null, .null, .null, .null, .null, .null, .int 0, .int 0])) :: ([] ++ wz_X3 cI 7 r1)) H := hP4
  have hD5 : va_D A ((a, .inr (0, [.ref (r1 0), .null, .null, .null, .null, .null, .null, .int 0, .int 0])) :: ([] ++ wz_X3 cI 7 r1)) := hD4
  refine lv_aload_n hx hb dX0_init_17 rfl (lv_at hl 0 rfl) ?_
  refine x_new (C := RX3) (T := TX3) (N := 2) (ci := 3) (fs := [.null, .int 0]) X inT3 tyX3_ok mw_129 mw_130 mw_104 rfl (by decide) hP5 hD5 hS3 (Nat.le_of_ble_eq_true rfl) (Nat.le_of_ble_eq_true rfl) dX0_init_18 (fun q2 H hP6 hD6 hS4 => ?_)
  refine lv_dup hx hb dX0_init_21 rfl ?_
  refine lv_bipush (v := 7) hx hb dX0_init_22 (by decide) ?_
  refine x_ctorN (w0 := (a, .inr (0, [.ref (r1 0), .null, .null, .null, .null, .null, .null, .int 0, .int 0])) :: ([] ++ wz_X3 cI 7 r1)) (wf := wz_X3 cI 7) X hP6 hD6 hS4 (c_X3_init l D cI aS q2 7 (by omega) (by omega)) lkX0_11 (Nat.le_of_ble_eq_true rfl) (Nat.le_of_ble_eq_true rfl) rfl rfl (Nat.le_of_ble_eq_true rfl) hl.1 (Nat.le_of_ble_eq_true rfl) (Nat.le_of_ble_eq_true rfl) dX0_init_24 (fun r2 H locs had hP7 hD7 hS5 => ?_)
  subst had
  have hP8 : va_P D vwCl ((a, .inr (0, [.ref (r1 0), .null, .null, .null, .null, .null, .null, .int 0, .int 0])) :: (([] ++ wz_X3 cI 7 r1) ++ wz_X3 cI 7 r2)) H := hP7
  have hD8 : va_D A ((a, .inr (0, [.ref (r1 0), .null, .null, .null, .null, .null, .null, .int 0, .int 0])) :: (([] ++ wz_X3 cI 7 r1) ++ wz_X3 cI 7 r2)) := hD7
  refine x_putF (C := RX0) (T := TX0) (N := 9) (ci := 0) (k := 1) X inT0 tyX0_ok nmX0 rfl (by decide) mw_150 rfl hin rfl hP8 hD8 hS5 rfl rfl (Nat.le_of_ble_eq_true rfl) dX0_init_27 (fun H locs hP9 hD9 hS6 => ?_)
  have hP10 : va_P D vwCl ((a, .inr (0, [.ref (r1 0), .ref (r2 0), .null, .null, .null, .null, .null, .int 0, .int 0])) :: (([] ++ wz_X3 cI 7 r1) ++ wz_X3 cI 7 r2)) H := hP9
  have hD10 : va_D A ((a, .inr (0, [.ref (r1 0), .ref (r2 0), .null, .null, .null, .null, .null, .int 0, .int 0])) :: (([] ++ wz_X3 cI 7 r1) ++ wz_X3 cI 7 r2)) := hD9
  refine lv_aload_n hx hb dX0_init_30 rfl (lv_at hl 0 rfl) ?_
  refine x_new (C := RX3) (T := TX3) (N := 2) (ci := 3) (fs := [.null, .int 0]) X inT3 tyX3_ok mw_129 mw_130 mw_104 rfl (by decide) hP10 hD10 hS6 (Nat.le_of_ble_eq_true rfl) (Nat.le_of_ble_eq_true rfl) dX0_init_31 (fun q3 H hP11 hD11 hS7 => ?_)
  refine lv_dup hx hb dX0_init_34 rfl ?_
  refine lv_bipush (v := 7) hx hb dX0_init_35 (by decide) ?_
  refine x_ctorN (w0 := (a, .inr (0, [.ref (r1 0), .ref (r2 0), .null, .null, .null, .null, .null, .int 0, .int 0])) :: (([] ++ wz_X3 cI 7 r1) ++ wz_X3 cI 7 r2)) (wf := wz_X3 cI 7) X hP11 hD11 hS7 (c_X3_init l D cI aS q3 7 (by omega) (by omega)) lkX0_11 (Nat.le_of_ble_eq_true rfl) (Nat.le_of_ble_eq_true rfl) rfl rfl (Nat.le_of_ble_eq_true rfl) hl.1 (Nat.le_of_ble_eq_true rfl) (Nat.le_of_ble_eq_true rfl) dX0_init_37 (fun r3 H locs had hP12 hD12 hS8 => ?_)
  subst had
  have hP13 : va_P D vwCl ((a, .inr (0, [.ref (r1 0), .ref (r2 0), .null, .null, .null, .null, .null, .int 0, .int 0])) :: ((([] ++ wz_X3 cI 7 r1) ++ wz_X3 cI 7 r2) ++ wz_X3 cI 7 r3)) H := hP12
  have hD13 : va_D A ((a, .inr (0, [.ref (r1 0), .ref (r2 0), .null, .null, .null, .null, .null, .int 0, .int 0])) :: ((([] ++ wz_X3 cI 7 r1) ++ wz_X3 cI 7 r2) ++ wz_X3 cI 7 r3)) := hD12
  refine x_putF (C := RX0) (T := TX0) (N := 9) (ci := 0) (k := 2) X inT0 tyX0_ok nmX0 rfl (by decide) mw_152 rfl hin rfl hP13 hD13 hS8 rfl rfl (Nat.le_of_ble_eq_true rfl) dX0_init_40 (fun H locs hP14 hD14 hS9 => ?_)
  have hP15 : va_P D vwCl ((a, .inr (0, [.ref (r1 0), .ref (r2 0), .ref (r3 0), .null, .null, .null, .null, .int 0, .int 0])) :: ((([] ++ wz_X3 cI 7 r1) ++ wz_X3 cI 7 r2) ++ wz_X3 cI 7 r3)) H := hP14
  have hD15 : va_D A ((a, .inr (0, [.ref (r1 0), .ref (r2 0), .ref (r3 0), .null, .null, .null, .null, .int 0, .int 0])) :: ((([] ++ wz_X3 cI 7 r1) ++ wz_X3 cI 7 r2) ++ wz_X3 cI 7 r3)) := hD14
  refine lv_aload_n hx hb dX0_init_43 rfl (lv_at hl 0 rfl) ?_
  refine x_new (C := RX3) (T := TX3) (N := 2) (ci := 3) (fs := [.null, .int 0]) X inT3 tyX3_ok mw_129 mw_130 mw_104 rfl (by decide) hP15 hD15 hS9 (Nat.le_of_ble_eq_true rfl) (Nat.le_of_ble_eq_true rfl) dX0_init_44 (fun q4 H hP16 hD16 hS10 => ?_)
  refine lv_dup hx hb dX0_init_47 rfl ?_
  refine lv_bipush (v := 7) hx hb dX0_init_48 (by decide) ?_
  refine x_ctorN (w0 := (a, .inr (0, [.ref (r1 0), .ref (r2 0), .ref (r3 0), .null, .null, .null, .null, .int 0, .int 0])) :: ((([] ++ wz_X3 cI 7 r1) ++ wz_X3 cI 7 r2) ++ wz_X3 cI 7 r3)) (wf := wz_X3 cI 7) X hP16 hD16 hS10 (c_X3_init l D cI aS q4 7 (by omega) (by omega)) lkX0_11 (Nat.le_of_ble_eq_true rfl) (Nat.le_of_ble_eq_true rfl) rfl rfl (Nat.le_of_ble_eq_true rfl) hl.1 (Nat.le_of_ble_eq_true rfl) (Nat.le_of_ble_eq_true rfl) dX0_init_50 (fun r4 H locs had hP17 hD17 hS11 => ?_)
  subst had
  have hP18 : va_P D vwCl ((a, .inr (0, [.ref (r1 0), .ref (r2 0), .ref (r3 0), .null, .null, .null, .null, .int 0, .int 0])) :: (((([] ++ wz_X3 cI 7 r1) ++ wz_X3 cI 7 r2) ++ wz_X3 cI 7 r3) ++ wz_X3 cI 7 r4)) H := hP17
  have hD18 : va_D A ((a, .inr (0, [.ref (r1 0), .ref (r2 0), .ref (r3 0), .null, .null, .null, .null, .int 0, .int 0])) :: (((([] ++ wz_X3 cI 7 r1) ++ wz_X3 cI 7 r2) ++ wz_X3 cI 7 r3) ++ wz_X3 cI 7 r4)) := hD17
  refine x_putF (C := RX0) (T := TX0) (N := 9) (ci := 0) (k := 3) X inT0 tyX0_ok nmX0 rfl (by decide) mw_154 rfl hin rfl hP18 hD18 hS11 rfl rfl (Nat.le_of_ble_eq_true rfl) dX0_init_53 (fun H locs hP19 hD19 hS12 => ?_)
  have hP20 : va_P D vwCl ((a, .inr (0, [.ref (r1 0), .ref (r2 0), .ref (r3 0), .ref (r4 0), .null, .null, .null, .int 0, .int 0])) :: (((([] ++ wz_X3 cI 7 r1) ++ wz_X3 cI 7 r2) ++ wz_X3 cI 7 r3) ++ wz_X3 cI 7 r4)) H := hP19
  have hD20 : va_D A ((a, .inr (0, [.ref (r1 0), .ref (r2 0), .ref (r3 0), .ref (r4 0), .null, .null, .null, .int 0, .int 0])) :: (((([] ++ wz_X3 cI 7 r1) ++ wz_X3 cI 7 r2) ++ wz_X3 cI 7 r3) ++ wz_X3 cI 7 r4)) := hD19
  refine lv_aload_n hx hb dX0_init_56 rfl (lv_at hl 0 rfl) ?_
  refine x_new (C := RX3) (T := TX3) (N := 2) (ci := 3) (fs := [.null, .int 0]) X inT3 tyX3_ok mw_129 mw_130 mw_104 rfl (by decide) hP20 hD20 hS12 (Nat.le_of_ble_eq_true rfl) (Nat.le_of_ble_eq_true rfl) dX0_init_57 (fun q5 H hP21 hD21 hS13 => ?_)
  refine lv_dup hx hb dX0_init_60 rfl ?_
  refine lv_bipush (v := 7) hx hb dX0_init_61 (by decide) ?_
  refine x_ctorN (w0 := (a, .inr (0, [.ref (r1 0), .ref (r2 0), .ref (r3 0), .ref (r4 0), .null, .null, .null, .int 0, .int 0])) :: (((([] ++ wz_X3 cI 7 r1) ++ wz_X3 cI 7 r2) ++ wz_X3 cI 7 r3) ++ wz_X3 cI 7 r4)) (wf := wz_X3 cI 7) X hP21 hD21 hS13 (c_X3_init l D cI aS q5 7 (by omega) (by omega)) lkX0_11 (Nat.le_of_ble_eq_true rfl) (Nat.le_of_ble_eq_true rfl) rfl rfl (Nat.le_of_ble_eq_true rfl) hl.1 (Nat.le_of_ble_eq_true rfl) (Nat.le_of_ble_eq_true rfl) dX0_init_63 (fun r5 H locs had hP22 hD22 hS14 => ?_)
  subst had
  have hP23 : va_P D vwCl ((a, .inr (0, [.ref (r1 0), .ref (r2 0), .ref (r3 0), .ref (r4 0), .null, .null, .null, .int 0, .int 0])) :: ((((([] ++ wz_X3 cI 7 r1) ++ wz_X3 cI 7 r2) ++ wz_X3 cI 7 r3) ++ wz_X3 cI 7 r4) ++ wz_X3 cI 7 r5)) H := hP22
  have hD23 : va_D A ((a, .inr (0, [.ref (r1 0), .ref (r2 0), .ref (r3 0), .ref (r4 0), .null, .null, .null, .int 0, .int 0])) :: ((((([] ++ wz_X3 cI 7 r1) ++ wz_X3 cI 7 r2) ++ wz_X3 cI 7 r3) ++ wz_X3 cI 7 r4) ++ wz_X3 cI 7 r5)) := hD22
  refine x_putF (C := RX0) (T := TX0) (N := 9) (ci := 0) (k := 4) X inT0 tyX0_ok nmX0 rfl (by decide) mw_156 rfl hin rfl hP23 hD23 hS14 rfl rfl (Nat.le_of_ble_eq_true rfl) dX0_init_66 (fun H locs hP24 hD24 hS15 => ?_)
  have hP25 : va_P D vwCl ((a, .inr (0, [.ref (r1 0), .ref (r2 0), .ref (r3 0), .ref (r4 0), .ref (r5 0), .null, .null, .int 0, .int 0])) :: ((((([] ++ wz_X3 cI 7 r1) ++ wz_X3 cI 7 r2) ++ wz_X3 cI 7 r3) ++ wz_X3 cI 7 r4) ++ wz_X3 cI 7 r5)) H := hP24
  have hD25 : va_D A ((a, .inr (0, [.ref (r1 0), .ref (r2 0), .ref (r3 0), .ref (r4 0), .ref (r5 0), .null, .null, .int 0, .int 0])) :: ((((([] ++ wz_X3 cI 7 r1) ++ wz_X3 cI 7 r2) ++ wz_X3 cI 7 r3) ++ wz_X3 cI 7 r4) ++ wz_X3 cI 7 r5)) := hD24
  refine lv_aload_n hx hb dX0_init_69 rfl (lv_at hl 0 rfl) ?_
  refine x_new (C := RX3) (T := TX3) (N := 2) (ci := 3) (fs := [.null, .int 0]) X inT3 tyX3_ok mw_129 mw_130 mw_104 rfl (by decide) hP25 hD25 hS15 (Nat.le_of_ble_eq_true rfl) (Nat.le_of_ble_eq_true rfl) dX0_init_70 (fun q6 H hP26 hD26 hS16 => ?_)
  refine lv_dup hx hb dX0_init_73 rfl ?_
  refine lv_bipush (v := 7) hx hb dX0_init_74 (by decide) ?_
  refine x_ctorN (w0 := (a, .inr (0, [.ref (r1 0), .ref (r2 0), .ref (r3 0), .ref (r4 0), .ref (r5 0), .null, .null, .int 0, .int 0])) :: ((((([] ++ wz_X3 cI 7 r1) ++ wz_X3 cI 7 r2) ++ wz_X3 cI 7 r3) ++ wz_X3 cI 7 r4) ++ wz_X3 cI 7 r5)) (wf := wz_X3 cI 7) X hP26 hD26 hS16 (c_X3_init l D cI aS q6 7 (by omega) (by omega)) lkX0_11 (Nat.le_of_ble_eq_true rfl) (Nat.le_of_ble_eq_true rfl) rfl rfl (Nat.le_of_ble_eq_true rfl) hl.1 (Nat.le_of_ble_eq_true rfl) (Nat.le_of_ble_eq_true rfl) dX0_init_76 (fun r6 H locs had hP27 hD27 hS17 => ?_)
  subst had
  have hP28 : va_P D vwCl ((a, .inr (0, [.ref (r1 0), .ref (r2 0), .ref (r3 0), .ref (r4 0), .ref (r5 0), .null, .null, .int 0, .int 0])) :: (((((([] ++ wz_X3 cI 7 r1) ++ wz_X3 cI 7 r2) ++ wz_X3 cI 7 r3) ++ wz_X3 cI 7 r4) ++ wz_X3 cI 7 r5) ++ wz_X3 cI 7 r6)) H := hP27
  have hD28 : va_D A ((a, .inr (0, [.ref (r1 0), .ref (r2 0), .ref (r3 0), .ref (r4 0), .ref (r5 0), .null, .null, .int 0, .int 0])) :: (((((([] ++ wz_X3 cI 7 r1) ++ wz_X3 cI 7 r2) ++ wz_X3 cI 7 r3) ++ wz_X3 cI 7 r4) ++ wz_X3 cI 7 r5) ++ wz_X3 cI 7 r6)) := hD27
  refine x_putF (C := RX0) (T := TX0) (N := 9) (ci := 0) (k := 5) X inT0 tyX0_ok nmX0 rfl (by decide) mw_158 rfl hin rfl hP28 hD28 hS17 rfl rfl (Nat.le_of_ble_eq_true rfl) dX0_init_79 (fun H locs hP29 hD29 hS18 => ?_)
  have hP30 : va_P D vwCl ((a, .inr (0, [.ref (r1 0), .ref (r2 0), .ref (r3 0), .ref (r4 0), .ref (r5 0), .ref (r6 0), .null, .int 0, .int 0])) :: (((((([] ++ wz_X3 cI 7 r1) ++ wz_X3 cI 7 r2) ++ wz_X3 cI 7 r3) ++ wz_X3 cI 7 r4) ++ wz_X3 cI 7 r5) ++ wz_X3 cI 7 r6)) H := hP29
  have hD30 : va_D A ((a, .inr (0, [.ref (r1 0), .ref (r2 0), .ref (r3 0), .ref (r4 0), .ref (r5 0), .ref (r6 0), .null, .int 0, .int 0])) :: (((((([] ++ wz_X3 cI 7 r1) ++ wz_X3 cI 7 r2) ++ wz_X3 cI 7 r3) ++ wz_X3 cI 7 r4) ++ wz_X3 cI 7 r5) ++ wz_X3 cI 7 r6)) := hD29
  refine lv_aload_n hx hb dX0_init_82 rfl (lv_at hl 0 rfl) ?_
  refine x_new (C := RX3) (T := TX3) (N := 2) (ci := 3) (fs := [.null, .int 0]) X inT3 tyX3_ok mw_129 mw_130 mw_104 rfl (by decide) hP30 hD30 hS18 (Nat.le_of_ble_eq_true rfl) (Nat.le_of_ble_eq_true rfl) dX0_init_83 (fun q7 H hP31 hD31 hS19 => ?_)
  refine lv_dup hx hb dX0_init_86 rfl ?_
  refine lv_bipush (v := 7) hx hb dX0_init_87 (by decide) ?_
  refine x_ctorN (w0 := (a, .inr (0, [.ref (r1 0), .ref (r2 0), .ref (r3 0), .ref (r4 0), .ref (r5 0), .ref (r6 0), .null, .int 0, .int 0])) :: (((((([] ++ wz_X3 cI 7 r1) ++ wz_X3 cI 7 r2) ++ wz_X3 cI 7 r3) ++ wz_X3 cI 7 r4) ++ wz_X3 cI 7 r5) ++ wz_X3 cI 7 r6)) (wf := wz_X3 cI 7) X hP31 hD31 hS19 (c_X3_init l D cI aS q7 7 (by omega) (by omega)) lkX0_11 (Nat.le_of_ble_eq_true rfl) (Nat.le_of_ble_eq_true rfl) rfl rfl (Nat.le_of_ble_eq_true rfl) hl.1 (Nat.le_of_ble_eq_true rfl) (Nat.le_of_ble_eq_true rfl) dX0_init_89 (fun r7 H locs had hP32 hD32 hS20 => ?_)
  subst had
  have hP33 : va_P D vwCl ((a, .inr (0, [.ref (r1 0), .ref (r2 0), .ref (r3 0), .ref (r4 0), .ref (r5 0), .ref (r6 0), .null, .int 0, .int 0])) :: ((((((([] ++ wz_X3 cI 7 r1) ++ wz_X3 cI 7 r2) ++ wz_X3 cI 7 r3) ++ wz_X3 cI 7 r4) ++ wz_X3 cI 7 r5) ++ wz_X3 cI 7 r6) ++ wz_X3 cI 7 r7)) H := hP32
  have hD33 : va_D A ((a, .inr (0, [.ref (r1 0), .ref (r2 0), .ref (r3 0), .ref (r4 0), .ref (r5 0), .ref (r6 0), .null, .int 0, .int 0])) :: ((((((([] ++ wz_X3 cI 7 r1) ++ wz_X3 cI 7 r2) ++ wz_X3 cI 7 r3) ++ wz_X3 cI 7 r4) ++ wz_X3 cI 7 r5) ++ wz_X3 cI 7 r6) ++ wz_X3 cI 7 r7)) := hD32
  refine x_putF (C := RX0) (T := TX0) (N := 9) (ci := 0) (k := 6) X inT0 tyX0_ok nmX0 rfl (by decide) mw_161 rfl hin rfl hP33 hD33 hS20 rfl rfl (Nat.le_of_ble_eq_true rfl) dX0_init_92 (fun H locs hP34 hD34 hS21 => ?_)
  have hP35 : va_P D vwCl ((a, .inr (0, [.ref (r1 0), .ref (r2 0), .ref (r3 0), .ref (r4 0), .ref (r5 0), .ref (r6 0), .ref (r7 0), .int 0, .int 0])) :: ((((((([] ++ wz_X3 cI 7 r1) ++ wz_X3 cI 7 r2) ++ wz_X3 cI 7 r3) ++ wz_X3 cI 7 r4) ++ wz_X3 cI 7 r5) ++ wz_X3 cI 7 r6) ++ wz_X3 cI 7 r7)) H := hP34
  have hD35 : va_D A ((a, .inr (0, [.ref (r1 0), .ref (r2 0), .ref (r3 0), .ref (r4 0), .ref (r5 0), .ref (r6 0), .ref (r7 0), .int 0, .int 0])) :: ((((((([] ++ wz_X3 cI 7 r1) ++ wz_X3 cI 7 r2) ++ wz_X3 cI 7 r3) ++ wz_X3 cI 7 r4) ++ wz_X3 cI 7 r5) ++ wz_X3 cI 7 r6) ++ wz_X3 cI 7 r7)) := hD34
  refine lv_aload_n hx hb dX0_init_95 rfl (lv_at hl 0 rfl) ?_
  refine lv_iconst (v := 0) hx hb dX0_init_96 (by decide) ?_
  refine x_put (C := RX0) (T := TX0) (N := 9) (ci := 0) (k := 7) X inT0 tyX0_ok nmX0 rfl (by decide) mw_163 rfl hP35 hD35 hS21 rfl rfl (Nat.le_of_ble_eq_true rfl) dX0_init_97 (fun H locs hP36 hD36 hS22 => ?_)
  have hP37 : va_P D vwCl ((a, .inr (0, [.ref (r1 0), .ref (r2 0), .ref (r3 0), .ref (r4 0), .ref (r5 0), .ref (r6 0), .ref (r7 0), .int 0, .int 0])) :: ((((((([] ++ wz_X3 cI 7 r1) ++ wz_X3 cI 7 r2) ++ wz_X3 cI 7 r3) ++ wz_X3 cI 7 r4) ++ wz_X3 cI 7 r5) ++ wz_X3 cI 7 r6) ++ wz_X3 cI 7 r7)) H := hP36
  have hD37 : va_D A ((a, .inr (0, [.ref (r1 0), .ref (r2 0), .ref (r3 0), .ref (r4 0), .ref (r5 0), .ref (r6 0), .ref (r7 0), .int 0, .int 0])) :: ((((((([] ++ wz_X3 cI 7 r1) ++ wz_X3 cI 7 r2) ++ wz_X3 cI 7 r3) ++ wz_X3 cI 7 r4) ++ wz_X3 cI 7 r5) ++ wz_X3 cI 7 r6) ++ wz_X3 cI 7 r7)) := hD36
  refine lv_aload_n hx hb dX0_init_100 rfl (lv_at hl 0 rfl) ?_
  refine lv_iconst (v := 0) hx hb dX0_init_101 (by decide) ?_
  refine x_put (C := RX0) (T := TX0) (N := 9) (ci := 0) (k := 8) X inT0 tyX0_ok nmX0 rfl (by decide) mw_166 rfl hP37 hD37 hS22 rfl rfl (Nat.le_of_ble_eq_true rfl) dX0_init_102 (fun H locs hP38 hD38 hS23 => ?_)
  have hP39 : va_P D vwCl ((a, .inr (0, [.ref (r1 0), .ref (r2 0), .ref (r3 0), .ref (r4 0), .ref (r5 0), .ref (r6 0), .ref (r7 0), .int 0, .int 0])) :: ((((((([] ++ wz_X3 cI 7 r1) ++ wz_X3 cI 7 r2) ++ wz_X3 cI 7 r3) ++ wz_X3 cI 7 r4) ++ wz_X3 cI 7 r5) ++ wz_X3 cI 7 r6) ++ wz_X3 cI 7 r7)) H := hP38
  have hD39 : va_D A ((a, .inr (0, [.ref (r1 0), .ref (r2 0), .ref (r3 0), .ref (r4 0), .ref (r5 0), .ref (r6 0), .ref (r7 0), .int 0, .int 0])) :: ((((((([] ++ wz_X3 cI 7 r1) ++ wz_X3 cI 7 r2) ++ wz_X3 cI 7 r3) ++ wz_X3 cI 7 r4) ++ wz_X3 cI 7 r5) ++ wz_X3 cI 7 r6) ++ wz_X3 cI 7 r7)) := hD38
  have hP40 : va_P D vwCl (wz_X0 cI (fun k => ([a, r1 0, r1 1, r2 0, r2 1, r3 0, r3 1, r4 0, r4 1, r5 0, r5 1, r6 0, r6 1, r7 0, r7 1] : List Nat).getD k 0)) H := hP39
  have hD40 : va_D A (wz_X0 cI (fun k => ([a, r1 0, r1 1, r2 0, r2 1, r3 0, r3 1, r4 0, r4 1, r5 0, r5 1, r6 0, r6 1, r7 0, r7 1] : List Nat).getD k 0)) := hD39
  exact hret (fun k => ([a, r1 0, r1 1, r2 0, r2 1, r3 0, r3 1, r4 0, r4 1, r5 0, r5 1, r6 0, r6 1, r7 0, r7 1] : List Nat).getD k 0) H _ _ _ rfl hP40 hD40 hS23 dX0_init_105
set_option maxHeartbeats 4000000 in
set_option maxRecDepth 100000 in
theorem c_X1_init (l : Launch) (D : va_G) (cI : ClassId) (aS : aSt) (a : Nat) : CtN l yX1_init cX1_init 1 2 2 98 D cI aS [] a [(a, .inr (1, [.null]))] (wz_X1 cI) := by
  refine ctN_of (by decide) rfl (Nat.le_of_ble_eq_true rfl) ?_
  intro p e s m below meth c A Q ls X hin hret hP hD hl
  have hS : va_S A s.heap s.heap [] := va_S.rf
  have hx := X.1
  have hb := X.2.1
  have hl : lv_has ls 1 [(0, .ref a)] := hl
  refine lv_aload_n hx hb dX1_init_0 rfl (lv_at hl 0 rfl) ?_
  refine x_objInit X mw_192 hl.1 (Nat.le_of_ble_eq_true rfl) (Nat.le_of_ble_eq_true rfl) dX1_init_1 ?_
  refine lv_aload_n hx hb dX1_init_4 rfl (lv_at hl 0 rfl) ?_
  refine x_new (C := RX3) (T := TX3) (N := 2) (ci := 3) (fs := [.null, .int 0]) X inT3 tyX3_ok mw_193 mw_130 mw_104 rfl (by decide) hP hD hS (Nat.le_of_ble_eq_true rfl) (Nat.le_of_ble_eq_true rfl) dX1_init_5 (fun q1 H hP1 hD1 hS1 => ?_)
  refine lv_dup hx hb dX1_init_8 rfl ?_
  refine lv_bipush (v := 96) hx hb dX1_init_9 (by decide) ?_
  refine x_ctorN (w0 := (a, .inr (1, [.null])) :: []) (wf := wz_X3 cI 96) X hP1 hD1 hS1 (c_X3_init l D cI aS q1 96 (by omega) (by omega)) lkX1_11 (Nat.le_of_ble_eq_true rfl) (Nat.le_of_ble_eq_true rfl) rfl rfl (Nat.le_of_ble_eq_true rfl) hl.1 (Nat.le_of_ble_eq_true rfl) (Nat.le_of_ble_eq_true rfl) dX1_init_11 (fun r1 H locs had hP2 hD2 hS2 => ?_)
  subst had
  have hP3 : va_P D vwCl ((a, .inr (1, [.null])) :: ([] ++ wz_X3 cI 96 r1)) H := hP2
  have hD3 : va_D A ((a, .inr (1, [.null])) :: ([] ++ wz_X3 cI 96 r1)) := hD2
  refine x_putF (C := RX1) (T := TX1) (N := 1) (ci := 1) (k := 0) X inT1 tyX1_ok nmX1 rfl (by decide) mw_195 rfl hin rfl hP3 hD3 hS2 rfl rfl (Nat.le_of_ble_eq_true rfl) dX1_init_14 (fun H locs hP4 hD4 hS3 => ?_)
  have hP5 : va_P D vwCl ((a, .inr (1, [.ref (r1 0)])) :: ([] ++ wz_X3 cI 96 r1)) H := hP4
  have hD5 : va_D A ((a, .inr (1, [.ref (r1 0)])) :: ([] ++ wz_X3 cI 96 r1)) := hD4
  have hP6 : va_P D vwCl (wz_X1 cI (fun k => ([a, r1 0, r1 1] : List Nat).getD k 0)) H := hP5
  have hD6 : va_D A (wz_X1 cI (fun k => ([a, r1 0, r1 1] : List Nat).getD k 0)) := hD5
  exact hret (fun k => ([a, r1 0, r1 1] : List Nat).getD k 0) H _ _ _ rfl hP6 hD6 hS3 dX1_init_17
set_option maxHeartbeats 4000000 in
set_option maxRecDepth 100000 in
theorem c_X2_init (l : Launch) (D : va_G) (cI : ClassId) (aS : aSt) (a : Nat) : CtN l yX2_init cX2_init 1 2 6 69 D cI aS [] a [(a, .inr (2, [.null, .null, .null, .int 0, .int 0, .int 0, .int 0]))] (wz_X2 cI) := by
  refine ctN_of (by decide) rfl (Nat.le_of_ble_eq_true rfl) ?_
  intro p e s m below meth c A Q ls X hin hret hP hD hl
  have hS : va_S A s.heap s.heap [] := va_S.rf
  have hx := X.1
  have hb := X.2.1
  have hl : lv_has ls 1 [(0, .ref a)] := hl
  refine lv_aload_n hx hb dX2_init_0 rfl (lv_at hl 0 rfl) ?_
  refine x_objInit X mw_207 hl.1 (Nat.le_of_ble_eq_true rfl) (Nat.le_of_ble_eq_true rfl) dX2_init_1 ?_
  refine lv_aload_n hx hb dX2_init_4 rfl (lv_at hl 0 rfl) ?_
  refine x_new (C := RX3) (T := TX3) (N := 2) (ci := 3) (fs := [.null, .int 0]) X inT3 tyX3_ok mw_208 mw_130 mw_104 rfl (by decide) hP hD hS (Nat.le_of_ble_eq_true rfl) (Nat.le_of_ble_eq_true rfl) dX2_init_5 (fun q1 H hP1 hD1 hS1 => ?_)
  refine lv_dup hx hb dX2_init_8 rfl ?_
  refine lv_bipush (v := 49) hx hb dX2_init_9 (by decide) ?_
  refine x_ctorN (w0 := (a, .inr (2, [.null, .null, .null, .int 0, .int 0, .int 0, .int 0])) :: []) (wf := wz_X3 cI 49) X hP1 hD1 hS1 (c_X3_init l D cI aS q1 49 (by omega) (by omega)) lkX2_11 (Nat.le_of_ble_eq_true rfl) (Nat.le_of_ble_eq_true rfl) rfl rfl (Nat.le_of_ble_eq_true rfl) hl.1 (Nat.le_of_ble_eq_true rfl) (Nat.le_of_ble_eq_true rfl) dX2_init_11 (fun r1 H locs had hP2 hD2 hS2 => ?_)
  subst had
  have hP3 : va_P D vwCl ((a, .inr (2, [.null, .null, .null, .int 0, .int 0, .int 0, .int 0])) :: ([] ++ wz_X3 cI 49 r1)) H := hP2
  have hD3 : va_D A ((a, .inr (2, [.null, .null, .null, .int 0, .int 0, .int 0, .int 0])) :: ([] ++ wz_X3 cI 49 r1)) := hD2
  refine x_putF (C := RX2) (T := TX2) (N := 7) (ci := 2) (k := 0) X inT2 tyX2_ok nmX2 rfl (by decide) mw_210 rfl hin rfl hP3 hD3 hS2 rfl rfl (Nat.le_of_ble_eq_true rfl) dX2_init_14 (fun H locs hP4 hD4 hS3 => ?_)
  have hP5 : va_P D vwCl ((a, .inr (2, [.ref (r1 0), .null, .null, .int 0, .int 0, .int 0, .int 0])) :: ([] ++ wz_X3 cI 49 r1)) H := hP4
  have hD5 : va_D A ((a, .inr (2, [.ref (r1 0), .null, .null, .int 0, .int 0, .int 0, .int 0])) :: ([] ++ wz_X3 cI 49 r1)) := hD4
  refine lv_aload_n hx hb dX2_init_17 rfl (lv_at hl 0 rfl) ?_
  refine x_new (C := RX3) (T := TX3) (N := 2) (ci := 3) (fs := [.null, .int 0]) X inT3 tyX3_ok mw_208 mw_130 mw_104 rfl (by decide) hP5 hD5 hS3 (Nat.le_of_ble_eq_true rfl) (Nat.le_of_ble_eq_true rfl) dX2_init_18 (fun q2 H hP6 hD6 hS4 => ?_)
  refine lv_dup hx hb dX2_init_21 rfl ?_
  refine lv_bipush (v := 7) hx hb dX2_init_22 (by decide) ?_
  refine x_ctorN (w0 := (a, .inr (2, [.ref (r1 0), .null, .null, .int 0, .int 0, .int 0, .int 0])) :: ([] ++ wz_X3 cI 49 r1)) (wf := wz_X3 cI 7) X hP6 hD6 hS4 (c_X3_init l D cI aS q2 7 (by omega) (by omega)) lkX2_11 (Nat.le_of_ble_eq_true rfl) (Nat.le_of_ble_eq_true rfl) rfl rfl (Nat.le_of_ble_eq_true rfl) hl.1 (Nat.le_of_ble_eq_true rfl) (Nat.le_of_ble_eq_true rfl) dX2_init_24 (fun r2 H locs had hP7 hD7 hS5 => ?_)
  subst had
  have hP8 : va_P D vwCl ((a, .inr (2, [.ref (r1 0), .null, .null, .int 0, .int 0, .int 0, .int 0])) :: (([] ++ wz_X3 cI 49 r1) ++ wz_X3 cI 7 r2)) H := hP7
  have hD8 : va_D A ((a, .inr (2, [.ref (r1 0), .null, .null, .int 0, .int 0, .int 0, .int 0])) :: (([] ++ wz_X3 cI 49 r1) ++ wz_X3 cI 7 r2)) := hD7
  refine x_putF (C := RX2) (T := TX2) (N := 7) (ci := 2) (k := 1) X inT2 tyX2_ok nmX2 rfl (by decide) mw_211 rfl hin rfl hP8 hD8 hS5 rfl rfl (Nat.le_of_ble_eq_true rfl) dX2_init_27 (fun H locs hP9 hD9 hS6 => ?_)
  have hP10 : va_P D vwCl ((a, .inr (2, [.ref (r1 0), .ref (r2 0), .null, .int 0, .int 0, .int 0, .int 0])) :: (([] ++ wz_X3 cI 49 r1) ++ wz_X3 cI 7 r2)) H := hP9
  have hD10 : va_D A ((a, .inr (2, [.ref (r1 0), .ref (r2 0), .null, .int 0, .int 0, .int 0, .int 0])) :: (([] ++ wz_X3 cI 49 r1) ++ wz_X3 cI 7 r2)) := hD9
  refine lv_aload_n hx hb dX2_init_30 rfl (lv_at hl 0 rfl) ?_
  refine x_new (C := RX3) (T := TX3) (N := 2) (ci := 3) (fs := [.null, .int 0]) X inT3 tyX3_ok mw_208 mw_130 mw_104 rfl (by decide) hP10 hD10 hS6 (Nat.le_of_ble_eq_true rfl) (Nat.le_of_ble_eq_true rfl) dX2_init_31 (fun q3 H hP11 hD11 hS7 => ?_)
  refine lv_dup hx hb dX2_init_34 rfl ?_
  refine lv_bipush (v := 7) hx hb dX2_init_35 (by decide) ?_
  refine x_ctorN (w0 := (a, .inr (2, [.ref (r1 0), .ref (r2 0), .null, .int 0, .int 0, .int 0, .int 0])) :: (([] ++ wz_X3 cI 49 r1) ++ wz_X3 cI 7 r2)) (wf := wz_X3 cI 7) X hP11 hD11 hS7 (c_X3_init l D cI aS q3 7 (by omega) (by omega)) lkX2_11 (Nat.le_of_ble_eq_true rfl) (Nat.le_of_ble_eq_true rfl) rfl rfl (Nat.le_of_ble_eq_true rfl) hl.1 (Nat.le_of_ble_eq_true rfl) (Nat.le_of_ble_eq_true rfl) dX2_init_37 (fun r3 H locs had hP12 hD12 hS8 => ?_)
  subst had
  have hP13 : va_P D vwCl ((a, .inr (2, [.ref (r1 0), .ref (r2 0), .null, .int 0, .int 0, .int 0, .int 0])) :: ((([] ++ wz_X3 cI 49 r1) ++ wz_X3 cI 7 r2) ++ wz_X3 cI 7 r3)) H := hP12
  have hD13 : va_D A ((a, .inr (2, [.ref (r1 0), .ref (r2 0), .null, .int 0, .int 0, .int 0, .int 0])) :: ((([] ++ wz_X3 cI 49 r1) ++ wz_X3 cI 7 r2) ++ wz_X3 cI 7 r3)) := hD12
  refine x_putF (C := RX2) (T := TX2) (N := 7) (ci := 2) (k := 2) X inT2 tyX2_ok nmX2 rfl (by decide) mw_212 rfl hin rfl hP13 hD13 hS8 rfl rfl (Nat.le_of_ble_eq_true rfl) dX2_init_40 (fun H locs hP14 hD14 hS9 => ?_)
  have hP15 : va_P D vwCl ((a, .inr (2, [.ref (r1 0), .ref (r2 0), .ref (r3 0), .int 0, .int 0, .int 0, .int 0])) :: ((([] ++ wz_X3 cI 49 r1) ++ wz_X3 cI 7 r2) ++ wz_X3 cI 7 r3)) H := hP14
  have hD15 : va_D A ((a, .inr (2, [.ref (r1 0), .ref (r2 0), .ref (r3 0), .int 0, .int 0, .int 0, .int 0])) :: ((([] ++ wz_X3 cI 49 r1) ++ wz_X3 cI 7 r2) ++ wz_X3 cI 7 r3)) := hD14
  refine lv_aload_n hx hb dX2_init_43 rfl (lv_at hl 0 rfl) ?_
  refine lv_iconst (v := 0) hx hb dX2_init_44 (by decide) ?_
  refine x_put (C := RX2) (T := TX2) (N := 7) (ci := 2) (k := 3) X inT2 tyX2_ok nmX2 rfl (by decide) mw_214 rfl hP15 hD15 hS9 rfl rfl (Nat.le_of_ble_eq_true rfl) dX2_init_45 (fun H locs hP16 hD16 hS10 => ?_)
  have hP17 : va_P D vwCl ((a, .inr (2, [.ref (r1 0), .ref (r2 0), .ref (r3 0), .int 0, .int 0, .int 0, .int 0])) :: ((([] ++ wz_X3 cI 49 r1) ++ wz_X3 cI 7 r2) ++ wz_X3 cI 7 r3)) H := hP16
  have hD17 : va_D A ((a, .inr (2, [.ref (r1 0), .ref (r2 0), .ref (r3 0), .int 0, .int 0, .int 0, .int 0])) :: ((([] ++ wz_X3 cI 49 r1) ++ wz_X3 cI 7 r2) ++ wz_X3 cI 7 r3)) := hD16
  refine lv_aload_n hx hb dX2_init_48 rfl (lv_at hl 0 rfl) ?_
  refine lv_iconst (v := 0) hx hb dX2_init_49 (by decide) ?_
  refine x_put (C := RX2) (T := TX2) (N := 7) (ci := 2) (k := 4) X inT2 tyX2_ok nmX2 rfl (by decide) mw_215 rfl hP17 hD17 hS10 rfl rfl (Nat.le_of_ble_eq_true rfl) dX2_init_50 (fun H locs hP18 hD18 hS11 => ?_)
  have hP19 : va_P D vwCl ((a, .inr (2, [.ref (r1 0), .ref (r2 0), .ref (r3 0), .int 0, .int 0, .int 0, .int 0])) :: ((([] ++ wz_X3 cI 49 r1) ++ wz_X3 cI 7 r2) ++ wz_X3 cI 7 r3)) H := hP18
  have hD19 : va_D A ((a, .inr (2, [.ref (r1 0), .ref (r2 0), .ref (r3 0), .int 0, .int 0, .int 0, .int 0])) :: ((([] ++ wz_X3 cI 49 r1) ++ wz_X3 cI 7 r2) ++ wz_X3 cI 7 r3)) := hD18
  refine lv_aload_n hx hb dX2_init_53 rfl (lv_at hl 0 rfl) ?_
  refine lv_iconst (v := 0) hx hb dX2_init_54 (by decide) ?_
  refine x_put (C := RX2) (T := TX2) (N := 7) (ci := 2) (k := 5) X inT2 tyX2_ok nmX2 rfl (by decide) mw_216 rfl hP19 hD19 hS11 rfl rfl (Nat.le_of_ble_eq_true rfl) dX2_init_55 (fun H locs hP20 hD20 hS12 => ?_)
  have hP21 : va_P D vwCl ((a, .inr (2, [.ref (r1 0), .ref (r2 0), .ref (r3 0), .int 0, .int 0, .int 0, .int 0])) :: ((([] ++ wz_X3 cI 49 r1) ++ wz_X3 cI 7 r2) ++ wz_X3 cI 7 r3)) H := hP20
  have hD21 : va_D A ((a, .inr (2, [.ref (r1 0), .ref (r2 0), .ref (r3 0), .int 0, .int 0, .int 0, .int 0])) :: ((([] ++ wz_X3 cI 49 r1) ++ wz_X3 cI 7 r2) ++ wz_X3 cI 7 r3)) := hD20
  refine lv_aload_n hx hb dX2_init_58 rfl (lv_at hl 0 rfl) ?_
  refine lv_iconst (v := 0) hx hb dX2_init_59 (by decide) ?_
  refine x_put (C := RX2) (T := TX2) (N := 7) (ci := 2) (k := 6) X inT2 tyX2_ok nmX2 rfl (by decide) mw_217 rfl hP21 hD21 hS12 rfl rfl (Nat.le_of_ble_eq_true rfl) dX2_init_60 (fun H locs hP22 hD22 hS13 => ?_)
  have hP23 : va_P D vwCl ((a, .inr (2, [.ref (r1 0), .ref (r2 0), .ref (r3 0), .int 0, .int 0, .int 0, .int 0])) :: ((([] ++ wz_X3 cI 49 r1) ++ wz_X3 cI 7 r2) ++ wz_X3 cI 7 r3)) H := hP22
  have hD23 : va_D A ((a, .inr (2, [.ref (r1 0), .ref (r2 0), .ref (r3 0), .int 0, .int 0, .int 0, .int 0])) :: ((([] ++ wz_X3 cI 49 r1) ++ wz_X3 cI 7 r2) ++ wz_X3 cI 7 r3)) := hD22
  have hP24 : va_P D vwCl (wz_X2 cI (fun k => ([a, r1 0, r1 1, r2 0, r2 1, r3 0, r3 1] : List Nat).getD k 0)) H := hP23
  have hD24 : va_D A (wz_X2 cI (fun k => ([a, r1 0, r1 1, r2 0, r2 1, r3 0, r3 1] : List Nat).getD k 0)) := hD23
  exact hret (fun k => ([a, r1 0, r1 1, r2 0, r2 1, r3 0, r3 1] : List Nat).getD k 0) H _ _ _ rfl hP24 hD24 hS13 dX2_init_63
