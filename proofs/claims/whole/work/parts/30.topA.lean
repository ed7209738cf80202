abbrev wd_X4_refusalOfBook (cI : ClassId) (ad : Nat → Nat) (isKept : Int32) (now_size : Int32) (now_year : Int32) (now_writing_size : Int32) (now_writing : (Nat → Int32)) : va_W := [((ad 0), .inr (4, [.ref (ad 1), .ref (ad 16), .ref (ad 31), .int isKept, .ref (ad 46), .ref (ad 49), .ref (ad 51), .ref (ad 53), .ref (ad 55), .ref (ad 57)])), ((ad 1), .inr (0, [.ref (ad 2), .ref (ad 4), .ref (ad 6), .ref (ad 8), .ref (ad 10), .ref (ad 12), .ref (ad 14), .int now_size, .int now_year])), ((ad 10), .inr (3, [.ref (ad 11), .int now_writing_size])), ((ad 11), .inl (cI, 7, .inl now_writing))]
def f_X4_refusalOfBook (now_size : Int32) (now_writing : (Nat → Int32)) (x1 : Int32) (x2 : Int32) (x3 : Int32) : Option (Int32) := ((f_X0_has now_size x1).bind fun (r5 : Int32) => (if r5 = 0 then (some (-1 : Int32)) else (if x2 < 0 then (some (-2 : Int32)) else (if x2 ≤ x3 then ((f_X0_isWriting now_writing x1).bind fun (r30 : Int32) => (if r30 = 0 then (some (-3 : Int32)) else (some (0 : Int32)))) else (some (-2 : Int32))))))
set_option maxHeartbeats 4000000 in
set_option maxRecDepth 100000 in
theorem c_X4_refusalOfBook (l : Launch) (D : va_G) (cI : ClassId) (aS : aSt) (ad : Nat → Nat) (isKept : Int32) (now_size : Int32) (now_year : Int32) (now_writing_size : Int32) (now_writing : (Nat → Int32)) (x1 : Int32) (x2 : Int32) (x3 : Int32) (R : Int32) (hf : f_X4_refusalOfBook now_size now_writing x1 x2 x3 = some R) : CtI l yX4_refusalOfBook cX4_refusalOfBook 4 (some .int) 2 D cI aS [.ref (ad 0), .int x1, .int x2, .int x3] (wd_X4_refusalOfBook cI ad isKept now_size now_year now_writing_size now_writing) (wd_X4_refusalOfBook cI ad isKept now_size now_year now_writing_size now_writing) R := by
  refine ctI_of (by decide) ⟨_, rfl⟩ (Nat.le_of_ble_eq_true rfl) ?_
  intro p e s m below meth c A Q ls X hret hP hD hl
  have hS : va_S A s.heap s.heap [] := va_S.rf
  have hx := X.1
  have hb := X.2.1
  have hl : lv_has ls 4 [(0, .ref (ad 0)), (1, .int x1), (2, .int x2), (3, .int x3)] := hl
  replace hf : ((f_X0_has now_size x1).bind fun (r5 : Int32) => (if r5 = 0 then (some (-1 : Int32)) else (if x2 < 0 then (some (-2 : Int32)) else (if x2 ≤ x3 then ((f_X0_isWriting now_writing x1).bind fun (r30 : Int32) => (if r30 = 0 then (some (-3 : Int32)) else (some (0 : Int32)))) else (some (-2 : Int32)))))) = some R := hf
  refine lv_aload_n hx hb dX4_refusalOfBook_0 rfl (lv_at hl 0 rfl) ?_
  refine fgX4_10 X hP (q0 := 0) rfl rfl dX4_refusalOfBook_1 ?_
  refine lv_iload_n hx hb dX4_refusalOfBook_4 rfl (lv_at hl 1 rfl) ?_
  obtain ⟨r5, hq5, hf⟩ := bS hf
  refine ro_i X hP hD hS [1] rfl (run_N X hP hD hS [1] rfl rfl (c_X0_has l D cI aS (fun k => ad (1 + k)) now_size now_year x1 _ hq5 _) lkX4_116 (by decide) (q0 := 1) rfl rfl rfl rfl (Nat.le_of_ble_eq_true rfl) hl.1 dX4_refusalOfBook_5) (fun H locs hP hS => ?_)
  refine lv_if_ne (tgt := 13) hx hb dX4_refusalOfBook_8 (by decide) (fun c8 => ?_) (fun c8 => ?_)
  · have hf := iF c8 hf
    refine lv_iload_n hx hb dX4_refusalOfBook_13 rfl (lv_at hl 2 rfl) ?_
    refine lv_if_lt (tgt := 22) hx hb dX4_refusalOfBook_14 (by decide) (fun c14 => ?_) (fun c14 => ?_)
    · have hf := iT c14 hf
      refine lv_bipush (v := -2) hx hb dX4_refusalOfBook_22 (by decide) ?_
      have hR := Option.some.inj hf
      subst hR
      exact hret _ _ _ _ _ rfl (fun _ hn => by cases hn; rfl) hP hD hS dX4_refusalOfBook_24
    · have hf := iF c14 hf
      refine lv_iload_n hx hb dX4_refusalOfBook_17 rfl (lv_at hl 2 rfl) ?_
      refine lv_iload_n hx hb dX4_refusalOfBook_18 rfl (lv_at hl 3 rfl) ?_
      refine lv_icmp_le (tgt := 25) hx hb dX4_refusalOfBook_19 (by decide) (fun c19 => ?_) (fun c19 => ?_)
      · have hf := iT c19 hf
        refine lv_aload_n hx hb dX4_refusalOfBook_25 rfl (lv_at hl 0 rfl) ?_
        refine fgX4_10 X hP (q0 := 0) rfl rfl dX4_refusalOfBook_26 ?_
        refine lv_iload_n hx hb dX4_refusalOfBook_29 rfl (lv_at hl 1 rfl) ?_
        obtain ⟨r30, hq30, hf⟩ := bS hf
        refine ro_i X hP hD hS [1, 2, 3] rfl (run_N X hP hD hS [1, 2, 3] rfl rfl (c_X0_isWriting l D cI aS (fun k => ad (1 + k)) now_size now_year now_writing_size now_writing x1 _ hq30 _) lkX4_179 (by decide) (q0 := 1) rfl rfl rfl rfl (Nat.le_of_ble_eq_true rfl) hl.1 dX4_refusalOfBook_30) (fun H locs hP hS => ?_)
        refine lv_if_eq (tgt := 40) hx hb dX4_refusalOfBook_33 (by decide) (fun c33 => ?_) (fun c33 => ?_)
        · have hf := iT c33 hf
          refine lv_bipush (v := -3) hx hb dX4_refusalOfBook_40 (by decide) ?_
          have hR := Option.some.inj hf
          subst hR
          exact hret _ _ _ _ _ rfl (fun _ hn => by cases hn; rfl) hP hD hS dX4_refusalOfBook_42
        · have hf := iF c33 hf
          refine lv_iconst (v := 0) hx hb dX4_refusalOfBook_36 (by decide) ?_
          refine lv_goto (tgt := 42) hx hb dX4_refusalOfBook_37 (by decide) ?_
          have hR := Option.some.inj hf
          subst hR
          exact hret _ _ _ _ _ rfl (fun _ hn => by cases hn; rfl) hP hD hS dX4_refusalOfBook_42
      · have hf := iF c19 hf
        refine lv_bipush (v := -2) hx hb dX4_refusalOfBook_22 (by decide) ?_
        have hR := Option.some.inj hf
        subst hR
        exact hret _ _ _ _ _ rfl (fun _ hn => by cases hn; rfl) hP hD hS dX4_refusalOfBook_24
  · have hf := iT c8 hf
    refine lv_iconst (v := -1) hx hb dX4_refusalOfBook_11 (by decide) ?_
    have hR := Option.some.inj hf
    subst hR
    exact hret _ _ _ _ _ rfl (fun _ hn => by cases hn; rfl) hP hD hS dX4_refusalOfBook_12

abbrev wd_X4_refused (cI : ClassId) (ad : Nat → Nat) (isKept : Int32) (refusals_size : Int32) (refusals : (Nat → Int32)) : va_W := [((ad 0), .inr (4, [.ref (ad 1), .ref (ad 16), .ref (ad 31), .int isKept, .ref (ad 46), .ref (ad 49), .ref (ad 51), .ref (ad 53), .ref (ad 55), .ref (ad 57)])), ((ad 51), .inr (3, [.ref (ad 52), .int refusals_size])), ((ad 52), .inl (cI, 7, .inl refusals))]
def f_X4_refused (refusals : (Nat → Int32)) (x1 : Int32) : Option (Int32 × (Nat → Int32)) := ((f_X3_get 7 refusals (-x1)).bind fun (r12 : Int32) => ((f_X3_set 7 refusals (-x1) (r12 + (1 : Int32))).bind fun (r17 : (Nat → Int32)) => (some (x1, r17))))
set_option maxHeartbeats 4000000 in
set_option maxRecDepth 100000 in
theorem c_X4_refused (l : Launch) (D : va_G) (cI : ClassId) (aS : aSt) (ad : Nat → Nat) (isKept : Int32) (refusals_size : Int32) (refusals : (Nat → Int32)) (x1 : Int32) (R : Int32 × (Nat → Int32)) (hf : f_X4_refused refusals x1 = some R) : CtI l yX4_refused cX4_refused 2 (some .int) 1 D cI aS [.ref (ad 0), .int x1] (wd_X4_refused cI ad isKept refusals_size refusals) (wd_X4_refused cI ad isKept refusals_size R.2) R.1 := by
  refine ctI_of (by decide) ⟨_, rfl⟩ (Nat.le_of_ble_eq_true rfl) ?_
  intro p e s m below meth c A Q ls X hret hP hD hl
  have hS : va_S A s.heap s.heap [] := va_S.rf
  have hx := X.1
  have hb := X.2.1
  have hl : lv_has ls 2 [(0, .ref (ad 0)), (1, .int x1)] := hl
  replace hf : ((f_X3_get 7 refusals (-x1)).bind fun (r12 : Int32) => ((f_X3_set 7 refusals (-x1) (r12 + (1 : Int32))).bind fun (r17 : (Nat → Int32)) => (some (x1, r17)))) = some R := hf
  refine lv_aload_n hx hb dX4_refused_0 rfl (lv_at hl 0 rfl) ?_
  refine fgX4_42 X hP (q0 := 0) rfl rfl dX4_refused_1 ?_
  refine lv_iload_n hx hb dX4_refused_4 rfl (lv_at hl 1 rfl) ?_
  refine lv_ineg hx hb dX4_refused_5 ?_
  refine lv_aload_n hx hb dX4_refused_6 rfl (lv_at hl 0 rfl) ?_
  refine fgX4_42 X hP (q0 := 0) rfl rfl dX4_refused_7 ?_
  refine lv_iload_n hx hb dX4_refused_10 rfl (lv_at hl 1 rfl) ?_
  refine lv_ineg hx hb dX4_refused_11 ?_
  obtain ⟨r12, hq12, hf⟩ := bS hf
  refine ro_i X hP hD hS [1, 2] rfl (run_N X hP hD hS [1, 2] rfl rfl (c_X3_get l D cI aS (fun k => ad (51 + k)) 7 refusals_size refusals (-x1) _ hq12 _) lkX4_105 (by decide) (q0 := 1) rfl rfl rfl rfl (Nat.le_of_ble_eq_true rfl) hl.1 dX4_refused_12) (fun H locs hP hS => ?_)
  refine lv_iconst (v := 1) hx hb dX4_refused_15 (by decide) ?_
  refine lv_iadd hx hb dX4_refused_16 ?_
  obtain ⟨r17, hq17, hf⟩ := bS hf
  refine wr_v X hP hD hS [1, 2] rfl (ws' := (wd_X4_refused cI ad isKept refusals_size r17)) (Nat.le_of_ble_eq_true rfl) rfl rfl (run_N X hP hD hS [1, 2] rfl rfl (c_X3_set l D cI aS (fun k => ad (51 + k)) 7 refusals_size refusals (-x1) (r12 + (1 : Int32)) _ hq17 _) lkX4_136 (by decide) (q0 := 1) rfl rfl rfl rfl (Nat.le_of_ble_eq_true rfl) hl.1 dX4_refused_17) (fun H locs hP hD hS => ?_)
  refine lv_iload_n hx hb dX4_refused_20 rfl (lv_at hl 1 rfl) ?_
  have hR := Option.some.inj hf
  subst hR
  exact hret _ _ _ _ _ rfl (fun _ hn => by cases hn; rfl) hP hD hS dX4_refused_21

abbrev wd_X4_refusedAsBig (cI : ClassId) (ad : Nat → Nat) (isKept : Int32) (refusals_size : Int32) (refusals : (Nat → Int32)) : va_W := [((ad 0), .inr (4, [.ref (ad 1), .ref (ad 16), .ref (ad 31), .int isKept, .ref (ad 46), .ref (ad 49), .ref (ad 51), .ref (ad 53), .ref (ad 55), .ref (ad 57)])), ((ad 51), .inr (3, [.ref (ad 52), .int refusals_size])), ((ad 52), .inl (cI, 7, .inl refusals))]
def f_X4_refusedAsBig (refusals : (Nat → Int32)) (x1 : Int32) : Option (Int32 × (Nat → Int32)) := ((f_X4_refused refusals x1).bind fun (r5 : Int32 × (Nat → Int32)) => (some (((1000000000 : Int32) - r5.1), r5.2)))
set_option maxHeartbeats 4000000 in
set_option maxRecDepth 100000 in
theorem c_X4_refusedAsBig (l : Launch) (D : va_G) (cI : ClassId) (aS : aSt) (ad : Nat → Nat) (isKept : Int32) (refusals_size : Int32) (refusals : (Nat → Int32)) (x1 : Int32) (R : Int32 × (Nat → Int32)) (hf : f_X4_refusedAsBig refusals x1 = some R) : CtI l yX4_refusedAsBig cX4_refusedAsBig 2 (some .int) 2 D cI aS [.ref (ad 0), .int x1] (wd_X4_refusedAsBig cI ad isKept refusals_size refusals) (wd_X4_refusedAsBig cI ad isKept refusals_size R.2) R.1 := by
  refine ctI_of (by decide) ⟨_, rfl⟩ (Nat.le_of_ble_eq_true rfl) ?_
  intro p e s m below meth c A Q ls X hret hP hD hl
  have hS : va_S A s.heap s.heap [] := va_S.rf
  have hx := X.1
  have hb := X.2.1
  have hl : lv_has ls 2 [(0, .ref (ad 0)), (1, .int x1)] := hl
  replace hf : ((f_X4_refused refusals x1).bind fun (r5 : Int32 × (Nat → Int32)) => (some (((1000000000 : Int32) - r5.1), r5.2))) = some R := hf
  refine lv_ldcw (v := 1000000000) hx hb X.2.2.2.2.1 (X.hts mw_552) dX4_refusedAsBig_0 ?_
  refine lv_aload_n hx hb dX4_refusedAsBig_3 rfl (lv_at hl 0 rfl) ?_
  refine lv_iload_n hx hb dX4_refusedAsBig_4 rfl (lv_at hl 1 rfl) ?_
  obtain ⟨r5, hq5, hf⟩ := bS hf
  refine wr_i X hP hD hS [0, 1, 2] rfl (ws' := (wd_X4_refusedAsBig cI ad isKept refusals_size r5.2)) (Nat.le_of_ble_eq_true rfl) rfl rfl (run_V X hP hD hS [0, 1, 2] rfl rfl (c_X4_refused l D cI aS ad isKept refusals_size refusals x1 _ hq5 _) lkX4_58 (by decide) (q0 := 0) rfl rfl rfl rfl (Nat.le_of_ble_eq_true rfl) hl.1 dX4_refusedAsBig_5) (fun H locs hP hD hS => ?_)
  refine lv_isub hx hb dX4_refusedAsBig_8 ?_
  have hR := Option.some.inj hf
  subst hR
  exact hret _ _ _ _ _ rfl (fun _ hn => by cases hn; rfl) hP hD hS dX4_refusedAsBig_9

abbrev wd_X4_book (cI : ClassId) (ad : Nat → Nat) (isKept : Int32) (now_size : Int32) (now_year : Int32) (now_kinds_size : Int32) (now_kinds : (Nat → Int32)) (now_figures_size : Int32) (now_figures : (Nat → Int32)) (now_styles_size : Int32) (now_styles : (Nat → Int32)) (now_writing_size : Int32) (now_writing : (Nat → Int32)) (now_enders_size : Int32) (now_enders : (Nat → Int32)) (refusals_size : Int32) (refusals : (Nat → Int32)) : va_W := [((ad 0), .inr (4, [.ref (ad 1), .ref (ad 16), .ref (ad 31), .int isKept, .ref (ad 46), .ref (ad 49), .ref (ad 51), .ref (ad 53), .ref (ad 55), .ref (ad 57)])), ((ad 1), .inr (0, [.ref (ad 2), .ref (ad 4), .ref (ad 6), .ref (ad 8), .ref (ad 10), .ref (ad 12), .ref (ad 14), .int now_size, .int now_year])), ((ad 2), .inr (3, [.ref (ad 3), .int now_kinds_size])), ((ad 3), .inl (cI, 7, .inl now_kinds)), ((ad 4), .inr (3, [.ref (ad 5), .int now_figures_size])), ((ad 5), .inl (cI, 7, .inl now_figures)), ((ad 6), .inr (3, [.ref (ad 7), .int now_styles_size])), ((ad 7), .inl (cI, 7, .inl now_styles)), ((ad 10), .inr (3, [.ref (ad 11), .int now_writing_size])), ((ad 11), .inl (cI, 7, .inl now_writing)), ((ad 14), .inr (3, [.ref (ad 15), .int now_enders_size])), ((ad 15), .inl (cI, 7, .inl now_enders)), ((ad 51), .inr (3, [.ref (ad 52), .int refusals_size])), ((ad 52), .inl (cI, 7, .inl refusals))]
def f_X4_book (now_size : Int32) (now_year : Int32) (now_kinds : (Nat → Int32)) (now_figures : (Nat → Int32)) (now_styles : (Nat → Int32)) (now_writing : (Nat → Int32)) (now_enders : (Nat → Int32)) (refusals : (Nat → Int32)) (x1 : Int32) (x2 : Int32) : Option (Int32 × (Nat → Int32)) := ((f_X4_refusalOfBook now_size now_writing x1 x2 (2 : Int32)).bind fun (r4 : Int32) => (if r4 = 0 then (if x2 = 0 then ((f_X0_opensOf now_year now_styles x1).bind fun (r27 : Int32) => (some (r27, refusals))) else (if x2 = (1 : Int32) then ((f_X0_endsOf now_year now_kinds now_figures now_styles now_writing now_enders x1).bind fun (r41 : Int32) => (some (r41, refusals))) else ((f_X0_worthOf now_year now_kinds now_figures now_styles now_writing now_enders x1).bind fun (r52 : Int32) => (some (r52, refusals))))) else ((f_X4_refusedAsBig refusals r4).bind fun (r14 : Int32 × (Nat → Int32)) => (some (r14.1, r14.2)))))
set_option maxHeartbeats 4000000 in
set_option maxRecDepth 100000 in
theorem c_X4_book (l : Launch) (D : va_G) (cI : ClassId) (aS : aSt) (ad : Nat → Nat) (isKept : Int32) (now_size : Int32) (now_year : Int32) (now_kinds_size : Int32) (now_kinds : (Nat → Int32)) (now_figures_size : Int32) (now_figures : (Nat → Int32)) (now_styles_size : Int32) (now_styles : (Nat → Int32)) (now_writing_size : Int32) (now_writing : (Nat → Int32)) (now_enders_size : Int32) (now_enders : (Nat → Int32)) (refusals_size : Int32) (refusals : (Nat → Int32)) (x1 : Int32) (x2 : Int32) (R : Int32 × (Nat → Int32)) (hf : f_X4_book now_size now_year now_kinds now_figures now_styles now_writing now_enders refusals x1 x2 = some R) : CtI l yX4_book cX4_book 4 (some .int) 4 D cI aS [.ref (ad 0), .int x1, .int x2] (wd_X4_book cI ad isKept now_size now_year now_kinds_size now_kinds now_figures_size now_figures now_styles_size now_styles now_writing_size now_writing now_enders_size now_enders refusals_size refusals) (wd_X4_book cI ad isKept now_size now_year now_kinds_size now_kinds now_figures_size now_figures now_styles_size now_styles now_writing_size now_writing now_enders_size now_enders refusals_size R.2) R.1 := by
  refine ctI_of (by decide) ⟨_, rfl⟩ (Nat.le_of_ble_eq_true rfl) ?_
  intro p e s m below meth c A Q ls X hret hP hD hl
  have hS : va_S A s.heap s.heap [] := va_S.rf
  have hx := X.1
  have hb := X.2.1
  have hl : lv_has ls 4 [(0, .ref (ad 0)), (1, .int x1), (2, .int x2)] := hl
  replace hf : ((f_X4_refusalOfBook now_size now_writing x1 x2 (2 : Int32)).bind fun (r4 : Int32) => (if r4 = 0 then (if x2 = 0 then ((f_X0_opensOf now_year now_styles x1).bind fun (r27 : Int32) => (some (r27, refusals))) else (if x2 = (1 : Int32) then ((f_X0_endsOf now_year now_kinds now_figures now_styles now_writing now_enders x1).bind fun (r41 : Int32) => (some (r41, refusals))) else ((f_X0_worthOf now_year now_kinds now_figures now_styles now_writing now_enders x1).bind fun (r52 : Int32) => (some (r52, refusals))))) else ((f_X4_refusedAsBig refusals r4).bind fun (r14 : Int32 × (Nat → Int32)) => (some (r14.1, r14.2))))) = some R := hf
  refine lv_aload_n hx hb dX4_book_0 rfl (lv_at hl 0 rfl) ?_
  refine lv_iload_n hx hb dX4_book_1 rfl (lv_at hl 1 rfl) ?_
  refine lv_iload_n hx hb dX4_book_2 rfl (lv_at hl 2 rfl) ?_
  refine lv_iconst (v := 2) hx hb dX4_book_3 (by decide) ?_
  obtain ⟨r4, hq4, hf⟩ := bS hf
  refine ro_i X hP hD hS [0, 1, 8, 9] rfl (run_V X hP hD hS [0, 1, 8, 9] rfl rfl (c_X4_refusalOfBook l D cI aS ad isKept now_size now_year now_writing_size now_writing x1 x2 (2 : Int32) _ hq4 _) lkX4_163 (by decide) (q0 := 0) rfl rfl rfl rfl (Nat.le_of_ble_eq_true rfl) hl.1 dX4_book_4) (fun H locs hP hS => ?_)
  refine lv_istore_n (lv' := [(3, .int r4), (0, .ref (ad 0)), (1, .int x1), (2, .int x2)]) hx hb dX4_book_7 rfl hl (by decide) rfl (fun ls hl => ?_)
  refine lv_iload_n hx hb dX4_book_8 rfl (lv_at hl 0 rfl) ?_
  refine lv_if_eq (tgt := 18) hx hb dX4_book_9 (by decide) (fun c9 => ?_) (fun c9 => ?_)
  · have hf := iT c9 hf
    refine lv_iload_n hx hb dX4_book_18 rfl (lv_at hl 3 rfl) ?_
    refine lv_if_ne (tgt := 31) hx hb dX4_book_19 (by decide) (fun c19 => ?_) (fun c19 => ?_)
    · have hf := iF c19 hf
      refine lv_iload_n hx hb dX4_book_31 rfl (lv_at hl 3 rfl) ?_
      refine lv_iconst (v := 1) hx hb dX4_book_32 (by decide) ?_
      refine lv_icmp_ne (tgt := 47) hx hb dX4_book_33 (by decide) (fun c33 => ?_) (fun c33 => ?_)
      · have hf := iF c33 hf
        refine lv_aload_n hx hb dX4_book_47 rfl (lv_at hl 1 rfl) ?_
        refine fgX4_10 X hP (q0 := 0) rfl rfl dX4_book_48 ?_
        refine lv_iload_n hx hb dX4_book_51 rfl (lv_at hl 2 rfl) ?_
        obtain ⟨r52, hq52, hf⟩ := bS hf
        refine ro_i X hP hD hS [1, 2, 3, 4, 5, 6, 7, 8, 9, 10, 11] rfl (run_N X hP hD hS [1, 2, 3, 4, 5, 6, 7, 8, 9, 10, 11] rfl rfl (c_X0_worthOf l D cI aS (fun k => ad (1 + k)) now_size now_year now_kinds_size now_kinds now_figures_size now_figures now_styles_size now_styles now_writing_size now_writing now_enders_size now_enders x1 _ hq52 _) lkX4_176 (by decide) (q0 := 1) rfl rfl rfl rfl (Nat.le_of_ble_eq_true rfl) hl.1 dX4_book_52) (fun H locs hP hS => ?_)
        have hR := Option.some.inj hf
        subst hR
        exact hret _ _ _ _ _ rfl (fun _ hn => by cases hn; rfl) hP hD hS dX4_book_55
      · have hf := iT c33 hf
        refine lv_aload_n hx hb dX4_book_36 rfl (lv_at hl 1 rfl) ?_
        refine fgX4_10 X hP (q0 := 0) rfl rfl dX4_book_37 ?_
        refine lv_iload_n hx hb dX4_book_40 rfl (lv_at hl 2 rfl) ?_
        obtain ⟨r41, hq41, hf⟩ := bS hf
        refine ro_i X hP hD hS [1, 2, 3, 4, 5, 6, 7, 8, 9, 10, 11] rfl (run_N X hP hD hS [1, 2, 3, 4, 5, 6, 7, 8, 9, 10, 11] rfl rfl (c_X0_endsOf l D cI aS (fun k => ad (1 + k)) now_size now_year now_kinds_size now_kinds now_figures_size now_figures now_styles_size now_styles now_writing_size now_writing now_enders_size now_enders x1 _ hq41 _) lkX4_173 (by decide) (q0 := 1) rfl rfl rfl rfl (Nat.le_of_ble_eq_true rfl) hl.1 dX4_book_41) (fun H locs hP hS => ?_)
        refine lv_goto (tgt := 55) hx hb dX4_book_44 (by decide) ?_
        have hR := Option.some.inj hf
        subst hR
        exact hret _ _ _ _ _ rfl (fun _ hn => by cases hn; rfl) hP hD hS dX4_book_55
    · have hf := iT c19 hf
      refine lv_aload_n hx hb dX4_book_22 rfl (lv_at hl 1 rfl) ?_
      refine fgX4_10 X hP (q0 := 0) rfl rfl dX4_book_23 ?_
      refine lv_iload_n hx hb dX4_book_26 rfl (lv_at hl 2 rfl) ?_
      obtain ⟨r27, hq27, hf⟩ := bS hf
      refine ro_i X hP hD hS [1, 6, 7] rfl (run_N X hP hD hS [1, 6, 7] rfl rfl (c_X0_opensOf l D cI aS (fun k => ad (1 + k)) now_size now_year now_styles_size now_styles x1 _ hq27 _) lkX4_170 (by decide) (q0 := 1) rfl rfl rfl rfl (Nat.le_of_ble_eq_true rfl) hl.1 dX4_book_27) (fun H locs hP hS => ?_)
      have hR := Option.some.inj hf
      subst hR
      exact hret _ _ _ _ _ rfl (fun _ hn => by cases hn; rfl) hP hD hS dX4_book_30
  · have hf := iF c9 hf
    refine lv_aload_n hx hb dX4_book_12 rfl (lv_at hl 1 rfl) ?_
    refine lv_iload_n hx hb dX4_book_13 rfl (lv_at hl 0 rfl) ?_
    obtain ⟨r14, hq14, hf⟩ := bS hf
    refine wr_i X hP hD hS [0, 12, 13] rfl (ws' := (wd_X4_book cI ad isKept now_size now_year now_kinds_size now_kinds now_figures_size now_figures now_styles_size now_styles now_writing_size now_writing now_enders_size now_enders refusals_size r14.2)) (Nat.le_of_ble_eq_true rfl) rfl rfl (run_V X hP hD hS [0, 12, 13] rfl rfl (c_X4_refusedAsBig l D cI aS ad isKept refusals_size refusals r4 _ hq14 _) lkX4_167 (by decide) (q0 := 0) rfl rfl rfl rfl (Nat.le_of_ble_eq_true rfl) hl.1 dX4_book_14) (fun H locs hP hD hS => ?_)
    have hR := Option.some.inj hf
    subst hR
    exact hret _ _ _ _ _ rfl (fun _ hn => by cases hn; rfl) hP hD hS dX4_book_17

abbrev wd_X4_refusedAsLong (cI : ClassId) (ad : Nat → Nat) (isKept : Int32) (refusals_size : Int32) (refusals : (Nat → Int32)) : va_W := [((ad 0), .inr (4, [.ref (ad 1), .ref (ad 16), .ref (ad 31), .int isKept, .ref (ad 46), .ref (ad 49), .ref (ad 51), .ref (ad 53), .ref (ad 55), .ref (ad 57)])), ((ad 51), .inr (3, [.ref (ad 52), .int refusals_size])), ((ad 52), .inl (cI, 7, .inl refusals))]
def f_X4_refusedAsLong (refusals : (Nat → Int32)) (x1 : Int32) : Option (Int64 × (Nat → Int32)) := ((f_X4_refused refusals x1).bind fun (r5 : Int32 × (Nat → Int32)) => (some (((4000000000000000000 : Int64) - (Int32.toInt64 r5.1)), r5.2)))
set_option maxHeartbeats 4000000 in
set_option maxRecDepth 100000 in
theorem c_X4_refusedAsLong (l : Launch) (D : va_G) (cI : ClassId) (aS : aSt) (ad : Nat → Nat) (isKept : Int32) (refusals_size : Int32) (refusals : (Nat → Int32)) (x1 : Int32) (R : Int64 × (Nat → Int32)) (hf : f_X4_refusedAsLong refusals x1 = some R) : CtL l yX4_refusedAsLong cX4_refusedAsLong 2 (some .long) 2 D cI aS [.ref (ad 0), .int x1] (wd_X4_refusedAsLong cI ad isKept refusals_size refusals) (wd_X4_refusedAsLong cI ad isKept refusals_size R.2) R.1 := by
  refine ctL_of (by decide) rfl (Nat.le_of_ble_eq_true rfl) ?_
  intro p e s m below meth c A Q ls X hret hP hD hl
  have hS : va_S A s.heap s.heap [] := va_S.rf
  have hx := X.1
  have hb := X.2.1
  have hl : lv_has ls 2 [(0, .ref (ad 0)), (1, .int x1)] := hl
  replace hf : ((f_X4_refused refusals x1).bind fun (r5 : Int32 × (Nat → Int32)) => (some (((4000000000000000000 : Int64) - (Int32.toInt64 r5.1)), r5.2))) = some R := hf
  refine lv_ldc2 (v := 4000000000000000000) hx hb X.2.2.2.2.1 (X.hts mw_761) dX4_refusedAsLong_0 ?_
  refine lv_aload_n hx hb dX4_refusedAsLong_3 rfl (lv_at hl 0 rfl) ?_
  refine lv_iload_n hx hb dX4_refusedAsLong_4 rfl (lv_at hl 1 rfl) ?_
  obtain ⟨r5, hq5, hf⟩ := bS hf
  refine wr_i X hP hD hS [0, 1, 2] rfl (ws' := (wd_X4_refusedAsLong cI ad isKept refusals_size r5.2)) (Nat.le_of_ble_eq_true rfl) rfl rfl (run_V X hP hD hS [0, 1, 2] rfl rfl (c_X4_refused l D cI aS ad isKept refusals_size refusals x1 _ hq5 _) lkX4_58 (by decide) (q0 := 0) rfl rfl rfl rfl (Nat.le_of_ble_eq_true rfl) hl.1 dX4_refusedAsLong_5) (fun H locs hP hD hS => ?_)
  refine lv_i2l hx hb dX4_refusedAsLong_8 rfl ?_
  refine lv_lsub hx hb dX4_refusedAsLong_9 ?_
  have hR := Option.some.inj hf
  subst hR
  exact hret _ _ _ _ _ rfl hP hD hS dX4_refusedAsLong_10

abbrev wd_X4_changes (cI : ClassId) (ad : Nat → Nat) (isKept : Int32) (now_size : Int32) (now_year : Int32) (now_writing_size : Int32) (now_writing : (Nat → Int32)) (now_order_size : Int32) (now_order : (Nat → Int32)) (now_enders_size : Int32) (now_enders : (Nat → Int32)) (refusals_size : Int32) (refusals : (Nat → Int32)) : va_W := [((ad 0), .inr (4, [.ref (ad 1), .ref (ad 16), .ref (ad 31), .int isKept, .ref (ad 46), .ref (ad 49), .ref (ad 51), .ref (ad 53), .ref (ad 55), .ref (ad 57)])), ((ad 1), .inr (0, [.ref (ad 2), .ref (ad 4), .ref (ad 6), .ref (ad 8), .ref (ad 10), .ref (ad 12), .ref (ad 14), .int now_size, .int now_year])), ((ad 10), .inr (3, [.ref (ad 11), .int now_writing_size])), ((ad 11), .inl (cI, 7, .inl now_writing)), ((ad 12), .inr (3, [.ref (ad 13), .int now_order_size])), ((ad 13), .inl (cI, 7, .inl now_order)), ((ad 14), .inr (3, [.ref (ad 15), .int now_enders_size])), ((ad 15), .inl (cI, 7, .inl now_enders)), ((ad 51), .inr (3, [.ref (ad 52), .int refusals_size])), ((ad 52), .inl (cI, 7, .inl refusals))]
def f_X4_changes (now_size : Int32) (now_writing : (Nat → Int32)) (now_order : (Nat → Int32)) (now_enders : (Nat → Int32)) (refusals : (Nat → Int32)) (x1 : Int32) (x2 : Int32) : Option (Int32 × (Nat → Int32) × (Nat → Int32) × (Nat → Int32)) := ((f_X0_hasTwo now_size x1 x2).bind fun (r6 : Int32) => (if r6 = 0 then ((f_X4_refused refusals (-1 : Int32)).bind fun (r14 : Int32 × (Nat → Int32)) => (some (r14.1, now_order, now_enders, r14.2))) else ((f_X0_swapPlaces now_size now_writing now_order now_enders x1 x2).bind fun (r24 : (Nat → Int32) × (Nat → Int32)) => ((f_X0_placeOf now_size r24.1 x1).bind fun (r32 : Int32) => (some (r32, r24.1, r24.2, refusals))))))
set_option maxHeartbeats 4000000 in
set_option maxRecDepth 100000 in
theorem c_X4_changes (l : Launch) (D : va_G) (cI : ClassId) (aS : aSt) (ad : Nat → Nat) (isKept : Int32) (now_size : Int32) (now_year : Int32) (now_writing_size : Int32) (now_writing : (Nat → Int32)) (now_order_size : Int32) (now_order : (Nat → Int32)) (now_enders_size : Int32) (now_enders : (Nat → Int32)) (refusals_size : Int32) (refusals : (Nat → Int32)) (x1 : Int32) (x2 : Int32) (R : Int32 × (Nat → Int32) × (Nat → Int32) × (Nat → Int32)) (hf : f_X4_changes now_size now_writing now_order now_enders refusals x1 x2 = some R) : CtI l yX4_changes cX4_changes 3 (some .int) 4 D cI aS [.ref (ad 0), .int x1, .int x2] (wd_X4_changes cI ad isKept now_size now_year now_writing_size now_writing now_order_size now_order now_enders_size now_enders refusals_size refusals) (wd_X4_changes cI ad isKept now_size now_year now_writing_size now_writing now_order_size R.2.1 now_enders_size R.2.2.1 refusals_size R.2.2.2) R.1 := by
  refine ctI_of (by decide) ⟨_, rfl⟩ (Nat.le_of_ble_eq_true rfl) ?_
  intro p e s m below meth c A Q ls X hret hP hD hl
  have hS : va_S A s.heap s.heap [] := va_S.rf
  have hx := X.1
  have hb := X.2.1
  have hl : lv_has ls 3 [(0, .ref (ad 0)), (1, .int x1), (2, .int x2)] := hl
  replace hf : ((f_X0_hasTwo now_size x1 x2).bind fun (r6 : Int32) => (if r6 = 0 then ((f_X4_refused refusals (-1 : Int32)).bind fun (r14 : Int32 × (Nat → Int32)) => (some (r14.1, now_order, now_enders, r14.2))) else ((f_X0_swapPlaces now_size now_writing now_order now_enders x1 x2).bind fun (r24 : (Nat → Int32) × (Nat → Int32)) => ((f_X0_placeOf now_size r24.1 x1).bind fun (r32 : Int32) => (some (r32, r24.1, r24.2, refusals)))))) = some R := hf
  refine lv_aload_n hx hb dX4_changes_0 rfl (lv_at hl 0 rfl) ?_
  refine fgX4_10 X hP (q0 := 0) rfl rfl dX4_changes_1 ?_
  refine lv_iload_n hx hb dX4_changes_4 rfl (lv_at hl 1 rfl) ?_
  refine lv_iload_n hx hb dX4_changes_5 rfl (lv_at hl 2 rfl) ?_
  obtain ⟨r6, hq6, hf⟩ := bS hf
  refine ro_i X hP hD hS [1] rfl (run_N X hP hD hS [1] rfl rfl (c_X0_hasTwo l D cI aS (fun k => ad (1 + k)) now_size now_year x1 x2 _ hq6 _) lkX4_109 (by decide) (q0 := 1) rfl rfl rfl rfl (Nat.le_of_ble_eq_true rfl) hl.1 dX4_changes_6) (fun H locs hP hS => ?_)
  refine lv_if_ne (tgt := 18) hx hb dX4_changes_9 (by decide) (fun c9 => ?_) (fun c9 => ?_)
  · have hf := iF c9 hf
    refine lv_aload_n hx hb dX4_changes_18 rfl (lv_at hl 0 rfl) ?_
    refine fgX4_10 X hP (q0 := 0) rfl rfl dX4_changes_19 ?_
    refine lv_iload_n hx hb dX4_changes_22 rfl (lv_at hl 1 rfl) ?_
    refine lv_iload_n hx hb dX4_changes_23 rfl (lv_at hl 2 rfl) ?_
    obtain ⟨r24, hq24, hf⟩ := bS hf
    refine wq_v X hP hD hS [1, 2, 3, 4, 5, 6, 7] [0, 8, 9] rfl (ws' := (wd_X4_changes cI ad isKept now_size now_year now_writing_size now_writing now_order_size r24.1 now_enders_size r24.2 refusals_size refusals)) rfl (wk_c ⟨_, rfl, rfl⟩ (wk_c ⟨_, rfl, rfl⟩ (wk_c ⟨_, rfl, rfl⟩ wk_n))) (N := 10) rfl (by decide) (by decide) rfl (run_N X hP hD hS [1, 2, 3, 4, 5, 6, 7] rfl rfl (c_X0_swapPlaces l D cI aS (fun k => ad (1 + k)) now_size now_year now_writing_size now_writing now_order_size now_order now_enders_size now_enders x1 x2 _ hq24 _) lkX4_126 (by decide) (q0 := 1) rfl rfl rfl rfl (Nat.le_of_ble_eq_true rfl) hl.1 dX4_changes_24) (fun H locs hP hD hS => ?_)
    refine lv_aload_n hx hb dX4_changes_27 rfl (lv_at hl 0 rfl) ?_
    refine fgX4_10 X hP (q0 := 0) rfl rfl dX4_changes_28 ?_
    refine lv_iload_n hx hb dX4_changes_31 rfl (lv_at hl 1 rfl) ?_
    obtain ⟨r32, hq32, hf⟩ := bS hf
    refine ro_i X hP hD hS [1, 4, 5] rfl (run_N X hP hD hS [1, 4, 5] rfl rfl (c_X0_placeOf l D cI aS (fun k => ad (1 + k)) now_size now_year now_order_size r24.1 x1 _ hq32 _) lkX4_154 (by decide) (q0 := 1) rfl rfl rfl rfl (Nat.le_of_ble_eq_true rfl) hl.1 dX4_changes_32) (fun H locs hP hS => ?_)
    have hR := Option.some.inj hf
    subst hR
    exact hret _ _ _ _ _ rfl (fun _ hn => by cases hn; rfl) hP hD hS dX4_changes_35
  · have hf := iT c9 hf
    refine lv_aload_n hx hb dX4_changes_12 rfl (lv_at hl 0 rfl) ?_
    refine lv_iconst (v := -1) hx hb dX4_changes_13 (by decide) ?_
    obtain ⟨r14, hq14, hf⟩ := bS hf
    refine wr_i X hP hD hS [0, 8, 9] rfl (ws' := (wd_X4_changes cI ad isKept now_size now_year now_writing_size now_writing now_order_size now_order now_enders_size now_enders refusals_size r14.2)) (Nat.le_of_ble_eq_true rfl) rfl rfl (run_V X hP hD hS [0, 8, 9] rfl rfl (c_X4_refused l D cI aS ad isKept refusals_size refusals (-1 : Int32) _ hq14 _) lkX4_58 (by decide) (q0 := 0) rfl rfl rfl rfl (Nat.le_of_ble_eq_true rfl) hl.1 dX4_changes_14) (fun H locs hP hD hS => ?_)
    have hR := Option.some.inj hf
    subst hR
    exact hret _ _ _ _ _ rfl (fun _ hn => by cases hn; rfl) hP hD hS dX4_changes_17

abbrev wd_X4_refusalOfNumber (cI : ClassId) (ad : Nat → Nat) (isKept : Int32) (now_size : Int32) (now_year : Int32) : va_W := [((ad 0), .inr (4, [.ref (ad 1), .ref (ad 16), .ref (ad 31), .int isKept, .ref (ad 46), .ref (ad 49), .ref (ad 51), .ref (ad 53), .ref (ad 55), .ref (ad 57)])), ((ad 1), .inr (0, [.ref (ad 2), .ref (ad 4), .ref (ad 6), .ref (ad 8), .ref (ad 10), .ref (ad 12), .ref (ad 14), .int now_size, .int now_year]))]
def f_X4_refusalOfNumber (now_size : Int32) (x1 : Int32) (x2 : Int32) (x3 : Int32) : Option (Int32) := ((f_X0_has now_size x1).bind fun (r5 : Int32) => (if r5 = 0 then (some (-1 : Int32)) else (if 0 ≤ x2 then (if x2 ≤ x3 then (some (0 : Int32)) else (some (-6 : Int32))) else (some (-4 : Int32)))))
set_option maxHeartbeats 4000000 in
set_option maxRecDepth 100000 in
theorem c_X4_refusalOfNumber (l : Launch) (D : va_G) (cI : ClassId) (aS : aSt) (ad : Nat → Nat) (isKept : Int32) (now_size : Int32) (now_year : Int32) (x1 : Int32) (x2 : Int32) (x3 : Int32) (R : Int32) (hf : f_X4_refusalOfNumber now_size x1 x2 x3 = some R) : CtI l yX4_refusalOfNumber cX4_refusalOfNumber 4 (some .int) 1 D cI aS [.ref (ad 0), .int x1, .int x2, .int x3] (wd_X4_refusalOfNumber cI ad isKept now_size now_year) (wd_X4_refusalOfNumber cI ad isKept now_size now_year) R := by
  refine ctI_of (by decide) ⟨_, rfl⟩ (Nat.le_of_ble_eq_true rfl) ?_
  intro p e s m below meth c A Q ls X hret hP hD hl
  have hS : va_S A s.heap s.heap [] := va_S.rf
  have hx := X.1
  have hb := X.2.1
  have hl : lv_has ls 4 [(0, .ref (ad 0)), (1, .int x1), (2, .int x2), (3, .int x3)] := hl
  replace hf : ((f_X0_has now_size x1).bind fun (r5 : Int32) => (if r5 = 0 then (some (-1 : Int32)) else (if 0 ≤ x2 then (if x2 ≤ x3 then (some (0 : Int32)) else (some (-6 : Int32))) else (some (-4 : Int32))))) = some R := hf
  refine lv_aload_n hx hb dX4_refusalOfNumber_0 rfl (lv_at hl 0 rfl) ?_
  refine fgX4_10 X hP (q0 := 0) rfl rfl dX4_refusalOfNumber_1 ?_
  refine lv_iload_n hx hb dX4_refusalOfNumber_4 rfl (lv_at hl 1 rfl) ?_
  obtain ⟨r5, hq5, hf⟩ := bS hf
  refine ro_i X hP hD hS [1] rfl (run_N X hP hD hS [1] rfl rfl (c_X0_has l D cI aS (fun k => ad (1 + k)) now_size now_year x1 _ hq5 _) lkX4_116 (by decide) (q0 := 1) rfl rfl rfl rfl (Nat.le_of_ble_eq_true rfl) hl.1 dX4_refusalOfNumber_5) (fun H locs hP hS => ?_)
  refine lv_if_ne (tgt := 13) hx hb dX4_refusalOfNumber_8 (by decide) (fun c8 => ?_) (fun c8 => ?_)
  · have hf := iF c8 hf
    refine lv_iload_n hx hb dX4_refusalOfNumber_13 rfl (lv_at hl 2 rfl) ?_
    refine lv_if_ge (tgt := 20) hx hb dX4_refusalOfNumber_14 (by decide) (fun c14 => ?_) (fun c14 => ?_)
    · have hf := iT c14 hf
      refine lv_iload_n hx hb dX4_refusalOfNumber_20 rfl (lv_at hl 2 rfl) ?_
      refine lv_iload_n hx hb dX4_refusalOfNumber_21 rfl (lv_at hl 3 rfl) ?_
      refine lv_icmp_le (tgt := 30) hx hb dX4_refusalOfNumber_22 (by decide) (fun c22 => ?_) (fun c22 => ?_)
      · have hf := iT c22 hf
        refine lv_iconst (v := 0) hx hb dX4_refusalOfNumber_30 (by decide) ?_
        have hR := Option.some.inj hf
        subst hR
        exact hret _ _ _ _ _ rfl (fun _ hn => by cases hn; rfl) hP hD hS dX4_refusalOfNumber_31
      · have hf := iF c22 hf
        refine lv_bipush (v := -6) hx hb dX4_refusalOfNumber_25 (by decide) ?_
        refine lv_goto (tgt := 31) hx hb dX4_refusalOfNumber_27 (by decide) ?_
        have hR := Option.some.inj hf
        subst hR
        exact hret _ _ _ _ _ rfl (fun _ hn => by cases hn; rfl) hP hD hS dX4_refusalOfNumber_31
    · have hf := iF c14 hf
      refine lv_bipush (v := -4) hx hb dX4_refusalOfNumber_17 (by decide) ?_
      have hR := Option.some.inj hf
      subst hR
      exact hret _ _ _ _ _ rfl (fun _ hn => by cases hn; rfl) hP hD hS dX4_refusalOfNumber_19
  · have hf := iT c8 hf
    refine lv_iconst (v := -1) hx hb dX4_refusalOfNumber_11 (by decide) ?_
    have hR := Option.some.inj hf
    subst hR
    exact hret _ _ _ _ _ rfl (fun _ hn => by cases hn; rfl) hP hD hS dX4_refusalOfNumber_12

abbrev wd_X4_famed (cI : ClassId) (ad : Nat → Nat) (isKept : Int32) (now_size : Int32) (now_year : Int32) (now_fames_size : Int32) (now_fames : (Nat → Int32)) (refusals_size : Int32) (refusals : (Nat → Int32)) : va_W := [((ad 0), .inr (4, [.ref (ad 1), .ref (ad 16), .ref (ad 31), .int isKept, .ref (ad 46), .ref (ad 49), .ref (ad 51), .ref (ad 53), .ref (ad 55), .ref (ad 57)])), ((ad 1), .inr (0, [.ref (ad 2), .ref (ad 4), .ref (ad 6), .ref (ad 8), .ref (ad 10), .ref (ad 12), .ref (ad 14), .int now_size, .int now_year])), ((ad 8), .inr (3, [.ref (ad 9), .int now_fames_size])), ((ad 9), .inl (cI, 7, .inl now_fames)), ((ad 51), .inr (3, [.ref (ad 52), .int refusals_size])), ((ad 52), .inl (cI, 7, .inl refusals))]
def f_X4_famed (now_size : Int32) (now_fames : (Nat → Int32)) (refusals : (Nat → Int32)) (x1 : Int32) (x2 : Int32) : Option (Int32 × (Nat → Int32) × (Nat → Int32)) := ((f_X4_refusalOfNumber now_size x1 x2 (99 : Int32)).bind fun (r5 : Int32) => (if r5 = 0 then ((f_X3_get 7 now_fames x1).bind fun (r27 : Int32) => ((f_X3_set 7 now_fames x1 x2).bind fun (r41 : (Nat → Int32)) => (some (r27, r41, refusals)))) else ((f_X4_refused refusals r5).bind fun (r15 : Int32 × (Nat → Int32)) => (some (r15.1, now_fames, r15.2)))))
set_option maxHeartbeats 4000000 in
set_option maxRecDepth 100000 in
theorem c_X4_famed (l : Launch) (D : va_G) (cI : ClassId) (aS : aSt) (ad : Nat → Nat) (isKept : Int32) (now_size : Int32) (now_year : Int32) (now_fames_size : Int32) (now_fames : (Nat → Int32)) (refusals_size : Int32) (refusals : (Nat → Int32)) (x1 : Int32) (x2 : Int32) (R : Int32 × (Nat → Int32) × (Nat → Int32)) (hf : f_X4_famed now_size now_fames refusals x1 x2 = some R) : CtI l yX4_famed cX4_famed 5 (some .int) 2 D cI aS [.ref (ad 0), .int x1, .int x2] (wd_X4_famed cI ad isKept now_size now_year now_fames_size now_fames refusals_size refusals) (wd_X4_famed cI ad isKept now_size now_year now_fames_size R.2.1 refusals_size R.2.2) R.1 := by
  refine ctI_of (by decide) ⟨_, rfl⟩ (Nat.le_of_ble_eq_true rfl) ?_
  intro p e s m below meth c A Q ls X hret hP hD hl
  have hS : va_S A s.heap s.heap [] := va_S.rf
  have hx := X.1
  have hb := X.2.1
  have hl : lv_has ls 5 [(0, .ref (ad 0)), (1, .int x1), (2, .int x2)] := hl
  replace hf : ((f_X4_refusalOfNumber now_size x1 x2 (99 : Int32)).bind fun (r5 : Int32) => (if r5 = 0 then ((f_X3_get 7 now_fames x1).bind fun (r27 : Int32) => ((f_X3_set 7 now_fames x1 x2).bind fun (r41 : (Nat → Int32)) => (some (r27, r41, refusals)))) else ((f_X4_refused refusals r5).bind fun (r15 : Int32 × (Nat → Int32)) => (some (r15.1, now_fames, r15.2))))) = some R := hf
  refine lv_aload_n hx hb dX4_famed_0 rfl (lv_at hl 0 rfl) ?_
  refine lv_iload_n hx hb dX4_famed_1 rfl (lv_at hl 1 rfl) ?_
  refine lv_iload_n hx hb dX4_famed_2 rfl (lv_at hl 2 rfl) ?_
  refine lv_bipush (v := 99) hx hb dX4_famed_3 (by decide) ?_
  obtain ⟨r5, hq5, hf⟩ := bS hf
  refine ro_i X hP hD hS [0, 1] rfl (run_V X hP hD hS [0, 1] rfl rfl (c_X4_refusalOfNumber l D cI aS ad isKept now_size now_year x1 x2 (99 : Int32) _ hq5 _) lkX4_182 (by decide) (q0 := 0) rfl rfl rfl rfl (Nat.le_of_ble_eq_true rfl) hl.1 dX4_famed_5) (fun H locs hP hS => ?_)
  refine lv_istore_n (lv' := [(3, .int r5), (0, .ref (ad 0)), (1, .int x1), (2, .int x2)]) hx hb dX4_famed_8 rfl hl (by decide) rfl (fun ls hl => ?_)
  refine lv_iload_n hx hb dX4_famed_9 rfl (lv_at hl 0 rfl) ?_
  refine lv_if_eq (tgt := 19) hx hb dX4_famed_10 (by decide) (fun c10 => ?_) (fun c10 => ?_)
  · have hf := iT c10 hf
    refine lv_aload_n hx hb dX4_famed_19 rfl (lv_at hl 1 rfl) ?_
    refine fgX4_10 X hP (q0 := 0) rfl rfl dX4_famed_20 ?_
    refine fgX4_139 X hP (q0 := 1) rfl rfl dX4_famed_23 ?_
    refine lv_iload_n hx hb dX4_famed_26 rfl (lv_at hl 2 rfl) ?_
    obtain ⟨r27, hq27, hf⟩ := bS hf
    refine ro_i X hP hD hS [2, 3] rfl (run_N X hP hD hS [2, 3] rfl rfl (c_X3_get l D cI aS (fun k => ad (8 + k)) 7 now_fames_size now_fames x1 _ hq27 _) lkX4_105 (by decide) (q0 := 2) rfl rfl rfl rfl (Nat.le_of_ble_eq_true rfl) hl.1 dX4_famed_27) (fun H locs hP hS => ?_)
    refine lv_istore (lv' := [(4, .int r27), (3, .int r5), (0, .ref (ad 0)), (1, .int x1), (2, .int x2)]) hx hb dX4_famed_30 hl (by decide) rfl (fun ls hl => ?_)
    refine lv_aload_n hx hb dX4_famed_32 rfl (lv_at hl 2 rfl) ?_
    refine fgX4_10 X hP (q0 := 0) rfl rfl dX4_famed_33 ?_
    refine fgX4_139 X hP (q0 := 1) rfl rfl dX4_famed_36 ?_
    refine lv_iload_n hx hb dX4_famed_39 rfl (lv_at hl 3 rfl) ?_
    refine lv_iload_n hx hb dX4_famed_40 rfl (lv_at hl 4 rfl) ?_
    obtain ⟨r41, hq41, hf⟩ := bS hf
    refine wr_v X hP hD hS [2, 3] rfl (ws' := (wd_X4_famed cI ad isKept now_size now_year now_fames_size r41 refusals_size refusals)) (Nat.le_of_ble_eq_true rfl) rfl rfl (run_N X hP hD hS [2, 3] rfl rfl (c_X3_set l D cI aS (fun k => ad (8 + k)) 7 now_fames_size now_fames x1 x2 _ hq41 _) lkX4_136 (by decide) (q0 := 2) rfl rfl rfl rfl (Nat.le_of_ble_eq_true rfl) hl.1 dX4_famed_41) (fun H locs hP hD hS => ?_)
    refine lv_iload hx hb dX4_famed_44 (lv_at hl 0 rfl) ?_
    have hR := Option.some.inj hf
    subst hR
    exact hret _ _ _ _ _ rfl (fun _ hn => by cases hn; rfl) hP hD hS dX4_famed_46
  · have hf := iF c10 hf
    refine lv_aload_n hx hb dX4_famed_13 rfl (lv_at hl 1 rfl) ?_
    refine lv_iload_n hx hb dX4_famed_14 rfl (lv_at hl 0 rfl) ?_
    obtain ⟨r15, hq15, hf⟩ := bS hf
    refine wr_i X hP hD hS [0, 4, 5] rfl (ws' := (wd_X4_famed cI ad isKept now_size now_year now_fames_size now_fames refusals_size r15.2)) (Nat.le_of_ble_eq_true rfl) rfl rfl (run_V X hP hD hS [0, 4, 5] rfl rfl (c_X4_refused l D cI aS ad isKept refusals_size refusals r5 _ hq15 _) lkX4_58 (by decide) (q0 := 0) rfl rfl rfl rfl (Nat.le_of_ble_eq_true rfl) hl.1 dX4_famed_15) (fun H locs hP hD hS => ?_)
    have hR := Option.some.inj hf
    subst hR
    exact hret _ _ _ _ _ rfl (fun _ hn => by cases hn; rfl) hP hD hS dX4_famed_18

abbrev wd_X4_hushes (cI : ClassId) (ad : Nat → Nat) (isKept : Int32) (now_size : Int32) (now_year : Int32) (now_writing_size : Int32) (now_writing : (Nat → Int32)) (now_order_size : Int32) (now_order : (Nat → Int32)) (now_enders_size : Int32) (now_enders : (Nat → Int32)) (refusals_size : Int32) (refusals : (Nat → Int32)) : va_W := [((ad 0), .inr (4, [.ref (ad 1), .ref (ad 16), .ref (ad 31), .int isKept, .ref (ad 46), .ref (ad 49), .ref (ad 51), .ref (ad 53), .ref (ad 55), .ref (ad 57)])), ((ad 1), .inr (0, [.ref (ad 2), .ref (ad 4), .ref (ad 6), .ref (ad 8), .ref (ad 10), .ref (ad 12), .ref (ad 14), .int now_size, .int now_year])), ((ad 10), .inr (3, [.ref (ad 11), .int now_writing_size])), ((ad 11), .inl (cI, 7, .inl now_writing)), ((ad 12), .inr (3, [.ref (ad 13), .int now_order_size])), ((ad 13), .inl (cI, 7, .inl now_order)), ((ad 14), .inr (3, [.ref (ad 15), .int now_enders_size])), ((ad 15), .inl (cI, 7, .inl now_enders)), ((ad 51), .inr (3, [.ref (ad 52), .int refusals_size])), ((ad 52), .inl (cI, 7, .inl refusals))]
def f_X4_hushes (now_size : Int32) (now_writing : (Nat → Int32)) (now_order : (Nat → Int32)) (now_enders : (Nat → Int32)) (refusals : (Nat → Int32)) (x1 : Int32) : Option (Int32 × (Nat → Int32) × (Nat → Int32) × (Nat → Int32)) := ((f_X0_has now_size x1).bind fun (r5 : Int32) => (if r5 = 0 then ((f_X4_refused refusals (-1 : Int32)).bind fun (r13 : Int32 × (Nat → Int32)) => (some (r13.1, now_writing, now_enders, r13.2))) else ((f_X0_toggleWriting now_size now_writing now_order now_enders x1).bind fun (r22 : (Nat → Int32) × (Nat → Int32)) => ((f_X3_get 7 r22.1 x1).bind fun (r33 : Int32) => (some (r33, r22.1, r22.2, refusals))))))
set_option maxHeartbeats 4000000 in
set_option maxRecDepth 100000 in
theorem c_X4_hushes (l : Launch) (D : va_G) (cI : ClassId) (aS : aSt) (ad : Nat → Nat) (isKept : Int32) (now_size : Int32) (now_year : Int32) (now_writing_size : Int32) (now_writing : (Nat → Int32)) (now_order_size : Int32) (now_order : (Nat → Int32)) (now_enders_size : Int32) (now_enders : (Nat → Int32)) (refusals_size : Int32) (refusals : (Nat → Int32)) (x1 : Int32) (R : Int32 × (Nat → Int32) × (Nat → Int32) × (Nat → Int32)) (hf : f_X4_hushes now_size now_writing now_order now_enders refusals x1 = some R) : CtI l yX4_hushes cX4_hushes 2 (some .int) 4 D cI aS [.ref (ad 0), .int x1] (wd_X4_hushes cI ad isKept now_size now_year now_writing_size now_writing now_order_size now_order now_enders_size now_enders refusals_size refusals) (wd_X4_hushes cI ad isKept now_size now_year now_writing_size R.2.1 now_order_size now_order now_enders_size R.2.2.1 refusals_size R.2.2.2) R.1 := by
  refine ctI_of (by decide) ⟨_, rfl⟩ (Nat.le_of_ble_eq_true rfl) ?_
  intro p e s m below meth c A Q ls X hret hP hD hl
  have hS : va_S A s.heap s.heap [] := va_S.rf
  have hx := X.1
  have hb := X.2.1
  have hl : lv_has ls 2 [(0, .ref (ad 0)), (1, .int x1)] := hl
  replace hf : ((f_X0_has now_size x1).bind fun (r5 : Int32) => (if r5 = 0 then ((f_X4_refused refusals (-1 : Int32)).bind fun (r13 : Int32 × (Nat → Int32)) => (some (r13.1, now_writing, now_enders, r13.2))) else ((f_X0_toggleWriting now_size now_writing now_order now_enders x1).bind fun (r22 : (Nat → Int32) × (Nat → Int32)) => ((f_X3_get 7 r22.1 x1).bind fun (r33 : Int32) => (some (r33, r22.1, r22.2, refusals)))))) = some R := hf
  refine lv_aload_n hx hb dX4_hushes_0 rfl (lv_at hl 0 rfl) ?_
  refine fgX4_10 X hP (q0 := 0) rfl rfl dX4_hushes_1 ?_
  refine lv_iload_n hx hb dX4_hushes_4 rfl (lv_at hl 1 rfl) ?_
  obtain ⟨r5, hq5, hf⟩ := bS hf
  refine ro_i X hP hD hS [1] rfl (run_N X hP hD hS [1] rfl rfl (c_X0_has l D cI aS (fun k => ad (1 + k)) now_size now_year x1 _ hq5 _) lkX4_116 (by decide) (q0 := 1) rfl rfl rfl rfl (Nat.le_of_ble_eq_true rfl) hl.1 dX4_hushes_5) (fun H locs hP hS => ?_)
  refine lv_if_ne (tgt := 17) hx hb dX4_hushes_8 (by decide) (fun c8 => ?_) (fun c8 => ?_)
  · have hf := iF c8 hf
    refine lv_aload_n hx hb dX4_hushes_17 rfl (lv_at hl 0 rfl) ?_
    refine fgX4_10 X hP (q0 := 0) rfl rfl dX4_hushes_18 ?_
    refine lv_iload_n hx hb dX4_hushes_21 rfl (lv_at hl 1 rfl) ?_
    obtain ⟨r22, hq22, hf⟩ := bS hf
    refine wq_v X hP hD hS [1, 2, 3, 4, 5, 6, 7] [0, 8, 9] rfl (ws' := (wd_X4_hushes cI ad isKept now_size now_year now_writing_size r22.1 now_order_size now_order now_enders_size r22.2 refusals_size refusals)) rfl (wk_c ⟨_, rfl, rfl⟩ (wk_c ⟨_, rfl, rfl⟩ (wk_c ⟨_, rfl, rfl⟩ wk_n))) (N := 10) rfl (by decide) (by decide) rfl (run_N X hP hD hS [1, 2, 3, 4, 5, 6, 7] rfl rfl (c_X0_toggleWriting l D cI aS (fun k => ad (1 + k)) now_size now_year now_writing_size now_writing now_order_size now_order now_enders_size now_enders x1 _ hq22 _) lkX4_130 (by decide) (q0 := 1) rfl rfl rfl rfl (Nat.le_of_ble_eq_true rfl) hl.1 dX4_hushes_22) (fun H locs hP hD hS => ?_)
    refine lv_aload_n hx hb dX4_hushes_25 rfl (lv_at hl 0 rfl) ?_
    refine fgX4_10 X hP (q0 := 0) rfl rfl dX4_hushes_26 ?_
    refine fgX4_151 X hP (q0 := 1) rfl rfl dX4_hushes_29 ?_
    refine lv_iload_n hx hb dX4_hushes_32 rfl (lv_at hl 1 rfl) ?_
    obtain ⟨r33, hq33, hf⟩ := bS hf
    refine ro_i X hP hD hS [2, 3] rfl (run_N X hP hD hS [2, 3] rfl rfl (c_X3_get l D cI aS (fun k => ad (10 + k)) 7 now_writing_size r22.1 x1 _ hq33 _) lkX4_105 (by decide) (q0 := 2) rfl rfl rfl rfl (Nat.le_of_ble_eq_true rfl) hl.1 dX4_hushes_33) (fun H locs hP hS => ?_)
    have hR := Option.some.inj hf
    subst hR
    exact hret _ _ _ _ _ rfl (fun _ hn => by cases hn; rfl) hP hD hS dX4_hushes_36
  · have hf := iT c8 hf
    refine lv_aload_n hx hb dX4_hushes_11 rfl (lv_at hl 0 rfl) ?_
    refine lv_iconst (v := -1) hx hb dX4_hushes_12 (by decide) ?_
    obtain ⟨r13, hq13, hf⟩ := bS hf
    refine wr_i X hP hD hS [0, 8, 9] rfl (ws' := (wd_X4_hushes cI ad isKept now_size now_year now_writing_size now_writing now_order_size now_order now_enders_size now_enders refusals_size r13.2)) (Nat.le_of_ble_eq_true rfl) rfl rfl (run_V X hP hD hS [0, 8, 9] rfl rfl (c_X4_refused l D cI aS ad isKept refusals_size refusals (-1 : Int32) _ hq13 _) lkX4_58 (by decide) (q0 := 0) rfl rfl rfl rfl (Nat.le_of_ble_eq_true rfl) hl.1 dX4_hushes_13) (fun H locs hP hD hS => ?_)
    have hR := Option.some.inj hf
    subst hR
    exact hret _ _ _ _ _ rfl (fun _ hn => by cases hn; rfl) hP hD hS dX4_hushes_16

abbrev wd_X4_letter (cI : ClassId) (ad : Nat → Nat) (isKept : Int32) (letters_text_size : Int32) (letters_text : (Nat → Int32)) (refusals_size : Int32) (refusals : (Nat → Int32)) : va_W := [((ad 0), .inr (4, [.ref (ad 1), .ref (ad 16), .ref (ad 31), .int isKept, .ref (ad 46), .ref (ad 49), .ref (ad 51), .ref (ad 53), .ref (ad 55), .ref (ad 57)])), ((ad 46), .inr (1, [.ref (ad 47)])), ((ad 47), .inr (3, [.ref (ad 48), .int letters_text_size])), ((ad 48), .inl (cI, 96, .inl letters_text)), ((ad 51), .inr (3, [.ref (ad 52), .int refusals_size])), ((ad 52), .inl (cI, 7, .inl refusals))]
def f_X4_letter_33   (letters_text_size_33 : Int32) (letters_text_33 : (Nat → Int32)) (refusals_33 : (Nat → Int32)) : Option (Int32 × Int32 × (Nat → Int32) × (Nat → Int32)) := ((f_X4_refused refusals_33 (-6 : Int32)).bind fun (r36 : Int32 × (Nat → Int32)) => (some (r36.1, letters_text_size_33, letters_text_33, r36.2)))
def f_X4_letter (letters_text_size : Int32) (letters_text : (Nat → Int32)) (refusals : (Nat → Int32)) (x1 : Int32) : Option (Int32 × Int32 × (Nat → Int32) × (Nat → Int32)) := (if 0 ≤ x1 then (if (255 : Int32) < x1 then (f_X4_letter_33   letters_text_size letters_text refusals) else (if letters_text_size < (96 : Int32) then ((f_X3_push 96 letters_text_size letters_text x1).bind fun (r48 : Int32 × (Nat → Int32)) => (some (r48.1, r48.1, r48.2, refusals))) else (f_X4_letter_33   letters_text_size letters_text refusals))) else ((f_X4_refused refusals (-4 : Int32)).bind fun (r7 : Int32 × (Nat → Int32)) => (some (r7.1, letters_text_size, letters_text, r7.2))))
set_option maxHeartbeats 4000000 in
set_option maxRecDepth 100000 in
theorem w_X4_letter_33 {p : Program} {l : Launch} {e : Env} {s : State} {m : MethodId} {args : Array Value} {below : List Frame} {meth : Method} {c : Code} {D : va_G} {cI : ClassId} {aS : aSt} {A : Nat → Prop} {Q : State → Prop}  (ad : Nat → Nat) (isKept : Int32) (refusals_size : Int32) (x1 : Int32) {R : Int32 × Int32 × (Nat → Int32) × (Nat → Int32)} (X : Bx p s m args meth c cX4_letter 2 (some .int) RX4 D cI aS A) (hret : RtI p l e 2 s m args below meth c cX4_letter (some .int) D A (wd_X4_letter cI ad isKept R.2.1 R.2.2.1 refusals_size R.2.2.2) R.1 Q) : ∀ (letters_text_size_33 : Int32) (letters_text_33 : (Nat → Int32)) (refusals_33 : (Nat → Int32)) (H : Heap) (locs : List Loc) (ls : Array Slot), f_X4_letter_33   letters_text_size_33 letters_text_33 refusals_33 = some R → lv_has ls 2 [(0, .ref (ad 0))] → va_P D vwCl (wd_X4_letter cI ad isKept letters_text_size_33 letters_text_33 refusals_size refusals_33) H → va_D A (wd_X4_letter cI ad isKept letters_text_size_33 letters_text_33 refusals_size refusals_33) → va_S A s.heap H locs → Wh p l e 2 s m args below meth c H locs Q (F0 m 33 ls []) := by
  have hx := X.1
  have hb := X.2.1
  intro letters_text_size_33 letters_text_33 refusals_33 H locs ls hf hl hP hD hS
  replace hf : ((f_X4_refused refusals_33 (-6 : Int32)).bind fun (r36 : Int32 × (Nat → Int32)) => (some (r36.1, letters_text_size_33, letters_text_33, r36.2))) = some R := hf
  refine lv_aload_n hx hb dX4_letter_33 rfl (lv_at hl 0 rfl) ?_
  refine lv_bipush (v := -6) hx hb dX4_letter_34 (by decide) ?_
  obtain ⟨r36, hq36, hf⟩ := bS hf
  refine wr_i X hP hD hS [0, 4, 5] rfl (ws' := (wd_X4_letter cI ad isKept letters_text_size_33 letters_text_33 refusals_size r36.2)) (Nat.le_of_ble_eq_true rfl) rfl rfl (run_V X hP hD hS [0, 4, 5] rfl rfl (c_X4_refused l D cI aS ad isKept refusals_size refusals_33 (-6 : Int32) _ hq36 _) lkX4_58 (by decide) (q0 := 0) rfl rfl rfl rfl (Nat.le_of_ble_eq_true rfl) hl.1 dX4_letter_36) (fun H locs hP hD hS => ?_)
  have hR := Option.some.inj hf
  subst hR
  exact hret _ _ _ _ _ rfl (fun _ hn => by cases hn; rfl) hP hD hS dX4_letter_39
set_option maxHeartbeats 4000000 in
set_option maxRecDepth 100000 in
theorem c_X4_letter (l : Launch) (D : va_G) (cI : ClassId) (aS : aSt) (ad : Nat → Nat) (isKept : Int32) (letters_text_size : Int32) (letters_text : (Nat → Int32)) (refusals_size : Int32) (refusals : (Nat → Int32)) (x1 : Int32) (R : Int32 × Int32 × (Nat → Int32) × (Nat → Int32)) (hf : f_X4_letter letters_text_size letters_text refusals x1 = some R) : CtI l yX4_letter cX4_letter 2 (some .int) 2 D cI aS [.ref (ad 0), .int x1] (wd_X4_letter cI ad isKept letters_text_size letters_text refusals_size refusals) (wd_X4_letter cI ad isKept R.2.1 R.2.2.1 refusals_size R.2.2.2) R.1 := by
  refine ctI_of (by decide) ⟨_, rfl⟩ (Nat.le_of_ble_eq_true rfl) ?_
  intro p e s m below meth c A Q ls X hret hP hD hl
  have hS : va_S A s.heap s.heap [] := va_S.rf
  have hx := X.1
  have hb := X.2.1
  have hl : lv_has ls 2 [(0, .ref (ad 0)), (1, .int x1)] := hl
  replace hf : (if 0 ≤ x1 then (if (255 : Int32) < x1 then (f_X4_letter_33   letters_text_size letters_text refusals) else (if letters_text_size < (96 : Int32) then ((f_X3_push 96 letters_text_size letters_text x1).bind fun (r48 : Int32 × (Nat → Int32)) => (some (r48.1, r48.1, r48.2, refusals))) else (f_X4_letter_33   letters_text_size letters_text refusals))) else ((f_X4_refused refusals (-4 : Int32)).bind fun (r7 : Int32 × (Nat → Int32)) => (some (r7.1, letters_text_size, letters_text, r7.2)))) = some R := hf
  refine lv_iload_n hx hb dX4_letter_0 rfl (lv_at hl 1 rfl) ?_
  refine lv_if_ge (tgt := 11) hx hb dX4_letter_1 (by decide) (fun c1 => ?_) (fun c1 => ?_)
  · have hf := iT c1 hf
    refine lv_iload_n hx hb dX4_letter_11 rfl (lv_at hl 1 rfl) ?_
    refine lv_sipush (v := 255) hx hb dX4_letter_12 (by decide) ?_
    refine lv_icmp_gt (tgt := 33) hx hb dX4_letter_15 (by decide) (fun c15 => ?_) (fun c15 => ?_)
    · have hf := iT c15 hf
      exact w_X4_letter_33 ad isKept refusals_size x1 X hret  letters_text_size letters_text refusals _ _ _ hf (lv_sub hl [0] rfl) hP hD hS
    · have hf := iF c15 hf
      refine lv_aload_n hx hb dX4_letter_18 rfl (lv_at hl 0 rfl) ?_
      refine fgX4_29 X hP (q0 := 0) rfl rfl dX4_letter_19 ?_
      refine fgX4_62 X hP (q0 := 1) rfl rfl dX4_letter_22 ?_
      refine fgX4_65 X hP (q0 := 2) rfl rfl dX4_letter_25 ?_
      refine lv_bipush (v := 96) hx hb dX4_letter_28 (by decide) ?_
      refine lv_icmp_lt (tgt := 40) hx hb dX4_letter_30 (by decide) (fun c30 => ?_) (fun c30 => ?_)
      · have hf := iT c30 hf
        refine lv_aload_n hx hb dX4_letter_40 rfl (lv_at hl 0 rfl) ?_
        refine fgX4_29 X hP (q0 := 0) rfl rfl dX4_letter_41 ?_
        refine fgX4_62 X hP (q0 := 1) rfl rfl dX4_letter_44 ?_
        refine lv_iload_n hx hb dX4_letter_47 rfl (lv_at hl 1 rfl) ?_
        obtain ⟨r48, hq48, hf⟩ := bS hf
        refine wr_v X hP hD hS [2, 3] rfl (ws' := (wd_X4_letter cI ad isKept r48.1 r48.2 refusals_size refusals)) (Nat.le_of_ble_eq_true rfl) rfl rfl (run_N X hP hD hS [2, 3] rfl rfl (c_X3_push l D cI aS (fun k => ad (47 + k)) 96 letters_text_size letters_text x1 _ hq48 _) lkX4_69 (by decide) (q0 := 2) rfl rfl rfl rfl (Nat.le_of_ble_eq_true rfl) hl.1 dX4_letter_48) (fun H locs hP hD hS => ?_)
        refine lv_aload_n hx hb dX4_letter_51 rfl (lv_at hl 0 rfl) ?_
        refine fgX4_29 X hP (q0 := 0) rfl rfl dX4_letter_52 ?_
        refine fgX4_62 X hP (q0 := 1) rfl rfl dX4_letter_55 ?_
        refine fgX4_65 X hP (q0 := 2) rfl rfl dX4_letter_58 ?_
        have hR := Option.some.inj hf
        subst hR
        exact hret _ _ _ _ _ rfl (fun _ hn => by cases hn; rfl) hP hD hS dX4_letter_61
      · have hf := iF c30 hf
        exact w_X4_letter_33 ad isKept refusals_size x1 X hret  letters_text_size letters_text refusals _ _ _ hf (lv_sub hl [0] rfl) hP hD hS
  · have hf := iF c1 hf
    refine lv_aload_n hx hb dX4_letter_4 rfl (lv_at hl 0 rfl) ?_
    refine lv_bipush (v := -4) hx hb dX4_letter_5 (by decide) ?_
    obtain ⟨r7, hq7, hf⟩ := bS hf
    refine wr_i X hP hD hS [0, 4, 5] rfl (ws' := (wd_X4_letter cI ad isKept letters_text_size letters_text refusals_size r7.2)) (Nat.le_of_ble_eq_true rfl) rfl rfl (run_V X hP hD hS [0, 4, 5] rfl rfl (c_X4_refused l D cI aS ad isKept refusals_size refusals (-4 : Int32) _ hq7 _) lkX4_58 (by decide) (q0 := 0) rfl rfl rfl rfl (Nat.le_of_ble_eq_true rfl) hl.1 dX4_letter_7) (fun H locs hP hD hS => ?_)
    have hR := Option.some.inj hf
    subst hR
    exact hret _ _ _ _ _ rfl (fun _ hn => by cases hn; rfl) hP hD hS dX4_letter_10

abbrev wd_X4_place (cI : ClassId) (ad : Nat → Nat) (isKept : Int32) (now_size : Int32) (now_year : Int32) (now_order_size : Int32) (now_order : (Nat → Int32)) (refusals_size : Int32) (refusals : (Nat → Int32)) : va_W := [((ad 0), .inr (4, [.ref (ad 1), .ref (ad 16), .ref (ad 31), .int isKept, .ref (ad 46), .ref (ad 49), .ref (ad 51), .ref (ad 53), .ref (ad 55), .ref (ad 57)])), ((ad 1), .inr (0, [.ref (ad 2), .ref (ad 4), .ref (ad 6), .ref (ad 8), .ref (ad 10), .ref (ad 12), .ref (ad 14), .int now_size, .int now_year])), ((ad 12), .inr (3, [.ref (ad 13), .int now_order_size])), ((ad 13), .inl (cI, 7, .inl now_order)), ((ad 51), .inr (3, [.ref (ad 52), .int refusals_size])), ((ad 52), .inl (cI, 7, .inl refusals))]
def f_X4_place (now_size : Int32) (now_order : (Nat → Int32)) (refusals : (Nat → Int32)) (x1 : Int32) : Option (Int32 × (Nat → Int32)) := (if 0 ≤ x1 then (if now_size ≤ x1 then (some ((-9 : Int32), refusals)) else ((f_X3_get 7 now_order x1).bind fun (r30 : Int32) => (some (r30, refusals)))) else ((f_X4_refused refusals (-4 : Int32)).bind fun (r7 : Int32 × (Nat → Int32)) => (some (r7.1, r7.2))))
set_option maxHeartbeats 4000000 in
set_option maxRecDepth 100000 in
theorem c_X4_place (l : Launch) (D : va_G) (cI : ClassId) (aS : aSt) (ad : Nat → Nat) (isKept : Int32) (now_size : Int32) (now_year : Int32) (now_order_size : Int32) (now_order : (Nat → Int32)) (refusals_size : Int32) (refusals : (Nat → Int32)) (x1 : Int32) (R : Int32 × (Nat → Int32)) (hf : f_X4_place now_size now_order refusals x1 = some R) : CtI l yX4_place cX4_place 2 (some .int) 2 D cI aS [.ref (ad 0), .int x1] (wd_X4_place cI ad isKept now_size now_year now_order_size now_order refusals_size refusals) (wd_X4_place cI ad isKept now_size now_year now_order_size now_order refusals_size R.2) R.1 := by
  refine ctI_of (by decide) ⟨_, rfl⟩ (Nat.le_of_ble_eq_true rfl) ?_
  intro p e s m below meth c A Q ls X hret hP hD hl
  have hS : va_S A s.heap s.heap [] := va_S.rf
  have hx := X.1
  have hb := X.2.1
  have hl : lv_has ls 2 [(0, .ref (ad 0)), (1, .int x1)] := hl
  replace hf : (if 0 ≤ x1 then (if now_size ≤ x1 then (some ((-9 : Int32), refusals)) else ((f_X3_get 7 now_order x1).bind fun (r30 : Int32) => (some (r30, refusals)))) else ((f_X4_refused refusals (-4 : Int32)).bind fun (r7 : Int32 × (Nat → Int32)) => (some (r7.1, r7.2)))) = some R := hf
  refine lv_iload_n hx hb dX4_place_0 rfl (lv_at hl 1 rfl) ?_
  refine lv_if_ge (tgt := 11) hx hb dX4_place_1 (by decide) (fun c1 => ?_) (fun c1 => ?_)
  · have hf := iT c1 hf
    refine lv_iload_n hx hb dX4_place_11 rfl (lv_at hl 1 rfl) ?_
    refine lv_aload_n hx hb dX4_place_12 rfl (lv_at hl 0 rfl) ?_
    refine fgX4_10 X hP (q0 := 0) rfl rfl dX4_place_13 ?_
    refine fgX4_108 X hP (q0 := 1) rfl rfl dX4_place_16 ?_
    refine lv_icmp_ge (tgt := 36) hx hb dX4_place_19 (by decide) (fun c19 => ?_) (fun c19 => ?_)
    · have hf := iT c19 hf
      refine lv_bipush (v := -9) hx hb dX4_place_36 (by decide) ?_
      have hR := Option.some.inj hf
      subst hR
      exact hret _ _ _ _ _ rfl (fun _ hn => by cases hn; rfl) hP hD hS dX4_place_38
    · have hf := iF c19 hf
      refine lv_aload_n hx hb dX4_place_22 rfl (lv_at hl 0 rfl) ?_
      refine fgX4_10 X hP (q0 := 0) rfl rfl dX4_place_23 ?_
      refine fgX4_160 X hP (q0 := 1) rfl rfl dX4_place_26 ?_
      refine lv_iload_n hx hb dX4_place_29 rfl (lv_at hl 1 rfl) ?_
      obtain ⟨r30, hq30, hf⟩ := bS hf
      refine ro_i X hP hD hS [2, 3] rfl (run_N X hP hD hS [2, 3] rfl rfl (c_X3_get l D cI aS (fun k => ad (12 + k)) 7 now_order_size now_order x1 _ hq30 _) lkX4_105 (by decide) (q0 := 2) rfl rfl rfl rfl (Nat.le_of_ble_eq_true rfl) hl.1 dX4_place_30) (fun H locs hP hS => ?_)
      refine lv_goto (tgt := 38) hx hb dX4_place_33 (by decide) ?_
      have hR := Option.some.inj hf
      subst hR
      exact hret _ _ _ _ _ rfl (fun _ hn => by cases hn; rfl) hP hD hS dX4_place_38
  · have hf := iF c1 hf
    refine lv_aload_n hx hb dX4_place_4 rfl (lv_at hl 0 rfl) ?_
    refine lv_bipush (v := -4) hx hb dX4_place_5 (by decide) ?_
    obtain ⟨r7, hq7, hf⟩ := bS hf
    refine wr_i X hP hD hS [0, 4, 5] rfl (ws' := (wd_X4_place cI ad isKept now_size now_year now_order_size now_order refusals_size r7.2)) (Nat.le_of_ble_eq_true rfl) rfl rfl (run_V X hP hD hS [0, 4, 5] rfl rfl (c_X4_refused l D cI aS ad isKept refusals_size refusals (-4 : Int32) _ hq7 _) lkX4_58 (by decide) (q0 := 0) rfl rfl rfl rfl (Nat.le_of_ble_eq_true rfl) hl.1 dX4_place_7) (fun H locs hP hD hS => ?_)
    have hR := Option.some.inj hf
    subst hR
    exact hret _ _ _ _ _ rfl (fun _ hn => by cases hn; rfl) hP hD hS dX4_place_10

abbrev wd_X4_styles (cI : ClassId) (ad : Nat → Nat) (isKept : Int32) (now_size : Int32) (now_year : Int32) (now_styles_size : Int32) (now_styles : (Nat → Int32)) (refusals_size : Int32) (refusals : (Nat → Int32)) : va_W := [((ad 0), .inr (4, [.ref (ad 1), .ref (ad 16), .ref (ad 31), .int isKept, .ref (ad 46), .ref (ad 49), .ref (ad 51), .ref (ad 53), .ref (ad 55), .ref (ad 57)])), ((ad 1), .inr (0, [.ref (ad 2), .ref (ad 4), .ref (ad 6), .ref (ad 8), .ref (ad 10), .ref (ad 12), .ref (ad 14), .int now_size, .int now_year])), ((ad 6), .inr (3, [.ref (ad 7), .int now_styles_size])), ((ad 7), .inl (cI, 7, .inl now_styles)), ((ad 51), .inr (3, [.ref (ad 52), .int refusals_size])), ((ad 52), .inl (cI, 7, .inl refusals))]
def f_X4_styles (now_size : Int32) (now_styles : (Nat → Int32)) (refusals : (Nat → Int32)) (x1 : Int32) (x2 : Int32) : Option (Int32 × (Nat → Int32) × (Nat → Int32)) := ((f_X4_refusalOfNumber now_size x1 x2 (9 : Int32)).bind fun (r5 : Int32) => (if r5 = 0 then ((f_X3_get 7 now_styles x1).bind fun (r27 : Int32) => ((f_X3_set 7 now_styles x1 x2).bind fun (r41 : (Nat → Int32)) => (some (r27, r41, refusals)))) else ((f_X4_refused refusals r5).bind fun (r15 : Int32 × (Nat → Int32)) => (some (r15.1, now_styles, r15.2)))))
set_option maxHeartbeats 4000000 in
set_option maxRecDepth 100000 in
theorem c_X4_styles (l : Launch) (D : va_G) (cI : ClassId) (aS : aSt) (ad : Nat → Nat) (isKept : Int32) (now_size : Int32) (now_year : Int32) (now_styles_size : Int32) (now_styles : (Nat → Int32)) (refusals_size : Int32) (refusals : (Nat → Int32)) (x1 : Int32) (x2 : Int32) (R : Int32 × (Nat → Int32) × (Nat → Int32)) (hf : f_X4_styles now_size now_styles refusals x1 x2 = some R) : CtI l yX4_styles cX4_styles 5 (some .int) 2 D cI aS [.ref (ad 0), .int x1, .int x2] (wd_X4_styles cI ad isKept now_size now_year now_styles_size now_styles refusals_size refusals) (wd_X4_styles cI ad isKept now_size now_year now_styles_size R.2.1 refusals_size R.2.2) R.1 := by
  refine ctI_of (by decide) ⟨_, rfl⟩ (Nat.le_of_ble_eq_true rfl) ?_
  intro p e s m below meth c A Q ls X hret hP hD hl
  have hS : va_S A s.heap s.heap [] := va_S.rf
  have hx := X.1
  have hb := X.2.1
  have hl : lv_has ls 5 [(0, .ref (ad 0)), (1, .int x1), (2, .int x2)] := hl
  replace hf : ((f_X4_refusalOfNumber now_size x1 x2 (9 : Int32)).bind fun (r5 : Int32) => (if r5 = 0 then ((f_X3_get 7 now_styles x1).bind fun (r27 : Int32) => ((f_X3_set 7 now_styles x1 x2).bind fun (r41 : (Nat → Int32)) => (some (r27, r41, refusals)))) else ((f_X4_refused refusals r5).bind fun (r15 : Int32 × (Nat → Int32)) => (some (r15.1, now_styles, r15.2))))) = some R := hf
  refine lv_aload_n hx hb dX4_styles_0 rfl (lv_at hl 0 rfl) ?_
  refine lv_iload_n hx hb dX4_styles_1 rfl (lv_at hl 1 rfl) ?_
  refine lv_iload_n hx hb dX4_styles_2 rfl (lv_at hl 2 rfl) ?_
  refine lv_bipush (v := 9) hx hb dX4_styles_3 (by decide) ?_
  obtain ⟨r5, hq5, hf⟩ := bS hf
  refine ro_i X hP hD hS [0, 1] rfl (run_V X hP hD hS [0, 1] rfl rfl (c_X4_refusalOfNumber l D cI aS ad isKept now_size now_year x1 x2 (9 : Int32) _ hq5 _) lkX4_182 (by decide) (q0 := 0) rfl rfl rfl rfl (Nat.le_of_ble_eq_true rfl) hl.1 dX4_styles_5) (fun H locs hP hS => ?_)
  refine lv_istore_n (lv' := [(3, .int r5), (0, .ref (ad 0)), (1, .int x1), (2, .int x2)]) hx hb dX4_styles_8 rfl hl (by decide) rfl (fun ls hl => ?_)
  refine lv_iload_n hx hb dX4_styles_9 rfl (lv_at hl 0 rfl) ?_
  refine lv_if_eq (tgt := 19) hx hb dX4_styles_10 (by decide) (fun c10 => ?_) (fun c10 => ?_)
  · have hf := iT c10 hf
    refine lv_aload_n hx hb dX4_styles_19 rfl (lv_at hl 1 rfl) ?_
    refine fgX4_10 X hP (q0 := 0) rfl rfl dX4_styles_20 ?_
    refine fgX4_133 X hP (q0 := 1) rfl rfl dX4_styles_23 ?_
    refine lv_iload_n hx hb dX4_styles_26 rfl (lv_at hl 2 rfl) ?_
    obtain ⟨r27, hq27, hf⟩ := bS hf
    refine ro_i X hP hD hS [2, 3] rfl (run_N X hP hD hS [2, 3] rfl rfl (c_X3_get l D cI aS (fun k => ad (6 + k)) 7 now_styles_size now_styles x1 _ hq27 _) lkX4_105 (by decide) (q0 := 2) rfl rfl rfl rfl (Nat.le_of_ble_eq_true rfl) hl.1 dX4_styles_27) (fun H locs hP hS => ?_)
    refine lv_istore (lv' := [(4, .int r27), (3, .int r5), (0, .ref (ad 0)), (1, .int x1), (2, .int x2)]) hx hb dX4_styles_30 hl (by decide) rfl (fun ls hl => ?_)
    refine lv_aload_n hx hb dX4_styles_32 rfl (lv_at hl 2 rfl) ?_
    refine fgX4_10 X hP (q0 := 0) rfl rfl dX4_styles_33 ?_
    refine fgX4_133 X hP (q0 := 1) rfl rfl dX4_styles_36 ?_
    refine lv_iload_n hx hb dX4_styles_39 rfl (lv_at hl 3 rfl) ?_
    refine lv_iload_n hx hb dX4_styles_40 rfl (lv_at hl 4 rfl) ?_
    obtain ⟨r41, hq41, hf⟩ := bS hf
    refine wr_v X hP hD hS [2, 3] rfl (ws' := (wd_X4_styles cI ad isKept now_size now_year now_styles_size r41 refusals_size refusals)) (Nat.le_of_ble_eq_true rfl) rfl rfl (run_N X hP hD hS [2, 3] rfl rfl (c_X3_set l D cI aS (fun k => ad (6 + k)) 7 now_styles_size now_styles x1 x2 _ hq41 _) lkX4_136 (by decide) (q0 := 2) rfl rfl rfl rfl (Nat.le_of_ble_eq_true rfl) hl.1 dX4_styles_41) (fun H locs hP hD hS => ?_)
    refine lv_iload hx hb dX4_styles_44 (lv_at hl 0 rfl) ?_
    have hR := Option.some.inj hf
    subst hR
    exact hret _ _ _ _ _ rfl (fun _ hn => by cases hn; rfl) hP hD hS dX4_styles_46
  · have hf := iF c10 hf
    refine lv_aload_n hx hb dX4_styles_13 rfl (lv_at hl 1 rfl) ?_
    refine lv_iload_n hx hb dX4_styles_14 rfl (lv_at hl 0 rfl) ?_
    obtain ⟨r15, hq15, hf⟩ := bS hf
    refine wr_i X hP hD hS [0, 4, 5] rfl (ws' := (wd_X4_styles cI ad isKept now_size now_year now_styles_size now_styles refusals_size r15.2)) (Nat.le_of_ble_eq_true rfl) rfl rfl (run_V X hP hD hS [0, 4, 5] rfl rfl (c_X4_refused l D cI aS ad isKept refusals_size refusals r5 _ hq15 _) lkX4_58 (by decide) (q0 := 0) rfl rfl rfl rfl (Nat.le_of_ble_eq_true rfl) hl.1 dX4_styles_15) (fun H locs hP hD hS => ?_)
    have hR := Option.some.inj hf
    subst hR
    exact hret _ _ _ _ _ rfl (fun _ hn => by cases hn; rfl) hP hD hS dX4_styles_18

abbrev wd_X4_turn (cI : ClassId) (ad : Nat → Nat) (isKept : Int32) (now_size : Int32) (now_year : Int32) (now_kinds_size : Int32) (now_kinds : (Nat → Int32)) (now_figures_size : Int32) (now_figures : (Nat → Int32)) (refusals_size : Int32) (refusals : (Nat → Int32)) : va_W := [((ad 0), .inr (4, [.ref (ad 1), .ref (ad 16), .ref (ad 31), .int isKept, .ref (ad 46), .ref (ad 49), .ref (ad 51), .ref (ad 53), .ref (ad 55), .ref (ad 57)])), ((ad 1), .inr (0, [.ref (ad 2), .ref (ad 4), .ref (ad 6), .ref (ad 8), .ref (ad 10), .ref (ad 12), .ref (ad 14), .int now_size, .int now_year])), ((ad 2), .inr (3, [.ref (ad 3), .int now_kinds_size])), ((ad 3), .inl (cI, 7, .inl now_kinds)), ((ad 4), .inr (3, [.ref (ad 5), .int now_figures_size])), ((ad 5), .inl (cI, 7, .inl now_figures)), ((ad 51), .inr (3, [.ref (ad 52), .int refusals_size])), ((ad 52), .inl (cI, 7, .inl refusals))]
def f_X4_turn_27   (now_kinds_27 : (Nat → Int32)) (now_figures_27 : (Nat → Int32)) (refusals_27 : (Nat → Int32)) : Option (Int32 × (Nat → Int32) × (Nat → Int32) × (Nat → Int32)) := ((f_X4_refused refusals_27 (-2 : Int32)).bind fun (r30 : Int32 × (Nat → Int32)) => (some (r30.1, now_kinds_27, now_figures_27, r30.2)))
def f_X4_turn (now_size : Int32) (now_kinds : (Nat → Int32)) (now_figures : (Nat → Int32)) (refusals : (Nat → Int32)) (x1 : Int32) (x2 : Int32) (x3 : Int32) : Option (Int32 × (Nat → Int32) × (Nat → Int32) × (Nat → Int32)) := ((f_X0_has now_size x1).bind fun (r5 : Int32) => (if r5 = 0 then ((f_X4_refused refusals (-1 : Int32)).bind fun (r13 : Int32 × (Nat → Int32)) => (some (r13.1, now_kinds, now_figures, r13.2))) else (if x2 < 0 then (f_X4_turn_27   now_kinds now_figures refusals) else (if x2 < (6 : Int32) then (if 0 ≤ x3 then (if x3 < (10 : Int32) then ((f_X3_get 7 now_kinds x1).bind fun (r68 : Int32) => ((f_X3_get 7 now_figures x1).bind fun (r80 : Int32) => ((f_X3_set 7 now_kinds x1 x2).bind fun (r95 : (Nat → Int32)) => ((f_X3_set 7 now_figures x1 x3).bind fun (r107 : (Nat → Int32)) => (some ((((10 : Int32) * r68) + r80), r95, r107, refusals)))))) else ((f_X4_refused refusals (-6 : Int32)).bind fun (r54 : Int32 × (Nat → Int32)) => (some (r54.1, now_kinds, now_figures, r54.2)))) else ((f_X4_refused refusals (-4 : Int32)).bind fun (r41 : Int32 × (Nat → Int32)) => (some (r41.1, now_kinds, now_figures, r41.2)))) else (f_X4_turn_27   now_kinds now_figures refusals)))))
set_option maxHeartbeats 4000000 in
set_option maxRecDepth 100000 in
theorem w_X4_turn_27 {p : Program} {l : Launch} {e : Env} {s : State} {m : MethodId} {args : Array Value} {below : List Frame} {meth : Method} {c : Code} {D : va_G} {cI : ClassId} {aS : aSt} {A : Nat → Prop} {Q : State → Prop}  (ad : Nat → Nat) (isKept : Int32) (now_size : Int32) (now_year : Int32) (now_kinds_size : Int32) (now_figures_size : Int32) (refusals_size : Int32) (x1 : Int32) (x2 : Int32) (x3 : Int32) {R : Int32 × (Nat → Int32) × (Nat → Int32) × (Nat → Int32)} (X : Bx p s m args meth c cX4_turn 5 (some .int) RX4 D cI aS A) (hret : RtI p l e 2 s m args below meth c cX4_turn (some .int) D A (wd_X4_turn cI ad isKept now_size now_year now_kinds_size R.2.1 now_figures_size R.2.2.1 refusals_size R.2.2.2) R.1 Q) : ∀ (now_kinds_27 : (Nat → Int32)) (now_figures_27 : (Nat → Int32)) (refusals_27 : (Nat → Int32)) (H : Heap) (locs : List Loc) (ls : Array Slot), f_X4_turn_27   now_kinds_27 now_figures_27 refusals_27 = some R → lv_has ls 5 [(0, .ref (ad 0))] → va_P D vwCl (wd_X4_turn cI ad isKept now_size now_year now_kinds_size now_kinds_27 now_figures_size now_figures_27 refusals_size refusals_27) H → va_D A (wd_X4_turn cI ad isKept now_size now_year now_kinds_size now_kinds_27 now_figures_size now_figures_27 refusals_size refusals_27) → va_S A s.heap H locs → Wh p l e 2 s m args below meth c H locs Q (F0 m 27 ls []) := by
  have hx := X.1
  have hb := X.2.1
  intro now_kinds_27 now_figures_27 refusals_27 H locs ls hf hl hP hD hS
  replace hf : ((f_X4_refused refusals_27 (-2 : Int32)).bind fun (r30 : Int32 × (Nat → Int32)) => (some (r30.1, now_kinds_27, now_figures_27, r30.2))) = some R := hf
  refine lv_aload_n hx hb dX4_turn_27 rfl (lv_at hl 0 rfl) ?_
  refine lv_bipush (v := -2) hx hb dX4_turn_28 (by decide) ?_
  obtain ⟨r30, hq30, hf⟩ := bS hf
  refine wr_i X hP hD hS [0, 6, 7] rfl (ws' := (wd_X4_turn cI ad isKept now_size now_year now_kinds_size now_kinds_27 now_figures_size now_figures_27 refusals_size r30.2)) (Nat.le_of_ble_eq_true rfl) rfl rfl (run_V X hP hD hS [0, 6, 7] rfl rfl (c_X4_refused l D cI aS ad isKept refusals_size refusals_27 (-2 : Int32) _ hq30 _) lkX4_58 (by decide) (q0 := 0) rfl rfl rfl rfl (Nat.le_of_ble_eq_true rfl) hl.1 dX4_turn_30) (fun H locs hP hD hS => ?_)
  have hR := Option.some.inj hf
  subst hR
  exact hret _ _ _ _ _ rfl (fun _ hn => by cases hn; rfl) hP hD hS dX4_turn_33
set_option maxHeartbeats 4000000 in
set_option maxRecDepth 100000 in
theorem c_X4_turn (l : Launch) (D : va_G) (cI : ClassId) (aS : aSt) (ad : Nat → Nat) (isKept : Int32) (now_size : Int32) (now_year : Int32) (now_kinds_size : Int32) (now_kinds : (Nat → Int32)) (now_figures_size : Int32) (now_figures : (Nat → Int32)) (refusals_size : Int32) (refusals : (Nat → Int32)) (x1 : Int32) (x2 : Int32) (x3 : Int32) (R : Int32 × (Nat → Int32) × (Nat → Int32) × (Nat → Int32)) (hf : f_X4_turn now_size now_kinds now_figures refusals x1 x2 x3 = some R) : CtI l yX4_turn cX4_turn 5 (some .int) 2 D cI aS [.ref (ad 0), .int x1, .int x2, .int x3] (wd_X4_turn cI ad isKept now_size now_year now_kinds_size now_kinds now_figures_size now_figures refusals_size refusals) (wd_X4_turn cI ad isKept now_size now_year now_kinds_size R.2.1 now_figures_size R.2.2.1 refusals_size R.2.2.2) R.1 := by
  refine ctI_of (by decide) ⟨_, rfl⟩ (Nat.le_of_ble_eq_true rfl) ?_
  intro p e s m below meth c A Q ls X hret hP hD hl
  have hS : va_S A s.heap s.heap [] := va_S.rf
  have hx := X.1
  have hb := X.2.1
  have hl : lv_has ls 5 [(0, .ref (ad 0)), (1, .int x1), (2, .int x2), (3, .int x3)] := hl
  replace hf : ((f_X0_has now_size x1).bind fun (r5 : Int32) => (if r5 = 0 then ((f_X4_refused refusals (-1 : Int32)).bind fun (r13 : Int32 × (Nat → Int32)) => (some (r13.1, now_kinds, now_figures, r13.2))) else (if x2 < 0 then (f_X4_turn_27   now_kinds now_figures refusals) else (if x2 < (6 : Int32) then (if 0 ≤ x3 then (if x3 < (10 : Int32) then ((f_X3_get 7 now_kinds x1).bind fun (r68 : Int32) => ((f_X3_get 7 now_figures x1).bind fun (r80 : Int32) => ((f_X3_set 7 now_kinds x1 x2).bind fun (r95 : (Nat → Int32)) => ((f_X3_set 7 now_figures x1 x3).bind fun (r107 : (Nat → Int32)) => (some ((((10 : Int32) * r68) + r80), r95, r107, refusals)))))) else ((f_X4_refused refusals (-6 : Int32)).bind fun (r54 : Int32 × (Nat → Int32)) => (some (r54.1, now_kinds, now_figures, r54.2)))) else ((f_X4_refused refusals (-4 : Int32)).bind fun (r41 : Int32 × (Nat → Int32)) => (some (r41.1, now_kinds, now_figures, r41.2)))) else (f_X4_turn_27   now_kinds now_figures refusals))))) = some R := hf
  refine lv_aload_n hx hb dX4_turn_0 rfl (lv_at hl 0 rfl) ?_
  refine fgX4_10 X hP (q0 := 0) rfl rfl dX4_turn_1 ?_
  refine lv_iload_n hx hb dX4_turn_4 rfl (lv_at hl 1 rfl) ?_
  obtain ⟨r5, hq5, hf⟩ := bS hf
  refine ro_i X hP hD hS [1] rfl (run_N X hP hD hS [1] rfl rfl (c_X0_has l D cI aS (fun k => ad (1 + k)) now_size now_year x1 _ hq5 _) lkX4_116 (by decide) (q0 := 1) rfl rfl rfl rfl (Nat.le_of_ble_eq_true rfl) hl.1 dX4_turn_5) (fun H locs hP hS => ?_)
  refine lv_if_ne (tgt := 17) hx hb dX4_turn_8 (by decide) (fun c8 => ?_) (fun c8 => ?_)
  · have hf := iF c8 hf
    refine lv_iload_n hx hb dX4_turn_17 rfl (lv_at hl 2 rfl) ?_
    refine lv_if_lt (tgt := 27) hx hb dX4_turn_18 (by decide) (fun c18 => ?_) (fun c18 => ?_)
    · have hf := iT c18 hf
      exact w_X4_turn_27 ad isKept now_size now_year now_kinds_size now_figures_size refusals_size x1 x2 x3 X hret  now_kinds now_figures refusals _ _ _ hf (lv_sub hl [0] rfl) hP hD hS
    · have hf := iF c18 hf
      refine lv_iload_n hx hb dX4_turn_21 rfl (lv_at hl 2 rfl) ?_
      refine lv_bipush (v := 6) hx hb dX4_turn_22 (by decide) ?_
      refine lv_icmp_lt (tgt := 34) hx hb dX4_turn_24 (by decide) (fun c24 => ?_) (fun c24 => ?_)
      · have hf := iT c24 hf
        refine lv_iload_n hx hb dX4_turn_34 rfl (lv_at hl 3 rfl) ?_
        refine lv_if_ge (tgt := 45) hx hb dX4_turn_35 (by decide) (fun c35 => ?_) (fun c35 => ?_)
        · have hf := iT c35 hf
          refine lv_iload_n hx hb dX4_turn_45 rfl (lv_at hl 3 rfl) ?_
          refine lv_bipush (v := 10) hx hb dX4_turn_46 (by decide) ?_
          refine lv_icmp_lt (tgt := 58) hx hb dX4_turn_48 (by decide) (fun c48 => ?_) (fun c48 => ?_)
          · have hf := iT c48 hf
            refine lv_bipush (v := 10) hx hb dX4_turn_58 (by decide) ?_
            refine lv_aload_n hx hb dX4_turn_60 rfl (lv_at hl 0 rfl) ?_
            refine fgX4_10 X hP (q0 := 0) rfl rfl dX4_turn_61 ?_
            refine fgX4_145 X hP (q0 := 1) rfl rfl dX4_turn_64 ?_
            refine lv_iload_n hx hb dX4_turn_67 rfl (lv_at hl 1 rfl) ?_
            obtain ⟨r68, hq68, hf⟩ := bS hf
            refine ro_i X hP hD hS [2, 3] rfl (run_N X hP hD hS [2, 3] rfl rfl (c_X3_get l D cI aS (fun k => ad (2 + k)) 7 now_kinds_size now_kinds x1 _ hq68 _) lkX4_105 (by decide) (q0 := 2) rfl rfl rfl rfl (Nat.le_of_ble_eq_true rfl) hl.1 dX4_turn_68) (fun H locs hP hS => ?_)
            refine lv_imul hx hb dX4_turn_71 ?_
            refine lv_aload_n hx hb dX4_turn_72 rfl (lv_at hl 0 rfl) ?_
            refine fgX4_10 X hP (q0 := 0) rfl rfl dX4_turn_73 ?_
            refine fgX4_148 X hP (q0 := 1) rfl rfl dX4_turn_76 ?_
            refine lv_iload_n hx hb dX4_turn_79 rfl (lv_at hl 1 rfl) ?_
            obtain ⟨r80, hq80, hf⟩ := bS hf
            refine ro_i X hP hD hS [4, 5] rfl (run_N X hP hD hS [4, 5] rfl rfl (c_X3_get l D cI aS (fun k => ad (4 + k)) 7 now_figures_size now_figures x1 _ hq80 _) lkX4_105 (by decide) (q0 := 4) rfl rfl rfl rfl (Nat.le_of_ble_eq_true rfl) hl.1 dX4_turn_80) (fun H locs hP hS => ?_)
            refine lv_iadd hx hb dX4_turn_83 ?_
            refine lv_istore (lv' := [(4, .int (((10 : Int32) * r68) + r80)), (0, .ref (ad 0)), (1, .int x1), (2, .int x2), (3, .int x3)]) hx hb dX4_turn_84 hl (by decide) rfl (fun ls hl => ?_)
            refine lv_aload_n hx hb dX4_turn_86 rfl (lv_at hl 1 rfl) ?_
            refine fgX4_10 X hP (q0 := 0) rfl rfl dX4_turn_87 ?_
            refine fgX4_145 X hP (q0 := 1) rfl rfl dX4_turn_90 ?_
            refine lv_iload_n hx hb dX4_turn_93 rfl (lv_at hl 2 rfl) ?_
            refine lv_iload_n hx hb dX4_turn_94 rfl (lv_at hl 3 rfl) ?_
            obtain ⟨r95, hq95, hf⟩ := bS hf
            refine wr_v X hP hD hS [2, 3] rfl (ws' := (wd_X4_turn cI ad isKept now_size now_year now_kinds_size r95 now_figures_size now_figures refusals_size refusals)) (Nat.le_of_ble_eq_true rfl) rfl rfl (run_N X hP hD hS [2, 3] rfl rfl (c_X3_set l D cI aS (fun k => ad (2 + k)) 7 now_kinds_size now_kinds x1 x2 _ hq95 _) lkX4_136 (by decide) (q0 := 2) rfl rfl rfl rfl (Nat.le_of_ble_eq_true rfl) hl.1 dX4_turn_95) (fun H locs hP hD hS => ?_)
            refine lv_aload_n hx hb dX4_turn_98 rfl (lv_at hl 1 rfl) ?_
            refine fgX4_10 X hP (q0 := 0) rfl rfl dX4_turn_99 ?_
            refine fgX4_148 X hP (q0 := 1) rfl rfl dX4_turn_102 ?_
            refine lv_iload_n hx hb dX4_turn_105 rfl (lv_at hl 2 rfl) ?_
            refine lv_iload_n hx hb dX4_turn_106 rfl (lv_at hl 4 rfl) ?_
            obtain ⟨r107, hq107, hf⟩ := bS hf
            refine wr_v X hP hD hS [4, 5] rfl (ws' := (wd_X4_turn cI ad isKept now_size now_year now_kinds_size r95 now_figures_size r107 refusals_size refusals)) (Nat.le_of_ble_eq_true rfl) rfl rfl (run_N X hP hD hS [4, 5] rfl rfl (c_X3_set l D cI aS (fun k => ad (4 + k)) 7 now_figures_size now_figures x1 x3 _ hq107 _) lkX4_136 (by decide) (q0 := 4) rfl rfl rfl rfl (Nat.le_of_ble_eq_true rfl) hl.1 dX4_turn_107) (fun H locs hP hD hS => ?_)
            refine lv_iload hx hb dX4_turn_110 (lv_at hl 0 rfl) ?_
            have hR := Option.some.inj hf
            subst hR
            exact hret _ _ _ _ _ rfl (fun _ hn => by cases hn; rfl) hP hD hS dX4_turn_112
          · have hf := iF c48 hf
            refine lv_aload_n hx hb dX4_turn_51 rfl (lv_at hl 0 rfl) ?_
            refine lv_bipush (v := -6) hx hb dX4_turn_52 (by decide) ?_
            obtain ⟨r54, hq54, hf⟩ := bS hf
            refine wr_i X hP hD hS [0, 6, 7] rfl (ws' := (wd_X4_turn cI ad isKept now_size now_year now_kinds_size now_kinds now_figures_size now_figures refusals_size r54.2)) (Nat.le_of_ble_eq_true rfl) rfl rfl (run_V X hP hD hS [0, 6, 7] rfl rfl (c_X4_refused l D cI aS ad isKept refusals_size refusals (-6 : Int32) _ hq54 _) lkX4_58 (by decide) (q0 := 0) rfl rfl rfl rfl (Nat.le_of_ble_eq_true rfl) hl.1 dX4_turn_54) (fun H locs hP hD hS => ?_)
            have hR := Option.some.inj hf
            subst hR
            exact hret _ _ _ _ _ rfl (fun _ hn => by cases hn; rfl) hP hD hS dX4_turn_57
        · have hf := iF c35 hf
          refine lv_aload_n hx hb dX4_turn_38 rfl (lv_at hl 0 rfl) ?_
          refine lv_bipush (v := -4) hx hb dX4_turn_39 (by decide) ?_
          obtain ⟨r41, hq41, hf⟩ := bS hf
          refine wr_i X hP hD hS [0, 6, 7] rfl (ws' := (wd_X4_turn cI ad isKept now_size now_year now_kinds_size now_kinds now_figures_size now_figures refusals_size r41.2)) (Nat.le_of_ble_eq_true rfl) rfl rfl (run_V X hP hD hS [0, 6, 7] rfl rfl (c_X4_refused l D cI aS ad isKept refusals_size refusals (-4 : Int32) _ hq41 _) lkX4_58 (by decide) (q0 := 0) rfl rfl rfl rfl (Nat.le_of_ble_eq_true rfl) hl.1 dX4_turn_41) (fun H locs hP hD hS => ?_)
          have hR := Option.some.inj hf
          subst hR
          exact hret _ _ _ _ _ rfl (fun _ hn => by cases hn; rfl) hP hD hS dX4_turn_44
      · have hf := iF c24 hf
        exact w_X4_turn_27 ad isKept now_size now_year now_kinds_size now_figures_size refusals_size x1 x2 x3 X hret  now_kinds now_figures refusals _ _ _ hf (lv_sub hl [0] rfl) hP hD hS
  · have hf := iT c8 hf
    refine lv_aload_n hx hb dX4_turn_11 rfl (lv_at hl 0 rfl) ?_
    refine lv_iconst (v := -1) hx hb dX4_turn_12 (by decide) ?_
    obtain ⟨r13, hq13, hf⟩ := bS hf
    refine wr_i X hP hD hS [0, 6, 7] rfl (ws' := (wd_X4_turn cI ad isKept now_size now_year now_kinds_size now_kinds now_figures_size now_figures refusals_size r13.2)) (Nat.le_of_ble_eq_true rfl) rfl rfl (run_V X hP hD hS [0, 6, 7] rfl rfl (c_X4_refused l D cI aS ad isKept refusals_size refusals (-1 : Int32) _ hq13 _) lkX4_58 (by decide) (q0 := 0) rfl rfl rfl rfl (Nat.le_of_ble_eq_true rfl) hl.1 dX4_turn_13) (fun H locs hP hD hS => ?_)
    have hR := Option.some.inj hf
    subst hR
    exact hret _ _ _ _ _ rfl (fun _ hn => by cases hn; rfl) hP hD hS dX4_turn_16

abbrev wd_X4_writer (cI : ClassId) (ad : Nat → Nat) (isKept : Int32) (now_size : Int32) (now_year : Int32) (now_kinds_size : Int32) (now_kinds : (Nat → Int32)) (now_figures_size : Int32) (now_figures : (Nat → Int32)) (now_styles_size : Int32) (now_styles : (Nat → Int32)) (now_fames_size : Int32) (now_fames : (Nat → Int32)) (now_writing_size : Int32) (now_writing : (Nat → Int32)) (now_order_size : Int32) (now_order : (Nat → Int32)) (now_enders_size : Int32) (now_enders : (Nat → Int32)) (refusals_size : Int32) (refusals : (Nat → Int32)) : va_W := [((ad 0), .inr (4, [.ref (ad 1), .ref (ad 16), .ref (ad 31), .int isKept, .ref (ad 46), .ref (ad 49), .ref (ad 51), .ref (ad 53), .ref (ad 55), .ref (ad 57)])), ((ad 1), .inr (0, [.ref (ad 2), .ref (ad 4), .ref (ad 6), .ref (ad 8), .ref (ad 10), .ref (ad 12), .ref (ad 14), .int now_size, .int now_year])), ((ad 2), .inr (3, [.ref (ad 3), .int now_kinds_size])), ((ad 3), .inl (cI, 7, .inl now_kinds)), ((ad 4), .inr (3, [.ref (ad 5), .int now_figures_size])), ((ad 5), .inl (cI, 7, .inl now_figures)), ((ad 6), .inr (3, [.ref (ad 7), .int now_styles_size])), ((ad 7), .inl (cI, 7, .inl now_styles)), ((ad 8), .inr (3, [.ref (ad 9), .int now_fames_size])), ((ad 9), .inl (cI, 7, .inl now_fames)), ((ad 10), .inr (3, [.ref (ad 11), .int now_writing_size])), ((ad 11), .inl (cI, 7, .inl now_writing)), ((ad 12), .inr (3, [.ref (ad 13), .int now_order_size])), ((ad 13), .inl (cI, 7, .inl now_order)), ((ad 14), .inr (3, [.ref (ad 15), .int now_enders_size])), ((ad 15), .inl (cI, 7, .inl now_enders)), ((ad 51), .inr (3, [.ref (ad 52), .int refusals_size])), ((ad 52), .inl (cI, 7, .inl refusals))]
def f_X4_writer (now_size : Int32) (now_kinds : (Nat → Int32)) (now_figures : (Nat → Int32)) (now_styles : (Nat → Int32)) (now_fames : (Nat → Int32)) (now_writing : (Nat → Int32)) (now_order : (Nat → Int32)) (now_enders : (Nat → Int32)) (refusals : (Nat → Int32)) (x1 : Int32) (x2 : Int32) : Option (Int32 × (Nat → Int32)) := ((f_X0_has now_size x1).bind fun (r5 : Int32) => (if r5 = 0 then ((f_X4_refused refusals (-1 : Int32)).bind fun (r13 : Int32 × (Nat → Int32)) => (some (r13.1, r13.2))) else (if x2 = (0 : Int32) then ((f_X3_get 7 now_kinds x1).bind fun (r68 : Int32) => (some (r68, refusals))) else (if x2 = (1 : Int32) then ((f_X3_get 7 now_figures x1).bind fun (r80 : Int32) => (some (r80, refusals))) else (if x2 = (2 : Int32) then ((f_X3_get 7 now_styles x1).bind fun (r92 : Int32) => (some (r92, refusals))) else (if x2 = (3 : Int32) then ((f_X3_get 7 now_fames x1).bind fun (r104 : Int32) => (some (r104, refusals))) else (if x2 = (4 : Int32) then ((f_X3_get 7 now_writing x1).bind fun (r116 : Int32) => (some (r116, refusals))) else (if x2 = (5 : Int32) then ((f_X0_placeOf now_size now_order x1).bind fun (r125 : Int32) => (some (r125, refusals))) else (if x2 = (6 : Int32) then ((f_X3_get 7 now_enders x1).bind fun (r137 : Int32) => (some (r137, refusals))) else ((f_X4_refused refusals (-2 : Int32)).bind fun (r144 : Int32 × (Nat → Int32)) => (some (r144.1, r144.2))))))))))))
set_option maxHeartbeats 4000000 in
set_option maxRecDepth 100000 in
theorem c_X4_writer (l : Launch) (D : va_G) (cI : ClassId) (aS : aSt) (ad : Nat → Nat) (isKept : Int32) (now_size : Int32) (now_year : Int32) (now_kinds_size : Int32) (now_kinds : (Nat → Int32)) (now_figures_size : Int32) (now_figures : (Nat → Int32)) (now_styles_size : Int32) (now_styles : (Nat → Int32)) (now_fames_size : Int32) (now_fames : (Nat → Int32)) (now_writing_size : Int32) (now_writing : (Nat → Int32)) (now_order_size : Int32) (now_order : (Nat → Int32)) (now_enders_size : Int32) (now_enders : (Nat → Int32)) (refusals_size : Int32) (refusals : (Nat → Int32)) (x1 : Int32) (x2 : Int32) (R : Int32 × (Nat → Int32)) (hf : f_X4_writer now_size now_kinds now_figures now_styles now_fames now_writing now_order now_enders refusals x1 x2 = some R) : CtI l yX4_writer cX4_writer 3 (some .int) 2 D cI aS [.ref (ad 0), .int x1, .int x2] (wd_X4_writer cI ad isKept now_size now_year now_kinds_size now_kinds now_figures_size now_figures now_styles_size now_styles now_fames_size now_fames now_writing_size now_writing now_order_size now_order now_enders_size now_enders refusals_size refusals) (wd_X4_writer cI ad isKept now_size now_year now_kinds_size now_kinds now_figures_size now_figures now_styles_size now_styles now_fames_size now_fames now_writing_size now_writing now_order_size now_order now_enders_size now_enders refusals_size R.2) R.1 := by
  refine ctI_of (by decide) ⟨_, rfl⟩ (Nat.le_of_ble_eq_true rfl) ?_
  intro p e s m below meth c A Q ls X hret hP hD hl
  have hS : va_S A s.heap s.heap [] := va_S.rf
  have hx := X.1
  have hb := X.2.1
  have hl : lv_has ls 3 [(0, .ref (ad 0)), (1, .int x1), (2, .int x2)] := hl
  replace hf : ((f_X0_has now_size x1).bind fun (r5 : Int32) => (if r5 = 0 then ((f_X4_refused refusals (-1 : Int32)).bind fun (r13 : Int32 × (Nat → Int32)) => (some (r13.1, r13.2))) else (if x2 = (0 : Int32) then ((f_X3_get 7 now_kinds x1).bind fun (r68 : Int32) => (some (r68, refusals))) else (if x2 = (1 : Int32) then ((f_X3_get 7 now_figures x1).bind fun (r80 : Int32) => (some (r80, refusals))) else (if x2 = (2 : Int32) then ((f_X3_get 7 now_styles x1).bind fun (r92 : Int32) => (some (r92, refusals))) else (if x2 = (3 : Int32) then ((f_X3_get 7 now_fames x1).bind fun (r104 : Int32) => (some (r104, refusals))) else (if x2 = (4 : Int32) then ((f_X3_get 7 now_writing x1).bind fun (r116 : Int32) => (some (r116, refusals))) else (if x2 = (5 : Int32) then ((f_X0_placeOf now_size now_order x1).bind fun (r125 : Int32) => (some (r125, refusals))) else (if x2 = (6 : Int32) then ((f_X3_get 7 now_enders x1).bind fun (r137 : Int32) => (some (r137, refusals))) else ((f_X4_refused refusals (-2 : Int32)).bind fun (r144 : Int32 × (Nat → Int32)) => (some (r144.1, r144.2)))))))))))) = some R := hf
  refine lv_aload_n hx hb dX4_writer_0 rfl (lv_at hl 0 rfl) ?_
  refine fgX4_10 X hP (q0 := 0) rfl rfl dX4_writer_1 ?_
  refine lv_iload_n hx hb dX4_writer_4 rfl (lv_at hl 1 rfl) ?_
  obtain ⟨r5, hq5, hf⟩ := bS hf
  refine ro_i X hP hD hS [1] rfl (run_N X hP hD hS [1] rfl rfl (c_X0_has l D cI aS (fun k => ad (1 + k)) now_size now_year x1 _ hq5 _) lkX4_116 (by decide) (q0 := 1) rfl rfl rfl rfl (Nat.le_of_ble_eq_true rfl) hl.1 dX4_writer_5) (fun H locs hP hS => ?_)
  refine lv_if_ne (tgt := 17) hx hb dX4_writer_8 (by decide) (fun c8 => ?_) (fun c8 => ?_)
  · have hf := iF c8 hf
    refine lv_iload_n hx hb dX4_writer_17 rfl (lv_at hl 2 rfl) ?_
    by_cases c18_0 : x2 = (0 : Int32)
    · have hf := iT c18_0 hf
      refine tsIn (tgt := 60) (off := 42) hx hb dX4_writer_18 c18_0 (by decide) (by decide) (by decide) (by decide) ?_
      refine lv_aload_n hx hb dX4_writer_60 rfl (lv_at hl 0 rfl) ?_
      refine fgX4_10 X hP (q0 := 0) rfl rfl dX4_writer_61 ?_
      refine fgX4_145 X hP (q0 := 1) rfl rfl dX4_writer_64 ?_
      refine lv_iload_n hx hb dX4_writer_67 rfl (lv_at hl 1 rfl) ?_
      obtain ⟨r68, hq68, hf⟩ := bS hf
      refine ro_i X hP hD hS [2, 3] rfl (run_N X hP hD hS [2, 3] rfl rfl (c_X3_get l D cI aS (fun k => ad (2 + k)) 7 now_kinds_size now_kinds x1 _ hq68 _) lkX4_105 (by decide) (q0 := 2) rfl rfl rfl rfl (Nat.le_of_ble_eq_true rfl) hl.1 dX4_writer_68) (fun H locs hP hS => ?_)
      have hR := Option.some.inj hf
      subst hR
      exact hret _ _ _ _ _ rfl (fun _ hn => by cases hn; rfl) hP hD hS dX4_writer_71
    have hf := iF c18_0 hf
    by_cases c18_1 : x2 = (1 : Int32)
    · have hf := iT c18_1 hf
      refine tsIn (tgt := 72) (off := 54) hx hb dX4_writer_18 c18_1 (by decide) (by decide) (by decide) (by decide) ?_
      refine lv_aload_n hx hb dX4_writer_72 rfl (lv_at hl 0 rfl) ?_
      refine fgX4_10 X hP (q0 := 0) rfl rfl dX4_writer_73 ?_
      refine fgX4_148 X hP (q0 := 1) rfl rfl dX4_writer_76 ?_
      refine lv_iload_n hx hb dX4_writer_79 rfl (lv_at hl 1 rfl) ?_
      obtain ⟨r80, hq80, hf⟩ := bS hf
      refine ro_i X hP hD hS [4, 5] rfl (run_N X hP hD hS [4, 5] rfl rfl (c_X3_get l D cI aS (fun k => ad (4 + k)) 7 now_figures_size now_figures x1 _ hq80 _) lkX4_105 (by decide) (q0 := 4) rfl rfl rfl rfl (Nat.le_of_ble_eq_true rfl) hl.1 dX4_writer_80) (fun H locs hP hS => ?_)
      have hR := Option.some.inj hf
      subst hR
      exact hret _ _ _ _ _ rfl (fun _ hn => by cases hn; rfl) hP hD hS dX4_writer_83
    have hf := iF c18_1 hf
    by_cases c18_2 : x2 = (2 : Int32)
    · have hf := iT c18_2 hf
      refine tsIn (tgt := 84) (off := 66) hx hb dX4_writer_18 c18_2 (by decide) (by decide) (by decide) (by decide) ?_
      refine lv_aload_n hx hb dX4_writer_84 rfl (lv_at hl 0 rfl) ?_
      refine fgX4_10 X hP (q0 := 0) rfl rfl dX4_writer_85 ?_
      refine fgX4_133 X hP (q0 := 1) rfl rfl dX4_writer_88 ?_
      refine lv_iload_n hx hb dX4_writer_91 rfl (lv_at hl 1 rfl) ?_
      obtain ⟨r92, hq92, hf⟩ := bS hf
      refine ro_i X hP hD hS [6, 7] rfl (run_N X hP hD hS [6, 7] rfl rfl (c_X3_get l D cI aS (fun k => ad (6 + k)) 7 now_styles_size now_styles x1 _ hq92 _) lkX4_105 (by decide) (q0 := 6) rfl rfl rfl rfl (Nat.le_of_ble_eq_true rfl) hl.1 dX4_writer_92) (fun H locs hP hS => ?_)
      have hR := Option.some.inj hf
      subst hR
      exact hret _ _ _ _ _ rfl (fun _ hn => by cases hn; rfl) hP hD hS dX4_writer_95
    have hf := iF c18_2 hf
    by_cases c18_3 : x2 = (3 : Int32)
    · have hf := iT c18_3 hf
      refine tsIn (tgt := 96) (off := 78) hx hb dX4_writer_18 c18_3 (by decide) (by decide) (by decide) (by decide) ?_
      refine lv_aload_n hx hb dX4_writer_96 rfl (lv_at hl 0 rfl) ?_
      refine fgX4_10 X hP (q0 := 0) rfl rfl dX4_writer_97 ?_
      refine fgX4_139 X hP (q0 := 1) rfl rfl dX4_writer_100 ?_
      refine lv_iload_n hx hb dX4_writer_103 rfl (lv_at hl 1 rfl) ?_
      obtain ⟨r104, hq104, hf⟩ := bS hf
      refine ro_i X hP hD hS [8, 9] rfl (run_N X hP hD hS [8, 9] rfl rfl (c_X3_get l D cI aS (fun k => ad (8 + k)) 7 now_fames_size now_fames x1 _ hq104 _) lkX4_105 (by decide) (q0 := 8) rfl rfl rfl rfl (Nat.le_of_ble_eq_true rfl) hl.1 dX4_writer_104) (fun H locs hP hS => ?_)
      have hR := Option.some.inj hf
      subst hR
      exact hret _ _ _ _ _ rfl (fun _ hn => by cases hn; rfl) hP hD hS dX4_writer_107
    have hf := iF c18_3 hf
    by_cases c18_4 : x2 = (4 : Int32)
    · have hf := iT c18_4 hf
      refine tsIn (tgt := 108) (off := 90) hx hb dX4_writer_18 c18_4 (by decide) (by decide) (by decide) (by decide) ?_
      refine lv_aload_n hx hb dX4_writer_108 rfl (lv_at hl 0 rfl) ?_
      refine fgX4_10 X hP (q0 := 0) rfl rfl dX4_writer_109 ?_
      refine fgX4_151 X hP (q0 := 1) rfl rfl dX4_writer_112 ?_
      refine lv_iload_n hx hb dX4_writer_115 rfl (lv_at hl 1 rfl) ?_
      obtain ⟨r116, hq116, hf⟩ := bS hf
      refine ro_i X hP hD hS [10, 11] rfl (run_N X hP hD hS [10, 11] rfl rfl (c_X3_get l D cI aS (fun k => ad (10 + k)) 7 now_writing_size now_writing x1 _ hq116 _) lkX4_105 (by decide) (q0 := 10) rfl rfl rfl rfl (Nat.le_of_ble_eq_true rfl) hl.1 dX4_writer_116) (fun H locs hP hS => ?_)
      have hR := Option.some.inj hf
      subst hR
      exact hret _ _ _ _ _ rfl (fun _ hn => by cases hn; rfl) hP hD hS dX4_writer_119
    have hf := iF c18_4 hf
    by_cases c18_5 : x2 = (5 : Int32)
    · have hf := iT c18_5 hf
      refine tsIn (tgt := 120) (off := 102) hx hb dX4_writer_18 c18_5 (by decide) (by decide) (by decide) (by decide) ?_
      refine lv_aload_n hx hb dX4_writer_120 rfl (lv_at hl 0 rfl) ?_
      refine fgX4_10 X hP (q0 := 0) rfl rfl dX4_writer_121 ?_
      refine lv_iload_n hx hb dX4_writer_124 rfl (lv_at hl 1 rfl) ?_
      obtain ⟨r125, hq125, hf⟩ := bS hf
      refine ro_i X hP hD hS [1, 12, 13] rfl (run_N X hP hD hS [1, 12, 13] rfl rfl (c_X0_placeOf l D cI aS (fun k => ad (1 + k)) now_size now_year now_order_size now_order x1 _ hq125 _) lkX4_154 (by decide) (q0 := 1) rfl rfl rfl rfl (Nat.le_of_ble_eq_true rfl) hl.1 dX4_writer_125) (fun H locs hP hS => ?_)
      have hR := Option.some.inj hf
      subst hR
      exact hret _ _ _ _ _ rfl (fun _ hn => by cases hn; rfl) hP hD hS dX4_writer_128
    have hf := iF c18_5 hf
    by_cases c18_6 : x2 = (6 : Int32)
    · have hf := iT c18_6 hf
      refine tsIn (tgt := 129) (off := 111) hx hb dX4_writer_18 c18_6 (by decide) (by decide) (by decide) (by decide) ?_
      refine lv_aload_n hx hb dX4_writer_129 rfl (lv_at hl 0 rfl) ?_
      refine fgX4_10 X hP (q0 := 0) rfl rfl dX4_writer_130 ?_
      refine fgX4_157 X hP (q0 := 1) rfl rfl dX4_writer_133 ?_
      refine lv_iload_n hx hb dX4_writer_136 rfl (lv_at hl 1 rfl) ?_
      obtain ⟨r137, hq137, hf⟩ := bS hf
      refine ro_i X hP hD hS [14, 15] rfl (run_N X hP hD hS [14, 15] rfl rfl (c_X3_get l D cI aS (fun k => ad (14 + k)) 7 now_enders_size now_enders x1 _ hq137 _) lkX4_105 (by decide) (q0 := 14) rfl rfl rfl rfl (Nat.le_of_ble_eq_true rfl) hl.1 dX4_writer_137) (fun H locs hP hS => ?_)
      have hR := Option.some.inj hf
      subst hR
      exact hret _ _ _ _ _ rfl (fun _ hn => by cases hn; rfl) hP hD hS dX4_writer_140
    have hf := iF c18_6 hf
    refine tsD (keys := [0, 1, 2, 3, 4, 5, 6]) (tgt := 141) hx hb dX4_writer_18 (List.forall_mem_cons.mpr ⟨i32ne c18_0 (by decide), (List.forall_mem_cons.mpr ⟨i32ne c18_1 (by decide), (List.forall_mem_cons.mpr ⟨i32ne c18_2 (by decide), (List.forall_mem_cons.mpr ⟨i32ne c18_3 (by decide), (List.forall_mem_cons.mpr ⟨i32ne c18_4 (by decide), (List.forall_mem_cons.mpr ⟨i32ne c18_5 (by decide), (List.forall_mem_cons.mpr ⟨i32ne c18_6 (by decide), (fun _ h => absurd h List.not_mem_nil)⟩)⟩)⟩)⟩)⟩)⟩)⟩) (by decide) (by decide) (by decide) ?_
    refine lv_aload_n hx hb dX4_writer_141 rfl (lv_at hl 0 rfl) ?_
    refine lv_bipush (v := -2) hx hb dX4_writer_142 (by decide) ?_
    obtain ⟨r144, hq144, hf⟩ := bS hf
    refine wr_i X hP hD hS [0, 16, 17] rfl (ws' := (wd_X4_writer cI ad isKept now_size now_year now_kinds_size now_kinds now_figures_size now_figures now_styles_size now_styles now_fames_size now_fames now_writing_size now_writing now_order_size now_order now_enders_size now_enders refusals_size r144.2)) (Nat.le_of_ble_eq_true rfl) rfl rfl (run_V X hP hD hS [0, 16, 17] rfl rfl (c_X4_refused l D cI aS ad isKept refusals_size refusals (-2 : Int32) _ hq144 _) lkX4_58 (by decide) (q0 := 0) rfl rfl rfl rfl (Nat.le_of_ble_eq_true rfl) hl.1 dX4_writer_144) (fun H locs hP hD hS => ?_)
    have hR := Option.some.inj hf
    subst hR
    exact hret _ _ _ _ _ rfl (fun _ hn => by cases hn; rfl) hP hD hS dX4_writer_147
  · have hf := iT c8 hf
    refine lv_aload_n hx hb dX4_writer_11 rfl (lv_at hl 0 rfl) ?_
    refine lv_iconst (v := -1) hx hb dX4_writer_12 (by decide) ?_
    obtain ⟨r13, hq13, hf⟩ := bS hf
    refine wr_i X hP hD hS [0, 16, 17] rfl (ws' := (wd_X4_writer cI ad isKept now_size now_year now_kinds_size now_kinds now_figures_size now_figures now_styles_size now_styles now_fames_size now_fames now_writing_size now_writing now_order_size now_order now_enders_size now_enders refusals_size r13.2)) (Nat.le_of_ble_eq_true rfl) rfl rfl (run_V X hP hD hS [0, 16, 17] rfl rfl (c_X4_refused l D cI aS ad isKept refusals_size refusals (-1 : Int32) _ hq13 _) lkX4_58 (by decide) (q0 := 0) rfl rfl rfl rfl (Nat.le_of_ble_eq_true rfl) hl.1 dX4_writer_13) (fun H locs hP hD hS => ?_)
    have hR := Option.some.inj hf
    subst hR
    exact hret _ _ _ _ _ rfl (fun _ hn => by cases hn; rfl) hP hD hS dX4_writer_16

abbrev wd_X4_years (cI : ClassId) (ad : Nat → Nat) (isKept : Int32) (now_size : Int32) (now_year : Int32) (now_kinds_size : Int32) (now_kinds : (Nat → Int32)) (now_figures_size : Int32) (now_figures : (Nat → Int32)) (now_styles_size : Int32) (now_styles : (Nat → Int32)) (now_fames_size : Int32) (now_fames : (Nat → Int32)) (now_writing_size : Int32) (now_writing : (Nat → Int32)) (now_enders_size : Int32) (now_enders : (Nat → Int32)) (refusals_size : Int32) (refusals : (Nat → Int32)) : va_W := [((ad 0), .inr (4, [.ref (ad 1), .ref (ad 16), .ref (ad 31), .int isKept, .ref (ad 46), .ref (ad 49), .ref (ad 51), .ref (ad 53), .ref (ad 55), .ref (ad 57)])), ((ad 1), .inr (0, [.ref (ad 2), .ref (ad 4), .ref (ad 6), .ref (ad 8), .ref (ad 10), .ref (ad 12), .ref (ad 14), .int now_size, .int now_year])), ((ad 2), .inr (3, [.ref (ad 3), .int now_kinds_size])), ((ad 3), .inl (cI, 7, .inl now_kinds)), ((ad 4), .inr (3, [.ref (ad 5), .int now_figures_size])), ((ad 5), .inl (cI, 7, .inl now_figures)), ((ad 6), .inr (3, [.ref (ad 7), .int now_styles_size])), ((ad 7), .inl (cI, 7, .inl now_styles)), ((ad 8), .inr (3, [.ref (ad 9), .int now_fames_size])), ((ad 9), .inl (cI, 7, .inl now_fames)), ((ad 10), .inr (3, [.ref (ad 11), .int now_writing_size])), ((ad 11), .inl (cI, 7, .inl now_writing)), ((ad 14), .inr (3, [.ref (ad 15), .int now_enders_size])), ((ad 15), .inl (cI, 7, .inl now_enders)), ((ad 51), .inr (3, [.ref (ad 52), .int refusals_size])), ((ad 52), .inl (cI, 7, .inl refusals))]
def f_X4_years (now_size : Int32) (now_year : Int32) (now_kinds : (Nat → Int32)) (now_figures : (Nat → Int32)) (now_styles : (Nat → Int32)) (now_fames : (Nat → Int32)) (now_writing : (Nat → Int32)) (now_enders : (Nat → Int32)) (refusals : (Nat → Int32)) (x1 : Int32) : Option (Int32 × Int32 × (Nat → Int32) × (Nat → Int32)) := (if (1 : Int32) ≤ x1 then ((f_X0_hasRoomFor now_year x1).bind fun (r17 : Int32) => (if r17 = 0 then ((f_X4_refused refusals (-6 : Int32)).bind fun (r26 : Int32 × (Nat → Int32)) => (some (r26.1, now_year, now_fames, r26.2))) else ((f_X0_passYears now_size now_year now_kinds now_figures now_styles now_fames now_writing now_enders x1).bind fun (r35 : Int32 × (Nat → Int32)) => ((f_X3_sumOf 7 r35.2 now_size).bind fun (r52 : Int32) => (some (r52, r35.1, r35.2, refusals)))))) else ((f_X4_refused refusals (-4 : Int32)).bind fun (r8 : Int32 × (Nat → Int32)) => (some (r8.1, now_year, now_fames, r8.2))))
set_option maxHeartbeats 4000000 in
set_option maxRecDepth 100000 in
theorem c_X4_years (l : Launch) (D : va_G) (cI : ClassId) (aS : aSt) (ad : Nat → Nat) (isKept : Int32) (now_size : Int32) (now_year : Int32) (now_kinds_size : Int32) (now_kinds : (Nat → Int32)) (now_figures_size : Int32) (now_figures : (Nat → Int32)) (now_styles_size : Int32) (now_styles : (Nat → Int32)) (now_fames_size : Int32) (now_fames : (Nat → Int32)) (now_writing_size : Int32) (now_writing : (Nat → Int32)) (now_enders_size : Int32) (now_enders : (Nat → Int32)) (refusals_size : Int32) (refusals : (Nat → Int32)) (x1 : Int32) (R : Int32 × Int32 × (Nat → Int32) × (Nat → Int32)) (hf : f_X4_years now_size now_year now_kinds now_figures now_styles now_fames now_writing now_enders refusals x1 = some R) : CtI l yX4_years cX4_years 2 (some .int) 9 D cI aS [.ref (ad 0), .int x1] (wd_X4_years cI ad isKept now_size now_year now_kinds_size now_kinds now_figures_size now_figures now_styles_size now_styles now_fames_size now_fames now_writing_size now_writing now_enders_size now_enders refusals_size refusals) (wd_X4_years cI ad isKept now_size R.2.1 now_kinds_size now_kinds now_figures_size now_figures now_styles_size now_styles now_fames_size R.2.2.1 now_writing_size now_writing now_enders_size now_enders refusals_size R.2.2.2) R.1 := by
  refine ctI_of (by decide) ⟨_, rfl⟩ (Nat.le_of_ble_eq_true rfl) ?_
  intro p e s m below meth c A Q ls X hret hP hD hl
  have hS : va_S A s.heap s.heap [] := va_S.rf
  have hx := X.1
  have hb := X.2.1
  have hl : lv_has ls 2 [(0, .ref (ad 0)), (1, .int x1)] := hl
  replace hf : (if (1 : Int32) ≤ x1 then ((f_X0_hasRoomFor now_year x1).bind fun (r17 : Int32) => (if r17 = 0 then ((f_X4_refused refusals (-6 : Int32)).bind fun (r26 : Int32 × (Nat → Int32)) => (some (r26.1, now_year, now_fames, r26.2))) else ((f_X0_passYears now_size now_year now_kinds now_figures now_styles now_fames now_writing now_enders x1).bind fun (r35 : Int32 × (Nat → Int32)) => ((f_X3_sumOf 7 r35.2 now_size).bind fun (r52 : Int32) => (some (r52, r35.1, r35.2, refusals)))))) else ((f_X4_refused refusals (-4 : Int32)).bind fun (r8 : Int32 × (Nat → Int32)) => (some (r8.1, now_year, now_fames, r8.2)))) = some R := hf
  refine lv_iload_n hx hb dX4_years_0 rfl (lv_at hl 1 rfl) ?_
  refine lv_iconst (v := 1) hx hb dX4_years_1 (by decide) ?_
  refine lv_icmp_ge (tgt := 12) hx hb dX4_years_2 (by decide) (fun c2 => ?_) (fun c2 => ?_)
  · have hf := iT c2 hf
    refine lv_aload_n hx hb dX4_years_12 rfl (lv_at hl 0 rfl) ?_
    refine fgX4_10 X hP (q0 := 0) rfl rfl dX4_years_13 ?_
    refine lv_iload_n hx hb dX4_years_16 rfl (lv_at hl 1 rfl) ?_
    obtain ⟨r17, hq17, hf⟩ := bS hf
    refine ro_i X hP hD hS [1] rfl (run_N X hP hD hS [1] rfl rfl (c_X0_hasRoomFor l D cI aS (fun k => ad (1 + k)) now_size now_year x1 _ hq17 _) lkX4_113 (by decide) (q0 := 1) rfl rfl rfl rfl (Nat.le_of_ble_eq_true rfl) hl.1 dX4_years_17) (fun H locs hP hS => ?_)
    refine lv_if_ne (tgt := 30) hx hb dX4_years_20 (by decide) (fun c20 => ?_) (fun c20 => ?_)
    · have hf := iF c20 hf
      refine lv_aload_n hx hb dX4_years_30 rfl (lv_at hl 0 rfl) ?_
      refine fgX4_10 X hP (q0 := 0) rfl rfl dX4_years_31 ?_
      refine lv_iload_n hx hb dX4_years_34 rfl (lv_at hl 1 rfl) ?_
      obtain ⟨r35, hq35, hf⟩ := bS hf
      refine wq_v X hP hD hS [1, 2, 3, 4, 5, 6, 7, 8, 9, 10, 11, 12, 13] [0, 14, 15] rfl (ws' := (wd_X4_years cI ad isKept now_size r35.1 now_kinds_size now_kinds now_figures_size now_figures now_styles_size now_styles now_fames_size r35.2 now_writing_size now_writing now_enders_size now_enders refusals_size refusals)) rfl (wk_c ⟨_, rfl, rfl⟩ (wk_c ⟨_, rfl, rfl⟩ (wk_c ⟨_, rfl, rfl⟩ wk_n))) (N := 16) rfl (by decide) (by decide) rfl (run_N X hP hD hS [1, 2, 3, 4, 5, 6, 7, 8, 9, 10, 11, 12, 13] rfl rfl (c_X0_passYears l D cI aS (fun k => ad (1 + k)) now_size now_year now_kinds_size now_kinds now_figures_size now_figures now_styles_size now_styles now_fames_size now_fames now_writing_size now_writing now_enders_size now_enders x1 _ hq35 _) lkX4_142 (by decide) (q0 := 1) rfl rfl rfl rfl (Nat.le_of_ble_eq_true rfl) hl.1 dX4_years_35) (fun H locs hP hD hS => ?_)
      refine lv_aload_n hx hb dX4_years_38 rfl (lv_at hl 0 rfl) ?_
      refine fgX4_10 X hP (q0 := 0) rfl rfl dX4_years_39 ?_
      refine fgX4_139 X hP (q0 := 1) rfl rfl dX4_years_42 ?_
      refine lv_aload_n hx hb dX4_years_45 rfl (lv_at hl 0 rfl) ?_
      refine fgX4_10 X hP (q0 := 0) rfl rfl dX4_years_46 ?_
      refine fgX4_108 X hP (q0 := 1) rfl rfl dX4_years_49 ?_
      obtain ⟨r52, hq52, hf⟩ := bS hf
      refine ro_i X hP hD hS [8, 9] rfl (run_N X hP hD hS [8, 9] rfl rfl (c_X3_sumOf l D cI aS (fun k => ad (8 + k)) 7 now_fames_size r35.2 now_size _ hq52 _) lkX4_185 (by decide) (q0 := 8) rfl rfl rfl rfl (Nat.le_of_ble_eq_true rfl) hl.1 dX4_years_52) (fun H locs hP hS => ?_)
      have hR := Option.some.inj hf
      subst hR
      exact hret _ _ _ _ _ rfl (fun _ hn => by cases hn; rfl) hP hD hS dX4_years_55
    · have hf := iT c20 hf
      refine lv_aload_n hx hb dX4_years_23 rfl (lv_at hl 0 rfl) ?_
      refine lv_bipush (v := -6) hx hb dX4_years_24 (by decide) ?_
      obtain ⟨r26, hq26, hf⟩ := bS hf
      refine wr_i X hP hD hS [0, 14, 15] rfl (ws' := (wd_X4_years cI ad isKept now_size now_year now_kinds_size now_kinds now_figures_size now_figures now_styles_size now_styles now_fames_size now_fames now_writing_size now_writing now_enders_size now_enders refusals_size r26.2)) (Nat.le_of_ble_eq_true rfl) rfl rfl (run_V X hP hD hS [0, 14, 15] rfl rfl (c_X4_refused l D cI aS ad isKept refusals_size refusals (-6 : Int32) _ hq26 _) lkX4_58 (by decide) (q0 := 0) rfl rfl rfl rfl (Nat.le_of_ble_eq_true rfl) hl.1 dX4_years_26) (fun H locs hP hD hS => ?_)
      have hR := Option.some.inj hf
      subst hR
      exact hret _ _ _ _ _ rfl (fun _ hn => by cases hn; rfl) hP hD hS dX4_years_29
  · have hf := iF c2 hf
    refine lv_aload_n hx hb dX4_years_5 rfl (lv_at hl 0 rfl) ?_
    refine lv_bipush (v := -4) hx hb dX4_years_6 (by decide) ?_
    obtain ⟨r8, hq8, hf⟩ := bS hf
    refine wr_i X hP hD hS [0, 14, 15] rfl (ws' := (wd_X4_years cI ad isKept now_size now_year now_kinds_size now_kinds now_figures_size now_figures now_styles_size now_styles now_fames_size now_fames now_writing_size now_writing now_enders_size now_enders refusals_size r8.2)) (Nat.le_of_ble_eq_true rfl) rfl rfl (run_V X hP hD hS [0, 14, 15] rfl rfl (c_X4_refused l D cI aS ad isKept refusals_size refusals (-4 : Int32) _ hq8 _) lkX4_58 (by decide) (q0 := 0) rfl rfl rfl rfl (Nat.le_of_ble_eq_true rfl) hl.1 dX4_years_8) (fun H locs hP hD hS => ?_)
    have hR := Option.some.inj hf
    subst hR
    exact hret _ _ _ _ _ rfl (fun _ hn => by cases hn; rfl) hP hD hS dX4_years_11
