abbrev wd_X5_areMutual (cI : ClassId) (ad : Nat → Nat) (writers : Int32) (year : Int32) (taped : Int32) (at_ : Int32) (statements : Int32) (hasImage : Int32) (isKeeping : Int32) (cursor : Int32) (forgottenWhen : Int32) (rowMany : Int32) (silent : (Nat → Int32)) (ring : (Nat → Int32)) : va_W := [((ad 0), .inr (5, [.ref (ad 1), .ref (ad 2), .ref (ad 3), .ref (ad 4), .ref (ad 5), .ref (ad 6), .ref (ad 7), .int writers, .int year, .ref (ad 8), .ref (ad 9), .ref (ad 10), .ref (ad 11), .int taped, .int at_, .int statements, .ref (ad 12), .int hasImage, .int isKeeping, .int cursor, .int forgottenWhen, .ref (ad 13), .ref (ad 14), .ref (ad 15), .int rowMany])), ((ad 6), .inl (cI, 7, .inl silent)), ((ad 7), .inl (cI, 7, .inl ring))]
def f_X5_areMutual (writers : Int32) (silent : (Nat → Int32)) (ring : (Nat → Int32)) (x1 : Int32) (x2 : Int32) : Option (Int32) := (gd x1 7 (if (silent (Int32.toNatClampNeg x1)) = 0 then (gd x2 7 (if (silent (Int32.toNatClampNeg x2)) = 0 then ((f_X5_enderOf writers silent ring x1).bind fun (r20 : Int32) => (if r20 = x2 then ((f_X5_enderOf writers silent ring x2).bind fun (r29 : Int32) => (if r29 = x1 then (some (1 : Int32)) else (some (0 : Int32)))) else (some (0 : Int32)))) else (some (0 : Int32)))) else (some (0 : Int32))))
set_option maxHeartbeats 4000000 in
set_option maxRecDepth 100000 in
theorem c_X5_areMutual (l : Launch) (D : va_G) (cI : ClassId) (aS : aSt) (ad : Nat → Nat) (writers : Int32) (year : Int32) (taped : Int32) (at_ : Int32) (statements : Int32) (hasImage : Int32) (isKeeping : Int32) (cursor : Int32) (forgottenWhen : Int32) (rowMany : Int32) (silent : (Nat → Int32)) (ring : (Nat → Int32)) (x1 : Int32) (x2 : Int32) (R : Int32) (hf : f_X5_areMutual writers silent ring x1 x2 = some R) : CtI l yX5_areMutual cX5_areMutual 3 (some .boolean) 2 D cI aS [.ref (ad 0), .int x1, .int x2] (wd_X5_areMutual cI ad writers year taped at_ statements hasImage isKeeping cursor forgottenWhen rowMany silent ring) (wd_X5_areMutual cI ad writers year taped at_ statements hasImage isKeeping cursor forgottenWhen rowMany silent ring) R := by
  refine ctI_of (by decide) ⟨_, rfl⟩ (Nat.le_of_ble_eq_true rfl) ?_
  intro p e s m below meth c A Q ls X hret hP hD hl
  have hS : va_S A s.heap s.heap [] := va_S.rf
  have hx := X.1
  have hb := X.2.1
  have hl : lv_has ls 3 [(0, .ref (ad 0)), (1, .int x1), (2, .int x2)] := hl
  replace hf : (gd x1 7 (if (silent (Int32.toNatClampNeg x1)) = 0 then (gd x2 7 (if (silent (Int32.toNatClampNeg x2)) = 0 then ((f_X5_enderOf writers silent ring x1).bind fun (r20 : Int32) => (if r20 = x2 then ((f_X5_enderOf writers silent ring x2).bind fun (r29 : Int32) => (if r29 = x1 then (some (1 : Int32)) else (some (0 : Int32)))) else (some (0 : Int32)))) else (some (0 : Int32)))) else (some (0 : Int32)))) = some R := hf
  refine lv_aload_n hx hb dX5_areMutual_0 rfl (lv_at hl 0 rfl) ?_
  refine fgX5_25 X hP (q0 := 0) rfl rfl dX5_areMutual_1 ?_
  refine lv_iload_n hx hb dX5_areMutual_4 rfl (lv_at hl 1 rfl) ?_
  refine aGet X hP (q0 := 1) rfl (gdS hf).1 dX5_areMutual_5 ?_
  have hf := (gdS hf).2
  refine lv_if_ne (tgt := 40) hx hb dX5_areMutual_6 (by decide) (fun c6 => ?_) (fun c6 => ?_)
  · have hf := iF c6 hf
    refine lv_iconst (v := 0) hx hb dX5_areMutual_40 (by decide) ?_
    have hR := Option.some.inj hf
    subst hR
    exact hret _ _ _ _ _ rfl (fun _ hn => by cases hn; rfl) hP hD hS dX5_areMutual_41
  · have hf := iT c6 hf
    refine lv_aload_n hx hb dX5_areMutual_9 rfl (lv_at hl 0 rfl) ?_
    refine fgX5_25 X hP (q0 := 0) rfl rfl dX5_areMutual_10 ?_
    refine lv_iload_n hx hb dX5_areMutual_13 rfl (lv_at hl 2 rfl) ?_
    refine aGet X hP (q0 := 1) rfl (gdS hf).1 dX5_areMutual_14 ?_
    have hf := (gdS hf).2
    refine lv_if_ne (tgt := 40) hx hb dX5_areMutual_15 (by decide) (fun c15 => ?_) (fun c15 => ?_)
    · have hf := iF c15 hf
      refine lv_iconst (v := 0) hx hb dX5_areMutual_40 (by decide) ?_
      have hR := Option.some.inj hf
      subst hR
      exact hret _ _ _ _ _ rfl (fun _ hn => by cases hn; rfl) hP hD hS dX5_areMutual_41
    · have hf := iT c15 hf
      refine lv_aload_n hx hb dX5_areMutual_18 rfl (lv_at hl 0 rfl) ?_
      refine lv_iload_n hx hb dX5_areMutual_19 rfl (lv_at hl 1 rfl) ?_
      obtain ⟨r20, hq20, hf⟩ := bS hf
      refine ro_i X hP hD hS [0, 1, 2] rfl (run_V X hP hD hS [0, 1, 2] rfl rfl (c_X5_enderOf l D cI aS ad writers year taped at_ statements hasImage isKeeping cursor forgottenWhen rowMany silent ring x1 _ hq20 _) lkX5_162 (by decide) (q0 := 0) rfl rfl rfl rfl (Nat.le_of_ble_eq_true rfl) hl.1 dX5_areMutual_20) (fun H locs hP hS => ?_)
      refine lv_iload_n hx hb dX5_areMutual_23 rfl (lv_at hl 2 rfl) ?_
      refine lv_icmp_ne (tgt := 40) hx hb dX5_areMutual_24 (by decide) (fun c24 => ?_) (fun c24 => ?_)
      · have hf := iF c24 hf
        refine lv_iconst (v := 0) hx hb dX5_areMutual_40 (by decide) ?_
        have hR := Option.some.inj hf
        subst hR
        exact hret _ _ _ _ _ rfl (fun _ hn => by cases hn; rfl) hP hD hS dX5_areMutual_41
      · have hf := iT c24 hf
        refine lv_aload_n hx hb dX5_areMutual_27 rfl (lv_at hl 0 rfl) ?_
        refine lv_iload_n hx hb dX5_areMutual_28 rfl (lv_at hl 2 rfl) ?_
        obtain ⟨r29, hq29, hf⟩ := bS hf
        refine ro_i X hP hD hS [0, 1, 2] rfl (run_V X hP hD hS [0, 1, 2] rfl rfl (c_X5_enderOf l D cI aS ad writers year taped at_ statements hasImage isKeeping cursor forgottenWhen rowMany silent ring x2 _ hq29 _) lkX5_162 (by decide) (q0 := 0) rfl rfl rfl rfl (Nat.le_of_ble_eq_true rfl) hl.1 dX5_areMutual_29) (fun H locs hP hS => ?_)
        refine lv_iload_n hx hb dX5_areMutual_32 rfl (lv_at hl 1 rfl) ?_
        refine lv_icmp_ne (tgt := 40) hx hb dX5_areMutual_33 (by decide) (fun c33 => ?_) (fun c33 => ?_)
        · have hf := iF c33 hf
          refine lv_iconst (v := 0) hx hb dX5_areMutual_40 (by decide) ?_
          have hR := Option.some.inj hf
          subst hR
          exact hret _ _ _ _ _ rfl (fun _ hn => by cases hn; rfl) hP hD hS dX5_areMutual_41
        · have hf := iT c33 hf
          refine lv_iconst (v := 1) hx hb dX5_areMutual_36 (by decide) ?_
          refine lv_goto (tgt := 41) hx hb dX5_areMutual_37 (by decide) ?_
          have hR := Option.some.inj hf
          subst hR
          exact hret _ _ _ _ _ rfl (fun _ hn => by cases hn; rfl) hP hD hS dX5_areMutual_41

abbrev wd_X5_isFamedSo (cI : ClassId) (ad : Nat → Nat) (writers : Int32) (year : Int32) (taped : Int32) (at_ : Int32) (statements : Int32) (hasImage : Int32) (isKeeping : Int32) (cursor : Int32) (forgottenWhen : Int32) (rowMany : Int32) (kind : (Nat → Int32)) (figure : (Nat → Int32)) (style : (Nat → Int32)) (fame : (Nat → Int32)) (silent : (Nat → Int32)) (ring : (Nat → Int32)) (kept : (Nat → Int32)) (row : (Nat → Int32)) : va_W := [((ad 0), .inr (5, [.ref (ad 1), .ref (ad 2), .ref (ad 3), .ref (ad 4), .ref (ad 5), .ref (ad 6), .ref (ad 7), .int writers, .int year, .ref (ad 8), .ref (ad 9), .ref (ad 10), .ref (ad 11), .int taped, .int at_, .int statements, .ref (ad 12), .int hasImage, .int isKeeping, .int cursor, .int forgottenWhen, .ref (ad 13), .ref (ad 14), .ref (ad 15), .int rowMany])), ((ad 2), .inl (cI, 7, .inl kind)), ((ad 3), .inl (cI, 7, .inl figure)), ((ad 4), .inl (cI, 7, .inl style)), ((ad 5), .inl (cI, 7, .inl fame)), ((ad 6), .inl (cI, 7, .inl silent)), ((ad 7), .inl (cI, 7, .inl ring)), ((ad 12), .inl (cI, 132, .inl kept)), ((ad 15), .inl (cI, 16, .inl row))]
def f_X5_isFamedSo_40 (writers_u8 : Int32) (kind_u8 : (Nat → Int32)) (figure_u8 : (Nat → Int32)) (style_u8 : (Nat → Int32)) (silent_u8 : (Nat → Int32)) (ring_u8 : (Nat → Int32)) (kL8 : Int32 → Int32 → Int32 → (Nat → Int32) → Option (Int32 × Int32 × Int32 × Int32 × Int32 × (Nat → Int32) × (Nat → Int32) × (Nat → Int32) × (Nat → Int32) × (Nat → Int32) × (Nat → Int32) × (Nat → Int32))) (v3_40 : Int32) (year_40 : Int32) (fame_40 : (Nat → Int32)) (t0_40 : Int32) : Option (Int32 × Int32 × Int32 × Int32 × Int32 × (Nat → Int32) × (Nat → Int32) × (Nat → Int32) × (Nat → Int32) × (Nat → Int32) × (Nat → Int32) × (Nat → Int32)) := ((f_X5_goesYear writers_u8 year_40 kind_u8 figure_u8 style_u8 fame_40 silent_u8 ring_u8 (0 : Int32)).bind fun (r43 : Int32 × (Nat → Int32)) => (kL8 t0_40 (v3_40 + (1 : Int32)) r43.1 r43.2))
def f_X5_isFamedSo_8 (rowMany : Int32) (row : (Nat → Int32)) (x1 : Int32) (writers_u8 : Int32) (kind_u8 : (Nat → Int32)) (figure_u8 : (Nat → Int32)) (style_u8 : (Nat → Int32)) (silent_u8 : (Nat → Int32)) (ring_u8 : (Nat → Int32)) (kX8_52 : Int32 → Int32 → (Nat → Int32) → Option (Int32 × Int32 × Int32 × Int32 × Int32 × (Nat → Int32) × (Nat → Int32) × (Nat → Int32) × (Nat → Int32) × (Nat → Int32) × (Nat → Int32) × (Nat → Int32))) : Nat → Int32 → Int32 → Int32 → (Nat → Int32) → Option (Int32 × Int32 × Int32 × Int32 × Int32 × (Nat → Int32) × (Nat → Int32) × (Nat → Int32) × (Nat → Int32) × (Nat → Int32) × (Nat → Int32) × (Nat → Int32))
  | 0 => fun _ _ _ _ => none
  | fuel + 1 => fun v2_8 v3_8 year_8 fame_8 => (if rowMany ≤ v3_8 then (kX8_52 v2_8 year_8 fame_8) else (if v2_8 = 0 then (kX8_52 v2_8 year_8 fame_8) else (gd x1 7 (gd v3_8 16 (if (fame_8 (Int32.toNatClampNeg x1)) = (row (Int32.toNatClampNeg v3_8)) then (f_X5_isFamedSo_40 writers_u8 kind_u8 figure_u8 style_u8 silent_u8 ring_u8 (f_X5_isFamedSo_8 rowMany row x1 writers_u8 kind_u8 figure_u8 style_u8 silent_u8 ring_u8 kX8_52 fuel) v3_8 year_8 fame_8 (1 : Int32)) else (f_X5_isFamedSo_40 writers_u8 kind_u8 figure_u8 style_u8 silent_u8 ring_u8 (f_X5_isFamedSo_8 rowMany row x1 writers_u8 kind_u8 figure_u8 style_u8 silent_u8 ring_u8 kX8_52 fuel) v3_8 year_8 fame_8 (0 : Int32)))))))
theorem e_X5_isFamedSo_8 (rowMany : Int32) (row : (Nat → Int32)) (x1 : Int32) (writers_u8 : Int32) (kind_u8 : (Nat → Int32)) (figure_u8 : (Nat → Int32)) (style_u8 : (Nat → Int32)) (silent_u8 : (Nat → Int32)) (ring_u8 : (Nat → Int32)) (kX8_52 : Int32 → Int32 → (Nat → Int32) → Option (Int32 × Int32 × Int32 × Int32 × Int32 × (Nat → Int32) × (Nat → Int32) × (Nat → Int32) × (Nat → Int32) × (Nat → Int32) × (Nat → Int32) × (Nat → Int32))) (fuel : Nat) (v2_8 : Int32) (v3_8 : Int32) (year_8 : Int32) (fame_8 : (Nat → Int32)) : f_X5_isFamedSo_8 rowMany row x1 writers_u8 kind_u8 figure_u8 style_u8 silent_u8 ring_u8 kX8_52 (fuel + 1) v2_8 v3_8 year_8 fame_8 = (if rowMany ≤ v3_8 then (kX8_52 v2_8 year_8 fame_8) else (if v2_8 = 0 then (kX8_52 v2_8 year_8 fame_8) else (gd x1 7 (gd v3_8 16 (if (fame_8 (Int32.toNatClampNeg x1)) = (row (Int32.toNatClampNeg v3_8)) then (f_X5_isFamedSo_40 writers_u8 kind_u8 figure_u8 style_u8 silent_u8 ring_u8 (f_X5_isFamedSo_8 rowMany row x1 writers_u8 kind_u8 figure_u8 style_u8 silent_u8 ring_u8 kX8_52 fuel) v3_8 year_8 fame_8 (1 : Int32)) else (f_X5_isFamedSo_40 writers_u8 kind_u8 figure_u8 style_u8 silent_u8 ring_u8 (f_X5_isFamedSo_8 rowMany row x1 writers_u8 kind_u8 figure_u8 style_u8 silent_u8 ring_u8 kX8_52 fuel) v3_8 year_8 fame_8 (0 : Int32))))))) := rfl
def f_X5_isFamedSo_52   (v2_52 : Int32) (writers_52 : Int32) (year_52 : Int32) (isKeeping_52 : Int32) (cursor_52 : Int32) (kind_52 : (Nat → Int32)) (figure_52 : (Nat → Int32)) (style_52 : (Nat → Int32)) (fame_52 : (Nat → Int32)) (silent_52 : (Nat → Int32)) (ring_52 : (Nat → Int32)) (kept_52 : (Nat → Int32)) : Option (Int32 × Int32 × Int32 × Int32 × Int32 × (Nat → Int32) × (Nat → Int32) × (Nat → Int32) × (Nat → Int32) × (Nat → Int32) × (Nat → Int32) × (Nat → Int32)) := ((f_X5_forgets writers_52 year_52 isKeeping_52 cursor_52 kind_52 figure_52 style_52 fame_52 silent_52 ring_52 kept_52).bind fun (r53 : Int32 × Int32 × Int32 × Int32 × (Nat → Int32) × (Nat → Int32) × (Nat → Int32) × (Nat → Int32) × (Nat → Int32) × (Nat → Int32) × (Nat → Int32)) => (gb v2_52 (some (v2_52, r53.1, r53.2.1, r53.2.2.1, r53.2.2.2.1, r53.2.2.2.2.1, r53.2.2.2.2.2.1, r53.2.2.2.2.2.2.1, r53.2.2.2.2.2.2.2.1, r53.2.2.2.2.2.2.2.2.1, r53.2.2.2.2.2.2.2.2.2.1, r53.2.2.2.2.2.2.2.2.2.2))))
def f_X5_isFamedSo (writers : Int32) (year : Int32) (isKeeping : Int32) (cursor : Int32) (rowMany : Int32) (kind : (Nat → Int32)) (figure : (Nat → Int32)) (style : (Nat → Int32)) (fame : (Nat → Int32)) (silent : (Nat → Int32)) (ring : (Nat → Int32)) (kept : (Nat → Int32)) (row : (Nat → Int32)) (x1 : Int32) : Option (Int32 × Int32 × Int32 × Int32 × Int32 × (Nat → Int32) × (Nat → Int32) × (Nat → Int32) × (Nat → Int32) × (Nat → Int32) × (Nat → Int32) × (Nat → Int32)) := ((f_X5_thinks writers year isKeeping cursor kind figure style fame silent ring kept).bind fun (r1 : Int32 × Int32 × Int32 × Int32 × (Nat → Int32) × (Nat → Int32) × (Nat → Int32) × (Nat → Int32) × (Nat → Int32) × (Nat → Int32) × (Nat → Int32)) => (f_X5_isFamedSo_8 rowMany row x1 r1.1 r1.2.2.2.2.1 r1.2.2.2.2.2.1 r1.2.2.2.2.2.2.1 r1.2.2.2.2.2.2.2.2.1 r1.2.2.2.2.2.2.2.2.2.1 (fun (v2_52 : Int32) (year_52 : Int32) (fame_52 : (Nat → Int32)) => (f_X5_isFamedSo_52   v2_52 r1.1 year_52 r1.2.2.1 r1.2.2.2.1 r1.2.2.2.2.1 r1.2.2.2.2.2.1 r1.2.2.2.2.2.2.1 fame_52 r1.2.2.2.2.2.2.2.2.1 r1.2.2.2.2.2.2.2.2.2.1 r1.2.2.2.2.2.2.2.2.2.2)) FU (1 : Int32) (0 : Int32) r1.2.1 r1.2.2.2.2.2.2.2.1))
set_option maxHeartbeats 4000000 in
set_option maxRecDepth 100000 in
theorem w_X5_isFamedSo_40 {p : Program} {l : Launch} {e : Env} {s : State} {m : MethodId} {args : Array Value} {below : List Frame} {meth : Method} {c : Code} {D : va_G} {cI : ClassId} {aS : aSt} {A : Nat → Prop} {Q : State → Prop}  (ad : Nat → Nat) (taped : Int32) (at_ : Int32) (statements : Int32) (hasImage : Int32) (forgottenWhen : Int32) (rowMany : Int32) (row : (Nat → Int32)) (x1 : Int32) (writers_u8 : Int32) (isKeeping_u8 : Int32) (cursor_u8 : Int32) (kind_u8 : (Nat → Int32)) (figure_u8 : (Nat → Int32)) (style_u8 : (Nat → Int32)) (silent_u8 : (Nat → Int32)) (ring_u8 : (Nat → Int32)) (kept_u8 : (Nat → Int32)) {R : Int32 × Int32 × Int32 × Int32 × Int32 × (Nat → Int32) × (Nat → Int32) × (Nat → Int32) × (Nat → Int32) × (Nat → Int32) × (Nat → Int32) × (Nat → Int32)} (X : Bx p s m args meth c cX5_isFamedSo 4 (some .boolean) RX5 D cI aS A) (hret : RtI p l e 5 s m args below meth c cX5_isFamedSo (some .boolean) D A (wd_X5_isFamedSo cI ad R.2.1 R.2.2.1 taped at_ statements hasImage R.2.2.2.1 R.2.2.2.2.1 forgottenWhen rowMany R.2.2.2.2.2.1 R.2.2.2.2.2.2.1 R.2.2.2.2.2.2.2.1 R.2.2.2.2.2.2.2.2.1 R.2.2.2.2.2.2.2.2.2.1 R.2.2.2.2.2.2.2.2.2.2.1 R.2.2.2.2.2.2.2.2.2.2.2 row) R.1 Q) (kL8 : Int32 → Int32 → Int32 → (Nat → Int32) → Option (Int32 × Int32 × Int32 × Int32 × Int32 × (Nat → Int32) × (Nat → Int32) × (Nat → Int32) × (Nat → Int32) × (Nat → Int32) × (Nat → Int32) × (Nat → Int32))) (hkL8 : ∀ (v2_8 : Int32) (v3_8 : Int32) (year_8 : Int32) (fame_8 : (Nat → Int32)) (H : Heap) (locs : List Loc) (ls : Array Slot), kL8 v2_8 v3_8 year_8 fame_8 = some R → lv_has ls 4 [(0, .ref (ad 0)), (1, .int x1), (2, .int v2_8), (3, .int v3_8)] → va_P D vwCl (wd_X5_isFamedSo cI ad writers_u8 year_8 taped at_ statements hasImage isKeeping_u8 cursor_u8 forgottenWhen rowMany kind_u8 figure_u8 style_u8 fame_8 silent_u8 ring_u8 kept_u8 row) H → va_D A (wd_X5_isFamedSo cI ad writers_u8 year_8 taped at_ statements hasImage isKeeping_u8 cursor_u8 forgottenWhen rowMany kind_u8 figure_u8 style_u8 fame_8 silent_u8 ring_u8 kept_u8 row) → va_S A s.heap H locs → Wh p l e 5 s m args below meth c H locs Q (F0 m 8 ls [])) : ∀ (v3_40 : Int32) (year_40 : Int32) (fame_40 : (Nat → Int32)) (t0_40 : Int32) (H : Heap) (locs : List Loc) (ls : Array Slot), f_X5_isFamedSo_40 writers_u8 kind_u8 figure_u8 style_u8 silent_u8 ring_u8 kL8 v3_40 year_40 fame_40 t0_40 = some R → lv_has ls 4 [(0, .ref (ad 0)), (1, .int x1), (3, .int v3_40)] → va_P D vwCl (wd_X5_isFamedSo cI ad writers_u8 year_40 taped at_ statements hasImage isKeeping_u8 cursor_u8 forgottenWhen rowMany kind_u8 figure_u8 style_u8 fame_40 silent_u8 ring_u8 kept_u8 row) H → va_D A (wd_X5_isFamedSo cI ad writers_u8 year_40 taped at_ statements hasImage isKeeping_u8 cursor_u8 forgottenWhen rowMany kind_u8 figure_u8 style_u8 fame_40 silent_u8 ring_u8 kept_u8 row) → va_S A s.heap H locs → Wh p l e 5 s m args below meth c H locs Q (F0 m 40 ls [.int t0_40]) := by
  have hx := X.1
  have hb := X.2.1
  intro v3_40 year_40 fame_40 t0_40 H locs ls hf hl hP hD hS
  replace hf : ((f_X5_goesYear writers_u8 year_40 kind_u8 figure_u8 style_u8 fame_40 silent_u8 ring_u8 (0 : Int32)).bind fun (r43 : Int32 × (Nat → Int32)) => (kL8 t0_40 (v3_40 + (1 : Int32)) r43.1 r43.2)) = some R := hf
  refine lv_istore_n (lv' := [(2, .int t0_40), (0, .ref (ad 0)), (1, .int x1), (3, .int v3_40)]) hx hb dX5_isFamedSo_40 rfl hl (by decide) rfl (fun ls hl => ?_)
  refine lv_aload_n hx hb dX5_isFamedSo_41 rfl (lv_at hl 1 rfl) ?_
  refine lv_iconst (v := 0) hx hb dX5_isFamedSo_42 (by decide) ?_
  obtain ⟨r43, hq43, hf⟩ := bS hf
  refine wr_v X hP hD hS [0, 1, 2, 3, 4, 5, 6] rfl (ws' := (wd_X5_isFamedSo cI ad writers_u8 r43.1 taped at_ statements hasImage isKeeping_u8 cursor_u8 forgottenWhen rowMany kind_u8 figure_u8 style_u8 r43.2 silent_u8 ring_u8 kept_u8 row)) (Nat.le_of_ble_eq_true rfl) rfl rfl (run_V X hP hD hS [0, 1, 2, 3, 4, 5, 6] rfl rfl (c_X5_goesYear l D cI aS ad writers_u8 year_40 taped at_ statements hasImage isKeeping_u8 cursor_u8 forgottenWhen rowMany kind_u8 figure_u8 style_u8 fame_40 silent_u8 ring_u8 (0 : Int32) _ hq43 _) lkX5_189 (by decide) (q0 := 0) rfl rfl rfl rfl (Nat.le_of_ble_eq_true rfl) hl.1 dX5_isFamedSo_43) (fun H locs hP hD hS => ?_)
  refine lv_iinc (v := (v3_40 + (1 : Int32))) (lv' := [(3, .int (v3_40 + (1 : Int32))), (2, .int t0_40), (0, .ref (ad 0)), (1, .int x1)]) hx hb dX5_isFamedSo_46 hl (k := 3) rfl rfl (by decide) rfl (fun ls hl => ?_)
  refine lv_goto (tgt := 8) hx hb dX5_isFamedSo_49 (by decide) ?_
  exact hkL8 t0_40 (v3_40 + (1 : Int32)) r43.1 r43.2 _ _ _ hf (lv_sub hl [2, 3, 1, 0] rfl) hP hD hS
set_option maxHeartbeats 4000000 in
set_option maxRecDepth 100000 in
theorem w_X5_isFamedSo_8 {p : Program} {l : Launch} {e : Env} {s : State} {m : MethodId} {args : Array Value} {below : List Frame} {meth : Method} {c : Code} {D : va_G} {cI : ClassId} {aS : aSt} {A : Nat → Prop} {Q : State → Prop}  (ad : Nat → Nat) (taped : Int32) (at_ : Int32) (statements : Int32) (hasImage : Int32) (forgottenWhen : Int32) (rowMany : Int32) (row : (Nat → Int32)) (x1 : Int32) (writers_u8 : Int32) (isKeeping_u8 : Int32) (cursor_u8 : Int32) (kind_u8 : (Nat → Int32)) (figure_u8 : (Nat → Int32)) (style_u8 : (Nat → Int32)) (silent_u8 : (Nat → Int32)) (ring_u8 : (Nat → Int32)) (kept_u8 : (Nat → Int32)) {R : Int32 × Int32 × Int32 × Int32 × Int32 × (Nat → Int32) × (Nat → Int32) × (Nat → Int32) × (Nat → Int32) × (Nat → Int32) × (Nat → Int32) × (Nat → Int32)} (X : Bx p s m args meth c cX5_isFamedSo 4 (some .boolean) RX5 D cI aS A) (hret : RtI p l e 5 s m args below meth c cX5_isFamedSo (some .boolean) D A (wd_X5_isFamedSo cI ad R.2.1 R.2.2.1 taped at_ statements hasImage R.2.2.2.1 R.2.2.2.2.1 forgottenWhen rowMany R.2.2.2.2.2.1 R.2.2.2.2.2.2.1 R.2.2.2.2.2.2.2.1 R.2.2.2.2.2.2.2.2.1 R.2.2.2.2.2.2.2.2.2.1 R.2.2.2.2.2.2.2.2.2.2.1 R.2.2.2.2.2.2.2.2.2.2.2 row) R.1 Q) (kX8_52 : Int32 → Int32 → (Nat → Int32) → Option (Int32 × Int32 × Int32 × Int32 × Int32 × (Nat → Int32) × (Nat → Int32) × (Nat → Int32) × (Nat → Int32) × (Nat → Int32) × (Nat → Int32) × (Nat → Int32))) (hkX8_52 : ∀ (v2_52 : Int32) (year_52 : Int32) (fame_52 : (Nat → Int32)) (H : Heap) (locs : List Loc) (ls : Array Slot), kX8_52 v2_52 year_52 fame_52 = some R → lv_has ls 4 [(0, .ref (ad 0)), (2, .int v2_52)] → va_P D vwCl (wd_X5_isFamedSo cI ad writers_u8 year_52 taped at_ statements hasImage isKeeping_u8 cursor_u8 forgottenWhen rowMany kind_u8 figure_u8 style_u8 fame_52 silent_u8 ring_u8 kept_u8 row) H → va_D A (wd_X5_isFamedSo cI ad writers_u8 year_52 taped at_ statements hasImage isKeeping_u8 cursor_u8 forgottenWhen rowMany kind_u8 figure_u8 style_u8 fame_52 silent_u8 ring_u8 kept_u8 row) → va_S A s.heap H locs → Wh p l e 5 s m args below meth c H locs Q (F0 m 52 ls [])) : ∀ (fuel : Nat) (v2_8 : Int32) (v3_8 : Int32) (year_8 : Int32) (fame_8 : (Nat → Int32)) (H : Heap) (locs : List Loc) (ls : Array Slot), f_X5_isFamedSo_8 rowMany row x1 writers_u8 kind_u8 figure_u8 style_u8 silent_u8 ring_u8 kX8_52 fuel v2_8 v3_8 year_8 fame_8 = some R → lv_has ls 4 [(0, .ref (ad 0)), (1, .int x1), (2, .int v2_8), (3, .int v3_8)] → va_P D vwCl (wd_X5_isFamedSo cI ad writers_u8 year_8 taped at_ statements hasImage isKeeping_u8 cursor_u8 forgottenWhen rowMany kind_u8 figure_u8 style_u8 fame_8 silent_u8 ring_u8 kept_u8 row) H → va_D A (wd_X5_isFamedSo cI ad writers_u8 year_8 taped at_ statements hasImage isKeeping_u8 cursor_u8 forgottenWhen rowMany kind_u8 figure_u8 style_u8 fame_8 silent_u8 ring_u8 kept_u8 row) → va_S A s.heap H locs → Wh p l e 5 s m args below meth c H locs Q (F0 m 8 ls []) := by
  have hx := X.1
  have hb := X.2.1
  intro fuel
  induction fuel with
  | zero =>
    intro v2_8 v3_8 year_8 fame_8 H locs ls hf hl hP hD hS
    cases hf
  | succ fuel ih =>
    intro v2_8 v3_8 year_8 fame_8 H locs ls hf hl hP hD hS
    replace hf : (if rowMany ≤ v3_8 then (kX8_52 v2_8 year_8 fame_8) else (if v2_8 = 0 then (kX8_52 v2_8 year_8 fame_8) else (gd x1 7 (gd v3_8 16 (if (fame_8 (Int32.toNatClampNeg x1)) = (row (Int32.toNatClampNeg v3_8)) then (f_X5_isFamedSo_40 writers_u8 kind_u8 figure_u8 style_u8 silent_u8 ring_u8 (f_X5_isFamedSo_8 rowMany row x1 writers_u8 kind_u8 figure_u8 style_u8 silent_u8 ring_u8 kX8_52 fuel) v3_8 year_8 fame_8 (1 : Int32)) else (f_X5_isFamedSo_40 writers_u8 kind_u8 figure_u8 style_u8 silent_u8 ring_u8 (f_X5_isFamedSo_8 rowMany row x1 writers_u8 kind_u8 figure_u8 style_u8 silent_u8 ring_u8 kX8_52 fuel) v3_8 year_8 fame_8 (0 : Int32))))))) = some R := hf
    refine lv_iload_n hx hb dX5_isFamedSo_8 rfl (lv_at hl 3 rfl) ?_
    refine lv_aload_n hx hb dX5_isFamedSo_9 rfl (lv_at hl 0 rfl) ?_
    refine fgX5_257 X hP (q0 := 0) rfl rfl dX5_isFamedSo_10 ?_
    refine lv_icmp_ge (tgt := 52) hx hb dX5_isFamedSo_13 (by decide) (fun c13 => ?_) (fun c13 => ?_)
    · have hf := iT c13 hf
      exact hkX8_52 v2_8 year_8 fame_8 _ _ _ hf (lv_sub hl [0, 2] rfl) hP hD hS
    · have hf := iF c13 hf
      refine lv_iload_n hx hb dX5_isFamedSo_16 rfl (lv_at hl 2 rfl) ?_
      refine lv_if_eq (tgt := 52) hx hb dX5_isFamedSo_17 (by decide) (fun c17 => ?_) (fun c17 => ?_)
      · have hf := iT c17 hf
        exact hkX8_52 v2_8 year_8 fame_8 _ _ _ hf (lv_sub hl [0, 2] rfl) hP hD hS
      · have hf := iF c17 hf
        refine lv_aload_n hx hb dX5_isFamedSo_20 rfl (lv_at hl 0 rfl) ?_
        refine fgX5_22 X hP (q0 := 0) rfl rfl dX5_isFamedSo_21 ?_
        refine lv_iload_n hx hb dX5_isFamedSo_24 rfl (lv_at hl 1 rfl) ?_
        refine aGet X hP (q0 := 4) rfl (gdS hf).1 dX5_isFamedSo_25 ?_
        have hf := (gdS hf).2
        refine lv_aload_n hx hb dX5_isFamedSo_26 rfl (lv_at hl 0 rfl) ?_
        refine fgX5_52 X hP (q0 := 0) rfl rfl dX5_isFamedSo_27 ?_
        refine lv_iload_n hx hb dX5_isFamedSo_30 rfl (lv_at hl 3 rfl) ?_
        refine aGet X hP (q0 := 8) rfl (gdS hf).1 dX5_isFamedSo_31 ?_
        have hf := (gdS hf).2
        refine lv_icmp_ne (tgt := 39) hx hb dX5_isFamedSo_32 (by decide) (fun c32 => ?_) (fun c32 => ?_)
        · have hf := iF c32 hf
          refine lv_iconst (v := 0) hx hb dX5_isFamedSo_39 (by decide) ?_
          exact w_X5_isFamedSo_40 ad taped at_ statements hasImage forgottenWhen rowMany row x1 writers_u8 isKeeping_u8 cursor_u8 kind_u8 figure_u8 style_u8 silent_u8 ring_u8 kept_u8 X hret _ ih v3_8 year_8 fame_8 (0 : Int32) _ _ _ hf (lv_sub hl [0, 1, 3] rfl) hP hD hS
        · have hf := iT c32 hf
          refine lv_iconst (v := 1) hx hb dX5_isFamedSo_35 (by decide) ?_
          refine lv_goto (tgt := 40) hx hb dX5_isFamedSo_36 (by decide) ?_
          exact w_X5_isFamedSo_40 ad taped at_ statements hasImage forgottenWhen rowMany row x1 writers_u8 isKeeping_u8 cursor_u8 kind_u8 figure_u8 style_u8 silent_u8 ring_u8 kept_u8 X hret _ ih v3_8 year_8 fame_8 (1 : Int32) _ _ _ hf (lv_sub hl [0, 1, 3] rfl) hP hD hS
set_option maxHeartbeats 4000000 in
set_option maxRecDepth 100000 in
theorem w_X5_isFamedSo_52 {p : Program} {l : Launch} {e : Env} {s : State} {m : MethodId} {args : Array Value} {below : List Frame} {meth : Method} {c : Code} {D : va_G} {cI : ClassId} {aS : aSt} {A : Nat → Prop} {Q : State → Prop}  (ad : Nat → Nat) (taped : Int32) (at_ : Int32) (statements : Int32) (hasImage : Int32) (forgottenWhen : Int32) (rowMany : Int32) (row : (Nat → Int32)) (x1 : Int32) {R : Int32 × Int32 × Int32 × Int32 × Int32 × (Nat → Int32) × (Nat → Int32) × (Nat → Int32) × (Nat → Int32) × (Nat → Int32) × (Nat → Int32) × (Nat → Int32)} (X : Bx p s m args meth c cX5_isFamedSo 4 (some .boolean) RX5 D cI aS A) (hret : RtI p l e 5 s m args below meth c cX5_isFamedSo (some .boolean) D A (wd_X5_isFamedSo cI ad R.2.1 R.2.2.1 taped at_ statements hasImage R.2.2.2.1 R.2.2.2.2.1 forgottenWhen rowMany R.2.2.2.2.2.1 R.2.2.2.2.2.2.1 R.2.2.2.2.2.2.2.1 R.2.2.2.2.2.2.2.2.1 R.2.2.2.2.2.2.2.2.2.1 R.2.2.2.2.2.2.2.2.2.2.1 R.2.2.2.2.2.2.2.2.2.2.2 row) R.1 Q) : ∀ (v2_52 : Int32) (writers_52 : Int32) (year_52 : Int32) (isKeeping_52 : Int32) (cursor_52 : Int32) (kind_52 : (Nat → Int32)) (figure_52 : (Nat → Int32)) (style_52 : (Nat → Int32)) (fame_52 : (Nat → Int32)) (silent_52 : (Nat → Int32)) (ring_52 : (Nat → Int32)) (kept_52 : (Nat → Int32)) (H : Heap) (locs : List Loc) (ls : Array Slot), f_X5_isFamedSo_52   v2_52 writers_52 year_52 isKeeping_52 cursor_52 kind_52 figure_52 style_52 fame_52 silent_52 ring_52 kept_52 = some R → lv_has ls 4 [(0, .ref (ad 0)), (2, .int v2_52)] → va_P D vwCl (wd_X5_isFamedSo cI ad writers_52 year_52 taped at_ statements hasImage isKeeping_52 cursor_52 forgottenWhen rowMany kind_52 figure_52 style_52 fame_52 silent_52 ring_52 kept_52 row) H → va_D A (wd_X5_isFamedSo cI ad writers_52 year_52 taped at_ statements hasImage isKeeping_52 cursor_52 forgottenWhen rowMany kind_52 figure_52 style_52 fame_52 silent_52 ring_52 kept_52 row) → va_S A s.heap H locs → Wh p l e 5 s m args below meth c H locs Q (F0 m 52 ls []) := by
  have hx := X.1
  have hb := X.2.1
  intro v2_52 writers_52 year_52 isKeeping_52 cursor_52 kind_52 figure_52 style_52 fame_52 silent_52 ring_52 kept_52 H locs ls hf hl hP hD hS
  replace hf : ((f_X5_forgets writers_52 year_52 isKeeping_52 cursor_52 kind_52 figure_52 style_52 fame_52 silent_52 ring_52 kept_52).bind fun (r53 : Int32 × Int32 × Int32 × Int32 × (Nat → Int32) × (Nat → Int32) × (Nat → Int32) × (Nat → Int32) × (Nat → Int32) × (Nat → Int32) × (Nat → Int32)) => (gb v2_52 (some (v2_52, r53.1, r53.2.1, r53.2.2.1, r53.2.2.2.1, r53.2.2.2.2.1, r53.2.2.2.2.2.1, r53.2.2.2.2.2.2.1, r53.2.2.2.2.2.2.2.1, r53.2.2.2.2.2.2.2.2.1, r53.2.2.2.2.2.2.2.2.2.1, r53.2.2.2.2.2.2.2.2.2.2)))) = some R := hf
  refine lv_aload_n hx hb dX5_isFamedSo_52 rfl (lv_at hl 0 rfl) ?_
  obtain ⟨r53, hq53, hf⟩ := bS hf
  refine wr_v X hP hD hS [0, 1, 2, 3, 4, 5, 6, 7] rfl (ws' := (wd_X5_isFamedSo cI ad r53.1 r53.2.1 taped at_ statements hasImage r53.2.2.1 r53.2.2.2.1 forgottenWhen rowMany r53.2.2.2.2.1 r53.2.2.2.2.2.1 r53.2.2.2.2.2.2.1 r53.2.2.2.2.2.2.2.1 r53.2.2.2.2.2.2.2.2.1 r53.2.2.2.2.2.2.2.2.2.1 r53.2.2.2.2.2.2.2.2.2.2 row)) (Nat.le_of_ble_eq_true rfl) rfl rfl (run_V X hP hD hS [0, 1, 2, 3, 4, 5, 6, 7] rfl rfl (c_X5_forgets l D cI aS ad writers_52 year_52 taped at_ statements hasImage isKeeping_52 cursor_52 forgottenWhen rowMany kind_52 figure_52 style_52 fame_52 silent_52 ring_52 kept_52 _ hq53 _) lkX5_203 (by decide) (q0 := 0) rfl rfl rfl rfl (Nat.le_of_ble_eq_true rfl) hl.1 dX5_isFamedSo_53) (fun H locs hP hD hS => ?_)
  refine lv_iload_n hx hb dX5_isFamedSo_56 rfl (lv_at hl 1 rfl) ?_
  have hn1 := (gbS hf).1
  have hf := (gbS hf).2
  have hR := Option.some.inj hf
  subst hR
  exact hret _ _ _ _ _ rfl (fun _ hn => by cases hn; exact hn1) hP hD hS dX5_isFamedSo_57
set_option maxHeartbeats 4000000 in
set_option maxRecDepth 100000 in
theorem c_X5_isFamedSo (l : Launch) (D : va_G) (cI : ClassId) (aS : aSt) (ad : Nat → Nat) (writers : Int32) (year : Int32) (taped : Int32) (at_ : Int32) (statements : Int32) (hasImage : Int32) (isKeeping : Int32) (cursor : Int32) (forgottenWhen : Int32) (rowMany : Int32) (kind : (Nat → Int32)) (figure : (Nat → Int32)) (style : (Nat → Int32)) (fame : (Nat → Int32)) (silent : (Nat → Int32)) (ring : (Nat → Int32)) (kept : (Nat → Int32)) (row : (Nat → Int32)) (x1 : Int32) (R : Int32 × Int32 × Int32 × Int32 × Int32 × (Nat → Int32) × (Nat → Int32) × (Nat → Int32) × (Nat → Int32) × (Nat → Int32) × (Nat → Int32) × (Nat → Int32)) (hf : f_X5_isFamedSo writers year isKeeping cursor rowMany kind figure style fame silent ring kept row x1 = some R) : CtI l yX5_isFamedSo cX5_isFamedSo 4 (some .boolean) 5 D cI aS [.ref (ad 0), .int x1] (wd_X5_isFamedSo cI ad writers year taped at_ statements hasImage isKeeping cursor forgottenWhen rowMany kind figure style fame silent ring kept row) (wd_X5_isFamedSo cI ad R.2.1 R.2.2.1 taped at_ statements hasImage R.2.2.2.1 R.2.2.2.2.1 forgottenWhen rowMany R.2.2.2.2.2.1 R.2.2.2.2.2.2.1 R.2.2.2.2.2.2.2.1 R.2.2.2.2.2.2.2.2.1 R.2.2.2.2.2.2.2.2.2.1 R.2.2.2.2.2.2.2.2.2.2.1 R.2.2.2.2.2.2.2.2.2.2.2 row) R.1 := by
  refine ctI_of (by decide) ⟨_, rfl⟩ (Nat.le_of_ble_eq_true rfl) ?_
  intro p e s m below meth c A Q ls X hret hP hD hl
  have hS : va_S A s.heap s.heap [] := va_S.rf
  have hx := X.1
  have hb := X.2.1
  have hl : lv_has ls 4 [(0, .ref (ad 0)), (1, .int x1)] := hl
  replace hf : ((f_X5_thinks writers year isKeeping cursor kind figure style fame silent ring kept).bind fun (r1 : Int32 × Int32 × Int32 × Int32 × (Nat → Int32) × (Nat → Int32) × (Nat → Int32) × (Nat → Int32) × (Nat → Int32) × (Nat → Int32) × (Nat → Int32)) => (f_X5_isFamedSo_8 rowMany row x1 r1.1 r1.2.2.2.2.1 r1.2.2.2.2.2.1 r1.2.2.2.2.2.2.1 r1.2.2.2.2.2.2.2.2.1 r1.2.2.2.2.2.2.2.2.2.1 (fun (v2_52 : Int32) (year_52 : Int32) (fame_52 : (Nat → Int32)) => (f_X5_isFamedSo_52   v2_52 r1.1 year_52 r1.2.2.1 r1.2.2.2.1 r1.2.2.2.2.1 r1.2.2.2.2.2.1 r1.2.2.2.2.2.2.1 fame_52 r1.2.2.2.2.2.2.2.2.1 r1.2.2.2.2.2.2.2.2.2.1 r1.2.2.2.2.2.2.2.2.2.2)) FU (1 : Int32) (0 : Int32) r1.2.1 r1.2.2.2.2.2.2.2.1)) = some R := hf
  refine lv_aload_n hx hb dX5_isFamedSo_0 rfl (lv_at hl 0 rfl) ?_
  obtain ⟨r1, hq1, hf⟩ := bS hf
  refine wr_v X hP hD hS [0, 1, 2, 3, 4, 5, 6, 7] rfl (ws' := (wd_X5_isFamedSo cI ad r1.1 r1.2.1 taped at_ statements hasImage r1.2.2.1 r1.2.2.2.1 forgottenWhen rowMany r1.2.2.2.2.1 r1.2.2.2.2.2.1 r1.2.2.2.2.2.2.1 r1.2.2.2.2.2.2.2.1 r1.2.2.2.2.2.2.2.2.1 r1.2.2.2.2.2.2.2.2.2.1 r1.2.2.2.2.2.2.2.2.2.2 row)) (Nat.le_of_ble_eq_true rfl) rfl rfl (run_V X hP hD hS [0, 1, 2, 3, 4, 5, 6, 7] rfl rfl (c_X5_thinks l D cI aS ad writers year taped at_ statements hasImage isKeeping cursor forgottenWhen rowMany kind figure style fame silent ring kept _ hq1 _) lkX5_200 (by decide) (q0 := 0) rfl rfl rfl rfl (Nat.le_of_ble_eq_true rfl) hl.1 dX5_isFamedSo_1) (fun H locs hP hD hS => ?_)
  refine lv_iconst (v := 1) hx hb dX5_isFamedSo_4 (by decide) ?_
  refine lv_istore_n (lv' := [(2, .int (1 : Int32)), (0, .ref (ad 0)), (1, .int x1)]) hx hb dX5_isFamedSo_5 rfl hl (by decide) rfl (fun ls hl => ?_)
  refine lv_iconst (v := 0) hx hb dX5_isFamedSo_6 (by decide) ?_
  refine lv_istore_n (lv' := [(3, .int (0 : Int32)), (2, .int (1 : Int32)), (0, .ref (ad 0)), (1, .int x1)]) hx hb dX5_isFamedSo_7 rfl hl (by decide) rfl (fun ls hl => ?_)
  exact w_X5_isFamedSo_8 ad taped at_ statements hasImage forgottenWhen rowMany row x1 r1.1 r1.2.2.1 r1.2.2.2.1 r1.2.2.2.2.1 r1.2.2.2.2.2.1 r1.2.2.2.2.2.2.1 r1.2.2.2.2.2.2.2.2.1 r1.2.2.2.2.2.2.2.2.2.1 r1.2.2.2.2.2.2.2.2.2.2 X hret _ (fun v2_52 year_52 fame_52 _ _ _ hf hl hP hD hS => w_X5_isFamedSo_52 ad taped at_ statements hasImage forgottenWhen rowMany row x1 X hret  v2_52 r1.1 year_52 r1.2.2.1 r1.2.2.2.1 r1.2.2.2.2.1 r1.2.2.2.2.2.1 r1.2.2.2.2.2.2.1 fame_52 r1.2.2.2.2.2.2.2.2.1 r1.2.2.2.2.2.2.2.2.2.1 r1.2.2.2.2.2.2.2.2.2.2 _ _ _ hf (lv_sub hl [0, 1] rfl) hP hD hS) _ (1 : Int32) (0 : Int32) r1.2.1 r1.2.2.2.2.2.2.2.1 _ _ _ hf (lv_sub hl [2, 3, 1, 0] rfl) hP hD hS

abbrev wd_X5_bitsFor_figure (cI : ClassId) (ad : Nat → Nat) (writers : Int32) (year : Int32) (taped : Int32) (at_ : Int32) (statements : Int32) (hasImage : Int32) (isKeeping : Int32) (cursor : Int32) (forgottenWhen : Int32) (rowMany : Int32) (kind : (Nat → Int32)) (figure : (Nat → Int32)) (style : (Nat → Int32)) (fame : (Nat → Int32)) (silent : (Nat → Int32)) (ring : (Nat → Int32)) (kept : (Nat → Int32)) (row : (Nat → Int32)) : va_W := [((ad 0), .inr (5, [.ref (ad 1), .ref (ad 2), .ref (ad 3), .ref (ad 4), .ref (ad 5), .ref (ad 6), .ref (ad 7), .int writers, .int year, .ref (ad 8), .ref (ad 9), .ref (ad 10), .ref (ad 11), .int taped, .int at_, .int statements, .ref (ad 12), .int hasImage, .int isKeeping, .int cursor, .int forgottenWhen, .ref (ad 13), .ref (ad 14), .ref (ad 15), .int rowMany])), ((ad 2), .inl (cI, 7, .inl kind)), ((ad 3), .inl (cI, 7, .inl figure)), ((ad 4), .inl (cI, 7, .inl style)), ((ad 5), .inl (cI, 7, .inl fame)), ((ad 6), .inl (cI, 7, .inl silent)), ((ad 7), .inl (cI, 7, .inl ring)), ((ad 12), .inl (cI, 132, .inl kept)), ((ad 15), .inl (cI, 16, .inl row))]
def f_X5_bitsFor_figure_41  (kL11 : Int32 → Int32 → Int32 → Int32 → Int32 → Int32 → (Nat → Int32) → (Nat → Int32) → (Nat → Int32) → (Nat → Int32) → (Nat → Int32) → (Nat → Int32) → (Nat → Int32) → Option (Int32 × Int32 × Int32 × Int32 × Int32 × (Nat → Int32) × (Nat → Int32) × (Nat → Int32) × (Nat → Int32) × (Nat → Int32) × (Nat → Int32) × (Nat → Int32))) (v7_41 : Int32) (writers_41 : Int32) (year_41 : Int32) (isKeeping_41 : Int32) (cursor_41 : Int32) (kind_41 : (Nat → Int32)) (figure_41 : (Nat → Int32)) (style_41 : (Nat → Int32)) (fame_41 : (Nat → Int32)) (silent_41 : (Nat → Int32)) (ring_41 : (Nat → Int32)) (kept_41 : (Nat → Int32)) (t0_41 : Int32) (t1_41 : Int32) : Option (Int32 × Int32 × Int32 × Int32 × Int32 × (Nat → Int32) × (Nat → Int32) × (Nat → Int32) × (Nat → Int32) × (Nat → Int32) × (Nat → Int32) × (Nat → Int32)) := (kL11 (t0_41 ||| t1_41) (v7_41 + (1 : Int32)) writers_41 year_41 isKeeping_41 cursor_41 kind_41 figure_41 style_41 fame_41 silent_41 ring_41 kept_41)
def f_X5_bitsFor_figure_11 (rowMany : Int32) (row : (Nat → Int32)) (x2 : Int32) (x3 : Int32) (x4 : Int32) (kX11_50 : Int32 → Int32 → Int32 → Int32 → Int32 → (Nat → Int32) → (Nat → Int32) → (Nat → Int32) → (Nat → Int32) → (Nat → Int32) → (Nat → Int32) → (Nat → Int32) → Option (Int32 × Int32 × Int32 × Int32 × Int32 × (Nat → Int32) × (Nat → Int32) × (Nat → Int32) × (Nat → Int32) × (Nat → Int32) × (Nat → Int32) × (Nat → Int32))) : Nat → Int32 → Int32 → Int32 → Int32 → Int32 → Int32 → (Nat → Int32) → (Nat → Int32) → (Nat → Int32) → (Nat → Int32) → (Nat → Int32) → (Nat → Int32) → (Nat → Int32) → Option (Int32 × Int32 × Int32 × Int32 × Int32 × (Nat → Int32) × (Nat → Int32) × (Nat → Int32) × (Nat → Int32) × (Nat → Int32) × (Nat → Int32) × (Nat → Int32))
  | 0 => fun _ _ _ _ _ _ _ _ _ _ _ _ _ => none
  | fuel + 1 => fun v6_11 v7_11 writers_11 year_11 isKeeping_11 cursor_11 kind_11 figure_11 style_11 fame_11 silent_11 ring_11 kept_11 => (if x4 ≤ v7_11 then (kX11_50 v6_11 writers_11 year_11 isKeeping_11 cursor_11 kind_11 figure_11 style_11 fame_11 silent_11 ring_11 kept_11) else (gd x2 7 ((f_X5_isFamedSo writers_11 year_11 isKeeping_11 cursor_11 rowMany kind_11 (upd figure_11 (Int32.toNatClampNeg x2) v7_11) style_11 fame_11 silent_11 ring_11 kept_11 row x3).bind fun (r27 : Int32 × Int32 × Int32 × Int32 × Int32 × (Nat → Int32) × (Nat → Int32) × (Nat → Int32) × (Nat → Int32) × (Nat → Int32) × (Nat → Int32) × (Nat → Int32)) => (if r27.1 = 0 then (f_X5_bitsFor_figure_41  (f_X5_bitsFor_figure_11 rowMany row x2 x3 x4 kX11_50 fuel) v7_11 r27.2.1 r27.2.2.1 r27.2.2.2.1 r27.2.2.2.2.1 r27.2.2.2.2.2.1 r27.2.2.2.2.2.2.1 r27.2.2.2.2.2.2.2.1 r27.2.2.2.2.2.2.2.2.1 r27.2.2.2.2.2.2.2.2.2.1 r27.2.2.2.2.2.2.2.2.2.2.1 r27.2.2.2.2.2.2.2.2.2.2.2 v6_11 (0 : Int32)) else (f_X5_bitsFor_figure_41  (f_X5_bitsFor_figure_11 rowMany row x2 x3 x4 kX11_50 fuel) v7_11 r27.2.1 r27.2.2.1 r27.2.2.2.1 r27.2.2.2.2.1 r27.2.2.2.2.2.1 r27.2.2.2.2.2.2.1 r27.2.2.2.2.2.2.2.1 r27.2.2.2.2.2.2.2.2.1 r27.2.2.2.2.2.2.2.2.2.1 r27.2.2.2.2.2.2.2.2.2.2.1 r27.2.2.2.2.2.2.2.2.2.2.2 v6_11 (shlI (1 : Int32) v7_11))))))
theorem e_X5_bitsFor_figure_11 (rowMany : Int32) (row : (Nat → Int32)) (x2 : Int32) (x3 : Int32) (x4 : Int32) (kX11_50 : Int32 → Int32 → Int32 → Int32 → Int32 → (Nat → Int32) → (Nat → Int32) → (Nat → Int32) → (Nat → Int32) → (Nat → Int32) → (Nat → Int32) → (Nat → Int32) → Option (Int32 × Int32 × Int32 × Int32 × Int32 × (Nat → Int32) × (Nat → Int32) × (Nat → Int32) × (Nat → Int32) × (Nat → Int32) × (Nat → Int32) × (Nat → Int32))) (fuel : Nat) (v6_11 : Int32) (v7_11 : Int32) (writers_11 : Int32) (year_11 : Int32) (isKeeping_11 : Int32) (cursor_11 : Int32) (kind_11 : (Nat → Int32)) (figure_11 : (Nat → Int32)) (style_11 : (Nat → Int32)) (fame_11 : (Nat → Int32)) (silent_11 : (Nat → Int32)) (ring_11 : (Nat → Int32)) (kept_11 : (Nat → Int32)) : f_X5_bitsFor_figure_11 rowMany row x2 x3 x4 kX11_50 (fuel + 1) v6_11 v7_11 writers_11 year_11 isKeeping_11 cursor_11 kind_11 figure_11 style_11 fame_11 silent_11 ring_11 kept_11 = (if x4 ≤ v7_11 then (kX11_50 v6_11 writers_11 year_11 isKeeping_11 cursor_11 kind_11 figure_11 style_11 fame_11 silent_11 ring_11 kept_11) else (gd x2 7 ((f_X5_isFamedSo writers_11 year_11 isKeeping_11 cursor_11 rowMany kind_11 (upd figure_11 (Int32.toNatClampNeg x2) v7_11) style_11 fame_11 silent_11 ring_11 kept_11 row x3).bind fun (r27 : Int32 × Int32 × Int32 × Int32 × Int32 × (Nat → Int32) × (Nat → Int32) × (Nat → Int32) × (Nat → Int32) × (Nat → Int32) × (Nat → Int32) × (Nat → Int32)) => (if r27.1 = 0 then (f_X5_bitsFor_figure_41  (f_X5_bitsFor_figure_11 rowMany row x2 x3 x4 kX11_50 fuel) v7_11 r27.2.1 r27.2.2.1 r27.2.2.2.1 r27.2.2.2.2.1 r27.2.2.2.2.2.1 r27.2.2.2.2.2.2.1 r27.2.2.2.2.2.2.2.1 r27.2.2.2.2.2.2.2.2.1 r27.2.2.2.2.2.2.2.2.2.1 r27.2.2.2.2.2.2.2.2.2.2.1 r27.2.2.2.2.2.2.2.2.2.2.2 v6_11 (0 : Int32)) else (f_X5_bitsFor_figure_41  (f_X5_bitsFor_figure_11 rowMany row x2 x3 x4 kX11_50 fuel) v7_11 r27.2.1 r27.2.2.1 r27.2.2.2.1 r27.2.2.2.2.1 r27.2.2.2.2.2.1 r27.2.2.2.2.2.2.1 r27.2.2.2.2.2.2.2.1 r27.2.2.2.2.2.2.2.2.1 r27.2.2.2.2.2.2.2.2.2.1 r27.2.2.2.2.2.2.2.2.2.2.1 r27.2.2.2.2.2.2.2.2.2.2.2 v6_11 (shlI (1 : Int32) v7_11)))))) := rfl
def f_X5_bitsFor_figure_50 (x2 : Int32)  (v5_50 : Int32) (v6_50 : Int32) (writers_50 : Int32) (year_50 : Int32) (isKeeping_50 : Int32) (cursor_50 : Int32) (kind_50 : (Nat → Int32)) (figure_50 : (Nat → Int32)) (style_50 : (Nat → Int32)) (fame_50 : (Nat → Int32)) (silent_50 : (Nat → Int32)) (ring_50 : (Nat → Int32)) (kept_50 : (Nat → Int32)) : Option (Int32 × Int32 × Int32 × Int32 × Int32 × (Nat → Int32) × (Nat → Int32) × (Nat → Int32) × (Nat → Int32) × (Nat → Int32) × (Nat → Int32) × (Nat → Int32)) := (gd x2 7 (some (v6_50, writers_50, year_50, isKeeping_50, cursor_50, kind_50, (upd figure_50 (Int32.toNatClampNeg x2) v5_50), style_50, fame_50, silent_50, ring_50, kept_50)))
def f_X5_bitsFor_figure (writers : Int32) (year : Int32) (isKeeping : Int32) (cursor : Int32) (rowMany : Int32) (kind : (Nat → Int32)) (figure : (Nat → Int32)) (style : (Nat → Int32)) (fame : (Nat → Int32)) (silent : (Nat → Int32)) (ring : (Nat → Int32)) (kept : (Nat → Int32)) (row : (Nat → Int32)) (x2 : Int32) (x3 : Int32) (x4 : Int32) : Option (Int32 × Int32 × Int32 × Int32 × Int32 × (Nat → Int32) × (Nat → Int32) × (Nat → Int32) × (Nat → Int32) × (Nat → Int32) × (Nat → Int32) × (Nat → Int32)) := (gd x2 7 (f_X5_bitsFor_figure_11 rowMany row x2 x3 x4 (fun (v6_50 : Int32) (writers_50 : Int32) (year_50 : Int32) (isKeeping_50 : Int32) (cursor_50 : Int32) (kind_50 : (Nat → Int32)) (figure_50 : (Nat → Int32)) (style_50 : (Nat → Int32)) (fame_50 : (Nat → Int32)) (silent_50 : (Nat → Int32)) (ring_50 : (Nat → Int32)) (kept_50 : (Nat → Int32)) => (f_X5_bitsFor_figure_50 x2  (figure (Int32.toNatClampNeg x2)) v6_50 writers_50 year_50 isKeeping_50 cursor_50 kind_50 figure_50 style_50 fame_50 silent_50 ring_50 kept_50)) FU (0 : Int32) (0 : Int32) writers year isKeeping cursor kind figure style fame silent ring kept))
set_option maxHeartbeats 4000000 in
set_option maxRecDepth 100000 in
theorem w_X5_bitsFor_figure_41 {p : Program} {l : Launch} {e : Env} {s : State} {m : MethodId} {args : Array Value} {below : List Frame} {meth : Method} {c : Code} {D : va_G} {cI : ClassId} {aS : aSt} {A : Nat → Prop} {Q : State → Prop}  (ad : Nat → Nat) (taped : Int32) (at_ : Int32) (statements : Int32) (hasImage : Int32) (forgottenWhen : Int32) (rowMany : Int32) (row : (Nat → Int32)) (x2 : Int32) (x3 : Int32) (x4 : Int32) (u5_11 : Int32) {R : Int32 × Int32 × Int32 × Int32 × Int32 × (Nat → Int32) × (Nat → Int32) × (Nat → Int32) × (Nat → Int32) × (Nat → Int32) × (Nat → Int32) × (Nat → Int32)} (X : Bx p s m args meth c cX5_bitsFor 8 (some .int) RX5 D cI aS A) (hret : RtI p l e 6 s m args below meth c cX5_bitsFor (some .int) D A (wd_X5_bitsFor_figure cI ad R.2.1 R.2.2.1 taped at_ statements hasImage R.2.2.2.1 R.2.2.2.2.1 forgottenWhen rowMany R.2.2.2.2.2.1 R.2.2.2.2.2.2.1 R.2.2.2.2.2.2.2.1 R.2.2.2.2.2.2.2.2.1 R.2.2.2.2.2.2.2.2.2.1 R.2.2.2.2.2.2.2.2.2.2.1 R.2.2.2.2.2.2.2.2.2.2.2 row) R.1 Q) (kL11 : Int32 → Int32 → Int32 → Int32 → Int32 → Int32 → (Nat → Int32) → (Nat → Int32) → (Nat → Int32) → (Nat → Int32) → (Nat → Int32) → (Nat → Int32) → (Nat → Int32) → Option (Int32 × Int32 × Int32 × Int32 × Int32 × (Nat → Int32) × (Nat → Int32) × (Nat → Int32) × (Nat → Int32) × (Nat → Int32) × (Nat → Int32) × (Nat → Int32))) (hkL11 : ∀ (v6_11 : Int32) (v7_11 : Int32) (writers_11 : Int32) (year_11 : Int32) (isKeeping_11 : Int32) (cursor_11 : Int32) (kind_11 : (Nat → Int32)) (figure_11 : (Nat → Int32)) (style_11 : (Nat → Int32)) (fame_11 : (Nat → Int32)) (silent_11 : (Nat → Int32)) (ring_11 : (Nat → Int32)) (kept_11 : (Nat → Int32)) (H : Heap) (locs : List Loc) (ls : Array Slot), kL11 v6_11 v7_11 writers_11 year_11 isKeeping_11 cursor_11 kind_11 figure_11 style_11 fame_11 silent_11 ring_11 kept_11 = some R → lv_has ls 8 [(0, .ref (ad 0)), (1, .ref (ad 3)), (2, .int x2), (3, .int x3), (4, .int x4), (5, .int u5_11), (6, .int v6_11), (7, .int v7_11)] → va_P D vwCl (wd_X5_bitsFor_figure cI ad writers_11 year_11 taped at_ statements hasImage isKeeping_11 cursor_11 forgottenWhen rowMany kind_11 figure_11 style_11 fame_11 silent_11 ring_11 kept_11 row) H → va_D A (wd_X5_bitsFor_figure cI ad writers_11 year_11 taped at_ statements hasImage isKeeping_11 cursor_11 forgottenWhen rowMany kind_11 figure_11 style_11 fame_11 silent_11 ring_11 kept_11 row) → va_S A s.heap H locs → Wh p l e 6 s m args below meth c H locs Q (F0 m 11 ls [])) : ∀ (v7_41 : Int32) (writers_41 : Int32) (year_41 : Int32) (isKeeping_41 : Int32) (cursor_41 : Int32) (kind_41 : (Nat → Int32)) (figure_41 : (Nat → Int32)) (style_41 : (Nat → Int32)) (fame_41 : (Nat → Int32)) (silent_41 : (Nat → Int32)) (ring_41 : (Nat → Int32)) (kept_41 : (Nat → Int32)) (t0_41 : Int32) (t1_41 : Int32) (H : Heap) (locs : List Loc) (ls : Array Slot), f_X5_bitsFor_figure_41  kL11 v7_41 writers_41 year_41 isKeeping_41 cursor_41 kind_41 figure_41 style_41 fame_41 silent_41 ring_41 kept_41 t0_41 t1_41 = some R → lv_has ls 8 [(0, .ref (ad 0)), (1, .ref (ad 3)), (2, .int x2), (3, .int x3), (4, .int x4), (5, .int u5_11), (7, .int v7_41)] → va_P D vwCl (wd_X5_bitsFor_figure cI ad writers_41 year_41 taped at_ statements hasImage isKeeping_41 cursor_41 forgottenWhen rowMany kind_41 figure_41 style_41 fame_41 silent_41 ring_41 kept_41 row) H → va_D A (wd_X5_bitsFor_figure cI ad writers_41 year_41 taped at_ statements hasImage isKeeping_41 cursor_41 forgottenWhen rowMany kind_41 figure_41 style_41 fame_41 silent_41 ring_41 kept_41 row) → va_S A s.heap H locs → Wh p l e 6 s m args below meth c H locs Q (F0 m 41 ls [.int t1_41, .int t0_41]) := by
  have hx := X.1
  have hb := X.2.1
  intro v7_41 writers_41 year_41 isKeeping_41 cursor_41 kind_41 figure_41 style_41 fame_41 silent_41 ring_41 kept_41 t0_41 t1_41 H locs ls hf hl hP hD hS
  replace hf : (kL11 (t0_41 ||| t1_41) (v7_41 + (1 : Int32)) writers_41 year_41 isKeeping_41 cursor_41 kind_41 figure_41 style_41 fame_41 silent_41 ring_41 kept_41) = some R := hf
  refine lv_ior hx hb dX5_bitsFor_41 ?_
  refine lv_istore (lv' := [(6, .int (t0_41 ||| t1_41)), (0, .ref (ad 0)), (1, .ref (ad 3)), (2, .int x2), (3, .int x3), (4, .int x4), (5, .int u5_11), (7, .int v7_41)]) hx hb dX5_bitsFor_42 hl (by decide) rfl (fun ls hl => ?_)
  refine lv_iinc (v := (v7_41 + (1 : Int32))) (lv' := [(7, .int (v7_41 + (1 : Int32))), (6, .int (t0_41 ||| t1_41)), (0, .ref (ad 0)), (1, .ref (ad 3)), (2, .int x2), (3, .int x3), (4, .int x4), (5, .int u5_11)]) hx hb dX5_bitsFor_44 hl (k := 7) rfl rfl (by decide) rfl (fun ls hl => ?_)
  refine lv_goto (tgt := 11) hx hb dX5_bitsFor_47 (by decide) ?_
  exact hkL11 (t0_41 ||| t1_41) (v7_41 + (1 : Int32)) writers_41 year_41 isKeeping_41 cursor_41 kind_41 figure_41 style_41 fame_41 silent_41 ring_41 kept_41 _ _ _ hf (lv_sub hl [2, 3, 4, 5, 6, 7, 1, 0] rfl) hP hD hS
set_option maxHeartbeats 4000000 in
set_option maxRecDepth 100000 in
theorem w_X5_bitsFor_figure_11 {p : Program} {l : Launch} {e : Env} {s : State} {m : MethodId} {args : Array Value} {below : List Frame} {meth : Method} {c : Code} {D : va_G} {cI : ClassId} {aS : aSt} {A : Nat → Prop} {Q : State → Prop}  (ad : Nat → Nat) (taped : Int32) (at_ : Int32) (statements : Int32) (hasImage : Int32) (forgottenWhen : Int32) (rowMany : Int32) (row : (Nat → Int32)) (x2 : Int32) (x3 : Int32) (x4 : Int32) (u5_11 : Int32) {R : Int32 × Int32 × Int32 × Int32 × Int32 × (Nat → Int32) × (Nat → Int32) × (Nat → Int32) × (Nat → Int32) × (Nat → Int32) × (Nat → Int32) × (Nat → Int32)} (X : Bx p s m args meth c cX5_bitsFor 8 (some .int) RX5 D cI aS A) (hret : RtI p l e 6 s m args below meth c cX5_bitsFor (some .int) D A (wd_X5_bitsFor_figure cI ad R.2.1 R.2.2.1 taped at_ statements hasImage R.2.2.2.1 R.2.2.2.2.1 forgottenWhen rowMany R.2.2.2.2.2.1 R.2.2.2.2.2.2.1 R.2.2.2.2.2.2.2.1 R.2.2.2.2.2.2.2.2.1 R.2.2.2.2.2.2.2.2.2.1 R.2.2.2.2.2.2.2.2.2.2.1 R.2.2.2.2.2.2.2.2.2.2.2 row) R.1 Q) (kX11_50 : Int32 → Int32 → Int32 → Int32 → Int32 → (Nat → Int32) → (Nat → Int32) → (Nat → Int32) → (Nat → Int32) → (Nat → Int32) → (Nat → Int32) → (Nat → Int32) → Option (Int32 × Int32 × Int32 × Int32 × Int32 × (Nat → Int32) × (Nat → Int32) × (Nat → Int32) × (Nat → Int32) × (Nat → Int32) × (Nat → Int32) × (Nat → Int32))) (hkX11_50 : ∀ (v6_50 : Int32) (writers_50 : Int32) (year_50 : Int32) (isKeeping_50 : Int32) (cursor_50 : Int32) (kind_50 : (Nat → Int32)) (figure_50 : (Nat → Int32)) (style_50 : (Nat → Int32)) (fame_50 : (Nat → Int32)) (silent_50 : (Nat → Int32)) (ring_50 : (Nat → Int32)) (kept_50 : (Nat → Int32)) (H : Heap) (locs : List Loc) (ls : Array Slot), kX11_50 v6_50 writers_50 year_50 isKeeping_50 cursor_50 kind_50 figure_50 style_50 fame_50 silent_50 ring_50 kept_50 = some R → lv_has ls 8 [(1, .ref (ad 3)), (2, .int x2), (5, .int u5_11), (6, .int v6_50)] → va_P D vwCl (wd_X5_bitsFor_figure cI ad writers_50 year_50 taped at_ statements hasImage isKeeping_50 cursor_50 forgottenWhen rowMany kind_50 figure_50 style_50 fame_50 silent_50 ring_50 kept_50 row) H → va_D A (wd_X5_bitsFor_figure cI ad writers_50 year_50 taped at_ statements hasImage isKeeping_50 cursor_50 forgottenWhen rowMany kind_50 figure_50 style_50 fame_50 silent_50 ring_50 kept_50 row) → va_S A s.heap H locs → Wh p l e 6 s m args below meth c H locs Q (F0 m 50 ls [])) : ∀ (fuel : Nat) (v6_11 : Int32) (v7_11 : Int32) (writers_11 : Int32) (year_11 : Int32) (isKeeping_11 : Int32) (cursor_11 : Int32) (kind_11 : (Nat → Int32)) (figure_11 : (Nat → Int32)) (style_11 : (Nat → Int32)) (fame_11 : (Nat → Int32)) (silent_11 : (Nat → Int32)) (ring_11 : (Nat → Int32)) (kept_11 : (Nat → Int32)) (H : Heap) (locs : List Loc) (ls : Array Slot), f_X5_bitsFor_figure_11 rowMany row x2 x3 x4 kX11_50 fuel v6_11 v7_11 writers_11 year_11 isKeeping_11 cursor_11 kind_11 figure_11 style_11 fame_11 silent_11 ring_11 kept_11 = some R → lv_has ls 8 [(0, .ref (ad 0)), (1, .ref (ad 3)), (2, .int x2), (3, .int x3), (4, .int x4), (5, .int u5_11), (6, .int v6_11), (7, .int v7_11)] → va_P D vwCl (wd_X5_bitsFor_figure cI ad writers_11 year_11 taped at_ statements hasImage isKeeping_11 cursor_11 forgottenWhen rowMany kind_11 figure_11 style_11 fame_11 silent_11 ring_11 kept_11 row) H → va_D A (wd_X5_bitsFor_figure cI ad writers_11 year_11 taped at_ statements hasImage isKeeping_11 cursor_11 forgottenWhen rowMany kind_11 figure_11 style_11 fame_11 silent_11 ring_11 kept_11 row) → va_S A s.heap H locs → Wh p l e 6 s m args below meth c H locs Q (F0 m 11 ls []) := by
  have hx := X.1
  have hb := X.2.1
  intro fuel
  induction fuel with
  | zero =>
    intro v6_11 v7_11 writers_11 year_11 isKeeping_11 cursor_11 kind_11 figure_11 style_11 fame_11 silent_11 ring_11 kept_11 H locs ls hf hl hP hD hS
    cases hf
  | succ fuel ih =>
    intro v6_11 v7_11 writers_11 year_11 isKeeping_11 cursor_11 kind_11 figure_11 style_11 fame_11 silent_11 ring_11 kept_11 H locs ls hf hl hP hD hS
    replace hf : (if x4 ≤ v7_11 then (kX11_50 v6_11 writers_11 year_11 isKeeping_11 cursor_11 kind_11 figure_11 style_11 fame_11 silent_11 ring_11 kept_11) else (gd x2 7 ((f_X5_isFamedSo writers_11 year_11 isKeeping_11 cursor_11 rowMany kind_11 (upd figure_11 (Int32.toNatClampNeg x2) v7_11) style_11 fame_11 silent_11 ring_11 kept_11 row x3).bind fun (r27 : Int32 × Int32 × Int32 × Int32 × Int32 × (Nat → Int32) × (Nat → Int32) × (Nat → Int32) × (Nat → Int32) × (Nat → Int32) × (Nat → Int32) × (Nat → Int32)) => (if r27.1 = 0 then (f_X5_bitsFor_figure_41  (f_X5_bitsFor_figure_11 rowMany row x2 x3 x4 kX11_50 fuel) v7_11 r27.2.1 r27.2.2.1 r27.2.2.2.1 r27.2.2.2.2.1 r27.2.2.2.2.2.1 r27.2.2.2.2.2.2.1 r27.2.2.2.2.2.2.2.1 r27.2.2.2.2.2.2.2.2.1 r27.2.2.2.2.2.2.2.2.2.1 r27.2.2.2.2.2.2.2.2.2.2.1 r27.2.2.2.2.2.2.2.2.2.2.2 v6_11 (0 : Int32)) else (f_X5_bitsFor_figure_41  (f_X5_bitsFor_figure_11 rowMany row x2 x3 x4 kX11_50 fuel) v7_11 r27.2.1 r27.2.2.1 r27.2.2.2.1 r27.2.2.2.2.1 r27.2.2.2.2.2.1 r27.2.2.2.2.2.2.1 r27.2.2.2.2.2.2.2.1 r27.2.2.2.2.2.2.2.2.1 r27.2.2.2.2.2.2.2.2.2.1 r27.2.2.2.2.2.2.2.2.2.2.1 r27.2.2.2.2.2.2.2.2.2.2.2 v6_11 (shlI (1 : Int32) v7_11)))))) = some R := hf
    refine lv_iload hx hb dX5_bitsFor_11 (lv_at hl 7 rfl) ?_
    refine lv_iload hx hb dX5_bitsFor_13 (lv_at hl 4 rfl) ?_
    refine lv_icmp_ge (tgt := 50) hx hb dX5_bitsFor_15 (by decide) (fun c15 => ?_) (fun c15 => ?_)
    · have hf := iT c15 hf
      exact hkX11_50 v6_11 writers_11 year_11 isKeeping_11 cursor_11 kind_11 figure_11 style_11 fame_11 silent_11 ring_11 kept_11 _ _ _ hf (lv_sub hl [1, 2, 5, 6] rfl) hP hD hS
    · have hf := iF c15 hf
      refine lv_aload_n hx hb dX5_bitsFor_18 rfl (lv_at hl 1 rfl) ?_
      refine lv_iload_n hx hb dX5_bitsFor_19 rfl (lv_at hl 2 rfl) ?_
      refine lv_iload hx hb dX5_bitsFor_20 (lv_at hl 7 rfl) ?_
      refine aPut X hP hD hS (q0 := 2) (ws' := (wd_X5_bitsFor_figure cI ad writers_11 year_11 taped at_ statements hasImage isKeeping_11 cursor_11 forgottenWhen rowMany kind_11 (upd figure_11 (Int32.toNatClampNeg x2) v7_11) style_11 fame_11 silent_11 ring_11 kept_11 row)) rfl (gdS hf).1 rfl dX5_bitsFor_22 (fun H locs hP hD hS => ?_)
      have hf := (gdS hf).2
      refine lv_iload hx hb dX5_bitsFor_23 (lv_at hl 6 rfl) ?_
      refine lv_aload_n hx hb dX5_bitsFor_25 rfl (lv_at hl 0 rfl) ?_
      refine lv_iload_n hx hb dX5_bitsFor_26 rfl (lv_at hl 3 rfl) ?_
      obtain ⟨r27, hq27, hf⟩ := bS hf
      refine wr_i X hP hD hS [0, 1, 2, 3, 4, 5, 6, 7, 8] rfl (ws' := (wd_X5_bitsFor_figure cI ad r27.2.1 r27.2.2.1 taped at_ statements hasImage r27.2.2.2.1 r27.2.2.2.2.1 forgottenWhen rowMany r27.2.2.2.2.2.1 r27.2.2.2.2.2.2.1 r27.2.2.2.2.2.2.2.1 r27.2.2.2.2.2.2.2.2.1 r27.2.2.2.2.2.2.2.2.2.1 r27.2.2.2.2.2.2.2.2.2.2.1 r27.2.2.2.2.2.2.2.2.2.2.2 row)) (Nat.le_of_ble_eq_true rfl) rfl rfl (run_V X hP hD hS [0, 1, 2, 3, 4, 5, 6, 7, 8] rfl rfl (c_X5_isFamedSo l D cI aS ad writers_11 year_11 taped at_ statements hasImage isKeeping_11 cursor_11 forgottenWhen rowMany kind_11 (upd figure_11 (Int32.toNatClampNeg x2) v7_11) style_11 fame_11 silent_11 ring_11 kept_11 row x3 _ hq27 _) lkX5_263 (by decide) (q0 := 0) rfl rfl rfl rfl (Nat.le_of_ble_eq_true rfl) hl.1 dX5_bitsFor_27) (fun H locs hP hD hS => ?_)
      refine lv_if_eq (tgt := 40) hx hb dX5_bitsFor_30 (by decide) (fun c30 => ?_) (fun c30 => ?_)
      · have hf := iT c30 hf
        refine lv_iconst (v := 0) hx hb dX5_bitsFor_40 (by decide) ?_
        exact w_X5_bitsFor_figure_41 ad taped at_ statements hasImage forgottenWhen rowMany row x2 x3 x4 u5_11 X hret _ ih v7_11 r27.2.1 r27.2.2.1 r27.2.2.2.1 r27.2.2.2.2.1 r27.2.2.2.2.2.1 r27.2.2.2.2.2.2.1 r27.2.2.2.2.2.2.2.1 r27.2.2.2.2.2.2.2.2.1 r27.2.2.2.2.2.2.2.2.2.1 r27.2.2.2.2.2.2.2.2.2.2.1 r27.2.2.2.2.2.2.2.2.2.2.2 v6_11 (0 : Int32) _ _ _ hf (lv_sub hl [0, 1, 2, 3, 4, 5, 7] rfl) hP hD hS
      · have hf := iF c30 hf
        refine lv_iconst (v := 1) hx hb dX5_bitsFor_33 (by decide) ?_
        refine lv_iload hx hb dX5_bitsFor_34 (lv_at hl 7 rfl) ?_
        refine x_ishl hx hb dX5_bitsFor_36 ?_
        refine lv_goto (tgt := 41) hx hb dX5_bitsFor_37 (by decide) ?_
        exact w_X5_bitsFor_figure_41 ad taped at_ statements hasImage forgottenWhen rowMany row x2 x3 x4 u5_11 X hret _ ih v7_11 r27.2.1 r27.2.2.1 r27.2.2.2.1 r27.2.2.2.2.1 r27.2.2.2.2.2.1 r27.2.2.2.2.2.2.1 r27.2.2.2.2.2.2.2.1 r27.2.2.2.2.2.2.2.2.1 r27.2.2.2.2.2.2.2.2.2.1 r27.2.2.2.2.2.2.2.2.2.2.1 r27.2.2.2.2.2.2.2.2.2.2.2 v6_11 (shlI (1 : Int32) v7_11) _ _ _ hf (lv_sub hl [0, 1, 2, 3, 4, 5, 7] rfl) hP hD hS
set_option maxHeartbeats 4000000 in
set_option maxRecDepth 100000 in
theorem w_X5_bitsFor_figure_50 {p : Program} {l : Launch} {e : Env} {s : State} {m : MethodId} {args : Array Value} {below : List Frame} {meth : Method} {c : Code} {D : va_G} {cI : ClassId} {aS : aSt} {A : Nat → Prop} {Q : State → Prop}  (ad : Nat → Nat) (taped : Int32) (at_ : Int32) (statements : Int32) (hasImage : Int32) (forgottenWhen : Int32) (rowMany : Int32) (row : (Nat → Int32)) (x2 : Int32) (x3 : Int32) (x4 : Int32) {R : Int32 × Int32 × Int32 × Int32 × Int32 × (Nat → Int32) × (Nat → Int32) × (Nat → Int32) × (Nat → Int32) × (Nat → Int32) × (Nat → Int32) × (Nat → Int32)} (X : Bx p s m args meth c cX5_bitsFor 8 (some .int) RX5 D cI aS A) (hret : RtI p l e 6 s m args below meth c cX5_bitsFor (some .int) D A (wd_X5_bitsFor_figure cI ad R.2.1 R.2.2.1 taped at_ statements hasImage R.2.2.2.1 R.2.2.2.2.1 forgottenWhen rowMany R.2.2.2.2.2.1 R.2.2.2.2.2.2.1 R.2.2.2.2.2.2.2.1 R.2.2.2.2.2.2.2.2.1 R.2.2.2.2.2.2.2.2.2.1 R.2.2.2.2.2.2.2.2.2.2.1 R.2.2.2.2.2.2.2.2.2.2.2 row) R.1 Q) : ∀ (v5_50 : Int32) (v6_50 : Int32) (writers_50 : Int32) (year_50 : Int32) (isKeeping_50 : Int32) (cursor_50 : Int32) (kind_50 : (Nat → Int32)) (figure_50 : (Nat → Int32)) (style_50 : (Nat → Int32)) (fame_50 : (Nat → Int32)) (silent_50 : (Nat → Int32)) (ring_50 : (Nat → Int32)) (kept_50 : (Nat → Int32)) (H : Heap) (locs : List Loc) (ls : Array Slot), f_X5_bitsFor_figure_50 x2  v5_50 v6_50 writers_50 year_50 isKeeping_50 cursor_50 kind_50 figure_50 style_50 fame_50 silent_50 ring_50 kept_50 = some R → lv_has ls 8 [(1, .ref (ad 3)), (2, .int x2), (5, .int v5_50), (6, .int v6_50)] → va_P D vwCl (wd_X5_bitsFor_figure cI ad writers_50 year_50 taped at_ statements hasImage isKeeping_50 cursor_50 forgottenWhen rowMany kind_50 figure_50 style_50 fame_50 silent_50 ring_50 kept_50 row) H → va_D A (wd_X5_bitsFor_figure cI ad writers_50 year_50 taped at_ statements hasImage isKeeping_50 cursor_50 forgottenWhen rowMany kind_50 figure_50 style_50 fame_50 silent_50 ring_50 kept_50 row) → va_S A s.heap H locs → Wh p l e 6 s m args below meth c H locs Q (F0 m 50 ls []) := by
  have hx := X.1
  have hb := X.2.1
  intro v5_50 v6_50 writers_50 year_50 isKeeping_50 cursor_50 kind_50 figure_50 style_50 fame_50 silent_50 ring_50 kept_50 H locs ls hf hl hP hD hS
  replace hf : (gd x2 7 (some (v6_50, writers_50, year_50, isKeeping_50, cursor_50, kind_50, (upd figure_50 (Int32.toNatClampNeg x2) v5_50), style_50, fame_50, silent_50, ring_50, kept_50))) = some R := hf
  refine lv_aload_n hx hb dX5_bitsFor_50 rfl (lv_at hl 0 rfl) ?_
  refine lv_iload_n hx hb dX5_bitsFor_51 rfl (lv_at hl 1 rfl) ?_
  refine lv_iload hx hb dX5_bitsFor_52 (lv_at hl 2 rfl) ?_
  refine aPut X hP hD hS (q0 := 2) (ws' := (wd_X5_bitsFor_figure cI ad writers_50 year_50 taped at_ statements hasImage isKeeping_50 cursor_50 forgottenWhen rowMany kind_50 (upd figure_50 (Int32.toNatClampNeg x2) v5_50) style_50 fame_50 silent_50 ring_50 kept_50 row)) rfl (gdS hf).1 rfl dX5_bitsFor_54 (fun H locs hP hD hS => ?_)
  have hf := (gdS hf).2
  refine lv_iload hx hb dX5_bitsFor_55 (lv_at hl 3 rfl) ?_
  have hR := Option.some.inj hf
  subst hR
  exact hret _ _ _ _ _ rfl (fun _ hn => by cases hn; rfl) hP hD hS dX5_bitsFor_57
set_option maxHeartbeats 4000000 in
set_option maxRecDepth 100000 in
theorem c_X5_bitsFor_figure (l : Launch) (D : va_G) (cI : ClassId) (aS : aSt) (ad : Nat → Nat) (writers : Int32) (year : Int32) (taped : Int32) (at_ : Int32) (statements : Int32) (hasImage : Int32) (isKeeping : Int32) (cursor : Int32) (forgottenWhen : Int32) (rowMany : Int32) (kind : (Nat → Int32)) (figure : (Nat → Int32)) (style : (Nat → Int32)) (fame : (Nat → Int32)) (silent : (Nat → Int32)) (ring : (Nat → Int32)) (kept : (Nat → Int32)) (row : (Nat → Int32)) (x2 : Int32) (x3 : Int32) (x4 : Int32) (R : Int32 × Int32 × Int32 × Int32 × Int32 × (Nat → Int32) × (Nat → Int32) × (Nat → Int32) × (Nat → Int32) × (Nat → Int32) × (Nat → Int32) × (Nat → Int32)) (hf : f_X5_bitsFor_figure writers year isKeeping cursor rowMany kind figure style fame silent ring kept row x2 x3 x4 = some R) : CtI l yX5_bitsFor cX5_bitsFor 8 (some .int) 6 D cI aS [.ref (ad 0), .ref (ad 3), .int x2, .int x3, .int x4] (wd_X5_bitsFor_figure cI ad writers year taped at_ statements hasImage isKeeping cursor forgottenWhen rowMany kind figure style fame silent ring kept row) (wd_X5_bitsFor_figure cI ad R.2.1 R.2.2.1 taped at_ statements hasImage R.2.2.2.1 R.2.2.2.2.1 forgottenWhen rowMany R.2.2.2.2.2.1 R.2.2.2.2.2.2.1 R.2.2.2.2.2.2.2.1 R.2.2.2.2.2.2.2.2.1 R.2.2.2.2.2.2.2.2.2.1 R.2.2.2.2.2.2.2.2.2.2.1 R.2.2.2.2.2.2.2.2.2.2.2 row) R.1 := by
  refine ctI_of (by decide) ⟨_, rfl⟩ (Nat.le_of_ble_eq_true rfl) ?_
  intro p e s m below meth c A Q ls X hret hP hD hl
  have hS : va_S A s.heap s.heap [] := va_S.rf
  have hx := X.1
  have hb := X.2.1
  have hl : lv_has ls 8 [(0, .ref (ad 0)), (1, .ref (ad 3)), (2, .int x2), (3, .int x3), (4, .int x4)] := hl
  replace hf : (gd x2 7 (f_X5_bitsFor_figure_11 rowMany row x2 x3 x4 (fun (v6_50 : Int32) (writers_50 : Int32) (year_50 : Int32) (isKeeping_50 : Int32) (cursor_50 : Int32) (kind_50 : (Nat → Int32)) (figure_50 : (Nat → Int32)) (style_50 : (Nat → Int32)) (fame_50 : (Nat → Int32)) (silent_50 : (Nat → Int32)) (ring_50 : (Nat → Int32)) (kept_50 : (Nat → Int32)) => (f_X5_bitsFor_figure_50 x2  (figure (Int32.toNatClampNeg x2)) v6_50 writers_50 year_50 isKeeping_50 cursor_50 kind_50 figure_50 style_50 fame_50 silent_50 ring_50 kept_50)) FU (0 : Int32) (0 : Int32) writers year isKeeping cursor kind figure style fame silent ring kept)) = some R := hf
  refine lv_aload_n hx hb dX5_bitsFor_0 rfl (lv_at hl 1 rfl) ?_
  refine lv_iload_n hx hb dX5_bitsFor_1 rfl (lv_at hl 2 rfl) ?_
  refine aGet X hP (q0 := 2) rfl (gdS hf).1 dX5_bitsFor_2 ?_
  have hf := (gdS hf).2
  refine lv_istore (lv' := [(5, .int (figure (Int32.toNatClampNeg x2))), (0, .ref (ad 0)), (1, .ref (ad 3)), (2, .int x2), (3, .int x3), (4, .int x4)]) hx hb dX5_bitsFor_3 hl (by decide) rfl (fun ls hl => ?_)
  refine lv_iconst (v := 0) hx hb dX5_bitsFor_5 (by decide) ?_
  refine lv_istore (lv' := [(6, .int (0 : Int32)), (5, .int (figure (Int32.toNatClampNeg x2))), (0, .ref (ad 0)), (1, .ref (ad 3)), (2, .int x2), (3, .int x3), (4, .int x4)]) hx hb dX5_bitsFor_6 hl (by decide) rfl (fun ls hl => ?_)
  refine lv_iconst (v := 0) hx hb dX5_bitsFor_8 (by decide) ?_
  refine lv_istore (lv' := [(7, .int (0 : Int32)), (6, .int (0 : Int32)), (5, .int (figure (Int32.toNatClampNeg x2))), (0, .ref (ad 0)), (1, .ref (ad 3)), (2, .int x2), (3, .int x3), (4, .int x4)]) hx hb dX5_bitsFor_9 hl (by decide) rfl (fun ls hl => ?_)
  exact w_X5_bitsFor_figure_11 ad taped at_ statements hasImage forgottenWhen rowMany row x2 x3 x4 (figure (Int32.toNatClampNeg x2)) X hret _ (fun v6_50 writers_50 year_50 isKeeping_50 cursor_50 kind_50 figure_50 style_50 fame_50 silent_50 ring_50 kept_50 _ _ _ hf hl hP hD hS => w_X5_bitsFor_figure_50 ad taped at_ statements hasImage forgottenWhen rowMany row x2 x3 x4 X hret  (figure (Int32.toNatClampNeg x2)) v6_50 writers_50 year_50 isKeeping_50 cursor_50 kind_50 figure_50 style_50 fame_50 silent_50 ring_50 kept_50 _ _ _ hf (lv_sub hl [0, 1, 2, 3] rfl) hP hD hS) _ (0 : Int32) (0 : Int32) writers year isKeeping cursor kind figure style fame silent ring kept _ _ _ hf (lv_sub hl [3, 4, 5, 6, 7, 2, 1, 0] rfl) hP hD hS

abbrev wd_X5_bitsFor_kind (cI : ClassId) (ad : Nat → Nat) (writers : Int32) (year : Int32) (taped : Int32) (at_ : Int32) (statements : Int32) (hasImage : Int32) (isKeeping : Int32) (cursor : Int32) (forgottenWhen : Int32) (rowMany : Int32) (kind : (Nat → Int32)) (figure : (Nat → Int32)) (style : (Nat → Int32)) (fame : (Nat → Int32)) (silent : (Nat → Int32)) (ring : (Nat → Int32)) (kept : (Nat → Int32)) (row : (Nat → Int32)) : va_W := [((ad 0), .inr (5, [.ref (ad 1), .ref (ad 2), .ref (ad 3), .ref (ad 4), .ref (ad 5), .ref (ad 6), .ref (ad 7), .int writers, .int year, .ref (ad 8), .ref (ad 9), .ref (ad 10), .ref (ad 11), .int taped, .int at_, .int statements, .ref (ad 12), .int hasImage, .int isKeeping, .int cursor, .int forgottenWhen, .ref (ad 13), .ref (ad 14), .ref (ad 15), .int rowMany])), ((ad 2), .inl (cI, 7, .inl kind)), ((ad 3), .inl (cI, 7, .inl figure)), ((ad 4), .inl (cI, 7, .inl style)), ((ad 5), .inl (cI, 7, .inl fame)), ((ad 6), .inl (cI, 7, .inl silent)), ((ad 7), .inl (cI, 7, .inl ring)), ((ad 12), .inl (cI, 132, .inl kept)), ((ad 15), .inl (cI, 16, .inl row))]
def f_X5_bitsFor_kind_41  (kL11 : Int32 → Int32 → Int32 → Int32 → Int32 → Int32 → (Nat → Int32) → (Nat → Int32) → (Nat → Int32) → (Nat → Int32) → (Nat → Int32) → (Nat → Int32) → (Nat → Int32) → Option (Int32 × Int32 × Int32 × Int32 × Int32 × (Nat → Int32) × (Nat → Int32) × (Nat → Int32) × (Nat → Int32) × (Nat → Int32) × (Nat → Int32) × (Nat → Int32))) (v7_41 : Int32) (writers_41 : Int32) (year_41 : Int32) (isKeeping_41 : Int32) (cursor_41 : Int32) (kind_41 : (Nat → Int32)) (figure_41 : (Nat → Int32)) (style_41 : (Nat → Int32)) (fame_41 : (Nat → Int32)) (silent_41 : (Nat → Int32)) (ring_41 : (Nat → Int32)) (kept_41 : (Nat → Int32)) (t0_41 : Int32) (t1_41 : Int32) : Option (Int32 × Int32 × Int32 × Int32 × Int32 × (Nat → Int32) × (Nat → Int32) × (Nat → Int32) × (Nat → Int32) × (Nat → Int32) × (Nat → Int32) × (Nat → Int32)) := (kL11 (t0_41 ||| t1_41) (v7_41 + (1 : Int32)) writers_41 year_41 isKeeping_41 cursor_41 kind_41 figure_41 style_41 fame_41 silent_41 ring_41 kept_41)
def f_X5_bitsFor_kind_11 (rowMany : Int32) (row : (Nat → Int32)) (x2 : Int32) (x3 : Int32) (x4 : Int32) (kX11_50 : Int32 → Int32 → Int32 → Int32 → Int32 → (Nat → Int32) → (Nat → Int32) → (Nat → Int32) → (Nat → Int32) → (Nat → Int32) → (Nat → Int32) → (Nat → Int32) → Option (Int32 × Int32 × Int32 × Int32 × Int32 × (Nat → Int32) × (Nat → Int32) × (Nat → Int32) × (Nat → Int32) × (Nat → Int32) × (Nat → Int32) × (Nat → Int32))) : Nat → Int32 → Int32 → Int32 → Int32 → Int32 → Int32 → (Nat → Int32) → (Nat → Int32) → (Nat → Int32) → (Nat → Int32) → (Nat → Int32) → (Nat → Int32) → (Nat → Int32) → Option (Int32 × Int32 × Int32 × Int32 × Int32 × (Nat → Int32) × (Nat → Int32) × (Nat → Int32) × (Nat → Int32) × (Nat → Int32) × (Nat → Int32) × (Nat → Int32))
  | 0 => fun _ _ _ _ _ _ _ _ _ _ _ _ _ => none
  | fuel + 1 => fun v6_11 v7_11 writers_11 year_11 isKeeping_11 cursor_11 kind_11 figure_11 style_11 fame_11 silent_11 ring_11 kept_11 => (if x4 ≤ v7_11 then (kX11_50 v6_11 writers_11 year_11 isKeeping_11 cursor_11 kind_11 figure_11 style_11 fame_11 silent_11 ring_11 kept_11) else (gd x2 7 ((f_X5_isFamedSo writers_11 year_11 isKeeping_11 cursor_11 rowMany (upd kind_11 (Int32.toNatClampNeg x2) v7_11) figure_11 style_11 fame_11 silent_11 ring_11 kept_11 row x3).bind fun (r27 : Int32 × Int32 × Int32 × Int32 × Int32 × (Nat → Int32) × (Nat → Int32) × (Nat → Int32) × (Nat → Int32) × (Nat → Int32) × (Nat → Int32) × (Nat → Int32)) => (if r27.1 = 0 then (f_X5_bitsFor_kind_41  (f_X5_bitsFor_kind_11 rowMany row x2 x3 x4 kX11_50 fuel) v7_11 r27.2.1 r27.2.2.1 r27.2.2.2.1 r27.2.2.2.2.1 r27.2.2.2.2.2.1 r27.2.2.2.2.2.2.1 r27.2.2.2.2.2.2.2.1 r27.2.2.2.2.2.2.2.2.1 r27.2.2.2.2.2.2.2.2.2.1 r27.2.2.2.2.2.2.2.2.2.2.1 r27.2.2.2.2.2.2.2.2.2.2.2 v6_11 (0 : Int32)) else (f_X5_bitsFor_kind_41  (f_X5_bitsFor_kind_11 rowMany row x2 x3 x4 kX11_50 fuel) v7_11 r27.2.1 r27.2.2.1 r27.2.2.2.1 r27.2.2.2.2.1 r27.2.2.2.2.2.1 r27.2.2.2.2.2.2.1 r27.2.2.2.2.2.2.2.1 r27.2.2.2.2.2.2.2.2.1 r27.2.2.2.2.2.2.2.2.2.1 r27.2.2.2.2.2.2.2.2.2.2.1 r27.2.2.2.2.2.2.2.2.2.2.2 v6_11 (shlI (1 : Int32) v7_11))))))
theorem e_X5_bitsFor_kind_11 (rowMany : Int32) (row : (Nat → Int32)) (x2 : Int32) (x3 : Int32) (x4 : Int32) (kX11_50 : Int32 → Int32 → Int32 → Int32 → Int32 → (Nat → Int32) → (Nat → Int32) → (Nat → Int32) → (Nat → Int32) → (Nat → Int32) → (Nat → Int32) → (Nat → Int32) → Option (Int32 × Int32 × Int32 × Int32 × Int32 × (Nat → Int32) × (Nat → Int32) × (Nat → Int32) × (Nat → Int32) × (Nat → Int32) × (Nat → Int32) × (Nat → Int32))) (fuel : Nat) (v6_11 : Int32) (v7_11 : Int32) (writers_11 : Int32) (year_11 : Int32) (isKeeping_11 : Int32) (cursor_11 : Int32) (kind_11 : (Nat → Int32)) (figure_11 : (Nat → Int32)) (style_11 : (Nat → Int32)) (fame_11 : (Nat → Int32)) (silent_11 : (Nat → Int32)) (ring_11 : (Nat → Int32)) (kept_11 : (Nat → Int32)) : f_X5_bitsFor_kind_11 rowMany row x2 x3 x4 kX11_50 (fuel + 1) v6_11 v7_11 writers_11 year_11 isKeeping_11 cursor_11 kind_11 figure_11 style_11 fame_11 silent_11 ring_11 kept_11 = (if x4 ≤ v7_11 then (kX11_50 v6_11 writers_11 year_11 isKeeping_11 cursor_11 kind_11 figure_11 style_11 fame_11 silent_11 ring_11 kept_11) else (gd x2 7 ((f_X5_isFamedSo writers_11 year_11 isKeeping_11 cursor_11 rowMany (upd kind_11 (Int32.toNatClampNeg x2) v7_11) figure_11 style_11 fame_11 silent_11 ring_11 kept_11 row x3).bind fun (r27 : Int32 × Int32 × Int32 × Int32 × Int32 × (Nat → Int32) × (Nat → Int32) × (Nat → Int32) × (Nat → Int32) × (Nat → Int32) × (Nat → Int32) × (Nat → Int32)) => (if r27.1 = 0 then (f_X5_bitsFor_kind_41  (f_X5_bitsFor_kind_11 rowMany row x2 x3 x4 kX11_50 fuel) v7_11 r27.2.1 r27.2.2.1 r27.2.2.2.1 r27.2.2.2.2.1 r27.2.2.2.2.2.1 r27.2.2.2.2.2.2.1 r27.2.2.2.2.2.2.2.1 r27.2.2.2.2.2.2.2.2.1 r27.2.2.2.2.2.2.2.2.2.1 r27.2.2.2.2.2.2.2.2.2.2.1 r27.2.2.2.2.2.2.2.2.2.2.2 v6_11 (0 : Int32)) else (f_X5_bitsFor_kind_41  (f_X5_bitsFor_kind_11 rowMany row x2 x3 x4 kX11_50 fuel) v7_11 r27.2.1 r27.2.2.1 r27.2.2.2.1 r27.2.2.2.2.1 r27.2.2.2.2.2.1 r27.2.2.2.2.2.2.1 r27.2.2.2.2.2.2.2.1 r27.2.2.2.2.2.2.2.2.1 r27.2.2.2.2.2.2.2.2.2.1 r27.2.2.2.2.2.2.2.2.2.2.1 r27.2.2.2.2.2.2.2.2.2.2.2 v6_11 (shlI (1 : Int32) v7_11)))))) := rfl
def f_X5_bitsFor_kind_50 (x2 : Int32)  (v5_50 : Int32) (v6_50 : Int32) (writers_50 : Int32) (year_50 : Int32) (isKeeping_50 : Int32) (cursor_50 : Int32) (kind_50 : (Nat → Int32)) (figure_50 : (Nat → Int32)) (style_50 : (Nat → Int32)) (fame_50 : (Nat → Int32)) (silent_50 : (Nat → Int32)) (ring_50 : (Nat → Int32)) (kept_50 : (Nat → Int32)) : Option (Int32 × Int32 × Int32 × Int32 × Int32 × (Nat → Int32) × (Nat → Int32) × (Nat → Int32) × (Nat → Int32) × (Nat → Int32) × (Nat → Int32) × (Nat → Int32)) := (gd x2 7 (some (v6_50, writers_50, year_50, isKeeping_50, cursor_50, (upd kind_50 (Int32.toNatClampNeg x2) v5_50), figure_50, style_50, fame_50, silent_50, ring_50, kept_50)))
def f_X5_bitsFor_kind (writers : Int32) (year : Int32) (isKeeping : Int32) (cursor : Int32) (rowMany : Int32) (kind : (Nat → Int32)) (figure : (Nat → Int32)) (style : (Nat → Int32)) (fame : (Nat → Int32)) (silent : (Nat → Int32)) (ring : (Nat → Int32)) (kept : (Nat → Int32)) (row : (Nat → Int32)) (x2 : Int32) (x3 : Int32) (x4 : Int32) : Option (Int32 × Int32 × Int32 × Int32 × Int32 × (Nat → Int32) × (Nat → Int32) × (Nat → Int32) × (Nat → Int32) × (Nat → Int32) × (Nat → Int32) × (Nat → Int32)) := (gd x2 7 (f_X5_bitsFor_kind_11 rowMany row x2 x3 x4 (fun (v6_50 : Int32) (writers_50 : Int32) (year_50 : Int32) (isKeeping_50 : Int32) (cursor_50 : Int32) (kind_50 : (Nat → Int32)) (figure_50 : (Nat → Int32)) (style_50 : (Nat → Int32)) (fame_50 : (Nat → Int32)) (silent_50 : (Nat → Int32)) (ring_50 : (Nat → Int32)) (kept_50 : (Nat → Int32)) => (f_X5_bitsFor_kind_50 x2  (kind (Int32.toNatClampNeg x2)) v6_50 writers_50 year_50 isKeeping_50 cursor_50 kind_50 figure_50 style_50 fame_50 silent_50 ring_50 kept_50)) FU (0 : Int32) (0 : Int32) writers year isKeeping cursor kind figure style fame silent ring kept))
set_option maxHeartbeats 4000000 in
set_option maxRecDepth 100000 in
theorem w_X5_bitsFor_kind_41 {p : Program} {l : Launch} {e : Env} {s : State} {m : MethodId} {args : Array Value} {below : List Frame} {meth : Method} {c : Code} {D : va_G} {cI : ClassId} {aS : aSt} {A : Nat → Prop} {Q : State → Prop}  (ad : Nat → Nat) (taped : Int32) (at_ : Int32) (statements : Int32) (hasImage : Int32) (forgottenWhen : Int32) (rowMany : Int32) (row : (Nat → Int32)) (x2 : Int32) (x3 : Int32) (x4 : Int32) (u5_11 : Int32) {R : Int32 × Int32 × Int32 × Int32 × Int32 × (Nat → Int32) × (Nat → Int32) × (Nat → Int32) × (Nat → Int32) × (Nat → Int32) × (Nat → Int32) × (Nat → Int32)} (X : Bx p s m args meth c cX5_bitsFor 8 (some .int) RX5 D cI aS A) (hret : RtI p l e 6 s m args below meth c cX5_bitsFor (some .int) D A (wd_X5_bitsFor_kind cI ad R.2.1 R.2.2.1 taped at_ statements hasImage R.2.2.2.1 R.2.2.2.2.1 forgottenWhen rowMany R.2.2.2.2.2.1 R.2.2.2.2.2.2.1 R.2.2.2.2.2.2.2.1 R.2.2.2.2.2.2.2.2.1 R.2.2.2.2.2.2.2.2.2.1 R.2.2.2.2.2.2.2.2.2.2.1 R.2.2.2.2.2.2.2.2.2.2.2 row) R.1 Q) (kL11 : Int32 → Int32 → Int32 → Int32 → Int32 → Int32 → (Nat → Int32) → (Nat → Int32) → (Nat → Int32) → (Nat → Int32) → (Nat → Int32) → (Nat → Int32) → (Nat → Int32) → Option (Int32 × Int32 × Int32 × Int32 × Int32 × (Nat → Int32) × (Nat → Int32) × (Nat → Int32) × (Nat → Int32) × (Nat → Int32) × (Nat → Int32) × (Nat → Int32))) (hkL11 : ∀ (v6_11 : Int32) (v7_11 : Int32) (writers_11 : Int32) (year_11 : Int32) (isKeeping_11 : Int32) (cursor_11 : Int32) (kind_11 : (Nat → Int32)) (figure_11 : (Nat → Int32)) (style_11 : (Nat → Int32)) (fame_11 : (Nat → Int32)) (silent_11 : (Nat → Int32)) (ring_11 : (Nat → Int32)) (kept_11 : (Nat → Int32)) (H : Heap) (locs : List Loc) (ls : Array Slot), kL11 v6_11 v7_11 writers_11 year_11 isKeeping_11 cursor_11 kind_11 figure_11 style_11 fame_11 silent_11 ring_11 kept_11 = some R → lv_has ls 8 [(0, .ref (ad 0)), (1, .ref (ad 2)), (2, .int x2), (3, .int x3), (4, .int x4), (5, .int u5_11), (6, .int v6_11), (7, .int v7_11)] → va_P D vwCl (wd_X5_bitsFor_kind cI ad writers_11 year_11 taped at_ statements hasImage isKeeping_11 cursor_11 forgottenWhen rowMany kind_11 figure_11 style_11 fame_11 silent_11 ring_11 kept_11 row) H → va_D A (wd_X5_bitsFor_kind cI ad writers_11 year_11 taped at_ statements hasImage isKeeping_11 cursor_11 forgottenWhen rowMany kind_11 figure_11 style_11 fame_11 silent_11 ring_11 kept_11 row) → va_S A s.heap H locs → Wh p l e 6 s m args below meth c H locs Q (F0 m 11 ls [])) : ∀ (v7_41 : Int32) (writers_41 : Int32) (year_41 : Int32) (isKeeping_41 : Int32) (cursor_41 : Int32) (kind_41 : (Nat → Int32)) (figure_41 : (Nat → Int32)) (style_41 : (Nat → Int32)) (fame_41 : (Nat → Int32)) (silent_41 : (Nat → Int32)) (ring_41 : (Nat → Int32)) (kept_41 : (Nat → Int32)) (t0_41 : Int32) (t1_41 : Int32) (H : Heap) (locs : List Loc) (ls : Array Slot), f_X5_bitsFor_kind_41  kL11 v7_41 writers_41 year_41 isKeeping_41 cursor_41 kind_41 figure_41 style_41 fame_41 silent_41 ring_41 kept_41 t0_41 t1_41 = some R → lv_has ls 8 [(0, .ref (ad 0)), (1, .ref (ad 2)), (2, .int x2), (3, .int x3), (4, .int x4), (5, .int u5_11), (7, .int v7_41)] → va_P D vwCl (wd_X5_bitsFor_kind cI ad writers_41 year_41 taped at_ statements hasImage isKeeping_41 cursor_41 forgottenWhen rowMany kind_41 figure_41 style_41 fame_41 silent_41 ring_41 kept_41 row) H → va_D A (wd_X5_bitsFor_kind cI ad writers_41 year_41 taped at_ statements hasImage isKeeping_41 cursor_41 forgottenWhen rowMany kind_41 figure_41 style_41 fame_41 silent_41 ring_41 kept_41 row) → va_S A s.heap H locs → Wh p l e 6 s m args below meth c H locs Q (F0 m 41 ls [.int t1_41, .int t0_41]) := by
  have hx := X.1
  have hb := X.2.1
  intro v7_41 writers_41 year_41 isKeeping_41 cursor_41 kind_41 figure_41 style_41 fame_41 silent_41 ring_41 kept_41 t0_41 t1_41 H locs ls hf hl hP hD hS
  replace hf : (kL11 (t0_41 ||| t1_41) (v7_41 + (1 : Int32)) writers_41 year_41 isKeeping_41 cursor_41 kind_41 figure_41 style_41 fame_41 silent_41 ring_41 kept_41) = some R := hf
  refine lv_ior hx hb dX5_bitsFor_41 ?_
  refine lv_istore (lv' := [(6, .int (t0_41 ||| t1_41)), (0, .ref (ad 0)), (1, .ref (ad 2)), (2, .int x2), (3, .int x3), (4, .int x4), (5, .int u5_11), (7, .int v7_41)]) hx hb dX5_bitsFor_42 hl (by decide) rfl (fun ls hl => ?_)
  refine lv_iinc (v := (v7_41 + (1 : Int32))) (lv' := [(7, .int (v7_41 + (1 : Int32))), (6, .int (t0_41 ||| t1_41)), (0, .ref (ad 0)), (1, .ref (ad 2)), (2, .int x2), (3, .int x3), (4, .int x4), (5, .int u5_11)]) hx hb dX5_bitsFor_44 hl (k := 7) rfl rfl (by decide) rfl (fun ls hl => ?_)
  refine lv_goto (tgt := 11) hx hb dX5_bitsFor_47 (by decide) ?_
  exact hkL11 (t0_41 ||| t1_41) (v7_41 + (1 : Int32)) writers_41 year_41 isKeeping_41 cursor_41 kind_41 figure_41 style_41 fame_41 silent_41 ring_41 kept_41 _ _ _ hf (lv_sub hl [2, 3, 4, 5, 6, 7, 1, 0] rfl) hP hD hS
set_option maxHeartbeats 4000000 in
set_option maxRecDepth 100000 in
theorem w_X5_bitsFor_kind_11 {p : Program} {l : Launch} {e : Env} {s : State} {m : MethodId} {args : Array Value} {below : List Frame} {meth : Method} {c : Code} {D : va_G} {cI : ClassId} {aS : aSt} {A : Nat → Prop} {Q : State → Prop}  (ad : Nat → Nat) (taped : Int32) (at_ : Int32) (statements : Int32) (hasImage : Int32) (forgottenWhen : Int32) (rowMany : Int32) (row : (Nat → Int32)) (x2 : Int32) (x3 : Int32) (x4 : Int32) (u5_11 : Int32) {R : Int32 × Int32 × Int32 × Int32 × Int32 × (Nat → Int32) × (Nat → Int32) × (Nat → Int32) × (Nat → Int32) × (Nat → Int32) × (Nat → Int32) × (Nat → Int32)} (X : Bx p s m args meth c cX5_bitsFor 8 (some .int) RX5 D cI aS A) (hret : RtI p l e 6 s m args below meth c cX5_bitsFor (some .int) D A (wd_X5_bitsFor_kind cI ad R.2.1 R.2.2.1 taped at_ statements hasImage R.2.2.2.1 R.2.2.2.2.1 forgottenWhen rowMany R.2.2.2.2.2.1 R.2.2.2.2.2.2.1 R.2.2.2.2.2.2.2.1 R.2.2.2.2.2.2.2.2.1 R.2.2.2.2.2.2.2.2.2.1 R.2.2.2.2.2.2.2.2.2.2.1 R.2.2.2.2.2.2.2.2.2.2.2 row) R.1 Q) (kX11_50 : Int32 → Int32 → Int32 → Int32 → Int32 → (Nat → Int32) → (Nat → Int32) → (Nat → Int32) → (Nat → Int32) → (Nat → Int32) → (Nat → Int32) → (Nat → Int32) → Option (Int32 × Int32 × Int32 × Int32 × Int32 × (Nat → Int32) × (Nat → Int32) × (Nat → Int32) × (Nat → Int32) × (Nat → Int32) × (Nat → Int32) × (Nat → Int32))) (hkX11_50 : ∀ (v6_50 : Int32) (writers_50 : Int32) (year_50 : Int32) (isKeeping_50 : Int32) (cursor_50 : Int32) (kind_50 : (Nat → Int32)) (figure_50 : (Nat → Int32)) (style_50 : (Nat → Int32)) (fame_50 : (Nat → Int32)) (silent_50 : (Nat → Int32)) (ring_50 : (Nat → Int32)) (kept_50 : (Nat → Int32)) (H : Heap) (locs : List Loc) (ls : Array Slot), kX11_50 v6_50 writers_50 year_50 isKeeping_50 cursor_50 kind_50 figure_50 style_50 fame_50 silent_50 ring_50 kept_50 = some R → lv_has ls 8 [(1, .ref (ad 2)), (2, .int x2), (5, .int u5_11), (6, .int v6_50)] → va_P D vwCl (wd_X5_bitsFor_kind cI ad writers_50 year_50 taped at_ statements hasImage isKeeping_50 cursor_50 forgottenWhen rowMany kind_50 figure_50 style_50 fame_50 silent_50 ring_50 kept_50 row) H → va_D A (wd_X5_bitsFor_kind cI ad writers_50 year_50 taped at_ statements hasImage isKeeping_50 cursor_50 forgottenWhen rowMany kind_50 figure_50 style_50 fame_50 silent_50 ring_50 kept_50 row) → va_S A s.heap H locs → Wh p l e 6 s m args below meth c H locs Q (F0 m 50 ls [])) : ∀ (fuel : Nat) (v6_11 : Int32) (v7_11 : Int32) (writers_11 : Int32) (year_11 : Int32) (isKeeping_11 : Int32) (cursor_11 : Int32) (kind_11 : (Nat → Int32)) (figure_11 : (Nat → Int32)) (style_11 : (Nat → Int32)) (fame_11 : (Nat → Int32)) (silent_11 : (Nat → Int32)) (ring_11 : (Nat → Int32)) (kept_11 : (Nat → Int32)) (H : Heap) (locs : List Loc) (ls : Array Slot), f_X5_bitsFor_kind_11 rowMany row x2 x3 x4 kX11_50 fuel v6_11 v7_11 writers_11 year_11 isKeeping_11 cursor_11 kind_11 figure_11 style_11 fame_11 silent_11 ring_11 kept_11 = some R → lv_has ls 8 [(0, .ref (ad 0)), (1, .ref (ad 2)), (2, .int x2), (3, .int x3), (4, .int x4), (5, .int u5_11), (6, .int v6_11), (7, .int v7_11)] → va_P D vwCl (wd_X5_bitsFor_kind cI ad writers_11 year_11 taped at_ statements hasImage isKeeping_11 cursor_11 forgottenWhen rowMany kind_11 figure_11 style_11 fame_11 silent_11 ring_11 kept_11 row) H → va_D A (wd_X5_bitsFor_kind cI ad writers_11 year_11 taped at_ statements hasImage isKeeping_11 cursor_11 forgottenWhen rowMany kind_11 figure_11 style_11 fame_11 silent_11 ring_11 kept_11 row) → va_S A s.heap H locs → Wh p l e 6 s m args below meth c H locs Q (F0 m 11 ls []) := by
  have hx := X.1
  have hb := X.2.1
  intro fuel
  induction fuel with
  | zero =>
    intro v6_11 v7_11 writers_11 year_11 isKeeping_11 cursor_11 kind_11 figure_11 style_11 fame_11 silent_11 ring_11 kept_11 H locs ls hf hl hP hD hS
    cases hf
  | succ fuel ih =>
    intro v6_11 v7_11 writers_11 year_11 isKeeping_11 cursor_11 kind_11 figure_11 style_11 fame_11 silent_11 ring_11 kept_11 H locs ls hf hl hP hD hS
    replace hf : (if x4 ≤ v7_11 then (kX11_50 v6_11 writers_11 year_11 isKeeping_11 cursor_11 kind_11 figure_11 style_11 fame_11 silent_11 ring_11 kept_11) else (gd x2 7 ((f_X5_isFamedSo writers_11 year_11 isKeeping_11 cursor_11 rowMany (upd kind_11 (Int32.toNatClampNeg x2) v7_11) figure_11 style_11 fame_11 silent_11 ring_11 kept_11 row x3).bind fun (r27 : Int32 × Int32 × Int32 × Int32 × Int32 × (Nat → Int32) × (Nat → Int32) × (Nat → Int32) × (Nat → Int32) × (Nat → Int32) × (Nat → Int32) × (Nat → Int32)) => (if r27.1 = 0 then (f_X5_bitsFor_kind_41  (f_X5_bitsFor_kind_11 rowMany row x2 x3 x4 kX11_50 fuel) v7_11 r27.2.1 r27.2.2.1 r27.2.2.2.1 r27.2.2.2.2.1 r27.2.2.2.2.2.1 r27.2.2.2.2.2.2.1 r27.2.2.2.2.2.2.2.1 r27.2.2.2.2.2.2.2.2.1 r27.2.2.2.2.2.2.2.2.2.1 r27.2.2.2.2.2.2.2.2.2.2.1 r27.2.2.2.2.2.2.2.2.2.2.2 v6_11 (0 : Int32)) else (f_X5_bitsFor_kind_41  (f_X5_bitsFor_kind_11 rowMany row x2 x3 x4 kX11_50 fuel) v7_11 r27.2.1 r27.2.2.1 r27.2.2.2.1 r27.2.2.2.2.1 r27.2.2.2.2.2.1 r27.2.2.2.2.2.2.1 r27.2.2.2.2.2.2.2.1 r27.2.2.2.2.2.2.2.2.1 r27.2.2.2.2.2.2.2.2.2.1 r27.2.2.2.2.2.2.2.2.2.2.1 r27.2.2.2.2.2.2.2.2.2.2.2 v6_11 (shlI (1 : Int32) v7_11)))))) = some R := hf
    refine lv_iload hx hb dX5_bitsFor_11 (lv_at hl 7 rfl) ?_
    refine lv_iload hx hb dX5_bitsFor_13 (lv_at hl 4 rfl) ?_
    refine lv_icmp_ge (tgt := 50) hx hb dX5_bitsFor_15 (by decide) (fun c15 => ?_) (fun c15 => ?_)
    · have hf := iT c15 hf
      exact hkX11_50 v6_11 writers_11 year_11 isKeeping_11 cursor_11 kind_11 figure_11 style_11 fame_11 silent_11 ring_11 kept_11 _ _ _ hf (lv_sub hl [1, 2, 5, 6] rfl) hP hD hS
    · have hf := iF c15 hf
      refine lv_aload_n hx hb dX5_bitsFor_18 rfl (lv_at hl 1 rfl) ?_
      refine lv_iload_n hx hb dX5_bitsFor_19 rfl (lv_at hl 2 rfl) ?_
      refine lv_iload hx hb dX5_bitsFor_20 (lv_at hl 7 rfl) ?_
      refine aPut X hP hD hS (q0 := 1) (ws' := (wd_X5_bitsFor_kind cI ad writers_11 year_11 taped at_ statements hasImage isKeeping_11 cursor_11 forgottenWhen rowMany (upd kind_11 (Int32.toNatClampNeg x2) v7_11) figure_11 style_11 fame_11 silent_11 ring_11 kept_11 row)) rfl (gdS hf).1 rfl dX5_bitsFor_22 (fun H locs hP hD hS => ?_)
      have hf := (gdS hf).2
      refine lv_iload hx hb dX5_bitsFor_23 (lv_at hl 6 rfl) ?_
      refine lv_aload_n hx hb dX5_bitsFor_25 rfl (lv_at hl 0 rfl) ?_
      refine lv_iload_n hx hb dX5_bitsFor_26 rfl (lv_at hl 3 rfl) ?_
      obtain ⟨r27, hq27, hf⟩ := bS hf
      refine wr_i X hP hD hS [0, 1, 2, 3, 4, 5, 6, 7, 8] rfl (ws' := (wd_X5_bitsFor_kind cI ad r27.2.1 r27.2.2.1 taped at_ statements hasImage r27.2.2.2.1 r27.2.2.2.2.1 forgottenWhen rowMany r27.2.2.2.2.2.1 r27.2.2.2.2.2.2.1 r27.2.2.2.2.2.2.2.1 r27.2.2.2.2.2.2.2.2.1 r27.2.2.2.2.2.2.2.2.2.1 r27.2.2.2.2.2.2.2.2.2.2.1 r27.2.2.2.2.2.2.2.2.2.2.2 row)) (Nat.le_of_ble_eq_true rfl) rfl rfl (run_V X hP hD hS [0, 1, 2, 3, 4, 5, 6, 7, 8] rfl rfl (c_X5_isFamedSo l D cI aS ad writers_11 year_11 taped at_ statements hasImage isKeeping_11 cursor_11 forgottenWhen rowMany (upd kind_11 (Int32.toNatClampNeg x2) v7_11) figure_11 style_11 fame_11 silent_11 ring_11 kept_11 row x3 _ hq27 _) lkX5_263 (by decide) (q0 := 0) rfl rfl rfl rfl (Nat.le_of_ble_eq_true rfl) hl.1 dX5_bitsFor_27) (fun H locs hP hD hS => ?_)
      refine lv_if_eq (tgt := 40) hx hb dX5_bitsFor_30 (by decide) (fun c30 => ?_) (fun c30 => ?_)
      · have hf := iT c30 hf
        refine lv_iconst (v := 0) hx hb dX5_bitsFor_40 (by decide) ?_
        exact w_X5_bitsFor_kind_41 ad taped at_ statements hasImage forgottenWhen rowMany row x2 x3 x4 u5_11 X hret _ ih v7_11 r27.2.1 r27.2.2.1 r27.2.2.2.1 r27.2.2.2.2.1 r27.2.2.2.2.2.1 r27.2.2.2.2.2.2.1 r27.2.2.2.2.2.2.2.1 r27.2.2.2.2.2.2.2.2.1 r27.2.2.2.2.2.2.2.2.2.1 r27.2.2.2.2.2.2.2.2.2.2.1 r27.2.2.2.2.2.2.2.2.2.2.2 v6_11 (0 : Int32) _ _ _ hf (lv_sub hl [0, 1, 2, 3, 4, 5, 7] rfl) hP hD hS
      · have hf := iF c30 hf
        refine lv_iconst (v := 1) hx hb dX5_bitsFor_33 (by decide) ?_
        refine lv_iload hx hb dX5_bitsFor_34 (lv_at hl 7 rfl) ?_
        refine x_ishl hx hb dX5_bitsFor_36 ?_
        refine lv_goto (tgt := 41) hx hb dX5_bitsFor_37 (by decide) ?_
        exact w_X5_bitsFor_kind_41 ad taped at_ statements hasImage forgottenWhen rowMany row x2 x3 x4 u5_11 X hret _ ih v7_11 r27.2.1 r27.2.2.1 r27.2.2.2.1 r27.2.2.2.2.1 r27.2.2.2.2.2.1 r27.2.2.2.2.2.2.1 r27.2.2.2.2.2.2.2.1 r27.2.2.2.2.2.2.2.2.1 r27.2.2.2.2.2.2.2.2.2.1 r27.2.2.2.2.2.2.2.2.2.2.1 r27.2.2.2.2.2.2.2.2.2.2.2 v6_11 (shlI (1 : Int32) v7_11) _ _ _ hf (lv_sub hl [0, 1, 2, 3, 4, 5, 7] rfl) hP hD hS
set_option maxHeartbeats 4000000 in
set_option maxRecDepth 100000 in
theorem w_X5_bitsFor_kind_50 {p : Program} {l : Launch} {e : Env} {s : State} {m : MethodId} {args : Array Value} {below : List Frame} {meth : Method} {c : Code} {D : va_G} {cI : ClassId} {aS : aSt} {A : Nat → Prop} {Q : State → Prop}  (ad : Nat → Nat) (taped : Int32) (at_ : Int32) (statements : Int32) (hasImage : Int32) (forgottenWhen : Int32) (rowMany : Int32) (row : (Nat → Int32)) (x2 : Int32) (x3 : Int32) (x4 : Int32) {R : Int32 × Int32 × Int32 × Int32 × Int32 × (Nat → Int32) × (Nat → Int32) × (Nat → Int32) × (Nat → Int32) × (Nat → Int32) × (Nat → Int32) × (Nat → Int32)} (X : Bx p s m args meth c cX5_bitsFor 8 (some .int) RX5 D cI aS A) (hret : RtI p l e 6 s m args below meth c cX5_bitsFor (some .int) D A (wd_X5_bitsFor_kind cI ad R.2.1 R.2.2.1 taped at_ statements hasImage R.2.2.2.1 R.2.2.2.2.1 forgottenWhen rowMany R.2.2.2.2.2.1 R.2.2.2.2.2.2.1 R.2.2.2.2.2.2.2.1 R.2.2.2.2.2.2.2.2.1 R.2.2.2.2.2.2.2.2.2.1 R.2.2.2.2.2.2.2.2.2.2.1 R.2.2.2.2.2.2.2.2.2.2.2 row) R.1 Q) : ∀ (v5_50 : Int32) (v6_50 : Int32) (writers_50 : Int32) (year_50 : Int32) (isKeeping_50 : Int32) (cursor_50 : Int32) (kind_50 : (Nat → Int32)) (figure_50 : (Nat → Int32)) (style_50 : (Nat → Int32)) (fame_50 : (Nat → Int32)) (silent_50 : (Nat → Int32)) (ring_50 : (Nat → Int32)) (kept_50 : (Nat → Int32)) (H : Heap) (locs : List Loc) (ls : Array Slot), f_X5_bitsFor_kind_50 x2  v5_50 v6_50 writers_50 year_50 isKeeping_50 cursor_50 kind_50 figure_50 style_50 fame_50 silent_50 ring_50 kept_50 = some R → lv_has ls 8 [(1, .ref (ad 2)), (2, .int x2), (5, .int v5_50), (6, .int v6_50)] → va_P D vwCl (wd_X5_bitsFor_kind cI ad writers_50 year_50 taped at_ statements hasImage isKeeping_50 cursor_50 forgottenWhen rowMany kind_50 figure_50 style_50 fame_50 silent_50 ring_50 kept_50 row) H → va_D A (wd_X5_bitsFor_kind cI ad writers_50 year_50 taped at_ statements hasImage isKeeping_50 cursor_50 forgottenWhen rowMany kind_50 figure_50 style_50 fame_50 silent_50 ring_50 kept_50 row) → va_S A s.heap H locs → Wh p l e 6 s m args below meth c H locs Q (F0 m 50 ls []) := by
  have hx := X.1
  have hb := X.2.1
  intro v5_50 v6_50 writers_50 year_50 isKeeping_50 cursor_50 kind_50 figure_50 style_50 fame_50 silent_50 ring_50 kept_50 H locs ls hf hl hP hD hS
  replace hf : (gd x2 7 (some (v6_50, writers_50, year_50, isKeeping_50, cursor_50, (upd kind_50 (Int32.toNatClampNeg x2) v5_50), figure_50, style_50, fame_50, silent_50, ring_50, kept_50))) = some R := hf
  refine lv_aload_n hx hb dX5_bitsFor_50 rfl (lv_at hl 0 rfl) ?_
  refine lv_iload_n hx hb dX5_bitsFor_51 rfl (lv_at hl 1 rfl) ?_
  refine lv_iload hx hb dX5_bitsFor_52 (lv_at hl 2 rfl) ?_
  refine aPut X hP hD hS (q0 := 1) (ws' := (wd_X5_bitsFor_kind cI ad writers_50 year_50 taped at_ statements hasImage isKeeping_50 cursor_50 forgottenWhen rowMany (upd kind_50 (Int32.toNatClampNeg x2) v5_50) figure_50 style_50 fame_50 silent_50 ring_50 kept_50 row)) rfl (gdS hf).1 rfl dX5_bitsFor_54 (fun H locs hP hD hS => ?_)
  have hf := (gdS hf).2
  refine lv_iload hx hb dX5_bitsFor_55 (lv_at hl 3 rfl) ?_
  have hR := Option.some.inj hf
  subst hR
  exact hret _ _ _ _ _ rfl (fun _ hn => by cases hn; rfl) hP hD hS dX5_bitsFor_57
set_option maxHeartbeats 4000000 in
set_option maxRecDepth 100000 in
theorem c_X5_bitsFor_kind (l : Launch) (D : va_G) (cI : ClassId) (aS : aSt) (ad : Nat → Nat) (writers : Int32) (year : Int32) (taped : Int32) (at_ : Int32) (statements : Int32) (hasImage : Int32) (isKeeping : Int32) (cursor : Int32) (forgottenWhen : Int32) (rowMany : Int32) (kind : (Nat → Int32)) (figure : (Nat → Int32)) (style : (Nat → Int32)) (fame : (Nat → Int32)) (silent : (Nat → Int32)) (ring : (Nat → Int32)) (kept : (Nat → Int32)) (row : (Nat → Int32)) (x2 : Int32) (x3 : Int32) (x4 : Int32) (R : Int32 × Int32 × Int32 × Int32 × Int32 × (Nat → Int32) × (Nat → Int32) × (Nat → Int32) × (Nat → Int32) × (Nat → Int32) × (Nat → Int32) × (Nat → Int32)) (hf : f_X5_bitsFor_kind writers year isKeeping cursor rowMany kind figure style fame silent ring kept row x2 x3 x4 = some R) : CtI l yX5_bitsFor cX5_bitsFor 8 (some .int) 6 D cI aS [.ref (ad 0), .ref (ad 2), .int x2, .int x3, .int x4] (wd_X5_bitsFor_kind cI ad writers year taped at_ statements hasImage isKeeping cursor forgottenWhen rowMany kind figure style fame silent ring kept row) (wd_X5_bitsFor_kind cI ad R.2.1 R.2.2.1 taped at_ statements hasImage R.2.2.2.1 R.2.2.2.2.1 forgottenWhen rowMany R.2.2.2.2.2.1 R.2.2.2.2.2.2.1 R.2.2.2.2.2.2.2.1 R.2.2.2.2.2.2.2.2.1 R.2.2.2.2.2.2.2.2.2.1 R.2.2.2.2.2.2.2.2.2.2.1 R.2.2.2.2.2.2.2.2.2.2.2 row) R.1 := by
  refine ctI_of (by decide) ⟨_, rfl⟩ (Nat.le_of_ble_eq_true rfl) ?_
  intro p e s m below meth c A Q ls X hret hP hD hl
  have hS : va_S A s.heap s.heap [] := va_S.rf
  have hx := X.1
  have hb := X.2.1
  have hl : lv_has ls 8 [(0, .ref (ad 0)), (1, .ref (ad 2)), (2, .int x2), (3, .int x3), (4, .int x4)] := hl
  replace hf : (gd x2 7 (f_X5_bitsFor_kind_11 rowMany row x2 x3 x4 (fun (v6_50 : Int32) (writers_50 : Int32) (year_50 : Int32) (isKeeping_50 : Int32) (cursor_50 : Int32) (kind_50 : (Nat → Int32)) (figure_50 : (Nat → Int32)) (style_50 : (Nat → Int32)) (fame_50 : (Nat → Int32)) (silent_50 : (Nat → Int32)) (ring_50 : (Nat → Int32)) (kept_50 : (Nat → Int32)) => (f_X5_bitsFor_kind_50 x2  (kind (Int32.toNatClampNeg x2)) v6_50 writers_50 year_50 isKeeping_50 cursor_50 kind_50 figure_50 style_50 fame_50 silent_50 ring_50 kept_50)) FU (0 : Int32) (0 : Int32) writers year isKeeping cursor kind figure style fame silent ring kept)) = some R := hf
  refine lv_aload_n hx hb dX5_bitsFor_0 rfl (lv_at hl 1 rfl) ?_
  refine lv_iload_n hx hb dX5_bitsFor_1 rfl (lv_at hl 2 rfl) ?_
  refine aGet X hP (q0 := 1) rfl (gdS hf).1 dX5_bitsFor_2 ?_
  have hf := (gdS hf).2
  refine lv_istore (lv' := [(5, .int (kind (Int32.toNatClampNeg x2))), (0, .ref (ad 0)), (1, .ref (ad 2)), (2, .int x2), (3, .int x3), (4, .int x4)]) hx hb dX5_bitsFor_3 hl (by decide) rfl (fun ls hl => ?_)
  refine lv_iconst (v := 0) hx hb dX5_bitsFor_5 (by decide) ?_
  refine lv_istore (lv' := [(6, .int (0 : Int32)), (5, .int (kind (Int32.toNatClampNeg x2))), (0, .ref (ad 0)), (1, .ref (ad 2)), (2, .int x2), (3, .int x3), (4, .int x4)]) hx hb dX5_bitsFor_6 hl (by decide) rfl (fun ls hl => ?_)
  refine lv_iconst (v := 0) hx hb dX5_bitsFor_8 (by decide) ?_
  refine lv_istore (lv' := [(7, .int (0 : Int32)), (6, .int (0 : Int32)), (5, .int (kind (Int32.toNatClampNeg x2))), (0, .ref (ad 0)), (1, .ref (ad 2)), (2, .int x2), (3, .int x3), (4, .int x4)]) hx hb dX5_bitsFor_9 hl (by decide) rfl (fun ls hl => ?_)
  exact w_X5_bitsFor_kind_11 ad taped at_ statements hasImage forgottenWhen rowMany row x2 x3 x4 (kind (Int32.toNatClampNeg x2)) X hret _ (fun v6_50 writers_50 year_50 isKeeping_50 cursor_50 kind_50 figure_50 style_50 fame_50 silent_50 ring_50 kept_50 _ _ _ hf hl hP hD hS => w_X5_bitsFor_kind_50 ad taped at_ statements hasImage forgottenWhen rowMany row x2 x3 x4 X hret  (kind (Int32.toNatClampNeg x2)) v6_50 writers_50 year_50 isKeeping_50 cursor_50 kind_50 figure_50 style_50 fame_50 silent_50 ring_50 kept_50 _ _ _ hf (lv_sub hl [0, 1, 2, 3] rfl) hP hD hS) _ (0 : Int32) (0 : Int32) writers year isKeeping cursor kind figure style fame silent ring kept _ _ _ hf (lv_sub hl [3, 4, 5, 6, 7, 2, 1, 0] rfl) hP hD hS

abbrev wd_X5_book (cI : ClassId) (ad : Nat → Nat) (writers : Int32) (year : Int32) (taped : Int32) (at_ : Int32) (statements : Int32) (hasImage : Int32) (isKeeping : Int32) (cursor : Int32) (forgottenWhen : Int32) (rowMany : Int32) (refused : (Nat → Int32)) (kind : (Nat → Int32)) (figure : (Nat → Int32)) (style : (Nat → Int32)) (silent : (Nat → Int32)) (ring : (Nat → Int32)) : va_W := [((ad 0), .inr (5, [.ref (ad 1), .ref (ad 2), .ref (ad 3), .ref (ad 4), .ref (ad 5), .ref (ad 6), .ref (ad 7), .int writers, .int year, .ref (ad 8), .ref (ad 9), .ref (ad 10), .ref (ad 11), .int taped, .int at_, .int statements, .ref (ad 12), .int hasImage, .int isKeeping, .int cursor, .int forgottenWhen, .ref (ad 13), .ref (ad 14), .ref (ad 15), .int rowMany])), ((ad 1), .inl (cI, 7, .inl refused)), ((ad 2), .inl (cI, 7, .inl kind)), ((ad 3), .inl (cI, 7, .inl figure)), ((ad 4), .inl (cI, 7, .inl style)), ((ad 6), .inl (cI, 7, .inl silent)), ((ad 7), .inl (cI, 7, .inl ring))]
def f_X5_book_42 (writers : Int32) (year : Int32) (kind : (Nat → Int32)) (figure : (Nat → Int32)) (style : (Nat → Int32)) (silent : (Nat → Int32)) (ring : (Nat → Int32)) (x1 : Int32) (x2 : Int32)  (refused_42 : (Nat → Int32)) (t0_42 : Int32) : Option (Int32 × (Nat → Int32)) := (if t0_42 = 0 then (if x2 = 0 then ((f_X5_opens year style x1).bind fun (r59 : Int32) => (some (r59, refused_42))) else (if x2 = (2 : Int32) then ((f_X5_bookWorth writers year kind figure style silent ring x1).bind fun (r72 : Int32) => (some (r72, refused_42))) else ((f_X5_enderOf writers silent ring x1).bind fun (r80 : Int32) => (if 0 ≤ r80 then ((f_X5_endOf writers year kind figure style silent ring x1).bind fun (r93 : Int32) => (some (r93, refused_42))) else (some ((-9 : Int32), refused_42)))))) else ((f_X5_lower refused_42 t0_42).bind fun (r49 : Int32 × (Nat → Int32)) => (some (r49.1, r49.2))))
def f_X5_book (writers : Int32) (year : Int32) (refused : (Nat → Int32)) (kind : (Nat → Int32)) (figure : (Nat → Int32)) (style : (Nat → Int32)) (silent : (Nat → Int32)) (ring : (Nat → Int32)) (x1 : Int32) (x2 : Int32) : Option (Int32 × (Nat → Int32)) := ((f_X5_isOne writers x1).bind fun (r2 : Int32) => (if r2 = 0 then (f_X5_book_42 writers year kind figure style silent ring x1 x2  refused (-1 : Int32)) else ((f_X5_isIn x2 (0 : Int32) (2 : Int32)).bind fun (r15 : Int32) => (if r15 = 0 then (f_X5_book_42 writers year kind figure style silent ring x1 x2  refused (-2 : Int32)) else (gd x1 7 (if (silent (Int32.toNatClampNeg x1)) = (1 : Int32) then (f_X5_book_42 writers year kind figure style silent ring x1 x2  refused (-3 : Int32)) else (f_X5_book_42 writers year kind figure style silent ring x1 x2  refused (0 : Int32))))))))
set_option maxHeartbeats 4000000 in
set_option maxRecDepth 100000 in
theorem w_X5_book_42 {p : Program} {l : Launch} {e : Env} {s : State} {m : MethodId} {args : Array Value} {below : List Frame} {meth : Method} {c : Code} {D : va_G} {cI : ClassId} {aS : aSt} {A : Nat → Prop} {Q : State → Prop}  (ad : Nat → Nat) (writers : Int32) (year : Int32) (taped : Int32) (at_ : Int32) (statements : Int32) (hasImage : Int32) (isKeeping : Int32) (cursor : Int32) (forgottenWhen : Int32) (rowMany : Int32) (kind : (Nat → Int32)) (figure : (Nat → Int32)) (style : (Nat → Int32)) (silent : (Nat → Int32)) (ring : (Nat → Int32)) (x1 : Int32) (x2 : Int32) {R : Int32 × (Nat → Int32)} (X : Bx p s m args meth c cX5_book 4 (some .int) RX5 D cI aS A) (hret : RtI p l e 4 s m args below meth c cX5_book (some .int) D A (wd_X5_book cI ad writers year taped at_ statements hasImage isKeeping cursor forgottenWhen rowMany R.2 kind figure style silent ring) R.1 Q) : ∀ (refused_42 : (Nat → Int32)) (t0_42 : Int32) (H : Heap) (locs : List Loc) (ls : Array Slot), f_X5_book_42 writers year kind figure style silent ring x1 x2  refused_42 t0_42 = some R → lv_has ls 4 [(0, .ref (ad 0)), (1, .int x1), (2, .int x2)] → va_P D vwCl (wd_X5_book cI ad writers year taped at_ statements hasImage isKeeping cursor forgottenWhen rowMany refused_42 kind figure style silent ring) H → va_D A (wd_X5_book cI ad writers year taped at_ statements hasImage isKeeping cursor forgottenWhen rowMany refused_42 kind figure style silent ring) → va_S A s.heap H locs → Wh p l e 4 s m args below meth c H locs Q (F0 m 42 ls [.int t0_42]) := by
  have hx := X.1
  have hb := X.2.1
  intro refused_42 t0_42 H locs ls hf hl hP hD hS
  replace hf : (if t0_42 = 0 then (if x2 = 0 then ((f_X5_opens year style x1).bind fun (r59 : Int32) => (some (r59, refused_42))) else (if x2 = (2 : Int32) then ((f_X5_bookWorth writers year kind figure style silent ring x1).bind fun (r72 : Int32) => (some (r72, refused_42))) else ((f_X5_enderOf writers silent ring x1).bind fun (r80 : Int32) => (if 0 ≤ r80 then ((f_X5_endOf writers year kind figure style silent ring x1).bind fun (r93 : Int32) => (some (r93, refused_42))) else (some ((-9 : Int32), refused_42)))))) else ((f_X5_lower refused_42 t0_42).bind fun (r49 : Int32 × (Nat → Int32)) => (some (r49.1, r49.2)))) = some R := hf
  refine lv_istore_n (lv' := [(3, .int t0_42), (0, .ref (ad 0)), (1, .int x1), (2, .int x2)]) hx hb dX5_book_42 rfl hl (by decide) rfl (fun ls hl => ?_)
  refine lv_iload_n hx hb dX5_book_43 rfl (lv_at hl 0 rfl) ?_
  refine lv_if_eq (tgt := 53) hx hb dX5_book_44 (by decide) (fun c44 => ?_) (fun c44 => ?_)
  · have hf := iT c44 hf
    refine lv_iload_n hx hb dX5_book_53 rfl (lv_at hl 3 rfl) ?_
    refine lv_if_ne (tgt := 65) hx hb dX5_book_54 (by decide) (fun c54 => ?_) (fun c54 => ?_)
    · have hf := iF c54 hf
      refine lv_iload_n hx hb dX5_book_65 rfl (lv_at hl 3 rfl) ?_
      refine lv_iconst (v := 2) hx hb dX5_book_66 (by decide) ?_
      refine lv_icmp_ne (tgt := 78) hx hb dX5_book_67 (by decide) (fun c67 => ?_) (fun c67 => ?_)
      · have hf := iF c67 hf
        refine lv_aload_n hx hb dX5_book_78 rfl (lv_at hl 1 rfl) ?_
        refine lv_iload_n hx hb dX5_book_79 rfl (lv_at hl 2 rfl) ?_
        obtain ⟨r80, hq80, hf⟩ := bS hf
        refine ro_i X hP hD hS [0, 5, 6] rfl (run_V X hP hD hS [0, 5, 6] rfl rfl (c_X5_enderOf l D cI aS ad writers year taped at_ statements hasImage isKeeping cursor forgottenWhen rowMany silent ring x1 _ hq80 _) lkX5_162 (by decide) (q0 := 0) rfl rfl rfl rfl (Nat.le_of_ble_eq_true rfl) hl.1 dX5_book_80) (fun H locs hP hS => ?_)
        refine lv_if_ge (tgt := 91) hx hb dX5_book_83 (by decide) (fun c83 => ?_) (fun c83 => ?_)
        · have hf := iT c83 hf
          refine lv_aload_n hx hb dX5_book_91 rfl (lv_at hl 1 rfl) ?_
          refine lv_iload_n hx hb dX5_book_92 rfl (lv_at hl 2 rfl) ?_
          obtain ⟨r93, hq93, hf⟩ := bS hf
          refine ro_i X hP hD hS [0, 2, 3, 4, 5, 6] rfl (run_V X hP hD hS [0, 2, 3, 4, 5, 6] rfl rfl (c_X5_endOf l D cI aS ad writers year taped at_ statements hasImage isKeeping cursor forgottenWhen rowMany kind figure style silent ring x1 _ hq93 _) lkX5_171 (by decide) (q0 := 0) rfl rfl rfl rfl (Nat.le_of_ble_eq_true rfl) hl.1 dX5_book_93) (fun H locs hP hS => ?_)
          have hR := Option.some.inj hf
          subst hR
          exact hret _ _ _ _ _ rfl (fun _ hn => by cases hn; rfl) hP hD hS dX5_book_96
        · have hf := iF c83 hf
          refine lv_bipush (v := -9) hx hb dX5_book_86 (by decide) ?_
          refine lv_goto (tgt := 96) hx hb dX5_book_88 (by decide) ?_
          have hR := Option.some.inj hf
          subst hR
          exact hret _ _ _ _ _ rfl (fun _ hn => by cases hn; rfl) hP hD hS dX5_book_96
      · have hf := iT c67 hf
        refine lv_aload_n hx hb dX5_book_70 rfl (lv_at hl 1 rfl) ?_
        refine lv_iload_n hx hb dX5_book_71 rfl (lv_at hl 2 rfl) ?_
        obtain ⟨r72, hq72, hf⟩ := bS hf
        refine ro_i X hP hD hS [0, 2, 3, 4, 5, 6] rfl (run_V X hP hD hS [0, 2, 3, 4, 5, 6] rfl rfl (c_X5_bookWorth l D cI aS ad writers year taped at_ statements hasImage isKeeping cursor forgottenWhen rowMany kind figure style silent ring x1 _ hq72 _) lkX5_180 (by decide) (q0 := 0) rfl rfl rfl rfl (Nat.le_of_ble_eq_true rfl) hl.1 dX5_book_72) (fun H locs hP hS => ?_)
        refine lv_goto (tgt := 96) hx hb dX5_book_75 (by decide) ?_
        have hR := Option.some.inj hf
        subst hR
        exact hret _ _ _ _ _ rfl (fun _ hn => by cases hn; rfl) hP hD hS dX5_book_96
    · have hf := iT c54 hf
      refine lv_aload_n hx hb dX5_book_57 rfl (lv_at hl 1 rfl) ?_
      refine lv_iload_n hx hb dX5_book_58 rfl (lv_at hl 2 rfl) ?_
      obtain ⟨r59, hq59, hf⟩ := bS hf
      refine ro_i X hP hD hS [0, 4] rfl (run_V X hP hD hS [0, 4] rfl rfl (c_X5_opens l D cI aS ad writers year taped at_ statements hasImage isKeeping cursor forgottenWhen rowMany style x1 _ hq59 _) lkX5_165 (by decide) (q0 := 0) rfl rfl rfl rfl (Nat.le_of_ble_eq_true rfl) hl.1 dX5_book_59) (fun H locs hP hS => ?_)
      refine lv_goto (tgt := 96) hx hb dX5_book_62 (by decide) ?_
      have hR := Option.some.inj hf
      subst hR
      exact hret _ _ _ _ _ rfl (fun _ hn => by cases hn; rfl) hP hD hS dX5_book_96
  · have hf := iF c44 hf
    refine lv_aload_n hx hb dX5_book_47 rfl (lv_at hl 1 rfl) ?_
    refine lv_iload_n hx hb dX5_book_48 rfl (lv_at hl 0 rfl) ?_
    obtain ⟨r49, hq49, hf⟩ := bS hf
    refine wr_i X hP hD hS [0, 1] rfl (ws' := (wd_X5_book cI ad writers year taped at_ statements hasImage isKeeping cursor forgottenWhen rowMany r49.2 kind figure style silent ring)) (Nat.le_of_ble_eq_true rfl) rfl rfl (run_V X hP hD hS [0, 1] rfl rfl (c_X5_lower l D cI aS ad writers year taped at_ statements hasImage isKeeping cursor forgottenWhen rowMany refused_42 t0_42 _ hq49 _) lkX5_193 (by decide) (q0 := 0) rfl rfl rfl rfl (Nat.le_of_ble_eq_true rfl) hl.1 dX5_book_49) (fun H locs hP hD hS => ?_)
    have hR := Option.some.inj hf
    subst hR
    exact hret _ _ _ _ _ rfl (fun _ hn => by cases hn; rfl) hP hD hS dX5_book_52
set_option maxHeartbeats 4000000 in
set_option maxRecDepth 100000 in
theorem c_X5_book (l : Launch) (D : va_G) (cI : ClassId) (aS : aSt) (ad : Nat → Nat) (writers : Int32) (year : Int32) (taped : Int32) (at_ : Int32) (statements : Int32) (hasImage : Int32) (isKeeping : Int32) (cursor : Int32) (forgottenWhen : Int32) (rowMany : Int32) (refused : (Nat → Int32)) (kind : (Nat → Int32)) (figure : (Nat → Int32)) (style : (Nat → Int32)) (silent : (Nat → Int32)) (ring : (Nat → Int32)) (x1 : Int32) (x2 : Int32) (R : Int32 × (Nat → Int32)) (hf : f_X5_book writers year refused kind figure style silent ring x1 x2 = some R) : CtI l yX5_book cX5_book 4 (some .int) 4 D cI aS [.ref (ad 0), .int x1, .int x2] (wd_X5_book cI ad writers year taped at_ statements hasImage isKeeping cursor forgottenWhen rowMany refused kind figure style silent ring) (wd_X5_book cI ad writers year taped at_ statements hasImage isKeeping cursor forgottenWhen rowMany R.2 kind figure style silent ring) R.1 := by
  refine ctI_of (by decide) ⟨_, rfl⟩ (Nat.le_of_ble_eq_true rfl) ?_
  intro p e s m below meth c A Q ls X hret hP hD hl
  have hS : va_S A s.heap s.heap [] := va_S.rf
  have hx := X.1
  have hb := X.2.1
  have hl : lv_has ls 4 [(0, .ref (ad 0)), (1, .int x1), (2, .int x2)] := hl
  replace hf : ((f_X5_isOne writers x1).bind fun (r2 : Int32) => (if r2 = 0 then (f_X5_book_42 writers year kind figure style silent ring x1 x2  refused (-1 : Int32)) else ((f_X5_isIn x2 (0 : Int32) (2 : Int32)).bind fun (r15 : Int32) => (if r15 = 0 then (f_X5_book_42 writers year kind figure style silent ring x1 x2  refused (-2 : Int32)) else (gd x1 7 (if (silent (Int32.toNatClampNeg x1)) = (1 : Int32) then (f_X5_book_42 writers year kind figure style silent ring x1 x2  refused (-3 : Int32)) else (f_X5_book_42 writers year kind figure style silent ring x1 x2  refused (0 : Int32)))))))) = some R := hf
  refine lv_aload_n hx hb dX5_book_0 rfl (lv_at hl 0 rfl) ?_
  refine lv_iload_n hx hb dX5_book_1 rfl (lv_at hl 1 rfl) ?_
  obtain ⟨r2, hq2, hf⟩ := bS hf
  refine ro_i X hP hD hS [0] rfl (run_V X hP hD hS [0] rfl rfl (c_X5_isOne l D cI aS ad writers year taped at_ statements hasImage isKeeping cursor forgottenWhen rowMany x1 _ hq2 _) lkX5_108 (by decide) (q0 := 0) rfl rfl rfl rfl (Nat.le_of_ble_eq_true rfl) hl.1 dX5_book_2) (fun H locs hP hS => ?_)
  refine lv_if_ne (tgt := 12) hx hb dX5_book_5 (by decide) (fun c5 => ?_) (fun c5 => ?_)
  · have hf := iF c5 hf
    refine lv_iload_n hx hb dX5_book_12 rfl (lv_at hl 2 rfl) ?_
    refine lv_iconst (v := 0) hx hb dX5_book_13 (by decide) ?_
    refine lv_iconst (v := 2) hx hb dX5_book_14 (by decide) ?_
    obtain ⟨r15, hq15, hf⟩ := bS hf
    refine ro_i X hP hD hS [] rfl (run_S X hP hD hS [] rfl rfl (c_X5_isIn l D cI aS x2 (0 : Int32) (2 : Int32) _ hq15 _) lkX5_80 (by decide) rfl rfl (Nat.le_of_ble_eq_true rfl) hl.1 dX5_book_15) (fun H locs hP hS => ?_)
    refine lv_if_ne (tgt := 26) hx hb dX5_book_18 (by decide) (fun c18 => ?_) (fun c18 => ?_)
    · have hf := iF c18 hf
      refine lv_aload_n hx hb dX5_book_26 rfl (lv_at hl 0 rfl) ?_
      refine fgX5_25 X hP (q0 := 0) rfl rfl dX5_book_27 ?_
      refine lv_iload_n hx hb dX5_book_30 rfl (lv_at hl 1 rfl) ?_
      refine aGet X hP (q0 := 5) rfl (gdS hf).1 dX5_book_31 ?_
      have hf := (gdS hf).2
      refine lv_iconst (v := 1) hx hb dX5_book_32 (by decide) ?_
      refine lv_icmp_ne (tgt := 41) hx hb dX5_book_33 (by decide) (fun c33 => ?_) (fun c33 => ?_)
      · have hf := iF c33 hf
        refine lv_iconst (v := 0) hx hb dX5_book_41 (by decide) ?_
        exact w_X5_book_42 ad writers year taped at_ statements hasImage isKeeping cursor forgottenWhen rowMany kind figure style silent ring x1 x2 X hret  refused (0 : Int32) _ _ _ hf (lv_sub hl [0, 1, 2] rfl) hP hD hS
      · have hf := iT c33 hf
        refine lv_bipush (v := -3) hx hb dX5_book_36 (by decide) ?_
        refine lv_goto (tgt := 42) hx hb dX5_book_38 (by decide) ?_
        exact w_X5_book_42 ad writers year taped at_ statements hasImage isKeeping cursor forgottenWhen rowMany kind figure style silent ring x1 x2 X hret  refused (-3 : Int32) _ _ _ hf (lv_sub hl [0, 1, 2] rfl) hP hD hS
    · have hf := iT c18 hf
      refine lv_bipush (v := -2) hx hb dX5_book_21 (by decide) ?_
      refine lv_goto (tgt := 42) hx hb dX5_book_23 (by decide) ?_
      exact w_X5_book_42 ad writers year taped at_ statements hasImage isKeeping cursor forgottenWhen rowMany kind figure style silent ring x1 x2 X hret  refused (-2 : Int32) _ _ _ hf (lv_sub hl [0, 1, 2] rfl) hP hD hS
  · have hf := iT c5 hf
    refine lv_iconst (v := -1) hx hb dX5_book_8 (by decide) ?_
    refine lv_goto (tgt := 42) hx hb dX5_book_9 (by decide) ?_
    exact w_X5_book_42 ad writers year taped at_ statements hasImage isKeeping cursor forgottenWhen rowMany kind figure style silent ring x1 x2 X hret  refused (-1 : Int32) _ _ _ hf (lv_sub hl [0, 1, 2] rfl) hP hD hS

abbrev wd_X5_bribe (cI : ClassId) (ad : Nat → Nat) (writers : Int32) (year : Int32) (taped : Int32) (at_ : Int32) (statements : Int32) (hasImage : Int32) (isKeeping : Int32) (cursor : Int32) (forgottenWhen : Int32) (rowMany : Int32) (kind : (Nat → Int32)) (figure : (Nat → Int32)) (style : (Nat → Int32)) (silent : (Nat → Int32)) (ring : (Nat → Int32)) : va_W := [((ad 0), .inr (5, [.ref (ad 1), .ref (ad 2), .ref (ad 3), .ref (ad 4), .ref (ad 5), .ref (ad 6), .ref (ad 7), .int writers, .int year, .ref (ad 8), .ref (ad 9), .ref (ad 10), .ref (ad 11), .int taped, .int at_, .int statements, .ref (ad 12), .int hasImage, .int isKeeping, .int cursor, .int forgottenWhen, .ref (ad 13), .ref (ad 14), .ref (ad 15), .int rowMany])), ((ad 2), .inl (cI, 7, .inl kind)), ((ad 3), .inl (cI, 7, .inl figure)), ((ad 4), .inl (cI, 7, .inl style)), ((ad 6), .inl (cI, 7, .inl silent)), ((ad 7), .inl (cI, 7, .inl ring))]
def f_X5_bribe_72  (kL23 : Int32 → Int32 → Int32 → (Nat → Int32) → Option (Int32 × (Nat → Int32))) (v1_72 : Int32) (v2_72 : Int32) (v4_72 : Int32) (ring_72 : (Nat → Int32)) : Option (Int32 × (Nat → Int32)) := (kL23 v1_72 v2_72 (v4_72 + (1 : Int32)) ring_72)
def f_X5_bribe_23 (writers : Int32) (year : Int32) (kind : (Nat → Int32)) (figure : (Nat → Int32)) (style : (Nat → Int32)) (silent : (Nat → Int32)) (u3_23 : Int32) (kX23_78 : Int32 → Int32 → (Nat → Int32) → Option (Int32 × (Nat → Int32))) : Nat → Int32 → Int32 → Int32 → (Nat → Int32) → Option (Int32 × (Nat → Int32))
  | 0 => fun _ _ _ _ => none
  | fuel + 1 => fun v1_23 v2_23 v4_23 ring_23 => (if writers ≤ v4_23 then (kX23_78 v1_23 v2_23 ring_23) else ((f_X5_swaps ring_23 u3_23 v4_23).bind fun (r36 : (Nat → Int32)) => ((f_X5_allWorth writers year kind figure style silent r36).bind fun (r40 : Int32) => ((f_X5_swaps r36 u3_23 v4_23).bind fun (r49 : (Nat → Int32)) => (if v2_23 < r40 then (f_X5_bribe_72  (f_X5_bribe_23 writers year kind figure style silent u3_23 kX23_78 fuel) (((10 : Int32) * u3_23) + v4_23) r40 v4_23 r49) else (f_X5_bribe_72  (f_X5_bribe_23 writers year kind figure style silent u3_23 kX23_78 fuel) v1_23 v2_23 v4_23 r49))))))
theorem e_X5_bribe_23 (writers : Int32) (year : Int32) (kind : (Nat → Int32)) (figure : (Nat → Int32)) (style : (Nat → Int32)) (silent : (Nat → Int32)) (u3_23 : Int32) (kX23_78 : Int32 → Int32 → (Nat → Int32) → Option (Int32 × (Nat → Int32))) (fuel : Nat) (v1_23 : Int32) (v2_23 : Int32) (v4_23 : Int32) (ring_23 : (Nat → Int32)) : f_X5_bribe_23 writers year kind figure style silent u3_23 kX23_78 (fuel + 1) v1_23 v2_23 v4_23 ring_23 = (if writers ≤ v4_23 then (kX23_78 v1_23 v2_23 ring_23) else ((f_X5_swaps ring_23 u3_23 v4_23).bind fun (r36 : (Nat → Int32)) => ((f_X5_allWorth writers year kind figure style silent r36).bind fun (r40 : Int32) => ((f_X5_swaps r36 u3_23 v4_23).bind fun (r49 : (Nat → Int32)) => (if v2_23 < r40 then (f_X5_bribe_72  (f_X5_bribe_23 writers year kind figure style silent u3_23 kX23_78 fuel) (((10 : Int32) * u3_23) + v4_23) r40 v4_23 r49) else (f_X5_bribe_72  (f_X5_bribe_23 writers year kind figure style silent u3_23 kX23_78 fuel) v1_23 v2_23 v4_23 r49)))))) := rfl
def f_X5_bribe_78  (kL10 : Int32 → Int32 → Int32 → (Nat → Int32) → Option (Int32 × (Nat → Int32))) (v1_78 : Int32) (v2_78 : Int32) (v3_78 : Int32) (ring_78 : (Nat → Int32)) : Option (Int32 × (Nat → Int32)) := (kL10 v1_78 v2_78 (v3_78 + (1 : Int32)) ring_78)
def f_X5_bribe_10 (writers : Int32) (year : Int32) (kind : (Nat → Int32)) (figure : (Nat → Int32)) (style : (Nat → Int32)) (silent : (Nat → Int32))  : Nat → Int32 → Int32 → Int32 → (Nat → Int32) → Option (Int32 × (Nat → Int32))
  | 0 => fun _ _ _ _ => none
  | fuel + 1 => fun v1_10 v2_10 v3_10 ring_10 => (if writers ≤ v3_10 then (some (v1_10, ring_10)) else (f_X5_bribe_23 writers year kind figure style silent v3_10 (fun (v1_78 : Int32) (v2_78 : Int32) (ring_78 : (Nat → Int32)) => (f_X5_bribe_78  (f_X5_bribe_10 writers year kind figure style silent  fuel) v1_78 v2_78 v3_10 ring_78)) FU v1_10 v2_10 (v3_10 + (1 : Int32)) ring_10))
theorem e_X5_bribe_10 (writers : Int32) (year : Int32) (kind : (Nat → Int32)) (figure : (Nat → Int32)) (style : (Nat → Int32)) (silent : (Nat → Int32))  (fuel : Nat) (v1_10 : Int32) (v2_10 : Int32) (v3_10 : Int32) (ring_10 : (Nat → Int32)) : f_X5_bribe_10 writers year kind figure style silent  (fuel + 1) v1_10 v2_10 v3_10 ring_10 = (if writers ≤ v3_10 then (some (v1_10, ring_10)) else (f_X5_bribe_23 writers year kind figure style silent v3_10 (fun (v1_78 : Int32) (v2_78 : Int32) (ring_78 : (Nat → Int32)) => (f_X5_bribe_78  (f_X5_bribe_10 writers year kind figure style silent  fuel) v1_78 v2_78 v3_10 ring_78)) FU v1_10 v2_10 (v3_10 + (1 : Int32)) ring_10)) := rfl
def f_X5_bribe (writers : Int32) (year : Int32) (kind : (Nat → Int32)) (figure : (Nat → Int32)) (style : (Nat → Int32)) (silent : (Nat → Int32)) (ring : (Nat → Int32)) : Option (Int32 × (Nat → Int32)) := ((f_X5_allWorth writers year kind figure style silent ring).bind fun (r4 : Int32) => (f_X5_bribe_10 writers year kind figure style silent  FU (-9 : Int32) r4 (0 : Int32) ring))
set_option maxHeartbeats 4000000 in
set_option maxRecDepth 100000 in
theorem w_X5_bribe_72 {p : Program} {l : Launch} {e : Env} {s : State} {m : MethodId} {args : Array Value} {below : List Frame} {meth : Method} {c : Code} {D : va_G} {cI : ClassId} {aS : aSt} {A : Nat → Prop} {Q : State → Prop}  (ad : Nat → Nat) (writers : Int32) (year : Int32) (taped : Int32) (at_ : Int32) (statements : Int32) (hasImage : Int32) (isKeeping : Int32) (cursor : Int32) (forgottenWhen : Int32) (rowMany : Int32) (kind : (Nat → Int32)) (figure : (Nat → Int32)) (style : (Nat → Int32)) (silent : (Nat → Int32)) (u3_23 : Int32) {R : Int32 × (Nat → Int32)} (X : Bx p s m args meth c cX5_bribe 6 (some .int) RX5 D cI aS A) (hret : RtI p l e 5 s m args below meth c cX5_bribe (some .int) D A (wd_X5_bribe cI ad writers year taped at_ statements hasImage isKeeping cursor forgottenWhen rowMany kind figure style silent R.2) R.1 Q) (kL23 : Int32 → Int32 → Int32 → (Nat → Int32) → Option (Int32 × (Nat → Int32))) (hkL23 : ∀ (v1_23 : Int32) (v2_23 : Int32) (v4_23 : Int32) (ring_23 : (Nat → Int32)) (H : Heap) (locs : List Loc) (ls : Array Slot), kL23 v1_23 v2_23 v4_23 ring_23 = some R → lv_has ls 6 [(0, .ref (ad 0)), (1, .int v1_23), (2, .int v2_23), (3, .int u3_23), (4, .int v4_23)] → va_P D vwCl (wd_X5_bribe cI ad writers year taped at_ statements hasImage isKeeping cursor forgottenWhen rowMany kind figure style silent ring_23) H → va_D A (wd_X5_bribe cI ad writers year taped at_ statements hasImage isKeeping cursor forgottenWhen rowMany kind figure style silent ring_23) → va_S A s.heap H locs → Wh p l e 5 s m args below meth c H locs Q (F0 m 23 ls [])) : ∀ (v1_72 : Int32) (v2_72 : Int32) (v4_72 : Int32) (ring_72 : (Nat → Int32)) (H : Heap) (locs : List Loc) (ls : Array Slot), f_X5_bribe_72  kL23 v1_72 v2_72 v4_72 ring_72 = some R → lv_has ls 6 [(0, .ref (ad 0)), (1, .int v1_72), (2, .int v2_72), (3, .int u3_23), (4, .int v4_72)] → va_P D vwCl (wd_X5_bribe cI ad writers year taped at_ statements hasImage isKeeping cursor forgottenWhen rowMany kind figure style silent ring_72) H → va_D A (wd_X5_bribe cI ad writers year taped at_ statements hasImage isKeeping cursor forgottenWhen rowMany kind figure style silent ring_72) → va_S A s.heap H locs → Wh p l e 5 s m args below meth c H locs Q (F0 m 72 ls []) := by
  have hx := X.1
  have hb := X.2.1
  intro v1_72 v2_72 v4_72 ring_72 H locs ls hf hl hP hD hS
  replace hf : (kL23 v1_72 v2_72 (v4_72 + (1 : Int32)) ring_72) = some R := hf
  refine lv_iinc (v := (v4_72 + (1 : Int32))) (lv' := [(4, .int (v4_72 + (1 : Int32))), (0, .ref (ad 0)), (1, .int v1_72), (2, .int v2_72), (3, .int u3_23)]) hx hb dX5_bribe_72 hl (k := 4) rfl rfl (by decide) rfl (fun ls hl => ?_)
  refine lv_goto (tgt := 23) hx hb dX5_bribe_75 (by decide) ?_
  exact hkL23 v1_72 v2_72 (v4_72 + (1 : Int32)) ring_72 _ _ _ hf (lv_sub hl [1, 2, 3, 4, 0] rfl) hP hD hS
set_option maxHeartbeats 4000000 in
set_option maxRecDepth 100000 in
theorem w_X5_bribe_23 {p : Program} {l : Launch} {e : Env} {s : State} {m : MethodId} {args : Array Value} {below : List Frame} {meth : Method} {c : Code} {D : va_G} {cI : ClassId} {aS : aSt} {A : Nat → Prop} {Q : State → Prop}  (ad : Nat → Nat) (writers : Int32) (year : Int32) (taped : Int32) (at_ : Int32) (statements : Int32) (hasImage : Int32) (isKeeping : Int32) (cursor : Int32) (forgottenWhen : Int32) (rowMany : Int32) (kind : (Nat → Int32)) (figure : (Nat → Int32)) (style : (Nat → Int32)) (silent : (Nat → Int32)) (u3_23 : Int32) {R : Int32 × (Nat → Int32)} (X : Bx p s m args meth c cX5_bribe 6 (some .int) RX5 D cI aS A) (hret : RtI p l e 5 s m args below meth c cX5_bribe (some .int) D A (wd_X5_bribe cI ad writers year taped at_ statements hasImage isKeeping cursor forgottenWhen rowMany kind figure style silent R.2) R.1 Q) (kX23_78 : Int32 → Int32 → (Nat → Int32) → Option (Int32 × (Nat → Int32))) (hkX23_78 : ∀ (v1_78 : Int32) (v2_78 : Int32) (ring_78 : (Nat → Int32)) (H : Heap) (locs : List Loc) (ls : Array Slot), kX23_78 v1_78 v2_78 ring_78 = some R → lv_has ls 6 [(0, .ref (ad 0)), (1, .int v1_78), (2, .int v2_78), (3, .int u3_23)] → va_P D vwCl (wd_X5_bribe cI ad writers year taped at_ statements hasImage isKeeping cursor forgottenWhen rowMany kind figure style silent ring_78) H → va_D A (wd_X5_bribe cI ad writers year taped at_ statements hasImage isKeeping cursor forgottenWhen rowMany kind figure style silent ring_78) → va_S A s.heap H locs → Wh p l e 5 s m args below meth c H locs Q (F0 m 78 ls [])) : ∀ (fuel : Nat) (v1_23 : Int32) (v2_23 : Int32) (v4_23 : Int32) (ring_23 : (Nat → Int32)) (H : Heap) (locs : List Loc) (ls : Array Slot), f_X5_bribe_23 writers year kind figure style silent u3_23 kX23_78 fuel v1_23 v2_23 v4_23 ring_23 = some R → lv_has ls 6 [(0, .ref (ad 0)), (1, .int v1_23), (2, .int v2_23), (3, .int u3_23), (4, .int v4_23)] → va_P D vwCl (wd_X5_bribe cI ad writers year taped at_ statements hasImage isKeeping cursor forgottenWhen rowMany kind figure style silent ring_23) H → va_D A (wd_X5_bribe cI ad writers year taped at_ statements hasImage isKeeping cursor forgottenWhen rowMany kind figure style silent ring_23) → va_S A s.heap H locs → Wh p l e 5 s m args below meth c H locs Q (F0 m 23 ls []) := by
  have hx := X.1
  have hb := X.2.1
  intro fuel
  induction fuel with
  | zero =>
    intro v1_23 v2_23 v4_23 ring_23 H locs ls hf hl hP hD hS
    cases hf
  | succ fuel ih =>
    intro v1_23 v2_23 v4_23 ring_23 H locs ls hf hl hP hD hS
    replace hf : (if writers ≤ v4_23 then (kX23_78 v1_23 v2_23 ring_23) else ((f_X5_swaps ring_23 u3_23 v4_23).bind fun (r36 : (Nat → Int32)) => ((f_X5_allWorth writers year kind figure style silent r36).bind fun (r40 : Int32) => ((f_X5_swaps r36 u3_23 v4_23).bind fun (r49 : (Nat → Int32)) => (if v2_23 < r40 then (f_X5_bribe_72  (f_X5_bribe_23 writers year kind figure style silent u3_23 kX23_78 fuel) (((10 : Int32) * u3_23) + v4_23) r40 v4_23 r49) else (f_X5_bribe_72  (f_X5_bribe_23 writers year kind figure style silent u3_23 kX23_78 fuel) v1_23 v2_23 v4_23 r49)))))) = some R := hf
    refine lv_iload hx hb dX5_bribe_23 (lv_at hl 4 rfl) ?_
    refine lv_aload_n hx hb dX5_bribe_25 rfl (lv_at hl 0 rfl) ?_
    refine fgX5_55 X hP (q0 := 0) rfl rfl dX5_bribe_26 ?_
    refine lv_icmp_ge (tgt := 78) hx hb dX5_bribe_29 (by decide) (fun c29 => ?_) (fun c29 => ?_)
    · have hf := iT c29 hf
      exact hkX23_78 v1_23 v2_23 ring_23 _ _ _ hf (lv_sub hl [0, 1, 2, 3] rfl) hP hD hS
    · have hf := iF c29 hf
      refine lv_aload_n hx hb dX5_bribe_32 rfl (lv_at hl 0 rfl) ?_
      refine lv_iload_n hx hb dX5_bribe_33 rfl (lv_at hl 3 rfl) ?_
      refine lv_iload hx hb dX5_bribe_34 (lv_at hl 4 rfl) ?_
      obtain ⟨r36, hq36, hf⟩ := bS hf
      refine wr_v X hP hD hS [0, 5] rfl (ws' := (wd_X5_bribe cI ad writers year taped at_ statements hasImage isKeeping cursor forgottenWhen rowMany kind figure style silent r36)) (Nat.le_of_ble_eq_true rfl) rfl rfl (run_V X hP hD hS [0, 5] rfl rfl (c_X5_swaps l D cI aS ad writers year taped at_ statements hasImage isKeeping cursor forgottenWhen rowMany ring_23 u3_23 v4_23 _ hq36 _) lkX5_117 (by decide) (q0 := 0) rfl rfl rfl rfl (Nat.le_of_ble_eq_true rfl) hl.1 dX5_bribe_36) (fun H locs hP hD hS => ?_)
      refine lv_aload_n hx hb dX5_bribe_39 rfl (lv_at hl 0 rfl) ?_
      obtain ⟨r40, hq40, hf⟩ := bS hf
      refine ro_i X hP hD hS [0, 1, 2, 3, 4, 5] rfl (run_V X hP hD hS [0, 1, 2, 3, 4, 5] rfl rfl (c_X5_allWorth l D cI aS ad writers year taped at_ statements hasImage isKeeping cursor forgottenWhen rowMany kind figure style silent r36 _ hq40 _) lkX5_206 (by decide) (q0 := 0) rfl rfl rfl rfl (Nat.le_of_ble_eq_true rfl) hl.1 dX5_bribe_40) (fun H locs hP hS => ?_)
      refine lv_istore (lv' := [(5, .int r40), (0, .ref (ad 0)), (1, .int v1_23), (2, .int v2_23), (3, .int u3_23), (4, .int v4_23)]) hx hb dX5_bribe_43 hl (by decide) rfl (fun ls hl => ?_)
      refine lv_aload_n hx hb dX5_bribe_45 rfl (lv_at hl 1 rfl) ?_
      refine lv_iload_n hx hb dX5_bribe_46 rfl (lv_at hl 4 rfl) ?_
      refine lv_iload hx hb dX5_bribe_47 (lv_at hl 5 rfl) ?_
      obtain ⟨r49, hq49, hf⟩ := bS hf
      refine wr_v X hP hD hS [0, 5] rfl (ws' := (wd_X5_bribe cI ad writers year taped at_ statements hasImage isKeeping cursor forgottenWhen rowMany kind figure style silent r49)) (Nat.le_of_ble_eq_true rfl) rfl rfl (run_V X hP hD hS [0, 5] rfl rfl (c_X5_swaps l D cI aS ad writers year taped at_ statements hasImage isKeeping cursor forgottenWhen rowMany r36 u3_23 v4_23 _ hq49 _) lkX5_117 (by decide) (q0 := 0) rfl rfl rfl rfl (Nat.le_of_ble_eq_true rfl) hl.1 dX5_bribe_49) (fun H locs hP hD hS => ?_)
      refine lv_iload hx hb dX5_bribe_52 (lv_at hl 0 rfl) ?_
      refine lv_iload_n hx hb dX5_bribe_54 rfl (lv_at hl 3 rfl) ?_
      refine lv_icmp_gt (tgt := 61) hx hb dX5_bribe_55 (by decide) (fun c55 => ?_) (fun c55 => ?_)
      · have hf := iT c55 hf
        refine lv_bipush (v := 10) hx hb dX5_bribe_61 (by decide) ?_
        refine lv_iload_n hx hb dX5_bribe_63 rfl (lv_at hl 4 rfl) ?_
        refine lv_imul hx hb dX5_bribe_64 ?_
        refine lv_iload hx hb dX5_bribe_65 (lv_at hl 5 rfl) ?_
        refine lv_iadd hx hb dX5_bribe_67 ?_
        refine lv_istore_n (lv' := [(1, .int (((10 : Int32) * u3_23) + v4_23)), (5, .int r40), (0, .ref (ad 0)), (2, .int v2_23), (3, .int u3_23), (4, .int v4_23)]) hx hb dX5_bribe_68 rfl hl (by decide) rfl (fun ls hl => ?_)
        refine lv_iload hx hb dX5_bribe_69 (lv_at hl 1 rfl) ?_
        refine lv_istore_n (lv' := [(2, .int r40), (1, .int (((10 : Int32) * u3_23) + v4_23)), (5, .int r40), (0, .ref (ad 0)), (3, .int u3_23), (4, .int v4_23)]) hx hb dX5_bribe_71 rfl hl (by decide) rfl (fun ls hl => ?_)
        exact w_X5_bribe_72 ad writers year taped at_ statements hasImage isKeeping cursor forgottenWhen rowMany kind figure style silent u3_23 X hret _ ih (((10 : Int32) * u3_23) + v4_23) r40 v4_23 r49 _ _ _ hf (lv_sub hl [3, 1, 0, 4, 5] rfl) hP hD hS
      · have hf := iF c55 hf
        refine lv_goto (tgt := 72) hx hb dX5_bribe_58 (by decide) ?_
        exact w_X5_bribe_72 ad writers year taped at_ statements hasImage isKeeping cursor forgottenWhen rowMany kind figure style silent u3_23 X hret _ ih v1_23 v2_23 v4_23 r49 _ _ _ hf (lv_sub hl [1, 2, 3, 4, 5] rfl) hP hD hS
set_option maxHeartbeats 4000000 in
set_option maxRecDepth 100000 in
theorem w_X5_bribe_78 {p : Program} {l : Launch} {e : Env} {s : State} {m : MethodId} {args : Array Value} {below : List Frame} {meth : Method} {c : Code} {D : va_G} {cI : ClassId} {aS : aSt} {A : Nat → Prop} {Q : State → Prop}  (ad : Nat → Nat) (writers : Int32) (year : Int32) (taped : Int32) (at_ : Int32) (statements : Int32) (hasImage : Int32) (isKeeping : Int32) (cursor : Int32) (forgottenWhen : Int32) (rowMany : Int32) (kind : (Nat → Int32)) (figure : (Nat → Int32)) (style : (Nat → Int32)) (silent : (Nat → Int32)) {R : Int32 × (Nat → Int32)} (X : Bx p s m args meth c cX5_bribe 6 (some .int) RX5 D cI aS A) (hret : RtI p l e 5 s m args below meth c cX5_bribe (some .int) D A (wd_X5_bribe cI ad writers year taped at_ statements hasImage isKeeping cursor forgottenWhen rowMany kind figure style silent R.2) R.1 Q) (kL10 : Int32 → Int32 → Int32 → (Nat → Int32) → Option (Int32 × (Nat → Int32))) (hkL10 : ∀ (v1_10 : Int32) (v2_10 : Int32) (v3_10 : Int32) (ring_10 : (Nat → Int32)) (H : Heap) (locs : List Loc) (ls : Array Slot), kL10 v1_10 v2_10 v3_10 ring_10 = some R → lv_has ls 6 [(0, .ref (ad 0)), (1, .int v1_10), (2, .int v2_10), (3, .int v3_10)] → va_P D vwCl (wd_X5_bribe cI ad writers year taped at_ statements hasImage isKeeping cursor forgottenWhen rowMany kind figure style silent ring_10) H → va_D A (wd_X5_bribe cI ad writers year taped at_ statements hasImage isKeeping cursor forgottenWhen rowMany kind figure style silent ring_10) → va_S A s.heap H locs → Wh p l e 5 s m args below meth c H locs Q (F0 m 10 ls [])) : ∀ (v1_78 : Int32) (v2_78 : Int32) (v3_78 : Int32) (ring_78 : (Nat → Int32)) (H : Heap) (locs : List Loc) (ls : Array Slot), f_X5_bribe_78  kL10 v1_78 v2_78 v3_78 ring_78 = some R → lv_has ls 6 [(0, .ref (ad 0)), (1, .int v1_78), (2, .int v2_78), (3, .int v3_78)] → va_P D vwCl (wd_X5_bribe cI ad writers year taped at_ statements hasImage isKeeping cursor forgottenWhen rowMany kind figure style silent ring_78) H → va_D A (wd_X5_bribe cI ad writers year taped at_ statements hasImage isKeeping cursor forgottenWhen rowMany kind figure style silent ring_78) → va_S A s.heap H locs → Wh p l e 5 s m args below meth c H locs Q (F0 m 78 ls []) := by
  have hx := X.1
  have hb := X.2.1
  intro v1_78 v2_78 v3_78 ring_78 H locs ls hf hl hP hD hS
  replace hf : (kL10 v1_78 v2_78 (v3_78 + (1 : Int32)) ring_78) = some R := hf
  refine lv_iinc (v := (v3_78 + (1 : Int32))) (lv' := [(3, .int (v3_78 + (1 : Int32))), (0, .ref (ad 0)), (1, .int v1_78), (2, .int v2_78)]) hx hb dX5_bribe_78 hl (k := 3) rfl rfl (by decide) rfl (fun ls hl => ?_)
  refine lv_goto (tgt := 10) hx hb dX5_bribe_81 (by decide) ?_
  exact hkL10 v1_78 v2_78 (v3_78 + (1 : Int32)) ring_78 _ _ _ hf (lv_sub hl [1, 2, 3, 0] rfl) hP hD hS
set_option maxHeartbeats 4000000 in
set_option maxRecDepth 100000 in
theorem w_X5_bribe_10 {p : Program} {l : Launch} {e : Env} {s : State} {m : MethodId} {args : Array Value} {below : List Frame} {meth : Method} {c : Code} {D : va_G} {cI : ClassId} {aS : aSt} {A : Nat → Prop} {Q : State → Prop}  (ad : Nat → Nat) (writers : Int32) (year : Int32) (taped : Int32) (at_ : Int32) (statements : Int32) (hasImage : Int32) (isKeeping : Int32) (cursor : Int32) (forgottenWhen : Int32) (rowMany : Int32) (kind : (Nat → Int32)) (figure : (Nat → Int32)) (style : (Nat → Int32)) (silent : (Nat → Int32)) {R : Int32 × (Nat → Int32)} (X : Bx p s m args meth c cX5_bribe 6 (some .int) RX5 D cI aS A) (hret : RtI p l e 5 s m args below meth c cX5_bribe (some .int) D A (wd_X5_bribe cI ad writers year taped at_ statements hasImage isKeeping cursor forgottenWhen rowMany kind figure style silent R.2) R.1 Q) : ∀ (fuel : Nat) (v1_10 : Int32) (v2_10 : Int32) (v3_10 : Int32) (ring_10 : (Nat → Int32)) (H : Heap) (locs : List Loc) (ls : Array Slot), f_X5_bribe_10 writers year kind figure style silent  fuel v1_10 v2_10 v3_10 ring_10 = some R → lv_has ls 6 [(0, .ref (ad 0)), (1, .int v1_10), (2, .int v2_10), (3, .int v3_10)] → va_P D vwCl (wd_X5_bribe cI ad writers year taped at_ statements hasImage isKeeping cursor forgottenWhen rowMany kind figure style silent ring_10) H → va_D A (wd_X5_bribe cI ad writers year taped at_ statements hasImage isKeeping cursor forgottenWhen rowMany kind figure style silent ring_10) → va_S A s.heap H locs → Wh p l e 5 s m args below meth c H locs Q (F0 m 10 ls []) := by
  have hx := X.1
  have hb := X.2.1
  intro fuel
  induction fuel with
  | zero =>
    intro v1_10 v2_10 v3_10 ring_10 H locs ls hf hl hP hD hS
    cases hf
  | succ fuel ih =>
    intro v1_10 v2_10 v3_10 ring_10 H locs ls hf hl hP hD hS
    replace hf : (if writers ≤ v3_10 then (some (v1_10, ring_10)) else (f_X5_bribe_23 writers year kind figure style silent v3_10 (fun (v1_78 : Int32) (v2_78 : Int32) (ring_78 : (Nat → Int32)) => (f_X5_bribe_78  (f_X5_bribe_10 writers year kind figure style silent  fuel) v1_78 v2_78 v3_10 ring_78)) FU v1_10 v2_10 (v3_10 + (1 : Int32)) ring_10)) = some R := hf
    refine lv_iload_n hx hb dX5_bribe_10 rfl (lv_at hl 3 rfl) ?_
    refine lv_aload_n hx hb dX5_bribe_11 rfl (lv_at hl 0 rfl) ?_
    refine fgX5_55 X hP (q0 := 0) rfl rfl dX5_bribe_12 ?_
    refine lv_icmp_ge (tgt := 84) hx hb dX5_bribe_15 (by decide) (fun c15 => ?_) (fun c15 => ?_)
    · have hf := iT c15 hf
      refine lv_iload_n hx hb dX5_bribe_84 rfl (lv_at hl 1 rfl) ?_
      have hR := Option.some.inj hf
      subst hR
      exact hret _ _ _ _ _ rfl (fun _ hn => by cases hn; rfl) hP hD hS dX5_bribe_85
    · have hf := iF c15 hf
      refine lv_iload_n hx hb dX5_bribe_18 rfl (lv_at hl 3 rfl) ?_
      refine lv_iconst (v := 1) hx hb dX5_bribe_19 (by decide) ?_
      refine lv_iadd hx hb dX5_bribe_20 ?_
      refine lv_istore (lv' := [(4, .int (v3_10 + (1 : Int32))), (0, .ref (ad 0)), (1, .int v1_10), (2, .int v2_10), (3, .int v3_10)]) hx hb dX5_bribe_21 hl (by decide) rfl (fun ls hl => ?_)
      exact w_X5_bribe_23 ad writers year taped at_ statements hasImage isKeeping cursor forgottenWhen rowMany kind figure style silent v3_10 X hret _ (fun v1_78 v2_78 ring_78 _ _ _ hf hl hP hD hS => w_X5_bribe_78 ad writers year taped at_ statements hasImage isKeeping cursor forgottenWhen rowMany kind figure style silent X hret _ ih v1_78 v2_78 v3_10 ring_78 _ _ _ hf (lv_sub hl [0, 1, 2, 3] rfl) hP hD hS) _ v1_10 v2_10 (v3_10 + (1 : Int32)) ring_10 _ _ _ hf (lv_sub hl [1, 2, 3, 4, 0] rfl) hP hD hS
set_option maxHeartbeats 4000000 in
set_option maxRecDepth 100000 in
theorem c_X5_bribe (l : Launch) (D : va_G) (cI : ClassId) (aS : aSt) (ad : Nat → Nat) (writers : Int32) (year : Int32) (taped : Int32) (at_ : Int32) (statements : Int32) (hasImage : Int32) (isKeeping : Int32) (cursor : Int32) (forgottenWhen : Int32) (rowMany : Int32) (kind : (Nat → Int32)) (figure : (Nat → Int32)) (style : (Nat → Int32)) (silent : (Nat → Int32)) (ring : (Nat → Int32)) (R : Int32 × (Nat → Int32)) (hf : f_X5_bribe writers year kind figure style silent ring = some R) : CtI l yX5_bribe cX5_bribe 6 (some .int) 5 D cI aS [.ref (ad 0)] (wd_X5_bribe cI ad writers year taped at_ statements hasImage isKeeping cursor forgottenWhen rowMany kind figure style silent ring) (wd_X5_bribe cI ad writers year taped at_ statements hasImage isKeeping cursor forgottenWhen rowMany kind figure style silent R.2) R.1 := by
  refine ctI_of (by decide) ⟨_, rfl⟩ (Nat.le_of_ble_eq_true rfl) ?_
  intro p e s m below meth c A Q ls X hret hP hD hl
  have hS : va_S A s.heap s.heap [] := va_S.rf
  have hx := X.1
  have hb := X.2.1
  have hl : lv_has ls 6 [(0, .ref (ad 0))] := hl
  replace hf : ((f_X5_allWorth writers year kind figure style silent ring).bind fun (r4 : Int32) => (f_X5_bribe_10 writers year kind figure style silent  FU (-9 : Int32) r4 (0 : Int32) ring)) = some R := hf
  refine lv_bipush (v := -9) hx hb dX5_bribe_0 (by decide) ?_
  refine lv_istore_n (lv' := [(1, .int (-9 : Int32)), (0, .ref (ad 0))]) hx hb dX5_bribe_2 rfl hl (by decide) rfl (fun ls hl => ?_)
  refine lv_aload_n hx hb dX5_bribe_3 rfl (lv_at hl 1 rfl) ?_
  obtain ⟨r4, hq4, hf⟩ := bS hf
  refine ro_i X hP hD hS [0, 1, 2, 3, 4, 5] rfl (run_V X hP hD hS [0, 1, 2, 3, 4, 5] rfl rfl (c_X5_allWorth l D cI aS ad writers year taped at_ statements hasImage isKeeping cursor forgottenWhen rowMany kind figure style silent ring _ hq4 _) lkX5_206 (by decide) (q0 := 0) rfl rfl rfl rfl (Nat.le_of_ble_eq_true rfl) hl.1 dX5_bribe_4) (fun H locs hP hS => ?_)
  refine lv_istore_n (lv' := [(2, .int r4), (1, .int (-9 : Int32)), (0, .ref (ad 0))]) hx hb dX5_bribe_7 rfl hl (by decide) rfl (fun ls hl => ?_)
  refine lv_iconst (v := 0) hx hb dX5_bribe_8 (by decide) ?_
  refine lv_istore_n (lv' := [(3, .int (0 : Int32)), (2, .int r4), (1, .int (-9 : Int32)), (0, .ref (ad 0))]) hx hb dX5_bribe_9 rfl hl (by decide) rfl (fun ls hl => ?_)
  exact w_X5_bribe_10 ad writers year taped at_ statements hasImage isKeeping cursor forgottenWhen rowMany kind figure style silent X hret  _ (-9 : Int32) r4 (0 : Int32) ring _ _ _ hf (lv_sub hl [3, 2, 1, 0] rfl) hP hD hS

abbrev wd_X5_bringsBehind (cI : ClassId) (ad : Nat → Nat) (writers : Int32) (year : Int32) (taped : Int32) (at_ : Int32) (statements : Int32) (hasImage : Int32) (isKeeping : Int32) (cursor : Int32) (forgottenWhen : Int32) (rowMany : Int32) (ring : (Nat → Int32)) : va_W := [((ad 0), .inr (5, [.ref (ad 1), .ref (ad 2), .ref (ad 3), .ref (ad 4), .ref (ad 5), .ref (ad 6), .ref (ad 7), .int writers, .int year, .ref (ad 8), .ref (ad 9), .ref (ad 10), .ref (ad 11), .int taped, .int at_, .int statements, .ref (ad 12), .int hasImage, .int isKeeping, .int cursor, .int forgottenWhen, .ref (ad 13), .ref (ad 14), .ref (ad 15), .int rowMany])), ((ad 7), .inl (cI, 7, .inl ring))]
def f_X5_bringsBehind_9 (writers : Int32) (kX9_42 : (Nat → Int32) → Option ((Nat → Int32))) : Nat → Int32 → (Nat → Int32) → Option ((Nat → Int32))
  | 0 => fun _ _ => none
  | fuel + 1 => fun v4_9 ring_9 => (if writers ≤ (v4_9 + (1 : Int32)) then (kX9_42 ring_9) else (gd (v4_9 + (1 : Int32)) 7 (gd v4_9 7 (f_X5_bringsBehind_9 writers kX9_42 fuel (v4_9 + (1 : Int32)) (upd ring_9 (Int32.toNatClampNeg v4_9) (ring_9 (Int32.toNatClampNeg (v4_9 + (1 : Int32)))))))))
theorem e_X5_bringsBehind_9 (writers : Int32) (kX9_42 : (Nat → Int32) → Option ((Nat → Int32))) (fuel : Nat) (v4_9 : Int32) (ring_9 : (Nat → Int32)) : f_X5_bringsBehind_9 writers kX9_42 (fuel + 1) v4_9 ring_9 = (if writers ≤ (v4_9 + (1 : Int32)) then (kX9_42 ring_9) else (gd (v4_9 + (1 : Int32)) 7 (gd v4_9 7 (f_X5_bringsBehind_9 writers kX9_42 fuel (v4_9 + (1 : Int32)) (upd ring_9 (Int32.toNatClampNeg v4_9) (ring_9 (Int32.toNatClampNeg (v4_9 + (1 : Int32))))))))) := rfl
def f_X5_bringsBehind_69 (u4_69 : Int32) (kX69_100 : (Nat → Int32) → Option ((Nat → Int32))) : Nat → Int32 → (Nat → Int32) → Option ((Nat → Int32))
  | 0 => fun _ _ => none
  | fuel + 1 => fun v5_69 ring_69 => (if v5_69 ≤ (u4_69 + (1 : Int32)) then (kX69_100 ring_69) else (gd (v5_69 - (1 : Int32)) 7 (gd v5_69 7 (f_X5_bringsBehind_69 u4_69 kX69_100 fuel (v5_69 + (-1 : Int32)) (upd ring_69 (Int32.toNatClampNeg v5_69) (ring_69 (Int32.toNatClampNeg (v5_69 - (1 : Int32)))))))))
theorem e_X5_bringsBehind_69 (u4_69 : Int32) (kX69_100 : (Nat → Int32) → Option ((Nat → Int32))) (fuel : Nat) (v5_69 : Int32) (ring_69 : (Nat → Int32)) : f_X5_bringsBehind_69 u4_69 kX69_100 (fuel + 1) v5_69 ring_69 = (if v5_69 ≤ (u4_69 + (1 : Int32)) then (kX69_100 ring_69) else (gd (v5_69 - (1 : Int32)) 7 (gd v5_69 7 (f_X5_bringsBehind_69 u4_69 kX69_100 fuel (v5_69 + (-1 : Int32)) (upd ring_69 (Int32.toNatClampNeg v5_69) (ring_69 (Int32.toNatClampNeg (v5_69 - (1 : Int32))))))))) := rfl
def f_X5_bringsBehind_100 (x1 : Int32)  (v4_100 : Int32) (ring_100 : (Nat → Int32)) : Option ((Nat → Int32)) := (gd (v4_100 + (1 : Int32)) 7 (some (upd ring_100 (Int32.toNatClampNeg (v4_100 + (1 : Int32))) x1)))
def f_X5_bringsBehind_42 (writers : Int32) (x1 : Int32) (x2 : Int32)  (ring_42 : (Nat → Int32)) : Option ((Nat → Int32)) := (gd (writers - (1 : Int32)) 7 ((f_X5_placeOf (upd ring_42 (Int32.toNatClampNeg (writers - (1 : Int32))) x1) x2).bind fun (r56 : Int32) => (f_X5_bringsBehind_69 r56 (fun (ring_100 : (Nat → Int32)) => (f_X5_bringsBehind_100 x1  r56 ring_100)) FU (writers - (1 : Int32)) (upd ring_42 (Int32.toNatClampNeg (writers - (1 : Int32))) x1))))
def f_X5_bringsBehind (writers : Int32) (ring : (Nat → Int32)) (x1 : Int32) (x2 : Int32) : Option ((Nat → Int32)) := ((f_X5_placeOf ring x1).bind fun (r2 : Int32) => (f_X5_bringsBehind_9 writers (fun (ring_42 : (Nat → Int32)) => (f_X5_bringsBehind_42 writers x1 x2  ring_42)) FU r2 ring))
set_option maxHeartbeats 4000000 in
set_option maxRecDepth 100000 in
theorem w_X5_bringsBehind_9 {p : Program} {l : Launch} {e : Env} {s : State} {m : MethodId} {args : Array Value} {below : List Frame} {meth : Method} {c : Code} {D : va_G} {cI : ClassId} {aS : aSt} {A : Nat → Prop} {Q : State → Prop}  (ad : Nat → Nat) (writers : Int32) (year : Int32) (taped : Int32) (at_ : Int32) (statements : Int32) (hasImage : Int32) (isKeeping : Int32) (cursor : Int32) (forgottenWhen : Int32) (rowMany : Int32) (x1 : Int32) (x2 : Int32) {R : (Nat → Int32)} (X : Bx p s m args meth c cX5_bringsBehind 6 none RX5 D cI aS A) (hret : RtV p l e 1 s m args below meth c cX5_bringsBehind D A (wd_X5_bringsBehind cI ad writers year taped at_ statements hasImage isKeeping cursor forgottenWhen rowMany R) Q) (kX9_42 : (Nat → Int32) → Option ((Nat → Int32))) (hkX9_42 : ∀ (ring_42 : (Nat → Int32)) (H : Heap) (locs : List Loc) (ls : Array Slot), kX9_42 ring_42 = some R → lv_has ls 6 [(0, .ref (ad 0)), (1, .int x1), (2, .int x2)] → va_P D vwCl (wd_X5_bringsBehind cI ad writers year taped at_ statements hasImage isKeeping cursor forgottenWhen rowMany ring_42) H → va_D A (wd_X5_bringsBehind cI ad writers year taped at_ statements hasImage isKeeping cursor forgottenWhen rowMany ring_42) → va_S A s.heap H locs → Wh p l e 1 s m args below meth c H locs Q (F0 m 42 ls [])) : ∀ (fuel : Nat) (v4_9 : Int32) (ring_9 : (Nat → Int32)) (H : Heap) (locs : List Loc) (ls : Array Slot), f_X5_bringsBehind_9 writers kX9_42 fuel v4_9 ring_9 = some R → lv_has ls 6 [(0, .ref (ad 0)), (1, .int x1), (2, .int x2), (4, .int v4_9)] → va_P D vwCl (wd_X5_bringsBehind cI ad writers year taped at_ statements hasImage isKeeping cursor forgottenWhen rowMany ring_9) H → va_D A (wd_X5_bringsBehind cI ad writers year taped at_ statements hasImage isKeeping cursor forgottenWhen rowMany ring_9) → va_S A s.heap H locs → Wh p l e 1 s m args below meth c H locs Q (F0 m 9 ls []) := by
  have hx := X.1
  have hb := X.2.1
  intro fuel
  induction fuel with
  | zero =>
    intro v4_9 ring_9 H locs ls hf hl hP hD hS
    cases hf
  | succ fuel ih =>
    intro v4_9 ring_9 H locs ls hf hl hP hD hS
    replace hf : (if writers ≤ (v4_9 + (1 : Int32)) then (kX9_42 ring_9) else (gd (v4_9 + (1 : Int32)) 7 (gd v4_9 7 (f_X5_bringsBehind_9 writers kX9_42 fuel (v4_9 + (1 : Int32)) (upd ring_9 (Int32.toNatClampNeg v4_9) (ring_9 (Int32.toNatClampNeg (v4_9 + (1 : Int32))))))))) = some R := hf
    refine lv_iload hx hb dX5_bringsBehind_9 (lv_at hl 3 rfl) ?_
    refine lv_iconst (v := 1) hx hb dX5_bringsBehind_11 (by decide) ?_
    refine lv_iadd hx hb dX5_bringsBehind_12 ?_
    refine lv_aload_n hx hb dX5_bringsBehind_13 rfl (lv_at hl 0 rfl) ?_
    refine fgX5_55 X hP (q0 := 0) rfl rfl dX5_bringsBehind_14 ?_
    refine lv_icmp_ge (tgt := 42) hx hb dX5_bringsBehind_17 (by decide) (fun c17 => ?_) (fun c17 => ?_)
    · have hf := iT c17 hf
      exact hkX9_42 ring_9 _ _ _ hf (lv_sub hl [0, 1, 2] rfl) hP hD hS
    · have hf := iF c17 hf
      refine lv_aload_n hx hb dX5_bringsBehind_20 rfl (lv_at hl 0 rfl) ?_
      refine fgX5_28 X hP (q0 := 0) rfl rfl dX5_bringsBehind_21 ?_
      refine lv_iload hx hb dX5_bringsBehind_24 (lv_at hl 3 rfl) ?_
      refine lv_aload_n hx hb dX5_bringsBehind_26 rfl (lv_at hl 0 rfl) ?_
      refine fgX5_28 X hP (q0 := 0) rfl rfl dX5_bringsBehind_27 ?_
      refine lv_iload hx hb dX5_bringsBehind_30 (lv_at hl 3 rfl) ?_
      refine lv_iconst (v := 1) hx hb dX5_bringsBehind_32 (by decide) ?_
      refine lv_iadd hx hb dX5_bringsBehind_33 ?_
      refine aGet X hP (q0 := 1) rfl (gdS hf).1 dX5_bringsBehind_34 ?_
      have hf := (gdS hf).2
      refine aPut X hP hD hS (q0 := 1) (ws' := (wd_X5_bringsBehind cI ad writers year taped at_ statements hasImage isKeeping cursor forgottenWhen rowMany (upd ring_9 (Int32.toNatClampNeg v4_9) (ring_9 (Int32.toNatClampNeg (v4_9 + (1 : Int32))))))) rfl (gdS hf).1 rfl dX5_bringsBehind_35 (fun H locs hP hD hS => ?_)
      have hf := (gdS hf).2
      refine lv_iinc (v := (v4_9 + (1 : Int32))) (lv' := [(4, .int (v4_9 + (1 : Int32))), (0, .ref (ad 0)), (1, .int x1), (2, .int x2)]) hx hb dX5_bringsBehind_36 hl (k := 3) rfl rfl (by decide) rfl (fun ls hl => ?_)
      refine lv_goto (tgt := 9) hx hb dX5_bringsBehind_39 (by decide) ?_
      exact ih (v4_9 + (1 : Int32)) (upd ring_9 (Int32.toNatClampNeg v4_9) (ring_9 (Int32.toNatClampNeg (v4_9 + (1 : Int32))))) _ _ _ hf (lv_sub hl [1, 2, 3, 0] rfl) hP hD hS
set_option maxHeartbeats 4000000 in
set_option maxRecDepth 100000 in
theorem w_X5_bringsBehind_69 {p : Program} {l : Launch} {e : Env} {s : State} {m : MethodId} {args : Array Value} {below : List Frame} {meth : Method} {c : Code} {D : va_G} {cI : ClassId} {aS : aSt} {A : Nat → Prop} {Q : State → Prop}  (ad : Nat → Nat) (writers : Int32) (year : Int32) (taped : Int32) (at_ : Int32) (statements : Int32) (hasImage : Int32) (isKeeping : Int32) (cursor : Int32) (forgottenWhen : Int32) (rowMany : Int32) (x1 : Int32) (x2 : Int32) (u4_69 : Int32) {R : (Nat → Int32)} (X : Bx p s m args meth c cX5_bringsBehind 6 none RX5 D cI aS A) (hret : RtV p l e 1 s m args below meth c cX5_bringsBehind D A (wd_X5_bringsBehind cI ad writers year taped at_ statements hasImage isKeeping cursor forgottenWhen rowMany R) Q) (kX69_100 : (Nat → Int32) → Option ((Nat → Int32))) (hkX69_100 : ∀ (ring_100 : (Nat → Int32)) (H : Heap) (locs : List Loc) (ls : Array Slot), kX69_100 ring_100 = some R → lv_has ls 6 [(0, .ref (ad 0)), (1, .int x1), (4, .int u4_69)] → va_P D vwCl (wd_X5_bringsBehind cI ad writers year taped at_ statements hasImage isKeeping cursor forgottenWhen rowMany ring_100) H → va_D A (wd_X5_bringsBehind cI ad writers year taped at_ statements hasImage isKeeping cursor forgottenWhen rowMany ring_100) → va_S A s.heap H locs → Wh p l e 1 s m args below meth c H locs Q (F0 m 100 ls [])) : ∀ (fuel : Nat) (v5_69 : Int32) (ring_69 : (Nat → Int32)) (H : Heap) (locs : List Loc) (ls : Array Slot), f_X5_bringsBehind_69 u4_69 kX69_100 fuel v5_69 ring_69 = some R → lv_has ls 6 [(0, .ref (ad 0)), (1, .int x1), (4, .int u4_69), (5, .int v5_69)] → va_P D vwCl (wd_X5_bringsBehind cI ad writers year taped at_ statements hasImage isKeeping cursor forgottenWhen rowMany ring_69) H → va_D A (wd_X5_bringsBehind cI ad writers year taped at_ statements hasImage isKeeping cursor forgottenWhen rowMany ring_69) → va_S A s.heap H locs → Wh p l e 1 s m args below meth c H locs Q (F0 m 69 ls []) := by
  have hx := X.1
  have hb := X.2.1
  intro fuel
  induction fuel with
  | zero =>
    intro v5_69 ring_69 H locs ls hf hl hP hD hS
    cases hf
  | succ fuel ih =>
    intro v5_69 ring_69 H locs ls hf hl hP hD hS
    replace hf : (if v5_69 ≤ (u4_69 + (1 : Int32)) then (kX69_100 ring_69) else (gd (v5_69 - (1 : Int32)) 7 (gd v5_69 7 (f_X5_bringsBehind_69 u4_69 kX69_100 fuel (v5_69 + (-1 : Int32)) (upd ring_69 (Int32.toNatClampNeg v5_69) (ring_69 (Int32.toNatClampNeg (v5_69 - (1 : Int32))))))))) = some R := hf
    refine lv_iload hx hb dX5_bringsBehind_69 (lv_at hl 3 rfl) ?_
    refine lv_iload hx hb dX5_bringsBehind_71 (lv_at hl 2 rfl) ?_
    refine lv_iconst (v := 1) hx hb dX5_bringsBehind_73 (by decide) ?_
    refine lv_iadd hx hb dX5_bringsBehind_74 ?_
    refine lv_icmp_le (tgt := 100) hx hb dX5_bringsBehind_75 (by decide) (fun c75 => ?_) (fun c75 => ?_)
    · have hf := iT c75 hf
      exact hkX69_100 ring_69 _ _ _ hf (lv_sub hl [0, 1, 2] rfl) hP hD hS
    · have hf := iF c75 hf
      refine lv_aload_n hx hb dX5_bringsBehind_78 rfl (lv_at hl 0 rfl) ?_
      refine fgX5_28 X hP (q0 := 0) rfl rfl dX5_bringsBehind_79 ?_
      refine lv_iload hx hb dX5_bringsBehind_82 (lv_at hl 3 rfl) ?_
      refine lv_aload_n hx hb dX5_bringsBehind_84 rfl (lv_at hl 0 rfl) ?_
      refine fgX5_28 X hP (q0 := 0) rfl rfl dX5_bringsBehind_85 ?_
      refine lv_iload hx hb dX5_bringsBehind_88 (lv_at hl 3 rfl) ?_
      refine lv_iconst (v := 1) hx hb dX5_bringsBehind_90 (by decide) ?_
      refine lv_isub hx hb dX5_bringsBehind_91 ?_
      refine aGet X hP (q0 := 1) rfl (gdS hf).1 dX5_bringsBehind_92 ?_
      have hf := (gdS hf).2
      refine aPut X hP hD hS (q0 := 1) (ws' := (wd_X5_bringsBehind cI ad writers year taped at_ statements hasImage isKeeping cursor forgottenWhen rowMany (upd ring_69 (Int32.toNatClampNeg v5_69) (ring_69 (Int32.toNatClampNeg (v5_69 - (1 : Int32))))))) rfl (gdS hf).1 rfl dX5_bringsBehind_93 (fun H locs hP hD hS => ?_)
      have hf := (gdS hf).2
      refine lv_iinc (v := (v5_69 + (-1 : Int32))) (lv' := [(5, .int (v5_69 + (-1 : Int32))), (0, .ref (ad 0)), (1, .int x1), (4, .int u4_69)]) hx hb dX5_bringsBehind_94 hl (k := 3) rfl rfl (by decide) rfl (fun ls hl => ?_)
      refine lv_goto (tgt := 69) hx hb dX5_bringsBehind_97 (by decide) ?_
      exact ih (v5_69 + (-1 : Int32)) (upd ring_69 (Int32.toNatClampNeg v5_69) (ring_69 (Int32.toNatClampNeg (v5_69 - (1 : Int32))))) _ _ _ hf (lv_sub hl [1, 2, 3, 0] rfl) hP hD hS
set_option maxHeartbeats 4000000 in
set_option maxRecDepth 100000 in
theorem w_X5_bringsBehind_100 {p : Program} {l : Launch} {e : Env} {s : State} {m : MethodId} {args : Array Value} {below : List Frame} {meth : Method} {c : Code} {D : va_G} {cI : ClassId} {aS : aSt} {A : Nat → Prop} {Q : State → Prop}  (ad : Nat → Nat) (writers : Int32) (year : Int32) (taped : Int32) (at_ : Int32) (statements : Int32) (hasImage : Int32) (isKeeping : Int32) (cursor : Int32) (forgottenWhen : Int32) (rowMany : Int32) (x1 : Int32) (x2 : Int32) {R : (Nat → Int32)} (X : Bx p s m args meth c cX5_bringsBehind 6 none RX5 D cI aS A) (hret : RtV p l e 1 s m args below meth c cX5_bringsBehind D A (wd_X5_bringsBehind cI ad writers year taped at_ statements hasImage isKeeping cursor forgottenWhen rowMany R) Q) : ∀ (v4_100 : Int32) (ring_100 : (Nat → Int32)) (H : Heap) (locs : List Loc) (ls : Array Slot), f_X5_bringsBehind_100 x1  v4_100 ring_100 = some R → lv_has ls 6 [(0, .ref (ad 0)), (1, .int x1), (4, .int v4_100)] → va_P D vwCl (wd_X5_bringsBehind cI ad writers year taped at_ statements hasImage isKeeping cursor forgottenWhen rowMany ring_100) H → va_D A (wd_X5_bringsBehind cI ad writers year taped at_ statements hasImage isKeeping cursor forgottenWhen rowMany ring_100) → va_S A s.heap H locs → Wh p l e 1 s m args below meth c H locs Q (F0 m 100 ls []) := by
  have hx := X.1
  have hb := X.2.1
  intro v4_100 ring_100 H locs ls hf hl hP hD hS
  replace hf : (gd (v4_100 + (1 : Int32)) 7 (some (upd ring_100 (Int32.toNatClampNeg (v4_100 + (1 : Int32))) x1))) = some R := hf
  refine lv_aload_n hx hb dX5_bringsBehind_100 rfl (lv_at hl 0 rfl) ?_
  refine fgX5_28 X hP (q0 := 0) rfl rfl dX5_bringsBehind_101 ?_
  refine lv_iload hx hb dX5_bringsBehind_104 (lv_at hl 2 rfl) ?_
  refine lv_iconst (v := 1) hx hb dX5_bringsBehind_106 (by decide) ?_
  refine lv_iadd hx hb dX5_bringsBehind_107 ?_
  refine lv_iload_n hx hb dX5_bringsBehind_108 rfl (lv_at hl 1 rfl) ?_
  refine aPut X hP hD hS (q0 := 1) (ws' := (wd_X5_bringsBehind cI ad writers year taped at_ statements hasImage isKeeping cursor forgottenWhen rowMany (upd ring_100 (Int32.toNatClampNeg (v4_100 + (1 : Int32))) x1))) rfl (gdS hf).1 rfl dX5_bringsBehind_109 (fun H locs hP hD hS => ?_)
  have hf := (gdS hf).2
  have hR := Option.some.inj hf
  subst hR
  exact hret _ _ _ _ hP hD hS dX5_bringsBehind_110
set_option maxHeartbeats 4000000 in
set_option maxRecDepth 100000 in
theorem w_X5_bringsBehind_42 {p : Program} {l : Launch} {e : Env} {s : State} {m : MethodId} {args : Array Value} {below : List Frame} {meth : Method} {c : Code} {D : va_G} {cI : ClassId} {aS : aSt} {A : Nat → Prop} {Q : State → Prop}  (ad : Nat → Nat) (writers : Int32) (year : Int32) (taped : Int32) (at_ : Int32) (statements : Int32) (hasImage : Int32) (isKeeping : Int32) (cursor : Int32) (forgottenWhen : Int32) (rowMany : Int32) (x1 : Int32) (x2 : Int32) {R : (Nat → Int32)} (X : Bx p s m args meth c cX5_bringsBehind 6 none RX5 D cI aS A) (hret : RtV p l e 1 s m args below meth c cX5_bringsBehind D A (wd_X5_bringsBehind cI ad writers year taped at_ statements hasImage isKeeping cursor forgottenWhen rowMany R) Q) : ∀ (ring_42 : (Nat → Int32)) (H : Heap) (locs : List Loc) (ls : Array Slot), f_X5_bringsBehind_42 writers x1 x2  ring_42 = some R → lv_has ls 6 [(0, .ref (ad 0)), (1, .int x1), (2, .int x2)] → va_P D vwCl (wd_X5_bringsBehind cI ad writers year taped at_ statements hasImage isKeeping cursor forgottenWhen rowMany ring_42) H → va_D A (wd_X5_bringsBehind cI ad writers year taped at_ statements hasImage isKeeping cursor forgottenWhen rowMany ring_42) → va_S A s.heap H locs → Wh p l e 1 s m args below meth c H locs Q (F0 m 42 ls []) := by
  have hx := X.1
  have hb := X.2.1
  intro ring_42 H locs ls hf hl hP hD hS
  replace hf : (gd (writers - (1 : Int32)) 7 ((f_X5_placeOf (upd ring_42 (Int32.toNatClampNeg (writers - (1 : Int32))) x1) x2).bind fun (r56 : Int32) => (f_X5_bringsBehind_69 r56 (fun (ring_100 : (Nat → Int32)) => (f_X5_bringsBehind_100 x1  r56 ring_100)) FU (writers - (1 : Int32)) (upd ring_42 (Int32.toNatClampNeg (writers - (1 : Int32))) x1)))) = some R := hf
  refine lv_aload_n hx hb dX5_bringsBehind_42 rfl (lv_at hl 0 rfl) ?_
  refine fgX5_28 X hP (q0 := 0) rfl rfl dX5_bringsBehind_43 ?_
  refine lv_aload_n hx hb dX5_bringsBehind_46 rfl (lv_at hl 0 rfl) ?_
  refine fgX5_55 X hP (q0 := 0) rfl rfl dX5_bringsBehind_47 ?_
  refine lv_iconst (v := 1) hx hb dX5_bringsBehind_50 (by decide) ?_
  refine lv_isub hx hb dX5_bringsBehind_51 ?_
  refine lv_iload_n hx hb dX5_bringsBehind_52 rfl (lv_at hl 1 rfl) ?_
  refine aPut X hP hD hS (q0 := 1) (ws' := (wd_X5_bringsBehind cI ad writers year taped at_ statements hasImage isKeeping cursor forgottenWhen rowMany (upd ring_42 (Int32.toNatClampNeg (writers - (1 : Int32))) x1))) rfl (gdS hf).1 rfl dX5_bringsBehind_53 (fun H locs hP hD hS => ?_)
  have hf := (gdS hf).2
  refine lv_aload_n hx hb dX5_bringsBehind_54 rfl (lv_at hl 0 rfl) ?_
  refine lv_iload_n hx hb dX5_bringsBehind_55 rfl (lv_at hl 2 rfl) ?_
  obtain ⟨r56, hq56, hf⟩ := bS hf
  refine ro_i X hP hD hS [0, 1] rfl (run_V X hP hD hS [0, 1] rfl rfl (c_X5_placeOf l D cI aS ad writers year taped at_ statements hasImage isKeeping cursor forgottenWhen rowMany (upd ring_42 (Int32.toNatClampNeg (writers - (1 : Int32))) x1) x2 _ hq56 _) lkX5_159 (by decide) (q0 := 0) rfl rfl rfl rfl (Nat.le_of_ble_eq_true rfl) hl.1 dX5_bringsBehind_56) (fun H locs hP hS => ?_)
  refine lv_istore (lv' := [(4, .int r56), (0, .ref (ad 0)), (1, .int x1), (2, .int x2)]) hx hb dX5_bringsBehind_59 hl (by decide) rfl (fun ls hl => ?_)
  refine lv_aload_n hx hb dX5_bringsBehind_61 rfl (lv_at hl 1 rfl) ?_
  refine fgX5_55 X hP (q0 := 0) rfl rfl dX5_bringsBehind_62 ?_
  refine lv_iconst (v := 1) hx hb dX5_bringsBehind_65 (by decide) ?_
  refine lv_isub hx hb dX5_bringsBehind_66 ?_
  refine lv_istore (lv' := [(5, .int (writers - (1 : Int32))), (4, .int r56), (0, .ref (ad 0)), (1, .int x1), (2, .int x2)]) hx hb dX5_bringsBehind_67 hl (by decide) rfl (fun ls hl => ?_)
  exact w_X5_bringsBehind_69 ad writers year taped at_ statements hasImage isKeeping cursor forgottenWhen rowMany x1 x2 r56 X hret _ (fun ring_100 _ _ _ hf hl hP hD hS => w_X5_bringsBehind_100 ad writers year taped at_ statements hasImage isKeeping cursor forgottenWhen rowMany x1 x2 X hret  r56 ring_100 _ _ _ hf (lv_sub hl [0, 1, 2] rfl) hP hD hS) _ (writers - (1 : Int32)) (upd ring_42 (Int32.toNatClampNeg (writers - (1 : Int32))) x1) _ _ _ hf (lv_sub hl [2, 3, 1, 0] rfl) hP hD hS
set_option maxHeartbeats 4000000 in
set_option maxRecDepth 100000 in
theorem c_X5_bringsBehind (l : Launch) (D : va_G) (cI : ClassId) (aS : aSt) (ad : Nat → Nat) (writers : Int32) (year : Int32) (taped : Int32) (at_ : Int32) (statements : Int32) (hasImage : Int32) (isKeeping : Int32) (cursor : Int32) (forgottenWhen : Int32) (rowMany : Int32) (ring : (Nat → Int32)) (x1 : Int32) (x2 : Int32) (R : (Nat → Int32)) (hf : f_X5_bringsBehind writers ring x1 x2 = some R) : CtV l yX5_bringsBehind cX5_bringsBehind 6 none 1 D cI aS [.ref (ad 0), .int x1, .int x2] (wd_X5_bringsBehind cI ad writers year taped at_ statements hasImage isKeeping cursor forgottenWhen rowMany ring) (wd_X5_bringsBehind cI ad writers year taped at_ statements hasImage isKeeping cursor forgottenWhen rowMany R) := by
  refine ctV_of (by decide) rfl (Nat.le_of_ble_eq_true rfl) ?_
  intro p e s m below meth c A Q ls X hret hP hD hl
  have hS : va_S A s.heap s.heap [] := va_S.rf
  have hx := X.1
  have hb := X.2.1
  have hl : lv_has ls 6 [(0, .ref (ad 0)), (1, .int x1), (2, .int x2)] := hl
  replace hf : ((f_X5_placeOf ring x1).bind fun (r2 : Int32) => (f_X5_bringsBehind_9 writers (fun (ring_42 : (Nat → Int32)) => (f_X5_bringsBehind_42 writers x1 x2  ring_42)) FU r2 ring)) = some R := hf
  refine lv_aload_n hx hb dX5_bringsBehind_0 rfl (lv_at hl 0 rfl) ?_
  refine lv_iload_n hx hb dX5_bringsBehind_1 rfl (lv_at hl 1 rfl) ?_
  obtain ⟨r2, hq2, hf⟩ := bS hf
  refine ro_i X hP hD hS [0, 1] rfl (run_V X hP hD hS [0, 1] rfl rfl (c_X5_placeOf l D cI aS ad writers year taped at_ statements hasImage isKeeping cursor forgottenWhen rowMany ring x1 _ hq2 _) lkX5_159 (by decide) (q0 := 0) rfl rfl rfl rfl (Nat.le_of_ble_eq_true rfl) hl.1 dX5_bringsBehind_2) (fun H locs hP hS => ?_)
  refine lv_istore_n (lv' := [(3, .int r2), (0, .ref (ad 0)), (1, .int x1), (2, .int x2)]) hx hb dX5_bringsBehind_5 rfl hl (by decide) rfl (fun ls hl => ?_)
  refine lv_iload_n hx hb dX5_bringsBehind_6 rfl (lv_at hl 0 rfl) ?_
  refine lv_istore (lv' := [(4, .int r2), (3, .int r2), (0, .ref (ad 0)), (1, .int x1), (2, .int x2)]) hx hb dX5_bringsBehind_7 hl (by decide) rfl (fun ls hl => ?_)
  exact w_X5_bringsBehind_9 ad writers year taped at_ statements hasImage isKeeping cursor forgottenWhen rowMany x1 x2 X hret _ (fun ring_42 _ _ _ hf hl hP hD hS => w_X5_bringsBehind_42 ad writers year taped at_ statements hasImage isKeeping cursor forgottenWhen rowMany x1 x2 X hret  ring_42 _ _ _ hf (lv_sub hl [0, 1, 2] rfl) hP hD hS) _ r2 ring _ _ _ hf (lv_sub hl [2, 3, 4, 0] rfl) hP hD hS

abbrev wd_X5_divisor (cI : ClassId)  : va_W := []
def f_X5_divisor_6   : Nat → Int64 → Int64 → Option (Int64)
  | 0 => fun _ _ => none
  | fuel + 1 => fun v4_6 v6_6 => (if (lg_cmp v6_6 (0 : Int64)) = 0 then (some v4_6) else (gzl v6_6 (f_X5_divisor_6   fuel v6_6 (remL v4_6 v6_6))))
theorem e_X5_divisor_6   (fuel : Nat) (v4_6 : Int64) (v6_6 : Int64) : f_X5_divisor_6   (fuel + 1) v4_6 v6_6 = (if (lg_cmp v6_6 (0 : Int64)) = 0 then (some v4_6) else (gzl v6_6 (f_X5_divisor_6   fuel v6_6 (remL v4_6 v6_6)))) := rfl
def f_X5_divisor (x0 : Int64) (x2 : Int64) : Option (Int64) := (f_X5_divisor_6   FU x0 x2)
set_option maxHeartbeats 4000000 in
set_option maxRecDepth 100000 in
theorem w_X5_divisor_6 {p : Program} {l : Launch} {e : Env} {s : State} {m : MethodId} {args : Array Value} {below : List Frame} {meth : Method} {c : Code} {D : va_G} {cI : ClassId} {aS : aSt} {A : Nat → Prop} {Q : State → Prop}  (x0 : Int64) (x2 : Int64) {R : Int64} (X : Bx p s m args meth c cX5_divisor 10 (some .long) RX5 D cI aS A) (hret : RtL p l e 0 s m args below meth c cX5_divisor D A (wd_X5_divisor cI ) R Q) : ∀ (fuel : Nat) (v4_6 : Int64) (v6_6 : Int64) (H : Heap) (locs : List Loc) (ls : Array Slot), f_X5_divisor_6   fuel v4_6 v6_6 = some R → lv_has ls 10 [(4, .long v4_6), (6, .long v6_6)] → va_P D vwCl (wd_X5_divisor cI ) H → va_D A (wd_X5_divisor cI ) → va_S A s.heap H locs → Wh p l e 0 s m args below meth c H locs Q (F0 m 6 ls []) := by
  have hx := X.1
  have hb := X.2.1
  intro fuel
  induction fuel with
  | zero =>
    intro v4_6 v6_6 H locs ls hf hl hP hD hS
    cases hf
  | succ fuel ih =>
    intro v4_6 v6_6 H locs ls hf hl hP hD hS
    replace hf : (if (lg_cmp v6_6 (0 : Int64)) = 0 then (some v4_6) else (gzl v6_6 (f_X5_divisor_6   fuel v6_6 (remL v4_6 v6_6)))) = some R := hf
    refine lv_lload hx hb dX5_divisor_6 (lv_at hl 1 rfl) ?_
    refine lv_lconst (v := 0) hx hb dX5_divisor_8 (by decide) ?_
    refine W.lcmp hx hb dX5_divisor_9 ?_
    refine lv_if_eq (tgt := 31) hx hb dX5_divisor_10 (by decide) (fun c10 => ?_) (fun c10 => ?_)
    · have hf := iT c10 hf
      refine lv_lload hx hb dX5_divisor_31 (lv_at hl 0 rfl) ?_
      have hR := Option.some.inj hf
      subst hR
      exact hret _ _ _ _ _ rfl hP hD hS dX5_divisor_33
    · have hf := iF c10 hf
      refine lv_lload hx hb dX5_divisor_13 (lv_at hl 0 rfl) ?_
      refine lv_lload hx hb dX5_divisor_15 (lv_at hl 1 rfl) ?_
      refine x_lrem hx hb dX5_divisor_17 (gzlS hf).1 ?_
      have hf := (gzlS hf).2
      refine lv_lstore (lv' := [(8, .long (remL v4_6 v6_6)), (4, .long v4_6), (6, .long v6_6)]) hx hb dX5_divisor_18 hl (by decide) rfl (fun ls hl => ?_)
      refine lv_lload hx hb dX5_divisor_20 (lv_at hl 2 rfl) ?_
      refine lv_lstore (lv' := [(4, .long v6_6), (8, .long (remL v4_6 v6_6)), (6, .long v6_6)]) hx hb dX5_divisor_22 hl (by decide) rfl (fun ls hl => ?_)
      refine lv_lload hx hb dX5_divisor_24 (lv_at hl 1 rfl) ?_
      refine lv_lstore (lv' := [(6, .long (remL v4_6 v6_6)), (4, .long v6_6), (8, .long (remL v4_6 v6_6))]) hx hb dX5_divisor_26 hl (by decide) rfl (fun ls hl => ?_)
      refine lv_goto (tgt := 6) hx hb dX5_divisor_28 (by decide) ?_
      exact ih v6_6 (remL v4_6 v6_6) _ _ _ hf (lv_sub hl [1, 0] rfl) hP hD hS
set_option maxHeartbeats 4000000 in
set_option maxRecDepth 100000 in
theorem c_X5_divisor (l : Launch) (D : va_G) (cI : ClassId) (aS : aSt) (x0 : Int64) (x2 : Int64) (R : Int64) (hf : f_X5_divisor x0 x2 = some R) : CtL l yX5_divisor cX5_divisor 10 (some .long) 0 D cI aS [.long x0, .long x2] (wd_X5_divisor cI ) (wd_X5_divisor cI ) R := by
  refine ctL_of (by decide) rfl (Nat.le_of_ble_eq_true rfl) ?_
  intro p e s m below meth c A Q ls X hret hP hD hl
  have hS : va_S A s.heap s.heap [] := va_S.rf
  have hx := X.1
  have hb := X.2.1
  have hl : lv_has ls 10 [(0, .long x0), (2, .long x2)] := hl
  replace hf : (f_X5_divisor_6   FU x0 x2) = some R := hf
  refine lv_lload_n hx hb dX5_divisor_0 rfl (lv_at hl 0 rfl) ?_
  refine lv_lstore (lv' := [(4, .long x0), (0, .long x0), (2, .long x2)]) hx hb dX5_divisor_1 hl (by decide) rfl (fun ls hl => ?_)
  refine lv_lload_n hx hb dX5_divisor_3 rfl (lv_at hl 2 rfl) ?_
  refine lv_lstore (lv' := [(6, .long x2), (4, .long x0), (0, .long x0), (2, .long x2)]) hx hb dX5_divisor_4 hl (by decide) rfl (fun ls hl => ?_)
  exact w_X5_divisor_6 x0 x2 X hret  _ x0 x2 _ _ _ hf (lv_sub hl [1, 0] rfl) hP hD hS

abbrev wd_X5_partOf (cI : ClassId)  : va_W := []
def f_X5_partOf_10 (x0 : Int64) (x2 : Int64)  (t0_10 : Int64) : Option (Int64) := ((f_X5_divisor x0 x2).bind fun (r12 : Int64) => (gzl r12 (some (divL t0_10 r12))))
def f_X5_partOf (x0 : Int64) (x2 : Int64) (x4 : Int32) : Option (Int64) := (if x4 = 0 then (f_X5_partOf_10 x0 x2  x0) else (f_X5_partOf_10 x0 x2  x2))
set_option maxHeartbeats 4000000 in
set_option maxRecDepth 100000 in
theorem w_X5_partOf_10 {p : Program} {l : Launch} {e : Env} {s : State} {m : MethodId} {args : Array Value} {below : List Frame} {meth : Method} {c : Code} {D : va_G} {cI : ClassId} {aS : aSt} {A : Nat → Prop} {Q : State → Prop}  (x0 : Int64) (x2 : Int64) (x4 : Int32) {R : Int64} (X : Bx p s m args meth c cX5_partOf 5 (some .long) RX5 D cI aS A) (hret : RtL p l e 1 s m args below meth c cX5_partOf D A (wd_X5_partOf cI ) R Q) : ∀ (t0_10 : Int64) (H : Heap) (locs : List Loc) (ls : Array Slot), f_X5_partOf_10 x0 x2  t0_10 = some R → lv_has ls 5 [(0, .long x0), (2, .long x2)] → va_P D vwCl (wd_X5_partOf cI ) H → va_D A (wd_X5_partOf cI ) → va_S A s.heap H locs → Wh p l e 1 s m args below meth c H locs Q (F0 m 10 ls [.long t0_10]) := by
  have hx := X.1
  have hb := X.2.1
  intro t0_10 H locs ls hf hl hP hD hS
  replace hf : ((f_X5_divisor x0 x2).bind fun (r12 : Int64) => (gzl r12 (some (divL t0_10 r12)))) = some R := hf
  refine lv_lload_n hx hb dX5_partOf_10 rfl (lv_at hl 0 rfl) ?_
  refine lv_lload_n hx hb dX5_partOf_11 rfl (lv_at hl 1 rfl) ?_
  obtain ⟨r12, hq12, hf⟩ := bS hf
  refine ro_l X hP hD hS [] rfl (run_S X hP hD hS [] rfl rfl (c_X5_divisor l D cI aS x0 x2 _ hq12 _) lkX5_245 (by decide) rfl rfl (Nat.le_of_ble_eq_true rfl) hl.1 dX5_partOf_12) (fun H locs hP hS => ?_)
  refine x_ldiv hx hb dX5_partOf_15 (gzlS hf).1 ?_
  have hf := (gzlS hf).2
  have hR := Option.some.inj hf
  subst hR
  exact hret _ _ _ _ _ rfl hP hD hS dX5_partOf_16
set_option maxHeartbeats 4000000 in
set_option maxRecDepth 100000 in
theorem c_X5_partOf (l : Launch) (D : va_G) (cI : ClassId) (aS : aSt) (x0 : Int64) (x2 : Int64) (x4 : Int32) (R : Int64) (hf : f_X5_partOf x0 x2 x4 = some R) : CtL l yX5_partOf cX5_partOf 5 (some .long) 1 D cI aS [.long x0, .long x2, .int x4] (wd_X5_partOf cI ) (wd_X5_partOf cI ) R := by
  refine ctL_of (by decide) rfl (Nat.le_of_ble_eq_true rfl) ?_
  intro p e s m below meth c A Q ls X hret hP hD hl
  have hS : va_S A s.heap s.heap [] := va_S.rf
  have hx := X.1
  have hb := X.2.1
  have hl : lv_has ls 5 [(0, .long x0), (2, .long x2), (4, .int x4)] := hl
  replace hf : (if x4 = 0 then (f_X5_partOf_10 x0 x2  x0) else (f_X5_partOf_10 x0 x2  x2)) = some R := hf
  refine lv_iload hx hb dX5_partOf_0 (lv_at hl 2 rfl) ?_
  refine lv_if_ne (tgt := 9) hx hb dX5_partOf_2 (by decide) (fun c2 => ?_) (fun c2 => ?_)
  · have hf := iF c2 hf
    refine lv_lload_n hx hb dX5_partOf_9 rfl (lv_at hl 1 rfl) ?_
    exact w_X5_partOf_10 x0 x2 x4 X hret  x2 _ _ _ hf (lv_sub hl [0, 1] rfl) hP hD hS
  · have hf := iT c2 hf
    refine lv_lload_n hx hb dX5_partOf_5 rfl (lv_at hl 0 rfl) ?_
    refine lv_goto (tgt := 10) hx hb dX5_partOf_6 (by decide) ?_
    exact w_X5_partOf_10 x0 x2 x4 X hret  x0 _ _ _ hf (lv_sub hl [0, 1] rfl) hP hD hS

abbrev wd_X5_censor (cI : ClassId) (ad : Nat → Nat) (writers : Int32) (year : Int32) (taped : Int32) (at_ : Int32) (statements : Int32) (hasImage : Int32) (isKeeping : Int32) (cursor : Int32) (forgottenWhen : Int32) (rowMany : Int32) (refused : (Nat → Int32)) (kind : (Nat → Int32)) (figure : (Nat → Int32)) (style : (Nat → Int32)) (fame : (Nat → Int32)) (silent : (Nat → Int32)) (ring : (Nat → Int32)) (kept : (Nat → Int32)) : va_W := [((ad 0), .inr (5, [.ref (ad 1), .ref (ad 2), .ref (ad 3), .ref (ad 4), .ref (ad 5), .ref (ad 6), .ref (ad 7), .int writers, .int year, .ref (ad 8), .ref (ad 9), .ref (ad 10), .ref (ad 11), .int taped, .int at_, .int statements, .ref (ad 12), .int hasImage, .int isKeeping, .int cursor, .int forgottenWhen, .ref (ad 13), .ref (ad 14), .ref (ad 15), .int rowMany])), ((ad 1), .inl (cI, 7, .inl refused)), ((ad 2), .inl (cI, 7, .inl kind)), ((ad 3), .inl (cI, 7, .inl figure)), ((ad 4), .inl (cI, 7, .inl style)), ((ad 5), .inl (cI, 7, .inl fame)), ((ad 6), .inl (cI, 7, .inl silent)), ((ad 7), .inl (cI, 7, .inl ring)), ((ad 12), .inl (cI, 132, .inl kept))]
def f_X5_censor_94 (x2 : Int32) (x3 : Int32) (kX94_113 : Int64 → Option (Int64 × Int32 × Int32 × Int32 × Int32 × (Nat → Int32) × (Nat → Int32) × (Nat → Int32) × (Nat → Int32) × (Nat → Int32) × (Nat → Int32) × (Nat → Int32) × (Nat → Int32))) : Nat → Int64 → Int32 → Option (Int64 × Int32 × Int32 × Int32 × Int32 × (Nat → Int32) × (Nat → Int32) × (Nat → Int32) × (Nat → Int32) × (Nat → Int32) × (Nat → Int32) × (Nat → Int32) × (Nat → Int32))
  | 0 => fun _ _ => none
  | fuel + 1 => fun v9_94 v11_94 => (if x2 ≤ v11_94 then (kX94_113 v9_94) else (f_X5_censor_94 x2 x3 kX94_113 fuel (v9_94 * (Int32.toInt64 x3)) (v11_94 + (1 : Int32))))
theorem e_X5_censor_94 (x2 : Int32) (x3 : Int32) (kX94_113 : Int64 → Option (Int64 × Int32 × Int32 × Int32 × Int32 × (Nat → Int32) × (Nat → Int32) × (Nat → Int32) × (Nat → Int32) × (Nat → Int32) × (Nat → Int32) × (Nat → Int32) × (Nat → Int32))) (fuel : Nat) (v9_94 : Int64) (v11_94 : Int32) : f_X5_censor_94 x2 x3 kX94_113 (fuel + 1) v9_94 v11_94 = (if x2 ≤ v11_94 then (kX94_113 v9_94) else (f_X5_censor_94 x2 x3 kX94_113 fuel (v9_94 * (Int32.toInt64 x3)) (v11_94 + (1 : Int32)))) := rfl
def f_X5_censor_160 (u11_134 : Int32) (writers_u134 : Int32) (kind_u134 : (Nat → Int32)) (figure_u134 : (Nat → Int32)) (style_u134 : (Nat → Int32)) (silent_u134 : (Nat → Int32)) (ring_u134 : (Nat → Int32)) (kL134 : Int64 → Int32 → Int32 → (Nat → Int32) → Option (Int64 × Int32 × Int32 × Int32 × Int32 × (Nat → Int32) × (Nat → Int32) × (Nat → Int32) × (Nat → Int32) × (Nat → Int32) × (Nat → Int32) × (Nat → Int32) × (Nat → Int32))) (v14_160 : Int32) (year_160 : Int32) (fame_160 : (Nat → Int32)) (t0_160 : Int64) (t1_160 : Int64) : Option (Int64 × Int32 × Int32 × Int32 × Int32 × (Nat → Int32) × (Nat → Int32) × (Nat → Int32) × (Nat → Int32) × (Nat → Int32) × (Nat → Int32) × (Nat → Int32) × (Nat → Int32)) := ((f_X5_has u11_134 v14_160).bind fun (r168 : Int32) => ((f_X5_goesYear writers_u134 year_160 kind_u134 figure_u134 style_u134 fame_160 silent_u134 ring_u134 r168).bind fun (r171 : Int32 × (Nat → Int32)) => (kL134 (t0_160 * t1_160) (v14_160 + (1 : Int32)) r171.1 r171.2)))
def f_X5_censor_134 (x2 : Int32) (x3 : Int32) (u11_134 : Int32) (writers_u134 : Int32) (kind_u134 : (Nat → Int32)) (figure_u134 : (Nat → Int32)) (style_u134 : (Nat → Int32)) (silent_u134 : (Nat → Int32)) (ring_u134 : (Nat → Int32)) (kX134_180 : Int64 → Int32 → (Nat → Int32) → Option (Int64 × Int32 × Int32 × Int32 × Int32 × (Nat → Int32) × (Nat → Int32) × (Nat → Int32) × (Nat → Int32) × (Nat → Int32) × (Nat → Int32) × (Nat → Int32) × (Nat → Int32))) : Nat → Int64 → Int32 → Int32 → (Nat → Int32) → Option (Int64 × Int32 × Int32 × Int32 × Int32 × (Nat → Int32) × (Nat → Int32) × (Nat → Int32) × (Nat → Int32) × (Nat → Int32) × (Nat → Int32) × (Nat → Int32) × (Nat → Int32))
  | 0 => fun _ _ _ _ => none
  | fuel + 1 => fun v12_134 v14_134 year_134 fame_134 => (if x2 ≤ v14_134 then (kX134_180 v12_134 year_134 fame_134) else ((f_X5_has u11_134 v14_134).bind fun (r146 : Int32) => (if r146 = 0 then (f_X5_censor_160 u11_134 writers_u134 kind_u134 figure_u134 style_u134 silent_u134 ring_u134 (f_X5_censor_134 x2 x3 u11_134 writers_u134 kind_u134 figure_u134 style_u134 silent_u134 ring_u134 kX134_180 fuel) v14_134 year_134 fame_134 v12_134 (Int32.toInt64 (x3 - (1 : Int32)))) else (f_X5_censor_160 u11_134 writers_u134 kind_u134 figure_u134 style_u134 silent_u134 ring_u134 (f_X5_censor_134 x2 x3 u11_134 writers_u134 kind_u134 figure_u134 style_u134 silent_u134 ring_u134 kX134_180 fuel) v14_134 year_134 fame_134 v12_134 (1 : Int64)))))
theorem e_X5_censor_134 (x2 : Int32) (x3 : Int32) (u11_134 : Int32) (writers_u134 : Int32) (kind_u134 : (Nat → Int32)) (figure_u134 : (Nat → Int32)) (style_u134 : (Nat → Int32)) (silent_u134 : (Nat → Int32)) (ring_u134 : (Nat → Int32)) (kX134_180 : Int64 → Int32 → (Nat → Int32) → Option (Int64 × Int32 × Int32 × Int32 × Int32 × (Nat → Int32) × (Nat → Int32) × (Nat → Int32) × (Nat → Int32) × (Nat → Int32) × (Nat → Int32) × (Nat → Int32) × (Nat → Int32))) (fuel : Nat) (v12_134 : Int64) (v14_134 : Int32) (year_134 : Int32) (fame_134 : (Nat → Int32)) : f_X5_censor_134 x2 x3 u11_134 writers_u134 kind_u134 figure_u134 style_u134 silent_u134 ring_u134 kX134_180 (fuel + 1) v12_134 v14_134 year_134 fame_134 = (if x2 ≤ v14_134 then (kX134_180 v12_134 year_134 fame_134) else ((f_X5_has u11_134 v14_134).bind fun (r146 : Int32) => (if r146 = 0 then (f_X5_censor_160 u11_134 writers_u134 kind_u134 figure_u134 style_u134 silent_u134 ring_u134 (f_X5_censor_134 x2 x3 u11_134 writers_u134 kind_u134 figure_u134 style_u134 silent_u134 ring_u134 kX134_180 fuel) v14_134 year_134 fame_134 v12_134 (Int32.toInt64 (x3 - (1 : Int32)))) else (f_X5_censor_160 u11_134 writers_u134 kind_u134 figure_u134 style_u134 silent_u134 ring_u134 (f_X5_censor_134 x2 x3 u11_134 writers_u134 kind_u134 figure_u134 style_u134 silent_u134 ring_u134 kX134_180 fuel) v14_134 year_134 fame_134 v12_134 (1 : Int64))))) := rfl
def f_X5_censor_199  (kL116 : Int64 → Int32 → Int32 → Int32 → Int32 → Int32 → (Nat → Int32) → (Nat → Int32) → (Nat → Int32) → (Nat → Int32) → (Nat → Int32) → (Nat → Int32) → (Nat → Int32) → Option (Int64 × Int32 × Int32 × Int32 × Int32 × (Nat → Int32) × (Nat → Int32) × (Nat → Int32) × (Nat → Int32) × (Nat → Int32) × (Nat → Int32) × (Nat → Int32) × (Nat → Int32))) (v11_199 : Int32) (writers_199 : Int32) (year_199 : Int32) (isKeeping_199 : Int32) (cursor_199 : Int32) (kind_199 : (Nat → Int32)) (figure_199 : (Nat → Int32)) (style_199 : (Nat → Int32)) (fame_199 : (Nat → Int32)) (silent_199 : (Nat → Int32)) (ring_199 : (Nat → Int32)) (kept_199 : (Nat → Int32)) (t0_199 : Int64) (t1_199 : Int64) : Option (Int64 × Int32 × Int32 × Int32 × Int32 × (Nat → Int32) × (Nat → Int32) × (Nat → Int32) × (Nat → Int32) × (Nat → Int32) × (Nat → Int32) × (Nat → Int32) × (Nat → Int32)) := ((f_X5_forgets writers_199 year_199 isKeeping_199 cursor_199 kind_199 figure_199 style_199 fame_199 silent_199 ring_199 kept_199).bind fun (r203 : Int32 × Int32 × Int32 × Int32 × (Nat → Int32) × (Nat → Int32) × (Nat → Int32) × (Nat → Int32) × (Nat → Int32) × (Nat → Int32) × (Nat → Int32)) => (kL116 (t0_199 + t1_199) (v11_199 + (1 : Int32)) r203.1 r203.2.1 r203.2.2.1 r203.2.2.2.1 r203.2.2.2.2.1 r203.2.2.2.2.2.1 r203.2.2.2.2.2.2.1 r203.2.2.2.2.2.2.2.1 r203.2.2.2.2.2.2.2.2.1 r203.2.2.2.2.2.2.2.2.2.1 r203.2.2.2.2.2.2.2.2.2.2))
def f_X5_censor_180 (x1 : Int32) (x4 : Int32) (kL116 : Int64 → Int32 → Int32 → Int32 → Int32 → Int32 → (Nat → Int32) → (Nat → Int32) → (Nat → Int32) → (Nat → Int32) → (Nat → Int32) → (Nat → Int32) → (Nat → Int32) → Option (Int64 × Int32 × Int32 × Int32 × Int32 × (Nat → Int32) × (Nat → Int32) × (Nat → Int32) × (Nat → Int32) × (Nat → Int32) × (Nat → Int32) × (Nat → Int32) × (Nat → Int32))) (v7_180 : Int64) (v11_180 : Int32) (v12_180 : Int64) (writers_180 : Int32) (year_180 : Int32) (isKeeping_180 : Int32) (cursor_180 : Int32) (kind_180 : (Nat → Int32)) (figure_180 : (Nat → Int32)) (style_180 : (Nat → Int32)) (fame_180 : (Nat → Int32)) (silent_180 : (Nat → Int32)) (ring_180 : (Nat → Int32)) (kept_180 : (Nat → Int32)) : Option (Int64 × Int32 × Int32 × Int32 × Int32 × (Nat → Int32) × (Nat → Int32) × (Nat → Int32) × (Nat → Int32) × (Nat → Int32) × (Nat → Int32) × (Nat → Int32) × (Nat → Int32)) := (gd x1 7 (if (fame_180 (Int32.toNatClampNeg x1)) < x4 then (f_X5_censor_199  kL116 v11_180 writers_180 year_180 isKeeping_180 cursor_180 kind_180 figure_180 style_180 fame_180 silent_180 ring_180 kept_180 v7_180 (0 : Int64)) else (f_X5_censor_199  kL116 v11_180 writers_180 year_180 isKeeping_180 cursor_180 kind_180 figure_180 style_180 fame_180 silent_180 ring_180 kept_180 v7_180 v12_180)))
def f_X5_censor_116 (x1 : Int32) (x2 : Int32) (x3 : Int32) (x4 : Int32) (kX116_212 : Int64 → Int32 → Int32 → Int32 → Int32 → (Nat → Int32) → (Nat → Int32) → (Nat → Int32) → (Nat → Int32) → (Nat → Int32) → (Nat → Int32) → (Nat → Int32) → Option (Int64 × Int32 × Int32 × Int32 × Int32 × (Nat → Int32) × (Nat → Int32) × (Nat → Int32) × (Nat → Int32) × (Nat → Int32) × (Nat → Int32) × (Nat → Int32) × (Nat → Int32))) : Nat → Int64 → Int32 → Int32 → Int32 → Int32 → Int32 → (Nat → Int32) → (Nat → Int32) → (Nat → Int32) → (Nat → Int32) → (Nat → Int32) → (Nat → Int32) → (Nat → Int32) → Option (Int64 × Int32 × Int32 × Int32 × Int32 × (Nat → Int32) × (Nat → Int32) × (Nat → Int32) × (Nat → Int32) × (Nat → Int32) × (Nat → Int32) × (Nat → Int32) × (Nat → Int32))
  | 0 => fun _ _ _ _ _ _ _ _ _ _ _ _ _ => none
  | fuel + 1 => fun v7_116 v11_116 writers_116 year_116 isKeeping_116 cursor_116 kind_116 figure_116 style_116 fame_116 silent_116 ring_116 kept_116 => (if (shlI (1 : Int32) x2) ≤ v11_116 then (kX116_212 v7_116 writers_116 year_116 isKeeping_116 cursor_116 kind_116 figure_116 style_116 fame_116 silent_116 ring_116 kept_116) else ((f_X5_thinks writers_116 year_116 isKeeping_116 cursor_116 kind_116 figure_116 style_116 fame_116 silent_116 ring_116 kept_116).bind fun (r125 : Int32 × Int32 × Int32 × Int32 × (Nat → Int32) × (Nat → Int32) × (Nat → Int32) × (Nat → Int32) × (Nat → Int32) × (Nat → Int32) × (Nat → Int32)) => (f_X5_censor_134 x2 x3 v11_116 r125.1 r125.2.2.2.2.1 r125.2.2.2.2.2.1 r125.2.2.2.2.2.2.1 r125.2.2.2.2.2.2.2.2.1 r125.2.2.2.2.2.2.2.2.2.1 (fun (v12_180 : Int64) (year_180 : Int32) (fame_180 : (Nat → Int32)) => (f_X5_censor_180 x1 x4 (f_X5_censor_116 x1 x2 x3 x4 kX116_212 fuel) v7_116 v11_116 v12_180 r125.1 year_180 r125.2.2.1 r125.2.2.2.1 r125.2.2.2.2.1 r125.2.2.2.2.2.1 r125.2.2.2.2.2.2.1 fame_180 r125.2.2.2.2.2.2.2.2.1 r125.2.2.2.2.2.2.2.2.2.1 r125.2.2.2.2.2.2.2.2.2.2)) FU (1 : Int64) (0 : Int32) r125.2.1 r125.2.2.2.2.2.2.2.1)))
theorem e_X5_censor_116 (x1 : Int32) (x2 : Int32) (x3 : Int32) (x4 : Int32) (kX116_212 : Int64 → Int32 → Int32 → Int32 → Int32 → (Nat → Int32) → (Nat → Int32) → (Nat → Int32) → (Nat → Int32) → (Nat → Int32) → (Nat → Int32) → (Nat → Int32) → Option (Int64 × Int32 × Int32 × Int32 × Int32 × (Nat → Int32) × (Nat → Int32) × (Nat → Int32) × (Nat → Int32) × (Nat → Int32) × (Nat → Int32) × (Nat → Int32) × (Nat → Int32))) (fuel : Nat) (v7_116 : Int64) (v11_116 : Int32) (writers_116 : Int32) (year_116 : Int32) (isKeeping_116 : Int32) (cursor_116 : Int32) (kind_116 : (Nat → Int32)) (figure_116 : (Nat → Int32)) (style_116 : (Nat → Int32)) (fame_116 : (Nat → Int32)) (silent_116 : (Nat → Int32)) (ring_116 : (Nat → Int32)) (kept_116 : (Nat → Int32)) : f_X5_censor_116 x1 x2 x3 x4 kX116_212 (fuel + 1) v7_116 v11_116 writers_116 year_116 isKeeping_116 cursor_116 kind_116 figure_116 style_116 fame_116 silent_116 ring_116 kept_116 = (if (shlI (1 : Int32) x2) ≤ v11_116 then (kX116_212 v7_116 writers_116 year_116 isKeeping_116 cursor_116 kind_116 figure_116 style_116 fame_116 silent_116 ring_116 kept_116) else ((f_X5_thinks writers_116 year_116 isKeeping_116 cursor_116 kind_116 figure_116 style_116 fame_116 silent_116 ring_116 kept_116).bind fun (r125 : Int32 × Int32 × Int32 × Int32 × (Nat → Int32) × (Nat → Int32) × (Nat → Int32) × (Nat → Int32) × (Nat → Int32) × (Nat → Int32) × (Nat → Int32)) => (f_X5_censor_134 x2 x3 v11_116 r125.1 r125.2.2.2.2.1 r125.2.2.2.2.2.1 r125.2.2.2.2.2.2.1 r125.2.2.2.2.2.2.2.2.1 r125.2.2.2.2.2.2.2.2.2.1 (fun (v12_180 : Int64) (year_180 : Int32) (fame_180 : (Nat → Int32)) => (f_X5_censor_180 x1 x4 (f_X5_censor_116 x1 x2 x3 x4 kX116_212 fuel) v7_116 v11_116 v12_180 r125.1 year_180 r125.2.2.1 r125.2.2.2.1 r125.2.2.2.2.1 r125.2.2.2.2.2.1 r125.2.2.2.2.2.2.1 fame_180 r125.2.2.2.2.2.2.2.2.1 r125.2.2.2.2.2.2.2.2.2.1 r125.2.2.2.2.2.2.2.2.2.2)) FU (1 : Int64) (0 : Int32) r125.2.1 r125.2.2.2.2.2.2.2.1))) := rfl
def f_X5_censor_212 (x5 : Int32)  (v7_212 : Int64) (v9_212 : Int64) (writers_212 : Int32) (year_212 : Int32) (isKeeping_212 : Int32) (cursor_212 : Int32) (refused_212 : (Nat → Int32)) (kind_212 : (Nat → Int32)) (figure_212 : (Nat → Int32)) (style_212 : (Nat → Int32)) (fame_212 : (Nat → Int32)) (silent_212 : (Nat → Int32)) (ring_212 : (Nat → Int32)) (kept_212 : (Nat → Int32)) : Option (Int64 × Int32 × Int32 × Int32 × Int32 × (Nat → Int32) × (Nat → Int32) × (Nat → Int32) × (Nat → Int32) × (Nat → Int32) × (Nat → Int32) × (Nat → Int32) × (Nat → Int32)) := ((f_X5_partOf v7_212 v9_212 x5).bind fun (r218 : Int64) => (some (r218, writers_212, year_212, isKeeping_212, cursor_212, refused_212, kind_212, figure_212, style_212, fame_212, silent_212, ring_212, kept_212)))
def f_X5_censor_113 (x1 : Int32) (x2 : Int32) (x3 : Int32) (x4 : Int32) (x5 : Int32)  (v7_113 : Int64) (v9_113 : Int64) (writers_113 : Int32) (year_113 : Int32) (isKeeping_113 : Int32) (cursor_113 : Int32) (refused_113 : (Nat → Int32)) (kind_113 : (Nat → Int32)) (figure_113 : (Nat → Int32)) (style_113 : (Nat → Int32)) (fame_113 : (Nat → Int32)) (silent_113 : (Nat → Int32)) (ring_113 : (Nat → Int32)) (kept_113 : (Nat → Int32)) : Option (Int64 × Int32 × Int32 × Int32 × Int32 × (Nat → Int32) × (Nat → Int32) × (Nat → Int32) × (Nat → Int32) × (Nat → Int32) × (Nat → Int32) × (Nat → Int32) × (Nat → Int32)) := (f_X5_censor_116 x1 x2 x3 x4 (fun (v7_212 : Int64) (writers_212 : Int32) (year_212 : Int32) (isKeeping_212 : Int32) (cursor_212 : Int32) (kind_212 : (Nat → Int32)) (figure_212 : (Nat → Int32)) (style_212 : (Nat → Int32)) (fame_212 : (Nat → Int32)) (silent_212 : (Nat → Int32)) (ring_212 : (Nat → Int32)) (kept_212 : (Nat → Int32)) => (f_X5_censor_212 x5  v7_212 v9_113 writers_212 year_212 isKeeping_212 cursor_212 refused_113 kind_212 figure_212 style_212 fame_212 silent_212 ring_212 kept_212)) FU v7_113 (0 : Int32) writers_113 year_113 isKeeping_113 cursor_113 kind_113 figure_113 style_113 fame_113 silent_113 ring_113 kept_113)
def f_X5_censor_71 (x1 : Int32) (x2 : Int32) (x3 : Int32) (x4 : Int32) (x5 : Int32)  (writers_71 : Int32) (year_71 : Int32) (isKeeping_71 : Int32) (cursor_71 : Int32) (refused_71 : (Nat → Int32)) (kind_71 : (Nat → Int32)) (figure_71 : (Nat → Int32)) (style_71 : (Nat → Int32)) (fame_71 : (Nat → Int32)) (silent_71 : (Nat → Int32)) (ring_71 : (Nat → Int32)) (kept_71 : (Nat → Int32)) (t0_71 : Int32) : Option (Int64 × Int32 × Int32 × Int32 × Int32 × (Nat → Int32) × (Nat → Int32) × (Nat → Int32) × (Nat → Int32) × (Nat → Int32) × (Nat → Int32) × (Nat → Int32) × (Nat → Int32)) := (if t0_71 = 0 then (f_X5_censor_94 x2 x3 (fun (v9_113 : Int64) => (f_X5_censor_113 x1 x2 x3 x4 x5  (0 : Int64) v9_113 writers_71 year_71 isKeeping_71 cursor_71 refused_71 kind_71 figure_71 style_71 fame_71 silent_71 ring_71 kept_71)) FU (1 : Int64) (0 : Int32)) else ((f_X5_lowestOf refused_71 t0_71).bind fun (r81 : Int64 × (Nat → Int32)) => (some (r81.1, writers_71, year_71, isKeeping_71, cursor_71, r81.2, kind_71, figure_71, style_71, fame_71, silent_71, ring_71, kept_71))))
def f_X5_censor_26 (x1 : Int32) (x2 : Int32) (x3 : Int32) (x4 : Int32) (x5 : Int32)  (writers_26 : Int32) (year_26 : Int32) (isKeeping_26 : Int32) (cursor_26 : Int32) (refused_26 : (Nat → Int32)) (kind_26 : (Nat → Int32)) (figure_26 : (Nat → Int32)) (style_26 : (Nat → Int32)) (fame_26 : (Nat → Int32)) (silent_26 : (Nat → Int32)) (ring_26 : (Nat → Int32)) (kept_26 : (Nat → Int32)) : Option (Int64 × Int32 × Int32 × Int32 × Int32 × (Nat → Int32) × (Nat → Int32) × (Nat → Int32) × (Nat → Int32) × (Nat → Int32) × (Nat → Int32) × (Nat → Int32) × (Nat → Int32)) := (f_X5_censor_71 x1 x2 x3 x4 x5  writers_26 year_26 isKeeping_26 cursor_26 refused_26 kind_26 figure_26 style_26 fame_26 silent_26 ring_26 kept_26 (-4 : Int32))
def f_X5_censor_50 (x1 : Int32) (x2 : Int32) (x3 : Int32) (x4 : Int32) (x5 : Int32)  (writers_50 : Int32) (year_50 : Int32) (isKeeping_50 : Int32) (cursor_50 : Int32) (refused_50 : (Nat → Int32)) (kind_50 : (Nat → Int32)) (figure_50 : (Nat → Int32)) (style_50 : (Nat → Int32)) (fame_50 : (Nat → Int32)) (silent_50 : (Nat → Int32)) (ring_50 : (Nat → Int32)) (kept_50 : (Nat → Int32)) : Option (Int64 × Int32 × Int32 × Int32 × Int32 × (Nat → Int32) × (Nat → Int32) × (Nat → Int32) × (Nat → Int32) × (Nat → Int32) × (Nat → Int32) × (Nat → Int32) × (Nat → Int32)) := (f_X5_censor_71 x1 x2 x3 x4 x5  writers_50 year_50 isKeeping_50 cursor_50 refused_50 kind_50 figure_50 style_50 fame_50 silent_50 ring_50 kept_50 (-6 : Int32))
def f_X5_censor (writers : Int32) (year : Int32) (isKeeping : Int32) (cursor : Int32) (refused : (Nat → Int32)) (kind : (Nat → Int32)) (figure : (Nat → Int32)) (style : (Nat → Int32)) (fame : (Nat → Int32)) (silent : (Nat → Int32)) (ring : (Nat → Int32)) (kept : (Nat → Int32)) (x1 : Int32) (x2 : Int32) (x3 : Int32) (x4 : Int32) (x5 : Int32) : Option (Int64 × Int32 × Int32 × Int32 × Int32 × (Nat → Int32) × (Nat → Int32) × (Nat → Int32) × (Nat → Int32) × (Nat → Int32) × (Nat → Int32) × (Nat → Int32) × (Nat → Int32)) := ((f_X5_isOne writers x1).bind fun (r2 : Int32) => (if r2 = 0 then (f_X5_censor_71 x1 x2 x3 x4 x5  writers year isKeeping cursor refused kind figure style fame silent ring kept (-1 : Int32)) else (if x2 < 0 then (f_X5_censor_26 x1 x2 x3 x4 x5  writers year isKeeping cursor refused kind figure style fame silent ring kept) else (if x4 < 0 then (f_X5_censor_26 x1 x2 x3 x4 x5  writers year isKeeping cursor refused kind figure style fame silent ring kept) else (if (2 : Int32) ≤ x3 then (if (7 : Int32) < x2 then (f_X5_censor_50 x1 x2 x3 x4 x5  writers year isKeeping cursor refused kind figure style fame silent ring kept) else (if (20 : Int32) < x3 then (f_X5_censor_50 x1 x2 x3 x4 x5  writers year isKeeping cursor refused kind figure style fame silent ring kept) else (if x4 ≤ (99 : Int32) then ((f_X5_isIn x5 (0 : Int32) (1 : Int32)).bind fun (r59 : Int32) => (if r59 = 0 then (f_X5_censor_71 x1 x2 x3 x4 x5  writers year isKeeping cursor refused kind figure style fame silent ring kept (-2 : Int32)) else (f_X5_censor_71 x1 x2 x3 x4 x5  writers year isKeeping cursor refused kind figure style fame silent ring kept (0 : Int32)))) else (f_X5_censor_50 x1 x2 x3 x4 x5  writers year isKeeping cursor refused kind figure style fame silent ring kept)))) else (f_X5_censor_26 x1 x2 x3 x4 x5  writers year isKeeping cursor refused kind figure style fame silent ring kept))))))
set_option maxHeartbeats 4000000 in
set_option maxRecDepth 100000 in
theorem w_X5_censor_94 {p : Program} {l : Launch} {e : Env} {s : State} {m : MethodId} {args : Array Value} {below : List Frame} {meth : Method} {c : Code} {D : va_G} {cI : ClassId} {aS : aSt} {A : Nat → Prop} {Q : State → Prop}  (ad : Nat → Nat) (taped : Int32) (at_ : Int32) (statements : Int32) (hasImage : Int32) (forgottenWhen : Int32) (rowMany : Int32) (x1 : Int32) (x2 : Int32) (x3 : Int32) (x4 : Int32) (x5 : Int32) (u7_94 : Int64) (writers_u94 : Int32) (year_u94 : Int32) (isKeeping_u94 : Int32) (cursor_u94 : Int32) (refused_u94 : (Nat → Int32)) (kind_u94 : (Nat → Int32)) (figure_u94 : (Nat → Int32)) (style_u94 : (Nat → Int32)) (fame_u94 : (Nat → Int32)) (silent_u94 : (Nat → Int32)) (ring_u94 : (Nat → Int32)) (kept_u94 : (Nat → Int32)) {R : Int64 × Int32 × Int32 × Int32 × Int32 × (Nat → Int32) × (Nat → Int32) × (Nat → Int32) × (Nat → Int32) × (Nat → Int32) × (Nat → Int32) × (Nat → Int32) × (Nat → Int32)} (X : Bx p s m args meth c cX5_censor 15 (some .long) RX5 D cI aS A) (hret : RtL p l e 5 s m args below meth c cX5_censor D A (wd_X5_censor cI ad R.2.1 R.2.2.1 taped at_ statements hasImage R.2.2.2.1 R.2.2.2.2.1 forgottenWhen rowMany R.2.2.2.2.2.1 R.2.2.2.2.2.2.1 R.2.2.2.2.2.2.2.1 R.2.2.2.2.2.2.2.2.1 R.2.2.2.2.2.2.2.2.2.1 R.2.2.2.2.2.2.2.2.2.2.1 R.2.2.2.2.2.2.2.2.2.2.2.1 R.2.2.2.2.2.2.2.2.2.2.2.2) R.1 Q) (kX94_113 : Int64 → Option (Int64 × Int32 × Int32 × Int32 × Int32 × (Nat → Int32) × (Nat → Int32) × (Nat → Int32) × (Nat → Int32) × (Nat → Int32) × (Nat → Int32) × (Nat → Int32) × (Nat → Int32))) (hkX94_113 : ∀ (v9_113 : Int64) (H : Heap) (locs : List Loc) (ls : Array Slot), kX94_113 v9_113 = some R → lv_has ls 15 [(0, .ref (ad 0)), (1, .int x1), (2, .int x2), (3, .int x3), (4, .int x4), (5, .int x5), (7, .long u7_94), (9, .long v9_113)] → va_P D vwCl (wd_X5_censor cI ad writers_u94 year_u94 taped at_ statements hasImage isKeeping_u94 cursor_u94 forgottenWhen rowMany refused_u94 kind_u94 figure_u94 style_u94 fame_u94 silent_u94 ring_u94 kept_u94) H → va_D A (wd_X5_censor cI ad writers_u94 year_u94 taped at_ statements hasImage isKeeping_u94 cursor_u94 forgottenWhen rowMany refused_u94 kind_u94 figure_u94 style_u94 fame_u94 silent_u94 ring_u94 kept_u94) → va_S A s.heap H locs → Wh p l e 5 s m args below meth c H locs Q (F0 m 113 ls [])) : ∀ (fuel : Nat) (v9_94 : Int64) (v11_94 : Int32) (H : Heap) (locs : List Loc) (ls : Array Slot), f_X5_censor_94 x2 x3 kX94_113 fuel v9_94 v11_94 = some R → lv_has ls 15 [(0, .ref (ad 0)), (1, .int x1), (2, .int x2), (3, .int x3), (4, .int x4), (5, .int x5), (7, .long u7_94), (9, .long v9_94), (11, .int v11_94)] → va_P D vwCl (wd_X5_censor cI ad writers_u94 year_u94 taped at_ statements hasImage isKeeping_u94 cursor_u94 forgottenWhen rowMany refused_u94 kind_u94 figure_u94 style_u94 fame_u94 silent_u94 ring_u94 kept_u94) H → va_D A (wd_X5_censor cI ad writers_u94 year_u94 taped at_ statements hasImage isKeeping_u94 cursor_u94 forgottenWhen rowMany refused_u94 kind_u94 figure_u94 style_u94 fame_u94 silent_u94 ring_u94 kept_u94) → va_S A s.heap H locs → Wh p l e 5 s m args below meth c H locs Q (F0 m 94 ls []) := by
  have hx := X.1
  have hb := X.2.1
  intro fuel
  induction fuel with
  | zero =>
    intro v9_94 v11_94 H locs ls hf hl hP hD hS
    cases hf
  | succ fuel ih =>
    intro v9_94 v11_94 H locs ls hf hl hP hD hS
    replace hf : (if x2 ≤ v11_94 then (kX94_113 v9_94) else (f_X5_censor_94 x2 x3 kX94_113 fuel (v9_94 * (Int32.toInt64 x3)) (v11_94 + (1 : Int32)))) = some R := hf
    refine lv_iload hx hb dX5_censor_94 (lv_at hl 8 rfl) ?_
    refine lv_iload_n hx hb dX5_censor_96 rfl (lv_at hl 2 rfl) ?_
    refine lv_icmp_ge (tgt := 113) hx hb dX5_censor_97 (by decide) (fun c97 => ?_) (fun c97 => ?_)
    · have hf := iT c97 hf
      exact hkX94_113 v9_94 _ _ _ hf (lv_sub hl [0, 1, 2, 3, 4, 5, 6, 7] rfl) hP hD hS
    · have hf := iF c97 hf
      refine lv_lload hx hb dX5_censor_100 (lv_at hl 7 rfl) ?_
      refine lv_iload_n hx hb dX5_censor_102 rfl (lv_at hl 3 rfl) ?_
      refine lv_i2l hx hb dX5_censor_103 rfl ?_
      refine lv_lmul hx hb dX5_censor_104 ?_
      refine lv_lstore (lv' := [(9, .long (v9_94 * (Int32.toInt64 x3))), (0, .ref (ad 0)), (1, .int x1), (2, .int x2), (3, .int x3), (4, .int x4), (5, .int x5), (7, .long u7_94), (11, .int v11_94)]) hx hb dX5_censor_105 hl (by decide) rfl (fun ls hl => ?_)
      refine lv_iinc (v := (v11_94 + (1 : Int32))) (lv' := [(11, .int (v11_94 + (1 : Int32))), (9, .long (v9_94 * (Int32.toInt64 x3))), (0, .ref (ad 0)), (1, .int x1), (2, .int x2), (3, .int x3), (4, .int x4), (5, .int x5), (7, .long u7_94)]) hx hb dX5_censor_107 hl (k := 8) rfl rfl (by decide) rfl (fun ls hl => ?_)
      refine lv_goto (tgt := 94) hx hb dX5_censor_110 (by decide) ?_
      exact ih (v9_94 * (Int32.toInt64 x3)) (v11_94 + (1 : Int32)) _ _ _ hf (lv_sub hl [2, 3, 4, 5, 6, 7, 8, 1, 0] rfl) hP hD hS
set_option maxHeartbeats 4000000 in
set_option maxRecDepth 100000 in
theorem w_X5_censor_160 {p : Program} {l : Launch} {e : Env} {s : State} {m : MethodId} {args : Array Value} {below : List Frame} {meth : Method} {c : Code} {D : va_G} {cI : ClassId} {aS : aSt} {A : Nat → Prop} {Q : State → Prop}  (ad : Nat → Nat) (taped : Int32) (at_ : Int32) (statements : Int32) (hasImage : Int32) (forgottenWhen : Int32) (rowMany : Int32) (x1 : Int32) (x2 : Int32) (x3 : Int32) (x4 : Int32) (x5 : Int32) (u9_116 : Int64) (refused_u116 : (Nat → Int32)) (u7_134 : Int64) (u11_134 : Int32) (writers_u134 : Int32) (isKeeping_u134 : Int32) (cursor_u134 : Int32) (kind_u134 : (Nat → Int32)) (figure_u134 : (Nat → Int32)) (style_u134 : (Nat → Int32)) (silent_u134 : (Nat → Int32)) (ring_u134 : (Nat → Int32)) (kept_u134 : (Nat → Int32)) {R : Int64 × Int32 × Int32 × Int32 × Int32 × (Nat → Int32) × (Nat → Int32) × (Nat → Int32) × (Nat → Int32) × (Nat → Int32) × (Nat → Int32) × (Nat → Int32) × (Nat → Int32)} (X : Bx p s m args meth c cX5_censor 15 (some .long) RX5 D cI aS A) (hret : RtL p l e 5 s m args below meth c cX5_censor D A (wd_X5_censor cI ad R.2.1 R.2.2.1 taped at_ statements hasImage R.2.2.2.1 R.2.2.2.2.1 forgottenWhen rowMany R.2.2.2.2.2.1 R.2.2.2.2.2.2.1 R.2.2.2.2.2.2.2.1 R.2.2.2.2.2.2.2.2.1 R.2.2.2.2.2.2.2.2.2.1 R.2.2.2.2.2.2.2.2.2.2.1 R.2.2.2.2.2.2.2.2.2.2.2.1 R.2.2.2.2.2.2.2.2.2.2.2.2) R.1 Q) (kL134 : Int64 → Int32 → Int32 → (Nat → Int32) → Option (Int64 × Int32 × Int32 × Int32 × Int32 × (Nat → Int32) × (Nat → Int32) × (Nat → Int32) × (Nat → Int32) × (Nat → Int32) × (Nat → Int32) × (Nat → Int32) × (Nat → Int32))) (hkL134 : ∀ (v12_134 : Int64) (v14_134 : Int32) (year_134 : Int32) (fame_134 : (Nat → Int32)) (H : Heap) (locs : List Loc) (ls : Array Slot), kL134 v12_134 v14_134 year_134 fame_134 = some R → lv_has ls 15 [(0, .ref (ad 0)), (1, .int x1), (2, .int x2), (3, .int x3), (4, .int x4), (5, .int x5), (7, .long u7_134), (9, .long u9_116), (11, .int u11_134), (12, .long v12_134), (14, .int v14_134)] → va_P D vwCl (wd_X5_censor cI ad writers_u134 year_134 taped at_ statements hasImage isKeeping_u134 cursor_u134 forgottenWhen rowMany refused_u116 kind_u134 figure_u134 style_u134 fame_134 silent_u134 ring_u134 kept_u134) H → va_D A (wd_X5_censor cI ad writers_u134 year_134 taped at_ statements hasImage isKeeping_u134 cursor_u134 forgottenWhen rowMany refused_u116 kind_u134 figure_u134 style_u134 fame_134 silent_u134 ring_u134 kept_u134) → va_S A s.heap H locs → Wh p l e 5 s m args below meth c H locs Q (F0 m 134 ls [])) : ∀ (v14_160 : Int32) (year_160 : Int32) (fame_160 : (Nat → Int32)) (t0_160 : Int64) (t1_160 : Int64) (H : Heap) (locs : List Loc) (ls : Array Slot), f_X5_censor_160 u11_134 writers_u134 kind_u134 figure_u134 style_u134 silent_u134 ring_u134 kL134 v14_160 year_160 fame_160 t0_160 t1_160 = some R → lv_has ls 15 [(0, .ref (ad 0)), (1, .int x1), (2, .int x2), (3, .int x3), (4, .int x4), (5, .int x5), (7, .long u7_134), (9, .long u9_116), (11, .int u11_134), (14, .int v14_160)] → va_P D vwCl (wd_X5_censor cI ad writers_u134 year_160 taped at_ statements hasImage isKeeping_u134 cursor_u134 forgottenWhen rowMany refused_u116 kind_u134 figure_u134 style_u134 fame_160 silent_u134 ring_u134 kept_u134) H → va_D A (wd_X5_censor cI ad writers_u134 year_160 taped at_ statements hasImage isKeeping_u134 cursor_u134 forgottenWhen rowMany refused_u116 kind_u134 figure_u134 style_u134 fame_160 silent_u134 ring_u134 kept_u134) → va_S A s.heap H locs → Wh p l e 5 s m args below meth c H locs Q (F0 m 160 ls [.long t1_160, .long t0_160]) := by
  have hx := X.1
  have hb := X.2.1
  intro v14_160 year_160 fame_160 t0_160 t1_160 H locs ls hf hl hP hD hS
  replace hf : ((f_X5_has u11_134 v14_160).bind fun (r168 : Int32) => ((f_X5_goesYear writers_u134 year_160 kind_u134 figure_u134 style_u134 fame_160 silent_u134 ring_u134 r168).bind fun (r171 : Int32 × (Nat → Int32)) => (kL134 (t0_160 * t1_160) (v14_160 + (1 : Int32)) r171.1 r171.2))) = some R := hf
  refine lv_lmul hx hb dX5_censor_160 ?_
  refine lv_lstore (lv' := [(12, .long (t0_160 * t1_160)), (0, .ref (ad 0)), (1, .int x1), (2, .int x2), (3, .int x3), (4, .int x4), (5, .int x5), (7, .long u7_134), (9, .long u9_116), (11, .int u11_134), (14, .int v14_160)]) hx hb dX5_censor_161 hl (by decide) rfl (fun ls hl => ?_)
  refine lv_aload_n hx hb dX5_censor_163 rfl (lv_at hl 1 rfl) ?_
  refine lv_iload hx hb dX5_censor_164 (lv_at hl 9 rfl) ?_
  refine lv_iload hx hb dX5_censor_166 (lv_at hl 10 rfl) ?_
  obtain ⟨r168, hq168, hf⟩ := bS hf
  refine ro_i X hP hD hS [] rfl (run_S X hP hD hS [] rfl rfl (c_X5_has l D cI aS u11_134 v14_160 _ hq168 _) lkX5_218 (by decide) rfl rfl (Nat.le_of_ble_eq_true rfl) hl.1 dX5_censor_168) (fun H locs hP hS => ?_)
  obtain ⟨r171, hq171, hf⟩ := bS hf
  refine wr_v X hP hD hS [0, 2, 3, 4, 5, 6, 7] rfl (ws' := (wd_X5_censor cI ad writers_u134 r171.1 taped at_ statements hasImage isKeeping_u134 cursor_u134 forgottenWhen rowMany refused_u116 kind_u134 figure_u134 style_u134 r171.2 silent_u134 ring_u134 kept_u134)) (Nat.le_of_ble_eq_true rfl) rfl rfl (run_V X hP hD hS [0, 2, 3, 4, 5, 6, 7] rfl rfl (c_X5_goesYear l D cI aS ad writers_u134 year_160 taped at_ statements hasImage isKeeping_u134 cursor_u134 forgottenWhen rowMany kind_u134 figure_u134 style_u134 fame_160 silent_u134 ring_u134 r168 _ hq171 _) lkX5_189 (by decide) (q0 := 0) rfl rfl rfl rfl (Nat.le_of_ble_eq_true rfl) hl.1 dX5_censor_171) (fun H locs hP hD hS => ?_)
  refine lv_iinc (v := (v14_160 + (1 : Int32))) (lv' := [(14, .int (v14_160 + (1 : Int32))), (12, .long (t0_160 * t1_160)), (0, .ref (ad 0)), (1, .int x1), (2, .int x2), (3, .int x3), (4, .int x4), (5, .int x5), (7, .long u7_134), (9, .long u9_116), (11, .int u11_134)]) hx hb dX5_censor_174 hl (k := 10) rfl rfl (by decide) rfl (fun ls hl => ?_)
  refine lv_goto (tgt := 134) hx hb dX5_censor_177 (by decide) ?_
  exact hkL134 (t0_160 * t1_160) (v14_160 + (1 : Int32)) r171.1 r171.2 _ _ _ hf (lv_sub hl [2, 3, 4, 5, 6, 7, 8, 9, 10, 1, 0] rfl) hP hD hS
set_option maxHeartbeats 4000000 in
set_option maxRecDepth 100000 in
theorem w_X5_censor_134 {p : Program} {l : Launch} {e : Env} {s : State} {m : MethodId} {args : Array Value} {below : List Frame} {meth : Method} {c : Code} {D : va_G} {cI : ClassId} {aS : aSt} {A : Nat → Prop} {Q : State → Prop}  (ad : Nat → Nat) (taped : Int32) (at_ : Int32) (statements : Int32) (hasImage : Int32) (forgottenWhen : Int32) (rowMany : Int32) (x1 : Int32) (x2 : Int32) (x3 : Int32) (x4 : Int32) (x5 : Int32) (u9_116 : Int64) (refused_u116 : (Nat → Int32)) (u7_134 : Int64) (u11_134 : Int32) (writers_u134 : Int32) (isKeeping_u134 : Int32) (cursor_u134 : Int32) (kind_u134 : (Nat → Int32)) (figure_u134 : (Nat → Int32)) (style_u134 : (Nat → Int32)) (silent_u134 : (Nat → Int32)) (ring_u134 : (Nat → Int32)) (kept_u134 : (Nat → Int32)) {R : Int64 × Int32 × Int32 × Int32 × Int32 × (Nat → Int32) × (Nat → Int32) × (Nat → Int32) × (Nat → Int32) × (Nat → Int32) × (Nat → Int32) × (Nat → Int32) × (Nat → Int32)} (X : Bx p s m args meth c cX5_censor 15 (some .long) RX5 D cI aS A) (hret : RtL p l e 5 s m args below meth c cX5_censor D A (wd_X5_censor cI ad R.2.1 R.2.2.1 taped at_ statements hasImage R.2.2.2.1 R.2.2.2.2.1 forgottenWhen rowMany R.2.2.2.2.2.1 R.2.2.2.2.2.2.1 R.2.2.2.2.2.2.2.1 R.2.2.2.2.2.2.2.2.1 R.2.2.2.2.2.2.2.2.2.1 R.2.2.2.2.2.2.2.2.2.2.1 R.2.2.2.2.2.2.2.2.2.2.2.1 R.2.2.2.2.2.2.2.2.2.2.2.2) R.1 Q) (kX134_180 : Int64 → Int32 → (Nat → Int32) → Option (Int64 × Int32 × Int32 × Int32 × Int32 × (Nat → Int32) × (Nat → Int32) × (Nat → Int32) × (Nat → Int32) × (Nat → Int32) × (Nat → Int32) × (Nat → Int32) × (Nat → Int32))) (hkX134_180 : ∀ (v12_180 : Int64) (year_180 : Int32) (fame_180 : (Nat → Int32)) (H : Heap) (locs : List Loc) (ls : Array Slot), kX134_180 v12_180 year_180 fame_180 = some R → lv_has ls 15 [(0, .ref (ad 0)), (1, .int x1), (2, .int x2), (3, .int x3), (4, .int x4), (5, .int x5), (7, .long u7_134), (9, .long u9_116), (11, .int u11_134), (12, .long v12_180)] → va_P D vwCl (wd_X5_censor cI ad writers_u134 year_180 taped at_ statements hasImage isKeeping_u134 cursor_u134 forgottenWhen rowMany refused_u116 kind_u134 figure_u134 style_u134 fame_180 silent_u134 ring_u134 kept_u134) H → va_D A (wd_X5_censor cI ad writers_u134 year_180 taped at_ statements hasImage isKeeping_u134 cursor_u134 forgottenWhen rowMany refused_u116 kind_u134 figure_u134 style_u134 fame_180 silent_u134 ring_u134 kept_u134) → va_S A s.heap H locs → Wh p l e 5 s m args below meth c H locs Q (F0 m 180 ls [])) : ∀ (fuel : Nat) (v12_134 : Int64) (v14_134 : Int32) (year_134 : Int32) (fame_134 : (Nat → Int32)) (H : Heap) (locs : List Loc) (ls : Array Slot), f_X5_censor_134 x2 x3 u11_134 writers_u134 kind_u134 figure_u134 style_u134 silent_u134 ring_u134 kX134_180 fuel v12_134 v14_134 year_134 fame_134 = some R → lv_has ls 15 [(0, .ref (ad 0)), (1, .int x1), (2, .int x2), (3, .int x3), (4, .int x4), (5, .int x5), (7, .long u7_134), (9, .long u9_116), (11, .int u11_134), (12, .long v12_134), (14, .int v14_134)] → va_P D vwCl (wd_X5_censor cI ad writers_u134 year_134 taped at_ statements hasImage isKeeping_u134 cursor_u134 forgottenWhen rowMany refused_u116 kind_u134 figure_u134 style_u134 fame_134 silent_u134 ring_u134 kept_u134) H → va_D A (wd_X5_censor cI ad writers_u134 year_134 taped at_ statements hasImage isKeeping_u134 cursor_u134 forgottenWhen rowMany refused_u116 kind_u134 figure_u134 style_u134 fame_134 silent_u134 ring_u134 kept_u134) → va_S A s.heap H locs → Wh p l e 5 s m args below meth c H locs Q (F0 m 134 ls []) := by
  have hx := X.1
  have hb := X.2.1
  intro fuel
  induction fuel with
  | zero =>
    intro v12_134 v14_134 year_134 fame_134 H locs ls hf hl hP hD hS
    cases hf
  | succ fuel ih =>
    intro v12_134 v14_134 year_134 fame_134 H locs ls hf hl hP hD hS
    replace hf : (if x2 ≤ v14_134 then (kX134_180 v12_134 year_134 fame_134) else ((f_X5_has u11_134 v14_134).bind fun (r146 : Int32) => (if r146 = 0 then (f_X5_censor_160 u11_134 writers_u134 kind_u134 figure_u134 style_u134 silent_u134 ring_u134 (f_X5_censor_134 x2 x3 u11_134 writers_u134 kind_u134 figure_u134 style_u134 silent_u134 ring_u134 kX134_180 fuel) v14_134 year_134 fame_134 v12_134 (Int32.toInt64 (x3 - (1 : Int32)))) else (f_X5_censor_160 u11_134 writers_u134 kind_u134 figure_u134 style_u134 silent_u134 ring_u134 (f_X5_censor_134 x2 x3 u11_134 writers_u134 kind_u134 figure_u134 style_u134 silent_u134 ring_u134 kX134_180 fuel) v14_134 year_134 fame_134 v12_134 (1 : Int64))))) = some R := hf
    refine lv_iload hx hb dX5_censor_134 (lv_at hl 10 rfl) ?_
    refine lv_iload_n hx hb dX5_censor_136 rfl (lv_at hl 2 rfl) ?_
    refine lv_icmp_ge (tgt := 180) hx hb dX5_censor_137 (by decide) (fun c137 => ?_) (fun c137 => ?_)
    · have hf := iT c137 hf
      exact hkX134_180 v12_134 year_134 fame_134 _ _ _ hf (lv_sub hl [0, 1, 2, 3, 4, 5, 6, 7, 8, 9] rfl) hP hD hS
    · have hf := iF c137 hf
      refine lv_lload hx hb dX5_censor_140 (lv_at hl 9 rfl) ?_
      refine lv_iload hx hb dX5_censor_142 (lv_at hl 8 rfl) ?_
      refine lv_iload hx hb dX5_censor_144 (lv_at hl 10 rfl) ?_
      obtain ⟨r146, hq146, hf⟩ := bS hf
      refine ro_i X hP hD hS [] rfl (run_S X hP hD hS [] rfl rfl (c_X5_has l D cI aS u11_134 v14_134 _ hq146 _) lkX5_218 (by decide) rfl rfl (Nat.le_of_ble_eq_true rfl) hl.1 dX5_censor_146) (fun H locs hP hS => ?_)
      refine lv_if_eq (tgt := 156) hx hb dX5_censor_149 (by decide) (fun c149 => ?_) (fun c149 => ?_)
      · have hf := iT c149 hf
        refine lv_iload_n hx hb dX5_censor_156 rfl (lv_at hl 3 rfl) ?_
        refine lv_iconst (v := 1) hx hb dX5_censor_157 (by decide) ?_
        refine lv_isub hx hb dX5_censor_158 ?_
        refine lv_i2l hx hb dX5_censor_159 rfl ?_
        exact w_X5_censor_160 ad taped at_ statements hasImage forgottenWhen rowMany x1 x2 x3 x4 x5 u9_116 refused_u116 u7_134 u11_134 writers_u134 isKeeping_u134 cursor_u134 kind_u134 figure_u134 style_u134 silent_u134 ring_u134 kept_u134 X hret _ ih v14_134 year_134 fame_134 v12_134 (Int32.toInt64 (x3 - (1 : Int32))) _ _ _ hf (lv_sub hl [0, 1, 2, 3, 4, 5, 6, 7, 8, 10] rfl) hP hD hS
      · have hf := iF c149 hf
        refine lv_lconst (v := 1) hx hb dX5_censor_152 (by decide) ?_
        refine lv_goto (tgt := 160) hx hb dX5_censor_153 (by decide) ?_
        exact w_X5_censor_160 ad taped at_ statements hasImage forgottenWhen rowMany x1 x2 x3 x4 x5 u9_116 refused_u116 u7_134 u11_134 writers_u134 isKeeping_u134 cursor_u134 kind_u134 figure_u134 style_u134 silent_u134 ring_u134 kept_u134 X hret _ ih v14_134 year_134 fame_134 v12_134 (1 : Int64) _ _ _ hf (lv_sub hl [0, 1, 2, 3, 4, 5, 6, 7, 8, 10] rfl) hP hD hS
set_option maxHeartbeats 4000000 in
set_option maxRecDepth 100000 in
theorem w_X5_censor_199 {p : Program} {l : Launch} {e : Env} {s : State} {m : MethodId} {args : Array Value} {below : List Frame} {meth : Method} {c : Code} {D : va_G} {cI : ClassId} {aS : aSt} {A : Nat → Prop} {Q : State → Prop}  (ad : Nat → Nat) (taped : Int32) (at_ : Int32) (statements : Int32) (hasImage : Int32) (forgottenWhen : Int32) (rowMany : Int32) (x1 : Int32) (x2 : Int32) (x3 : Int32) (x4 : Int32) (x5 : Int32) (u9_116 : Int64) (refused_u116 : (Nat → Int32)) {R : Int64 × Int32 × Int32 × Int32 × Int32 × (Nat → Int32) × (Nat → Int32) × (Nat → Int32) × (Nat → Int32) × (Nat → Int32) × (Nat → Int32) × (Nat → Int32) × (Nat → Int32)} (X : Bx p s m args meth c cX5_censor 15 (some .long) RX5 D cI aS A) (hret : RtL p l e 5 s m args below meth c cX5_censor D A (wd_X5_censor cI ad R.2.1 R.2.2.1 taped at_ statements hasImage R.2.2.2.1 R.2.2.2.2.1 forgottenWhen rowMany R.2.2.2.2.2.1 R.2.2.2.2.2.2.1 R.2.2.2.2.2.2.2.1 R.2.2.2.2.2.2.2.2.1 R.2.2.2.2.2.2.2.2.2.1 R.2.2.2.2.2.2.2.2.2.2.1 R.2.2.2.2.2.2.2.2.2.2.2.1 R.2.2.2.2.2.2.2.2.2.2.2.2) R.1 Q) (kL116 : Int64 → Int32 → Int32 → Int32 → Int32 → Int32 → (Nat → Int32) → (Nat → Int32) → (Nat → Int32) → (Nat → Int32) → (Nat → Int32) → (Nat → Int32) → (Nat → Int32) → Option (Int64 × Int32 × Int32 × Int32 × Int32 × (Nat → Int32) × (Nat → Int32) × (Nat → Int32) × (Nat → Int32) × (Nat → Int32) × (Nat → Int32) × (Nat → Int32) × (Nat → Int32))) (hkL116 : ∀ (v7_116 : Int64) (v11_116 : Int32) (writers_116 : Int32) (year_116 : Int32) (isKeeping_116 : Int32) (cursor_116 : Int32) (kind_116 : (Nat → Int32)) (figure_116 : (Nat → Int32)) (style_116 : (Nat → Int32)) (fame_116 : (Nat → Int32)) (silent_116 : (Nat → Int32)) (ring_116 : (Nat → Int32)) (kept_116 : (Nat → Int32)) (H : Heap) (locs : List Loc) (ls : Array Slot), kL116 v7_116 v11_116 writers_116 year_116 isKeeping_116 cursor_116 kind_116 figure_116 style_116 fame_116 silent_116 ring_116 kept_116 = some R → lv_has ls 15 [(0, .ref (ad 0)), (1, .int x1), (2, .int x2), (3, .int x3), (4, .int x4), (5, .int x5), (7, .long v7_116), (9, .long u9_116), (11, .int v11_116)] → va_P D vwCl (wd_X5_censor cI ad writers_116 year_116 taped at_ statements hasImage isKeeping_116 cursor_116 forgottenWhen rowMany refused_u116 kind_116 figure_116 style_116 fame_116 silent_116 ring_116 kept_116) H → va_D A (wd_X5_censor cI ad writers_116 year_116 taped at_ statements hasImage isKeeping_116 cursor_116 forgottenWhen rowMany refused_u116 kind_116 figure_116 style_116 fame_116 silent_116 ring_116 kept_116) → va_S A s.heap H locs → Wh p l e 5 s m args below meth c H locs Q (F0 m 116 ls [])) : ∀ (v11_199 : Int32) (writers_199 : Int32) (year_199 : Int32) (isKeeping_199 : Int32) (cursor_199 : Int32) (kind_199 : (Nat → Int32)) (figure_199 : (Nat → Int32)) (style_199 : (Nat → Int32)) (fame_199 : (Nat → Int32)) (silent_199 : (Nat → Int32)) (ring_199 : (Nat → Int32)) (kept_199 : (Nat → Int32)) (t0_199 : Int64) (t1_199 : Int64) (H : Heap) (locs : List Loc) (ls : Array Slot), f_X5_censor_199  kL116 v11_199 writers_199 year_199 isKeeping_199 cursor_199 kind_199 figure_199 style_199 fame_199 silent_199 ring_199 kept_199 t0_199 t1_199 = some R → lv_has ls 15 [(0, .ref (ad 0)), (1, .int x1), (2, .int x2), (3, .int x3), (4, .int x4), (5, .int x5), (9, .long u9_116), (11, .int v11_199)] → va_P D vwCl (wd_X5_censor cI ad writers_199 year_199 taped at_ statements hasImage isKeeping_199 cursor_199 forgottenWhen rowMany refused_u116 kind_199 figure_199 style_199 fame_199 silent_199 ring_199 kept_199) H → va_D A (wd_X5_censor cI ad writers_199 year_199 taped at_ statements hasImage isKeeping_199 cursor_199 forgottenWhen rowMany refused_u116 kind_199 figure_199 style_199 fame_199 silent_199 ring_199 kept_199) → va_S A s.heap H locs → Wh p l e 5 s m args below meth c H locs Q (F0 m 199 ls [.long t1_199, .long t0_199]) := by
  have hx := X.1
  have hb := X.2.1
  intro v11_199 writers_199 year_199 isKeeping_199 cursor_199 kind_199 figure_199 style_199 fame_199 silent_199 ring_199 kept_199 t0_199 t1_199 H locs ls hf hl hP hD hS
  replace hf : ((f_X5_forgets writers_199 year_199 isKeeping_199 cursor_199 kind_199 figure_199 style_199 fame_199 silent_199 ring_199 kept_199).bind fun (r203 : Int32 × Int32 × Int32 × Int32 × (Nat → Int32) × (Nat → Int32) × (Nat → Int32) × (Nat → Int32) × (Nat → Int32) × (Nat → Int32) × (Nat → Int32)) => (kL116 (t0_199 + t1_199) (v11_199 + (1 : Int32)) r203.1 r203.2.1 r203.2.2.1 r203.2.2.2.1 r203.2.2.2.2.1 r203.2.2.2.2.2.1 r203.2.2.2.2.2.2.1 r203.2.2.2.2.2.2.2.1 r203.2.2.2.2.2.2.2.2.1 r203.2.2.2.2.2.2.2.2.2.1 r203.2.2.2.2.2.2.2.2.2.2)) = some R := hf
  refine lv_ladd hx hb dX5_censor_199 ?_
  refine lv_lstore (lv' := [(7, .long (t0_199 + t1_199)), (0, .ref (ad 0)), (1, .int x1), (2, .int x2), (3, .int x3), (4, .int x4), (5, .int x5), (9, .long u9_116), (11, .int v11_199)]) hx hb dX5_censor_200 hl (by decide) rfl (fun ls hl => ?_)
  refine lv_aload_n hx hb dX5_censor_202 rfl (lv_at hl 1 rfl) ?_
  obtain ⟨r203, hq203, hf⟩ := bS hf
  refine wr_v X hP hD hS [0, 2, 3, 4, 5, 6, 7, 8] rfl (ws' := (wd_X5_censor cI ad r203.1 r203.2.1 taped at_ statements hasImage r203.2.2.1 r203.2.2.2.1 forgottenWhen rowMany refused_u116 r203.2.2.2.2.1 r203.2.2.2.2.2.1 r203.2.2.2.2.2.2.1 r203.2.2.2.2.2.2.2.1 r203.2.2.2.2.2.2.2.2.1 r203.2.2.2.2.2.2.2.2.2.1 r203.2.2.2.2.2.2.2.2.2.2)) (Nat.le_of_ble_eq_true rfl) rfl rfl (run_V X hP hD hS [0, 2, 3, 4, 5, 6, 7, 8] rfl rfl (c_X5_forgets l D cI aS ad writers_199 year_199 taped at_ statements hasImage isKeeping_199 cursor_199 forgottenWhen rowMany kind_199 figure_199 style_199 fame_199 silent_199 ring_199 kept_199 _ hq203 _) lkX5_203 (by decide) (q0 := 0) rfl rfl rfl rfl (Nat.le_of_ble_eq_true rfl) hl.1 dX5_censor_203) (fun H locs hP hD hS => ?_)
  refine lv_iinc (v := (v11_199 + (1 : Int32))) (lv' := [(11, .int (v11_199 + (1 : Int32))), (7, .long (t0_199 + t1_199)), (0, .ref (ad 0)), (1, .int x1), (2, .int x2), (3, .int x3), (4, .int x4), (5, .int x5), (9, .long u9_116)]) hx hb dX5_censor_206 hl (k := 8) rfl rfl (by decide) rfl (fun ls hl => ?_)
  refine lv_goto (tgt := 116) hx hb dX5_censor_209 (by decide) ?_
  exact hkL116 (t0_199 + t1_199) (v11_199 + (1 : Int32)) r203.1 r203.2.1 r203.2.2.1 r203.2.2.2.1 r203.2.2.2.2.1 r203.2.2.2.2.2.1 r203.2.2.2.2.2.2.1 r203.2.2.2.2.2.2.2.1 r203.2.2.2.2.2.2.2.2.1 r203.2.2.2.2.2.2.2.2.2.1 r203.2.2.2.2.2.2.2.2.2.2 _ _ _ hf (lv_sub hl [2, 3, 4, 5, 6, 7, 1, 8, 0] rfl) hP hD hS
set_option maxHeartbeats 4000000 in
set_option maxRecDepth 100000 in
theorem w_X5_censor_180 {p : Program} {l : Launch} {e : Env} {s : State} {m : MethodId} {args : Array Value} {below : List Frame} {meth : Method} {c : Code} {D : va_G} {cI : ClassId} {aS : aSt} {A : Nat → Prop} {Q : State → Prop}  (ad : Nat → Nat) (taped : Int32) (at_ : Int32) (statements : Int32) (hasImage : Int32) (forgottenWhen : Int32) (rowMany : Int32) (x1 : Int32) (x2 : Int32) (x3 : Int32) (x4 : Int32) (x5 : Int32) (u9_116 : Int64) (refused_u116 : (Nat → Int32)) {R : Int64 × Int32 × Int32 × Int32 × Int32 × (Nat → Int32) × (Nat → Int32) × (Nat → Int32) × (Nat → Int32) × (Nat → Int32) × (Nat → Int32) × (Nat → Int32) × (Nat → Int32)} (X : Bx p s m args meth c cX5_censor 15 (some .long) RX5 D cI aS A) (hret : RtL p l e 5 s m args below meth c cX5_censor D A (wd_X5_censor cI ad R.2.1 R.2.2.1 taped at_ statements hasImage R.2.2.2.1 R.2.2.2.2.1 forgottenWhen rowMany R.2.2.2.2.2.1 R.2.2.2.2.2.2.1 R.2.2.2.2.2.2.2.1 R.2.2.2.2.2.2.2.2.1 R.2.2.2.2.2.2.2.2.2.1 R.2.2.2.2.2.2.2.2.2.2.1 R.2.2.2.2.2.2.2.2.2.2.2.1 R.2.2.2.2.2.2.2.2.2.2.2.2) R.1 Q) (kL116 : Int64 → Int32 → Int32 → Int32 → Int32 → Int32 → (Nat → Int32) → (Nat → Int32) → (Nat → Int32) → (Nat → Int32) → (Nat → Int32) → (Nat → Int32) → (Nat → Int32) → Option (Int64 × Int32 × Int32 × Int32 × Int32 × (Nat → Int32) × (Nat → Int32) × (Nat → Int32) × (Nat → Int32) × (Nat → Int32) × (Nat → Int32) × (Nat → Int32) × (Nat → Int32))) (hkL116 : ∀ (v7_116 : Int64) (v11_116 : Int32) (writers_116 : Int32) (year_116 : Int32) (isKeeping_116 : Int32) (cursor_116 : Int32) (kind_116 : (Nat → Int32)) (figure_116 : (Nat → Int32)) (style_116 : (Nat → Int32)) (fame_116 : (Nat → Int32)) (silent_116 : (Nat → Int32)) (ring_116 : (Nat → Int32)) (kept_116 : (Nat → Int32)) (H : Heap) (locs : List Loc) (ls : Array Slot), kL116 v7_116 v11_116 writers_116 year_116 isKeeping_116 cursor_116 kind_116 figure_116 style_116 fame_116 silent_116 ring_116 kept_116 = some R → lv_has ls 15 [(0, .ref (ad 0)), (1, .int x1), (2, .int x2), (3, .int x3), (4, .int x4), (5, .int x5), (7, .long v7_116), (9, .long u9_116), (11, .int v11_116)] → va_P D vwCl (wd_X5_censor cI ad writers_116 year_116 taped at_ statements hasImage isKeeping_116 cursor_116 forgottenWhen rowMany refused_u116 kind_116 figure_116 style_116 fame_116 silent_116 ring_116 kept_116) H → va_D A (wd_X5_censor cI ad writers_116 year_116 taped at_ statements hasImage isKeeping_116 cursor_116 forgottenWhen rowMany refused_u116 kind_116 figure_116 style_116 fame_116 silent_116 ring_116 kept_116) → va_S A s.heap H locs → Wh p l e 5 s m args below meth c H locs Q (F0 m 116 ls [])) : ∀ (v7_180 : Int64) (v11_180 : Int32) (v12_180 : Int64) (writers_180 : Int32) (year_180 : Int32) (isKeeping_180 : Int32) (cursor_180 : Int32) (kind_180 : (Nat → Int32)) (figure_180 : (Nat → Int32)) (style_180 : (Nat → Int32)) (fame_180 : (Nat → Int32)) (silent_180 : (Nat → Int32)) (ring_180 : (Nat → Int32)) (kept_180 : (Nat → Int32)) (H : Heap) (locs : List Loc) (ls : Array Slot), f_X5_censor_180 x1 x4 kL116 v7_180 v11_180 v12_180 writers_180 year_180 isKeeping_180 cursor_180 kind_180 figure_180 style_180 fame_180 silent_180 ring_180 kept_180 = some R → lv_has ls 15 [(0, .ref (ad 0)), (1, .int x1), (2, .int x2), (3, .int x3), (4, .int x4), (5, .int x5), (7, .long v7_180), (9, .long u9_116), (11, .int v11_180), (12, .long v12_180)] → va_P D vwCl (wd_X5_censor cI ad writers_180 year_180 taped at_ statements hasImage isKeeping_180 cursor_180 forgottenWhen rowMany refused_u116 kind_180 figure_180 style_180 fame_180 silent_180 ring_180 kept_180) H → va_D A (wd_X5_censor cI ad writers_180 year_180 taped at_ statements hasImage isKeeping_180 cursor_180 forgottenWhen rowMany refused_u116 kind_180 figure_180 style_180 fame_180 silent_180 ring_180 kept_180) → va_S A s.heap H locs → Wh p l e 5 s m args below meth c H locs Q (F0 m 180 ls []) := by
  have hx := X.1
  have hb := X.2.1
  intro v7_180 v11_180 v12_180 writers_180 year_180 isKeeping_180 cursor_180 kind_180 figure_180 style_180 fame_180 silent_180 ring_180 kept_180 H locs ls hf hl hP hD hS
  replace hf : (gd x1 7 (if (fame_180 (Int32.toNatClampNeg x1)) < x4 then (f_X5_censor_199  kL116 v11_180 writers_180 year_180 isKeeping_180 cursor_180 kind_180 figure_180 style_180 fame_180 silent_180 ring_180 kept_180 v7_180 (0 : Int64)) else (f_X5_censor_199  kL116 v11_180 writers_180 year_180 isKeeping_180 cursor_180 kind_180 figure_180 style_180 fame_180 silent_180 ring_180 kept_180 v7_180 v12_180))) = some R := hf
  refine lv_lload hx hb dX5_censor_180 (lv_at hl 6 rfl) ?_
  refine lv_aload_n hx hb dX5_censor_182 rfl (lv_at hl 0 rfl) ?_
  refine fgX5_22 X hP (q0 := 0) rfl rfl dX5_censor_183 ?_
  refine lv_iload_n hx hb dX5_censor_186 rfl (lv_at hl 1 rfl) ?_
  refine aGet X hP (q0 := 5) rfl (gdS hf).1 dX5_censor_187 ?_
  have hf := (gdS hf).2
  refine lv_iload hx hb dX5_censor_188 (lv_at hl 4 rfl) ?_
  refine lv_icmp_lt (tgt := 198) hx hb dX5_censor_190 (by decide) (fun c190 => ?_) (fun c190 => ?_)
  · have hf := iT c190 hf
    refine lv_lconst (v := 0) hx hb dX5_censor_198 (by decide) ?_
    exact w_X5_censor_199 ad taped at_ statements hasImage forgottenWhen rowMany x1 x2 x3 x4 x5 u9_116 refused_u116 X hret _ hkL116 v11_180 writers_180 year_180 isKeeping_180 cursor_180 kind_180 figure_180 style_180 fame_180 silent_180 ring_180 kept_180 v7_180 (0 : Int64) _ _ _ hf (lv_sub hl [0, 1, 2, 3, 4, 5, 7, 8] rfl) hP hD hS
  · have hf := iF c190 hf
    refine lv_lload hx hb dX5_censor_193 (lv_at hl 9 rfl) ?_
    refine lv_goto (tgt := 199) hx hb dX5_censor_195 (by decide) ?_
    exact w_X5_censor_199 ad taped at_ statements hasImage forgottenWhen rowMany x1 x2 x3 x4 x5 u9_116 refused_u116 X hret _ hkL116 v11_180 writers_180 year_180 isKeeping_180 cursor_180 kind_180 figure_180 style_180 fame_180 silent_180 ring_180 kept_180 v7_180 v12_180 _ _ _ hf (lv_sub hl [0, 1, 2, 3, 4, 5, 7, 8] rfl) hP hD hS
set_option maxHeartbeats 4000000 in
set_option maxRecDepth 100000 in
theorem w_X5_censor_116 {p : Program} {l : Launch} {e : Env} {s : State} {m : MethodId} {args : Array Value} {below : List Frame} {meth : Method} {c : Code} {D : va_G} {cI : ClassId} {aS : aSt} {A : Nat → Prop} {Q : State → Prop}  (ad : Nat → Nat) (taped : Int32) (at_ : Int32) (statements : Int32) (hasImage : Int32) (forgottenWhen : Int32) (rowMany : Int32) (x1 : Int32) (x2 : Int32) (x3 : Int32) (x4 : Int32) (x5 : Int32) (u9_116 : Int64) (refused_u116 : (Nat → Int32)) {R : Int64 × Int32 × Int32 × Int32 × Int32 × (Nat → Int32) × (Nat → Int32) × (Nat → Int32) × (Nat → Int32) × (Nat → Int32) × (Nat → Int32) × (Nat → Int32) × (Nat → Int32)} (X : Bx p s m args meth c cX5_censor 15 (some .long) RX5 D cI aS A) (hret : RtL p l e 5 s m args below meth c cX5_censor D A (wd_X5_censor cI ad R.2.1 R.2.2.1 taped at_ statements hasImage R.2.2.2.1 R.2.2.2.2.1 forgottenWhen rowMany R.2.2.2.2.2.1 R.2.2.2.2.2.2.1 R.2.2.2.2.2.2.2.1 R.2.2.2.2.2.2.2.2.1 R.2.2.2.2.2.2.2.2.2.1 R.2.2.2.2.2.2.2.2.2.2.1 R.2.2.2.2.2.2.2.2.2.2.2.1 R.2.2.2.2.2.2.2.2.2.2.2.2) R.1 Q) (kX116_212 : Int64 → Int32 → Int32 → Int32 → Int32 → (Nat → Int32) → (Nat → Int32) → (Nat → Int32) → (Nat → Int32) → (Nat → Int32) → (Nat → Int32) → (Nat → Int32) → Option (Int64 × Int32 × Int32 × Int32 × Int32 × (Nat → Int32) × (Nat → Int32) × (Nat → Int32) × (Nat → Int32) × (Nat → Int32) × (Nat → Int32) × (Nat → Int32) × (Nat → Int32))) (hkX116_212 : ∀ (v7_212 : Int64) (writers_212 : Int32) (year_212 : Int32) (isKeeping_212 : Int32) (cursor_212 : Int32) (kind_212 : (Nat → Int32)) (figure_212 : (Nat → Int32)) (style_212 : (Nat → Int32)) (fame_212 : (Nat → Int32)) (silent_212 : (Nat → Int32)) (ring_212 : (Nat → Int32)) (kept_212 : (Nat → Int32)) (H : Heap) (locs : List Loc) (ls : Array Slot), kX116_212 v7_212 writers_212 year_212 isKeeping_212 cursor_212 kind_212 figure_212 style_212 fame_212 silent_212 ring_212 kept_212 = some R → lv_has ls 15 [(5, .int x5), (7, .long v7_212), (9, .long u9_116)] → va_P D vwCl (wd_X5_censor cI ad writers_212 year_212 taped at_ statements hasImage isKeeping_212 cursor_212 forgottenWhen rowMany refused_u116 kind_212 figure_212 style_212 fame_212 silent_212 ring_212 kept_212) H → va_D A (wd_X5_censor cI ad writers_212 year_212 taped at_ statements hasImage isKeeping_212 cursor_212 forgottenWhen rowMany refused_u116 kind_212 figure_212 style_212 fame_212 silent_212 ring_212 kept_212) → va_S A s.heap H locs → Wh p l e 5 s m args below meth c H locs Q (F0 m 212 ls [])) : ∀ (fuel : Nat) (v7_116 : Int64) (v11_116 : Int32) (writers_116 : Int32) (year_116 : Int32) (isKeeping_116 : Int32) (cursor_116 : Int32) (kind_116 : (Nat → Int32)) (figure_116 : (Nat → Int32)) (style_116 : (Nat → Int32)) (fame_116 : (Nat → Int32)) (silent_116 : (Nat → Int32)) (ring_116 : (Nat → Int32)) (kept_116 : (Nat → Int32)) (H : Heap) (locs : List Loc) (ls : Array Slot), f_X5_censor_116 x1 x2 x3 x4 kX116_212 fuel v7_116 v11_116 writers_116 year_116 isKeeping_116 cursor_116 kind_116 figure_116 style_116 fame_116 silent_116 ring_116 kept_116 = some R → lv_has ls 15 [(0, .ref (ad 0)), (1, .int x1), (2, .int x2), (3, .int x3), (4, .int x4), (5, .int x5), (7, .long v7_116), (9, .long u9_116), (11, .int v11_116)] → va_P D vwCl (wd_X5_censor cI ad writers_116 year_116 taped at_ statements hasImage isKeeping_116 cursor_116 forgottenWhen rowMany refused_u116 kind_116 figure_116 style_116 fame_116 silent_116 ring_116 kept_116) H → va_D A (wd_X5_censor cI ad writers_116 year_116 taped at_ statements hasImage isKeeping_116 cursor_116 forgottenWhen rowMany refused_u116 kind_116 figure_116 style_116 fame_116 silent_116 ring_116 kept_116) → va_S A s.heap H locs → Wh p l e 5 s m args below meth c H locs Q (F0 m 116 ls []) := by
  have hx := X.1
  have hb := X.2.1
  intro fuel
  induction fuel with
  | zero =>
    intro v7_116 v11_116 writers_116 year_116 isKeeping_116 cursor_116 kind_116 figure_116 style_116 fame_116 silent_116 ring_116 kept_116 H locs ls hf hl hP hD hS
    cases hf
  | succ fuel ih =>
    intro v7_116 v11_116 writers_116 year_116 isKeeping_116 cursor_116 kind_116 figure_116 style_116 fame_116 silent_116 ring_116 kept_116 H locs ls hf hl hP hD hS
    replace hf : (if (shlI (1 : Int32) x2) ≤ v11_116 then (kX116_212 v7_116 writers_116 year_116 isKeeping_116 cursor_116 kind_116 figure_116 style_116 fame_116 silent_116 ring_116 kept_116) else ((f_X5_thinks writers_116 year_116 isKeeping_116 cursor_116 kind_116 figure_116 style_116 fame_116 silent_116 ring_116 kept_116).bind fun (r125 : Int32 × Int32 × Int32 × Int32 × (Nat → Int32) × (Nat → Int32) × (Nat → Int32) × (Nat → Int32) × (Nat → Int32) × (Nat → Int32) × (Nat → Int32)) => (f_X5_censor_134 x2 x3 v11_116 r125.1 r125.2.2.2.2.1 r125.2.2.2.2.2.1 r125.2.2.2.2.2.2.1 r125.2.2.2.2.2.2.2.2.1 r125.2.2.2.2.2.2.2.2.2.1 (fun (v12_180 : Int64) (year_180 : Int32) (fame_180 : (Nat → Int32)) => (f_X5_censor_180 x1 x4 (f_X5_censor_116 x1 x2 x3 x4 kX116_212 fuel) v7_116 v11_116 v12_180 r125.1 year_180 r125.2.2.1 r125.2.2.2.1 r125.2.2.2.2.1 r125.2.2.2.2.2.1 r125.2.2.2.2.2.2.1 fame_180 r125.2.2.2.2.2.2.2.2.1 r125.2.2.2.2.2.2.2.2.2.1 r125.2.2.2.2.2.2.2.2.2.2)) FU (1 : Int64) (0 : Int32) r125.2.1 r125.2.2.2.2.2.2.2.1))) = some R := hf
    refine lv_iload hx hb dX5_censor_116 (lv_at hl 8 rfl) ?_
    refine lv_iconst (v := 1) hx hb dX5_censor_118 (by decide) ?_
    refine lv_iload_n hx hb dX5_censor_119 rfl (lv_at hl 2 rfl) ?_
    refine x_ishl hx hb dX5_censor_120 ?_
    refine lv_icmp_ge (tgt := 212) hx hb dX5_censor_121 (by decide) (fun c121 => ?_) (fun c121 => ?_)
    · have hf := iT c121 hf
      exact hkX116_212 v7_116 writers_116 year_116 isKeeping_116 cursor_116 kind_116 figure_116 style_116 fame_116 silent_116 ring_116 kept_116 _ _ _ hf (lv_sub hl [5, 6, 7] rfl) hP hD hS
    · have hf := iF c121 hf
      refine lv_aload_n hx hb dX5_censor_124 rfl (lv_at hl 0 rfl) ?_
      obtain ⟨r125, hq125, hf⟩ := bS hf
      refine wr_v X hP hD hS [0, 2, 3, 4, 5, 6, 7, 8] rfl (ws' := (wd_X5_censor cI ad r125.1 r125.2.1 taped at_ statements hasImage r125.2.2.1 r125.2.2.2.1 forgottenWhen rowMany refused_u116 r125.2.2.2.2.1 r125.2.2.2.2.2.1 r125.2.2.2.2.2.2.1 r125.2.2.2.2.2.2.2.1 r125.2.2.2.2.2.2.2.2.1 r125.2.2.2.2.2.2.2.2.2.1 r125.2.2.2.2.2.2.2.2.2.2)) (Nat.le_of_ble_eq_true rfl) rfl rfl (run_V X hP hD hS [0, 2, 3, 4, 5, 6, 7, 8] rfl rfl (c_X5_thinks l D cI aS ad writers_116 year_116 taped at_ statements hasImage isKeeping_116 cursor_116 forgottenWhen rowMany kind_116 figure_116 style_116 fame_116 silent_116 ring_116 kept_116 _ hq125 _) lkX5_200 (by decide) (q0 := 0) rfl rfl rfl rfl (Nat.le_of_ble_eq_true rfl) hl.1 dX5_censor_125) (fun H locs hP hD hS => ?_)
      refine lv_lconst (v := 1) hx hb dX5_censor_128 (by decide) ?_
      refine lv_lstore (lv' := [(12, .long (1 : Int64)), (0, .ref (ad 0)), (1, .int x1), (2, .int x2), (3, .int x3), (4, .int x4), (5, .int x5), (7, .long v7_116), (9, .long u9_116), (11, .int v11_116)]) hx hb dX5_censor_129 hl (by decide) rfl (fun ls hl => ?_)
      refine lv_iconst (v := 0) hx hb dX5_censor_131 (by decide) ?_
      refine lv_istore (lv' := [(14, .int (0 : Int32)), (12, .long (1 : Int64)), (0, .ref (ad 0)), (1, .int x1), (2, .int x2), (3, .int x3), (4, .int x4), (5, .int x5), (7, .long v7_116), (9, .long u9_116), (11, .int v11_116)]) hx hb dX5_censor_132 hl (by decide) rfl (fun ls hl => ?_)
      exact w_X5_censor_134 ad taped at_ statements hasImage forgottenWhen rowMany x1 x2 x3 x4 x5 u9_116 refused_u116 v7_116 v11_116 r125.1 r125.2.2.1 r125.2.2.2.1 r125.2.2.2.2.1 r125.2.2.2.2.2.1 r125.2.2.2.2.2.2.1 r125.2.2.2.2.2.2.2.2.1 r125.2.2.2.2.2.2.2.2.2.1 r125.2.2.2.2.2.2.2.2.2.2 X hret _ (fun v12_180 year_180 fame_180 _ _ _ hf hl hP hD hS => w_X5_censor_180 ad taped at_ statements hasImage forgottenWhen rowMany x1 x2 x3 x4 x5 u9_116 refused_u116 X hret _ ih v7_116 v11_116 v12_180 r125.1 year_180 r125.2.2.1 r125.2.2.2.1 r125.2.2.2.2.1 r125.2.2.2.2.2.1 r125.2.2.2.2.2.2.1 fame_180 r125.2.2.2.2.2.2.2.2.1 r125.2.2.2.2.2.2.2.2.2.1 r125.2.2.2.2.2.2.2.2.2.2 _ _ _ hf (lv_sub hl [0, 1, 2, 3, 4, 5, 6, 7, 8, 9] rfl) hP hD hS) _ (1 : Int64) (0 : Int32) r125.2.1 r125.2.2.2.2.2.2.2.1 _ _ _ hf (lv_sub hl [2, 3, 4, 5, 6, 7, 8, 9, 10, 1, 0] rfl) hP hD hS
set_option maxHeartbeats 4000000 in
set_option maxRecDepth 100000 in
theorem w_X5_censor_212 {p : Program} {l : Launch} {e : Env} {s : State} {m : MethodId} {args : Array Value} {below : List Frame} {meth : Method} {c : Code} {D : va_G} {cI : ClassId} {aS : aSt} {A : Nat → Prop} {Q : State → Prop}  (ad : Nat → Nat) (taped : Int32) (at_ : Int32) (statements : Int32) (hasImage : Int32) (forgottenWhen : Int32) (rowMany : Int32) (x1 : Int32) (x2 : Int32) (x3 : Int32) (x4 : Int32) (x5 : Int32) {R : Int64 × Int32 × Int32 × Int32 × Int32 × (Nat → Int32) × (Nat → Int32) × (Nat → Int32) × (Nat → Int32) × (Nat → Int32) × (Nat → Int32) × (Nat → Int32) × (Nat → Int32)} (X : Bx p s m args meth c cX5_censor 15 (some .long) RX5 D cI aS A) (hret : RtL p l e 5 s m args below meth c cX5_censor D A (wd_X5_censor cI ad R.2.1 R.2.2.1 taped at_ statements hasImage R.2.2.2.1 R.2.2.2.2.1 forgottenWhen rowMany R.2.2.2.2.2.1 R.2.2.2.2.2.2.1 R.2.2.2.2.2.2.2.1 R.2.2.2.2.2.2.2.2.1 R.2.2.2.2.2.2.2.2.2.1 R.2.2.2.2.2.2.2.2.2.2.1 R.2.2.2.2.2.2.2.2.2.2.2.1 R.2.2.2.2.2.2.2.2.2.2.2.2) R.1 Q) : ∀ (v7_212 : Int64) (v9_212 : Int64) (writers_212 : Int32) (year_212 : Int32) (isKeeping_212 : Int32) (cursor_212 : Int32) (refused_212 : (Nat → Int32)) (kind_212 : (Nat → Int32)) (figure_212 : (Nat → Int32)) (style_212 : (Nat → Int32)) (fame_212 : (Nat → Int32)) (silent_212 : (Nat → Int32)) (ring_212 : (Nat → Int32)) (kept_212 : (Nat → Int32)) (H : Heap) (locs : List Loc) (ls : Array Slot), f_X5_censor_212 x5  v7_212 v9_212 writers_212 year_212 isKeeping_212 cursor_212 refused_212 kind_212 figure_212 style_212 fame_212 silent_212 ring_212 kept_212 = some R → lv_has ls 15 [(5, .int x5), (7, .long v7_212), (9, .long v9_212)] → va_P D vwCl (wd_X5_censor cI ad writers_212 year_212 taped at_ statements hasImage isKeeping_212 cursor_212 forgottenWhen rowMany refused_212 kind_212 figure_212 style_212 fame_212 silent_212 ring_212 kept_212) H → va_D A (wd_X5_censor cI ad writers_212 year_212 taped at_ statements hasImage isKeeping_212 cursor_212 forgottenWhen rowMany refused_212 kind_212 figure_212 style_212 fame_212 silent_212 ring_212 kept_212) → va_S A s.heap H locs → Wh p l e 5 s m args below meth c H locs Q (F0 m 212 ls []) := by
  have hx := X.1
  have hb := X.2.1
  intro v7_212 v9_212 writers_212 year_212 isKeeping_212 cursor_212 refused_212 kind_212 figure_212 style_212 fame_212 silent_212 ring_212 kept_212 H locs ls hf hl hP hD hS
  replace hf : ((f_X5_partOf v7_212 v9_212 x5).bind fun (r218 : Int64) => (some (r218, writers_212, year_212, isKeeping_212, cursor_212, refused_212, kind_212, figure_212, style_212, fame_212, silent_212, ring_212, kept_212))) = some R := hf
  refine lv_lload hx hb dX5_censor_212 (lv_at hl 1 rfl) ?_
  refine lv_lload hx hb dX5_censor_214 (lv_at hl 2 rfl) ?_
  refine lv_iload hx hb dX5_censor_216 (lv_at hl 0 rfl) ?_
  obtain ⟨r218, hq218, hf⟩ := bS hf
  refine ro_l X hP hD hS [] rfl (run_S X hP hD hS [] rfl rfl (c_X5_partOf l D cI aS v7_212 v9_212 x5 _ hq218 _) lkX5_253 (by decide) rfl rfl (Nat.le_of_ble_eq_true rfl) hl.1 dX5_censor_218) (fun H locs hP hS => ?_)
  have hR := Option.some.inj hf
  subst hR
  exact hret _ _ _ _ _ rfl hP hD hS dX5_censor_221
set_option maxHeartbeats 4000000 in
set_option maxRecDepth 100000 in
theorem w_X5_censor_113 {p : Program} {l : Launch} {e : Env} {s : State} {m : MethodId} {args : Array Value} {below : List Frame} {meth : Method} {c : Code} {D : va_G} {cI : ClassId} {aS : aSt} {A : Nat → Prop} {Q : State → Prop}  (ad : Nat → Nat) (taped : Int32) (at_ : Int32) (statements : Int32) (hasImage : Int32) (forgottenWhen : Int32) (rowMany : Int32) (x1 : Int32) (x2 : Int32) (x3 : Int32) (x4 : Int32) (x5 : Int32) {R : Int64 × Int32 × Int32 × Int32 × Int32 × (Nat → Int32) × (Nat → Int32) × (Nat → Int32) × (Nat → Int32) × (Nat → Int32) × (Nat → Int32) × (Nat → Int32) × (Nat → Int32)} (X : Bx p s m args meth c cX5_censor 15 (some .long) RX5 D cI aS A) (hret : RtL p l e 5 s m args below meth c cX5_censor D A (wd_X5_censor cI ad R.2.1 R.2.2.1 taped at_ statements hasImage R.2.2.2.1 R.2.2.2.2.1 forgottenWhen rowMany R.2.2.2.2.2.1 R.2.2.2.2.2.2.1 R.2.2.2.2.2.2.2.1 R.2.2.2.2.2.2.2.2.1 R.2.2.2.2.2.2.2.2.2.1 R.2.2.2.2.2.2.2.2.2.2.1 R.2.2.2.2.2.2.2.2.2.2.2.1 R.2.2.2.2.2.2.2.2.2.2.2.2) R.1 Q) : ∀ (v7_113 : Int64) (v9_113 : Int64) (writers_113 : Int32) (year_113 : Int32) (isKeeping_113 : Int32) (cursor_113 : Int32) (refused_113 : (Nat → Int32)) (kind_113 : (Nat → Int32)) (figure_113 : (Nat → Int32)) (style_113 : (Nat → Int32)) (fame_113 : (Nat → Int32)) (silent_113 : (Nat → Int32)) (ring_113 : (Nat → Int32)) (kept_113 : (Nat → Int32)) (H : Heap) (locs : List Loc) (ls : Array Slot), f_X5_censor_113 x1 x2 x3 x4 x5  v7_113 v9_113 writers_113 year_113 isKeeping_113 cursor_113 refused_113 kind_113 figure_113 style_113 fame_113 silent_113 ring_113 kept_113 = some R → lv_has ls 15 [(0, .ref (ad 0)), (1, .int x1), (2, .int x2), (3, .int x3), (4, .int x4), (5, .int x5), (7, .long v7_113), (9, .long v9_113)] → va_P D vwCl (wd_X5_censor cI ad writers_113 year_113 taped at_ statements hasImage isKeeping_113 cursor_113 forgottenWhen rowMany refused_113 kind_113 figure_113 style_113 fame_113 silent_113 ring_113 kept_113) H → va_D A (wd_X5_censor cI ad writers_113 year_113 taped at_ statements hasImage isKeeping_113 cursor_113 forgottenWhen rowMany refused_113 kind_113 figure_113 style_113 fame_113 silent_113 ring_113 kept_113) → va_S A s.heap H locs → Wh p l e 5 s m args below meth c H locs Q (F0 m 113 ls []) := by
  have hx := X.1
  have hb := X.2.1
  intro v7_113 v9_113 writers_113 year_113 isKeeping_113 cursor_113 refused_113 kind_113 figure_113 style_113 fame_113 silent_113 ring_113 kept_113 H locs ls hf hl hP hD hS
  replace hf : (f_X5_censor_116 x1 x2 x3 x4 (fun (v7_212 : Int64) (writers_212 : Int32) (year_212 : Int32) (isKeeping_212 : Int32) (cursor_212 : Int32) (kind_212 : (Nat → Int32)) (figure_212 : (Nat → Int32)) (style_212 : (Nat → Int32)) (fame_212 : (Nat → Int32)) (silent_212 : (Nat → Int32)) (ring_212 : (Nat → Int32)) (kept_212 : (Nat → Int32)) => (f_X5_censor_212 x5  v7_212 v9_113 writers_212 year_212 isKeeping_212 cursor_212 refused_113 kind_212 figure_212 style_212 fame_212 silent_212 ring_212 kept_212)) FU v7_113 (0 : Int32) writers_113 year_113 isKeeping_113 cursor_113 kind_113 figure_113 style_113 fame_113 silent_113 ring_113 kept_113) = some R := hf
  refine lv_iconst (v := 0) hx hb dX5_censor_113 (by decide) ?_
  refine lv_istore (lv' := [(11, .int (0 : Int32)), (0, .ref (ad 0)), (1, .int x1), (2, .int x2), (3, .int x3), (4, .int x4), (5, .int x5), (7, .long v7_113), (9, .long v9_113)]) hx hb dX5_censor_114 hl (by decide) rfl (fun ls hl => ?_)
  exact w_X5_censor_116 ad taped at_ statements hasImage forgottenWhen rowMany x1 x2 x3 x4 x5 v9_113 refused_113 X hret _ (fun v7_212 writers_212 year_212 isKeeping_212 cursor_212 kind_212 figure_212 style_212 fame_212 silent_212 ring_212 kept_212 _ _ _ hf hl hP hD hS => w_X5_censor_212 ad taped at_ statements hasImage forgottenWhen rowMany x1 x2 x3 x4 x5 X hret  v7_212 v9_113 writers_212 year_212 isKeeping_212 cursor_212 refused_113 kind_212 figure_212 style_212 fame_212 silent_212 ring_212 kept_212 _ _ _ hf (lv_sub hl [0, 1, 2] rfl) hP hD hS) _ v7_113 (0 : Int32) writers_113 year_113 isKeeping_113 cursor_113 kind_113 figure_113 style_113 fame_113 silent_113 ring_113 kept_113 _ _ _ hf (lv_sub hl [1, 2, 3, 4, 5, 6, 7, 8, 0] rfl) hP hD hS
set_option maxHeartbeats 4000000 in
set_option maxRecDepth 100000 in
theorem w_X5_censor_71 {p : Program} {l : Launch} {e : Env} {s : State} {m : MethodId} {args : Array Value} {below : List Frame} {meth : Method} {c : Code} {D : va_G} {cI : ClassId} {aS : aSt} {A : Nat → Prop} {Q : State → Prop}  (ad : Nat → Nat) (taped : Int32) (at_ : Int32) (statements : Int32) (hasImage : Int32) (forgottenWhen : Int32) (rowMany : Int32) (x1 : Int32) (x2 : Int32) (x3 : Int32) (x4 : Int32) (x5 : Int32) {R : Int64 × Int32 × Int32 × Int32 × Int32 × (Nat → Int32) × (Nat → Int32) × (Nat → Int32) × (Nat → Int32) × (Nat → Int32) × (Nat → Int32) × (Nat → Int32) × (Nat → Int32)} (X : Bx p s m args meth c cX5_censor 15 (some .long) RX5 D cI aS A) (hret : RtL p l e 5 s m args below meth c cX5_censor D A (wd_X5_censor cI ad R.2.1 R.2.2.1 taped at_ statements hasImage R.2.2.2.1 R.2.2.2.2.1 forgottenWhen rowMany R.2.2.2.2.2.1 R.2.2.2.2.2.2.1 R.2.2.2.2.2.2.2.1 R.2.2.2.2.2.2.2.2.1 R.2.2.2.2.2.2.2.2.2.1 R.2.2.2.2.2.2.2.2.2.2.1 R.2.2.2.2.2.2.2.2.2.2.2.1 R.2.2.2.2.2.2.2.2.2.2.2.2) R.1 Q) : ∀ (writers_71 : Int32) (year_71 : Int32) (isKeeping_71 : Int32) (cursor_71 : Int32) (refused_71 : (Nat → Int32)) (kind_71 : (Nat → Int32)) (figure_71 : (Nat → Int32)) (style_71 : (Nat → Int32)) (fame_71 : (Nat → Int32)) (silent_71 : (Nat → Int32)) (ring_71 : (Nat → Int32)) (kept_71 : (Nat → Int32)) (t0_71 : Int32) (H : Heap) (locs : List Loc) (ls : Array Slot), f_X5_censor_71 x1 x2 x3 x4 x5  writers_71 year_71 isKeeping_71 cursor_71 refused_71 kind_71 figure_71 style_71 fame_71 silent_71 ring_71 kept_71 t0_71 = some R → lv_has ls 15 [(0, .ref (ad 0)), (1, .int x1), (2, .int x2), (3, .int x3), (4, .int x4), (5, .int x5)] → va_P D vwCl (wd_X5_censor cI ad writers_71 year_71 taped at_ statements hasImage isKeeping_71 cursor_71 forgottenWhen rowMany refused_71 kind_71 figure_71 style_71 fame_71 silent_71 ring_71 kept_71) H → va_D A (wd_X5_censor cI ad writers_71 year_71 taped at_ statements hasImage isKeeping_71 cursor_71 forgottenWhen rowMany refused_71 kind_71 figure_71 style_71 fame_71 silent_71 ring_71 kept_71) → va_S A s.heap H locs → Wh p l e 5 s m args below meth c H locs Q (F0 m 71 ls [.int t0_71]) := by
  have hx := X.1
  have hb := X.2.1
  intro writers_71 year_71 isKeeping_71 cursor_71 refused_71 kind_71 figure_71 style_71 fame_71 silent_71 ring_71 kept_71 t0_71 H locs ls hf hl hP hD hS
  replace hf : (if t0_71 = 0 then (f_X5_censor_94 x2 x3 (fun (v9_113 : Int64) => (f_X5_censor_113 x1 x2 x3 x4 x5  (0 : Int64) v9_113 writers_71 year_71 isKeeping_71 cursor_71 refused_71 kind_71 figure_71 style_71 fame_71 silent_71 ring_71 kept_71)) FU (1 : Int64) (0 : Int32)) else ((f_X5_lowestOf refused_71 t0_71).bind fun (r81 : Int64 × (Nat → Int32)) => (some (r81.1, writers_71, year_71, isKeeping_71, cursor_71, r81.2, kind_71, figure_71, style_71, fame_71, silent_71, ring_71, kept_71)))) = some R := hf
  refine lv_istore (lv' := [(6, .int t0_71), (0, .ref (ad 0)), (1, .int x1), (2, .int x2), (3, .int x3), (4, .int x4), (5, .int x5)]) hx hb dX5_censor_71 hl (by decide) rfl (fun ls hl => ?_)
  refine lv_iload hx hb dX5_censor_73 (lv_at hl 0 rfl) ?_
  refine lv_if_eq (tgt := 85) hx hb dX5_censor_75 (by decide) (fun c75 => ?_) (fun c75 => ?_)
  · have hf := iT c75 hf
    refine lv_lconst (v := 0) hx hb dX5_censor_85 (by decide) ?_
    refine lv_lstore (lv' := [(7, .long (0 : Int64)), (6, .int t0_71), (0, .ref (ad 0)), (1, .int x1), (2, .int x2), (3, .int x3), (4, .int x4), (5, .int x5)]) hx hb dX5_censor_86 hl (by decide) rfl (fun ls hl => ?_)
    refine lv_lconst (v := 1) hx hb dX5_censor_88 (by decide) ?_
    refine lv_lstore (lv' := [(9, .long (1 : Int64)), (7, .long (0 : Int64)), (6, .int t0_71), (0, .ref (ad 0)), (1, .int x1), (2, .int x2), (3, .int x3), (4, .int x4), (5, .int x5)]) hx hb dX5_censor_89 hl (by decide) rfl (fun ls hl => ?_)
    refine lv_iconst (v := 0) hx hb dX5_censor_91 (by decide) ?_
    refine lv_istore (lv' := [(11, .int (0 : Int32)), (9, .long (1 : Int64)), (7, .long (0 : Int64)), (6, .int t0_71), (0, .ref (ad 0)), (1, .int x1), (2, .int x2), (3, .int x3), (4, .int x4), (5, .int x5)]) hx hb dX5_censor_92 hl (by decide) rfl (fun ls hl => ?_)
    exact w_X5_censor_94 ad taped at_ statements hasImage forgottenWhen rowMany x1 x2 x3 x4 x5 (0 : Int64) writers_71 year_71 isKeeping_71 cursor_71 refused_71 kind_71 figure_71 style_71 fame_71 silent_71 ring_71 kept_71 X hret _ (fun v9_113 _ _ _ hf hl hP hD hS => w_X5_censor_113 ad taped at_ statements hasImage forgottenWhen rowMany x1 x2 x3 x4 x5 X hret  (0 : Int64) v9_113 writers_71 year_71 isKeeping_71 cursor_71 refused_71 kind_71 figure_71 style_71 fame_71 silent_71 ring_71 kept_71 _ _ _ hf (lv_sub hl [0, 1, 2, 3, 4, 5, 6, 7] rfl) hP hD hS) _ (1 : Int64) (0 : Int32) _ _ _ hf (lv_sub hl [4, 5, 6, 7, 8, 9, 2, 1, 0] rfl) hP hD hS
  · have hf := iF c75 hf
    refine lv_aload_n hx hb dX5_censor_78 rfl (lv_at hl 1 rfl) ?_
    refine lv_iload hx hb dX5_censor_79 (lv_at hl 0 rfl) ?_
    obtain ⟨r81, hq81, hf⟩ := bS hf
    refine wr_l X hP hD hS [0, 1] rfl (ws' := (wd_X5_censor cI ad writers_71 year_71 taped at_ statements hasImage isKeeping_71 cursor_71 forgottenWhen rowMany r81.2 kind_71 figure_71 style_71 fame_71 silent_71 ring_71 kept_71)) (Nat.le_of_ble_eq_true rfl) rfl rfl (run_V X hP hD hS [0, 1] rfl rfl (c_X5_lowestOf l D cI aS ad writers_71 year_71 taped at_ statements hasImage isKeeping_71 cursor_71 forgottenWhen rowMany refused_71 t0_71 _ hq81 _) lkX5_249 (by decide) (q0 := 0) rfl rfl rfl rfl (Nat.le_of_ble_eq_true rfl) hl.1 dX5_censor_81) (fun H locs hP hD hS => ?_)
    have hR := Option.some.inj hf
    subst hR
    exact hret _ _ _ _ _ rfl hP hD hS dX5_censor_84
set_option maxHeartbeats 4000000 in
set_option maxRecDepth 100000 in
theorem w_X5_censor_26 {p : Program} {l : Launch} {e : Env} {s : State} {m : MethodId} {args : Array Value} {below : List Frame} {meth : Method} {c : Code} {D : va_G} {cI : ClassId} {aS : aSt} {A : Nat → Prop} {Q : State → Prop}  (ad : Nat → Nat) (taped : Int32) (at_ : Int32) (statements : Int32) (hasImage : Int32) (forgottenWhen : Int32) (rowMany : Int32) (x1 : Int32) (x2 : Int32) (x3 : Int32) (x4 : Int32) (x5 : Int32) {R : Int64 × Int32 × Int32 × Int32 × Int32 × (Nat → Int32) × (Nat → Int32) × (Nat → Int32) × (Nat → Int32) × (Nat → Int32) × (Nat → Int32) × (Nat → Int32) × (Nat → Int32)} (X : Bx p s m args meth c cX5_censor 15 (some .long) RX5 D cI aS A) (hret : RtL p l e 5 s m args below meth c cX5_censor D A (wd_X5_censor cI ad R.2.1 R.2.2.1 taped at_ statements hasImage R.2.2.2.1 R.2.2.2.2.1 forgottenWhen rowMany R.2.2.2.2.2.1 R.2.2.2.2.2.2.1 R.2.2.2.2.2.2.2.1 R.2.2.2.2.2.2.2.2.1 R.2.2.2.2.2.2.2.2.2.1 R.2.2.2.2.2.2.2.2.2.2.1 R.2.2.2.2.2.2.2.2.2.2.2.1 R.2.2.2.2.2.2.2.2.2.2.2.2) R.1 Q) : ∀ (writers_26 : Int32) (year_26 : Int32) (isKeeping_26 : Int32) (cursor_26 : Int32) (refused_26 : (Nat → Int32)) (kind_26 : (Nat → Int32)) (figure_26 : (Nat → Int32)) (style_26 : (Nat → Int32)) (fame_26 : (Nat → Int32)) (silent_26 : (Nat → Int32)) (ring_26 : (Nat → Int32)) (kept_26 : (Nat → Int32)) (H : Heap) (locs : List Loc) (ls : Array Slot), f_X5_censor_26 x1 x2 x3 x4 x5  writers_26 year_26 isKeeping_26 cursor_26 refused_26 kind_26 figure_26 style_26 fame_26 silent_26 ring_26 kept_26 = some R → lv_has ls 15 [(0, .ref (ad 0)), (1, .int x1), (2, .int x2), (3, .int x3), (4, .int x4), (5, .int x5)] → va_P D vwCl (wd_X5_censor cI ad writers_26 year_26 taped at_ statements hasImage isKeeping_26 cursor_26 forgottenWhen rowMany refused_26 kind_26 figure_26 style_26 fame_26 silent_26 ring_26 kept_26) H → va_D A (wd_X5_censor cI ad writers_26 year_26 taped at_ statements hasImage isKeeping_26 cursor_26 forgottenWhen rowMany refused_26 kind_26 figure_26 style_26 fame_26 silent_26 ring_26 kept_26) → va_S A s.heap H locs → Wh p l e 5 s m args below meth c H locs Q (F0 m 26 ls []) := by
  have hx := X.1
  have hb := X.2.1
  intro writers_26 year_26 isKeeping_26 cursor_26 refused_26 kind_26 figure_26 style_26 fame_26 silent_26 ring_26 kept_26 H locs ls hf hl hP hD hS
  replace hf : (f_X5_censor_71 x1 x2 x3 x4 x5  writers_26 year_26 isKeeping_26 cursor_26 refused_26 kind_26 figure_26 style_26 fame_26 silent_26 ring_26 kept_26 (-4 : Int32)) = some R := hf
  refine lv_bipush (v := -4) hx hb dX5_censor_26 (by decide) ?_
  refine lv_goto (tgt := 71) hx hb dX5_censor_28 (by decide) ?_
  exact w_X5_censor_71 ad taped at_ statements hasImage forgottenWhen rowMany x1 x2 x3 x4 x5 X hret  writers_26 year_26 isKeeping_26 cursor_26 refused_26 kind_26 figure_26 style_26 fame_26 silent_26 ring_26 kept_26 (-4 : Int32) _ _ _ hf (lv_sub hl [0, 1, 2, 3, 4, 5] rfl) hP hD hS
set_option maxHeartbeats 4000000 in
set_option maxRecDepth 100000 in
theorem w_X5_censor_50 {p : Program} {l : Launch} {e : Env} {s : State} {m : MethodId} {args : Array Value} {below : List Frame} {meth : Method} {c : Code} {D : va_G} {cI : ClassId} {aS : aSt} {A : Nat → Prop} {Q : State → Prop}  (ad : Nat → Nat) (taped : Int32) (at_ : Int32) (statements : Int32) (hasImage : Int32) (forgottenWhen : Int32) (rowMany : Int32) (x1 : Int32) (x2 : Int32) (x3 : Int32) (x4 : Int32) (x5 : Int32) {R : Int64 × Int32 × Int32 × Int32 × Int32 × (Nat → Int32) × (Nat → Int32) × (Nat → Int32) × (Nat → Int32) × (Nat → Int32) × (Nat → Int32) × (Nat → Int32) × (Nat → Int32)} (X : Bx p s m args meth c cX5_censor 15 (some .long) RX5 D cI aS A) (hret : RtL p l e 5 s m args below meth c cX5_censor D A (wd_X5_censor cI ad R.2.1 R.2.2.1 taped at_ statements hasImage R.2.2.2.1 R.2.2.2.2.1 forgottenWhen rowMany R.2.2.2.2.2.1 R.2.2.2.2.2.2.1 R.2.2.2.2.2.2.2.1 R.2.2.2.2.2.2.2.2.1 R.2.2.2.2.2.2.2.2.2.1 R.2.2.2.2.2.2.2.2.2.2.1 R.2.2.2.2.2.2.2.2.2.2.2.1 R.2.2.2.2.2.2.2.2.2.2.2.2) R.1 Q) : ∀ (writers_50 : Int32) (year_50 : Int32) (isKeeping_50 : Int32) (cursor_50 : Int32) (refused_50 : (Nat → Int32)) (kind_50 : (Nat → Int32)) (figure_50 : (Nat → Int32)) (style_50 : (Nat → Int32)) (fame_50 : (Nat → Int32)) (silent_50 : (Nat → Int32)) (ring_50 : (Nat → Int32)) (kept_50 : (Nat → Int32)) (H : Heap) (locs : List Loc) (ls : Array Slot), f_X5_censor_50 x1 x2 x3 x4 x5  writers_50 year_50 isKeeping_50 cursor_50 refused_50 kind_50 figure_50 style_50 fame_50 silent_50 ring_50 kept_50 = some R → lv_has ls 15 [(0, .ref (ad 0)), (1, .int x1), (2, .int x2), (3, .int x3), (4, .int x4), (5, .int x5)] → va_P D vwCl (wd_X5_censor cI ad writers_50 year_50 taped at_ statements hasImage isKeeping_50 cursor_50 forgottenWhen rowMany refused_50 kind_50 figure_50 style_50 fame_50 silent_50 ring_50 kept_50) H → va_D A (wd_X5_censor cI ad writers_50 year_50 taped at_ statements hasImage isKeeping_50 cursor_50 forgottenWhen rowMany refused_50 kind_50 figure_50 style_50 fame_50 silent_50 ring_50 kept_50) → va_S A s.heap H locs → Wh p l e 5 s m args below meth c H locs Q (F0 m 50 ls []) := by
  have hx := X.1
  have hb := X.2.1
  intro writers_50 year_50 isKeeping_50 cursor_50 refused_50 kind_50 figure_50 style_50 fame_50 silent_50 ring_50 kept_50 H locs ls hf hl hP hD hS
  replace hf : (f_X5_censor_71 x1 x2 x3 x4 x5  writers_50 year_50 isKeeping_50 cursor_50 refused_50 kind_50 figure_50 style_50 fame_50 silent_50 ring_50 kept_50 (-6 : Int32)) = some R := hf
  refine lv_bipush (v := -6) hx hb dX5_censor_50 (by decide) ?_
  refine lv_goto (tgt := 71) hx hb dX5_censor_52 (by decide) ?_
  exact w_X5_censor_71 ad taped at_ statements hasImage forgottenWhen rowMany x1 x2 x3 x4 x5 X hret  writers_50 year_50 isKeeping_50 cursor_50 refused_50 kind_50 figure_50 style_50 fame_50 silent_50 ring_50 kept_50 (-6 : Int32) _ _ _ hf (lv_sub hl [0, 1, 2, 3, 4, 5] rfl) hP hD hS
set_option maxHeartbeats 4000000 in
set_option maxRecDepth 100000 in
theorem c_X5_censor (l : Launch) (D : va_G) (cI : ClassId) (aS : aSt) (ad : Nat → Nat) (writers : Int32) (year : Int32) (taped : Int32) (at_ : Int32) (statements : Int32) (hasImage : Int32) (isKeeping : Int32) (cursor : Int32) (forgottenWhen : Int32) (rowMany : Int32) (refused : (Nat → Int32)) (kind : (Nat → Int32)) (figure : (Nat → Int32)) (style : (Nat → Int32)) (fame : (Nat → Int32)) (silent : (Nat → Int32)) (ring : (Nat → Int32)) (kept : (Nat → Int32)) (x1 : Int32) (x2 : Int32) (x3 : Int32) (x4 : Int32) (x5 : Int32) (R : Int64 × Int32 × Int32 × Int32 × Int32 × (Nat → Int32) × (Nat → Int32) × (Nat → Int32) × (Nat → Int32) × (Nat → Int32) × (Nat → Int32) × (Nat → Int32) × (Nat → Int32)) (hf : f_X5_censor writers year isKeeping cursor refused kind figure style fame silent ring kept x1 x2 x3 x4 x5 = some R) : CtL l yX5_censor cX5_censor 15 (some .long) 5 D cI aS [.ref (ad 0), .int x1, .int x2, .int x3, .int x4, .int x5] (wd_X5_censor cI ad writers year taped at_ statements hasImage isKeeping cursor forgottenWhen rowMany refused kind figure style fame silent ring kept) (wd_X5_censor cI ad R.2.1 R.2.2.1 taped at_ statements hasImage R.2.2.2.1 R.2.2.2.2.1 forgottenWhen rowMany R.2.2.2.2.2.1 R.2.2.2.2.2.2.1 R.2.2.2.2.2.2.2.1 R.2.2.2.2.2.2.2.2.1 R.2.2.2.2.2.2.2.2.2.1 R.2.2.2.2.2.2.2.2.2.2.1 R.2.2.2.2.2.2.2.2.2.2.2.1 R.2.2.2.2.2.2.2.2.2.2.2.2) R.1 := by
  refine ctL_of (by decide) rfl (Nat.le_of_ble_eq_true rfl) ?_
  intro p e s m below meth c A Q ls X hret hP hD hl
  have hS : va_S A s.heap s.heap [] := va_S.rf
  have hx := X.1
  have hb := X.2.1
  have hl : lv_has ls 15 [(0, .ref (ad 0)), (1, .int x1), (2, .int x2), (3, .int x3), (4, .int x4), (5, .int x5)] := hl
  replace hf : ((f_X5_isOne writers x1).bind fun (r2 : Int32) => (if r2 = 0 then (f_X5_censor_71 x1 x2 x3 x4 x5  writers year isKeeping cursor refused kind figure style fame silent ring kept (-1 : Int32)) else (if x2 < 0 then (f_X5_censor_26 x1 x2 x3 x4 x5  writers year isKeeping cursor refused kind figure style fame silent ring kept) else (if x4 < 0 then (f_X5_censor_26 x1 x2 x3 x4 x5  writers year isKeeping cursor refused kind figure style fame silent ring kept) else (if (2 : Int32) ≤ x3 then (if (7 : Int32) < x2 then (f_X5_censor_50 x1 x2 x3 x4 x5  writers year isKeeping cursor refused kind figure style fame silent ring kept) else (if (20 : Int32) < x3 then (f_X5_censor_50 x1 x2 x3 x4 x5  writers year isKeeping cursor refused kind figure style fame silent ring kept) else (if x4 ≤ (99 : Int32) then ((f_X5_isIn x5 (0 : Int32) (1 : Int32)).bind fun (r59 : Int32) => (if r59 = 0 then (f_X5_censor_71 x1 x2 x3 x4 x5  writers year isKeeping cursor refused kind figure style fame silent ring kept (-2 : Int32)) else (f_X5_censor_71 x1 x2 x3 x4 x5  writers year isKeeping cursor refused kind figure style fame silent ring kept (0 : Int32)))) else (f_X5_censor_50 x1 x2 x3 x4 x5  writers year isKeeping cursor refused kind figure style fame silent ring kept)))) else (f_X5_censor_26 x1 x2 x3 x4 x5  writers year isKeeping cursor refused kind figure style fame silent ring kept)))))) = some R := hf
  refine lv_aload_n hx hb dX5_censor_0 rfl (lv_at hl 0 rfl) ?_
  refine lv_iload_n hx hb dX5_censor_1 rfl (lv_at hl 1 rfl) ?_
  obtain ⟨r2, hq2, hf⟩ := bS hf
  refine ro_i X hP hD hS [0] rfl (run_V X hP hD hS [0] rfl rfl (c_X5_isOne l D cI aS ad writers year taped at_ statements hasImage isKeeping cursor forgottenWhen rowMany x1 _ hq2 _) lkX5_108 (by decide) (q0 := 0) rfl rfl rfl rfl (Nat.le_of_ble_eq_true rfl) hl.1 dX5_censor_2) (fun H locs hP hS => ?_)
  refine lv_if_ne (tgt := 12) hx hb dX5_censor_5 (by decide) (fun c5 => ?_) (fun c5 => ?_)
  · have hf := iF c5 hf
    refine lv_iload_n hx hb dX5_censor_12 rfl (lv_at hl 2 rfl) ?_
    refine lv_if_lt (tgt := 26) hx hb dX5_censor_13 (by decide) (fun c13 => ?_) (fun c13 => ?_)
    · have hf := iT c13 hf
      exact w_X5_censor_26 ad taped at_ statements hasImage forgottenWhen rowMany x1 x2 x3 x4 x5 X hret  writers year isKeeping cursor refused kind figure style fame silent ring kept _ _ _ hf (lv_sub hl [0, 1, 2, 3, 4, 5] rfl) hP hD hS
    · have hf := iF c13 hf
      refine lv_iload hx hb dX5_censor_16 (lv_at hl 4 rfl) ?_
      refine lv_if_lt (tgt := 26) hx hb dX5_censor_18 (by decide) (fun c18 => ?_) (fun c18 => ?_)
      · have hf := iT c18 hf
        exact w_X5_censor_26 ad taped at_ statements hasImage forgottenWhen rowMany x1 x2 x3 x4 x5 X hret  writers year isKeeping cursor refused kind figure style fame silent ring kept _ _ _ hf (lv_sub hl [0, 1, 2, 3, 4, 5] rfl) hP hD hS
      · have hf := iF c18 hf
        refine lv_iload_n hx hb dX5_censor_21 rfl (lv_at hl 3 rfl) ?_
        refine lv_iconst (v := 2) hx hb dX5_censor_22 (by decide) ?_
        refine lv_icmp_ge (tgt := 31) hx hb dX5_censor_23 (by decide) (fun c23 => ?_) (fun c23 => ?_)
        · have hf := iT c23 hf
          refine lv_iload_n hx hb dX5_censor_31 rfl (lv_at hl 2 rfl) ?_
          refine lv_bipush (v := 7) hx hb dX5_censor_32 (by decide) ?_
          refine lv_icmp_gt (tgt := 50) hx hb dX5_censor_34 (by decide) (fun c34 => ?_) (fun c34 => ?_)
          · have hf := iT c34 hf
            exact w_X5_censor_50 ad taped at_ statements hasImage forgottenWhen rowMany x1 x2 x3 x4 x5 X hret  writers year isKeeping cursor refused kind figure style fame silent ring kept _ _ _ hf (lv_sub hl [0, 1, 2, 3, 4, 5] rfl) hP hD hS
          · have hf := iF c34 hf
            refine lv_iload_n hx hb dX5_censor_37 rfl (lv_at hl 3 rfl) ?_
            refine lv_bipush (v := 20) hx hb dX5_censor_38 (by decide) ?_
            refine lv_icmp_gt (tgt := 50) hx hb dX5_censor_40 (by decide) (fun c40 => ?_) (fun c40 => ?_)
            · have hf := iT c40 hf
              exact w_X5_censor_50 ad taped at_ statements hasImage forgottenWhen rowMany x1 x2 x3 x4 x5 X hret  writers year isKeeping cursor refused kind figure style fame silent ring kept _ _ _ hf (lv_sub hl [0, 1, 2, 3, 4, 5] rfl) hP hD hS
            · have hf := iF c40 hf
              refine lv_iload hx hb dX5_censor_43 (lv_at hl 4 rfl) ?_
              refine lv_bipush (v := 99) hx hb dX5_censor_45 (by decide) ?_
              refine lv_icmp_le (tgt := 55) hx hb dX5_censor_47 (by decide) (fun c47 => ?_) (fun c47 => ?_)
              · have hf := iT c47 hf
                refine lv_iload hx hb dX5_censor_55 (lv_at hl 5 rfl) ?_
                refine lv_iconst (v := 0) hx hb dX5_censor_57 (by decide) ?_
                refine lv_iconst (v := 1) hx hb dX5_censor_58 (by decide) ?_
                obtain ⟨r59, hq59, hf⟩ := bS hf
                refine ro_i X hP hD hS [] rfl (run_S X hP hD hS [] rfl rfl (c_X5_isIn l D cI aS x5 (0 : Int32) (1 : Int32) _ hq59 _) lkX5_80 (by decide) rfl rfl (Nat.le_of_ble_eq_true rfl) hl.1 dX5_censor_59) (fun H locs hP hS => ?_)
                refine lv_if_ne (tgt := 70) hx hb dX5_censor_62 (by decide) (fun c62 => ?_) (fun c62 => ?_)
                · have hf := iF c62 hf
                  refine lv_iconst (v := 0) hx hb dX5_censor_70 (by decide) ?_
                  exact w_X5_censor_71 ad taped at_ statements hasImage forgottenWhen rowMany x1 x2 x3 x4 x5 X hret  writers year isKeeping cursor refused kind figure style fame silent ring kept (0 : Int32) _ _ _ hf (lv_sub hl [0, 1, 2, 3, 4, 5] rfl) hP hD hS
                · have hf := iT c62 hf
                  refine lv_bipush (v := -2) hx hb dX5_censor_65 (by decide) ?_
                  refine lv_goto (tgt := 71) hx hb dX5_censor_67 (by decide) ?_
                  exact w_X5_censor_71 ad taped at_ statements hasImage forgottenWhen rowMany x1 x2 x3 x4 x5 X hret  writers year isKeeping cursor refused kind figure style fame silent ring kept (-2 : Int32) _ _ _ hf (lv_sub hl [0, 1, 2, 3, 4, 5] rfl) hP hD hS
              · have hf := iF c47 hf
                exact w_X5_censor_50 ad taped at_ statements hasImage forgottenWhen rowMany x1 x2 x3 x4 x5 X hret  writers year isKeeping cursor refused kind figure style fame silent ring kept _ _ _ hf (lv_sub hl [0, 1, 2, 3, 4, 5] rfl) hP hD hS
        · have hf := iF c23 hf
          exact w_X5_censor_26 ad taped at_ statements hasImage forgottenWhen rowMany x1 x2 x3 x4 x5 X hret  writers year isKeeping cursor refused kind figure style fame silent ring kept _ _ _ hf (lv_sub hl [0, 1, 2, 3, 4, 5] rfl) hP hD hS
  · have hf := iT c5 hf
    refine lv_iconst (v := -1) hx hb dX5_censor_8 (by decide) ?_
    refine lv_goto (tgt := 71) hx hb dX5_censor_9 (by decide) ?_
    exact w_X5_censor_71 ad taped at_ statements hasImage forgottenWhen rowMany x1 x2 x3 x4 x5 X hret  writers year isKeeping cursor refused kind figure style fame silent ring kept (-1 : Int32) _ _ _ hf (lv_sub hl [0, 1, 2, 3, 4, 5] rfl) hP hD hS

abbrev wd_X5_chain (cI : ClassId) (ad : Nat → Nat) (writers : Int32) (year : Int32) (taped : Int32) (at_ : Int32) (statements : Int32) (hasImage : Int32) (isKeeping : Int32) (cursor : Int32) (forgottenWhen : Int32) (rowMany : Int32) (refused : (Nat → Int32)) (silent : (Nat → Int32)) (ring : (Nat → Int32)) : va_W := [((ad 0), .inr (5, [.ref (ad 1), .ref (ad 2), .ref (ad 3), .ref (ad 4), .ref (ad 5), .ref (ad 6), .ref (ad 7), .int writers, .int year, .ref (ad 8), .ref (ad 9), .ref (ad 10), .ref (ad 11), .int taped, .int at_, .int statements, .ref (ad 12), .int hasImage, .int isKeeping, .int cursor, .int forgottenWhen, .ref (ad 13), .ref (ad 14), .ref (ad 15), .int rowMany])), ((ad 1), .inl (cI, 7, .inl refused)), ((ad 6), .inl (cI, 7, .inl silent)), ((ad 7), .inl (cI, 7, .inl ring))]
def f_X5_chain_28 (writers : Int32) (silent : (Nat → Int32)) (ring : (Nat → Int32)) (kX28_51 : Int32 → Option (Int32 × (Nat → Int32))) : Nat → Int32 → Int32 → Option (Int32 × (Nat → Int32))
  | 0 => fun _ _ => none
  | fuel + 1 => fun v2_28 v3_28 => ((f_X5_has v2_28 v3_28).bind fun (r30 : Int32) => (if r30 = 0 then ((f_X5_enderOf writers silent ring v3_28).bind fun (r44 : Int32) => (f_X5_chain_28 writers silent ring kX28_51 fuel (v2_28 ||| (shlI (1 : Int32) v3_28)) r44)) else (kX28_51 v2_28)))
theorem e_X5_chain_28 (writers : Int32) (silent : (Nat → Int32)) (ring : (Nat → Int32)) (kX28_51 : Int32 → Option (Int32 × (Nat → Int32))) (fuel : Nat) (v2_28 : Int32) (v3_28 : Int32) : f_X5_chain_28 writers silent ring kX28_51 (fuel + 1) v2_28 v3_28 = ((f_X5_has v2_28 v3_28).bind fun (r30 : Int32) => (if r30 = 0 then ((f_X5_enderOf writers silent ring v3_28).bind fun (r44 : Int32) => (f_X5_chain_28 writers silent ring kX28_51 fuel (v2_28 ||| (shlI (1 : Int32) v3_28)) r44)) else (kX28_51 v2_28))) := rfl
def f_X5_chain_51   (v2_51 : Int32) (refused_51 : (Nat → Int32)) : Option (Int32 × (Nat → Int32)) := ((f_X5_bits v2_51).bind fun (r52 : Int32) => (some (r52, refused_51)))
def f_X5_chain (writers : Int32) (refused : (Nat → Int32)) (silent : (Nat → Int32)) (ring : (Nat → Int32)) (x1 : Int32) : Option (Int32 × (Nat → Int32)) := ((f_X5_isOne writers x1).bind fun (r2 : Int32) => (if r2 = 0 then ((f_X5_no refused (-1 : Int32)).bind fun (r10 : Int32 × (Nat → Int32)) => (some (r10.1, r10.2))) else ((f_X5_isEnded writers silent ring x1).bind fun (r16 : Int32) => (if r16 = 0 then (some ((0 : Int32), refused)) else (f_X5_chain_28 writers silent ring (fun (v2_51 : Int32) => (f_X5_chain_51   v2_51 refused)) FU (0 : Int32) x1)))))
set_option maxHeartbeats 4000000 in
set_option maxRecDepth 100000 in
theorem w_X5_chain_28 {p : Program} {l : Launch} {e : Env} {s : State} {m : MethodId} {args : Array Value} {below : List Frame} {meth : Method} {c : Code} {D : va_G} {cI : ClassId} {aS : aSt} {A : Nat → Prop} {Q : State → Prop}  (ad : Nat → Nat) (writers : Int32) (year : Int32) (taped : Int32) (at_ : Int32) (statements : Int32) (hasImage : Int32) (isKeeping : Int32) (cursor : Int32) (forgottenWhen : Int32) (rowMany : Int32) (silent : (Nat → Int32)) (ring : (Nat → Int32)) (x1 : Int32) (refused_u28 : (Nat → Int32)) {R : Int32 × (Nat → Int32)} (X : Bx p s m args meth c cX5_chain 4 (some .int) RX5 D cI aS A) (hret : RtI p l e 3 s m args below meth c cX5_chain (some .int) D A (wd_X5_chain cI ad writers year taped at_ statements hasImage isKeeping cursor forgottenWhen rowMany R.2 silent ring) R.1 Q) (kX28_51 : Int32 → Option (Int32 × (Nat → Int32))) (hkX28_51 : ∀ (v2_51 : Int32) (H : Heap) (locs : List Loc) (ls : Array Slot), kX28_51 v2_51 = some R → lv_has ls 4 [(2, .int v2_51)] → va_P D vwCl (wd_X5_chain cI ad writers year taped at_ statements hasImage isKeeping cursor forgottenWhen rowMany refused_u28 silent ring) H → va_D A (wd_X5_chain cI ad writers year taped at_ statements hasImage isKeeping cursor forgottenWhen rowMany refused_u28 silent ring) → va_S A s.heap H locs → Wh p l e 3 s m args below meth c H locs Q (F0 m 51 ls [])) : ∀ (fuel : Nat) (v2_28 : Int32) (v3_28 : Int32) (H : Heap) (locs : List Loc) (ls : Array Slot), f_X5_chain_28 writers silent ring kX28_51 fuel v2_28 v3_28 = some R → lv_has ls 4 [(0, .ref (ad 0)), (2, .int v2_28), (3, .int v3_28)] → va_P D vwCl (wd_X5_chain cI ad writers year taped at_ statements hasImage isKeeping cursor forgottenWhen rowMany refused_u28 silent ring) H → va_D A (wd_X5_chain cI ad writers year taped at_ statements hasImage isKeeping cursor forgottenWhen rowMany refused_u28 silent ring) → va_S A s.heap H locs → Wh p l e 3 s m args below meth c H locs Q (F0 m 28 ls []) := by
  have hx := X.1
  have hb := X.2.1
  intro fuel
  induction fuel with
  | zero =>
    intro v2_28 v3_28 H locs ls hf hl hP hD hS
    cases hf
  | succ fuel ih =>
    intro v2_28 v3_28 H locs ls hf hl hP hD hS
    replace hf : ((f_X5_has v2_28 v3_28).bind fun (r30 : Int32) => (if r30 = 0 then ((f_X5_enderOf writers silent ring v3_28).bind fun (r44 : Int32) => (f_X5_chain_28 writers silent ring kX28_51 fuel (v2_28 ||| (shlI (1 : Int32) v3_28)) r44)) else (kX28_51 v2_28))) = some R := hf
    refine lv_iload_n hx hb dX5_chain_28 rfl (lv_at hl 1 rfl) ?_
    refine lv_iload_n hx hb dX5_chain_29 rfl (lv_at hl 2 rfl) ?_
    obtain ⟨r30, hq30, hf⟩ := bS hf
    refine ro_i X hP hD hS [] rfl (run_S X hP hD hS [] rfl rfl (c_X5_has l D cI aS v2_28 v3_28 _ hq30 _) lkX5_218 (by decide) rfl rfl (Nat.le_of_ble_eq_true rfl) hl.1 dX5_chain_30) (fun H locs hP hS => ?_)
    refine lv_if_ne (tgt := 51) hx hb dX5_chain_33 (by decide) (fun c33 => ?_) (fun c33 => ?_)
    · have hf := iF c33 hf
      exact hkX28_51 v2_28 _ _ _ hf (lv_sub hl [1] rfl) hP hD hS
    · have hf := iT c33 hf
      refine lv_iload_n hx hb dX5_chain_36 rfl (lv_at hl 1 rfl) ?_
      refine lv_iconst (v := 1) hx hb dX5_chain_37 (by decide) ?_
      refine lv_iload_n hx hb dX5_chain_38 rfl (lv_at hl 2 rfl) ?_
      refine x_ishl hx hb dX5_chain_39 ?_
      refine lv_ior hx hb dX5_chain_40 ?_
      refine lv_istore_n (lv' := [(2, .int (v2_28 ||| (shlI (1 : Int32) v3_28))), (0, .ref (ad 0)), (3, .int v3_28)]) hx hb dX5_chain_41 rfl hl (by decide) rfl (fun ls hl => ?_)
      refine lv_aload_n hx hb dX5_chain_42 rfl (lv_at hl 1 rfl) ?_
      refine lv_iload_n hx hb dX5_chain_43 rfl (lv_at hl 2 rfl) ?_
      obtain ⟨r44, hq44, hf⟩ := bS hf
      refine ro_i X hP hD hS [0, 2, 3] rfl (run_V X hP hD hS [0, 2, 3] rfl rfl (c_X5_enderOf l D cI aS ad writers year taped at_ statements hasImage isKeeping cursor forgottenWhen rowMany silent ring v3_28 _ hq44 _) lkX5_162 (by decide) (q0 := 0) rfl rfl rfl rfl (Nat.le_of_ble_eq_true rfl) hl.1 dX5_chain_44) (fun H locs hP hS => ?_)
      refine lv_istore_n (lv' := [(3, .int r44), (2, .int (v2_28 ||| (shlI (1 : Int32) v3_28))), (0, .ref (ad 0))]) hx hb dX5_chain_47 rfl hl (by decide) rfl (fun ls hl => ?_)
      refine lv_goto (tgt := 28) hx hb dX5_chain_48 (by decide) ?_
      exact ih (v2_28 ||| (shlI (1 : Int32) v3_28)) r44 _ _ _ hf (lv_sub hl [2, 1, 0] rfl) hP hD hS
set_option maxHeartbeats 4000000 in
set_option maxRecDepth 100000 in
theorem w_X5_chain_51 {p : Program} {l : Launch} {e : Env} {s : State} {m : MethodId} {args : Array Value} {below : List Frame} {meth : Method} {c : Code} {D : va_G} {cI : ClassId} {aS : aSt} {A : Nat → Prop} {Q : State → Prop}  (ad : Nat → Nat) (writers : Int32) (year : Int32) (taped : Int32) (at_ : Int32) (statements : Int32) (hasImage : Int32) (isKeeping : Int32) (cursor : Int32) (forgottenWhen : Int32) (rowMany : Int32) (silent : (Nat → Int32)) (ring : (Nat → Int32)) (x1 : Int32) {R : Int32 × (Nat → Int32)} (X : Bx p s m args meth c cX5_chain 4 (some .int) RX5 D cI aS A) (hret : RtI p l e 3 s m args below meth c cX5_chain (some .int) D A (wd_X5_chain cI ad writers year taped at_ statements hasImage isKeeping cursor forgottenWhen rowMany R.2 silent ring) R.1 Q) : ∀ (v2_51 : Int32) (refused_51 : (Nat → Int32)) (H : Heap) (locs : List Loc) (ls : Array Slot), f_X5_chain_51   v2_51 refused_51 = some R → lv_has ls 4 [(2, .int v2_51)] → va_P D vwCl (wd_X5_chain cI ad writers year taped at_ statements hasImage isKeeping cursor forgottenWhen rowMany refused_51 silent ring) H → va_D A (wd_X5_chain cI ad writers year taped at_ statements hasImage isKeeping cursor forgottenWhen rowMany refused_51 silent ring) → va_S A s.heap H locs → Wh p l e 3 s m args below meth c H locs Q (F0 m 51 ls []) := by
  have hx := X.1
  have hb := X.2.1
  intro v2_51 refused_51 H locs ls hf hl hP hD hS
  replace hf : ((f_X5_bits v2_51).bind fun (r52 : Int32) => (some (r52, refused_51))) = some R := hf
  refine lv_iload_n hx hb dX5_chain_51 rfl (lv_at hl 0 rfl) ?_
  obtain ⟨r52, hq52, hf⟩ := bS hf
  refine ro_i X hP hD hS [] rfl (run_S X hP hD hS [] rfl rfl (c_X5_bits l D cI aS v2_51 _ hq52 _) lkX5_236 (by decide) rfl rfl (Nat.le_of_ble_eq_true rfl) hl.1 dX5_chain_52) (fun H locs hP hS => ?_)
  have hR := Option.some.inj hf
  subst hR
  exact hret _ _ _ _ _ rfl (fun _ hn => by cases hn; rfl) hP hD hS dX5_chain_55
set_option maxHeartbeats 4000000 in
set_option maxRecDepth 100000 in
theorem c_X5_chain (l : Launch) (D : va_G) (cI : ClassId) (aS : aSt) (ad : Nat → Nat) (writers : Int32) (year : Int32) (taped : Int32) (at_ : Int32) (statements : Int32) (hasImage : Int32) (isKeeping : Int32) (cursor : Int32) (forgottenWhen : Int32) (rowMany : Int32) (refused : (Nat → Int32)) (silent : (Nat → Int32)) (ring : (Nat → Int32)) (x1 : Int32) (R : Int32 × (Nat → Int32)) (hf : f_X5_chain writers refused silent ring x1 = some R) : CtI l yX5_chain cX5_chain 4 (some .int) 3 D cI aS [.ref (ad 0), .int x1] (wd_X5_chain cI ad writers year taped at_ statements hasImage isKeeping cursor forgottenWhen rowMany refused silent ring) (wd_X5_chain cI ad writers year taped at_ statements hasImage isKeeping cursor forgottenWhen rowMany R.2 silent ring) R.1 := by
  refine ctI_of (by decide) ⟨_, rfl⟩ (Nat.le_of_ble_eq_true rfl) ?_
  intro p e s m below meth c A Q ls X hret hP hD hl
  have hS : va_S A s.heap s.heap [] := va_S.rf
  have hx := X.1
  have hb := X.2.1
  have hl : lv_has ls 4 [(0, .ref (ad 0)), (1, .int x1)] := hl
  replace hf : ((f_X5_isOne writers x1).bind fun (r2 : Int32) => (if r2 = 0 then ((f_X5_no refused (-1 : Int32)).bind fun (r10 : Int32 × (Nat → Int32)) => (some (r10.1, r10.2))) else ((f_X5_isEnded writers silent ring x1).bind fun (r16 : Int32) => (if r16 = 0 then (some ((0 : Int32), refused)) else (f_X5_chain_28 writers silent ring (fun (v2_51 : Int32) => (f_X5_chain_51   v2_51 refused)) FU (0 : Int32) x1))))) = some R := hf
  refine lv_aload_n hx hb dX5_chain_0 rfl (lv_at hl 0 rfl) ?_
  refine lv_iload_n hx hb dX5_chain_1 rfl (lv_at hl 1 rfl) ?_
  obtain ⟨r2, hq2, hf⟩ := bS hf
  refine ro_i X hP hD hS [0] rfl (run_V X hP hD hS [0] rfl rfl (c_X5_isOne l D cI aS ad writers year taped at_ statements hasImage isKeeping cursor forgottenWhen rowMany x1 _ hq2 _) lkX5_108 (by decide) (q0 := 0) rfl rfl rfl rfl (Nat.le_of_ble_eq_true rfl) hl.1 dX5_chain_2) (fun H locs hP hS => ?_)
  refine lv_if_ne (tgt := 14) hx hb dX5_chain_5 (by decide) (fun c5 => ?_) (fun c5 => ?_)
  · have hf := iF c5 hf
    refine lv_aload_n hx hb dX5_chain_14 rfl (lv_at hl 0 rfl) ?_
    refine lv_iload_n hx hb dX5_chain_15 rfl (lv_at hl 1 rfl) ?_
    obtain ⟨r16, hq16, hf⟩ := bS hf
    refine ro_i X hP hD hS [0, 2, 3] rfl (run_V X hP hD hS [0, 2, 3] rfl rfl (c_X5_isEnded l D cI aS ad writers year taped at_ statements hasImage isKeeping cursor forgottenWhen rowMany silent ring x1 _ hq16 _) lkX5_177 (by decide) (q0 := 0) rfl rfl rfl rfl (Nat.le_of_ble_eq_true rfl) hl.1 dX5_chain_16) (fun H locs hP hS => ?_)
    refine lv_if_ne (tgt := 24) hx hb dX5_chain_19 (by decide) (fun c19 => ?_) (fun c19 => ?_)
    · have hf := iF c19 hf
      refine lv_iconst (v := 0) hx hb dX5_chain_24 (by decide) ?_
      refine lv_istore_n (lv' := [(2, .int (0 : Int32)), (0, .ref (ad 0)), (1, .int x1)]) hx hb dX5_chain_25 rfl hl (by decide) rfl (fun ls hl => ?_)
      refine lv_iload_n hx hb dX5_chain_26 rfl (lv_at hl 2 rfl) ?_
      refine lv_istore_n (lv' := [(3, .int x1), (2, .int (0 : Int32)), (0, .ref (ad 0)), (1, .int x1)]) hx hb dX5_chain_27 rfl hl (by decide) rfl (fun ls hl => ?_)
      exact w_X5_chain_28 ad writers year taped at_ statements hasImage isKeeping cursor forgottenWhen rowMany silent ring x1 refused X hret _ (fun v2_51 _ _ _ hf hl hP hD hS => w_X5_chain_51 ad writers year taped at_ statements hasImage isKeeping cursor forgottenWhen rowMany silent ring x1 X hret  v2_51 refused _ _ _ hf (lv_sub hl [0] rfl) hP hD hS) _ (0 : Int32) x1 _ _ _ hf (lv_sub hl [2, 1, 0] rfl) hP hD hS
    · have hf := iT c19 hf
      refine lv_iconst (v := 0) hx hb dX5_chain_22 (by decide) ?_
      have hR := Option.some.inj hf
      subst hR
      exact hret _ _ _ _ _ rfl (fun _ hn => by cases hn; rfl) hP hD hS dX5_chain_23
  · have hf := iT c5 hf
    refine lv_aload_n hx hb dX5_chain_8 rfl (lv_at hl 0 rfl) ?_
    refine lv_iconst (v := -1) hx hb dX5_chain_9 (by decide) ?_
    obtain ⟨r10, hq10, hf⟩ := bS hf
    refine wr_i X hP hD hS [0, 1] rfl (ws' := (wd_X5_chain cI ad writers year taped at_ statements hasImage isKeeping cursor forgottenWhen rowMany r10.2 silent ring)) (Nat.le_of_ble_eq_true rfl) rfl rfl (run_V X hP hD hS [0, 1] rfl rfl (c_X5_no l D cI aS ad writers year taped at_ statements hasImage isKeeping cursor forgottenWhen rowMany refused (-1 : Int32) _ hq10 _) lkX5_69 (by decide) (q0 := 0) rfl rfl rfl rfl (Nat.le_of_ble_eq_true rfl) hl.1 dX5_chain_10) (fun H locs hP hD hS => ?_)
    have hR := Option.some.inj hf
    subst hR
    exact hret _ _ _ _ _ rfl (fun _ hn => by cases hn; rfl) hP hD hS dX5_chain_13

abbrev wd_X5_changes (cI : ClassId) (ad : Nat → Nat) (writers : Int32) (year : Int32) (taped : Int32) (at_ : Int32) (statements : Int32) (hasImage : Int32) (isKeeping : Int32) (cursor : Int32) (forgottenWhen : Int32) (rowMany : Int32) (refused : (Nat → Int32)) (ring : (Nat → Int32)) : va_W := [((ad 0), .inr (5, [.ref (ad 1), .ref (ad 2), .ref (ad 3), .ref (ad 4), .ref (ad 5), .ref (ad 6), .ref (ad 7), .int writers, .int year, .ref (ad 8), .ref (ad 9), .ref (ad 10), .ref (ad 11), .int taped, .int at_, .int statements, .ref (ad 12), .int hasImage, .int isKeeping, .int cursor, .int forgottenWhen, .ref (ad 13), .ref (ad 14), .ref (ad 15), .int rowMany])), ((ad 1), .inl (cI, 7, .inl refused)), ((ad 7), .inl (cI, 7, .inl ring))]
def f_X5_changes (writers : Int32) (refused : (Nat → Int32)) (ring : (Nat → Int32)) (x1 : Int32) (x2 : Int32) : Option (Int32 × (Nat → Int32) × (Nat → Int32)) := ((f_X5_areTwo writers x1 x2).bind fun (r3 : Int32) => (if r3 = 0 then ((f_X5_no refused (-1 : Int32)).bind fun (r11 : Int32 × (Nat → Int32)) => (some (r11.1, r11.2, ring))) else ((f_X5_swaps ring x1 x2).bind fun (r18 : (Nat → Int32)) => ((f_X5_placeOf r18 x1).bind fun (r23 : Int32) => (some (r23, refused, r18))))))
set_option maxHeartbeats 4000000 in
set_option maxRecDepth 100000 in
theorem c_X5_changes (l : Launch) (D : va_G) (cI : ClassId) (aS : aSt) (ad : Nat → Nat) (writers : Int32) (year : Int32) (taped : Int32) (at_ : Int32) (statements : Int32) (hasImage : Int32) (isKeeping : Int32) (cursor : Int32) (forgottenWhen : Int32) (rowMany : Int32) (refused : (Nat → Int32)) (ring : (Nat → Int32)) (x1 : Int32) (x2 : Int32) (R : Int32 × (Nat → Int32) × (Nat → Int32)) (hf : f_X5_changes writers refused ring x1 x2 = some R) : CtI l yX5_changes cX5_changes 3 (some .int) 2 D cI aS [.ref (ad 0), .int x1, .int x2] (wd_X5_changes cI ad writers year taped at_ statements hasImage isKeeping cursor forgottenWhen rowMany refused ring) (wd_X5_changes cI ad writers year taped at_ statements hasImage isKeeping cursor forgottenWhen rowMany R.2.1 R.2.2) R.1 := by
  refine ctI_of (by decide) ⟨_, rfl⟩ (Nat.le_of_ble_eq_true rfl) ?_
  intro p e s m below meth c A Q ls X hret hP hD hl
  have hS : va_S A s.heap s.heap [] := va_S.rf
  have hx := X.1
  have hb := X.2.1
  have hl : lv_has ls 3 [(0, .ref (ad 0)), (1, .int x1), (2, .int x2)] := hl
  replace hf : ((f_X5_areTwo writers x1 x2).bind fun (r3 : Int32) => (if r3 = 0 then ((f_X5_no refused (-1 : Int32)).bind fun (r11 : Int32 × (Nat → Int32)) => (some (r11.1, r11.2, ring))) else ((f_X5_swaps ring x1 x2).bind fun (r18 : (Nat → Int32)) => ((f_X5_placeOf r18 x1).bind fun (r23 : Int32) => (some (r23, refused, r18)))))) = some R := hf
  refine lv_aload_n hx hb dX5_changes_0 rfl (lv_at hl 0 rfl) ?_
  refine lv_iload_n hx hb dX5_changes_1 rfl (lv_at hl 1 rfl) ?_
  refine lv_iload_n hx hb dX5_changes_2 rfl (lv_at hl 2 rfl) ?_
  obtain ⟨r3, hq3, hf⟩ := bS hf
  refine ro_i X hP hD hS [0] rfl (run_V X hP hD hS [0] rfl rfl (c_X5_areTwo l D cI aS ad writers year taped at_ statements hasImage isKeeping cursor forgottenWhen rowMany x1 x2 _ hq3 _) lkX5_114 (by decide) (q0 := 0) rfl rfl rfl rfl (Nat.le_of_ble_eq_true rfl) hl.1 dX5_changes_3) (fun H locs hP hS => ?_)
  refine lv_if_ne (tgt := 15) hx hb dX5_changes_6 (by decide) (fun c6 => ?_) (fun c6 => ?_)
  · have hf := iF c6 hf
    refine lv_aload_n hx hb dX5_changes_15 rfl (lv_at hl 0 rfl) ?_
    refine lv_iload_n hx hb dX5_changes_16 rfl (lv_at hl 1 rfl) ?_
    refine lv_iload_n hx hb dX5_changes_17 rfl (lv_at hl 2 rfl) ?_
    obtain ⟨r18, hq18, hf⟩ := bS hf
    refine wr_v X hP hD hS [0, 2] rfl (ws' := (wd_X5_changes cI ad writers year taped at_ statements hasImage isKeeping cursor forgottenWhen rowMany refused r18)) (Nat.le_of_ble_eq_true rfl) rfl rfl (run_V X hP hD hS [0, 2] rfl rfl (c_X5_swaps l D cI aS ad writers year taped at_ statements hasImage isKeeping cursor forgottenWhen rowMany ring x1 x2 _ hq18 _) lkX5_117 (by decide) (q0 := 0) rfl rfl rfl rfl (Nat.le_of_ble_eq_true rfl) hl.1 dX5_changes_18) (fun H locs hP hD hS => ?_)
    refine lv_aload_n hx hb dX5_changes_21 rfl (lv_at hl 0 rfl) ?_
    refine lv_iload_n hx hb dX5_changes_22 rfl (lv_at hl 1 rfl) ?_
    obtain ⟨r23, hq23, hf⟩ := bS hf
    refine ro_i X hP hD hS [0, 2] rfl (run_V X hP hD hS [0, 2] rfl rfl (c_X5_placeOf l D cI aS ad writers year taped at_ statements hasImage isKeeping cursor forgottenWhen rowMany r18 x1 _ hq23 _) lkX5_159 (by decide) (q0 := 0) rfl rfl rfl rfl (Nat.le_of_ble_eq_true rfl) hl.1 dX5_changes_23) (fun H locs hP hS => ?_)
    have hR := Option.some.inj hf
    subst hR
    exact hret _ _ _ _ _ rfl (fun _ hn => by cases hn; rfl) hP hD hS dX5_changes_26
  · have hf := iT c6 hf
    refine lv_aload_n hx hb dX5_changes_9 rfl (lv_at hl 0 rfl) ?_
    refine lv_iconst (v := -1) hx hb dX5_changes_10 (by decide) ?_
    obtain ⟨r11, hq11, hf⟩ := bS hf
    refine wr_i X hP hD hS [0, 1] rfl (ws' := (wd_X5_changes cI ad writers year taped at_ statements hasImage isKeeping cursor forgottenWhen rowMany r11.2 ring)) (Nat.le_of_ble_eq_true rfl) rfl rfl (run_V X hP hD hS [0, 1] rfl rfl (c_X5_no l D cI aS ad writers year taped at_ statements hasImage isKeeping cursor forgottenWhen rowMany refused (-1 : Int32) _ hq11 _) lkX5_69 (by decide) (q0 := 0) rfl rfl rfl rfl (Nat.le_of_ble_eq_true rfl) hl.1 dX5_changes_11) (fun H locs hP hD hS => ?_)
    have hR := Option.some.inj hf
    subst hR
    exact hret _ _ _ _ _ rfl (fun _ hn => by cases hn; rfl) hP hD hS dX5_changes_14

abbrev wd_X5_clear (cI : ClassId) (ad : Nat → Nat) (writers : Int32) (year : Int32) (taped : Int32) (at_ : Int32) (statements : Int32) (hasImage : Int32) (isKeeping : Int32) (cursor : Int32) (forgottenWhen : Int32) (rowMany : Int32) : va_W := [((ad 0), .inr (5, [.ref (ad 1), .ref (ad 2), .ref (ad 3), .ref (ad 4), .ref (ad 5), .ref (ad 6), .ref (ad 7), .int writers, .int year, .ref (ad 8), .ref (ad 9), .ref (ad 10), .ref (ad 11), .int taped, .int at_, .int statements, .ref (ad 12), .int hasImage, .int isKeeping, .int cursor, .int forgottenWhen, .ref (ad 13), .ref (ad 14), .ref (ad 15), .int rowMany]))]
def f_X5_clear (rowMany : Int32) : Option (Int32 × Int32) := (some (rowMany, (0 : Int32)))
set_option maxHeartbeats 4000000 in
set_option maxRecDepth 100000 in
theorem c_X5_clear (l : Launch) (D : va_G) (cI : ClassId) (aS : aSt) (ad : Nat → Nat) (writers : Int32) (year : Int32) (taped : Int32) (at_ : Int32) (statements : Int32) (hasImage : Int32) (isKeeping : Int32) (cursor : Int32) (forgottenWhen : Int32) (rowMany : Int32) (R : Int32 × Int32) (hf : f_X5_clear rowMany = some R) : CtI l yX5_clear cX5_clear 2 (some .int) 0 D cI aS [.ref (ad 0)] (wd_X5_clear cI ad writers year taped at_ statements hasImage isKeeping cursor forgottenWhen rowMany) (wd_X5_clear cI ad writers year taped at_ statements hasImage isKeeping cursor forgottenWhen R.2) R.1 := by
  refine ctI_of (by decide) ⟨_, rfl⟩ (Nat.le_of_ble_eq_true rfl) ?_
  intro p e s m below meth c A Q ls X hret hP hD hl
  have hS : va_S A s.heap s.heap [] := va_S.rf
  have hx := X.1
  have hb := X.2.1
  have hl : lv_has ls 2 [(0, .ref (ad 0))] := hl
  replace hf : (some (rowMany, (0 : Int32))) = some R := hf
  refine lv_aload_n hx hb dX5_clear_0 rfl (lv_at hl 0 rfl) ?_
  refine fgX5_257 X hP (q0 := 0) rfl rfl dX5_clear_1 ?_
  refine lv_istore_n (lv' := [(1, .int rowMany), (0, .ref (ad 0))]) hx hb dX5_clear_4 rfl hl (by decide) rfl (fun ls hl => ?_)
  refine lv_aload_n hx hb dX5_clear_5 rfl (lv_at hl 1 rfl) ?_
  refine lv_iconst (v := 0) hx hb dX5_clear_6 (by decide) ?_
  refine fpX5_257 X hP hD hS (q0 := 0) (ws' := (wd_X5_clear cI ad writers year taped at_ statements hasImage isKeeping cursor forgottenWhen (0 : Int32))) rfl rfl rfl (Nat.le_of_ble_eq_true rfl) rfl dX5_clear_7 (fun H locs hP hD hS => ?_)
  refine lv_iload_n hx hb dX5_clear_10 rfl (lv_at hl 0 rfl) ?_
  have hR := Option.some.inj hf
  subst hR
  exact hret _ _ _ _ _ rfl (fun _ hn => by cases hn; rfl) hP hD hS dX5_clear_11

abbrev wd_X5_well (cI : ClassId) (ad : Nat → Nat) (writers : Int32) (year : Int32) (taped : Int32) (at_ : Int32) (statements : Int32) (hasImage : Int32) (isKeeping : Int32) (cursor : Int32) (forgottenWhen : Int32) (rowMany : Int32) (kind : (Nat → Int32)) (figure : (Nat → Int32)) (style : (Nat → Int32)) (silent : (Nat → Int32)) (ring : (Nat → Int32)) : va_W := [((ad 0), .inr (5, [.ref (ad 1), .ref (ad 2), .ref (ad 3), .ref (ad 4), .ref (ad 5), .ref (ad 6), .ref (ad 7), .int writers, .int year, .ref (ad 8), .ref (ad 9), .ref (ad 10), .ref (ad 11), .int taped, .int at_, .int statements, .ref (ad 12), .int hasImage, .int isKeeping, .int cursor, .int forgottenWhen, .ref (ad 13), .ref (ad 14), .ref (ad 15), .int rowMany])), ((ad 2), .inl (cI, 7, .inl kind)), ((ad 3), .inl (cI, 7, .inl figure)), ((ad 4), .inl (cI, 7, .inl style)), ((ad 6), .inl (cI, 7, .inl silent)), ((ad 7), .inl (cI, 7, .inl ring))]
def f_X5_well_37  (kL4 : Int32 → Int32 → Option (Int32)) (v2_37 : Int32) (t0_37 : Int32) (t1_37 : Int32) : Option (Int32) := (kL4 (t0_37 ||| t1_37) (v2_37 + (1 : Int32)))
def f_X5_well_36  (kL4 : Int32 → Int32 → Option (Int32)) (v2_36 : Int32) (t0_36 : Int32) : Option (Int32) := (f_X5_well_37  kL4 v2_36 t0_36 (0 : Int32))
def f_X5_well_4 (writers : Int32) (year : Int32) (kind : (Nat → Int32)) (figure : (Nat → Int32)) (style : (Nat → Int32)) (silent : (Nat → Int32)) (ring : (Nat → Int32))  : Nat → Int32 → Int32 → Option (Int32)
  | 0 => fun _ _ => none
  | fuel + 1 => fun v1_4 v2_4 => (if writers ≤ v2_4 then (some v1_4) else ((f_X5_isEnded writers silent ring v2_4).bind fun (r15 : Int32) => (if r15 = 0 then (f_X5_well_36  (f_X5_well_4 writers year kind figure style silent ring  fuel) v2_4 v1_4) else ((f_X5_bookWorth writers year kind figure style silent ring v2_4).bind fun (r23 : Int32) => (if r23 < (5 : Int32) then (f_X5_well_36  (f_X5_well_4 writers year kind figure style silent ring  fuel) v2_4 v1_4) else (f_X5_well_37  (f_X5_well_4 writers year kind figure style silent ring  fuel) v2_4 v1_4 (shlI (1 : Int32) v2_4)))))))
theorem e_X5_well_4 (writers : Int32) (year : Int32) (kind : (Nat → Int32)) (figure : (Nat → Int32)) (style : (Nat → Int32)) (silent : (Nat → Int32)) (ring : (Nat → Int32))  (fuel : Nat) (v1_4 : Int32) (v2_4 : Int32) : f_X5_well_4 writers year kind figure style silent ring  (fuel + 1) v1_4 v2_4 = (if writers ≤ v2_4 then (some v1_4) else ((f_X5_isEnded writers silent ring v2_4).bind fun (r15 : Int32) => (if r15 = 0 then (f_X5_well_36  (f_X5_well_4 writers year kind figure style silent ring  fuel) v2_4 v1_4) else ((f_X5_bookWorth writers year kind figure style silent ring v2_4).bind fun (r23 : Int32) => (if r23 < (5 : Int32) then (f_X5_well_36  (f_X5_well_4 writers year kind figure style silent ring  fuel) v2_4 v1_4) else (f_X5_well_37  (f_X5_well_4 writers year kind figure style silent ring  fuel) v2_4 v1_4 (shlI (1 : Int32) v2_4))))))) := rfl
def f_X5_well (writers : Int32) (year : Int32) (kind : (Nat → Int32)) (figure : (Nat → Int32)) (style : (Nat → Int32)) (silent : (Nat → Int32)) (ring : (Nat → Int32)) : Option (Int32) := (f_X5_well_4 writers year kind figure style silent ring  FU (0 : Int32) (0 : Int32))
set_option maxHeartbeats 4000000 in
set_option maxRecDepth 100000 in
theorem w_X5_well_37 {p : Program} {l : Launch} {e : Env} {s : State} {m : MethodId} {args : Array Value} {below : List Frame} {meth : Method} {c : Code} {D : va_G} {cI : ClassId} {aS : aSt} {A : Nat → Prop} {Q : State → Prop}  (ad : Nat → Nat) (writers : Int32) (year : Int32) (taped : Int32) (at_ : Int32) (statements : Int32) (hasImage : Int32) (isKeeping : Int32) (cursor : Int32) (forgottenWhen : Int32) (rowMany : Int32) (kind : (Nat → Int32)) (figure : (Nat → Int32)) (style : (Nat → Int32)) (silent : (Nat → Int32)) (ring : (Nat → Int32)) {R : Int32} (X : Bx p s m args meth c cX5_well 3 (some .int) RX5 D cI aS A) (hret : RtI p l e 4 s m args below meth c cX5_well (some .int) D A (wd_X5_well cI ad writers year taped at_ statements hasImage isKeeping cursor forgottenWhen rowMany kind figure style silent ring) R Q) (kL4 : Int32 → Int32 → Option (Int32)) (hkL4 : ∀ (v1_4 : Int32) (v2_4 : Int32) (H : Heap) (locs : List Loc) (ls : Array Slot), kL4 v1_4 v2_4 = some R → lv_has ls 3 [(0, .ref (ad 0)), (1, .int v1_4), (2, .int v2_4)] → va_P D vwCl (wd_X5_well cI ad writers year taped at_ statements hasImage isKeeping cursor forgottenWhen rowMany kind figure style silent ring) H → va_D A (wd_X5_well cI ad writers year taped at_ statements hasImage isKeeping cursor forgottenWhen rowMany kind figure style silent ring) → va_S A s.heap H locs → Wh p l e 4 s m args below meth c H locs Q (F0 m 4 ls [])) : ∀ (v2_37 : Int32) (t0_37 : Int32) (t1_37 : Int32) (H : Heap) (locs : List Loc) (ls : Array Slot), f_X5_well_37  kL4 v2_37 t0_37 t1_37 = some R → lv_has ls 3 [(0, .ref (ad 0)), (2, .int v2_37)] → va_P D vwCl (wd_X5_well cI ad writers year taped at_ statements hasImage isKeeping cursor forgottenWhen rowMany kind figure style silent ring) H → va_D A (wd_X5_well cI ad writers year taped at_ statements hasImage isKeeping cursor forgottenWhen rowMany kind figure style silent ring) → va_S A s.heap H locs → Wh p l e 4 s m args below meth c H locs Q (F0 m 37 ls [.int t1_37, .int t0_37]) := by
  have hx := X.1
  have hb := X.2.1
  intro v2_37 t0_37 t1_37 H locs ls hf hl hP hD hS
  replace hf : (kL4 (t0_37 ||| t1_37) (v2_37 + (1 : Int32))) = some R := hf
  refine lv_ior hx hb dX5_well_37 ?_
  refine lv_istore_n (lv' := [(1, .int (t0_37 ||| t1_37)), (0, .ref (ad 0)), (2, .int v2_37)]) hx hb dX5_well_38 rfl hl (by decide) rfl (fun ls hl => ?_)
  refine lv_iinc (v := (v2_37 + (1 : Int32))) (lv' := [(2, .int (v2_37 + (1 : Int32))), (1, .int (t0_37 ||| t1_37)), (0, .ref (ad 0))]) hx hb dX5_well_39 hl (k := 2) rfl rfl (by decide) rfl (fun ls hl => ?_)
  refine lv_goto (tgt := 4) hx hb dX5_well_42 (by decide) ?_
  exact hkL4 (t0_37 ||| t1_37) (v2_37 + (1 : Int32)) _ _ _ hf (lv_sub hl [2, 1, 0] rfl) hP hD hS
set_option maxHeartbeats 4000000 in
set_option maxRecDepth 100000 in
theorem w_X5_well_36 {p : Program} {l : Launch} {e : Env} {s : State} {m : MethodId} {args : Array Value} {below : List Frame} {meth : Method} {c : Code} {D : va_G} {cI : ClassId} {aS : aSt} {A : Nat → Prop} {Q : State → Prop}  (ad : Nat → Nat) (writers : Int32) (year : Int32) (taped : Int32) (at_ : Int32) (statements : Int32) (hasImage : Int32) (isKeeping : Int32) (cursor : Int32) (forgottenWhen : Int32) (rowMany : Int32) (kind : (Nat → Int32)) (figure : (Nat → Int32)) (style : (Nat → Int32)) (silent : (Nat → Int32)) (ring : (Nat → Int32)) {R : Int32} (X : Bx p s m args meth c cX5_well 3 (some .int) RX5 D cI aS A) (hret : RtI p l e 4 s m args below meth c cX5_well (some .int) D A (wd_X5_well cI ad writers year taped at_ statements hasImage isKeeping cursor forgottenWhen rowMany kind figure style silent ring) R Q) (kL4 : Int32 → Int32 → Option (Int32)) (hkL4 : ∀ (v1_4 : Int32) (v2_4 : Int32) (H : Heap) (locs : List Loc) (ls : Array Slot), kL4 v1_4 v2_4 = some R → lv_has ls 3 [(0, .ref (ad 0)), (1, .int v1_4), (2, .int v2_4)] → va_P D vwCl (wd_X5_well cI ad writers year taped at_ statements hasImage isKeeping cursor forgottenWhen rowMany kind figure style silent ring) H → va_D A (wd_X5_well cI ad writers year taped at_ statements hasImage isKeeping cursor forgottenWhen rowMany kind figure style silent ring) → va_S A s.heap H locs → Wh p l e 4 s m args below meth c H locs Q (F0 m 4 ls [])) : ∀ (v2_36 : Int32) (t0_36 : Int32) (H : Heap) (locs : List Loc) (ls : Array Slot), f_X5_well_36  kL4 v2_36 t0_36 = some R → lv_has ls 3 [(0, .ref (ad 0)), (2, .int v2_36)] → va_P D vwCl (wd_X5_well cI ad writers year taped at_ statements hasImage isKeeping cursor forgottenWhen rowMany kind figure style silent ring) H → va_D A (wd_X5_well cI ad writers year taped at_ statements hasImage isKeeping cursor forgottenWhen rowMany kind figure style silent ring) → va_S A s.heap H locs → Wh p l e 4 s m args below meth c H locs Q (F0 m 36 ls [.int t0_36]) := by
  have hx := X.1
  have hb := X.2.1
  intro v2_36 t0_36 H locs ls hf hl hP hD hS
  replace hf : (f_X5_well_37  kL4 v2_36 t0_36 (0 : Int32)) = some R := hf
  refine lv_iconst (v := 0) hx hb dX5_well_36 (by decide) ?_
  exact w_X5_well_37 ad writers year taped at_ statements hasImage isKeeping cursor forgottenWhen rowMany kind figure style silent ring X hret _ hkL4 v2_36 t0_36 (0 : Int32) _ _ _ hf (lv_sub hl [0, 1] rfl) hP hD hS
set_option maxHeartbeats 4000000 in
set_option maxRecDepth 100000 in
theorem w_X5_well_4 {p : Program} {l : Launch} {e : Env} {s : State} {m : MethodId} {args : Array Value} {below : List Frame} {meth : Method} {c : Code} {D : va_G} {cI : ClassId} {aS : aSt} {A : Nat → Prop} {Q : State → Prop}  (ad : Nat → Nat) (writers : Int32) (year : Int32) (taped : Int32) (at_ : Int32) (statements : Int32) (hasImage : Int32) (isKeeping : Int32) (cursor : Int32) (forgottenWhen : Int32) (rowMany : Int32) (kind : (Nat → Int32)) (figure : (Nat → Int32)) (style : (Nat → Int32)) (silent : (Nat → Int32)) (ring : (Nat → Int32)) {R : Int32} (X : Bx p s m args meth c cX5_well 3 (some .int) RX5 D cI aS A) (hret : RtI p l e 4 s m args below meth c cX5_well (some .int) D A (wd_X5_well cI ad writers year taped at_ statements hasImage isKeeping cursor forgottenWhen rowMany kind figure style silent ring) R Q) : ∀ (fuel : Nat) (v1_4 : Int32) (v2_4 : Int32) (H : Heap) (locs : List Loc) (ls : Array Slot), f_X5_well_4 writers year kind figure style silent ring  fuel v1_4 v2_4 = some R → lv_has ls 3 [(0, .ref (ad 0)), (1, .int v1_4), (2, .int v2_4)] → va_P D vwCl (wd_X5_well cI ad writers year taped at_ statements hasImage isKeeping cursor forgottenWhen rowMany kind figure style silent ring) H → va_D A (wd_X5_well cI ad writers year taped at_ statements hasImage isKeeping cursor forgottenWhen rowMany kind figure style silent ring) → va_S A s.heap H locs → Wh p l e 4 s m args below meth c H locs Q (F0 m 4 ls []) := by
  have hx := X.1
  have hb := X.2.1
  intro fuel
  induction fuel with
  | zero =>
    intro v1_4 v2_4 H locs ls hf hl hP hD hS
    cases hf
  | succ fuel ih =>
    intro v1_4 v2_4 H locs ls hf hl hP hD hS
    replace hf : (if writers ≤ v2_4 then (some v1_4) else ((f_X5_isEnded writers silent ring v2_4).bind fun (r15 : Int32) => (if r15 = 0 then (f_X5_well_36  (f_X5_well_4 writers year kind figure style silent ring  fuel) v2_4 v1_4) else ((f_X5_bookWorth writers year kind figure style silent ring v2_4).bind fun (r23 : Int32) => (if r23 < (5 : Int32) then (f_X5_well_36  (f_X5_well_4 writers year kind figure style silent ring  fuel) v2_4 v1_4) else (f_X5_well_37  (f_X5_well_4 writers year kind figure style silent ring  fuel) v2_4 v1_4 (shlI (1 : Int32) v2_4))))))) = some R := hf
    refine lv_iload_n hx hb dX5_well_4 rfl (lv_at hl 2 rfl) ?_
    refine lv_aload_n hx hb dX5_well_5 rfl (lv_at hl 0 rfl) ?_
    refine fgX5_55 X hP (q0 := 0) rfl rfl dX5_well_6 ?_
    refine lv_icmp_ge (tgt := 45) hx hb dX5_well_9 (by decide) (fun c9 => ?_) (fun c9 => ?_)
    · have hf := iT c9 hf
      refine lv_iload_n hx hb dX5_well_45 rfl (lv_at hl 1 rfl) ?_
      have hR := Option.some.inj hf
      subst hR
      exact hret _ _ _ _ _ rfl (fun _ hn => by cases hn; rfl) hP hD hS dX5_well_46
    · have hf := iF c9 hf
      refine lv_iload_n hx hb dX5_well_12 rfl (lv_at hl 1 rfl) ?_
      refine lv_aload_n hx hb dX5_well_13 rfl (lv_at hl 0 rfl) ?_
      refine lv_iload_n hx hb dX5_well_14 rfl (lv_at hl 2 rfl) ?_
      obtain ⟨r15, hq15, hf⟩ := bS hf
      refine ro_i X hP hD hS [0, 4, 5] rfl (run_V X hP hD hS [0, 4, 5] rfl rfl (c_X5_isEnded l D cI aS ad writers year taped at_ statements hasImage isKeeping cursor forgottenWhen rowMany silent ring v2_4 _ hq15 _) lkX5_177 (by decide) (q0 := 0) rfl rfl rfl rfl (Nat.le_of_ble_eq_true rfl) hl.1 dX5_well_15) (fun H locs hP hS => ?_)
      refine lv_if_eq (tgt := 36) hx hb dX5_well_18 (by decide) (fun c18 => ?_) (fun c18 => ?_)
      · have hf := iT c18 hf
        exact w_X5_well_36 ad writers year taped at_ statements hasImage isKeeping cursor forgottenWhen rowMany kind figure style silent ring X hret _ ih v2_4 v1_4 _ _ _ hf (lv_sub hl [0, 2] rfl) hP hD hS
      · have hf := iF c18 hf
        refine lv_aload_n hx hb dX5_well_21 rfl (lv_at hl 0 rfl) ?_
        refine lv_iload_n hx hb dX5_well_22 rfl (lv_at hl 2 rfl) ?_
        obtain ⟨r23, hq23, hf⟩ := bS hf
        refine ro_i X hP hD hS [0, 1, 2, 3, 4, 5] rfl (run_V X hP hD hS [0, 1, 2, 3, 4, 5] rfl rfl (c_X5_bookWorth l D cI aS ad writers year taped at_ statements hasImage isKeeping cursor forgottenWhen rowMany kind figure style silent ring v2_4 _ hq23 _) lkX5_180 (by decide) (q0 := 0) rfl rfl rfl rfl (Nat.le_of_ble_eq_true rfl) hl.1 dX5_well_23) (fun H locs hP hS => ?_)
        refine lv_iconst (v := 5) hx hb dX5_well_26 (by decide) ?_
        refine lv_icmp_lt (tgt := 36) hx hb dX5_well_27 (by decide) (fun c27 => ?_) (fun c27 => ?_)
        · have hf := iT c27 hf
          exact w_X5_well_36 ad writers year taped at_ statements hasImage isKeeping cursor forgottenWhen rowMany kind figure style silent ring X hret _ ih v2_4 v1_4 _ _ _ hf (lv_sub hl [0, 2] rfl) hP hD hS
        · have hf := iF c27 hf
          refine lv_iconst (v := 1) hx hb dX5_well_30 (by decide) ?_
          refine lv_iload_n hx hb dX5_well_31 rfl (lv_at hl 2 rfl) ?_
          refine x_ishl hx hb dX5_well_32 ?_
          refine lv_goto (tgt := 37) hx hb dX5_well_33 (by decide) ?_
          exact w_X5_well_37 ad writers year taped at_ statements hasImage isKeeping cursor forgottenWhen rowMany kind figure style silent ring X hret _ ih v2_4 v1_4 (shlI (1 : Int32) v2_4) _ _ _ hf (lv_sub hl [0, 2] rfl) hP hD hS
set_option maxHeartbeats 4000000 in
set_option maxRecDepth 100000 in
theorem c_X5_well (l : Launch) (D : va_G) (cI : ClassId) (aS : aSt) (ad : Nat → Nat) (writers : Int32) (year : Int32) (taped : Int32) (at_ : Int32) (statements : Int32) (hasImage : Int32) (isKeeping : Int32) (cursor : Int32) (forgottenWhen : Int32) (rowMany : Int32) (kind : (Nat → Int32)) (figure : (Nat → Int32)) (style : (Nat → Int32)) (silent : (Nat → Int32)) (ring : (Nat → Int32)) (R : Int32) (hf : f_X5_well writers year kind figure style silent ring = some R) : CtI l yX5_well cX5_well 3 (some .int) 4 D cI aS [.ref (ad 0)] (wd_X5_well cI ad writers year taped at_ statements hasImage isKeeping cursor forgottenWhen rowMany kind figure style silent ring) (wd_X5_well cI ad writers year taped at_ statements hasImage isKeeping cursor forgottenWhen rowMany kind figure style silent ring) R := by
  refine ctI_of (by decide) ⟨_, rfl⟩ (Nat.le_of_ble_eq_true rfl) ?_
  intro p e s m below meth c A Q ls X hret hP hD hl
  have hS : va_S A s.heap s.heap [] := va_S.rf
  have hx := X.1
  have hb := X.2.1
  have hl : lv_has ls 3 [(0, .ref (ad 0))] := hl
  replace hf : (f_X5_well_4 writers year kind figure style silent ring  FU (0 : Int32) (0 : Int32)) = some R := hf
  refine lv_iconst (v := 0) hx hb dX5_well_0 (by decide) ?_
  refine lv_istore_n (lv' := [(1, .int (0 : Int32)), (0, .ref (ad 0))]) hx hb dX5_well_1 rfl hl (by decide) rfl (fun ls hl => ?_)
  refine lv_iconst (v := 0) hx hb dX5_well_2 (by decide) ?_
  refine lv_istore_n (lv' := [(2, .int (0 : Int32)), (1, .int (0 : Int32)), (0, .ref (ad 0))]) hx hb dX5_well_3 rfl hl (by decide) rfl (fun ls hl => ?_)
  exact w_X5_well_4 ad writers year taped at_ statements hasImage isKeeping cursor forgottenWhen rowMany kind figure style silent ring X hret  _ (0 : Int32) (0 : Int32) _ _ _ hf (lv_sub hl [2, 1, 0] rfl) hP hD hS

abbrev wd_X5_count (cI : ClassId) (ad : Nat → Nat) (writers : Int32) (year : Int32) (taped : Int32) (at_ : Int32) (statements : Int32) (hasImage : Int32) (isKeeping : Int32) (cursor : Int32) (forgottenWhen : Int32) (rowMany : Int32) (refused : (Nat → Int32)) (kind : (Nat → Int32)) (figure : (Nat → Int32)) (style : (Nat → Int32)) (fame : (Nat → Int32)) (silent : (Nat → Int32)) (ring : (Nat → Int32)) : va_W := [((ad 0), .inr (5, [.ref (ad 1), .ref (ad 2), .ref (ad 3), .ref (ad 4), .ref (ad 5), .ref (ad 6), .ref (ad 7), .int writers, .int year, .ref (ad 8), .ref (ad 9), .ref (ad 10), .ref (ad 11), .int taped, .int at_, .int statements, .ref (ad 12), .int hasImage, .int isKeeping, .int cursor, .int forgottenWhen, .ref (ad 13), .ref (ad 14), .ref (ad 15), .int rowMany])), ((ad 1), .inl (cI, 7, .inl refused)), ((ad 2), .inl (cI, 7, .inl kind)), ((ad 3), .inl (cI, 7, .inl figure)), ((ad 4), .inl (cI, 7, .inl style)), ((ad 5), .inl (cI, 7, .inl fame)), ((ad 6), .inl (cI, 7, .inl silent)), ((ad 7), .inl (cI, 7, .inl ring))]
def f_X5_count (writers : Int32) (year : Int32) (taped : Int32) (rowMany : Int32) (refused : (Nat → Int32)) (kind : (Nat → Int32)) (figure : (Nat → Int32)) (style : (Nat → Int32)) (fame : (Nat → Int32)) (silent : (Nat → Int32)) (ring : (Nat → Int32)) (x1 : Int32) : Option (Int32) := ((f_X5_isIn x1 (11 : Int32) (16 : Int32)).bind fun (r5 : Int32) => (if r5 = 0 then (if x1 = (0 : Int32) then (some writers) else (if x1 = (1 : Int32) then (some year) else (if x1 = (2 : Int32) then ((f_X5_writing writers silent).bind fun (r79 : Int32) => (some r79)) else (if x1 = (3 : Int32) then ((f_X5_allOf 7 writers fame).bind fun (r88 : Int32) => (some r88)) else (if x1 = (4 : Int32) then ((f_X5_allOf 7 writers style).bind fun (r97 : Int32) => (some r97)) else (if x1 = (5 : Int32) then ((f_X5_well writers year kind figure style silent ring).bind fun (r102 : Int32) => ((f_X5_bits r102).bind fun (r105 : Int32) => (some r105))) else (if x1 = (6 : Int32) then (some rowMany) else (if x1 = (7 : Int32) then (some taped) else (some (-9 : Int32)))))))))) else (gd (x1 - (10 : Int32)) 7 (some (refused (Int32.toNatClampNeg (x1 - (10 : Int32))))))))
set_option maxHeartbeats 4000000 in
set_option maxRecDepth 100000 in
theorem c_X5_count (l : Launch) (D : va_G) (cI : ClassId) (aS : aSt) (ad : Nat → Nat) (writers : Int32) (year : Int32) (taped : Int32) (at_ : Int32) (statements : Int32) (hasImage : Int32) (isKeeping : Int32) (cursor : Int32) (forgottenWhen : Int32) (rowMany : Int32) (refused : (Nat → Int32)) (kind : (Nat → Int32)) (figure : (Nat → Int32)) (style : (Nat → Int32)) (fame : (Nat → Int32)) (silent : (Nat → Int32)) (ring : (Nat → Int32)) (x1 : Int32) (R : Int32) (hf : f_X5_count writers year taped rowMany refused kind figure style fame silent ring x1 = some R) : CtI l yX5_count cX5_count 2 (some .int) 5 D cI aS [.ref (ad 0), .int x1] (wd_X5_count cI ad writers year taped at_ statements hasImage isKeeping cursor forgottenWhen rowMany refused kind figure style fame silent ring) (wd_X5_count cI ad writers year taped at_ statements hasImage isKeeping cursor forgottenWhen rowMany refused kind figure style fame silent ring) R := by
  refine ctI_of (by decide) ⟨_, rfl⟩ (Nat.le_of_ble_eq_true rfl) ?_
  intro p e s m below meth c A Q ls X hret hP hD hl
  have hS : va_S A s.heap s.heap [] := va_S.rf
  have hx := X.1
  have hb := X.2.1
  have hl : lv_has ls 2 [(0, .ref (ad 0)), (1, .int x1)] := hl
  replace hf : ((f_X5_isIn x1 (11 : Int32) (16 : Int32)).bind fun (r5 : Int32) => (if r5 = 0 then (if x1 = (0 : Int32) then (some writers) else (if x1 = (1 : Int32) then (some year) else (if x1 = (2 : Int32) then ((f_X5_writing writers silent).bind fun (r79 : Int32) => (some r79)) else (if x1 = (3 : Int32) then ((f_X5_allOf 7 writers fame).bind fun (r88 : Int32) => (some r88)) else (if x1 = (4 : Int32) then ((f_X5_allOf 7 writers style).bind fun (r97 : Int32) => (some r97)) else (if x1 = (5 : Int32) then ((f_X5_well writers year kind figure style silent ring).bind fun (r102 : Int32) => ((f_X5_bits r102).bind fun (r105 : Int32) => (some r105))) else (if x1 = (6 : Int32) then (some rowMany) else (if x1 = (7 : Int32) then (some taped) else (some (-9 : Int32)))))))))) else (gd (x1 - (10 : Int32)) 7 (some (refused (Int32.toNatClampNeg (x1 - (10 : Int32)))))))) = some R := hf
  refine lv_iload_n hx hb dX5_count_0 rfl (lv_at hl 1 rfl) ?_
  refine lv_bipush (v := 11) hx hb dX5_count_1 (by decide) ?_
  refine lv_bipush (v := 16) hx hb dX5_count_3 (by decide) ?_
  obtain ⟨r5, hq5, hf⟩ := bS hf
  refine ro_i X hP hD hS [] rfl (run_S X hP hD hS [] rfl rfl (c_X5_isIn l D cI aS x1 (11 : Int32) (16 : Int32) _ hq5 _) lkX5_80 (by decide) rfl rfl (Nat.le_of_ble_eq_true rfl) hl.1 dX5_count_5) (fun H locs hP hS => ?_)
  refine lv_if_eq (tgt := 21) hx hb dX5_count_8 (by decide) (fun c8 => ?_) (fun c8 => ?_)
  · have hf := iT c8 hf
    refine lv_iload_n hx hb dX5_count_21 rfl (lv_at hl 1 rfl) ?_
    by_cases c22_0 : x1 = (0 : Int32)
    · have hf := iT c22_0 hf
      refine tsIn (tgt := 68) (off := 46) hx hb dX5_count_22 c22_0 (by decide) (by decide) (by decide) (by decide) ?_
      refine lv_aload_n hx hb dX5_count_68 rfl (lv_at hl 0 rfl) ?_
      refine fgX5_55 X hP (q0 := 0) rfl rfl dX5_count_69 ?_
      have hR := Option.some.inj hf
      subst hR
      exact hret _ _ _ _ _ rfl (fun _ hn => by cases hn; rfl) hP hD hS dX5_count_72
    have hf := iF c22_0 hf
    by_cases c22_1 : x1 = (1 : Int32)
    · have hf := iT c22_1 hf
      refine tsIn (tgt := 73) (off := 51) hx hb dX5_count_22 c22_1 (by decide) (by decide) (by decide) (by decide) ?_
      refine lv_aload_n hx hb dX5_count_73 rfl (lv_at hl 0 rfl) ?_
      refine fgX5_101 X hP (q0 := 0) rfl rfl dX5_count_74 ?_
      have hR := Option.some.inj hf
      subst hR
      exact hret _ _ _ _ _ rfl (fun _ hn => by cases hn; rfl) hP hD hS dX5_count_77
    have hf := iF c22_1 hf
    by_cases c22_2 : x1 = (2 : Int32)
    · have hf := iT c22_2 hf
      refine tsIn (tgt := 78) (off := 56) hx hb dX5_count_22 c22_2 (by decide) (by decide) (by decide) (by decide) ?_
      refine lv_aload_n hx hb dX5_count_78 rfl (lv_at hl 0 rfl) ?_
      obtain ⟨r79, hq79, hf⟩ := bS hf
      refine ro_i X hP hD hS [0, 6] rfl (run_V X hP hD hS [0, 6] rfl rfl (c_X5_writing l D cI aS ad writers year taped at_ statements hasImage isKeeping cursor forgottenWhen rowMany silent _ hq79 _) lkX5_276 (by decide) (q0 := 0) rfl rfl rfl rfl (Nat.le_of_ble_eq_true rfl) hl.1 dX5_count_79) (fun H locs hP hS => ?_)
      have hR := Option.some.inj hf
      subst hR
      exact hret _ _ _ _ _ rfl (fun _ hn => by cases hn; rfl) hP hD hS dX5_count_82
    have hf := iF c22_2 hf
    by_cases c22_3 : x1 = (3 : Int32)
    · have hf := iT c22_3 hf
      refine tsIn (tgt := 83) (off := 61) hx hb dX5_count_22 c22_3 (by decide) (by decide) (by decide) (by decide) ?_
      refine lv_aload_n hx hb dX5_count_83 rfl (lv_at hl 0 rfl) ?_
      refine lv_aload_n hx hb dX5_count_84 rfl (lv_at hl 0 rfl) ?_
      refine fgX5_22 X hP (q0 := 0) rfl rfl dX5_count_85 ?_
      obtain ⟨r88, hq88, hf⟩ := bS hf
      refine ro_i X hP hD hS [0, 5] rfl (run_V X hP hD hS [0, 5] rfl rfl (c_X5_allOf l D cI aS ad (fun k => ad (5 + k)) 7 writers year taped at_ statements hasImage isKeeping cursor forgottenWhen rowMany fame _ hq88 _) lkX5_196 (by decide) (q0 := 0) rfl rfl rfl rfl (Nat.le_of_ble_eq_true rfl) hl.1 dX5_count_88) (fun H locs hP hS => ?_)
      have hR := Option.some.inj hf
      subst hR
      exact hret _ _ _ _ _ rfl (fun _ hn => by cases hn; rfl) hP hD hS dX5_count_91
    have hf := iF c22_3 hf
    by_cases c22_4 : x1 = (4 : Int32)
    · have hf := iT c22_4 hf
      refine tsIn (tgt := 92) (off := 70) hx hb dX5_count_22 c22_4 (by decide) (by decide) (by decide) (by decide) ?_
      refine lv_aload_n hx hb dX5_count_92 rfl (lv_at hl 0 rfl) ?_
      refine lv_aload_n hx hb dX5_count_93 rfl (lv_at hl 0 rfl) ?_
      refine fgX5_19 X hP (q0 := 0) rfl rfl dX5_count_94 ?_
      obtain ⟨r97, hq97, hf⟩ := bS hf
      refine ro_i X hP hD hS [0, 4] rfl (run_V X hP hD hS [0, 4] rfl rfl (c_X5_allOf l D cI aS ad (fun k => ad (4 + k)) 7 writers year taped at_ statements hasImage isKeeping cursor forgottenWhen rowMany style _ hq97 _) lkX5_196 (by decide) (q0 := 0) rfl rfl rfl rfl (Nat.le_of_ble_eq_true rfl) hl.1 dX5_count_97) (fun H locs hP hS => ?_)
      have hR := Option.some.inj hf
      subst hR
      exact hret _ _ _ _ _ rfl (fun _ hn => by cases hn; rfl) hP hD hS dX5_count_100
    have hf := iF c22_4 hf
    by_cases c22_5 : x1 = (5 : Int32)
    · have hf := iT c22_5 hf
      refine tsIn (tgt := 101) (off := 79) hx hb dX5_count_22 c22_5 (by decide) (by decide) (by decide) (by decide) ?_
      refine lv_aload_n hx hb dX5_count_101 rfl (lv_at hl 0 rfl) ?_
      obtain ⟨r102, hq102, hf⟩ := bS hf
      refine ro_i X hP hD hS [0, 2, 3, 4, 6, 7] rfl (run_V X hP hD hS [0, 2, 3, 4, 6, 7] rfl rfl (c_X5_well l D cI aS ad writers year taped at_ statements hasImage isKeeping cursor forgottenWhen rowMany kind figure style silent ring _ hq102 _) lkX5_279 (by decide) (q0 := 0) rfl rfl rfl rfl (Nat.le_of_ble_eq_true rfl) hl.1 dX5_count_102) (fun H locs hP hS => ?_)
      obtain ⟨r105, hq105, hf⟩ := bS hf
      refine ro_i X hP hD hS [] rfl (run_S X hP hD hS [] rfl rfl (c_X5_bits l D cI aS r102 _ hq105 _) lkX5_236 (by decide) rfl rfl (Nat.le_of_ble_eq_true rfl) hl.1 dX5_count_105) (fun H locs hP hS => ?_)
      have hR := Option.some.inj hf
      subst hR
      exact hret _ _ _ _ _ rfl (fun _ hn => by cases hn; rfl) hP hD hS dX5_count_108
    have hf := iF c22_5 hf
    by_cases c22_6 : x1 = (6 : Int32)
    · have hf := iT c22_6 hf
      refine tsIn (tgt := 109) (off := 87) hx hb dX5_count_22 c22_6 (by decide) (by decide) (by decide) (by decide) ?_
      refine lv_aload_n hx hb dX5_count_109 rfl (lv_at hl 0 rfl) ?_
      refine fgX5_257 X hP (q0 := 0) rfl rfl dX5_count_110 ?_
      have hR := Option.some.inj hf
      subst hR
      exact hret _ _ _ _ _ rfl (fun _ hn => by cases hn; rfl) hP hD hS dX5_count_113
    have hf := iF c22_6 hf
    by_cases c22_7 : x1 = (7 : Int32)
    · have hf := iT c22_7 hf
      refine tsIn (tgt := 114) (off := 92) hx hb dX5_count_22 c22_7 (by decide) (by decide) (by decide) (by decide) ?_
      refine lv_aload_n hx hb dX5_count_114 rfl (lv_at hl 0 rfl) ?_
      refine fgX5_66 X hP (q0 := 0) rfl rfl dX5_count_115 ?_
      have hR := Option.some.inj hf
      subst hR
      exact hret _ _ _ _ _ rfl (fun _ hn => by cases hn; rfl) hP hD hS dX5_count_118
    have hf := iF c22_7 hf
    refine tsD (keys := [0, 1, 2, 3, 4, 5, 6, 7]) (tgt := 119) hx hb dX5_count_22 (List.forall_mem_cons.mpr ⟨i32ne c22_0 (by decide), (List.forall_mem_cons.mpr ⟨i32ne c22_1 (by decide), (List.forall_mem_cons.mpr ⟨i32ne c22_2 (by decide), (List.forall_mem_cons.mpr ⟨i32ne c22_3 (by decide), (List.forall_mem_cons.mpr ⟨i32ne c22_4 (by decide), (List.forall_mem_cons.mpr ⟨i32ne c22_5 (by decide), (List.forall_mem_cons.mpr ⟨i32ne c22_6 (by decide), (List.forall_mem_cons.mpr ⟨i32ne c22_7 (by decide), (fun _ h => absurd h List.not_mem_nil)⟩)⟩)⟩)⟩)⟩)⟩)⟩)⟩) (by decide) (by decide) (by decide) ?_
    refine lv_bipush (v := -9) hx hb dX5_count_119 (by decide) ?_
    have hR := Option.some.inj hf
    subst hR
    exact hret _ _ _ _ _ rfl (fun _ hn => by cases hn; rfl) hP hD hS dX5_count_121
  · have hf := iF c8 hf
    refine lv_aload_n hx hb dX5_count_11 rfl (lv_at hl 0 rfl) ?_
    refine fgX5_7 X hP (q0 := 0) rfl rfl dX5_count_12 ?_
    refine lv_iload_n hx hb dX5_count_15 rfl (lv_at hl 1 rfl) ?_
    refine lv_bipush (v := 10) hx hb dX5_count_16 (by decide) ?_
    refine lv_isub hx hb dX5_count_18 ?_
    refine aGet X hP (q0 := 1) rfl (gdS hf).1 dX5_count_19 ?_
    have hf := (gdS hf).2
    have hR := Option.some.inj hf
    subst hR
    exact hret _ _ _ _ _ rfl (fun _ hn => by cases hn; rfl) hP hD hS dX5_count_20

abbrev wd_X5_endedSo (cI : ClassId) (ad : Nat → Nat) (writers : Int32) (year : Int32) (taped : Int32) (at_ : Int32) (statements : Int32) (hasImage : Int32) (isKeeping : Int32) (cursor : Int32) (forgottenWhen : Int32) (rowMany : Int32) (kind : (Nat → Int32)) (figure : (Nat → Int32)) (style : (Nat → Int32)) (row : (Nat → Int32)) : va_W := [((ad 0), .inr (5, [.ref (ad 1), .ref (ad 2), .ref (ad 3), .ref (ad 4), .ref (ad 5), .ref (ad 6), .ref (ad 7), .int writers, .int year, .ref (ad 8), .ref (ad 9), .ref (ad 10), .ref (ad 11), .int taped, .int at_, .int statements, .ref (ad 12), .int hasImage, .int isKeeping, .int cursor, .int forgottenWhen, .ref (ad 13), .ref (ad 14), .ref (ad 15), .int rowMany])), ((ad 2), .inl (cI, 7, .inl kind)), ((ad 3), .inl (cI, 7, .inl figure)), ((ad 4), .inl (cI, 7, .inl style)), ((ad 15), .inl (cI, 16, .inl row))]
def f_X5_endedSo_2 (year : Int32) (rowMany : Int32) (kind : (Nat → Int32)) (figure : (Nat → Int32)) (style : (Nat → Int32)) (row : (Nat → Int32)) (x1 : Int32) (x2 : Int32)  : Nat → Int32 → Option (Int32)
  | 0 => fun _ => none
  | fuel + 1 => fun v3_2 => (if rowMany ≤ (((2 : Int32) * v3_2) + (1 : Int32)) then (some (1 : Int32)) else (gd x1 7 (gd ((2 : Int32) * v3_2) 16 (if (row (Int32.toNatClampNeg ((2 : Int32) * v3_2))) = (remI (((style (Int32.toNatClampNeg x1)) + year) + v3_2) (10 : Int32)) then (gd (((2 : Int32) * v3_2) + (1 : Int32)) 16 ((f_X5_ends kind figure x2 (remI (((style (Int32.toNatClampNeg x1)) + year) + v3_2) (10 : Int32))).bind fun (r59 : Int32) => (if (row (Int32.toNatClampNeg (((2 : Int32) * v3_2) + (1 : Int32)))) = r59 then (f_X5_endedSo_2 year rowMany kind figure style row x1 x2  fuel (v3_2 + (1 : Int32))) else (some (0 : Int32))))) else (some (0 : Int32))))))
theorem e_X5_endedSo_2 (year : Int32) (rowMany : Int32) (kind : (Nat → Int32)) (figure : (Nat → Int32)) (style : (Nat → Int32)) (row : (Nat → Int32)) (x1 : Int32) (x2 : Int32)  (fuel : Nat) (v3_2 : Int32) : f_X5_endedSo_2 year rowMany kind figure style row x1 x2  (fuel + 1) v3_2 = (if rowMany ≤ (((2 : Int32) * v3_2) + (1 : Int32)) then (some (1 : Int32)) else (gd x1 7 (gd ((2 : Int32) * v3_2) 16 (if (row (Int32.toNatClampNeg ((2 : Int32) * v3_2))) = (remI (((style (Int32.toNatClampNeg x1)) + year) + v3_2) (10 : Int32)) then (gd (((2 : Int32) * v3_2) + (1 : Int32)) 16 ((f_X5_ends kind figure x2 (remI (((style (Int32.toNatClampNeg x1)) + year) + v3_2) (10 : Int32))).bind fun (r59 : Int32) => (if (row (Int32.toNatClampNeg (((2 : Int32) * v3_2) + (1 : Int32)))) = r59 then (f_X5_endedSo_2 year rowMany kind figure style row x1 x2  fuel (v3_2 + (1 : Int32))) else (some (0 : Int32))))) else (some (0 : Int32)))))) := rfl
def f_X5_endedSo (year : Int32) (rowMany : Int32) (kind : (Nat → Int32)) (figure : (Nat → Int32)) (style : (Nat → Int32)) (row : (Nat → Int32)) (x1 : Int32) (x2 : Int32) : Option (Int32) := (f_X5_endedSo_2 year rowMany kind figure style row x1 x2  FU (0 : Int32))
set_option maxHeartbeats 4000000 in
set_option maxRecDepth 100000 in
theorem w_X5_endedSo_2 {p : Program} {l : Launch} {e : Env} {s : State} {m : MethodId} {args : Array Value} {below : List Frame} {meth : Method} {c : Code} {D : va_G} {cI : ClassId} {aS : aSt} {A : Nat → Prop} {Q : State → Prop}  (ad : Nat → Nat) (writers : Int32) (year : Int32) (taped : Int32) (at_ : Int32) (statements : Int32) (hasImage : Int32) (isKeeping : Int32) (cursor : Int32) (forgottenWhen : Int32) (rowMany : Int32) (kind : (Nat → Int32)) (figure : (Nat → Int32)) (style : (Nat → Int32)) (row : (Nat → Int32)) (x1 : Int32) (x2 : Int32) {R : Int32} (X : Bx p s m args meth c cX5_endedSo 5 (some .boolean) RX5 D cI aS A) (hret : RtI p l e 1 s m args below meth c cX5_endedSo (some .boolean) D A (wd_X5_endedSo cI ad writers year taped at_ statements hasImage isKeeping cursor forgottenWhen rowMany kind figure style row) R Q) : ∀ (fuel : Nat) (v3_2 : Int32) (H : Heap) (locs : List Loc) (ls : Array Slot), f_X5_endedSo_2 year rowMany kind figure style row x1 x2  fuel v3_2 = some R → lv_has ls 5 [(0, .ref (ad 0)), (1, .int x1), (2, .int x2), (3, .int v3_2)] → va_P D vwCl (wd_X5_endedSo cI ad writers year taped at_ statements hasImage isKeeping cursor forgottenWhen rowMany kind figure style row) H → va_D A (wd_X5_endedSo cI ad writers year taped at_ statements hasImage isKeeping cursor forgottenWhen rowMany kind figure style row) → va_S A s.heap H locs → Wh p l e 1 s m args below meth c H locs Q (F0 m 2 ls []) := by
  have hx := X.1
  have hb := X.2.1
  intro fuel
  induction fuel with
  | zero =>
    intro v3_2 H locs ls hf hl hP hD hS
    cases hf
  | succ fuel ih =>
    intro v3_2 H locs ls hf hl hP hD hS
    replace hf : (if rowMany ≤ (((2 : Int32) * v3_2) + (1 : Int32)) then (some (1 : Int32)) else (gd x1 7 (gd ((2 : Int32) * v3_2) 16 (if (row (Int32.toNatClampNeg ((2 : Int32) * v3_2))) = (remI (((style (Int32.toNatClampNeg x1)) + year) + v3_2) (10 : Int32)) then (gd (((2 : Int32) * v3_2) + (1 : Int32)) 16 ((f_X5_ends kind figure x2 (remI (((style (Int32.toNatClampNeg x1)) + year) + v3_2) (10 : Int32))).bind fun (r59 : Int32) => (if (row (Int32.toNatClampNeg (((2 : Int32) * v3_2) + (1 : Int32)))) = r59 then (f_X5_endedSo_2 year rowMany kind figure style row x1 x2  fuel (v3_2 + (1 : Int32))) else (some (0 : Int32))))) else (some (0 : Int32)))))) = some R := hf
    refine lv_iconst (v := 2) hx hb dX5_endedSo_2 (by decide) ?_
    refine lv_iload_n hx hb dX5_endedSo_3 rfl (lv_at hl 3 rfl) ?_
    refine lv_imul hx hb dX5_endedSo_4 ?_
    refine lv_iconst (v := 1) hx hb dX5_endedSo_5 (by decide) ?_
    refine lv_iadd hx hb dX5_endedSo_6 ?_
    refine lv_aload_n hx hb dX5_endedSo_7 rfl (lv_at hl 0 rfl) ?_
    refine fgX5_257 X hP (q0 := 0) rfl rfl dX5_endedSo_8 ?_
    refine lv_icmp_ge (tgt := 73) hx hb dX5_endedSo_11 (by decide) (fun c11 => ?_) (fun c11 => ?_)
    · have hf := iT c11 hf
      refine lv_iconst (v := 1) hx hb dX5_endedSo_73 (by decide) ?_
      have hR := Option.some.inj hf
      subst hR
      exact hret _ _ _ _ _ rfl (fun _ hn => by cases hn; rfl) hP hD hS dX5_endedSo_74
    · have hf := iF c11 hf
      refine lv_aload_n hx hb dX5_endedSo_14 rfl (lv_at hl 0 rfl) ?_
      refine fgX5_19 X hP (q0 := 0) rfl rfl dX5_endedSo_15 ?_
      refine lv_iload_n hx hb dX5_endedSo_18 rfl (lv_at hl 1 rfl) ?_
      refine aGet X hP (q0 := 3) rfl (gdS hf).1 dX5_endedSo_19 ?_
      have hf := (gdS hf).2
      refine lv_aload_n hx hb dX5_endedSo_20 rfl (lv_at hl 0 rfl) ?_
      refine fgX5_101 X hP (q0 := 0) rfl rfl dX5_endedSo_21 ?_
      refine lv_iadd hx hb dX5_endedSo_24 ?_
      refine lv_iload_n hx hb dX5_endedSo_25 rfl (lv_at hl 3 rfl) ?_
      refine lv_iadd hx hb dX5_endedSo_26 ?_
      refine lv_bipush (v := 10) hx hb dX5_endedSo_27 (by decide) ?_
      refine x_irem hx hb dX5_endedSo_29 (by decide) ?_
      refine lv_istore (lv' := [(4, .int (remI (((style (Int32.toNatClampNeg x1)) + year) + v3_2) (10 : Int32))), (0, .ref (ad 0)), (1, .int x1), (2, .int x2), (3, .int v3_2)]) hx hb dX5_endedSo_30 hl (by decide) rfl (fun ls hl => ?_)
      refine lv_aload_n hx hb dX5_endedSo_32 rfl (lv_at hl 1 rfl) ?_
      refine fgX5_52 X hP (q0 := 0) rfl rfl dX5_endedSo_33 ?_
      refine lv_iconst (v := 2) hx hb dX5_endedSo_36 (by decide) ?_
      refine lv_iload_n hx hb dX5_endedSo_37 rfl (lv_at hl 4 rfl) ?_
      refine lv_imul hx hb dX5_endedSo_38 ?_
      refine aGet X hP (q0 := 4) rfl (gdS hf).1 dX5_endedSo_39 ?_
      have hf := (gdS hf).2
      refine lv_iload hx hb dX5_endedSo_40 (lv_at hl 0 rfl) ?_
      refine lv_icmp_ne (tgt := 65) hx hb dX5_endedSo_42 (by decide) (fun c42 => ?_) (fun c42 => ?_)
      · have hf := iF c42 hf
        refine lv_iconst (v := 0) hx hb dX5_endedSo_65 (by decide) ?_
        have hR := Option.some.inj hf
        subst hR
        exact hret _ _ _ _ _ rfl (fun _ hn => by cases hn; rfl) hP hD hS dX5_endedSo_66
      · have hf := iT c42 hf
        refine lv_aload_n hx hb dX5_endedSo_45 rfl (lv_at hl 1 rfl) ?_
        refine fgX5_52 X hP (q0 := 0) rfl rfl dX5_endedSo_46 ?_
        refine lv_iconst (v := 2) hx hb dX5_endedSo_49 (by decide) ?_
        refine lv_iload_n hx hb dX5_endedSo_50 rfl (lv_at hl 4 rfl) ?_
        refine lv_imul hx hb dX5_endedSo_51 ?_
        refine lv_iconst (v := 1) hx hb dX5_endedSo_52 (by decide) ?_
        refine lv_iadd hx hb dX5_endedSo_53 ?_
        refine aGet X hP (q0 := 4) rfl (gdS hf).1 dX5_endedSo_54 ?_
        have hf := (gdS hf).2
        refine lv_aload_n hx hb dX5_endedSo_55 rfl (lv_at hl 1 rfl) ?_
        refine lv_iload_n hx hb dX5_endedSo_56 rfl (lv_at hl 3 rfl) ?_
        refine lv_iload hx hb dX5_endedSo_57 (lv_at hl 0 rfl) ?_
        obtain ⟨r59, hq59, hf⟩ := bS hf
        refine ro_i X hP hD hS [0, 1, 2] rfl (run_V X hP hD hS [0, 1, 2] rfl rfl (c_X5_ends l D cI aS ad writers year taped at_ statements hasImage isKeeping cursor forgottenWhen rowMany kind figure x2 (remI (((style (Int32.toNatClampNeg x1)) + year) + v3_2) (10 : Int32)) _ hq59 _) lkX5_168 (by decide) (q0 := 0) rfl rfl rfl rfl (Nat.le_of_ble_eq_true rfl) hl.1 dX5_endedSo_59) (fun H locs hP hS => ?_)
        refine lv_icmp_eq (tgt := 67) hx hb dX5_endedSo_62 (by decide) (fun c62 => ?_) (fun c62 => ?_)
        · have hf := iT c62 hf
          refine lv_iinc (v := (v3_2 + (1 : Int32))) (lv' := [(3, .int (v3_2 + (1 : Int32))), (4, .int (remI (((style (Int32.toNatClampNeg x1)) + year) + v3_2) (10 : Int32))), (0, .ref (ad 0)), (1, .int x1), (2, .int x2)]) hx hb dX5_endedSo_67 hl (k := 4) rfl rfl (by decide) rfl (fun ls hl => ?_)
          refine lv_goto (tgt := 2) hx hb dX5_endedSo_70 (by decide) ?_
          exact ih (v3_2 + (1 : Int32)) _ _ _ hf (lv_sub hl [2, 3, 4, 0] rfl) hP hD hS
        · have hf := iF c62 hf
          refine lv_iconst (v := 0) hx hb dX5_endedSo_65 (by decide) ?_
          have hR := Option.some.inj hf
          subst hR
          exact hret _ _ _ _ _ rfl (fun _ hn => by cases hn; rfl) hP hD hS dX5_endedSo_66
set_option maxHeartbeats 4000000 in
set_option maxRecDepth 100000 in
theorem c_X5_endedSo (l : Launch) (D : va_G) (cI : ClassId) (aS : aSt) (ad : Nat → Nat) (writers : Int32) (year : Int32) (taped : Int32) (at_ : Int32) (statements : Int32) (hasImage : Int32) (isKeeping : Int32) (cursor : Int32) (forgottenWhen : Int32) (rowMany : Int32) (kind : (Nat → Int32)) (figure : (Nat → Int32)) (style : (Nat → Int32)) (row : (Nat → Int32)) (x1 : Int32) (x2 : Int32) (R : Int32) (hf : f_X5_endedSo year rowMany kind figure style row x1 x2 = some R) : CtI l yX5_endedSo cX5_endedSo 5 (some .boolean) 1 D cI aS [.ref (ad 0), .int x1, .int x2] (wd_X5_endedSo cI ad writers year taped at_ statements hasImage isKeeping cursor forgottenWhen rowMany kind figure style row) (wd_X5_endedSo cI ad writers year taped at_ statements hasImage isKeeping cursor forgottenWhen rowMany kind figure style row) R := by
  refine ctI_of (by decide) ⟨_, rfl⟩ (Nat.le_of_ble_eq_true rfl) ?_
  intro p e s m below meth c A Q ls X hret hP hD hl
  have hS : va_S A s.heap s.heap [] := va_S.rf
  have hx := X.1
  have hb := X.2.1
  have hl : lv_has ls 5 [(0, .ref (ad 0)), (1, .int x1), (2, .int x2)] := hl
  replace hf : (f_X5_endedSo_2 year rowMany kind figure style row x1 x2  FU (0 : Int32)) = some R := hf
  refine lv_iconst (v := 0) hx hb dX5_endedSo_0 (by decide) ?_
  refine lv_istore_n (lv' := [(3, .int (0 : Int32)), (0, .ref (ad 0)), (1, .int x1), (2, .int x2)]) hx hb dX5_endedSo_1 rfl hl (by decide) rfl (fun ls hl => ?_)
  exact w_X5_endedSo_2 ad writers year taped at_ statements hasImage isKeeping cursor forgottenWhen rowMany kind figure style row x1 x2 X hret  _ (0 : Int32) _ _ _ hf (lv_sub hl [1, 2, 3, 0] rfl) hP hD hS

abbrev wd_X5_worthEnded (cI : ClassId) (ad : Nat → Nat) (writers : Int32) (year : Int32) (taped : Int32) (at_ : Int32) (statements : Int32) (hasImage : Int32) (isKeeping : Int32) (cursor : Int32) (forgottenWhen : Int32) (rowMany : Int32) (kind : (Nat → Int32)) (figure : (Nat → Int32)) (style : (Nat → Int32)) : va_W := [((ad 0), .inr (5, [.ref (ad 1), .ref (ad 2), .ref (ad 3), .ref (ad 4), .ref (ad 5), .ref (ad 6), .ref (ad 7), .int writers, .int year, .ref (ad 8), .ref (ad 9), .ref (ad 10), .ref (ad 11), .int taped, .int at_, .int statements, .ref (ad 12), .int hasImage, .int isKeeping, .int cursor, .int forgottenWhen, .ref (ad 13), .ref (ad 14), .ref (ad 15), .int rowMany])), ((ad 2), .inl (cI, 7, .inl kind)), ((ad 3), .inl (cI, 7, .inl figure)), ((ad 4), .inl (cI, 7, .inl style))]
def f_X5_worthEnded (year : Int32) (kind : (Nat → Int32)) (figure : (Nat → Int32)) (style : (Nat → Int32)) (x1 : Int32) (x2 : Int32) : Option (Int32) := ((f_X5_opens year style x1).bind fun (r2 : Int32) => ((f_X5_opens year style x1).bind fun (r9 : Int32) => ((f_X5_ends kind figure x2 r9).bind fun (r12 : Int32) => ((f_X5_worthOf r2 r12).bind fun (r15 : Int32) => (some r15)))))
set_option maxHeartbeats 4000000 in
set_option maxRecDepth 100000 in
theorem c_X5_worthEnded (l : Launch) (D : va_G) (cI : ClassId) (aS : aSt) (ad : Nat → Nat) (writers : Int32) (year : Int32) (taped : Int32) (at_ : Int32) (statements : Int32) (hasImage : Int32) (isKeeping : Int32) (cursor : Int32) (forgottenWhen : Int32) (rowMany : Int32) (kind : (Nat → Int32)) (figure : (Nat → Int32)) (style : (Nat → Int32)) (x1 : Int32) (x2 : Int32) (R : Int32) (hf : f_X5_worthEnded year kind figure style x1 x2 = some R) : CtI l yX5_worthEnded cX5_worthEnded 3 (some .int) 2 D cI aS [.ref (ad 0), .int x1, .int x2] (wd_X5_worthEnded cI ad writers year taped at_ statements hasImage isKeeping cursor forgottenWhen rowMany kind figure style) (wd_X5_worthEnded cI ad writers year taped at_ statements hasImage isKeeping cursor forgottenWhen rowMany kind figure style) R := by
  refine ctI_of (by decide) ⟨_, rfl⟩ (Nat.le_of_ble_eq_true rfl) ?_
  intro p e s m below meth c A Q ls X hret hP hD hl
  have hS : va_S A s.heap s.heap [] := va_S.rf
  have hx := X.1
  have hb := X.2.1
  have hl : lv_has ls 3 [(0, .ref (ad 0)), (1, .int x1), (2, .int x2)] := hl
  replace hf : ((f_X5_opens year style x1).bind fun (r2 : Int32) => ((f_X5_opens year style x1).bind fun (r9 : Int32) => ((f_X5_ends kind figure x2 r9).bind fun (r12 : Int32) => ((f_X5_worthOf r2 r12).bind fun (r15 : Int32) => (some r15))))) = some R := hf
  refine lv_aload_n hx hb dX5_worthEnded_0 rfl (lv_at hl 0 rfl) ?_
  refine lv_iload_n hx hb dX5_worthEnded_1 rfl (lv_at hl 1 rfl) ?_
  obtain ⟨r2, hq2, hf⟩ := bS hf
  refine ro_i X hP hD hS [0, 3] rfl (run_V X hP hD hS [0, 3] rfl rfl (c_X5_opens l D cI aS ad writers year taped at_ statements hasImage isKeeping cursor forgottenWhen rowMany style x1 _ hq2 _) lkX5_165 (by decide) (q0 := 0) rfl rfl rfl rfl (Nat.le_of_ble_eq_true rfl) hl.1 dX5_worthEnded_2) (fun H locs hP hS => ?_)
  refine lv_aload_n hx hb dX5_worthEnded_5 rfl (lv_at hl 0 rfl) ?_
  refine lv_iload_n hx hb dX5_worthEnded_6 rfl (lv_at hl 2 rfl) ?_
  refine lv_aload_n hx hb dX5_worthEnded_7 rfl (lv_at hl 0 rfl) ?_
  refine lv_iload_n hx hb dX5_worthEnded_8 rfl (lv_at hl 1 rfl) ?_
  obtain ⟨r9, hq9, hf⟩ := bS hf
  refine ro_i X hP hD hS [0, 3] rfl (run_V X hP hD hS [0, 3] rfl rfl (c_X5_opens l D cI aS ad writers year taped at_ statements hasImage isKeeping cursor forgottenWhen rowMany style x1 _ hq9 _) lkX5_165 (by decide) (q0 := 0) rfl rfl rfl rfl (Nat.le_of_ble_eq_true rfl) hl.1 dX5_worthEnded_9) (fun H locs hP hS => ?_)
  obtain ⟨r12, hq12, hf⟩ := bS hf
  refine ro_i X hP hD hS [0, 1, 2] rfl (run_V X hP hD hS [0, 1, 2] rfl rfl (c_X5_ends l D cI aS ad writers year taped at_ statements hasImage isKeeping cursor forgottenWhen rowMany kind figure x2 r9 _ hq12 _) lkX5_168 (by decide) (q0 := 0) rfl rfl rfl rfl (Nat.le_of_ble_eq_true rfl) hl.1 dX5_worthEnded_12) (fun H locs hP hS => ?_)
  obtain ⟨r15, hq15, hf⟩ := bS hf
  refine ro_i X hP hD hS [] rfl (run_S X hP hD hS [] rfl rfl (c_X5_worthOf l D cI aS r2 r12 _ hq15 _) lkX5_174 (by decide) rfl rfl (Nat.le_of_ble_eq_true rfl) hl.1 dX5_worthEnded_15) (fun H locs hP hS => ?_)
  have hR := Option.some.inj hf
  subst hR
  exact hret _ _ _ _ _ rfl (fun _ hn => by cases hn; rfl) hP hD hS dX5_worthEnded_18

abbrev wd_X5_ender (cI : ClassId) (ad : Nat → Nat) (writers : Int32) (year : Int32) (taped : Int32) (at_ : Int32) (statements : Int32) (hasImage : Int32) (isKeeping : Int32) (cursor : Int32) (forgottenWhen : Int32) (rowMany : Int32) (refused : (Nat → Int32)) (kind : (Nat → Int32)) (figure : (Nat → Int32)) (style : (Nat → Int32)) (silent : (Nat → Int32)) : va_W := [((ad 0), .inr (5, [.ref (ad 1), .ref (ad 2), .ref (ad 3), .ref (ad 4), .ref (ad 5), .ref (ad 6), .ref (ad 7), .int writers, .int year, .ref (ad 8), .ref (ad 9), .ref (ad 10), .ref (ad 11), .int taped, .int at_, .int statements, .ref (ad 12), .int hasImage, .int isKeeping, .int cursor, .int forgottenWhen, .ref (ad 13), .ref (ad 14), .ref (ad 15), .int rowMany])), ((ad 1), .inl (cI, 7, .inl refused)), ((ad 2), .inl (cI, 7, .inl kind)), ((ad 3), .inl (cI, 7, .inl figure)), ((ad 4), .inl (cI, 7, .inl style)), ((ad 6), .inl (cI, 7, .inl silent))]
def f_X5_ender_101  (kL60 : Int32 → Int32 → Option (Int32 × (Nat → Int32))) (v4_101 : Int32) (v5_101 : Int32) : Option (Int32 × (Nat → Int32)) := (kL60 v4_101 (v5_101 + (1 : Int32)))
def f_X5_ender_97  (kL60 : Int32 → Int32 → Option (Int32 × (Nat → Int32))) (v5_97 : Int32) : Option (Int32 × (Nat → Int32)) := (f_X5_ender_101  kL60 v5_97 v5_97)
def f_X5_ender_60 (writers : Int32) (year : Int32) (kind : (Nat → Int32)) (figure : (Nat → Int32)) (style : (Nat → Int32)) (x1 : Int32) (kX60_107 : Int32 → Option (Int32 × (Nat → Int32))) : Nat → Int32 → Int32 → Option (Int32 × (Nat → Int32))
  | 0 => fun _ _ => none
  | fuel + 1 => fun v4_60 v5_60 => (if writers ≤ v5_60 then (kX60_107 v4_60) else (if v5_60 = x1 then (f_X5_ender_101  (f_X5_ender_60 writers year kind figure style x1 kX60_107 fuel) v4_60 v5_60) else (if v4_60 < 0 then (f_X5_ender_97  (f_X5_ender_60 writers year kind figure style x1 kX60_107 fuel) v5_60) else ((f_X5_worthEnded year kind figure style x1 v5_60).bind fun (r84 : Int32) => ((f_X5_worthEnded year kind figure style x1 v4_60).bind fun (r91 : Int32) => (if r84 ≤ r91 then (f_X5_ender_101  (f_X5_ender_60 writers year kind figure style x1 kX60_107 fuel) v4_60 v5_60) else (f_X5_ender_97  (f_X5_ender_60 writers year kind figure style x1 kX60_107 fuel) v5_60)))))))
theorem e_X5_ender_60 (writers : Int32) (year : Int32) (kind : (Nat → Int32)) (figure : (Nat → Int32)) (style : (Nat → Int32)) (x1 : Int32) (kX60_107 : Int32 → Option (Int32 × (Nat → Int32))) (fuel : Nat) (v4_60 : Int32) (v5_60 : Int32) : f_X5_ender_60 writers year kind figure style x1 kX60_107 (fuel + 1) v4_60 v5_60 = (if writers ≤ v5_60 then (kX60_107 v4_60) else (if v5_60 = x1 then (f_X5_ender_101  (f_X5_ender_60 writers year kind figure style x1 kX60_107 fuel) v4_60 v5_60) else (if v4_60 < 0 then (f_X5_ender_97  (f_X5_ender_60 writers year kind figure style x1 kX60_107 fuel) v5_60) else ((f_X5_worthEnded year kind figure style x1 v5_60).bind fun (r84 : Int32) => ((f_X5_worthEnded year kind figure style x1 v4_60).bind fun (r91 : Int32) => (if r84 ≤ r91 then (f_X5_ender_101  (f_X5_ender_60 writers year kind figure style x1 kX60_107 fuel) v4_60 v5_60) else (f_X5_ender_97  (f_X5_ender_60 writers year kind figure style x1 kX60_107 fuel) v5_60))))))) := rfl
def f_X5_ender_107 (year : Int32) (kind : (Nat → Int32)) (figure : (Nat → Int32)) (style : (Nat → Int32)) (x1 : Int32) (x2 : Int32)  (v4_107 : Int32) (refused_107 : (Nat → Int32)) : Option (Int32 × (Nat → Int32)) := (if x2 = 0 then (some (v4_107, refused_107)) else (if 0 ≤ v4_107 then ((f_X5_worthEnded year kind figure style x1 v4_107).bind fun (r129 : Int32) => (some (r129, refused_107))) else (some ((0 : Int32), refused_107))))
def f_X5_ender_42 (writers : Int32) (year : Int32) (kind : (Nat → Int32)) (figure : (Nat → Int32)) (style : (Nat → Int32)) (x1 : Int32) (x2 : Int32)  (refused_42 : (Nat → Int32)) (t0_42 : Int32) : Option (Int32 × (Nat → Int32)) := (if t0_42 = 0 then (f_X5_ender_60 writers year kind figure style x1 (fun (v4_107 : Int32) => (f_X5_ender_107 year kind figure style x1 x2  v4_107 refused_42)) FU (-9 : Int32) (0 : Int32)) else ((f_X5_lower refused_42 t0_42).bind fun (r49 : Int32 × (Nat → Int32)) => (some (r49.1, r49.2))))
def f_X5_ender (writers : Int32) (year : Int32) (refused : (Nat → Int32)) (kind : (Nat → Int32)) (figure : (Nat → Int32)) (style : (Nat → Int32)) (silent : (Nat → Int32)) (x1 : Int32) (x2 : Int32) : Option (Int32 × (Nat → Int32)) := ((f_X5_isOne writers x1).bind fun (r2 : Int32) => (if r2 = 0 then (f_X5_ender_42 writers year kind figure style x1 x2  refused (-1 : Int32)) else ((f_X5_isIn x2 (0 : Int32) (1 : Int32)).bind fun (r15 : Int32) => (if r15 = 0 then (f_X5_ender_42 writers year kind figure style x1 x2  refused (-2 : Int32)) else (gd x1 7 (if (silent (Int32.toNatClampNeg x1)) = (1 : Int32) then (f_X5_ender_42 writers year kind figure style x1 x2  refused (-3 : Int32)) else (f_X5_ender_42 writers year kind figure style x1 x2  refused (0 : Int32))))))))
set_option maxHeartbeats 4000000 in
set_option maxRecDepth 100000 in
theorem w_X5_ender_101 {p : Program} {l : Launch} {e : Env} {s : State} {m : MethodId} {args : Array Value} {below : List Frame} {meth : Method} {c : Code} {D : va_G} {cI : ClassId} {aS : aSt} {A : Nat → Prop} {Q : State → Prop}  (ad : Nat → Nat) (writers : Int32) (year : Int32) (taped : Int32) (at_ : Int32) (statements : Int32) (hasImage : Int32) (isKeeping : Int32) (cursor : Int32) (forgottenWhen : Int32) (rowMany : Int32) (kind : (Nat → Int32)) (figure : (Nat → Int32)) (style : (Nat → Int32)) (silent : (Nat → Int32)) (x1 : Int32) (x2 : Int32) (refused_u60 : (Nat → Int32)) {R : Int32 × (Nat → Int32)} (X : Bx p s m args meth c cX5_ender 6 (some .int) RX5 D cI aS A) (hret : RtI p l e 3 s m args below meth c cX5_ender (some .int) D A (wd_X5_ender cI ad writers year taped at_ statements hasImage isKeeping cursor forgottenWhen rowMany R.2 kind figure style silent) R.1 Q) (kL60 : Int32 → Int32 → Option (Int32 × (Nat → Int32))) (hkL60 : ∀ (v4_60 : Int32) (v5_60 : Int32) (H : Heap) (locs : List Loc) (ls : Array Slot), kL60 v4_60 v5_60 = some R → lv_has ls 6 [(0, .ref (ad 0)), (1, .int x1), (2, .int x2), (4, .int v4_60), (5, .int v5_60)] → va_P D vwCl (wd_X5_ender cI ad writers year taped at_ statements hasImage isKeeping cursor forgottenWhen rowMany refused_u60 kind figure style silent) H → va_D A (wd_X5_ender cI ad writers year taped at_ statements hasImage isKeeping cursor forgottenWhen rowMany refused_u60 kind figure style silent) → va_S A s.heap H locs → Wh p l e 3 s m args below meth c H locs Q (F0 m 60 ls [])) : ∀ (v4_101 : Int32) (v5_101 : Int32) (H : Heap) (locs : List Loc) (ls : Array Slot), f_X5_ender_101  kL60 v4_101 v5_101 = some R → lv_has ls 6 [(0, .ref (ad 0)), (1, .int x1), (2, .int x2), (4, .int v4_101), (5, .int v5_101)] → va_P D vwCl (wd_X5_ender cI ad writers year taped at_ statements hasImage isKeeping cursor forgottenWhen rowMany refused_u60 kind figure style silent) H → va_D A (wd_X5_ender cI ad writers year taped at_ statements hasImage isKeeping cursor forgottenWhen rowMany refused_u60 kind figure style silent) → va_S A s.heap H locs → Wh p l e 3 s m args below meth c H locs Q (F0 m 101 ls []) := by
  have hx := X.1
  have hb := X.2.1
  intro v4_101 v5_101 H locs ls hf hl hP hD hS
  replace hf : (kL60 v4_101 (v5_101 + (1 : Int32))) = some R := hf
  refine lv_iinc (v := (v5_101 + (1 : Int32))) (lv' := [(5, .int (v5_101 + (1 : Int32))), (0, .ref (ad 0)), (1, .int x1), (2, .int x2), (4, .int v4_101)]) hx hb dX5_ender_101 hl (k := 4) rfl rfl (by decide) rfl (fun ls hl => ?_)
  refine lv_goto (tgt := 60) hx hb dX5_ender_104 (by decide) ?_
  exact hkL60 v4_101 (v5_101 + (1 : Int32)) _ _ _ hf (lv_sub hl [1, 2, 3, 4, 0] rfl) hP hD hS
set_option maxHeartbeats 4000000 in
set_option maxRecDepth 100000 in
theorem w_X5_ender_97 {p : Program} {l : Launch} {e : Env} {s : State} {m : MethodId} {args : Array Value} {below : List Frame} {meth : Method} {c : Code} {D : va_G} {cI : ClassId} {aS : aSt} {A : Nat → Prop} {Q : State → Prop}  (ad : Nat → Nat) (writers : Int32) (year : Int32) (taped : Int32) (at_ : Int32) (statements : Int32) (hasImage : Int32) (isKeeping : Int32) (cursor : Int32) (forgottenWhen : Int32) (rowMany : Int32) (kind : (Nat → Int32)) (figure : (Nat → Int32)) (style : (Nat → Int32)) (silent : (Nat → Int32)) (x1 : Int32) (x2 : Int32) (refused_u60 : (Nat → Int32)) {R : Int32 × (Nat → Int32)} (X : Bx p s m args meth c cX5_ender 6 (some .int) RX5 D cI aS A) (hret : RtI p l e 3 s m args below meth c cX5_ender (some .int) D A (wd_X5_ender cI ad writers year taped at_ statements hasImage isKeeping cursor forgottenWhen rowMany R.2 kind figure style silent) R.1 Q) (kL60 : Int32 → Int32 → Option (Int32 × (Nat → Int32))) (hkL60 : ∀ (v4_60 : Int32) (v5_60 : Int32) (H : Heap) (locs : List Loc) (ls : Array Slot), kL60 v4_60 v5_60 = some R → lv_has ls 6 [(0, .ref (ad 0)), (1, .int x1), (2, .int x2), (4, .int v4_60), (5, .int v5_60)] → va_P D vwCl (wd_X5_ender cI ad writers year taped at_ statements hasImage isKeeping cursor forgottenWhen rowMany refused_u60 kind figure style silent) H → va_D A (wd_X5_ender cI ad writers year taped at_ statements hasImage isKeeping cursor forgottenWhen rowMany refused_u60 kind figure style silent) → va_S A s.heap H locs → Wh p l e 3 s m args below meth c H locs Q (F0 m 60 ls [])) : ∀ (v5_97 : Int32) (H : Heap) (locs : List Loc) (ls : Array Slot), f_X5_ender_97  kL60 v5_97 = some R → lv_has ls 6 [(0, .ref (ad 0)), (1, .int x1), (2, .int x2), (5, .int v5_97)] → va_P D vwCl (wd_X5_ender cI ad writers year taped at_ statements hasImage isKeeping cursor forgottenWhen rowMany refused_u60 kind figure style silent) H → va_D A (wd_X5_ender cI ad writers year taped at_ statements hasImage isKeeping cursor forgottenWhen rowMany refused_u60 kind figure style silent) → va_S A s.heap H locs → Wh p l e 3 s m args below meth c H locs Q (F0 m 97 ls []) := by
  have hx := X.1
  have hb := X.2.1
  intro v5_97 H locs ls hf hl hP hD hS
  replace hf : (f_X5_ender_101  kL60 v5_97 v5_97) = some R := hf
  refine lv_iload hx hb dX5_ender_97 (lv_at hl 3 rfl) ?_
  refine lv_istore (lv' := [(4, .int v5_97), (0, .ref (ad 0)), (1, .int x1), (2, .int x2), (5, .int v5_97)]) hx hb dX5_ender_99 hl (by decide) rfl (fun ls hl => ?_)
  exact w_X5_ender_101 ad writers year taped at_ statements hasImage isKeeping cursor forgottenWhen rowMany kind figure style silent x1 x2 refused_u60 X hret _ hkL60 v5_97 v5_97 _ _ _ hf (lv_sub hl [1, 2, 3, 0, 4] rfl) hP hD hS
set_option maxHeartbeats 4000000 in
set_option maxRecDepth 100000 in
theorem w_X5_ender_60 {p : Program} {l : Launch} {e : Env} {s : State} {m : MethodId} {args : Array Value} {below : List Frame} {meth : Method} {c : Code} {D : va_G} {cI : ClassId} {aS : aSt} {A : Nat → Prop} {Q : State → Prop}  (ad : Nat → Nat) (writers : Int32) (year : Int32) (taped : Int32) (at_ : Int32) (statements : Int32) (hasImage : Int32) (isKeeping : Int32) (cursor : Int32) (forgottenWhen : Int32) (rowMany : Int32) (kind : (Nat → Int32)) (figure : (Nat → Int32)) (style : (Nat → Int32)) (silent : (Nat → Int32)) (x1 : Int32) (x2 : Int32) (refused_u60 : (Nat → Int32)) {R : Int32 × (Nat → Int32)} (X : Bx p s m args meth c cX5_ender 6 (some .int) RX5 D cI aS A) (hret : RtI p l e 3 s m args below meth c cX5_ender (some .int) D A (wd_X5_ender cI ad writers year taped at_ statements hasImage isKeeping cursor forgottenWhen rowMany R.2 kind figure style silent) R.1 Q) (kX60_107 : Int32 → Option (Int32 × (Nat → Int32))) (hkX60_107 : ∀ (v4_107 : Int32) (H : Heap) (locs : List Loc) (ls : Array Slot), kX60_107 v4_107 = some R → lv_has ls 6 [(0, .ref (ad 0)), (1, .int x1), (2, .int x2), (4, .int v4_107)] → va_P D vwCl (wd_X5_ender cI ad writers year taped at_ statements hasImage isKeeping cursor forgottenWhen rowMany refused_u60 kind figure style silent) H → va_D A (wd_X5_ender cI ad writers year taped at_ statements hasImage isKeeping cursor forgottenWhen rowMany refused_u60 kind figure style silent) → va_S A s.heap H locs → Wh p l e 3 s m args below meth c H locs Q (F0 m 107 ls [])) : ∀ (fuel : Nat) (v4_60 : Int32) (v5_60 : Int32) (H : Heap) (locs : List Loc) (ls : Array Slot), f_X5_ender_60 writers year kind figure style x1 kX60_107 fuel v4_60 v5_60 = some R → lv_has ls 6 [(0, .ref (ad 0)), (1, .int x1), (2, .int x2), (4, .int v4_60), (5, .int v5_60)] → va_P D vwCl (wd_X5_ender cI ad writers year taped at_ statements hasImage isKeeping cursor forgottenWhen rowMany refused_u60 kind figure style silent) H → va_D A (wd_X5_ender cI ad writers year taped at_ statements hasImage isKeeping cursor forgottenWhen rowMany refused_u60 kind figure style silent) → va_S A s.heap H locs → Wh p l e 3 s m args below meth c H locs Q (F0 m 60 ls []) := by
  have hx := X.1
  have hb := X.2.1
  intro fuel
  induction fuel with
  | zero =>
    intro v4_60 v5_60 H locs ls hf hl hP hD hS
    cases hf
  | succ fuel ih =>
    intro v4_60 v5_60 H locs ls hf hl hP hD hS
    replace hf : (if writers ≤ v5_60 then (kX60_107 v4_60) else (if v5_60 = x1 then (f_X5_ender_101  (f_X5_ender_60 writers year kind figure style x1 kX60_107 fuel) v4_60 v5_60) else (if v4_60 < 0 then (f_X5_ender_97  (f_X5_ender_60 writers year kind figure style x1 kX60_107 fuel) v5_60) else ((f_X5_worthEnded year kind figure style x1 v5_60).bind fun (r84 : Int32) => ((f_X5_worthEnded year kind figure style x1 v4_60).bind fun (r91 : Int32) => (if r84 ≤ r91 then (f_X5_ender_101  (f_X5_ender_60 writers year kind figure style x1 kX60_107 fuel) v4_60 v5_60) else (f_X5_ender_97  (f_X5_ender_60 writers year kind figure style x1 kX60_107 fuel) v5_60))))))) = some R := hf
    refine lv_iload hx hb dX5_ender_60 (lv_at hl 4 rfl) ?_
    refine lv_aload_n hx hb dX5_ender_62 rfl (lv_at hl 0 rfl) ?_
    refine fgX5_55 X hP (q0 := 0) rfl rfl dX5_ender_63 ?_
    refine lv_icmp_ge (tgt := 107) hx hb dX5_ender_66 (by decide) (fun c66 => ?_) (fun c66 => ?_)
    · have hf := iT c66 hf
      exact hkX60_107 v4_60 _ _ _ hf (lv_sub hl [0, 1, 2, 3] rfl) hP hD hS
    · have hf := iF c66 hf
      refine lv_iload hx hb dX5_ender_69 (lv_at hl 4 rfl) ?_
      refine lv_iload_n hx hb dX5_ender_71 rfl (lv_at hl 1 rfl) ?_
      refine lv_icmp_eq (tgt := 101) hx hb dX5_ender_72 (by decide) (fun c72 => ?_) (fun c72 => ?_)
      · have hf := iT c72 hf
        exact w_X5_ender_101 ad writers year taped at_ statements hasImage isKeeping cursor forgottenWhen rowMany kind figure style silent x1 x2 refused_u60 X hret _ ih v4_60 v5_60 _ _ _ hf (lv_sub hl [0, 1, 2, 3, 4] rfl) hP hD hS
      · have hf := iF c72 hf
        refine lv_iload hx hb dX5_ender_75 (lv_at hl 3 rfl) ?_
        refine lv_if_lt (tgt := 97) hx hb dX5_ender_77 (by decide) (fun c77 => ?_) (fun c77 => ?_)
        · have hf := iT c77 hf
          exact w_X5_ender_97 ad writers year taped at_ statements hasImage isKeeping cursor forgottenWhen rowMany kind figure style silent x1 x2 refused_u60 X hret _ ih v5_60 _ _ _ hf (lv_sub hl [0, 1, 2, 4] rfl) hP hD hS
        · have hf := iF c77 hf
          refine lv_aload_n hx hb dX5_ender_80 rfl (lv_at hl 0 rfl) ?_
          refine lv_iload_n hx hb dX5_ender_81 rfl (lv_at hl 1 rfl) ?_
          refine lv_iload hx hb dX5_ender_82 (lv_at hl 4 rfl) ?_
          obtain ⟨r84, hq84, hf⟩ := bS hf
          refine ro_i X hP hD hS [0, 2, 3, 4] rfl (run_V X hP hD hS [0, 2, 3, 4] rfl rfl (c_X5_worthEnded l D cI aS ad writers year taped at_ statements hasImage isKeeping cursor forgottenWhen rowMany kind figure style x1 v5_60 _ hq84 _) lkX5_230 (by decide) (q0 := 0) rfl rfl rfl rfl (Nat.le_of_ble_eq_true rfl) hl.1 dX5_ender_84) (fun H locs hP hS => ?_)
          refine lv_aload_n hx hb dX5_ender_87 rfl (lv_at hl 0 rfl) ?_
          refine lv_iload_n hx hb dX5_ender_88 rfl (lv_at hl 1 rfl) ?_
          refine lv_iload hx hb dX5_ender_89 (lv_at hl 3 rfl) ?_
          obtain ⟨r91, hq91, hf⟩ := bS hf
          refine ro_i X hP hD hS [0, 2, 3, 4] rfl (run_V X hP hD hS [0, 2, 3, 4] rfl rfl (c_X5_worthEnded l D cI aS ad writers year taped at_ statements hasImage isKeeping cursor forgottenWhen rowMany kind figure style x1 v4_60 _ hq91 _) lkX5_230 (by decide) (q0 := 0) rfl rfl rfl rfl (Nat.le_of_ble_eq_true rfl) hl.1 dX5_ender_91) (fun H locs hP hS => ?_)
          refine lv_icmp_le (tgt := 101) hx hb dX5_ender_94 (by decide) (fun c94 => ?_) (fun c94 => ?_)
          · have hf := iT c94 hf
            exact w_X5_ender_101 ad writers year taped at_ statements hasImage isKeeping cursor forgottenWhen rowMany kind figure style silent x1 x2 refused_u60 X hret _ ih v4_60 v5_60 _ _ _ hf (lv_sub hl [0, 1, 2, 3, 4] rfl) hP hD hS
          · have hf := iF c94 hf
            exact w_X5_ender_97 ad writers year taped at_ statements hasImage isKeeping cursor forgottenWhen rowMany kind figure style silent x1 x2 refused_u60 X hret _ ih v5_60 _ _ _ hf (lv_sub hl [0, 1, 2, 4] rfl) hP hD hS
set_option maxHeartbeats 4000000 in
set_option maxRecDepth 100000 in
theorem w_X5_ender_107 {p : Program} {l : Launch} {e : Env} {s : State} {m : MethodId} {args : Array Value} {below : List Frame} {meth : Method} {c : Code} {D : va_G} {cI : ClassId} {aS : aSt} {A : Nat → Prop} {Q : State → Prop}  (ad : Nat → Nat) (writers : Int32) (year : Int32) (taped : Int32) (at_ : Int32) (statements : Int32) (hasImage : Int32) (isKeeping : Int32) (cursor : Int32) (forgottenWhen : Int32) (rowMany : Int32) (kind : (Nat → Int32)) (figure : (Nat → Int32)) (style : (Nat → Int32)) (silent : (Nat → Int32)) (x1 : Int32) (x2 : Int32) {R : Int32 × (Nat → Int32)} (X : Bx p s m args meth c cX5_ender 6 (some .int) RX5 D cI aS A) (hret : RtI p l e 3 s m args below meth c cX5_ender (some .int) D A (wd_X5_ender cI ad writers year taped at_ statements hasImage isKeeping cursor forgottenWhen rowMany R.2 kind figure style silent) R.1 Q) : ∀ (v4_107 : Int32) (refused_107 : (Nat → Int32)) (H : Heap) (locs : List Loc) (ls : Array Slot), f_X5_ender_107 year kind figure style x1 x2  v4_107 refused_107 = some R → lv_has ls 6 [(0, .ref (ad 0)), (1, .int x1), (2, .int x2), (4, .int v4_107)] → va_P D vwCl (wd_X5_ender cI ad writers year taped at_ statements hasImage isKeeping cursor forgottenWhen rowMany refused_107 kind figure style silent) H → va_D A (wd_X5_ender cI ad writers year taped at_ statements hasImage isKeeping cursor forgottenWhen rowMany refused_107 kind figure style silent) → va_S A s.heap H locs → Wh p l e 3 s m args below meth c H locs Q (F0 m 107 ls []) := by
  have hx := X.1
  have hb := X.2.1
  intro v4_107 refused_107 H locs ls hf hl hP hD hS
  replace hf : (if x2 = 0 then (some (v4_107, refused_107)) else (if 0 ≤ v4_107 then ((f_X5_worthEnded year kind figure style x1 v4_107).bind fun (r129 : Int32) => (some (r129, refused_107))) else (some ((0 : Int32), refused_107)))) = some R := hf
  refine lv_iload_n hx hb dX5_ender_107 rfl (lv_at hl 2 rfl) ?_
  refine lv_if_ne (tgt := 116) hx hb dX5_ender_108 (by decide) (fun c108 => ?_) (fun c108 => ?_)
  · have hf := iF c108 hf
    refine lv_iload hx hb dX5_ender_116 (lv_at hl 3 rfl) ?_
    refine lv_if_ge (tgt := 125) hx hb dX5_ender_118 (by decide) (fun c118 => ?_) (fun c118 => ?_)
    · have hf := iT c118 hf
      refine lv_aload_n hx hb dX5_ender_125 rfl (lv_at hl 0 rfl) ?_
      refine lv_iload_n hx hb dX5_ender_126 rfl (lv_at hl 1 rfl) ?_
      refine lv_iload hx hb dX5_ender_127 (lv_at hl 3 rfl) ?_
      obtain ⟨r129, hq129, hf⟩ := bS hf
      refine ro_i X hP hD hS [0, 2, 3, 4] rfl (run_V X hP hD hS [0, 2, 3, 4] rfl rfl (c_X5_worthEnded l D cI aS ad writers year taped at_ statements hasImage isKeeping cursor forgottenWhen rowMany kind figure style x1 v4_107 _ hq129 _) lkX5_230 (by decide) (q0 := 0) rfl rfl rfl rfl (Nat.le_of_ble_eq_true rfl) hl.1 dX5_ender_129) (fun H locs hP hS => ?_)
      have hR := Option.some.inj hf
      subst hR
      exact hret _ _ _ _ _ rfl (fun _ hn => by cases hn; rfl) hP hD hS dX5_ender_132
    · have hf := iF c118 hf
      refine lv_iconst (v := 0) hx hb dX5_ender_121 (by decide) ?_
      refine lv_goto (tgt := 132) hx hb dX5_ender_122 (by decide) ?_
      have hR := Option.some.inj hf
      subst hR
      exact hret _ _ _ _ _ rfl (fun _ hn => by cases hn; rfl) hP hD hS dX5_ender_132
  · have hf := iT c108 hf
    refine lv_iload hx hb dX5_ender_111 (lv_at hl 3 rfl) ?_
    refine lv_goto (tgt := 132) hx hb dX5_ender_113 (by decide) ?_
    have hR := Option.some.inj hf
    subst hR
    exact hret _ _ _ _ _ rfl (fun _ hn => by cases hn; rfl) hP hD hS dX5_ender_132
set_option maxHeartbeats 4000000 in
set_option maxRecDepth 100000 in
theorem w_X5_ender_42 {p : Program} {l : Launch} {e : Env} {s : State} {m : MethodId} {args : Array Value} {below : List Frame} {meth : Method} {c : Code} {D : va_G} {cI : ClassId} {aS : aSt} {A : Nat → Prop} {Q : State → Prop}  (ad : Nat → Nat) (writers : Int32) (year : Int32) (taped : Int32) (at_ : Int32) (statements : Int32) (hasImage : Int32) (isKeeping : Int32) (cursor : Int32) (forgottenWhen : Int32) (rowMany : Int32) (kind : (Nat → Int32)) (figure : (Nat → Int32)) (style : (Nat → Int32)) (silent : (Nat → Int32)) (x1 : Int32) (x2 : Int32) {R : Int32 × (Nat → Int32)} (X : Bx p s m args meth c cX5_ender 6 (some .int) RX5 D cI aS A) (hret : RtI p l e 3 s m args below meth c cX5_ender (some .int) D A (wd_X5_ender cI ad writers year taped at_ statements hasImage isKeeping cursor forgottenWhen rowMany R.2 kind figure style silent) R.1 Q) : ∀ (refused_42 : (Nat → Int32)) (t0_42 : Int32) (H : Heap) (locs : List Loc) (ls : Array Slot), f_X5_ender_42 writers year kind figure style x1 x2  refused_42 t0_42 = some R → lv_has ls 6 [(0, .ref (ad 0)), (1, .int x1), (2, .int x2)] → va_P D vwCl (wd_X5_ender cI ad writers year taped at_ statements hasImage isKeeping cursor forgottenWhen rowMany refused_42 kind figure style silent) H → va_D A (wd_X5_ender cI ad writers year taped at_ statements hasImage isKeeping cursor forgottenWhen rowMany refused_42 kind figure style silent) → va_S A s.heap H locs → Wh p l e 3 s m args below meth c H locs Q (F0 m 42 ls [.int t0_42]) := by
  have hx := X.1
  have hb := X.2.1
  intro refused_42 t0_42 H locs ls hf hl hP hD hS
  replace hf : (if t0_42 = 0 then (f_X5_ender_60 writers year kind figure style x1 (fun (v4_107 : Int32) => (f_X5_ender_107 year kind figure style x1 x2  v4_107 refused_42)) FU (-9 : Int32) (0 : Int32)) else ((f_X5_lower refused_42 t0_42).bind fun (r49 : Int32 × (Nat → Int32)) => (some (r49.1, r49.2)))) = some R := hf
  refine lv_istore_n (lv' := [(3, .int t0_42), (0, .ref (ad 0)), (1, .int x1), (2, .int x2)]) hx hb dX5_ender_42 rfl hl (by decide) rfl (fun ls hl => ?_)
  refine lv_iload_n hx hb dX5_ender_43 rfl (lv_at hl 0 rfl) ?_
  refine lv_if_eq (tgt := 53) hx hb dX5_ender_44 (by decide) (fun c44 => ?_) (fun c44 => ?_)
  · have hf := iT c44 hf
    refine lv_bipush (v := -9) hx hb dX5_ender_53 (by decide) ?_
    refine lv_istore (lv' := [(4, .int (-9 : Int32)), (3, .int t0_42), (0, .ref (ad 0)), (1, .int x1), (2, .int x2)]) hx hb dX5_ender_55 hl (by decide) rfl (fun ls hl => ?_)
    refine lv_iconst (v := 0) hx hb dX5_ender_57 (by decide) ?_
    refine lv_istore (lv' := [(5, .int (0 : Int32)), (4, .int (-9 : Int32)), (3, .int t0_42), (0, .ref (ad 0)), (1, .int x1), (2, .int x2)]) hx hb dX5_ender_58 hl (by decide) rfl (fun ls hl => ?_)
    exact w_X5_ender_60 ad writers year taped at_ statements hasImage isKeeping cursor forgottenWhen rowMany kind figure style silent x1 x2 refused_42 X hret _ (fun v4_107 _ _ _ hf hl hP hD hS => w_X5_ender_107 ad writers year taped at_ statements hasImage isKeeping cursor forgottenWhen rowMany kind figure style silent x1 x2 X hret  v4_107 refused_42 _ _ _ hf (lv_sub hl [0, 1, 2, 3] rfl) hP hD hS) _ (-9 : Int32) (0 : Int32) _ _ _ hf (lv_sub hl [3, 4, 5, 1, 0] rfl) hP hD hS
  · have hf := iF c44 hf
    refine lv_aload_n hx hb dX5_ender_47 rfl (lv_at hl 1 rfl) ?_
    refine lv_iload_n hx hb dX5_ender_48 rfl (lv_at hl 0 rfl) ?_
    obtain ⟨r49, hq49, hf⟩ := bS hf
    refine wr_i X hP hD hS [0, 1] rfl (ws' := (wd_X5_ender cI ad writers year taped at_ statements hasImage isKeeping cursor forgottenWhen rowMany r49.2 kind figure style silent)) (Nat.le_of_ble_eq_true rfl) rfl rfl (run_V X hP hD hS [0, 1] rfl rfl (c_X5_lower l D cI aS ad writers year taped at_ statements hasImage isKeeping cursor forgottenWhen rowMany refused_42 t0_42 _ hq49 _) lkX5_193 (by decide) (q0 := 0) rfl rfl rfl rfl (Nat.le_of_ble_eq_true rfl) hl.1 dX5_ender_49) (fun H locs hP hD hS => ?_)
    have hR := Option.some.inj hf
    subst hR
    exact hret _ _ _ _ _ rfl (fun _ hn => by cases hn; rfl) hP hD hS dX5_ender_52
set_option maxHeartbeats 4000000 in
set_option maxRecDepth 100000 in
theorem c_X5_ender (l : Launch) (D : va_G) (cI : ClassId) (aS : aSt) (ad : Nat → Nat) (writers : Int32) (year : Int32) (taped : Int32) (at_ : Int32) (statements : Int32) (hasImage : Int32) (isKeeping : Int32) (cursor : Int32) (forgottenWhen : Int32) (rowMany : Int32) (refused : (Nat → Int32)) (kind : (Nat → Int32)) (figure : (Nat → Int32)) (style : (Nat → Int32)) (silent : (Nat → Int32)) (x1 : Int32) (x2 : Int32) (R : Int32 × (Nat → Int32)) (hf : f_X5_ender writers year refused kind figure style silent x1 x2 = some R) : CtI l yX5_ender cX5_ender 6 (some .int) 3 D cI aS [.ref (ad 0), .int x1, .int x2] (wd_X5_ender cI ad writers year taped at_ statements hasImage isKeeping cursor forgottenWhen rowMany refused kind figure style silent) (wd_X5_ender cI ad writers year taped at_ statements hasImage isKeeping cursor forgottenWhen rowMany R.2 kind figure style silent) R.1 := by
  refine ctI_of (by decide) ⟨_, rfl⟩ (Nat.le_of_ble_eq_true rfl) ?_
  intro p e s m below meth c A Q ls X hret hP hD hl
  have hS : va_S A s.heap s.heap [] := va_S.rf
  have hx := X.1
  have hb := X.2.1
  have hl : lv_has ls 6 [(0, .ref (ad 0)), (1, .int x1), (2, .int x2)] := hl
  replace hf : ((f_X5_isOne writers x1).bind fun (r2 : Int32) => (if r2 = 0 then (f_X5_ender_42 writers year kind figure style x1 x2  refused (-1 : Int32)) else ((f_X5_isIn x2 (0 : Int32) (1 : Int32)).bind fun (r15 : Int32) => (if r15 = 0 then (f_X5_ender_42 writers year kind figure style x1 x2  refused (-2 : Int32)) else (gd x1 7 (if (silent (Int32.toNatClampNeg x1)) = (1 : Int32) then (f_X5_ender_42 writers year kind figure style x1 x2  refused (-3 : Int32)) else (f_X5_ender_42 writers year kind figure style x1 x2  refused (0 : Int32)))))))) = some R := hf
  refine lv_aload_n hx hb dX5_ender_0 rfl (lv_at hl 0 rfl) ?_
  refine lv_iload_n hx hb dX5_ender_1 rfl (lv_at hl 1 rfl) ?_
  obtain ⟨r2, hq2, hf⟩ := bS hf
  refine ro_i X hP hD hS [0] rfl (run_V X hP hD hS [0] rfl rfl (c_X5_isOne l D cI aS ad writers year taped at_ statements hasImage isKeeping cursor forgottenWhen rowMany x1 _ hq2 _) lkX5_108 (by decide) (q0 := 0) rfl rfl rfl rfl (Nat.le_of_ble_eq_true rfl) hl.1 dX5_ender_2) (fun H locs hP hS => ?_)
  refine lv_if_ne (tgt := 12) hx hb dX5_ender_5 (by decide) (fun c5 => ?_) (fun c5 => ?_)
  · have hf := iF c5 hf
    refine lv_iload_n hx hb dX5_ender_12 rfl (lv_at hl 2 rfl) ?_
    refine lv_iconst (v := 0) hx hb dX5_ender_13 (by decide) ?_
    refine lv_iconst (v := 1) hx hb dX5_ender_14 (by decide) ?_
    obtain ⟨r15, hq15, hf⟩ := bS hf
    refine ro_i X hP hD hS [] rfl (run_S X hP hD hS [] rfl rfl (c_X5_isIn l D cI aS x2 (0 : Int32) (1 : Int32) _ hq15 _) lkX5_80 (by decide) rfl rfl (Nat.le_of_ble_eq_true rfl) hl.1 dX5_ender_15) (fun H locs hP hS => ?_)
    refine lv_if_ne (tgt := 26) hx hb dX5_ender_18 (by decide) (fun c18 => ?_) (fun c18 => ?_)
    · have hf := iF c18 hf
      refine lv_aload_n hx hb dX5_ender_26 rfl (lv_at hl 0 rfl) ?_
      refine fgX5_25 X hP (q0 := 0) rfl rfl dX5_ender_27 ?_
      refine lv_iload_n hx hb dX5_ender_30 rfl (lv_at hl 1 rfl) ?_
      refine aGet X hP (q0 := 5) rfl (gdS hf).1 dX5_ender_31 ?_
      have hf := (gdS hf).2
      refine lv_iconst (v := 1) hx hb dX5_ender_32 (by decide) ?_
      refine lv_icmp_ne (tgt := 41) hx hb dX5_ender_33 (by decide) (fun c33 => ?_) (fun c33 => ?_)
      · have hf := iF c33 hf
        refine lv_iconst (v := 0) hx hb dX5_ender_41 (by decide) ?_
        exact w_X5_ender_42 ad writers year taped at_ statements hasImage isKeeping cursor forgottenWhen rowMany kind figure style silent x1 x2 X hret  refused (0 : Int32) _ _ _ hf (lv_sub hl [0, 1, 2] rfl) hP hD hS
      · have hf := iT c33 hf
        refine lv_bipush (v := -3) hx hb dX5_ender_36 (by decide) ?_
        refine lv_goto (tgt := 42) hx hb dX5_ender_38 (by decide) ?_
        exact w_X5_ender_42 ad writers year taped at_ statements hasImage isKeeping cursor forgottenWhen rowMany kind figure style silent x1 x2 X hret  refused (-3 : Int32) _ _ _ hf (lv_sub hl [0, 1, 2] rfl) hP hD hS
    · have hf := iT c18 hf
      refine lv_bipush (v := -2) hx hb dX5_ender_21 (by decide) ?_
      refine lv_goto (tgt := 42) hx hb dX5_ender_23 (by decide) ?_
      exact w_X5_ender_42 ad writers year taped at_ statements hasImage isKeeping cursor forgottenWhen rowMany kind figure style silent x1 x2 X hret  refused (-2 : Int32) _ _ _ hf (lv_sub hl [0, 1, 2] rfl) hP hD hS
  · have hf := iT c5 hf
    refine lv_iconst (v := -1) hx hb dX5_ender_8 (by decide) ?_
    refine lv_goto (tgt := 42) hx hb dX5_ender_9 (by decide) ?_
    exact w_X5_ender_42 ad writers year taped at_ statements hasImage isKeeping cursor forgottenWhen rowMany kind figure style silent x1 x2 X hret  refused (-1 : Int32) _ _ _ hf (lv_sub hl [0, 1, 2] rfl) hP hD hS

abbrev wd_X5_ending (cI : ClassId) (ad : Nat → Nat) (writers : Int32) (year : Int32) (taped : Int32) (at_ : Int32) (statements : Int32) (hasImage : Int32) (isKeeping : Int32) (cursor : Int32) (forgottenWhen : Int32) (rowMany : Int32) (refused : (Nat → Int32)) (kind : (Nat → Int32)) (figure : (Nat → Int32)) (style : (Nat → Int32)) (silent : (Nat → Int32)) (ring : (Nat → Int32)) : va_W := [((ad 0), .inr (5, [.ref (ad 1), .ref (ad 2), .ref (ad 3), .ref (ad 4), .ref (ad 5), .ref (ad 6), .ref (ad 7), .int writers, .int year, .ref (ad 8), .ref (ad 9), .ref (ad 10), .ref (ad 11), .int taped, .int at_, .int statements, .ref (ad 12), .int hasImage, .int isKeeping, .int cursor, .int forgottenWhen, .ref (ad 13), .ref (ad 14), .ref (ad 15), .int rowMany])), ((ad 1), .inl (cI, 7, .inl refused)), ((ad 2), .inl (cI, 7, .inl kind)), ((ad 3), .inl (cI, 7, .inl figure)), ((ad 4), .inl (cI, 7, .inl style)), ((ad 6), .inl (cI, 7, .inl silent)), ((ad 7), .inl (cI, 7, .inl ring))]
def f_X5_ending_57  (kL23 : Int32 → Int32 → Option (Int32 × (Nat → Int32))) (v4_57 : Int32) (t0_57 : Int32) (t1_57 : Int32) : Option (Int32 × (Nat → Int32)) := (kL23 (t0_57 + t1_57) (v4_57 + (1 : Int32)))
def f_X5_ending_56  (kL23 : Int32 → Int32 → Option (Int32 × (Nat → Int32))) (v4_56 : Int32) (t0_56 : Int32) : Option (Int32 × (Nat → Int32)) := (f_X5_ending_57  kL23 v4_56 t0_56 (0 : Int32))
def f_X5_ending_23 (writers : Int32) (year : Int32) (kind : (Nat → Int32)) (figure : (Nat → Int32)) (style : (Nat → Int32)) (silent : (Nat → Int32)) (ring : (Nat → Int32)) (x1 : Int32) (refused_u23 : (Nat → Int32))  : Nat → Int32 → Int32 → Option (Int32 × (Nat → Int32))
  | 0 => fun _ _ => none
  | fuel + 1 => fun v3_23 v4_23 => (if writers ≤ v4_23 then (some (v3_23, refused_u23)) else ((f_X5_isEnded writers silent ring v4_23).bind fun (r36 : Int32) => (if r36 = 0 then (f_X5_ending_56  (f_X5_ending_23 writers year kind figure style silent ring x1 refused_u23  fuel) v4_23 v3_23) else ((f_X5_endOf writers year kind figure style silent ring v4_23).bind fun (r45 : Int32) => (if r45 = x1 then (f_X5_ending_57  (f_X5_ending_23 writers year kind figure style silent ring x1 refused_u23  fuel) v4_23 v3_23 (1 : Int32)) else (f_X5_ending_56  (f_X5_ending_23 writers year kind figure style silent ring x1 refused_u23  fuel) v4_23 v3_23))))))
theorem e_X5_ending_23 (writers : Int32) (year : Int32) (kind : (Nat → Int32)) (figure : (Nat → Int32)) (style : (Nat → Int32)) (silent : (Nat → Int32)) (ring : (Nat → Int32)) (x1 : Int32) (refused_u23 : (Nat → Int32))  (fuel : Nat) (v3_23 : Int32) (v4_23 : Int32) : f_X5_ending_23 writers year kind figure style silent ring x1 refused_u23  (fuel + 1) v3_23 v4_23 = (if writers ≤ v4_23 then (some (v3_23, refused_u23)) else ((f_X5_isEnded writers silent ring v4_23).bind fun (r36 : Int32) => (if r36 = 0 then (f_X5_ending_56  (f_X5_ending_23 writers year kind figure style silent ring x1 refused_u23  fuel) v4_23 v3_23) else ((f_X5_endOf writers year kind figure style silent ring v4_23).bind fun (r45 : Int32) => (if r45 = x1 then (f_X5_ending_57  (f_X5_ending_23 writers year kind figure style silent ring x1 refused_u23  fuel) v4_23 v3_23 (1 : Int32)) else (f_X5_ending_56  (f_X5_ending_23 writers year kind figure style silent ring x1 refused_u23  fuel) v4_23 v3_23)))))) := rfl
def f_X5_ending (writers : Int32) (year : Int32) (refused : (Nat → Int32)) (kind : (Nat → Int32)) (figure : (Nat → Int32)) (style : (Nat → Int32)) (silent : (Nat → Int32)) (ring : (Nat → Int32)) (x1 : Int32) : Option (Int32 × (Nat → Int32)) := ((f_X5_bound x1 (0 : Int32) (9 : Int32)).bind fun (r4 : Int32) => (if r4 = 0 then (f_X5_ending_23 writers year kind figure style silent ring x1 refused  FU (0 : Int32) (0 : Int32)) else ((f_X5_no refused r4).bind fun (r14 : Int32 × (Nat → Int32)) => (some (r14.1, r14.2)))))
set_option maxHeartbeats 4000000 in
set_option maxRecDepth 100000 in
theorem w_X5_ending_57 {p : Program} {l : Launch} {e : Env} {s : State} {m : MethodId} {args : Array Value} {below : List Frame} {meth : Method} {c : Code} {D : va_G} {cI : ClassId} {aS : aSt} {A : Nat → Prop} {Q : State → Prop}  (ad : Nat → Nat) (writers : Int32) (year : Int32) (taped : Int32) (at_ : Int32) (statements : Int32) (hasImage : Int32) (isKeeping : Int32) (cursor : Int32) (forgottenWhen : Int32) (rowMany : Int32) (kind : (Nat → Int32)) (figure : (Nat → Int32)) (style : (Nat → Int32)) (silent : (Nat → Int32)) (ring : (Nat → Int32)) (x1 : Int32) (refused_u23 : (Nat → Int32)) {R : Int32 × (Nat → Int32)} (X : Bx p s m args meth c cX5_ending 5 (some .int) RX5 D cI aS A) (hret : RtI p l e 3 s m args below meth c cX5_ending (some .int) D A (wd_X5_ending cI ad writers year taped at_ statements hasImage isKeeping cursor forgottenWhen rowMany R.2 kind figure style silent ring) R.1 Q) (kL23 : Int32 → Int32 → Option (Int32 × (Nat → Int32))) (hkL23 : ∀ (v3_23 : Int32) (v4_23 : Int32) (H : Heap) (locs : List Loc) (ls : Array Slot), kL23 v3_23 v4_23 = some R → lv_has ls 5 [(0, .ref (ad 0)), (1, .int x1), (3, .int v3_23), (4, .int v4_23)] → va_P D vwCl (wd_X5_ending cI ad writers year taped at_ statements hasImage isKeeping cursor forgottenWhen rowMany refused_u23 kind figure style silent ring) H → va_D A (wd_X5_ending cI ad writers year taped at_ statements hasImage isKeeping cursor forgottenWhen rowMany refused_u23 kind figure style silent ring) → va_S A s.heap H locs → Wh p l e 3 s m args below meth c H locs Q (F0 m 23 ls [])) : ∀ (v4_57 : Int32) (t0_57 : Int32) (t1_57 : Int32) (H : Heap) (locs : List Loc) (ls : Array Slot), f_X5_ending_57  kL23 v4_57 t0_57 t1_57 = some R → lv_has ls 5 [(0, .ref (ad 0)), (1, .int x1), (4, .int v4_57)] → va_P D vwCl (wd_X5_ending cI ad writers year taped at_ statements hasImage isKeeping cursor forgottenWhen rowMany refused_u23 kind figure style silent ring) H → va_D A (wd_X5_ending cI ad writers year taped at_ statements hasImage isKeeping cursor forgottenWhen rowMany refused_u23 kind figure style silent ring) → va_S A s.heap H locs → Wh p l e 3 s m args below meth c H locs Q (F0 m 57 ls [.int t1_57, .int t0_57]) := by
  have hx := X.1
  have hb := X.2.1
  intro v4_57 t0_57 t1_57 H locs ls hf hl hP hD hS
  replace hf : (kL23 (t0_57 + t1_57) (v4_57 + (1 : Int32))) = some R := hf
  refine lv_iadd hx hb dX5_ending_57 ?_
  refine lv_istore_n (lv' := [(3, .int (t0_57 + t1_57)), (0, .ref (ad 0)), (1, .int x1), (4, .int v4_57)]) hx hb dX5_ending_58 rfl hl (by decide) rfl (fun ls hl => ?_)
  refine lv_iinc (v := (v4_57 + (1 : Int32))) (lv' := [(4, .int (v4_57 + (1 : Int32))), (3, .int (t0_57 + t1_57)), (0, .ref (ad 0)), (1, .int x1)]) hx hb dX5_ending_59 hl (k := 3) rfl rfl (by decide) rfl (fun ls hl => ?_)
  refine lv_goto (tgt := 23) hx hb dX5_ending_62 (by decide) ?_
  exact hkL23 (t0_57 + t1_57) (v4_57 + (1 : Int32)) _ _ _ hf (lv_sub hl [2, 3, 1, 0] rfl) hP hD hS
set_option maxHeartbeats 4000000 in
set_option maxRecDepth 100000 in
theorem w_X5_ending_56 {p : Program} {l : Launch} {e : Env} {s : State} {m : MethodId} {args : Array Value} {below : List Frame} {meth : Method} {c : Code} {D : va_G} {cI : ClassId} {aS : aSt} {A : Nat → Prop} {Q : State → Prop}  (ad : Nat → Nat) (writers : Int32) (year : Int32) (taped : Int32) (at_ : Int32) (statements : Int32) (hasImage : Int32) (isKeeping : Int32) (cursor : Int32) (forgottenWhen : Int32) (rowMany : Int32) (kind : (Nat → Int32)) (figure : (Nat → Int32)) (style : (Nat → Int32)) (silent : (Nat → Int32)) (ring : (Nat → Int32)) (x1 : Int32) (refused_u23 : (Nat → Int32)) {R : Int32 × (Nat → Int32)} (X : Bx p s m args meth c cX5_ending 5 (some .int) RX5 D cI aS A) (hret : RtI p l e 3 s m args below meth c cX5_ending (some .int) D A (wd_X5_ending cI ad writers year taped at_ statements hasImage isKeeping cursor forgottenWhen rowMany R.2 kind figure style silent ring) R.1 Q) (kL23 : Int32 → Int32 → Option (Int32 × (Nat → Int32))) (hkL23 : ∀ (v3_23 : Int32) (v4_23 : Int32) (H : Heap) (locs : List Loc) (ls : Array Slot), kL23 v3_23 v4_23 = some R → lv_has ls 5 [(0, .ref (ad 0)), (1, .int x1), (3, .int v3_23), (4, .int v4_23)] → va_P D vwCl (wd_X5_ending cI ad writers year taped at_ statements hasImage isKeeping cursor forgottenWhen rowMany refused_u23 kind figure style silent ring) H → va_D A (wd_X5_ending cI ad writers year taped at_ statements hasImage isKeeping cursor forgottenWhen rowMany refused_u23 kind figure style silent ring) → va_S A s.heap H locs → Wh p l e 3 s m args below meth c H locs Q (F0 m 23 ls [])) : ∀ (v4_56 : Int32) (t0_56 : Int32) (H : Heap) (locs : List Loc) (ls : Array Slot), f_X5_ending_56  kL23 v4_56 t0_56 = some R → lv_has ls 5 [(0, .ref (ad 0)), (1, .int x1), (4, .int v4_56)] → va_P D vwCl (wd_X5_ending cI ad writers year taped at_ statements hasImage isKeeping cursor forgottenWhen rowMany refused_u23 kind figure style silent ring) H → va_D A (wd_X5_ending cI ad writers year taped at_ statements hasImage isKeeping cursor forgottenWhen rowMany refused_u23 kind figure style silent ring) → va_S A s.heap H locs → Wh p l e 3 s m args below meth c H locs Q (F0 m 56 ls [.int t0_56]) := by
  have hx := X.1
  have hb := X.2.1
  intro v4_56 t0_56 H locs ls hf hl hP hD hS
  replace hf : (f_X5_ending_57  kL23 v4_56 t0_56 (0 : Int32)) = some R := hf
  refine lv_iconst (v := 0) hx hb dX5_ending_56 (by decide) ?_
  exact w_X5_ending_57 ad writers year taped at_ statements hasImage isKeeping cursor forgottenWhen rowMany kind figure style silent ring x1 refused_u23 X hret _ hkL23 v4_56 t0_56 (0 : Int32) _ _ _ hf (lv_sub hl [0, 1, 2] rfl) hP hD hS
set_option maxHeartbeats 4000000 in
set_option maxRecDepth 100000 in
theorem w_X5_ending_23 {p : Program} {l : Launch} {e : Env} {s : State} {m : MethodId} {args : Array Value} {below : List Frame} {meth : Method} {c : Code} {D : va_G} {cI : ClassId} {aS : aSt} {A : Nat → Prop} {Q : State → Prop}  (ad : Nat → Nat) (writers : Int32) (year : Int32) (taped : Int32) (at_ : Int32) (statements : Int32) (hasImage : Int32) (isKeeping : Int32) (cursor : Int32) (forgottenWhen : Int32) (rowMany : Int32) (kind : (Nat → Int32)) (figure : (Nat → Int32)) (style : (Nat → Int32)) (silent : (Nat → Int32)) (ring : (Nat → Int32)) (x1 : Int32) (refused_u23 : (Nat → Int32)) {R : Int32 × (Nat → Int32)} (X : Bx p s m args meth c cX5_ending 5 (some .int) RX5 D cI aS A) (hret : RtI p l e 3 s m args below meth c cX5_ending (some .int) D A (wd_X5_ending cI ad writers year taped at_ statements hasImage isKeeping cursor forgottenWhen rowMany R.2 kind figure style silent ring) R.1 Q) : ∀ (fuel : Nat) (v3_23 : Int32) (v4_23 : Int32) (H : Heap) (locs : List Loc) (ls : Array Slot), f_X5_ending_23 writers year kind figure style silent ring x1 refused_u23  fuel v3_23 v4_23 = some R → lv_has ls 5 [(0, .ref (ad 0)), (1, .int x1), (3, .int v3_23), (4, .int v4_23)] → va_P D vwCl (wd_X5_ending cI ad writers year taped at_ statements hasImage isKeeping cursor forgottenWhen rowMany refused_u23 kind figure style silent ring) H → va_D A (wd_X5_ending cI ad writers year taped at_ statements hasImage isKeeping cursor forgottenWhen rowMany refused_u23 kind figure style silent ring) → va_S A s.heap H locs → Wh p l e 3 s m args below meth c H locs Q (F0 m 23 ls []) := by
  have hx := X.1
  have hb := X.2.1
  intro fuel
  induction fuel with
  | zero =>
    intro v3_23 v4_23 H locs ls hf hl hP hD hS
    cases hf
  | succ fuel ih =>
    intro v3_23 v4_23 H locs ls hf hl hP hD hS
    replace hf : (if writers ≤ v4_23 then (some (v3_23, refused_u23)) else ((f_X5_isEnded writers silent ring v4_23).bind fun (r36 : Int32) => (if r36 = 0 then (f_X5_ending_56  (f_X5_ending_23 writers year kind figure style silent ring x1 refused_u23  fuel) v4_23 v3_23) else ((f_X5_endOf writers year kind figure style silent ring v4_23).bind fun (r45 : Int32) => (if r45 = x1 then (f_X5_ending_57  (f_X5_ending_23 writers year kind figure style silent ring x1 refused_u23  fuel) v4_23 v3_23 (1 : Int32)) else (f_X5_ending_56  (f_X5_ending_23 writers year kind figure style silent ring x1 refused_u23  fuel) v4_23 v3_23)))))) = some R := hf
    refine lv_iload hx hb dX5_ending_23 (lv_at hl 3 rfl) ?_
    refine lv_aload_n hx hb dX5_ending_25 rfl (lv_at hl 0 rfl) ?_
    refine fgX5_55 X hP (q0 := 0) rfl rfl dX5_ending_26 ?_
    refine lv_icmp_ge (tgt := 65) hx hb dX5_ending_29 (by decide) (fun c29 => ?_) (fun c29 => ?_)
    · have hf := iT c29 hf
      refine lv_iload_n hx hb dX5_ending_65 rfl (lv_at hl 2 rfl) ?_
      have hR := Option.some.inj hf
      subst hR
      exact hret _ _ _ _ _ rfl (fun _ hn => by cases hn; rfl) hP hD hS dX5_ending_66
    · have hf := iF c29 hf
      refine lv_iload_n hx hb dX5_ending_32 rfl (lv_at hl 2 rfl) ?_
      refine lv_aload_n hx hb dX5_ending_33 rfl (lv_at hl 0 rfl) ?_
      refine lv_iload hx hb dX5_ending_34 (lv_at hl 3 rfl) ?_
      obtain ⟨r36, hq36, hf⟩ := bS hf
      refine ro_i X hP hD hS [0, 5, 6] rfl (run_V X hP hD hS [0, 5, 6] rfl rfl (c_X5_isEnded l D cI aS ad writers year taped at_ statements hasImage isKeeping cursor forgottenWhen rowMany silent ring v4_23 _ hq36 _) lkX5_177 (by decide) (q0 := 0) rfl rfl rfl rfl (Nat.le_of_ble_eq_true rfl) hl.1 dX5_ending_36) (fun H locs hP hS => ?_)
      refine lv_if_eq (tgt := 56) hx hb dX5_ending_39 (by decide) (fun c39 => ?_) (fun c39 => ?_)
      · have hf := iT c39 hf
        exact w_X5_ending_56 ad writers year taped at_ statements hasImage isKeeping cursor forgottenWhen rowMany kind figure style silent ring x1 refused_u23 X hret _ ih v4_23 v3_23 _ _ _ hf (lv_sub hl [0, 1, 3] rfl) hP hD hS
      · have hf := iF c39 hf
        refine lv_aload_n hx hb dX5_ending_42 rfl (lv_at hl 0 rfl) ?_
        refine lv_iload hx hb dX5_ending_43 (lv_at hl 3 rfl) ?_
        obtain ⟨r45, hq45, hf⟩ := bS hf
        refine ro_i X hP hD hS [0, 2, 3, 4, 5, 6] rfl (run_V X hP hD hS [0, 2, 3, 4, 5, 6] rfl rfl (c_X5_endOf l D cI aS ad writers year taped at_ statements hasImage isKeeping cursor forgottenWhen rowMany kind figure style silent ring v4_23 _ hq45 _) lkX5_171 (by decide) (q0 := 0) rfl rfl rfl rfl (Nat.le_of_ble_eq_true rfl) hl.1 dX5_ending_45) (fun H locs hP hS => ?_)
        refine lv_iload_n hx hb dX5_ending_48 rfl (lv_at hl 1 rfl) ?_
        refine lv_icmp_ne (tgt := 56) hx hb dX5_ending_49 (by decide) (fun c49 => ?_) (fun c49 => ?_)
        · have hf := iF c49 hf
          exact w_X5_ending_56 ad writers year taped at_ statements hasImage isKeeping cursor forgottenWhen rowMany kind figure style silent ring x1 refused_u23 X hret _ ih v4_23 v3_23 _ _ _ hf (lv_sub hl [0, 1, 3] rfl) hP hD hS
        · have hf := iT c49 hf
          refine lv_iconst (v := 1) hx hb dX5_ending_52 (by decide) ?_
          refine lv_goto (tgt := 57) hx hb dX5_ending_53 (by decide) ?_
          exact w_X5_ending_57 ad writers year taped at_ statements hasImage isKeeping cursor forgottenWhen rowMany kind figure style silent ring x1 refused_u23 X hret _ ih v4_23 v3_23 (1 : Int32) _ _ _ hf (lv_sub hl [0, 1, 3] rfl) hP hD hS
set_option maxHeartbeats 4000000 in
set_option maxRecDepth 100000 in
theorem c_X5_ending (l : Launch) (D : va_G) (cI : ClassId) (aS : aSt) (ad : Nat → Nat) (writers : Int32) (year : Int32) (taped : Int32) (at_ : Int32) (statements : Int32) (hasImage : Int32) (isKeeping : Int32) (cursor : Int32) (forgottenWhen : Int32) (rowMany : Int32) (refused : (Nat → Int32)) (kind : (Nat → Int32)) (figure : (Nat → Int32)) (style : (Nat → Int32)) (silent : (Nat → Int32)) (ring : (Nat → Int32)) (x1 : Int32) (R : Int32 × (Nat → Int32)) (hf : f_X5_ending writers year refused kind figure style silent ring x1 = some R) : CtI l yX5_ending cX5_ending 5 (some .int) 3 D cI aS [.ref (ad 0), .int x1] (wd_X5_ending cI ad writers year taped at_ statements hasImage isKeeping cursor forgottenWhen rowMany refused kind figure style silent ring) (wd_X5_ending cI ad writers year taped at_ statements hasImage isKeeping cursor forgottenWhen rowMany R.2 kind figure style silent ring) R.1 := by
  refine ctI_of (by decide) ⟨_, rfl⟩ (Nat.le_of_ble_eq_true rfl) ?_
  intro p e s m below meth c A Q ls X hret hP hD hl
  have hS : va_S A s.heap s.heap [] := va_S.rf
  have hx := X.1
  have hb := X.2.1
  have hl : lv_has ls 5 [(0, .ref (ad 0)), (1, .int x1)] := hl
  replace hf : ((f_X5_bound x1 (0 : Int32) (9 : Int32)).bind fun (r4 : Int32) => (if r4 = 0 then (f_X5_ending_23 writers year kind figure style silent ring x1 refused  FU (0 : Int32) (0 : Int32)) else ((f_X5_no refused r4).bind fun (r14 : Int32 × (Nat → Int32)) => (some (r14.1, r14.2))))) = some R := hf
  refine lv_iload_n hx hb dX5_ending_0 rfl (lv_at hl 1 rfl) ?_
  refine lv_iconst (v := 0) hx hb dX5_ending_1 (by decide) ?_
  refine lv_bipush (v := 9) hx hb dX5_ending_2 (by decide) ?_
  obtain ⟨r4, hq4, hf⟩ := bS hf
  refine ro_i X hP hD hS [] rfl (run_S X hP hD hS [] rfl rfl (c_X5_bound l D cI aS x1 (0 : Int32) (9 : Int32) _ hq4 _) lkX5_62 (by decide) rfl rfl (Nat.le_of_ble_eq_true rfl) hl.1 dX5_ending_4) (fun H locs hP hS => ?_)
  refine lv_istore_n (lv' := [(2, .int r4), (0, .ref (ad 0)), (1, .int x1)]) hx hb dX5_ending_7 rfl hl (by decide) rfl (fun ls hl => ?_)
  refine lv_iload_n hx hb dX5_ending_8 rfl (lv_at hl 0 rfl) ?_
  refine lv_if_eq (tgt := 18) hx hb dX5_ending_9 (by decide) (fun c9 => ?_) (fun c9 => ?_)
  · have hf := iT c9 hf
    refine lv_iconst (v := 0) hx hb dX5_ending_18 (by decide) ?_
    refine lv_istore_n (lv' := [(3, .int (0 : Int32)), (2, .int r4), (0, .ref (ad 0)), (1, .int x1)]) hx hb dX5_ending_19 rfl hl (by decide) rfl (fun ls hl => ?_)
    refine lv_iconst (v := 0) hx hb dX5_ending_20 (by decide) ?_
    refine lv_istore (lv' := [(4, .int (0 : Int32)), (3, .int (0 : Int32)), (2, .int r4), (0, .ref (ad 0)), (1, .int x1)]) hx hb dX5_ending_21 hl (by decide) rfl (fun ls hl => ?_)
    exact w_X5_ending_23 ad writers year taped at_ statements hasImage isKeeping cursor forgottenWhen rowMany kind figure style silent ring x1 refused X hret  _ (0 : Int32) (0 : Int32) _ _ _ hf (lv_sub hl [3, 4, 1, 0] rfl) hP hD hS
  · have hf := iF c9 hf
    refine lv_aload_n hx hb dX5_ending_12 rfl (lv_at hl 1 rfl) ?_
    refine lv_iload_n hx hb dX5_ending_13 rfl (lv_at hl 0 rfl) ?_
    obtain ⟨r14, hq14, hf⟩ := bS hf
    refine wr_i X hP hD hS [0, 1] rfl (ws' := (wd_X5_ending cI ad writers year taped at_ statements hasImage isKeeping cursor forgottenWhen rowMany r14.2 kind figure style silent ring)) (Nat.le_of_ble_eq_true rfl) rfl rfl (run_V X hP hD hS [0, 1] rfl rfl (c_X5_no l D cI aS ad writers year taped at_ statements hasImage isKeeping cursor forgottenWhen rowMany refused r4 _ hq14 _) lkX5_69 (by decide) (q0 := 0) rfl rfl rfl rfl (Nat.le_of_ble_eq_true rfl) hl.1 dX5_ending_14) (fun H locs hP hD hS => ?_)
    have hR := Option.some.inj hf
    subst hR
    exact hret _ _ _ _ _ rfl (fun _ hn => by cases hn; rfl) hP hD hS dX5_ending_17

abbrev wd_X5_fameThen (cI : ClassId) (ad : Nat → Nat) (writers : Int32) (year : Int32) (taped : Int32) (at_ : Int32) (statements : Int32) (hasImage : Int32) (isKeeping : Int32) (cursor : Int32) (forgottenWhen : Int32) (rowMany : Int32) (refused : (Nat → Int32)) (kind : (Nat → Int32)) (figure : (Nat → Int32)) (style : (Nat → Int32)) (fame : (Nat → Int32)) (silent : (Nat → Int32)) (ring : (Nat → Int32)) (kept : (Nat → Int32)) : va_W := [((ad 0), .inr (5, [.ref (ad 1), .ref (ad 2), .ref (ad 3), .ref (ad 4), .ref (ad 5), .ref (ad 6), .ref (ad 7), .int writers, .int year, .ref (ad 8), .ref (ad 9), .ref (ad 10), .ref (ad 11), .int taped, .int at_, .int statements, .ref (ad 12), .int hasImage, .int isKeeping, .int cursor, .int forgottenWhen, .ref (ad 13), .ref (ad 14), .ref (ad 15), .int rowMany])), ((ad 1), .inl (cI, 7, .inl refused)), ((ad 2), .inl (cI, 7, .inl kind)), ((ad 3), .inl (cI, 7, .inl figure)), ((ad 4), .inl (cI, 7, .inl style)), ((ad 5), .inl (cI, 7, .inl fame)), ((ad 6), .inl (cI, 7, .inl silent)), ((ad 7), .inl (cI, 7, .inl ring)), ((ad 12), .inl (cI, 132, .inl kept))]
def f_X5_fameThen_19 (x1 : Int32) (x2 : Int32)  (writers_19 : Int32) (year_19 : Int32) (isKeeping_19 : Int32) (cursor_19 : Int32) (refused_19 : (Nat → Int32)) (kind_19 : (Nat → Int32)) (figure_19 : (Nat → Int32)) (style_19 : (Nat → Int32)) (fame_19 : (Nat → Int32)) (silent_19 : (Nat → Int32)) (ring_19 : (Nat → Int32)) (kept_19 : (Nat → Int32)) (t0_19 : Int32) : Option (Int32 × Int32 × Int32 × Int32 × Int32 × (Nat → Int32) × (Nat → Int32) × (Nat → Int32) × (Nat → Int32) × (Nat → Int32) × (Nat → Int32) × (Nat → Int32) × (Nat → Int32)) := (if t0_19 = 0 then ((f_X5_thinks writers_19 year_19 isKeeping_19 cursor_19 kind_19 figure_19 style_19 fame_19 silent_19 ring_19 kept_19).bind fun (r31 : Int32 × Int32 × Int32 × Int32 × (Nat → Int32) × (Nat → Int32) × (Nat → Int32) × (Nat → Int32) × (Nat → Int32) × (Nat → Int32) × (Nat → Int32)) => ((f_X5_goes r31.1 r31.2.1 r31.2.2.2.2.1 r31.2.2.2.2.2.1 r31.2.2.2.2.2.2.1 r31.2.2.2.2.2.2.2.1 r31.2.2.2.2.2.2.2.2.1 r31.2.2.2.2.2.2.2.2.2.1 x2).bind fun (r36 : Int32 × (Nat → Int32)) => (gd x1 7 ((f_X5_forgets r31.1 r36.1 r31.2.2.1 r31.2.2.2.1 r31.2.2.2.2.1 r31.2.2.2.2.2.1 r31.2.2.2.2.2.2.1 r36.2 r31.2.2.2.2.2.2.2.2.1 r31.2.2.2.2.2.2.2.2.2.1 r31.2.2.2.2.2.2.2.2.2.2).bind fun (r48 : Int32 × Int32 × Int32 × Int32 × (Nat → Int32) × (Nat → Int32) × (Nat → Int32) × (Nat → Int32) × (Nat → Int32) × (Nat → Int32) × (Nat → Int32)) => (some ((r36.2 (Int32.toNatClampNeg x1)), r48.1, r48.2.1, r48.2.2.1, r48.2.2.2.1, refused_19, r48.2.2.2.2.1, r48.2.2.2.2.2.1, r48.2.2.2.2.2.2.1, r48.2.2.2.2.2.2.2.1, r48.2.2.2.2.2.2.2.2.1, r48.2.2.2.2.2.2.2.2.2.1, r48.2.2.2.2.2.2.2.2.2.2)))))) else ((f_X5_no refused_19 t0_19).bind fun (r26 : Int32 × (Nat → Int32)) => (some (r26.1, writers_19, year_19, isKeeping_19, cursor_19, r26.2, kind_19, figure_19, style_19, fame_19, silent_19, ring_19, kept_19))))
def f_X5_fameThen (writers : Int32) (year : Int32) (isKeeping : Int32) (cursor : Int32) (refused : (Nat → Int32)) (kind : (Nat → Int32)) (figure : (Nat → Int32)) (style : (Nat → Int32)) (fame : (Nat → Int32)) (silent : (Nat → Int32)) (ring : (Nat → Int32)) (kept : (Nat → Int32)) (x1 : Int32) (x2 : Int32) : Option (Int32 × Int32 × Int32 × Int32 × Int32 × (Nat → Int32) × (Nat → Int32) × (Nat → Int32) × (Nat → Int32) × (Nat → Int32) × (Nat → Int32) × (Nat → Int32) × (Nat → Int32)) := ((f_X5_isOne writers x1).bind fun (r2 : Int32) => (if r2 = 0 then (f_X5_fameThen_19 x1 x2  writers year isKeeping cursor refused kind figure style fame silent ring kept (-1 : Int32)) else ((f_X5_bound x2 (0 : Int32) (60 : Int32)).bind fun (r16 : Int32) => (f_X5_fameThen_19 x1 x2  writers year isKeeping cursor refused kind figure style fame silent ring kept r16))))
set_option maxHeartbeats 4000000 in
set_option maxRecDepth 100000 in
theorem w_X5_fameThen_19 {p : Program} {l : Launch} {e : Env} {s : State} {m : MethodId} {args : Array Value} {below : List Frame} {meth : Method} {c : Code} {D : va_G} {cI : ClassId} {aS : aSt} {A : Nat → Prop} {Q : State → Prop}  (ad : Nat → Nat) (taped : Int32) (at_ : Int32) (statements : Int32) (hasImage : Int32) (forgottenWhen : Int32) (rowMany : Int32) (x1 : Int32) (x2 : Int32) {R : Int32 × Int32 × Int32 × Int32 × Int32 × (Nat → Int32) × (Nat → Int32) × (Nat → Int32) × (Nat → Int32) × (Nat → Int32) × (Nat → Int32) × (Nat → Int32) × (Nat → Int32)} (X : Bx p s m args meth c cX5_fameThen 5 (some .int) RX5 D cI aS A) (hret : RtI p l e 6 s m args below meth c cX5_fameThen (some .int) D A (wd_X5_fameThen cI ad R.2.1 R.2.2.1 taped at_ statements hasImage R.2.2.2.1 R.2.2.2.2.1 forgottenWhen rowMany R.2.2.2.2.2.1 R.2.2.2.2.2.2.1 R.2.2.2.2.2.2.2.1 R.2.2.2.2.2.2.2.2.1 R.2.2.2.2.2.2.2.2.2.1 R.2.2.2.2.2.2.2.2.2.2.1 R.2.2.2.2.2.2.2.2.2.2.2.1 R.2.2.2.2.2.2.2.2.2.2.2.2) R.1 Q) : ∀ (writers_19 : Int32) (year_19 : Int32) (isKeeping_19 : Int32) (cursor_19 : Int32) (refused_19 : (Nat → Int32)) (kind_19 : (Nat → Int32)) (figure_19 : (Nat → Int32)) (style_19 : (Nat → Int32)) (fame_19 : (Nat → Int32)) (silent_19 : (Nat → Int32)) (ring_19 : (Nat → Int32)) (kept_19 : (Nat → Int32)) (t0_19 : Int32) (H : Heap) (locs : List Loc) (ls : Array Slot), f_X5_fameThen_19 x1 x2  writers_19 year_19 isKeeping_19 cursor_19 refused_19 kind_19 figure_19 style_19 fame_19 silent_19 ring_19 kept_19 t0_19 = some R → lv_has ls 5 [(0, .ref (ad 0)), (1, .int x1), (2, .int x2)] → va_P D vwCl (wd_X5_fameThen cI ad writers_19 year_19 taped at_ statements hasImage isKeeping_19 cursor_19 forgottenWhen rowMany refused_19 kind_19 figure_19 style_19 fame_19 silent_19 ring_19 kept_19) H → va_D A (wd_X5_fameThen cI ad writers_19 year_19 taped at_ statements hasImage isKeeping_19 cursor_19 forgottenWhen rowMany refused_19 kind_19 figure_19 style_19 fame_19 silent_19 ring_19 kept_19) → va_S A s.heap H locs → Wh p l e 6 s m args below meth c H locs Q (F0 m 19 ls [.int t0_19]) := by
  have hx := X.1
  have hb := X.2.1
  intro writers_19 year_19 isKeeping_19 cursor_19 refused_19 kind_19 figure_19 style_19 fame_19 silent_19 ring_19 kept_19 t0_19 H locs ls hf hl hP hD hS
  replace hf : (if t0_19 = 0 then ((f_X5_thinks writers_19 year_19 isKeeping_19 cursor_19 kind_19 figure_19 style_19 fame_19 silent_19 ring_19 kept_19).bind fun (r31 : Int32 × Int32 × Int32 × Int32 × (Nat → Int32) × (Nat → Int32) × (Nat → Int32) × (Nat → Int32) × (Nat → Int32) × (Nat → Int32) × (Nat → Int32)) => ((f_X5_goes r31.1 r31.2.1 r31.2.2.2.2.1 r31.2.2.2.2.2.1 r31.2.2.2.2.2.2.1 r31.2.2.2.2.2.2.2.1 r31.2.2.2.2.2.2.2.2.1 r31.2.2.2.2.2.2.2.2.2.1 x2).bind fun (r36 : Int32 × (Nat → Int32)) => (gd x1 7 ((f_X5_forgets r31.1 r36.1 r31.2.2.1 r31.2.2.2.1 r31.2.2.2.2.1 r31.2.2.2.2.2.1 r31.2.2.2.2.2.2.1 r36.2 r31.2.2.2.2.2.2.2.2.1 r31.2.2.2.2.2.2.2.2.2.1 r31.2.2.2.2.2.2.2.2.2.2).bind fun (r48 : Int32 × Int32 × Int32 × Int32 × (Nat → Int32) × (Nat → Int32) × (Nat → Int32) × (Nat → Int32) × (Nat → Int32) × (Nat → Int32) × (Nat → Int32)) => (some ((r36.2 (Int32.toNatClampNeg x1)), r48.1, r48.2.1, r48.2.2.1, r48.2.2.2.1, refused_19, r48.2.2.2.2.1, r48.2.2.2.2.2.1, r48.2.2.2.2.2.2.1, r48.2.2.2.2.2.2.2.1, r48.2.2.2.2.2.2.2.2.1, r48.2.2.2.2.2.2.2.2.2.1, r48.2.2.2.2.2.2.2.2.2.2)))))) else ((f_X5_no refused_19 t0_19).bind fun (r26 : Int32 × (Nat → Int32)) => (some (r26.1, writers_19, year_19, isKeeping_19, cursor_19, r26.2, kind_19, figure_19, style_19, fame_19, silent_19, ring_19, kept_19)))) = some R := hf
  refine lv_istore_n (lv' := [(3, .int t0_19), (0, .ref (ad 0)), (1, .int x1), (2, .int x2)]) hx hb dX5_fameThen_19 rfl hl (by decide) rfl (fun ls hl => ?_)
  refine lv_iload_n hx hb dX5_fameThen_20 rfl (lv_at hl 0 rfl) ?_
  refine lv_if_eq (tgt := 30) hx hb dX5_fameThen_21 (by decide) (fun c21 => ?_) (fun c21 => ?_)
  · have hf := iT c21 hf
    refine lv_aload_n hx hb dX5_fameThen_30 rfl (lv_at hl 1 rfl) ?_
    obtain ⟨r31, hq31, hf⟩ := bS hf
    refine wr_v X hP hD hS [0, 2, 3, 4, 5, 6, 7, 8] rfl (ws' := (wd_X5_fameThen cI ad r31.1 r31.2.1 taped at_ statements hasImage r31.2.2.1 r31.2.2.2.1 forgottenWhen rowMany refused_19 r31.2.2.2.2.1 r31.2.2.2.2.2.1 r31.2.2.2.2.2.2.1 r31.2.2.2.2.2.2.2.1 r31.2.2.2.2.2.2.2.2.1 r31.2.2.2.2.2.2.2.2.2.1 r31.2.2.2.2.2.2.2.2.2.2)) (Nat.le_of_ble_eq_true rfl) rfl rfl (run_V X hP hD hS [0, 2, 3, 4, 5, 6, 7, 8] rfl rfl (c_X5_thinks l D cI aS ad writers_19 year_19 taped at_ statements hasImage isKeeping_19 cursor_19 forgottenWhen rowMany kind_19 figure_19 style_19 fame_19 silent_19 ring_19 kept_19 _ hq31 _) lkX5_200 (by decide) (q0 := 0) rfl rfl rfl rfl (Nat.le_of_ble_eq_true rfl) hl.1 dX5_fameThen_31) (fun H locs hP hD hS => ?_)
    refine lv_aload_n hx hb dX5_fameThen_34 rfl (lv_at hl 1 rfl) ?_
    refine lv_iload_n hx hb dX5_fameThen_35 rfl (lv_at hl 3 rfl) ?_
    obtain ⟨r36, hq36, hf⟩ := bS hf
    refine wr_v X hP hD hS [0, 2, 3, 4, 5, 6, 7] rfl (ws' := (wd_X5_fameThen cI ad r31.1 r36.1 taped at_ statements hasImage r31.2.2.1 r31.2.2.2.1 forgottenWhen rowMany refused_19 r31.2.2.2.2.1 r31.2.2.2.2.2.1 r31.2.2.2.2.2.2.1 r36.2 r31.2.2.2.2.2.2.2.2.1 r31.2.2.2.2.2.2.2.2.2.1 r31.2.2.2.2.2.2.2.2.2.2)) (Nat.le_of_ble_eq_true rfl) rfl rfl (run_V X hP hD hS [0, 2, 3, 4, 5, 6, 7] rfl rfl (c_X5_goes l D cI aS ad r31.1 r31.2.1 taped at_ statements hasImage r31.2.2.1 r31.2.2.2.1 forgottenWhen rowMany r31.2.2.2.2.1 r31.2.2.2.2.2.1 r31.2.2.2.2.2.2.1 r31.2.2.2.2.2.2.2.1 r31.2.2.2.2.2.2.2.2.1 r31.2.2.2.2.2.2.2.2.2.1 x2 _ hq36 _) lkX5_104 (by decide) (q0 := 0) rfl rfl rfl rfl (Nat.le_of_ble_eq_true rfl) hl.1 dX5_fameThen_36) (fun H locs hP hD hS => ?_)
    refine lv_aload_n hx hb dX5_fameThen_39 rfl (lv_at hl 1 rfl) ?_
    refine fgX5_22 X hP (q0 := 0) rfl rfl dX5_fameThen_40 ?_
    refine lv_iload_n hx hb dX5_fameThen_43 rfl (lv_at hl 2 rfl) ?_
    refine aGet X hP (q0 := 5) rfl (gdS hf).1 dX5_fameThen_44 ?_
    have hf := (gdS hf).2
    refine lv_istore (lv' := [(4, .int (r36.2 (Int32.toNatClampNeg x1))), (3, .int t0_19), (0, .ref (ad 0)), (1, .int x1), (2, .int x2)]) hx hb dX5_fameThen_45 hl (by decide) rfl (fun ls hl => ?_)
    refine lv_aload_n hx hb dX5_fameThen_47 rfl (lv_at hl 2 rfl) ?_
    obtain ⟨r48, hq48, hf⟩ := bS hf
    refine wr_v X hP hD hS [0, 2, 3, 4, 5, 6, 7, 8] rfl (ws' := (wd_X5_fameThen cI ad r48.1 r48.2.1 taped at_ statements hasImage r48.2.2.1 r48.2.2.2.1 forgottenWhen rowMany refused_19 r48.2.2.2.2.1 r48.2.2.2.2.2.1 r48.2.2.2.2.2.2.1 r48.2.2.2.2.2.2.2.1 r48.2.2.2.2.2.2.2.2.1 r48.2.2.2.2.2.2.2.2.2.1 r48.2.2.2.2.2.2.2.2.2.2)) (Nat.le_of_ble_eq_true rfl) rfl rfl (run_V X hP hD hS [0, 2, 3, 4, 5, 6, 7, 8] rfl rfl (c_X5_forgets l D cI aS ad r31.1 r36.1 taped at_ statements hasImage r31.2.2.1 r31.2.2.2.1 forgottenWhen rowMany r31.2.2.2.2.1 r31.2.2.2.2.2.1 r31.2.2.2.2.2.2.1 r36.2 r31.2.2.2.2.2.2.2.2.1 r31.2.2.2.2.2.2.2.2.2.1 r31.2.2.2.2.2.2.2.2.2.2 _ hq48 _) lkX5_203 (by decide) (q0 := 0) rfl rfl rfl rfl (Nat.le_of_ble_eq_true rfl) hl.1 dX5_fameThen_48) (fun H locs hP hD hS => ?_)
    refine lv_iload hx hb dX5_fameThen_51 (lv_at hl 0 rfl) ?_
    have hR := Option.some.inj hf
    subst hR
    exact hret _ _ _ _ _ rfl (fun _ hn => by cases hn; rfl) hP hD hS dX5_fameThen_53
  · have hf := iF c21 hf
    refine lv_aload_n hx hb dX5_fameThen_24 rfl (lv_at hl 1 rfl) ?_
    refine lv_iload_n hx hb dX5_fameThen_25 rfl (lv_at hl 0 rfl) ?_
    obtain ⟨r26, hq26, hf⟩ := bS hf
    refine wr_i X hP hD hS [0, 1] rfl (ws' := (wd_X5_fameThen cI ad writers_19 year_19 taped at_ statements hasImage isKeeping_19 cursor_19 forgottenWhen rowMany r26.2 kind_19 figure_19 style_19 fame_19 silent_19 ring_19 kept_19)) (Nat.le_of_ble_eq_true rfl) rfl rfl (run_V X hP hD hS [0, 1] rfl rfl (c_X5_no l D cI aS ad writers_19 year_19 taped at_ statements hasImage isKeeping_19 cursor_19 forgottenWhen rowMany refused_19 t0_19 _ hq26 _) lkX5_69 (by decide) (q0 := 0) rfl rfl rfl rfl (Nat.le_of_ble_eq_true rfl) hl.1 dX5_fameThen_26) (fun H locs hP hD hS => ?_)
    have hR := Option.some.inj hf
    subst hR
    exact hret _ _ _ _ _ rfl (fun _ hn => by cases hn; rfl) hP hD hS dX5_fameThen_29
set_option maxHeartbeats 4000000 in
set_option maxRecDepth 100000 in
theorem c_X5_fameThen (l : Launch) (D : va_G) (cI : ClassId) (aS : aSt) (ad : Nat → Nat) (writers : Int32) (year : Int32) (taped : Int32) (at_ : Int32) (statements : Int32) (hasImage : Int32) (isKeeping : Int32) (cursor : Int32) (forgottenWhen : Int32) (rowMany : Int32) (refused : (Nat → Int32)) (kind : (Nat → Int32)) (figure : (Nat → Int32)) (style : (Nat → Int32)) (fame : (Nat → Int32)) (silent : (Nat → Int32)) (ring : (Nat → Int32)) (kept : (Nat → Int32)) (x1 : Int32) (x2 : Int32) (R : Int32 × Int32 × Int32 × Int32 × Int32 × (Nat → Int32) × (Nat → Int32) × (Nat → Int32) × (Nat → Int32) × (Nat → Int32) × (Nat → Int32) × (Nat → Int32) × (Nat → Int32)) (hf : f_X5_fameThen writers year isKeeping cursor refused kind figure style fame silent ring kept x1 x2 = some R) : CtI l yX5_fameThen cX5_fameThen 5 (some .int) 6 D cI aS [.ref (ad 0), .int x1, .int x2] (wd_X5_fameThen cI ad writers year taped at_ statements hasImage isKeeping cursor forgottenWhen rowMany refused kind figure style fame silent ring kept) (wd_X5_fameThen cI ad R.2.1 R.2.2.1 taped at_ statements hasImage R.2.2.2.1 R.2.2.2.2.1 forgottenWhen rowMany R.2.2.2.2.2.1 R.2.2.2.2.2.2.1 R.2.2.2.2.2.2.2.1 R.2.2.2.2.2.2.2.2.1 R.2.2.2.2.2.2.2.2.2.1 R.2.2.2.2.2.2.2.2.2.2.1 R.2.2.2.2.2.2.2.2.2.2.2.1 R.2.2.2.2.2.2.2.2.2.2.2.2) R.1 := by
  refine ctI_of (by decide) ⟨_, rfl⟩ (Nat.le_of_ble_eq_true rfl) ?_
  intro p e s m below meth c A Q ls X hret hP hD hl
  have hS : va_S A s.heap s.heap [] := va_S.rf
  have hx := X.1
  have hb := X.2.1
  have hl : lv_has ls 5 [(0, .ref (ad 0)), (1, .int x1), (2, .int x2)] := hl
  replace hf : ((f_X5_isOne writers x1).bind fun (r2 : Int32) => (if r2 = 0 then (f_X5_fameThen_19 x1 x2  writers year isKeeping cursor refused kind figure style fame silent ring kept (-1 : Int32)) else ((f_X5_bound x2 (0 : Int32) (60 : Int32)).bind fun (r16 : Int32) => (f_X5_fameThen_19 x1 x2  writers year isKeeping cursor refused kind figure style fame silent ring kept r16)))) = some R := hf
  refine lv_aload_n hx hb dX5_fameThen_0 rfl (lv_at hl 0 rfl) ?_
  refine lv_iload_n hx hb dX5_fameThen_1 rfl (lv_at hl 1 rfl) ?_
  obtain ⟨r2, hq2, hf⟩ := bS hf
  refine ro_i X hP hD hS [0] rfl (run_V X hP hD hS [0] rfl rfl (c_X5_isOne l D cI aS ad writers year taped at_ statements hasImage isKeeping cursor forgottenWhen rowMany x1 _ hq2 _) lkX5_108 (by decide) (q0 := 0) rfl rfl rfl rfl (Nat.le_of_ble_eq_true rfl) hl.1 dX5_fameThen_2) (fun H locs hP hS => ?_)
  refine lv_if_ne (tgt := 12) hx hb dX5_fameThen_5 (by decide) (fun c5 => ?_) (fun c5 => ?_)
  · have hf := iF c5 hf
    refine lv_iload_n hx hb dX5_fameThen_12 rfl (lv_at hl 2 rfl) ?_
    refine lv_iconst (v := 0) hx hb dX5_fameThen_13 (by decide) ?_
    refine lv_bipush (v := 60) hx hb dX5_fameThen_14 (by decide) ?_
    obtain ⟨r16, hq16, hf⟩ := bS hf
    refine ro_i X hP hD hS [] rfl (run_S X hP hD hS [] rfl rfl (c_X5_bound l D cI aS x2 (0 : Int32) (60 : Int32) _ hq16 _) lkX5_62 (by decide) rfl rfl (Nat.le_of_ble_eq_true rfl) hl.1 dX5_fameThen_16) (fun H locs hP hS => ?_)
    exact w_X5_fameThen_19 ad taped at_ statements hasImage forgottenWhen rowMany x1 x2 X hret  writers year isKeeping cursor refused kind figure style fame silent ring kept r16 _ _ _ hf (lv_sub hl [0, 1, 2] rfl) hP hD hS
  · have hf := iT c5 hf
    refine lv_iconst (v := -1) hx hb dX5_fameThen_8 (by decide) ?_
    refine lv_goto (tgt := 19) hx hb dX5_fameThen_9 (by decide) ?_
    exact w_X5_fameThen_19 ad taped at_ statements hasImage forgottenWhen rowMany x1 x2 X hret  writers year isKeeping cursor refused kind figure style fame silent ring kept (-1 : Int32) _ _ _ hf (lv_sub hl [0, 1, 2] rfl) hP hD hS

abbrev wd_X5_famed (cI : ClassId) (ad : Nat → Nat) (writers : Int32) (year : Int32) (taped : Int32) (at_ : Int32) (statements : Int32) (hasImage : Int32) (isKeeping : Int32) (cursor : Int32) (forgottenWhen : Int32) (rowMany : Int32) (refused : (Nat → Int32)) (fame : (Nat → Int32)) : va_W := [((ad 0), .inr (5, [.ref (ad 1), .ref (ad 2), .ref (ad 3), .ref (ad 4), .ref (ad 5), .ref (ad 6), .ref (ad 7), .int writers, .int year, .ref (ad 8), .ref (ad 9), .ref (ad 10), .ref (ad 11), .int taped, .int at_, .int statements, .ref (ad 12), .int hasImage, .int isKeeping, .int cursor, .int forgottenWhen, .ref (ad 13), .ref (ad 14), .ref (ad 15), .int rowMany])), ((ad 1), .inl (cI, 7, .inl refused)), ((ad 5), .inl (cI, 7, .inl fame))]
def f_X5_famed_19 (x1 : Int32) (x2 : Int32)  (refused_19 : (Nat → Int32)) (fame_19 : (Nat → Int32)) (t0_19 : Int32) : Option (Int32 × (Nat → Int32) × (Nat → Int32)) := (if t0_19 = 0 then (gd x1 7 (gd x1 7 (some ((fame_19 (Int32.toNatClampNeg x1)), refused_19, (upd fame_19 (Int32.toNatClampNeg x1) x2))))) else ((f_X5_no refused_19 t0_19).bind fun (r26 : Int32 × (Nat → Int32)) => (some (r26.1, r26.2, fame_19))))
def f_X5_famed (writers : Int32) (refused : (Nat → Int32)) (fame : (Nat → Int32)) (x1 : Int32) (x2 : Int32) : Option (Int32 × (Nat → Int32) × (Nat → Int32)) := ((f_X5_isOne writers x1).bind fun (r2 : Int32) => (if r2 = 0 then (f_X5_famed_19 x1 x2  refused fame (-1 : Int32)) else ((f_X5_bound x2 (0 : Int32) (99 : Int32)).bind fun (r16 : Int32) => (f_X5_famed_19 x1 x2  refused fame r16))))
set_option maxHeartbeats 4000000 in
set_option maxRecDepth 100000 in
theorem w_X5_famed_19 {p : Program} {l : Launch} {e : Env} {s : State} {m : MethodId} {args : Array Value} {below : List Frame} {meth : Method} {c : Code} {D : va_G} {cI : ClassId} {aS : aSt} {A : Nat → Prop} {Q : State → Prop}  (ad : Nat → Nat) (writers : Int32) (year : Int32) (taped : Int32) (at_ : Int32) (statements : Int32) (hasImage : Int32) (isKeeping : Int32) (cursor : Int32) (forgottenWhen : Int32) (rowMany : Int32) (x1 : Int32) (x2 : Int32) {R : Int32 × (Nat → Int32) × (Nat → Int32)} (X : Bx p s m args meth c cX5_famed 5 (some .int) RX5 D cI aS A) (hret : RtI p l e 1 s m args below meth c cX5_famed (some .int) D A (wd_X5_famed cI ad writers year taped at_ statements hasImage isKeeping cursor forgottenWhen rowMany R.2.1 R.2.2) R.1 Q) : ∀ (refused_19 : (Nat → Int32)) (fame_19 : (Nat → Int32)) (t0_19 : Int32) (H : Heap) (locs : List Loc) (ls : Array Slot), f_X5_famed_19 x1 x2  refused_19 fame_19 t0_19 = some R → lv_has ls 5 [(0, .ref (ad 0)), (1, .int x1), (2, .int x2)] → va_P D vwCl (wd_X5_famed cI ad writers year taped at_ statements hasImage isKeeping cursor forgottenWhen rowMany refused_19 fame_19) H → va_D A (wd_X5_famed cI ad writers year taped at_ statements hasImage isKeeping cursor forgottenWhen rowMany refused_19 fame_19) → va_S A s.heap H locs → Wh p l e 1 s m args below meth c H locs Q (F0 m 19 ls [.int t0_19]) := by
  have hx := X.1
  have hb := X.2.1
  intro refused_19 fame_19 t0_19 H locs ls hf hl hP hD hS
  replace hf : (if t0_19 = 0 then (gd x1 7 (gd x1 7 (some ((fame_19 (Int32.toNatClampNeg x1)), refused_19, (upd fame_19 (Int32.toNatClampNeg x1) x2))))) else ((f_X5_no refused_19 t0_19).bind fun (r26 : Int32 × (Nat → Int32)) => (some (r26.1, r26.2, fame_19)))) = some R := hf
  refine lv_istore_n (lv' := [(3, .int t0_19), (0, .ref (ad 0)), (1, .int x1), (2, .int x2)]) hx hb dX5_famed_19 rfl hl (by decide) rfl (fun ls hl => ?_)
  refine lv_iload_n hx hb dX5_famed_20 rfl (lv_at hl 0 rfl) ?_
  refine lv_if_eq (tgt := 30) hx hb dX5_famed_21 (by decide) (fun c21 => ?_) (fun c21 => ?_)
  · have hf := iT c21 hf
    refine lv_aload_n hx hb dX5_famed_30 rfl (lv_at hl 1 rfl) ?_
    refine fgX5_22 X hP (q0 := 0) rfl rfl dX5_famed_31 ?_
    refine lv_iload_n hx hb dX5_famed_34 rfl (lv_at hl 2 rfl) ?_
    refine aGet X hP (q0 := 2) rfl (gdS hf).1 dX5_famed_35 ?_
    have hf := (gdS hf).2
    refine lv_istore (lv' := [(4, .int (fame_19 (Int32.toNatClampNeg x1))), (3, .int t0_19), (0, .ref (ad 0)), (1, .int x1), (2, .int x2)]) hx hb dX5_famed_36 hl (by decide) rfl (fun ls hl => ?_)
    refine lv_aload_n hx hb dX5_famed_38 rfl (lv_at hl 2 rfl) ?_
    refine fgX5_22 X hP (q0 := 0) rfl rfl dX5_famed_39 ?_
    refine lv_iload_n hx hb dX5_famed_42 rfl (lv_at hl 3 rfl) ?_
    refine lv_iload_n hx hb dX5_famed_43 rfl (lv_at hl 4 rfl) ?_
    refine aPut X hP hD hS (q0 := 2) (ws' := (wd_X5_famed cI ad writers year taped at_ statements hasImage isKeeping cursor forgottenWhen rowMany refused_19 (upd fame_19 (Int32.toNatClampNeg x1) x2))) rfl (gdS hf).1 rfl dX5_famed_44 (fun H locs hP hD hS => ?_)
    have hf := (gdS hf).2
    refine lv_iload hx hb dX5_famed_45 (lv_at hl 0 rfl) ?_
    have hR := Option.some.inj hf
    subst hR
    exact hret _ _ _ _ _ rfl (fun _ hn => by cases hn; rfl) hP hD hS dX5_famed_47
  · have hf := iF c21 hf
    refine lv_aload_n hx hb dX5_famed_24 rfl (lv_at hl 1 rfl) ?_
    refine lv_iload_n hx hb dX5_famed_25 rfl (lv_at hl 0 rfl) ?_
    obtain ⟨r26, hq26, hf⟩ := bS hf
    refine wr_i X hP hD hS [0, 1] rfl (ws' := (wd_X5_famed cI ad writers year taped at_ statements hasImage isKeeping cursor forgottenWhen rowMany r26.2 fame_19)) (Nat.le_of_ble_eq_true rfl) rfl rfl (run_V X hP hD hS [0, 1] rfl rfl (c_X5_no l D cI aS ad writers year taped at_ statements hasImage isKeeping cursor forgottenWhen rowMany refused_19 t0_19 _ hq26 _) lkX5_69 (by decide) (q0 := 0) rfl rfl rfl rfl (Nat.le_of_ble_eq_true rfl) hl.1 dX5_famed_26) (fun H locs hP hD hS => ?_)
    have hR := Option.some.inj hf
    subst hR
    exact hret _ _ _ _ _ rfl (fun _ hn => by cases hn; rfl) hP hD hS dX5_famed_29
set_option maxHeartbeats 4000000 in
set_option maxRecDepth 100000 in
theorem c_X5_famed (l : Launch) (D : va_G) (cI : ClassId) (aS : aSt) (ad : Nat → Nat) (writers : Int32) (year : Int32) (taped : Int32) (at_ : Int32) (statements : Int32) (hasImage : Int32) (isKeeping : Int32) (cursor : Int32) (forgottenWhen : Int32) (rowMany : Int32) (refused : (Nat → Int32)) (fame : (Nat → Int32)) (x1 : Int32) (x2 : Int32) (R : Int32 × (Nat → Int32) × (Nat → Int32)) (hf : f_X5_famed writers refused fame x1 x2 = some R) : CtI l yX5_famed cX5_famed 5 (some .int) 1 D cI aS [.ref (ad 0), .int x1, .int x2] (wd_X5_famed cI ad writers year taped at_ statements hasImage isKeeping cursor forgottenWhen rowMany refused fame) (wd_X5_famed cI ad writers year taped at_ statements hasImage isKeeping cursor forgottenWhen rowMany R.2.1 R.2.2) R.1 := by
  refine ctI_of (by decide) ⟨_, rfl⟩ (Nat.le_of_ble_eq_true rfl) ?_
  intro p e s m below meth c A Q ls X hret hP hD hl
  have hS : va_S A s.heap s.heap [] := va_S.rf
  have hx := X.1
  have hb := X.2.1
  have hl : lv_has ls 5 [(0, .ref (ad 0)), (1, .int x1), (2, .int x2)] := hl
  replace hf : ((f_X5_isOne writers x1).bind fun (r2 : Int32) => (if r2 = 0 then (f_X5_famed_19 x1 x2  refused fame (-1 : Int32)) else ((f_X5_bound x2 (0 : Int32) (99 : Int32)).bind fun (r16 : Int32) => (f_X5_famed_19 x1 x2  refused fame r16)))) = some R := hf
  refine lv_aload_n hx hb dX5_famed_0 rfl (lv_at hl 0 rfl) ?_
  refine lv_iload_n hx hb dX5_famed_1 rfl (lv_at hl 1 rfl) ?_
  obtain ⟨r2, hq2, hf⟩ := bS hf
  refine ro_i X hP hD hS [0] rfl (run_V X hP hD hS [0] rfl rfl (c_X5_isOne l D cI aS ad writers year taped at_ statements hasImage isKeeping cursor forgottenWhen rowMany x1 _ hq2 _) lkX5_108 (by decide) (q0 := 0) rfl rfl rfl rfl (Nat.le_of_ble_eq_true rfl) hl.1 dX5_famed_2) (fun H locs hP hS => ?_)
  refine lv_if_ne (tgt := 12) hx hb dX5_famed_5 (by decide) (fun c5 => ?_) (fun c5 => ?_)
  · have hf := iF c5 hf
    refine lv_iload_n hx hb dX5_famed_12 rfl (lv_at hl 2 rfl) ?_
    refine lv_iconst (v := 0) hx hb dX5_famed_13 (by decide) ?_
    refine lv_bipush (v := 99) hx hb dX5_famed_14 (by decide) ?_
    obtain ⟨r16, hq16, hf⟩ := bS hf
    refine ro_i X hP hD hS [] rfl (run_S X hP hD hS [] rfl rfl (c_X5_bound l D cI aS x2 (0 : Int32) (99 : Int32) _ hq16 _) lkX5_62 (by decide) rfl rfl (Nat.le_of_ble_eq_true rfl) hl.1 dX5_famed_16) (fun H locs hP hS => ?_)
    exact w_X5_famed_19 ad writers year taped at_ statements hasImage isKeeping cursor forgottenWhen rowMany x1 x2 X hret  refused fame r16 _ _ _ hf (lv_sub hl [0, 1, 2] rfl) hP hD hS
  · have hf := iT c5 hf
    refine lv_iconst (v := -1) hx hb dX5_famed_8 (by decide) ?_
    refine lv_goto (tgt := 19) hx hb dX5_famed_9 (by decide) ?_
    exact w_X5_famed_19 ad writers year taped at_ statements hasImage isKeeping cursor forgottenWhen rowMany x1 x2 X hret  refused fame (-1 : Int32) _ _ _ hf (lv_sub hl [0, 1, 2] rfl) hP hD hS

abbrev wd_X5_famous (cI : ClassId) (ad : Nat → Nat) (writers : Int32) (year : Int32) (taped : Int32) (at_ : Int32) (statements : Int32) (hasImage : Int32) (isKeeping : Int32) (cursor : Int32) (forgottenWhen : Int32) (rowMany : Int32) (refused : (Nat → Int32)) (kind : (Nat → Int32)) (figure : (Nat → Int32)) (style : (Nat → Int32)) (fame : (Nat → Int32)) (silent : (Nat → Int32)) (ring : (Nat → Int32)) (kept : (Nat → Int32)) : va_W := [((ad 0), .inr (5, [.ref (ad 1), .ref (ad 2), .ref (ad 3), .ref (ad 4), .ref (ad 5), .ref (ad 6), .ref (ad 7), .int writers, .int year, .ref (ad 8), .ref (ad 9), .ref (ad 10), .ref (ad 11), .int taped, .int at_, .int statements, .ref (ad 12), .int hasImage, .int isKeeping, .int cursor, .int forgottenWhen, .ref (ad 13), .ref (ad 14), .ref (ad 15), .int rowMany])), ((ad 1), .inl (cI, 7, .inl refused)), ((ad 2), .inl (cI, 7, .inl kind)), ((ad 3), .inl (cI, 7, .inl figure)), ((ad 4), .inl (cI, 7, .inl style)), ((ad 5), .inl (cI, 7, .inl fame)), ((ad 6), .inl (cI, 7, .inl silent)), ((ad 7), .inl (cI, 7, .inl ring)), ((ad 12), .inl (cI, 132, .inl kept))]
def f_X5_famous_70 (writers_u41 : Int32) (kind_u41 : (Nat → Int32)) (figure_u41 : (Nat → Int32)) (style_u41 : (Nat → Int32)) (silent_u41 : (Nat → Int32)) (ring_u41 : (Nat → Int32)) (kL41 : Int32 → Int32 → Int32 → (Nat → Int32) → Option (Int32 × Int32 × Int32 × Int32 × Int32 × (Nat → Int32) × (Nat → Int32) × (Nat → Int32) × (Nat → Int32) × (Nat → Int32) × (Nat → Int32) × (Nat → Int32) × (Nat → Int32))) (v5_70 : Int32) (year_70 : Int32) (fame_70 : (Nat → Int32)) (t0_70 : Int32) : Option (Int32 × Int32 × Int32 × Int32 × Int32 × (Nat → Int32) × (Nat → Int32) × (Nat → Int32) × (Nat → Int32) × (Nat → Int32) × (Nat → Int32) × (Nat → Int32) × (Nat → Int32)) := ((f_X5_goesYear writers_u41 year_70 kind_u41 figure_u41 style_u41 fame_70 silent_u41 ring_u41 (0 : Int32)).bind fun (r74 : Int32 × (Nat → Int32)) => (kL41 t0_70 (v5_70 + (1 : Int32)) r74.1 r74.2))
def f_X5_famous_41 (x1 : Int32) (x2 : Int32) (writers_u41 : Int32) (kind_u41 : (Nat → Int32)) (figure_u41 : (Nat → Int32)) (style_u41 : (Nat → Int32)) (silent_u41 : (Nat → Int32)) (ring_u41 : (Nat → Int32)) (kX41_83 : Int32 → Int32 → (Nat → Int32) → Option (Int32 × Int32 × Int32 × Int32 × Int32 × (Nat → Int32) × (Nat → Int32) × (Nat → Int32) × (Nat → Int32) × (Nat → Int32) × (Nat → Int32) × (Nat → Int32) × (Nat → Int32))) : Nat → Int32 → Int32 → Int32 → (Nat → Int32) → Option (Int32 × Int32 × Int32 × Int32 × Int32 × (Nat → Int32) × (Nat → Int32) × (Nat → Int32) × (Nat → Int32) × (Nat → Int32) × (Nat → Int32) × (Nat → Int32) × (Nat → Int32))
  | 0 => fun _ _ _ _ => none
  | fuel + 1 => fun v4_41 v5_41 year_41 fame_41 => (if (60 : Int32) < v5_41 then (kX41_83 v4_41 year_41 fame_41) else (if 0 ≤ v4_41 then (kX41_83 v4_41 year_41 fame_41) else (gd x1 7 (if (fame_41 (Int32.toNatClampNeg x1)) < x2 then (f_X5_famous_70 writers_u41 kind_u41 figure_u41 style_u41 silent_u41 ring_u41 (f_X5_famous_41 x1 x2 writers_u41 kind_u41 figure_u41 style_u41 silent_u41 ring_u41 kX41_83 fuel) v5_41 year_41 fame_41 (-9 : Int32)) else (f_X5_famous_70 writers_u41 kind_u41 figure_u41 style_u41 silent_u41 ring_u41 (f_X5_famous_41 x1 x2 writers_u41 kind_u41 figure_u41 style_u41 silent_u41 ring_u41 kX41_83 fuel) v5_41 year_41 fame_41 v5_41)))))
theorem e_X5_famous_41 (x1 : Int32) (x2 : Int32) (writers_u41 : Int32) (kind_u41 : (Nat → Int32)) (figure_u41 : (Nat → Int32)) (style_u41 : (Nat → Int32)) (silent_u41 : (Nat → Int32)) (ring_u41 : (Nat → Int32)) (kX41_83 : Int32 → Int32 → (Nat → Int32) → Option (Int32 × Int32 × Int32 × Int32 × Int32 × (Nat → Int32) × (Nat → Int32) × (Nat → Int32) × (Nat → Int32) × (Nat → Int32) × (Nat → Int32) × (Nat → Int32) × (Nat → Int32))) (fuel : Nat) (v4_41 : Int32) (v5_41 : Int32) (year_41 : Int32) (fame_41 : (Nat → Int32)) : f_X5_famous_41 x1 x2 writers_u41 kind_u41 figure_u41 style_u41 silent_u41 ring_u41 kX41_83 (fuel + 1) v4_41 v5_41 year_41 fame_41 = (if (60 : Int32) < v5_41 then (kX41_83 v4_41 year_41 fame_41) else (if 0 ≤ v4_41 then (kX41_83 v4_41 year_41 fame_41) else (gd x1 7 (if (fame_41 (Int32.toNatClampNeg x1)) < x2 then (f_X5_famous_70 writers_u41 kind_u41 figure_u41 style_u41 silent_u41 ring_u41 (f_X5_famous_41 x1 x2 writers_u41 kind_u41 figure_u41 style_u41 silent_u41 ring_u41 kX41_83 fuel) v5_41 year_41 fame_41 (-9 : Int32)) else (f_X5_famous_70 writers_u41 kind_u41 figure_u41 style_u41 silent_u41 ring_u41 (f_X5_famous_41 x1 x2 writers_u41 kind_u41 figure_u41 style_u41 silent_u41 ring_u41 kX41_83 fuel) v5_41 year_41 fame_41 v5_41))))) := rfl
def f_X5_famous_83   (v4_83 : Int32) (writers_83 : Int32) (year_83 : Int32) (isKeeping_83 : Int32) (cursor_83 : Int32) (refused_83 : (Nat → Int32)) (kind_83 : (Nat → Int32)) (figure_83 : (Nat → Int32)) (style_83 : (Nat → Int32)) (fame_83 : (Nat → Int32)) (silent_83 : (Nat → Int32)) (ring_83 : (Nat → Int32)) (kept_83 : (Nat → Int32)) : Option (Int32 × Int32 × Int32 × Int32 × Int32 × (Nat → Int32) × (Nat → Int32) × (Nat → Int32) × (Nat → Int32) × (Nat → Int32) × (Nat → Int32) × (Nat → Int32) × (Nat → Int32)) := ((f_X5_forgets writers_83 year_83 isKeeping_83 cursor_83 kind_83 figure_83 style_83 fame_83 silent_83 ring_83 kept_83).bind fun (r84 : Int32 × Int32 × Int32 × Int32 × (Nat → Int32) × (Nat → Int32) × (Nat → Int32) × (Nat → Int32) × (Nat → Int32) × (Nat → Int32) × (Nat → Int32)) => (some (v4_83, r84.1, r84.2.1, r84.2.2.1, r84.2.2.2.1, refused_83, r84.2.2.2.2.1, r84.2.2.2.2.2.1, r84.2.2.2.2.2.2.1, r84.2.2.2.2.2.2.2.1, r84.2.2.2.2.2.2.2.2.1, r84.2.2.2.2.2.2.2.2.2.1, r84.2.2.2.2.2.2.2.2.2.2)))
def f_X5_famous_19 (x1 : Int32) (x2 : Int32)  (writers_19 : Int32) (year_19 : Int32) (isKeeping_19 : Int32) (cursor_19 : Int32) (refused_19 : (Nat → Int32)) (kind_19 : (Nat → Int32)) (figure_19 : (Nat → Int32)) (style_19 : (Nat → Int32)) (fame_19 : (Nat → Int32)) (silent_19 : (Nat → Int32)) (ring_19 : (Nat → Int32)) (kept_19 : (Nat → Int32)) (t0_19 : Int32) : Option (Int32 × Int32 × Int32 × Int32 × Int32 × (Nat → Int32) × (Nat → Int32) × (Nat → Int32) × (Nat → Int32) × (Nat → Int32) × (Nat → Int32) × (Nat → Int32) × (Nat → Int32)) := (if t0_19 = 0 then ((f_X5_thinks writers_19 year_19 isKeeping_19 cursor_19 kind_19 figure_19 style_19 fame_19 silent_19 ring_19 kept_19).bind fun (r31 : Int32 × Int32 × Int32 × Int32 × (Nat → Int32) × (Nat → Int32) × (Nat → Int32) × (Nat → Int32) × (Nat → Int32) × (Nat → Int32) × (Nat → Int32)) => (f_X5_famous_41 x1 x2 r31.1 r31.2.2.2.2.1 r31.2.2.2.2.2.1 r31.2.2.2.2.2.2.1 r31.2.2.2.2.2.2.2.2.1 r31.2.2.2.2.2.2.2.2.2.1 (fun (v4_83 : Int32) (year_83 : Int32) (fame_83 : (Nat → Int32)) => (f_X5_famous_83   v4_83 r31.1 year_83 r31.2.2.1 r31.2.2.2.1 refused_19 r31.2.2.2.2.1 r31.2.2.2.2.2.1 r31.2.2.2.2.2.2.1 fame_83 r31.2.2.2.2.2.2.2.2.1 r31.2.2.2.2.2.2.2.2.2.1 r31.2.2.2.2.2.2.2.2.2.2)) FU (-9 : Int32) (0 : Int32) r31.2.1 r31.2.2.2.2.2.2.2.1)) else ((f_X5_no refused_19 t0_19).bind fun (r26 : Int32 × (Nat → Int32)) => (some (r26.1, writers_19, year_19, isKeeping_19, cursor_19, r26.2, kind_19, figure_19, style_19, fame_19, silent_19, ring_19, kept_19))))
def f_X5_famous (writers : Int32) (year : Int32) (isKeeping : Int32) (cursor : Int32) (refused : (Nat → Int32)) (kind : (Nat → Int32)) (figure : (Nat → Int32)) (style : (Nat → Int32)) (fame : (Nat → Int32)) (silent : (Nat → Int32)) (ring : (Nat → Int32)) (kept : (Nat → Int32)) (x1 : Int32) (x2 : Int32) : Option (Int32 × Int32 × Int32 × Int32 × Int32 × (Nat → Int32) × (Nat → Int32) × (Nat → Int32) × (Nat → Int32) × (Nat → Int32) × (Nat → Int32) × (Nat → Int32) × (Nat → Int32)) := ((f_X5_isOne writers x1).bind fun (r2 : Int32) => (if r2 = 0 then (f_X5_famous_19 x1 x2  writers year isKeeping cursor refused kind figure style fame silent ring kept (-1 : Int32)) else ((f_X5_bound x2 (0 : Int32) (99 : Int32)).bind fun (r16 : Int32) => (f_X5_famous_19 x1 x2  writers year isKeeping cursor refused kind figure style fame silent ring kept r16))))
set_option maxHeartbeats 4000000 in
set_option maxRecDepth 100000 in
theorem w_X5_famous_70 {p : Program} {l : Launch} {e : Env} {s : State} {m : MethodId} {args : Array Value} {below : List Frame} {meth : Method} {c : Code} {D : va_G} {cI : ClassId} {aS : aSt} {A : Nat → Prop} {Q : State → Prop}  (ad : Nat → Nat) (taped : Int32) (at_ : Int32) (statements : Int32) (hasImage : Int32) (forgottenWhen : Int32) (rowMany : Int32) (x1 : Int32) (x2 : Int32) (writers_u41 : Int32) (isKeeping_u41 : Int32) (cursor_u41 : Int32) (refused_u41 : (Nat → Int32)) (kind_u41 : (Nat → Int32)) (figure_u41 : (Nat → Int32)) (style_u41 : (Nat → Int32)) (silent_u41 : (Nat → Int32)) (ring_u41 : (Nat → Int32)) (kept_u41 : (Nat → Int32)) {R : Int32 × Int32 × Int32 × Int32 × Int32 × (Nat → Int32) × (Nat → Int32) × (Nat → Int32) × (Nat → Int32) × (Nat → Int32) × (Nat → Int32) × (Nat → Int32) × (Nat → Int32)} (X : Bx p s m args meth c cX5_famous 6 (some .int) RX5 D cI aS A) (hret : RtI p l e 5 s m args below meth c cX5_famous (some .int) D A (wd_X5_famous cI ad R.2.1 R.2.2.1 taped at_ statements hasImage R.2.2.2.1 R.2.2.2.2.1 forgottenWhen rowMany R.2.2.2.2.2.1 R.2.2.2.2.2.2.1 R.2.2.2.2.2.2.2.1 R.2.2.2.2.2.2.2.2.1 R.2.2.2.2.2.2.2.2.2.1 R.2.2.2.2.2.2.2.2.2.2.1 R.2.2.2.2.2.2.2.2.2.2.2.1 R.2.2.2.2.2.2.2.2.2.2.2.2) R.1 Q) (kL41 : Int32 → Int32 → Int32 → (Nat → Int32) → Option (Int32 × Int32 × Int32 × Int32 × Int32 × (Nat → Int32) × (Nat → Int32) × (Nat → Int32) × (Nat → Int32) × (Nat → Int32) × (Nat → Int32) × (Nat → Int32) × (Nat → Int32))) (hkL41 : ∀ (v4_41 : Int32) (v5_41 : Int32) (year_41 : Int32) (fame_41 : (Nat → Int32)) (H : Heap) (locs : List Loc) (ls : Array Slot), kL41 v4_41 v5_41 year_41 fame_41 = some R → lv_has ls 6 [(0, .ref (ad 0)), (1, .int x1), (2, .int x2), (4, .int v4_41), (5, .int v5_41)] → va_P D vwCl (wd_X5_famous cI ad writers_u41 year_41 taped at_ statements hasImage isKeeping_u41 cursor_u41 forgottenWhen rowMany refused_u41 kind_u41 figure_u41 style_u41 fame_41 silent_u41 ring_u41 kept_u41) H → va_D A (wd_X5_famous cI ad writers_u41 year_41 taped at_ statements hasImage isKeeping_u41 cursor_u41 forgottenWhen rowMany refused_u41 kind_u41 figure_u41 style_u41 fame_41 silent_u41 ring_u41 kept_u41) → va_S A s.heap H locs → Wh p l e 5 s m args below meth c H locs Q (F0 m 41 ls [])) : ∀ (v5_70 : Int32) (year_70 : Int32) (fame_70 : (Nat → Int32)) (t0_70 : Int32) (H : Heap) (locs : List Loc) (ls : Array Slot), f_X5_famous_70 writers_u41 kind_u41 figure_u41 style_u41 silent_u41 ring_u41 kL41 v5_70 year_70 fame_70 t0_70 = some R → lv_has ls 6 [(0, .ref (ad 0)), (1, .int x1), (2, .int x2), (5, .int v5_70)] → va_P D vwCl (wd_X5_famous cI ad writers_u41 year_70 taped at_ statements hasImage isKeeping_u41 cursor_u41 forgottenWhen rowMany refused_u41 kind_u41 figure_u41 style_u41 fame_70 silent_u41 ring_u41 kept_u41) H → va_D A (wd_X5_famous cI ad writers_u41 year_70 taped at_ statements hasImage isKeeping_u41 cursor_u41 forgottenWhen rowMany refused_u41 kind_u41 figure_u41 style_u41 fame_70 silent_u41 ring_u41 kept_u41) → va_S A s.heap H locs → Wh p l e 5 s m args below meth c H locs Q (F0 m 70 ls [.int t0_70]) := by
  have hx := X.1
  have hb := X.2.1
  intro v5_70 year_70 fame_70 t0_70 H locs ls hf hl hP hD hS
  replace hf : ((f_X5_goesYear writers_u41 year_70 kind_u41 figure_u41 style_u41 fame_70 silent_u41 ring_u41 (0 : Int32)).bind fun (r74 : Int32 × (Nat → Int32)) => (kL41 t0_70 (v5_70 + (1 : Int32)) r74.1 r74.2)) = some R := hf
  refine lv_istore (lv' := [(4, .int t0_70), (0, .ref (ad 0)), (1, .int x1), (2, .int x2), (5, .int v5_70)]) hx hb dX5_famous_70 hl (by decide) rfl (fun ls hl => ?_)
  refine lv_aload_n hx hb dX5_famous_72 rfl (lv_at hl 1 rfl) ?_
  refine lv_iconst (v := 0) hx hb dX5_famous_73 (by decide) ?_
  obtain ⟨r74, hq74, hf⟩ := bS hf
  refine wr_v X hP hD hS [0, 2, 3, 4, 5, 6, 7] rfl (ws' := (wd_X5_famous cI ad writers_u41 r74.1 taped at_ statements hasImage isKeeping_u41 cursor_u41 forgottenWhen rowMany refused_u41 kind_u41 figure_u41 style_u41 r74.2 silent_u41 ring_u41 kept_u41)) (Nat.le_of_ble_eq_true rfl) rfl rfl (run_V X hP hD hS [0, 2, 3, 4, 5, 6, 7] rfl rfl (c_X5_goesYear l D cI aS ad writers_u41 year_70 taped at_ statements hasImage isKeeping_u41 cursor_u41 forgottenWhen rowMany kind_u41 figure_u41 style_u41 fame_70 silent_u41 ring_u41 (0 : Int32) _ hq74 _) lkX5_189 (by decide) (q0 := 0) rfl rfl rfl rfl (Nat.le_of_ble_eq_true rfl) hl.1 dX5_famous_74) (fun H locs hP hD hS => ?_)
  refine lv_iinc (v := (v5_70 + (1 : Int32))) (lv' := [(5, .int (v5_70 + (1 : Int32))), (4, .int t0_70), (0, .ref (ad 0)), (1, .int x1), (2, .int x2)]) hx hb dX5_famous_77 hl (k := 4) rfl rfl (by decide) rfl (fun ls hl => ?_)
  refine lv_goto (tgt := 41) hx hb dX5_famous_80 (by decide) ?_
  exact hkL41 t0_70 (v5_70 + (1 : Int32)) r74.1 r74.2 _ _ _ hf (lv_sub hl [2, 3, 4, 1, 0] rfl) hP hD hS
set_option maxHeartbeats 4000000 in
set_option maxRecDepth 100000 in
theorem w_X5_famous_41 {p : Program} {l : Launch} {e : Env} {s : State} {m : MethodId} {args : Array Value} {below : List Frame} {meth : Method} {c : Code} {D : va_G} {cI : ClassId} {aS : aSt} {A : Nat → Prop} {Q : State → Prop}  (ad : Nat → Nat) (taped : Int32) (at_ : Int32) (statements : Int32) (hasImage : Int32) (forgottenWhen : Int32) (rowMany : Int32) (x1 : Int32) (x2 : Int32) (writers_u41 : Int32) (isKeeping_u41 : Int32) (cursor_u41 : Int32) (refused_u41 : (Nat → Int32)) (kind_u41 : (Nat → Int32)) (figure_u41 : (Nat → Int32)) (style_u41 : (Nat → Int32)) (silent_u41 : (Nat → Int32)) (ring_u41 : (Nat → Int32)) (kept_u41 : (Nat → Int32)) {R : Int32 × Int32 × Int32 × Int32 × Int32 × (Nat → Int32) × (Nat → Int32) × (Nat → Int32) × (Nat → Int32) × (Nat → Int32) × (Nat → Int32) × (Nat → Int32) × (Nat → Int32)} (X : Bx p s m args meth c cX5_famous 6 (some .int) RX5 D cI aS A) (hret : RtI p l e 5 s m args below meth c cX5_famous (some .int) D A (wd_X5_famous cI ad R.2.1 R.2.2.1 taped at_ statements hasImage R.2.2.2.1 R.2.2.2.2.1 forgottenWhen rowMany R.2.2.2.2.2.1 R.2.2.2.2.2.2.1 R.2.2.2.2.2.2.2.1 R.2.2.2.2.2.2.2.2.1 R.2.2.2.2.2.2.2.2.2.1 R.2.2.2.2.2.2.2.2.2.2.1 R.2.2.2.2.2.2.2.2.2.2.2.1 R.2.2.2.2.2.2.2.2.2.2.2.2) R.1 Q) (kX41_83 : Int32 → Int32 → (Nat → Int32) → Option (Int32 × Int32 × Int32 × Int32 × Int32 × (Nat → Int32) × (Nat → Int32) × (Nat → Int32) × (Nat → Int32) × (Nat → Int32) × (Nat → Int32) × (Nat → Int32) × (Nat → Int32))) (hkX41_83 : ∀ (v4_83 : Int32) (year_83 : Int32) (fame_83 : (Nat → Int32)) (H : Heap) (locs : List Loc) (ls : Array Slot), kX41_83 v4_83 year_83 fame_83 = some R → lv_has ls 6 [(0, .ref (ad 0)), (4, .int v4_83)] → va_P D vwCl (wd_X5_famous cI ad writers_u41 year_83 taped at_ statements hasImage isKeeping_u41 cursor_u41 forgottenWhen rowMany refused_u41 kind_u41 figure_u41 style_u41 fame_83 silent_u41 ring_u41 kept_u41) H → va_D A (wd_X5_famous cI ad writers_u41 year_83 taped at_ statements hasImage isKeeping_u41 cursor_u41 forgottenWhen rowMany refused_u41 kind_u41 figure_u41 style_u41 fame_83 silent_u41 ring_u41 kept_u41) → va_S A s.heap H locs → Wh p l e 5 s m args below meth c H locs Q (F0 m 83 ls [])) : ∀ (fuel : Nat) (v4_41 : Int32) (v5_41 : Int32) (year_41 : Int32) (fame_41 : (Nat → Int32)) (H : Heap) (locs : List Loc) (ls : Array Slot), f_X5_famous_41 x1 x2 writers_u41 kind_u41 figure_u41 style_u41 silent_u41 ring_u41 kX41_83 fuel v4_41 v5_41 year_41 fame_41 = some R → lv_has ls 6 [(0, .ref (ad 0)), (1, .int x1), (2, .int x2), (4, .int v4_41), (5, .int v5_41)] → va_P D vwCl (wd_X5_famous cI ad writers_u41 year_41 taped at_ statements hasImage isKeeping_u41 cursor_u41 forgottenWhen rowMany refused_u41 kind_u41 figure_u41 style_u41 fame_41 silent_u41 ring_u41 kept_u41) H → va_D A (wd_X5_famous cI ad writers_u41 year_41 taped at_ statements hasImage isKeeping_u41 cursor_u41 forgottenWhen rowMany refused_u41 kind_u41 figure_u41 style_u41 fame_41 silent_u41 ring_u41 kept_u41) → va_S A s.heap H locs → Wh p l e 5 s m args below meth c H locs Q (F0 m 41 ls []) := by
  have hx := X.1
  have hb := X.2.1
  intro fuel
  induction fuel with
  | zero =>
    intro v4_41 v5_41 year_41 fame_41 H locs ls hf hl hP hD hS
    cases hf
  | succ fuel ih =>
    intro v4_41 v5_41 year_41 fame_41 H locs ls hf hl hP hD hS
    replace hf : (if (60 : Int32) < v5_41 then (kX41_83 v4_41 year_41 fame_41) else (if 0 ≤ v4_41 then (kX41_83 v4_41 year_41 fame_41) else (gd x1 7 (if (fame_41 (Int32.toNatClampNeg x1)) < x2 then (f_X5_famous_70 writers_u41 kind_u41 figure_u41 style_u41 silent_u41 ring_u41 (f_X5_famous_41 x1 x2 writers_u41 kind_u41 figure_u41 style_u41 silent_u41 ring_u41 kX41_83 fuel) v5_41 year_41 fame_41 (-9 : Int32)) else (f_X5_famous_70 writers_u41 kind_u41 figure_u41 style_u41 silent_u41 ring_u41 (f_X5_famous_41 x1 x2 writers_u41 kind_u41 figure_u41 style_u41 silent_u41 ring_u41 kX41_83 fuel) v5_41 year_41 fame_41 v5_41))))) = some R := hf
    refine lv_iload hx hb dX5_famous_41 (lv_at hl 4 rfl) ?_
    refine lv_bipush (v := 60) hx hb dX5_famous_43 (by decide) ?_
    refine lv_icmp_gt (tgt := 83) hx hb dX5_famous_45 (by decide) (fun c45 => ?_) (fun c45 => ?_)
    · have hf := iT c45 hf
      exact hkX41_83 v4_41 year_41 fame_41 _ _ _ hf (lv_sub hl [0, 3] rfl) hP hD hS
    · have hf := iF c45 hf
      refine lv_iload hx hb dX5_famous_48 (lv_at hl 3 rfl) ?_
      refine lv_if_ge (tgt := 83) hx hb dX5_famous_50 (by decide) (fun c50 => ?_) (fun c50 => ?_)
      · have hf := iT c50 hf
        exact hkX41_83 v4_41 year_41 fame_41 _ _ _ hf (lv_sub hl [0, 3] rfl) hP hD hS
      · have hf := iF c50 hf
        refine lv_aload_n hx hb dX5_famous_53 rfl (lv_at hl 0 rfl) ?_
        refine fgX5_22 X hP (q0 := 0) rfl rfl dX5_famous_54 ?_
        refine lv_iload_n hx hb dX5_famous_57 rfl (lv_at hl 1 rfl) ?_
        refine aGet X hP (q0 := 5) rfl (gdS hf).1 dX5_famous_58 ?_
        have hf := (gdS hf).2
        refine lv_iload_n hx hb dX5_famous_59 rfl (lv_at hl 2 rfl) ?_
        refine lv_icmp_lt (tgt := 68) hx hb dX5_famous_60 (by decide) (fun c60 => ?_) (fun c60 => ?_)
        · have hf := iT c60 hf
          refine lv_bipush (v := -9) hx hb dX5_famous_68 (by decide) ?_
          exact w_X5_famous_70 ad taped at_ statements hasImage forgottenWhen rowMany x1 x2 writers_u41 isKeeping_u41 cursor_u41 refused_u41 kind_u41 figure_u41 style_u41 silent_u41 ring_u41 kept_u41 X hret _ ih v5_41 year_41 fame_41 (-9 : Int32) _ _ _ hf (lv_sub hl [0, 1, 2, 4] rfl) hP hD hS
        · have hf := iF c60 hf
          refine lv_iload hx hb dX5_famous_63 (lv_at hl 4 rfl) ?_
          refine lv_goto (tgt := 70) hx hb dX5_famous_65 (by decide) ?_
          exact w_X5_famous_70 ad taped at_ statements hasImage forgottenWhen rowMany x1 x2 writers_u41 isKeeping_u41 cursor_u41 refused_u41 kind_u41 figure_u41 style_u41 silent_u41 ring_u41 kept_u41 X hret _ ih v5_41 year_41 fame_41 v5_41 _ _ _ hf (lv_sub hl [0, 1, 2, 4] rfl) hP hD hS
set_option maxHeartbeats 4000000 in
set_option maxRecDepth 100000 in
theorem w_X5_famous_83 {p : Program} {l : Launch} {e : Env} {s : State} {m : MethodId} {args : Array Value} {below : List Frame} {meth : Method} {c : Code} {D : va_G} {cI : ClassId} {aS : aSt} {A : Nat → Prop} {Q : State → Prop}  (ad : Nat → Nat) (taped : Int32) (at_ : Int32) (statements : Int32) (hasImage : Int32) (forgottenWhen : Int32) (rowMany : Int32) (x1 : Int32) (x2 : Int32) {R : Int32 × Int32 × Int32 × Int32 × Int32 × (Nat → Int32) × (Nat → Int32) × (Nat → Int32) × (Nat → Int32) × (Nat → Int32) × (Nat → Int32) × (Nat → Int32) × (Nat → Int32)} (X : Bx p s m args meth c cX5_famous 6 (some .int) RX5 D cI aS A) (hret : RtI p l e 5 s m args below meth c cX5_famous (some .int) D A (wd_X5_famous cI ad R.2.1 R.2.2.1 taped at_ statements hasImage R.2.2.2.1 R.2.2.2.2.1 forgottenWhen rowMany R.2.2.2.2.2.1 R.2.2.2.2.2.2.1 R.2.2.2.2.2.2.2.1 R.2.2.2.2.2.2.2.2.1 R.2.2.2.2.2.2.2.2.2.1 R.2.2.2.2.2.2.2.2.2.2.1 R.2.2.2.2.2.2.2.2.2.2.2.1 R.2.2.2.2.2.2.2.2.2.2.2.2) R.1 Q) : ∀ (v4_83 : Int32) (writers_83 : Int32) (year_83 : Int32) (isKeeping_83 : Int32) (cursor_83 : Int32) (refused_83 : (Nat → Int32)) (kind_83 : (Nat → Int32)) (figure_83 : (Nat → Int32)) (style_83 : (Nat → Int32)) (fame_83 : (Nat → Int32)) (silent_83 : (Nat → Int32)) (ring_83 : (Nat → Int32)) (kept_83 : (Nat → Int32)) (H : Heap) (locs : List Loc) (ls : Array Slot), f_X5_famous_83   v4_83 writers_83 year_83 isKeeping_83 cursor_83 refused_83 kind_83 figure_83 style_83 fame_83 silent_83 ring_83 kept_83 = some R → lv_has ls 6 [(0, .ref (ad 0)), (4, .int v4_83)] → va_P D vwCl (wd_X5_famous cI ad writers_83 year_83 taped at_ statements hasImage isKeeping_83 cursor_83 forgottenWhen rowMany refused_83 kind_83 figure_83 style_83 fame_83 silent_83 ring_83 kept_83) H → va_D A (wd_X5_famous cI ad writers_83 year_83 taped at_ statements hasImage isKeeping_83 cursor_83 forgottenWhen rowMany refused_83 kind_83 figure_83 style_83 fame_83 silent_83 ring_83 kept_83) → va_S A s.heap H locs → Wh p l e 5 s m args below meth c H locs Q (F0 m 83 ls []) := by
  have hx := X.1
  have hb := X.2.1
  intro v4_83 writers_83 year_83 isKeeping_83 cursor_83 refused_83 kind_83 figure_83 style_83 fame_83 silent_83 ring_83 kept_83 H locs ls hf hl hP hD hS
  replace hf : ((f_X5_forgets writers_83 year_83 isKeeping_83 cursor_83 kind_83 figure_83 style_83 fame_83 silent_83 ring_83 kept_83).bind fun (r84 : Int32 × Int32 × Int32 × Int32 × (Nat → Int32) × (Nat → Int32) × (Nat → Int32) × (Nat → Int32) × (Nat → Int32) × (Nat → Int32) × (Nat → Int32)) => (some (v4_83, r84.1, r84.2.1, r84.2.2.1, r84.2.2.2.1, refused_83, r84.2.2.2.2.1, r84.2.2.2.2.2.1, r84.2.2.2.2.2.2.1, r84.2.2.2.2.2.2.2.1, r84.2.2.2.2.2.2.2.2.1, r84.2.2.2.2.2.2.2.2.2.1, r84.2.2.2.2.2.2.2.2.2.2))) = some R := hf
  refine lv_aload_n hx hb dX5_famous_83 rfl (lv_at hl 0 rfl) ?_
  obtain ⟨r84, hq84, hf⟩ := bS hf
  refine wr_v X hP hD hS [0, 2, 3, 4, 5, 6, 7, 8] rfl (ws' := (wd_X5_famous cI ad r84.1 r84.2.1 taped at_ statements hasImage r84.2.2.1 r84.2.2.2.1 forgottenWhen rowMany refused_83 r84.2.2.2.2.1 r84.2.2.2.2.2.1 r84.2.2.2.2.2.2.1 r84.2.2.2.2.2.2.2.1 r84.2.2.2.2.2.2.2.2.1 r84.2.2.2.2.2.2.2.2.2.1 r84.2.2.2.2.2.2.2.2.2.2)) (Nat.le_of_ble_eq_true rfl) rfl rfl (run_V X hP hD hS [0, 2, 3, 4, 5, 6, 7, 8] rfl rfl (c_X5_forgets l D cI aS ad writers_83 year_83 taped at_ statements hasImage isKeeping_83 cursor_83 forgottenWhen rowMany kind_83 figure_83 style_83 fame_83 silent_83 ring_83 kept_83 _ hq84 _) lkX5_203 (by decide) (q0 := 0) rfl rfl rfl rfl (Nat.le_of_ble_eq_true rfl) hl.1 dX5_famous_84) (fun H locs hP hD hS => ?_)
  refine lv_iload hx hb dX5_famous_87 (lv_at hl 1 rfl) ?_
  have hR := Option.some.inj hf
  subst hR
  exact hret _ _ _ _ _ rfl (fun _ hn => by cases hn; rfl) hP hD hS dX5_famous_89
set_option maxHeartbeats 4000000 in
set_option maxRecDepth 100000 in
theorem w_X5_famous_19 {p : Program} {l : Launch} {e : Env} {s : State} {m : MethodId} {args : Array Value} {below : List Frame} {meth : Method} {c : Code} {D : va_G} {cI : ClassId} {aS : aSt} {A : Nat → Prop} {Q : State → Prop}  (ad : Nat → Nat) (taped : Int32) (at_ : Int32) (statements : Int32) (hasImage : Int32) (forgottenWhen : Int32) (rowMany : Int32) (x1 : Int32) (x2 : Int32) {R : Int32 × Int32 × Int32 × Int32 × Int32 × (Nat → Int32) × (Nat → Int32) × (Nat → Int32) × (Nat → Int32) × (Nat → Int32) × (Nat → Int32) × (Nat → Int32) × (Nat → Int32)} (X : Bx p s m args meth c cX5_famous 6 (some .int) RX5 D cI aS A) (hret : RtI p l e 5 s m args below meth c cX5_famous (some .int) D A (wd_X5_famous cI ad R.2.1 R.2.2.1 taped at_ statements hasImage R.2.2.2.1 R.2.2.2.2.1 forgottenWhen rowMany R.2.2.2.2.2.1 R.2.2.2.2.2.2.1 R.2.2.2.2.2.2.2.1 R.2.2.2.2.2.2.2.2.1 R.2.2.2.2.2.2.2.2.2.1 R.2.2.2.2.2.2.2.2.2.2.1 R.2.2.2.2.2.2.2.2.2.2.2.1 R.2.2.2.2.2.2.2.2.2.2.2.2) R.1 Q) : ∀ (writers_19 : Int32) (year_19 : Int32) (isKeeping_19 : Int32) (cursor_19 : Int32) (refused_19 : (Nat → Int32)) (kind_19 : (Nat → Int32)) (figure_19 : (Nat → Int32)) (style_19 : (Nat → Int32)) (fame_19 : (Nat → Int32)) (silent_19 : (Nat → Int32)) (ring_19 : (Nat → Int32)) (kept_19 : (Nat → Int32)) (t0_19 : Int32) (H : Heap) (locs : List Loc) (ls : Array Slot), f_X5_famous_19 x1 x2  writers_19 year_19 isKeeping_19 cursor_19 refused_19 kind_19 figure_19 style_19 fame_19 silent_19 ring_19 kept_19 t0_19 = some R → lv_has ls 6 [(0, .ref (ad 0)), (1, .int x1), (2, .int x2)] → va_P D vwCl (wd_X5_famous cI ad writers_19 year_19 taped at_ statements hasImage isKeeping_19 cursor_19 forgottenWhen rowMany refused_19 kind_19 figure_19 style_19 fame_19 silent_19 ring_19 kept_19) H → va_D A (wd_X5_famous cI ad writers_19 year_19 taped at_ statements hasImage isKeeping_19 cursor_19 forgottenWhen rowMany refused_19 kind_19 figure_19 style_19 fame_19 silent_19 ring_19 kept_19) → va_S A s.heap H locs → Wh p l e 5 s m args below meth c H locs Q (F0 m 19 ls [.int t0_19]) := by
  have hx := X.1
  have hb := X.2.1
  intro writers_19 year_19 isKeeping_19 cursor_19 refused_19 kind_19 figure_19 style_19 fame_19 silent_19 ring_19 kept_19 t0_19 H locs ls hf hl hP hD hS
  replace hf : (if t0_19 = 0 then ((f_X5_thinks writers_19 year_19 isKeeping_19 cursor_19 kind_19 figure_19 style_19 fame_19 silent_19 ring_19 kept_19).bind fun (r31 : Int32 × Int32 × Int32 × Int32 × (Nat → Int32) × (Nat → Int32) × (Nat → Int32) × (Nat → Int32) × (Nat → Int32) × (Nat → Int32) × (Nat → Int32)) => (f_X5_famous_41 x1 x2 r31.1 r31.2.2.2.2.1 r31.2.2.2.2.2.1 r31.2.2.2.2.2.2.1 r31.2.2.2.2.2.2.2.2.1 r31.2.2.2.2.2.2.2.2.2.1 (fun (v4_83 : Int32) (year_83 : Int32) (fame_83 : (Nat → Int32)) => (f_X5_famous_83   v4_83 r31.1 year_83 r31.2.2.1 r31.2.2.2.1 refused_19 r31.2.2.2.2.1 r31.2.2.2.2.2.1 r31.2.2.2.2.2.2.1 fame_83 r31.2.2.2.2.2.2.2.2.1 r31.2.2.2.2.2.2.2.2.2.1 r31.2.2.2.2.2.2.2.2.2.2)) FU (-9 : Int32) (0 : Int32) r31.2.1 r31.2.2.2.2.2.2.2.1)) else ((f_X5_no refused_19 t0_19).bind fun (r26 : Int32 × (Nat → Int32)) => (some (r26.1, writers_19, year_19, isKeeping_19, cursor_19, r26.2, kind_19, figure_19, style_19, fame_19, silent_19, ring_19, kept_19)))) = some R := hf
  refine lv_istore_n (lv' := [(3, .int t0_19), (0, .ref (ad 0)), (1, .int x1), (2, .int x2)]) hx hb dX5_famous_19 rfl hl (by decide) rfl (fun ls hl => ?_)
  refine lv_iload_n hx hb dX5_famous_20 rfl (lv_at hl 0 rfl) ?_
  refine lv_if_eq (tgt := 30) hx hb dX5_famous_21 (by decide) (fun c21 => ?_) (fun c21 => ?_)
  · have hf := iT c21 hf
    refine lv_aload_n hx hb dX5_famous_30 rfl (lv_at hl 1 rfl) ?_
    obtain ⟨r31, hq31, hf⟩ := bS hf
    refine wr_v X hP hD hS [0, 2, 3, 4, 5, 6, 7, 8] rfl (ws' := (wd_X5_famous cI ad r31.1 r31.2.1 taped at_ statements hasImage r31.2.2.1 r31.2.2.2.1 forgottenWhen rowMany refused_19 r31.2.2.2.2.1 r31.2.2.2.2.2.1 r31.2.2.2.2.2.2.1 r31.2.2.2.2.2.2.2.1 r31.2.2.2.2.2.2.2.2.1 r31.2.2.2.2.2.2.2.2.2.1 r31.2.2.2.2.2.2.2.2.2.2)) (Nat.le_of_ble_eq_true rfl) rfl rfl (run_V X hP hD hS [0, 2, 3, 4, 5, 6, 7, 8] rfl rfl (c_X5_thinks l D cI aS ad writers_19 year_19 taped at_ statements hasImage isKeeping_19 cursor_19 forgottenWhen rowMany kind_19 figure_19 style_19 fame_19 silent_19 ring_19 kept_19 _ hq31 _) lkX5_200 (by decide) (q0 := 0) rfl rfl rfl rfl (Nat.le_of_ble_eq_true rfl) hl.1 dX5_famous_31) (fun H locs hP hD hS => ?_)
    refine lv_bipush (v := -9) hx hb dX5_famous_34 (by decide) ?_
    refine lv_istore (lv' := [(4, .int (-9 : Int32)), (3, .int t0_19), (0, .ref (ad 0)), (1, .int x1), (2, .int x2)]) hx hb dX5_famous_36 hl (by decide) rfl (fun ls hl => ?_)
    refine lv_iconst (v := 0) hx hb dX5_famous_38 (by decide) ?_
    refine lv_istore (lv' := [(5, .int (0 : Int32)), (4, .int (-9 : Int32)), (3, .int t0_19), (0, .ref (ad 0)), (1, .int x1), (2, .int x2)]) hx hb dX5_famous_39 hl (by decide) rfl (fun ls hl => ?_)
    exact w_X5_famous_41 ad taped at_ statements hasImage forgottenWhen rowMany x1 x2 r31.1 r31.2.2.1 r31.2.2.2.1 refused_19 r31.2.2.2.2.1 r31.2.2.2.2.2.1 r31.2.2.2.2.2.2.1 r31.2.2.2.2.2.2.2.2.1 r31.2.2.2.2.2.2.2.2.2.1 r31.2.2.2.2.2.2.2.2.2.2 X hret _ (fun v4_83 year_83 fame_83 _ _ _ hf hl hP hD hS => w_X5_famous_83 ad taped at_ statements hasImage forgottenWhen rowMany x1 x2 X hret  v4_83 r31.1 year_83 r31.2.2.1 r31.2.2.2.1 refused_19 r31.2.2.2.2.1 r31.2.2.2.2.2.1 r31.2.2.2.2.2.2.1 fame_83 r31.2.2.2.2.2.2.2.2.1 r31.2.2.2.2.2.2.2.2.2.1 r31.2.2.2.2.2.2.2.2.2.2 _ _ _ hf (lv_sub hl [0, 1] rfl) hP hD hS) _ (-9 : Int32) (0 : Int32) r31.2.1 r31.2.2.2.2.2.2.2.1 _ _ _ hf (lv_sub hl [3, 4, 5, 1, 0] rfl) hP hD hS
  · have hf := iF c21 hf
    refine lv_aload_n hx hb dX5_famous_24 rfl (lv_at hl 1 rfl) ?_
    refine lv_iload_n hx hb dX5_famous_25 rfl (lv_at hl 0 rfl) ?_
    obtain ⟨r26, hq26, hf⟩ := bS hf
    refine wr_i X hP hD hS [0, 1] rfl (ws' := (wd_X5_famous cI ad writers_19 year_19 taped at_ statements hasImage isKeeping_19 cursor_19 forgottenWhen rowMany r26.2 kind_19 figure_19 style_19 fame_19 silent_19 ring_19 kept_19)) (Nat.le_of_ble_eq_true rfl) rfl rfl (run_V X hP hD hS [0, 1] rfl rfl (c_X5_no l D cI aS ad writers_19 year_19 taped at_ statements hasImage isKeeping_19 cursor_19 forgottenWhen rowMany refused_19 t0_19 _ hq26 _) lkX5_69 (by decide) (q0 := 0) rfl rfl rfl rfl (Nat.le_of_ble_eq_true rfl) hl.1 dX5_famous_26) (fun H locs hP hD hS => ?_)
    have hR := Option.some.inj hf
    subst hR
    exact hret _ _ _ _ _ rfl (fun _ hn => by cases hn; rfl) hP hD hS dX5_famous_29
set_option maxHeartbeats 4000000 in
set_option maxRecDepth 100000 in
theorem c_X5_famous (l : Launch) (D : va_G) (cI : ClassId) (aS : aSt) (ad : Nat → Nat) (writers : Int32) (year : Int32) (taped : Int32) (at_ : Int32) (statements : Int32) (hasImage : Int32) (isKeeping : Int32) (cursor : Int32) (forgottenWhen : Int32) (rowMany : Int32) (refused : (Nat → Int32)) (kind : (Nat → Int32)) (figure : (Nat → Int32)) (style : (Nat → Int32)) (fame : (Nat → Int32)) (silent : (Nat → Int32)) (ring : (Nat → Int32)) (kept : (Nat → Int32)) (x1 : Int32) (x2 : Int32) (R : Int32 × Int32 × Int32 × Int32 × Int32 × (Nat → Int32) × (Nat → Int32) × (Nat → Int32) × (Nat → Int32) × (Nat → Int32) × (Nat → Int32) × (Nat → Int32) × (Nat → Int32)) (hf : f_X5_famous writers year isKeeping cursor refused kind figure style fame silent ring kept x1 x2 = some R) : CtI l yX5_famous cX5_famous 6 (some .int) 5 D cI aS [.ref (ad 0), .int x1, .int x2] (wd_X5_famous cI ad writers year taped at_ statements hasImage isKeeping cursor forgottenWhen rowMany refused kind figure style fame silent ring kept) (wd_X5_famous cI ad R.2.1 R.2.2.1 taped at_ statements hasImage R.2.2.2.1 R.2.2.2.2.1 forgottenWhen rowMany R.2.2.2.2.2.1 R.2.2.2.2.2.2.1 R.2.2.2.2.2.2.2.1 R.2.2.2.2.2.2.2.2.1 R.2.2.2.2.2.2.2.2.2.1 R.2.2.2.2.2.2.2.2.2.2.1 R.2.2.2.2.2.2.2.2.2.2.2.1 R.2.2.2.2.2.2.2.2.2.2.2.2) R.1 := by
  refine ctI_of (by decide) ⟨_, rfl⟩ (Nat.le_of_ble_eq_true rfl) ?_
  intro p e s m below meth c A Q ls X hret hP hD hl
  have hS : va_S A s.heap s.heap [] := va_S.rf
  have hx := X.1
  have hb := X.2.1
  have hl : lv_has ls 6 [(0, .ref (ad 0)), (1, .int x1), (2, .int x2)] := hl
  replace hf : ((f_X5_isOne writers x1).bind fun (r2 : Int32) => (if r2 = 0 then (f_X5_famous_19 x1 x2  writers year isKeeping cursor refused kind figure style fame silent ring kept (-1 : Int32)) else ((f_X5_bound x2 (0 : Int32) (99 : Int32)).bind fun (r16 : Int32) => (f_X5_famous_19 x1 x2  writers year isKeeping cursor refused kind figure style fame silent ring kept r16)))) = some R := hf
  refine lv_aload_n hx hb dX5_famous_0 rfl (lv_at hl 0 rfl) ?_
  refine lv_iload_n hx hb dX5_famous_1 rfl (lv_at hl 1 rfl) ?_
  obtain ⟨r2, hq2, hf⟩ := bS hf
  refine ro_i X hP hD hS [0] rfl (run_V X hP hD hS [0] rfl rfl (c_X5_isOne l D cI aS ad writers year taped at_ statements hasImage isKeeping cursor forgottenWhen rowMany x1 _ hq2 _) lkX5_108 (by decide) (q0 := 0) rfl rfl rfl rfl (Nat.le_of_ble_eq_true rfl) hl.1 dX5_famous_2) (fun H locs hP hS => ?_)
  refine lv_if_ne (tgt := 12) hx hb dX5_famous_5 (by decide) (fun c5 => ?_) (fun c5 => ?_)
  · have hf := iF c5 hf
    refine lv_iload_n hx hb dX5_famous_12 rfl (lv_at hl 2 rfl) ?_
    refine lv_iconst (v := 0) hx hb dX5_famous_13 (by decide) ?_
    refine lv_bipush (v := 99) hx hb dX5_famous_14 (by decide) ?_
    obtain ⟨r16, hq16, hf⟩ := bS hf
    refine ro_i X hP hD hS [] rfl (run_S X hP hD hS [] rfl rfl (c_X5_bound l D cI aS x2 (0 : Int32) (99 : Int32) _ hq16 _) lkX5_62 (by decide) rfl rfl (Nat.le_of_ble_eq_true rfl) hl.1 dX5_famous_16) (fun H locs hP hS => ?_)
    exact w_X5_famous_19 ad taped at_ statements hasImage forgottenWhen rowMany x1 x2 X hret  writers year isKeeping cursor refused kind figure style fame silent ring kept r16 _ _ _ hf (lv_sub hl [0, 1, 2] rfl) hP hD hS
  · have hf := iT c5 hf
    refine lv_iconst (v := -1) hx hb dX5_famous_8 (by decide) ?_
    refine lv_goto (tgt := 19) hx hb dX5_famous_9 (by decide) ?_
    exact w_X5_famous_19 ad taped at_ statements hasImage forgottenWhen rowMany x1 x2 X hret  writers year isKeeping cursor refused kind figure style fame silent ring kept (-1 : Int32) _ _ _ hf (lv_sub hl [0, 1, 2] rfl) hP hD hS

abbrev wd_X5_findForgotten (cI : ClassId) (ad : Nat → Nat) (writers : Int32) (year : Int32) (taped : Int32) (at_ : Int32) (statements : Int32) (hasImage : Int32) (isKeeping : Int32) (cursor : Int32) (forgottenWhen : Int32) (rowMany : Int32) (kind : (Nat → Int32)) (figure : (Nat → Int32)) (style : (Nat → Int32)) (fame : (Nat → Int32)) (silent : (Nat → Int32)) (ring : (Nat → Int32)) (kept : (Nat → Int32)) : va_W := [((ad 0), .inr (5, [.ref (ad 1), .ref (ad 2), .ref (ad 3), .ref (ad 4), .ref (ad 5), .ref (ad 6), .ref (ad 7), .int writers, .int year, .ref (ad 8), .ref (ad 9), .ref (ad 10), .ref (ad 11), .int taped, .int at_, .int statements, .ref (ad 12), .int hasImage, .int isKeeping, .int cursor, .int forgottenWhen, .ref (ad 13), .ref (ad 14), .ref (ad 15), .int rowMany])), ((ad 2), .inl (cI, 7, .inl kind)), ((ad 3), .inl (cI, 7, .inl figure)), ((ad 4), .inl (cI, 7, .inl style)), ((ad 5), .inl (cI, 7, .inl fame)), ((ad 6), .inl (cI, 7, .inl silent)), ((ad 7), .inl (cI, 7, .inl ring)), ((ad 12), .inl (cI, 132, .inl kept))]
def f_X5_findForgotten_50  (kL32 : Int32 → Int32 → Option (Int32 × Int32 × Int32 × Int32 × Int32 × Int32 × (Nat → Int32) × (Nat → Int32) × (Nat → Int32) × (Nat → Int32) × (Nat → Int32) × (Nat → Int32) × (Nat → Int32))) (v3_50 : Int32) (t0_50 : Int32) : Option (Int32 × Int32 × Int32 × Int32 × Int32 × Int32 × (Nat → Int32) × (Nat → Int32) × (Nat → Int32) × (Nat → Int32) × (Nat → Int32) × (Nat → Int32) × (Nat → Int32)) := (kL32 t0_50 (v3_50 + (-1 : Int32)))
def f_X5_findForgotten_32 (fame_u32 : (Nat → Int32)) (kX32_57 : Int32 → Option (Int32 × Int32 × Int32 × Int32 × Int32 × Int32 × (Nat → Int32) × (Nat → Int32) × (Nat → Int32) × (Nat → Int32) × (Nat → Int32) × (Nat → Int32) × (Nat → Int32))) : Nat → Int32 → Int32 → Option (Int32 × Int32 × Int32 × Int32 × Int32 × Int32 × (Nat → Int32) × (Nat → Int32) × (Nat → Int32) × (Nat → Int32) × (Nat → Int32) × (Nat → Int32) × (Nat → Int32))
  | 0 => fun _ _ => none
  | fuel + 1 => fun v1_32 v3_32 => (if v3_32 < 0 then (kX32_57 v1_32) else (gd v3_32 7 (if (fame_u32 (Int32.toNatClampNeg v3_32)) = 0 then (f_X5_findForgotten_50  (f_X5_findForgotten_32 fame_u32 kX32_57 fuel) v3_32 v3_32) else (f_X5_findForgotten_50  (f_X5_findForgotten_32 fame_u32 kX32_57 fuel) v3_32 v1_32))))
theorem e_X5_findForgotten_32 (fame_u32 : (Nat → Int32)) (kX32_57 : Int32 → Option (Int32 × Int32 × Int32 × Int32 × Int32 × Int32 × (Nat → Int32) × (Nat → Int32) × (Nat → Int32) × (Nat → Int32) × (Nat → Int32) × (Nat → Int32) × (Nat → Int32))) (fuel : Nat) (v1_32 : Int32) (v3_32 : Int32) : f_X5_findForgotten_32 fame_u32 kX32_57 (fuel + 1) v1_32 v3_32 = (if v3_32 < 0 then (kX32_57 v1_32) else (gd v3_32 7 (if (fame_u32 (Int32.toNatClampNeg v3_32)) = 0 then (f_X5_findForgotten_50  (f_X5_findForgotten_32 fame_u32 kX32_57 fuel) v3_32 v3_32) else (f_X5_findForgotten_50  (f_X5_findForgotten_32 fame_u32 kX32_57 fuel) v3_32 v1_32)))) := rfl
def f_X5_findForgotten_68 (writers_u15 : Int32) (kind_u15 : (Nat → Int32)) (figure_u15 : (Nat → Int32)) (style_u15 : (Nat → Int32)) (silent_u15 : (Nat → Int32)) (ring_u15 : (Nat → Int32)) (kL15 : Int32 → Int32 → Int32 → Int32 → (Nat → Int32) → Option (Int32 × Int32 × Int32 × Int32 × Int32 × Int32 × (Nat → Int32) × (Nat → Int32) × (Nat → Int32) × (Nat → Int32) × (Nat → Int32) × (Nat → Int32) × (Nat → Int32))) (v1_68 : Int32) (v2_68 : Int32) (year_68 : Int32) (forgottenWhen_68 : Int32) (fame_68 : (Nat → Int32)) (t1_68 : Int32) : Option (Int32 × Int32 × Int32 × Int32 × Int32 × Int32 × (Nat → Int32) × (Nat → Int32) × (Nat → Int32) × (Nat → Int32) × (Nat → Int32) × (Nat → Int32) × (Nat → Int32)) := ((f_X5_goesYear writers_u15 year_68 kind_u15 figure_u15 style_u15 fame_68 silent_u15 ring_u15 (0 : Int32)).bind fun (r73 : Int32 × (Nat → Int32)) => (kL15 v1_68 (v2_68 + (1 : Int32)) r73.1 t1_68 r73.2))
def f_X5_findForgotten_57 (writers_u15 : Int32) (kind_u15 : (Nat → Int32)) (figure_u15 : (Nat → Int32)) (style_u15 : (Nat → Int32)) (silent_u15 : (Nat → Int32)) (ring_u15 : (Nat → Int32)) (kL15 : Int32 → Int32 → Int32 → Int32 → (Nat → Int32) → Option (Int32 × Int32 × Int32 × Int32 × Int32 × Int32 × (Nat → Int32) × (Nat → Int32) × (Nat → Int32) × (Nat → Int32) × (Nat → Int32) × (Nat → Int32) × (Nat → Int32))) (v1_57 : Int32) (v2_57 : Int32) (year_57 : Int32) (forgottenWhen_57 : Int32) (fame_57 : (Nat → Int32)) : Option (Int32 × Int32 × Int32 × Int32 × Int32 × Int32 × (Nat → Int32) × (Nat → Int32) × (Nat → Int32) × (Nat → Int32) × (Nat → Int32) × (Nat → Int32) × (Nat → Int32)) := (if 0 ≤ v1_57 then (f_X5_findForgotten_68 writers_u15 kind_u15 figure_u15 style_u15 silent_u15 ring_u15 kL15 v1_57 v2_57 year_57 forgottenWhen_57 fame_57 v2_57) else (f_X5_findForgotten_68 writers_u15 kind_u15 figure_u15 style_u15 silent_u15 ring_u15 kL15 v1_57 v2_57 year_57 forgottenWhen_57 fame_57 (-9 : Int32)))
def f_X5_findForgotten_15 (writers_u15 : Int32) (kind_u15 : (Nat → Int32)) (figure_u15 : (Nat → Int32)) (style_u15 : (Nat → Int32)) (silent_u15 : (Nat → Int32)) (ring_u15 : (Nat → Int32)) (kX15_82 : Int32 → Int32 → Int32 → (Nat → Int32) → Option (Int32 × Int32 × Int32 × Int32 × Int32 × Int32 × (Nat → Int32) × (Nat → Int32) × (Nat → Int32) × (Nat → Int32) × (Nat → Int32) × (Nat → Int32) × (Nat → Int32))) : Nat → Int32 → Int32 → Int32 → Int32 → (Nat → Int32) → Option (Int32 × Int32 × Int32 × Int32 × Int32 × Int32 × (Nat → Int32) × (Nat → Int32) × (Nat → Int32) × (Nat → Int32) × (Nat → Int32) × (Nat → Int32) × (Nat → Int32))
  | 0 => fun _ _ _ _ _ => none
  | fuel + 1 => fun v1_15 v2_15 year_15 forgottenWhen_15 fame_15 => (if (60 : Int32) < v2_15 then (kX15_82 v1_15 year_15 forgottenWhen_15 fame_15) else (if 0 ≤ v1_15 then (kX15_82 v1_15 year_15 forgottenWhen_15 fame_15) else (f_X5_findForgotten_32 fame_15 (fun (v1_57 : Int32) => (f_X5_findForgotten_57 writers_u15 kind_u15 figure_u15 style_u15 silent_u15 ring_u15 (f_X5_findForgotten_15 writers_u15 kind_u15 figure_u15 style_u15 silent_u15 ring_u15 kX15_82 fuel) v1_57 v2_15 year_15 forgottenWhen_15 fame_15)) FU v1_15 (writers_u15 - (1 : Int32)))))
theorem e_X5_findForgotten_15 (writers_u15 : Int32) (kind_u15 : (Nat → Int32)) (figure_u15 : (Nat → Int32)) (style_u15 : (Nat → Int32)) (silent_u15 : (Nat → Int32)) (ring_u15 : (Nat → Int32)) (kX15_82 : Int32 → Int32 → Int32 → (Nat → Int32) → Option (Int32 × Int32 × Int32 × Int32 × Int32 × Int32 × (Nat → Int32) × (Nat → Int32) × (Nat → Int32) × (Nat → Int32) × (Nat → Int32) × (Nat → Int32) × (Nat → Int32))) (fuel : Nat) (v1_15 : Int32) (v2_15 : Int32) (year_15 : Int32) (forgottenWhen_15 : Int32) (fame_15 : (Nat → Int32)) : f_X5_findForgotten_15 writers_u15 kind_u15 figure_u15 style_u15 silent_u15 ring_u15 kX15_82 (fuel + 1) v1_15 v2_15 year_15 forgottenWhen_15 fame_15 = (if (60 : Int32) < v2_15 then (kX15_82 v1_15 year_15 forgottenWhen_15 fame_15) else (if 0 ≤ v1_15 then (kX15_82 v1_15 year_15 forgottenWhen_15 fame_15) else (f_X5_findForgotten_32 fame_15 (fun (v1_57 : Int32) => (f_X5_findForgotten_57 writers_u15 kind_u15 figure_u15 style_u15 silent_u15 ring_u15 (f_X5_findForgotten_15 writers_u15 kind_u15 figure_u15 style_u15 silent_u15 ring_u15 kX15_82 fuel) v1_57 v2_15 year_15 forgottenWhen_15 fame_15)) FU v1_15 (writers_u15 - (1 : Int32))))) := rfl
def f_X5_findForgotten_82   (v1_82 : Int32) (writers_82 : Int32) (year_82 : Int32) (isKeeping_82 : Int32) (cursor_82 : Int32) (forgottenWhen_82 : Int32) (kind_82 : (Nat → Int32)) (figure_82 : (Nat → Int32)) (style_82 : (Nat → Int32)) (fame_82 : (Nat → Int32)) (silent_82 : (Nat → Int32)) (ring_82 : (Nat → Int32)) (kept_82 : (Nat → Int32)) : Option (Int32 × Int32 × Int32 × Int32 × Int32 × Int32 × (Nat → Int32) × (Nat → Int32) × (Nat → Int32) × (Nat → Int32) × (Nat → Int32) × (Nat → Int32) × (Nat → Int32)) := ((f_X5_forgets writers_82 year_82 isKeeping_82 cursor_82 kind_82 figure_82 style_82 fame_82 silent_82 ring_82 kept_82).bind fun (r83 : Int32 × Int32 × Int32 × Int32 × (Nat → Int32) × (Nat → Int32) × (Nat → Int32) × (Nat → Int32) × (Nat → Int32) × (Nat → Int32) × (Nat → Int32)) => (some (v1_82, r83.1, r83.2.1, r83.2.2.1, r83.2.2.2.1, forgottenWhen_82, r83.2.2.2.2.1, r83.2.2.2.2.2.1, r83.2.2.2.2.2.2.1, r83.2.2.2.2.2.2.2.1, r83.2.2.2.2.2.2.2.2.1, r83.2.2.2.2.2.2.2.2.2.1, r83.2.2.2.2.2.2.2.2.2.2)))
def f_X5_findForgotten (writers : Int32) (year : Int32) (isKeeping : Int32) (cursor : Int32) (forgottenWhen : Int32) (kind : (Nat → Int32)) (figure : (Nat → Int32)) (style : (Nat → Int32)) (fame : (Nat → Int32)) (silent : (Nat → Int32)) (ring : (Nat → Int32)) (kept : (Nat → Int32)) : Option (Int32 × Int32 × Int32 × Int32 × Int32 × Int32 × (Nat → Int32) × (Nat → Int32) × (Nat → Int32) × (Nat → Int32) × (Nat → Int32) × (Nat → Int32) × (Nat → Int32)) := ((f_X5_thinks writers year isKeeping cursor kind figure style fame silent ring kept).bind fun (r10 : Int32 × Int32 × Int32 × Int32 × (Nat → Int32) × (Nat → Int32) × (Nat → Int32) × (Nat → Int32) × (Nat → Int32) × (Nat → Int32) × (Nat → Int32)) => (f_X5_findForgotten_15 r10.1 r10.2.2.2.2.1 r10.2.2.2.2.2.1 r10.2.2.2.2.2.2.1 r10.2.2.2.2.2.2.2.2.1 r10.2.2.2.2.2.2.2.2.2.1 (fun (v1_82 : Int32) (year_82 : Int32) (forgottenWhen_82 : Int32) (fame_82 : (Nat → Int32)) => (f_X5_findForgotten_82   v1_82 r10.1 year_82 r10.2.2.1 r10.2.2.2.1 forgottenWhen_82 r10.2.2.2.2.1 r10.2.2.2.2.2.1 r10.2.2.2.2.2.2.1 fame_82 r10.2.2.2.2.2.2.2.2.1 r10.2.2.2.2.2.2.2.2.2.1 r10.2.2.2.2.2.2.2.2.2.2)) FU (-9 : Int32) (0 : Int32) r10.2.1 (-9 : Int32) r10.2.2.2.2.2.2.2.1))
set_option maxHeartbeats 4000000 in
set_option maxRecDepth 100000 in
theorem w_X5_findForgotten_50 {p : Program} {l : Launch} {e : Env} {s : State} {m : MethodId} {args : Array Value} {below : List Frame} {meth : Method} {c : Code} {D : va_G} {cI : ClassId} {aS : aSt} {A : Nat → Prop} {Q : State → Prop}  (ad : Nat → Nat) (taped : Int32) (at_ : Int32) (statements : Int32) (hasImage : Int32) (rowMany : Int32) (writers_u15 : Int32) (isKeeping_u15 : Int32) (cursor_u15 : Int32) (kind_u15 : (Nat → Int32)) (figure_u15 : (Nat → Int32)) (style_u15 : (Nat → Int32)) (silent_u15 : (Nat → Int32)) (ring_u15 : (Nat → Int32)) (kept_u15 : (Nat → Int32)) (u2_32 : Int32) (year_u32 : Int32) (forgottenWhen_u32 : Int32) (fame_u32 : (Nat → Int32)) {R : Int32 × Int32 × Int32 × Int32 × Int32 × Int32 × (Nat → Int32) × (Nat → Int32) × (Nat → Int32) × (Nat → Int32) × (Nat → Int32) × (Nat → Int32) × (Nat → Int32)} (X : Bx p s m args meth c cX5_findForgotten 4 (some .int) RX5 D cI aS A) (hret : RtI p l e 5 s m args below meth c cX5_findForgotten (some .int) D A (wd_X5_findForgotten cI ad R.2.1 R.2.2.1 taped at_ statements hasImage R.2.2.2.1 R.2.2.2.2.1 R.2.2.2.2.2.1 rowMany R.2.2.2.2.2.2.1 R.2.2.2.2.2.2.2.1 R.2.2.2.2.2.2.2.2.1 R.2.2.2.2.2.2.2.2.2.1 R.2.2.2.2.2.2.2.2.2.2.1 R.2.2.2.2.2.2.2.2.2.2.2.1 R.2.2.2.2.2.2.2.2.2.2.2.2) R.1 Q) (kL32 : Int32 → Int32 → Option (Int32 × Int32 × Int32 × Int32 × Int32 × Int32 × (Nat → Int32) × (Nat → Int32) × (Nat → Int32) × (Nat → Int32) × (Nat → Int32) × (Nat → Int32) × (Nat → Int32))) (hkL32 : ∀ (v1_32 : Int32) (v3_32 : Int32) (H : Heap) (locs : List Loc) (ls : Array Slot), kL32 v1_32 v3_32 = some R → lv_has ls 4 [(0, .ref (ad 0)), (1, .int v1_32), (2, .int u2_32), (3, .int v3_32)] → va_P D vwCl (wd_X5_findForgotten cI ad writers_u15 year_u32 taped at_ statements hasImage isKeeping_u15 cursor_u15 forgottenWhen_u32 rowMany kind_u15 figure_u15 style_u15 fame_u32 silent_u15 ring_u15 kept_u15) H → va_D A (wd_X5_findForgotten cI ad writers_u15 year_u32 taped at_ statements hasImage isKeeping_u15 cursor_u15 forgottenWhen_u32 rowMany kind_u15 figure_u15 style_u15 fame_u32 silent_u15 ring_u15 kept_u15) → va_S A s.heap H locs → Wh p l e 5 s m args below meth c H locs Q (F0 m 32 ls [])) : ∀ (v3_50 : Int32) (t0_50 : Int32) (H : Heap) (locs : List Loc) (ls : Array Slot), f_X5_findForgotten_50  kL32 v3_50 t0_50 = some R → lv_has ls 4 [(0, .ref (ad 0)), (2, .int u2_32), (3, .int v3_50)] → va_P D vwCl (wd_X5_findForgotten cI ad writers_u15 year_u32 taped at_ statements hasImage isKeeping_u15 cursor_u15 forgottenWhen_u32 rowMany kind_u15 figure_u15 style_u15 fame_u32 silent_u15 ring_u15 kept_u15) H → va_D A (wd_X5_findForgotten cI ad writers_u15 year_u32 taped at_ statements hasImage isKeeping_u15 cursor_u15 forgottenWhen_u32 rowMany kind_u15 figure_u15 style_u15 fame_u32 silent_u15 ring_u15 kept_u15) → va_S A s.heap H locs → Wh p l e 5 s m args below meth c H locs Q (F0 m 50 ls [.int t0_50]) := by
  have hx := X.1
  have hb := X.2.1
  intro v3_50 t0_50 H locs ls hf hl hP hD hS
  replace hf : (kL32 t0_50 (v3_50 + (-1 : Int32))) = some R := hf
  refine lv_istore_n (lv' := [(1, .int t0_50), (0, .ref (ad 0)), (2, .int u2_32), (3, .int v3_50)]) hx hb dX5_findForgotten_50 rfl hl (by decide) rfl (fun ls hl => ?_)
  refine lv_iinc (v := (v3_50 + (-1 : Int32))) (lv' := [(3, .int (v3_50 + (-1 : Int32))), (1, .int t0_50), (0, .ref (ad 0)), (2, .int u2_32)]) hx hb dX5_findForgotten_51 hl (k := 3) rfl rfl (by decide) rfl (fun ls hl => ?_)
  refine lv_goto (tgt := 32) hx hb dX5_findForgotten_54 (by decide) ?_
  exact hkL32 t0_50 (v3_50 + (-1 : Int32)) _ _ _ hf (lv_sub hl [2, 1, 3, 0] rfl) hP hD hS
set_option maxHeartbeats 4000000 in
set_option maxRecDepth 100000 in
theorem w_X5_findForgotten_32 {p : Program} {l : Launch} {e : Env} {s : State} {m : MethodId} {args : Array Value} {below : List Frame} {meth : Method} {c : Code} {D : va_G} {cI : ClassId} {aS : aSt} {A : Nat → Prop} {Q : State → Prop}  (ad : Nat → Nat) (taped : Int32) (at_ : Int32) (statements : Int32) (hasImage : Int32) (rowMany : Int32) (writers_u15 : Int32) (isKeeping_u15 : Int32) (cursor_u15 : Int32) (kind_u15 : (Nat → Int32)) (figure_u15 : (Nat → Int32)) (style_u15 : (Nat → Int32)) (silent_u15 : (Nat → Int32)) (ring_u15 : (Nat → Int32)) (kept_u15 : (Nat → Int32)) (u2_32 : Int32) (year_u32 : Int32) (forgottenWhen_u32 : Int32) (fame_u32 : (Nat → Int32)) {R : Int32 × Int32 × Int32 × Int32 × Int32 × Int32 × (Nat → Int32) × (Nat → Int32) × (Nat → Int32) × (Nat → Int32) × (Nat → Int32) × (Nat → Int32) × (Nat → Int32)} (X : Bx p s m args meth c cX5_findForgotten 4 (some .int) RX5 D cI aS A) (hret : RtI p l e 5 s m args below meth c cX5_findForgotten (some .int) D A (wd_X5_findForgotten cI ad R.2.1 R.2.2.1 taped at_ statements hasImage R.2.2.2.1 R.2.2.2.2.1 R.2.2.2.2.2.1 rowMany R.2.2.2.2.2.2.1 R.2.2.2.2.2.2.2.1 R.2.2.2.2.2.2.2.2.1 R.2.2.2.2.2.2.2.2.2.1 R.2.2.2.2.2.2.2.2.2.2.1 R.2.2.2.2.2.2.2.2.2.2.2.1 R.2.2.2.2.2.2.2.2.2.2.2.2) R.1 Q) (kX32_57 : Int32 → Option (Int32 × Int32 × Int32 × Int32 × Int32 × Int32 × (Nat → Int32) × (Nat → Int32) × (Nat → Int32) × (Nat → Int32) × (Nat → Int32) × (Nat → Int32) × (Nat → Int32))) (hkX32_57 : ∀ (v1_57 : Int32) (H : Heap) (locs : List Loc) (ls : Array Slot), kX32_57 v1_57 = some R → lv_has ls 4 [(0, .ref (ad 0)), (1, .int v1_57), (2, .int u2_32)] → va_P D vwCl (wd_X5_findForgotten cI ad writers_u15 year_u32 taped at_ statements hasImage isKeeping_u15 cursor_u15 forgottenWhen_u32 rowMany kind_u15 figure_u15 style_u15 fame_u32 silent_u15 ring_u15 kept_u15) H → va_D A (wd_X5_findForgotten cI ad writers_u15 year_u32 taped at_ statements hasImage isKeeping_u15 cursor_u15 forgottenWhen_u32 rowMany kind_u15 figure_u15 style_u15 fame_u32 silent_u15 ring_u15 kept_u15) → va_S A s.heap H locs → Wh p l e 5 s m args below meth c H locs Q (F0 m 57 ls [])) : ∀ (fuel : Nat) (v1_32 : Int32) (v3_32 : Int32) (H : Heap) (locs : List Loc) (ls : Array Slot), f_X5_findForgotten_32 fame_u32 kX32_57 fuel v1_32 v3_32 = some R → lv_has ls 4 [(0, .ref (ad 0)), (1, .int v1_32), (2, .int u2_32), (3, .int v3_32)] → va_P D vwCl (wd_X5_findForgotten cI ad writers_u15 year_u32 taped at_ statements hasImage isKeeping_u15 cursor_u15 forgottenWhen_u32 rowMany kind_u15 figure_u15 style_u15 fame_u32 silent_u15 ring_u15 kept_u15) H → va_D A (wd_X5_findForgotten cI ad writers_u15 year_u32 taped at_ statements hasImage isKeeping_u15 cursor_u15 forgottenWhen_u32 rowMany kind_u15 figure_u15 style_u15 fame_u32 silent_u15 ring_u15 kept_u15) → va_S A s.heap H locs → Wh p l e 5 s m args below meth c H locs Q (F0 m 32 ls []) := by
  have hx := X.1
  have hb := X.2.1
  intro fuel
  induction fuel with
  | zero =>
    intro v1_32 v3_32 H locs ls hf hl hP hD hS
    cases hf
  | succ fuel ih =>
    intro v1_32 v3_32 H locs ls hf hl hP hD hS
    replace hf : (if v3_32 < 0 then (kX32_57 v1_32) else (gd v3_32 7 (if (fame_u32 (Int32.toNatClampNeg v3_32)) = 0 then (f_X5_findForgotten_50  (f_X5_findForgotten_32 fame_u32 kX32_57 fuel) v3_32 v3_32) else (f_X5_findForgotten_50  (f_X5_findForgotten_32 fame_u32 kX32_57 fuel) v3_32 v1_32)))) = some R := hf
    refine lv_iload_n hx hb dX5_findForgotten_32 rfl (lv_at hl 3 rfl) ?_
    refine lv_if_lt (tgt := 57) hx hb dX5_findForgotten_33 (by decide) (fun c33 => ?_) (fun c33 => ?_)
    · have hf := iT c33 hf
      exact hkX32_57 v1_32 _ _ _ hf (lv_sub hl [0, 1, 2] rfl) hP hD hS
    · have hf := iF c33 hf
      refine lv_aload_n hx hb dX5_findForgotten_36 rfl (lv_at hl 0 rfl) ?_
      refine fgX5_22 X hP (q0 := 0) rfl rfl dX5_findForgotten_37 ?_
      refine lv_iload_n hx hb dX5_findForgotten_40 rfl (lv_at hl 3 rfl) ?_
      refine aGet X hP (q0 := 4) rfl (gdS hf).1 dX5_findForgotten_41 ?_
      have hf := (gdS hf).2
      refine lv_if_ne (tgt := 49) hx hb dX5_findForgotten_42 (by decide) (fun c42 => ?_) (fun c42 => ?_)
      · have hf := iF c42 hf
        refine lv_iload_n hx hb dX5_findForgotten_49 rfl (lv_at hl 1 rfl) ?_
        exact w_X5_findForgotten_50 ad taped at_ statements hasImage rowMany writers_u15 isKeeping_u15 cursor_u15 kind_u15 figure_u15 style_u15 silent_u15 ring_u15 kept_u15 u2_32 year_u32 forgottenWhen_u32 fame_u32 X hret _ ih v3_32 v1_32 _ _ _ hf (lv_sub hl [0, 2, 3] rfl) hP hD hS
      · have hf := iT c42 hf
        refine lv_iload_n hx hb dX5_findForgotten_45 rfl (lv_at hl 3 rfl) ?_
        refine lv_goto (tgt := 50) hx hb dX5_findForgotten_46 (by decide) ?_
        exact w_X5_findForgotten_50 ad taped at_ statements hasImage rowMany writers_u15 isKeeping_u15 cursor_u15 kind_u15 figure_u15 style_u15 silent_u15 ring_u15 kept_u15 u2_32 year_u32 forgottenWhen_u32 fame_u32 X hret _ ih v3_32 v3_32 _ _ _ hf (lv_sub hl [0, 2, 3] rfl) hP hD hS
set_option maxHeartbeats 4000000 in
set_option maxRecDepth 100000 in
theorem w_X5_findForgotten_68 {p : Program} {l : Launch} {e : Env} {s : State} {m : MethodId} {args : Array Value} {below : List Frame} {meth : Method} {c : Code} {D : va_G} {cI : ClassId} {aS : aSt} {A : Nat → Prop} {Q : State → Prop}  (ad : Nat → Nat) (taped : Int32) (at_ : Int32) (statements : Int32) (hasImage : Int32) (rowMany : Int32) (writers_u15 : Int32) (isKeeping_u15 : Int32) (cursor_u15 : Int32) (kind_u15 : (Nat → Int32)) (figure_u15 : (Nat → Int32)) (style_u15 : (Nat → Int32)) (silent_u15 : (Nat → Int32)) (ring_u15 : (Nat → Int32)) (kept_u15 : (Nat → Int32)) {R : Int32 × Int32 × Int32 × Int32 × Int32 × Int32 × (Nat → Int32) × (Nat → Int32) × (Nat → Int32) × (Nat → Int32) × (Nat → Int32) × (Nat → Int32) × (Nat → Int32)} (X : Bx p s m args meth c cX5_findForgotten 4 (some .int) RX5 D cI aS A) (hret : RtI p l e 5 s m args below meth c cX5_findForgotten (some .int) D A (wd_X5_findForgotten cI ad R.2.1 R.2.2.1 taped at_ statements hasImage R.2.2.2.1 R.2.2.2.2.1 R.2.2.2.2.2.1 rowMany R.2.2.2.2.2.2.1 R.2.2.2.2.2.2.2.1 R.2.2.2.2.2.2.2.2.1 R.2.2.2.2.2.2.2.2.2.1 R.2.2.2.2.2.2.2.2.2.2.1 R.2.2.2.2.2.2.2.2.2.2.2.1 R.2.2.2.2.2.2.2.2.2.2.2.2) R.1 Q) (kL15 : Int32 → Int32 → Int32 → Int32 → (Nat → Int32) → Option (Int32 × Int32 × Int32 × Int32 × Int32 × Int32 × (Nat → Int32) × (Nat → Int32) × (Nat → Int32) × (Nat → Int32) × (Nat → Int32) × (Nat → Int32) × (Nat → Int32))) (hkL15 : ∀ (v1_15 : Int32) (v2_15 : Int32) (year_15 : Int32) (forgottenWhen_15 : Int32) (fame_15 : (Nat → Int32)) (H : Heap) (locs : List Loc) (ls : Array Slot), kL15 v1_15 v2_15 year_15 forgottenWhen_15 fame_15 = some R → lv_has ls 4 [(0, .ref (ad 0)), (1, .int v1_15), (2, .int v2_15)] → va_P D vwCl (wd_X5_findForgotten cI ad writers_u15 year_15 taped at_ statements hasImage isKeeping_u15 cursor_u15 forgottenWhen_15 rowMany kind_u15 figure_u15 style_u15 fame_15 silent_u15 ring_u15 kept_u15) H → va_D A (wd_X5_findForgotten cI ad writers_u15 year_15 taped at_ statements hasImage isKeeping_u15 cursor_u15 forgottenWhen_15 rowMany kind_u15 figure_u15 style_u15 fame_15 silent_u15 ring_u15 kept_u15) → va_S A s.heap H locs → Wh p l e 5 s m args below meth c H locs Q (F0 m 15 ls [])) : ∀ (v1_68 : Int32) (v2_68 : Int32) (year_68 : Int32) (forgottenWhen_68 : Int32) (fame_68 : (Nat → Int32)) (t1_68 : Int32) (H : Heap) (locs : List Loc) (ls : Array Slot), f_X5_findForgotten_68 writers_u15 kind_u15 figure_u15 style_u15 silent_u15 ring_u15 kL15 v1_68 v2_68 year_68 forgottenWhen_68 fame_68 t1_68 = some R → lv_has ls 4 [(0, .ref (ad 0)), (1, .int v1_68), (2, .int v2_68)] → va_P D vwCl (wd_X5_findForgotten cI ad writers_u15 year_68 taped at_ statements hasImage isKeeping_u15 cursor_u15 forgottenWhen_68 rowMany kind_u15 figure_u15 style_u15 fame_68 silent_u15 ring_u15 kept_u15) H → va_D A (wd_X5_findForgotten cI ad writers_u15 year_68 taped at_ statements hasImage isKeeping_u15 cursor_u15 forgottenWhen_68 rowMany kind_u15 figure_u15 style_u15 fame_68 silent_u15 ring_u15 kept_u15) → va_S A s.heap H locs → Wh p l e 5 s m args below meth c H locs Q (F0 m 68 ls [.int t1_68, .ref (ad 0)]) := by
  have hx := X.1
  have hb := X.2.1
  intro v1_68 v2_68 year_68 forgottenWhen_68 fame_68 t1_68 H locs ls hf hl hP hD hS
  replace hf : ((f_X5_goesYear writers_u15 year_68 kind_u15 figure_u15 style_u15 fame_68 silent_u15 ring_u15 (0 : Int32)).bind fun (r73 : Int32 × (Nat → Int32)) => (kL15 v1_68 (v2_68 + (1 : Int32)) r73.1 t1_68 r73.2)) = some R := hf
  refine fpX5_209 X hP hD hS (q0 := 0) (ws' := (wd_X5_findForgotten cI ad writers_u15 year_68 taped at_ statements hasImage isKeeping_u15 cursor_u15 t1_68 rowMany kind_u15 figure_u15 style_u15 fame_68 silent_u15 ring_u15 kept_u15)) rfl rfl rfl (Nat.le_of_ble_eq_true rfl) rfl dX5_findForgotten_68 (fun H locs hP hD hS => ?_)
  refine lv_aload_n hx hb dX5_findForgotten_71 rfl (lv_at hl 0 rfl) ?_
  refine lv_iconst (v := 0) hx hb dX5_findForgotten_72 (by decide) ?_
  obtain ⟨r73, hq73, hf⟩ := bS hf
  refine wr_v X hP hD hS [0, 1, 2, 3, 4, 5, 6] rfl (ws' := (wd_X5_findForgotten cI ad writers_u15 r73.1 taped at_ statements hasImage isKeeping_u15 cursor_u15 t1_68 rowMany kind_u15 figure_u15 style_u15 r73.2 silent_u15 ring_u15 kept_u15)) (Nat.le_of_ble_eq_true rfl) rfl rfl (run_V X hP hD hS [0, 1, 2, 3, 4, 5, 6] rfl rfl (c_X5_goesYear l D cI aS ad writers_u15 year_68 taped at_ statements hasImage isKeeping_u15 cursor_u15 t1_68 rowMany kind_u15 figure_u15 style_u15 fame_68 silent_u15 ring_u15 (0 : Int32) _ hq73 _) lkX5_189 (by decide) (q0 := 0) rfl rfl rfl rfl (Nat.le_of_ble_eq_true rfl) hl.1 dX5_findForgotten_73) (fun H locs hP hD hS => ?_)
  refine lv_iinc (v := (v2_68 + (1 : Int32))) (lv' := [(2, .int (v2_68 + (1 : Int32))), (0, .ref (ad 0)), (1, .int v1_68)]) hx hb dX5_findForgotten_76 hl (k := 2) rfl rfl (by decide) rfl (fun ls hl => ?_)
  refine lv_goto (tgt := 15) hx hb dX5_findForgotten_79 (by decide) ?_
  exact hkL15 v1_68 (v2_68 + (1 : Int32)) r73.1 t1_68 r73.2 _ _ _ hf (lv_sub hl [1, 2, 0] rfl) hP hD hS
set_option maxHeartbeats 4000000 in
set_option maxRecDepth 100000 in
theorem w_X5_findForgotten_57 {p : Program} {l : Launch} {e : Env} {s : State} {m : MethodId} {args : Array Value} {below : List Frame} {meth : Method} {c : Code} {D : va_G} {cI : ClassId} {aS : aSt} {A : Nat → Prop} {Q : State → Prop}  (ad : Nat → Nat) (taped : Int32) (at_ : Int32) (statements : Int32) (hasImage : Int32) (rowMany : Int32) (writers_u15 : Int32) (isKeeping_u15 : Int32) (cursor_u15 : Int32) (kind_u15 : (Nat → Int32)) (figure_u15 : (Nat → Int32)) (style_u15 : (Nat → Int32)) (silent_u15 : (Nat → Int32)) (ring_u15 : (Nat → Int32)) (kept_u15 : (Nat → Int32)) {R : Int32 × Int32 × Int32 × Int32 × Int32 × Int32 × (Nat → Int32) × (Nat → Int32) × (Nat → Int32) × (Nat → Int32) × (Nat → Int32) × (Nat → Int32) × (Nat → Int32)} (X : Bx p s m args meth c cX5_findForgotten 4 (some .int) RX5 D cI aS A) (hret : RtI p l e 5 s m args below meth c cX5_findForgotten (some .int) D A (wd_X5_findForgotten cI ad R.2.1 R.2.2.1 taped at_ statements hasImage R.2.2.2.1 R.2.2.2.2.1 R.2.2.2.2.2.1 rowMany R.2.2.2.2.2.2.1 R.2.2.2.2.2.2.2.1 R.2.2.2.2.2.2.2.2.1 R.2.2.2.2.2.2.2.2.2.1 R.2.2.2.2.2.2.2.2.2.2.1 R.2.2.2.2.2.2.2.2.2.2.2.1 R.2.2.2.2.2.2.2.2.2.2.2.2) R.1 Q) (kL15 : Int32 → Int32 → Int32 → Int32 → (Nat → Int32) → Option (Int32 × Int32 × Int32 × Int32 × Int32 × Int32 × (Nat → Int32) × (Nat → Int32) × (Nat → Int32) × (Nat → Int32) × (Nat → Int32) × (Nat → Int32) × (Nat → Int32))) (hkL15 : ∀ (v1_15 : Int32) (v2_15 : Int32) (year_15 : Int32) (forgottenWhen_15 : Int32) (fame_15 : (Nat → Int32)) (H : Heap) (locs : List Loc) (ls : Array Slot), kL15 v1_15 v2_15 year_15 forgottenWhen_15 fame_15 = some R → lv_has ls 4 [(0, .ref (ad 0)), (1, .int v1_15), (2, .int v2_15)] → va_P D vwCl (wd_X5_findForgotten cI ad writers_u15 year_15 taped at_ statements hasImage isKeeping_u15 cursor_u15 forgottenWhen_15 rowMany kind_u15 figure_u15 style_u15 fame_15 silent_u15 ring_u15 kept_u15) H → va_D A (wd_X5_findForgotten cI ad writers_u15 year_15 taped at_ statements hasImage isKeeping_u15 cursor_u15 forgottenWhen_15 rowMany kind_u15 figure_u15 style_u15 fame_15 silent_u15 ring_u15 kept_u15) → va_S A s.heap H locs → Wh p l e 5 s m args below meth c H locs Q (F0 m 15 ls [])) : ∀ (v1_57 : Int32) (v2_57 : Int32) (year_57 : Int32) (forgottenWhen_57 : Int32) (fame_57 : (Nat → Int32)) (H : Heap) (locs : List Loc) (ls : Array Slot), f_X5_findForgotten_57 writers_u15 kind_u15 figure_u15 style_u15 silent_u15 ring_u15 kL15 v1_57 v2_57 year_57 forgottenWhen_57 fame_57 = some R → lv_has ls 4 [(0, .ref (ad 0)), (1, .int v1_57), (2, .int v2_57)] → va_P D vwCl (wd_X5_findForgotten cI ad writers_u15 year_57 taped at_ statements hasImage isKeeping_u15 cursor_u15 forgottenWhen_57 rowMany kind_u15 figure_u15 style_u15 fame_57 silent_u15 ring_u15 kept_u15) H → va_D A (wd_X5_findForgotten cI ad writers_u15 year_57 taped at_ statements hasImage isKeeping_u15 cursor_u15 forgottenWhen_57 rowMany kind_u15 figure_u15 style_u15 fame_57 silent_u15 ring_u15 kept_u15) → va_S A s.heap H locs → Wh p l e 5 s m args below meth c H locs Q (F0 m 57 ls []) := by
  have hx := X.1
  have hb := X.2.1
  intro v1_57 v2_57 year_57 forgottenWhen_57 fame_57 H locs ls hf hl hP hD hS
  replace hf : (if 0 ≤ v1_57 then (f_X5_findForgotten_68 writers_u15 kind_u15 figure_u15 style_u15 silent_u15 ring_u15 kL15 v1_57 v2_57 year_57 forgottenWhen_57 fame_57 v2_57) else (f_X5_findForgotten_68 writers_u15 kind_u15 figure_u15 style_u15 silent_u15 ring_u15 kL15 v1_57 v2_57 year_57 forgottenWhen_57 fame_57 (-9 : Int32))) = some R := hf
  refine lv_aload_n hx hb dX5_findForgotten_57 rfl (lv_at hl 0 rfl) ?_
  refine lv_iload_n hx hb dX5_findForgotten_58 rfl (lv_at hl 1 rfl) ?_
  refine lv_if_ge (tgt := 67) hx hb dX5_findForgotten_59 (by decide) (fun c59 => ?_) (fun c59 => ?_)
  · have hf := iT c59 hf
    refine lv_iload_n hx hb dX5_findForgotten_67 rfl (lv_at hl 2 rfl) ?_
    exact w_X5_findForgotten_68 ad taped at_ statements hasImage rowMany writers_u15 isKeeping_u15 cursor_u15 kind_u15 figure_u15 style_u15 silent_u15 ring_u15 kept_u15 X hret _ hkL15 v1_57 v2_57 year_57 forgottenWhen_57 fame_57 v2_57 _ _ _ hf (lv_sub hl [0, 1, 2] rfl) hP hD hS
  · have hf := iF c59 hf
    refine lv_bipush (v := -9) hx hb dX5_findForgotten_62 (by decide) ?_
    refine lv_goto (tgt := 68) hx hb dX5_findForgotten_64 (by decide) ?_
    exact w_X5_findForgotten_68 ad taped at_ statements hasImage rowMany writers_u15 isKeeping_u15 cursor_u15 kind_u15 figure_u15 style_u15 silent_u15 ring_u15 kept_u15 X hret _ hkL15 v1_57 v2_57 year_57 forgottenWhen_57 fame_57 (-9 : Int32) _ _ _ hf (lv_sub hl [0, 1, 2] rfl) hP hD hS
set_option maxHeartbeats 4000000 in
set_option maxRecDepth 100000 in
theorem w_X5_findForgotten_15 {p : Program} {l : Launch} {e : Env} {s : State} {m : MethodId} {args : Array Value} {below : List Frame} {meth : Method} {c : Code} {D : va_G} {cI : ClassId} {aS : aSt} {A : Nat → Prop} {Q : State → Prop}  (ad : Nat → Nat) (taped : Int32) (at_ : Int32) (statements : Int32) (hasImage : Int32) (rowMany : Int32) (writers_u15 : Int32) (isKeeping_u15 : Int32) (cursor_u15 : Int32) (kind_u15 : (Nat → Int32)) (figure_u15 : (Nat → Int32)) (style_u15 : (Nat → Int32)) (silent_u15 : (Nat → Int32)) (ring_u15 : (Nat → Int32)) (kept_u15 : (Nat → Int32)) {R : Int32 × Int32 × Int32 × Int32 × Int32 × Int32 × (Nat → Int32) × (Nat → Int32) × (Nat → Int32) × (Nat → Int32) × (Nat → Int32) × (Nat → Int32) × (Nat → Int32)} (X : Bx p s m args meth c cX5_findForgotten 4 (some .int) RX5 D cI aS A) (hret : RtI p l e 5 s m args below meth c cX5_findForgotten (some .int) D A (wd_X5_findForgotten cI ad R.2.1 R.2.2.1 taped at_ statements hasImage R.2.2.2.1 R.2.2.2.2.1 R.2.2.2.2.2.1 rowMany R.2.2.2.2.2.2.1 R.2.2.2.2.2.2.2.1 R.2.2.2.2.2.2.2.2.1 R.2.2.2.2.2.2.2.2.2.1 R.2.2.2.2.2.2.2.2.2.2.1 R.2.2.2.2.2.2.2.2.2.2.2.1 R.2.2.2.2.2.2.2.2.2.2.2.2) R.1 Q) (kX15_82 : Int32 → Int32 → Int32 → (Nat → Int32) → Option (Int32 × Int32 × Int32 × Int32 × Int32 × Int32 × (Nat → Int32) × (Nat → Int32) × (Nat → Int32) × (Nat → Int32) × (Nat → Int32) × (Nat → Int32) × (Nat → Int32))) (hkX15_82 : ∀ (v1_82 : Int32) (year_82 : Int32) (forgottenWhen_82 : Int32) (fame_82 : (Nat → Int32)) (H : Heap) (locs : List Loc) (ls : Array Slot), kX15_82 v1_82 year_82 forgottenWhen_82 fame_82 = some R → lv_has ls 4 [(0, .ref (ad 0)), (1, .int v1_82)] → va_P D vwCl (wd_X5_findForgotten cI ad writers_u15 year_82 taped at_ statements hasImage isKeeping_u15 cursor_u15 forgottenWhen_82 rowMany kind_u15 figure_u15 style_u15 fame_82 silent_u15 ring_u15 kept_u15) H → va_D A (wd_X5_findForgotten cI ad writers_u15 year_82 taped at_ statements hasImage isKeeping_u15 cursor_u15 forgottenWhen_82 rowMany kind_u15 figure_u15 style_u15 fame_82 silent_u15 ring_u15 kept_u15) → va_S A s.heap H locs → Wh p l e 5 s m args below meth c H locs Q (F0 m 82 ls [])) : ∀ (fuel : Nat) (v1_15 : Int32) (v2_15 : Int32) (year_15 : Int32) (forgottenWhen_15 : Int32) (fame_15 : (Nat → Int32)) (H : Heap) (locs : List Loc) (ls : Array Slot), f_X5_findForgotten_15 writers_u15 kind_u15 figure_u15 style_u15 silent_u15 ring_u15 kX15_82 fuel v1_15 v2_15 year_15 forgottenWhen_15 fame_15 = some R → lv_has ls 4 [(0, .ref (ad 0)), (1, .int v1_15), (2, .int v2_15)] → va_P D vwCl (wd_X5_findForgotten cI ad writers_u15 year_15 taped at_ statements hasImage isKeeping_u15 cursor_u15 forgottenWhen_15 rowMany kind_u15 figure_u15 style_u15 fame_15 silent_u15 ring_u15 kept_u15) H → va_D A (wd_X5_findForgotten cI ad writers_u15 year_15 taped at_ statements hasImage isKeeping_u15 cursor_u15 forgottenWhen_15 rowMany kind_u15 figure_u15 style_u15 fame_15 silent_u15 ring_u15 kept_u15) → va_S A s.heap H locs → Wh p l e 5 s m args below meth c H locs Q (F0 m 15 ls []) := by
  have hx := X.1
  have hb := X.2.1
  intro fuel
  induction fuel with
  | zero =>
    intro v1_15 v2_15 year_15 forgottenWhen_15 fame_15 H locs ls hf hl hP hD hS
    cases hf
  | succ fuel ih =>
    intro v1_15 v2_15 year_15 forgottenWhen_15 fame_15 H locs ls hf hl hP hD hS
    replace hf : (if (60 : Int32) < v2_15 then (kX15_82 v1_15 year_15 forgottenWhen_15 fame_15) else (if 0 ≤ v1_15 then (kX15_82 v1_15 year_15 forgottenWhen_15 fame_15) else (f_X5_findForgotten_32 fame_15 (fun (v1_57 : Int32) => (f_X5_findForgotten_57 writers_u15 kind_u15 figure_u15 style_u15 silent_u15 ring_u15 (f_X5_findForgotten_15 writers_u15 kind_u15 figure_u15 style_u15 silent_u15 ring_u15 kX15_82 fuel) v1_57 v2_15 year_15 forgottenWhen_15 fame_15)) FU v1_15 (writers_u15 - (1 : Int32))))) = some R := hf
    refine lv_iload_n hx hb dX5_findForgotten_15 rfl (lv_at hl 2 rfl) ?_
    refine lv_bipush (v := 60) hx hb dX5_findForgotten_16 (by decide) ?_
    refine lv_icmp_gt (tgt := 82) hx hb dX5_findForgotten_18 (by decide) (fun c18 => ?_) (fun c18 => ?_)
    · have hf := iT c18 hf
      exact hkX15_82 v1_15 year_15 forgottenWhen_15 fame_15 _ _ _ hf (lv_sub hl [0, 1] rfl) hP hD hS
    · have hf := iF c18 hf
      refine lv_iload_n hx hb dX5_findForgotten_21 rfl (lv_at hl 1 rfl) ?_
      refine lv_if_ge (tgt := 82) hx hb dX5_findForgotten_22 (by decide) (fun c22 => ?_) (fun c22 => ?_)
      · have hf := iT c22 hf
        exact hkX15_82 v1_15 year_15 forgottenWhen_15 fame_15 _ _ _ hf (lv_sub hl [0, 1] rfl) hP hD hS
      · have hf := iF c22 hf
        refine lv_aload_n hx hb dX5_findForgotten_25 rfl (lv_at hl 0 rfl) ?_
        refine fgX5_55 X hP (q0 := 0) rfl rfl dX5_findForgotten_26 ?_
        refine lv_iconst (v := 1) hx hb dX5_findForgotten_29 (by decide) ?_
        refine lv_isub hx hb dX5_findForgotten_30 ?_
        refine lv_istore_n (lv' := [(3, .int (writers_u15 - (1 : Int32))), (0, .ref (ad 0)), (1, .int v1_15), (2, .int v2_15)]) hx hb dX5_findForgotten_31 rfl hl (by decide) rfl (fun ls hl => ?_)
        exact w_X5_findForgotten_32 ad taped at_ statements hasImage rowMany writers_u15 isKeeping_u15 cursor_u15 kind_u15 figure_u15 style_u15 silent_u15 ring_u15 kept_u15 v2_15 year_15 forgottenWhen_15 fame_15 X hret _ (fun v1_57 _ _ _ hf hl hP hD hS => w_X5_findForgotten_57 ad taped at_ statements hasImage rowMany writers_u15 isKeeping_u15 cursor_u15 kind_u15 figure_u15 style_u15 silent_u15 ring_u15 kept_u15 X hret _ ih v1_57 v2_15 year_15 forgottenWhen_15 fame_15 _ _ _ hf (lv_sub hl [0, 1, 2] rfl) hP hD hS) _ v1_15 (writers_u15 - (1 : Int32)) _ _ _ hf (lv_sub hl [1, 2, 3, 0] rfl) hP hD hS
set_option maxHeartbeats 4000000 in
set_option maxRecDepth 100000 in
theorem w_X5_findForgotten_82 {p : Program} {l : Launch} {e : Env} {s : State} {m : MethodId} {args : Array Value} {below : List Frame} {meth : Method} {c : Code} {D : va_G} {cI : ClassId} {aS : aSt} {A : Nat → Prop} {Q : State → Prop}  (ad : Nat → Nat) (taped : Int32) (at_ : Int32) (statements : Int32) (hasImage : Int32) (rowMany : Int32) {R : Int32 × Int32 × Int32 × Int32 × Int32 × Int32 × (Nat → Int32) × (Nat → Int32) × (Nat → Int32) × (Nat → Int32) × (Nat → Int32) × (Nat → Int32) × (Nat → Int32)} (X : Bx p s m args meth c cX5_findForgotten 4 (some .int) RX5 D cI aS A) (hret : RtI p l e 5 s m args below meth c cX5_findForgotten (some .int) D A (wd_X5_findForgotten cI ad R.2.1 R.2.2.1 taped at_ statements hasImage R.2.2.2.1 R.2.2.2.2.1 R.2.2.2.2.2.1 rowMany R.2.2.2.2.2.2.1 R.2.2.2.2.2.2.2.1 R.2.2.2.2.2.2.2.2.1 R.2.2.2.2.2.2.2.2.2.1 R.2.2.2.2.2.2.2.2.2.2.1 R.2.2.2.2.2.2.2.2.2.2.2.1 R.2.2.2.2.2.2.2.2.2.2.2.2) R.1 Q) : ∀ (v1_82 : Int32) (writers_82 : Int32) (year_82 : Int32) (isKeeping_82 : Int32) (cursor_82 : Int32) (forgottenWhen_82 : Int32) (kind_82 : (Nat → Int32)) (figure_82 : (Nat → Int32)) (style_82 : (Nat → Int32)) (fame_82 : (Nat → Int32)) (silent_82 : (Nat → Int32)) (ring_82 : (Nat → Int32)) (kept_82 : (Nat → Int32)) (H : Heap) (locs : List Loc) (ls : Array Slot), f_X5_findForgotten_82   v1_82 writers_82 year_82 isKeeping_82 cursor_82 forgottenWhen_82 kind_82 figure_82 style_82 fame_82 silent_82 ring_82 kept_82 = some R → lv_has ls 4 [(0, .ref (ad 0)), (1, .int v1_82)] → va_P D vwCl (wd_X5_findForgotten cI ad writers_82 year_82 taped at_ statements hasImage isKeeping_82 cursor_82 forgottenWhen_82 rowMany kind_82 figure_82 style_82 fame_82 silent_82 ring_82 kept_82) H → va_D A (wd_X5_findForgotten cI ad writers_82 year_82 taped at_ statements hasImage isKeeping_82 cursor_82 forgottenWhen_82 rowMany kind_82 figure_82 style_82 fame_82 silent_82 ring_82 kept_82) → va_S A s.heap H locs → Wh p l e 5 s m args below meth c H locs Q (F0 m 82 ls []) := by
  have hx := X.1
  have hb := X.2.1
  intro v1_82 writers_82 year_82 isKeeping_82 cursor_82 forgottenWhen_82 kind_82 figure_82 style_82 fame_82 silent_82 ring_82 kept_82 H locs ls hf hl hP hD hS
  replace hf : ((f_X5_forgets writers_82 year_82 isKeeping_82 cursor_82 kind_82 figure_82 style_82 fame_82 silent_82 ring_82 kept_82).bind fun (r83 : Int32 × Int32 × Int32 × Int32 × (Nat → Int32) × (Nat → Int32) × (Nat → Int32) × (Nat → Int32) × (Nat → Int32) × (Nat → Int32) × (Nat → Int32)) => (some (v1_82, r83.1, r83.2.1, r83.2.2.1, r83.2.2.2.1, forgottenWhen_82, r83.2.2.2.2.1, r83.2.2.2.2.2.1, r83.2.2.2.2.2.2.1, r83.2.2.2.2.2.2.2.1, r83.2.2.2.2.2.2.2.2.1, r83.2.2.2.2.2.2.2.2.2.1, r83.2.2.2.2.2.2.2.2.2.2))) = some R := hf
  refine lv_aload_n hx hb dX5_findForgotten_82 rfl (lv_at hl 0 rfl) ?_
  obtain ⟨r83, hq83, hf⟩ := bS hf
  refine wr_v X hP hD hS [0, 1, 2, 3, 4, 5, 6, 7] rfl (ws' := (wd_X5_findForgotten cI ad r83.1 r83.2.1 taped at_ statements hasImage r83.2.2.1 r83.2.2.2.1 forgottenWhen_82 rowMany r83.2.2.2.2.1 r83.2.2.2.2.2.1 r83.2.2.2.2.2.2.1 r83.2.2.2.2.2.2.2.1 r83.2.2.2.2.2.2.2.2.1 r83.2.2.2.2.2.2.2.2.2.1 r83.2.2.2.2.2.2.2.2.2.2)) (Nat.le_of_ble_eq_true rfl) rfl rfl (run_V X hP hD hS [0, 1, 2, 3, 4, 5, 6, 7] rfl rfl (c_X5_forgets l D cI aS ad writers_82 year_82 taped at_ statements hasImage isKeeping_82 cursor_82 forgottenWhen_82 rowMany kind_82 figure_82 style_82 fame_82 silent_82 ring_82 kept_82 _ hq83 _) lkX5_203 (by decide) (q0 := 0) rfl rfl rfl rfl (Nat.le_of_ble_eq_true rfl) hl.1 dX5_findForgotten_83) (fun H locs hP hD hS => ?_)
  refine lv_iload_n hx hb dX5_findForgotten_86 rfl (lv_at hl 1 rfl) ?_
  have hR := Option.some.inj hf
  subst hR
  exact hret _ _ _ _ _ rfl (fun _ hn => by cases hn; rfl) hP hD hS dX5_findForgotten_87
set_option maxHeartbeats 4000000 in
set_option maxRecDepth 100000 in
theorem c_X5_findForgotten (l : Launch) (D : va_G) (cI : ClassId) (aS : aSt) (ad : Nat → Nat) (writers : Int32) (year : Int32) (taped : Int32) (at_ : Int32) (statements : Int32) (hasImage : Int32) (isKeeping : Int32) (cursor : Int32) (forgottenWhen : Int32) (rowMany : Int32) (kind : (Nat → Int32)) (figure : (Nat → Int32)) (style : (Nat → Int32)) (fame : (Nat → Int32)) (silent : (Nat → Int32)) (ring : (Nat → Int32)) (kept : (Nat → Int32)) (R : Int32 × Int32 × Int32 × Int32 × Int32 × Int32 × (Nat → Int32) × (Nat → Int32) × (Nat → Int32) × (Nat → Int32) × (Nat → Int32) × (Nat → Int32) × (Nat → Int32)) (hf : f_X5_findForgotten writers year isKeeping cursor forgottenWhen kind figure style fame silent ring kept = some R) : CtI l yX5_findForgotten cX5_findForgotten 4 (some .int) 5 D cI aS [.ref (ad 0)] (wd_X5_findForgotten cI ad writers year taped at_ statements hasImage isKeeping cursor forgottenWhen rowMany kind figure style fame silent ring kept) (wd_X5_findForgotten cI ad R.2.1 R.2.2.1 taped at_ statements hasImage R.2.2.2.1 R.2.2.2.2.1 R.2.2.2.2.2.1 rowMany R.2.2.2.2.2.2.1 R.2.2.2.2.2.2.2.1 R.2.2.2.2.2.2.2.2.1 R.2.2.2.2.2.2.2.2.2.1 R.2.2.2.2.2.2.2.2.2.2.1 R.2.2.2.2.2.2.2.2.2.2.2.1 R.2.2.2.2.2.2.2.2.2.2.2.2) R.1 := by
  refine ctI_of (by decide) ⟨_, rfl⟩ (Nat.le_of_ble_eq_true rfl) ?_
  intro p e s m below meth c A Q ls X hret hP hD hl
  have hS : va_S A s.heap s.heap [] := va_S.rf
  have hx := X.1
  have hb := X.2.1
  have hl : lv_has ls 4 [(0, .ref (ad 0))] := hl
  replace hf : ((f_X5_thinks writers year isKeeping cursor kind figure style fame silent ring kept).bind fun (r10 : Int32 × Int32 × Int32 × Int32 × (Nat → Int32) × (Nat → Int32) × (Nat → Int32) × (Nat → Int32) × (Nat → Int32) × (Nat → Int32) × (Nat → Int32)) => (f_X5_findForgotten_15 r10.1 r10.2.2.2.2.1 r10.2.2.2.2.2.1 r10.2.2.2.2.2.2.1 r10.2.2.2.2.2.2.2.2.1 r10.2.2.2.2.2.2.2.2.2.1 (fun (v1_82 : Int32) (year_82 : Int32) (forgottenWhen_82 : Int32) (fame_82 : (Nat → Int32)) => (f_X5_findForgotten_82   v1_82 r10.1 year_82 r10.2.2.1 r10.2.2.2.1 forgottenWhen_82 r10.2.2.2.2.1 r10.2.2.2.2.2.1 r10.2.2.2.2.2.2.1 fame_82 r10.2.2.2.2.2.2.2.2.1 r10.2.2.2.2.2.2.2.2.2.1 r10.2.2.2.2.2.2.2.2.2.2)) FU (-9 : Int32) (0 : Int32) r10.2.1 (-9 : Int32) r10.2.2.2.2.2.2.2.1)) = some R := hf
  refine lv_bipush (v := -9) hx hb dX5_findForgotten_0 (by decide) ?_
  refine lv_istore_n (lv' := [(1, .int (-9 : Int32)), (0, .ref (ad 0))]) hx hb dX5_findForgotten_2 rfl hl (by decide) rfl (fun ls hl => ?_)
  refine lv_aload_n hx hb dX5_findForgotten_3 rfl (lv_at hl 1 rfl) ?_
  refine lv_bipush (v := -9) hx hb dX5_findForgotten_4 (by decide) ?_
  refine fpX5_209 X hP hD hS (q0 := 0) (ws' := (wd_X5_findForgotten cI ad writers year taped at_ statements hasImage isKeeping cursor (-9 : Int32) rowMany kind figure style fame silent ring kept)) rfl rfl rfl (Nat.le_of_ble_eq_true rfl) rfl dX5_findForgotten_6 (fun H locs hP hD hS => ?_)
  refine lv_aload_n hx hb dX5_findForgotten_9 rfl (lv_at hl 1 rfl) ?_
  obtain ⟨r10, hq10, hf⟩ := bS hf
  refine wr_v X hP hD hS [0, 1, 2, 3, 4, 5, 6, 7] rfl (ws' := (wd_X5_findForgotten cI ad r10.1 r10.2.1 taped at_ statements hasImage r10.2.2.1 r10.2.2.2.1 (-9 : Int32) rowMany r10.2.2.2.2.1 r10.2.2.2.2.2.1 r10.2.2.2.2.2.2.1 r10.2.2.2.2.2.2.2.1 r10.2.2.2.2.2.2.2.2.1 r10.2.2.2.2.2.2.2.2.2.1 r10.2.2.2.2.2.2.2.2.2.2)) (Nat.le_of_ble_eq_true rfl) rfl rfl (run_V X hP hD hS [0, 1, 2, 3, 4, 5, 6, 7] rfl rfl (c_X5_thinks l D cI aS ad writers year taped at_ statements hasImage isKeeping cursor (-9 : Int32) rowMany kind figure style fame silent ring kept _ hq10 _) lkX5_200 (by decide) (q0 := 0) rfl rfl rfl rfl (Nat.le_of_ble_eq_true rfl) hl.1 dX5_findForgotten_10) (fun H locs hP hD hS => ?_)
  refine lv_iconst (v := 0) hx hb dX5_findForgotten_13 (by decide) ?_
  refine lv_istore_n (lv' := [(2, .int (0 : Int32)), (1, .int (-9 : Int32)), (0, .ref (ad 0))]) hx hb dX5_findForgotten_14 rfl hl (by decide) rfl (fun ls hl => ?_)
  exact w_X5_findForgotten_15 ad taped at_ statements hasImage rowMany r10.1 r10.2.2.1 r10.2.2.2.1 r10.2.2.2.2.1 r10.2.2.2.2.2.1 r10.2.2.2.2.2.2.1 r10.2.2.2.2.2.2.2.2.1 r10.2.2.2.2.2.2.2.2.2.1 r10.2.2.2.2.2.2.2.2.2.2 X hret _ (fun v1_82 year_82 forgottenWhen_82 fame_82 _ _ _ hf hl hP hD hS => w_X5_findForgotten_82 ad taped at_ statements hasImage rowMany X hret  v1_82 r10.1 year_82 r10.2.2.1 r10.2.2.2.1 forgottenWhen_82 r10.2.2.2.2.1 r10.2.2.2.2.2.1 r10.2.2.2.2.2.2.1 fame_82 r10.2.2.2.2.2.2.2.2.1 r10.2.2.2.2.2.2.2.2.2.1 r10.2.2.2.2.2.2.2.2.2.2 _ _ _ hf (lv_sub hl [0, 1] rfl) hP hD hS) _ (-9 : Int32) (0 : Int32) r10.2.1 (-9 : Int32) r10.2.2.2.2.2.2.2.1 _ _ _ hf (lv_sub hl [2, 1, 0] rfl) hP hD hS

abbrev wd_X5_findGets (cI : ClassId) (ad : Nat → Nat) (writers : Int32) (year : Int32) (taped : Int32) (at_ : Int32) (statements : Int32) (hasImage : Int32) (isKeeping : Int32) (cursor : Int32) (forgottenWhen : Int32) (rowMany : Int32) (kind : (Nat → Int32)) (figure : (Nat → Int32)) (style : (Nat → Int32)) (fame : (Nat → Int32)) (silent : (Nat → Int32)) (ring : (Nat → Int32)) (kept : (Nat → Int32)) (gets : (Nat → Int32)) : va_W := [((ad 0), .inr (5, [.ref (ad 1), .ref (ad 2), .ref (ad 3), .ref (ad 4), .ref (ad 5), .ref (ad 6), .ref (ad 7), .int writers, .int year, .ref (ad 8), .ref (ad 9), .ref (ad 10), .ref (ad 11), .int taped, .int at_, .int statements, .ref (ad 12), .int hasImage, .int isKeeping, .int cursor, .int forgottenWhen, .ref (ad 13), .ref (ad 14), .ref (ad 15), .int rowMany])), ((ad 2), .inl (cI, 7, .inl kind)), ((ad 3), .inl (cI, 7, .inl figure)), ((ad 4), .inl (cI, 7, .inl style)), ((ad 5), .inl (cI, 7, .inl fame)), ((ad 6), .inl (cI, 7, .inl silent)), ((ad 7), .inl (cI, 7, .inl ring)), ((ad 12), .inl (cI, 132, .inl kept)), ((ad 14), .inl (cI, 8, .inl gets))]
def f_X5_findGets_44 (x1 : Int32) (x2 : Int32) (kL2 : Int32 → Int32 → Int32 → Int32 → Int32 → (Nat → Int32) → (Nat → Int32) → (Nat → Int32) → (Nat → Int32) → (Nat → Int32) → (Nat → Int32) → (Nat → Int32) → (Nat → Int32) → Option (Int32 × Int32 × Int32 × Int32 × (Nat → Int32) × (Nat → Int32) × (Nat → Int32) × (Nat → Int32) × (Nat → Int32) × (Nat → Int32) × (Nat → Int32) × (Nat → Int32))) (v3_44 : Int32) (writers_44 : Int32) (year_44 : Int32) (isKeeping_44 : Int32) (cursor_44 : Int32) (kind_44 : (Nat → Int32)) (figure_44 : (Nat → Int32)) (style_44 : (Nat → Int32)) (fame_44 : (Nat → Int32)) (silent_44 : (Nat → Int32)) (ring_44 : (Nat → Int32)) (kept_44 : (Nat → Int32)) (gets_44 : (Nat → Int32)) : Option (Int32 × Int32 × Int32 × Int32 × (Nat → Int32) × (Nat → Int32) × (Nat → Int32) × (Nat → Int32) × (Nat → Int32) × (Nat → Int32) × (Nat → Int32) × (Nat → Int32)) := ((f_X5_bookWorth writers_44 year_44 kind_44 figure_44 style_44 silent_44 ring_44 x1).bind fun (r53 : Int32) => (gd ((2 : Int32) * v3_44) 8 ((f_X5_bookWorth writers_44 year_44 kind_44 figure_44 style_44 silent_44 ring_44 x2).bind fun (r74 : Int32) => (gd (((2 : Int32) * v3_44) + (1 : Int32)) 8 ((f_X5_forgets writers_44 year_44 isKeeping_44 cursor_44 kind_44 figure_44 style_44 fame_44 silent_44 ring_44 kept_44).bind fun (r85 : Int32 × Int32 × Int32 × Int32 × (Nat → Int32) × (Nat → Int32) × (Nat → Int32) × (Nat → Int32) × (Nat → Int32) × (Nat → Int32) × (Nat → Int32)) => (kL2 (v3_44 + (1 : Int32)) r85.1 r85.2.1 r85.2.2.1 r85.2.2.2.1 r85.2.2.2.2.1 r85.2.2.2.2.2.1 r85.2.2.2.2.2.2.1 r85.2.2.2.2.2.2.2.1 r85.2.2.2.2.2.2.2.2.1 r85.2.2.2.2.2.2.2.2.2.1 r85.2.2.2.2.2.2.2.2.2.2 (upd (upd gets_44 (Int32.toNatClampNeg ((2 : Int32) * v3_44)) (r53 - ((2 : Int32) * (divI v3_44 (2 : Int32))))) (Int32.toNatClampNeg (((2 : Int32) * v3_44) + (1 : Int32))) (r74 - ((2 : Int32) * (remI v3_44 (2 : Int32)))))))))))
def f_X5_findGets_33 (x1 : Int32) (x2 : Int32) (kL2 : Int32 → Int32 → Int32 → Int32 → Int32 → (Nat → Int32) → (Nat → Int32) → (Nat → Int32) → (Nat → Int32) → (Nat → Int32) → (Nat → Int32) → (Nat → Int32) → (Nat → Int32) → Option (Int32 × Int32 × Int32 × Int32 × (Nat → Int32) × (Nat → Int32) × (Nat → Int32) × (Nat → Int32) × (Nat → Int32) × (Nat → Int32) × (Nat → Int32) × (Nat → Int32))) (v3_33 : Int32) (writers_33 : Int32) (year_33 : Int32) (isKeeping_33 : Int32) (cursor_33 : Int32) (kind_33 : (Nat → Int32)) (figure_33 : (Nat → Int32)) (style_33 : (Nat → Int32)) (fame_33 : (Nat → Int32)) (silent_33 : (Nat → Int32)) (ring_33 : (Nat → Int32)) (kept_33 : (Nat → Int32)) (gets_33 : (Nat → Int32)) : Option (Int32 × Int32 × Int32 × Int32 × (Nat → Int32) × (Nat → Int32) × (Nat → Int32) × (Nat → Int32) × (Nat → Int32) × (Nat → Int32) × (Nat → Int32) × (Nat → Int32)) := (if v3_33 = (1 : Int32) then ((f_X5_bringsBehind writers_33 ring_33 x2 x1).bind fun (r41 : (Nat → Int32)) => (f_X5_findGets_44 x1 x2 kL2 v3_33 writers_33 year_33 isKeeping_33 cursor_33 kind_33 figure_33 style_33 fame_33 silent_33 r41 kept_33 gets_33)) else (f_X5_findGets_44 x1 x2 kL2 v3_33 writers_33 year_33 isKeeping_33 cursor_33 kind_33 figure_33 style_33 fame_33 silent_33 ring_33 kept_33 gets_33))
def f_X5_findGets_22 (x1 : Int32) (x2 : Int32) (kL2 : Int32 → Int32 → Int32 → Int32 → Int32 → (Nat → Int32) → (Nat → Int32) → (Nat → Int32) → (Nat → Int32) → (Nat → Int32) → (Nat → Int32) → (Nat → Int32) → (Nat → Int32) → Option (Int32 × Int32 × Int32 × Int32 × (Nat → Int32) × (Nat → Int32) × (Nat → Int32) × (Nat → Int32) × (Nat → Int32) × (Nat → Int32) × (Nat → Int32) × (Nat → Int32))) (v3_22 : Int32) (writers_22 : Int32) (year_22 : Int32) (isKeeping_22 : Int32) (cursor_22 : Int32) (kind_22 : (Nat → Int32)) (figure_22 : (Nat → Int32)) (style_22 : (Nat → Int32)) (fame_22 : (Nat → Int32)) (silent_22 : (Nat → Int32)) (ring_22 : (Nat → Int32)) (kept_22 : (Nat → Int32)) (gets_22 : (Nat → Int32)) : Option (Int32 × Int32 × Int32 × Int32 × (Nat → Int32) × (Nat → Int32) × (Nat → Int32) × (Nat → Int32) × (Nat → Int32) × (Nat → Int32) × (Nat → Int32) × (Nat → Int32)) := (if v3_22 = (2 : Int32) then ((f_X5_bringsBehind writers_22 ring_22 x1 x2).bind fun (r30 : (Nat → Int32)) => (f_X5_findGets_33 x1 x2 kL2 v3_22 writers_22 year_22 isKeeping_22 cursor_22 kind_22 figure_22 style_22 fame_22 silent_22 r30 kept_22 gets_22)) else (f_X5_findGets_33 x1 x2 kL2 v3_22 writers_22 year_22 isKeeping_22 cursor_22 kind_22 figure_22 style_22 fame_22 silent_22 ring_22 kept_22 gets_22))
def f_X5_findGets_2 (x1 : Int32) (x2 : Int32)  : Nat → Int32 → Int32 → Int32 → Int32 → Int32 → (Nat → Int32) → (Nat → Int32) → (Nat → Int32) → (Nat → Int32) → (Nat → Int32) → (Nat → Int32) → (Nat → Int32) → (Nat → Int32) → Option (Int32 × Int32 × Int32 × Int32 × (Nat → Int32) × (Nat → Int32) × (Nat → Int32) × (Nat → Int32) × (Nat → Int32) × (Nat → Int32) × (Nat → Int32) × (Nat → Int32))
  | 0 => fun _ _ _ _ _ _ _ _ _ _ _ _ _ => none
  | fuel + 1 => fun v3_2 writers_2 year_2 isKeeping_2 cursor_2 kind_2 figure_2 style_2 fame_2 silent_2 ring_2 kept_2 gets_2 => (if (4 : Int32) ≤ v3_2 then (some (writers_2, year_2, isKeeping_2, cursor_2, kind_2, figure_2, style_2, fame_2, silent_2, ring_2, kept_2, gets_2)) else ((f_X5_thinks writers_2 year_2 isKeeping_2 cursor_2 kind_2 figure_2 style_2 fame_2 silent_2 ring_2 kept_2).bind fun (r8 : Int32 × Int32 × Int32 × Int32 × (Nat → Int32) × (Nat → Int32) × (Nat → Int32) × (Nat → Int32) × (Nat → Int32) × (Nat → Int32) × (Nat → Int32)) => (if v3_2 = (3 : Int32) then ((f_X5_swaps r8.2.2.2.2.2.2.2.2.2.1 x1 x2).bind fun (r19 : (Nat → Int32)) => (f_X5_findGets_22 x1 x2 (f_X5_findGets_2 x1 x2  fuel) v3_2 r8.1 r8.2.1 r8.2.2.1 r8.2.2.2.1 r8.2.2.2.2.1 r8.2.2.2.2.2.1 r8.2.2.2.2.2.2.1 r8.2.2.2.2.2.2.2.1 r8.2.2.2.2.2.2.2.2.1 r19 r8.2.2.2.2.2.2.2.2.2.2 gets_2)) else (f_X5_findGets_22 x1 x2 (f_X5_findGets_2 x1 x2  fuel) v3_2 r8.1 r8.2.1 r8.2.2.1 r8.2.2.2.1 r8.2.2.2.2.1 r8.2.2.2.2.2.1 r8.2.2.2.2.2.2.1 r8.2.2.2.2.2.2.2.1 r8.2.2.2.2.2.2.2.2.1 r8.2.2.2.2.2.2.2.2.2.1 r8.2.2.2.2.2.2.2.2.2.2 gets_2))))
theorem e_X5_findGets_2 (x1 : Int32) (x2 : Int32)  (fuel : Nat) (v3_2 : Int32) (writers_2 : Int32) (year_2 : Int32) (isKeeping_2 : Int32) (cursor_2 : Int32) (kind_2 : (Nat → Int32)) (figure_2 : (Nat → Int32)) (style_2 : (Nat → Int32)) (fame_2 : (Nat → Int32)) (silent_2 : (Nat → Int32)) (ring_2 : (Nat → Int32)) (kept_2 : (Nat → Int32)) (gets_2 : (Nat → Int32)) : f_X5_findGets_2 x1 x2  (fuel + 1) v3_2 writers_2 year_2 isKeeping_2 cursor_2 kind_2 figure_2 style_2 fame_2 silent_2 ring_2 kept_2 gets_2 = (if (4 : Int32) ≤ v3_2 then (some (writers_2, year_2, isKeeping_2, cursor_2, kind_2, figure_2, style_2, fame_2, silent_2, ring_2, kept_2, gets_2)) else ((f_X5_thinks writers_2 year_2 isKeeping_2 cursor_2 kind_2 figure_2 style_2 fame_2 silent_2 ring_2 kept_2).bind fun (r8 : Int32 × Int32 × Int32 × Int32 × (Nat → Int32) × (Nat → Int32) × (Nat → Int32) × (Nat → Int32) × (Nat → Int32) × (Nat → Int32) × (Nat → Int32)) => (if v3_2 = (3 : Int32) then ((f_X5_swaps r8.2.2.2.2.2.2.2.2.2.1 x1 x2).bind fun (r19 : (Nat → Int32)) => (f_X5_findGets_22 x1 x2 (f_X5_findGets_2 x1 x2  fuel) v3_2 r8.1 r8.2.1 r8.2.2.1 r8.2.2.2.1 r8.2.2.2.2.1 r8.2.2.2.2.2.1 r8.2.2.2.2.2.2.1 r8.2.2.2.2.2.2.2.1 r8.2.2.2.2.2.2.2.2.1 r19 r8.2.2.2.2.2.2.2.2.2.2 gets_2)) else (f_X5_findGets_22 x1 x2 (f_X5_findGets_2 x1 x2  fuel) v3_2 r8.1 r8.2.1 r8.2.2.1 r8.2.2.2.1 r8.2.2.2.2.1 r8.2.2.2.2.2.1 r8.2.2.2.2.2.2.1 r8.2.2.2.2.2.2.2.1 r8.2.2.2.2.2.2.2.2.1 r8.2.2.2.2.2.2.2.2.2.1 r8.2.2.2.2.2.2.2.2.2.2 gets_2)))) := rfl
def f_X5_findGets (writers : Int32) (year : Int32) (isKeeping : Int32) (cursor : Int32) (kind : (Nat → Int32)) (figure : (Nat → Int32)) (style : (Nat → Int32)) (fame : (Nat → Int32)) (silent : (Nat → Int32)) (ring : (Nat → Int32)) (kept : (Nat → Int32)) (gets : (Nat → Int32)) (x1 : Int32) (x2 : Int32) : Option (Int32 × Int32 × Int32 × Int32 × (Nat → Int32) × (Nat → Int32) × (Nat → Int32) × (Nat → Int32) × (Nat → Int32) × (Nat → Int32) × (Nat → Int32) × (Nat → Int32)) := (f_X5_findGets_2 x1 x2  FU (0 : Int32) writers year isKeeping cursor kind figure style fame silent ring kept gets)
set_option maxHeartbeats 4000000 in
set_option maxRecDepth 100000 in
theorem w_X5_findGets_44 {p : Program} {l : Launch} {e : Env} {s : State} {m : MethodId} {args : Array Value} {below : List Frame} {meth : Method} {c : Code} {D : va_G} {cI : ClassId} {aS : aSt} {A : Nat → Prop} {Q : State → Prop}  (ad : Nat → Nat) (taped : Int32) (at_ : Int32) (statements : Int32) (hasImage : Int32) (forgottenWhen : Int32) (rowMany : Int32) (x1 : Int32) (x2 : Int32) {R : Int32 × Int32 × Int32 × Int32 × (Nat → Int32) × (Nat → Int32) × (Nat → Int32) × (Nat → Int32) × (Nat → Int32) × (Nat → Int32) × (Nat → Int32) × (Nat → Int32)} (X : Bx p s m args meth c cX5_findGets 4 none RX5 D cI aS A) (hret : RtV p l e 4 s m args below meth c cX5_findGets D A (wd_X5_findGets cI ad R.1 R.2.1 taped at_ statements hasImage R.2.2.1 R.2.2.2.1 forgottenWhen rowMany R.2.2.2.2.1 R.2.2.2.2.2.1 R.2.2.2.2.2.2.1 R.2.2.2.2.2.2.2.1 R.2.2.2.2.2.2.2.2.1 R.2.2.2.2.2.2.2.2.2.1 R.2.2.2.2.2.2.2.2.2.2.1 R.2.2.2.2.2.2.2.2.2.2.2) Q) (kL2 : Int32 → Int32 → Int32 → Int32 → Int32 → (Nat → Int32) → (Nat → Int32) → (Nat → Int32) → (Nat → Int32) → (Nat → Int32) → (Nat → Int32) → (Nat → Int32) → (Nat → Int32) → Option (Int32 × Int32 × Int32 × Int32 × (Nat → Int32) × (Nat → Int32) × (Nat → Int32) × (Nat → Int32) × (Nat → Int32) × (Nat → Int32) × (Nat → Int32) × (Nat → Int32))) (hkL2 : ∀ (v3_2 : Int32) (writers_2 : Int32) (year_2 : Int32) (isKeeping_2 : Int32) (cursor_2 : Int32) (kind_2 : (Nat → Int32)) (figure_2 : (Nat → Int32)) (style_2 : (Nat → Int32)) (fame_2 : (Nat → Int32)) (silent_2 : (Nat → Int32)) (ring_2 : (Nat → Int32)) (kept_2 : (Nat → Int32)) (gets_2 : (Nat → Int32)) (H : Heap) (locs : List Loc) (ls : Array Slot), kL2 v3_2 writers_2 year_2 isKeeping_2 cursor_2 kind_2 figure_2 style_2 fame_2 silent_2 ring_2 kept_2 gets_2 = some R → lv_has ls 4 [(0, .ref (ad 0)), (1, .int x1), (2, .int x2), (3, .int v3_2)] → va_P D vwCl (wd_X5_findGets cI ad writers_2 year_2 taped at_ statements hasImage isKeeping_2 cursor_2 forgottenWhen rowMany kind_2 figure_2 style_2 fame_2 silent_2 ring_2 kept_2 gets_2) H → va_D A (wd_X5_findGets cI ad writers_2 year_2 taped at_ statements hasImage isKeeping_2 cursor_2 forgottenWhen rowMany kind_2 figure_2 style_2 fame_2 silent_2 ring_2 kept_2 gets_2) → va_S A s.heap H locs → Wh p l e 4 s m args below meth c H locs Q (F0 m 2 ls [])) : ∀ (v3_44 : Int32) (writers_44 : Int32) (year_44 : Int32) (isKeeping_44 : Int32) (cursor_44 : Int32) (kind_44 : (Nat → Int32)) (figure_44 : (Nat → Int32)) (style_44 : (Nat → Int32)) (fame_44 : (Nat → Int32)) (silent_44 : (Nat → Int32)) (ring_44 : (Nat → Int32)) (kept_44 : (Nat → Int32)) (gets_44 : (Nat → Int32)) (H : Heap) (locs : List Loc) (ls : Array Slot), f_X5_findGets_44 x1 x2 kL2 v3_44 writers_44 year_44 isKeeping_44 cursor_44 kind_44 figure_44 style_44 fame_44 silent_44 ring_44 kept_44 gets_44 = some R → lv_has ls 4 [(0, .ref (ad 0)), (1, .int x1), (2, .int x2), (3, .int v3_44)] → va_P D vwCl (wd_X5_findGets cI ad writers_44 year_44 taped at_ statements hasImage isKeeping_44 cursor_44 forgottenWhen rowMany kind_44 figure_44 style_44 fame_44 silent_44 ring_44 kept_44 gets_44) H → va_D A (wd_X5_findGets cI ad writers_44 year_44 taped at_ statements hasImage isKeeping_44 cursor_44 forgottenWhen rowMany kind_44 figure_44 style_44 fame_44 silent_44 ring_44 kept_44 gets_44) → va_S A s.heap H locs → Wh p l e 4 s m args below meth c H locs Q (F0 m 44 ls []) := by
  have hx := X.1
  have hb := X.2.1
  intro v3_44 writers_44 year_44 isKeeping_44 cursor_44 kind_44 figure_44 style_44 fame_44 silent_44 ring_44 kept_44 gets_44 H locs ls hf hl hP hD hS
  replace hf : ((f_X5_bookWorth writers_44 year_44 kind_44 figure_44 style_44 silent_44 ring_44 x1).bind fun (r53 : Int32) => (gd ((2 : Int32) * v3_44) 8 ((f_X5_bookWorth writers_44 year_44 kind_44 figure_44 style_44 silent_44 ring_44 x2).bind fun (r74 : Int32) => (gd (((2 : Int32) * v3_44) + (1 : Int32)) 8 ((f_X5_forgets writers_44 year_44 isKeeping_44 cursor_44 kind_44 figure_44 style_44 fame_44 silent_44 ring_44 kept_44).bind fun (r85 : Int32 × Int32 × Int32 × Int32 × (Nat → Int32) × (Nat → Int32) × (Nat → Int32) × (Nat → Int32) × (Nat → Int32) × (Nat → Int32) × (Nat → Int32)) => (kL2 (v3_44 + (1 : Int32)) r85.1 r85.2.1 r85.2.2.1 r85.2.2.2.1 r85.2.2.2.2.1 r85.2.2.2.2.2.1 r85.2.2.2.2.2.2.1 r85.2.2.2.2.2.2.2.1 r85.2.2.2.2.2.2.2.2.1 r85.2.2.2.2.2.2.2.2.2.1 r85.2.2.2.2.2.2.2.2.2.2 (upd (upd gets_44 (Int32.toNatClampNeg ((2 : Int32) * v3_44)) (r53 - ((2 : Int32) * (divI v3_44 (2 : Int32))))) (Int32.toNatClampNeg (((2 : Int32) * v3_44) + (1 : Int32))) (r74 - ((2 : Int32) * (remI v3_44 (2 : Int32))))))))))) = some R := hf
  refine lv_aload_n hx hb dX5_findGets_44 rfl (lv_at hl 0 rfl) ?_
  refine fgX5_49 X hP (q0 := 0) rfl rfl dX5_findGets_45 ?_
  refine lv_iconst (v := 2) hx hb dX5_findGets_48 (by decide) ?_
  refine lv_iload_n hx hb dX5_findGets_49 rfl (lv_at hl 3 rfl) ?_
  refine lv_imul hx hb dX5_findGets_50 ?_
  refine lv_aload_n hx hb dX5_findGets_51 rfl (lv_at hl 0 rfl) ?_
  refine lv_iload_n hx hb dX5_findGets_52 rfl (lv_at hl 1 rfl) ?_
  obtain ⟨r53, hq53, hf⟩ := bS hf
  refine ro_i X hP hD hS [0, 1, 2, 3, 5, 6] rfl (run_V X hP hD hS [0, 1, 2, 3, 5, 6] rfl rfl (c_X5_bookWorth l D cI aS ad writers_44 year_44 taped at_ statements hasImage isKeeping_44 cursor_44 forgottenWhen rowMany kind_44 figure_44 style_44 silent_44 ring_44 x1 _ hq53 _) lkX5_180 (by decide) (q0 := 0) rfl rfl rfl rfl (Nat.le_of_ble_eq_true rfl) hl.1 dX5_findGets_53) (fun H locs hP hS => ?_)
  refine lv_iconst (v := 2) hx hb dX5_findGets_56 (by decide) ?_
  refine lv_iload_n hx hb dX5_findGets_57 rfl (lv_at hl 3 rfl) ?_
  refine lv_iconst (v := 2) hx hb dX5_findGets_58 (by decide) ?_
  refine x_idiv hx hb dX5_findGets_59 (by decide) ?_
  refine lv_imul hx hb dX5_findGets_60 ?_
  refine lv_isub hx hb dX5_findGets_61 ?_
  refine aPut X hP hD hS (q0 := 8) (ws' := (wd_X5_findGets cI ad writers_44 year_44 taped at_ statements hasImage isKeeping_44 cursor_44 forgottenWhen rowMany kind_44 figure_44 style_44 fame_44 silent_44 ring_44 kept_44 (upd gets_44 (Int32.toNatClampNeg ((2 : Int32) * v3_44)) (r53 - ((2 : Int32) * (divI v3_44 (2 : Int32))))))) rfl (gdS hf).1 rfl dX5_findGets_62 (fun H locs hP hD hS => ?_)
  have hf := (gdS hf).2
  refine lv_aload_n hx hb dX5_findGets_63 rfl (lv_at hl 0 rfl) ?_
  refine fgX5_49 X hP (q0 := 0) rfl rfl dX5_findGets_64 ?_
  refine lv_iconst (v := 2) hx hb dX5_findGets_67 (by decide) ?_
  refine lv_iload_n hx hb dX5_findGets_68 rfl (lv_at hl 3 rfl) ?_
  refine lv_imul hx hb dX5_findGets_69 ?_
  refine lv_iconst (v := 1) hx hb dX5_findGets_70 (by decide) ?_
  refine lv_iadd hx hb dX5_findGets_71 ?_
  refine lv_aload_n hx hb dX5_findGets_72 rfl (lv_at hl 0 rfl) ?_
  refine lv_iload_n hx hb dX5_findGets_73 rfl (lv_at hl 2 rfl) ?_
  obtain ⟨r74, hq74, hf⟩ := bS hf
  refine ro_i X hP hD hS [0, 1, 2, 3, 5, 6] rfl (run_V X hP hD hS [0, 1, 2, 3, 5, 6] rfl rfl (c_X5_bookWorth l D cI aS ad writers_44 year_44 taped at_ statements hasImage isKeeping_44 cursor_44 forgottenWhen rowMany kind_44 figure_44 style_44 silent_44 ring_44 x2 _ hq74 _) lkX5_180 (by decide) (q0 := 0) rfl rfl rfl rfl (Nat.le_of_ble_eq_true rfl) hl.1 dX5_findGets_74) (fun H locs hP hS => ?_)
  refine lv_iconst (v := 2) hx hb dX5_findGets_77 (by decide) ?_
  refine lv_iload_n hx hb dX5_findGets_78 rfl (lv_at hl 3 rfl) ?_
  refine lv_iconst (v := 2) hx hb dX5_findGets_79 (by decide) ?_
  refine x_irem hx hb dX5_findGets_80 (by decide) ?_
  refine lv_imul hx hb dX5_findGets_81 ?_
  refine lv_isub hx hb dX5_findGets_82 ?_
  refine aPut X hP hD hS (q0 := 8) (ws' := (wd_X5_findGets cI ad writers_44 year_44 taped at_ statements hasImage isKeeping_44 cursor_44 forgottenWhen rowMany kind_44 figure_44 style_44 fame_44 silent_44 ring_44 kept_44 (upd (upd gets_44 (Int32.toNatClampNeg ((2 : Int32) * v3_44)) (r53 - ((2 : Int32) * (divI v3_44 (2 : Int32))))) (Int32.toNatClampNeg (((2 : Int32) * v3_44) + (1 : Int32))) (r74 - ((2 : Int32) * (remI v3_44 (2 : Int32))))))) rfl (gdS hf).1 rfl dX5_findGets_83 (fun H locs hP hD hS => ?_)
  have hf := (gdS hf).2
  refine lv_aload_n hx hb dX5_findGets_84 rfl (lv_at hl 0 rfl) ?_
  obtain ⟨r85, hq85, hf⟩ := bS hf
  refine wr_v X hP hD hS [0, 1, 2, 3, 4, 5, 6, 7] rfl (ws' := (wd_X5_findGets cI ad r85.1 r85.2.1 taped at_ statements hasImage r85.2.2.1 r85.2.2.2.1 forgottenWhen rowMany r85.2.2.2.2.1 r85.2.2.2.2.2.1 r85.2.2.2.2.2.2.1 r85.2.2.2.2.2.2.2.1 r85.2.2.2.2.2.2.2.2.1 r85.2.2.2.2.2.2.2.2.2.1 r85.2.2.2.2.2.2.2.2.2.2 (upd (upd gets_44 (Int32.toNatClampNeg ((2 : Int32) * v3_44)) (r53 - ((2 : Int32) * (divI v3_44 (2 : Int32))))) (Int32.toNatClampNeg (((2 : Int32) * v3_44) + (1 : Int32))) (r74 - ((2 : Int32) * (remI v3_44 (2 : Int32))))))) (Nat.le_of_ble_eq_true rfl) rfl rfl (run_V X hP hD hS [0, 1, 2, 3, 4, 5, 6, 7] rfl rfl (c_X5_forgets l D cI aS ad writers_44 year_44 taped at_ statements hasImage isKeeping_44 cursor_44 forgottenWhen rowMany kind_44 figure_44 style_44 fame_44 silent_44 ring_44 kept_44 _ hq85 _) lkX5_203 (by decide) (q0 := 0) rfl rfl rfl rfl (Nat.le_of_ble_eq_true rfl) hl.1 dX5_findGets_85) (fun H locs hP hD hS => ?_)
  refine lv_iinc (v := (v3_44 + (1 : Int32))) (lv' := [(3, .int (v3_44 + (1 : Int32))), (0, .ref (ad 0)), (1, .int x1), (2, .int x2)]) hx hb dX5_findGets_88 hl (k := 3) rfl rfl (by decide) rfl (fun ls hl => ?_)
  refine lv_goto (tgt := 2) hx hb dX5_findGets_91 (by decide) ?_
  exact hkL2 (v3_44 + (1 : Int32)) r85.1 r85.2.1 r85.2.2.1 r85.2.2.2.1 r85.2.2.2.2.1 r85.2.2.2.2.2.1 r85.2.2.2.2.2.2.1 r85.2.2.2.2.2.2.2.1 r85.2.2.2.2.2.2.2.2.1 r85.2.2.2.2.2.2.2.2.2.1 r85.2.2.2.2.2.2.2.2.2.2 (upd (upd gets_44 (Int32.toNatClampNeg ((2 : Int32) * v3_44)) (r53 - ((2 : Int32) * (divI v3_44 (2 : Int32))))) (Int32.toNatClampNeg (((2 : Int32) * v3_44) + (1 : Int32))) (r74 - ((2 : Int32) * (remI v3_44 (2 : Int32))))) _ _ _ hf (lv_sub hl [1, 2, 3, 0] rfl) hP hD hS
set_option maxHeartbeats 4000000 in
set_option maxRecDepth 100000 in
theorem w_X5_findGets_33 {p : Program} {l : Launch} {e : Env} {s : State} {m : MethodId} {args : Array Value} {below : List Frame} {meth : Method} {c : Code} {D : va_G} {cI : ClassId} {aS : aSt} {A : Nat → Prop} {Q : State → Prop}  (ad : Nat → Nat) (taped : Int32) (at_ : Int32) (statements : Int32) (hasImage : Int32) (forgottenWhen : Int32) (rowMany : Int32) (x1 : Int32) (x2 : Int32) {R : Int32 × Int32 × Int32 × Int32 × (Nat → Int32) × (Nat → Int32) × (Nat → Int32) × (Nat → Int32) × (Nat → Int32) × (Nat → Int32) × (Nat → Int32) × (Nat → Int32)} (X : Bx p s m args meth c cX5_findGets 4 none RX5 D cI aS A) (hret : RtV p l e 4 s m args below meth c cX5_findGets D A (wd_X5_findGets cI ad R.1 R.2.1 taped at_ statements hasImage R.2.2.1 R.2.2.2.1 forgottenWhen rowMany R.2.2.2.2.1 R.2.2.2.2.2.1 R.2.2.2.2.2.2.1 R.2.2.2.2.2.2.2.1 R.2.2.2.2.2.2.2.2.1 R.2.2.2.2.2.2.2.2.2.1 R.2.2.2.2.2.2.2.2.2.2.1 R.2.2.2.2.2.2.2.2.2.2.2) Q) (kL2 : Int32 → Int32 → Int32 → Int32 → Int32 → (Nat → Int32) → (Nat → Int32) → (Nat → Int32) → (Nat → Int32) → (Nat → Int32) → (Nat → Int32) → (Nat → Int32) → (Nat → Int32) → Option (Int32 × Int32 × Int32 × Int32 × (Nat → Int32) × (Nat → Int32) × (Nat → Int32) × (Nat → Int32) × (Nat → Int32) × (Nat → Int32) × (Nat → Int32) × (Nat → Int32))) (hkL2 : ∀ (v3_2 : Int32) (writers_2 : Int32) (year_2 : Int32) (isKeeping_2 : Int32) (cursor_2 : Int32) (kind_2 : (Nat → Int32)) (figure_2 : (Nat → Int32)) (style_2 : (Nat → Int32)) (fame_2 : (Nat → Int32)) (silent_2 : (Nat → Int32)) (ring_2 : (Nat → Int32)) (kept_2 : (Nat → Int32)) (gets_2 : (Nat → Int32)) (H : Heap) (locs : List Loc) (ls : Array Slot), kL2 v3_2 writers_2 year_2 isKeeping_2 cursor_2 kind_2 figure_2 style_2 fame_2 silent_2 ring_2 kept_2 gets_2 = some R → lv_has ls 4 [(0, .ref (ad 0)), (1, .int x1), (2, .int x2), (3, .int v3_2)] → va_P D vwCl (wd_X5_findGets cI ad writers_2 year_2 taped at_ statements hasImage isKeeping_2 cursor_2 forgottenWhen rowMany kind_2 figure_2 style_2 fame_2 silent_2 ring_2 kept_2 gets_2) H → va_D A (wd_X5_findGets cI ad writers_2 year_2 taped at_ statements hasImage isKeeping_2 cursor_2 forgottenWhen rowMany kind_2 figure_2 style_2 fame_2 silent_2 ring_2 kept_2 gets_2) → va_S A s.heap H locs → Wh p l e 4 s m args below meth c H locs Q (F0 m 2 ls [])) : ∀ (v3_33 : Int32) (writers_33 : Int32) (year_33 : Int32) (isKeeping_33 : Int32) (cursor_33 : Int32) (kind_33 : (Nat → Int32)) (figure_33 : (Nat → Int32)) (style_33 : (Nat → Int32)) (fame_33 : (Nat → Int32)) (silent_33 : (Nat → Int32)) (ring_33 : (Nat → Int32)) (kept_33 : (Nat → Int32)) (gets_33 : (Nat → Int32)) (H : Heap) (locs : List Loc) (ls : Array Slot), f_X5_findGets_33 x1 x2 kL2 v3_33 writers_33 year_33 isKeeping_33 cursor_33 kind_33 figure_33 style_33 fame_33 silent_33 ring_33 kept_33 gets_33 = some R → lv_has ls 4 [(0, .ref (ad 0)), (1, .int x1), (2, .int x2), (3, .int v3_33)] → va_P D vwCl (wd_X5_findGets cI ad writers_33 year_33 taped at_ statements hasImage isKeeping_33 cursor_33 forgottenWhen rowMany kind_33 figure_33 style_33 fame_33 silent_33 ring_33 kept_33 gets_33) H → va_D A (wd_X5_findGets cI ad writers_33 year_33 taped at_ statements hasImage isKeeping_33 cursor_33 forgottenWhen rowMany kind_33 figure_33 style_33 fame_33 silent_33 ring_33 kept_33 gets_33) → va_S A s.heap H locs → Wh p l e 4 s m args below meth c H locs Q (F0 m 33 ls []) := by
  have hx := X.1
  have hb := X.2.1
  intro v3_33 writers_33 year_33 isKeeping_33 cursor_33 kind_33 figure_33 style_33 fame_33 silent_33 ring_33 kept_33 gets_33 H locs ls hf hl hP hD hS
  replace hf : (if v3_33 = (1 : Int32) then ((f_X5_bringsBehind writers_33 ring_33 x2 x1).bind fun (r41 : (Nat → Int32)) => (f_X5_findGets_44 x1 x2 kL2 v3_33 writers_33 year_33 isKeeping_33 cursor_33 kind_33 figure_33 style_33 fame_33 silent_33 r41 kept_33 gets_33)) else (f_X5_findGets_44 x1 x2 kL2 v3_33 writers_33 year_33 isKeeping_33 cursor_33 kind_33 figure_33 style_33 fame_33 silent_33 ring_33 kept_33 gets_33)) = some R := hf
  refine lv_iload_n hx hb dX5_findGets_33 rfl (lv_at hl 3 rfl) ?_
  refine lv_iconst (v := 1) hx hb dX5_findGets_34 (by decide) ?_
  refine lv_icmp_ne (tgt := 44) hx hb dX5_findGets_35 (by decide) (fun c35 => ?_) (fun c35 => ?_)
  · have hf := iF c35 hf
    exact w_X5_findGets_44 ad taped at_ statements hasImage forgottenWhen rowMany x1 x2 X hret _ hkL2 v3_33 writers_33 year_33 isKeeping_33 cursor_33 kind_33 figure_33 style_33 fame_33 silent_33 ring_33 kept_33 gets_33 _ _ _ hf (lv_sub hl [0, 1, 2, 3] rfl) hP hD hS
  · have hf := iT c35 hf
    refine lv_aload_n hx hb dX5_findGets_38 rfl (lv_at hl 0 rfl) ?_
    refine lv_iload_n hx hb dX5_findGets_39 rfl (lv_at hl 2 rfl) ?_
    refine lv_iload_n hx hb dX5_findGets_40 rfl (lv_at hl 1 rfl) ?_
    obtain ⟨r41, hq41, hf⟩ := bS hf
    refine wr_v X hP hD hS [0, 6] rfl (ws' := (wd_X5_findGets cI ad writers_33 year_33 taped at_ statements hasImage isKeeping_33 cursor_33 forgottenWhen rowMany kind_33 figure_33 style_33 fame_33 silent_33 r41 kept_33 gets_33)) (Nat.le_of_ble_eq_true rfl) rfl rfl (run_V X hP hD hS [0, 6] rfl rfl (c_X5_bringsBehind l D cI aS ad writers_33 year_33 taped at_ statements hasImage isKeeping_33 cursor_33 forgottenWhen rowMany ring_33 x2 x1 _ hq41 _) lkX5_239 (by decide) (q0 := 0) rfl rfl rfl rfl (Nat.le_of_ble_eq_true rfl) hl.1 dX5_findGets_41) (fun H locs hP hD hS => ?_)
    exact w_X5_findGets_44 ad taped at_ statements hasImage forgottenWhen rowMany x1 x2 X hret _ hkL2 v3_33 writers_33 year_33 isKeeping_33 cursor_33 kind_33 figure_33 style_33 fame_33 silent_33 r41 kept_33 gets_33 _ _ _ hf (lv_sub hl [0, 1, 2, 3] rfl) hP hD hS
set_option maxHeartbeats 4000000 in
set_option maxRecDepth 100000 in
theorem w_X5_findGets_22 {p : Program} {l : Launch} {e : Env} {s : State} {m : MethodId} {args : Array Value} {below : List Frame} {meth : Method} {c : Code} {D : va_G} {cI : ClassId} {aS : aSt} {A : Nat → Prop} {Q : State → Prop}  (ad : Nat → Nat) (taped : Int32) (at_ : Int32) (statements : Int32) (hasImage : Int32) (forgottenWhen : Int32) (rowMany : Int32) (x1 : Int32) (x2 : Int32) {R : Int32 × Int32 × Int32 × Int32 × (Nat → Int32) × (Nat → Int32) × (Nat → Int32) × (Nat → Int32) × (Nat → Int32) × (Nat → Int32) × (Nat → Int32) × (Nat → Int32)} (X : Bx p s m args meth c cX5_findGets 4 none RX5 D cI aS A) (hret : RtV p l e 4 s m args below meth c cX5_findGets D A (wd_X5_findGets cI ad R.1 R.2.1 taped at_ statements hasImage R.2.2.1 R.2.2.2.1 forgottenWhen rowMany R.2.2.2.2.1 R.2.2.2.2.2.1 R.2.2.2.2.2.2.1 R.2.2.2.2.2.2.2.1 R.2.2.2.2.2.2.2.2.1 R.2.2.2.2.2.2.2.2.2.1 R.2.2.2.2.2.2.2.2.2.2.1 R.2.2.2.2.2.2.2.2.2.2.2) Q) (kL2 : Int32 → Int32 → Int32 → Int32 → Int32 → (Nat → Int32) → (Nat → Int32) → (Nat → Int32) → (Nat → Int32) → (Nat → Int32) → (Nat → Int32) → (Nat → Int32) → (Nat → Int32) → Option (Int32 × Int32 × Int32 × Int32 × (Nat → Int32) × (Nat → Int32) × (Nat → Int32) × (Nat → Int32) × (Nat → Int32) × (Nat → Int32) × (Nat → Int32) × (Nat → Int32))) (hkL2 : ∀ (v3_2 : Int32) (writers_2 : Int32) (year_2 : Int32) (isKeeping_2 : Int32) (cursor_2 : Int32) (kind_2 : (Nat → Int32)) (figure_2 : (Nat → Int32)) (style_2 : (Nat → Int32)) (fame_2 : (Nat → Int32)) (silent_2 : (Nat → Int32)) (ring_2 : (Nat → Int32)) (kept_2 : (Nat → Int32)) (gets_2 : (Nat → Int32)) (H : Heap) (locs : List Loc) (ls : Array Slot), kL2 v3_2 writers_2 year_2 isKeeping_2 cursor_2 kind_2 figure_2 style_2 fame_2 silent_2 ring_2 kept_2 gets_2 = some R → lv_has ls 4 [(0, .ref (ad 0)), (1, .int x1), (2, .int x2), (3, .int v3_2)] → va_P D vwCl (wd_X5_findGets cI ad writers_2 year_2 taped at_ statements hasImage isKeeping_2 cursor_2 forgottenWhen rowMany kind_2 figure_2 style_2 fame_2 silent_2 ring_2 kept_2 gets_2) H → va_D A (wd_X5_findGets cI ad writers_2 year_2 taped at_ statements hasImage isKeeping_2 cursor_2 forgottenWhen rowMany kind_2 figure_2 style_2 fame_2 silent_2 ring_2 kept_2 gets_2) → va_S A s.heap H locs → Wh p l e 4 s m args below meth c H locs Q (F0 m 2 ls [])) : ∀ (v3_22 : Int32) (writers_22 : Int32) (year_22 : Int32) (isKeeping_22 : Int32) (cursor_22 : Int32) (kind_22 : (Nat → Int32)) (figure_22 : (Nat → Int32)) (style_22 : (Nat → Int32)) (fame_22 : (Nat → Int32)) (silent_22 : (Nat → Int32)) (ring_22 : (Nat → Int32)) (kept_22 : (Nat → Int32)) (gets_22 : (Nat → Int32)) (H : Heap) (locs : List Loc) (ls : Array Slot), f_X5_findGets_22 x1 x2 kL2 v3_22 writers_22 year_22 isKeeping_22 cursor_22 kind_22 figure_22 style_22 fame_22 silent_22 ring_22 kept_22 gets_22 = some R → lv_has ls 4 [(0, .ref (ad 0)), (1, .int x1), (2, .int x2), (3, .int v3_22)] → va_P D vwCl (wd_X5_findGets cI ad writers_22 year_22 taped at_ statements hasImage isKeeping_22 cursor_22 forgottenWhen rowMany kind_22 figure_22 style_22 fame_22 silent_22 ring_22 kept_22 gets_22) H → va_D A (wd_X5_findGets cI ad writers_22 year_22 taped at_ statements hasImage isKeeping_22 cursor_22 forgottenWhen rowMany kind_22 figure_22 style_22 fame_22 silent_22 ring_22 kept_22 gets_22) → va_S A s.heap H locs → Wh p l e 4 s m args below meth c H locs Q (F0 m 22 ls []) := by
  have hx := X.1
  have hb := X.2.1
  intro v3_22 writers_22 year_22 isKeeping_22 cursor_22 kind_22 figure_22 style_22 fame_22 silent_22 ring_22 kept_22 gets_22 H locs ls hf hl hP hD hS
  replace hf : (if v3_22 = (2 : Int32) then ((f_X5_bringsBehind writers_22 ring_22 x1 x2).bind fun (r30 : (Nat → Int32)) => (f_X5_findGets_33 x1 x2 kL2 v3_22 writers_22 year_22 isKeeping_22 cursor_22 kind_22 figure_22 style_22 fame_22 silent_22 r30 kept_22 gets_22)) else (f_X5_findGets_33 x1 x2 kL2 v3_22 writers_22 year_22 isKeeping_22 cursor_22 kind_22 figure_22 style_22 fame_22 silent_22 ring_22 kept_22 gets_22)) = some R := hf
  refine lv_iload_n hx hb dX5_findGets_22 rfl (lv_at hl 3 rfl) ?_
  refine lv_iconst (v := 2) hx hb dX5_findGets_23 (by decide) ?_
  refine lv_icmp_ne (tgt := 33) hx hb dX5_findGets_24 (by decide) (fun c24 => ?_) (fun c24 => ?_)
  · have hf := iF c24 hf
    exact w_X5_findGets_33 ad taped at_ statements hasImage forgottenWhen rowMany x1 x2 X hret _ hkL2 v3_22 writers_22 year_22 isKeeping_22 cursor_22 kind_22 figure_22 style_22 fame_22 silent_22 ring_22 kept_22 gets_22 _ _ _ hf (lv_sub hl [0, 1, 2, 3] rfl) hP hD hS
  · have hf := iT c24 hf
    refine lv_aload_n hx hb dX5_findGets_27 rfl (lv_at hl 0 rfl) ?_
    refine lv_iload_n hx hb dX5_findGets_28 rfl (lv_at hl 1 rfl) ?_
    refine lv_iload_n hx hb dX5_findGets_29 rfl (lv_at hl 2 rfl) ?_
    obtain ⟨r30, hq30, hf⟩ := bS hf
    refine wr_v X hP hD hS [0, 6] rfl (ws' := (wd_X5_findGets cI ad writers_22 year_22 taped at_ statements hasImage isKeeping_22 cursor_22 forgottenWhen rowMany kind_22 figure_22 style_22 fame_22 silent_22 r30 kept_22 gets_22)) (Nat.le_of_ble_eq_true rfl) rfl rfl (run_V X hP hD hS [0, 6] rfl rfl (c_X5_bringsBehind l D cI aS ad writers_22 year_22 taped at_ statements hasImage isKeeping_22 cursor_22 forgottenWhen rowMany ring_22 x1 x2 _ hq30 _) lkX5_239 (by decide) (q0 := 0) rfl rfl rfl rfl (Nat.le_of_ble_eq_true rfl) hl.1 dX5_findGets_30) (fun H locs hP hD hS => ?_)
    exact w_X5_findGets_33 ad taped at_ statements hasImage forgottenWhen rowMany x1 x2 X hret _ hkL2 v3_22 writers_22 year_22 isKeeping_22 cursor_22 kind_22 figure_22 style_22 fame_22 silent_22 r30 kept_22 gets_22 _ _ _ hf (lv_sub hl [0, 1, 2, 3] rfl) hP hD hS
set_option maxHeartbeats 4000000 in
set_option maxRecDepth 100000 in
theorem w_X5_findGets_2 {p : Program} {l : Launch} {e : Env} {s : State} {m : MethodId} {args : Array Value} {below : List Frame} {meth : Method} {c : Code} {D : va_G} {cI : ClassId} {aS : aSt} {A : Nat → Prop} {Q : State → Prop}  (ad : Nat → Nat) (taped : Int32) (at_ : Int32) (statements : Int32) (hasImage : Int32) (forgottenWhen : Int32) (rowMany : Int32) (x1 : Int32) (x2 : Int32) {R : Int32 × Int32 × Int32 × Int32 × (Nat → Int32) × (Nat → Int32) × (Nat → Int32) × (Nat → Int32) × (Nat → Int32) × (Nat → Int32) × (Nat → Int32) × (Nat → Int32)} (X : Bx p s m args meth c cX5_findGets 4 none RX5 D cI aS A) (hret : RtV p l e 4 s m args below meth c cX5_findGets D A (wd_X5_findGets cI ad R.1 R.2.1 taped at_ statements hasImage R.2.2.1 R.2.2.2.1 forgottenWhen rowMany R.2.2.2.2.1 R.2.2.2.2.2.1 R.2.2.2.2.2.2.1 R.2.2.2.2.2.2.2.1 R.2.2.2.2.2.2.2.2.1 R.2.2.2.2.2.2.2.2.2.1 R.2.2.2.2.2.2.2.2.2.2.1 R.2.2.2.2.2.2.2.2.2.2.2) Q) : ∀ (fuel : Nat) (v3_2 : Int32) (writers_2 : Int32) (year_2 : Int32) (isKeeping_2 : Int32) (cursor_2 : Int32) (kind_2 : (Nat → Int32)) (figure_2 : (Nat → Int32)) (style_2 : (Nat → Int32)) (fame_2 : (Nat → Int32)) (silent_2 : (Nat → Int32)) (ring_2 : (Nat → Int32)) (kept_2 : (Nat → Int32)) (gets_2 : (Nat → Int32)) (H : Heap) (locs : List Loc) (ls : Array Slot), f_X5_findGets_2 x1 x2  fuel v3_2 writers_2 year_2 isKeeping_2 cursor_2 kind_2 figure_2 style_2 fame_2 silent_2 ring_2 kept_2 gets_2 = some R → lv_has ls 4 [(0, .ref (ad 0)), (1, .int x1), (2, .int x2), (3, .int v3_2)] → va_P D vwCl (wd_X5_findGets cI ad writers_2 year_2 taped at_ statements hasImage isKeeping_2 cursor_2 forgottenWhen rowMany kind_2 figure_2 style_2 fame_2 silent_2 ring_2 kept_2 gets_2) H → va_D A (wd_X5_findGets cI ad writers_2 year_2 taped at_ statements hasImage isKeeping_2 cursor_2 forgottenWhen rowMany kind_2 figure_2 style_2 fame_2 silent_2 ring_2 kept_2 gets_2) → va_S A s.heap H locs → Wh p l e 4 s m args below meth c H locs Q (F0 m 2 ls []) := by
  have hx := X.1
  have hb := X.2.1
  intro fuel
  induction fuel with
  | zero =>
    intro v3_2 writers_2 year_2 isKeeping_2 cursor_2 kind_2 figure_2 style_2 fame_2 silent_2 ring_2 kept_2 gets_2 H locs ls hf hl hP hD hS
    cases hf
  | succ fuel ih =>
    intro v3_2 writers_2 year_2 isKeeping_2 cursor_2 kind_2 figure_2 style_2 fame_2 silent_2 ring_2 kept_2 gets_2 H locs ls hf hl hP hD hS
    replace hf : (if (4 : Int32) ≤ v3_2 then (some (writers_2, year_2, isKeeping_2, cursor_2, kind_2, figure_2, style_2, fame_2, silent_2, ring_2, kept_2, gets_2)) else ((f_X5_thinks writers_2 year_2 isKeeping_2 cursor_2 kind_2 figure_2 style_2 fame_2 silent_2 ring_2 kept_2).bind fun (r8 : Int32 × Int32 × Int32 × Int32 × (Nat → Int32) × (Nat → Int32) × (Nat → Int32) × (Nat → Int32) × (Nat → Int32) × (Nat → Int32) × (Nat → Int32)) => (if v3_2 = (3 : Int32) then ((f_X5_swaps r8.2.2.2.2.2.2.2.2.2.1 x1 x2).bind fun (r19 : (Nat → Int32)) => (f_X5_findGets_22 x1 x2 (f_X5_findGets_2 x1 x2  fuel) v3_2 r8.1 r8.2.1 r8.2.2.1 r8.2.2.2.1 r8.2.2.2.2.1 r8.2.2.2.2.2.1 r8.2.2.2.2.2.2.1 r8.2.2.2.2.2.2.2.1 r8.2.2.2.2.2.2.2.2.1 r19 r8.2.2.2.2.2.2.2.2.2.2 gets_2)) else (f_X5_findGets_22 x1 x2 (f_X5_findGets_2 x1 x2  fuel) v3_2 r8.1 r8.2.1 r8.2.2.1 r8.2.2.2.1 r8.2.2.2.2.1 r8.2.2.2.2.2.1 r8.2.2.2.2.2.2.1 r8.2.2.2.2.2.2.2.1 r8.2.2.2.2.2.2.2.2.1 r8.2.2.2.2.2.2.2.2.2.1 r8.2.2.2.2.2.2.2.2.2.2 gets_2)))) = some R := hf
    refine lv_iload_n hx hb dX5_findGets_2 rfl (lv_at hl 3 rfl) ?_
    refine lv_iconst (v := 4) hx hb dX5_findGets_3 (by decide) ?_
    refine lv_icmp_ge (tgt := 94) hx hb dX5_findGets_4 (by decide) (fun c4 => ?_) (fun c4 => ?_)
    · have hf := iT c4 hf
      have hR := Option.some.inj hf
      subst hR
      exact hret _ _ _ _ hP hD hS dX5_findGets_94
    · have hf := iF c4 hf
      refine lv_aload_n hx hb dX5_findGets_7 rfl (lv_at hl 0 rfl) ?_
      obtain ⟨r8, hq8, hf⟩ := bS hf
      refine wr_v X hP hD hS [0, 1, 2, 3, 4, 5, 6, 7] rfl (ws' := (wd_X5_findGets cI ad r8.1 r8.2.1 taped at_ statements hasImage r8.2.2.1 r8.2.2.2.1 forgottenWhen rowMany r8.2.2.2.2.1 r8.2.2.2.2.2.1 r8.2.2.2.2.2.2.1 r8.2.2.2.2.2.2.2.1 r8.2.2.2.2.2.2.2.2.1 r8.2.2.2.2.2.2.2.2.2.1 r8.2.2.2.2.2.2.2.2.2.2 gets_2)) (Nat.le_of_ble_eq_true rfl) rfl rfl (run_V X hP hD hS [0, 1, 2, 3, 4, 5, 6, 7] rfl rfl (c_X5_thinks l D cI aS ad writers_2 year_2 taped at_ statements hasImage isKeeping_2 cursor_2 forgottenWhen rowMany kind_2 figure_2 style_2 fame_2 silent_2 ring_2 kept_2 _ hq8 _) lkX5_200 (by decide) (q0 := 0) rfl rfl rfl rfl (Nat.le_of_ble_eq_true rfl) hl.1 dX5_findGets_8) (fun H locs hP hD hS => ?_)
      refine lv_iload_n hx hb dX5_findGets_11 rfl (lv_at hl 3 rfl) ?_
      refine lv_iconst (v := 3) hx hb dX5_findGets_12 (by decide) ?_
      refine lv_icmp_ne (tgt := 22) hx hb dX5_findGets_13 (by decide) (fun c13 => ?_) (fun c13 => ?_)
      · have hf := iF c13 hf
        exact w_X5_findGets_22 ad taped at_ statements hasImage forgottenWhen rowMany x1 x2 X hret _ ih v3_2 r8.1 r8.2.1 r8.2.2.1 r8.2.2.2.1 r8.2.2.2.2.1 r8.2.2.2.2.2.1 r8.2.2.2.2.2.2.1 r8.2.2.2.2.2.2.2.1 r8.2.2.2.2.2.2.2.2.1 r8.2.2.2.2.2.2.2.2.2.1 r8.2.2.2.2.2.2.2.2.2.2 gets_2 _ _ _ hf (lv_sub hl [0, 1, 2, 3] rfl) hP hD hS
      · have hf := iT c13 hf
        refine lv_aload_n hx hb dX5_findGets_16 rfl (lv_at hl 0 rfl) ?_
        refine lv_iload_n hx hb dX5_findGets_17 rfl (lv_at hl 1 rfl) ?_
        refine lv_iload_n hx hb dX5_findGets_18 rfl (lv_at hl 2 rfl) ?_
        obtain ⟨r19, hq19, hf⟩ := bS hf
        refine wr_v X hP hD hS [0, 6] rfl (ws' := (wd_X5_findGets cI ad r8.1 r8.2.1 taped at_ statements hasImage r8.2.2.1 r8.2.2.2.1 forgottenWhen rowMany r8.2.2.2.2.1 r8.2.2.2.2.2.1 r8.2.2.2.2.2.2.1 r8.2.2.2.2.2.2.2.1 r8.2.2.2.2.2.2.2.2.1 r19 r8.2.2.2.2.2.2.2.2.2.2 gets_2)) (Nat.le_of_ble_eq_true rfl) rfl rfl (run_V X hP hD hS [0, 6] rfl rfl (c_X5_swaps l D cI aS ad r8.1 r8.2.1 taped at_ statements hasImage r8.2.2.1 r8.2.2.2.1 forgottenWhen rowMany r8.2.2.2.2.2.2.2.2.2.1 x1 x2 _ hq19 _) lkX5_117 (by decide) (q0 := 0) rfl rfl rfl rfl (Nat.le_of_ble_eq_true rfl) hl.1 dX5_findGets_19) (fun H locs hP hD hS => ?_)
        exact w_X5_findGets_22 ad taped at_ statements hasImage forgottenWhen rowMany x1 x2 X hret _ ih v3_2 r8.1 r8.2.1 r8.2.2.1 r8.2.2.2.1 r8.2.2.2.2.1 r8.2.2.2.2.2.1 r8.2.2.2.2.2.2.1 r8.2.2.2.2.2.2.2.1 r8.2.2.2.2.2.2.2.2.1 r19 r8.2.2.2.2.2.2.2.2.2.2 gets_2 _ _ _ hf (lv_sub hl [0, 1, 2, 3] rfl) hP hD hS
set_option maxHeartbeats 4000000 in
set_option maxRecDepth 100000 in
theorem c_X5_findGets (l : Launch) (D : va_G) (cI : ClassId) (aS : aSt) (ad : Nat → Nat) (writers : Int32) (year : Int32) (taped : Int32) (at_ : Int32) (statements : Int32) (hasImage : Int32) (isKeeping : Int32) (cursor : Int32) (forgottenWhen : Int32) (rowMany : Int32) (kind : (Nat → Int32)) (figure : (Nat → Int32)) (style : (Nat → Int32)) (fame : (Nat → Int32)) (silent : (Nat → Int32)) (ring : (Nat → Int32)) (kept : (Nat → Int32)) (gets : (Nat → Int32)) (x1 : Int32) (x2 : Int32) (R : Int32 × Int32 × Int32 × Int32 × (Nat → Int32) × (Nat → Int32) × (Nat → Int32) × (Nat → Int32) × (Nat → Int32) × (Nat → Int32) × (Nat → Int32) × (Nat → Int32)) (hf : f_X5_findGets writers year isKeeping cursor kind figure style fame silent ring kept gets x1 x2 = some R) : CtV l yX5_findGets cX5_findGets 4 none 4 D cI aS [.ref (ad 0), .int x1, .int x2] (wd_X5_findGets cI ad writers year taped at_ statements hasImage isKeeping cursor forgottenWhen rowMany kind figure style fame silent ring kept gets) (wd_X5_findGets cI ad R.1 R.2.1 taped at_ statements hasImage R.2.2.1 R.2.2.2.1 forgottenWhen rowMany R.2.2.2.2.1 R.2.2.2.2.2.1 R.2.2.2.2.2.2.1 R.2.2.2.2.2.2.2.1 R.2.2.2.2.2.2.2.2.1 R.2.2.2.2.2.2.2.2.2.1 R.2.2.2.2.2.2.2.2.2.2.1 R.2.2.2.2.2.2.2.2.2.2.2) := by
  refine ctV_of (by decide) rfl (Nat.le_of_ble_eq_true rfl) ?_
  intro p e s m below meth c A Q ls X hret hP hD hl
  have hS : va_S A s.heap s.heap [] := va_S.rf
  have hx := X.1
  have hb := X.2.1
  have hl : lv_has ls 4 [(0, .ref (ad 0)), (1, .int x1), (2, .int x2)] := hl
  replace hf : (f_X5_findGets_2 x1 x2  FU (0 : Int32) writers year isKeeping cursor kind figure style fame silent ring kept gets) = some R := hf
  refine lv_iconst (v := 0) hx hb dX5_findGets_0 (by decide) ?_
  refine lv_istore_n (lv' := [(3, .int (0 : Int32)), (0, .ref (ad 0)), (1, .int x1), (2, .int x2)]) hx hb dX5_findGets_1 rfl hl (by decide) rfl (fun ls hl => ?_)
  exact w_X5_findGets_2 ad taped at_ statements hasImage forgottenWhen rowMany x1 x2 X hret  _ (0 : Int32) writers year isKeeping cursor kind figure style fame silent ring kept gets _ _ _ hf (lv_sub hl [1, 2, 3, 0] rfl) hP hD hS

abbrev wd_X5_findRing (cI : ClassId) (ad : Nat → Nat) (writers : Int32) (year : Int32) (taped : Int32) (at_ : Int32) (statements : Int32) (hasImage : Int32) (isKeeping : Int32) (cursor : Int32) (forgottenWhen : Int32) (rowMany : Int32) (kind : (Nat → Int32)) (figure : (Nat → Int32)) (style : (Nat → Int32)) (fame : (Nat → Int32)) (silent : (Nat → Int32)) (ring : (Nat → Int32)) (kept : (Nat → Int32)) (bestRing : (Nat → Int32)) : va_W := [((ad 0), .inr (5, [.ref (ad 1), .ref (ad 2), .ref (ad 3), .ref (ad 4), .ref (ad 5), .ref (ad 6), .ref (ad 7), .int writers, .int year, .ref (ad 8), .ref (ad 9), .ref (ad 10), .ref (ad 11), .int taped, .int at_, .int statements, .ref (ad 12), .int hasImage, .int isKeeping, .int cursor, .int forgottenWhen, .ref (ad 13), .ref (ad 14), .ref (ad 15), .int rowMany])), ((ad 2), .inl (cI, 7, .inl kind)), ((ad 3), .inl (cI, 7, .inl figure)), ((ad 4), .inl (cI, 7, .inl style)), ((ad 5), .inl (cI, 7, .inl fame)), ((ad 6), .inl (cI, 7, .inl silent)), ((ad 7), .inl (cI, 7, .inl ring)), ((ad 12), .inl (cI, 132, .inl kept)), ((ad 13), .inl (cI, 7, .inl bestRing))]
def f_X5_findRing_4 (writers_u4 : Int32) (kX4_22 : Int32 → Option (Int32 × Int32 × Int32 × Int32 × Int32 × (Nat → Int32) × (Nat → Int32) × (Nat → Int32) × (Nat → Int32) × (Nat → Int32) × (Nat → Int32) × (Nat → Int32) × (Nat → Int32))) : Nat → Int32 → Int32 → Option (Int32 × Int32 × Int32 × Int32 × Int32 × (Nat → Int32) × (Nat → Int32) × (Nat → Int32) × (Nat → Int32) × (Nat → Int32) × (Nat → Int32) × (Nat → Int32) × (Nat → Int32))
  | 0 => fun _ _ => none
  | fuel + 1 => fun v1_4 v2_4 => (if writers_u4 ≤ v2_4 then (kX4_22 v1_4) else (f_X5_findRing_4 writers_u4 kX4_22 fuel (v1_4 * v2_4) (v2_4 + (1 : Int32))))
theorem e_X5_findRing_4 (writers_u4 : Int32) (kX4_22 : Int32 → Option (Int32 × Int32 × Int32 × Int32 × Int32 × (Nat → Int32) × (Nat → Int32) × (Nat → Int32) × (Nat → Int32) × (Nat → Int32) × (Nat → Int32) × (Nat → Int32) × (Nat → Int32))) (fuel : Nat) (v1_4 : Int32) (v2_4 : Int32) : f_X5_findRing_4 writers_u4 kX4_22 (fuel + 1) v1_4 v2_4 = (if writers_u4 ≤ v2_4 then (kX4_22 v1_4) else (f_X5_findRing_4 writers_u4 kX4_22 fuel (v1_4 * v2_4) (v2_4 + (1 : Int32)))) := rfl
def f_X5_findRing_51 (writers_u31 : Int32) (u2_51 : Int32) (u4_51 : Int32) (ring_u51 : (Nat → Int32)) (kX51_86 : (Nat → Int32) → Option (Int32 × Int32 × Int32 × Int32 × Int32 × (Nat → Int32) × (Nat → Int32) × (Nat → Int32) × (Nat → Int32) × (Nat → Int32) × (Nat → Int32) × (Nat → Int32) × (Nat → Int32))) : Nat → Int32 → (Nat → Int32) → Option (Int32 × Int32 × Int32 × Int32 × Int32 × (Nat → Int32) × (Nat → Int32) × (Nat → Int32) × (Nat → Int32) × (Nat → Int32) × (Nat → Int32) × (Nat → Int32) × (Nat → Int32))
  | 0 => fun _ _ => none
  | fuel + 1 => fun v5_51 bestRing_51 => (if writers_u31 ≤ v5_51 then (kX51_86 bestRing_51) else (if u4_51 ≤ u2_51 then (kX51_86 bestRing_51) else (gd v5_51 7 (gd v5_51 7 (f_X5_findRing_51 writers_u31 u2_51 u4_51 ring_u51 kX51_86 fuel (v5_51 + (1 : Int32)) (upd bestRing_51 (Int32.toNatClampNeg v5_51) (ring_u51 (Int32.toNatClampNeg v5_51))))))))
theorem e_X5_findRing_51 (writers_u31 : Int32) (u2_51 : Int32) (u4_51 : Int32) (ring_u51 : (Nat → Int32)) (kX51_86 : (Nat → Int32) → Option (Int32 × Int32 × Int32 × Int32 × Int32 × (Nat → Int32) × (Nat → Int32) × (Nat → Int32) × (Nat → Int32) × (Nat → Int32) × (Nat → Int32) × (Nat → Int32) × (Nat → Int32))) (fuel : Nat) (v5_51 : Int32) (bestRing_51 : (Nat → Int32)) : f_X5_findRing_51 writers_u31 u2_51 u4_51 ring_u51 kX51_86 (fuel + 1) v5_51 bestRing_51 = (if writers_u31 ≤ v5_51 then (kX51_86 bestRing_51) else (if u4_51 ≤ u2_51 then (kX51_86 bestRing_51) else (gd v5_51 7 (gd v5_51 7 (f_X5_findRing_51 writers_u31 u2_51 u4_51 ring_u51 kX51_86 fuel (v5_51 + (1 : Int32)) (upd bestRing_51 (Int32.toNatClampNeg v5_51) (ring_u51 (Int32.toNatClampNeg v5_51)))))))) := rfl
def f_X5_findRing_98  (kL31 : Int32 → Int32 → (Nat → Int32) → (Nat → Int32) → Option (Int32 × Int32 × Int32 × Int32 × Int32 × (Nat → Int32) × (Nat → Int32) × (Nat → Int32) × (Nat → Int32) × (Nat → Int32) × (Nat → Int32) × (Nat → Int32) × (Nat → Int32))) (v3_98 : Int32) (ring_98 : (Nat → Int32)) (bestRing_98 : (Nat → Int32)) (t0_98 : Int32) : Option (Int32 × Int32 × Int32 × Int32 × Int32 × (Nat → Int32) × (Nat → Int32) × (Nat → Int32) × (Nat → Int32) × (Nat → Int32) × (Nat → Int32) × (Nat → Int32) × (Nat → Int32)) := (kL31 t0_98 (v3_98 + (1 : Int32)) ring_98 bestRing_98)
def f_X5_findRing_86  (kL31 : Int32 → Int32 → (Nat → Int32) → (Nat → Int32) → Option (Int32 × Int32 × Int32 × Int32 × Int32 × (Nat → Int32) × (Nat → Int32) × (Nat → Int32) × (Nat → Int32) × (Nat → Int32) × (Nat → Int32) × (Nat → Int32) × (Nat → Int32))) (v2_86 : Int32) (v3_86 : Int32) (v4_86 : Int32) (ring_86 : (Nat → Int32)) (bestRing_86 : (Nat → Int32)) : Option (Int32 × Int32 × Int32 × Int32 × Int32 × (Nat → Int32) × (Nat → Int32) × (Nat → Int32) × (Nat → Int32) × (Nat → Int32) × (Nat → Int32) × (Nat → Int32) × (Nat → Int32)) := (if v4_86 ≤ v2_86 then (f_X5_findRing_98  kL31 v3_86 ring_86 bestRing_86 v2_86) else (f_X5_findRing_98  kL31 v3_86 ring_86 bestRing_86 v4_86))
def f_X5_findRing_31 (u1_31 : Int32) (writers_u31 : Int32) (year_u31 : Int32) (kind_u31 : (Nat → Int32)) (figure_u31 : (Nat → Int32)) (style_u31 : (Nat → Int32)) (silent_u31 : (Nat → Int32)) (kX31_105 : Int32 → (Nat → Int32) → (Nat → Int32) → Option (Int32 × Int32 × Int32 × Int32 × Int32 × (Nat → Int32) × (Nat → Int32) × (Nat → Int32) × (Nat → Int32) × (Nat → Int32) × (Nat → Int32) × (Nat → Int32) × (Nat → Int32))) : Nat → Int32 → Int32 → (Nat → Int32) → (Nat → Int32) → Option (Int32 × Int32 × Int32 × Int32 × Int32 × (Nat → Int32) × (Nat → Int32) × (Nat → Int32) × (Nat → Int32) × (Nat → Int32) × (Nat → Int32) × (Nat → Int32) × (Nat → Int32))
  | 0 => fun _ _ _ _ => none
  | fuel + 1 => fun v2_31 v3_31 ring_31 bestRing_31 => (if u1_31 ≤ v3_31 then (kX31_105 v2_31 ring_31 bestRing_31) else ((f_X5_ringsBy writers_u31 ring_31 v3_31 u1_31).bind fun (r39 : (Nat → Int32)) => ((f_X5_allWorth writers_u31 year_u31 kind_u31 figure_u31 style_u31 silent_u31 r39).bind fun (r43 : Int32) => (f_X5_findRing_51 writers_u31 v2_31 r43 r39 (fun (bestRing_86 : (Nat → Int32)) => (f_X5_findRing_86  (f_X5_findRing_31 u1_31 writers_u31 year_u31 kind_u31 figure_u31 style_u31 silent_u31 kX31_105 fuel) v2_31 v3_31 r43 r39 bestRing_86)) FU (0 : Int32) bestRing_31))))
theorem e_X5_findRing_31 (u1_31 : Int32) (writers_u31 : Int32) (year_u31 : Int32) (kind_u31 : (Nat → Int32)) (figure_u31 : (Nat → Int32)) (style_u31 : (Nat → Int32)) (silent_u31 : (Nat → Int32)) (kX31_105 : Int32 → (Nat → Int32) → (Nat → Int32) → Option (Int32 × Int32 × Int32 × Int32 × Int32 × (Nat → Int32) × (Nat → Int32) × (Nat → Int32) × (Nat → Int32) × (Nat → Int32) × (Nat → Int32) × (Nat → Int32) × (Nat → Int32))) (fuel : Nat) (v2_31 : Int32) (v3_31 : Int32) (ring_31 : (Nat → Int32)) (bestRing_31 : (Nat → Int32)) : f_X5_findRing_31 u1_31 writers_u31 year_u31 kind_u31 figure_u31 style_u31 silent_u31 kX31_105 (fuel + 1) v2_31 v3_31 ring_31 bestRing_31 = (if u1_31 ≤ v3_31 then (kX31_105 v2_31 ring_31 bestRing_31) else ((f_X5_ringsBy writers_u31 ring_31 v3_31 u1_31).bind fun (r39 : (Nat → Int32)) => ((f_X5_allWorth writers_u31 year_u31 kind_u31 figure_u31 style_u31 silent_u31 r39).bind fun (r43 : Int32) => (f_X5_findRing_51 writers_u31 v2_31 r43 r39 (fun (bestRing_86 : (Nat → Int32)) => (f_X5_findRing_86  (f_X5_findRing_31 u1_31 writers_u31 year_u31 kind_u31 figure_u31 style_u31 silent_u31 kX31_105 fuel) v2_31 v3_31 r43 r39 bestRing_86)) FU (0 : Int32) bestRing_31)))) := rfl
def f_X5_findRing_105   (v2_105 : Int32) (writers_105 : Int32) (year_105 : Int32) (isKeeping_105 : Int32) (cursor_105 : Int32) (kind_105 : (Nat → Int32)) (figure_105 : (Nat → Int32)) (style_105 : (Nat → Int32)) (fame_105 : (Nat → Int32)) (silent_105 : (Nat → Int32)) (ring_105 : (Nat → Int32)) (kept_105 : (Nat → Int32)) (bestRing_105 : (Nat → Int32)) : Option (Int32 × Int32 × Int32 × Int32 × Int32 × (Nat → Int32) × (Nat → Int32) × (Nat → Int32) × (Nat → Int32) × (Nat → Int32) × (Nat → Int32) × (Nat → Int32) × (Nat → Int32)) := ((f_X5_forgets writers_105 year_105 isKeeping_105 cursor_105 kind_105 figure_105 style_105 fame_105 silent_105 ring_105 kept_105).bind fun (r106 : Int32 × Int32 × Int32 × Int32 × (Nat → Int32) × (Nat → Int32) × (Nat → Int32) × (Nat → Int32) × (Nat → Int32) × (Nat → Int32) × (Nat → Int32)) => (some (v2_105, r106.1, r106.2.1, r106.2.2.1, r106.2.2.2.1, r106.2.2.2.2.1, r106.2.2.2.2.2.1, r106.2.2.2.2.2.2.1, r106.2.2.2.2.2.2.2.1, r106.2.2.2.2.2.2.2.2.1, r106.2.2.2.2.2.2.2.2.2.1, r106.2.2.2.2.2.2.2.2.2.2, bestRing_105)))
def f_X5_findRing_22   (v1_22 : Int32) (writers_22 : Int32) (year_22 : Int32) (isKeeping_22 : Int32) (cursor_22 : Int32) (kind_22 : (Nat → Int32)) (figure_22 : (Nat → Int32)) (style_22 : (Nat → Int32)) (fame_22 : (Nat → Int32)) (silent_22 : (Nat → Int32)) (ring_22 : (Nat → Int32)) (kept_22 : (Nat → Int32)) (bestRing_22 : (Nat → Int32)) : Option (Int32 × Int32 × Int32 × Int32 × Int32 × (Nat → Int32) × (Nat → Int32) × (Nat → Int32) × (Nat → Int32) × (Nat → Int32) × (Nat → Int32) × (Nat → Int32) × (Nat → Int32)) := ((f_X5_thinks writers_22 year_22 isKeeping_22 cursor_22 kind_22 figure_22 style_22 fame_22 silent_22 ring_22 kept_22).bind fun (r26 : Int32 × Int32 × Int32 × Int32 × (Nat → Int32) × (Nat → Int32) × (Nat → Int32) × (Nat → Int32) × (Nat → Int32) × (Nat → Int32) × (Nat → Int32)) => (f_X5_findRing_31 v1_22 r26.1 r26.2.1 r26.2.2.2.2.1 r26.2.2.2.2.2.1 r26.2.2.2.2.2.2.1 r26.2.2.2.2.2.2.2.2.1 (fun (v2_105 : Int32) (ring_105 : (Nat → Int32)) (bestRing_105 : (Nat → Int32)) => (f_X5_findRing_105   v2_105 r26.1 r26.2.1 r26.2.2.1 r26.2.2.2.1 r26.2.2.2.2.1 r26.2.2.2.2.2.1 r26.2.2.2.2.2.2.1 r26.2.2.2.2.2.2.2.1 r26.2.2.2.2.2.2.2.2.1 ring_105 r26.2.2.2.2.2.2.2.2.2.2 bestRing_105)) FU (-64 : Int32) (0 : Int32) r26.2.2.2.2.2.2.2.2.2.1 bestRing_22))
def f_X5_findRing (writers : Int32) (year : Int32) (isKeeping : Int32) (cursor : Int32) (kind : (Nat → Int32)) (figure : (Nat → Int32)) (style : (Nat → Int32)) (fame : (Nat → Int32)) (silent : (Nat → Int32)) (ring : (Nat → Int32)) (kept : (Nat → Int32)) (bestRing : (Nat → Int32)) : Option (Int32 × Int32 × Int32 × Int32 × Int32 × (Nat → Int32) × (Nat → Int32) × (Nat → Int32) × (Nat → Int32) × (Nat → Int32) × (Nat → Int32) × (Nat → Int32) × (Nat → Int32)) := (f_X5_findRing_4 writers (fun (v1_22 : Int32) => (f_X5_findRing_22   v1_22 writers year isKeeping cursor kind figure style fame silent ring kept bestRing)) FU (1 : Int32) (2 : Int32))
set_option maxHeartbeats 4000000 in
set_option maxRecDepth 100000 in
theorem w_X5_findRing_4 {p : Program} {l : Launch} {e : Env} {s : State} {m : MethodId} {args : Array Value} {below : List Frame} {meth : Method} {c : Code} {D : va_G} {cI : ClassId} {aS : aSt} {A : Nat → Prop} {Q : State → Prop}  (ad : Nat → Nat) (taped : Int32) (at_ : Int32) (statements : Int32) (hasImage : Int32) (forgottenWhen : Int32) (rowMany : Int32) (writers_u4 : Int32) (year_u4 : Int32) (isKeeping_u4 : Int32) (cursor_u4 : Int32) (kind_u4 : (Nat → Int32)) (figure_u4 : (Nat → Int32)) (style_u4 : (Nat → Int32)) (fame_u4 : (Nat → Int32)) (silent_u4 : (Nat → Int32)) (ring_u4 : (Nat → Int32)) (kept_u4 : (Nat → Int32)) (bestRing_u4 : (Nat → Int32)) {R : Int32 × Int32 × Int32 × Int32 × Int32 × (Nat → Int32) × (Nat → Int32) × (Nat → Int32) × (Nat → Int32) × (Nat → Int32) × (Nat → Int32) × (Nat → Int32) × (Nat → Int32)} (X : Bx p s m args meth c cX5_findRing 6 (some .int) RX5 D cI aS A) (hret : RtI p l e 5 s m args below meth c cX5_findRing (some .int) D A (wd_X5_findRing cI ad R.2.1 R.2.2.1 taped at_ statements hasImage R.2.2.2.1 R.2.2.2.2.1 forgottenWhen rowMany R.2.2.2.2.2.1 R.2.2.2.2.2.2.1 R.2.2.2.2.2.2.2.1 R.2.2.2.2.2.2.2.2.1 R.2.2.2.2.2.2.2.2.2.1 R.2.2.2.2.2.2.2.2.2.2.1 R.2.2.2.2.2.2.2.2.2.2.2.1 R.2.2.2.2.2.2.2.2.2.2.2.2) R.1 Q) (kX4_22 : Int32 → Option (Int32 × Int32 × Int32 × Int32 × Int32 × (Nat → Int32) × (Nat → Int32) × (Nat → Int32) × (Nat → Int32) × (Nat → Int32) × (Nat → Int32) × (Nat → Int32) × (Nat → Int32))) (hkX4_22 : ∀ (v1_22 : Int32) (H : Heap) (locs : List Loc) (ls : Array Slot), kX4_22 v1_22 = some R → lv_has ls 6 [(0, .ref (ad 0)), (1, .int v1_22)] → va_P D vwCl (wd_X5_findRing cI ad writers_u4 year_u4 taped at_ statements hasImage isKeeping_u4 cursor_u4 forgottenWhen rowMany kind_u4 figure_u4 style_u4 fame_u4 silent_u4 ring_u4 kept_u4 bestRing_u4) H → va_D A (wd_X5_findRing cI ad writers_u4 year_u4 taped at_ statements hasImage isKeeping_u4 cursor_u4 forgottenWhen rowMany kind_u4 figure_u4 style_u4 fame_u4 silent_u4 ring_u4 kept_u4 bestRing_u4) → va_S A s.heap H locs → Wh p l e 5 s m args below meth c H locs Q (F0 m 22 ls [])) : ∀ (fuel : Nat) (v1_4 : Int32) (v2_4 : Int32) (H : Heap) (locs : List Loc) (ls : Array Slot), f_X5_findRing_4 writers_u4 kX4_22 fuel v1_4 v2_4 = some R → lv_has ls 6 [(0, .ref (ad 0)), (1, .int v1_4), (2, .int v2_4)] → va_P D vwCl (wd_X5_findRing cI ad writers_u4 year_u4 taped at_ statements hasImage isKeeping_u4 cursor_u4 forgottenWhen rowMany kind_u4 figure_u4 style_u4 fame_u4 silent_u4 ring_u4 kept_u4 bestRing_u4) H → va_D A (wd_X5_findRing cI ad writers_u4 year_u4 taped at_ statements hasImage isKeeping_u4 cursor_u4 forgottenWhen rowMany kind_u4 figure_u4 style_u4 fame_u4 silent_u4 ring_u4 kept_u4 bestRing_u4) → va_S A s.heap H locs → Wh p l e 5 s m args below meth c H locs Q (F0 m 4 ls []) := by
  have hx := X.1
  have hb := X.2.1
  intro fuel
  induction fuel with
  | zero =>
    intro v1_4 v2_4 H locs ls hf hl hP hD hS
    cases hf
  | succ fuel ih =>
    intro v1_4 v2_4 H locs ls hf hl hP hD hS
    replace hf : (if writers_u4 ≤ v2_4 then (kX4_22 v1_4) else (f_X5_findRing_4 writers_u4 kX4_22 fuel (v1_4 * v2_4) (v2_4 + (1 : Int32)))) = some R := hf
    refine lv_iload_n hx hb dX5_findRing_4 rfl (lv_at hl 2 rfl) ?_
    refine lv_aload_n hx hb dX5_findRing_5 rfl (lv_at hl 0 rfl) ?_
    refine fgX5_55 X hP (q0 := 0) rfl rfl dX5_findRing_6 ?_
    refine lv_icmp_ge (tgt := 22) hx hb dX5_findRing_9 (by decide) (fun c9 => ?_) (fun c9 => ?_)
    · have hf := iT c9 hf
      exact hkX4_22 v1_4 _ _ _ hf (lv_sub hl [0, 1] rfl) hP hD hS
    · have hf := iF c9 hf
      refine lv_iload_n hx hb dX5_findRing_12 rfl (lv_at hl 1 rfl) ?_
      refine lv_iload_n hx hb dX5_findRing_13 rfl (lv_at hl 2 rfl) ?_
      refine lv_imul hx hb dX5_findRing_14 ?_
      refine lv_istore_n (lv' := [(1, .int (v1_4 * v2_4)), (0, .ref (ad 0)), (2, .int v2_4)]) hx hb dX5_findRing_15 rfl hl (by decide) rfl (fun ls hl => ?_)
      refine lv_iinc (v := (v2_4 + (1 : Int32))) (lv' := [(2, .int (v2_4 + (1 : Int32))), (1, .int (v1_4 * v2_4)), (0, .ref (ad 0))]) hx hb dX5_findRing_16 hl (k := 2) rfl rfl (by decide) rfl (fun ls hl => ?_)
      refine lv_goto (tgt := 4) hx hb dX5_findRing_19 (by decide) ?_
      exact ih (v1_4 * v2_4) (v2_4 + (1 : Int32)) _ _ _ hf (lv_sub hl [2, 1, 0] rfl) hP hD hS
set_option maxHeartbeats 4000000 in
set_option maxRecDepth 100000 in
theorem w_X5_findRing_51 {p : Program} {l : Launch} {e : Env} {s : State} {m : MethodId} {args : Array Value} {below : List Frame} {meth : Method} {c : Code} {D : va_G} {cI : ClassId} {aS : aSt} {A : Nat → Prop} {Q : State → Prop}  (ad : Nat → Nat) (taped : Int32) (at_ : Int32) (statements : Int32) (hasImage : Int32) (forgottenWhen : Int32) (rowMany : Int32) (u1_31 : Int32) (writers_u31 : Int32) (year_u31 : Int32) (isKeeping_u31 : Int32) (cursor_u31 : Int32) (kind_u31 : (Nat → Int32)) (figure_u31 : (Nat → Int32)) (style_u31 : (Nat → Int32)) (fame_u31 : (Nat → Int32)) (silent_u31 : (Nat → Int32)) (kept_u31 : (Nat → Int32)) (u2_51 : Int32) (u3_51 : Int32) (u4_51 : Int32) (ring_u51 : (Nat → Int32)) {R : Int32 × Int32 × Int32 × Int32 × Int32 × (Nat → Int32) × (Nat → Int32) × (Nat → Int32) × (Nat → Int32) × (Nat → Int32) × (Nat → Int32) × (Nat → Int32) × (Nat → Int32)} (X : Bx p s m args meth c cX5_findRing 6 (some .int) RX5 D cI aS A) (hret : RtI p l e 5 s m args below meth c cX5_findRing (some .int) D A (wd_X5_findRing cI ad R.2.1 R.2.2.1 taped at_ statements hasImage R.2.2.2.1 R.2.2.2.2.1 forgottenWhen rowMany R.2.2.2.2.2.1 R.2.2.2.2.2.2.1 R.2.2.2.2.2.2.2.1 R.2.2.2.2.2.2.2.2.1 R.2.2.2.2.2.2.2.2.2.1 R.2.2.2.2.2.2.2.2.2.2.1 R.2.2.2.2.2.2.2.2.2.2.2.1 R.2.2.2.2.2.2.2.2.2.2.2.2) R.1 Q) (kX51_86 : (Nat → Int32) → Option (Int32 × Int32 × Int32 × Int32 × Int32 × (Nat → Int32) × (Nat → Int32) × (Nat → Int32) × (Nat → Int32) × (Nat → Int32) × (Nat → Int32) × (Nat → Int32) × (Nat → Int32))) (hkX51_86 : ∀ (bestRing_86 : (Nat → Int32)) (H : Heap) (locs : List Loc) (ls : Array Slot), kX51_86 bestRing_86 = some R → lv_has ls 6 [(0, .ref (ad 0)), (1, .int u1_31), (2, .int u2_51), (3, .int u3_51), (4, .int u4_51)] → va_P D vwCl (wd_X5_findRing cI ad writers_u31 year_u31 taped at_ statements hasImage isKeeping_u31 cursor_u31 forgottenWhen rowMany kind_u31 figure_u31 style_u31 fame_u31 silent_u31 ring_u51 kept_u31 bestRing_86) H → va_D A (wd_X5_findRing cI ad writers_u31 year_u31 taped at_ statements hasImage isKeeping_u31 cursor_u31 forgottenWhen rowMany kind_u31 figure_u31 style_u31 fame_u31 silent_u31 ring_u51 kept_u31 bestRing_86) → va_S A s.heap H locs → Wh p l e 5 s m args below meth c H locs Q (F0 m 86 ls [])) : ∀ (fuel : Nat) (v5_51 : Int32) (bestRing_51 : (Nat → Int32)) (H : Heap) (locs : List Loc) (ls : Array Slot), f_X5_findRing_51 writers_u31 u2_51 u4_51 ring_u51 kX51_86 fuel v5_51 bestRing_51 = some R → lv_has ls 6 [(0, .ref (ad 0)), (1, .int u1_31), (2, .int u2_51), (3, .int u3_51), (4, .int u4_51), (5, .int v5_51)] → va_P D vwCl (wd_X5_findRing cI ad writers_u31 year_u31 taped at_ statements hasImage isKeeping_u31 cursor_u31 forgottenWhen rowMany kind_u31 figure_u31 style_u31 fame_u31 silent_u31 ring_u51 kept_u31 bestRing_51) H → va_D A (wd_X5_findRing cI ad writers_u31 year_u31 taped at_ statements hasImage isKeeping_u31 cursor_u31 forgottenWhen rowMany kind_u31 figure_u31 style_u31 fame_u31 silent_u31 ring_u51 kept_u31 bestRing_51) → va_S A s.heap H locs → Wh p l e 5 s m args below meth c H locs Q (F0 m 51 ls []) := by
  have hx := X.1
  have hb := X.2.1
  intro fuel
  induction fuel with
  | zero =>
    intro v5_51 bestRing_51 H locs ls hf hl hP hD hS
    cases hf
  | succ fuel ih =>
    intro v5_51 bestRing_51 H locs ls hf hl hP hD hS
    replace hf : (if writers_u31 ≤ v5_51 then (kX51_86 bestRing_51) else (if u4_51 ≤ u2_51 then (kX51_86 bestRing_51) else (gd v5_51 7 (gd v5_51 7 (f_X5_findRing_51 writers_u31 u2_51 u4_51 ring_u51 kX51_86 fuel (v5_51 + (1 : Int32)) (upd bestRing_51 (Int32.toNatClampNeg v5_51) (ring_u51 (Int32.toNatClampNeg v5_51)))))))) = some R := hf
    refine lv_iload hx hb dX5_findRing_51 (lv_at hl 5 rfl) ?_
    refine lv_aload_n hx hb dX5_findRing_53 rfl (lv_at hl 0 rfl) ?_
    refine fgX5_55 X hP (q0 := 0) rfl rfl dX5_findRing_54 ?_
    refine lv_icmp_ge (tgt := 86) hx hb dX5_findRing_57 (by decide) (fun c57 => ?_) (fun c57 => ?_)
    · have hf := iT c57 hf
      exact hkX51_86 bestRing_51 _ _ _ hf (lv_sub hl [0, 1, 2, 3, 4] rfl) hP hD hS
    · have hf := iF c57 hf
      refine lv_iload hx hb dX5_findRing_60 (lv_at hl 4 rfl) ?_
      refine lv_iload_n hx hb dX5_findRing_62 rfl (lv_at hl 2 rfl) ?_
      refine lv_icmp_le (tgt := 86) hx hb dX5_findRing_63 (by decide) (fun c63 => ?_) (fun c63 => ?_)
      · have hf := iT c63 hf
        exact hkX51_86 bestRing_51 _ _ _ hf (lv_sub hl [0, 1, 2, 3, 4] rfl) hP hD hS
      · have hf := iF c63 hf
        refine lv_aload_n hx hb dX5_findRing_66 rfl (lv_at hl 0 rfl) ?_
        refine fgX5_46 X hP (q0 := 0) rfl rfl dX5_findRing_67 ?_
        refine lv_iload hx hb dX5_findRing_70 (lv_at hl 5 rfl) ?_
        refine lv_aload_n hx hb dX5_findRing_72 rfl (lv_at hl 0 rfl) ?_
        refine fgX5_28 X hP (q0 := 0) rfl rfl dX5_findRing_73 ?_
        refine lv_iload hx hb dX5_findRing_76 (lv_at hl 5 rfl) ?_
        refine aGet X hP (q0 := 6) rfl (gdS hf).1 dX5_findRing_78 ?_
        have hf := (gdS hf).2
        refine aPut X hP hD hS (q0 := 8) (ws' := (wd_X5_findRing cI ad writers_u31 year_u31 taped at_ statements hasImage isKeeping_u31 cursor_u31 forgottenWhen rowMany kind_u31 figure_u31 style_u31 fame_u31 silent_u31 ring_u51 kept_u31 (upd bestRing_51 (Int32.toNatClampNeg v5_51) (ring_u51 (Int32.toNatClampNeg v5_51))))) rfl (gdS hf).1 rfl dX5_findRing_79 (fun H locs hP hD hS => ?_)
        have hf := (gdS hf).2
        refine lv_iinc (v := (v5_51 + (1 : Int32))) (lv' := [(5, .int (v5_51 + (1 : Int32))), (0, .ref (ad 0)), (1, .int u1_31), (2, .int u2_51), (3, .int u3_51), (4, .int u4_51)]) hx hb dX5_findRing_80 hl (k := 5) rfl rfl (by decide) rfl (fun ls hl => ?_)
        refine lv_goto (tgt := 51) hx hb dX5_findRing_83 (by decide) ?_
        exact ih (v5_51 + (1 : Int32)) (upd bestRing_51 (Int32.toNatClampNeg v5_51) (ring_u51 (Int32.toNatClampNeg v5_51))) _ _ _ hf (lv_sub hl [1, 2, 3, 4, 5, 0] rfl) hP hD hS
set_option maxHeartbeats 4000000 in
set_option maxRecDepth 100000 in
theorem w_X5_findRing_98 {p : Program} {l : Launch} {e : Env} {s : State} {m : MethodId} {args : Array Value} {below : List Frame} {meth : Method} {c : Code} {D : va_G} {cI : ClassId} {aS : aSt} {A : Nat → Prop} {Q : State → Prop}  (ad : Nat → Nat) (taped : Int32) (at_ : Int32) (statements : Int32) (hasImage : Int32) (forgottenWhen : Int32) (rowMany : Int32) (u1_31 : Int32) (writers_u31 : Int32) (year_u31 : Int32) (isKeeping_u31 : Int32) (cursor_u31 : Int32) (kind_u31 : (Nat → Int32)) (figure_u31 : (Nat → Int32)) (style_u31 : (Nat → Int32)) (fame_u31 : (Nat → Int32)) (silent_u31 : (Nat → Int32)) (kept_u31 : (Nat → Int32)) {R : Int32 × Int32 × Int32 × Int32 × Int32 × (Nat → Int32) × (Nat → Int32) × (Nat → Int32) × (Nat → Int32) × (Nat → Int32) × (Nat → Int32) × (Nat → Int32) × (Nat → Int32)} (X : Bx p s m args meth c cX5_findRing 6 (some .int) RX5 D cI aS A) (hret : RtI p l e 5 s m args below meth c cX5_findRing (some .int) D A (wd_X5_findRing cI ad R.2.1 R.2.2.1 taped at_ statements hasImage R.2.2.2.1 R.2.2.2.2.1 forgottenWhen rowMany R.2.2.2.2.2.1 R.2.2.2.2.2.2.1 R.2.2.2.2.2.2.2.1 R.2.2.2.2.2.2.2.2.1 R.2.2.2.2.2.2.2.2.2.1 R.2.2.2.2.2.2.2.2.2.2.1 R.2.2.2.2.2.2.2.2.2.2.2.1 R.2.2.2.2.2.2.2.2.2.2.2.2) R.1 Q) (kL31 : Int32 → Int32 → (Nat → Int32) → (Nat → Int32) → Option (Int32 × Int32 × Int32 × Int32 × Int32 × (Nat → Int32) × (Nat → Int32) × (Nat → Int32) × (Nat → Int32) × (Nat → Int32) × (Nat → Int32) × (Nat → Int32) × (Nat → Int32))) (hkL31 : ∀ (v2_31 : Int32) (v3_31 : Int32) (ring_31 : (Nat → Int32)) (bestRing_31 : (Nat → Int32)) (H : Heap) (locs : List Loc) (ls : Array Slot), kL31 v2_31 v3_31 ring_31 bestRing_31 = some R → lv_has ls 6 [(0, .ref (ad 0)), (1, .int u1_31), (2, .int v2_31), (3, .int v3_31)] → va_P D vwCl (wd_X5_findRing cI ad writers_u31 year_u31 taped at_ statements hasImage isKeeping_u31 cursor_u31 forgottenWhen rowMany kind_u31 figure_u31 style_u31 fame_u31 silent_u31 ring_31 kept_u31 bestRing_31) H → va_D A (wd_X5_findRing cI ad writers_u31 year_u31 taped at_ statements hasImage isKeeping_u31 cursor_u31 forgottenWhen rowMany kind_u31 figure_u31 style_u31 fame_u31 silent_u31 ring_31 kept_u31 bestRing_31) → va_S A s.heap H locs → Wh p l e 5 s m args below meth c H locs Q (F0 m 31 ls [])) : ∀ (v3_98 : Int32) (ring_98 : (Nat → Int32)) (bestRing_98 : (Nat → Int32)) (t0_98 : Int32) (H : Heap) (locs : List Loc) (ls : Array Slot), f_X5_findRing_98  kL31 v3_98 ring_98 bestRing_98 t0_98 = some R → lv_has ls 6 [(0, .ref (ad 0)), (1, .int u1_31), (3, .int v3_98)] → va_P D vwCl (wd_X5_findRing cI ad writers_u31 year_u31 taped at_ statements hasImage isKeeping_u31 cursor_u31 forgottenWhen rowMany kind_u31 figure_u31 style_u31 fame_u31 silent_u31 ring_98 kept_u31 bestRing_98) H → va_D A (wd_X5_findRing cI ad writers_u31 year_u31 taped at_ statements hasImage isKeeping_u31 cursor_u31 forgottenWhen rowMany kind_u31 figure_u31 style_u31 fame_u31 silent_u31 ring_98 kept_u31 bestRing_98) → va_S A s.heap H locs → Wh p l e 5 s m args below meth c H locs Q (F0 m 98 ls [.int t0_98]) := by
  have hx := X.1
  have hb := X.2.1
  intro v3_98 ring_98 bestRing_98 t0_98 H locs ls hf hl hP hD hS
  replace hf : (kL31 t0_98 (v3_98 + (1 : Int32)) ring_98 bestRing_98) = some R := hf
  refine lv_istore_n (lv' := [(2, .int t0_98), (0, .ref (ad 0)), (1, .int u1_31), (3, .int v3_98)]) hx hb dX5_findRing_98 rfl hl (by decide) rfl (fun ls hl => ?_)
  refine lv_iinc (v := (v3_98 + (1 : Int32))) (lv' := [(3, .int (v3_98 + (1 : Int32))), (2, .int t0_98), (0, .ref (ad 0)), (1, .int u1_31)]) hx hb dX5_findRing_99 hl (k := 3) rfl rfl (by decide) rfl (fun ls hl => ?_)
  refine lv_goto (tgt := 31) hx hb dX5_findRing_102 (by decide) ?_
  exact hkL31 t0_98 (v3_98 + (1 : Int32)) ring_98 bestRing_98 _ _ _ hf (lv_sub hl [2, 3, 1, 0] rfl) hP hD hS
set_option maxHeartbeats 4000000 in
set_option maxRecDepth 100000 in
theorem w_X5_findRing_86 {p : Program} {l : Launch} {e : Env} {s : State} {m : MethodId} {args : Array Value} {below : List Frame} {meth : Method} {c : Code} {D : va_G} {cI : ClassId} {aS : aSt} {A : Nat → Prop} {Q : State → Prop}  (ad : Nat → Nat) (taped : Int32) (at_ : Int32) (statements : Int32) (hasImage : Int32) (forgottenWhen : Int32) (rowMany : Int32) (u1_31 : Int32) (writers_u31 : Int32) (year_u31 : Int32) (isKeeping_u31 : Int32) (cursor_u31 : Int32) (kind_u31 : (Nat → Int32)) (figure_u31 : (Nat → Int32)) (style_u31 : (Nat → Int32)) (fame_u31 : (Nat → Int32)) (silent_u31 : (Nat → Int32)) (kept_u31 : (Nat → Int32)) {R : Int32 × Int32 × Int32 × Int32 × Int32 × (Nat → Int32) × (Nat → Int32) × (Nat → Int32) × (Nat → Int32) × (Nat → Int32) × (Nat → Int32) × (Nat → Int32) × (Nat → Int32)} (X : Bx p s m args meth c cX5_findRing 6 (some .int) RX5 D cI aS A) (hret : RtI p l e 5 s m args below meth c cX5_findRing (some .int) D A (wd_X5_findRing cI ad R.2.1 R.2.2.1 taped at_ statements hasImage R.2.2.2.1 R.2.2.2.2.1 forgottenWhen rowMany R.2.2.2.2.2.1 R.2.2.2.2.2.2.1 R.2.2.2.2.2.2.2.1 R.2.2.2.2.2.2.2.2.1 R.2.2.2.2.2.2.2.2.2.1 R.2.2.2.2.2.2.2.2.2.2.1 R.2.2.2.2.2.2.2.2.2.2.2.1 R.2.2.2.2.2.2.2.2.2.2.2.2) R.1 Q) (kL31 : Int32 → Int32 → (Nat → Int32) → (Nat → Int32) → Option (Int32 × Int32 × Int32 × Int32 × Int32 × (Nat → Int32) × (Nat → Int32) × (Nat → Int32) × (Nat → Int32) × (Nat → Int32) × (Nat → Int32) × (Nat → Int32) × (Nat → Int32))) (hkL31 : ∀ (v2_31 : Int32) (v3_31 : Int32) (ring_31 : (Nat → Int32)) (bestRing_31 : (Nat → Int32)) (H : Heap) (locs : List Loc) (ls : Array Slot), kL31 v2_31 v3_31 ring_31 bestRing_31 = some R → lv_has ls 6 [(0, .ref (ad 0)), (1, .int u1_31), (2, .int v2_31), (3, .int v3_31)] → va_P D vwCl (wd_X5_findRing cI ad writers_u31 year_u31 taped at_ statements hasImage isKeeping_u31 cursor_u31 forgottenWhen rowMany kind_u31 figure_u31 style_u31 fame_u31 silent_u31 ring_31 kept_u31 bestRing_31) H → va_D A (wd_X5_findRing cI ad writers_u31 year_u31 taped at_ statements hasImage isKeeping_u31 cursor_u31 forgottenWhen rowMany kind_u31 figure_u31 style_u31 fame_u31 silent_u31 ring_31 kept_u31 bestRing_31) → va_S A s.heap H locs → Wh p l e 5 s m args below meth c H locs Q (F0 m 31 ls [])) : ∀ (v2_86 : Int32) (v3_86 : Int32) (v4_86 : Int32) (ring_86 : (Nat → Int32)) (bestRing_86 : (Nat → Int32)) (H : Heap) (locs : List Loc) (ls : Array Slot), f_X5_findRing_86  kL31 v2_86 v3_86 v4_86 ring_86 bestRing_86 = some R → lv_has ls 6 [(0, .ref (ad 0)), (1, .int u1_31), (2, .int v2_86), (3, .int v3_86), (4, .int v4_86)] → va_P D vwCl (wd_X5_findRing cI ad writers_u31 year_u31 taped at_ statements hasImage isKeeping_u31 cursor_u31 forgottenWhen rowMany kind_u31 figure_u31 style_u31 fame_u31 silent_u31 ring_86 kept_u31 bestRing_86) H → va_D A (wd_X5_findRing cI ad writers_u31 year_u31 taped at_ statements hasImage isKeeping_u31 cursor_u31 forgottenWhen rowMany kind_u31 figure_u31 style_u31 fame_u31 silent_u31 ring_86 kept_u31 bestRing_86) → va_S A s.heap H locs → Wh p l e 5 s m args below meth c H locs Q (F0 m 86 ls []) := by
  have hx := X.1
  have hb := X.2.1
  intro v2_86 v3_86 v4_86 ring_86 bestRing_86 H locs ls hf hl hP hD hS
  replace hf : (if v4_86 ≤ v2_86 then (f_X5_findRing_98  kL31 v3_86 ring_86 bestRing_86 v2_86) else (f_X5_findRing_98  kL31 v3_86 ring_86 bestRing_86 v4_86)) = some R := hf
  refine lv_iload hx hb dX5_findRing_86 (lv_at hl 4 rfl) ?_
  refine lv_iload_n hx hb dX5_findRing_88 rfl (lv_at hl 2 rfl) ?_
  refine lv_icmp_le (tgt := 97) hx hb dX5_findRing_89 (by decide) (fun c89 => ?_) (fun c89 => ?_)
  · have hf := iT c89 hf
    refine lv_iload_n hx hb dX5_findRing_97 rfl (lv_at hl 2 rfl) ?_
    exact w_X5_findRing_98 ad taped at_ statements hasImage forgottenWhen rowMany u1_31 writers_u31 year_u31 isKeeping_u31 cursor_u31 kind_u31 figure_u31 style_u31 fame_u31 silent_u31 kept_u31 X hret _ hkL31 v3_86 ring_86 bestRing_86 v2_86 _ _ _ hf (lv_sub hl [0, 1, 3] rfl) hP hD hS
  · have hf := iF c89 hf
    refine lv_iload hx hb dX5_findRing_92 (lv_at hl 4 rfl) ?_
    refine lv_goto (tgt := 98) hx hb dX5_findRing_94 (by decide) ?_
    exact w_X5_findRing_98 ad taped at_ statements hasImage forgottenWhen rowMany u1_31 writers_u31 year_u31 isKeeping_u31 cursor_u31 kind_u31 figure_u31 style_u31 fame_u31 silent_u31 kept_u31 X hret _ hkL31 v3_86 ring_86 bestRing_86 v4_86 _ _ _ hf (lv_sub hl [0, 1, 3] rfl) hP hD hS
set_option maxHeartbeats 4000000 in
set_option maxRecDepth 100000 in
theorem w_X5_findRing_31 {p : Program} {l : Launch} {e : Env} {s : State} {m : MethodId} {args : Array Value} {below : List Frame} {meth : Method} {c : Code} {D : va_G} {cI : ClassId} {aS : aSt} {A : Nat → Prop} {Q : State → Prop}  (ad : Nat → Nat) (taped : Int32) (at_ : Int32) (statements : Int32) (hasImage : Int32) (forgottenWhen : Int32) (rowMany : Int32) (u1_31 : Int32) (writers_u31 : Int32) (year_u31 : Int32) (isKeeping_u31 : Int32) (cursor_u31 : Int32) (kind_u31 : (Nat → Int32)) (figure_u31 : (Nat → Int32)) (style_u31 : (Nat → Int32)) (fame_u31 : (Nat → Int32)) (silent_u31 : (Nat → Int32)) (kept_u31 : (Nat → Int32)) {R : Int32 × Int32 × Int32 × Int32 × Int32 × (Nat → Int32) × (Nat → Int32) × (Nat → Int32) × (Nat → Int32) × (Nat → Int32) × (Nat → Int32) × (Nat → Int32) × (Nat → Int32)} (X : Bx p s m args meth c cX5_findRing 6 (some .int) RX5 D cI aS A) (hret : RtI p l e 5 s m args below meth c cX5_findRing (some .int) D A (wd_X5_findRing cI ad R.2.1 R.2.2.1 taped at_ statements hasImage R.2.2.2.1 R.2.2.2.2.1 forgottenWhen rowMany R.2.2.2.2.2.1 R.2.2.2.2.2.2.1 R.2.2.2.2.2.2.2.1 R.2.2.2.2.2.2.2.2.1 R.2.2.2.2.2.2.2.2.2.1 R.2.2.2.2.2.2.2.2.2.2.1 R.2.2.2.2.2.2.2.2.2.2.2.1 R.2.2.2.2.2.2.2.2.2.2.2.2) R.1 Q) (kX31_105 : Int32 → (Nat → Int32) → (Nat → Int32) → Option (Int32 × Int32 × Int32 × Int32 × Int32 × (Nat → Int32) × (Nat → Int32) × (Nat → Int32) × (Nat → Int32) × (Nat → Int32) × (Nat → Int32) × (Nat → Int32) × (Nat → Int32))) (hkX31_105 : ∀ (v2_105 : Int32) (ring_105 : (Nat → Int32)) (bestRing_105 : (Nat → Int32)) (H : Heap) (locs : List Loc) (ls : Array Slot), kX31_105 v2_105 ring_105 bestRing_105 = some R → lv_has ls 6 [(0, .ref (ad 0)), (2, .int v2_105)] → va_P D vwCl (wd_X5_findRing cI ad writers_u31 year_u31 taped at_ statements hasImage isKeeping_u31 cursor_u31 forgottenWhen rowMany kind_u31 figure_u31 style_u31 fame_u31 silent_u31 ring_105 kept_u31 bestRing_105) H → va_D A (wd_X5_findRing cI ad writers_u31 year_u31 taped at_ statements hasImage isKeeping_u31 cursor_u31 forgottenWhen rowMany kind_u31 figure_u31 style_u31 fame_u31 silent_u31 ring_105 kept_u31 bestRing_105) → va_S A s.heap H locs → Wh p l e 5 s m args below meth c H locs Q (F0 m 105 ls [])) : ∀ (fuel : Nat) (v2_31 : Int32) (v3_31 : Int32) (ring_31 : (Nat → Int32)) (bestRing_31 : (Nat → Int32)) (H : Heap) (locs : List Loc) (ls : Array Slot), f_X5_findRing_31 u1_31 writers_u31 year_u31 kind_u31 figure_u31 style_u31 silent_u31 kX31_105 fuel v2_31 v3_31 ring_31 bestRing_31 = some R → lv_has ls 6 [(0, .ref (ad 0)), (1, .int u1_31), (2, .int v2_31), (3, .int v3_31)] → va_P D vwCl (wd_X5_findRing cI ad writers_u31 year_u31 taped at_ statements hasImage isKeeping_u31 cursor_u31 forgottenWhen rowMany kind_u31 figure_u31 style_u31 fame_u31 silent_u31 ring_31 kept_u31 bestRing_31) H → va_D A (wd_X5_findRing cI ad writers_u31 year_u31 taped at_ statements hasImage isKeeping_u31 cursor_u31 forgottenWhen rowMany kind_u31 figure_u31 style_u31 fame_u31 silent_u31 ring_31 kept_u31 bestRing_31) → va_S A s.heap H locs → Wh p l e 5 s m args below meth c H locs Q (F0 m 31 ls []) := by
  have hx := X.1
  have hb := X.2.1
  intro fuel
  induction fuel with
  | zero =>
    intro v2_31 v3_31 ring_31 bestRing_31 H locs ls hf hl hP hD hS
    cases hf
  | succ fuel ih =>
    intro v2_31 v3_31 ring_31 bestRing_31 H locs ls hf hl hP hD hS
    replace hf : (if u1_31 ≤ v3_31 then (kX31_105 v2_31 ring_31 bestRing_31) else ((f_X5_ringsBy writers_u31 ring_31 v3_31 u1_31).bind fun (r39 : (Nat → Int32)) => ((f_X5_allWorth writers_u31 year_u31 kind_u31 figure_u31 style_u31 silent_u31 r39).bind fun (r43 : Int32) => (f_X5_findRing_51 writers_u31 v2_31 r43 r39 (fun (bestRing_86 : (Nat → Int32)) => (f_X5_findRing_86  (f_X5_findRing_31 u1_31 writers_u31 year_u31 kind_u31 figure_u31 style_u31 silent_u31 kX31_105 fuel) v2_31 v3_31 r43 r39 bestRing_86)) FU (0 : Int32) bestRing_31)))) = some R := hf
    refine lv_iload_n hx hb dX5_findRing_31 rfl (lv_at hl 3 rfl) ?_
    refine lv_iload_n hx hb dX5_findRing_32 rfl (lv_at hl 1 rfl) ?_
    refine lv_icmp_ge (tgt := 105) hx hb dX5_findRing_33 (by decide) (fun c33 => ?_) (fun c33 => ?_)
    · have hf := iT c33 hf
      exact hkX31_105 v2_31 ring_31 bestRing_31 _ _ _ hf (lv_sub hl [0, 2] rfl) hP hD hS
    · have hf := iF c33 hf
      refine lv_aload_n hx hb dX5_findRing_36 rfl (lv_at hl 0 rfl) ?_
      refine lv_iload_n hx hb dX5_findRing_37 rfl (lv_at hl 3 rfl) ?_
      refine lv_iload_n hx hb dX5_findRing_38 rfl (lv_at hl 1 rfl) ?_
      obtain ⟨r39, hq39, hf⟩ := bS hf
      refine wr_v X hP hD hS [0, 6] rfl (ws' := (wd_X5_findRing cI ad writers_u31 year_u31 taped at_ statements hasImage isKeeping_u31 cursor_u31 forgottenWhen rowMany kind_u31 figure_u31 style_u31 fame_u31 silent_u31 r39 kept_u31 bestRing_31)) (Nat.le_of_ble_eq_true rfl) rfl rfl (run_V X hP hD hS [0, 6] rfl rfl (c_X5_ringsBy l D cI aS ad writers_u31 year_u31 taped at_ statements hasImage isKeeping_u31 cursor_u31 forgottenWhen rowMany ring_31 v3_31 u1_31 _ hq39 _) lkX5_221 (by decide) (q0 := 0) rfl rfl rfl rfl (Nat.le_of_ble_eq_true rfl) hl.1 dX5_findRing_39) (fun H locs hP hD hS => ?_)
      refine lv_aload_n hx hb dX5_findRing_42 rfl (lv_at hl 0 rfl) ?_
      obtain ⟨r43, hq43, hf⟩ := bS hf
      refine ro_i X hP hD hS [0, 1, 2, 3, 5, 6] rfl (run_V X hP hD hS [0, 1, 2, 3, 5, 6] rfl rfl (c_X5_allWorth l D cI aS ad writers_u31 year_u31 taped at_ statements hasImage isKeeping_u31 cursor_u31 forgottenWhen rowMany kind_u31 figure_u31 style_u31 silent_u31 r39 _ hq43 _) lkX5_206 (by decide) (q0 := 0) rfl rfl rfl rfl (Nat.le_of_ble_eq_true rfl) hl.1 dX5_findRing_43) (fun H locs hP hS => ?_)
      refine lv_istore (lv' := [(4, .int r43), (0, .ref (ad 0)), (1, .int u1_31), (2, .int v2_31), (3, .int v3_31)]) hx hb dX5_findRing_46 hl (by decide) rfl (fun ls hl => ?_)
      refine lv_iconst (v := 0) hx hb dX5_findRing_48 (by decide) ?_
      refine lv_istore (lv' := [(5, .int (0 : Int32)), (4, .int r43), (0, .ref (ad 0)), (1, .int u1_31), (2, .int v2_31), (3, .int v3_31)]) hx hb dX5_findRing_49 hl (by decide) rfl (fun ls hl => ?_)
      exact w_X5_findRing_51 ad taped at_ statements hasImage forgottenWhen rowMany u1_31 writers_u31 year_u31 isKeeping_u31 cursor_u31 kind_u31 figure_u31 style_u31 fame_u31 silent_u31 kept_u31 v2_31 v3_31 r43 r39 X hret _ (fun bestRing_86 _ _ _ hf hl hP hD hS => w_X5_findRing_86 ad taped at_ statements hasImage forgottenWhen rowMany u1_31 writers_u31 year_u31 isKeeping_u31 cursor_u31 kind_u31 figure_u31 style_u31 fame_u31 silent_u31 kept_u31 X hret _ ih v2_31 v3_31 r43 r39 bestRing_86 _ _ _ hf (lv_sub hl [0, 1, 2, 3, 4] rfl) hP hD hS) _ (0 : Int32) bestRing_31 _ _ _ hf (lv_sub hl [2, 3, 4, 5, 1, 0] rfl) hP hD hS
set_option maxHeartbeats 4000000 in
set_option maxRecDepth 100000 in
theorem w_X5_findRing_105 {p : Program} {l : Launch} {e : Env} {s : State} {m : MethodId} {args : Array Value} {below : List Frame} {meth : Method} {c : Code} {D : va_G} {cI : ClassId} {aS : aSt} {A : Nat → Prop} {Q : State → Prop}  (ad : Nat → Nat) (taped : Int32) (at_ : Int32) (statements : Int32) (hasImage : Int32) (forgottenWhen : Int32) (rowMany : Int32) {R : Int32 × Int32 × Int32 × Int32 × Int32 × (Nat → Int32) × (Nat → Int32) × (Nat → Int32) × (Nat → Int32) × (Nat → Int32) × (Nat → Int32) × (Nat → Int32) × (Nat → Int32)} (X : Bx p s m args meth c cX5_findRing 6 (some .int) RX5 D cI aS A) (hret : RtI p l e 5 s m args below meth c cX5_findRing (some .int) D A (wd_X5_findRing cI ad R.2.1 R.2.2.1 taped at_ statements hasImage R.2.2.2.1 R.2.2.2.2.1 forgottenWhen rowMany R.2.2.2.2.2.1 R.2.2.2.2.2.2.1 R.2.2.2.2.2.2.2.1 R.2.2.2.2.2.2.2.2.1 R.2.2.2.2.2.2.2.2.2.1 R.2.2.2.2.2.2.2.2.2.2.1 R.2.2.2.2.2.2.2.2.2.2.2.1 R.2.2.2.2.2.2.2.2.2.2.2.2) R.1 Q) : ∀ (v2_105 : Int32) (writers_105 : Int32) (year_105 : Int32) (isKeeping_105 : Int32) (cursor_105 : Int32) (kind_105 : (Nat → Int32)) (figure_105 : (Nat → Int32)) (style_105 : (Nat → Int32)) (fame_105 : (Nat → Int32)) (silent_105 : (Nat → Int32)) (ring_105 : (Nat → Int32)) (kept_105 : (Nat → Int32)) (bestRing_105 : (Nat → Int32)) (H : Heap) (locs : List Loc) (ls : Array Slot), f_X5_findRing_105   v2_105 writers_105 year_105 isKeeping_105 cursor_105 kind_105 figure_105 style_105 fame_105 silent_105 ring_105 kept_105 bestRing_105 = some R → lv_has ls 6 [(0, .ref (ad 0)), (2, .int v2_105)] → va_P D vwCl (wd_X5_findRing cI ad writers_105 year_105 taped at_ statements hasImage isKeeping_105 cursor_105 forgottenWhen rowMany kind_105 figure_105 style_105 fame_105 silent_105 ring_105 kept_105 bestRing_105) H → va_D A (wd_X5_findRing cI ad writers_105 year_105 taped at_ statements hasImage isKeeping_105 cursor_105 forgottenWhen rowMany kind_105 figure_105 style_105 fame_105 silent_105 ring_105 kept_105 bestRing_105) → va_S A s.heap H locs → Wh p l e 5 s m args below meth c H locs Q (F0 m 105 ls []) := by
  have hx := X.1
  have hb := X.2.1
  intro v2_105 writers_105 year_105 isKeeping_105 cursor_105 kind_105 figure_105 style_105 fame_105 silent_105 ring_105 kept_105 bestRing_105 H locs ls hf hl hP hD hS
  replace hf : ((f_X5_forgets writers_105 year_105 isKeeping_105 cursor_105 kind_105 figure_105 style_105 fame_105 silent_105 ring_105 kept_105).bind fun (r106 : Int32 × Int32 × Int32 × Int32 × (Nat → Int32) × (Nat → Int32) × (Nat → Int32) × (Nat → Int32) × (Nat → Int32) × (Nat → Int32) × (Nat → Int32)) => (some (v2_105, r106.1, r106.2.1, r106.2.2.1, r106.2.2.2.1, r106.2.2.2.2.1, r106.2.2.2.2.2.1, r106.2.2.2.2.2.2.1, r106.2.2.2.2.2.2.2.1, r106.2.2.2.2.2.2.2.2.1, r106.2.2.2.2.2.2.2.2.2.1, r106.2.2.2.2.2.2.2.2.2.2, bestRing_105))) = some R := hf
  refine lv_aload_n hx hb dX5_findRing_105 rfl (lv_at hl 0 rfl) ?_
  obtain ⟨r106, hq106, hf⟩ := bS hf
  refine wr_v X hP hD hS [0, 1, 2, 3, 4, 5, 6, 7] rfl (ws' := (wd_X5_findRing cI ad r106.1 r106.2.1 taped at_ statements hasImage r106.2.2.1 r106.2.2.2.1 forgottenWhen rowMany r106.2.2.2.2.1 r106.2.2.2.2.2.1 r106.2.2.2.2.2.2.1 r106.2.2.2.2.2.2.2.1 r106.2.2.2.2.2.2.2.2.1 r106.2.2.2.2.2.2.2.2.2.1 r106.2.2.2.2.2.2.2.2.2.2 bestRing_105)) (Nat.le_of_ble_eq_true rfl) rfl rfl (run_V X hP hD hS [0, 1, 2, 3, 4, 5, 6, 7] rfl rfl (c_X5_forgets l D cI aS ad writers_105 year_105 taped at_ statements hasImage isKeeping_105 cursor_105 forgottenWhen rowMany kind_105 figure_105 style_105 fame_105 silent_105 ring_105 kept_105 _ hq106 _) lkX5_203 (by decide) (q0 := 0) rfl rfl rfl rfl (Nat.le_of_ble_eq_true rfl) hl.1 dX5_findRing_106) (fun H locs hP hD hS => ?_)
  refine lv_iload_n hx hb dX5_findRing_109 rfl (lv_at hl 1 rfl) ?_
  have hR := Option.some.inj hf
  subst hR
  exact hret _ _ _ _ _ rfl (fun _ hn => by cases hn; rfl) hP hD hS dX5_findRing_110
set_option maxHeartbeats 4000000 in
set_option maxRecDepth 100000 in
theorem w_X5_findRing_22 {p : Program} {l : Launch} {e : Env} {s : State} {m : MethodId} {args : Array Value} {below : List Frame} {meth : Method} {c : Code} {D : va_G} {cI : ClassId} {aS : aSt} {A : Nat → Prop} {Q : State → Prop}  (ad : Nat → Nat) (taped : Int32) (at_ : Int32) (statements : Int32) (hasImage : Int32) (forgottenWhen : Int32) (rowMany : Int32) {R : Int32 × Int32 × Int32 × Int32 × Int32 × (Nat → Int32) × (Nat → Int32) × (Nat → Int32) × (Nat → Int32) × (Nat → Int32) × (Nat → Int32) × (Nat → Int32) × (Nat → Int32)} (X : Bx p s m args meth c cX5_findRing 6 (some .int) RX5 D cI aS A) (hret : RtI p l e 5 s m args below meth c cX5_findRing (some .int) D A (wd_X5_findRing cI ad R.2.1 R.2.2.1 taped at_ statements hasImage R.2.2.2.1 R.2.2.2.2.1 forgottenWhen rowMany R.2.2.2.2.2.1 R.2.2.2.2.2.2.1 R.2.2.2.2.2.2.2.1 R.2.2.2.2.2.2.2.2.1 R.2.2.2.2.2.2.2.2.2.1 R.2.2.2.2.2.2.2.2.2.2.1 R.2.2.2.2.2.2.2.2.2.2.2.1 R.2.2.2.2.2.2.2.2.2.2.2.2) R.1 Q) : ∀ (v1_22 : Int32) (writers_22 : Int32) (year_22 : Int32) (isKeeping_22 : Int32) (cursor_22 : Int32) (kind_22 : (Nat → Int32)) (figure_22 : (Nat → Int32)) (style_22 : (Nat → Int32)) (fame_22 : (Nat → Int32)) (silent_22 : (Nat → Int32)) (ring_22 : (Nat → Int32)) (kept_22 : (Nat → Int32)) (bestRing_22 : (Nat → Int32)) (H : Heap) (locs : List Loc) (ls : Array Slot), f_X5_findRing_22   v1_22 writers_22 year_22 isKeeping_22 cursor_22 kind_22 figure_22 style_22 fame_22 silent_22 ring_22 kept_22 bestRing_22 = some R → lv_has ls 6 [(0, .ref (ad 0)), (1, .int v1_22)] → va_P D vwCl (wd_X5_findRing cI ad writers_22 year_22 taped at_ statements hasImage isKeeping_22 cursor_22 forgottenWhen rowMany kind_22 figure_22 style_22 fame_22 silent_22 ring_22 kept_22 bestRing_22) H → va_D A (wd_X5_findRing cI ad writers_22 year_22 taped at_ statements hasImage isKeeping_22 cursor_22 forgottenWhen rowMany kind_22 figure_22 style_22 fame_22 silent_22 ring_22 kept_22 bestRing_22) → va_S A s.heap H locs → Wh p l e 5 s m args below meth c H locs Q (F0 m 22 ls []) := by
  have hx := X.1
  have hb := X.2.1
  intro v1_22 writers_22 year_22 isKeeping_22 cursor_22 kind_22 figure_22 style_22 fame_22 silent_22 ring_22 kept_22 bestRing_22 H locs ls hf hl hP hD hS
  replace hf : ((f_X5_thinks writers_22 year_22 isKeeping_22 cursor_22 kind_22 figure_22 style_22 fame_22 silent_22 ring_22 kept_22).bind fun (r26 : Int32 × Int32 × Int32 × Int32 × (Nat → Int32) × (Nat → Int32) × (Nat → Int32) × (Nat → Int32) × (Nat → Int32) × (Nat → Int32) × (Nat → Int32)) => (f_X5_findRing_31 v1_22 r26.1 r26.2.1 r26.2.2.2.2.1 r26.2.2.2.2.2.1 r26.2.2.2.2.2.2.1 r26.2.2.2.2.2.2.2.2.1 (fun (v2_105 : Int32) (ring_105 : (Nat → Int32)) (bestRing_105 : (Nat → Int32)) => (f_X5_findRing_105   v2_105 r26.1 r26.2.1 r26.2.2.1 r26.2.2.2.1 r26.2.2.2.2.1 r26.2.2.2.2.2.1 r26.2.2.2.2.2.2.1 r26.2.2.2.2.2.2.2.1 r26.2.2.2.2.2.2.2.2.1 ring_105 r26.2.2.2.2.2.2.2.2.2.2 bestRing_105)) FU (-64 : Int32) (0 : Int32) r26.2.2.2.2.2.2.2.2.2.1 bestRing_22)) = some R := hf
  refine lv_bipush (v := -64) hx hb dX5_findRing_22 (by decide) ?_
  refine lv_istore_n (lv' := [(2, .int (-64 : Int32)), (0, .ref (ad 0)), (1, .int v1_22)]) hx hb dX5_findRing_24 rfl hl (by decide) rfl (fun ls hl => ?_)
  refine lv_aload_n hx hb dX5_findRing_25 rfl (lv_at hl 1 rfl) ?_
  obtain ⟨r26, hq26, hf⟩ := bS hf
  refine wr_v X hP hD hS [0, 1, 2, 3, 4, 5, 6, 7] rfl (ws' := (wd_X5_findRing cI ad r26.1 r26.2.1 taped at_ statements hasImage r26.2.2.1 r26.2.2.2.1 forgottenWhen rowMany r26.2.2.2.2.1 r26.2.2.2.2.2.1 r26.2.2.2.2.2.2.1 r26.2.2.2.2.2.2.2.1 r26.2.2.2.2.2.2.2.2.1 r26.2.2.2.2.2.2.2.2.2.1 r26.2.2.2.2.2.2.2.2.2.2 bestRing_22)) (Nat.le_of_ble_eq_true rfl) rfl rfl (run_V X hP hD hS [0, 1, 2, 3, 4, 5, 6, 7] rfl rfl (c_X5_thinks l D cI aS ad writers_22 year_22 taped at_ statements hasImage isKeeping_22 cursor_22 forgottenWhen rowMany kind_22 figure_22 style_22 fame_22 silent_22 ring_22 kept_22 _ hq26 _) lkX5_200 (by decide) (q0 := 0) rfl rfl rfl rfl (Nat.le_of_ble_eq_true rfl) hl.1 dX5_findRing_26) (fun H locs hP hD hS => ?_)
  refine lv_iconst (v := 0) hx hb dX5_findRing_29 (by decide) ?_
  refine lv_istore_n (lv' := [(3, .int (0 : Int32)), (2, .int (-64 : Int32)), (0, .ref (ad 0)), (1, .int v1_22)]) hx hb dX5_findRing_30 rfl hl (by decide) rfl (fun ls hl => ?_)
  exact w_X5_findRing_31 ad taped at_ statements hasImage forgottenWhen rowMany v1_22 r26.1 r26.2.1 r26.2.2.1 r26.2.2.2.1 r26.2.2.2.2.1 r26.2.2.2.2.2.1 r26.2.2.2.2.2.2.1 r26.2.2.2.2.2.2.2.1 r26.2.2.2.2.2.2.2.2.1 r26.2.2.2.2.2.2.2.2.2.2 X hret _ (fun v2_105 ring_105 bestRing_105 _ _ _ hf hl hP hD hS => w_X5_findRing_105 ad taped at_ statements hasImage forgottenWhen rowMany X hret  v2_105 r26.1 r26.2.1 r26.2.2.1 r26.2.2.2.1 r26.2.2.2.2.1 r26.2.2.2.2.2.1 r26.2.2.2.2.2.2.1 r26.2.2.2.2.2.2.2.1 r26.2.2.2.2.2.2.2.2.1 ring_105 r26.2.2.2.2.2.2.2.2.2.2 bestRing_105 _ _ _ hf (lv_sub hl [0, 1] rfl) hP hD hS) _ (-64 : Int32) (0 : Int32) r26.2.2.2.2.2.2.2.2.2.1 bestRing_22 _ _ _ hf (lv_sub hl [2, 3, 1, 0] rfl) hP hD hS
set_option maxHeartbeats 4000000 in
set_option maxRecDepth 100000 in
theorem c_X5_findRing (l : Launch) (D : va_G) (cI : ClassId) (aS : aSt) (ad : Nat → Nat) (writers : Int32) (year : Int32) (taped : Int32) (at_ : Int32) (statements : Int32) (hasImage : Int32) (isKeeping : Int32) (cursor : Int32) (forgottenWhen : Int32) (rowMany : Int32) (kind : (Nat → Int32)) (figure : (Nat → Int32)) (style : (Nat → Int32)) (fame : (Nat → Int32)) (silent : (Nat → Int32)) (ring : (Nat → Int32)) (kept : (Nat → Int32)) (bestRing : (Nat → Int32)) (R : Int32 × Int32 × Int32 × Int32 × Int32 × (Nat → Int32) × (Nat → Int32) × (Nat → Int32) × (Nat → Int32) × (Nat → Int32) × (Nat → Int32) × (Nat → Int32) × (Nat → Int32)) (hf : f_X5_findRing writers year isKeeping cursor kind figure style fame silent ring kept bestRing = some R) : CtI l yX5_findRing cX5_findRing 6 (some .int) 5 D cI aS [.ref (ad 0)] (wd_X5_findRing cI ad writers year taped at_ statements hasImage isKeeping cursor forgottenWhen rowMany kind figure style fame silent ring kept bestRing) (wd_X5_findRing cI ad R.2.1 R.2.2.1 taped at_ statements hasImage R.2.2.2.1 R.2.2.2.2.1 forgottenWhen rowMany R.2.2.2.2.2.1 R.2.2.2.2.2.2.1 R.2.2.2.2.2.2.2.1 R.2.2.2.2.2.2.2.2.1 R.2.2.2.2.2.2.2.2.2.1 R.2.2.2.2.2.2.2.2.2.2.1 R.2.2.2.2.2.2.2.2.2.2.2.1 R.2.2.2.2.2.2.2.2.2.2.2.2) R.1 := by
  refine ctI_of (by decide) ⟨_, rfl⟩ (Nat.le_of_ble_eq_true rfl) ?_
  intro p e s m below meth c A Q ls X hret hP hD hl
  have hS : va_S A s.heap s.heap [] := va_S.rf
  have hx := X.1
  have hb := X.2.1
  have hl : lv_has ls 6 [(0, .ref (ad 0))] := hl
  replace hf : (f_X5_findRing_4 writers (fun (v1_22 : Int32) => (f_X5_findRing_22   v1_22 writers year isKeeping cursor kind figure style fame silent ring kept bestRing)) FU (1 : Int32) (2 : Int32)) = some R := hf
  refine lv_iconst (v := 1) hx hb dX5_findRing_0 (by decide) ?_
  refine lv_istore_n (lv' := [(1, .int (1 : Int32)), (0, .ref (ad 0))]) hx hb dX5_findRing_1 rfl hl (by decide) rfl (fun ls hl => ?_)
  refine lv_iconst (v := 2) hx hb dX5_findRing_2 (by decide) ?_
  refine lv_istore_n (lv' := [(2, .int (2 : Int32)), (1, .int (1 : Int32)), (0, .ref (ad 0))]) hx hb dX5_findRing_3 rfl hl (by decide) rfl (fun ls hl => ?_)
  exact w_X5_findRing_4 ad taped at_ statements hasImage forgottenWhen rowMany writers year isKeeping cursor kind figure style fame silent ring kept bestRing X hret _ (fun v1_22 _ _ _ hf hl hP hD hS => w_X5_findRing_22 ad taped at_ statements hasImage forgottenWhen rowMany X hret  v1_22 writers year isKeeping cursor kind figure style fame silent ring kept bestRing _ _ _ hf (lv_sub hl [0, 1] rfl) hP hD hS) _ (1 : Int32) (2 : Int32) _ _ _ hf (lv_sub hl [2, 1, 0] rfl) hP hD hS

abbrev wd_X5_first (cI : ClassId) (ad : Nat → Nat) (writers : Int32) (year : Int32) (taped : Int32) (at_ : Int32) (statements : Int32) (hasImage : Int32) (isKeeping : Int32) (cursor : Int32) (forgottenWhen : Int32) (rowMany : Int32) (refused : (Nat → Int32)) (kind : (Nat → Int32)) (figure : (Nat → Int32)) (style : (Nat → Int32)) (fame : (Nat → Int32)) (silent : (Nat → Int32)) (ring : (Nat → Int32)) (kept : (Nat → Int32)) : va_W := [((ad 0), .inr (5, [.ref (ad 1), .ref (ad 2), .ref (ad 3), .ref (ad 4), .ref (ad 5), .ref (ad 6), .ref (ad 7), .int writers, .int year, .ref (ad 8), .ref (ad 9), .ref (ad 10), .ref (ad 11), .int taped, .int at_, .int statements, .ref (ad 12), .int hasImage, .int isKeeping, .int cursor, .int forgottenWhen, .ref (ad 13), .ref (ad 14), .ref (ad 15), .int rowMany])), ((ad 1), .inl (cI, 7, .inl refused)), ((ad 2), .inl (cI, 7, .inl kind)), ((ad 3), .inl (cI, 7, .inl figure)), ((ad 4), .inl (cI, 7, .inl style)), ((ad 5), .inl (cI, 7, .inl fame)), ((ad 6), .inl (cI, 7, .inl silent)), ((ad 7), .inl (cI, 7, .inl ring)), ((ad 12), .inl (cI, 132, .inl kept))]
def f_X5_first (writers : Int32) (year : Int32) (isKeeping : Int32) (cursor : Int32) (forgottenWhen : Int32) (refused : (Nat → Int32)) (kind : (Nat → Int32)) (figure : (Nat → Int32)) (style : (Nat → Int32)) (fame : (Nat → Int32)) (silent : (Nat → Int32)) (ring : (Nat → Int32)) (kept : (Nat → Int32)) (x1 : Int32) : Option (Int32 × Int32 × Int32 × Int32 × Int32 × Int32 × (Nat → Int32) × (Nat → Int32) × (Nat → Int32) × (Nat → Int32) × (Nat → Int32) × (Nat → Int32) × (Nat → Int32) × (Nat → Int32)) := ((f_X5_isIn x1 (0 : Int32) (1 : Int32)).bind fun (r3 : Int32) => (if r3 = 0 then ((f_X5_no refused (-2 : Int32)).bind fun (r12 : Int32 × (Nat → Int32)) => (some (r12.1, writers, year, isKeeping, cursor, forgottenWhen, r12.2, kind, figure, style, fame, silent, ring, kept))) else ((f_X5_findForgotten writers year isKeeping cursor forgottenWhen kind figure style fame silent ring kept).bind fun (r17 : Int32 × Int32 × Int32 × Int32 × Int32 × Int32 × (Nat → Int32) × (Nat → Int32) × (Nat → Int32) × (Nat → Int32) × (Nat → Int32) × (Nat → Int32) × (Nat → Int32)) => (if x1 = 0 then (some (r17.1, r17.2.1, r17.2.2.1, r17.2.2.2.1, r17.2.2.2.2.1, r17.2.2.2.2.2.1, refused, r17.2.2.2.2.2.2.1, r17.2.2.2.2.2.2.2.1, r17.2.2.2.2.2.2.2.2.1, r17.2.2.2.2.2.2.2.2.2.1, r17.2.2.2.2.2.2.2.2.2.2.1, r17.2.2.2.2.2.2.2.2.2.2.2.1, r17.2.2.2.2.2.2.2.2.2.2.2.2)) else (some (r17.2.2.2.2.2.1, r17.2.1, r17.2.2.1, r17.2.2.2.1, r17.2.2.2.2.1, r17.2.2.2.2.2.1, refused, r17.2.2.2.2.2.2.1, r17.2.2.2.2.2.2.2.1, r17.2.2.2.2.2.2.2.2.1, r17.2.2.2.2.2.2.2.2.2.1, r17.2.2.2.2.2.2.2.2.2.2.1, r17.2.2.2.2.2.2.2.2.2.2.2.1, r17.2.2.2.2.2.2.2.2.2.2.2.2))))))
set_option maxHeartbeats 4000000 in
set_option maxRecDepth 100000 in
theorem c_X5_first (l : Launch) (D : va_G) (cI : ClassId) (aS : aSt) (ad : Nat → Nat) (writers : Int32) (year : Int32) (taped : Int32) (at_ : Int32) (statements : Int32) (hasImage : Int32) (isKeeping : Int32) (cursor : Int32) (forgottenWhen : Int32) (rowMany : Int32) (refused : (Nat → Int32)) (kind : (Nat → Int32)) (figure : (Nat → Int32)) (style : (Nat → Int32)) (fame : (Nat → Int32)) (silent : (Nat → Int32)) (ring : (Nat → Int32)) (kept : (Nat → Int32)) (x1 : Int32) (R : Int32 × Int32 × Int32 × Int32 × Int32 × Int32 × (Nat → Int32) × (Nat → Int32) × (Nat → Int32) × (Nat → Int32) × (Nat → Int32) × (Nat → Int32) × (Nat → Int32) × (Nat → Int32)) (hf : f_X5_first writers year isKeeping cursor forgottenWhen refused kind figure style fame silent ring kept x1 = some R) : CtI l yX5_first cX5_first 3 (some .int) 6 D cI aS [.ref (ad 0), .int x1] (wd_X5_first cI ad writers year taped at_ statements hasImage isKeeping cursor forgottenWhen rowMany refused kind figure style fame silent ring kept) (wd_X5_first cI ad R.2.1 R.2.2.1 taped at_ statements hasImage R.2.2.2.1 R.2.2.2.2.1 R.2.2.2.2.2.1 rowMany R.2.2.2.2.2.2.1 R.2.2.2.2.2.2.2.1 R.2.2.2.2.2.2.2.2.1 R.2.2.2.2.2.2.2.2.2.1 R.2.2.2.2.2.2.2.2.2.2.1 R.2.2.2.2.2.2.2.2.2.2.2.1 R.2.2.2.2.2.2.2.2.2.2.2.2.1 R.2.2.2.2.2.2.2.2.2.2.2.2.2) R.1 := by
  refine ctI_of (by decide) ⟨_, rfl⟩ (Nat.le_of_ble_eq_true rfl) ?_
  intro p e s m below meth c A Q ls X hret hP hD hl
  have hS : va_S A s.heap s.heap [] := va_S.rf
  have hx := X.1
  have hb := X.2.1
  have hl : lv_has ls 3 [(0, .ref (ad 0)), (1, .int x1)] := hl
  replace hf : ((f_X5_isIn x1 (0 : Int32) (1 : Int32)).bind fun (r3 : Int32) => (if r3 = 0 then ((f_X5_no refused (-2 : Int32)).bind fun (r12 : Int32 × (Nat → Int32)) => (some (r12.1, writers, year, isKeeping, cursor, forgottenWhen, r12.2, kind, figure, style, fame, silent, ring, kept))) else ((f_X5_findForgotten writers year isKeeping cursor forgottenWhen kind figure style fame silent ring kept).bind fun (r17 : Int32 × Int32 × Int32 × Int32 × Int32 × Int32 × (Nat → Int32) × (Nat → Int32) × (Nat → Int32) × (Nat → Int32) × (Nat → Int32) × (Nat → Int32) × (Nat → Int32)) => (if x1 = 0 then (some (r17.1, r17.2.1, r17.2.2.1, r17.2.2.2.1, r17.2.2.2.2.1, r17.2.2.2.2.2.1, refused, r17.2.2.2.2.2.2.1, r17.2.2.2.2.2.2.2.1, r17.2.2.2.2.2.2.2.2.1, r17.2.2.2.2.2.2.2.2.2.1, r17.2.2.2.2.2.2.2.2.2.2.1, r17.2.2.2.2.2.2.2.2.2.2.2.1, r17.2.2.2.2.2.2.2.2.2.2.2.2)) else (some (r17.2.2.2.2.2.1, r17.2.1, r17.2.2.1, r17.2.2.2.1, r17.2.2.2.2.1, r17.2.2.2.2.2.1, refused, r17.2.2.2.2.2.2.1, r17.2.2.2.2.2.2.2.1, r17.2.2.2.2.2.2.2.2.1, r17.2.2.2.2.2.2.2.2.2.1, r17.2.2.2.2.2.2.2.2.2.2.1, r17.2.2.2.2.2.2.2.2.2.2.2.1, r17.2.2.2.2.2.2.2.2.2.2.2.2)))))) = some R := hf
  refine lv_iload_n hx hb dX5_first_0 rfl (lv_at hl 1 rfl) ?_
  refine lv_iconst (v := 0) hx hb dX5_first_1 (by decide) ?_
  refine lv_iconst (v := 1) hx hb dX5_first_2 (by decide) ?_
  obtain ⟨r3, hq3, hf⟩ := bS hf
  refine ro_i X hP hD hS [] rfl (run_S X hP hD hS [] rfl rfl (c_X5_isIn l D cI aS x1 (0 : Int32) (1 : Int32) _ hq3 _) lkX5_80 (by decide) rfl rfl (Nat.le_of_ble_eq_true rfl) hl.1 dX5_first_3) (fun H locs hP hS => ?_)
  refine lv_if_ne (tgt := 16) hx hb dX5_first_6 (by decide) (fun c6 => ?_) (fun c6 => ?_)
  · have hf := iF c6 hf
    refine lv_aload_n hx hb dX5_first_16 rfl (lv_at hl 0 rfl) ?_
    obtain ⟨r17, hq17, hf⟩ := bS hf
    refine wr_i X hP hD hS [0, 2, 3, 4, 5, 6, 7, 8] rfl (ws' := (wd_X5_first cI ad r17.2.1 r17.2.2.1 taped at_ statements hasImage r17.2.2.2.1 r17.2.2.2.2.1 r17.2.2.2.2.2.1 rowMany refused r17.2.2.2.2.2.2.1 r17.2.2.2.2.2.2.2.1 r17.2.2.2.2.2.2.2.2.1 r17.2.2.2.2.2.2.2.2.2.1 r17.2.2.2.2.2.2.2.2.2.2.1 r17.2.2.2.2.2.2.2.2.2.2.2.1 r17.2.2.2.2.2.2.2.2.2.2.2.2)) (Nat.le_of_ble_eq_true rfl) rfl rfl (run_V X hP hD hS [0, 2, 3, 4, 5, 6, 7, 8] rfl rfl (c_X5_findForgotten l D cI aS ad writers year taped at_ statements hasImage isKeeping cursor forgottenWhen rowMany kind figure style fame silent ring kept _ hq17 _) lkX5_212 (by decide) (q0 := 0) rfl rfl rfl rfl (Nat.le_of_ble_eq_true rfl) hl.1 dX5_first_17) (fun H locs hP hD hS => ?_)
    refine lv_istore_n (lv' := [(2, .int r17.1), (0, .ref (ad 0)), (1, .int x1)]) hx hb dX5_first_20 rfl hl (by decide) rfl (fun ls hl => ?_)
    refine lv_iload_n hx hb dX5_first_21 rfl (lv_at hl 2 rfl) ?_
    refine lv_if_ne (tgt := 29) hx hb dX5_first_22 (by decide) (fun c22 => ?_) (fun c22 => ?_)
    · have hf := iF c22 hf
      refine lv_aload_n hx hb dX5_first_29 rfl (lv_at hl 1 rfl) ?_
      refine fgX5_209 X hP (q0 := 0) rfl rfl dX5_first_30 ?_
      have hR := Option.some.inj hf
      subst hR
      exact hret _ _ _ _ _ rfl (fun _ hn => by cases hn; rfl) hP hD hS dX5_first_33
    · have hf := iT c22 hf
      refine lv_iload_n hx hb dX5_first_25 rfl (lv_at hl 0 rfl) ?_
      refine lv_goto (tgt := 33) hx hb dX5_first_26 (by decide) ?_
      have hR := Option.some.inj hf
      subst hR
      exact hret _ _ _ _ _ rfl (fun _ hn => by cases hn; rfl) hP hD hS dX5_first_33
  · have hf := iT c6 hf
    refine lv_aload_n hx hb dX5_first_9 rfl (lv_at hl 0 rfl) ?_
    refine lv_bipush (v := -2) hx hb dX5_first_10 (by decide) ?_
    obtain ⟨r12, hq12, hf⟩ := bS hf
    refine wr_i X hP hD hS [0, 1] rfl (ws' := (wd_X5_first cI ad writers year taped at_ statements hasImage isKeeping cursor forgottenWhen rowMany r12.2 kind figure style fame silent ring kept)) (Nat.le_of_ble_eq_true rfl) rfl rfl (run_V X hP hD hS [0, 1] rfl rfl (c_X5_no l D cI aS ad writers year taped at_ statements hasImage isKeeping cursor forgottenWhen rowMany refused (-2 : Int32) _ hq12 _) lkX5_69 (by decide) (q0 := 0) rfl rfl rfl rfl (Nat.le_of_ble_eq_true rfl) hl.1 dX5_first_12) (fun H locs hP hD hS => ?_)
    have hR := Option.some.inj hf
    subst hR
    exact hret _ _ _ _ _ rfl (fun _ hn => by cases hn; rfl) hP hD hS dX5_first_15

abbrev wd_X5_forgottenOnes (cI : ClassId) (ad : Nat → Nat) (writers : Int32) (year : Int32) (taped : Int32) (at_ : Int32) (statements : Int32) (hasImage : Int32) (isKeeping : Int32) (cursor : Int32) (forgottenWhen : Int32) (rowMany : Int32) (fame : (Nat → Int32)) : va_W := [((ad 0), .inr (5, [.ref (ad 1), .ref (ad 2), .ref (ad 3), .ref (ad 4), .ref (ad 5), .ref (ad 6), .ref (ad 7), .int writers, .int year, .ref (ad 8), .ref (ad 9), .ref (ad 10), .ref (ad 11), .int taped, .int at_, .int statements, .ref (ad 12), .int hasImage, .int isKeeping, .int cursor, .int forgottenWhen, .ref (ad 13), .ref (ad 14), .ref (ad 15), .int rowMany])), ((ad 5), .inl (cI, 7, .inl fame))]
def f_X5_forgottenOnes_27  (kL4 : Int32 → Int32 → Option (Int32)) (v2_27 : Int32) (t0_27 : Int32) (t1_27 : Int32) : Option (Int32) := (kL4 (t0_27 + t1_27) (v2_27 + (1 : Int32)))
def f_X5_forgottenOnes_4 (writers : Int32) (fame : (Nat → Int32))  : Nat → Int32 → Int32 → Option (Int32)
  | 0 => fun _ _ => none
  | fuel + 1 => fun v1_4 v2_4 => (if writers ≤ v2_4 then (some v1_4) else (gd v2_4 7 (if (fame (Int32.toNatClampNeg v2_4)) = 0 then (f_X5_forgottenOnes_27  (f_X5_forgottenOnes_4 writers fame  fuel) v2_4 v1_4 (1 : Int32)) else (f_X5_forgottenOnes_27  (f_X5_forgottenOnes_4 writers fame  fuel) v2_4 v1_4 (0 : Int32)))))
theorem e_X5_forgottenOnes_4 (writers : Int32) (fame : (Nat → Int32))  (fuel : Nat) (v1_4 : Int32) (v2_4 : Int32) : f_X5_forgottenOnes_4 writers fame  (fuel + 1) v1_4 v2_4 = (if writers ≤ v2_4 then (some v1_4) else (gd v2_4 7 (if (fame (Int32.toNatClampNeg v2_4)) = 0 then (f_X5_forgottenOnes_27  (f_X5_forgottenOnes_4 writers fame  fuel) v2_4 v1_4 (1 : Int32)) else (f_X5_forgottenOnes_27  (f_X5_forgottenOnes_4 writers fame  fuel) v2_4 v1_4 (0 : Int32))))) := rfl
def f_X5_forgottenOnes (writers : Int32) (fame : (Nat → Int32)) : Option (Int32) := (f_X5_forgottenOnes_4 writers fame  FU (0 : Int32) (0 : Int32))
set_option maxHeartbeats 4000000 in
set_option maxRecDepth 100000 in
theorem w_X5_forgottenOnes_27 {p : Program} {l : Launch} {e : Env} {s : State} {m : MethodId} {args : Array Value} {below : List Frame} {meth : Method} {c : Code} {D : va_G} {cI : ClassId} {aS : aSt} {A : Nat → Prop} {Q : State → Prop}  (ad : Nat → Nat) (writers : Int32) (year : Int32) (taped : Int32) (at_ : Int32) (statements : Int32) (hasImage : Int32) (isKeeping : Int32) (cursor : Int32) (forgottenWhen : Int32) (rowMany : Int32) (fame : (Nat → Int32)) {R : Int32} (X : Bx p s m args meth c cX5_forgottenOnes 3 (some .int) RX5 D cI aS A) (hret : RtI p l e 0 s m args below meth c cX5_forgottenOnes (some .int) D A (wd_X5_forgottenOnes cI ad writers year taped at_ statements hasImage isKeeping cursor forgottenWhen rowMany fame) R Q) (kL4 : Int32 → Int32 → Option (Int32)) (hkL4 : ∀ (v1_4 : Int32) (v2_4 : Int32) (H : Heap) (locs : List Loc) (ls : Array Slot), kL4 v1_4 v2_4 = some R → lv_has ls 3 [(0, .ref (ad 0)), (1, .int v1_4), (2, .int v2_4)] → va_P D vwCl (wd_X5_forgottenOnes cI ad writers year taped at_ statements hasImage isKeeping cursor forgottenWhen rowMany fame) H → va_D A (wd_X5_forgottenOnes cI ad writers year taped at_ statements hasImage isKeeping cursor forgottenWhen rowMany fame) → va_S A s.heap H locs → Wh p l e 0 s m args below meth c H locs Q (F0 m 4 ls [])) : ∀ (v2_27 : Int32) (t0_27 : Int32) (t1_27 : Int32) (H : Heap) (locs : List Loc) (ls : Array Slot), f_X5_forgottenOnes_27  kL4 v2_27 t0_27 t1_27 = some R → lv_has ls 3 [(0, .ref (ad 0)), (2, .int v2_27)] → va_P D vwCl (wd_X5_forgottenOnes cI ad writers year taped at_ statements hasImage isKeeping cursor forgottenWhen rowMany fame) H → va_D A (wd_X5_forgottenOnes cI ad writers year taped at_ statements hasImage isKeeping cursor forgottenWhen rowMany fame) → va_S A s.heap H locs → Wh p l e 0 s m args below meth c H locs Q (F0 m 27 ls [.int t1_27, .int t0_27]) := by
  have hx := X.1
  have hb := X.2.1
  intro v2_27 t0_27 t1_27 H locs ls hf hl hP hD hS
  replace hf : (kL4 (t0_27 + t1_27) (v2_27 + (1 : Int32))) = some R := hf
  refine lv_iadd hx hb dX5_forgottenOnes_27 ?_
  refine lv_istore_n (lv' := [(1, .int (t0_27 + t1_27)), (0, .ref (ad 0)), (2, .int v2_27)]) hx hb dX5_forgottenOnes_28 rfl hl (by decide) rfl (fun ls hl => ?_)
  refine lv_iinc (v := (v2_27 + (1 : Int32))) (lv' := [(2, .int (v2_27 + (1 : Int32))), (1, .int (t0_27 + t1_27)), (0, .ref (ad 0))]) hx hb dX5_forgottenOnes_29 hl (k := 2) rfl rfl (by decide) rfl (fun ls hl => ?_)
  refine lv_goto (tgt := 4) hx hb dX5_forgottenOnes_32 (by decide) ?_
  exact hkL4 (t0_27 + t1_27) (v2_27 + (1 : Int32)) _ _ _ hf (lv_sub hl [2, 1, 0] rfl) hP hD hS
set_option maxHeartbeats 4000000 in
set_option maxRecDepth 100000 in
theorem w_X5_forgottenOnes_4 {p : Program} {l : Launch} {e : Env} {s : State} {m : MethodId} {args : Array Value} {below : List Frame} {meth : Method} {c : Code} {D : va_G} {cI : ClassId} {aS : aSt} {A : Nat → Prop} {Q : State → Prop}  (ad : Nat → Nat) (writers : Int32) (year : Int32) (taped : Int32) (at_ : Int32) (statements : Int32) (hasImage : Int32) (isKeeping : Int32) (cursor : Int32) (forgottenWhen : Int32) (rowMany : Int32) (fame : (Nat → Int32)) {R : Int32} (X : Bx p s m args meth c cX5_forgottenOnes 3 (some .int) RX5 D cI aS A) (hret : RtI p l e 0 s m args below meth c cX5_forgottenOnes (some .int) D A (wd_X5_forgottenOnes cI ad writers year taped at_ statements hasImage isKeeping cursor forgottenWhen rowMany fame) R Q) : ∀ (fuel : Nat) (v1_4 : Int32) (v2_4 : Int32) (H : Heap) (locs : List Loc) (ls : Array Slot), f_X5_forgottenOnes_4 writers fame  fuel v1_4 v2_4 = some R → lv_has ls 3 [(0, .ref (ad 0)), (1, .int v1_4), (2, .int v2_4)] → va_P D vwCl (wd_X5_forgottenOnes cI ad writers year taped at_ statements hasImage isKeeping cursor forgottenWhen rowMany fame) H → va_D A (wd_X5_forgottenOnes cI ad writers year taped at_ statements hasImage isKeeping cursor forgottenWhen rowMany fame) → va_S A s.heap H locs → Wh p l e 0 s m args below meth c H locs Q (F0 m 4 ls []) := by
  have hx := X.1
  have hb := X.2.1
  intro fuel
  induction fuel with
  | zero =>
    intro v1_4 v2_4 H locs ls hf hl hP hD hS
    cases hf
  | succ fuel ih =>
    intro v1_4 v2_4 H locs ls hf hl hP hD hS
    replace hf : (if writers ≤ v2_4 then (some v1_4) else (gd v2_4 7 (if (fame (Int32.toNatClampNeg v2_4)) = 0 then (f_X5_forgottenOnes_27  (f_X5_forgottenOnes_4 writers fame  fuel) v2_4 v1_4 (1 : Int32)) else (f_X5_forgottenOnes_27  (f_X5_forgottenOnes_4 writers fame  fuel) v2_4 v1_4 (0 : Int32))))) = some R := hf
    refine lv_iload_n hx hb dX5_forgottenOnes_4 rfl (lv_at hl 2 rfl) ?_
    refine lv_aload_n hx hb dX5_forgottenOnes_5 rfl (lv_at hl 0 rfl) ?_
    refine fgX5_55 X hP (q0 := 0) rfl rfl dX5_forgottenOnes_6 ?_
    refine lv_icmp_ge (tgt := 35) hx hb dX5_forgottenOnes_9 (by decide) (fun c9 => ?_) (fun c9 => ?_)
    · have hf := iT c9 hf
      refine lv_iload_n hx hb dX5_forgottenOnes_35 rfl (lv_at hl 1 rfl) ?_
      have hR := Option.some.inj hf
      subst hR
      exact hret _ _ _ _ _ rfl (fun _ hn => by cases hn; rfl) hP hD hS dX5_forgottenOnes_36
    · have hf := iF c9 hf
      refine lv_iload_n hx hb dX5_forgottenOnes_12 rfl (lv_at hl 1 rfl) ?_
      refine lv_aload_n hx hb dX5_forgottenOnes_13 rfl (lv_at hl 0 rfl) ?_
      refine fgX5_22 X hP (q0 := 0) rfl rfl dX5_forgottenOnes_14 ?_
      refine lv_iload_n hx hb dX5_forgottenOnes_17 rfl (lv_at hl 2 rfl) ?_
      refine aGet X hP (q0 := 1) rfl (gdS hf).1 dX5_forgottenOnes_18 ?_
      have hf := (gdS hf).2
      refine lv_if_ne (tgt := 26) hx hb dX5_forgottenOnes_19 (by decide) (fun c19 => ?_) (fun c19 => ?_)
      · have hf := iF c19 hf
        refine lv_iconst (v := 0) hx hb dX5_forgottenOnes_26 (by decide) ?_
        exact w_X5_forgottenOnes_27 ad writers year taped at_ statements hasImage isKeeping cursor forgottenWhen rowMany fame X hret _ ih v2_4 v1_4 (0 : Int32) _ _ _ hf (lv_sub hl [0, 2] rfl) hP hD hS
      · have hf := iT c19 hf
        refine lv_iconst (v := 1) hx hb dX5_forgottenOnes_22 (by decide) ?_
        refine lv_goto (tgt := 27) hx hb dX5_forgottenOnes_23 (by decide) ?_
        exact w_X5_forgottenOnes_27 ad writers year taped at_ statements hasImage isKeeping cursor forgottenWhen rowMany fame X hret _ ih v2_4 v1_4 (1 : Int32) _ _ _ hf (lv_sub hl [0, 2] rfl) hP hD hS
set_option maxHeartbeats 4000000 in
set_option maxRecDepth 100000 in
theorem c_X5_forgottenOnes (l : Launch) (D : va_G) (cI : ClassId) (aS : aSt) (ad : Nat → Nat) (writers : Int32) (year : Int32) (taped : Int32) (at_ : Int32) (statements : Int32) (hasImage : Int32) (isKeeping : Int32) (cursor : Int32) (forgottenWhen : Int32) (rowMany : Int32) (fame : (Nat → Int32)) (R : Int32) (hf : f_X5_forgottenOnes writers fame = some R) : CtI l yX5_forgottenOnes cX5_forgottenOnes 3 (some .int) 0 D cI aS [.ref (ad 0)] (wd_X5_forgottenOnes cI ad writers year taped at_ statements hasImage isKeeping cursor forgottenWhen rowMany fame) (wd_X5_forgottenOnes cI ad writers year taped at_ statements hasImage isKeeping cursor forgottenWhen rowMany fame) R := by
  refine ctI_of (by decide) ⟨_, rfl⟩ (Nat.le_of_ble_eq_true rfl) ?_
  intro p e s m below meth c A Q ls X hret hP hD hl
  have hS : va_S A s.heap s.heap [] := va_S.rf
  have hx := X.1
  have hb := X.2.1
  have hl : lv_has ls 3 [(0, .ref (ad 0))] := hl
  replace hf : (f_X5_forgottenOnes_4 writers fame  FU (0 : Int32) (0 : Int32)) = some R := hf
  refine lv_iconst (v := 0) hx hb dX5_forgottenOnes_0 (by decide) ?_
  refine lv_istore_n (lv' := [(1, .int (0 : Int32)), (0, .ref (ad 0))]) hx hb dX5_forgottenOnes_1 rfl hl (by decide) rfl (fun ls hl => ?_)
  refine lv_iconst (v := 0) hx hb dX5_forgottenOnes_2 (by decide) ?_
  refine lv_istore_n (lv' := [(2, .int (0 : Int32)), (1, .int (0 : Int32)), (0, .ref (ad 0))]) hx hb dX5_forgottenOnes_3 rfl hl (by decide) rfl (fun ls hl => ?_)
  exact w_X5_forgottenOnes_4 ad writers year taped at_ statements hasImage isKeeping cursor forgottenWhen rowMany fame X hret  _ (0 : Int32) (0 : Int32) _ _ _ hf (lv_sub hl [2, 1, 0] rfl) hP hD hS

abbrev wd_X5_hush (cI : ClassId) (ad : Nat → Nat) (writers : Int32) (year : Int32) (taped : Int32) (at_ : Int32) (statements : Int32) (hasImage : Int32) (isKeeping : Int32) (cursor : Int32) (forgottenWhen : Int32) (rowMany : Int32) (kind : (Nat → Int32)) (figure : (Nat → Int32)) (style : (Nat → Int32)) (silent : (Nat → Int32)) (ring : (Nat → Int32)) : va_W := [((ad 0), .inr (5, [.ref (ad 1), .ref (ad 2), .ref (ad 3), .ref (ad 4), .ref (ad 5), .ref (ad 6), .ref (ad 7), .int writers, .int year, .ref (ad 8), .ref (ad 9), .ref (ad 10), .ref (ad 11), .int taped, .int at_, .int statements, .ref (ad 12), .int hasImage, .int isKeeping, .int cursor, .int forgottenWhen, .ref (ad 13), .ref (ad 14), .ref (ad 15), .int rowMany])), ((ad 2), .inl (cI, 7, .inl kind)), ((ad 3), .inl (cI, 7, .inl figure)), ((ad 4), .inl (cI, 7, .inl style)), ((ad 6), .inl (cI, 7, .inl silent)), ((ad 7), .inl (cI, 7, .inl ring))]
def f_X5_hush_65  (kL10 : Int32 → Int32 → Int32 → (Nat → Int32) → Option (Int32 × (Nat → Int32))) (v1_65 : Int32) (v2_65 : Int32) (v3_65 : Int32) (silent_65 : (Nat → Int32)) : Option (Int32 × (Nat → Int32)) := (kL10 v1_65 v2_65 (v3_65 + (1 : Int32)) silent_65)
def f_X5_hush_10 (writers : Int32) (year : Int32) (kind : (Nat → Int32)) (figure : (Nat → Int32)) (style : (Nat → Int32)) (ring : (Nat → Int32))  : Nat → Int32 → Int32 → Int32 → (Nat → Int32) → Option (Int32 × (Nat → Int32))
  | 0 => fun _ _ _ _ => none
  | fuel + 1 => fun v1_10 v2_10 v3_10 silent_10 => (if writers ≤ v3_10 then (some (v1_10, silent_10)) else (gd v3_10 7 (if (silent_10 (Int32.toNatClampNeg v3_10)) = (1 : Int32) then (f_X5_hush_65  (f_X5_hush_10 writers year kind figure style ring  fuel) v1_10 v2_10 v3_10 silent_10) else (gd v3_10 7 ((f_X5_allWorth writers year kind figure style (upd silent_10 (Int32.toNatClampNeg v3_10) (1 : Int32)) ring).bind fun (r39 : Int32) => (gd v3_10 7 (if v2_10 < r39 then (f_X5_hush_65  (f_X5_hush_10 writers year kind figure style ring  fuel) v3_10 r39 v3_10 (upd (upd silent_10 (Int32.toNatClampNeg v3_10) (1 : Int32)) (Int32.toNatClampNeg v3_10) (0 : Int32))) else (f_X5_hush_65  (f_X5_hush_10 writers year kind figure style ring  fuel) v1_10 v2_10 v3_10 (upd (upd silent_10 (Int32.toNatClampNeg v3_10) (1 : Int32)) (Int32.toNatClampNeg v3_10) (0 : Int32))))))))))
theorem e_X5_hush_10 (writers : Int32) (year : Int32) (kind : (Nat → Int32)) (figure : (Nat → Int32)) (style : (Nat → Int32)) (ring : (Nat → Int32))  (fuel : Nat) (v1_10 : Int32) (v2_10 : Int32) (v3_10 : Int32) (silent_10 : (Nat → Int32)) : f_X5_hush_10 writers year kind figure style ring  (fuel + 1) v1_10 v2_10 v3_10 silent_10 = (if writers ≤ v3_10 then (some (v1_10, silent_10)) else (gd v3_10 7 (if (silent_10 (Int32.toNatClampNeg v3_10)) = (1 : Int32) then (f_X5_hush_65  (f_X5_hush_10 writers year kind figure style ring  fuel) v1_10 v2_10 v3_10 silent_10) else (gd v3_10 7 ((f_X5_allWorth writers year kind figure style (upd silent_10 (Int32.toNatClampNeg v3_10) (1 : Int32)) ring).bind fun (r39 : Int32) => (gd v3_10 7 (if v2_10 < r39 then (f_X5_hush_65  (f_X5_hush_10 writers year kind figure style ring  fuel) v3_10 r39 v3_10 (upd (upd silent_10 (Int32.toNatClampNeg v3_10) (1 : Int32)) (Int32.toNatClampNeg v3_10) (0 : Int32))) else (f_X5_hush_65  (f_X5_hush_10 writers year kind figure style ring  fuel) v1_10 v2_10 v3_10 (upd (upd silent_10 (Int32.toNatClampNeg v3_10) (1 : Int32)) (Int32.toNatClampNeg v3_10) (0 : Int32)))))))))) := rfl
def f_X5_hush (writers : Int32) (year : Int32) (kind : (Nat → Int32)) (figure : (Nat → Int32)) (style : (Nat → Int32)) (silent : (Nat → Int32)) (ring : (Nat → Int32)) : Option (Int32 × (Nat → Int32)) := ((f_X5_allWorth writers year kind figure style silent ring).bind fun (r4 : Int32) => (f_X5_hush_10 writers year kind figure style ring  FU (-9 : Int32) r4 (0 : Int32) silent))
set_option maxHeartbeats 4000000 in
set_option maxRecDepth 100000 in
theorem w_X5_hush_65 {p : Program} {l : Launch} {e : Env} {s : State} {m : MethodId} {args : Array Value} {below : List Frame} {meth : Method} {c : Code} {D : va_G} {cI : ClassId} {aS : aSt} {A : Nat → Prop} {Q : State → Prop}  (ad : Nat → Nat) (writers : Int32) (year : Int32) (taped : Int32) (at_ : Int32) (statements : Int32) (hasImage : Int32) (isKeeping : Int32) (cursor : Int32) (forgottenWhen : Int32) (rowMany : Int32) (kind : (Nat → Int32)) (figure : (Nat → Int32)) (style : (Nat → Int32)) (ring : (Nat → Int32)) {R : Int32 × (Nat → Int32)} (X : Bx p s m args meth c cX5_hush 5 (some .int) RX5 D cI aS A) (hret : RtI p l e 5 s m args below meth c cX5_hush (some .int) D A (wd_X5_hush cI ad writers year taped at_ statements hasImage isKeeping cursor forgottenWhen rowMany kind figure style R.2 ring) R.1 Q) (kL10 : Int32 → Int32 → Int32 → (Nat → Int32) → Option (Int32 × (Nat → Int32))) (hkL10 : ∀ (v1_10 : Int32) (v2_10 : Int32) (v3_10 : Int32) (silent_10 : (Nat → Int32)) (H : Heap) (locs : List Loc) (ls : Array Slot), kL10 v1_10 v2_10 v3_10 silent_10 = some R → lv_has ls 5 [(0, .ref (ad 0)), (1, .int v1_10), (2, .int v2_10), (3, .int v3_10)] → va_P D vwCl (wd_X5_hush cI ad writers year taped at_ statements hasImage isKeeping cursor forgottenWhen rowMany kind figure style silent_10 ring) H → va_D A (wd_X5_hush cI ad writers year taped at_ statements hasImage isKeeping cursor forgottenWhen rowMany kind figure style silent_10 ring) → va_S A s.heap H locs → Wh p l e 5 s m args below meth c H locs Q (F0 m 10 ls [])) : ∀ (v1_65 : Int32) (v2_65 : Int32) (v3_65 : Int32) (silent_65 : (Nat → Int32)) (H : Heap) (locs : List Loc) (ls : Array Slot), f_X5_hush_65  kL10 v1_65 v2_65 v3_65 silent_65 = some R → lv_has ls 5 [(0, .ref (ad 0)), (1, .int v1_65), (2, .int v2_65), (3, .int v3_65)] → va_P D vwCl (wd_X5_hush cI ad writers year taped at_ statements hasImage isKeeping cursor forgottenWhen rowMany kind figure style silent_65 ring) H → va_D A (wd_X5_hush cI ad writers year taped at_ statements hasImage isKeeping cursor forgottenWhen rowMany kind figure style silent_65 ring) → va_S A s.heap H locs → Wh p l e 5 s m args below meth c H locs Q (F0 m 65 ls []) := by
  have hx := X.1
  have hb := X.2.1
  intro v1_65 v2_65 v3_65 silent_65 H locs ls hf hl hP hD hS
  replace hf : (kL10 v1_65 v2_65 (v3_65 + (1 : Int32)) silent_65) = some R := hf
  refine lv_iinc (v := (v3_65 + (1 : Int32))) (lv' := [(3, .int (v3_65 + (1 : Int32))), (0, .ref (ad 0)), (1, .int v1_65), (2, .int v2_65)]) hx hb dX5_hush_65 hl (k := 3) rfl rfl (by decide) rfl (fun ls hl => ?_)
  refine lv_goto (tgt := 10) hx hb dX5_hush_68 (by decide) ?_
  exact hkL10 v1_65 v2_65 (v3_65 + (1 : Int32)) silent_65 _ _ _ hf (lv_sub hl [1, 2, 3, 0] rfl) hP hD hS
set_option maxHeartbeats 4000000 in
set_option maxRecDepth 100000 in
theorem w_X5_hush_10 {p : Program} {l : Launch} {e : Env} {s : State} {m : MethodId} {args : Array Value} {below : List Frame} {meth : Method} {c : Code} {D : va_G} {cI : ClassId} {aS : aSt} {A : Nat → Prop} {Q : State → Prop}  (ad : Nat → Nat) (writers : Int32) (year : Int32) (taped : Int32) (at_ : Int32) (statements : Int32) (hasImage : Int32) (isKeeping : Int32) (cursor : Int32) (forgottenWhen : Int32) (rowMany : Int32) (kind : (Nat → Int32)) (figure : (Nat → Int32)) (style : (Nat → Int32)) (ring : (Nat → Int32)) {R : Int32 × (Nat → Int32)} (X : Bx p s m args meth c cX5_hush 5 (some .int) RX5 D cI aS A) (hret : RtI p l e 5 s m args below meth c cX5_hush (some .int) D A (wd_X5_hush cI ad writers year taped at_ statements hasImage isKeeping cursor forgottenWhen rowMany kind figure style R.2 ring) R.1 Q) : ∀ (fuel : Nat) (v1_10 : Int32) (v2_10 : Int32) (v3_10 : Int32) (silent_10 : (Nat → Int32)) (H : Heap) (locs : List Loc) (ls : Array Slot), f_X5_hush_10 writers year kind figure style ring  fuel v1_10 v2_10 v3_10 silent_10 = some R → lv_has ls 5 [(0, .ref (ad 0)), (1, .int v1_10), (2, .int v2_10), (3, .int v3_10)] → va_P D vwCl (wd_X5_hush cI ad writers year taped at_ statements hasImage isKeeping cursor forgottenWhen rowMany kind figure style silent_10 ring) H → va_D A (wd_X5_hush cI ad writers year taped at_ statements hasImage isKeeping cursor forgottenWhen rowMany kind figure style silent_10 ring) → va_S A s.heap H locs → Wh p l e 5 s m args below meth c H locs Q (F0 m 10 ls []) := by
  have hx := X.1
  have hb := X.2.1
  intro fuel
  induction fuel with
  | zero =>
    intro v1_10 v2_10 v3_10 silent_10 H locs ls hf hl hP hD hS
    cases hf
  | succ fuel ih =>
    intro v1_10 v2_10 v3_10 silent_10 H locs ls hf hl hP hD hS
    replace hf : (if writers ≤ v3_10 then (some (v1_10, silent_10)) else (gd v3_10 7 (if (silent_10 (Int32.toNatClampNeg v3_10)) = (1 : Int32) then (f_X5_hush_65  (f_X5_hush_10 writers year kind figure style ring  fuel) v1_10 v2_10 v3_10 silent_10) else (gd v3_10 7 ((f_X5_allWorth writers year kind figure style (upd silent_10 (Int32.toNatClampNeg v3_10) (1 : Int32)) ring).bind fun (r39 : Int32) => (gd v3_10 7 (if v2_10 < r39 then (f_X5_hush_65  (f_X5_hush_10 writers year kind figure style ring  fuel) v3_10 r39 v3_10 (upd (upd silent_10 (Int32.toNatClampNeg v3_10) (1 : Int32)) (Int32.toNatClampNeg v3_10) (0 : Int32))) else (f_X5_hush_65  (f_X5_hush_10 writers year kind figure style ring  fuel) v1_10 v2_10 v3_10 (upd (upd silent_10 (Int32.toNatClampNeg v3_10) (1 : Int32)) (Int32.toNatClampNeg v3_10) (0 : Int32)))))))))) = some R := hf
    refine lv_iload_n hx hb dX5_hush_10 rfl (lv_at hl 3 rfl) ?_
    refine lv_aload_n hx hb dX5_hush_11 rfl (lv_at hl 0 rfl) ?_
    refine fgX5_55 X hP (q0 := 0) rfl rfl dX5_hush_12 ?_
    refine lv_icmp_ge (tgt := 71) hx hb dX5_hush_15 (by decide) (fun c15 => ?_) (fun c15 => ?_)
    · have hf := iT c15 hf
      refine lv_iload_n hx hb dX5_hush_71 rfl (lv_at hl 1 rfl) ?_
      have hR := Option.some.inj hf
      subst hR
      exact hret _ _ _ _ _ rfl (fun _ hn => by cases hn; rfl) hP hD hS dX5_hush_72
    · have hf := iF c15 hf
      refine lv_aload_n hx hb dX5_hush_18 rfl (lv_at hl 0 rfl) ?_
      refine fgX5_25 X hP (q0 := 0) rfl rfl dX5_hush_19 ?_
      refine lv_iload_n hx hb dX5_hush_22 rfl (lv_at hl 3 rfl) ?_
      refine aGet X hP (q0 := 4) rfl (gdS hf).1 dX5_hush_23 ?_
      have hf := (gdS hf).2
      refine lv_iconst (v := 1) hx hb dX5_hush_24 (by decide) ?_
      refine lv_icmp_ne (tgt := 31) hx hb dX5_hush_25 (by decide) (fun c25 => ?_) (fun c25 => ?_)
      · have hf := iF c25 hf
        refine lv_aload_n hx hb dX5_hush_31 rfl (lv_at hl 0 rfl) ?_
        refine fgX5_25 X hP (q0 := 0) rfl rfl dX5_hush_32 ?_
        refine lv_iload_n hx hb dX5_hush_35 rfl (lv_at hl 3 rfl) ?_
        refine lv_iconst (v := 1) hx hb dX5_hush_36 (by decide) ?_
        refine aPut X hP hD hS (q0 := 4) (ws' := (wd_X5_hush cI ad writers year taped at_ statements hasImage isKeeping cursor forgottenWhen rowMany kind figure style (upd silent_10 (Int32.toNatClampNeg v3_10) (1 : Int32)) ring)) rfl (gdS hf).1 rfl dX5_hush_37 (fun H locs hP hD hS => ?_)
        have hf := (gdS hf).2
        refine lv_aload_n hx hb dX5_hush_38 rfl (lv_at hl 0 rfl) ?_
        obtain ⟨r39, hq39, hf⟩ := bS hf
        refine ro_i X hP hD hS [0, 1, 2, 3, 4, 5] rfl (run_V X hP hD hS [0, 1, 2, 3, 4, 5] rfl rfl (c_X5_allWorth l D cI aS ad writers year taped at_ statements hasImage isKeeping cursor forgottenWhen rowMany kind figure style (upd silent_10 (Int32.toNatClampNeg v3_10) (1 : Int32)) ring _ hq39 _) lkX5_206 (by decide) (q0 := 0) rfl rfl rfl rfl (Nat.le_of_ble_eq_true rfl) hl.1 dX5_hush_39) (fun H locs hP hS => ?_)
        refine lv_istore (lv' := [(4, .int r39), (0, .ref (ad 0)), (1, .int v1_10), (2, .int v2_10), (3, .int v3_10)]) hx hb dX5_hush_42 hl (by decide) rfl (fun ls hl => ?_)
        refine lv_aload_n hx hb dX5_hush_44 rfl (lv_at hl 1 rfl) ?_
        refine fgX5_25 X hP (q0 := 0) rfl rfl dX5_hush_45 ?_
        refine lv_iload_n hx hb dX5_hush_48 rfl (lv_at hl 4 rfl) ?_
        refine lv_iconst (v := 0) hx hb dX5_hush_49 (by decide) ?_
        refine aPut X hP hD hS (q0 := 4) (ws' := (wd_X5_hush cI ad writers year taped at_ statements hasImage isKeeping cursor forgottenWhen rowMany kind figure style (upd (upd silent_10 (Int32.toNatClampNeg v3_10) (1 : Int32)) (Int32.toNatClampNeg v3_10) (0 : Int32)) ring)) rfl (gdS hf).1 rfl dX5_hush_50 (fun H locs hP hD hS => ?_)
        have hf := (gdS hf).2
        refine lv_iload hx hb dX5_hush_51 (lv_at hl 0 rfl) ?_
        refine lv_iload_n hx hb dX5_hush_53 rfl (lv_at hl 3 rfl) ?_
        refine lv_icmp_gt (tgt := 60) hx hb dX5_hush_54 (by decide) (fun c54 => ?_) (fun c54 => ?_)
        · have hf := iT c54 hf
          refine lv_iload_n hx hb dX5_hush_60 rfl (lv_at hl 4 rfl) ?_
          refine lv_istore_n (lv' := [(1, .int v3_10), (4, .int r39), (0, .ref (ad 0)), (2, .int v2_10), (3, .int v3_10)]) hx hb dX5_hush_61 rfl hl (by decide) rfl (fun ls hl => ?_)
          refine lv_iload hx hb dX5_hush_62 (lv_at hl 1 rfl) ?_
          refine lv_istore_n (lv' := [(2, .int r39), (1, .int v3_10), (4, .int r39), (0, .ref (ad 0)), (3, .int v3_10)]) hx hb dX5_hush_64 rfl hl (by decide) rfl (fun ls hl => ?_)
          exact w_X5_hush_65 ad writers year taped at_ statements hasImage isKeeping cursor forgottenWhen rowMany kind figure style ring X hret _ ih v3_10 r39 v3_10 (upd (upd silent_10 (Int32.toNatClampNeg v3_10) (1 : Int32)) (Int32.toNatClampNeg v3_10) (0 : Int32)) _ _ _ hf (lv_sub hl [3, 1, 0, 4] rfl) hP hD hS
        · have hf := iF c54 hf
          refine lv_goto (tgt := 65) hx hb dX5_hush_57 (by decide) ?_
          exact w_X5_hush_65 ad writers year taped at_ statements hasImage isKeeping cursor forgottenWhen rowMany kind figure style ring X hret _ ih v1_10 v2_10 v3_10 (upd (upd silent_10 (Int32.toNatClampNeg v3_10) (1 : Int32)) (Int32.toNatClampNeg v3_10) (0 : Int32)) _ _ _ hf (lv_sub hl [1, 2, 3, 4] rfl) hP hD hS
      · have hf := iT c25 hf
        refine lv_goto (tgt := 65) hx hb dX5_hush_28 (by decide) ?_
        exact w_X5_hush_65 ad writers year taped at_ statements hasImage isKeeping cursor forgottenWhen rowMany kind figure style ring X hret _ ih v1_10 v2_10 v3_10 silent_10 _ _ _ hf (lv_sub hl [0, 1, 2, 3] rfl) hP hD hS
set_option maxHeartbeats 4000000 in
set_option maxRecDepth 100000 in
theorem c_X5_hush (l : Launch) (D : va_G) (cI : ClassId) (aS : aSt) (ad : Nat → Nat) (writers : Int32) (year : Int32) (taped : Int32) (at_ : Int32) (statements : Int32) (hasImage : Int32) (isKeeping : Int32) (cursor : Int32) (forgottenWhen : Int32) (rowMany : Int32) (kind : (Nat → Int32)) (figure : (Nat → Int32)) (style : (Nat → Int32)) (silent : (Nat → Int32)) (ring : (Nat → Int32)) (R : Int32 × (Nat → Int32)) (hf : f_X5_hush writers year kind figure style silent ring = some R) : CtI l yX5_hush cX5_hush 5 (some .int) 5 D cI aS [.ref (ad 0)] (wd_X5_hush cI ad writers year taped at_ statements hasImage isKeeping cursor forgottenWhen rowMany kind figure style silent ring) (wd_X5_hush cI ad writers year taped at_ statements hasImage isKeeping cursor forgottenWhen rowMany kind figure style R.2 ring) R.1 := by
  refine ctI_of (by decide) ⟨_, rfl⟩ (Nat.le_of_ble_eq_true rfl) ?_
  intro p e s m below meth c A Q ls X hret hP hD hl
  have hS : va_S A s.heap s.heap [] := va_S.rf
  have hx := X.1
  have hb := X.2.1
  have hl : lv_has ls 5 [(0, .ref (ad 0))] := hl
  replace hf : ((f_X5_allWorth writers year kind figure style silent ring).bind fun (r4 : Int32) => (f_X5_hush_10 writers year kind figure style ring  FU (-9 : Int32) r4 (0 : Int32) silent)) = some R := hf
  refine lv_bipush (v := -9) hx hb dX5_hush_0 (by decide) ?_
  refine lv_istore_n (lv' := [(1, .int (-9 : Int32)), (0, .ref (ad 0))]) hx hb dX5_hush_2 rfl hl (by decide) rfl (fun ls hl => ?_)
  refine lv_aload_n hx hb dX5_hush_3 rfl (lv_at hl 1 rfl) ?_
  obtain ⟨r4, hq4, hf⟩ := bS hf
  refine ro_i X hP hD hS [0, 1, 2, 3, 4, 5] rfl (run_V X hP hD hS [0, 1, 2, 3, 4, 5] rfl rfl (c_X5_allWorth l D cI aS ad writers year taped at_ statements hasImage isKeeping cursor forgottenWhen rowMany kind figure style silent ring _ hq4 _) lkX5_206 (by decide) (q0 := 0) rfl rfl rfl rfl (Nat.le_of_ble_eq_true rfl) hl.1 dX5_hush_4) (fun H locs hP hS => ?_)
  refine lv_istore_n (lv' := [(2, .int r4), (1, .int (-9 : Int32)), (0, .ref (ad 0))]) hx hb dX5_hush_7 rfl hl (by decide) rfl (fun ls hl => ?_)
  refine lv_iconst (v := 0) hx hb dX5_hush_8 (by decide) ?_
  refine lv_istore_n (lv' := [(3, .int (0 : Int32)), (2, .int r4), (1, .int (-9 : Int32)), (0, .ref (ad 0))]) hx hb dX5_hush_9 rfl hl (by decide) rfl (fun ls hl => ?_)
  exact w_X5_hush_10 ad writers year taped at_ statements hasImage isKeeping cursor forgottenWhen rowMany kind figure style ring X hret  _ (-9 : Int32) r4 (0 : Int32) silent _ _ _ hf (lv_sub hl [3, 2, 1, 0] rfl) hP hD hS

abbrev wd_X5_hushes (cI : ClassId) (ad : Nat → Nat) (writers : Int32) (year : Int32) (taped : Int32) (at_ : Int32) (statements : Int32) (hasImage : Int32) (isKeeping : Int32) (cursor : Int32) (forgottenWhen : Int32) (rowMany : Int32) (refused : (Nat → Int32)) (silent : (Nat → Int32)) : va_W := [((ad 0), .inr (5, [.ref (ad 1), .ref (ad 2), .ref (ad 3), .ref (ad 4), .ref (ad 5), .ref (ad 6), .ref (ad 7), .int writers, .int year, .ref (ad 8), .ref (ad 9), .ref (ad 10), .ref (ad 11), .int taped, .int at_, .int statements, .ref (ad 12), .int hasImage, .int isKeeping, .int cursor, .int forgottenWhen, .ref (ad 13), .ref (ad 14), .ref (ad 15), .int rowMany])), ((ad 1), .inl (cI, 7, .inl refused)), ((ad 6), .inl (cI, 7, .inl silent))]
def f_X5_hushes (writers : Int32) (refused : (Nat → Int32)) (silent : (Nat → Int32)) (x1 : Int32) : Option (Int32 × (Nat → Int32) × (Nat → Int32)) := ((f_X5_isOne writers x1).bind fun (r2 : Int32) => (if r2 = 0 then ((f_X5_no refused (-1 : Int32)).bind fun (r10 : Int32 × (Nat → Int32)) => (some (r10.1, r10.2, silent))) else (gd x1 7 (gd x1 7 (gd x1 7 (some (((1 : Int32) - ((upd silent (Int32.toNatClampNeg x1) ((1 : Int32) - (silent (Int32.toNatClampNeg x1)))) (Int32.toNatClampNeg x1))), refused, (upd silent (Int32.toNatClampNeg x1) ((1 : Int32) - (silent (Int32.toNatClampNeg x1)))))))))))
set_option maxHeartbeats 4000000 in
set_option maxRecDepth 100000 in
theorem c_X5_hushes (l : Launch) (D : va_G) (cI : ClassId) (aS : aSt) (ad : Nat → Nat) (writers : Int32) (year : Int32) (taped : Int32) (at_ : Int32) (statements : Int32) (hasImage : Int32) (isKeeping : Int32) (cursor : Int32) (forgottenWhen : Int32) (rowMany : Int32) (refused : (Nat → Int32)) (silent : (Nat → Int32)) (x1 : Int32) (R : Int32 × (Nat → Int32) × (Nat → Int32)) (hf : f_X5_hushes writers refused silent x1 = some R) : CtI l yX5_hushes cX5_hushes 2 (some .int) 1 D cI aS [.ref (ad 0), .int x1] (wd_X5_hushes cI ad writers year taped at_ statements hasImage isKeeping cursor forgottenWhen rowMany refused silent) (wd_X5_hushes cI ad writers year taped at_ statements hasImage isKeeping cursor forgottenWhen rowMany R.2.1 R.2.2) R.1 := by
  refine ctI_of (by decide) ⟨_, rfl⟩ (Nat.le_of_ble_eq_true rfl) ?_
  intro p e s m below meth c A Q ls X hret hP hD hl
  have hS : va_S A s.heap s.heap [] := va_S.rf
  have hx := X.1
  have hb := X.2.1
  have hl : lv_has ls 2 [(0, .ref (ad 0)), (1, .int x1)] := hl
  replace hf : ((f_X5_isOne writers x1).bind fun (r2 : Int32) => (if r2 = 0 then ((f_X5_no refused (-1 : Int32)).bind fun (r10 : Int32 × (Nat → Int32)) => (some (r10.1, r10.2, silent))) else (gd x1 7 (gd x1 7 (gd x1 7 (some (((1 : Int32) - ((upd silent (Int32.toNatClampNeg x1) ((1 : Int32) - (silent (Int32.toNatClampNeg x1)))) (Int32.toNatClampNeg x1))), refused, (upd silent (Int32.toNatClampNeg x1) ((1 : Int32) - (silent (Int32.toNatClampNeg x1))))))))))) = some R := hf
  refine lv_aload_n hx hb dX5_hushes_0 rfl (lv_at hl 0 rfl) ?_
  refine lv_iload_n hx hb dX5_hushes_1 rfl (lv_at hl 1 rfl) ?_
  obtain ⟨r2, hq2, hf⟩ := bS hf
  refine ro_i X hP hD hS [0] rfl (run_V X hP hD hS [0] rfl rfl (c_X5_isOne l D cI aS ad writers year taped at_ statements hasImage isKeeping cursor forgottenWhen rowMany x1 _ hq2 _) lkX5_108 (by decide) (q0 := 0) rfl rfl rfl rfl (Nat.le_of_ble_eq_true rfl) hl.1 dX5_hushes_2) (fun H locs hP hS => ?_)
  refine lv_if_ne (tgt := 14) hx hb dX5_hushes_5 (by decide) (fun c5 => ?_) (fun c5 => ?_)
  · have hf := iF c5 hf
    refine lv_aload_n hx hb dX5_hushes_14 rfl (lv_at hl 0 rfl) ?_
    refine fgX5_25 X hP (q0 := 0) rfl rfl dX5_hushes_15 ?_
    refine lv_iload_n hx hb dX5_hushes_18 rfl (lv_at hl 1 rfl) ?_
    refine lv_iconst (v := 1) hx hb dX5_hushes_19 (by decide) ?_
    refine lv_aload_n hx hb dX5_hushes_20 rfl (lv_at hl 0 rfl) ?_
    refine fgX5_25 X hP (q0 := 0) rfl rfl dX5_hushes_21 ?_
    refine lv_iload_n hx hb dX5_hushes_24 rfl (lv_at hl 1 rfl) ?_
    refine aGet X hP (q0 := 2) rfl (gdS hf).1 dX5_hushes_25 ?_
    have hf := (gdS hf).2
    refine lv_isub hx hb dX5_hushes_26 ?_
    refine aPut X hP hD hS (q0 := 2) (ws' := (wd_X5_hushes cI ad writers year taped at_ statements hasImage isKeeping cursor forgottenWhen rowMany refused (upd silent (Int32.toNatClampNeg x1) ((1 : Int32) - (silent (Int32.toNatClampNeg x1)))))) rfl (gdS hf).1 rfl dX5_hushes_27 (fun H locs hP hD hS => ?_)
    have hf := (gdS hf).2
    refine lv_iconst (v := 1) hx hb dX5_hushes_28 (by decide) ?_
    refine lv_aload_n hx hb dX5_hushes_29 rfl (lv_at hl 0 rfl) ?_
    refine fgX5_25 X hP (q0 := 0) rfl rfl dX5_hushes_30 ?_
    refine lv_iload_n hx hb dX5_hushes_33 rfl (lv_at hl 1 rfl) ?_
    refine aGet X hP (q0 := 2) rfl (gdS hf).1 dX5_hushes_34 ?_
    have hf := (gdS hf).2
    refine lv_isub hx hb dX5_hushes_35 ?_
    have hR := Option.some.inj hf
    subst hR
    exact hret _ _ _ _ _ rfl (fun _ hn => by cases hn; rfl) hP hD hS dX5_hushes_36
  · have hf := iT c5 hf
    refine lv_aload_n hx hb dX5_hushes_8 rfl (lv_at hl 0 rfl) ?_
    refine lv_iconst (v := -1) hx hb dX5_hushes_9 (by decide) ?_
    obtain ⟨r10, hq10, hf⟩ := bS hf
    refine wr_i X hP hD hS [0, 1] rfl (ws' := (wd_X5_hushes cI ad writers year taped at_ statements hasImage isKeeping cursor forgottenWhen rowMany r10.2 silent)) (Nat.le_of_ble_eq_true rfl) rfl rfl (run_V X hP hD hS [0, 1] rfl rfl (c_X5_no l D cI aS ad writers year taped at_ statements hasImage isKeeping cursor forgottenWhen rowMany refused (-1 : Int32) _ hq10 _) lkX5_69 (by decide) (q0 := 0) rfl rfl rfl rfl (Nat.le_of_ble_eq_true rfl) hl.1 dX5_hushes_10) (fun H locs hP hD hS => ?_)
    have hR := Option.some.inj hf
    subst hR
    exact hret _ _ _ _ _ rfl (fun _ hn => by cases hn; rfl) hP hD hS dX5_hushes_13

abbrev wd_X5_image (cI : ClassId) (ad : Nat → Nat) (writers : Int32) (year : Int32) (taped : Int32) (at_ : Int32) (statements : Int32) (hasImage : Int32) (isKeeping : Int32) (cursor : Int32) (forgottenWhen : Int32) (rowMany : Int32) (kind : (Nat → Int32)) (figure : (Nat → Int32)) (style : (Nat → Int32)) (fame : (Nat → Int32)) (silent : (Nat → Int32)) (ring : (Nat → Int32)) (kept : (Nat → Int32)) : va_W := [((ad 0), .inr (5, [.ref (ad 1), .ref (ad 2), .ref (ad 3), .ref (ad 4), .ref (ad 5), .ref (ad 6), .ref (ad 7), .int writers, .int year, .ref (ad 8), .ref (ad 9), .ref (ad 10), .ref (ad 11), .int taped, .int at_, .int statements, .ref (ad 12), .int hasImage, .int isKeeping, .int cursor, .int forgottenWhen, .ref (ad 13), .ref (ad 14), .ref (ad 15), .int rowMany])), ((ad 2), .inl (cI, 7, .inl kind)), ((ad 3), .inl (cI, 7, .inl figure)), ((ad 4), .inl (cI, 7, .inl style)), ((ad 5), .inl (cI, 7, .inl fame)), ((ad 6), .inl (cI, 7, .inl silent)), ((ad 7), .inl (cI, 7, .inl ring)), ((ad 12), .inl (cI, 132, .inl kept))]
def f_X5_image (writers : Int32) (year : Int32) (hasImage : Int32) (isKeeping : Int32) (cursor : Int32) (kind : (Nat → Int32)) (figure : (Nat → Int32)) (style : (Nat → Int32)) (fame : (Nat → Int32)) (silent : (Nat → Int32)) (ring : (Nat → Int32)) (kept : (Nat → Int32)) : Option (Int32 × Int32 × Int32 × Int32 × Int32 × Int32 × (Nat → Int32) × (Nat → Int32) × (Nat → Int32) × (Nat → Int32) × (Nat → Int32) × (Nat → Int32) × (Nat → Int32)) := ((f_X5_passesAll writers year isKeeping cursor kind figure style fame silent ring kept (0 : Int32) (1 : Int32)).bind fun (r8 : Int32 × Int32 × Int32 × Int32 × (Nat → Int32) × (Nat → Int32) × (Nat → Int32) × (Nat → Int32) × (Nat → Int32) × (Nat → Int32) × (Nat → Int32)) => (some (r8.2.1, r8.1, r8.2.1, (1 : Int32), r8.2.2.1, r8.2.2.2.1, r8.2.2.2.2.1, r8.2.2.2.2.2.1, r8.2.2.2.2.2.2.1, r8.2.2.2.2.2.2.2.1, r8.2.2.2.2.2.2.2.2.1, r8.2.2.2.2.2.2.2.2.2.1, r8.2.2.2.2.2.2.2.2.2.2)))
set_option maxHeartbeats 4000000 in
set_option maxRecDepth 100000 in
theorem c_X5_image (l : Launch) (D : va_G) (cI : ClassId) (aS : aSt) (ad : Nat → Nat) (writers : Int32) (year : Int32) (taped : Int32) (at_ : Int32) (statements : Int32) (hasImage : Int32) (isKeeping : Int32) (cursor : Int32) (forgottenWhen : Int32) (rowMany : Int32) (kind : (Nat → Int32)) (figure : (Nat → Int32)) (style : (Nat → Int32)) (fame : (Nat → Int32)) (silent : (Nat → Int32)) (ring : (Nat → Int32)) (kept : (Nat → Int32)) (R : Int32 × Int32 × Int32 × Int32 × Int32 × Int32 × (Nat → Int32) × (Nat → Int32) × (Nat → Int32) × (Nat → Int32) × (Nat → Int32) × (Nat → Int32) × (Nat → Int32)) (hf : f_X5_image writers year hasImage isKeeping cursor kind figure style fame silent ring kept = some R) : CtI l yX5_image cX5_image 1 (some .int) 2 D cI aS [.ref (ad 0)] (wd_X5_image cI ad writers year taped at_ statements hasImage isKeeping cursor forgottenWhen rowMany kind figure style fame silent ring kept) (wd_X5_image cI ad R.2.1 R.2.2.1 taped at_ statements R.2.2.2.1 R.2.2.2.2.1 R.2.2.2.2.2.1 forgottenWhen rowMany R.2.2.2.2.2.2.1 R.2.2.2.2.2.2.2.1 R.2.2.2.2.2.2.2.2.1 R.2.2.2.2.2.2.2.2.2.1 R.2.2.2.2.2.2.2.2.2.2.1 R.2.2.2.2.2.2.2.2.2.2.2.1 R.2.2.2.2.2.2.2.2.2.2.2.2) R.1 := by
  refine ctI_of (by decide) ⟨_, rfl⟩ (Nat.le_of_ble_eq_true rfl) ?_
  intro p e s m below meth c A Q ls X hret hP hD hl
  have hS : va_S A s.heap s.heap [] := va_S.rf
  have hx := X.1
  have hb := X.2.1
  have hl : lv_has ls 1 [(0, .ref (ad 0))] := hl
  replace hf : ((f_X5_passesAll writers year isKeeping cursor kind figure style fame silent ring kept (0 : Int32) (1 : Int32)).bind fun (r8 : Int32 × Int32 × Int32 × Int32 × (Nat → Int32) × (Nat → Int32) × (Nat → Int32) × (Nat → Int32) × (Nat → Int32) × (Nat → Int32) × (Nat → Int32)) => (some (r8.2.1, r8.1, r8.2.1, (1 : Int32), r8.2.2.1, r8.2.2.2.1, r8.2.2.2.2.1, r8.2.2.2.2.2.1, r8.2.2.2.2.2.2.1, r8.2.2.2.2.2.2.2.1, r8.2.2.2.2.2.2.2.2.1, r8.2.2.2.2.2.2.2.2.2.1, r8.2.2.2.2.2.2.2.2.2.2))) = some R := hf
  refine lv_aload_n hx hb dX5_image_0 rfl (lv_at hl 0 rfl) ?_
  refine lv_iconst (v := 1) hx hb dX5_image_1 (by decide) ?_
  refine fpX5_152 X hP hD hS (q0 := 0) (ws' := (wd_X5_image cI ad writers year taped at_ statements (1 : Int32) isKeeping cursor forgottenWhen rowMany kind figure style fame silent ring kept)) rfl rfl rfl (Nat.le_of_ble_eq_true rfl) rfl dX5_image_2 (fun H locs hP hD hS => ?_)
  refine lv_aload_n hx hb dX5_image_5 rfl (lv_at hl 0 rfl) ?_
  refine lv_iconst (v := 0) hx hb dX5_image_6 (by decide) ?_
  refine lv_iconst (v := 1) hx hb dX5_image_7 (by decide) ?_
  obtain ⟨r8, hq8, hf⟩ := bS hf
  refine wr_v X hP hD hS [0, 1, 2, 3, 4, 5, 6, 7] rfl (ws' := (wd_X5_image cI ad r8.1 r8.2.1 taped at_ statements (1 : Int32) r8.2.2.1 r8.2.2.2.1 forgottenWhen rowMany r8.2.2.2.2.1 r8.2.2.2.2.2.1 r8.2.2.2.2.2.2.1 r8.2.2.2.2.2.2.2.1 r8.2.2.2.2.2.2.2.2.1 r8.2.2.2.2.2.2.2.2.2.1 r8.2.2.2.2.2.2.2.2.2.2)) (Nat.le_of_ble_eq_true rfl) rfl rfl (run_V X hP hD hS [0, 1, 2, 3, 4, 5, 6, 7] rfl rfl (c_X5_passesAll l D cI aS ad writers year taped at_ statements (1 : Int32) isKeeping cursor forgottenWhen rowMany kind figure style fame silent ring kept (0 : Int32) (1 : Int32) _ hq8 _) lkX5_131 (by decide) (q0 := 0) rfl rfl rfl rfl (Nat.le_of_ble_eq_true rfl) hl.1 dX5_image_8) (fun H locs hP hD hS => ?_)
  refine lv_aload_n hx hb dX5_image_11 rfl (lv_at hl 0 rfl) ?_
  refine fgX5_101 X hP (q0 := 0) rfl rfl dX5_image_12 ?_
  have hR := Option.some.inj hf
  subst hR
  exact hret _ _ _ _ _ rfl (fun _ hn => by cases hn; rfl) hP hD hS dX5_image_15

abbrev wd_X5_join (cI : ClassId) (ad : Nat → Nat) (writers : Int32) (year : Int32) (taped : Int32) (at_ : Int32) (statements : Int32) (hasImage : Int32) (isKeeping : Int32) (cursor : Int32) (forgottenWhen : Int32) (rowMany : Int32) (kind : (Nat → Int32)) (figure : (Nat → Int32)) (style : (Nat → Int32)) (silent : (Nat → Int32)) (ring : (Nat → Int32)) : va_W := [((ad 0), .inr (5, [.ref (ad 1), .ref (ad 2), .ref (ad 3), .ref (ad 4), .ref (ad 5), .ref (ad 6), .ref (ad 7), .int writers, .int year, .ref (ad 8), .ref (ad 9), .ref (ad 10), .ref (ad 11), .int taped, .int at_, .int statements, .ref (ad 12), .int hasImage, .int isKeeping, .int cursor, .int forgottenWhen, .ref (ad 13), .ref (ad 14), .ref (ad 15), .int rowMany])), ((ad 2), .inl (cI, 7, .inl kind)), ((ad 3), .inl (cI, 7, .inl figure)), ((ad 4), .inl (cI, 7, .inl style)), ((ad 6), .inl (cI, 7, .inl silent)), ((ad 7), .inl (cI, 7, .inl ring))]
def f_X5_join_58  (kL8 : Int32 → Int32 → Int32 → Option (Int32)) (v1_58 : Int32) (v2_58 : Int32) (v3_58 : Int32) : Option (Int32) := (kL8 v1_58 v2_58 (v3_58 + (1 : Int32)))
def f_X5_join_42  (kL8 : Int32 → Int32 → Int32 → Option (Int32)) (v1_42 : Int32) (v2_42 : Int32) (v3_42 : Int32) (t0_42 : Int32) : Option (Int32) := (if v2_42 < t0_42 then (f_X5_join_58  kL8 v3_42 t0_42 v3_42) else (f_X5_join_58  kL8 v1_42 v2_42 v3_42))
def f_X5_join_8 (writers : Int32) (year : Int32) (kind : (Nat → Int32)) (figure : (Nat → Int32)) (style : (Nat → Int32)) (silent : (Nat → Int32)) (ring : (Nat → Int32))  : Nat → Int32 → Int32 → Int32 → Option (Int32)
  | 0 => fun _ _ _ => none
  | fuel + 1 => fun v1_8 v2_8 v3_8 => (if writers ≤ v3_8 then (some v1_8) else ((f_X5_isEnded writers silent ring v3_8).bind fun (r18 : Int32) => (if r18 = 0 then (f_X5_join_42  (f_X5_join_8 writers year kind figure style silent ring  fuel) v1_8 v2_8 v3_8 (-9 : Int32)) else ((f_X5_opens year style v3_8).bind fun (r26 : Int32) => ((f_X5_endOf writers year kind figure style silent ring v3_8).bind fun (r31 : Int32) => ((f_X5_wayTo r26 r31).bind fun (r34 : Int32) => (f_X5_join_42  (f_X5_join_8 writers year kind figure style silent ring  fuel) v1_8 v2_8 v3_8 r34)))))))
theorem e_X5_join_8 (writers : Int32) (year : Int32) (kind : (Nat → Int32)) (figure : (Nat → Int32)) (style : (Nat → Int32)) (silent : (Nat → Int32)) (ring : (Nat → Int32))  (fuel : Nat) (v1_8 : Int32) (v2_8 : Int32) (v3_8 : Int32) : f_X5_join_8 writers year kind figure style silent ring  (fuel + 1) v1_8 v2_8 v3_8 = (if writers ≤ v3_8 then (some v1_8) else ((f_X5_isEnded writers silent ring v3_8).bind fun (r18 : Int32) => (if r18 = 0 then (f_X5_join_42  (f_X5_join_8 writers year kind figure style silent ring  fuel) v1_8 v2_8 v3_8 (-9 : Int32)) else ((f_X5_opens year style v3_8).bind fun (r26 : Int32) => ((f_X5_endOf writers year kind figure style silent ring v3_8).bind fun (r31 : Int32) => ((f_X5_wayTo r26 r31).bind fun (r34 : Int32) => (f_X5_join_42  (f_X5_join_8 writers year kind figure style silent ring  fuel) v1_8 v2_8 v3_8 r34))))))) := rfl
def f_X5_join (writers : Int32) (year : Int32) (kind : (Nat → Int32)) (figure : (Nat → Int32)) (style : (Nat → Int32)) (silent : (Nat → Int32)) (ring : (Nat → Int32)) : Option (Int32) := (f_X5_join_8 writers year kind figure style silent ring  FU (-9 : Int32) (-9 : Int32) (0 : Int32))
set_option maxHeartbeats 4000000 in
set_option maxRecDepth 100000 in
theorem w_X5_join_58 {p : Program} {l : Launch} {e : Env} {s : State} {m : MethodId} {args : Array Value} {below : List Frame} {meth : Method} {c : Code} {D : va_G} {cI : ClassId} {aS : aSt} {A : Nat → Prop} {Q : State → Prop}  (ad : Nat → Nat) (writers : Int32) (year : Int32) (taped : Int32) (at_ : Int32) (statements : Int32) (hasImage : Int32) (isKeeping : Int32) (cursor : Int32) (forgottenWhen : Int32) (rowMany : Int32) (kind : (Nat → Int32)) (figure : (Nat → Int32)) (style : (Nat → Int32)) (silent : (Nat → Int32)) (ring : (Nat → Int32)) {R : Int32} (X : Bx p s m args meth c cX5_join 5 (some .int) RX5 D cI aS A) (hret : RtI p l e 3 s m args below meth c cX5_join (some .int) D A (wd_X5_join cI ad writers year taped at_ statements hasImage isKeeping cursor forgottenWhen rowMany kind figure style silent ring) R Q) (kL8 : Int32 → Int32 → Int32 → Option (Int32)) (hkL8 : ∀ (v1_8 : Int32) (v2_8 : Int32) (v3_8 : Int32) (H : Heap) (locs : List Loc) (ls : Array Slot), kL8 v1_8 v2_8 v3_8 = some R → lv_has ls 5 [(0, .ref (ad 0)), (1, .int v1_8), (2, .int v2_8), (3, .int v3_8)] → va_P D vwCl (wd_X5_join cI ad writers year taped at_ statements hasImage isKeeping cursor forgottenWhen rowMany kind figure style silent ring) H → va_D A (wd_X5_join cI ad writers year taped at_ statements hasImage isKeeping cursor forgottenWhen rowMany kind figure style silent ring) → va_S A s.heap H locs → Wh p l e 3 s m args below meth c H locs Q (F0 m 8 ls [])) : ∀ (v1_58 : Int32) (v2_58 : Int32) (v3_58 : Int32) (H : Heap) (locs : List Loc) (ls : Array Slot), f_X5_join_58  kL8 v1_58 v2_58 v3_58 = some R → lv_has ls 5 [(0, .ref (ad 0)), (1, .int v1_58), (2, .int v2_58), (3, .int v3_58)] → va_P D vwCl (wd_X5_join cI ad writers year taped at_ statements hasImage isKeeping cursor forgottenWhen rowMany kind figure style silent ring) H → va_D A (wd_X5_join cI ad writers year taped at_ statements hasImage isKeeping cursor forgottenWhen rowMany kind figure style silent ring) → va_S A s.heap H locs → Wh p l e 3 s m args below meth c H locs Q (F0 m 58 ls []) := by
  have hx := X.1
  have hb := X.2.1
  intro v1_58 v2_58 v3_58 H locs ls hf hl hP hD hS
  replace hf : (kL8 v1_58 v2_58 (v3_58 + (1 : Int32))) = some R := hf
  refine lv_iinc (v := (v3_58 + (1 : Int32))) (lv' := [(3, .int (v3_58 + (1 : Int32))), (0, .ref (ad 0)), (1, .int v1_58), (2, .int v2_58)]) hx hb dX5_join_58 hl (k := 3) rfl rfl (by decide) rfl (fun ls hl => ?_)
  refine lv_goto (tgt := 8) hx hb dX5_join_61 (by decide) ?_
  exact hkL8 v1_58 v2_58 (v3_58 + (1 : Int32)) _ _ _ hf (lv_sub hl [1, 2, 3, 0] rfl) hP hD hS
set_option maxHeartbeats 4000000 in
set_option maxRecDepth 100000 in
theorem w_X5_join_42 {p : Program} {l : Launch} {e : Env} {s : State} {m : MethodId} {args : Array Value} {below : List Frame} {meth : Method} {c : Code} {D : va_G} {cI : ClassId} {aS : aSt} {A : Nat → Prop} {Q : State → Prop}  (ad : Nat → Nat) (writers : Int32) (year : Int32) (taped : Int32) (at_ : Int32) (statements : Int32) (hasImage : Int32) (isKeeping : Int32) (cursor : Int32) (forgottenWhen : Int32) (rowMany : Int32) (kind : (Nat → Int32)) (figure : (Nat → Int32)) (style : (Nat → Int32)) (silent : (Nat → Int32)) (ring : (Nat → Int32)) {R : Int32} (X : Bx p s m args meth c cX5_join 5 (some .int) RX5 D cI aS A) (hret : RtI p l e 3 s m args below meth c cX5_join (some .int) D A (wd_X5_join cI ad writers year taped at_ statements hasImage isKeeping cursor forgottenWhen rowMany kind figure style silent ring) R Q) (kL8 : Int32 → Int32 → Int32 → Option (Int32)) (hkL8 : ∀ (v1_8 : Int32) (v2_8 : Int32) (v3_8 : Int32) (H : Heap) (locs : List Loc) (ls : Array Slot), kL8 v1_8 v2_8 v3_8 = some R → lv_has ls 5 [(0, .ref (ad 0)), (1, .int v1_8), (2, .int v2_8), (3, .int v3_8)] → va_P D vwCl (wd_X5_join cI ad writers year taped at_ statements hasImage isKeeping cursor forgottenWhen rowMany kind figure style silent ring) H → va_D A (wd_X5_join cI ad writers year taped at_ statements hasImage isKeeping cursor forgottenWhen rowMany kind figure style silent ring) → va_S A s.heap H locs → Wh p l e 3 s m args below meth c H locs Q (F0 m 8 ls [])) : ∀ (v1_42 : Int32) (v2_42 : Int32) (v3_42 : Int32) (t0_42 : Int32) (H : Heap) (locs : List Loc) (ls : Array Slot), f_X5_join_42  kL8 v1_42 v2_42 v3_42 t0_42 = some R → lv_has ls 5 [(0, .ref (ad 0)), (1, .int v1_42), (2, .int v2_42), (3, .int v3_42)] → va_P D vwCl (wd_X5_join cI ad writers year taped at_ statements hasImage isKeeping cursor forgottenWhen rowMany kind figure style silent ring) H → va_D A (wd_X5_join cI ad writers year taped at_ statements hasImage isKeeping cursor forgottenWhen rowMany kind figure style silent ring) → va_S A s.heap H locs → Wh p l e 3 s m args below meth c H locs Q (F0 m 42 ls [.int t0_42]) := by
  have hx := X.1
  have hb := X.2.1
  intro v1_42 v2_42 v3_42 t0_42 H locs ls hf hl hP hD hS
  replace hf : (if v2_42 < t0_42 then (f_X5_join_58  kL8 v3_42 t0_42 v3_42) else (f_X5_join_58  kL8 v1_42 v2_42 v3_42)) = some R := hf
  refine lv_istore (lv' := [(4, .int t0_42), (0, .ref (ad 0)), (1, .int v1_42), (2, .int v2_42), (3, .int v3_42)]) hx hb dX5_join_42 hl (by decide) rfl (fun ls hl => ?_)
  refine lv_iload hx hb dX5_join_44 (lv_at hl 0 rfl) ?_
  refine lv_iload_n hx hb dX5_join_46 rfl (lv_at hl 3 rfl) ?_
  refine lv_icmp_gt (tgt := 53) hx hb dX5_join_47 (by decide) (fun c47 => ?_) (fun c47 => ?_)
  · have hf := iT c47 hf
    refine lv_iload_n hx hb dX5_join_53 rfl (lv_at hl 4 rfl) ?_
    refine lv_istore_n (lv' := [(1, .int v3_42), (4, .int t0_42), (0, .ref (ad 0)), (2, .int v2_42), (3, .int v3_42)]) hx hb dX5_join_54 rfl hl (by decide) rfl (fun ls hl => ?_)
    refine lv_iload hx hb dX5_join_55 (lv_at hl 1 rfl) ?_
    refine lv_istore_n (lv' := [(2, .int t0_42), (1, .int v3_42), (4, .int t0_42), (0, .ref (ad 0)), (3, .int v3_42)]) hx hb dX5_join_57 rfl hl (by decide) rfl (fun ls hl => ?_)
    exact w_X5_join_58 ad writers year taped at_ statements hasImage isKeeping cursor forgottenWhen rowMany kind figure style silent ring X hret _ hkL8 v3_42 t0_42 v3_42 _ _ _ hf (lv_sub hl [3, 1, 0, 4] rfl) hP hD hS
  · have hf := iF c47 hf
    refine lv_goto (tgt := 58) hx hb dX5_join_50 (by decide) ?_
    exact w_X5_join_58 ad writers year taped at_ statements hasImage isKeeping cursor forgottenWhen rowMany kind figure style silent ring X hret _ hkL8 v1_42 v2_42 v3_42 _ _ _ hf (lv_sub hl [1, 2, 3, 4] rfl) hP hD hS
set_option maxHeartbeats 4000000 in
set_option maxRecDepth 100000 in
theorem w_X5_join_8 {p : Program} {l : Launch} {e : Env} {s : State} {m : MethodId} {args : Array Value} {below : List Frame} {meth : Method} {c : Code} {D : va_G} {cI : ClassId} {aS : aSt} {A : Nat → Prop} {Q : State → Prop}  (ad : Nat → Nat) (writers : Int32) (year : Int32) (taped : Int32) (at_ : Int32) (statements : Int32) (hasImage : Int32) (isKeeping : Int32) (cursor : Int32) (forgottenWhen : Int32) (rowMany : Int32) (kind : (Nat → Int32)) (figure : (Nat → Int32)) (style : (Nat → Int32)) (silent : (Nat → Int32)) (ring : (Nat → Int32)) {R : Int32} (X : Bx p s m args meth c cX5_join 5 (some .int) RX5 D cI aS A) (hret : RtI p l e 3 s m args below meth c cX5_join (some .int) D A (wd_X5_join cI ad writers year taped at_ statements hasImage isKeeping cursor forgottenWhen rowMany kind figure style silent ring) R Q) : ∀ (fuel : Nat) (v1_8 : Int32) (v2_8 : Int32) (v3_8 : Int32) (H : Heap) (locs : List Loc) (ls : Array Slot), f_X5_join_8 writers year kind figure style silent ring  fuel v1_8 v2_8 v3_8 = some R → lv_has ls 5 [(0, .ref (ad 0)), (1, .int v1_8), (2, .int v2_8), (3, .int v3_8)] → va_P D vwCl (wd_X5_join cI ad writers year taped at_ statements hasImage isKeeping cursor forgottenWhen rowMany kind figure style silent ring) H → va_D A (wd_X5_join cI ad writers year taped at_ statements hasImage isKeeping cursor forgottenWhen rowMany kind figure style silent ring) → va_S A s.heap H locs → Wh p l e 3 s m args below meth c H locs Q (F0 m 8 ls []) := by
  have hx := X.1
  have hb := X.2.1
  intro fuel
  induction fuel with
  | zero =>
    intro v1_8 v2_8 v3_8 H locs ls hf hl hP hD hS
    cases hf
  | succ fuel ih =>
    intro v1_8 v2_8 v3_8 H locs ls hf hl hP hD hS
    replace hf : (if writers ≤ v3_8 then (some v1_8) else ((f_X5_isEnded writers silent ring v3_8).bind fun (r18 : Int32) => (if r18 = 0 then (f_X5_join_42  (f_X5_join_8 writers year kind figure style silent ring  fuel) v1_8 v2_8 v3_8 (-9 : Int32)) else ((f_X5_opens year style v3_8).bind fun (r26 : Int32) => ((f_X5_endOf writers year kind figure style silent ring v3_8).bind fun (r31 : Int32) => ((f_X5_wayTo r26 r31).bind fun (r34 : Int32) => (f_X5_join_42  (f_X5_join_8 writers year kind figure style silent ring  fuel) v1_8 v2_8 v3_8 r34))))))) = some R := hf
    refine lv_iload_n hx hb dX5_join_8 rfl (lv_at hl 3 rfl) ?_
    refine lv_aload_n hx hb dX5_join_9 rfl (lv_at hl 0 rfl) ?_
    refine fgX5_55 X hP (q0 := 0) rfl rfl dX5_join_10 ?_
    refine lv_icmp_ge (tgt := 64) hx hb dX5_join_13 (by decide) (fun c13 => ?_) (fun c13 => ?_)
    · have hf := iT c13 hf
      refine lv_iload_n hx hb dX5_join_64 rfl (lv_at hl 1 rfl) ?_
      have hR := Option.some.inj hf
      subst hR
      exact hret _ _ _ _ _ rfl (fun _ hn => by cases hn; rfl) hP hD hS dX5_join_65
    · have hf := iF c13 hf
      refine lv_aload_n hx hb dX5_join_16 rfl (lv_at hl 0 rfl) ?_
      refine lv_iload_n hx hb dX5_join_17 rfl (lv_at hl 3 rfl) ?_
      obtain ⟨r18, hq18, hf⟩ := bS hf
      refine ro_i X hP hD hS [0, 4, 5] rfl (run_V X hP hD hS [0, 4, 5] rfl rfl (c_X5_isEnded l D cI aS ad writers year taped at_ statements hasImage isKeeping cursor forgottenWhen rowMany silent ring v3_8 _ hq18 _) lkX5_177 (by decide) (q0 := 0) rfl rfl rfl rfl (Nat.le_of_ble_eq_true rfl) hl.1 dX5_join_18) (fun H locs hP hS => ?_)
      refine lv_if_eq (tgt := 40) hx hb dX5_join_21 (by decide) (fun c21 => ?_) (fun c21 => ?_)
      · have hf := iT c21 hf
        refine lv_bipush (v := -9) hx hb dX5_join_40 (by decide) ?_
        exact w_X5_join_42 ad writers year taped at_ statements hasImage isKeeping cursor forgottenWhen rowMany kind figure style silent ring X hret _ ih v1_8 v2_8 v3_8 (-9 : Int32) _ _ _ hf (lv_sub hl [0, 1, 2, 3] rfl) hP hD hS
      · have hf := iF c21 hf
        refine lv_aload_n hx hb dX5_join_24 rfl (lv_at hl 0 rfl) ?_
        refine lv_iload_n hx hb dX5_join_25 rfl (lv_at hl 3 rfl) ?_
        obtain ⟨r26, hq26, hf⟩ := bS hf
        refine ro_i X hP hD hS [0, 3] rfl (run_V X hP hD hS [0, 3] rfl rfl (c_X5_opens l D cI aS ad writers year taped at_ statements hasImage isKeeping cursor forgottenWhen rowMany style v3_8 _ hq26 _) lkX5_165 (by decide) (q0 := 0) rfl rfl rfl rfl (Nat.le_of_ble_eq_true rfl) hl.1 dX5_join_26) (fun H locs hP hS => ?_)
        refine lv_aload_n hx hb dX5_join_29 rfl (lv_at hl 0 rfl) ?_
        refine lv_iload_n hx hb dX5_join_30 rfl (lv_at hl 3 rfl) ?_
        obtain ⟨r31, hq31, hf⟩ := bS hf
        refine ro_i X hP hD hS [0, 1, 2, 3, 4, 5] rfl (run_V X hP hD hS [0, 1, 2, 3, 4, 5] rfl rfl (c_X5_endOf l D cI aS ad writers year taped at_ statements hasImage isKeeping cursor forgottenWhen rowMany kind figure style silent ring v3_8 _ hq31 _) lkX5_171 (by decide) (q0 := 0) rfl rfl rfl rfl (Nat.le_of_ble_eq_true rfl) hl.1 dX5_join_31) (fun H locs hP hS => ?_)
        obtain ⟨r34, hq34, hf⟩ := bS hf
        refine ro_i X hP hD hS [] rfl (run_S X hP hD hS [] rfl rfl (c_X5_wayTo l D cI aS r26 r31 _ hq34 _) lkX5_155 (by decide) rfl rfl (Nat.le_of_ble_eq_true rfl) hl.1 dX5_join_34) (fun H locs hP hS => ?_)
        refine lv_goto (tgt := 42) hx hb dX5_join_37 (by decide) ?_
        exact w_X5_join_42 ad writers year taped at_ statements hasImage isKeeping cursor forgottenWhen rowMany kind figure style silent ring X hret _ ih v1_8 v2_8 v3_8 r34 _ _ _ hf (lv_sub hl [0, 1, 2, 3] rfl) hP hD hS
set_option maxHeartbeats 4000000 in
set_option maxRecDepth 100000 in
theorem c_X5_join (l : Launch) (D : va_G) (cI : ClassId) (aS : aSt) (ad : Nat → Nat) (writers : Int32) (year : Int32) (taped : Int32) (at_ : Int32) (statements : Int32) (hasImage : Int32) (isKeeping : Int32) (cursor : Int32) (forgottenWhen : Int32) (rowMany : Int32) (kind : (Nat → Int32)) (figure : (Nat → Int32)) (style : (Nat → Int32)) (silent : (Nat → Int32)) (ring : (Nat → Int32)) (R : Int32) (hf : f_X5_join writers year kind figure style silent ring = some R) : CtI l yX5_join cX5_join 5 (some .int) 3 D cI aS [.ref (ad 0)] (wd_X5_join cI ad writers year taped at_ statements hasImage isKeeping cursor forgottenWhen rowMany kind figure style silent ring) (wd_X5_join cI ad writers year taped at_ statements hasImage isKeeping cursor forgottenWhen rowMany kind figure style silent ring) R := by
  refine ctI_of (by decide) ⟨_, rfl⟩ (Nat.le_of_ble_eq_true rfl) ?_
  intro p e s m below meth c A Q ls X hret hP hD hl
  have hS : va_S A s.heap s.heap [] := va_S.rf
  have hx := X.1
  have hb := X.2.1
  have hl : lv_has ls 5 [(0, .ref (ad 0))] := hl
  replace hf : (f_X5_join_8 writers year kind figure style silent ring  FU (-9 : Int32) (-9 : Int32) (0 : Int32)) = some R := hf
  refine lv_bipush (v := -9) hx hb dX5_join_0 (by decide) ?_
  refine lv_istore_n (lv' := [(1, .int (-9 : Int32)), (0, .ref (ad 0))]) hx hb dX5_join_2 rfl hl (by decide) rfl (fun ls hl => ?_)
  refine lv_bipush (v := -9) hx hb dX5_join_3 (by decide) ?_
  refine lv_istore_n (lv' := [(2, .int (-9 : Int32)), (1, .int (-9 : Int32)), (0, .ref (ad 0))]) hx hb dX5_join_5 rfl hl (by decide) rfl (fun ls hl => ?_)
  refine lv_iconst (v := 0) hx hb dX5_join_6 (by decide) ?_
  refine lv_istore_n (lv' := [(3, .int (0 : Int32)), (2, .int (-9 : Int32)), (1, .int (-9 : Int32)), (0, .ref (ad 0))]) hx hb dX5_join_7 rfl hl (by decide) rfl (fun ls hl => ?_)
  exact w_X5_join_8 ad writers year taped at_ statements hasImage isKeeping cursor forgottenWhen rowMany kind figure style silent ring X hret  _ (-9 : Int32) (-9 : Int32) (0 : Int32) _ _ _ hf (lv_sub hl [3, 2, 1, 0] rfl) hP hD hS

abbrev wd_X5_judge (cI : ClassId) (ad : Nat → Nat) (writers : Int32) (year : Int32) (taped : Int32) (at_ : Int32) (statements : Int32) (hasImage : Int32) (isKeeping : Int32) (cursor : Int32) (forgottenWhen : Int32) (rowMany : Int32) (kind : (Nat → Int32)) (figure : (Nat → Int32)) (style : (Nat → Int32)) (silent : (Nat → Int32)) (ring : (Nat → Int32)) (row : (Nat → Int32)) : va_W := [((ad 0), .inr (5, [.ref (ad 1), .ref (ad 2), .ref (ad 3), .ref (ad 4), .ref (ad 5), .ref (ad 6), .ref (ad 7), .int writers, .int year, .ref (ad 8), .ref (ad 9), .ref (ad 10), .ref (ad 11), .int taped, .int at_, .int statements, .ref (ad 12), .int hasImage, .int isKeeping, .int cursor, .int forgottenWhen, .ref (ad 13), .ref (ad 14), .ref (ad 15), .int rowMany])), ((ad 2), .inl (cI, 7, .inl kind)), ((ad 3), .inl (cI, 7, .inl figure)), ((ad 4), .inl (cI, 7, .inl style)), ((ad 6), .inl (cI, 7, .inl silent)), ((ad 7), .inl (cI, 7, .inl ring)), ((ad 15), .inl (cI, 16, .inl row))]
def f_X5_judge_43 (row : (Nat → Int32)) (rowMany_u12 : Int32) (kL12 : Int32 → Option (Int32 × Int32)) (v2_43 : Int32) (t0_43 : Int32) : Option (Int32 × Int32) := (gd v2_43 16 (if t0_43 = (row (Int32.toNatClampNeg v2_43)) then (kL12 (v2_43 + (1 : Int32))) else (some (v2_43, rowMany_u12))))
def f_X5_judge_12 (writers : Int32) (year : Int32) (kind : (Nat → Int32)) (figure : (Nat → Int32)) (style : (Nat → Int32)) (silent : (Nat → Int32)) (ring : (Nat → Int32)) (row : (Nat → Int32)) (u1_12 : Int32) (rowMany_u12 : Int32)  : Nat → Int32 → Option (Int32 × Int32)
  | 0 => fun _ => none
  | fuel + 1 => fun v2_12 => (if u1_12 ≤ v2_12 then (some ((-9 : Int32), rowMany_u12)) else (if writers ≤ v2_12 then (some (v2_12, rowMany_u12)) else ((f_X5_isEnded writers silent ring v2_12).bind fun (r27 : Int32) => (if r27 = 0 then (f_X5_judge_43 row rowMany_u12 (f_X5_judge_12 writers year kind figure style silent ring row u1_12 rowMany_u12  fuel) v2_12 (10 : Int32)) else ((f_X5_endOf writers year kind figure style silent ring v2_12).bind fun (r35 : Int32) => (f_X5_judge_43 row rowMany_u12 (f_X5_judge_12 writers year kind figure style silent ring row u1_12 rowMany_u12  fuel) v2_12 r35))))))
theorem e_X5_judge_12 (writers : Int32) (year : Int32) (kind : (Nat → Int32)) (figure : (Nat → Int32)) (style : (Nat → Int32)) (silent : (Nat → Int32)) (ring : (Nat → Int32)) (row : (Nat → Int32)) (u1_12 : Int32) (rowMany_u12 : Int32)  (fuel : Nat) (v2_12 : Int32) : f_X5_judge_12 writers year kind figure style silent ring row u1_12 rowMany_u12  (fuel + 1) v2_12 = (if u1_12 ≤ v2_12 then (some ((-9 : Int32), rowMany_u12)) else (if writers ≤ v2_12 then (some (v2_12, rowMany_u12)) else ((f_X5_isEnded writers silent ring v2_12).bind fun (r27 : Int32) => (if r27 = 0 then (f_X5_judge_43 row rowMany_u12 (f_X5_judge_12 writers year kind figure style silent ring row u1_12 rowMany_u12  fuel) v2_12 (10 : Int32)) else ((f_X5_endOf writers year kind figure style silent ring v2_12).bind fun (r35 : Int32) => (f_X5_judge_43 row rowMany_u12 (f_X5_judge_12 writers year kind figure style silent ring row u1_12 rowMany_u12  fuel) v2_12 r35)))))) := rfl
def f_X5_judge (writers : Int32) (year : Int32) (rowMany : Int32) (kind : (Nat → Int32)) (figure : (Nat → Int32)) (style : (Nat → Int32)) (silent : (Nat → Int32)) (ring : (Nat → Int32)) (row : (Nat → Int32)) : Option (Int32 × Int32) := (f_X5_judge_12 writers year kind figure style silent ring row rowMany (0 : Int32)  FU (0 : Int32))
set_option maxHeartbeats 4000000 in
set_option maxRecDepth 100000 in
theorem w_X5_judge_43 {p : Program} {l : Launch} {e : Env} {s : State} {m : MethodId} {args : Array Value} {below : List Frame} {meth : Method} {c : Code} {D : va_G} {cI : ClassId} {aS : aSt} {A : Nat → Prop} {Q : State → Prop}  (ad : Nat → Nat) (writers : Int32) (year : Int32) (taped : Int32) (at_ : Int32) (statements : Int32) (hasImage : Int32) (isKeeping : Int32) (cursor : Int32) (forgottenWhen : Int32) (kind : (Nat → Int32)) (figure : (Nat → Int32)) (style : (Nat → Int32)) (silent : (Nat → Int32)) (ring : (Nat → Int32)) (row : (Nat → Int32)) (u1_12 : Int32) (rowMany_u12 : Int32) {R : Int32 × Int32} (X : Bx p s m args meth c cX5_judge 3 (some .int) RX5 D cI aS A) (hret : RtI p l e 3 s m args below meth c cX5_judge (some .int) D A (wd_X5_judge cI ad writers year taped at_ statements hasImage isKeeping cursor forgottenWhen R.2 kind figure style silent ring row) R.1 Q) (kL12 : Int32 → Option (Int32 × Int32)) (hkL12 : ∀ (v2_12 : Int32) (H : Heap) (locs : List Loc) (ls : Array Slot), kL12 v2_12 = some R → lv_has ls 3 [(0, .ref (ad 0)), (1, .int u1_12), (2, .int v2_12)] → va_P D vwCl (wd_X5_judge cI ad writers year taped at_ statements hasImage isKeeping cursor forgottenWhen rowMany_u12 kind figure style silent ring row) H → va_D A (wd_X5_judge cI ad writers year taped at_ statements hasImage isKeeping cursor forgottenWhen rowMany_u12 kind figure style silent ring row) → va_S A s.heap H locs → Wh p l e 3 s m args below meth c H locs Q (F0 m 12 ls [])) : ∀ (v2_43 : Int32) (t0_43 : Int32) (H : Heap) (locs : List Loc) (ls : Array Slot), f_X5_judge_43 row rowMany_u12 kL12 v2_43 t0_43 = some R → lv_has ls 3 [(0, .ref (ad 0)), (1, .int u1_12), (2, .int v2_43)] → va_P D vwCl (wd_X5_judge cI ad writers year taped at_ statements hasImage isKeeping cursor forgottenWhen rowMany_u12 kind figure style silent ring row) H → va_D A (wd_X5_judge cI ad writers year taped at_ statements hasImage isKeeping cursor forgottenWhen rowMany_u12 kind figure style silent ring row) → va_S A s.heap H locs → Wh p l e 3 s m args below meth c H locs Q (F0 m 43 ls [.int t0_43]) := by
  have hx := X.1
  have hb := X.2.1
  intro v2_43 t0_43 H locs ls hf hl hP hD hS
  replace hf : (gd v2_43 16 (if t0_43 = (row (Int32.toNatClampNeg v2_43)) then (kL12 (v2_43 + (1 : Int32))) else (some (v2_43, rowMany_u12)))) = some R := hf
  refine lv_aload_n hx hb dX5_judge_43 rfl (lv_at hl 0 rfl) ?_
  refine fgX5_52 X hP (q0 := 0) rfl rfl dX5_judge_44 ?_
  refine lv_iload_n hx hb dX5_judge_47 rfl (lv_at hl 2 rfl) ?_
  refine aGet X hP (q0 := 6) rfl (gdS hf).1 dX5_judge_48 ?_
  have hf := (gdS hf).2
  refine lv_icmp_eq (tgt := 54) hx hb dX5_judge_49 (by decide) (fun c49 => ?_) (fun c49 => ?_)
  · have hf := iT c49 hf
    refine lv_iinc (v := (v2_43 + (1 : Int32))) (lv' := [(2, .int (v2_43 + (1 : Int32))), (0, .ref (ad 0)), (1, .int u1_12)]) hx hb dX5_judge_54 hl (k := 2) rfl rfl (by decide) rfl (fun ls hl => ?_)
    refine lv_goto (tgt := 12) hx hb dX5_judge_57 (by decide) ?_
    exact hkL12 (v2_43 + (1 : Int32)) _ _ _ hf (lv_sub hl [1, 2, 0] rfl) hP hD hS
  · have hf := iF c49 hf
    refine lv_iload_n hx hb dX5_judge_52 rfl (lv_at hl 2 rfl) ?_
    have hR := Option.some.inj hf
    subst hR
    exact hret _ _ _ _ _ rfl (fun _ hn => by cases hn; rfl) hP hD hS dX5_judge_53
set_option maxHeartbeats 4000000 in
set_option maxRecDepth 100000 in
theorem w_X5_judge_12 {p : Program} {l : Launch} {e : Env} {s : State} {m : MethodId} {args : Array Value} {below : List Frame} {meth : Method} {c : Code} {D : va_G} {cI : ClassId} {aS : aSt} {A : Nat → Prop} {Q : State → Prop}  (ad : Nat → Nat) (writers : Int32) (year : Int32) (taped : Int32) (at_ : Int32) (statements : Int32) (hasImage : Int32) (isKeeping : Int32) (cursor : Int32) (forgottenWhen : Int32) (kind : (Nat → Int32)) (figure : (Nat → Int32)) (style : (Nat → Int32)) (silent : (Nat → Int32)) (ring : (Nat → Int32)) (row : (Nat → Int32)) (u1_12 : Int32) (rowMany_u12 : Int32) {R : Int32 × Int32} (X : Bx p s m args meth c cX5_judge 3 (some .int) RX5 D cI aS A) (hret : RtI p l e 3 s m args below meth c cX5_judge (some .int) D A (wd_X5_judge cI ad writers year taped at_ statements hasImage isKeeping cursor forgottenWhen R.2 kind figure style silent ring row) R.1 Q) : ∀ (fuel : Nat) (v2_12 : Int32) (H : Heap) (locs : List Loc) (ls : Array Slot), f_X5_judge_12 writers year kind figure style silent ring row u1_12 rowMany_u12  fuel v2_12 = some R → lv_has ls 3 [(0, .ref (ad 0)), (1, .int u1_12), (2, .int v2_12)] → va_P D vwCl (wd_X5_judge cI ad writers year taped at_ statements hasImage isKeeping cursor forgottenWhen rowMany_u12 kind figure style silent ring row) H → va_D A (wd_X5_judge cI ad writers year taped at_ statements hasImage isKeeping cursor forgottenWhen rowMany_u12 kind figure style silent ring row) → va_S A s.heap H locs → Wh p l e 3 s m args below meth c H locs Q (F0 m 12 ls []) := by
  have hx := X.1
  have hb := X.2.1
  intro fuel
  induction fuel with
  | zero =>
    intro v2_12 H locs ls hf hl hP hD hS
    cases hf
  | succ fuel ih =>
    intro v2_12 H locs ls hf hl hP hD hS
    replace hf : (if u1_12 ≤ v2_12 then (some ((-9 : Int32), rowMany_u12)) else (if writers ≤ v2_12 then (some (v2_12, rowMany_u12)) else ((f_X5_isEnded writers silent ring v2_12).bind fun (r27 : Int32) => (if r27 = 0 then (f_X5_judge_43 row rowMany_u12 (f_X5_judge_12 writers year kind figure style silent ring row u1_12 rowMany_u12  fuel) v2_12 (10 : Int32)) else ((f_X5_endOf writers year kind figure style silent ring v2_12).bind fun (r35 : Int32) => (f_X5_judge_43 row rowMany_u12 (f_X5_judge_12 writers year kind figure style silent ring row u1_12 rowMany_u12  fuel) v2_12 r35)))))) = some R := hf
    refine lv_iload_n hx hb dX5_judge_12 rfl (lv_at hl 2 rfl) ?_
    refine lv_iload_n hx hb dX5_judge_13 rfl (lv_at hl 1 rfl) ?_
    refine lv_icmp_ge (tgt := 60) hx hb dX5_judge_14 (by decide) (fun c14 => ?_) (fun c14 => ?_)
    · have hf := iT c14 hf
      refine lv_bipush (v := -9) hx hb dX5_judge_60 (by decide) ?_
      have hR := Option.some.inj hf
      subst hR
      exact hret _ _ _ _ _ rfl (fun _ hn => by cases hn; rfl) hP hD hS dX5_judge_62
    · have hf := iF c14 hf
      refine lv_iload_n hx hb dX5_judge_17 rfl (lv_at hl 2 rfl) ?_
      refine lv_aload_n hx hb dX5_judge_18 rfl (lv_at hl 0 rfl) ?_
      refine fgX5_55 X hP (q0 := 0) rfl rfl dX5_judge_19 ?_
      refine lv_icmp_ge (tgt := 52) hx hb dX5_judge_22 (by decide) (fun c22 => ?_) (fun c22 => ?_)
      · have hf := iT c22 hf
        refine lv_iload_n hx hb dX5_judge_52 rfl (lv_at hl 2 rfl) ?_
        have hR := Option.some.inj hf
        subst hR
        exact hret _ _ _ _ _ rfl (fun _ hn => by cases hn; rfl) hP hD hS dX5_judge_53
      · have hf := iF c22 hf
        refine lv_aload_n hx hb dX5_judge_25 rfl (lv_at hl 0 rfl) ?_
        refine lv_iload_n hx hb dX5_judge_26 rfl (lv_at hl 2 rfl) ?_
        obtain ⟨r27, hq27, hf⟩ := bS hf
        refine ro_i X hP hD hS [0, 4, 5] rfl (run_V X hP hD hS [0, 4, 5] rfl rfl (c_X5_isEnded l D cI aS ad writers year taped at_ statements hasImage isKeeping cursor forgottenWhen rowMany_u12 silent ring v2_12 _ hq27 _) lkX5_177 (by decide) (q0 := 0) rfl rfl rfl rfl (Nat.le_of_ble_eq_true rfl) hl.1 dX5_judge_27) (fun H locs hP hS => ?_)
        refine lv_if_eq (tgt := 41) hx hb dX5_judge_30 (by decide) (fun c30 => ?_) (fun c30 => ?_)
        · have hf := iT c30 hf
          refine lv_bipush (v := 10) hx hb dX5_judge_41 (by decide) ?_
          exact w_X5_judge_43 ad writers year taped at_ statements hasImage isKeeping cursor forgottenWhen kind figure style silent ring row u1_12 rowMany_u12 X hret _ ih v2_12 (10 : Int32) _ _ _ hf (lv_sub hl [0, 1, 2] rfl) hP hD hS
        · have hf := iF c30 hf
          refine lv_aload_n hx hb dX5_judge_33 rfl (lv_at hl 0 rfl) ?_
          refine lv_iload_n hx hb dX5_judge_34 rfl (lv_at hl 2 rfl) ?_
          obtain ⟨r35, hq35, hf⟩ := bS hf
          refine ro_i X hP hD hS [0, 1, 2, 3, 4, 5] rfl (run_V X hP hD hS [0, 1, 2, 3, 4, 5] rfl rfl (c_X5_endOf l D cI aS ad writers year taped at_ statements hasImage isKeeping cursor forgottenWhen rowMany_u12 kind figure style silent ring v2_12 _ hq35 _) lkX5_171 (by decide) (q0 := 0) rfl rfl rfl rfl (Nat.le_of_ble_eq_true rfl) hl.1 dX5_judge_35) (fun H locs hP hS => ?_)
          refine lv_goto (tgt := 43) hx hb dX5_judge_38 (by decide) ?_
          exact w_X5_judge_43 ad writers year taped at_ statements hasImage isKeeping cursor forgottenWhen kind figure style silent ring row u1_12 rowMany_u12 X hret _ ih v2_12 r35 _ _ _ hf (lv_sub hl [0, 1, 2] rfl) hP hD hS
set_option maxHeartbeats 4000000 in
set_option maxRecDepth 100000 in
theorem c_X5_judge (l : Launch) (D : va_G) (cI : ClassId) (aS : aSt) (ad : Nat → Nat) (writers : Int32) (year : Int32) (taped : Int32) (at_ : Int32) (statements : Int32) (hasImage : Int32) (isKeeping : Int32) (cursor : Int32) (forgottenWhen : Int32) (rowMany : Int32) (kind : (Nat → Int32)) (figure : (Nat → Int32)) (style : (Nat → Int32)) (silent : (Nat → Int32)) (ring : (Nat → Int32)) (row : (Nat → Int32)) (R : Int32 × Int32) (hf : f_X5_judge writers year rowMany kind figure style silent ring row = some R) : CtI l yX5_judge cX5_judge 3 (some .int) 3 D cI aS [.ref (ad 0)] (wd_X5_judge cI ad writers year taped at_ statements hasImage isKeeping cursor forgottenWhen rowMany kind figure style silent ring row) (wd_X5_judge cI ad writers year taped at_ statements hasImage isKeeping cursor forgottenWhen R.2 kind figure style silent ring row) R.1 := by
  refine ctI_of (by decide) ⟨_, rfl⟩ (Nat.le_of_ble_eq_true rfl) ?_
  intro p e s m below meth c A Q ls X hret hP hD hl
  have hS : va_S A s.heap s.heap [] := va_S.rf
  have hx := X.1
  have hb := X.2.1
  have hl : lv_has ls 3 [(0, .ref (ad 0))] := hl
  replace hf : (f_X5_judge_12 writers year kind figure style silent ring row rowMany (0 : Int32)  FU (0 : Int32)) = some R := hf
  refine lv_aload_n hx hb dX5_judge_0 rfl (lv_at hl 0 rfl) ?_
  refine fgX5_257 X hP (q0 := 0) rfl rfl dX5_judge_1 ?_
  refine lv_istore_n (lv' := [(1, .int rowMany), (0, .ref (ad 0))]) hx hb dX5_judge_4 rfl hl (by decide) rfl (fun ls hl => ?_)
  refine lv_aload_n hx hb dX5_judge_5 rfl (lv_at hl 1 rfl) ?_
  refine lv_iconst (v := 0) hx hb dX5_judge_6 (by decide) ?_
  refine fpX5_257 X hP hD hS (q0 := 0) (ws' := (wd_X5_judge cI ad writers year taped at_ statements hasImage isKeeping cursor forgottenWhen (0 : Int32) kind figure style silent ring row)) rfl rfl rfl (Nat.le_of_ble_eq_true rfl) rfl dX5_judge_7 (fun H locs hP hD hS => ?_)
  refine lv_iconst (v := 0) hx hb dX5_judge_10 (by decide) ?_
  refine lv_istore_n (lv' := [(2, .int (0 : Int32)), (1, .int rowMany), (0, .ref (ad 0))]) hx hb dX5_judge_11 rfl hl (by decide) rfl (fun ls hl => ?_)
  exact w_X5_judge_12 ad writers year taped at_ statements hasImage isKeeping cursor forgottenWhen kind figure style silent ring row rowMany (0 : Int32) X hret  _ (0 : Int32) _ _ _ hf (lv_sub hl [2, 1, 0] rfl) hP hD hS

abbrev wd_X5_leads (cI : ClassId) (ad : Nat → Nat) (writers : Int32) (year : Int32) (taped : Int32) (at_ : Int32) (statements : Int32) (hasImage : Int32) (isKeeping : Int32) (cursor : Int32) (forgottenWhen : Int32) (rowMany : Int32) (refused : (Nat → Int32)) (kind : (Nat → Int32)) (figure : (Nat → Int32)) (style : (Nat → Int32)) (fame : (Nat → Int32)) (silent : (Nat → Int32)) (ring : (Nat → Int32)) (kept : (Nat → Int32)) : va_W := [((ad 0), .inr (5, [.ref (ad 1), .ref (ad 2), .ref (ad 3), .ref (ad 4), .ref (ad 5), .ref (ad 6), .ref (ad 7), .int writers, .int year, .ref (ad 8), .ref (ad 9), .ref (ad 10), .ref (ad 11), .int taped, .int at_, .int statements, .ref (ad 12), .int hasImage, .int isKeeping, .int cursor, .int forgottenWhen, .ref (ad 13), .ref (ad 14), .ref (ad 15), .int rowMany])), ((ad 1), .inl (cI, 7, .inl refused)), ((ad 2), .inl (cI, 7, .inl kind)), ((ad 3), .inl (cI, 7, .inl figure)), ((ad 4), .inl (cI, 7, .inl style)), ((ad 5), .inl (cI, 7, .inl fame)), ((ad 6), .inl (cI, 7, .inl silent)), ((ad 7), .inl (cI, 7, .inl ring)), ((ad 12), .inl (cI, 132, .inl kept))]
def f_X5_leads_68  (kL33 : Int32 → Int32 → Option (Int32 × Int32 × Int32 × Int32 × Int32 × (Nat → Int32) × (Nat → Int32) × (Nat → Int32) × (Nat → Int32) × (Nat → Int32) × (Nat → Int32) × (Nat → Int32) × (Nat → Int32))) (v4_68 : Int32) (t0_68 : Int32) : Option (Int32 × Int32 × Int32 × Int32 × Int32 × (Nat → Int32) × (Nat → Int32) × (Nat → Int32) × (Nat → Int32) × (Nat → Int32) × (Nat → Int32) × (Nat → Int32) × (Nat → Int32)) := (kL33 t0_68 (v4_68 + (1 : Int32)))
def f_X5_leads_62  (kL33 : Int32 → Int32 → Option (Int32 × Int32 × Int32 × Int32 × Int32 × (Nat → Int32) × (Nat → Int32) × (Nat → Int32) × (Nat → Int32) × (Nat → Int32) × (Nat → Int32) × (Nat → Int32) × (Nat → Int32))) (v4_62 : Int32) : Option (Int32 × Int32 × Int32 × Int32 × Int32 × (Nat → Int32) × (Nat → Int32) × (Nat → Int32) × (Nat → Int32) × (Nat → Int32) × (Nat → Int32) × (Nat → Int32) × (Nat → Int32)) := (f_X5_leads_68  kL33 v4_62 v4_62)
def f_X5_leads_33 (writers_u33 : Int32) (fame_u33 : (Nat → Int32)) (kX33_75 : Int32 → Option (Int32 × Int32 × Int32 × Int32 × Int32 × (Nat → Int32) × (Nat → Int32) × (Nat → Int32) × (Nat → Int32) × (Nat → Int32) × (Nat → Int32) × (Nat → Int32) × (Nat → Int32))) : Nat → Int32 → Int32 → Option (Int32 × Int32 × Int32 × Int32 × Int32 × (Nat → Int32) × (Nat → Int32) × (Nat → Int32) × (Nat → Int32) × (Nat → Int32) × (Nat → Int32) × (Nat → Int32) × (Nat → Int32))
  | 0 => fun _ _ => none
  | fuel + 1 => fun v3_33 v4_33 => (if writers_u33 ≤ v4_33 then (kX33_75 v3_33) else (if v3_33 < 0 then (f_X5_leads_62  (f_X5_leads_33 writers_u33 fame_u33 kX33_75 fuel) v4_33) else (gd v4_33 7 (gd v3_33 7 (if (fame_u33 (Int32.toNatClampNeg v4_33)) ≤ (fame_u33 (Int32.toNatClampNeg v3_33)) then (f_X5_leads_68  (f_X5_leads_33 writers_u33 fame_u33 kX33_75 fuel) v4_33 v3_33) else (f_X5_leads_62  (f_X5_leads_33 writers_u33 fame_u33 kX33_75 fuel) v4_33))))))
theorem e_X5_leads_33 (writers_u33 : Int32) (fame_u33 : (Nat → Int32)) (kX33_75 : Int32 → Option (Int32 × Int32 × Int32 × Int32 × Int32 × (Nat → Int32) × (Nat → Int32) × (Nat → Int32) × (Nat → Int32) × (Nat → Int32) × (Nat → Int32) × (Nat → Int32) × (Nat → Int32))) (fuel : Nat) (v3_33 : Int32) (v4_33 : Int32) : f_X5_leads_33 writers_u33 fame_u33 kX33_75 (fuel + 1) v3_33 v4_33 = (if writers_u33 ≤ v4_33 then (kX33_75 v3_33) else (if v3_33 < 0 then (f_X5_leads_62  (f_X5_leads_33 writers_u33 fame_u33 kX33_75 fuel) v4_33) else (gd v4_33 7 (gd v3_33 7 (if (fame_u33 (Int32.toNatClampNeg v4_33)) ≤ (fame_u33 (Int32.toNatClampNeg v3_33)) then (f_X5_leads_68  (f_X5_leads_33 writers_u33 fame_u33 kX33_75 fuel) v4_33 v3_33) else (f_X5_leads_62  (f_X5_leads_33 writers_u33 fame_u33 kX33_75 fuel) v4_33)))))) := rfl
def f_X5_leads_75   (v3_75 : Int32) (writers_75 : Int32) (year_75 : Int32) (isKeeping_75 : Int32) (cursor_75 : Int32) (refused_75 : (Nat → Int32)) (kind_75 : (Nat → Int32)) (figure_75 : (Nat → Int32)) (style_75 : (Nat → Int32)) (fame_75 : (Nat → Int32)) (silent_75 : (Nat → Int32)) (ring_75 : (Nat → Int32)) (kept_75 : (Nat → Int32)) : Option (Int32 × Int32 × Int32 × Int32 × Int32 × (Nat → Int32) × (Nat → Int32) × (Nat → Int32) × (Nat → Int32) × (Nat → Int32) × (Nat → Int32) × (Nat → Int32) × (Nat → Int32)) := ((f_X5_forgets writers_75 year_75 isKeeping_75 cursor_75 kind_75 figure_75 style_75 fame_75 silent_75 ring_75 kept_75).bind fun (r76 : Int32 × Int32 × Int32 × Int32 × (Nat → Int32) × (Nat → Int32) × (Nat → Int32) × (Nat → Int32) × (Nat → Int32) × (Nat → Int32) × (Nat → Int32)) => (some (v3_75, r76.1, r76.2.1, r76.2.2.1, r76.2.2.2.1, refused_75, r76.2.2.2.2.1, r76.2.2.2.2.2.1, r76.2.2.2.2.2.2.1, r76.2.2.2.2.2.2.2.1, r76.2.2.2.2.2.2.2.2.1, r76.2.2.2.2.2.2.2.2.2.1, r76.2.2.2.2.2.2.2.2.2.2)))
def f_X5_leads (writers : Int32) (year : Int32) (isKeeping : Int32) (cursor : Int32) (refused : (Nat → Int32)) (kind : (Nat → Int32)) (figure : (Nat → Int32)) (style : (Nat → Int32)) (fame : (Nat → Int32)) (silent : (Nat → Int32)) (ring : (Nat → Int32)) (kept : (Nat → Int32)) (x1 : Int32) : Option (Int32 × Int32 × Int32 × Int32 × Int32 × (Nat → Int32) × (Nat → Int32) × (Nat → Int32) × (Nat → Int32) × (Nat → Int32) × (Nat → Int32) × (Nat → Int32) × (Nat → Int32)) := ((f_X5_bound x1 (0 : Int32) (60 : Int32)).bind fun (r4 : Int32) => (if r4 = 0 then ((f_X5_thinks writers year isKeeping cursor kind figure style fame silent ring kept).bind fun (r19 : Int32 × Int32 × Int32 × Int32 × (Nat → Int32) × (Nat → Int32) × (Nat → Int32) × (Nat → Int32) × (Nat → Int32) × (Nat → Int32) × (Nat → Int32)) => ((f_X5_goes r19.1 r19.2.1 r19.2.2.2.2.1 r19.2.2.2.2.2.1 r19.2.2.2.2.2.2.1 r19.2.2.2.2.2.2.2.1 r19.2.2.2.2.2.2.2.2.1 r19.2.2.2.2.2.2.2.2.2.1 x1).bind fun (r24 : Int32 × (Nat → Int32)) => (f_X5_leads_33 r19.1 r24.2 (fun (v3_75 : Int32) => (f_X5_leads_75   v3_75 r19.1 r24.1 r19.2.2.1 r19.2.2.2.1 refused r19.2.2.2.2.1 r19.2.2.2.2.2.1 r19.2.2.2.2.2.2.1 r24.2 r19.2.2.2.2.2.2.2.2.1 r19.2.2.2.2.2.2.2.2.2.1 r19.2.2.2.2.2.2.2.2.2.2)) FU (-9 : Int32) (0 : Int32)))) else ((f_X5_no refused r4).bind fun (r14 : Int32 × (Nat → Int32)) => (some (r14.1, writers, year, isKeeping, cursor, r14.2, kind, figure, style, fame, silent, ring, kept)))))
set_option maxHeartbeats 4000000 in
set_option maxRecDepth 100000 in
theorem w_X5_leads_68 {p : Program} {l : Launch} {e : Env} {s : State} {m : MethodId} {args : Array Value} {below : List Frame} {meth : Method} {c : Code} {D : va_G} {cI : ClassId} {aS : aSt} {A : Nat → Prop} {Q : State → Prop}  (ad : Nat → Nat) (taped : Int32) (at_ : Int32) (statements : Int32) (hasImage : Int32) (forgottenWhen : Int32) (rowMany : Int32) (x1 : Int32) (writers_u33 : Int32) (year_u33 : Int32) (isKeeping_u33 : Int32) (cursor_u33 : Int32) (refused_u33 : (Nat → Int32)) (kind_u33 : (Nat → Int32)) (figure_u33 : (Nat → Int32)) (style_u33 : (Nat → Int32)) (fame_u33 : (Nat → Int32)) (silent_u33 : (Nat → Int32)) (ring_u33 : (Nat → Int32)) (kept_u33 : (Nat → Int32)) {R : Int32 × Int32 × Int32 × Int32 × Int32 × (Nat → Int32) × (Nat → Int32) × (Nat → Int32) × (Nat → Int32) × (Nat → Int32) × (Nat → Int32) × (Nat → Int32) × (Nat → Int32)} (X : Bx p s m args meth c cX5_leads 5 (some .int) RX5 D cI aS A) (hret : RtI p l e 6 s m args below meth c cX5_leads (some .int) D A (wd_X5_leads cI ad R.2.1 R.2.2.1 taped at_ statements hasImage R.2.2.2.1 R.2.2.2.2.1 forgottenWhen rowMany R.2.2.2.2.2.1 R.2.2.2.2.2.2.1 R.2.2.2.2.2.2.2.1 R.2.2.2.2.2.2.2.2.1 R.2.2.2.2.2.2.2.2.2.1 R.2.2.2.2.2.2.2.2.2.2.1 R.2.2.2.2.2.2.2.2.2.2.2.1 R.2.2.2.2.2.2.2.2.2.2.2.2) R.1 Q) (kL33 : Int32 → Int32 → Option (Int32 × Int32 × Int32 × Int32 × Int32 × (Nat → Int32) × (Nat → Int32) × (Nat → Int32) × (Nat → Int32) × (Nat → Int32) × (Nat → Int32) × (Nat → Int32) × (Nat → Int32))) (hkL33 : ∀ (v3_33 : Int32) (v4_33 : Int32) (H : Heap) (locs : List Loc) (ls : Array Slot), kL33 v3_33 v4_33 = some R → lv_has ls 5 [(0, .ref (ad 0)), (3, .int v3_33), (4, .int v4_33)] → va_P D vwCl (wd_X5_leads cI ad writers_u33 year_u33 taped at_ statements hasImage isKeeping_u33 cursor_u33 forgottenWhen rowMany refused_u33 kind_u33 figure_u33 style_u33 fame_u33 silent_u33 ring_u33 kept_u33) H → va_D A (wd_X5_leads cI ad writers_u33 year_u33 taped at_ statements hasImage isKeeping_u33 cursor_u33 forgottenWhen rowMany refused_u33 kind_u33 figure_u33 style_u33 fame_u33 silent_u33 ring_u33 kept_u33) → va_S A s.heap H locs → Wh p l e 6 s m args below meth c H locs Q (F0 m 33 ls [])) : ∀ (v4_68 : Int32) (t0_68 : Int32) (H : Heap) (locs : List Loc) (ls : Array Slot), f_X5_leads_68  kL33 v4_68 t0_68 = some R → lv_has ls 5 [(0, .ref (ad 0)), (4, .int v4_68)] → va_P D vwCl (wd_X5_leads cI ad writers_u33 year_u33 taped at_ statements hasImage isKeeping_u33 cursor_u33 forgottenWhen rowMany refused_u33 kind_u33 figure_u33 style_u33 fame_u33 silent_u33 ring_u33 kept_u33) H → va_D A (wd_X5_leads cI ad writers_u33 year_u33 taped at_ statements hasImage isKeeping_u33 cursor_u33 forgottenWhen rowMany refused_u33 kind_u33 figure_u33 style_u33 fame_u33 silent_u33 ring_u33 kept_u33) → va_S A s.heap H locs → Wh p l e 6 s m args below meth c H locs Q (F0 m 68 ls [.int t0_68]) := by
  have hx := X.1
  have hb := X.2.1
  intro v4_68 t0_68 H locs ls hf hl hP hD hS
  replace hf : (kL33 t0_68 (v4_68 + (1 : Int32))) = some R := hf
  refine lv_istore_n (lv' := [(3, .int t0_68), (0, .ref (ad 0)), (4, .int v4_68)]) hx hb dX5_leads_68 rfl hl (by decide) rfl (fun ls hl => ?_)
  refine lv_iinc (v := (v4_68 + (1 : Int32))) (lv' := [(4, .int (v4_68 + (1 : Int32))), (3, .int t0_68), (0, .ref (ad 0))]) hx hb dX5_leads_69 hl (k := 2) rfl rfl (by decide) rfl (fun ls hl => ?_)
  refine lv_goto (tgt := 33) hx hb dX5_leads_72 (by decide) ?_
  exact hkL33 t0_68 (v4_68 + (1 : Int32)) _ _ _ hf (lv_sub hl [2, 1, 0] rfl) hP hD hS
set_option maxHeartbeats 4000000 in
set_option maxRecDepth 100000 in
theorem w_X5_leads_62 {p : Program} {l : Launch} {e : Env} {s : State} {m : MethodId} {args : Array Value} {below : List Frame} {meth : Method} {c : Code} {D : va_G} {cI : ClassId} {aS : aSt} {A : Nat → Prop} {Q : State → Prop}  (ad : Nat → Nat) (taped : Int32) (at_ : Int32) (statements : Int32) (hasImage : Int32) (forgottenWhen : Int32) (rowMany : Int32) (x1 : Int32) (writers_u33 : Int32) (year_u33 : Int32) (isKeeping_u33 : Int32) (cursor_u33 : Int32) (refused_u33 : (Nat → Int32)) (kind_u33 : (Nat → Int32)) (figure_u33 : (Nat → Int32)) (style_u33 : (Nat → Int32)) (fame_u33 : (Nat → Int32)) (silent_u33 : (Nat → Int32)) (ring_u33 : (Nat → Int32)) (kept_u33 : (Nat → Int32)) {R : Int32 × Int32 × Int32 × Int32 × Int32 × (Nat → Int32) × (Nat → Int32) × (Nat → Int32) × (Nat → Int32) × (Nat → Int32) × (Nat → Int32) × (Nat → Int32) × (Nat → Int32)} (X : Bx p s m args meth c cX5_leads 5 (some .int) RX5 D cI aS A) (hret : RtI p l e 6 s m args below meth c cX5_leads (some .int) D A (wd_X5_leads cI ad R.2.1 R.2.2.1 taped at_ statements hasImage R.2.2.2.1 R.2.2.2.2.1 forgottenWhen rowMany R.2.2.2.2.2.1 R.2.2.2.2.2.2.1 R.2.2.2.2.2.2.2.1 R.2.2.2.2.2.2.2.2.1 R.2.2.2.2.2.2.2.2.2.1 R.2.2.2.2.2.2.2.2.2.2.1 R.2.2.2.2.2.2.2.2.2.2.2.1 R.2.2.2.2.2.2.2.2.2.2.2.2) R.1 Q) (kL33 : Int32 → Int32 → Option (Int32 × Int32 × Int32 × Int32 × Int32 × (Nat → Int32) × (Nat → Int32) × (Nat → Int32) × (Nat → Int32) × (Nat → Int32) × (Nat → Int32) × (Nat → Int32) × (Nat → Int32))) (hkL33 : ∀ (v3_33 : Int32) (v4_33 : Int32) (H : Heap) (locs : List Loc) (ls : Array Slot), kL33 v3_33 v4_33 = some R → lv_has ls 5 [(0, .ref (ad 0)), (3, .int v3_33), (4, .int v4_33)] → va_P D vwCl (wd_X5_leads cI ad writers_u33 year_u33 taped at_ statements hasImage isKeeping_u33 cursor_u33 forgottenWhen rowMany refused_u33 kind_u33 figure_u33 style_u33 fame_u33 silent_u33 ring_u33 kept_u33) H → va_D A (wd_X5_leads cI ad writers_u33 year_u33 taped at_ statements hasImage isKeeping_u33 cursor_u33 forgottenWhen rowMany refused_u33 kind_u33 figure_u33 style_u33 fame_u33 silent_u33 ring_u33 kept_u33) → va_S A s.heap H locs → Wh p l e 6 s m args below meth c H locs Q (F0 m 33 ls [])) : ∀ (v4_62 : Int32) (H : Heap) (locs : List Loc) (ls : Array Slot), f_X5_leads_62  kL33 v4_62 = some R → lv_has ls 5 [(0, .ref (ad 0)), (4, .int v4_62)] → va_P D vwCl (wd_X5_leads cI ad writers_u33 year_u33 taped at_ statements hasImage isKeeping_u33 cursor_u33 forgottenWhen rowMany refused_u33 kind_u33 figure_u33 style_u33 fame_u33 silent_u33 ring_u33 kept_u33) H → va_D A (wd_X5_leads cI ad writers_u33 year_u33 taped at_ statements hasImage isKeeping_u33 cursor_u33 forgottenWhen rowMany refused_u33 kind_u33 figure_u33 style_u33 fame_u33 silent_u33 ring_u33 kept_u33) → va_S A s.heap H locs → Wh p l e 6 s m args below meth c H locs Q (F0 m 62 ls []) := by
  have hx := X.1
  have hb := X.2.1
  intro v4_62 H locs ls hf hl hP hD hS
  replace hf : (f_X5_leads_68  kL33 v4_62 v4_62) = some R := hf
  refine lv_iload hx hb dX5_leads_62 (lv_at hl 1 rfl) ?_
  refine lv_goto (tgt := 68) hx hb dX5_leads_64 (by decide) ?_
  exact w_X5_leads_68 ad taped at_ statements hasImage forgottenWhen rowMany x1 writers_u33 year_u33 isKeeping_u33 cursor_u33 refused_u33 kind_u33 figure_u33 style_u33 fame_u33 silent_u33 ring_u33 kept_u33 X hret _ hkL33 v4_62 v4_62 _ _ _ hf (lv_sub hl [0, 1] rfl) hP hD hS
set_option maxHeartbeats 4000000 in
set_option maxRecDepth 100000 in
theorem w_X5_leads_33 {p : Program} {l : Launch} {e : Env} {s : State} {m : MethodId} {args : Array Value} {below : List Frame} {meth : Method} {c : Code} {D : va_G} {cI : ClassId} {aS : aSt} {A : Nat → Prop} {Q : State → Prop}  (ad : Nat → Nat) (taped : Int32) (at_ : Int32) (statements : Int32) (hasImage : Int32) (forgottenWhen : Int32) (rowMany : Int32) (x1 : Int32) (writers_u33 : Int32) (year_u33 : Int32) (isKeeping_u33 : Int32) (cursor_u33 : Int32) (refused_u33 : (Nat → Int32)) (kind_u33 : (Nat → Int32)) (figure_u33 : (Nat → Int32)) (style_u33 : (Nat → Int32)) (fame_u33 : (Nat → Int32)) (silent_u33 : (Nat → Int32)) (ring_u33 : (Nat → Int32)) (kept_u33 : (Nat → Int32)) {R : Int32 × Int32 × Int32 × Int32 × Int32 × (Nat → Int32) × (Nat → Int32) × (Nat → Int32) × (Nat → Int32) × (Nat → Int32) × (Nat → Int32) × (Nat → Int32) × (Nat → Int32)} (X : Bx p s m args meth c cX5_leads 5 (some .int) RX5 D cI aS A) (hret : RtI p l e 6 s m args below meth c cX5_leads (some .int) D A (wd_X5_leads cI ad R.2.1 R.2.2.1 taped at_ statements hasImage R.2.2.2.1 R.2.2.2.2.1 forgottenWhen rowMany R.2.2.2.2.2.1 R.2.2.2.2.2.2.1 R.2.2.2.2.2.2.2.1 R.2.2.2.2.2.2.2.2.1 R.2.2.2.2.2.2.2.2.2.1 R.2.2.2.2.2.2.2.2.2.2.1 R.2.2.2.2.2.2.2.2.2.2.2.1 R.2.2.2.2.2.2.2.2.2.2.2.2) R.1 Q) (kX33_75 : Int32 → Option (Int32 × Int32 × Int32 × Int32 × Int32 × (Nat → Int32) × (Nat → Int32) × (Nat → Int32) × (Nat → Int32) × (Nat → Int32) × (Nat → Int32) × (Nat → Int32) × (Nat → Int32))) (hkX33_75 : ∀ (v3_75 : Int32) (H : Heap) (locs : List Loc) (ls : Array Slot), kX33_75 v3_75 = some R → lv_has ls 5 [(0, .ref (ad 0)), (3, .int v3_75)] → va_P D vwCl (wd_X5_leads cI ad writers_u33 year_u33 taped at_ statements hasImage isKeeping_u33 cursor_u33 forgottenWhen rowMany refused_u33 kind_u33 figure_u33 style_u33 fame_u33 silent_u33 ring_u33 kept_u33) H → va_D A (wd_X5_leads cI ad writers_u33 year_u33 taped at_ statements hasImage isKeeping_u33 cursor_u33 forgottenWhen rowMany refused_u33 kind_u33 figure_u33 style_u33 fame_u33 silent_u33 ring_u33 kept_u33) → va_S A s.heap H locs → Wh p l e 6 s m args below meth c H locs Q (F0 m 75 ls [])) : ∀ (fuel : Nat) (v3_33 : Int32) (v4_33 : Int32) (H : Heap) (locs : List Loc) (ls : Array Slot), f_X5_leads_33 writers_u33 fame_u33 kX33_75 fuel v3_33 v4_33 = some R → lv_has ls 5 [(0, .ref (ad 0)), (3, .int v3_33), (4, .int v4_33)] → va_P D vwCl (wd_X5_leads cI ad writers_u33 year_u33 taped at_ statements hasImage isKeeping_u33 cursor_u33 forgottenWhen rowMany refused_u33 kind_u33 figure_u33 style_u33 fame_u33 silent_u33 ring_u33 kept_u33) H → va_D A (wd_X5_leads cI ad writers_u33 year_u33 taped at_ statements hasImage isKeeping_u33 cursor_u33 forgottenWhen rowMany refused_u33 kind_u33 figure_u33 style_u33 fame_u33 silent_u33 ring_u33 kept_u33) → va_S A s.heap H locs → Wh p l e 6 s m args below meth c H locs Q (F0 m 33 ls []) := by
  have hx := X.1
  have hb := X.2.1
  intro fuel
  induction fuel with
  | zero =>
    intro v3_33 v4_33 H locs ls hf hl hP hD hS
    cases hf
  | succ fuel ih =>
    intro v3_33 v4_33 H locs ls hf hl hP hD hS
    replace hf : (if writers_u33 ≤ v4_33 then (kX33_75 v3_33) else (if v3_33 < 0 then (f_X5_leads_62  (f_X5_leads_33 writers_u33 fame_u33 kX33_75 fuel) v4_33) else (gd v4_33 7 (gd v3_33 7 (if (fame_u33 (Int32.toNatClampNeg v4_33)) ≤ (fame_u33 (Int32.toNatClampNeg v3_33)) then (f_X5_leads_68  (f_X5_leads_33 writers_u33 fame_u33 kX33_75 fuel) v4_33 v3_33) else (f_X5_leads_62  (f_X5_leads_33 writers_u33 fame_u33 kX33_75 fuel) v4_33)))))) = some R := hf
    refine lv_iload hx hb dX5_leads_33 (lv_at hl 2 rfl) ?_
    refine lv_aload_n hx hb dX5_leads_35 rfl (lv_at hl 0 rfl) ?_
    refine fgX5_55 X hP (q0 := 0) rfl rfl dX5_leads_36 ?_
    refine lv_icmp_ge (tgt := 75) hx hb dX5_leads_39 (by decide) (fun c39 => ?_) (fun c39 => ?_)
    · have hf := iT c39 hf
      exact hkX33_75 v3_33 _ _ _ hf (lv_sub hl [0, 1] rfl) hP hD hS
    · have hf := iF c39 hf
      refine lv_iload_n hx hb dX5_leads_42 rfl (lv_at hl 1 rfl) ?_
      refine lv_if_lt (tgt := 62) hx hb dX5_leads_43 (by decide) (fun c43 => ?_) (fun c43 => ?_)
      · have hf := iT c43 hf
        exact w_X5_leads_62 ad taped at_ statements hasImage forgottenWhen rowMany x1 writers_u33 year_u33 isKeeping_u33 cursor_u33 refused_u33 kind_u33 figure_u33 style_u33 fame_u33 silent_u33 ring_u33 kept_u33 X hret _ ih v4_33 _ _ _ hf (lv_sub hl [0, 2] rfl) hP hD hS
      · have hf := iF c43 hf
        refine lv_aload_n hx hb dX5_leads_46 rfl (lv_at hl 0 rfl) ?_
        refine fgX5_22 X hP (q0 := 0) rfl rfl dX5_leads_47 ?_
        refine lv_iload hx hb dX5_leads_50 (lv_at hl 2 rfl) ?_
        refine aGet X hP (q0 := 5) rfl (gdS hf).1 dX5_leads_52 ?_
        have hf := (gdS hf).2
        refine lv_aload_n hx hb dX5_leads_53 rfl (lv_at hl 0 rfl) ?_
        refine fgX5_22 X hP (q0 := 0) rfl rfl dX5_leads_54 ?_
        refine lv_iload_n hx hb dX5_leads_57 rfl (lv_at hl 1 rfl) ?_
        refine aGet X hP (q0 := 5) rfl (gdS hf).1 dX5_leads_58 ?_
        have hf := (gdS hf).2
        refine lv_icmp_le (tgt := 67) hx hb dX5_leads_59 (by decide) (fun c59 => ?_) (fun c59 => ?_)
        · have hf := iT c59 hf
          refine lv_iload_n hx hb dX5_leads_67 rfl (lv_at hl 1 rfl) ?_
          exact w_X5_leads_68 ad taped at_ statements hasImage forgottenWhen rowMany x1 writers_u33 year_u33 isKeeping_u33 cursor_u33 refused_u33 kind_u33 figure_u33 style_u33 fame_u33 silent_u33 ring_u33 kept_u33 X hret _ ih v4_33 v3_33 _ _ _ hf (lv_sub hl [0, 2] rfl) hP hD hS
        · have hf := iF c59 hf
          exact w_X5_leads_62 ad taped at_ statements hasImage forgottenWhen rowMany x1 writers_u33 year_u33 isKeeping_u33 cursor_u33 refused_u33 kind_u33 figure_u33 style_u33 fame_u33 silent_u33 ring_u33 kept_u33 X hret _ ih v4_33 _ _ _ hf (lv_sub hl [0, 2] rfl) hP hD hS
set_option maxHeartbeats 4000000 in
set_option maxRecDepth 100000 in
theorem w_X5_leads_75 {p : Program} {l : Launch} {e : Env} {s : State} {m : MethodId} {args : Array Value} {below : List Frame} {meth : Method} {c : Code} {D : va_G} {cI : ClassId} {aS : aSt} {A : Nat → Prop} {Q : State → Prop}  (ad : Nat → Nat) (taped : Int32) (at_ : Int32) (statements : Int32) (hasImage : Int32) (forgottenWhen : Int32) (rowMany : Int32) (x1 : Int32) {R : Int32 × Int32 × Int32 × Int32 × Int32 × (Nat → Int32) × (Nat → Int32) × (Nat → Int32) × (Nat → Int32) × (Nat → Int32) × (Nat → Int32) × (Nat → Int32) × (Nat → Int32)} (X : Bx p s m args meth c cX5_leads 5 (some .int) RX5 D cI aS A) (hret : RtI p l e 6 s m args below meth c cX5_leads (some .int) D A (wd_X5_leads cI ad R.2.1 R.2.2.1 taped at_ statements hasImage R.2.2.2.1 R.2.2.2.2.1 forgottenWhen rowMany R.2.2.2.2.2.1 R.2.2.2.2.2.2.1 R.2.2.2.2.2.2.2.1 R.2.2.2.2.2.2.2.2.1 R.2.2.2.2.2.2.2.2.2.1 R.2.2.2.2.2.2.2.2.2.2.1 R.2.2.2.2.2.2.2.2.2.2.2.1 R.2.2.2.2.2.2.2.2.2.2.2.2) R.1 Q) : ∀ (v3_75 : Int32) (writers_75 : Int32) (year_75 : Int32) (isKeeping_75 : Int32) (cursor_75 : Int32) (refused_75 : (Nat → Int32)) (kind_75 : (Nat → Int32)) (figure_75 : (Nat → Int32)) (style_75 : (Nat → Int32)) (fame_75 : (Nat → Int32)) (silent_75 : (Nat → Int32)) (ring_75 : (Nat → Int32)) (kept_75 : (Nat → Int32)) (H : Heap) (locs : List Loc) (ls : Array Slot), f_X5_leads_75   v3_75 writers_75 year_75 isKeeping_75 cursor_75 refused_75 kind_75 figure_75 style_75 fame_75 silent_75 ring_75 kept_75 = some R → lv_has ls 5 [(0, .ref (ad 0)), (3, .int v3_75)] → va_P D vwCl (wd_X5_leads cI ad writers_75 year_75 taped at_ statements hasImage isKeeping_75 cursor_75 forgottenWhen rowMany refused_75 kind_75 figure_75 style_75 fame_75 silent_75 ring_75 kept_75) H → va_D A (wd_X5_leads cI ad writers_75 year_75 taped at_ statements hasImage isKeeping_75 cursor_75 forgottenWhen rowMany refused_75 kind_75 figure_75 style_75 fame_75 silent_75 ring_75 kept_75) → va_S A s.heap H locs → Wh p l e 6 s m args below meth c H locs Q (F0 m 75 ls []) := by
  have hx := X.1
  have hb := X.2.1
  intro v3_75 writers_75 year_75 isKeeping_75 cursor_75 refused_75 kind_75 figure_75 style_75 fame_75 silent_75 ring_75 kept_75 H locs ls hf hl hP hD hS
  replace hf : ((f_X5_forgets writers_75 year_75 isKeeping_75 cursor_75 kind_75 figure_75 style_75 fame_75 silent_75 ring_75 kept_75).bind fun (r76 : Int32 × Int32 × Int32 × Int32 × (Nat → Int32) × (Nat → Int32) × (Nat → Int32) × (Nat → Int32) × (Nat → Int32) × (Nat → Int32) × (Nat → Int32)) => (some (v3_75, r76.1, r76.2.1, r76.2.2.1, r76.2.2.2.1, refused_75, r76.2.2.2.2.1, r76.2.2.2.2.2.1, r76.2.2.2.2.2.2.1, r76.2.2.2.2.2.2.2.1, r76.2.2.2.2.2.2.2.2.1, r76.2.2.2.2.2.2.2.2.2.1, r76.2.2.2.2.2.2.2.2.2.2))) = some R := hf
  refine lv_aload_n hx hb dX5_leads_75 rfl (lv_at hl 0 rfl) ?_
  obtain ⟨r76, hq76, hf⟩ := bS hf
  refine wr_v X hP hD hS [0, 2, 3, 4, 5, 6, 7, 8] rfl (ws' := (wd_X5_leads cI ad r76.1 r76.2.1 taped at_ statements hasImage r76.2.2.1 r76.2.2.2.1 forgottenWhen rowMany refused_75 r76.2.2.2.2.1 r76.2.2.2.2.2.1 r76.2.2.2.2.2.2.1 r76.2.2.2.2.2.2.2.1 r76.2.2.2.2.2.2.2.2.1 r76.2.2.2.2.2.2.2.2.2.1 r76.2.2.2.2.2.2.2.2.2.2)) (Nat.le_of_ble_eq_true rfl) rfl rfl (run_V X hP hD hS [0, 2, 3, 4, 5, 6, 7, 8] rfl rfl (c_X5_forgets l D cI aS ad writers_75 year_75 taped at_ statements hasImage isKeeping_75 cursor_75 forgottenWhen rowMany kind_75 figure_75 style_75 fame_75 silent_75 ring_75 kept_75 _ hq76 _) lkX5_203 (by decide) (q0 := 0) rfl rfl rfl rfl (Nat.le_of_ble_eq_true rfl) hl.1 dX5_leads_76) (fun H locs hP hD hS => ?_)
  refine lv_iload_n hx hb dX5_leads_79 rfl (lv_at hl 1 rfl) ?_
  have hR := Option.some.inj hf
  subst hR
  exact hret _ _ _ _ _ rfl (fun _ hn => by cases hn; rfl) hP hD hS dX5_leads_80
set_option maxHeartbeats 4000000 in
set_option maxRecDepth 100000 in
theorem c_X5_leads (l : Launch) (D : va_G) (cI : ClassId) (aS : aSt) (ad : Nat → Nat) (writers : Int32) (year : Int32) (taped : Int32) (at_ : Int32) (statements : Int32) (hasImage : Int32) (isKeeping : Int32) (cursor : Int32) (forgottenWhen : Int32) (rowMany : Int32) (refused : (Nat → Int32)) (kind : (Nat → Int32)) (figure : (Nat → Int32)) (style : (Nat → Int32)) (fame : (Nat → Int32)) (silent : (Nat → Int32)) (ring : (Nat → Int32)) (kept : (Nat → Int32)) (x1 : Int32) (R : Int32 × Int32 × Int32 × Int32 × Int32 × (Nat → Int32) × (Nat → Int32) × (Nat → Int32) × (Nat → Int32) × (Nat → Int32) × (Nat → Int32) × (Nat → Int32) × (Nat → Int32)) (hf : f_X5_leads writers year isKeeping cursor refused kind figure style fame silent ring kept x1 = some R) : CtI l yX5_leads cX5_leads 5 (some .int) 6 D cI aS [.ref (ad 0), .int x1] (wd_X5_leads cI ad writers year taped at_ statements hasImage isKeeping cursor forgottenWhen rowMany refused kind figure style fame silent ring kept) (wd_X5_leads cI ad R.2.1 R.2.2.1 taped at_ statements hasImage R.2.2.2.1 R.2.2.2.2.1 forgottenWhen rowMany R.2.2.2.2.2.1 R.2.2.2.2.2.2.1 R.2.2.2.2.2.2.2.1 R.2.2.2.2.2.2.2.2.1 R.2.2.2.2.2.2.2.2.2.1 R.2.2.2.2.2.2.2.2.2.2.1 R.2.2.2.2.2.2.2.2.2.2.2.1 R.2.2.2.2.2.2.2.2.2.2.2.2) R.1 := by
  refine ctI_of (by decide) ⟨_, rfl⟩ (Nat.le_of_ble_eq_true rfl) ?_
  intro p e s m below meth c A Q ls X hret hP hD hl
  have hS : va_S A s.heap s.heap [] := va_S.rf
  have hx := X.1
  have hb := X.2.1
  have hl : lv_has ls 5 [(0, .ref (ad 0)), (1, .int x1)] := hl
  replace hf : ((f_X5_bound x1 (0 : Int32) (60 : Int32)).bind fun (r4 : Int32) => (if r4 = 0 then ((f_X5_thinks writers year isKeeping cursor kind figure style fame silent ring kept).bind fun (r19 : Int32 × Int32 × Int32 × Int32 × (Nat → Int32) × (Nat → Int32) × (Nat → Int32) × (Nat → Int32) × (Nat → Int32) × (Nat → Int32) × (Nat → Int32)) => ((f_X5_goes r19.1 r19.2.1 r19.2.2.2.2.1 r19.2.2.2.2.2.1 r19.2.2.2.2.2.2.1 r19.2.2.2.2.2.2.2.1 r19.2.2.2.2.2.2.2.2.1 r19.2.2.2.2.2.2.2.2.2.1 x1).bind fun (r24 : Int32 × (Nat → Int32)) => (f_X5_leads_33 r19.1 r24.2 (fun (v3_75 : Int32) => (f_X5_leads_75   v3_75 r19.1 r24.1 r19.2.2.1 r19.2.2.2.1 refused r19.2.2.2.2.1 r19.2.2.2.2.2.1 r19.2.2.2.2.2.2.1 r24.2 r19.2.2.2.2.2.2.2.2.1 r19.2.2.2.2.2.2.2.2.2.1 r19.2.2.2.2.2.2.2.2.2.2)) FU (-9 : Int32) (0 : Int32)))) else ((f_X5_no refused r4).bind fun (r14 : Int32 × (Nat → Int32)) => (some (r14.1, writers, year, isKeeping, cursor, r14.2, kind, figure, style, fame, silent, ring, kept))))) = some R := hf
  refine lv_iload_n hx hb dX5_leads_0 rfl (lv_at hl 1 rfl) ?_
  refine lv_iconst (v := 0) hx hb dX5_leads_1 (by decide) ?_
  refine lv_bipush (v := 60) hx hb dX5_leads_2 (by decide) ?_
  obtain ⟨r4, hq4, hf⟩ := bS hf
  refine ro_i X hP hD hS [] rfl (run_S X hP hD hS [] rfl rfl (c_X5_bound l D cI aS x1 (0 : Int32) (60 : Int32) _ hq4 _) lkX5_62 (by decide) rfl rfl (Nat.le_of_ble_eq_true rfl) hl.1 dX5_leads_4) (fun H locs hP hS => ?_)
  refine lv_istore_n (lv' := [(2, .int r4), (0, .ref (ad 0)), (1, .int x1)]) hx hb dX5_leads_7 rfl hl (by decide) rfl (fun ls hl => ?_)
  refine lv_iload_n hx hb dX5_leads_8 rfl (lv_at hl 0 rfl) ?_
  refine lv_if_eq (tgt := 18) hx hb dX5_leads_9 (by decide) (fun c9 => ?_) (fun c9 => ?_)
  · have hf := iT c9 hf
    refine lv_aload_n hx hb dX5_leads_18 rfl (lv_at hl 1 rfl) ?_
    obtain ⟨r19, hq19, hf⟩ := bS hf
    refine wr_v X hP hD hS [0, 2, 3, 4, 5, 6, 7, 8] rfl (ws' := (wd_X5_leads cI ad r19.1 r19.2.1 taped at_ statements hasImage r19.2.2.1 r19.2.2.2.1 forgottenWhen rowMany refused r19.2.2.2.2.1 r19.2.2.2.2.2.1 r19.2.2.2.2.2.2.1 r19.2.2.2.2.2.2.2.1 r19.2.2.2.2.2.2.2.2.1 r19.2.2.2.2.2.2.2.2.2.1 r19.2.2.2.2.2.2.2.2.2.2)) (Nat.le_of_ble_eq_true rfl) rfl rfl (run_V X hP hD hS [0, 2, 3, 4, 5, 6, 7, 8] rfl rfl (c_X5_thinks l D cI aS ad writers year taped at_ statements hasImage isKeeping cursor forgottenWhen rowMany kind figure style fame silent ring kept _ hq19 _) lkX5_200 (by decide) (q0 := 0) rfl rfl rfl rfl (Nat.le_of_ble_eq_true rfl) hl.1 dX5_leads_19) (fun H locs hP hD hS => ?_)
    refine lv_aload_n hx hb dX5_leads_22 rfl (lv_at hl 1 rfl) ?_
    refine lv_iload_n hx hb dX5_leads_23 rfl (lv_at hl 2 rfl) ?_
    obtain ⟨r24, hq24, hf⟩ := bS hf
    refine wr_v X hP hD hS [0, 2, 3, 4, 5, 6, 7] rfl (ws' := (wd_X5_leads cI ad r19.1 r24.1 taped at_ statements hasImage r19.2.2.1 r19.2.2.2.1 forgottenWhen rowMany refused r19.2.2.2.2.1 r19.2.2.2.2.2.1 r19.2.2.2.2.2.2.1 r24.2 r19.2.2.2.2.2.2.2.2.1 r19.2.2.2.2.2.2.2.2.2.1 r19.2.2.2.2.2.2.2.2.2.2)) (Nat.le_of_ble_eq_true rfl) rfl rfl (run_V X hP hD hS [0, 2, 3, 4, 5, 6, 7] rfl rfl (c_X5_goes l D cI aS ad r19.1 r19.2.1 taped at_ statements hasImage r19.2.2.1 r19.2.2.2.1 forgottenWhen rowMany r19.2.2.2.2.1 r19.2.2.2.2.2.1 r19.2.2.2.2.2.2.1 r19.2.2.2.2.2.2.2.1 r19.2.2.2.2.2.2.2.2.1 r19.2.2.2.2.2.2.2.2.2.1 x1 _ hq24 _) lkX5_104 (by decide) (q0 := 0) rfl rfl rfl rfl (Nat.le_of_ble_eq_true rfl) hl.1 dX5_leads_24) (fun H locs hP hD hS => ?_)
    refine lv_bipush (v := -9) hx hb dX5_leads_27 (by decide) ?_
    refine lv_istore_n (lv' := [(3, .int (-9 : Int32)), (2, .int r4), (0, .ref (ad 0)), (1, .int x1)]) hx hb dX5_leads_29 rfl hl (by decide) rfl (fun ls hl => ?_)
    refine lv_iconst (v := 0) hx hb dX5_leads_30 (by decide) ?_
    refine lv_istore (lv' := [(4, .int (0 : Int32)), (3, .int (-9 : Int32)), (2, .int r4), (0, .ref (ad 0)), (1, .int x1)]) hx hb dX5_leads_31 hl (by decide) rfl (fun ls hl => ?_)
    exact w_X5_leads_33 ad taped at_ statements hasImage forgottenWhen rowMany x1 r19.1 r24.1 r19.2.2.1 r19.2.2.2.1 refused r19.2.2.2.2.1 r19.2.2.2.2.2.1 r19.2.2.2.2.2.2.1 r24.2 r19.2.2.2.2.2.2.2.2.1 r19.2.2.2.2.2.2.2.2.2.1 r19.2.2.2.2.2.2.2.2.2.2 X hret _ (fun v3_75 _ _ _ hf hl hP hD hS => w_X5_leads_75 ad taped at_ statements hasImage forgottenWhen rowMany x1 X hret  v3_75 r19.1 r24.1 r19.2.2.1 r19.2.2.2.1 refused r19.2.2.2.2.1 r19.2.2.2.2.2.1 r19.2.2.2.2.2.2.1 r24.2 r19.2.2.2.2.2.2.2.2.1 r19.2.2.2.2.2.2.2.2.2.1 r19.2.2.2.2.2.2.2.2.2.2 _ _ _ hf (lv_sub hl [0, 1] rfl) hP hD hS) _ (-9 : Int32) (0 : Int32) _ _ _ hf (lv_sub hl [3, 1, 0] rfl) hP hD hS
  · have hf := iF c9 hf
    refine lv_aload_n hx hb dX5_leads_12 rfl (lv_at hl 1 rfl) ?_
    refine lv_iload_n hx hb dX5_leads_13 rfl (lv_at hl 0 rfl) ?_
    obtain ⟨r14, hq14, hf⟩ := bS hf
    refine wr_i X hP hD hS [0, 1] rfl (ws' := (wd_X5_leads cI ad writers year taped at_ statements hasImage isKeeping cursor forgottenWhen rowMany r14.2 kind figure style fame silent ring kept)) (Nat.le_of_ble_eq_true rfl) rfl rfl (run_V X hP hD hS [0, 1] rfl rfl (c_X5_no l D cI aS ad writers year taped at_ statements hasImage isKeeping cursor forgottenWhen rowMany refused r4 _ hq14 _) lkX5_69 (by decide) (q0 := 0) rfl rfl rfl rfl (Nat.le_of_ble_eq_true rfl) hl.1 dX5_leads_14) (fun H locs hP hD hS => ?_)
    have hR := Option.some.inj hf
    subst hR
    exact hret _ _ _ _ _ rfl (fun _ hn => by cases hn; rfl) hP hD hS dX5_leads_17

abbrev wd_X5_lots (cI : ClassId) (ad : Nat → Nat) (writers : Int32) (year : Int32) (taped : Int32) (at_ : Int32) (statements : Int32) (hasImage : Int32) (isKeeping : Int32) (cursor : Int32) (forgottenWhen : Int32) (rowMany : Int32) (refused : (Nat → Int32)) (kind : (Nat → Int32)) (figure : (Nat → Int32)) (style : (Nat → Int32)) (fame : (Nat → Int32)) (silent : (Nat → Int32)) (ring : (Nat → Int32)) (kept : (Nat → Int32)) : va_W := [((ad 0), .inr (5, [.ref (ad 1), .ref (ad 2), .ref (ad 3), .ref (ad 4), .ref (ad 5), .ref (ad 6), .ref (ad 7), .int writers, .int year, .ref (ad 8), .ref (ad 9), .ref (ad 10), .ref (ad 11), .int taped, .int at_, .int statements, .ref (ad 12), .int hasImage, .int isKeeping, .int cursor, .int forgottenWhen, .ref (ad 13), .ref (ad 14), .ref (ad 15), .int rowMany])), ((ad 1), .inl (cI, 7, .inl refused)), ((ad 2), .inl (cI, 7, .inl kind)), ((ad 3), .inl (cI, 7, .inl figure)), ((ad 4), .inl (cI, 7, .inl style)), ((ad 5), .inl (cI, 7, .inl fame)), ((ad 6), .inl (cI, 7, .inl silent)), ((ad 7), .inl (cI, 7, .inl ring)), ((ad 12), .inl (cI, 132, .inl kept))]
def f_X5_lots_61 (writers_u61 : Int32) (kX61_108 : Int32 → (Nat → Int32) → Option (Int32 × Int32 × Int32 × Int32 × Int32 × (Nat → Int32) × (Nat → Int32) × (Nat → Int32) × (Nat → Int32) × (Nat → Int32) × (Nat → Int32) × (Nat → Int32) × (Nat → Int32))) : Nat → Int32 → Int32 → (Nat → Int32) → Option (Int32 × Int32 × Int32 × Int32 × Int32 × (Nat → Int32) × (Nat → Int32) × (Nat → Int32) × (Nat → Int32) × (Nat → Int32) × (Nat → Int32) × (Nat → Int32) × (Nat → Int32))
  | 0 => fun _ _ _ => none
  | fuel + 1 => fun v5_61 v8_61 style_61 => (if writers_u61 ≤ v8_61 then (kX61_108 v5_61 style_61) else (gd v8_61 7 (f_X5_lots_61 writers_u61 kX61_108 fuel ((v5_61 * (1664525 : Int32)) + (1013904223 : Int32)) (v8_61 + (1 : Int32)) (upd style_61 (Int32.toNatClampNeg v8_61) (remI (divI (((v5_61 * (1664525 : Int32)) + (1013904223 : Int32)) &&& (2147483647 : Int32)) (256 : Int32)) (10 : Int32))))))
theorem e_X5_lots_61 (writers_u61 : Int32) (kX61_108 : Int32 → (Nat → Int32) → Option (Int32 × Int32 × Int32 × Int32 × Int32 × (Nat → Int32) × (Nat → Int32) × (Nat → Int32) × (Nat → Int32) × (Nat → Int32) × (Nat → Int32) × (Nat → Int32) × (Nat → Int32))) (fuel : Nat) (v5_61 : Int32) (v8_61 : Int32) (style_61 : (Nat → Int32)) : f_X5_lots_61 writers_u61 kX61_108 (fuel + 1) v5_61 v8_61 style_61 = (if writers_u61 ≤ v8_61 then (kX61_108 v5_61 style_61) else (gd v8_61 7 (f_X5_lots_61 writers_u61 kX61_108 fuel ((v5_61 * (1664525 : Int32)) + (1013904223 : Int32)) (v8_61 + (1 : Int32)) (upd style_61 (Int32.toNatClampNeg v8_61) (remI (divI (((v5_61 * (1664525 : Int32)) + (1013904223 : Int32)) &&& (2147483647 : Int32)) (256 : Int32)) (10 : Int32)))))) := rfl
def f_X5_lots_135  (kL48 : Int32 → Int32 → Int32 → Int32 → Int32 → Int32 → Int32 → (Nat → Int32) → (Nat → Int32) → (Nat → Int32) → (Nat → Int32) → (Nat → Int32) → (Nat → Int32) → (Nat → Int32) → Option (Int32 × Int32 × Int32 × Int32 × Int32 × (Nat → Int32) × (Nat → Int32) × (Nat → Int32) × (Nat → Int32) × (Nat → Int32) × (Nat → Int32) × (Nat → Int32) × (Nat → Int32))) (v5_135 : Int32) (v7_135 : Int32) (writers_135 : Int32) (year_135 : Int32) (isKeeping_135 : Int32) (cursor_135 : Int32) (kind_135 : (Nat → Int32)) (figure_135 : (Nat → Int32)) (style_135 : (Nat → Int32)) (fame_135 : (Nat → Int32)) (silent_135 : (Nat → Int32)) (ring_135 : (Nat → Int32)) (kept_135 : (Nat → Int32)) (t0_135 : Int32) (t1_135 : Int32) : Option (Int32 × Int32 × Int32 × Int32 × Int32 × (Nat → Int32) × (Nat → Int32) × (Nat → Int32) × (Nat → Int32) × (Nat → Int32) × (Nat → Int32) × (Nat → Int32) × (Nat → Int32)) := ((f_X5_forgets writers_135 year_135 isKeeping_135 cursor_135 kind_135 figure_135 style_135 fame_135 silent_135 ring_135 kept_135).bind fun (r139 : Int32 × Int32 × Int32 × Int32 × (Nat → Int32) × (Nat → Int32) × (Nat → Int32) × (Nat → Int32) × (Nat → Int32) × (Nat → Int32) × (Nat → Int32)) => (kL48 v5_135 (t0_135 + t1_135) (v7_135 + (1 : Int32)) r139.1 r139.2.1 r139.2.2.1 r139.2.2.2.1 r139.2.2.2.2.1 r139.2.2.2.2.2.1 r139.2.2.2.2.2.2.1 r139.2.2.2.2.2.2.2.1 r139.2.2.2.2.2.2.2.2.1 r139.2.2.2.2.2.2.2.2.2.1 r139.2.2.2.2.2.2.2.2.2.2))
def f_X5_lots_108 (x3 : Int32) (kL48 : Int32 → Int32 → Int32 → Int32 → Int32 → Int32 → Int32 → (Nat → Int32) → (Nat → Int32) → (Nat → Int32) → (Nat → Int32) → (Nat → Int32) → (Nat → Int32) → (Nat → Int32) → Option (Int32 × Int32 × Int32 × Int32 × Int32 × (Nat → Int32) × (Nat → Int32) × (Nat → Int32) × (Nat → Int32) × (Nat → Int32) × (Nat → Int32) × (Nat → Int32) × (Nat → Int32))) (v5_108 : Int32) (v6_108 : Int32) (v7_108 : Int32) (writers_108 : Int32) (year_108 : Int32) (isKeeping_108 : Int32) (cursor_108 : Int32) (kind_108 : (Nat → Int32)) (figure_108 : (Nat → Int32)) (style_108 : (Nat → Int32)) (fame_108 : (Nat → Int32)) (silent_108 : (Nat → Int32)) (ring_108 : (Nat → Int32)) (kept_108 : (Nat → Int32)) : Option (Int32 × Int32 × Int32 × Int32 × Int32 × (Nat → Int32) × (Nat → Int32) × (Nat → Int32) × (Nat → Int32) × (Nat → Int32) × (Nat → Int32) × (Nat → Int32) × (Nat → Int32)) := ((f_X5_goes writers_108 year_108 kind_108 figure_108 style_108 fame_108 silent_108 ring_108 (10 : Int32)).bind fun (r111 : Int32 × (Nat → Int32)) => (if x3 = 0 then ((f_X5_allOf 7 writers_108 r111.2).bind fun (r125 : Int32) => (f_X5_lots_135  kL48 v5_108 v7_108 writers_108 r111.1 isKeeping_108 cursor_108 kind_108 figure_108 style_108 r111.2 silent_108 ring_108 kept_108 v6_108 r125)) else ((f_X5_forgottenOnes writers_108 r111.2).bind fun (r132 : Int32) => (f_X5_lots_135  kL48 v5_108 v7_108 writers_108 r111.1 isKeeping_108 cursor_108 kind_108 figure_108 style_108 r111.2 silent_108 ring_108 kept_108 v6_108 r132))))
def f_X5_lots_48 (x1 : Int32) (x3 : Int32) (refused_u48 : (Nat → Int32))  : Nat → Int32 → Int32 → Int32 → Int32 → Int32 → Int32 → Int32 → (Nat → Int32) → (Nat → Int32) → (Nat → Int32) → (Nat → Int32) → (Nat → Int32) → (Nat → Int32) → (Nat → Int32) → Option (Int32 × Int32 × Int32 × Int32 × Int32 × (Nat → Int32) × (Nat → Int32) × (Nat → Int32) × (Nat → Int32) × (Nat → Int32) × (Nat → Int32) × (Nat → Int32) × (Nat → Int32))
  | 0 => fun _ _ _ _ _ _ _ _ _ _ _ _ _ _ => none
  | fuel + 1 => fun v5_48 v6_48 v7_48 writers_48 year_48 isKeeping_48 cursor_48 kind_48 figure_48 style_48 fame_48 silent_48 ring_48 kept_48 => (if x1 ≤ v7_48 then (some (v6_48, writers_48, year_48, isKeeping_48, cursor_48, refused_u48, kind_48, figure_48, style_48, fame_48, silent_48, ring_48, kept_48)) else ((f_X5_thinks writers_48 year_48 isKeeping_48 cursor_48 kind_48 figure_48 style_48 fame_48 silent_48 ring_48 kept_48).bind fun (r55 : Int32 × Int32 × Int32 × Int32 × (Nat → Int32) × (Nat → Int32) × (Nat → Int32) × (Nat → Int32) × (Nat → Int32) × (Nat → Int32) × (Nat → Int32)) => (f_X5_lots_61 r55.1 (fun (v5_108 : Int32) (style_108 : (Nat → Int32)) => (f_X5_lots_108 x3 (f_X5_lots_48 x1 x3 refused_u48  fuel) v5_108 v6_48 v7_48 r55.1 r55.2.1 r55.2.2.1 r55.2.2.2.1 r55.2.2.2.2.1 r55.2.2.2.2.2.1 style_108 r55.2.2.2.2.2.2.2.1 r55.2.2.2.2.2.2.2.2.1 r55.2.2.2.2.2.2.2.2.2.1 r55.2.2.2.2.2.2.2.2.2.2)) FU v5_48 (0 : Int32) r55.2.2.2.2.2.2.1)))
theorem e_X5_lots_48 (x1 : Int32) (x3 : Int32) (refused_u48 : (Nat → Int32))  (fuel : Nat) (v5_48 : Int32) (v6_48 : Int32) (v7_48 : Int32) (writers_48 : Int32) (year_48 : Int32) (isKeeping_48 : Int32) (cursor_48 : Int32) (kind_48 : (Nat → Int32)) (figure_48 : (Nat → Int32)) (style_48 : (Nat → Int32)) (fame_48 : (Nat → Int32)) (silent_48 : (Nat → Int32)) (ring_48 : (Nat → Int32)) (kept_48 : (Nat → Int32)) : f_X5_lots_48 x1 x3 refused_u48  (fuel + 1) v5_48 v6_48 v7_48 writers_48 year_48 isKeeping_48 cursor_48 kind_48 figure_48 style_48 fame_48 silent_48 ring_48 kept_48 = (if x1 ≤ v7_48 then (some (v6_48, writers_48, year_48, isKeeping_48, cursor_48, refused_u48, kind_48, figure_48, style_48, fame_48, silent_48, ring_48, kept_48)) else ((f_X5_thinks writers_48 year_48 isKeeping_48 cursor_48 kind_48 figure_48 style_48 fame_48 silent_48 ring_48 kept_48).bind fun (r55 : Int32 × Int32 × Int32 × Int32 × (Nat → Int32) × (Nat → Int32) × (Nat → Int32) × (Nat → Int32) × (Nat → Int32) × (Nat → Int32) × (Nat → Int32)) => (f_X5_lots_61 r55.1 (fun (v5_108 : Int32) (style_108 : (Nat → Int32)) => (f_X5_lots_108 x3 (f_X5_lots_48 x1 x3 refused_u48  fuel) v5_108 v6_48 v7_48 r55.1 r55.2.1 r55.2.2.1 r55.2.2.2.1 r55.2.2.2.2.1 r55.2.2.2.2.2.1 style_108 r55.2.2.2.2.2.2.2.1 r55.2.2.2.2.2.2.2.2.1 r55.2.2.2.2.2.2.2.2.2.1 r55.2.2.2.2.2.2.2.2.2.2)) FU v5_48 (0 : Int32) r55.2.2.2.2.2.2.1))) := rfl
def f_X5_lots_27 (x1 : Int32) (x2 : Int32) (x3 : Int32)  (v4_27 : Int32) (writers_27 : Int32) (year_27 : Int32) (isKeeping_27 : Int32) (cursor_27 : Int32) (refused_27 : (Nat → Int32)) (kind_27 : (Nat → Int32)) (figure_27 : (Nat → Int32)) (style_27 : (Nat → Int32)) (fame_27 : (Nat → Int32)) (silent_27 : (Nat → Int32)) (ring_27 : (Nat → Int32)) (kept_27 : (Nat → Int32)) : Option (Int32 × Int32 × Int32 × Int32 × Int32 × (Nat → Int32) × (Nat → Int32) × (Nat → Int32) × (Nat → Int32) × (Nat → Int32) × (Nat → Int32) × (Nat → Int32) × (Nat → Int32)) := (if v4_27 = 0 then (f_X5_lots_48 x1 x3 refused_27  FU x2 (0 : Int32) (0 : Int32) writers_27 year_27 isKeeping_27 cursor_27 kind_27 figure_27 style_27 fame_27 silent_27 ring_27 kept_27) else ((f_X5_no refused_27 v4_27).bind fun (r35 : Int32 × (Nat → Int32)) => (some (r35.1, writers_27, year_27, isKeeping_27, cursor_27, r35.2, kind_27, figure_27, style_27, fame_27, silent_27, ring_27, kept_27))))
def f_X5_lots (writers : Int32) (year : Int32) (isKeeping : Int32) (cursor : Int32) (refused : (Nat → Int32)) (kind : (Nat → Int32)) (figure : (Nat → Int32)) (style : (Nat → Int32)) (fame : (Nat → Int32)) (silent : (Nat → Int32)) (ring : (Nat → Int32)) (kept : (Nat → Int32)) (x1 : Int32) (x2 : Int32) (x3 : Int32) : Option (Int32 × Int32 × Int32 × Int32 × Int32 × (Nat → Int32) × (Nat → Int32) × (Nat → Int32) × (Nat → Int32) × (Nat → Int32) × (Nat → Int32) × (Nat → Int32) × (Nat → Int32)) := ((f_X5_bound x1 (1 : Int32) (20 : Int32)).bind fun (r4 : Int32) => (if r4 = 0 then ((f_X5_isIn x3 (0 : Int32) (1 : Int32)).bind fun (r17 : Int32) => (if r17 = 0 then (f_X5_lots_27 x1 x2 x3  (-2 : Int32) writers year isKeeping cursor refused kind figure style fame silent ring kept) else (f_X5_lots_27 x1 x2 x3  r4 writers year isKeeping cursor refused kind figure style fame silent ring kept))) else (f_X5_lots_27 x1 x2 x3  r4 writers year isKeeping cursor refused kind figure style fame silent ring kept)))
set_option maxHeartbeats 4000000 in
set_option maxRecDepth 100000 in
theorem w_X5_lots_61 {p : Program} {l : Launch} {e : Env} {s : State} {m : MethodId} {args : Array Value} {below : List Frame} {meth : Method} {c : Code} {D : va_G} {cI : ClassId} {aS : aSt} {A : Nat → Prop} {Q : State → Prop}  (ad : Nat → Nat) (taped : Int32) (at_ : Int32) (statements : Int32) (hasImage : Int32) (forgottenWhen : Int32) (rowMany : Int32) (x1 : Int32) (x2 : Int32) (x3 : Int32) (refused_u48 : (Nat → Int32)) (u6_61 : Int32) (u7_61 : Int32) (writers_u61 : Int32) (year_u61 : Int32) (isKeeping_u61 : Int32) (cursor_u61 : Int32) (kind_u61 : (Nat → Int32)) (figure_u61 : (Nat → Int32)) (fame_u61 : (Nat → Int32)) (silent_u61 : (Nat → Int32)) (ring_u61 : (Nat → Int32)) (kept_u61 : (Nat → Int32)) {R : Int32 × Int32 × Int32 × Int32 × Int32 × (Nat → Int32) × (Nat → Int32) × (Nat → Int32) × (Nat → Int32) × (Nat → Int32) × (Nat → Int32) × (Nat → Int32) × (Nat → Int32)} (X : Bx p s m args meth c cX5_lots 9 (some .int) RX5 D cI aS A) (hret : RtI p l e 6 s m args below meth c cX5_lots (some .int) D A (wd_X5_lots cI ad R.2.1 R.2.2.1 taped at_ statements hasImage R.2.2.2.1 R.2.2.2.2.1 forgottenWhen rowMany R.2.2.2.2.2.1 R.2.2.2.2.2.2.1 R.2.2.2.2.2.2.2.1 R.2.2.2.2.2.2.2.2.1 R.2.2.2.2.2.2.2.2.2.1 R.2.2.2.2.2.2.2.2.2.2.1 R.2.2.2.2.2.2.2.2.2.2.2.1 R.2.2.2.2.2.2.2.2.2.2.2.2) R.1 Q) (kX61_108 : Int32 → (Nat → Int32) → Option (Int32 × Int32 × Int32 × Int32 × Int32 × (Nat → Int32) × (Nat → Int32) × (Nat → Int32) × (Nat → Int32) × (Nat → Int32) × (Nat → Int32) × (Nat → Int32) × (Nat → Int32))) (hkX61_108 : ∀ (v5_108 : Int32) (style_108 : (Nat → Int32)) (H : Heap) (locs : List Loc) (ls : Array Slot), kX61_108 v5_108 style_108 = some R → lv_has ls 9 [(0, .ref (ad 0)), (1, .int x1), (3, .int x3), (5, .int v5_108), (6, .int u6_61), (7, .int u7_61)] → va_P D vwCl (wd_X5_lots cI ad writers_u61 year_u61 taped at_ statements hasImage isKeeping_u61 cursor_u61 forgottenWhen rowMany refused_u48 kind_u61 figure_u61 style_108 fame_u61 silent_u61 ring_u61 kept_u61) H → va_D A (wd_X5_lots cI ad writers_u61 year_u61 taped at_ statements hasImage isKeeping_u61 cursor_u61 forgottenWhen rowMany refused_u48 kind_u61 figure_u61 style_108 fame_u61 silent_u61 ring_u61 kept_u61) → va_S A s.heap H locs → Wh p l e 6 s m args below meth c H locs Q (F0 m 108 ls [])) : ∀ (fuel : Nat) (v5_61 : Int32) (v8_61 : Int32) (style_61 : (Nat → Int32)) (H : Heap) (locs : List Loc) (ls : Array Slot), f_X5_lots_61 writers_u61 kX61_108 fuel v5_61 v8_61 style_61 = some R → lv_has ls 9 [(0, .ref (ad 0)), (1, .int x1), (3, .int x3), (5, .int v5_61), (6, .int u6_61), (7, .int u7_61), (8, .int v8_61)] → va_P D vwCl (wd_X5_lots cI ad writers_u61 year_u61 taped at_ statements hasImage isKeeping_u61 cursor_u61 forgottenWhen rowMany refused_u48 kind_u61 figure_u61 style_61 fame_u61 silent_u61 ring_u61 kept_u61) H → va_D A (wd_X5_lots cI ad writers_u61 year_u61 taped at_ statements hasImage isKeeping_u61 cursor_u61 forgottenWhen rowMany refused_u48 kind_u61 figure_u61 style_61 fame_u61 silent_u61 ring_u61 kept_u61) → va_S A s.heap H locs → Wh p l e 6 s m args below meth c H locs Q (F0 m 61 ls []) := by
  have hx := X.1
  have hb := X.2.1
  intro fuel
  induction fuel with
  | zero =>
    intro v5_61 v8_61 style_61 H locs ls hf hl hP hD hS
    cases hf
  | succ fuel ih =>
    intro v5_61 v8_61 style_61 H locs ls hf hl hP hD hS
    replace hf : (if writers_u61 ≤ v8_61 then (kX61_108 v5_61 style_61) else (gd v8_61 7 (f_X5_lots_61 writers_u61 kX61_108 fuel ((v5_61 * (1664525 : Int32)) + (1013904223 : Int32)) (v8_61 + (1 : Int32)) (upd style_61 (Int32.toNatClampNeg v8_61) (remI (divI (((v5_61 * (1664525 : Int32)) + (1013904223 : Int32)) &&& (2147483647 : Int32)) (256 : Int32)) (10 : Int32)))))) = some R := hf
    refine lv_iload hx hb dX5_lots_61 (lv_at hl 6 rfl) ?_
    refine lv_aload_n hx hb dX5_lots_63 rfl (lv_at hl 0 rfl) ?_
    refine fgX5_55 X hP (q0 := 0) rfl rfl dX5_lots_64 ?_
    refine lv_icmp_ge (tgt := 108) hx hb dX5_lots_67 (by decide) (fun c67 => ?_) (fun c67 => ?_)
    · have hf := iT c67 hf
      exact hkX61_108 v5_61 style_61 _ _ _ hf (lv_sub hl [0, 1, 2, 3, 4, 5] rfl) hP hD hS
    · have hf := iF c67 hf
      refine lv_iload hx hb dX5_lots_70 (lv_at hl 3 rfl) ?_
      refine lv_ldcw (v := 1664525) hx hb X.2.2.2.2.1 (X.hts mw_1294) dX5_lots_72 ?_
      refine lv_imul hx hb dX5_lots_75 ?_
      refine lv_ldcw (v := 1013904223) hx hb X.2.2.2.2.1 (X.hts mw_1295) dX5_lots_76 ?_
      refine lv_iadd hx hb dX5_lots_79 ?_
      refine lv_istore (lv' := [(5, .int ((v5_61 * (1664525 : Int32)) + (1013904223 : Int32))), (0, .ref (ad 0)), (1, .int x1), (3, .int x3), (6, .int u6_61), (7, .int u7_61), (8, .int v8_61)]) hx hb dX5_lots_80 hl (by decide) rfl (fun ls hl => ?_)
      refine lv_aload_n hx hb dX5_lots_82 rfl (lv_at hl 1 rfl) ?_
      refine fgX5_19 X hP (q0 := 0) rfl rfl dX5_lots_83 ?_
      refine lv_iload hx hb dX5_lots_86 (lv_at hl 6 rfl) ?_
      refine lv_iload hx hb dX5_lots_88 (lv_at hl 0 rfl) ?_
      refine lv_ldcw (v := 2147483647) hx hb X.2.2.2.2.1 (X.hts mw_1296) dX5_lots_90 ?_
      refine lv_iand hx hb dX5_lots_93 ?_
      refine lv_sipush (v := 256) hx hb dX5_lots_94 (by decide) ?_
      refine x_idiv hx hb dX5_lots_97 (by decide) ?_
      refine lv_bipush (v := 10) hx hb dX5_lots_98 (by decide) ?_
      refine x_irem hx hb dX5_lots_100 (by decide) ?_
      refine aPut X hP hD hS (q0 := 4) (ws' := (wd_X5_lots cI ad writers_u61 year_u61 taped at_ statements hasImage isKeeping_u61 cursor_u61 forgottenWhen rowMany refused_u48 kind_u61 figure_u61 (upd style_61 (Int32.toNatClampNeg v8_61) (remI (divI (((v5_61 * (1664525 : Int32)) + (1013904223 : Int32)) &&& (2147483647 : Int32)) (256 : Int32)) (10 : Int32))) fame_u61 silent_u61 ring_u61 kept_u61)) rfl (gdS hf).1 rfl dX5_lots_101 (fun H locs hP hD hS => ?_)
      have hf := (gdS hf).2
      refine lv_iinc (v := (v8_61 + (1 : Int32))) (lv' := [(8, .int (v8_61 + (1 : Int32))), (5, .int ((v5_61 * (1664525 : Int32)) + (1013904223 : Int32))), (0, .ref (ad 0)), (1, .int x1), (3, .int x3), (6, .int u6_61), (7, .int u7_61)]) hx hb dX5_lots_102 hl (k := 6) rfl rfl (by decide) rfl (fun ls hl => ?_)
      refine lv_goto (tgt := 61) hx hb dX5_lots_105 (by decide) ?_
      exact ih ((v5_61 * (1664525 : Int32)) + (1013904223 : Int32)) (v8_61 + (1 : Int32)) (upd style_61 (Int32.toNatClampNeg v8_61) (remI (divI (((v5_61 * (1664525 : Int32)) + (1013904223 : Int32)) &&& (2147483647 : Int32)) (256 : Int32)) (10 : Int32))) _ _ _ hf (lv_sub hl [2, 3, 4, 1, 5, 6, 0] rfl) hP hD hS
set_option maxHeartbeats 4000000 in
set_option maxRecDepth 100000 in
theorem w_X5_lots_135 {p : Program} {l : Launch} {e : Env} {s : State} {m : MethodId} {args : Array Value} {below : List Frame} {meth : Method} {c : Code} {D : va_G} {cI : ClassId} {aS : aSt} {A : Nat → Prop} {Q : State → Prop}  (ad : Nat → Nat) (taped : Int32) (at_ : Int32) (statements : Int32) (hasImage : Int32) (forgottenWhen : Int32) (rowMany : Int32) (x1 : Int32) (x2 : Int32) (x3 : Int32) (refused_u48 : (Nat → Int32)) {R : Int32 × Int32 × Int32 × Int32 × Int32 × (Nat → Int32) × (Nat → Int32) × (Nat → Int32) × (Nat → Int32) × (Nat → Int32) × (Nat → Int32) × (Nat → Int32) × (Nat → Int32)} (X : Bx p s m args meth c cX5_lots 9 (some .int) RX5 D cI aS A) (hret : RtI p l e 6 s m args below meth c cX5_lots (some .int) D A (wd_X5_lots cI ad R.2.1 R.2.2.1 taped at_ statements hasImage R.2.2.2.1 R.2.2.2.2.1 forgottenWhen rowMany R.2.2.2.2.2.1 R.2.2.2.2.2.2.1 R.2.2.2.2.2.2.2.1 R.2.2.2.2.2.2.2.2.1 R.2.2.2.2.2.2.2.2.2.1 R.2.2.2.2.2.2.2.2.2.2.1 R.2.2.2.2.2.2.2.2.2.2.2.1 R.2.2.2.2.2.2.2.2.2.2.2.2) R.1 Q) (kL48 : Int32 → Int32 → Int32 → Int32 → Int32 → Int32 → Int32 → (Nat → Int32) → (Nat → Int32) → (Nat → Int32) → (Nat → Int32) → (Nat → Int32) → (Nat → Int32) → (Nat → Int32) → Option (Int32 × Int32 × Int32 × Int32 × Int32 × (Nat → Int32) × (Nat → Int32) × (Nat → Int32) × (Nat → Int32) × (Nat → Int32) × (Nat → Int32) × (Nat → Int32) × (Nat → Int32))) (hkL48 : ∀ (v5_48 : Int32) (v6_48 : Int32) (v7_48 : Int32) (writers_48 : Int32) (year_48 : Int32) (isKeeping_48 : Int32) (cursor_48 : Int32) (kind_48 : (Nat → Int32)) (figure_48 : (Nat → Int32)) (style_48 : (Nat → Int32)) (fame_48 : (Nat → Int32)) (silent_48 : (Nat → Int32)) (ring_48 : (Nat → Int32)) (kept_48 : (Nat → Int32)) (H : Heap) (locs : List Loc) (ls : Array Slot), kL48 v5_48 v6_48 v7_48 writers_48 year_48 isKeeping_48 cursor_48 kind_48 figure_48 style_48 fame_48 silent_48 ring_48 kept_48 = some R → lv_has ls 9 [(0, .ref (ad 0)), (1, .int x1), (3, .int x3), (5, .int v5_48), (6, .int v6_48), (7, .int v7_48)] → va_P D vwCl (wd_X5_lots cI ad writers_48 year_48 taped at_ statements hasImage isKeeping_48 cursor_48 forgottenWhen rowMany refused_u48 kind_48 figure_48 style_48 fame_48 silent_48 ring_48 kept_48) H → va_D A (wd_X5_lots cI ad writers_48 year_48 taped at_ statements hasImage isKeeping_48 cursor_48 forgottenWhen rowMany refused_u48 kind_48 figure_48 style_48 fame_48 silent_48 ring_48 kept_48) → va_S A s.heap H locs → Wh p l e 6 s m args below meth c H locs Q (F0 m 48 ls [])) : ∀ (v5_135 : Int32) (v7_135 : Int32) (writers_135 : Int32) (year_135 : Int32) (isKeeping_135 : Int32) (cursor_135 : Int32) (kind_135 : (Nat → Int32)) (figure_135 : (Nat → Int32)) (style_135 : (Nat → Int32)) (fame_135 : (Nat → Int32)) (silent_135 : (Nat → Int32)) (ring_135 : (Nat → Int32)) (kept_135 : (Nat → Int32)) (t0_135 : Int32) (t1_135 : Int32) (H : Heap) (locs : List Loc) (ls : Array Slot), f_X5_lots_135  kL48 v5_135 v7_135 writers_135 year_135 isKeeping_135 cursor_135 kind_135 figure_135 style_135 fame_135 silent_135 ring_135 kept_135 t0_135 t1_135 = some R → lv_has ls 9 [(0, .ref (ad 0)), (1, .int x1), (3, .int x3), (5, .int v5_135), (7, .int v7_135)] → va_P D vwCl (wd_X5_lots cI ad writers_135 year_135 taped at_ statements hasImage isKeeping_135 cursor_135 forgottenWhen rowMany refused_u48 kind_135 figure_135 style_135 fame_135 silent_135 ring_135 kept_135) H → va_D A (wd_X5_lots cI ad writers_135 year_135 taped at_ statements hasImage isKeeping_135 cursor_135 forgottenWhen rowMany refused_u48 kind_135 figure_135 style_135 fame_135 silent_135 ring_135 kept_135) → va_S A s.heap H locs → Wh p l e 6 s m args below meth c H locs Q (F0 m 135 ls [.int t1_135, .int t0_135]) := by
  have hx := X.1
  have hb := X.2.1
  intro v5_135 v7_135 writers_135 year_135 isKeeping_135 cursor_135 kind_135 figure_135 style_135 fame_135 silent_135 ring_135 kept_135 t0_135 t1_135 H locs ls hf hl hP hD hS
  replace hf : ((f_X5_forgets writers_135 year_135 isKeeping_135 cursor_135 kind_135 figure_135 style_135 fame_135 silent_135 ring_135 kept_135).bind fun (r139 : Int32 × Int32 × Int32 × Int32 × (Nat → Int32) × (Nat → Int32) × (Nat → Int32) × (Nat → Int32) × (Nat → Int32) × (Nat → Int32) × (Nat → Int32)) => (kL48 v5_135 (t0_135 + t1_135) (v7_135 + (1 : Int32)) r139.1 r139.2.1 r139.2.2.1 r139.2.2.2.1 r139.2.2.2.2.1 r139.2.2.2.2.2.1 r139.2.2.2.2.2.2.1 r139.2.2.2.2.2.2.2.1 r139.2.2.2.2.2.2.2.2.1 r139.2.2.2.2.2.2.2.2.2.1 r139.2.2.2.2.2.2.2.2.2.2)) = some R := hf
  refine lv_iadd hx hb dX5_lots_135 ?_
  refine lv_istore (lv' := [(6, .int (t0_135 + t1_135)), (0, .ref (ad 0)), (1, .int x1), (3, .int x3), (5, .int v5_135), (7, .int v7_135)]) hx hb dX5_lots_136 hl (by decide) rfl (fun ls hl => ?_)
  refine lv_aload_n hx hb dX5_lots_138 rfl (lv_at hl 1 rfl) ?_
  obtain ⟨r139, hq139, hf⟩ := bS hf
  refine wr_v X hP hD hS [0, 2, 3, 4, 5, 6, 7, 8] rfl (ws' := (wd_X5_lots cI ad r139.1 r139.2.1 taped at_ statements hasImage r139.2.2.1 r139.2.2.2.1 forgottenWhen rowMany refused_u48 r139.2.2.2.2.1 r139.2.2.2.2.2.1 r139.2.2.2.2.2.2.1 r139.2.2.2.2.2.2.2.1 r139.2.2.2.2.2.2.2.2.1 r139.2.2.2.2.2.2.2.2.2.1 r139.2.2.2.2.2.2.2.2.2.2)) (Nat.le_of_ble_eq_true rfl) rfl rfl (run_V X hP hD hS [0, 2, 3, 4, 5, 6, 7, 8] rfl rfl (c_X5_forgets l D cI aS ad writers_135 year_135 taped at_ statements hasImage isKeeping_135 cursor_135 forgottenWhen rowMany kind_135 figure_135 style_135 fame_135 silent_135 ring_135 kept_135 _ hq139 _) lkX5_203 (by decide) (q0 := 0) rfl rfl rfl rfl (Nat.le_of_ble_eq_true rfl) hl.1 dX5_lots_139) (fun H locs hP hD hS => ?_)
  refine lv_iinc (v := (v7_135 + (1 : Int32))) (lv' := [(7, .int (v7_135 + (1 : Int32))), (6, .int (t0_135 + t1_135)), (0, .ref (ad 0)), (1, .int x1), (3, .int x3), (5, .int v5_135)]) hx hb dX5_lots_142 hl (k := 5) rfl rfl (by decide) rfl (fun ls hl => ?_)
  refine lv_goto (tgt := 48) hx hb dX5_lots_145 (by decide) ?_
  exact hkL48 v5_135 (t0_135 + t1_135) (v7_135 + (1 : Int32)) r139.1 r139.2.1 r139.2.2.1 r139.2.2.2.1 r139.2.2.2.2.1 r139.2.2.2.2.2.1 r139.2.2.2.2.2.2.1 r139.2.2.2.2.2.2.2.1 r139.2.2.2.2.2.2.2.2.1 r139.2.2.2.2.2.2.2.2.2.1 r139.2.2.2.2.2.2.2.2.2.2 _ _ _ hf (lv_sub hl [2, 3, 4, 5, 1, 0] rfl) hP hD hS
set_option maxHeartbeats 4000000 in
set_option maxRecDepth 100000 in
theorem w_X5_lots_108 {p : Program} {l : Launch} {e : Env} {s : State} {m : MethodId} {args : Array Value} {below : List Frame} {meth : Method} {c : Code} {D : va_G} {cI : ClassId} {aS : aSt} {A : Nat → Prop} {Q : State → Prop}  (ad : Nat → Nat) (taped : Int32) (at_ : Int32) (statements : Int32) (hasImage : Int32) (forgottenWhen : Int32) (rowMany : Int32) (x1 : Int32) (x2 : Int32) (x3 : Int32) (refused_u48 : (Nat → Int32)) {R : Int32 × Int32 × Int32 × Int32 × Int32 × (Nat → Int32) × (Nat → Int32) × (Nat → Int32) × (Nat → Int32) × (Nat → Int32) × (Nat → Int32) × (Nat → Int32) × (Nat → Int32)} (X : Bx p s m args meth c cX5_lots 9 (some .int) RX5 D cI aS A) (hret : RtI p l e 6 s m args below meth c cX5_lots (some .int) D A (wd_X5_lots cI ad R.2.1 R.2.2.1 taped at_ statements hasImage R.2.2.2.1 R.2.2.2.2.1 forgottenWhen rowMany R.2.2.2.2.2.1 R.2.2.2.2.2.2.1 R.2.2.2.2.2.2.2.1 R.2.2.2.2.2.2.2.2.1 R.2.2.2.2.2.2.2.2.2.1 R.2.2.2.2.2.2.2.2.2.2.1 R.2.2.2.2.2.2.2.2.2.2.2.1 R.2.2.2.2.2.2.2.2.2.2.2.2) R.1 Q) (kL48 : Int32 → Int32 → Int32 → Int32 → Int32 → Int32 → Int32 → (Nat → Int32) → (Nat → Int32) → (Nat → Int32) → (Nat → Int32) → (Nat → Int32) → (Nat → Int32) → (Nat → Int32) → Option (Int32 × Int32 × Int32 × Int32 × Int32 × (Nat → Int32) × (Nat → Int32) × (Nat → Int32) × (Nat → Int32) × (Nat → Int32) × (Nat → Int32) × (Nat → Int32) × (Nat → Int32))) (hkL48 : ∀ (v5_48 : Int32) (v6_48 : Int32) (v7_48 : Int32) (writers_48 : Int32) (year_48 : Int32) (isKeeping_48 : Int32) (cursor_48 : Int32) (kind_48 : (Nat → Int32)) (figure_48 : (Nat → Int32)) (style_48 : (Nat → Int32)) (fame_48 : (Nat → Int32)) (silent_48 : (Nat → Int32)) (ring_48 : (Nat → Int32)) (kept_48 : (Nat → Int32)) (H : Heap) (locs : List Loc) (ls : Array Slot), kL48 v5_48 v6_48 v7_48 writers_48 year_48 isKeeping_48 cursor_48 kind_48 figure_48 style_48 fame_48 silent_48 ring_48 kept_48 = some R → lv_has ls 9 [(0, .ref (ad 0)), (1, .int x1), (3, .int x3), (5, .int v5_48), (6, .int v6_48), (7, .int v7_48)] → va_P D vwCl (wd_X5_lots cI ad writers_48 year_48 taped at_ statements hasImage isKeeping_48 cursor_48 forgottenWhen rowMany refused_u48 kind_48 figure_48 style_48 fame_48 silent_48 ring_48 kept_48) H → va_D A (wd_X5_lots cI ad writers_48 year_48 taped at_ statements hasImage isKeeping_48 cursor_48 forgottenWhen rowMany refused_u48 kind_48 figure_48 style_48 fame_48 silent_48 ring_48 kept_48) → va_S A s.heap H locs → Wh p l e 6 s m args below meth c H locs Q (F0 m 48 ls [])) : ∀ (v5_108 : Int32) (v6_108 : Int32) (v7_108 : Int32) (writers_108 : Int32) (year_108 : Int32) (isKeeping_108 : Int32) (cursor_108 : Int32) (kind_108 : (Nat → Int32)) (figure_108 : (Nat → Int32)) (style_108 : (Nat → Int32)) (fame_108 : (Nat → Int32)) (silent_108 : (Nat → Int32)) (ring_108 : (Nat → Int32)) (kept_108 : (Nat → Int32)) (H : Heap) (locs : List Loc) (ls : Array Slot), f_X5_lots_108 x3 kL48 v5_108 v6_108 v7_108 writers_108 year_108 isKeeping_108 cursor_108 kind_108 figure_108 style_108 fame_108 silent_108 ring_108 kept_108 = some R → lv_has ls 9 [(0, .ref (ad 0)), (1, .int x1), (3, .int x3), (5, .int v5_108), (6, .int v6_108), (7, .int v7_108)] → va_P D vwCl (wd_X5_lots cI ad writers_108 year_108 taped at_ statements hasImage isKeeping_108 cursor_108 forgottenWhen rowMany refused_u48 kind_108 figure_108 style_108 fame_108 silent_108 ring_108 kept_108) H → va_D A (wd_X5_lots cI ad writers_108 year_108 taped at_ statements hasImage isKeeping_108 cursor_108 forgottenWhen rowMany refused_u48 kind_108 figure_108 style_108 fame_108 silent_108 ring_108 kept_108) → va_S A s.heap H locs → Wh p l e 6 s m args below meth c H locs Q (F0 m 108 ls []) := by
  have hx := X.1
  have hb := X.2.1
  intro v5_108 v6_108 v7_108 writers_108 year_108 isKeeping_108 cursor_108 kind_108 figure_108 style_108 fame_108 silent_108 ring_108 kept_108 H locs ls hf hl hP hD hS
  replace hf : ((f_X5_goes writers_108 year_108 kind_108 figure_108 style_108 fame_108 silent_108 ring_108 (10 : Int32)).bind fun (r111 : Int32 × (Nat → Int32)) => (if x3 = 0 then ((f_X5_allOf 7 writers_108 r111.2).bind fun (r125 : Int32) => (f_X5_lots_135  kL48 v5_108 v7_108 writers_108 r111.1 isKeeping_108 cursor_108 kind_108 figure_108 style_108 r111.2 silent_108 ring_108 kept_108 v6_108 r125)) else ((f_X5_forgottenOnes writers_108 r111.2).bind fun (r132 : Int32) => (f_X5_lots_135  kL48 v5_108 v7_108 writers_108 r111.1 isKeeping_108 cursor_108 kind_108 figure_108 style_108 r111.2 silent_108 ring_108 kept_108 v6_108 r132)))) = some R := hf
  refine lv_aload_n hx hb dX5_lots_108 rfl (lv_at hl 0 rfl) ?_
  refine lv_bipush (v := 10) hx hb dX5_lots_109 (by decide) ?_
  obtain ⟨r111, hq111, hf⟩ := bS hf
  refine wr_v X hP hD hS [0, 2, 3, 4, 5, 6, 7] rfl (ws' := (wd_X5_lots cI ad writers_108 r111.1 taped at_ statements hasImage isKeeping_108 cursor_108 forgottenWhen rowMany refused_u48 kind_108 figure_108 style_108 r111.2 silent_108 ring_108 kept_108)) (Nat.le_of_ble_eq_true rfl) rfl rfl (run_V X hP hD hS [0, 2, 3, 4, 5, 6, 7] rfl rfl (c_X5_goes l D cI aS ad writers_108 year_108 taped at_ statements hasImage isKeeping_108 cursor_108 forgottenWhen rowMany kind_108 figure_108 style_108 fame_108 silent_108 ring_108 (10 : Int32) _ hq111 _) lkX5_104 (by decide) (q0 := 0) rfl rfl rfl rfl (Nat.le_of_ble_eq_true rfl) hl.1 dX5_lots_111) (fun H locs hP hD hS => ?_)
  refine lv_iload hx hb dX5_lots_114 (lv_at hl 4 rfl) ?_
  refine lv_iload_n hx hb dX5_lots_116 rfl (lv_at hl 2 rfl) ?_
  refine lv_if_ne (tgt := 131) hx hb dX5_lots_117 (by decide) (fun c117 => ?_) (fun c117 => ?_)
  · have hf := iF c117 hf
    refine lv_aload_n hx hb dX5_lots_131 rfl (lv_at hl 0 rfl) ?_
    obtain ⟨r132, hq132, hf⟩ := bS hf
    refine ro_i X hP hD hS [0, 5] rfl (run_V X hP hD hS [0, 5] rfl rfl (c_X5_forgottenOnes l D cI aS ad writers_108 r111.1 taped at_ statements hasImage isKeeping_108 cursor_108 forgottenWhen rowMany r111.2 _ hq132 _) lkX5_273 (by decide) (q0 := 0) rfl rfl rfl rfl (Nat.le_of_ble_eq_true rfl) hl.1 dX5_lots_132) (fun H locs hP hS => ?_)
    exact w_X5_lots_135 ad taped at_ statements hasImage forgottenWhen rowMany x1 x2 x3 refused_u48 X hret _ hkL48 v5_108 v7_108 writers_108 r111.1 isKeeping_108 cursor_108 kind_108 figure_108 style_108 r111.2 silent_108 ring_108 kept_108 v6_108 r132 _ _ _ hf (lv_sub hl [0, 1, 2, 3, 5] rfl) hP hD hS
  · have hf := iT c117 hf
    refine lv_aload_n hx hb dX5_lots_120 rfl (lv_at hl 0 rfl) ?_
    refine lv_aload_n hx hb dX5_lots_121 rfl (lv_at hl 0 rfl) ?_
    refine fgX5_22 X hP (q0 := 0) rfl rfl dX5_lots_122 ?_
    obtain ⟨r125, hq125, hf⟩ := bS hf
    refine ro_i X hP hD hS [0, 5] rfl (run_V X hP hD hS [0, 5] rfl rfl (c_X5_allOf l D cI aS ad (fun k => ad (5 + k)) 7 writers_108 r111.1 taped at_ statements hasImage isKeeping_108 cursor_108 forgottenWhen rowMany r111.2 _ hq125 _) lkX5_196 (by decide) (q0 := 0) rfl rfl rfl rfl (Nat.le_of_ble_eq_true rfl) hl.1 dX5_lots_125) (fun H locs hP hS => ?_)
    refine lv_goto (tgt := 135) hx hb dX5_lots_128 (by decide) ?_
    exact w_X5_lots_135 ad taped at_ statements hasImage forgottenWhen rowMany x1 x2 x3 refused_u48 X hret _ hkL48 v5_108 v7_108 writers_108 r111.1 isKeeping_108 cursor_108 kind_108 figure_108 style_108 r111.2 silent_108 ring_108 kept_108 v6_108 r125 _ _ _ hf (lv_sub hl [0, 1, 2, 3, 5] rfl) hP hD hS
set_option maxHeartbeats 4000000 in
set_option maxRecDepth 100000 in
theorem w_X5_lots_48 {p : Program} {l : Launch} {e : Env} {s : State} {m : MethodId} {args : Array Value} {below : List Frame} {meth : Method} {c : Code} {D : va_G} {cI : ClassId} {aS : aSt} {A : Nat → Prop} {Q : State → Prop}  (ad : Nat → Nat) (taped : Int32) (at_ : Int32) (statements : Int32) (hasImage : Int32) (forgottenWhen : Int32) (rowMany : Int32) (x1 : Int32) (x2 : Int32) (x3 : Int32) (refused_u48 : (Nat → Int32)) {R : Int32 × Int32 × Int32 × Int32 × Int32 × (Nat → Int32) × (Nat → Int32) × (Nat → Int32) × (Nat → Int32) × (Nat → Int32) × (Nat → Int32) × (Nat → Int32) × (Nat → Int32)} (X : Bx p s m args meth c cX5_lots 9 (some .int) RX5 D cI aS A) (hret : RtI p l e 6 s m args below meth c cX5_lots (some .int) D A (wd_X5_lots cI ad R.2.1 R.2.2.1 taped at_ statements hasImage R.2.2.2.1 R.2.2.2.2.1 forgottenWhen rowMany R.2.2.2.2.2.1 R.2.2.2.2.2.2.1 R.2.2.2.2.2.2.2.1 R.2.2.2.2.2.2.2.2.1 R.2.2.2.2.2.2.2.2.2.1 R.2.2.2.2.2.2.2.2.2.2.1 R.2.2.2.2.2.2.2.2.2.2.2.1 R.2.2.2.2.2.2.2.2.2.2.2.2) R.1 Q) : ∀ (fuel : Nat) (v5_48 : Int32) (v6_48 : Int32) (v7_48 : Int32) (writers_48 : Int32) (year_48 : Int32) (isKeeping_48 : Int32) (cursor_48 : Int32) (kind_48 : (Nat → Int32)) (figure_48 : (Nat → Int32)) (style_48 : (Nat → Int32)) (fame_48 : (Nat → Int32)) (silent_48 : (Nat → Int32)) (ring_48 : (Nat → Int32)) (kept_48 : (Nat → Int32)) (H : Heap) (locs : List Loc) (ls : Array Slot), f_X5_lots_48 x1 x3 refused_u48  fuel v5_48 v6_48 v7_48 writers_48 year_48 isKeeping_48 cursor_48 kind_48 figure_48 style_48 fame_48 silent_48 ring_48 kept_48 = some R → lv_has ls 9 [(0, .ref (ad 0)), (1, .int x1), (3, .int x3), (5, .int v5_48), (6, .int v6_48), (7, .int v7_48)] → va_P D vwCl (wd_X5_lots cI ad writers_48 year_48 taped at_ statements hasImage isKeeping_48 cursor_48 forgottenWhen rowMany refused_u48 kind_48 figure_48 style_48 fame_48 silent_48 ring_48 kept_48) H → va_D A (wd_X5_lots cI ad writers_48 year_48 taped at_ statements hasImage isKeeping_48 cursor_48 forgottenWhen rowMany refused_u48 kind_48 figure_48 style_48 fame_48 silent_48 ring_48 kept_48) → va_S A s.heap H locs → Wh p l e 6 s m args below meth c H locs Q (F0 m 48 ls []) := by
  have hx := X.1
  have hb := X.2.1
  intro fuel
  induction fuel with
  | zero =>
    intro v5_48 v6_48 v7_48 writers_48 year_48 isKeeping_48 cursor_48 kind_48 figure_48 style_48 fame_48 silent_48 ring_48 kept_48 H locs ls hf hl hP hD hS
    cases hf
  | succ fuel ih =>
    intro v5_48 v6_48 v7_48 writers_48 year_48 isKeeping_48 cursor_48 kind_48 figure_48 style_48 fame_48 silent_48 ring_48 kept_48 H locs ls hf hl hP hD hS
    replace hf : (if x1 ≤ v7_48 then (some (v6_48, writers_48, year_48, isKeeping_48, cursor_48, refused_u48, kind_48, figure_48, style_48, fame_48, silent_48, ring_48, kept_48)) else ((f_X5_thinks writers_48 year_48 isKeeping_48 cursor_48 kind_48 figure_48 style_48 fame_48 silent_48 ring_48 kept_48).bind fun (r55 : Int32 × Int32 × Int32 × Int32 × (Nat → Int32) × (Nat → Int32) × (Nat → Int32) × (Nat → Int32) × (Nat → Int32) × (Nat → Int32) × (Nat → Int32)) => (f_X5_lots_61 r55.1 (fun (v5_108 : Int32) (style_108 : (Nat → Int32)) => (f_X5_lots_108 x3 (f_X5_lots_48 x1 x3 refused_u48  fuel) v5_108 v6_48 v7_48 r55.1 r55.2.1 r55.2.2.1 r55.2.2.2.1 r55.2.2.2.2.1 r55.2.2.2.2.2.1 style_108 r55.2.2.2.2.2.2.2.1 r55.2.2.2.2.2.2.2.2.1 r55.2.2.2.2.2.2.2.2.2.1 r55.2.2.2.2.2.2.2.2.2.2)) FU v5_48 (0 : Int32) r55.2.2.2.2.2.2.1))) = some R := hf
    refine lv_iload hx hb dX5_lots_48 (lv_at hl 5 rfl) ?_
    refine lv_iload_n hx hb dX5_lots_50 rfl (lv_at hl 1 rfl) ?_
    refine lv_icmp_ge (tgt := 148) hx hb dX5_lots_51 (by decide) (fun c51 => ?_) (fun c51 => ?_)
    · have hf := iT c51 hf
      refine lv_iload hx hb dX5_lots_148 (lv_at hl 4 rfl) ?_
      have hR := Option.some.inj hf
      subst hR
      exact hret _ _ _ _ _ rfl (fun _ hn => by cases hn; rfl) hP hD hS dX5_lots_150
    · have hf := iF c51 hf
      refine lv_aload_n hx hb dX5_lots_54 rfl (lv_at hl 0 rfl) ?_
      obtain ⟨r55, hq55, hf⟩ := bS hf
      refine wr_v X hP hD hS [0, 2, 3, 4, 5, 6, 7, 8] rfl (ws' := (wd_X5_lots cI ad r55.1 r55.2.1 taped at_ statements hasImage r55.2.2.1 r55.2.2.2.1 forgottenWhen rowMany refused_u48 r55.2.2.2.2.1 r55.2.2.2.2.2.1 r55.2.2.2.2.2.2.1 r55.2.2.2.2.2.2.2.1 r55.2.2.2.2.2.2.2.2.1 r55.2.2.2.2.2.2.2.2.2.1 r55.2.2.2.2.2.2.2.2.2.2)) (Nat.le_of_ble_eq_true rfl) rfl rfl (run_V X hP hD hS [0, 2, 3, 4, 5, 6, 7, 8] rfl rfl (c_X5_thinks l D cI aS ad writers_48 year_48 taped at_ statements hasImage isKeeping_48 cursor_48 forgottenWhen rowMany kind_48 figure_48 style_48 fame_48 silent_48 ring_48 kept_48 _ hq55 _) lkX5_200 (by decide) (q0 := 0) rfl rfl rfl rfl (Nat.le_of_ble_eq_true rfl) hl.1 dX5_lots_55) (fun H locs hP hD hS => ?_)
      refine lv_iconst (v := 0) hx hb dX5_lots_58 (by decide) ?_
      refine lv_istore (lv' := [(8, .int (0 : Int32)), (0, .ref (ad 0)), (1, .int x1), (3, .int x3), (5, .int v5_48), (6, .int v6_48), (7, .int v7_48)]) hx hb dX5_lots_59 hl (by decide) rfl (fun ls hl => ?_)
      exact w_X5_lots_61 ad taped at_ statements hasImage forgottenWhen rowMany x1 x2 x3 refused_u48 v6_48 v7_48 r55.1 r55.2.1 r55.2.2.1 r55.2.2.2.1 r55.2.2.2.2.1 r55.2.2.2.2.2.1 r55.2.2.2.2.2.2.2.1 r55.2.2.2.2.2.2.2.2.1 r55.2.2.2.2.2.2.2.2.2.1 r55.2.2.2.2.2.2.2.2.2.2 X hret _ (fun v5_108 style_108 _ _ _ hf hl hP hD hS => w_X5_lots_108 ad taped at_ statements hasImage forgottenWhen rowMany x1 x2 x3 refused_u48 X hret _ ih v5_108 v6_48 v7_48 r55.1 r55.2.1 r55.2.2.1 r55.2.2.2.1 r55.2.2.2.2.1 r55.2.2.2.2.2.1 style_108 r55.2.2.2.2.2.2.2.1 r55.2.2.2.2.2.2.2.2.1 r55.2.2.2.2.2.2.2.2.2.1 r55.2.2.2.2.2.2.2.2.2.2 _ _ _ hf (lv_sub hl [0, 1, 2, 3, 4, 5] rfl) hP hD hS) _ v5_48 (0 : Int32) r55.2.2.2.2.2.2.1 _ _ _ hf (lv_sub hl [1, 2, 3, 4, 5, 6, 0] rfl) hP hD hS
set_option maxHeartbeats 4000000 in
set_option maxRecDepth 100000 in
theorem w_X5_lots_27 {p : Program} {l : Launch} {e : Env} {s : State} {m : MethodId} {args : Array Value} {below : List Frame} {meth : Method} {c : Code} {D : va_G} {cI : ClassId} {aS : aSt} {A : Nat → Prop} {Q : State → Prop}  (ad : Nat → Nat) (taped : Int32) (at_ : Int32) (statements : Int32) (hasImage : Int32) (forgottenWhen : Int32) (rowMany : Int32) (x1 : Int32) (x2 : Int32) (x3 : Int32) {R : Int32 × Int32 × Int32 × Int32 × Int32 × (Nat → Int32) × (Nat → Int32) × (Nat → Int32) × (Nat → Int32) × (Nat → Int32) × (Nat → Int32) × (Nat → Int32) × (Nat → Int32)} (X : Bx p s m args meth c cX5_lots 9 (some .int) RX5 D cI aS A) (hret : RtI p l e 6 s m args below meth c cX5_lots (some .int) D A (wd_X5_lots cI ad R.2.1 R.2.2.1 taped at_ statements hasImage R.2.2.2.1 R.2.2.2.2.1 forgottenWhen rowMany R.2.2.2.2.2.1 R.2.2.2.2.2.2.1 R.2.2.2.2.2.2.2.1 R.2.2.2.2.2.2.2.2.1 R.2.2.2.2.2.2.2.2.2.1 R.2.2.2.2.2.2.2.2.2.2.1 R.2.2.2.2.2.2.2.2.2.2.2.1 R.2.2.2.2.2.2.2.2.2.2.2.2) R.1 Q) : ∀ (v4_27 : Int32) (writers_27 : Int32) (year_27 : Int32) (isKeeping_27 : Int32) (cursor_27 : Int32) (refused_27 : (Nat → Int32)) (kind_27 : (Nat → Int32)) (figure_27 : (Nat → Int32)) (style_27 : (Nat → Int32)) (fame_27 : (Nat → Int32)) (silent_27 : (Nat → Int32)) (ring_27 : (Nat → Int32)) (kept_27 : (Nat → Int32)) (H : Heap) (locs : List Loc) (ls : Array Slot), f_X5_lots_27 x1 x2 x3  v4_27 writers_27 year_27 isKeeping_27 cursor_27 refused_27 kind_27 figure_27 style_27 fame_27 silent_27 ring_27 kept_27 = some R → lv_has ls 9 [(0, .ref (ad 0)), (1, .int x1), (2, .int x2), (3, .int x3), (4, .int v4_27)] → va_P D vwCl (wd_X5_lots cI ad writers_27 year_27 taped at_ statements hasImage isKeeping_27 cursor_27 forgottenWhen rowMany refused_27 kind_27 figure_27 style_27 fame_27 silent_27 ring_27 kept_27) H → va_D A (wd_X5_lots cI ad writers_27 year_27 taped at_ statements hasImage isKeeping_27 cursor_27 forgottenWhen rowMany refused_27 kind_27 figure_27 style_27 fame_27 silent_27 ring_27 kept_27) → va_S A s.heap H locs → Wh p l e 6 s m args below meth c H locs Q (F0 m 27 ls []) := by
  have hx := X.1
  have hb := X.2.1
  intro v4_27 writers_27 year_27 isKeeping_27 cursor_27 refused_27 kind_27 figure_27 style_27 fame_27 silent_27 ring_27 kept_27 H locs ls hf hl hP hD hS
  replace hf : (if v4_27 = 0 then (f_X5_lots_48 x1 x3 refused_27  FU x2 (0 : Int32) (0 : Int32) writers_27 year_27 isKeeping_27 cursor_27 kind_27 figure_27 style_27 fame_27 silent_27 ring_27 kept_27) else ((f_X5_no refused_27 v4_27).bind fun (r35 : Int32 × (Nat → Int32)) => (some (r35.1, writers_27, year_27, isKeeping_27, cursor_27, r35.2, kind_27, figure_27, style_27, fame_27, silent_27, ring_27, kept_27)))) = some R := hf
  refine lv_iload hx hb dX5_lots_27 (lv_at hl 4 rfl) ?_
  refine lv_if_eq (tgt := 39) hx hb dX5_lots_29 (by decide) (fun c29 => ?_) (fun c29 => ?_)
  · have hf := iT c29 hf
    refine lv_iload_n hx hb dX5_lots_39 rfl (lv_at hl 2 rfl) ?_
    refine lv_istore (lv' := [(5, .int x2), (0, .ref (ad 0)), (1, .int x1), (2, .int x2), (3, .int x3), (4, .int v4_27)]) hx hb dX5_lots_40 hl (by decide) rfl (fun ls hl => ?_)
    refine lv_iconst (v := 0) hx hb dX5_lots_42 (by decide) ?_
    refine lv_istore (lv' := [(6, .int (0 : Int32)), (5, .int x2), (0, .ref (ad 0)), (1, .int x1), (2, .int x2), (3, .int x3), (4, .int v4_27)]) hx hb dX5_lots_43 hl (by decide) rfl (fun ls hl => ?_)
    refine lv_iconst (v := 0) hx hb dX5_lots_45 (by decide) ?_
    refine lv_istore (lv' := [(7, .int (0 : Int32)), (6, .int (0 : Int32)), (5, .int x2), (0, .ref (ad 0)), (1, .int x1), (2, .int x2), (3, .int x3), (4, .int v4_27)]) hx hb dX5_lots_46 hl (by decide) rfl (fun ls hl => ?_)
    exact w_X5_lots_48 ad taped at_ statements hasImage forgottenWhen rowMany x1 x2 x3 refused_27 X hret  _ x2 (0 : Int32) (0 : Int32) writers_27 year_27 isKeeping_27 cursor_27 kind_27 figure_27 style_27 fame_27 silent_27 ring_27 kept_27 _ _ _ hf (lv_sub hl [3, 4, 6, 2, 1, 0] rfl) hP hD hS
  · have hf := iF c29 hf
    refine lv_aload_n hx hb dX5_lots_32 rfl (lv_at hl 0 rfl) ?_
    refine lv_iload hx hb dX5_lots_33 (lv_at hl 4 rfl) ?_
    obtain ⟨r35, hq35, hf⟩ := bS hf
    refine wr_i X hP hD hS [0, 1] rfl (ws' := (wd_X5_lots cI ad writers_27 year_27 taped at_ statements hasImage isKeeping_27 cursor_27 forgottenWhen rowMany r35.2 kind_27 figure_27 style_27 fame_27 silent_27 ring_27 kept_27)) (Nat.le_of_ble_eq_true rfl) rfl rfl (run_V X hP hD hS [0, 1] rfl rfl (c_X5_no l D cI aS ad writers_27 year_27 taped at_ statements hasImage isKeeping_27 cursor_27 forgottenWhen rowMany refused_27 v4_27 _ hq35 _) lkX5_69 (by decide) (q0 := 0) rfl rfl rfl rfl (Nat.le_of_ble_eq_true rfl) hl.1 dX5_lots_35) (fun H locs hP hD hS => ?_)
    have hR := Option.some.inj hf
    subst hR
    exact hret _ _ _ _ _ rfl (fun _ hn => by cases hn; rfl) hP hD hS dX5_lots_38
set_option maxHeartbeats 4000000 in
set_option maxRecDepth 100000 in
theorem c_X5_lots (l : Launch) (D : va_G) (cI : ClassId) (aS : aSt) (ad : Nat → Nat) (writers : Int32) (year : Int32) (taped : Int32) (at_ : Int32) (statements : Int32) (hasImage : Int32) (isKeeping : Int32) (cursor : Int32) (forgottenWhen : Int32) (rowMany : Int32) (refused : (Nat → Int32)) (kind : (Nat → Int32)) (figure : (Nat → Int32)) (style : (Nat → Int32)) (fame : (Nat → Int32)) (silent : (Nat → Int32)) (ring : (Nat → Int32)) (kept : (Nat → Int32)) (x1 : Int32) (x2 : Int32) (x3 : Int32) (R : Int32 × Int32 × Int32 × Int32 × Int32 × (Nat → Int32) × (Nat → Int32) × (Nat → Int32) × (Nat → Int32) × (Nat → Int32) × (Nat → Int32) × (Nat → Int32) × (Nat → Int32)) (hf : f_X5_lots writers year isKeeping cursor refused kind figure style fame silent ring kept x1 x2 x3 = some R) : CtI l yX5_lots cX5_lots 9 (some .int) 6 D cI aS [.ref (ad 0), .int x1, .int x2, .int x3] (wd_X5_lots cI ad writers year taped at_ statements hasImage isKeeping cursor forgottenWhen rowMany refused kind figure style fame silent ring kept) (wd_X5_lots cI ad R.2.1 R.2.2.1 taped at_ statements hasImage R.2.2.2.1 R.2.2.2.2.1 forgottenWhen rowMany R.2.2.2.2.2.1 R.2.2.2.2.2.2.1 R.2.2.2.2.2.2.2.1 R.2.2.2.2.2.2.2.2.1 R.2.2.2.2.2.2.2.2.2.1 R.2.2.2.2.2.2.2.2.2.2.1 R.2.2.2.2.2.2.2.2.2.2.2.1 R.2.2.2.2.2.2.2.2.2.2.2.2) R.1 := by
  refine ctI_of (by decide) ⟨_, rfl⟩ (Nat.le_of_ble_eq_true rfl) ?_
  intro p e s m below meth c A Q ls X hret hP hD hl
  have hS : va_S A s.heap s.heap [] := va_S.rf
  have hx := X.1
  have hb := X.2.1
  have hl : lv_has ls 9 [(0, .ref (ad 0)), (1, .int x1), (2, .int x2), (3, .int x3)] := hl
  replace hf : ((f_X5_bound x1 (1 : Int32) (20 : Int32)).bind fun (r4 : Int32) => (if r4 = 0 then ((f_X5_isIn x3 (0 : Int32) (1 : Int32)).bind fun (r17 : Int32) => (if r17 = 0 then (f_X5_lots_27 x1 x2 x3  (-2 : Int32) writers year isKeeping cursor refused kind figure style fame silent ring kept) else (f_X5_lots_27 x1 x2 x3  r4 writers year isKeeping cursor refused kind figure style fame silent ring kept))) else (f_X5_lots_27 x1 x2 x3  r4 writers year isKeeping cursor refused kind figure style fame silent ring kept))) = some R := hf
  refine lv_iload_n hx hb dX5_lots_0 rfl (lv_at hl 1 rfl) ?_
  refine lv_iconst (v := 1) hx hb dX5_lots_1 (by decide) ?_
  refine lv_bipush (v := 20) hx hb dX5_lots_2 (by decide) ?_
  obtain ⟨r4, hq4, hf⟩ := bS hf
  refine ro_i X hP hD hS [] rfl (run_S X hP hD hS [] rfl rfl (c_X5_bound l D cI aS x1 (1 : Int32) (20 : Int32) _ hq4 _) lkX5_62 (by decide) rfl rfl (Nat.le_of_ble_eq_true rfl) hl.1 dX5_lots_4) (fun H locs hP hS => ?_)
  refine lv_istore (lv' := [(4, .int r4), (0, .ref (ad 0)), (1, .int x1), (2, .int x2), (3, .int x3)]) hx hb dX5_lots_7 hl (by decide) rfl (fun ls hl => ?_)
  refine lv_iload hx hb dX5_lots_9 (lv_at hl 0 rfl) ?_
  refine lv_if_ne (tgt := 27) hx hb dX5_lots_11 (by decide) (fun c11 => ?_) (fun c11 => ?_)
  · have hf := iF c11 hf
    exact w_X5_lots_27 ad taped at_ statements hasImage forgottenWhen rowMany x1 x2 x3 X hret  r4 writers year isKeeping cursor refused kind figure style fame silent ring kept _ _ _ hf (lv_sub hl [1, 2, 3, 4, 0] rfl) hP hD hS
  · have hf := iT c11 hf
    refine lv_iload_n hx hb dX5_lots_14 rfl (lv_at hl 4 rfl) ?_
    refine lv_iconst (v := 0) hx hb dX5_lots_15 (by decide) ?_
    refine lv_iconst (v := 1) hx hb dX5_lots_16 (by decide) ?_
    obtain ⟨r17, hq17, hf⟩ := bS hf
    refine ro_i X hP hD hS [] rfl (run_S X hP hD hS [] rfl rfl (c_X5_isIn l D cI aS x3 (0 : Int32) (1 : Int32) _ hq17 _) lkX5_80 (by decide) rfl rfl (Nat.le_of_ble_eq_true rfl) hl.1 dX5_lots_17) (fun H locs hP hS => ?_)
    refine lv_if_ne (tgt := 27) hx hb dX5_lots_20 (by decide) (fun c20 => ?_) (fun c20 => ?_)
    · have hf := iF c20 hf
      exact w_X5_lots_27 ad taped at_ statements hasImage forgottenWhen rowMany x1 x2 x3 X hret  r4 writers year isKeeping cursor refused kind figure style fame silent ring kept _ _ _ hf (lv_sub hl [1, 2, 3, 4, 0] rfl) hP hD hS
    · have hf := iT c20 hf
      refine lv_bipush (v := -2) hx hb dX5_lots_23 (by decide) ?_
      refine lv_istore (lv' := [(4, .int (-2 : Int32)), (0, .ref (ad 0)), (1, .int x1), (2, .int x2), (3, .int x3)]) hx hb dX5_lots_25 hl (by decide) rfl (fun ls hl => ?_)
      exact w_X5_lots_27 ad taped at_ statements hasImage forgottenWhen rowMany x1 x2 x3 X hret  (-2 : Int32) writers year isKeeping cursor refused kind figure style fame silent ring kept _ _ _ hf (lv_sub hl [1, 2, 3, 4, 0] rfl) hP hD hS

abbrev wd_X5_mean (cI : ClassId) (ad : Nat → Nat) (writers : Int32) (year : Int32) (taped : Int32) (at_ : Int32) (statements : Int32) (hasImage : Int32) (isKeeping : Int32) (cursor : Int32) (forgottenWhen : Int32) (rowMany : Int32) (refused : (Nat → Int32)) (fame : (Nat → Int32)) : va_W := [((ad 0), .inr (5, [.ref (ad 1), .ref (ad 2), .ref (ad 3), .ref (ad 4), .ref (ad 5), .ref (ad 6), .ref (ad 7), .int writers, .int year, .ref (ad 8), .ref (ad 9), .ref (ad 10), .ref (ad 11), .int taped, .int at_, .int statements, .ref (ad 12), .int hasImage, .int isKeeping, .int cursor, .int forgottenWhen, .ref (ad 13), .ref (ad 14), .ref (ad 15), .int rowMany])), ((ad 1), .inl (cI, 7, .inl refused)), ((ad 5), .inl (cI, 7, .inl fame))]
def f_X5_mean (writers : Int32) (refused : (Nat → Int32)) (fame : (Nat → Int32)) (x1 : Int32) : Option (Int64 × (Nat → Int32)) := ((f_X5_isIn x1 (0 : Int32) (1 : Int32)).bind fun (r3 : Int32) => (if r3 = 0 then ((f_X5_lowestOf refused (-2 : Int32)).bind fun (r12 : Int64 × (Nat → Int32)) => (some (r12.1, r12.2))) else (if writers = 0 then (some ((Int32.toInt64 x1), refused)) else ((f_X5_allOf 7 writers fame).bind fun (r33 : Int32) => ((f_X5_partOf (Int32.toInt64 r33) (Int32.toInt64 writers) x1).bind fun (r43 : Int64) => (some (r43, refused)))))))
set_option maxHeartbeats 4000000 in
set_option maxRecDepth 100000 in
theorem c_X5_mean (l : Launch) (D : va_G) (cI : ClassId) (aS : aSt) (ad : Nat → Nat) (writers : Int32) (year : Int32) (taped : Int32) (at_ : Int32) (statements : Int32) (hasImage : Int32) (isKeeping : Int32) (cursor : Int32) (forgottenWhen : Int32) (rowMany : Int32) (refused : (Nat → Int32)) (fame : (Nat → Int32)) (x1 : Int32) (R : Int64 × (Nat → Int32)) (hf : f_X5_mean writers refused fame x1 = some R) : CtL l yX5_mean cX5_mean 2 (some .long) 2 D cI aS [.ref (ad 0), .int x1] (wd_X5_mean cI ad writers year taped at_ statements hasImage isKeeping cursor forgottenWhen rowMany refused fame) (wd_X5_mean cI ad writers year taped at_ statements hasImage isKeeping cursor forgottenWhen rowMany R.2 fame) R.1 := by
  refine ctL_of (by decide) rfl (Nat.le_of_ble_eq_true rfl) ?_
  intro p e s m below meth c A Q ls X hret hP hD hl
  have hS : va_S A s.heap s.heap [] := va_S.rf
  have hx := X.1
  have hb := X.2.1
  have hl : lv_has ls 2 [(0, .ref (ad 0)), (1, .int x1)] := hl
  replace hf : ((f_X5_isIn x1 (0 : Int32) (1 : Int32)).bind fun (r3 : Int32) => (if r3 = 0 then ((f_X5_lowestOf refused (-2 : Int32)).bind fun (r12 : Int64 × (Nat → Int32)) => (some (r12.1, r12.2))) else (if writers = 0 then (some ((Int32.toInt64 x1), refused)) else ((f_X5_allOf 7 writers fame).bind fun (r33 : Int32) => ((f_X5_partOf (Int32.toInt64 r33) (Int32.toInt64 writers) x1).bind fun (r43 : Int64) => (some (r43, refused))))))) = some R := hf
  refine lv_iload_n hx hb dX5_mean_0 rfl (lv_at hl 1 rfl) ?_
  refine lv_iconst (v := 0) hx hb dX5_mean_1 (by decide) ?_
  refine lv_iconst (v := 1) hx hb dX5_mean_2 (by decide) ?_
  obtain ⟨r3, hq3, hf⟩ := bS hf
  refine ro_i X hP hD hS [] rfl (run_S X hP hD hS [] rfl rfl (c_X5_isIn l D cI aS x1 (0 : Int32) (1 : Int32) _ hq3 _) lkX5_80 (by decide) rfl rfl (Nat.le_of_ble_eq_true rfl) hl.1 dX5_mean_3) (fun H locs hP hS => ?_)
  refine lv_if_ne (tgt := 16) hx hb dX5_mean_6 (by decide) (fun c6 => ?_) (fun c6 => ?_)
  · have hf := iF c6 hf
    refine lv_aload_n hx hb dX5_mean_16 rfl (lv_at hl 0 rfl) ?_
    refine fgX5_55 X hP (q0 := 0) rfl rfl dX5_mean_17 ?_
    refine lv_if_ne (tgt := 28) hx hb dX5_mean_20 (by decide) (fun c20 => ?_) (fun c20 => ?_)
    · have hf := iF c20 hf
      refine lv_aload_n hx hb dX5_mean_28 rfl (lv_at hl 0 rfl) ?_
      refine lv_aload_n hx hb dX5_mean_29 rfl (lv_at hl 0 rfl) ?_
      refine fgX5_22 X hP (q0 := 0) rfl rfl dX5_mean_30 ?_
      obtain ⟨r33, hq33, hf⟩ := bS hf
      refine ro_i X hP hD hS [0, 2] rfl (run_V X hP hD hS [0, 2] rfl rfl (c_X5_allOf l D cI aS ad (fun k => ad (5 + k)) 7 writers year taped at_ statements hasImage isKeeping cursor forgottenWhen rowMany fame _ hq33 _) lkX5_196 (by decide) (q0 := 0) rfl rfl rfl rfl (Nat.le_of_ble_eq_true rfl) hl.1 dX5_mean_33) (fun H locs hP hS => ?_)
      refine lv_i2l hx hb dX5_mean_36 rfl ?_
      refine lv_aload_n hx hb dX5_mean_37 rfl (lv_at hl 0 rfl) ?_
      refine fgX5_55 X hP (q0 := 0) rfl rfl dX5_mean_38 ?_
      refine lv_i2l hx hb dX5_mean_41 rfl ?_
      refine lv_iload_n hx hb dX5_mean_42 rfl (lv_at hl 1 rfl) ?_
      obtain ⟨r43, hq43, hf⟩ := bS hf
      refine ro_l X hP hD hS [] rfl (run_S X hP hD hS [] rfl rfl (c_X5_partOf l D cI aS (Int32.toInt64 r33) (Int32.toInt64 writers) x1 _ hq43 _) lkX5_253 (by decide) rfl rfl (Nat.le_of_ble_eq_true rfl) hl.1 dX5_mean_43) (fun H locs hP hS => ?_)
      have hR := Option.some.inj hf
      subst hR
      exact hret _ _ _ _ _ rfl hP hD hS dX5_mean_46
    · have hf := iT c20 hf
      refine lv_iload_n hx hb dX5_mean_23 rfl (lv_at hl 1 rfl) ?_
      refine lv_i2l hx hb dX5_mean_24 rfl ?_
      refine lv_goto (tgt := 46) hx hb dX5_mean_25 (by decide) ?_
      have hR := Option.some.inj hf
      subst hR
      exact hret _ _ _ _ _ rfl hP hD hS dX5_mean_46
  · have hf := iT c6 hf
    refine lv_aload_n hx hb dX5_mean_9 rfl (lv_at hl 0 rfl) ?_
    refine lv_bipush (v := -2) hx hb dX5_mean_10 (by decide) ?_
    obtain ⟨r12, hq12, hf⟩ := bS hf
    refine wr_l X hP hD hS [0, 1] rfl (ws' := (wd_X5_mean cI ad writers year taped at_ statements hasImage isKeeping cursor forgottenWhen rowMany r12.2 fame)) (Nat.le_of_ble_eq_true rfl) rfl rfl (run_V X hP hD hS [0, 1] rfl rfl (c_X5_lowestOf l D cI aS ad writers year taped at_ statements hasImage isKeeping cursor forgottenWhen rowMany refused (-2 : Int32) _ hq12 _) lkX5_249 (by decide) (q0 := 0) rfl rfl rfl rfl (Nat.le_of_ble_eq_true rfl) hl.1 dX5_mean_12) (fun H locs hP hD hS => ?_)
    have hR := Option.some.inj hf
    subst hR
    exact hret _ _ _ _ _ rfl hP hD hS dX5_mean_15

abbrev wd_X5_moves (cI : ClassId) (ad : Nat → Nat) (writers : Int32) (year : Int32) (taped : Int32) (at_ : Int32) (statements : Int32) (hasImage : Int32) (isKeeping : Int32) (cursor : Int32) (forgottenWhen : Int32) (rowMany : Int32) (refused : (Nat → Int32)) (ring : (Nat → Int32)) : va_W := [((ad 0), .inr (5, [.ref (ad 1), .ref (ad 2), .ref (ad 3), .ref (ad 4), .ref (ad 5), .ref (ad 6), .ref (ad 7), .int writers, .int year, .ref (ad 8), .ref (ad 9), .ref (ad 10), .ref (ad 11), .int taped, .int at_, .int statements, .ref (ad 12), .int hasImage, .int isKeeping, .int cursor, .int forgottenWhen, .ref (ad 13), .ref (ad 14), .ref (ad 15), .int rowMany])), ((ad 1), .inl (cI, 7, .inl refused)), ((ad 7), .inl (cI, 7, .inl ring))]
def f_X5_moves (writers : Int32) (refused : (Nat → Int32)) (ring : (Nat → Int32)) (x1 : Int32) : Option (Int32 × (Nat → Int32)) := ((f_X5_isOne writers x1).bind fun (r2 : Int32) => (if r2 = 0 then ((f_X5_no refused (-1 : Int32)).bind fun (r18 : Int32 × (Nat → Int32)) => (some (r18.1, r18.2))) else ((f_X5_placeOf ring x1).bind fun (r10 : Int32) => (some (r10, refused)))))
set_option maxHeartbeats 4000000 in
set_option maxRecDepth 100000 in
theorem c_X5_moves (l : Launch) (D : va_G) (cI : ClassId) (aS : aSt) (ad : Nat → Nat) (writers : Int32) (year : Int32) (taped : Int32) (at_ : Int32) (statements : Int32) (hasImage : Int32) (isKeeping : Int32) (cursor : Int32) (forgottenWhen : Int32) (rowMany : Int32) (refused : (Nat → Int32)) (ring : (Nat → Int32)) (x1 : Int32) (R : Int32 × (Nat → Int32)) (hf : f_X5_moves writers refused ring x1 = some R) : CtI l yX5_moves cX5_moves 2 (some .int) 1 D cI aS [.ref (ad 0), .int x1] (wd_X5_moves cI ad writers year taped at_ statements hasImage isKeeping cursor forgottenWhen rowMany refused ring) (wd_X5_moves cI ad writers year taped at_ statements hasImage isKeeping cursor forgottenWhen rowMany R.2 ring) R.1 := by
  refine ctI_of (by decide) ⟨_, rfl⟩ (Nat.le_of_ble_eq_true rfl) ?_
  intro p e s m below meth c A Q ls X hret hP hD hl
  have hS : va_S A s.heap s.heap [] := va_S.rf
  have hx := X.1
  have hb := X.2.1
  have hl : lv_has ls 2 [(0, .ref (ad 0)), (1, .int x1)] := hl
  replace hf : ((f_X5_isOne writers x1).bind fun (r2 : Int32) => (if r2 = 0 then ((f_X5_no refused (-1 : Int32)).bind fun (r18 : Int32 × (Nat → Int32)) => (some (r18.1, r18.2))) else ((f_X5_placeOf ring x1).bind fun (r10 : Int32) => (some (r10, refused))))) = some R := hf
  refine lv_aload_n hx hb dX5_moves_0 rfl (lv_at hl 0 rfl) ?_
  refine lv_iload_n hx hb dX5_moves_1 rfl (lv_at hl 1 rfl) ?_
  obtain ⟨r2, hq2, hf⟩ := bS hf
  refine ro_i X hP hD hS [0] rfl (run_V X hP hD hS [0] rfl rfl (c_X5_isOne l D cI aS ad writers year taped at_ statements hasImage isKeeping cursor forgottenWhen rowMany x1 _ hq2 _) lkX5_108 (by decide) (q0 := 0) rfl rfl rfl rfl (Nat.le_of_ble_eq_true rfl) hl.1 dX5_moves_2) (fun H locs hP hS => ?_)
  refine lv_if_eq (tgt := 16) hx hb dX5_moves_5 (by decide) (fun c5 => ?_) (fun c5 => ?_)
  · have hf := iT c5 hf
    refine lv_aload_n hx hb dX5_moves_16 rfl (lv_at hl 0 rfl) ?_
    refine lv_iconst (v := -1) hx hb dX5_moves_17 (by decide) ?_
    obtain ⟨r18, hq18, hf⟩ := bS hf
    refine wr_i X hP hD hS [0, 1] rfl (ws' := (wd_X5_moves cI ad writers year taped at_ statements hasImage isKeeping cursor forgottenWhen rowMany r18.2 ring)) (Nat.le_of_ble_eq_true rfl) rfl rfl (run_V X hP hD hS [0, 1] rfl rfl (c_X5_no l D cI aS ad writers year taped at_ statements hasImage isKeeping cursor forgottenWhen rowMany refused (-1 : Int32) _ hq18 _) lkX5_69 (by decide) (q0 := 0) rfl rfl rfl rfl (Nat.le_of_ble_eq_true rfl) hl.1 dX5_moves_18) (fun H locs hP hD hS => ?_)
    have hR := Option.some.inj hf
    subst hR
    exact hret _ _ _ _ _ rfl (fun _ hn => by cases hn; rfl) hP hD hS dX5_moves_21
  · have hf := iF c5 hf
    refine lv_aload_n hx hb dX5_moves_8 rfl (lv_at hl 0 rfl) ?_
    refine lv_iload_n hx hb dX5_moves_9 rfl (lv_at hl 1 rfl) ?_
    obtain ⟨r10, hq10, hf⟩ := bS hf
    refine ro_i X hP hD hS [0, 2] rfl (run_V X hP hD hS [0, 2] rfl rfl (c_X5_placeOf l D cI aS ad writers year taped at_ statements hasImage isKeeping cursor forgottenWhen rowMany ring x1 _ hq10 _) lkX5_159 (by decide) (q0 := 0) rfl rfl rfl rfl (Nat.le_of_ble_eq_true rfl) hl.1 dX5_moves_10) (fun H locs hP hS => ?_)
    refine lv_goto (tgt := 21) hx hb dX5_moves_13 (by decide) ?_
    have hR := Option.some.inj hf
    subst hR
    exact hret _ _ _ _ _ rfl (fun _ hn => by cases hn; rfl) hP hD hS dX5_moves_21

abbrev wd_X5_mutual (cI : ClassId) (ad : Nat → Nat) (writers : Int32) (year : Int32) (taped : Int32) (at_ : Int32) (statements : Int32) (hasImage : Int32) (isKeeping : Int32) (cursor : Int32) (forgottenWhen : Int32) (rowMany : Int32) (silent : (Nat → Int32)) (ring : (Nat → Int32)) : va_W := [((ad 0), .inr (5, [.ref (ad 1), .ref (ad 2), .ref (ad 3), .ref (ad 4), .ref (ad 5), .ref (ad 6), .ref (ad 7), .int writers, .int year, .ref (ad 8), .ref (ad 9), .ref (ad 10), .ref (ad 11), .int taped, .int at_, .int statements, .ref (ad 12), .int hasImage, .int isKeeping, .int cursor, .int forgottenWhen, .ref (ad 13), .ref (ad 14), .ref (ad 15), .int rowMany])), ((ad 6), .inl (cI, 7, .inl silent)), ((ad 7), .inl (cI, 7, .inl ring))]
def f_X5_mutual_39  (kL16 : Int32 → Int32 → Option (Int32)) (v3_39 : Int32) (t0_39 : Int32) (t1_39 : Int32) : Option (Int32) := (kL16 (t0_39 + t1_39) (v3_39 + (1 : Int32)))
def f_X5_mutual_16 (writers : Int32) (silent : (Nat → Int32)) (ring : (Nat → Int32)) (u2_16 : Int32) (kX16_47 : Int32 → Option (Int32)) : Nat → Int32 → Int32 → Option (Int32)
  | 0 => fun _ _ => none
  | fuel + 1 => fun v1_16 v3_16 => (if writers ≤ v3_16 then (kX16_47 v1_16) else ((f_X5_areMutual writers silent ring u2_16 v3_16).bind fun (r28 : Int32) => (if r28 = 0 then (f_X5_mutual_39  (f_X5_mutual_16 writers silent ring u2_16 kX16_47 fuel) v3_16 v1_16 (0 : Int32)) else (f_X5_mutual_39  (f_X5_mutual_16 writers silent ring u2_16 kX16_47 fuel) v3_16 v1_16 (1 : Int32)))))
theorem e_X5_mutual_16 (writers : Int32) (silent : (Nat → Int32)) (ring : (Nat → Int32)) (u2_16 : Int32) (kX16_47 : Int32 → Option (Int32)) (fuel : Nat) (v1_16 : Int32) (v3_16 : Int32) : f_X5_mutual_16 writers silent ring u2_16 kX16_47 (fuel + 1) v1_16 v3_16 = (if writers ≤ v3_16 then (kX16_47 v1_16) else ((f_X5_areMutual writers silent ring u2_16 v3_16).bind fun (r28 : Int32) => (if r28 = 0 then (f_X5_mutual_39  (f_X5_mutual_16 writers silent ring u2_16 kX16_47 fuel) v3_16 v1_16 (0 : Int32)) else (f_X5_mutual_39  (f_X5_mutual_16 writers silent ring u2_16 kX16_47 fuel) v3_16 v1_16 (1 : Int32))))) := rfl
def f_X5_mutual_47  (kL4 : Int32 → Int32 → Option (Int32)) (v1_47 : Int32) (v2_47 : Int32) : Option (Int32) := (kL4 v1_47 (v2_47 + (1 : Int32)))
def f_X5_mutual_4 (writers : Int32) (silent : (Nat → Int32)) (ring : (Nat → Int32))  : Nat → Int32 → Int32 → Option (Int32)
  | 0 => fun _ _ => none
  | fuel + 1 => fun v1_4 v2_4 => (if writers ≤ v2_4 then (some v1_4) else (f_X5_mutual_16 writers silent ring v2_4 (fun (v1_47 : Int32) => (f_X5_mutual_47  (f_X5_mutual_4 writers silent ring  fuel) v1_47 v2_4)) FU v1_4 (v2_4 + (1 : Int32))))
theorem e_X5_mutual_4 (writers : Int32) (silent : (Nat → Int32)) (ring : (Nat → Int32))  (fuel : Nat) (v1_4 : Int32) (v2_4 : Int32) : f_X5_mutual_4 writers silent ring  (fuel + 1) v1_4 v2_4 = (if writers ≤ v2_4 then (some v1_4) else (f_X5_mutual_16 writers silent ring v2_4 (fun (v1_47 : Int32) => (f_X5_mutual_47  (f_X5_mutual_4 writers silent ring  fuel) v1_47 v2_4)) FU v1_4 (v2_4 + (1 : Int32)))) := rfl
def f_X5_mutual (writers : Int32) (silent : (Nat → Int32)) (ring : (Nat → Int32)) : Option (Int32) := (f_X5_mutual_4 writers silent ring  FU (0 : Int32) (0 : Int32))
set_option maxHeartbeats 4000000 in
set_option maxRecDepth 100000 in
theorem w_X5_mutual_39 {p : Program} {l : Launch} {e : Env} {s : State} {m : MethodId} {args : Array Value} {below : List Frame} {meth : Method} {c : Code} {D : va_G} {cI : ClassId} {aS : aSt} {A : Nat → Prop} {Q : State → Prop}  (ad : Nat → Nat) (writers : Int32) (year : Int32) (taped : Int32) (at_ : Int32) (statements : Int32) (hasImage : Int32) (isKeeping : Int32) (cursor : Int32) (forgottenWhen : Int32) (rowMany : Int32) (silent : (Nat → Int32)) (ring : (Nat → Int32)) (u2_16 : Int32) {R : Int32} (X : Bx p s m args meth c cX5_mutual 4 (some .int) RX5 D cI aS A) (hret : RtI p l e 3 s m args below meth c cX5_mutual (some .int) D A (wd_X5_mutual cI ad writers year taped at_ statements hasImage isKeeping cursor forgottenWhen rowMany silent ring) R Q) (kL16 : Int32 → Int32 → Option (Int32)) (hkL16 : ∀ (v1_16 : Int32) (v3_16 : Int32) (H : Heap) (locs : List Loc) (ls : Array Slot), kL16 v1_16 v3_16 = some R → lv_has ls 4 [(0, .ref (ad 0)), (1, .int v1_16), (2, .int u2_16), (3, .int v3_16)] → va_P D vwCl (wd_X5_mutual cI ad writers year taped at_ statements hasImage isKeeping cursor forgottenWhen rowMany silent ring) H → va_D A (wd_X5_mutual cI ad writers year taped at_ statements hasImage isKeeping cursor forgottenWhen rowMany silent ring) → va_S A s.heap H locs → Wh p l e 3 s m args below meth c H locs Q (F0 m 16 ls [])) : ∀ (v3_39 : Int32) (t0_39 : Int32) (t1_39 : Int32) (H : Heap) (locs : List Loc) (ls : Array Slot), f_X5_mutual_39  kL16 v3_39 t0_39 t1_39 = some R → lv_has ls 4 [(0, .ref (ad 0)), (2, .int u2_16), (3, .int v3_39)] → va_P D vwCl (wd_X5_mutual cI ad writers year taped at_ statements hasImage isKeeping cursor forgottenWhen rowMany silent ring) H → va_D A (wd_X5_mutual cI ad writers year taped at_ statements hasImage isKeeping cursor forgottenWhen rowMany silent ring) → va_S A s.heap H locs → Wh p l e 3 s m args below meth c H locs Q (F0 m 39 ls [.int t1_39, .int t0_39]) := by
  have hx := X.1
  have hb := X.2.1
  intro v3_39 t0_39 t1_39 H locs ls hf hl hP hD hS
  replace hf : (kL16 (t0_39 + t1_39) (v3_39 + (1 : Int32))) = some R := hf
  refine lv_iadd hx hb dX5_mutual_39 ?_
  refine lv_istore_n (lv' := [(1, .int (t0_39 + t1_39)), (0, .ref (ad 0)), (2, .int u2_16), (3, .int v3_39)]) hx hb dX5_mutual_40 rfl hl (by decide) rfl (fun ls hl => ?_)
  refine lv_iinc (v := (v3_39 + (1 : Int32))) (lv' := [(3, .int (v3_39 + (1 : Int32))), (1, .int (t0_39 + t1_39)), (0, .ref (ad 0)), (2, .int u2_16)]) hx hb dX5_mutual_41 hl (k := 3) rfl rfl (by decide) rfl (fun ls hl => ?_)
  refine lv_goto (tgt := 16) hx hb dX5_mutual_44 (by decide) ?_
  exact hkL16 (t0_39 + t1_39) (v3_39 + (1 : Int32)) _ _ _ hf (lv_sub hl [2, 1, 3, 0] rfl) hP hD hS
set_option maxHeartbeats 4000000 in
set_option maxRecDepth 100000 in
theorem w_X5_mutual_16 {p : Program} {l : Launch} {e : Env} {s : State} {m : MethodId} {args : Array Value} {below : List Frame} {meth : Method} {c : Code} {D : va_G} {cI : ClassId} {aS : aSt} {A : Nat → Prop} {Q : State → Prop}  (ad : Nat → Nat) (writers : Int32) (year : Int32) (taped : Int32) (at_ : Int32) (statements : Int32) (hasImage : Int32) (isKeeping : Int32) (cursor : Int32) (forgottenWhen : Int32) (rowMany : Int32) (silent : (Nat → Int32)) (ring : (Nat → Int32)) (u2_16 : Int32) {R : Int32} (X : Bx p s m args meth c cX5_mutual 4 (some .int) RX5 D cI aS A) (hret : RtI p l e 3 s m args below meth c cX5_mutual (some .int) D A (wd_X5_mutual cI ad writers year taped at_ statements hasImage isKeeping cursor forgottenWhen rowMany silent ring) R Q) (kX16_47 : Int32 → Option (Int32)) (hkX16_47 : ∀ (v1_47 : Int32) (H : Heap) (locs : List Loc) (ls : Array Slot), kX16_47 v1_47 = some R → lv_has ls 4 [(0, .ref (ad 0)), (1, .int v1_47), (2, .int u2_16)] → va_P D vwCl (wd_X5_mutual cI ad writers year taped at_ statements hasImage isKeeping cursor forgottenWhen rowMany silent ring) H → va_D A (wd_X5_mutual cI ad writers year taped at_ statements hasImage isKeeping cursor forgottenWhen rowMany silent ring) → va_S A s.heap H locs → Wh p l e 3 s m args below meth c H locs Q (F0 m 47 ls [])) : ∀ (fuel : Nat) (v1_16 : Int32) (v3_16 : Int32) (H : Heap) (locs : List Loc) (ls : Array Slot), f_X5_mutual_16 writers silent ring u2_16 kX16_47 fuel v1_16 v3_16 = some R → lv_has ls 4 [(0, .ref (ad 0)), (1, .int v1_16), (2, .int u2_16), (3, .int v3_16)] → va_P D vwCl (wd_X5_mutual cI ad writers year taped at_ statements hasImage isKeeping cursor forgottenWhen rowMany silent ring) H → va_D A (wd_X5_mutual cI ad writers year taped at_ statements hasImage isKeeping cursor forgottenWhen rowMany silent ring) → va_S A s.heap H locs → Wh p l e 3 s m args below meth c H locs Q (F0 m 16 ls []) := by
  have hx := X.1
  have hb := X.2.1
  intro fuel
  induction fuel with
  | zero =>
    intro v1_16 v3_16 H locs ls hf hl hP hD hS
    cases hf
  | succ fuel ih =>
    intro v1_16 v3_16 H locs ls hf hl hP hD hS
    replace hf : (if writers ≤ v3_16 then (kX16_47 v1_16) else ((f_X5_areMutual writers silent ring u2_16 v3_16).bind fun (r28 : Int32) => (if r28 = 0 then (f_X5_mutual_39  (f_X5_mutual_16 writers silent ring u2_16 kX16_47 fuel) v3_16 v1_16 (0 : Int32)) else (f_X5_mutual_39  (f_X5_mutual_16 writers silent ring u2_16 kX16_47 fuel) v3_16 v1_16 (1 : Int32))))) = some R := hf
    refine lv_iload_n hx hb dX5_mutual_16 rfl (lv_at hl 3 rfl) ?_
    refine lv_aload_n hx hb dX5_mutual_17 rfl (lv_at hl 0 rfl) ?_
    refine fgX5_55 X hP (q0 := 0) rfl rfl dX5_mutual_18 ?_
    refine lv_icmp_ge (tgt := 47) hx hb dX5_mutual_21 (by decide) (fun c21 => ?_) (fun c21 => ?_)
    · have hf := iT c21 hf
      exact hkX16_47 v1_16 _ _ _ hf (lv_sub hl [0, 1, 2] rfl) hP hD hS
    · have hf := iF c21 hf
      refine lv_iload_n hx hb dX5_mutual_24 rfl (lv_at hl 1 rfl) ?_
      refine lv_aload_n hx hb dX5_mutual_25 rfl (lv_at hl 0 rfl) ?_
      refine lv_iload_n hx hb dX5_mutual_26 rfl (lv_at hl 2 rfl) ?_
      refine lv_iload_n hx hb dX5_mutual_27 rfl (lv_at hl 3 rfl) ?_
      obtain ⟨r28, hq28, hf⟩ := bS hf
      refine ro_i X hP hD hS [0, 1, 2] rfl (run_V X hP hD hS [0, 1, 2] rfl rfl (c_X5_areMutual l D cI aS ad writers year taped at_ statements hasImage isKeeping cursor forgottenWhen rowMany silent ring u2_16 v3_16 _ hq28 _) lkX5_233 (by decide) (q0 := 0) rfl rfl rfl rfl (Nat.le_of_ble_eq_true rfl) hl.1 dX5_mutual_28) (fun H locs hP hS => ?_)
      refine lv_if_eq (tgt := 38) hx hb dX5_mutual_31 (by decide) (fun c31 => ?_) (fun c31 => ?_)
      · have hf := iT c31 hf
        refine lv_iconst (v := 0) hx hb dX5_mutual_38 (by decide) ?_
        exact w_X5_mutual_39 ad writers year taped at_ statements hasImage isKeeping cursor forgottenWhen rowMany silent ring u2_16 X hret _ ih v3_16 v1_16 (0 : Int32) _ _ _ hf (lv_sub hl [0, 2, 3] rfl) hP hD hS
      · have hf := iF c31 hf
        refine lv_iconst (v := 1) hx hb dX5_mutual_34 (by decide) ?_
        refine lv_goto (tgt := 39) hx hb dX5_mutual_35 (by decide) ?_
        exact w_X5_mutual_39 ad writers year taped at_ statements hasImage isKeeping cursor forgottenWhen rowMany silent ring u2_16 X hret _ ih v3_16 v1_16 (1 : Int32) _ _ _ hf (lv_sub hl [0, 2, 3] rfl) hP hD hS
set_option maxHeartbeats 4000000 in
set_option maxRecDepth 100000 in
theorem w_X5_mutual_47 {p : Program} {l : Launch} {e : Env} {s : State} {m : MethodId} {args : Array Value} {below : List Frame} {meth : Method} {c : Code} {D : va_G} {cI : ClassId} {aS : aSt} {A : Nat → Prop} {Q : State → Prop}  (ad : Nat → Nat) (writers : Int32) (year : Int32) (taped : Int32) (at_ : Int32) (statements : Int32) (hasImage : Int32) (isKeeping : Int32) (cursor : Int32) (forgottenWhen : Int32) (rowMany : Int32) (silent : (Nat → Int32)) (ring : (Nat → Int32)) {R : Int32} (X : Bx p s m args meth c cX5_mutual 4 (some .int) RX5 D cI aS A) (hret : RtI p l e 3 s m args below meth c cX5_mutual (some .int) D A (wd_X5_mutual cI ad writers year taped at_ statements hasImage isKeeping cursor forgottenWhen rowMany silent ring) R Q) (kL4 : Int32 → Int32 → Option (Int32)) (hkL4 : ∀ (v1_4 : Int32) (v2_4 : Int32) (H : Heap) (locs : List Loc) (ls : Array Slot), kL4 v1_4 v2_4 = some R → lv_has ls 4 [(0, .ref (ad 0)), (1, .int v1_4), (2, .int v2_4)] → va_P D vwCl (wd_X5_mutual cI ad writers year taped at_ statements hasImage isKeeping cursor forgottenWhen rowMany silent ring) H → va_D A (wd_X5_mutual cI ad writers year taped at_ statements hasImage isKeeping cursor forgottenWhen rowMany silent ring) → va_S A s.heap H locs → Wh p l e 3 s m args below meth c H locs Q (F0 m 4 ls [])) : ∀ (v1_47 : Int32) (v2_47 : Int32) (H : Heap) (locs : List Loc) (ls : Array Slot), f_X5_mutual_47  kL4 v1_47 v2_47 = some R → lv_has ls 4 [(0, .ref (ad 0)), (1, .int v1_47), (2, .int v2_47)] → va_P D vwCl (wd_X5_mutual cI ad writers year taped at_ statements hasImage isKeeping cursor forgottenWhen rowMany silent ring) H → va_D A (wd_X5_mutual cI ad writers year taped at_ statements hasImage isKeeping cursor forgottenWhen rowMany silent ring) → va_S A s.heap H locs → Wh p l e 3 s m args below meth c H locs Q (F0 m 47 ls []) := by
  have hx := X.1
  have hb := X.2.1
  intro v1_47 v2_47 H locs ls hf hl hP hD hS
  replace hf : (kL4 v1_47 (v2_47 + (1 : Int32))) = some R := hf
  refine lv_iinc (v := (v2_47 + (1 : Int32))) (lv' := [(2, .int (v2_47 + (1 : Int32))), (0, .ref (ad 0)), (1, .int v1_47)]) hx hb dX5_mutual_47 hl (k := 2) rfl rfl (by decide) rfl (fun ls hl => ?_)
  refine lv_goto (tgt := 4) hx hb dX5_mutual_50 (by decide) ?_
  exact hkL4 v1_47 (v2_47 + (1 : Int32)) _ _ _ hf (lv_sub hl [1, 2, 0] rfl) hP hD hS
set_option maxHeartbeats 4000000 in
set_option maxRecDepth 100000 in
theorem w_X5_mutual_4 {p : Program} {l : Launch} {e : Env} {s : State} {m : MethodId} {args : Array Value} {below : List Frame} {meth : Method} {c : Code} {D : va_G} {cI : ClassId} {aS : aSt} {A : Nat → Prop} {Q : State → Prop}  (ad : Nat → Nat) (writers : Int32) (year : Int32) (taped : Int32) (at_ : Int32) (statements : Int32) (hasImage : Int32) (isKeeping : Int32) (cursor : Int32) (forgottenWhen : Int32) (rowMany : Int32) (silent : (Nat → Int32)) (ring : (Nat → Int32)) {R : Int32} (X : Bx p s m args meth c cX5_mutual 4 (some .int) RX5 D cI aS A) (hret : RtI p l e 3 s m args below meth c cX5_mutual (some .int) D A (wd_X5_mutual cI ad writers year taped at_ statements hasImage isKeeping cursor forgottenWhen rowMany silent ring) R Q) : ∀ (fuel : Nat) (v1_4 : Int32) (v2_4 : Int32) (H : Heap) (locs : List Loc) (ls : Array Slot), f_X5_mutual_4 writers silent ring  fuel v1_4 v2_4 = some R → lv_has ls 4 [(0, .ref (ad 0)), (1, .int v1_4), (2, .int v2_4)] → va_P D vwCl (wd_X5_mutual cI ad writers year taped at_ statements hasImage isKeeping cursor forgottenWhen rowMany silent ring) H → va_D A (wd_X5_mutual cI ad writers year taped at_ statements hasImage isKeeping cursor forgottenWhen rowMany silent ring) → va_S A s.heap H locs → Wh p l e 3 s m args below meth c H locs Q (F0 m 4 ls []) := by
  have hx := X.1
  have hb := X.2.1
  intro fuel
  induction fuel with
  | zero =>
    intro v1_4 v2_4 H locs ls hf hl hP hD hS
    cases hf
  | succ fuel ih =>
    intro v1_4 v2_4 H locs ls hf hl hP hD hS
    replace hf : (if writers ≤ v2_4 then (some v1_4) else (f_X5_mutual_16 writers silent ring v2_4 (fun (v1_47 : Int32) => (f_X5_mutual_47  (f_X5_mutual_4 writers silent ring  fuel) v1_47 v2_4)) FU v1_4 (v2_4 + (1 : Int32)))) = some R := hf
    refine lv_iload_n hx hb dX5_mutual_4 rfl (lv_at hl 2 rfl) ?_
    refine lv_aload_n hx hb dX5_mutual_5 rfl (lv_at hl 0 rfl) ?_
    refine fgX5_55 X hP (q0 := 0) rfl rfl dX5_mutual_6 ?_
    refine lv_icmp_ge (tgt := 53) hx hb dX5_mutual_9 (by decide) (fun c9 => ?_) (fun c9 => ?_)
    · have hf := iT c9 hf
      refine lv_iload_n hx hb dX5_mutual_53 rfl (lv_at hl 1 rfl) ?_
      have hR := Option.some.inj hf
      subst hR
      exact hret _ _ _ _ _ rfl (fun _ hn => by cases hn; rfl) hP hD hS dX5_mutual_54
    · have hf := iF c9 hf
      refine lv_iload_n hx hb dX5_mutual_12 rfl (lv_at hl 2 rfl) ?_
      refine lv_iconst (v := 1) hx hb dX5_mutual_13 (by decide) ?_
      refine lv_iadd hx hb dX5_mutual_14 ?_
      refine lv_istore_n (lv' := [(3, .int (v2_4 + (1 : Int32))), (0, .ref (ad 0)), (1, .int v1_4), (2, .int v2_4)]) hx hb dX5_mutual_15 rfl hl (by decide) rfl (fun ls hl => ?_)
      exact w_X5_mutual_16 ad writers year taped at_ statements hasImage isKeeping cursor forgottenWhen rowMany silent ring v2_4 X hret _ (fun v1_47 _ _ _ hf hl hP hD hS => w_X5_mutual_47 ad writers year taped at_ statements hasImage isKeeping cursor forgottenWhen rowMany silent ring X hret _ ih v1_47 v2_4 _ _ _ hf (lv_sub hl [0, 1, 2] rfl) hP hD hS) _ v1_4 (v2_4 + (1 : Int32)) _ _ _ hf (lv_sub hl [1, 2, 3, 0] rfl) hP hD hS
set_option maxHeartbeats 4000000 in
set_option maxRecDepth 100000 in
theorem c_X5_mutual (l : Launch) (D : va_G) (cI : ClassId) (aS : aSt) (ad : Nat → Nat) (writers : Int32) (year : Int32) (taped : Int32) (at_ : Int32) (statements : Int32) (hasImage : Int32) (isKeeping : Int32) (cursor : Int32) (forgottenWhen : Int32) (rowMany : Int32) (silent : (Nat → Int32)) (ring : (Nat → Int32)) (R : Int32) (hf : f_X5_mutual writers silent ring = some R) : CtI l yX5_mutual cX5_mutual 4 (some .int) 3 D cI aS [.ref (ad 0)] (wd_X5_mutual cI ad writers year taped at_ statements hasImage isKeeping cursor forgottenWhen rowMany silent ring) (wd_X5_mutual cI ad writers year taped at_ statements hasImage isKeeping cursor forgottenWhen rowMany silent ring) R := by
  refine ctI_of (by decide) ⟨_, rfl⟩ (Nat.le_of_ble_eq_true rfl) ?_
  intro p e s m below meth c A Q ls X hret hP hD hl
  have hS : va_S A s.heap s.heap [] := va_S.rf
  have hx := X.1
  have hb := X.2.1
  have hl : lv_has ls 4 [(0, .ref (ad 0))] := hl
  replace hf : (f_X5_mutual_4 writers silent ring  FU (0 : Int32) (0 : Int32)) = some R := hf
  refine lv_iconst (v := 0) hx hb dX5_mutual_0 (by decide) ?_
  refine lv_istore_n (lv' := [(1, .int (0 : Int32)), (0, .ref (ad 0))]) hx hb dX5_mutual_1 rfl hl (by decide) rfl (fun ls hl => ?_)
  refine lv_iconst (v := 0) hx hb dX5_mutual_2 (by decide) ?_
  refine lv_istore_n (lv' := [(2, .int (0 : Int32)), (1, .int (0 : Int32)), (0, .ref (ad 0))]) hx hb dX5_mutual_3 rfl hl (by decide) rfl (fun ls hl => ?_)
  exact w_X5_mutual_4 ad writers year taped at_ statements hasImage isKeeping cursor forgottenWhen rowMany silent ring X hret  _ (0 : Int32) (0 : Int32) _ _ _ hf (lv_sub hl [2, 1, 0] rfl) hP hD hS

abbrev wd_X5_on (cI : ClassId) (ad : Nat → Nat) (writers : Int32) (year : Int32) (taped : Int32) (at_ : Int32) (statements : Int32) (hasImage : Int32) (isKeeping : Int32) (cursor : Int32) (forgottenWhen : Int32) (rowMany : Int32) (refused : (Nat → Int32)) (kind : (Nat → Int32)) (figure : (Nat → Int32)) (style : (Nat → Int32)) (fame : (Nat → Int32)) (silent : (Nat → Int32)) (ring : (Nat → Int32)) (kept : (Nat → Int32)) : va_W := [((ad 0), .inr (5, [.ref (ad 1), .ref (ad 2), .ref (ad 3), .ref (ad 4), .ref (ad 5), .ref (ad 6), .ref (ad 7), .int writers, .int year, .ref (ad 8), .ref (ad 9), .ref (ad 10), .ref (ad 11), .int taped, .int at_, .int statements, .ref (ad 12), .int hasImage, .int isKeeping, .int cursor, .int forgottenWhen, .ref (ad 13), .ref (ad 14), .ref (ad 15), .int rowMany])), ((ad 1), .inl (cI, 7, .inl refused)), ((ad 2), .inl (cI, 7, .inl kind)), ((ad 3), .inl (cI, 7, .inl figure)), ((ad 4), .inl (cI, 7, .inl style)), ((ad 5), .inl (cI, 7, .inl fame)), ((ad 6), .inl (cI, 7, .inl silent)), ((ad 7), .inl (cI, 7, .inl ring)), ((ad 12), .inl (cI, 132, .inl kept))]
def f_X5_on (writers : Int32) (year : Int32) (hasImage : Int32) (isKeeping : Int32) (cursor : Int32) (refused : (Nat → Int32)) (kind : (Nat → Int32)) (figure : (Nat → Int32)) (style : (Nat → Int32)) (fame : (Nat → Int32)) (silent : (Nat → Int32)) (ring : (Nat → Int32)) (kept : (Nat → Int32)) : Option (Int32 × Int32 × Int32 × Int32 × Int32 × (Nat → Int32) × (Nat → Int32) × (Nat → Int32) × (Nat → Int32) × (Nat → Int32) × (Nat → Int32) × (Nat → Int32) × (Nat → Int32)) := (if hasImage = 0 then ((f_X5_no refused (-3 : Int32)).bind fun (r10 : Int32 × (Nat → Int32)) => (some (r10.1, writers, year, isKeeping, cursor, r10.2, kind, figure, style, fame, silent, ring, kept))) else ((f_X5_passesAll writers year isKeeping cursor kind figure style fame silent ring kept (0 : Int32) (0 : Int32)).bind fun (r17 : Int32 × Int32 × Int32 × Int32 × (Nat → Int32) × (Nat → Int32) × (Nat → Int32) × (Nat → Int32) × (Nat → Int32) × (Nat → Int32) × (Nat → Int32)) => (some (r17.2.1, r17.1, r17.2.1, r17.2.2.1, r17.2.2.2.1, refused, r17.2.2.2.2.1, r17.2.2.2.2.2.1, r17.2.2.2.2.2.2.1, r17.2.2.2.2.2.2.2.1, r17.2.2.2.2.2.2.2.2.1, r17.2.2.2.2.2.2.2.2.2.1, r17.2.2.2.2.2.2.2.2.2.2))))
set_option maxHeartbeats 4000000 in
set_option maxRecDepth 100000 in
theorem c_X5_on (l : Launch) (D : va_G) (cI : ClassId) (aS : aSt) (ad : Nat → Nat) (writers : Int32) (year : Int32) (taped : Int32) (at_ : Int32) (statements : Int32) (hasImage : Int32) (isKeeping : Int32) (cursor : Int32) (forgottenWhen : Int32) (rowMany : Int32) (refused : (Nat → Int32)) (kind : (Nat → Int32)) (figure : (Nat → Int32)) (style : (Nat → Int32)) (fame : (Nat → Int32)) (silent : (Nat → Int32)) (ring : (Nat → Int32)) (kept : (Nat → Int32)) (R : Int32 × Int32 × Int32 × Int32 × Int32 × (Nat → Int32) × (Nat → Int32) × (Nat → Int32) × (Nat → Int32) × (Nat → Int32) × (Nat → Int32) × (Nat → Int32) × (Nat → Int32)) (hf : f_X5_on writers year hasImage isKeeping cursor refused kind figure style fame silent ring kept = some R) : CtI l yX5_on cX5_on 1 (some .int) 2 D cI aS [.ref (ad 0)] (wd_X5_on cI ad writers year taped at_ statements hasImage isKeeping cursor forgottenWhen rowMany refused kind figure style fame silent ring kept) (wd_X5_on cI ad R.2.1 R.2.2.1 taped at_ statements hasImage R.2.2.2.1 R.2.2.2.2.1 forgottenWhen rowMany R.2.2.2.2.2.1 R.2.2.2.2.2.2.1 R.2.2.2.2.2.2.2.1 R.2.2.2.2.2.2.2.2.1 R.2.2.2.2.2.2.2.2.2.1 R.2.2.2.2.2.2.2.2.2.2.1 R.2.2.2.2.2.2.2.2.2.2.2.1 R.2.2.2.2.2.2.2.2.2.2.2.2) R.1 := by
  refine ctI_of (by decide) ⟨_, rfl⟩ (Nat.le_of_ble_eq_true rfl) ?_
  intro p e s m below meth c A Q ls X hret hP hD hl
  have hS : va_S A s.heap s.heap [] := va_S.rf
  have hx := X.1
  have hb := X.2.1
  have hl : lv_has ls 1 [(0, .ref (ad 0))] := hl
  replace hf : (if hasImage = 0 then ((f_X5_no refused (-3 : Int32)).bind fun (r10 : Int32 × (Nat → Int32)) => (some (r10.1, writers, year, isKeeping, cursor, r10.2, kind, figure, style, fame, silent, ring, kept))) else ((f_X5_passesAll writers year isKeeping cursor kind figure style fame silent ring kept (0 : Int32) (0 : Int32)).bind fun (r17 : Int32 × Int32 × Int32 × Int32 × (Nat → Int32) × (Nat → Int32) × (Nat → Int32) × (Nat → Int32) × (Nat → Int32) × (Nat → Int32) × (Nat → Int32)) => (some (r17.2.1, r17.1, r17.2.1, r17.2.2.1, r17.2.2.2.1, refused, r17.2.2.2.2.1, r17.2.2.2.2.2.1, r17.2.2.2.2.2.2.1, r17.2.2.2.2.2.2.2.1, r17.2.2.2.2.2.2.2.2.1, r17.2.2.2.2.2.2.2.2.2.1, r17.2.2.2.2.2.2.2.2.2.2)))) = some R := hf
  refine lv_aload_n hx hb dX5_on_0 rfl (lv_at hl 0 rfl) ?_
  refine fgX5_152 X hP (q0 := 0) rfl rfl dX5_on_1 ?_
  refine lv_if_ne (tgt := 14) hx hb dX5_on_4 (by decide) (fun c4 => ?_) (fun c4 => ?_)
  · have hf := iF c4 hf
    refine lv_aload_n hx hb dX5_on_14 rfl (lv_at hl 0 rfl) ?_
    refine lv_iconst (v := 0) hx hb dX5_on_15 (by decide) ?_
    refine lv_iconst (v := 0) hx hb dX5_on_16 (by decide) ?_
    obtain ⟨r17, hq17, hf⟩ := bS hf
    refine wr_v X hP hD hS [0, 2, 3, 4, 5, 6, 7, 8] rfl (ws' := (wd_X5_on cI ad r17.1 r17.2.1 taped at_ statements hasImage r17.2.2.1 r17.2.2.2.1 forgottenWhen rowMany refused r17.2.2.2.2.1 r17.2.2.2.2.2.1 r17.2.2.2.2.2.2.1 r17.2.2.2.2.2.2.2.1 r17.2.2.2.2.2.2.2.2.1 r17.2.2.2.2.2.2.2.2.2.1 r17.2.2.2.2.2.2.2.2.2.2)) (Nat.le_of_ble_eq_true rfl) rfl rfl (run_V X hP hD hS [0, 2, 3, 4, 5, 6, 7, 8] rfl rfl (c_X5_passesAll l D cI aS ad writers year taped at_ statements hasImage isKeeping cursor forgottenWhen rowMany kind figure style fame silent ring kept (0 : Int32) (0 : Int32) _ hq17 _) lkX5_131 (by decide) (q0 := 0) rfl rfl rfl rfl (Nat.le_of_ble_eq_true rfl) hl.1 dX5_on_17) (fun H locs hP hD hS => ?_)
    refine lv_aload_n hx hb dX5_on_20 rfl (lv_at hl 0 rfl) ?_
    refine fgX5_101 X hP (q0 := 0) rfl rfl dX5_on_21 ?_
    have hR := Option.some.inj hf
    subst hR
    exact hret _ _ _ _ _ rfl (fun _ hn => by cases hn; rfl) hP hD hS dX5_on_24
  · have hf := iT c4 hf
    refine lv_aload_n hx hb dX5_on_7 rfl (lv_at hl 0 rfl) ?_
    refine lv_bipush (v := -3) hx hb dX5_on_8 (by decide) ?_
    obtain ⟨r10, hq10, hf⟩ := bS hf
    refine wr_i X hP hD hS [0, 1] rfl (ws' := (wd_X5_on cI ad writers year taped at_ statements hasImage isKeeping cursor forgottenWhen rowMany r10.2 kind figure style fame silent ring kept)) (Nat.le_of_ble_eq_true rfl) rfl rfl (run_V X hP hD hS [0, 1] rfl rfl (c_X5_no l D cI aS ad writers year taped at_ statements hasImage isKeeping cursor forgottenWhen rowMany refused (-3 : Int32) _ hq10 _) lkX5_69 (by decide) (q0 := 0) rfl rfl rfl rfl (Nat.le_of_ble_eq_true rfl) hl.1 dX5_on_10) (fun H locs hP hD hS => ?_)
    have hR := Option.some.inj hf
    subst hR
    exact hret _ _ _ _ _ rfl (fun _ hn => by cases hn; rfl) hP hD hS dX5_on_13

abbrev wd_X5_opensThen (cI : ClassId) (ad : Nat → Nat) (writers : Int32) (year : Int32) (taped : Int32) (at_ : Int32) (statements : Int32) (hasImage : Int32) (isKeeping : Int32) (cursor : Int32) (forgottenWhen : Int32) (rowMany : Int32) (refused : (Nat → Int32)) (style : (Nat → Int32)) : va_W := [((ad 0), .inr (5, [.ref (ad 1), .ref (ad 2), .ref (ad 3), .ref (ad 4), .ref (ad 5), .ref (ad 6), .ref (ad 7), .int writers, .int year, .ref (ad 8), .ref (ad 9), .ref (ad 10), .ref (ad 11), .int taped, .int at_, .int statements, .ref (ad 12), .int hasImage, .int isKeeping, .int cursor, .int forgottenWhen, .ref (ad 13), .ref (ad 14), .ref (ad 15), .int rowMany])), ((ad 1), .inl (cI, 7, .inl refused)), ((ad 4), .inl (cI, 7, .inl style))]
def f_X5_opensThen_19 (year : Int32) (style : (Nat → Int32)) (x1 : Int32) (x2 : Int32)  (refused_19 : (Nat → Int32)) (t0_19 : Int32) : Option (Int32 × (Nat → Int32)) := (if t0_19 = 0 then (gd x1 7 (some ((remI (((style (Int32.toNatClampNeg x1)) + year) + x2) (10 : Int32)), refused_19))) else ((f_X5_no refused_19 t0_19).bind fun (r26 : Int32 × (Nat → Int32)) => (some (r26.1, r26.2))))
def f_X5_opensThen (writers : Int32) (year : Int32) (refused : (Nat → Int32)) (style : (Nat → Int32)) (x1 : Int32) (x2 : Int32) : Option (Int32 × (Nat → Int32)) := ((f_X5_isOne writers x1).bind fun (r2 : Int32) => (if r2 = 0 then (f_X5_opensThen_19 year style x1 x2  refused (-1 : Int32)) else ((f_X5_bound x2 (0 : Int32) (60 : Int32)).bind fun (r16 : Int32) => (f_X5_opensThen_19 year style x1 x2  refused r16))))
set_option maxHeartbeats 4000000 in
set_option maxRecDepth 100000 in
theorem w_X5_opensThen_19 {p : Program} {l : Launch} {e : Env} {s : State} {m : MethodId} {args : Array Value} {below : List Frame} {meth : Method} {c : Code} {D : va_G} {cI : ClassId} {aS : aSt} {A : Nat → Prop} {Q : State → Prop}  (ad : Nat → Nat) (writers : Int32) (year : Int32) (taped : Int32) (at_ : Int32) (statements : Int32) (hasImage : Int32) (isKeeping : Int32) (cursor : Int32) (forgottenWhen : Int32) (rowMany : Int32) (style : (Nat → Int32)) (x1 : Int32) (x2 : Int32) {R : Int32 × (Nat → Int32)} (X : Bx p s m args meth c cX5_opensThen 4 (some .int) RX5 D cI aS A) (hret : RtI p l e 1 s m args below meth c cX5_opensThen (some .int) D A (wd_X5_opensThen cI ad writers year taped at_ statements hasImage isKeeping cursor forgottenWhen rowMany R.2 style) R.1 Q) : ∀ (refused_19 : (Nat → Int32)) (t0_19 : Int32) (H : Heap) (locs : List Loc) (ls : Array Slot), f_X5_opensThen_19 year style x1 x2  refused_19 t0_19 = some R → lv_has ls 4 [(0, .ref (ad 0)), (1, .int x1), (2, .int x2)] → va_P D vwCl (wd_X5_opensThen cI ad writers year taped at_ statements hasImage isKeeping cursor forgottenWhen rowMany refused_19 style) H → va_D A (wd_X5_opensThen cI ad writers year taped at_ statements hasImage isKeeping cursor forgottenWhen rowMany refused_19 style) → va_S A s.heap H locs → Wh p l e 1 s m args below meth c H locs Q (F0 m 19 ls [.int t0_19]) := by
  have hx := X.1
  have hb := X.2.1
  intro refused_19 t0_19 H locs ls hf hl hP hD hS
  replace hf : (if t0_19 = 0 then (gd x1 7 (some ((remI (((style (Int32.toNatClampNeg x1)) + year) + x2) (10 : Int32)), refused_19))) else ((f_X5_no refused_19 t0_19).bind fun (r26 : Int32 × (Nat → Int32)) => (some (r26.1, r26.2)))) = some R := hf
  refine lv_istore_n (lv' := [(3, .int t0_19), (0, .ref (ad 0)), (1, .int x1), (2, .int x2)]) hx hb dX5_opensThen_19 rfl hl (by decide) rfl (fun ls hl => ?_)
  refine lv_iload_n hx hb dX5_opensThen_20 rfl (lv_at hl 0 rfl) ?_
  refine lv_if_eq (tgt := 32) hx hb dX5_opensThen_21 (by decide) (fun c21 => ?_) (fun c21 => ?_)
  · have hf := iT c21 hf
    refine lv_aload_n hx hb dX5_opensThen_32 rfl (lv_at hl 1 rfl) ?_
    refine fgX5_19 X hP (q0 := 0) rfl rfl dX5_opensThen_33 ?_
    refine lv_iload_n hx hb dX5_opensThen_36 rfl (lv_at hl 2 rfl) ?_
    refine aGet X hP (q0 := 2) rfl (gdS hf).1 dX5_opensThen_37 ?_
    have hf := (gdS hf).2
    refine lv_aload_n hx hb dX5_opensThen_38 rfl (lv_at hl 1 rfl) ?_
    refine fgX5_101 X hP (q0 := 0) rfl rfl dX5_opensThen_39 ?_
    refine lv_iadd hx hb dX5_opensThen_42 ?_
    refine lv_iload_n hx hb dX5_opensThen_43 rfl (lv_at hl 3 rfl) ?_
    refine lv_iadd hx hb dX5_opensThen_44 ?_
    refine lv_bipush (v := 10) hx hb dX5_opensThen_45 (by decide) ?_
    refine x_irem hx hb dX5_opensThen_47 (by decide) ?_
    have hR := Option.some.inj hf
    subst hR
    exact hret _ _ _ _ _ rfl (fun _ hn => by cases hn; rfl) hP hD hS dX5_opensThen_48
  · have hf := iF c21 hf
    refine lv_aload_n hx hb dX5_opensThen_24 rfl (lv_at hl 1 rfl) ?_
    refine lv_iload_n hx hb dX5_opensThen_25 rfl (lv_at hl 0 rfl) ?_
    obtain ⟨r26, hq26, hf⟩ := bS hf
    refine wr_i X hP hD hS [0, 1] rfl (ws' := (wd_X5_opensThen cI ad writers year taped at_ statements hasImage isKeeping cursor forgottenWhen rowMany r26.2 style)) (Nat.le_of_ble_eq_true rfl) rfl rfl (run_V X hP hD hS [0, 1] rfl rfl (c_X5_no l D cI aS ad writers year taped at_ statements hasImage isKeeping cursor forgottenWhen rowMany refused_19 t0_19 _ hq26 _) lkX5_69 (by decide) (q0 := 0) rfl rfl rfl rfl (Nat.le_of_ble_eq_true rfl) hl.1 dX5_opensThen_26) (fun H locs hP hD hS => ?_)
    refine lv_goto (tgt := 48) hx hb dX5_opensThen_29 (by decide) ?_
    have hR := Option.some.inj hf
    subst hR
    exact hret _ _ _ _ _ rfl (fun _ hn => by cases hn; rfl) hP hD hS dX5_opensThen_48
set_option maxHeartbeats 4000000 in
set_option maxRecDepth 100000 in
theorem c_X5_opensThen (l : Launch) (D : va_G) (cI : ClassId) (aS : aSt) (ad : Nat → Nat) (writers : Int32) (year : Int32) (taped : Int32) (at_ : Int32) (statements : Int32) (hasImage : Int32) (isKeeping : Int32) (cursor : Int32) (forgottenWhen : Int32) (rowMany : Int32) (refused : (Nat → Int32)) (style : (Nat → Int32)) (x1 : Int32) (x2 : Int32) (R : Int32 × (Nat → Int32)) (hf : f_X5_opensThen writers year refused style x1 x2 = some R) : CtI l yX5_opensThen cX5_opensThen 4 (some .int) 1 D cI aS [.ref (ad 0), .int x1, .int x2] (wd_X5_opensThen cI ad writers year taped at_ statements hasImage isKeeping cursor forgottenWhen rowMany refused style) (wd_X5_opensThen cI ad writers year taped at_ statements hasImage isKeeping cursor forgottenWhen rowMany R.2 style) R.1 := by
  refine ctI_of (by decide) ⟨_, rfl⟩ (Nat.le_of_ble_eq_true rfl) ?_
  intro p e s m below meth c A Q ls X hret hP hD hl
  have hS : va_S A s.heap s.heap [] := va_S.rf
  have hx := X.1
  have hb := X.2.1
  have hl : lv_has ls 4 [(0, .ref (ad 0)), (1, .int x1), (2, .int x2)] := hl
  replace hf : ((f_X5_isOne writers x1).bind fun (r2 : Int32) => (if r2 = 0 then (f_X5_opensThen_19 year style x1 x2  refused (-1 : Int32)) else ((f_X5_bound x2 (0 : Int32) (60 : Int32)).bind fun (r16 : Int32) => (f_X5_opensThen_19 year style x1 x2  refused r16)))) = some R := hf
  refine lv_aload_n hx hb dX5_opensThen_0 rfl (lv_at hl 0 rfl) ?_
  refine lv_iload_n hx hb dX5_opensThen_1 rfl (lv_at hl 1 rfl) ?_
  obtain ⟨r2, hq2, hf⟩ := bS hf
  refine ro_i X hP hD hS [0] rfl (run_V X hP hD hS [0] rfl rfl (c_X5_isOne l D cI aS ad writers year taped at_ statements hasImage isKeeping cursor forgottenWhen rowMany x1 _ hq2 _) lkX5_108 (by decide) (q0 := 0) rfl rfl rfl rfl (Nat.le_of_ble_eq_true rfl) hl.1 dX5_opensThen_2) (fun H locs hP hS => ?_)
  refine lv_if_ne (tgt := 12) hx hb dX5_opensThen_5 (by decide) (fun c5 => ?_) (fun c5 => ?_)
  · have hf := iF c5 hf
    refine lv_iload_n hx hb dX5_opensThen_12 rfl (lv_at hl 2 rfl) ?_
    refine lv_iconst (v := 0) hx hb dX5_opensThen_13 (by decide) ?_
    refine lv_bipush (v := 60) hx hb dX5_opensThen_14 (by decide) ?_
    obtain ⟨r16, hq16, hf⟩ := bS hf
    refine ro_i X hP hD hS [] rfl (run_S X hP hD hS [] rfl rfl (c_X5_bound l D cI aS x2 (0 : Int32) (60 : Int32) _ hq16 _) lkX5_62 (by decide) rfl rfl (Nat.le_of_ble_eq_true rfl) hl.1 dX5_opensThen_16) (fun H locs hP hS => ?_)
    exact w_X5_opensThen_19 ad writers year taped at_ statements hasImage isKeeping cursor forgottenWhen rowMany style x1 x2 X hret  refused r16 _ _ _ hf (lv_sub hl [0, 1, 2] rfl) hP hD hS
  · have hf := iT c5 hf
    refine lv_iconst (v := -1) hx hb dX5_opensThen_8 (by decide) ?_
    refine lv_goto (tgt := 19) hx hb dX5_opensThen_9 (by decide) ?_
    exact w_X5_opensThen_19 ad writers year taped at_ statements hasImage isKeeping cursor forgottenWhen rowMany style x1 x2 X hret  refused (-1 : Int32) _ _ _ hf (lv_sub hl [0, 1, 2] rfl) hP hD hS

abbrev wd_X5_ownBribe (cI : ClassId) (ad : Nat → Nat) (writers : Int32) (year : Int32) (taped : Int32) (at_ : Int32) (statements : Int32) (hasImage : Int32) (isKeeping : Int32) (cursor : Int32) (forgottenWhen : Int32) (rowMany : Int32) (refused : (Nat → Int32)) (kind : (Nat → Int32)) (figure : (Nat → Int32)) (style : (Nat → Int32)) (silent : (Nat → Int32)) (ring : (Nat → Int32)) : va_W := [((ad 0), .inr (5, [.ref (ad 1), .ref (ad 2), .ref (ad 3), .ref (ad 4), .ref (ad 5), .ref (ad 6), .ref (ad 7), .int writers, .int year, .ref (ad 8), .ref (ad 9), .ref (ad 10), .ref (ad 11), .int taped, .int at_, .int statements, .ref (ad 12), .int hasImage, .int isKeeping, .int cursor, .int forgottenWhen, .ref (ad 13), .ref (ad 14), .ref (ad 15), .int rowMany])), ((ad 1), .inl (cI, 7, .inl refused)), ((ad 2), .inl (cI, 7, .inl kind)), ((ad 3), .inl (cI, 7, .inl figure)), ((ad 4), .inl (cI, 7, .inl style)), ((ad 6), .inl (cI, 7, .inl silent)), ((ad 7), .inl (cI, 7, .inl ring))]
def f_X5_ownBribe_108  (kL52 : Int32 → Int32 → Int32 → (Nat → Int32) → Option (Int32 × (Nat → Int32) × (Nat → Int32))) (v3_108 : Int32) (v4_108 : Int32) (v5_108 : Int32) (ring_108 : (Nat → Int32)) : Option (Int32 × (Nat → Int32) × (Nat → Int32)) := (kL52 v3_108 v4_108 (v5_108 + (1 : Int32)) ring_108)
def f_X5_ownBribe_52 (writers : Int32) (year : Int32) (kind : (Nat → Int32)) (figure : (Nat → Int32)) (style : (Nat → Int32)) (silent : (Nat → Int32)) (x1 : Int32) (refused_u52 : (Nat → Int32))  : Nat → Int32 → Int32 → Int32 → (Nat → Int32) → Option (Int32 × (Nat → Int32) × (Nat → Int32))
  | 0 => fun _ _ _ _ => none
  | fuel + 1 => fun v3_52 v4_52 v5_52 ring_52 => (if writers ≤ v5_52 then (some (v3_52, refused_u52, ring_52)) else (if v5_52 = x1 then (f_X5_ownBribe_108  (f_X5_ownBribe_52 writers year kind figure style silent x1 refused_u52  fuel) v3_52 v4_52 v5_52 ring_52) else ((f_X5_swaps ring_52 x1 v5_52).bind fun (r74 : (Nat → Int32)) => ((f_X5_bookWorth writers year kind figure style silent r74 x1).bind fun (r79 : Int32) => ((f_X5_swaps r74 x1 v5_52).bind fun (r88 : (Nat → Int32)) => (if v4_52 < r79 then (f_X5_ownBribe_108  (f_X5_ownBribe_52 writers year kind figure style silent x1 refused_u52  fuel) v5_52 r79 v5_52 r88) else (f_X5_ownBribe_108  (f_X5_ownBribe_52 writers year kind figure style silent x1 refused_u52  fuel) v3_52 v4_52 v5_52 r88)))))))
theorem e_X5_ownBribe_52 (writers : Int32) (year : Int32) (kind : (Nat → Int32)) (figure : (Nat → Int32)) (style : (Nat → Int32)) (silent : (Nat → Int32)) (x1 : Int32) (refused_u52 : (Nat → Int32))  (fuel : Nat) (v3_52 : Int32) (v4_52 : Int32) (v5_52 : Int32) (ring_52 : (Nat → Int32)) : f_X5_ownBribe_52 writers year kind figure style silent x1 refused_u52  (fuel + 1) v3_52 v4_52 v5_52 ring_52 = (if writers ≤ v5_52 then (some (v3_52, refused_u52, ring_52)) else (if v5_52 = x1 then (f_X5_ownBribe_108  (f_X5_ownBribe_52 writers year kind figure style silent x1 refused_u52  fuel) v3_52 v4_52 v5_52 ring_52) else ((f_X5_swaps ring_52 x1 v5_52).bind fun (r74 : (Nat → Int32)) => ((f_X5_bookWorth writers year kind figure style silent r74 x1).bind fun (r79 : Int32) => ((f_X5_swaps r74 x1 v5_52).bind fun (r88 : (Nat → Int32)) => (if v4_52 < r79 then (f_X5_ownBribe_108  (f_X5_ownBribe_52 writers year kind figure style silent x1 refused_u52  fuel) v5_52 r79 v5_52 r88) else (f_X5_ownBribe_108  (f_X5_ownBribe_52 writers year kind figure style silent x1 refused_u52  fuel) v3_52 v4_52 v5_52 r88))))))) := rfl
def f_X5_ownBribe_28 (writers : Int32) (year : Int32) (kind : (Nat → Int32)) (figure : (Nat → Int32)) (style : (Nat → Int32)) (silent : (Nat → Int32)) (x1 : Int32)  (refused_28 : (Nat → Int32)) (ring_28 : (Nat → Int32)) (t0_28 : Int32) : Option (Int32 × (Nat → Int32) × (Nat → Int32)) := (if t0_28 = 0 then ((f_X5_bookWorth writers year kind figure style silent ring_28 x1).bind fun (r44 : Int32) => (f_X5_ownBribe_52 writers year kind figure style silent x1 refused_28  FU (-9 : Int32) r44 (0 : Int32) ring_28)) else ((f_X5_no refused_28 t0_28).bind fun (r35 : Int32 × (Nat → Int32)) => (some (r35.1, r35.2, ring_28))))
def f_X5_ownBribe (writers : Int32) (year : Int32) (refused : (Nat → Int32)) (kind : (Nat → Int32)) (figure : (Nat → Int32)) (style : (Nat → Int32)) (silent : (Nat → Int32)) (ring : (Nat → Int32)) (x1 : Int32) : Option (Int32 × (Nat → Int32) × (Nat → Int32)) := ((f_X5_isOne writers x1).bind fun (r2 : Int32) => (if r2 = 0 then (f_X5_ownBribe_28 writers year kind figure style silent x1  refused ring (-1 : Int32)) else (gd x1 7 (if (silent (Int32.toNatClampNeg x1)) = (1 : Int32) then (f_X5_ownBribe_28 writers year kind figure style silent x1  refused ring (-3 : Int32)) else (f_X5_ownBribe_28 writers year kind figure style silent x1  refused ring (0 : Int32))))))
set_option maxHeartbeats 4000000 in
set_option maxRecDepth 100000 in
theorem w_X5_ownBribe_108 {p : Program} {l : Launch} {e : Env} {s : State} {m : MethodId} {args : Array Value} {below : List Frame} {meth : Method} {c : Code} {D : va_G} {cI : ClassId} {aS : aSt} {A : Nat → Prop} {Q : State → Prop}  (ad : Nat → Nat) (writers : Int32) (year : Int32) (taped : Int32) (at_ : Int32) (statements : Int32) (hasImage : Int32) (isKeeping : Int32) (cursor : Int32) (forgottenWhen : Int32) (rowMany : Int32) (kind : (Nat → Int32)) (figure : (Nat → Int32)) (style : (Nat → Int32)) (silent : (Nat → Int32)) (x1 : Int32) (refused_u52 : (Nat → Int32)) {R : Int32 × (Nat → Int32) × (Nat → Int32)} (X : Bx p s m args meth c cX5_ownBribe 7 (some .int) RX5 D cI aS A) (hret : RtI p l e 4 s m args below meth c cX5_ownBribe (some .int) D A (wd_X5_ownBribe cI ad writers year taped at_ statements hasImage isKeeping cursor forgottenWhen rowMany R.2.1 kind figure style silent R.2.2) R.1 Q) (kL52 : Int32 → Int32 → Int32 → (Nat → Int32) → Option (Int32 × (Nat → Int32) × (Nat → Int32))) (hkL52 : ∀ (v3_52 : Int32) (v4_52 : Int32) (v5_52 : Int32) (ring_52 : (Nat → Int32)) (H : Heap) (locs : List Loc) (ls : Array Slot), kL52 v3_52 v4_52 v5_52 ring_52 = some R → lv_has ls 7 [(0, .ref (ad 0)), (1, .int x1), (3, .int v3_52), (4, .int v4_52), (5, .int v5_52)] → va_P D vwCl (wd_X5_ownBribe cI ad writers year taped at_ statements hasImage isKeeping cursor forgottenWhen rowMany refused_u52 kind figure style silent ring_52) H → va_D A (wd_X5_ownBribe cI ad writers year taped at_ statements hasImage isKeeping cursor forgottenWhen rowMany refused_u52 kind figure style silent ring_52) → va_S A s.heap H locs → Wh p l e 4 s m args below meth c H locs Q (F0 m 52 ls [])) : ∀ (v3_108 : Int32) (v4_108 : Int32) (v5_108 : Int32) (ring_108 : (Nat → Int32)) (H : Heap) (locs : List Loc) (ls : Array Slot), f_X5_ownBribe_108  kL52 v3_108 v4_108 v5_108 ring_108 = some R → lv_has ls 7 [(0, .ref (ad 0)), (1, .int x1), (3, .int v3_108), (4, .int v4_108), (5, .int v5_108)] → va_P D vwCl (wd_X5_ownBribe cI ad writers year taped at_ statements hasImage isKeeping cursor forgottenWhen rowMany refused_u52 kind figure style silent ring_108) H → va_D A (wd_X5_ownBribe cI ad writers year taped at_ statements hasImage isKeeping cursor forgottenWhen rowMany refused_u52 kind figure style silent ring_108) → va_S A s.heap H locs → Wh p l e 4 s m args below meth c H locs Q (F0 m 108 ls []) := by
  have hx := X.1
  have hb := X.2.1
  intro v3_108 v4_108 v5_108 ring_108 H locs ls hf hl hP hD hS
  replace hf : (kL52 v3_108 v4_108 (v5_108 + (1 : Int32)) ring_108) = some R := hf
  refine lv_iinc (v := (v5_108 + (1 : Int32))) (lv' := [(5, .int (v5_108 + (1 : Int32))), (0, .ref (ad 0)), (1, .int x1), (3, .int v3_108), (4, .int v4_108)]) hx hb dX5_ownBribe_108 hl (k := 4) rfl rfl (by decide) rfl (fun ls hl => ?_)
  refine lv_goto (tgt := 52) hx hb dX5_ownBribe_111 (by decide) ?_
  exact hkL52 v3_108 v4_108 (v5_108 + (1 : Int32)) ring_108 _ _ _ hf (lv_sub hl [1, 2, 3, 4, 0] rfl) hP hD hS
set_option maxHeartbeats 4000000 in
set_option maxRecDepth 100000 in
theorem w_X5_ownBribe_52 {p : Program} {l : Launch} {e : Env} {s : State} {m : MethodId} {args : Array Value} {below : List Frame} {meth : Method} {c : Code} {D : va_G} {cI : ClassId} {aS : aSt} {A : Nat → Prop} {Q : State → Prop}  (ad : Nat → Nat) (writers : Int32) (year : Int32) (taped : Int32) (at_ : Int32) (statements : Int32) (hasImage : Int32) (isKeeping : Int32) (cursor : Int32) (forgottenWhen : Int32) (rowMany : Int32) (kind : (Nat → Int32)) (figure : (Nat → Int32)) (style : (Nat → Int32)) (silent : (Nat → Int32)) (x1 : Int32) (refused_u52 : (Nat → Int32)) {R : Int32 × (Nat → Int32) × (Nat → Int32)} (X : Bx p s m args meth c cX5_ownBribe 7 (some .int) RX5 D cI aS A) (hret : RtI p l e 4 s m args below meth c cX5_ownBribe (some .int) D A (wd_X5_ownBribe cI ad writers year taped at_ statements hasImage isKeeping cursor forgottenWhen rowMany R.2.1 kind figure style silent R.2.2) R.1 Q) : ∀ (fuel : Nat) (v3_52 : Int32) (v4_52 : Int32) (v5_52 : Int32) (ring_52 : (Nat → Int32)) (H : Heap) (locs : List Loc) (ls : Array Slot), f_X5_ownBribe_52 writers year kind figure style silent x1 refused_u52  fuel v3_52 v4_52 v5_52 ring_52 = some R → lv_has ls 7 [(0, .ref (ad 0)), (1, .int x1), (3, .int v3_52), (4, .int v4_52), (5, .int v5_52)] → va_P D vwCl (wd_X5_ownBribe cI ad writers year taped at_ statements hasImage isKeeping cursor forgottenWhen rowMany refused_u52 kind figure style silent ring_52) H → va_D A (wd_X5_ownBribe cI ad writers year taped at_ statements hasImage isKeeping cursor forgottenWhen rowMany refused_u52 kind figure style silent ring_52) → va_S A s.heap H locs → Wh p l e 4 s m args below meth c H locs Q (F0 m 52 ls []) := by
  have hx := X.1
  have hb := X.2.1
  intro fuel
  induction fuel with
  | zero =>
    intro v3_52 v4_52 v5_52 ring_52 H locs ls hf hl hP hD hS
    cases hf
  | succ fuel ih =>
    intro v3_52 v4_52 v5_52 ring_52 H locs ls hf hl hP hD hS
    replace hf : (if writers ≤ v5_52 then (some (v3_52, refused_u52, ring_52)) else (if v5_52 = x1 then (f_X5_ownBribe_108  (f_X5_ownBribe_52 writers year kind figure style silent x1 refused_u52  fuel) v3_52 v4_52 v5_52 ring_52) else ((f_X5_swaps ring_52 x1 v5_52).bind fun (r74 : (Nat → Int32)) => ((f_X5_bookWorth writers year kind figure style silent r74 x1).bind fun (r79 : Int32) => ((f_X5_swaps r74 x1 v5_52).bind fun (r88 : (Nat → Int32)) => (if v4_52 < r79 then (f_X5_ownBribe_108  (f_X5_ownBribe_52 writers year kind figure style silent x1 refused_u52  fuel) v5_52 r79 v5_52 r88) else (f_X5_ownBribe_108  (f_X5_ownBribe_52 writers year kind figure style silent x1 refused_u52  fuel) v3_52 v4_52 v5_52 r88))))))) = some R := hf
    refine lv_iload hx hb dX5_ownBribe_52 (lv_at hl 4 rfl) ?_
    refine lv_aload_n hx hb dX5_ownBribe_54 rfl (lv_at hl 0 rfl) ?_
    refine fgX5_55 X hP (q0 := 0) rfl rfl dX5_ownBribe_55 ?_
    refine lv_icmp_ge (tgt := 114) hx hb dX5_ownBribe_58 (by decide) (fun c58 => ?_) (fun c58 => ?_)
    · have hf := iT c58 hf
      refine lv_iload_n hx hb dX5_ownBribe_114 rfl (lv_at hl 2 rfl) ?_
      have hR := Option.some.inj hf
      subst hR
      exact hret _ _ _ _ _ rfl (fun _ hn => by cases hn; rfl) hP hD hS dX5_ownBribe_115
    · have hf := iF c58 hf
      refine lv_iload hx hb dX5_ownBribe_61 (lv_at hl 4 rfl) ?_
      refine lv_iload_n hx hb dX5_ownBribe_63 rfl (lv_at hl 1 rfl) ?_
      refine lv_icmp_ne (tgt := 70) hx hb dX5_ownBribe_64 (by decide) (fun c64 => ?_) (fun c64 => ?_)
      · have hf := iF c64 hf
        refine lv_aload_n hx hb dX5_ownBribe_70 rfl (lv_at hl 0 rfl) ?_
        refine lv_iload_n hx hb dX5_ownBribe_71 rfl (lv_at hl 1 rfl) ?_
        refine lv_iload hx hb dX5_ownBribe_72 (lv_at hl 4 rfl) ?_
        obtain ⟨r74, hq74, hf⟩ := bS hf
        refine wr_v X hP hD hS [0, 6] rfl (ws' := (wd_X5_ownBribe cI ad writers year taped at_ statements hasImage isKeeping cursor forgottenWhen rowMany refused_u52 kind figure style silent r74)) (Nat.le_of_ble_eq_true rfl) rfl rfl (run_V X hP hD hS [0, 6] rfl rfl (c_X5_swaps l D cI aS ad writers year taped at_ statements hasImage isKeeping cursor forgottenWhen rowMany ring_52 x1 v5_52 _ hq74 _) lkX5_117 (by decide) (q0 := 0) rfl rfl rfl rfl (Nat.le_of_ble_eq_true rfl) hl.1 dX5_ownBribe_74) (fun H locs hP hD hS => ?_)
        refine lv_aload_n hx hb dX5_ownBribe_77 rfl (lv_at hl 0 rfl) ?_
        refine lv_iload_n hx hb dX5_ownBribe_78 rfl (lv_at hl 1 rfl) ?_
        obtain ⟨r79, hq79, hf⟩ := bS hf
        refine ro_i X hP hD hS [0, 2, 3, 4, 5, 6] rfl (run_V X hP hD hS [0, 2, 3, 4, 5, 6] rfl rfl (c_X5_bookWorth l D cI aS ad writers year taped at_ statements hasImage isKeeping cursor forgottenWhen rowMany kind figure style silent r74 x1 _ hq79 _) lkX5_180 (by decide) (q0 := 0) rfl rfl rfl rfl (Nat.le_of_ble_eq_true rfl) hl.1 dX5_ownBribe_79) (fun H locs hP hS => ?_)
        refine lv_istore (lv' := [(6, .int r79), (0, .ref (ad 0)), (1, .int x1), (3, .int v3_52), (4, .int v4_52), (5, .int v5_52)]) hx hb dX5_ownBribe_82 hl (by decide) rfl (fun ls hl => ?_)
        refine lv_aload_n hx hb dX5_ownBribe_84 rfl (lv_at hl 1 rfl) ?_
        refine lv_iload_n hx hb dX5_ownBribe_85 rfl (lv_at hl 2 rfl) ?_
        refine lv_iload hx hb dX5_ownBribe_86 (lv_at hl 5 rfl) ?_
        obtain ⟨r88, hq88, hf⟩ := bS hf
        refine wr_v X hP hD hS [0, 6] rfl (ws' := (wd_X5_ownBribe cI ad writers year taped at_ statements hasImage isKeeping cursor forgottenWhen rowMany refused_u52 kind figure style silent r88)) (Nat.le_of_ble_eq_true rfl) rfl rfl (run_V X hP hD hS [0, 6] rfl rfl (c_X5_swaps l D cI aS ad writers year taped at_ statements hasImage isKeeping cursor forgottenWhen rowMany r74 x1 v5_52 _ hq88 _) lkX5_117 (by decide) (q0 := 0) rfl rfl rfl rfl (Nat.le_of_ble_eq_true rfl) hl.1 dX5_ownBribe_88) (fun H locs hP hD hS => ?_)
        refine lv_iload hx hb dX5_ownBribe_91 (lv_at hl 0 rfl) ?_
        refine lv_iload hx hb dX5_ownBribe_93 (lv_at hl 4 rfl) ?_
        refine lv_icmp_gt (tgt := 101) hx hb dX5_ownBribe_95 (by decide) (fun c95 => ?_) (fun c95 => ?_)
        · have hf := iT c95 hf
          refine lv_iload hx hb dX5_ownBribe_101 (lv_at hl 5 rfl) ?_
          refine lv_istore_n (lv' := [(3, .int v5_52), (6, .int r79), (0, .ref (ad 0)), (1, .int x1), (4, .int v4_52), (5, .int v5_52)]) hx hb dX5_ownBribe_103 rfl hl (by decide) rfl (fun ls hl => ?_)
          refine lv_iload hx hb dX5_ownBribe_104 (lv_at hl 1 rfl) ?_
          refine lv_istore (lv' := [(4, .int r79), (3, .int v5_52), (6, .int r79), (0, .ref (ad 0)), (1, .int x1), (5, .int v5_52)]) hx hb dX5_ownBribe_106 hl (by decide) rfl (fun ls hl => ?_)
          exact w_X5_ownBribe_108 ad writers year taped at_ statements hasImage isKeeping cursor forgottenWhen rowMany kind figure style silent x1 refused_u52 X hret _ ih v5_52 r79 v5_52 r88 _ _ _ hf (lv_sub hl [3, 4, 1, 0, 5] rfl) hP hD hS
        · have hf := iF c95 hf
          refine lv_goto (tgt := 108) hx hb dX5_ownBribe_98 (by decide) ?_
          exact w_X5_ownBribe_108 ad writers year taped at_ statements hasImage isKeeping cursor forgottenWhen rowMany kind figure style silent x1 refused_u52 X hret _ ih v3_52 v4_52 v5_52 r88 _ _ _ hf (lv_sub hl [1, 2, 3, 4, 5] rfl) hP hD hS
      · have hf := iT c64 hf
        refine lv_goto (tgt := 108) hx hb dX5_ownBribe_67 (by decide) ?_
        exact w_X5_ownBribe_108 ad writers year taped at_ statements hasImage isKeeping cursor forgottenWhen rowMany kind figure style silent x1 refused_u52 X hret _ ih v3_52 v4_52 v5_52 ring_52 _ _ _ hf (lv_sub hl [0, 1, 2, 3, 4] rfl) hP hD hS
set_option maxHeartbeats 4000000 in
set_option maxRecDepth 100000 in
theorem w_X5_ownBribe_28 {p : Program} {l : Launch} {e : Env} {s : State} {m : MethodId} {args : Array Value} {below : List Frame} {meth : Method} {c : Code} {D : va_G} {cI : ClassId} {aS : aSt} {A : Nat → Prop} {Q : State → Prop}  (ad : Nat → Nat) (writers : Int32) (year : Int32) (taped : Int32) (at_ : Int32) (statements : Int32) (hasImage : Int32) (isKeeping : Int32) (cursor : Int32) (forgottenWhen : Int32) (rowMany : Int32) (kind : (Nat → Int32)) (figure : (Nat → Int32)) (style : (Nat → Int32)) (silent : (Nat → Int32)) (x1 : Int32) {R : Int32 × (Nat → Int32) × (Nat → Int32)} (X : Bx p s m args meth c cX5_ownBribe 7 (some .int) RX5 D cI aS A) (hret : RtI p l e 4 s m args below meth c cX5_ownBribe (some .int) D A (wd_X5_ownBribe cI ad writers year taped at_ statements hasImage isKeeping cursor forgottenWhen rowMany R.2.1 kind figure style silent R.2.2) R.1 Q) : ∀ (refused_28 : (Nat → Int32)) (ring_28 : (Nat → Int32)) (t0_28 : Int32) (H : Heap) (locs : List Loc) (ls : Array Slot), f_X5_ownBribe_28 writers year kind figure style silent x1  refused_28 ring_28 t0_28 = some R → lv_has ls 7 [(0, .ref (ad 0)), (1, .int x1)] → va_P D vwCl (wd_X5_ownBribe cI ad writers year taped at_ statements hasImage isKeeping cursor forgottenWhen rowMany refused_28 kind figure style silent ring_28) H → va_D A (wd_X5_ownBribe cI ad writers year taped at_ statements hasImage isKeeping cursor forgottenWhen rowMany refused_28 kind figure style silent ring_28) → va_S A s.heap H locs → Wh p l e 4 s m args below meth c H locs Q (F0 m 28 ls [.int t0_28]) := by
  have hx := X.1
  have hb := X.2.1
  intro refused_28 ring_28 t0_28 H locs ls hf hl hP hD hS
  replace hf : (if t0_28 = 0 then ((f_X5_bookWorth writers year kind figure style silent ring_28 x1).bind fun (r44 : Int32) => (f_X5_ownBribe_52 writers year kind figure style silent x1 refused_28  FU (-9 : Int32) r44 (0 : Int32) ring_28)) else ((f_X5_no refused_28 t0_28).bind fun (r35 : Int32 × (Nat → Int32)) => (some (r35.1, r35.2, ring_28)))) = some R := hf
  refine lv_istore_n (lv' := [(2, .int t0_28), (0, .ref (ad 0)), (1, .int x1)]) hx hb dX5_ownBribe_28 rfl hl (by decide) rfl (fun ls hl => ?_)
  refine lv_iload_n hx hb dX5_ownBribe_29 rfl (lv_at hl 0 rfl) ?_
  refine lv_if_eq (tgt := 39) hx hb dX5_ownBribe_30 (by decide) (fun c30 => ?_) (fun c30 => ?_)
  · have hf := iT c30 hf
    refine lv_bipush (v := -9) hx hb dX5_ownBribe_39 (by decide) ?_
    refine lv_istore_n (lv' := [(3, .int (-9 : Int32)), (2, .int t0_28), (0, .ref (ad 0)), (1, .int x1)]) hx hb dX5_ownBribe_41 rfl hl (by decide) rfl (fun ls hl => ?_)
    refine lv_aload_n hx hb dX5_ownBribe_42 rfl (lv_at hl 2 rfl) ?_
    refine lv_iload_n hx hb dX5_ownBribe_43 rfl (lv_at hl 3 rfl) ?_
    obtain ⟨r44, hq44, hf⟩ := bS hf
    refine ro_i X hP hD hS [0, 2, 3, 4, 5, 6] rfl (run_V X hP hD hS [0, 2, 3, 4, 5, 6] rfl rfl (c_X5_bookWorth l D cI aS ad writers year taped at_ statements hasImage isKeeping cursor forgottenWhen rowMany kind figure style silent ring_28 x1 _ hq44 _) lkX5_180 (by decide) (q0 := 0) rfl rfl rfl rfl (Nat.le_of_ble_eq_true rfl) hl.1 dX5_ownBribe_44) (fun H locs hP hS => ?_)
    refine lv_istore (lv' := [(4, .int r44), (3, .int (-9 : Int32)), (2, .int t0_28), (0, .ref (ad 0)), (1, .int x1)]) hx hb dX5_ownBribe_47 hl (by decide) rfl (fun ls hl => ?_)
    refine lv_iconst (v := 0) hx hb dX5_ownBribe_49 (by decide) ?_
    refine lv_istore (lv' := [(5, .int (0 : Int32)), (4, .int r44), (3, .int (-9 : Int32)), (2, .int t0_28), (0, .ref (ad 0)), (1, .int x1)]) hx hb dX5_ownBribe_50 hl (by decide) rfl (fun ls hl => ?_)
    exact w_X5_ownBribe_52 ad writers year taped at_ statements hasImage isKeeping cursor forgottenWhen rowMany kind figure style silent x1 refused_28 X hret  _ (-9 : Int32) r44 (0 : Int32) ring_28 _ _ _ hf (lv_sub hl [4, 5, 2, 1, 0] rfl) hP hD hS
  · have hf := iF c30 hf
    refine lv_aload_n hx hb dX5_ownBribe_33 rfl (lv_at hl 1 rfl) ?_
    refine lv_iload_n hx hb dX5_ownBribe_34 rfl (lv_at hl 0 rfl) ?_
    obtain ⟨r35, hq35, hf⟩ := bS hf
    refine wr_i X hP hD hS [0, 1] rfl (ws' := (wd_X5_ownBribe cI ad writers year taped at_ statements hasImage isKeeping cursor forgottenWhen rowMany r35.2 kind figure style silent ring_28)) (Nat.le_of_ble_eq_true rfl) rfl rfl (run_V X hP hD hS [0, 1] rfl rfl (c_X5_no l D cI aS ad writers year taped at_ statements hasImage isKeeping cursor forgottenWhen rowMany refused_28 t0_28 _ hq35 _) lkX5_69 (by decide) (q0 := 0) rfl rfl rfl rfl (Nat.le_of_ble_eq_true rfl) hl.1 dX5_ownBribe_35) (fun H locs hP hD hS => ?_)
    have hR := Option.some.inj hf
    subst hR
    exact hret _ _ _ _ _ rfl (fun _ hn => by cases hn; rfl) hP hD hS dX5_ownBribe_38
set_option maxHeartbeats 4000000 in
set_option maxRecDepth 100000 in
theorem c_X5_ownBribe (l : Launch) (D : va_G) (cI : ClassId) (aS : aSt) (ad : Nat → Nat) (writers : Int32) (year : Int32) (taped : Int32) (at_ : Int32) (statements : Int32) (hasImage : Int32) (isKeeping : Int32) (cursor : Int32) (forgottenWhen : Int32) (rowMany : Int32) (refused : (Nat → Int32)) (kind : (Nat → Int32)) (figure : (Nat → Int32)) (style : (Nat → Int32)) (silent : (Nat → Int32)) (ring : (Nat → Int32)) (x1 : Int32) (R : Int32 × (Nat → Int32) × (Nat → Int32)) (hf : f_X5_ownBribe writers year refused kind figure style silent ring x1 = some R) : CtI l yX5_ownBribe cX5_ownBribe 7 (some .int) 4 D cI aS [.ref (ad 0), .int x1] (wd_X5_ownBribe cI ad writers year taped at_ statements hasImage isKeeping cursor forgottenWhen rowMany refused kind figure style silent ring) (wd_X5_ownBribe cI ad writers year taped at_ statements hasImage isKeeping cursor forgottenWhen rowMany R.2.1 kind figure style silent R.2.2) R.1 := by
  refine ctI_of (by decide) ⟨_, rfl⟩ (Nat.le_of_ble_eq_true rfl) ?_
  intro p e s m below meth c A Q ls X hret hP hD hl
  have hS : va_S A s.heap s.heap [] := va_S.rf
  have hx := X.1
  have hb := X.2.1
  have hl : lv_has ls 7 [(0, .ref (ad 0)), (1, .int x1)] := hl
  replace hf : ((f_X5_isOne writers x1).bind fun (r2 : Int32) => (if r2 = 0 then (f_X5_ownBribe_28 writers year kind figure style silent x1  refused ring (-1 : Int32)) else (gd x1 7 (if (silent (Int32.toNatClampNeg x1)) = (1 : Int32) then (f_X5_ownBribe_28 writers year kind figure style silent x1  refused ring (-3 : Int32)) else (f_X5_ownBribe_28 writers year kind figure style silent x1  refused ring (0 : Int32)))))) = some R := hf
  refine lv_aload_n hx hb dX5_ownBribe_0 rfl (lv_at hl 0 rfl) ?_
  refine lv_iload_n hx hb dX5_ownBribe_1 rfl (lv_at hl 1 rfl) ?_
  obtain ⟨r2, hq2, hf⟩ := bS hf
  refine ro_i X hP hD hS [0] rfl (run_V X hP hD hS [0] rfl rfl (c_X5_isOne l D cI aS ad writers year taped at_ statements hasImage isKeeping cursor forgottenWhen rowMany x1 _ hq2 _) lkX5_108 (by decide) (q0 := 0) rfl rfl rfl rfl (Nat.le_of_ble_eq_true rfl) hl.1 dX5_ownBribe_2) (fun H locs hP hS => ?_)
  refine lv_if_ne (tgt := 12) hx hb dX5_ownBribe_5 (by decide) (fun c5 => ?_) (fun c5 => ?_)
  · have hf := iF c5 hf
    refine lv_aload_n hx hb dX5_ownBribe_12 rfl (lv_at hl 0 rfl) ?_
    refine fgX5_25 X hP (q0 := 0) rfl rfl dX5_ownBribe_13 ?_
    refine lv_iload_n hx hb dX5_ownBribe_16 rfl (lv_at hl 1 rfl) ?_
    refine aGet X hP (q0 := 5) rfl (gdS hf).1 dX5_ownBribe_17 ?_
    have hf := (gdS hf).2
    refine lv_iconst (v := 1) hx hb dX5_ownBribe_18 (by decide) ?_
    refine lv_icmp_ne (tgt := 27) hx hb dX5_ownBribe_19 (by decide) (fun c19 => ?_) (fun c19 => ?_)
    · have hf := iF c19 hf
      refine lv_iconst (v := 0) hx hb dX5_ownBribe_27 (by decide) ?_
      exact w_X5_ownBribe_28 ad writers year taped at_ statements hasImage isKeeping cursor forgottenWhen rowMany kind figure style silent x1 X hret  refused ring (0 : Int32) _ _ _ hf (lv_sub hl [0, 1] rfl) hP hD hS
    · have hf := iT c19 hf
      refine lv_bipush (v := -3) hx hb dX5_ownBribe_22 (by decide) ?_
      refine lv_goto (tgt := 28) hx hb dX5_ownBribe_24 (by decide) ?_
      exact w_X5_ownBribe_28 ad writers year taped at_ statements hasImage isKeeping cursor forgottenWhen rowMany kind figure style silent x1 X hret  refused ring (-3 : Int32) _ _ _ hf (lv_sub hl [0, 1] rfl) hP hD hS
  · have hf := iT c5 hf
    refine lv_iconst (v := -1) hx hb dX5_ownBribe_8 (by decide) ?_
    refine lv_goto (tgt := 28) hx hb dX5_ownBribe_9 (by decide) ?_
    exact w_X5_ownBribe_28 ad writers year taped at_ statements hasImage isKeeping cursor forgottenWhen rowMany kind figure style silent x1 X hret  refused ring (-1 : Int32) _ _ _ hf (lv_sub hl [0, 1] rfl) hP hD hS

abbrev wd_X5_worthBy (cI : ClassId) (ad : Nat → Nat) (writers : Int32) (year : Int32) (taped : Int32) (at_ : Int32) (statements : Int32) (hasImage : Int32) (isKeeping : Int32) (cursor : Int32) (forgottenWhen : Int32) (rowMany : Int32) (kind : (Nat → Int32)) (figure : (Nat → Int32)) (style : (Nat → Int32)) (silent : (Nat → Int32)) (ring : (Nat → Int32)) : va_W := [((ad 0), .inr (5, [.ref (ad 1), .ref (ad 2), .ref (ad 3), .ref (ad 4), .ref (ad 5), .ref (ad 6), .ref (ad 7), .int writers, .int year, .ref (ad 8), .ref (ad 9), .ref (ad 10), .ref (ad 11), .int taped, .int at_, .int statements, .ref (ad 12), .int hasImage, .int isKeeping, .int cursor, .int forgottenWhen, .ref (ad 13), .ref (ad 14), .ref (ad 15), .int rowMany])), ((ad 2), .inl (cI, 7, .inl kind)), ((ad 3), .inl (cI, 7, .inl figure)), ((ad 4), .inl (cI, 7, .inl style)), ((ad 6), .inl (cI, 7, .inl silent)), ((ad 7), .inl (cI, 7, .inl ring))]
def f_X5_worthBy (writers : Int32) (year : Int32) (kind : (Nat → Int32)) (figure : (Nat → Int32)) (style : (Nat → Int32)) (silent : (Nat → Int32)) (ring : (Nat → Int32)) (x1 : Int32) (x2 : Int32) : Option (Int32 × (Nat → Int32)) := (gd x1 7 (gd x1 7 ((f_X5_bookWorth writers year kind figure (upd style (Int32.toNatClampNeg x1) x2) silent ring x1).bind fun (r16 : Int32) => (gd x1 7 (some (r16, (upd (upd style (Int32.toNatClampNeg x1) x2) (Int32.toNatClampNeg x1) (style (Int32.toNatClampNeg x1)))))))))
set_option maxHeartbeats 4000000 in
set_option maxRecDepth 100000 in
theorem c_X5_worthBy (l : Launch) (D : va_G) (cI : ClassId) (aS : aSt) (ad : Nat → Nat) (writers : Int32) (year : Int32) (taped : Int32) (at_ : Int32) (statements : Int32) (hasImage : Int32) (isKeeping : Int32) (cursor : Int32) (forgottenWhen : Int32) (rowMany : Int32) (kind : (Nat → Int32)) (figure : (Nat → Int32)) (style : (Nat → Int32)) (silent : (Nat → Int32)) (ring : (Nat → Int32)) (x1 : Int32) (x2 : Int32) (R : Int32 × (Nat → Int32)) (hf : f_X5_worthBy writers year kind figure style silent ring x1 x2 = some R) : CtI l yX5_worthBy cX5_worthBy 5 (some .int) 4 D cI aS [.ref (ad 0), .int x1, .int x2] (wd_X5_worthBy cI ad writers year taped at_ statements hasImage isKeeping cursor forgottenWhen rowMany kind figure style silent ring) (wd_X5_worthBy cI ad writers year taped at_ statements hasImage isKeeping cursor forgottenWhen rowMany kind figure R.2 silent ring) R.1 := by
  refine ctI_of (by decide) ⟨_, rfl⟩ (Nat.le_of_ble_eq_true rfl) ?_
  intro p e s m below meth c A Q ls X hret hP hD hl
  have hS : va_S A s.heap s.heap [] := va_S.rf
  have hx := X.1
  have hb := X.2.1
  have hl : lv_has ls 5 [(0, .ref (ad 0)), (1, .int x1), (2, .int x2)] := hl
  replace hf : (gd x1 7 (gd x1 7 ((f_X5_bookWorth writers year kind figure (upd style (Int32.toNatClampNeg x1) x2) silent ring x1).bind fun (r16 : Int32) => (gd x1 7 (some (r16, (upd (upd style (Int32.toNatClampNeg x1) x2) (Int32.toNatClampNeg x1) (style (Int32.toNatClampNeg x1))))))))) = some R := hf
  refine lv_aload_n hx hb dX5_worthBy_0 rfl (lv_at hl 0 rfl) ?_
  refine fgX5_19 X hP (q0 := 0) rfl rfl dX5_worthBy_1 ?_
  refine lv_iload_n hx hb dX5_worthBy_4 rfl (lv_at hl 1 rfl) ?_
  refine aGet X hP (q0 := 3) rfl (gdS hf).1 dX5_worthBy_5 ?_
  have hf := (gdS hf).2
  refine lv_istore_n (lv' := [(3, .int (style (Int32.toNatClampNeg x1))), (0, .ref (ad 0)), (1, .int x1), (2, .int x2)]) hx hb dX5_worthBy_6 rfl hl (by decide) rfl (fun ls hl => ?_)
  refine lv_aload_n hx hb dX5_worthBy_7 rfl (lv_at hl 1 rfl) ?_
  refine fgX5_19 X hP (q0 := 0) rfl rfl dX5_worthBy_8 ?_
  refine lv_iload_n hx hb dX5_worthBy_11 rfl (lv_at hl 2 rfl) ?_
  refine lv_iload_n hx hb dX5_worthBy_12 rfl (lv_at hl 3 rfl) ?_
  refine aPut X hP hD hS (q0 := 3) (ws' := (wd_X5_worthBy cI ad writers year taped at_ statements hasImage isKeeping cursor forgottenWhen rowMany kind figure (upd style (Int32.toNatClampNeg x1) x2) silent ring)) rfl (gdS hf).1 rfl dX5_worthBy_13 (fun H locs hP hD hS => ?_)
  have hf := (gdS hf).2
  refine lv_aload_n hx hb dX5_worthBy_14 rfl (lv_at hl 1 rfl) ?_
  refine lv_iload_n hx hb dX5_worthBy_15 rfl (lv_at hl 2 rfl) ?_
  obtain ⟨r16, hq16, hf⟩ := bS hf
  refine ro_i X hP hD hS [0, 1, 2, 3, 4, 5] rfl (run_V X hP hD hS [0, 1, 2, 3, 4, 5] rfl rfl (c_X5_bookWorth l D cI aS ad writers year taped at_ statements hasImage isKeeping cursor forgottenWhen rowMany kind figure (upd style (Int32.toNatClampNeg x1) x2) silent ring x1 _ hq16 _) lkX5_180 (by decide) (q0 := 0) rfl rfl rfl rfl (Nat.le_of_ble_eq_true rfl) hl.1 dX5_worthBy_16) (fun H locs hP hS => ?_)
  refine lv_istore (lv' := [(4, .int r16), (3, .int (style (Int32.toNatClampNeg x1))), (0, .ref (ad 0)), (1, .int x1), (2, .int x2)]) hx hb dX5_worthBy_19 hl (by decide) rfl (fun ls hl => ?_)
  refine lv_aload_n hx hb dX5_worthBy_21 rfl (lv_at hl 2 rfl) ?_
  refine fgX5_19 X hP (q0 := 0) rfl rfl dX5_worthBy_22 ?_
  refine lv_iload_n hx hb dX5_worthBy_25 rfl (lv_at hl 3 rfl) ?_
  refine lv_iload_n hx hb dX5_worthBy_26 rfl (lv_at hl 1 rfl) ?_
  refine aPut X hP hD hS (q0 := 3) (ws' := (wd_X5_worthBy cI ad writers year taped at_ statements hasImage isKeeping cursor forgottenWhen rowMany kind figure (upd (upd style (Int32.toNatClampNeg x1) x2) (Int32.toNatClampNeg x1) (style (Int32.toNatClampNeg x1))) silent ring)) rfl (gdS hf).1 rfl dX5_worthBy_27 (fun H locs hP hD hS => ?_)
  have hf := (gdS hf).2
  refine lv_iload hx hb dX5_worthBy_28 (lv_at hl 0 rfl) ?_
  have hR := Option.some.inj hf
  subst hR
  exact hret _ _ _ _ _ rfl (fun _ hn => by cases hn; rfl) hP hD hS dX5_worthBy_30

abbrev wd_X5_page (cI : ClassId) (ad : Nat → Nat) (writers : Int32) (year : Int32) (taped : Int32) (at_ : Int32) (statements : Int32) (hasImage : Int32) (isKeeping : Int32) (cursor : Int32) (forgottenWhen : Int32) (rowMany : Int32) (refused : (Nat → Int32)) (kind : (Nat → Int32)) (figure : (Nat → Int32)) (style : (Nat → Int32)) (silent : (Nat → Int32)) (ring : (Nat → Int32)) : va_W := [((ad 0), .inr (5, [.ref (ad 1), .ref (ad 2), .ref (ad 3), .ref (ad 4), .ref (ad 5), .ref (ad 6), .ref (ad 7), .int writers, .int year, .ref (ad 8), .ref (ad 9), .ref (ad 10), .ref (ad 11), .int taped, .int at_, .int statements, .ref (ad 12), .int hasImage, .int isKeeping, .int cursor, .int forgottenWhen, .ref (ad 13), .ref (ad 14), .ref (ad 15), .int rowMany])), ((ad 1), .inl (cI, 7, .inl refused)), ((ad 2), .inl (cI, 7, .inl kind)), ((ad 3), .inl (cI, 7, .inl figure)), ((ad 4), .inl (cI, 7, .inl style)), ((ad 6), .inl (cI, 7, .inl silent)), ((ad 7), .inl (cI, 7, .inl ring))]
def f_X5_page_90  (kL59 : Int32 → Int32 → (Nat → Int32) → Option (Int32 × (Nat → Int32) × (Nat → Int32))) (v5_90 : Int32) (style_90 : (Nat → Int32)) (t0_90 : Int32) : Option (Int32 × (Nat → Int32) × (Nat → Int32)) := (kL59 t0_90 (v5_90 + (1 : Int32)) style_90)
def f_X5_page_59 (writers : Int32) (year : Int32) (kind : (Nat → Int32)) (figure : (Nat → Int32)) (silent : (Nat → Int32)) (ring : (Nat → Int32)) (x1 : Int32) (kX59_98 : Int32 → (Nat → Int32) → Option (Int32 × (Nat → Int32) × (Nat → Int32))) : Nat → Int32 → Int32 → (Nat → Int32) → Option (Int32 × (Nat → Int32) × (Nat → Int32))
  | 0 => fun _ _ _ => none
  | fuel + 1 => fun v4_59 v5_59 style_59 => (if (10 : Int32) ≤ v5_59 then (kX59_98 v4_59 style_59) else ((f_X5_worthBy writers year kind figure style_59 silent ring x1 v5_59).bind fun (r70 : Int32 × (Nat → Int32)) => ((f_X5_worthBy writers year kind figure r70.2 silent ring x1 v4_59).bind fun (r77 : Int32 × (Nat → Int32)) => (if r70.1 ≤ r77.1 then (f_X5_page_90  (f_X5_page_59 writers year kind figure silent ring x1 kX59_98 fuel) v5_59 r77.2 v4_59) else (f_X5_page_90  (f_X5_page_59 writers year kind figure silent ring x1 kX59_98 fuel) v5_59 r77.2 v5_59)))))
theorem e_X5_page_59 (writers : Int32) (year : Int32) (kind : (Nat → Int32)) (figure : (Nat → Int32)) (silent : (Nat → Int32)) (ring : (Nat → Int32)) (x1 : Int32) (kX59_98 : Int32 → (Nat → Int32) → Option (Int32 × (Nat → Int32) × (Nat → Int32))) (fuel : Nat) (v4_59 : Int32) (v5_59 : Int32) (style_59 : (Nat → Int32)) : f_X5_page_59 writers year kind figure silent ring x1 kX59_98 (fuel + 1) v4_59 v5_59 style_59 = (if (10 : Int32) ≤ v5_59 then (kX59_98 v4_59 style_59) else ((f_X5_worthBy writers year kind figure style_59 silent ring x1 v5_59).bind fun (r70 : Int32 × (Nat → Int32)) => ((f_X5_worthBy writers year kind figure r70.2 silent ring x1 v4_59).bind fun (r77 : Int32 × (Nat → Int32)) => (if r70.1 ≤ r77.1 then (f_X5_page_90  (f_X5_page_59 writers year kind figure silent ring x1 kX59_98 fuel) v5_59 r77.2 v4_59) else (f_X5_page_90  (f_X5_page_59 writers year kind figure silent ring x1 kX59_98 fuel) v5_59 r77.2 v5_59))))) := rfl
def f_X5_page_98 (writers : Int32) (year : Int32) (kind : (Nat → Int32)) (figure : (Nat → Int32)) (silent : (Nat → Int32)) (ring : (Nat → Int32)) (x1 : Int32) (x2 : Int32)  (v4_98 : Int32) (refused_98 : (Nat → Int32)) (style_98 : (Nat → Int32)) : Option (Int32 × (Nat → Int32) × (Nat → Int32)) := (if x2 = 0 then (some (v4_98, refused_98, style_98)) else ((f_X5_worthBy writers year kind figure style_98 silent ring x1 v4_98).bind fun (r111 : Int32 × (Nat → Int32)) => (some (r111.1, refused_98, r111.2))))
def f_X5_page_42 (writers : Int32) (year : Int32) (kind : (Nat → Int32)) (figure : (Nat → Int32)) (silent : (Nat → Int32)) (ring : (Nat → Int32)) (x1 : Int32) (x2 : Int32)  (refused_42 : (Nat → Int32)) (style_42 : (Nat → Int32)) (t0_42 : Int32) : Option (Int32 × (Nat → Int32) × (Nat → Int32)) := (if t0_42 = 0 then (f_X5_page_59 writers year kind figure silent ring x1 (fun (v4_98 : Int32) (style_98 : (Nat → Int32)) => (f_X5_page_98 writers year kind figure silent ring x1 x2  v4_98 refused_42 style_98)) FU (0 : Int32) (1 : Int32) style_42) else ((f_X5_lower refused_42 t0_42).bind fun (r49 : Int32 × (Nat → Int32)) => (some (r49.1, r49.2, style_42))))
def f_X5_page (writers : Int32) (year : Int32) (refused : (Nat → Int32)) (kind : (Nat → Int32)) (figure : (Nat → Int32)) (style : (Nat → Int32)) (silent : (Nat → Int32)) (ring : (Nat → Int32)) (x1 : Int32) (x2 : Int32) : Option (Int32 × (Nat → Int32) × (Nat → Int32)) := ((f_X5_isOne writers x1).bind fun (r2 : Int32) => (if r2 = 0 then (f_X5_page_42 writers year kind figure silent ring x1 x2  refused style (-1 : Int32)) else ((f_X5_isIn x2 (0 : Int32) (1 : Int32)).bind fun (r15 : Int32) => (if r15 = 0 then (f_X5_page_42 writers year kind figure silent ring x1 x2  refused style (-2 : Int32)) else (gd x1 7 (if (silent (Int32.toNatClampNeg x1)) = (1 : Int32) then (f_X5_page_42 writers year kind figure silent ring x1 x2  refused style (-3 : Int32)) else (f_X5_page_42 writers year kind figure silent ring x1 x2  refused style (0 : Int32))))))))
set_option maxHeartbeats 4000000 in
set_option maxRecDepth 100000 in
theorem w_X5_page_90 {p : Program} {l : Launch} {e : Env} {s : State} {m : MethodId} {args : Array Value} {below : List Frame} {meth : Method} {c : Code} {D : va_G} {cI : ClassId} {aS : aSt} {A : Nat → Prop} {Q : State → Prop}  (ad : Nat → Nat) (writers : Int32) (year : Int32) (taped : Int32) (at_ : Int32) (statements : Int32) (hasImage : Int32) (isKeeping : Int32) (cursor : Int32) (forgottenWhen : Int32) (rowMany : Int32) (kind : (Nat → Int32)) (figure : (Nat → Int32)) (silent : (Nat → Int32)) (ring : (Nat → Int32)) (x1 : Int32) (x2 : Int32) (refused_u59 : (Nat → Int32)) {R : Int32 × (Nat → Int32) × (Nat → Int32)} (X : Bx p s m args meth c cX5_page 6 (some .int) RX5 D cI aS A) (hret : RtI p l e 5 s m args below meth c cX5_page (some .int) D A (wd_X5_page cI ad writers year taped at_ statements hasImage isKeeping cursor forgottenWhen rowMany R.2.1 kind figure R.2.2 silent ring) R.1 Q) (kL59 : Int32 → Int32 → (Nat → Int32) → Option (Int32 × (Nat → Int32) × (Nat → Int32))) (hkL59 : ∀ (v4_59 : Int32) (v5_59 : Int32) (style_59 : (Nat → Int32)) (H : Heap) (locs : List Loc) (ls : Array Slot), kL59 v4_59 v5_59 style_59 = some R → lv_has ls 6 [(0, .ref (ad 0)), (1, .int x1), (2, .int x2), (4, .int v4_59), (5, .int v5_59)] → va_P D vwCl (wd_X5_page cI ad writers year taped at_ statements hasImage isKeeping cursor forgottenWhen rowMany refused_u59 kind figure style_59 silent ring) H → va_D A (wd_X5_page cI ad writers year taped at_ statements hasImage isKeeping cursor forgottenWhen rowMany refused_u59 kind figure style_59 silent ring) → va_S A s.heap H locs → Wh p l e 5 s m args below meth c H locs Q (F0 m 59 ls [])) : ∀ (v5_90 : Int32) (style_90 : (Nat → Int32)) (t0_90 : Int32) (H : Heap) (locs : List Loc) (ls : Array Slot), f_X5_page_90  kL59 v5_90 style_90 t0_90 = some R → lv_has ls 6 [(0, .ref (ad 0)), (1, .int x1), (2, .int x2), (5, .int v5_90)] → va_P D vwCl (wd_X5_page cI ad writers year taped at_ statements hasImage isKeeping cursor forgottenWhen rowMany refused_u59 kind figure style_90 silent ring) H → va_D A (wd_X5_page cI ad writers year taped at_ statements hasImage isKeeping cursor forgottenWhen rowMany refused_u59 kind figure style_90 silent ring) → va_S A s.heap H locs → Wh p l e 5 s m args below meth c H locs Q (F0 m 90 ls [.int t0_90]) := by
  have hx := X.1
  have hb := X.2.1
  intro v5_90 style_90 t0_90 H locs ls hf hl hP hD hS
  replace hf : (kL59 t0_90 (v5_90 + (1 : Int32)) style_90) = some R := hf
  refine lv_istore (lv' := [(4, .int t0_90), (0, .ref (ad 0)), (1, .int x1), (2, .int x2), (5, .int v5_90)]) hx hb dX5_page_90 hl (by decide) rfl (fun ls hl => ?_)
  refine lv_iinc (v := (v5_90 + (1 : Int32))) (lv' := [(5, .int (v5_90 + (1 : Int32))), (4, .int t0_90), (0, .ref (ad 0)), (1, .int x1), (2, .int x2)]) hx hb dX5_page_92 hl (k := 4) rfl rfl (by decide) rfl (fun ls hl => ?_)
  refine lv_goto (tgt := 59) hx hb dX5_page_95 (by decide) ?_
  exact hkL59 t0_90 (v5_90 + (1 : Int32)) style_90 _ _ _ hf (lv_sub hl [2, 3, 4, 1, 0] rfl) hP hD hS
set_option maxHeartbeats 4000000 in
set_option maxRecDepth 100000 in
theorem w_X5_page_59 {p : Program} {l : Launch} {e : Env} {s : State} {m : MethodId} {args : Array Value} {below : List Frame} {meth : Method} {c : Code} {D : va_G} {cI : ClassId} {aS : aSt} {A : Nat → Prop} {Q : State → Prop}  (ad : Nat → Nat) (writers : Int32) (year : Int32) (taped : Int32) (at_ : Int32) (statements : Int32) (hasImage : Int32) (isKeeping : Int32) (cursor : Int32) (forgottenWhen : Int32) (rowMany : Int32) (kind : (Nat → Int32)) (figure : (Nat → Int32)) (silent : (Nat → Int32)) (ring : (Nat → Int32)) (x1 : Int32) (x2 : Int32) (refused_u59 : (Nat → Int32)) {R : Int32 × (Nat → Int32) × (Nat → Int32)} (X : Bx p s m args meth c cX5_page 6 (some .int) RX5 D cI aS A) (hret : RtI p l e 5 s m args below meth c cX5_page (some .int) D A (wd_X5_page cI ad writers year taped at_ statements hasImage isKeeping cursor forgottenWhen rowMany R.2.1 kind figure R.2.2 silent ring) R.1 Q) (kX59_98 : Int32 → (Nat → Int32) → Option (Int32 × (Nat → Int32) × (Nat → Int32))) (hkX59_98 : ∀ (v4_98 : Int32) (style_98 : (Nat → Int32)) (H : Heap) (locs : List Loc) (ls : Array Slot), kX59_98 v4_98 style_98 = some R → lv_has ls 6 [(0, .ref (ad 0)), (1, .int x1), (2, .int x2), (4, .int v4_98)] → va_P D vwCl (wd_X5_page cI ad writers year taped at_ statements hasImage isKeeping cursor forgottenWhen rowMany refused_u59 kind figure style_98 silent ring) H → va_D A (wd_X5_page cI ad writers year taped at_ statements hasImage isKeeping cursor forgottenWhen rowMany refused_u59 kind figure style_98 silent ring) → va_S A s.heap H locs → Wh p l e 5 s m args below meth c H locs Q (F0 m 98 ls [])) : ∀ (fuel : Nat) (v4_59 : Int32) (v5_59 : Int32) (style_59 : (Nat → Int32)) (H : Heap) (locs : List Loc) (ls : Array Slot), f_X5_page_59 writers year kind figure silent ring x1 kX59_98 fuel v4_59 v5_59 style_59 = some R → lv_has ls 6 [(0, .ref (ad 0)), (1, .int x1), (2, .int x2), (4, .int v4_59), (5, .int v5_59)] → va_P D vwCl (wd_X5_page cI ad writers year taped at_ statements hasImage isKeeping cursor forgottenWhen rowMany refused_u59 kind figure style_59 silent ring) H → va_D A (wd_X5_page cI ad writers year taped at_ statements hasImage isKeeping cursor forgottenWhen rowMany refused_u59 kind figure style_59 silent ring) → va_S A s.heap H locs → Wh p l e 5 s m args below meth c H locs Q (F0 m 59 ls []) := by
  have hx := X.1
  have hb := X.2.1
  intro fuel
  induction fuel with
  | zero =>
    intro v4_59 v5_59 style_59 H locs ls hf hl hP hD hS
    cases hf
  | succ fuel ih =>
    intro v4_59 v5_59 style_59 H locs ls hf hl hP hD hS
    replace hf : (if (10 : Int32) ≤ v5_59 then (kX59_98 v4_59 style_59) else ((f_X5_worthBy writers year kind figure style_59 silent ring x1 v5_59).bind fun (r70 : Int32 × (Nat → Int32)) => ((f_X5_worthBy writers year kind figure r70.2 silent ring x1 v4_59).bind fun (r77 : Int32 × (Nat → Int32)) => (if r70.1 ≤ r77.1 then (f_X5_page_90  (f_X5_page_59 writers year kind figure silent ring x1 kX59_98 fuel) v5_59 r77.2 v4_59) else (f_X5_page_90  (f_X5_page_59 writers year kind figure silent ring x1 kX59_98 fuel) v5_59 r77.2 v5_59))))) = some R := hf
    refine lv_iload hx hb dX5_page_59 (lv_at hl 4 rfl) ?_
    refine lv_bipush (v := 10) hx hb dX5_page_61 (by decide) ?_
    refine lv_icmp_ge (tgt := 98) hx hb dX5_page_63 (by decide) (fun c63 => ?_) (fun c63 => ?_)
    · have hf := iT c63 hf
      exact hkX59_98 v4_59 style_59 _ _ _ hf (lv_sub hl [0, 1, 2, 3] rfl) hP hD hS
    · have hf := iF c63 hf
      refine lv_aload_n hx hb dX5_page_66 rfl (lv_at hl 0 rfl) ?_
      refine lv_iload_n hx hb dX5_page_67 rfl (lv_at hl 1 rfl) ?_
      refine lv_iload hx hb dX5_page_68 (lv_at hl 4 rfl) ?_
      obtain ⟨r70, hq70, hf⟩ := bS hf
      refine wr_i X hP hD hS [0, 2, 3, 4, 5, 6] rfl (ws' := (wd_X5_page cI ad writers year taped at_ statements hasImage isKeeping cursor forgottenWhen rowMany refused_u59 kind figure r70.2 silent ring)) (Nat.le_of_ble_eq_true rfl) rfl rfl (run_V X hP hD hS [0, 2, 3, 4, 5, 6] rfl rfl (c_X5_worthBy l D cI aS ad writers year taped at_ statements hasImage isKeeping cursor forgottenWhen rowMany kind figure style_59 silent ring x1 v5_59 _ hq70 _) lkX5_227 (by decide) (q0 := 0) rfl rfl rfl rfl (Nat.le_of_ble_eq_true rfl) hl.1 dX5_page_70) (fun H locs hP hD hS => ?_)
      refine lv_aload_n hx hb dX5_page_73 rfl (lv_at hl 0 rfl) ?_
      refine lv_iload_n hx hb dX5_page_74 rfl (lv_at hl 1 rfl) ?_
      refine lv_iload hx hb dX5_page_75 (lv_at hl 3 rfl) ?_
      obtain ⟨r77, hq77, hf⟩ := bS hf
      refine wr_i X hP hD hS [0, 2, 3, 4, 5, 6] rfl (ws' := (wd_X5_page cI ad writers year taped at_ statements hasImage isKeeping cursor forgottenWhen rowMany refused_u59 kind figure r77.2 silent ring)) (Nat.le_of_ble_eq_true rfl) rfl rfl (run_V X hP hD hS [0, 2, 3, 4, 5, 6] rfl rfl (c_X5_worthBy l D cI aS ad writers year taped at_ statements hasImage isKeeping cursor forgottenWhen rowMany kind figure r70.2 silent ring x1 v4_59 _ hq77 _) lkX5_227 (by decide) (q0 := 0) rfl rfl rfl rfl (Nat.le_of_ble_eq_true rfl) hl.1 dX5_page_77) (fun H locs hP hD hS => ?_)
      refine lv_icmp_le (tgt := 88) hx hb dX5_page_80 (by decide) (fun c80 => ?_) (fun c80 => ?_)
      · have hf := iT c80 hf
        refine lv_iload hx hb dX5_page_88 (lv_at hl 3 rfl) ?_
        exact w_X5_page_90 ad writers year taped at_ statements hasImage isKeeping cursor forgottenWhen rowMany kind figure silent ring x1 x2 refused_u59 X hret _ ih v5_59 r77.2 v4_59 _ _ _ hf (lv_sub hl [0, 1, 2, 4] rfl) hP hD hS
      · have hf := iF c80 hf
        refine lv_iload hx hb dX5_page_83 (lv_at hl 4 rfl) ?_
        refine lv_goto (tgt := 90) hx hb dX5_page_85 (by decide) ?_
        exact w_X5_page_90 ad writers year taped at_ statements hasImage isKeeping cursor forgottenWhen rowMany kind figure silent ring x1 x2 refused_u59 X hret _ ih v5_59 r77.2 v5_59 _ _ _ hf (lv_sub hl [0, 1, 2, 4] rfl) hP hD hS
set_option maxHeartbeats 4000000 in
set_option maxRecDepth 100000 in
theorem w_X5_page_98 {p : Program} {l : Launch} {e : Env} {s : State} {m : MethodId} {args : Array Value} {below : List Frame} {meth : Method} {c : Code} {D : va_G} {cI : ClassId} {aS : aSt} {A : Nat → Prop} {Q : State → Prop}  (ad : Nat → Nat) (writers : Int32) (year : Int32) (taped : Int32) (at_ : Int32) (statements : Int32) (hasImage : Int32) (isKeeping : Int32) (cursor : Int32) (forgottenWhen : Int32) (rowMany : Int32) (kind : (Nat → Int32)) (figure : (Nat → Int32)) (silent : (Nat → Int32)) (ring : (Nat → Int32)) (x1 : Int32) (x2 : Int32) {R : Int32 × (Nat → Int32) × (Nat → Int32)} (X : Bx p s m args meth c cX5_page 6 (some .int) RX5 D cI aS A) (hret : RtI p l e 5 s m args below meth c cX5_page (some .int) D A (wd_X5_page cI ad writers year taped at_ statements hasImage isKeeping cursor forgottenWhen rowMany R.2.1 kind figure R.2.2 silent ring) R.1 Q) : ∀ (v4_98 : Int32) (refused_98 : (Nat → Int32)) (style_98 : (Nat → Int32)) (H : Heap) (locs : List Loc) (ls : Array Slot), f_X5_page_98 writers year kind figure silent ring x1 x2  v4_98 refused_98 style_98 = some R → lv_has ls 6 [(0, .ref (ad 0)), (1, .int x1), (2, .int x2), (4, .int v4_98)] → va_P D vwCl (wd_X5_page cI ad writers year taped at_ statements hasImage isKeeping cursor forgottenWhen rowMany refused_98 kind figure style_98 silent ring) H → va_D A (wd_X5_page cI ad writers year taped at_ statements hasImage isKeeping cursor forgottenWhen rowMany refused_98 kind figure style_98 silent ring) → va_S A s.heap H locs → Wh p l e 5 s m args below meth c H locs Q (F0 m 98 ls []) := by
  have hx := X.1
  have hb := X.2.1
  intro v4_98 refused_98 style_98 H locs ls hf hl hP hD hS
  replace hf : (if x2 = 0 then (some (v4_98, refused_98, style_98)) else ((f_X5_worthBy writers year kind figure style_98 silent ring x1 v4_98).bind fun (r111 : Int32 × (Nat → Int32)) => (some (r111.1, refused_98, r111.2)))) = some R := hf
  refine lv_iload_n hx hb dX5_page_98 rfl (lv_at hl 2 rfl) ?_
  refine lv_if_ne (tgt := 107) hx hb dX5_page_99 (by decide) (fun c99 => ?_) (fun c99 => ?_)
  · have hf := iF c99 hf
    refine lv_aload_n hx hb dX5_page_107 rfl (lv_at hl 0 rfl) ?_
    refine lv_iload_n hx hb dX5_page_108 rfl (lv_at hl 1 rfl) ?_
    refine lv_iload hx hb dX5_page_109 (lv_at hl 3 rfl) ?_
    obtain ⟨r111, hq111, hf⟩ := bS hf
    refine wr_i X hP hD hS [0, 2, 3, 4, 5, 6] rfl (ws' := (wd_X5_page cI ad writers year taped at_ statements hasImage isKeeping cursor forgottenWhen rowMany refused_98 kind figure r111.2 silent ring)) (Nat.le_of_ble_eq_true rfl) rfl rfl (run_V X hP hD hS [0, 2, 3, 4, 5, 6] rfl rfl (c_X5_worthBy l D cI aS ad writers year taped at_ statements hasImage isKeeping cursor forgottenWhen rowMany kind figure style_98 silent ring x1 v4_98 _ hq111 _) lkX5_227 (by decide) (q0 := 0) rfl rfl rfl rfl (Nat.le_of_ble_eq_true rfl) hl.1 dX5_page_111) (fun H locs hP hD hS => ?_)
    have hR := Option.some.inj hf
    subst hR
    exact hret _ _ _ _ _ rfl (fun _ hn => by cases hn; rfl) hP hD hS dX5_page_114
  · have hf := iT c99 hf
    refine lv_iload hx hb dX5_page_102 (lv_at hl 3 rfl) ?_
    refine lv_goto (tgt := 114) hx hb dX5_page_104 (by decide) ?_
    have hR := Option.some.inj hf
    subst hR
    exact hret _ _ _ _ _ rfl (fun _ hn => by cases hn; rfl) hP hD hS dX5_page_114
set_option maxHeartbeats 4000000 in
set_option maxRecDepth 100000 in
theorem w_X5_page_42 {p : Program} {l : Launch} {e : Env} {s : State} {m : MethodId} {args : Array Value} {below : List Frame} {meth : Method} {c : Code} {D : va_G} {cI : ClassId} {aS : aSt} {A : Nat → Prop} {Q : State → Prop}  (ad : Nat → Nat) (writers : Int32) (year : Int32) (taped : Int32) (at_ : Int32) (statements : Int32) (hasImage : Int32) (isKeeping : Int32) (cursor : Int32) (forgottenWhen : Int32) (rowMany : Int32) (kind : (Nat → Int32)) (figure : (Nat → Int32)) (silent : (Nat → Int32)) (ring : (Nat → Int32)) (x1 : Int32) (x2 : Int32) {R : Int32 × (Nat → Int32) × (Nat → Int32)} (X : Bx p s m args meth c cX5_page 6 (some .int) RX5 D cI aS A) (hret : RtI p l e 5 s m args below meth c cX5_page (some .int) D A (wd_X5_page cI ad writers year taped at_ statements hasImage isKeeping cursor forgottenWhen rowMany R.2.1 kind figure R.2.2 silent ring) R.1 Q) : ∀ (refused_42 : (Nat → Int32)) (style_42 : (Nat → Int32)) (t0_42 : Int32) (H : Heap) (locs : List Loc) (ls : Array Slot), f_X5_page_42 writers year kind figure silent ring x1 x2  refused_42 style_42 t0_42 = some R → lv_has ls 6 [(0, .ref (ad 0)), (1, .int x1), (2, .int x2)] → va_P D vwCl (wd_X5_page cI ad writers year taped at_ statements hasImage isKeeping cursor forgottenWhen rowMany refused_42 kind figure style_42 silent ring) H → va_D A (wd_X5_page cI ad writers year taped at_ statements hasImage isKeeping cursor forgottenWhen rowMany refused_42 kind figure style_42 silent ring) → va_S A s.heap H locs → Wh p l e 5 s m args below meth c H locs Q (F0 m 42 ls [.int t0_42]) := by
  have hx := X.1
  have hb := X.2.1
  intro refused_42 style_42 t0_42 H locs ls hf hl hP hD hS
  replace hf : (if t0_42 = 0 then (f_X5_page_59 writers year kind figure silent ring x1 (fun (v4_98 : Int32) (style_98 : (Nat → Int32)) => (f_X5_page_98 writers year kind figure silent ring x1 x2  v4_98 refused_42 style_98)) FU (0 : Int32) (1 : Int32) style_42) else ((f_X5_lower refused_42 t0_42).bind fun (r49 : Int32 × (Nat → Int32)) => (some (r49.1, r49.2, style_42)))) = some R := hf
  refine lv_istore_n (lv' := [(3, .int t0_42), (0, .ref (ad 0)), (1, .int x1), (2, .int x2)]) hx hb dX5_page_42 rfl hl (by decide) rfl (fun ls hl => ?_)
  refine lv_iload_n hx hb dX5_page_43 rfl (lv_at hl 0 rfl) ?_
  refine lv_if_eq (tgt := 53) hx hb dX5_page_44 (by decide) (fun c44 => ?_) (fun c44 => ?_)
  · have hf := iT c44 hf
    refine lv_iconst (v := 0) hx hb dX5_page_53 (by decide) ?_
    refine lv_istore (lv' := [(4, .int (0 : Int32)), (3, .int t0_42), (0, .ref (ad 0)), (1, .int x1), (2, .int x2)]) hx hb dX5_page_54 hl (by decide) rfl (fun ls hl => ?_)
    refine lv_iconst (v := 1) hx hb dX5_page_56 (by decide) ?_
    refine lv_istore (lv' := [(5, .int (1 : Int32)), (4, .int (0 : Int32)), (3, .int t0_42), (0, .ref (ad 0)), (1, .int x1), (2, .int x2)]) hx hb dX5_page_57 hl (by decide) rfl (fun ls hl => ?_)
    exact w_X5_page_59 ad writers year taped at_ statements hasImage isKeeping cursor forgottenWhen rowMany kind figure silent ring x1 x2 refused_42 X hret _ (fun v4_98 style_98 _ _ _ hf hl hP hD hS => w_X5_page_98 ad writers year taped at_ statements hasImage isKeeping cursor forgottenWhen rowMany kind figure silent ring x1 x2 X hret  v4_98 refused_42 style_98 _ _ _ hf (lv_sub hl [0, 1, 2, 3] rfl) hP hD hS) _ (0 : Int32) (1 : Int32) style_42 _ _ _ hf (lv_sub hl [3, 4, 5, 1, 0] rfl) hP hD hS
  · have hf := iF c44 hf
    refine lv_aload_n hx hb dX5_page_47 rfl (lv_at hl 1 rfl) ?_
    refine lv_iload_n hx hb dX5_page_48 rfl (lv_at hl 0 rfl) ?_
    obtain ⟨r49, hq49, hf⟩ := bS hf
    refine wr_i X hP hD hS [0, 1] rfl (ws' := (wd_X5_page cI ad writers year taped at_ statements hasImage isKeeping cursor forgottenWhen rowMany r49.2 kind figure style_42 silent ring)) (Nat.le_of_ble_eq_true rfl) rfl rfl (run_V X hP hD hS [0, 1] rfl rfl (c_X5_lower l D cI aS ad writers year taped at_ statements hasImage isKeeping cursor forgottenWhen rowMany refused_42 t0_42 _ hq49 _) lkX5_193 (by decide) (q0 := 0) rfl rfl rfl rfl (Nat.le_of_ble_eq_true rfl) hl.1 dX5_page_49) (fun H locs hP hD hS => ?_)
    have hR := Option.some.inj hf
    subst hR
    exact hret _ _ _ _ _ rfl (fun _ hn => by cases hn; rfl) hP hD hS dX5_page_52
set_option maxHeartbeats 4000000 in
set_option maxRecDepth 100000 in
theorem c_X5_page (l : Launch) (D : va_G) (cI : ClassId) (aS : aSt) (ad : Nat → Nat) (writers : Int32) (year : Int32) (taped : Int32) (at_ : Int32) (statements : Int32) (hasImage : Int32) (isKeeping : Int32) (cursor : Int32) (forgottenWhen : Int32) (rowMany : Int32) (refused : (Nat → Int32)) (kind : (Nat → Int32)) (figure : (Nat → Int32)) (style : (Nat → Int32)) (silent : (Nat → Int32)) (ring : (Nat → Int32)) (x1 : Int32) (x2 : Int32) (R : Int32 × (Nat → Int32) × (Nat → Int32)) (hf : f_X5_page writers year refused kind figure style silent ring x1 x2 = some R) : CtI l yX5_page cX5_page 6 (some .int) 5 D cI aS [.ref (ad 0), .int x1, .int x2] (wd_X5_page cI ad writers year taped at_ statements hasImage isKeeping cursor forgottenWhen rowMany refused kind figure style silent ring) (wd_X5_page cI ad writers year taped at_ statements hasImage isKeeping cursor forgottenWhen rowMany R.2.1 kind figure R.2.2 silent ring) R.1 := by
  refine ctI_of (by decide) ⟨_, rfl⟩ (Nat.le_of_ble_eq_true rfl) ?_
  intro p e s m below meth c A Q ls X hret hP hD hl
  have hS : va_S A s.heap s.heap [] := va_S.rf
  have hx := X.1
  have hb := X.2.1
  have hl : lv_has ls 6 [(0, .ref (ad 0)), (1, .int x1), (2, .int x2)] := hl
  replace hf : ((f_X5_isOne writers x1).bind fun (r2 : Int32) => (if r2 = 0 then (f_X5_page_42 writers year kind figure silent ring x1 x2  refused style (-1 : Int32)) else ((f_X5_isIn x2 (0 : Int32) (1 : Int32)).bind fun (r15 : Int32) => (if r15 = 0 then (f_X5_page_42 writers year kind figure silent ring x1 x2  refused style (-2 : Int32)) else (gd x1 7 (if (silent (Int32.toNatClampNeg x1)) = (1 : Int32) then (f_X5_page_42 writers year kind figure silent ring x1 x2  refused style (-3 : Int32)) else (f_X5_page_42 writers year kind figure silent ring x1 x2  refused style (0 : Int32)))))))) = some R := hf
  refine lv_aload_n hx hb dX5_page_0 rfl (lv_at hl 0 rfl) ?_
  refine lv_iload_n hx hb dX5_page_1 rfl (lv_at hl 1 rfl) ?_
  obtain ⟨r2, hq2, hf⟩ := bS hf
  refine ro_i X hP hD hS [0] rfl (run_V X hP hD hS [0] rfl rfl (c_X5_isOne l D cI aS ad writers year taped at_ statements hasImage isKeeping cursor forgottenWhen rowMany x1 _ hq2 _) lkX5_108 (by decide) (q0 := 0) rfl rfl rfl rfl (Nat.le_of_ble_eq_true rfl) hl.1 dX5_page_2) (fun H locs hP hS => ?_)
  refine lv_if_ne (tgt := 12) hx hb dX5_page_5 (by decide) (fun c5 => ?_) (fun c5 => ?_)
  · have hf := iF c5 hf
    refine lv_iload_n hx hb dX5_page_12 rfl (lv_at hl 2 rfl) ?_
    refine lv_iconst (v := 0) hx hb dX5_page_13 (by decide) ?_
    refine lv_iconst (v := 1) hx hb dX5_page_14 (by decide) ?_
    obtain ⟨r15, hq15, hf⟩ := bS hf
    refine ro_i X hP hD hS [] rfl (run_S X hP hD hS [] rfl rfl (c_X5_isIn l D cI aS x2 (0 : Int32) (1 : Int32) _ hq15 _) lkX5_80 (by decide) rfl rfl (Nat.le_of_ble_eq_true rfl) hl.1 dX5_page_15) (fun H locs hP hS => ?_)
    refine lv_if_ne (tgt := 26) hx hb dX5_page_18 (by decide) (fun c18 => ?_) (fun c18 => ?_)
    · have hf := iF c18 hf
      refine lv_aload_n hx hb dX5_page_26 rfl (lv_at hl 0 rfl) ?_
      refine fgX5_25 X hP (q0 := 0) rfl rfl dX5_page_27 ?_
      refine lv_iload_n hx hb dX5_page_30 rfl (lv_at hl 1 rfl) ?_
      refine aGet X hP (q0 := 5) rfl (gdS hf).1 dX5_page_31 ?_
      have hf := (gdS hf).2
      refine lv_iconst (v := 1) hx hb dX5_page_32 (by decide) ?_
      refine lv_icmp_ne (tgt := 41) hx hb dX5_page_33 (by decide) (fun c33 => ?_) (fun c33 => ?_)
      · have hf := iF c33 hf
        refine lv_iconst (v := 0) hx hb dX5_page_41 (by decide) ?_
        exact w_X5_page_42 ad writers year taped at_ statements hasImage isKeeping cursor forgottenWhen rowMany kind figure silent ring x1 x2 X hret  refused style (0 : Int32) _ _ _ hf (lv_sub hl [0, 1, 2] rfl) hP hD hS
      · have hf := iT c33 hf
        refine lv_bipush (v := -3) hx hb dX5_page_36 (by decide) ?_
        refine lv_goto (tgt := 42) hx hb dX5_page_38 (by decide) ?_
        exact w_X5_page_42 ad writers year taped at_ statements hasImage isKeeping cursor forgottenWhen rowMany kind figure silent ring x1 x2 X hret  refused style (-3 : Int32) _ _ _ hf (lv_sub hl [0, 1, 2] rfl) hP hD hS
    · have hf := iT c18 hf
      refine lv_bipush (v := -2) hx hb dX5_page_21 (by decide) ?_
      refine lv_goto (tgt := 42) hx hb dX5_page_23 (by decide) ?_
      exact w_X5_page_42 ad writers year taped at_ statements hasImage isKeeping cursor forgottenWhen rowMany kind figure silent ring x1 x2 X hret  refused style (-2 : Int32) _ _ _ hf (lv_sub hl [0, 1, 2] rfl) hP hD hS
  · have hf := iT c5 hf
    refine lv_iconst (v := -1) hx hb dX5_page_8 (by decide) ?_
    refine lv_goto (tgt := 42) hx hb dX5_page_9 (by decide) ?_
    exact w_X5_page_42 ad writers year taped at_ statements hasImage isKeeping cursor forgottenWhen rowMany kind figure silent ring x1 x2 X hret  refused style (-1 : Int32) _ _ _ hf (lv_sub hl [0, 1, 2] rfl) hP hD hS

abbrev wd_X5_place (cI : ClassId) (ad : Nat → Nat) (writers : Int32) (year : Int32) (taped : Int32) (at_ : Int32) (statements : Int32) (hasImage : Int32) (isKeeping : Int32) (cursor : Int32) (forgottenWhen : Int32) (rowMany : Int32) (refused : (Nat → Int32)) (ring : (Nat → Int32)) : va_W := [((ad 0), .inr (5, [.ref (ad 1), .ref (ad 2), .ref (ad 3), .ref (ad 4), .ref (ad 5), .ref (ad 6), .ref (ad 7), .int writers, .int year, .ref (ad 8), .ref (ad 9), .ref (ad 10), .ref (ad 11), .int taped, .int at_, .int statements, .ref (ad 12), .int hasImage, .int isKeeping, .int cursor, .int forgottenWhen, .ref (ad 13), .ref (ad 14), .ref (ad 15), .int rowMany])), ((ad 1), .inl (cI, 7, .inl refused)), ((ad 7), .inl (cI, 7, .inl ring))]
def f_X5_place (writers : Int32) (refused : (Nat → Int32)) (ring : (Nat → Int32)) (x1 : Int32) : Option (Int32 × (Nat → Int32)) := (if 0 ≤ x1 then (if writers ≤ x1 then (some ((-9 : Int32), refused)) else (gd x1 7 (some ((ring (Int32.toNatClampNeg x1)), refused)))) else ((f_X5_no refused (-4 : Int32)).bind fun (r7 : Int32 × (Nat → Int32)) => (some (r7.1, r7.2))))
set_option maxHeartbeats 4000000 in
set_option maxRecDepth 100000 in
theorem c_X5_place (l : Launch) (D : va_G) (cI : ClassId) (aS : aSt) (ad : Nat → Nat) (writers : Int32) (year : Int32) (taped : Int32) (at_ : Int32) (statements : Int32) (hasImage : Int32) (isKeeping : Int32) (cursor : Int32) (forgottenWhen : Int32) (rowMany : Int32) (refused : (Nat → Int32)) (ring : (Nat → Int32)) (x1 : Int32) (R : Int32 × (Nat → Int32)) (hf : f_X5_place writers refused ring x1 = some R) : CtI l yX5_place cX5_place 2 (some .int) 1 D cI aS [.ref (ad 0), .int x1] (wd_X5_place cI ad writers year taped at_ statements hasImage isKeeping cursor forgottenWhen rowMany refused ring) (wd_X5_place cI ad writers year taped at_ statements hasImage isKeeping cursor forgottenWhen rowMany R.2 ring) R.1 := by
  refine ctI_of (by decide) ⟨_, rfl⟩ (Nat.le_of_ble_eq_true rfl) ?_
  intro p e s m below meth c A Q ls X hret hP hD hl
  have hS : va_S A s.heap s.heap [] := va_S.rf
  have hx := X.1
  have hb := X.2.1
  have hl : lv_has ls 2 [(0, .ref (ad 0)), (1, .int x1)] := hl
  replace hf : (if 0 ≤ x1 then (if writers ≤ x1 then (some ((-9 : Int32), refused)) else (gd x1 7 (some ((ring (Int32.toNatClampNeg x1)), refused)))) else ((f_X5_no refused (-4 : Int32)).bind fun (r7 : Int32 × (Nat → Int32)) => (some (r7.1, r7.2)))) = some R := hf
  refine lv_iload_n hx hb dX5_place_0 rfl (lv_at hl 1 rfl) ?_
  refine lv_if_ge (tgt := 11) hx hb dX5_place_1 (by decide) (fun c1 => ?_) (fun c1 => ?_)
  · have hf := iT c1 hf
    refine lv_iload_n hx hb dX5_place_11 rfl (lv_at hl 1 rfl) ?_
    refine lv_aload_n hx hb dX5_place_12 rfl (lv_at hl 0 rfl) ?_
    refine fgX5_55 X hP (q0 := 0) rfl rfl dX5_place_13 ?_
    refine lv_icmp_ge (tgt := 28) hx hb dX5_place_16 (by decide) (fun c16 => ?_) (fun c16 => ?_)
    · have hf := iT c16 hf
      refine lv_bipush (v := -9) hx hb dX5_place_28 (by decide) ?_
      have hR := Option.some.inj hf
      subst hR
      exact hret _ _ _ _ _ rfl (fun _ hn => by cases hn; rfl) hP hD hS dX5_place_30
    · have hf := iF c16 hf
      refine lv_aload_n hx hb dX5_place_19 rfl (lv_at hl 0 rfl) ?_
      refine fgX5_28 X hP (q0 := 0) rfl rfl dX5_place_20 ?_
      refine lv_iload_n hx hb dX5_place_23 rfl (lv_at hl 1 rfl) ?_
      refine aGet X hP (q0 := 2) rfl (gdS hf).1 dX5_place_24 ?_
      have hf := (gdS hf).2
      refine lv_goto (tgt := 30) hx hb dX5_place_25 (by decide) ?_
      have hR := Option.some.inj hf
      subst hR
      exact hret _ _ _ _ _ rfl (fun _ hn => by cases hn; rfl) hP hD hS dX5_place_30
  · have hf := iF c1 hf
    refine lv_aload_n hx hb dX5_place_4 rfl (lv_at hl 0 rfl) ?_
    refine lv_bipush (v := -4) hx hb dX5_place_5 (by decide) ?_
    obtain ⟨r7, hq7, hf⟩ := bS hf
    refine wr_i X hP hD hS [0, 1] rfl (ws' := (wd_X5_place cI ad writers year taped at_ statements hasImage isKeeping cursor forgottenWhen rowMany r7.2 ring)) (Nat.le_of_ble_eq_true rfl) rfl rfl (run_V X hP hD hS [0, 1] rfl rfl (c_X5_no l D cI aS ad writers year taped at_ statements hasImage isKeeping cursor forgottenWhen rowMany refused (-4 : Int32) _ hq7 _) lkX5_69 (by decide) (q0 := 0) rfl rfl rfl rfl (Nat.le_of_ble_eq_true rfl) hl.1 dX5_place_7) (fun H locs hP hD hS => ?_)
    have hR := Option.some.inj hf
    subst hR
    exact hret _ _ _ _ _ rfl (fun _ hn => by cases hn; rfl) hP hD hS dX5_place_10

abbrev wd_X5_read (cI : ClassId) (ad : Nat → Nat) (writers : Int32) (year : Int32) (taped : Int32) (at_ : Int32) (statements : Int32) (hasImage : Int32) (isKeeping : Int32) (cursor : Int32) (forgottenWhen : Int32) (rowMany : Int32) (refused : (Nat → Int32)) (kind : (Nat → Int32)) (figure : (Nat → Int32)) (style : (Nat → Int32)) (silent : (Nat → Int32)) (ring : (Nat → Int32)) : va_W := [((ad 0), .inr (5, [.ref (ad 1), .ref (ad 2), .ref (ad 3), .ref (ad 4), .ref (ad 5), .ref (ad 6), .ref (ad 7), .int writers, .int year, .ref (ad 8), .ref (ad 9), .ref (ad 10), .ref (ad 11), .int taped, .int at_, .int statements, .ref (ad 12), .int hasImage, .int isKeeping, .int cursor, .int forgottenWhen, .ref (ad 13), .ref (ad 14), .ref (ad 15), .int rowMany])), ((ad 1), .inl (cI, 7, .inl refused)), ((ad 2), .inl (cI, 7, .inl kind)), ((ad 3), .inl (cI, 7, .inl figure)), ((ad 4), .inl (cI, 7, .inl style)), ((ad 6), .inl (cI, 7, .inl silent)), ((ad 7), .inl (cI, 7, .inl ring))]
def f_X5_read_84  (kL21 : Int32 → Int32 → Option (Int32 × (Nat → Int32))) (v2_84 : Int32) (v3_84 : Int32) : Option (Int32 × (Nat → Int32)) := (kL21 v2_84 (v3_84 + (1 : Int32)))
def f_X5_read_82  (kL21 : Int32 → Int32 → Option (Int32 × (Nat → Int32))) (v3_82 : Int32) : Option (Int32 × (Nat → Int32)) := (f_X5_read_84  kL21 v3_82 v3_82)
def f_X5_read_59 (x1 : Int32) (kL21 : Int32 → Int32 → Option (Int32 × (Nat → Int32))) (v2_59 : Int32) (v3_59 : Int32) (t0_59 : Int32) : Option (Int32 × (Nat → Int32)) := (if v2_59 < 0 then (f_X5_read_82  kL21 v3_59) else (if x1 = 0 then (if t0_59 ≤ 0 then (f_X5_read_84  kL21 v2_59 v3_59) else (f_X5_read_82  kL21 v3_59)) else (if 0 ≤ t0_59 then (f_X5_read_84  kL21 v2_59 v3_59) else (f_X5_read_82  kL21 v3_59))))
def f_X5_read_21 (writers : Int32) (year : Int32) (kind : (Nat → Int32)) (figure : (Nat → Int32)) (style : (Nat → Int32)) (silent : (Nat → Int32)) (ring : (Nat → Int32)) (x1 : Int32) (refused_u21 : (Nat → Int32))  : Nat → Int32 → Int32 → Option (Int32 × (Nat → Int32))
  | 0 => fun _ _ => none
  | fuel + 1 => fun v2_21 v3_21 => (if writers ≤ v3_21 then (some (v2_21, refused_u21)) else ((f_X5_isEnded writers silent ring v3_21).bind fun (r31 : Int32) => (if r31 = 0 then (f_X5_read_84  (f_X5_read_21 writers year kind figure style silent ring x1 refused_u21  fuel) v2_21 v3_21) else (if 0 ≤ v2_21 then ((f_X5_bookWorth writers year kind figure style silent ring v3_21).bind fun (r50 : Int32) => ((f_X5_bookWorth writers year kind figure style silent ring v2_21).bind fun (r55 : Int32) => (f_X5_read_59 x1 (f_X5_read_21 writers year kind figure style silent ring x1 refused_u21  fuel) v2_21 v3_21 (r50 - r55)))) else (f_X5_read_59 x1 (f_X5_read_21 writers year kind figure style silent ring x1 refused_u21  fuel) v2_21 v3_21 (1 : Int32))))))
theorem e_X5_read_21 (writers : Int32) (year : Int32) (kind : (Nat → Int32)) (figure : (Nat → Int32)) (style : (Nat → Int32)) (silent : (Nat → Int32)) (ring : (Nat → Int32)) (x1 : Int32) (refused_u21 : (Nat → Int32))  (fuel : Nat) (v2_21 : Int32) (v3_21 : Int32) : f_X5_read_21 writers year kind figure style silent ring x1 refused_u21  (fuel + 1) v2_21 v3_21 = (if writers ≤ v3_21 then (some (v2_21, refused_u21)) else ((f_X5_isEnded writers silent ring v3_21).bind fun (r31 : Int32) => (if r31 = 0 then (f_X5_read_84  (f_X5_read_21 writers year kind figure style silent ring x1 refused_u21  fuel) v2_21 v3_21) else (if 0 ≤ v2_21 then ((f_X5_bookWorth writers year kind figure style silent ring v3_21).bind fun (r50 : Int32) => ((f_X5_bookWorth writers year kind figure style silent ring v2_21).bind fun (r55 : Int32) => (f_X5_read_59 x1 (f_X5_read_21 writers year kind figure style silent ring x1 refused_u21  fuel) v2_21 v3_21 (r50 - r55)))) else (f_X5_read_59 x1 (f_X5_read_21 writers year kind figure style silent ring x1 refused_u21  fuel) v2_21 v3_21 (1 : Int32)))))) := rfl
def f_X5_read (writers : Int32) (year : Int32) (refused : (Nat → Int32)) (kind : (Nat → Int32)) (figure : (Nat → Int32)) (style : (Nat → Int32)) (silent : (Nat → Int32)) (ring : (Nat → Int32)) (x1 : Int32) : Option (Int32 × (Nat → Int32)) := ((f_X5_isIn x1 (0 : Int32) (1 : Int32)).bind fun (r3 : Int32) => (if r3 = 0 then ((f_X5_no refused (-2 : Int32)).bind fun (r12 : Int32 × (Nat → Int32)) => (some (r12.1, r12.2))) else (f_X5_read_21 writers year kind figure style silent ring x1 refused  FU (-9 : Int32) (0 : Int32))))
set_option maxHeartbeats 4000000 in
set_option maxRecDepth 100000 in
theorem w_X5_read_84 {p : Program} {l : Launch} {e : Env} {s : State} {m : MethodId} {args : Array Value} {below : List Frame} {meth : Method} {c : Code} {D : va_G} {cI : ClassId} {aS : aSt} {A : Nat → Prop} {Q : State → Prop}  (ad : Nat → Nat) (writers : Int32) (year : Int32) (taped : Int32) (at_ : Int32) (statements : Int32) (hasImage : Int32) (isKeeping : Int32) (cursor : Int32) (forgottenWhen : Int32) (rowMany : Int32) (kind : (Nat → Int32)) (figure : (Nat → Int32)) (style : (Nat → Int32)) (silent : (Nat → Int32)) (ring : (Nat → Int32)) (x1 : Int32) (refused_u21 : (Nat → Int32)) {R : Int32 × (Nat → Int32)} (X : Bx p s m args meth c cX5_read 5 (some .int) RX5 D cI aS A) (hret : RtI p l e 4 s m args below meth c cX5_read (some .int) D A (wd_X5_read cI ad writers year taped at_ statements hasImage isKeeping cursor forgottenWhen rowMany R.2 kind figure style silent ring) R.1 Q) (kL21 : Int32 → Int32 → Option (Int32 × (Nat → Int32))) (hkL21 : ∀ (v2_21 : Int32) (v3_21 : Int32) (H : Heap) (locs : List Loc) (ls : Array Slot), kL21 v2_21 v3_21 = some R → lv_has ls 5 [(0, .ref (ad 0)), (1, .int x1), (2, .int v2_21), (3, .int v3_21)] → va_P D vwCl (wd_X5_read cI ad writers year taped at_ statements hasImage isKeeping cursor forgottenWhen rowMany refused_u21 kind figure style silent ring) H → va_D A (wd_X5_read cI ad writers year taped at_ statements hasImage isKeeping cursor forgottenWhen rowMany refused_u21 kind figure style silent ring) → va_S A s.heap H locs → Wh p l e 4 s m args below meth c H locs Q (F0 m 21 ls [])) : ∀ (v2_84 : Int32) (v3_84 : Int32) (H : Heap) (locs : List Loc) (ls : Array Slot), f_X5_read_84  kL21 v2_84 v3_84 = some R → lv_has ls 5 [(0, .ref (ad 0)), (1, .int x1), (2, .int v2_84), (3, .int v3_84)] → va_P D vwCl (wd_X5_read cI ad writers year taped at_ statements hasImage isKeeping cursor forgottenWhen rowMany refused_u21 kind figure style silent ring) H → va_D A (wd_X5_read cI ad writers year taped at_ statements hasImage isKeeping cursor forgottenWhen rowMany refused_u21 kind figure style silent ring) → va_S A s.heap H locs → Wh p l e 4 s m args below meth c H locs Q (F0 m 84 ls []) := by
  have hx := X.1
  have hb := X.2.1
  intro v2_84 v3_84 H locs ls hf hl hP hD hS
  replace hf : (kL21 v2_84 (v3_84 + (1 : Int32))) = some R := hf
  refine lv_iinc (v := (v3_84 + (1 : Int32))) (lv' := [(3, .int (v3_84 + (1 : Int32))), (0, .ref (ad 0)), (1, .int x1), (2, .int v2_84)]) hx hb dX5_read_84 hl (k := 3) rfl rfl (by decide) rfl (fun ls hl => ?_)
  refine lv_goto (tgt := 21) hx hb dX5_read_87 (by decide) ?_
  exact hkL21 v2_84 (v3_84 + (1 : Int32)) _ _ _ hf (lv_sub hl [1, 2, 3, 0] rfl) hP hD hS
set_option maxHeartbeats 4000000 in
set_option maxRecDepth 100000 in
theorem w_X5_read_82 {p : Program} {l : Launch} {e : Env} {s : State} {m : MethodId} {args : Array Value} {below : List Frame} {meth : Method} {c : Code} {D : va_G} {cI : ClassId} {aS : aSt} {A : Nat → Prop} {Q : State → Prop}  (ad : Nat → Nat) (writers : Int32) (year : Int32) (taped : Int32) (at_ : Int32) (statements : Int32) (hasImage : Int32) (isKeeping : Int32) (cursor : Int32) (forgottenWhen : Int32) (rowMany : Int32) (kind : (Nat → Int32)) (figure : (Nat → Int32)) (style : (Nat → Int32)) (silent : (Nat → Int32)) (ring : (Nat → Int32)) (x1 : Int32) (refused_u21 : (Nat → Int32)) {R : Int32 × (Nat → Int32)} (X : Bx p s m args meth c cX5_read 5 (some .int) RX5 D cI aS A) (hret : RtI p l e 4 s m args below meth c cX5_read (some .int) D A (wd_X5_read cI ad writers year taped at_ statements hasImage isKeeping cursor forgottenWhen rowMany R.2 kind figure style silent ring) R.1 Q) (kL21 : Int32 → Int32 → Option (Int32 × (Nat → Int32))) (hkL21 : ∀ (v2_21 : Int32) (v3_21 : Int32) (H : Heap) (locs : List Loc) (ls : Array Slot), kL21 v2_21 v3_21 = some R → lv_has ls 5 [(0, .ref (ad 0)), (1, .int x1), (2, .int v2_21), (3, .int v3_21)] → va_P D vwCl (wd_X5_read cI ad writers year taped at_ statements hasImage isKeeping cursor forgottenWhen rowMany refused_u21 kind figure style silent ring) H → va_D A (wd_X5_read cI ad writers year taped at_ statements hasImage isKeeping cursor forgottenWhen rowMany refused_u21 kind figure style silent ring) → va_S A s.heap H locs → Wh p l e 4 s m args below meth c H locs Q (F0 m 21 ls [])) : ∀ (v3_82 : Int32) (H : Heap) (locs : List Loc) (ls : Array Slot), f_X5_read_82  kL21 v3_82 = some R → lv_has ls 5 [(0, .ref (ad 0)), (1, .int x1), (3, .int v3_82)] → va_P D vwCl (wd_X5_read cI ad writers year taped at_ statements hasImage isKeeping cursor forgottenWhen rowMany refused_u21 kind figure style silent ring) H → va_D A (wd_X5_read cI ad writers year taped at_ statements hasImage isKeeping cursor forgottenWhen rowMany refused_u21 kind figure style silent ring) → va_S A s.heap H locs → Wh p l e 4 s m args below meth c H locs Q (F0 m 82 ls []) := by
  have hx := X.1
  have hb := X.2.1
  intro v3_82 H locs ls hf hl hP hD hS
  replace hf : (f_X5_read_84  kL21 v3_82 v3_82) = some R := hf
  refine lv_iload_n hx hb dX5_read_82 rfl (lv_at hl 2 rfl) ?_
  refine lv_istore_n (lv' := [(2, .int v3_82), (0, .ref (ad 0)), (1, .int x1), (3, .int v3_82)]) hx hb dX5_read_83 rfl hl (by decide) rfl (fun ls hl => ?_)
  exact w_X5_read_84 ad writers year taped at_ statements hasImage isKeeping cursor forgottenWhen rowMany kind figure style silent ring x1 refused_u21 X hret _ hkL21 v3_82 v3_82 _ _ _ hf (lv_sub hl [1, 2, 0, 3] rfl) hP hD hS
set_option maxHeartbeats 4000000 in
set_option maxRecDepth 100000 in
theorem w_X5_read_59 {p : Program} {l : Launch} {e : Env} {s : State} {m : MethodId} {args : Array Value} {below : List Frame} {meth : Method} {c : Code} {D : va_G} {cI : ClassId} {aS : aSt} {A : Nat → Prop} {Q : State → Prop}  (ad : Nat → Nat) (writers : Int32) (year : Int32) (taped : Int32) (at_ : Int32) (statements : Int32) (hasImage : Int32) (isKeeping : Int32) (cursor : Int32) (forgottenWhen : Int32) (rowMany : Int32) (kind : (Nat → Int32)) (figure : (Nat → Int32)) (style : (Nat → Int32)) (silent : (Nat → Int32)) (ring : (Nat → Int32)) (x1 : Int32) (refused_u21 : (Nat → Int32)) {R : Int32 × (Nat → Int32)} (X : Bx p s m args meth c cX5_read 5 (some .int) RX5 D cI aS A) (hret : RtI p l e 4 s m args below meth c cX5_read (some .int) D A (wd_X5_read cI ad writers year taped at_ statements hasImage isKeeping cursor forgottenWhen rowMany R.2 kind figure style silent ring) R.1 Q) (kL21 : Int32 → Int32 → Option (Int32 × (Nat → Int32))) (hkL21 : ∀ (v2_21 : Int32) (v3_21 : Int32) (H : Heap) (locs : List Loc) (ls : Array Slot), kL21 v2_21 v3_21 = some R → lv_has ls 5 [(0, .ref (ad 0)), (1, .int x1), (2, .int v2_21), (3, .int v3_21)] → va_P D vwCl (wd_X5_read cI ad writers year taped at_ statements hasImage isKeeping cursor forgottenWhen rowMany refused_u21 kind figure style silent ring) H → va_D A (wd_X5_read cI ad writers year taped at_ statements hasImage isKeeping cursor forgottenWhen rowMany refused_u21 kind figure style silent ring) → va_S A s.heap H locs → Wh p l e 4 s m args below meth c H locs Q (F0 m 21 ls [])) : ∀ (v2_59 : Int32) (v3_59 : Int32) (t0_59 : Int32) (H : Heap) (locs : List Loc) (ls : Array Slot), f_X5_read_59 x1 kL21 v2_59 v3_59 t0_59 = some R → lv_has ls 5 [(0, .ref (ad 0)), (1, .int x1), (2, .int v2_59), (3, .int v3_59)] → va_P D vwCl (wd_X5_read cI ad writers year taped at_ statements hasImage isKeeping cursor forgottenWhen rowMany refused_u21 kind figure style silent ring) H → va_D A (wd_X5_read cI ad writers year taped at_ statements hasImage isKeeping cursor forgottenWhen rowMany refused_u21 kind figure style silent ring) → va_S A s.heap H locs → Wh p l e 4 s m args below meth c H locs Q (F0 m 59 ls [.int t0_59]) := by
  have hx := X.1
  have hb := X.2.1
  intro v2_59 v3_59 t0_59 H locs ls hf hl hP hD hS
  replace hf : (if v2_59 < 0 then (f_X5_read_82  kL21 v3_59) else (if x1 = 0 then (if t0_59 ≤ 0 then (f_X5_read_84  kL21 v2_59 v3_59) else (f_X5_read_82  kL21 v3_59)) else (if 0 ≤ t0_59 then (f_X5_read_84  kL21 v2_59 v3_59) else (f_X5_read_82  kL21 v3_59)))) = some R := hf
  refine lv_istore (lv' := [(4, .int t0_59), (0, .ref (ad 0)), (1, .int x1), (2, .int v2_59), (3, .int v3_59)]) hx hb dX5_read_59 hl (by decide) rfl (fun ls hl => ?_)
  refine lv_iload_n hx hb dX5_read_61 rfl (lv_at hl 3 rfl) ?_
  refine lv_if_lt (tgt := 82) hx hb dX5_read_62 (by decide) (fun c62 => ?_) (fun c62 => ?_)
  · have hf := iT c62 hf
    exact w_X5_read_82 ad writers year taped at_ statements hasImage isKeeping cursor forgottenWhen rowMany kind figure style silent ring x1 refused_u21 X hret _ hkL21 v3_59 _ _ _ hf (lv_sub hl [1, 2, 4] rfl) hP hD hS
  · have hf := iF c62 hf
    refine lv_iload_n hx hb dX5_read_65 rfl (lv_at hl 2 rfl) ?_
    refine lv_if_ne (tgt := 77) hx hb dX5_read_66 (by decide) (fun c66 => ?_) (fun c66 => ?_)
    · have hf := iF c66 hf
      refine lv_iload hx hb dX5_read_77 (lv_at hl 0 rfl) ?_
      refine lv_if_ge (tgt := 84) hx hb dX5_read_79 (by decide) (fun c79 => ?_) (fun c79 => ?_)
      · have hf := iT c79 hf
        exact w_X5_read_84 ad writers year taped at_ statements hasImage isKeeping cursor forgottenWhen rowMany kind figure style silent ring x1 refused_u21 X hret _ hkL21 v2_59 v3_59 _ _ _ hf (lv_sub hl [1, 2, 3, 4] rfl) hP hD hS
      · have hf := iF c79 hf
        exact w_X5_read_82 ad writers year taped at_ statements hasImage isKeeping cursor forgottenWhen rowMany kind figure style silent ring x1 refused_u21 X hret _ hkL21 v3_59 _ _ _ hf (lv_sub hl [1, 2, 4] rfl) hP hD hS
    · have hf := iT c66 hf
      refine lv_iload hx hb dX5_read_69 (lv_at hl 0 rfl) ?_
      refine lv_if_le (tgt := 84) hx hb dX5_read_71 (by decide) (fun c71 => ?_) (fun c71 => ?_)
      · have hf := iT c71 hf
        exact w_X5_read_84 ad writers year taped at_ statements hasImage isKeeping cursor forgottenWhen rowMany kind figure style silent ring x1 refused_u21 X hret _ hkL21 v2_59 v3_59 _ _ _ hf (lv_sub hl [1, 2, 3, 4] rfl) hP hD hS
      · have hf := iF c71 hf
        refine lv_goto (tgt := 82) hx hb dX5_read_74 (by decide) ?_
        exact w_X5_read_82 ad writers year taped at_ statements hasImage isKeeping cursor forgottenWhen rowMany kind figure style silent ring x1 refused_u21 X hret _ hkL21 v3_59 _ _ _ hf (lv_sub hl [1, 2, 4] rfl) hP hD hS
set_option maxHeartbeats 4000000 in
set_option maxRecDepth 100000 in
theorem w_X5_read_21 {p : Program} {l : Launch} {e : Env} {s : State} {m : MethodId} {args : Array Value} {below : List Frame} {meth : Method} {c : Code} {D : va_G} {cI : ClassId} {aS : aSt} {A : Nat → Prop} {Q : State → Prop}  (ad : Nat → Nat) (writers : Int32) (year : Int32) (taped : Int32) (at_ : Int32) (statements : Int32) (hasImage : Int32) (isKeeping : Int32) (cursor : Int32) (forgottenWhen : Int32) (rowMany : Int32) (kind : (Nat → Int32)) (figure : (Nat → Int32)) (style : (Nat → Int32)) (silent : (Nat → Int32)) (ring : (Nat → Int32)) (x1 : Int32) (refused_u21 : (Nat → Int32)) {R : Int32 × (Nat → Int32)} (X : Bx p s m args meth c cX5_read 5 (some .int) RX5 D cI aS A) (hret : RtI p l e 4 s m args below meth c cX5_read (some .int) D A (wd_X5_read cI ad writers year taped at_ statements hasImage isKeeping cursor forgottenWhen rowMany R.2 kind figure style silent ring) R.1 Q) : ∀ (fuel : Nat) (v2_21 : Int32) (v3_21 : Int32) (H : Heap) (locs : List Loc) (ls : Array Slot), f_X5_read_21 writers year kind figure style silent ring x1 refused_u21  fuel v2_21 v3_21 = some R → lv_has ls 5 [(0, .ref (ad 0)), (1, .int x1), (2, .int v2_21), (3, .int v3_21)] → va_P D vwCl (wd_X5_read cI ad writers year taped at_ statements hasImage isKeeping cursor forgottenWhen rowMany refused_u21 kind figure style silent ring) H → va_D A (wd_X5_read cI ad writers year taped at_ statements hasImage isKeeping cursor forgottenWhen rowMany refused_u21 kind figure style silent ring) → va_S A s.heap H locs → Wh p l e 4 s m args below meth c H locs Q (F0 m 21 ls []) := by
  have hx := X.1
  have hb := X.2.1
  intro fuel
  induction fuel with
  | zero =>
    intro v2_21 v3_21 H locs ls hf hl hP hD hS
    cases hf
  | succ fuel ih =>
    intro v2_21 v3_21 H locs ls hf hl hP hD hS
    replace hf : (if writers ≤ v3_21 then (some (v2_21, refused_u21)) else ((f_X5_isEnded writers silent ring v3_21).bind fun (r31 : Int32) => (if r31 = 0 then (f_X5_read_84  (f_X5_read_21 writers year kind figure style silent ring x1 refused_u21  fuel) v2_21 v3_21) else (if 0 ≤ v2_21 then ((f_X5_bookWorth writers year kind figure style silent ring v3_21).bind fun (r50 : Int32) => ((f_X5_bookWorth writers year kind figure style silent ring v2_21).bind fun (r55 : Int32) => (f_X5_read_59 x1 (f_X5_read_21 writers year kind figure style silent ring x1 refused_u21  fuel) v2_21 v3_21 (r50 - r55)))) else (f_X5_read_59 x1 (f_X5_read_21 writers year kind figure style silent ring x1 refused_u21  fuel) v2_21 v3_21 (1 : Int32)))))) = some R := hf
    refine lv_iload_n hx hb dX5_read_21 rfl (lv_at hl 3 rfl) ?_
    refine lv_aload_n hx hb dX5_read_22 rfl (lv_at hl 0 rfl) ?_
    refine fgX5_55 X hP (q0 := 0) rfl rfl dX5_read_23 ?_
    refine lv_icmp_ge (tgt := 90) hx hb dX5_read_26 (by decide) (fun c26 => ?_) (fun c26 => ?_)
    · have hf := iT c26 hf
      refine lv_iload_n hx hb dX5_read_90 rfl (lv_at hl 2 rfl) ?_
      have hR := Option.some.inj hf
      subst hR
      exact hret _ _ _ _ _ rfl (fun _ hn => by cases hn; rfl) hP hD hS dX5_read_91
    · have hf := iF c26 hf
      refine lv_aload_n hx hb dX5_read_29 rfl (lv_at hl 0 rfl) ?_
      refine lv_iload_n hx hb dX5_read_30 rfl (lv_at hl 3 rfl) ?_
      obtain ⟨r31, hq31, hf⟩ := bS hf
      refine ro_i X hP hD hS [0, 5, 6] rfl (run_V X hP hD hS [0, 5, 6] rfl rfl (c_X5_isEnded l D cI aS ad writers year taped at_ statements hasImage isKeeping cursor forgottenWhen rowMany silent ring v3_21 _ hq31 _) lkX5_177 (by decide) (q0 := 0) rfl rfl rfl rfl (Nat.le_of_ble_eq_true rfl) hl.1 dX5_read_31) (fun H locs hP hS => ?_)
      refine lv_if_ne (tgt := 40) hx hb dX5_read_34 (by decide) (fun c34 => ?_) (fun c34 => ?_)
      · have hf := iF c34 hf
        refine lv_iload_n hx hb dX5_read_40 rfl (lv_at hl 2 rfl) ?_
        refine lv_if_ge (tgt := 48) hx hb dX5_read_41 (by decide) (fun c41 => ?_) (fun c41 => ?_)
        · have hf := iT c41 hf
          refine lv_aload_n hx hb dX5_read_48 rfl (lv_at hl 0 rfl) ?_
          refine lv_iload_n hx hb dX5_read_49 rfl (lv_at hl 3 rfl) ?_
          obtain ⟨r50, hq50, hf⟩ := bS hf
          refine ro_i X hP hD hS [0, 2, 3, 4, 5, 6] rfl (run_V X hP hD hS [0, 2, 3, 4, 5, 6] rfl rfl (c_X5_bookWorth l D cI aS ad writers year taped at_ statements hasImage isKeeping cursor forgottenWhen rowMany kind figure style silent ring v3_21 _ hq50 _) lkX5_180 (by decide) (q0 := 0) rfl rfl rfl rfl (Nat.le_of_ble_eq_true rfl) hl.1 dX5_read_50) (fun H locs hP hS => ?_)
          refine lv_aload_n hx hb dX5_read_53 rfl (lv_at hl 0 rfl) ?_
          refine lv_iload_n hx hb dX5_read_54 rfl (lv_at hl 2 rfl) ?_
          obtain ⟨r55, hq55, hf⟩ := bS hf
          refine ro_i X hP hD hS [0, 2, 3, 4, 5, 6] rfl (run_V X hP hD hS [0, 2, 3, 4, 5, 6] rfl rfl (c_X5_bookWorth l D cI aS ad writers year taped at_ statements hasImage isKeeping cursor forgottenWhen rowMany kind figure style silent ring v2_21 _ hq55 _) lkX5_180 (by decide) (q0 := 0) rfl rfl rfl rfl (Nat.le_of_ble_eq_true rfl) hl.1 dX5_read_55) (fun H locs hP hS => ?_)
          refine lv_isub hx hb dX5_read_58 ?_
          exact w_X5_read_59 ad writers year taped at_ statements hasImage isKeeping cursor forgottenWhen rowMany kind figure style silent ring x1 refused_u21 X hret _ ih v2_21 v3_21 (r50 - r55) _ _ _ hf (lv_sub hl [0, 1, 2, 3] rfl) hP hD hS
        · have hf := iF c41 hf
          refine lv_iconst (v := 1) hx hb dX5_read_44 (by decide) ?_
          refine lv_goto (tgt := 59) hx hb dX5_read_45 (by decide) ?_
          exact w_X5_read_59 ad writers year taped at_ statements hasImage isKeeping cursor forgottenWhen rowMany kind figure style silent ring x1 refused_u21 X hret _ ih v2_21 v3_21 (1 : Int32) _ _ _ hf (lv_sub hl [0, 1, 2, 3] rfl) hP hD hS
      · have hf := iT c34 hf
        refine lv_goto (tgt := 84) hx hb dX5_read_37 (by decide) ?_
        exact w_X5_read_84 ad writers year taped at_ statements hasImage isKeeping cursor forgottenWhen rowMany kind figure style silent ring x1 refused_u21 X hret _ ih v2_21 v3_21 _ _ _ hf (lv_sub hl [0, 1, 2, 3] rfl) hP hD hS
set_option maxHeartbeats 4000000 in
set_option maxRecDepth 100000 in
theorem c_X5_read (l : Launch) (D : va_G) (cI : ClassId) (aS : aSt) (ad : Nat → Nat) (writers : Int32) (year : Int32) (taped : Int32) (at_ : Int32) (statements : Int32) (hasImage : Int32) (isKeeping : Int32) (cursor : Int32) (forgottenWhen : Int32) (rowMany : Int32) (refused : (Nat → Int32)) (kind : (Nat → Int32)) (figure : (Nat → Int32)) (style : (Nat → Int32)) (silent : (Nat → Int32)) (ring : (Nat → Int32)) (x1 : Int32) (R : Int32 × (Nat → Int32)) (hf : f_X5_read writers year refused kind figure style silent ring x1 = some R) : CtI l yX5_read cX5_read 5 (some .int) 4 D cI aS [.ref (ad 0), .int x1] (wd_X5_read cI ad writers year taped at_ statements hasImage isKeeping cursor forgottenWhen rowMany refused kind figure style silent ring) (wd_X5_read cI ad writers year taped at_ statements hasImage isKeeping cursor forgottenWhen rowMany R.2 kind figure style silent ring) R.1 := by
  refine ctI_of (by decide) ⟨_, rfl⟩ (Nat.le_of_ble_eq_true rfl) ?_
  intro p e s m below meth c A Q ls X hret hP hD hl
  have hS : va_S A s.heap s.heap [] := va_S.rf
  have hx := X.1
  have hb := X.2.1
  have hl : lv_has ls 5 [(0, .ref (ad 0)), (1, .int x1)] := hl
  replace hf : ((f_X5_isIn x1 (0 : Int32) (1 : Int32)).bind fun (r3 : Int32) => (if r3 = 0 then ((f_X5_no refused (-2 : Int32)).bind fun (r12 : Int32 × (Nat → Int32)) => (some (r12.1, r12.2))) else (f_X5_read_21 writers year kind figure style silent ring x1 refused  FU (-9 : Int32) (0 : Int32)))) = some R := hf
  refine lv_iload_n hx hb dX5_read_0 rfl (lv_at hl 1 rfl) ?_
  refine lv_iconst (v := 0) hx hb dX5_read_1 (by decide) ?_
  refine lv_iconst (v := 1) hx hb dX5_read_2 (by decide) ?_
  obtain ⟨r3, hq3, hf⟩ := bS hf
  refine ro_i X hP hD hS [] rfl (run_S X hP hD hS [] rfl rfl (c_X5_isIn l D cI aS x1 (0 : Int32) (1 : Int32) _ hq3 _) lkX5_80 (by decide) rfl rfl (Nat.le_of_ble_eq_true rfl) hl.1 dX5_read_3) (fun H locs hP hS => ?_)
  refine lv_if_ne (tgt := 16) hx hb dX5_read_6 (by decide) (fun c6 => ?_) (fun c6 => ?_)
  · have hf := iF c6 hf
    refine lv_bipush (v := -9) hx hb dX5_read_16 (by decide) ?_
    refine lv_istore_n (lv' := [(2, .int (-9 : Int32)), (0, .ref (ad 0)), (1, .int x1)]) hx hb dX5_read_18 rfl hl (by decide) rfl (fun ls hl => ?_)
    refine lv_iconst (v := 0) hx hb dX5_read_19 (by decide) ?_
    refine lv_istore_n (lv' := [(3, .int (0 : Int32)), (2, .int (-9 : Int32)), (0, .ref (ad 0)), (1, .int x1)]) hx hb dX5_read_20 rfl hl (by decide) rfl (fun ls hl => ?_)
    exact w_X5_read_21 ad writers year taped at_ statements hasImage isKeeping cursor forgottenWhen rowMany kind figure style silent ring x1 refused X hret  _ (-9 : Int32) (0 : Int32) _ _ _ hf (lv_sub hl [2, 3, 1, 0] rfl) hP hD hS
  · have hf := iT c6 hf
    refine lv_aload_n hx hb dX5_read_9 rfl (lv_at hl 0 rfl) ?_
    refine lv_bipush (v := -2) hx hb dX5_read_10 (by decide) ?_
    obtain ⟨r12, hq12, hf⟩ := bS hf
    refine wr_i X hP hD hS [0, 1] rfl (ws' := (wd_X5_read cI ad writers year taped at_ statements hasImage isKeeping cursor forgottenWhen rowMany r12.2 kind figure style silent ring)) (Nat.le_of_ble_eq_true rfl) rfl rfl (run_V X hP hD hS [0, 1] rfl rfl (c_X5_no l D cI aS ad writers year taped at_ statements hasImage isKeeping cursor forgottenWhen rowMany refused (-2 : Int32) _ hq12 _) lkX5_69 (by decide) (q0 := 0) rfl rfl rfl rfl (Nat.le_of_ble_eq_true rfl) hl.1 dX5_read_12) (fun H locs hP hD hS => ?_)
    have hR := Option.some.inj hf
    subst hR
    exact hret _ _ _ _ _ rfl (fun _ hn => by cases hn; rfl) hP hD hS dX5_read_15

abbrev wd_X5_ring (cI : ClassId) (ad : Nat → Nat) (writers : Int32) (year : Int32) (taped : Int32) (at_ : Int32) (statements : Int32) (hasImage : Int32) (isKeeping : Int32) (cursor : Int32) (forgottenWhen : Int32) (rowMany : Int32) (refused : (Nat → Int32)) (kind : (Nat → Int32)) (figure : (Nat → Int32)) (style : (Nat → Int32)) (fame : (Nat → Int32)) (silent : (Nat → Int32)) (ring : (Nat → Int32)) (kept : (Nat → Int32)) (bestRing : (Nat → Int32)) : va_W := [((ad 0), .inr (5, [.ref (ad 1), .ref (ad 2), .ref (ad 3), .ref (ad 4), .ref (ad 5), .ref (ad 6), .ref (ad 7), .int writers, .int year, .ref (ad 8), .ref (ad 9), .ref (ad 10), .ref (ad 11), .int taped, .int at_, .int statements, .ref (ad 12), .int hasImage, .int isKeeping, .int cursor, .int forgottenWhen, .ref (ad 13), .ref (ad 14), .ref (ad 15), .int rowMany])), ((ad 1), .inl (cI, 7, .inl refused)), ((ad 2), .inl (cI, 7, .inl kind)), ((ad 3), .inl (cI, 7, .inl figure)), ((ad 4), .inl (cI, 7, .inl style)), ((ad 5), .inl (cI, 7, .inl fame)), ((ad 6), .inl (cI, 7, .inl silent)), ((ad 7), .inl (cI, 7, .inl ring)), ((ad 12), .inl (cI, 132, .inl kept)), ((ad 13), .inl (cI, 7, .inl bestRing))]
def f_X5_ring_38 (x1 : Int32)  (writers_38 : Int32) (year_38 : Int32) (isKeeping_38 : Int32) (cursor_38 : Int32) (refused_38 : (Nat → Int32)) (kind_38 : (Nat → Int32)) (figure_38 : (Nat → Int32)) (style_38 : (Nat → Int32)) (fame_38 : (Nat → Int32)) (silent_38 : (Nat → Int32)) (ring_38 : (Nat → Int32)) (kept_38 : (Nat → Int32)) (bestRing_38 : (Nat → Int32)) (t0_38 : Int32) : Option (Int32 × Int32 × Int32 × Int32 × Int32 × (Nat → Int32) × (Nat → Int32) × (Nat → Int32) × (Nat → Int32) × (Nat → Int32) × (Nat → Int32) × (Nat → Int32) × (Nat → Int32) × (Nat → Int32)) := (if 0 ≤ x1 then (gd x1 7 (some ((bestRing_38 (Int32.toNatClampNeg x1)), writers_38, year_38, isKeeping_38, cursor_38, refused_38, kind_38, figure_38, style_38, fame_38, silent_38, ring_38, kept_38, bestRing_38))) else (some (t0_38, writers_38, year_38, isKeeping_38, cursor_38, refused_38, kind_38, figure_38, style_38, fame_38, silent_38, ring_38, kept_38, bestRing_38)))
def f_X5_ring (writers : Int32) (year : Int32) (isKeeping : Int32) (cursor : Int32) (refused : (Nat → Int32)) (kind : (Nat → Int32)) (figure : (Nat → Int32)) (style : (Nat → Int32)) (fame : (Nat → Int32)) (silent : (Nat → Int32)) (ring : (Nat → Int32)) (kept : (Nat → Int32)) (bestRing : (Nat → Int32)) (x1 : Int32) : Option (Int32 × Int32 × Int32 × Int32 × Int32 × (Nat → Int32) × (Nat → Int32) × (Nat → Int32) × (Nat → Int32) × (Nat → Int32) × (Nat → Int32) × (Nat → Int32) × (Nat → Int32) × (Nat → Int32)) := (if (-1 : Int32) ≤ x1 then (if x1 < writers then (if writers = 0 then (f_X5_ring_38 x1  writers year isKeeping cursor refused kind figure style fame silent ring kept bestRing (0 : Int32)) else ((f_X5_findRing writers year isKeeping cursor kind figure style fame silent ring kept bestRing).bind fun (r35 : Int32 × Int32 × Int32 × Int32 × Int32 × (Nat → Int32) × (Nat → Int32) × (Nat → Int32) × (Nat → Int32) × (Nat → Int32) × (Nat → Int32) × (Nat → Int32) × (Nat → Int32)) => (f_X5_ring_38 x1  r35.2.1 r35.2.2.1 r35.2.2.2.1 r35.2.2.2.2.1 refused r35.2.2.2.2.2.1 r35.2.2.2.2.2.2.1 r35.2.2.2.2.2.2.2.1 r35.2.2.2.2.2.2.2.2.1 r35.2.2.2.2.2.2.2.2.2.1 r35.2.2.2.2.2.2.2.2.2.2.1 r35.2.2.2.2.2.2.2.2.2.2.2.1 r35.2.2.2.2.2.2.2.2.2.2.2.2 r35.1))) else (some ((-9 : Int32), writers, year, isKeeping, cursor, refused, kind, figure, style, fame, silent, ring, kept, bestRing))) else ((f_X5_lower refused (-4 : Int32)).bind fun (r8 : Int32 × (Nat → Int32)) => (some (r8.1, writers, year, isKeeping, cursor, r8.2, kind, figure, style, fame, silent, ring, kept, bestRing))))
set_option maxHeartbeats 4000000 in
set_option maxRecDepth 100000 in
theorem w_X5_ring_38 {p : Program} {l : Launch} {e : Env} {s : State} {m : MethodId} {args : Array Value} {below : List Frame} {meth : Method} {c : Code} {D : va_G} {cI : ClassId} {aS : aSt} {A : Nat → Prop} {Q : State → Prop}  (ad : Nat → Nat) (taped : Int32) (at_ : Int32) (statements : Int32) (hasImage : Int32) (forgottenWhen : Int32) (rowMany : Int32) (x1 : Int32) {R : Int32 × Int32 × Int32 × Int32 × Int32 × (Nat → Int32) × (Nat → Int32) × (Nat → Int32) × (Nat → Int32) × (Nat → Int32) × (Nat → Int32) × (Nat → Int32) × (Nat → Int32) × (Nat → Int32)} (X : Bx p s m args meth c cX5_ring 3 (some .int) RX5 D cI aS A) (hret : RtI p l e 6 s m args below meth c cX5_ring (some .int) D A (wd_X5_ring cI ad R.2.1 R.2.2.1 taped at_ statements hasImage R.2.2.2.1 R.2.2.2.2.1 forgottenWhen rowMany R.2.2.2.2.2.1 R.2.2.2.2.2.2.1 R.2.2.2.2.2.2.2.1 R.2.2.2.2.2.2.2.2.1 R.2.2.2.2.2.2.2.2.2.1 R.2.2.2.2.2.2.2.2.2.2.1 R.2.2.2.2.2.2.2.2.2.2.2.1 R.2.2.2.2.2.2.2.2.2.2.2.2.1 R.2.2.2.2.2.2.2.2.2.2.2.2.2) R.1 Q) : ∀ (writers_38 : Int32) (year_38 : Int32) (isKeeping_38 : Int32) (cursor_38 : Int32) (refused_38 : (Nat → Int32)) (kind_38 : (Nat → Int32)) (figure_38 : (Nat → Int32)) (style_38 : (Nat → Int32)) (fame_38 : (Nat → Int32)) (silent_38 : (Nat → Int32)) (ring_38 : (Nat → Int32)) (kept_38 : (Nat → Int32)) (bestRing_38 : (Nat → Int32)) (t0_38 : Int32) (H : Heap) (locs : List Loc) (ls : Array Slot), f_X5_ring_38 x1  writers_38 year_38 isKeeping_38 cursor_38 refused_38 kind_38 figure_38 style_38 fame_38 silent_38 ring_38 kept_38 bestRing_38 t0_38 = some R → lv_has ls 3 [(0, .ref (ad 0)), (1, .int x1)] → va_P D vwCl (wd_X5_ring cI ad writers_38 year_38 taped at_ statements hasImage isKeeping_38 cursor_38 forgottenWhen rowMany refused_38 kind_38 figure_38 style_38 fame_38 silent_38 ring_38 kept_38 bestRing_38) H → va_D A (wd_X5_ring cI ad writers_38 year_38 taped at_ statements hasImage isKeeping_38 cursor_38 forgottenWhen rowMany refused_38 kind_38 figure_38 style_38 fame_38 silent_38 ring_38 kept_38 bestRing_38) → va_S A s.heap H locs → Wh p l e 6 s m args below meth c H locs Q (F0 m 38 ls [.int t0_38]) := by
  have hx := X.1
  have hb := X.2.1
  intro writers_38 year_38 isKeeping_38 cursor_38 refused_38 kind_38 figure_38 style_38 fame_38 silent_38 ring_38 kept_38 bestRing_38 t0_38 H locs ls hf hl hP hD hS
  replace hf : (if 0 ≤ x1 then (gd x1 7 (some ((bestRing_38 (Int32.toNatClampNeg x1)), writers_38, year_38, isKeeping_38, cursor_38, refused_38, kind_38, figure_38, style_38, fame_38, silent_38, ring_38, kept_38, bestRing_38))) else (some (t0_38, writers_38, year_38, isKeeping_38, cursor_38, refused_38, kind_38, figure_38, style_38, fame_38, silent_38, ring_38, kept_38, bestRing_38))) = some R := hf
  refine lv_istore_n (lv' := [(2, .int t0_38), (0, .ref (ad 0)), (1, .int x1)]) hx hb dX5_ring_38 rfl hl (by decide) rfl (fun ls hl => ?_)
  refine lv_iload_n hx hb dX5_ring_39 rfl (lv_at hl 2 rfl) ?_
  refine lv_if_ge (tgt := 47) hx hb dX5_ring_40 (by decide) (fun c40 => ?_) (fun c40 => ?_)
  · have hf := iT c40 hf
    refine lv_aload_n hx hb dX5_ring_47 rfl (lv_at hl 1 rfl) ?_
    refine fgX5_46 X hP (q0 := 0) rfl rfl dX5_ring_48 ?_
    refine lv_iload_n hx hb dX5_ring_51 rfl (lv_at hl 2 rfl) ?_
    refine aGet X hP (q0 := 9) rfl (gdS hf).1 dX5_ring_52 ?_
    have hf := (gdS hf).2
    have hR := Option.some.inj hf
    subst hR
    exact hret _ _ _ _ _ rfl (fun _ hn => by cases hn; rfl) hP hD hS dX5_ring_53
  · have hf := iF c40 hf
    refine lv_iload_n hx hb dX5_ring_43 rfl (lv_at hl 0 rfl) ?_
    refine lv_goto (tgt := 53) hx hb dX5_ring_44 (by decide) ?_
    have hR := Option.some.inj hf
    subst hR
    exact hret _ _ _ _ _ rfl (fun _ hn => by cases hn; rfl) hP hD hS dX5_ring_53
set_option maxHeartbeats 4000000 in
set_option maxRecDepth 100000 in
theorem c_X5_ring (l : Launch) (D : va_G) (cI : ClassId) (aS : aSt) (ad : Nat → Nat) (writers : Int32) (year : Int32) (taped : Int32) (at_ : Int32) (statements : Int32) (hasImage : Int32) (isKeeping : Int32) (cursor : Int32) (forgottenWhen : Int32) (rowMany : Int32) (refused : (Nat → Int32)) (kind : (Nat → Int32)) (figure : (Nat → Int32)) (style : (Nat → Int32)) (fame : (Nat → Int32)) (silent : (Nat → Int32)) (ring : (Nat → Int32)) (kept : (Nat → Int32)) (bestRing : (Nat → Int32)) (x1 : Int32) (R : Int32 × Int32 × Int32 × Int32 × Int32 × (Nat → Int32) × (Nat → Int32) × (Nat → Int32) × (Nat → Int32) × (Nat → Int32) × (Nat → Int32) × (Nat → Int32) × (Nat → Int32) × (Nat → Int32)) (hf : f_X5_ring writers year isKeeping cursor refused kind figure style fame silent ring kept bestRing x1 = some R) : CtI l yX5_ring cX5_ring 3 (some .int) 6 D cI aS [.ref (ad 0), .int x1] (wd_X5_ring cI ad writers year taped at_ statements hasImage isKeeping cursor forgottenWhen rowMany refused kind figure style fame silent ring kept bestRing) (wd_X5_ring cI ad R.2.1 R.2.2.1 taped at_ statements hasImage R.2.2.2.1 R.2.2.2.2.1 forgottenWhen rowMany R.2.2.2.2.2.1 R.2.2.2.2.2.2.1 R.2.2.2.2.2.2.2.1 R.2.2.2.2.2.2.2.2.1 R.2.2.2.2.2.2.2.2.2.1 R.2.2.2.2.2.2.2.2.2.2.1 R.2.2.2.2.2.2.2.2.2.2.2.1 R.2.2.2.2.2.2.2.2.2.2.2.2.1 R.2.2.2.2.2.2.2.2.2.2.2.2.2) R.1 := by
  refine ctI_of (by decide) ⟨_, rfl⟩ (Nat.le_of_ble_eq_true rfl) ?_
  intro p e s m below meth c A Q ls X hret hP hD hl
  have hS : va_S A s.heap s.heap [] := va_S.rf
  have hx := X.1
  have hb := X.2.1
  have hl : lv_has ls 3 [(0, .ref (ad 0)), (1, .int x1)] := hl
  replace hf : (if (-1 : Int32) ≤ x1 then (if x1 < writers then (if writers = 0 then (f_X5_ring_38 x1  writers year isKeeping cursor refused kind figure style fame silent ring kept bestRing (0 : Int32)) else ((f_X5_findRing writers year isKeeping cursor kind figure style fame silent ring kept bestRing).bind fun (r35 : Int32 × Int32 × Int32 × Int32 × Int32 × (Nat → Int32) × (Nat → Int32) × (Nat → Int32) × (Nat → Int32) × (Nat → Int32) × (Nat → Int32) × (Nat → Int32) × (Nat → Int32)) => (f_X5_ring_38 x1  r35.2.1 r35.2.2.1 r35.2.2.2.1 r35.2.2.2.2.1 refused r35.2.2.2.2.2.1 r35.2.2.2.2.2.2.1 r35.2.2.2.2.2.2.2.1 r35.2.2.2.2.2.2.2.2.1 r35.2.2.2.2.2.2.2.2.2.1 r35.2.2.2.2.2.2.2.2.2.2.1 r35.2.2.2.2.2.2.2.2.2.2.2.1 r35.2.2.2.2.2.2.2.2.2.2.2.2 r35.1))) else (some ((-9 : Int32), writers, year, isKeeping, cursor, refused, kind, figure, style, fame, silent, ring, kept, bestRing))) else ((f_X5_lower refused (-4 : Int32)).bind fun (r8 : Int32 × (Nat → Int32)) => (some (r8.1, writers, year, isKeeping, cursor, r8.2, kind, figure, style, fame, silent, ring, kept, bestRing)))) = some R := hf
  refine lv_iload_n hx hb dX5_ring_0 rfl (lv_at hl 1 rfl) ?_
  refine lv_iconst (v := -1) hx hb dX5_ring_1 (by decide) ?_
  refine lv_icmp_ge (tgt := 12) hx hb dX5_ring_2 (by decide) (fun c2 => ?_) (fun c2 => ?_)
  · have hf := iT c2 hf
    refine lv_iload_n hx hb dX5_ring_12 rfl (lv_at hl 1 rfl) ?_
    refine lv_aload_n hx hb dX5_ring_13 rfl (lv_at hl 0 rfl) ?_
    refine fgX5_55 X hP (q0 := 0) rfl rfl dX5_ring_14 ?_
    refine lv_icmp_lt (tgt := 23) hx hb dX5_ring_17 (by decide) (fun c17 => ?_) (fun c17 => ?_)
    · have hf := iT c17 hf
      refine lv_aload_n hx hb dX5_ring_23 rfl (lv_at hl 0 rfl) ?_
      refine fgX5_55 X hP (q0 := 0) rfl rfl dX5_ring_24 ?_
      refine lv_if_ne (tgt := 34) hx hb dX5_ring_27 (by decide) (fun c27 => ?_) (fun c27 => ?_)
      · have hf := iF c27 hf
        refine lv_aload_n hx hb dX5_ring_34 rfl (lv_at hl 0 rfl) ?_
        obtain ⟨r35, hq35, hf⟩ := bS hf
        refine wr_i X hP hD hS [0, 2, 3, 4, 5, 6, 7, 8, 9] rfl (ws' := (wd_X5_ring cI ad r35.2.1 r35.2.2.1 taped at_ statements hasImage r35.2.2.2.1 r35.2.2.2.2.1 forgottenWhen rowMany refused r35.2.2.2.2.2.1 r35.2.2.2.2.2.2.1 r35.2.2.2.2.2.2.2.1 r35.2.2.2.2.2.2.2.2.1 r35.2.2.2.2.2.2.2.2.2.1 r35.2.2.2.2.2.2.2.2.2.2.1 r35.2.2.2.2.2.2.2.2.2.2.2.1 r35.2.2.2.2.2.2.2.2.2.2.2.2)) (Nat.le_of_ble_eq_true rfl) rfl rfl (run_V X hP hD hS [0, 2, 3, 4, 5, 6, 7, 8, 9] rfl rfl (c_X5_findRing l D cI aS ad writers year taped at_ statements hasImage isKeeping cursor forgottenWhen rowMany kind figure style fame silent ring kept bestRing _ hq35 _) lkX5_224 (by decide) (q0 := 0) rfl rfl rfl rfl (Nat.le_of_ble_eq_true rfl) hl.1 dX5_ring_35) (fun H locs hP hD hS => ?_)
        exact w_X5_ring_38 ad taped at_ statements hasImage forgottenWhen rowMany x1 X hret  r35.2.1 r35.2.2.1 r35.2.2.2.1 r35.2.2.2.2.1 refused r35.2.2.2.2.2.1 r35.2.2.2.2.2.2.1 r35.2.2.2.2.2.2.2.1 r35.2.2.2.2.2.2.2.2.1 r35.2.2.2.2.2.2.2.2.2.1 r35.2.2.2.2.2.2.2.2.2.2.1 r35.2.2.2.2.2.2.2.2.2.2.2.1 r35.2.2.2.2.2.2.2.2.2.2.2.2 r35.1 _ _ _ hf (lv_sub hl [0, 1] rfl) hP hD hS
      · have hf := iT c27 hf
        refine lv_iconst (v := 0) hx hb dX5_ring_30 (by decide) ?_
        refine lv_goto (tgt := 38) hx hb dX5_ring_31 (by decide) ?_
        exact w_X5_ring_38 ad taped at_ statements hasImage forgottenWhen rowMany x1 X hret  writers year isKeeping cursor refused kind figure style fame silent ring kept bestRing (0 : Int32) _ _ _ hf (lv_sub hl [0, 1] rfl) hP hD hS
    · have hf := iF c17 hf
      refine lv_bipush (v := -9) hx hb dX5_ring_20 (by decide) ?_
      have hR := Option.some.inj hf
      subst hR
      exact hret _ _ _ _ _ rfl (fun _ hn => by cases hn; rfl) hP hD hS dX5_ring_22
  · have hf := iF c2 hf
    refine lv_aload_n hx hb dX5_ring_5 rfl (lv_at hl 0 rfl) ?_
    refine lv_bipush (v := -4) hx hb dX5_ring_6 (by decide) ?_
    obtain ⟨r8, hq8, hf⟩ := bS hf
    refine wr_i X hP hD hS [0, 1] rfl (ws' := (wd_X5_ring cI ad writers year taped at_ statements hasImage isKeeping cursor forgottenWhen rowMany r8.2 kind figure style fame silent ring kept bestRing)) (Nat.le_of_ble_eq_true rfl) rfl rfl (run_V X hP hD hS [0, 1] rfl rfl (c_X5_lower l D cI aS ad writers year taped at_ statements hasImage isKeeping cursor forgottenWhen rowMany refused (-4 : Int32) _ hq8 _) lkX5_193 (by decide) (q0 := 0) rfl rfl rfl rfl (Nat.le_of_ble_eq_true rfl) hl.1 dX5_ring_8) (fun H locs hP hD hS => ?_)
    have hR := Option.some.inj hf
    subst hR
    exact hret _ _ _ _ _ rfl (fun _ hn => by cases hn; rfl) hP hD hS dX5_ring_11

abbrev wd_X5_row (cI : ClassId) (ad : Nat → Nat) (writers : Int32) (year : Int32) (taped : Int32) (at_ : Int32) (statements : Int32) (hasImage : Int32) (isKeeping : Int32) (cursor : Int32) (forgottenWhen : Int32) (rowMany : Int32) (refused : (Nat → Int32)) (row : (Nat → Int32)) : va_W := [((ad 0), .inr (5, [.ref (ad 1), .ref (ad 2), .ref (ad 3), .ref (ad 4), .ref (ad 5), .ref (ad 6), .ref (ad 7), .int writers, .int year, .ref (ad 8), .ref (ad 9), .ref (ad 10), .ref (ad 11), .int taped, .int at_, .int statements, .ref (ad 12), .int hasImage, .int isKeeping, .int cursor, .int forgottenWhen, .ref (ad 13), .ref (ad 14), .ref (ad 15), .int rowMany])), ((ad 1), .inl (cI, 7, .inl refused)), ((ad 15), .inl (cI, 16, .inl row))]
def f_X5_row_24 (x1 : Int32)  (v2_24 : Int32) (rowMany_24 : Int32) (refused_24 : (Nat → Int32)) (row_24 : (Nat → Int32)) : Option (Int32 × Int32 × (Nat → Int32) × (Nat → Int32)) := (if v2_24 = 0 then (gd rowMany_24 16 (some ((rowMany_24 + (1 : Int32)), (rowMany_24 + (1 : Int32)), refused_24, (upd row_24 (Int32.toNatClampNeg rowMany_24) x1)))) else ((f_X5_no refused_24 v2_24).bind fun (r30 : Int32 × (Nat → Int32)) => (some (r30.1, rowMany_24, r30.2, row_24))))
def f_X5_row (rowMany : Int32) (refused : (Nat → Int32)) (row : (Nat → Int32)) (x1 : Int32) : Option (Int32 × Int32 × (Nat → Int32) × (Nat → Int32)) := ((f_X5_bound x1 (0 : Int32) (99 : Int32)).bind fun (r4 : Int32) => (if r4 = 0 then (if rowMany = (16 : Int32) then (f_X5_row_24 x1  (-6 : Int32) rowMany refused row) else (f_X5_row_24 x1  r4 rowMany refused row)) else (f_X5_row_24 x1  r4 rowMany refused row)))
set_option maxHeartbeats 4000000 in
set_option maxRecDepth 100000 in
theorem w_X5_row_24 {p : Program} {l : Launch} {e : Env} {s : State} {m : MethodId} {args : Array Value} {below : List Frame} {meth : Method} {c : Code} {D : va_G} {cI : ClassId} {aS : aSt} {A : Nat → Prop} {Q : State → Prop}  (ad : Nat → Nat) (writers : Int32) (year : Int32) (taped : Int32) (at_ : Int32) (statements : Int32) (hasImage : Int32) (isKeeping : Int32) (cursor : Int32) (forgottenWhen : Int32) (x1 : Int32) {R : Int32 × Int32 × (Nat → Int32) × (Nat → Int32)} (X : Bx p s m args meth c cX5_row 3 (some .int) RX5 D cI aS A) (hret : RtI p l e 1 s m args below meth c cX5_row (some .int) D A (wd_X5_row cI ad writers year taped at_ statements hasImage isKeeping cursor forgottenWhen R.2.1 R.2.2.1 R.2.2.2) R.1 Q) : ∀ (v2_24 : Int32) (rowMany_24 : Int32) (refused_24 : (Nat → Int32)) (row_24 : (Nat → Int32)) (H : Heap) (locs : List Loc) (ls : Array Slot), f_X5_row_24 x1  v2_24 rowMany_24 refused_24 row_24 = some R → lv_has ls 3 [(0, .ref (ad 0)), (1, .int x1), (2, .int v2_24)] → va_P D vwCl (wd_X5_row cI ad writers year taped at_ statements hasImage isKeeping cursor forgottenWhen rowMany_24 refused_24 row_24) H → va_D A (wd_X5_row cI ad writers year taped at_ statements hasImage isKeeping cursor forgottenWhen rowMany_24 refused_24 row_24) → va_S A s.heap H locs → Wh p l e 1 s m args below meth c H locs Q (F0 m 24 ls []) := by
  have hx := X.1
  have hb := X.2.1
  intro v2_24 rowMany_24 refused_24 row_24 H locs ls hf hl hP hD hS
  replace hf : (if v2_24 = 0 then (gd rowMany_24 16 (some ((rowMany_24 + (1 : Int32)), (rowMany_24 + (1 : Int32)), refused_24, (upd row_24 (Int32.toNatClampNeg rowMany_24) x1)))) else ((f_X5_no refused_24 v2_24).bind fun (r30 : Int32 × (Nat → Int32)) => (some (r30.1, rowMany_24, r30.2, row_24)))) = some R := hf
  refine lv_iload_n hx hb dX5_row_24 rfl (lv_at hl 2 rfl) ?_
  refine lv_if_eq (tgt := 34) hx hb dX5_row_25 (by decide) (fun c25 => ?_) (fun c25 => ?_)
  · have hf := iT c25 hf
    refine lv_aload_n hx hb dX5_row_34 rfl (lv_at hl 0 rfl) ?_
    refine fgX5_52 X hP (q0 := 0) rfl rfl dX5_row_35 ?_
    refine lv_aload_n hx hb dX5_row_38 rfl (lv_at hl 0 rfl) ?_
    refine fgX5_257 X hP (q0 := 0) rfl rfl dX5_row_39 ?_
    refine lv_iload_n hx hb dX5_row_42 rfl (lv_at hl 1 rfl) ?_
    refine aPut X hP hD hS (q0 := 2) (ws' := (wd_X5_row cI ad writers year taped at_ statements hasImage isKeeping cursor forgottenWhen rowMany_24 refused_24 (upd row_24 (Int32.toNatClampNeg rowMany_24) x1))) rfl (gdS hf).1 rfl dX5_row_43 (fun H locs hP hD hS => ?_)
    have hf := (gdS hf).2
    refine lv_aload_n hx hb dX5_row_44 rfl (lv_at hl 0 rfl) ?_
    refine lv_dup hx hb dX5_row_45 rfl ?_
    refine fgX5_257 X hP (q0 := 0) rfl rfl dX5_row_46 ?_
    refine lv_iconst (v := 1) hx hb dX5_row_49 (by decide) ?_
    refine lv_iadd hx hb dX5_row_50 ?_
    refine fpX5_257 X hP hD hS (q0 := 0) (ws' := (wd_X5_row cI ad writers year taped at_ statements hasImage isKeeping cursor forgottenWhen (rowMany_24 + (1 : Int32)) refused_24 (upd row_24 (Int32.toNatClampNeg rowMany_24) x1))) rfl rfl rfl (Nat.le_of_ble_eq_true rfl) rfl dX5_row_51 (fun H locs hP hD hS => ?_)
    refine lv_aload_n hx hb dX5_row_54 rfl (lv_at hl 0 rfl) ?_
    refine fgX5_257 X hP (q0 := 0) rfl rfl dX5_row_55 ?_
    have hR := Option.some.inj hf
    subst hR
    exact hret _ _ _ _ _ rfl (fun _ hn => by cases hn; rfl) hP hD hS dX5_row_58
  · have hf := iF c25 hf
    refine lv_aload_n hx hb dX5_row_28 rfl (lv_at hl 0 rfl) ?_
    refine lv_iload_n hx hb dX5_row_29 rfl (lv_at hl 2 rfl) ?_
    obtain ⟨r30, hq30, hf⟩ := bS hf
    refine wr_i X hP hD hS [0, 1] rfl (ws' := (wd_X5_row cI ad writers year taped at_ statements hasImage isKeeping cursor forgottenWhen rowMany_24 r30.2 row_24)) (Nat.le_of_ble_eq_true rfl) rfl rfl (run_V X hP hD hS [0, 1] rfl rfl (c_X5_no l D cI aS ad writers year taped at_ statements hasImage isKeeping cursor forgottenWhen rowMany_24 refused_24 v2_24 _ hq30 _) lkX5_69 (by decide) (q0 := 0) rfl rfl rfl rfl (Nat.le_of_ble_eq_true rfl) hl.1 dX5_row_30) (fun H locs hP hD hS => ?_)
    have hR := Option.some.inj hf
    subst hR
    exact hret _ _ _ _ _ rfl (fun _ hn => by cases hn; rfl) hP hD hS dX5_row_33
set_option maxHeartbeats 4000000 in
set_option maxRecDepth 100000 in
theorem c_X5_row (l : Launch) (D : va_G) (cI : ClassId) (aS : aSt) (ad : Nat → Nat) (writers : Int32) (year : Int32) (taped : Int32) (at_ : Int32) (statements : Int32) (hasImage : Int32) (isKeeping : Int32) (cursor : Int32) (forgottenWhen : Int32) (rowMany : Int32) (refused : (Nat → Int32)) (row : (Nat → Int32)) (x1 : Int32) (R : Int32 × Int32 × (Nat → Int32) × (Nat → Int32)) (hf : f_X5_row rowMany refused row x1 = some R) : CtI l yX5_row cX5_row 3 (some .int) 1 D cI aS [.ref (ad 0), .int x1] (wd_X5_row cI ad writers year taped at_ statements hasImage isKeeping cursor forgottenWhen rowMany refused row) (wd_X5_row cI ad writers year taped at_ statements hasImage isKeeping cursor forgottenWhen R.2.1 R.2.2.1 R.2.2.2) R.1 := by
  refine ctI_of (by decide) ⟨_, rfl⟩ (Nat.le_of_ble_eq_true rfl) ?_
  intro p e s m below meth c A Q ls X hret hP hD hl
  have hS : va_S A s.heap s.heap [] := va_S.rf
  have hx := X.1
  have hb := X.2.1
  have hl : lv_has ls 3 [(0, .ref (ad 0)), (1, .int x1)] := hl
  replace hf : ((f_X5_bound x1 (0 : Int32) (99 : Int32)).bind fun (r4 : Int32) => (if r4 = 0 then (if rowMany = (16 : Int32) then (f_X5_row_24 x1  (-6 : Int32) rowMany refused row) else (f_X5_row_24 x1  r4 rowMany refused row)) else (f_X5_row_24 x1  r4 rowMany refused row))) = some R := hf
  refine lv_iload_n hx hb dX5_row_0 rfl (lv_at hl 1 rfl) ?_
  refine lv_iconst (v := 0) hx hb dX5_row_1 (by decide) ?_
  refine lv_bipush (v := 99) hx hb dX5_row_2 (by decide) ?_
  obtain ⟨r4, hq4, hf⟩ := bS hf
  refine ro_i X hP hD hS [] rfl (run_S X hP hD hS [] rfl rfl (c_X5_bound l D cI aS x1 (0 : Int32) (99 : Int32) _ hq4 _) lkX5_62 (by decide) rfl rfl (Nat.le_of_ble_eq_true rfl) hl.1 dX5_row_4) (fun H locs hP hS => ?_)
  refine lv_istore_n (lv' := [(2, .int r4), (0, .ref (ad 0)), (1, .int x1)]) hx hb dX5_row_7 rfl hl (by decide) rfl (fun ls hl => ?_)
  refine lv_iload_n hx hb dX5_row_8 rfl (lv_at hl 0 rfl) ?_
  refine lv_if_ne (tgt := 24) hx hb dX5_row_9 (by decide) (fun c9 => ?_) (fun c9 => ?_)
  · have hf := iF c9 hf
    exact w_X5_row_24 ad writers year taped at_ statements hasImage isKeeping cursor forgottenWhen x1 X hret  r4 rowMany refused row _ _ _ hf (lv_sub hl [1, 2, 0] rfl) hP hD hS
  · have hf := iT c9 hf
    refine lv_aload_n hx hb dX5_row_12 rfl (lv_at hl 1 rfl) ?_
    refine fgX5_257 X hP (q0 := 0) rfl rfl dX5_row_13 ?_
    refine lv_bipush (v := 16) hx hb dX5_row_16 (by decide) ?_
    refine lv_icmp_ne (tgt := 24) hx hb dX5_row_18 (by decide) (fun c18 => ?_) (fun c18 => ?_)
    · have hf := iF c18 hf
      exact w_X5_row_24 ad writers year taped at_ statements hasImage isKeeping cursor forgottenWhen x1 X hret  r4 rowMany refused row _ _ _ hf (lv_sub hl [1, 2, 0] rfl) hP hD hS
    · have hf := iT c18 hf
      refine lv_bipush (v := -6) hx hb dX5_row_21 (by decide) ?_
      refine lv_istore_n (lv' := [(2, .int (-6 : Int32)), (0, .ref (ad 0)), (1, .int x1)]) hx hb dX5_row_23 rfl hl (by decide) rfl (fun ls hl => ?_)
      exact w_X5_row_24 ad writers year taped at_ statements hasImage isKeeping cursor forgottenWhen x1 X hret  (-6 : Int32) rowMany refused row _ _ _ hf (lv_sub hl [1, 2, 0] rfl) hP hD hS

abbrev wd_X5_same (cI : ClassId) (ad : Nat → Nat) (writers : Int32) (year : Int32) (taped : Int32) (at_ : Int32) (statements : Int32) (hasImage : Int32) (isKeeping : Int32) (cursor : Int32) (forgottenWhen : Int32) (rowMany : Int32) (refused : (Nat → Int32)) (style : (Nat → Int32)) (silent : (Nat → Int32)) : va_W := [((ad 0), .inr (5, [.ref (ad 1), .ref (ad 2), .ref (ad 3), .ref (ad 4), .ref (ad 5), .ref (ad 6), .ref (ad 7), .int writers, .int year, .ref (ad 8), .ref (ad 9), .ref (ad 10), .ref (ad 11), .int taped, .int at_, .int statements, .ref (ad 12), .int hasImage, .int isKeeping, .int cursor, .int forgottenWhen, .ref (ad 13), .ref (ad 14), .ref (ad 15), .int rowMany])), ((ad 1), .inl (cI, 7, .inl refused)), ((ad 4), .inl (cI, 7, .inl style)), ((ad 6), .inl (cI, 7, .inl silent))]
def f_X5_same_104  (kL39 : Int32 → Int32 → Int32 → Option (Int32 × (Nat → Int32))) (v2_104 : Int32) (v3_104 : Int32) (v5_104 : Int32) : Option (Int32 × (Nat → Int32)) := (kL39 v2_104 v3_104 (v5_104 + (1 : Int32)))
def f_X5_same_103  (kL39 : Int32 → Int32 → Int32 → Option (Int32 × (Nat → Int32))) (v2_103 : Int32) (v5_103 : Int32) (t0_103 : Int32) : Option (Int32 × (Nat → Int32)) := (f_X5_same_104  kL39 v2_103 t0_103 v5_103)
def f_X5_same_39 (writers : Int32) (year : Int32) (style : (Nat → Int32)) (silent : (Nat → Int32)) (u4_39 : Int32) (kX39_110 : Int32 → Int32 → Option (Int32 × (Nat → Int32))) : Nat → Int32 → Int32 → Int32 → Option (Int32 × (Nat → Int32))
  | 0 => fun _ _ _ => none
  | fuel + 1 => fun v2_39 v3_39 v5_39 => (if writers ≤ v5_39 then (kX39_110 v2_39 v3_39) else (gd u4_39 7 (gd v5_39 7 (if 0 < ((silent (Int32.toNatClampNeg u4_39)) + (silent (Int32.toNatClampNeg v5_39))) then (f_X5_same_104  (f_X5_same_39 writers year style silent u4_39 kX39_110 fuel) v2_39 v3_39 v5_39) else ((f_X5_opens year style u4_39).bind fun (r69 : Int32) => ((f_X5_opens year style v5_39).bind fun (r75 : Int32) => (if r69 = r75 then (if 0 ≤ v3_39 then (f_X5_same_103  (f_X5_same_39 writers year style silent u4_39 kX39_110 fuel) (v2_39 + (1 : Int32)) v5_39 v3_39) else (f_X5_same_103  (f_X5_same_39 writers year style silent u4_39 kX39_110 fuel) (v2_39 + (1 : Int32)) v5_39 (((10 : Int32) * u4_39) + v5_39))) else (f_X5_same_104  (f_X5_same_39 writers year style silent u4_39 kX39_110 fuel) v2_39 v3_39 v5_39))))))))
theorem e_X5_same_39 (writers : Int32) (year : Int32) (style : (Nat → Int32)) (silent : (Nat → Int32)) (u4_39 : Int32) (kX39_110 : Int32 → Int32 → Option (Int32 × (Nat → Int32))) (fuel : Nat) (v2_39 : Int32) (v3_39 : Int32) (v5_39 : Int32) : f_X5_same_39 writers year style silent u4_39 kX39_110 (fuel + 1) v2_39 v3_39 v5_39 = (if writers ≤ v5_39 then (kX39_110 v2_39 v3_39) else (gd u4_39 7 (gd v5_39 7 (if 0 < ((silent (Int32.toNatClampNeg u4_39)) + (silent (Int32.toNatClampNeg v5_39))) then (f_X5_same_104  (f_X5_same_39 writers year style silent u4_39 kX39_110 fuel) v2_39 v3_39 v5_39) else ((f_X5_opens year style u4_39).bind fun (r69 : Int32) => ((f_X5_opens year style v5_39).bind fun (r75 : Int32) => (if r69 = r75 then (if 0 ≤ v3_39 then (f_X5_same_103  (f_X5_same_39 writers year style silent u4_39 kX39_110 fuel) (v2_39 + (1 : Int32)) v5_39 v3_39) else (f_X5_same_103  (f_X5_same_39 writers year style silent u4_39 kX39_110 fuel) (v2_39 + (1 : Int32)) v5_39 (((10 : Int32) * u4_39) + v5_39))) else (f_X5_same_104  (f_X5_same_39 writers year style silent u4_39 kX39_110 fuel) v2_39 v3_39 v5_39)))))))) := rfl
def f_X5_same_110  (kL24 : Int32 → Int32 → Int32 → Option (Int32 × (Nat → Int32))) (v2_110 : Int32) (v3_110 : Int32) (v4_110 : Int32) : Option (Int32 × (Nat → Int32)) := (kL24 v2_110 v3_110 (v4_110 + (1 : Int32)))
def f_X5_same_24 (writers : Int32) (year : Int32) (style : (Nat → Int32)) (silent : (Nat → Int32)) (kX24_116 : Int32 → Int32 → Option (Int32 × (Nat → Int32))) : Nat → Int32 → Int32 → Int32 → Option (Int32 × (Nat → Int32))
  | 0 => fun _ _ _ => none
  | fuel + 1 => fun v2_24 v3_24 v4_24 => (if writers ≤ v4_24 then (kX24_116 v2_24 v3_24) else (f_X5_same_39 writers year style silent v4_24 (fun (v2_110 : Int32) (v3_110 : Int32) => (f_X5_same_110  (f_X5_same_24 writers year style silent kX24_116 fuel) v2_110 v3_110 v4_24)) FU v2_24 v3_24 (v4_24 + (1 : Int32))))
theorem e_X5_same_24 (writers : Int32) (year : Int32) (style : (Nat → Int32)) (silent : (Nat → Int32)) (kX24_116 : Int32 → Int32 → Option (Int32 × (Nat → Int32))) (fuel : Nat) (v2_24 : Int32) (v3_24 : Int32) (v4_24 : Int32) : f_X5_same_24 writers year style silent kX24_116 (fuel + 1) v2_24 v3_24 v4_24 = (if writers ≤ v4_24 then (kX24_116 v2_24 v3_24) else (f_X5_same_39 writers year style silent v4_24 (fun (v2_110 : Int32) (v3_110 : Int32) => (f_X5_same_110  (f_X5_same_24 writers year style silent kX24_116 fuel) v2_110 v3_110 v4_24)) FU v2_24 v3_24 (v4_24 + (1 : Int32)))) := rfl
def f_X5_same_116 (x1 : Int32)  (v2_116 : Int32) (v3_116 : Int32) (refused_116 : (Nat → Int32)) : Option (Int32 × (Nat → Int32)) := (if x1 = 0 then (some (v2_116, refused_116)) else (some (v3_116, refused_116)))
def f_X5_same (writers : Int32) (year : Int32) (refused : (Nat → Int32)) (style : (Nat → Int32)) (silent : (Nat → Int32)) (x1 : Int32) : Option (Int32 × (Nat → Int32)) := ((f_X5_isIn x1 (0 : Int32) (1 : Int32)).bind fun (r3 : Int32) => (if r3 = 0 then ((f_X5_no refused (-2 : Int32)).bind fun (r12 : Int32 × (Nat → Int32)) => (some (r12.1, r12.2))) else (f_X5_same_24 writers year style silent (fun (v2_116 : Int32) (v3_116 : Int32) => (f_X5_same_116 x1  v2_116 v3_116 refused)) FU (0 : Int32) (-9 : Int32) (0 : Int32))))
set_option maxHeartbeats 4000000 in
set_option maxRecDepth 100000 in
theorem w_X5_same_104 {p : Program} {l : Launch} {e : Env} {s : State} {m : MethodId} {args : Array Value} {below : List Frame} {meth : Method} {c : Code} {D : va_G} {cI : ClassId} {aS : aSt} {A : Nat → Prop} {Q : State → Prop}  (ad : Nat → Nat) (writers : Int32) (year : Int32) (taped : Int32) (at_ : Int32) (statements : Int32) (hasImage : Int32) (isKeeping : Int32) (cursor : Int32) (forgottenWhen : Int32) (rowMany : Int32) (style : (Nat → Int32)) (silent : (Nat → Int32)) (x1 : Int32) (refused_u24 : (Nat → Int32)) (u4_39 : Int32) {R : Int32 × (Nat → Int32)} (X : Bx p s m args meth c cX5_same 6 (some .int) RX5 D cI aS A) (hret : RtI p l e 1 s m args below meth c cX5_same (some .int) D A (wd_X5_same cI ad writers year taped at_ statements hasImage isKeeping cursor forgottenWhen rowMany R.2 style silent) R.1 Q) (kL39 : Int32 → Int32 → Int32 → Option (Int32 × (Nat → Int32))) (hkL39 : ∀ (v2_39 : Int32) (v3_39 : Int32) (v5_39 : Int32) (H : Heap) (locs : List Loc) (ls : Array Slot), kL39 v2_39 v3_39 v5_39 = some R → lv_has ls 6 [(0, .ref (ad 0)), (1, .int x1), (2, .int v2_39), (3, .int v3_39), (4, .int u4_39), (5, .int v5_39)] → va_P D vwCl (wd_X5_same cI ad writers year taped at_ statements hasImage isKeeping cursor forgottenWhen rowMany refused_u24 style silent) H → va_D A (wd_X5_same cI ad writers year taped at_ statements hasImage isKeeping cursor forgottenWhen rowMany refused_u24 style silent) → va_S A s.heap H locs → Wh p l e 1 s m args below meth c H locs Q (F0 m 39 ls [])) : ∀ (v2_104 : Int32) (v3_104 : Int32) (v5_104 : Int32) (H : Heap) (locs : List Loc) (ls : Array Slot), f_X5_same_104  kL39 v2_104 v3_104 v5_104 = some R → lv_has ls 6 [(0, .ref (ad 0)), (1, .int x1), (2, .int v2_104), (3, .int v3_104), (4, .int u4_39), (5, .int v5_104)] → va_P D vwCl (wd_X5_same cI ad writers year taped at_ statements hasImage isKeeping cursor forgottenWhen rowMany refused_u24 style silent) H → va_D A (wd_X5_same cI ad writers year taped at_ statements hasImage isKeeping cursor forgottenWhen rowMany refused_u24 style silent) → va_S A s.heap H locs → Wh p l e 1 s m args below meth c H locs Q (F0 m 104 ls []) := by
  have hx := X.1
  have hb := X.2.1
  intro v2_104 v3_104 v5_104 H locs ls hf hl hP hD hS
  replace hf : (kL39 v2_104 v3_104 (v5_104 + (1 : Int32))) = some R := hf
  refine lv_iinc (v := (v5_104 + (1 : Int32))) (lv' := [(5, .int (v5_104 + (1 : Int32))), (0, .ref (ad 0)), (1, .int x1), (2, .int v2_104), (3, .int v3_104), (4, .int u4_39)]) hx hb dX5_same_104 hl (k := 5) rfl rfl (by decide) rfl (fun ls hl => ?_)
  refine lv_goto (tgt := 39) hx hb dX5_same_107 (by decide) ?_
  exact hkL39 v2_104 v3_104 (v5_104 + (1 : Int32)) _ _ _ hf (lv_sub hl [1, 2, 3, 4, 5, 0] rfl) hP hD hS
set_option maxHeartbeats 4000000 in
set_option maxRecDepth 100000 in
theorem w_X5_same_103 {p : Program} {l : Launch} {e : Env} {s : State} {m : MethodId} {args : Array Value} {below : List Frame} {meth : Method} {c : Code} {D : va_G} {cI : ClassId} {aS : aSt} {A : Nat → Prop} {Q : State → Prop}  (ad : Nat → Nat) (writers : Int32) (year : Int32) (taped : Int32) (at_ : Int32) (statements : Int32) (hasImage : Int32) (isKeeping : Int32) (cursor : Int32) (forgottenWhen : Int32) (rowMany : Int32) (style : (Nat → Int32)) (silent : (Nat → Int32)) (x1 : Int32) (refused_u24 : (Nat → Int32)) (u4_39 : Int32) {R : Int32 × (Nat → Int32)} (X : Bx p s m args meth c cX5_same 6 (some .int) RX5 D cI aS A) (hret : RtI p l e 1 s m args below meth c cX5_same (some .int) D A (wd_X5_same cI ad writers year taped at_ statements hasImage isKeeping cursor forgottenWhen rowMany R.2 style silent) R.1 Q) (kL39 : Int32 → Int32 → Int32 → Option (Int32 × (Nat → Int32))) (hkL39 : ∀ (v2_39 : Int32) (v3_39 : Int32) (v5_39 : Int32) (H : Heap) (locs : List Loc) (ls : Array Slot), kL39 v2_39 v3_39 v5_39 = some R → lv_has ls 6 [(0, .ref (ad 0)), (1, .int x1), (2, .int v2_39), (3, .int v3_39), (4, .int u4_39), (5, .int v5_39)] → va_P D vwCl (wd_X5_same cI ad writers year taped at_ statements hasImage isKeeping cursor forgottenWhen rowMany refused_u24 style silent) H → va_D A (wd_X5_same cI ad writers year taped at_ statements hasImage isKeeping cursor forgottenWhen rowMany refused_u24 style silent) → va_S A s.heap H locs → Wh p l e 1 s m args below meth c H locs Q (F0 m 39 ls [])) : ∀ (v2_103 : Int32) (v5_103 : Int32) (t0_103 : Int32) (H : Heap) (locs : List Loc) (ls : Array Slot), f_X5_same_103  kL39 v2_103 v5_103 t0_103 = some R → lv_has ls 6 [(0, .ref (ad 0)), (1, .int x1), (2, .int v2_103), (4, .int u4_39), (5, .int v5_103)] → va_P D vwCl (wd_X5_same cI ad writers year taped at_ statements hasImage isKeeping cursor forgottenWhen rowMany refused_u24 style silent) H → va_D A (wd_X5_same cI ad writers year taped at_ statements hasImage isKeeping cursor forgottenWhen rowMany refused_u24 style silent) → va_S A s.heap H locs → Wh p l e 1 s m args below meth c H locs Q (F0 m 103 ls [.int t0_103]) := by
  have hx := X.1
  have hb := X.2.1
  intro v2_103 v5_103 t0_103 H locs ls hf hl hP hD hS
  replace hf : (f_X5_same_104  kL39 v2_103 t0_103 v5_103) = some R := hf
  refine lv_istore_n (lv' := [(3, .int t0_103), (0, .ref (ad 0)), (1, .int x1), (2, .int v2_103), (4, .int u4_39), (5, .int v5_103)]) hx hb dX5_same_103 rfl hl (by decide) rfl (fun ls hl => ?_)
  exact w_X5_same_104 ad writers year taped at_ statements hasImage isKeeping cursor forgottenWhen rowMany style silent x1 refused_u24 u4_39 X hret _ hkL39 v2_103 t0_103 v5_103 _ _ _ hf (lv_sub hl [1, 2, 3, 0, 4, 5] rfl) hP hD hS
set_option maxHeartbeats 4000000 in
set_option maxRecDepth 100000 in
theorem w_X5_same_39 {p : Program} {l : Launch} {e : Env} {s : State} {m : MethodId} {args : Array Value} {below : List Frame} {meth : Method} {c : Code} {D : va_G} {cI : ClassId} {aS : aSt} {A : Nat → Prop} {Q : State → Prop}  (ad : Nat → Nat) (writers : Int32) (year : Int32) (taped : Int32) (at_ : Int32) (statements : Int32) (hasImage : Int32) (isKeeping : Int32) (cursor : Int32) (forgottenWhen : Int32) (rowMany : Int32) (style : (Nat → Int32)) (silent : (Nat → Int32)) (x1 : Int32) (refused_u24 : (Nat → Int32)) (u4_39 : Int32) {R : Int32 × (Nat → Int32)} (X : Bx p s m args meth c cX5_same 6 (some .int) RX5 D cI aS A) (hret : RtI p l e 1 s m args below meth c cX5_same (some .int) D A (wd_X5_same cI ad writers year taped at_ statements hasImage isKeeping cursor forgottenWhen rowMany R.2 style silent) R.1 Q) (kX39_110 : Int32 → Int32 → Option (Int32 × (Nat → Int32))) (hkX39_110 : ∀ (v2_110 : Int32) (v3_110 : Int32) (H : Heap) (locs : List Loc) (ls : Array Slot), kX39_110 v2_110 v3_110 = some R → lv_has ls 6 [(0, .ref (ad 0)), (1, .int x1), (2, .int v2_110), (3, .int v3_110), (4, .int u4_39)] → va_P D vwCl (wd_X5_same cI ad writers year taped at_ statements hasImage isKeeping cursor forgottenWhen rowMany refused_u24 style silent) H → va_D A (wd_X5_same cI ad writers year taped at_ statements hasImage isKeeping cursor forgottenWhen rowMany refused_u24 style silent) → va_S A s.heap H locs → Wh p l e 1 s m args below meth c H locs Q (F0 m 110 ls [])) : ∀ (fuel : Nat) (v2_39 : Int32) (v3_39 : Int32) (v5_39 : Int32) (H : Heap) (locs : List Loc) (ls : Array Slot), f_X5_same_39 writers year style silent u4_39 kX39_110 fuel v2_39 v3_39 v5_39 = some R → lv_has ls 6 [(0, .ref (ad 0)), (1, .int x1), (2, .int v2_39), (3, .int v3_39), (4, .int u4_39), (5, .int v5_39)] → va_P D vwCl (wd_X5_same cI ad writers year taped at_ statements hasImage isKeeping cursor forgottenWhen rowMany refused_u24 style silent) H → va_D A (wd_X5_same cI ad writers year taped at_ statements hasImage isKeeping cursor forgottenWhen rowMany refused_u24 style silent) → va_S A s.heap H locs → Wh p l e 1 s m args below meth c H locs Q (F0 m 39 ls []) := by
  have hx := X.1
  have hb := X.2.1
  intro fuel
  induction fuel with
  | zero =>
    intro v2_39 v3_39 v5_39 H locs ls hf hl hP hD hS
    cases hf
  | succ fuel ih =>
    intro v2_39 v3_39 v5_39 H locs ls hf hl hP hD hS
    replace hf : (if writers ≤ v5_39 then (kX39_110 v2_39 v3_39) else (gd u4_39 7 (gd v5_39 7 (if 0 < ((silent (Int32.toNatClampNeg u4_39)) + (silent (Int32.toNatClampNeg v5_39))) then (f_X5_same_104  (f_X5_same_39 writers year style silent u4_39 kX39_110 fuel) v2_39 v3_39 v5_39) else ((f_X5_opens year style u4_39).bind fun (r69 : Int32) => ((f_X5_opens year style v5_39).bind fun (r75 : Int32) => (if r69 = r75 then (if 0 ≤ v3_39 then (f_X5_same_103  (f_X5_same_39 writers year style silent u4_39 kX39_110 fuel) (v2_39 + (1 : Int32)) v5_39 v3_39) else (f_X5_same_103  (f_X5_same_39 writers year style silent u4_39 kX39_110 fuel) (v2_39 + (1 : Int32)) v5_39 (((10 : Int32) * u4_39) + v5_39))) else (f_X5_same_104  (f_X5_same_39 writers year style silent u4_39 kX39_110 fuel) v2_39 v3_39 v5_39)))))))) = some R := hf
    refine lv_iload hx hb dX5_same_39 (lv_at hl 5 rfl) ?_
    refine lv_aload_n hx hb dX5_same_41 rfl (lv_at hl 0 rfl) ?_
    refine fgX5_55 X hP (q0 := 0) rfl rfl dX5_same_42 ?_
    refine lv_icmp_ge (tgt := 110) hx hb dX5_same_45 (by decide) (fun c45 => ?_) (fun c45 => ?_)
    · have hf := iT c45 hf
      exact hkX39_110 v2_39 v3_39 _ _ _ hf (lv_sub hl [0, 1, 2, 3, 4] rfl) hP hD hS
    · have hf := iF c45 hf
      refine lv_aload_n hx hb dX5_same_48 rfl (lv_at hl 0 rfl) ?_
      refine fgX5_25 X hP (q0 := 0) rfl rfl dX5_same_49 ?_
      refine lv_iload hx hb dX5_same_52 (lv_at hl 4 rfl) ?_
      refine aGet X hP (q0 := 3) rfl (gdS hf).1 dX5_same_54 ?_
      have hf := (gdS hf).2
      refine lv_aload_n hx hb dX5_same_55 rfl (lv_at hl 0 rfl) ?_
      refine fgX5_25 X hP (q0 := 0) rfl rfl dX5_same_56 ?_
      refine lv_iload hx hb dX5_same_59 (lv_at hl 5 rfl) ?_
      refine aGet X hP (q0 := 3) rfl (gdS hf).1 dX5_same_61 ?_
      have hf := (gdS hf).2
      refine lv_iadd hx hb dX5_same_62 ?_
      refine lv_if_gt (tgt := 104) hx hb dX5_same_63 (by decide) (fun c63 => ?_) (fun c63 => ?_)
      · have hf := iT c63 hf
        exact w_X5_same_104 ad writers year taped at_ statements hasImage isKeeping cursor forgottenWhen rowMany style silent x1 refused_u24 u4_39 X hret _ ih v2_39 v3_39 v5_39 _ _ _ hf (lv_sub hl [0, 1, 2, 3, 4, 5] rfl) hP hD hS
      · have hf := iF c63 hf
        refine lv_aload_n hx hb dX5_same_66 rfl (lv_at hl 0 rfl) ?_
        refine lv_iload hx hb dX5_same_67 (lv_at hl 4 rfl) ?_
        obtain ⟨r69, hq69, hf⟩ := bS hf
        refine ro_i X hP hD hS [0, 2] rfl (run_V X hP hD hS [0, 2] rfl rfl (c_X5_opens l D cI aS ad writers year taped at_ statements hasImage isKeeping cursor forgottenWhen rowMany style u4_39 _ hq69 _) lkX5_165 (by decide) (q0 := 0) rfl rfl rfl rfl (Nat.le_of_ble_eq_true rfl) hl.1 dX5_same_69) (fun H locs hP hS => ?_)
        refine lv_aload_n hx hb dX5_same_72 rfl (lv_at hl 0 rfl) ?_
        refine lv_iload hx hb dX5_same_73 (lv_at hl 5 rfl) ?_
        obtain ⟨r75, hq75, hf⟩ := bS hf
        refine ro_i X hP hD hS [0, 2] rfl (run_V X hP hD hS [0, 2] rfl rfl (c_X5_opens l D cI aS ad writers year taped at_ statements hasImage isKeeping cursor forgottenWhen rowMany style v5_39 _ hq75 _) lkX5_165 (by decide) (q0 := 0) rfl rfl rfl rfl (Nat.le_of_ble_eq_true rfl) hl.1 dX5_same_75) (fun H locs hP hS => ?_)
        refine lv_icmp_eq (tgt := 84) hx hb dX5_same_78 (by decide) (fun c78 => ?_) (fun c78 => ?_)
        · have hf := iT c78 hf
          refine lv_iinc (v := (v2_39 + (1 : Int32))) (lv' := [(2, .int (v2_39 + (1 : Int32))), (0, .ref (ad 0)), (1, .int x1), (3, .int v3_39), (4, .int u4_39), (5, .int v5_39)]) hx hb dX5_same_84 hl (k := 2) rfl rfl (by decide) rfl (fun ls hl => ?_)
          refine lv_iload_n hx hb dX5_same_87 rfl (lv_at hl 3 rfl) ?_
          refine lv_if_ge (tgt := 102) hx hb dX5_same_88 (by decide) (fun c88 => ?_) (fun c88 => ?_)
          · have hf := iT c88 hf
            refine lv_iload_n hx hb dX5_same_102 rfl (lv_at hl 3 rfl) ?_
            exact w_X5_same_103 ad writers year taped at_ statements hasImage isKeeping cursor forgottenWhen rowMany style silent x1 refused_u24 u4_39 X hret _ ih (v2_39 + (1 : Int32)) v5_39 v3_39 _ _ _ hf (lv_sub hl [1, 2, 0, 4, 5] rfl) hP hD hS
          · have hf := iF c88 hf
            refine lv_bipush (v := 10) hx hb dX5_same_91 (by decide) ?_
            refine lv_iload hx hb dX5_same_93 (lv_at hl 4 rfl) ?_
            refine lv_imul hx hb dX5_same_95 ?_
            refine lv_iload hx hb dX5_same_96 (lv_at hl 5 rfl) ?_
            refine lv_iadd hx hb dX5_same_98 ?_
            refine lv_goto (tgt := 103) hx hb dX5_same_99 (by decide) ?_
            exact w_X5_same_103 ad writers year taped at_ statements hasImage isKeeping cursor forgottenWhen rowMany style silent x1 refused_u24 u4_39 X hret _ ih (v2_39 + (1 : Int32)) v5_39 (((10 : Int32) * u4_39) + v5_39) _ _ _ hf (lv_sub hl [1, 2, 0, 4, 5] rfl) hP hD hS
        · have hf := iF c78 hf
          refine lv_goto (tgt := 104) hx hb dX5_same_81 (by decide) ?_
          exact w_X5_same_104 ad writers year taped at_ statements hasImage isKeeping cursor forgottenWhen rowMany style silent x1 refused_u24 u4_39 X hret _ ih v2_39 v3_39 v5_39 _ _ _ hf (lv_sub hl [0, 1, 2, 3, 4, 5] rfl) hP hD hS
set_option maxHeartbeats 4000000 in
set_option maxRecDepth 100000 in
theorem w_X5_same_110 {p : Program} {l : Launch} {e : Env} {s : State} {m : MethodId} {args : Array Value} {below : List Frame} {meth : Method} {c : Code} {D : va_G} {cI : ClassId} {aS : aSt} {A : Nat → Prop} {Q : State → Prop}  (ad : Nat → Nat) (writers : Int32) (year : Int32) (taped : Int32) (at_ : Int32) (statements : Int32) (hasImage : Int32) (isKeeping : Int32) (cursor : Int32) (forgottenWhen : Int32) (rowMany : Int32) (style : (Nat → Int32)) (silent : (Nat → Int32)) (x1 : Int32) (refused_u24 : (Nat → Int32)) {R : Int32 × (Nat → Int32)} (X : Bx p s m args meth c cX5_same 6 (some .int) RX5 D cI aS A) (hret : RtI p l e 1 s m args below meth c cX5_same (some .int) D A (wd_X5_same cI ad writers year taped at_ statements hasImage isKeeping cursor forgottenWhen rowMany R.2 style silent) R.1 Q) (kL24 : Int32 → Int32 → Int32 → Option (Int32 × (Nat → Int32))) (hkL24 : ∀ (v2_24 : Int32) (v3_24 : Int32) (v4_24 : Int32) (H : Heap) (locs : List Loc) (ls : Array Slot), kL24 v2_24 v3_24 v4_24 = some R → lv_has ls 6 [(0, .ref (ad 0)), (1, .int x1), (2, .int v2_24), (3, .int v3_24), (4, .int v4_24)] → va_P D vwCl (wd_X5_same cI ad writers year taped at_ statements hasImage isKeeping cursor forgottenWhen rowMany refused_u24 style silent) H → va_D A (wd_X5_same cI ad writers year taped at_ statements hasImage isKeeping cursor forgottenWhen rowMany refused_u24 style silent) → va_S A s.heap H locs → Wh p l e 1 s m args below meth c H locs Q (F0 m 24 ls [])) : ∀ (v2_110 : Int32) (v3_110 : Int32) (v4_110 : Int32) (H : Heap) (locs : List Loc) (ls : Array Slot), f_X5_same_110  kL24 v2_110 v3_110 v4_110 = some R → lv_has ls 6 [(0, .ref (ad 0)), (1, .int x1), (2, .int v2_110), (3, .int v3_110), (4, .int v4_110)] → va_P D vwCl (wd_X5_same cI ad writers year taped at_ statements hasImage isKeeping cursor forgottenWhen rowMany refused_u24 style silent) H → va_D A (wd_X5_same cI ad writers year taped at_ statements hasImage isKeeping cursor forgottenWhen rowMany refused_u24 style silent) → va_S A s.heap H locs → Wh p l e 1 s m args below meth c H locs Q (F0 m 110 ls []) := by
  have hx := X.1
  have hb := X.2.1
  intro v2_110 v3_110 v4_110 H locs ls hf hl hP hD hS
  replace hf : (kL24 v2_110 v3_110 (v4_110 + (1 : Int32))) = some R := hf
  refine lv_iinc (v := (v4_110 + (1 : Int32))) (lv' := [(4, .int (v4_110 + (1 : Int32))), (0, .ref (ad 0)), (1, .int x1), (2, .int v2_110), (3, .int v3_110)]) hx hb dX5_same_110 hl (k := 4) rfl rfl (by decide) rfl (fun ls hl => ?_)
  refine lv_goto (tgt := 24) hx hb dX5_same_113 (by decide) ?_
  exact hkL24 v2_110 v3_110 (v4_110 + (1 : Int32)) _ _ _ hf (lv_sub hl [1, 2, 3, 4, 0] rfl) hP hD hS
set_option maxHeartbeats 4000000 in
set_option maxRecDepth 100000 in
theorem w_X5_same_24 {p : Program} {l : Launch} {e : Env} {s : State} {m : MethodId} {args : Array Value} {below : List Frame} {meth : Method} {c : Code} {D : va_G} {cI : ClassId} {aS : aSt} {A : Nat → Prop} {Q : State → Prop}  (ad : Nat → Nat) (writers : Int32) (year : Int32) (taped : Int32) (at_ : Int32) (statements : Int32) (hasImage : Int32) (isKeeping : Int32) (cursor : Int32) (forgottenWhen : Int32) (rowMany : Int32) (style : (Nat → Int32)) (silent : (Nat → Int32)) (x1 : Int32) (refused_u24 : (Nat → Int32)) {R : Int32 × (Nat → Int32)} (X : Bx p s m args meth c cX5_same 6 (some .int) RX5 D cI aS A) (hret : RtI p l e 1 s m args below meth c cX5_same (some .int) D A (wd_X5_same cI ad writers year taped at_ statements hasImage isKeeping cursor forgottenWhen rowMany R.2 style silent) R.1 Q) (kX24_116 : Int32 → Int32 → Option (Int32 × (Nat → Int32))) (hkX24_116 : ∀ (v2_116 : Int32) (v3_116 : Int32) (H : Heap) (locs : List Loc) (ls : Array Slot), kX24_116 v2_116 v3_116 = some R → lv_has ls 6 [(1, .int x1), (2, .int v2_116), (3, .int v3_116)] → va_P D vwCl (wd_X5_same cI ad writers year taped at_ statements hasImage isKeeping cursor forgottenWhen rowMany refused_u24 style silent) H → va_D A (wd_X5_same cI ad writers year taped at_ statements hasImage isKeeping cursor forgottenWhen rowMany refused_u24 style silent) → va_S A s.heap H locs → Wh p l e 1 s m args below meth c H locs Q (F0 m 116 ls [])) : ∀ (fuel : Nat) (v2_24 : Int32) (v3_24 : Int32) (v4_24 : Int32) (H : Heap) (locs : List Loc) (ls : Array Slot), f_X5_same_24 writers year style silent kX24_116 fuel v2_24 v3_24 v4_24 = some R → lv_has ls 6 [(0, .ref (ad 0)), (1, .int x1), (2, .int v2_24), (3, .int v3_24), (4, .int v4_24)] → va_P D vwCl (wd_X5_same cI ad writers year taped at_ statements hasImage isKeeping cursor forgottenWhen rowMany refused_u24 style silent) H → va_D A (wd_X5_same cI ad writers year taped at_ statements hasImage isKeeping cursor forgottenWhen rowMany refused_u24 style silent) → va_S A s.heap H locs → Wh p l e 1 s m args below meth c H locs Q (F0 m 24 ls []) := by
  have hx := X.1
  have hb := X.2.1
  intro fuel
  induction fuel with
  | zero =>
    intro v2_24 v3_24 v4_24 H locs ls hf hl hP hD hS
    cases hf
  | succ fuel ih =>
    intro v2_24 v3_24 v4_24 H locs ls hf hl hP hD hS
    replace hf : (if writers ≤ v4_24 then (kX24_116 v2_24 v3_24) else (f_X5_same_39 writers year style silent v4_24 (fun (v2_110 : Int32) (v3_110 : Int32) => (f_X5_same_110  (f_X5_same_24 writers year style silent kX24_116 fuel) v2_110 v3_110 v4_24)) FU v2_24 v3_24 (v4_24 + (1 : Int32)))) = some R := hf
    refine lv_iload hx hb dX5_same_24 (lv_at hl 4 rfl) ?_
    refine lv_aload_n hx hb dX5_same_26 rfl (lv_at hl 0 rfl) ?_
    refine fgX5_55 X hP (q0 := 0) rfl rfl dX5_same_27 ?_
    refine lv_icmp_ge (tgt := 116) hx hb dX5_same_30 (by decide) (fun c30 => ?_) (fun c30 => ?_)
    · have hf := iT c30 hf
      exact hkX24_116 v2_24 v3_24 _ _ _ hf (lv_sub hl [1, 2, 3] rfl) hP hD hS
    · have hf := iF c30 hf
      refine lv_iload hx hb dX5_same_33 (lv_at hl 4 rfl) ?_
      refine lv_iconst (v := 1) hx hb dX5_same_35 (by decide) ?_
      refine lv_iadd hx hb dX5_same_36 ?_
      refine lv_istore (lv' := [(5, .int (v4_24 + (1 : Int32))), (0, .ref (ad 0)), (1, .int x1), (2, .int v2_24), (3, .int v3_24), (4, .int v4_24)]) hx hb dX5_same_37 hl (by decide) rfl (fun ls hl => ?_)
      exact w_X5_same_39 ad writers year taped at_ statements hasImage isKeeping cursor forgottenWhen rowMany style silent x1 refused_u24 v4_24 X hret _ (fun v2_110 v3_110 _ _ _ hf hl hP hD hS => w_X5_same_110 ad writers year taped at_ statements hasImage isKeeping cursor forgottenWhen rowMany style silent x1 refused_u24 X hret _ ih v2_110 v3_110 v4_24 _ _ _ hf (lv_sub hl [0, 1, 2, 3, 4] rfl) hP hD hS) _ v2_24 v3_24 (v4_24 + (1 : Int32)) _ _ _ hf (lv_sub hl [1, 2, 3, 4, 5, 0] rfl) hP hD hS
set_option maxHeartbeats 4000000 in
set_option maxRecDepth 100000 in
theorem w_X5_same_116 {p : Program} {l : Launch} {e : Env} {s : State} {m : MethodId} {args : Array Value} {below : List Frame} {meth : Method} {c : Code} {D : va_G} {cI : ClassId} {aS : aSt} {A : Nat → Prop} {Q : State → Prop}  (ad : Nat → Nat) (writers : Int32) (year : Int32) (taped : Int32) (at_ : Int32) (statements : Int32) (hasImage : Int32) (isKeeping : Int32) (cursor : Int32) (forgottenWhen : Int32) (rowMany : Int32) (style : (Nat → Int32)) (silent : (Nat → Int32)) (x1 : Int32) {R : Int32 × (Nat → Int32)} (X : Bx p s m args meth c cX5_same 6 (some .int) RX5 D cI aS A) (hret : RtI p l e 1 s m args below meth c cX5_same (some .int) D A (wd_X5_same cI ad writers year taped at_ statements hasImage isKeeping cursor forgottenWhen rowMany R.2 style silent) R.1 Q) : ∀ (v2_116 : Int32) (v3_116 : Int32) (refused_116 : (Nat → Int32)) (H : Heap) (locs : List Loc) (ls : Array Slot), f_X5_same_116 x1  v2_116 v3_116 refused_116 = some R → lv_has ls 6 [(1, .int x1), (2, .int v2_116), (3, .int v3_116)] → va_P D vwCl (wd_X5_same cI ad writers year taped at_ statements hasImage isKeeping cursor forgottenWhen rowMany refused_116 style silent) H → va_D A (wd_X5_same cI ad writers year taped at_ statements hasImage isKeeping cursor forgottenWhen rowMany refused_116 style silent) → va_S A s.heap H locs → Wh p l e 1 s m args below meth c H locs Q (F0 m 116 ls []) := by
  have hx := X.1
  have hb := X.2.1
  intro v2_116 v3_116 refused_116 H locs ls hf hl hP hD hS
  replace hf : (if x1 = 0 then (some (v2_116, refused_116)) else (some (v3_116, refused_116))) = some R := hf
  refine lv_iload_n hx hb dX5_same_116 rfl (lv_at hl 0 rfl) ?_
  refine lv_if_ne (tgt := 124) hx hb dX5_same_117 (by decide) (fun c117 => ?_) (fun c117 => ?_)
  · have hf := iF c117 hf
    refine lv_iload_n hx hb dX5_same_124 rfl (lv_at hl 2 rfl) ?_
    have hR := Option.some.inj hf
    subst hR
    exact hret _ _ _ _ _ rfl (fun _ hn => by cases hn; rfl) hP hD hS dX5_same_125
  · have hf := iT c117 hf
    refine lv_iload_n hx hb dX5_same_120 rfl (lv_at hl 1 rfl) ?_
    refine lv_goto (tgt := 125) hx hb dX5_same_121 (by decide) ?_
    have hR := Option.some.inj hf
    subst hR
    exact hret _ _ _ _ _ rfl (fun _ hn => by cases hn; rfl) hP hD hS dX5_same_125
set_option maxHeartbeats 4000000 in
set_option maxRecDepth 100000 in
theorem c_X5_same (l : Launch) (D : va_G) (cI : ClassId) (aS : aSt) (ad : Nat → Nat) (writers : Int32) (year : Int32) (taped : Int32) (at_ : Int32) (statements : Int32) (hasImage : Int32) (isKeeping : Int32) (cursor : Int32) (forgottenWhen : Int32) (rowMany : Int32) (refused : (Nat → Int32)) (style : (Nat → Int32)) (silent : (Nat → Int32)) (x1 : Int32) (R : Int32 × (Nat → Int32)) (hf : f_X5_same writers year refused style silent x1 = some R) : CtI l yX5_same cX5_same 6 (some .int) 1 D cI aS [.ref (ad 0), .int x1] (wd_X5_same cI ad writers year taped at_ statements hasImage isKeeping cursor forgottenWhen rowMany refused style silent) (wd_X5_same cI ad writers year taped at_ statements hasImage isKeeping cursor forgottenWhen rowMany R.2 style silent) R.1 := by
  refine ctI_of (by decide) ⟨_, rfl⟩ (Nat.le_of_ble_eq_true rfl) ?_
  intro p e s m below meth c A Q ls X hret hP hD hl
  have hS : va_S A s.heap s.heap [] := va_S.rf
  have hx := X.1
  have hb := X.2.1
  have hl : lv_has ls 6 [(0, .ref (ad 0)), (1, .int x1)] := hl
  replace hf : ((f_X5_isIn x1 (0 : Int32) (1 : Int32)).bind fun (r3 : Int32) => (if r3 = 0 then ((f_X5_no refused (-2 : Int32)).bind fun (r12 : Int32 × (Nat → Int32)) => (some (r12.1, r12.2))) else (f_X5_same_24 writers year style silent (fun (v2_116 : Int32) (v3_116 : Int32) => (f_X5_same_116 x1  v2_116 v3_116 refused)) FU (0 : Int32) (-9 : Int32) (0 : Int32)))) = some R := hf
  refine lv_iload_n hx hb dX5_same_0 rfl (lv_at hl 1 rfl) ?_
  refine lv_iconst (v := 0) hx hb dX5_same_1 (by decide) ?_
  refine lv_iconst (v := 1) hx hb dX5_same_2 (by decide) ?_
  obtain ⟨r3, hq3, hf⟩ := bS hf
  refine ro_i X hP hD hS [] rfl (run_S X hP hD hS [] rfl rfl (c_X5_isIn l D cI aS x1 (0 : Int32) (1 : Int32) _ hq3 _) lkX5_80 (by decide) rfl rfl (Nat.le_of_ble_eq_true rfl) hl.1 dX5_same_3) (fun H locs hP hS => ?_)
  refine lv_if_ne (tgt := 16) hx hb dX5_same_6 (by decide) (fun c6 => ?_) (fun c6 => ?_)
  · have hf := iF c6 hf
    refine lv_iconst (v := 0) hx hb dX5_same_16 (by decide) ?_
    refine lv_istore_n (lv' := [(2, .int (0 : Int32)), (0, .ref (ad 0)), (1, .int x1)]) hx hb dX5_same_17 rfl hl (by decide) rfl (fun ls hl => ?_)
    refine lv_bipush (v := -9) hx hb dX5_same_18 (by decide) ?_
    refine lv_istore_n (lv' := [(3, .int (-9 : Int32)), (2, .int (0 : Int32)), (0, .ref (ad 0)), (1, .int x1)]) hx hb dX5_same_20 rfl hl (by decide) rfl (fun ls hl => ?_)
    refine lv_iconst (v := 0) hx hb dX5_same_21 (by decide) ?_
    refine lv_istore (lv' := [(4, .int (0 : Int32)), (3, .int (-9 : Int32)), (2, .int (0 : Int32)), (0, .ref (ad 0)), (1, .int x1)]) hx hb dX5_same_22 hl (by decide) rfl (fun ls hl => ?_)
    exact w_X5_same_24 ad writers year taped at_ statements hasImage isKeeping cursor forgottenWhen rowMany style silent x1 refused X hret _ (fun v2_116 v3_116 _ _ _ hf hl hP hD hS => w_X5_same_116 ad writers year taped at_ statements hasImage isKeeping cursor forgottenWhen rowMany style silent x1 X hret  v2_116 v3_116 refused _ _ _ hf (lv_sub hl [0, 1, 2] rfl) hP hD hS) _ (0 : Int32) (-9 : Int32) (0 : Int32) _ _ _ hf (lv_sub hl [3, 4, 2, 1, 0] rfl) hP hD hS
  · have hf := iT c6 hf
    refine lv_aload_n hx hb dX5_same_9 rfl (lv_at hl 0 rfl) ?_
    refine lv_bipush (v := -2) hx hb dX5_same_10 (by decide) ?_
    obtain ⟨r12, hq12, hf⟩ := bS hf
    refine wr_i X hP hD hS [0, 1] rfl (ws' := (wd_X5_same cI ad writers year taped at_ statements hasImage isKeeping cursor forgottenWhen rowMany r12.2 style silent)) (Nat.le_of_ble_eq_true rfl) rfl rfl (run_V X hP hD hS [0, 1] rfl rfl (c_X5_no l D cI aS ad writers year taped at_ statements hasImage isKeeping cursor forgottenWhen rowMany refused (-2 : Int32) _ hq12 _) lkX5_69 (by decide) (q0 := 0) rfl rfl rfl rfl (Nat.le_of_ble_eq_true rfl) hl.1 dX5_same_12) (fun H locs hP hD hS => ?_)
    have hR := Option.some.inj hf
    subst hR
    exact hret _ _ _ _ _ rfl (fun _ hn => by cases hn; rfl) hP hD hS dX5_same_15

abbrev wd_X5_styles (cI : ClassId) (ad : Nat → Nat) (writers : Int32) (year : Int32) (taped : Int32) (at_ : Int32) (statements : Int32) (hasImage : Int32) (isKeeping : Int32) (cursor : Int32) (forgottenWhen : Int32) (rowMany : Int32) (refused : (Nat → Int32)) (style : (Nat → Int32)) : va_W := [((ad 0), .inr (5, [.ref (ad 1), .ref (ad 2), .ref (ad 3), .ref (ad 4), .ref (ad 5), .ref (ad 6), .ref (ad 7), .int writers, .int year, .ref (ad 8), .ref (ad 9), .ref (ad 10), .ref (ad 11), .int taped, .int at_, .int statements, .ref (ad 12), .int hasImage, .int isKeeping, .int cursor, .int forgottenWhen, .ref (ad 13), .ref (ad 14), .ref (ad 15), .int rowMany])), ((ad 1), .inl (cI, 7, .inl refused)), ((ad 4), .inl (cI, 7, .inl style))]
def f_X5_styles_19 (x1 : Int32) (x2 : Int32)  (refused_19 : (Nat → Int32)) (style_19 : (Nat → Int32)) (t0_19 : Int32) : Option (Int32 × (Nat → Int32) × (Nat → Int32)) := (if t0_19 = 0 then (gd x1 7 (gd x1 7 (some ((style_19 (Int32.toNatClampNeg x1)), refused_19, (upd style_19 (Int32.toNatClampNeg x1) x2))))) else ((f_X5_no refused_19 t0_19).bind fun (r26 : Int32 × (Nat → Int32)) => (some (r26.1, r26.2, style_19))))
def f_X5_styles (writers : Int32) (refused : (Nat → Int32)) (style : (Nat → Int32)) (x1 : Int32) (x2 : Int32) : Option (Int32 × (Nat → Int32) × (Nat → Int32)) := ((f_X5_isOne writers x1).bind fun (r2 : Int32) => (if r2 = 0 then (f_X5_styles_19 x1 x2  refused style (-1 : Int32)) else ((f_X5_bound x2 (0 : Int32) (9 : Int32)).bind fun (r16 : Int32) => (f_X5_styles_19 x1 x2  refused style r16))))
set_option maxHeartbeats 4000000 in
set_option maxRecDepth 100000 in
theorem w_X5_styles_19 {p : Program} {l : Launch} {e : Env} {s : State} {m : MethodId} {args : Array Value} {below : List Frame} {meth : Method} {c : Code} {D : va_G} {cI : ClassId} {aS : aSt} {A : Nat → Prop} {Q : State → Prop}  (ad : Nat → Nat) (writers : Int32) (year : Int32) (taped : Int32) (at_ : Int32) (statements : Int32) (hasImage : Int32) (isKeeping : Int32) (cursor : Int32) (forgottenWhen : Int32) (rowMany : Int32) (x1 : Int32) (x2 : Int32) {R : Int32 × (Nat → Int32) × (Nat → Int32)} (X : Bx p s m args meth c cX5_styles 5 (some .int) RX5 D cI aS A) (hret : RtI p l e 1 s m args below meth c cX5_styles (some .int) D A (wd_X5_styles cI ad writers year taped at_ statements hasImage isKeeping cursor forgottenWhen rowMany R.2.1 R.2.2) R.1 Q) : ∀ (refused_19 : (Nat → Int32)) (style_19 : (Nat → Int32)) (t0_19 : Int32) (H : Heap) (locs : List Loc) (ls : Array Slot), f_X5_styles_19 x1 x2  refused_19 style_19 t0_19 = some R → lv_has ls 5 [(0, .ref (ad 0)), (1, .int x1), (2, .int x2)] → va_P D vwCl (wd_X5_styles cI ad writers year taped at_ statements hasImage isKeeping cursor forgottenWhen rowMany refused_19 style_19) H → va_D A (wd_X5_styles cI ad writers year taped at_ statements hasImage isKeeping cursor forgottenWhen rowMany refused_19 style_19) → va_S A s.heap H locs → Wh p l e 1 s m args below meth c H locs Q (F0 m 19 ls [.int t0_19]) := by
  have hx := X.1
  have hb := X.2.1
  intro refused_19 style_19 t0_19 H locs ls hf hl hP hD hS
  replace hf : (if t0_19 = 0 then (gd x1 7 (gd x1 7 (some ((style_19 (Int32.toNatClampNeg x1)), refused_19, (upd style_19 (Int32.toNatClampNeg x1) x2))))) else ((f_X5_no refused_19 t0_19).bind fun (r26 : Int32 × (Nat → Int32)) => (some (r26.1, r26.2, style_19)))) = some R := hf
  refine lv_istore_n (lv' := [(3, .int t0_19), (0, .ref (ad 0)), (1, .int x1), (2, .int x2)]) hx hb dX5_styles_19 rfl hl (by decide) rfl (fun ls hl => ?_)
  refine lv_iload_n hx hb dX5_styles_20 rfl (lv_at hl 0 rfl) ?_
  refine lv_if_eq (tgt := 30) hx hb dX5_styles_21 (by decide) (fun c21 => ?_) (fun c21 => ?_)
  · have hf := iT c21 hf
    refine lv_aload_n hx hb dX5_styles_30 rfl (lv_at hl 1 rfl) ?_
    refine fgX5_19 X hP (q0 := 0) rfl rfl dX5_styles_31 ?_
    refine lv_iload_n hx hb dX5_styles_34 rfl (lv_at hl 2 rfl) ?_
    refine aGet X hP (q0 := 2) rfl (gdS hf).1 dX5_styles_35 ?_
    have hf := (gdS hf).2
    refine lv_istore (lv' := [(4, .int (style_19 (Int32.toNatClampNeg x1))), (3, .int t0_19), (0, .ref (ad 0)), (1, .int x1), (2, .int x2)]) hx hb dX5_styles_36 hl (by decide) rfl (fun ls hl => ?_)
    refine lv_aload_n hx hb dX5_styles_38 rfl (lv_at hl 2 rfl) ?_
    refine fgX5_19 X hP (q0 := 0) rfl rfl dX5_styles_39 ?_
    refine lv_iload_n hx hb dX5_styles_42 rfl (lv_at hl 3 rfl) ?_
    refine lv_iload_n hx hb dX5_styles_43 rfl (lv_at hl 4 rfl) ?_
    refine aPut X hP hD hS (q0 := 2) (ws' := (wd_X5_styles cI ad writers year taped at_ statements hasImage isKeeping cursor forgottenWhen rowMany refused_19 (upd style_19 (Int32.toNatClampNeg x1) x2))) rfl (gdS hf).1 rfl dX5_styles_44 (fun H locs hP hD hS => ?_)
    have hf := (gdS hf).2
    refine lv_iload hx hb dX5_styles_45 (lv_at hl 0 rfl) ?_
    have hR := Option.some.inj hf
    subst hR
    exact hret _ _ _ _ _ rfl (fun _ hn => by cases hn; rfl) hP hD hS dX5_styles_47
  · have hf := iF c21 hf
    refine lv_aload_n hx hb dX5_styles_24 rfl (lv_at hl 1 rfl) ?_
    refine lv_iload_n hx hb dX5_styles_25 rfl (lv_at hl 0 rfl) ?_
    obtain ⟨r26, hq26, hf⟩ := bS hf
    refine wr_i X hP hD hS [0, 1] rfl (ws' := (wd_X5_styles cI ad writers year taped at_ statements hasImage isKeeping cursor forgottenWhen rowMany r26.2 style_19)) (Nat.le_of_ble_eq_true rfl) rfl rfl (run_V X hP hD hS [0, 1] rfl rfl (c_X5_no l D cI aS ad writers year taped at_ statements hasImage isKeeping cursor forgottenWhen rowMany refused_19 t0_19 _ hq26 _) lkX5_69 (by decide) (q0 := 0) rfl rfl rfl rfl (Nat.le_of_ble_eq_true rfl) hl.1 dX5_styles_26) (fun H locs hP hD hS => ?_)
    have hR := Option.some.inj hf
    subst hR
    exact hret _ _ _ _ _ rfl (fun _ hn => by cases hn; rfl) hP hD hS dX5_styles_29
set_option maxHeartbeats 4000000 in
set_option maxRecDepth 100000 in
theorem c_X5_styles (l : Launch) (D : va_G) (cI : ClassId) (aS : aSt) (ad : Nat → Nat) (writers : Int32) (year : Int32) (taped : Int32) (at_ : Int32) (statements : Int32) (hasImage : Int32) (isKeeping : Int32) (cursor : Int32) (forgottenWhen : Int32) (rowMany : Int32) (refused : (Nat → Int32)) (style : (Nat → Int32)) (x1 : Int32) (x2 : Int32) (R : Int32 × (Nat → Int32) × (Nat → Int32)) (hf : f_X5_styles writers refused style x1 x2 = some R) : CtI l yX5_styles cX5_styles 5 (some .int) 1 D cI aS [.ref (ad 0), .int x1, .int x2] (wd_X5_styles cI ad writers year taped at_ statements hasImage isKeeping cursor forgottenWhen rowMany refused style) (wd_X5_styles cI ad writers year taped at_ statements hasImage isKeeping cursor forgottenWhen rowMany R.2.1 R.2.2) R.1 := by
  refine ctI_of (by decide) ⟨_, rfl⟩ (Nat.le_of_ble_eq_true rfl) ?_
  intro p e s m below meth c A Q ls X hret hP hD hl
  have hS : va_S A s.heap s.heap [] := va_S.rf
  have hx := X.1
  have hb := X.2.1
  have hl : lv_has ls 5 [(0, .ref (ad 0)), (1, .int x1), (2, .int x2)] := hl
  replace hf : ((f_X5_isOne writers x1).bind fun (r2 : Int32) => (if r2 = 0 then (f_X5_styles_19 x1 x2  refused style (-1 : Int32)) else ((f_X5_bound x2 (0 : Int32) (9 : Int32)).bind fun (r16 : Int32) => (f_X5_styles_19 x1 x2  refused style r16)))) = some R := hf
  refine lv_aload_n hx hb dX5_styles_0 rfl (lv_at hl 0 rfl) ?_
  refine lv_iload_n hx hb dX5_styles_1 rfl (lv_at hl 1 rfl) ?_
  obtain ⟨r2, hq2, hf⟩ := bS hf
  refine ro_i X hP hD hS [0] rfl (run_V X hP hD hS [0] rfl rfl (c_X5_isOne l D cI aS ad writers year taped at_ statements hasImage isKeeping cursor forgottenWhen rowMany x1 _ hq2 _) lkX5_108 (by decide) (q0 := 0) rfl rfl rfl rfl (Nat.le_of_ble_eq_true rfl) hl.1 dX5_styles_2) (fun H locs hP hS => ?_)
  refine lv_if_ne (tgt := 12) hx hb dX5_styles_5 (by decide) (fun c5 => ?_) (fun c5 => ?_)
  · have hf := iF c5 hf
    refine lv_iload_n hx hb dX5_styles_12 rfl (lv_at hl 2 rfl) ?_
    refine lv_iconst (v := 0) hx hb dX5_styles_13 (by decide) ?_
    refine lv_bipush (v := 9) hx hb dX5_styles_14 (by decide) ?_
    obtain ⟨r16, hq16, hf⟩ := bS hf
    refine ro_i X hP hD hS [] rfl (run_S X hP hD hS [] rfl rfl (c_X5_bound l D cI aS x2 (0 : Int32) (9 : Int32) _ hq16 _) lkX5_62 (by decide) rfl rfl (Nat.le_of_ble_eq_true rfl) hl.1 dX5_styles_16) (fun H locs hP hS => ?_)
    exact w_X5_styles_19 ad writers year taped at_ statements hasImage isKeeping cursor forgottenWhen rowMany x1 x2 X hret  refused style r16 _ _ _ hf (lv_sub hl [0, 1, 2] rfl) hP hD hS
  · have hf := iT c5 hf
    refine lv_iconst (v := -1) hx hb dX5_styles_8 (by decide) ?_
    refine lv_goto (tgt := 19) hx hb dX5_styles_9 (by decide) ?_
    exact w_X5_styles_19 ad writers year taped at_ statements hasImage isKeeping cursor forgottenWhen rowMany x1 x2 X hret  refused style (-1 : Int32) _ _ _ hf (lv_sub hl [0, 1, 2] rfl) hP hD hS

abbrev wd_X5_turn (cI : ClassId) (ad : Nat → Nat) (writers : Int32) (year : Int32) (taped : Int32) (at_ : Int32) (statements : Int32) (hasImage : Int32) (isKeeping : Int32) (cursor : Int32) (forgottenWhen : Int32) (rowMany : Int32) (refused : (Nat → Int32)) (kind : (Nat → Int32)) (figure : (Nat → Int32)) : va_W := [((ad 0), .inr (5, [.ref (ad 1), .ref (ad 2), .ref (ad 3), .ref (ad 4), .ref (ad 5), .ref (ad 6), .ref (ad 7), .int writers, .int year, .ref (ad 8), .ref (ad 9), .ref (ad 10), .ref (ad 11), .int taped, .int at_, .int statements, .ref (ad 12), .int hasImage, .int isKeeping, .int cursor, .int forgottenWhen, .ref (ad 13), .ref (ad 14), .ref (ad 15), .int rowMany])), ((ad 1), .inl (cI, 7, .inl refused)), ((ad 2), .inl (cI, 7, .inl kind)), ((ad 3), .inl (cI, 7, .inl figure))]
def f_X5_turn_33 (x1 : Int32) (x2 : Int32) (x3 : Int32)  (refused_33 : (Nat → Int32)) (kind_33 : (Nat → Int32)) (figure_33 : (Nat → Int32)) (t0_33 : Int32) : Option (Int32 × (Nat → Int32) × (Nat → Int32) × (Nat → Int32)) := (if t0_33 = 0 then (gd x1 7 (gd x1 7 (gd x1 7 (gd x1 7 (some ((((10 : Int32) * (kind_33 (Int32.toNatClampNeg x1))) + (figure_33 (Int32.toNatClampNeg x1))), refused_33, (upd kind_33 (Int32.toNatClampNeg x1) x2), (upd figure_33 (Int32.toNatClampNeg x1) x3))))))) else ((f_X5_no refused_33 t0_33).bind fun (r43 : Int32 × (Nat → Int32)) => (some (r43.1, r43.2, kind_33, figure_33))))
def f_X5_turn (writers : Int32) (refused : (Nat → Int32)) (kind : (Nat → Int32)) (figure : (Nat → Int32)) (x1 : Int32) (x2 : Int32) (x3 : Int32) : Option (Int32 × (Nat → Int32) × (Nat → Int32) × (Nat → Int32)) := ((f_X5_isOne writers x1).bind fun (r2 : Int32) => (if r2 = 0 then (f_X5_turn_33 x1 x2 x3  refused kind figure (-1 : Int32)) else ((f_X5_isIn x2 (0 : Int32) (5 : Int32)).bind fun (r15 : Int32) => (if r15 = 0 then (f_X5_turn_33 x1 x2 x3  refused kind figure (-2 : Int32)) else ((f_X5_bound x3 (0 : Int32) (9 : Int32)).bind fun (r30 : Int32) => (f_X5_turn_33 x1 x2 x3  refused kind figure r30))))))
set_option maxHeartbeats 4000000 in
set_option maxRecDepth 100000 in
theorem w_X5_turn_33 {p : Program} {l : Launch} {e : Env} {s : State} {m : MethodId} {args : Array Value} {below : List Frame} {meth : Method} {c : Code} {D : va_G} {cI : ClassId} {aS : aSt} {A : Nat → Prop} {Q : State → Prop}  (ad : Nat → Nat) (writers : Int32) (year : Int32) (taped : Int32) (at_ : Int32) (statements : Int32) (hasImage : Int32) (isKeeping : Int32) (cursor : Int32) (forgottenWhen : Int32) (rowMany : Int32) (x1 : Int32) (x2 : Int32) (x3 : Int32) {R : Int32 × (Nat → Int32) × (Nat → Int32) × (Nat → Int32)} (X : Bx p s m args meth c cX5_turn 6 (some .int) RX5 D cI aS A) (hret : RtI p l e 1 s m args below meth c cX5_turn (some .int) D A (wd_X5_turn cI ad writers year taped at_ statements hasImage isKeeping cursor forgottenWhen rowMany R.2.1 R.2.2.1 R.2.2.2) R.1 Q) : ∀ (refused_33 : (Nat → Int32)) (kind_33 : (Nat → Int32)) (figure_33 : (Nat → Int32)) (t0_33 : Int32) (H : Heap) (locs : List Loc) (ls : Array Slot), f_X5_turn_33 x1 x2 x3  refused_33 kind_33 figure_33 t0_33 = some R → lv_has ls 6 [(0, .ref (ad 0)), (1, .int x1), (2, .int x2), (3, .int x3)] → va_P D vwCl (wd_X5_turn cI ad writers year taped at_ statements hasImage isKeeping cursor forgottenWhen rowMany refused_33 kind_33 figure_33) H → va_D A (wd_X5_turn cI ad writers year taped at_ statements hasImage isKeeping cursor forgottenWhen rowMany refused_33 kind_33 figure_33) → va_S A s.heap H locs → Wh p l e 1 s m args below meth c H locs Q (F0 m 33 ls [.int t0_33]) := by
  have hx := X.1
  have hb := X.2.1
  intro refused_33 kind_33 figure_33 t0_33 H locs ls hf hl hP hD hS
  replace hf : (if t0_33 = 0 then (gd x1 7 (gd x1 7 (gd x1 7 (gd x1 7 (some ((((10 : Int32) * (kind_33 (Int32.toNatClampNeg x1))) + (figure_33 (Int32.toNatClampNeg x1))), refused_33, (upd kind_33 (Int32.toNatClampNeg x1) x2), (upd figure_33 (Int32.toNatClampNeg x1) x3))))))) else ((f_X5_no refused_33 t0_33).bind fun (r43 : Int32 × (Nat → Int32)) => (some (r43.1, r43.2, kind_33, figure_33)))) = some R := hf
  refine lv_istore (lv' := [(4, .int t0_33), (0, .ref (ad 0)), (1, .int x1), (2, .int x2), (3, .int x3)]) hx hb dX5_turn_33 hl (by decide) rfl (fun ls hl => ?_)
  refine lv_iload hx hb dX5_turn_35 (lv_at hl 0 rfl) ?_
  refine lv_if_eq (tgt := 47) hx hb dX5_turn_37 (by decide) (fun c37 => ?_) (fun c37 => ?_)
  · have hf := iT c37 hf
    refine lv_bipush (v := 10) hx hb dX5_turn_47 (by decide) ?_
    refine lv_aload_n hx hb dX5_turn_49 rfl (lv_at hl 1 rfl) ?_
    refine fgX5_13 X hP (q0 := 0) rfl rfl dX5_turn_50 ?_
    refine lv_iload_n hx hb dX5_turn_53 rfl (lv_at hl 2 rfl) ?_
    refine aGet X hP (q0 := 2) rfl (gdS hf).1 dX5_turn_54 ?_
    have hf := (gdS hf).2
    refine lv_imul hx hb dX5_turn_55 ?_
    refine lv_aload_n hx hb dX5_turn_56 rfl (lv_at hl 1 rfl) ?_
    refine fgX5_16 X hP (q0 := 0) rfl rfl dX5_turn_57 ?_
    refine lv_iload_n hx hb dX5_turn_60 rfl (lv_at hl 2 rfl) ?_
    refine aGet X hP (q0 := 3) rfl (gdS hf).1 dX5_turn_61 ?_
    have hf := (gdS hf).2
    refine lv_iadd hx hb dX5_turn_62 ?_
    refine lv_istore (lv' := [(5, .int (((10 : Int32) * (kind_33 (Int32.toNatClampNeg x1))) + (figure_33 (Int32.toNatClampNeg x1)))), (4, .int t0_33), (0, .ref (ad 0)), (1, .int x1), (2, .int x2), (3, .int x3)]) hx hb dX5_turn_63 hl (by decide) rfl (fun ls hl => ?_)
    refine lv_aload_n hx hb dX5_turn_65 rfl (lv_at hl 2 rfl) ?_
    refine fgX5_13 X hP (q0 := 0) rfl rfl dX5_turn_66 ?_
    refine lv_iload_n hx hb dX5_turn_69 rfl (lv_at hl 3 rfl) ?_
    refine lv_iload_n hx hb dX5_turn_70 rfl (lv_at hl 4 rfl) ?_
    refine aPut X hP hD hS (q0 := 2) (ws' := (wd_X5_turn cI ad writers year taped at_ statements hasImage isKeeping cursor forgottenWhen rowMany refused_33 (upd kind_33 (Int32.toNatClampNeg x1) x2) figure_33)) rfl (gdS hf).1 rfl dX5_turn_71 (fun H locs hP hD hS => ?_)
    have hf := (gdS hf).2
    refine lv_aload_n hx hb dX5_turn_72 rfl (lv_at hl 2 rfl) ?_
    refine fgX5_16 X hP (q0 := 0) rfl rfl dX5_turn_73 ?_
    refine lv_iload_n hx hb dX5_turn_76 rfl (lv_at hl 3 rfl) ?_
    refine lv_iload_n hx hb dX5_turn_77 rfl (lv_at hl 5 rfl) ?_
    refine aPut X hP hD hS (q0 := 3) (ws' := (wd_X5_turn cI ad writers year taped at_ statements hasImage isKeeping cursor forgottenWhen rowMany refused_33 (upd kind_33 (Int32.toNatClampNeg x1) x2) (upd figure_33 (Int32.toNatClampNeg x1) x3))) rfl (gdS hf).1 rfl dX5_turn_78 (fun H locs hP hD hS => ?_)
    have hf := (gdS hf).2
    refine lv_iload hx hb dX5_turn_79 (lv_at hl 0 rfl) ?_
    have hR := Option.some.inj hf
    subst hR
    exact hret _ _ _ _ _ rfl (fun _ hn => by cases hn; rfl) hP hD hS dX5_turn_81
  · have hf := iF c37 hf
    refine lv_aload_n hx hb dX5_turn_40 rfl (lv_at hl 1 rfl) ?_
    refine lv_iload hx hb dX5_turn_41 (lv_at hl 0 rfl) ?_
    obtain ⟨r43, hq43, hf⟩ := bS hf
    refine wr_i X hP hD hS [0, 1] rfl (ws' := (wd_X5_turn cI ad writers year taped at_ statements hasImage isKeeping cursor forgottenWhen rowMany r43.2 kind_33 figure_33)) (Nat.le_of_ble_eq_true rfl) rfl rfl (run_V X hP hD hS [0, 1] rfl rfl (c_X5_no l D cI aS ad writers year taped at_ statements hasImage isKeeping cursor forgottenWhen rowMany refused_33 t0_33 _ hq43 _) lkX5_69 (by decide) (q0 := 0) rfl rfl rfl rfl (Nat.le_of_ble_eq_true rfl) hl.1 dX5_turn_43) (fun H locs hP hD hS => ?_)
    have hR := Option.some.inj hf
    subst hR
    exact hret _ _ _ _ _ rfl (fun _ hn => by cases hn; rfl) hP hD hS dX5_turn_46
set_option maxHeartbeats 4000000 in
set_option maxRecDepth 100000 in
theorem c_X5_turn (l : Launch) (D : va_G) (cI : ClassId) (aS : aSt) (ad : Nat → Nat) (writers : Int32) (year : Int32) (taped : Int32) (at_ : Int32) (statements : Int32) (hasImage : Int32) (isKeeping : Int32) (cursor : Int32) (forgottenWhen : Int32) (rowMany : Int32) (refused : (Nat → Int32)) (kind : (Nat → Int32)) (figure : (Nat → Int32)) (x1 : Int32) (x2 : Int32) (x3 : Int32) (R : Int32 × (Nat → Int32) × (Nat → Int32) × (Nat → Int32)) (hf : f_X5_turn writers refused kind figure x1 x2 x3 = some R) : CtI l yX5_turn cX5_turn 6 (some .int) 1 D cI aS [.ref (ad 0), .int x1, .int x2, .int x3] (wd_X5_turn cI ad writers year taped at_ statements hasImage isKeeping cursor forgottenWhen rowMany refused kind figure) (wd_X5_turn cI ad writers year taped at_ statements hasImage isKeeping cursor forgottenWhen rowMany R.2.1 R.2.2.1 R.2.2.2) R.1 := by
  refine ctI_of (by decide) ⟨_, rfl⟩ (Nat.le_of_ble_eq_true rfl) ?_
  intro p e s m below meth c A Q ls X hret hP hD hl
  have hS : va_S A s.heap s.heap [] := va_S.rf
  have hx := X.1
  have hb := X.2.1
  have hl : lv_has ls 6 [(0, .ref (ad 0)), (1, .int x1), (2, .int x2), (3, .int x3)] := hl
  replace hf : ((f_X5_isOne writers x1).bind fun (r2 : Int32) => (if r2 = 0 then (f_X5_turn_33 x1 x2 x3  refused kind figure (-1 : Int32)) else ((f_X5_isIn x2 (0 : Int32) (5 : Int32)).bind fun (r15 : Int32) => (if r15 = 0 then (f_X5_turn_33 x1 x2 x3  refused kind figure (-2 : Int32)) else ((f_X5_bound x3 (0 : Int32) (9 : Int32)).bind fun (r30 : Int32) => (f_X5_turn_33 x1 x2 x3  refused kind figure r30)))))) = some R := hf
  refine lv_aload_n hx hb dX5_turn_0 rfl (lv_at hl 0 rfl) ?_
  refine lv_iload_n hx hb dX5_turn_1 rfl (lv_at hl 1 rfl) ?_
  obtain ⟨r2, hq2, hf⟩ := bS hf
  refine ro_i X hP hD hS [0] rfl (run_V X hP hD hS [0] rfl rfl (c_X5_isOne l D cI aS ad writers year taped at_ statements hasImage isKeeping cursor forgottenWhen rowMany x1 _ hq2 _) lkX5_108 (by decide) (q0 := 0) rfl rfl rfl rfl (Nat.le_of_ble_eq_true rfl) hl.1 dX5_turn_2) (fun H locs hP hS => ?_)
  refine lv_if_ne (tgt := 12) hx hb dX5_turn_5 (by decide) (fun c5 => ?_) (fun c5 => ?_)
  · have hf := iF c5 hf
    refine lv_iload_n hx hb dX5_turn_12 rfl (lv_at hl 2 rfl) ?_
    refine lv_iconst (v := 0) hx hb dX5_turn_13 (by decide) ?_
    refine lv_iconst (v := 5) hx hb dX5_turn_14 (by decide) ?_
    obtain ⟨r15, hq15, hf⟩ := bS hf
    refine ro_i X hP hD hS [] rfl (run_S X hP hD hS [] rfl rfl (c_X5_isIn l D cI aS x2 (0 : Int32) (5 : Int32) _ hq15 _) lkX5_80 (by decide) rfl rfl (Nat.le_of_ble_eq_true rfl) hl.1 dX5_turn_15) (fun H locs hP hS => ?_)
    refine lv_if_ne (tgt := 26) hx hb dX5_turn_18 (by decide) (fun c18 => ?_) (fun c18 => ?_)
    · have hf := iF c18 hf
      refine lv_iload_n hx hb dX5_turn_26 rfl (lv_at hl 3 rfl) ?_
      refine lv_iconst (v := 0) hx hb dX5_turn_27 (by decide) ?_
      refine lv_bipush (v := 9) hx hb dX5_turn_28 (by decide) ?_
      obtain ⟨r30, hq30, hf⟩ := bS hf
      refine ro_i X hP hD hS [] rfl (run_S X hP hD hS [] rfl rfl (c_X5_bound l D cI aS x3 (0 : Int32) (9 : Int32) _ hq30 _) lkX5_62 (by decide) rfl rfl (Nat.le_of_ble_eq_true rfl) hl.1 dX5_turn_30) (fun H locs hP hS => ?_)
      exact w_X5_turn_33 ad writers year taped at_ statements hasImage isKeeping cursor forgottenWhen rowMany x1 x2 x3 X hret  refused kind figure r30 _ _ _ hf (lv_sub hl [0, 1, 2, 3] rfl) hP hD hS
    · have hf := iT c18 hf
      refine lv_bipush (v := -2) hx hb dX5_turn_21 (by decide) ?_
      refine lv_goto (tgt := 33) hx hb dX5_turn_23 (by decide) ?_
      exact w_X5_turn_33 ad writers year taped at_ statements hasImage isKeeping cursor forgottenWhen rowMany x1 x2 x3 X hret  refused kind figure (-2 : Int32) _ _ _ hf (lv_sub hl [0, 1, 2, 3] rfl) hP hD hS
  · have hf := iT c5 hf
    refine lv_iconst (v := -1) hx hb dX5_turn_8 (by decide) ?_
    refine lv_goto (tgt := 33) hx hb dX5_turn_9 (by decide) ?_
    exact w_X5_turn_33 ad writers year taped at_ statements hasImage isKeeping cursor forgottenWhen rowMany x1 x2 x3 X hret  refused kind figure (-1 : Int32) _ _ _ hf (lv_sub hl [0, 1, 2, 3] rfl) hP hD hS

abbrev wd_X5_two (cI : ClassId) (ad : Nat → Nat) (writers : Int32) (year : Int32) (taped : Int32) (at_ : Int32) (statements : Int32) (hasImage : Int32) (isKeeping : Int32) (cursor : Int32) (forgottenWhen : Int32) (rowMany : Int32) (refused : (Nat → Int32)) (kind : (Nat → Int32)) (figure : (Nat → Int32)) (style : (Nat → Int32)) (fame : (Nat → Int32)) (silent : (Nat → Int32)) (ring : (Nat → Int32)) (kept : (Nat → Int32)) (gets : (Nat → Int32)) : va_W := [((ad 0), .inr (5, [.ref (ad 1), .ref (ad 2), .ref (ad 3), .ref (ad 4), .ref (ad 5), .ref (ad 6), .ref (ad 7), .int writers, .int year, .ref (ad 8), .ref (ad 9), .ref (ad 10), .ref (ad 11), .int taped, .int at_, .int statements, .ref (ad 12), .int hasImage, .int isKeeping, .int cursor, .int forgottenWhen, .ref (ad 13), .ref (ad 14), .ref (ad 15), .int rowMany])), ((ad 1), .inl (cI, 7, .inl refused)), ((ad 2), .inl (cI, 7, .inl kind)), ((ad 3), .inl (cI, 7, .inl figure)), ((ad 4), .inl (cI, 7, .inl style)), ((ad 5), .inl (cI, 7, .inl fame)), ((ad 6), .inl (cI, 7, .inl silent)), ((ad 7), .inl (cI, 7, .inl ring)), ((ad 12), .inl (cI, 132, .inl kept)), ((ad 14), .inl (cI, 8, .inl gets))]
def f_X5_two_124  (kL55 : Int32 → Option (Int32 × Int32 × Int32 × Int32 × Int32 × (Nat → Int32) × (Nat → Int32) × (Nat → Int32) × (Nat → Int32) × (Nat → Int32) × (Nat → Int32) × (Nat → Int32) × (Nat → Int32) × (Nat → Int32))) (v4_124 : Int32) : Option (Int32 × Int32 × Int32 × Int32 × Int32 × (Nat → Int32) × (Nat → Int32) × (Nat → Int32) × (Nat → Int32) × (Nat → Int32) × (Nat → Int32) × (Nat → Int32) × (Nat → Int32) × (Nat → Int32)) := (kL55 (v4_124 + (1 : Int32)))
def f_X5_two_55 (writers_u55 : Int32) (year_u55 : Int32) (isKeeping_u55 : Int32) (cursor_u55 : Int32) (refused_u55 : (Nat → Int32)) (kind_u55 : (Nat → Int32)) (figure_u55 : (Nat → Int32)) (style_u55 : (Nat → Int32)) (fame_u55 : (Nat → Int32)) (silent_u55 : (Nat → Int32)) (ring_u55 : (Nat → Int32)) (kept_u55 : (Nat → Int32)) (gets_u55 : (Nat → Int32)) (kX55_111 : Int32 → Option (Int32 × Int32 × Int32 × Int32 × Int32 × (Nat → Int32) × (Nat → Int32) × (Nat → Int32) × (Nat → Int32) × (Nat → Int32) × (Nat → Int32) × (Nat → Int32) × (Nat → Int32) × (Nat → Int32))) : Nat → Int32 → Option (Int32 × Int32 × Int32 × Int32 × Int32 × (Nat → Int32) × (Nat → Int32) × (Nat → Int32) × (Nat → Int32) × (Nat → Int32) × (Nat → Int32) × (Nat → Int32) × (Nat → Int32) × (Nat → Int32))
  | 0 => fun _ => none
  | fuel + 1 => fun v4_55 => (if (4 : Int32) ≤ v4_55 then (some ((-9 : Int32), writers_u55, year_u55, isKeeping_u55, cursor_u55, refused_u55, kind_u55, figure_u55, style_u55, fame_u55, silent_u55, ring_u55, kept_u55, gets_u55)) else (gd ((2 : Int32) * (v4_55 ^^^ (2 : Int32))) 8 (gd ((2 : Int32) * v4_55) 8 (if (gets_u55 (Int32.toNatClampNeg ((2 : Int32) * v4_55))) < (gets_u55 (Int32.toNatClampNeg ((2 : Int32) * (v4_55 ^^^ (2 : Int32))))) then (f_X5_two_124  (f_X5_two_55 writers_u55 year_u55 isKeeping_u55 cursor_u55 refused_u55 kind_u55 figure_u55 style_u55 fame_u55 silent_u55 ring_u55 kept_u55 gets_u55 kX55_111 fuel) v4_55) else (gd (((2 : Int32) * (v4_55 ^^^ (1 : Int32))) + (1 : Int32)) 8 (gd (((2 : Int32) * v4_55) + (1 : Int32)) 8 (if (gets_u55 (Int32.toNatClampNeg (((2 : Int32) * v4_55) + (1 : Int32)))) < (gets_u55 (Int32.toNatClampNeg (((2 : Int32) * (v4_55 ^^^ (1 : Int32))) + (1 : Int32)))) then (f_X5_two_124  (f_X5_two_55 writers_u55 year_u55 isKeeping_u55 cursor_u55 refused_u55 kind_u55 figure_u55 style_u55 fame_u55 silent_u55 ring_u55 kept_u55 gets_u55 kX55_111 fuel) v4_55) else (kX55_111 v4_55))))))))
theorem e_X5_two_55 (writers_u55 : Int32) (year_u55 : Int32) (isKeeping_u55 : Int32) (cursor_u55 : Int32) (refused_u55 : (Nat → Int32)) (kind_u55 : (Nat → Int32)) (figure_u55 : (Nat → Int32)) (style_u55 : (Nat → Int32)) (fame_u55 : (Nat → Int32)) (silent_u55 : (Nat → Int32)) (ring_u55 : (Nat → Int32)) (kept_u55 : (Nat → Int32)) (gets_u55 : (Nat → Int32)) (kX55_111 : Int32 → Option (Int32 × Int32 × Int32 × Int32 × Int32 × (Nat → Int32) × (Nat → Int32) × (Nat → Int32) × (Nat → Int32) × (Nat → Int32) × (Nat → Int32) × (Nat → Int32) × (Nat → Int32) × (Nat → Int32))) (fuel : Nat) (v4_55 : Int32) : f_X5_two_55 writers_u55 year_u55 isKeeping_u55 cursor_u55 refused_u55 kind_u55 figure_u55 style_u55 fame_u55 silent_u55 ring_u55 kept_u55 gets_u55 kX55_111 (fuel + 1) v4_55 = (if (4 : Int32) ≤ v4_55 then (some ((-9 : Int32), writers_u55, year_u55, isKeeping_u55, cursor_u55, refused_u55, kind_u55, figure_u55, style_u55, fame_u55, silent_u55, ring_u55, kept_u55, gets_u55)) else (gd ((2 : Int32) * (v4_55 ^^^ (2 : Int32))) 8 (gd ((2 : Int32) * v4_55) 8 (if (gets_u55 (Int32.toNatClampNeg ((2 : Int32) * v4_55))) < (gets_u55 (Int32.toNatClampNeg ((2 : Int32) * (v4_55 ^^^ (2 : Int32))))) then (f_X5_two_124  (f_X5_two_55 writers_u55 year_u55 isKeeping_u55 cursor_u55 refused_u55 kind_u55 figure_u55 style_u55 fame_u55 silent_u55 ring_u55 kept_u55 gets_u55 kX55_111 fuel) v4_55) else (gd (((2 : Int32) * (v4_55 ^^^ (1 : Int32))) + (1 : Int32)) 8 (gd (((2 : Int32) * v4_55) + (1 : Int32)) 8 (if (gets_u55 (Int32.toNatClampNeg (((2 : Int32) * v4_55) + (1 : Int32)))) < (gets_u55 (Int32.toNatClampNeg (((2 : Int32) * (v4_55 ^^^ (1 : Int32))) + (1 : Int32)))) then (f_X5_two_124  (f_X5_two_55 writers_u55 year_u55 isKeeping_u55 cursor_u55 refused_u55 kind_u55 figure_u55 style_u55 fame_u55 silent_u55 ring_u55 kept_u55 gets_u55 kX55_111 fuel) v4_55) else (kX55_111 v4_55)))))))) := rfl
def f_X5_two_111   (v4_111 : Int32) (writers_111 : Int32) (year_111 : Int32) (isKeeping_111 : Int32) (cursor_111 : Int32) (refused_111 : (Nat → Int32)) (kind_111 : (Nat → Int32)) (figure_111 : (Nat → Int32)) (style_111 : (Nat → Int32)) (fame_111 : (Nat → Int32)) (silent_111 : (Nat → Int32)) (ring_111 : (Nat → Int32)) (kept_111 : (Nat → Int32)) (gets_111 : (Nat → Int32)) : Option (Int32 × Int32 × Int32 × Int32 × Int32 × (Nat → Int32) × (Nat → Int32) × (Nat → Int32) × (Nat → Int32) × (Nat → Int32) × (Nat → Int32) × (Nat → Int32) × (Nat → Int32) × (Nat → Int32)) := (some ((((10 : Int32) * (divI v4_111 (2 : Int32))) + (remI v4_111 (2 : Int32))), writers_111, year_111, isKeeping_111, cursor_111, refused_111, kind_111, figure_111, style_111, fame_111, silent_111, ring_111, kept_111, gets_111))
def f_X5_two_35 (x1 : Int32) (x2 : Int32)  (writers_35 : Int32) (year_35 : Int32) (isKeeping_35 : Int32) (cursor_35 : Int32) (refused_35 : (Nat → Int32)) (kind_35 : (Nat → Int32)) (figure_35 : (Nat → Int32)) (style_35 : (Nat → Int32)) (fame_35 : (Nat → Int32)) (silent_35 : (Nat → Int32)) (ring_35 : (Nat → Int32)) (kept_35 : (Nat → Int32)) (gets_35 : (Nat → Int32)) (t0_35 : Int32) : Option (Int32 × Int32 × Int32 × Int32 × Int32 × (Nat → Int32) × (Nat → Int32) × (Nat → Int32) × (Nat → Int32) × (Nat → Int32) × (Nat → Int32) × (Nat → Int32) × (Nat → Int32) × (Nat → Int32)) := (if t0_35 = 0 then ((f_X5_findGets writers_35 year_35 isKeeping_35 cursor_35 kind_35 figure_35 style_35 fame_35 silent_35 ring_35 kept_35 gets_35 x1 x2).bind fun (r49 : Int32 × Int32 × Int32 × Int32 × (Nat → Int32) × (Nat → Int32) × (Nat → Int32) × (Nat → Int32) × (Nat → Int32) × (Nat → Int32) × (Nat → Int32) × (Nat → Int32)) => (f_X5_two_55 r49.1 r49.2.1 r49.2.2.1 r49.2.2.2.1 refused_35 r49.2.2.2.2.1 r49.2.2.2.2.2.1 r49.2.2.2.2.2.2.1 r49.2.2.2.2.2.2.2.1 r49.2.2.2.2.2.2.2.2.1 r49.2.2.2.2.2.2.2.2.2.1 r49.2.2.2.2.2.2.2.2.2.2.1 r49.2.2.2.2.2.2.2.2.2.2.2 (fun (v4_111 : Int32) => (f_X5_two_111   v4_111 r49.1 r49.2.1 r49.2.2.1 r49.2.2.2.1 refused_35 r49.2.2.2.2.1 r49.2.2.2.2.2.1 r49.2.2.2.2.2.2.1 r49.2.2.2.2.2.2.2.1 r49.2.2.2.2.2.2.2.2.1 r49.2.2.2.2.2.2.2.2.2.1 r49.2.2.2.2.2.2.2.2.2.2.1 r49.2.2.2.2.2.2.2.2.2.2.2)) FU (0 : Int32))) else ((f_X5_no refused_35 t0_35).bind fun (r42 : Int32 × (Nat → Int32)) => (some (r42.1, writers_35, year_35, isKeeping_35, cursor_35, r42.2, kind_35, figure_35, style_35, fame_35, silent_35, ring_35, kept_35, gets_35))))
def f_X5_two (writers : Int32) (year : Int32) (isKeeping : Int32) (cursor : Int32) (refused : (Nat → Int32)) (kind : (Nat → Int32)) (figure : (Nat → Int32)) (style : (Nat → Int32)) (fame : (Nat → Int32)) (silent : (Nat → Int32)) (ring : (Nat → Int32)) (kept : (Nat → Int32)) (gets : (Nat → Int32)) (x1 : Int32) (x2 : Int32) : Option (Int32 × Int32 × Int32 × Int32 × Int32 × (Nat → Int32) × (Nat → Int32) × (Nat → Int32) × (Nat → Int32) × (Nat → Int32) × (Nat → Int32) × (Nat → Int32) × (Nat → Int32) × (Nat → Int32)) := ((f_X5_areTwo writers x1 x2).bind fun (r3 : Int32) => (if r3 = 0 then (f_X5_two_35 x1 x2  writers year isKeeping cursor refused kind figure style fame silent ring kept gets (-1 : Int32)) else (gd x1 7 (gd x2 7 (if ((silent (Int32.toNatClampNeg x1)) + (silent (Int32.toNatClampNeg x2))) ≤ 0 then (f_X5_two_35 x1 x2  writers year isKeeping cursor refused kind figure style fame silent ring kept gets (0 : Int32)) else (f_X5_two_35 x1 x2  writers year isKeeping cursor refused kind figure style fame silent ring kept gets (-3 : Int32)))))))
set_option maxHeartbeats 4000000 in
set_option maxRecDepth 100000 in
theorem w_X5_two_124 {p : Program} {l : Launch} {e : Env} {s : State} {m : MethodId} {args : Array Value} {below : List Frame} {meth : Method} {c : Code} {D : va_G} {cI : ClassId} {aS : aSt} {A : Nat → Prop} {Q : State → Prop}  (ad : Nat → Nat) (taped : Int32) (at_ : Int32) (statements : Int32) (hasImage : Int32) (forgottenWhen : Int32) (rowMany : Int32) (x1 : Int32) (x2 : Int32) (writers_u55 : Int32) (year_u55 : Int32) (isKeeping_u55 : Int32) (cursor_u55 : Int32) (refused_u55 : (Nat → Int32)) (kind_u55 : (Nat → Int32)) (figure_u55 : (Nat → Int32)) (style_u55 : (Nat → Int32)) (fame_u55 : (Nat → Int32)) (silent_u55 : (Nat → Int32)) (ring_u55 : (Nat → Int32)) (kept_u55 : (Nat → Int32)) (gets_u55 : (Nat → Int32)) {R : Int32 × Int32 × Int32 × Int32 × Int32 × (Nat → Int32) × (Nat → Int32) × (Nat → Int32) × (Nat → Int32) × (Nat → Int32) × (Nat → Int32) × (Nat → Int32) × (Nat → Int32) × (Nat → Int32)} (X : Bx p s m args meth c cX5_two 5 (some .int) RX5 D cI aS A) (hret : RtI p l e 5 s m args below meth c cX5_two (some .int) D A (wd_X5_two cI ad R.2.1 R.2.2.1 taped at_ statements hasImage R.2.2.2.1 R.2.2.2.2.1 forgottenWhen rowMany R.2.2.2.2.2.1 R.2.2.2.2.2.2.1 R.2.2.2.2.2.2.2.1 R.2.2.2.2.2.2.2.2.1 R.2.2.2.2.2.2.2.2.2.1 R.2.2.2.2.2.2.2.2.2.2.1 R.2.2.2.2.2.2.2.2.2.2.2.1 R.2.2.2.2.2.2.2.2.2.2.2.2.1 R.2.2.2.2.2.2.2.2.2.2.2.2.2) R.1 Q) (kL55 : Int32 → Option (Int32 × Int32 × Int32 × Int32 × Int32 × (Nat → Int32) × (Nat → Int32) × (Nat → Int32) × (Nat → Int32) × (Nat → Int32) × (Nat → Int32) × (Nat → Int32) × (Nat → Int32) × (Nat → Int32))) (hkL55 : ∀ (v4_55 : Int32) (H : Heap) (locs : List Loc) (ls : Array Slot), kL55 v4_55 = some R → lv_has ls 5 [(0, .ref (ad 0)), (4, .int v4_55)] → va_P D vwCl (wd_X5_two cI ad writers_u55 year_u55 taped at_ statements hasImage isKeeping_u55 cursor_u55 forgottenWhen rowMany refused_u55 kind_u55 figure_u55 style_u55 fame_u55 silent_u55 ring_u55 kept_u55 gets_u55) H → va_D A (wd_X5_two cI ad writers_u55 year_u55 taped at_ statements hasImage isKeeping_u55 cursor_u55 forgottenWhen rowMany refused_u55 kind_u55 figure_u55 style_u55 fame_u55 silent_u55 ring_u55 kept_u55 gets_u55) → va_S A s.heap H locs → Wh p l e 5 s m args below meth c H locs Q (F0 m 55 ls [])) : ∀ (v4_124 : Int32) (H : Heap) (locs : List Loc) (ls : Array Slot), f_X5_two_124  kL55 v4_124 = some R → lv_has ls 5 [(0, .ref (ad 0)), (4, .int v4_124)] → va_P D vwCl (wd_X5_two cI ad writers_u55 year_u55 taped at_ statements hasImage isKeeping_u55 cursor_u55 forgottenWhen rowMany refused_u55 kind_u55 figure_u55 style_u55 fame_u55 silent_u55 ring_u55 kept_u55 gets_u55) H → va_D A (wd_X5_two cI ad writers_u55 year_u55 taped at_ statements hasImage isKeeping_u55 cursor_u55 forgottenWhen rowMany refused_u55 kind_u55 figure_u55 style_u55 fame_u55 silent_u55 ring_u55 kept_u55 gets_u55) → va_S A s.heap H locs → Wh p l e 5 s m args below meth c H locs Q (F0 m 124 ls []) := by
  have hx := X.1
  have hb := X.2.1
  intro v4_124 H locs ls hf hl hP hD hS
  replace hf : (kL55 (v4_124 + (1 : Int32))) = some R := hf
  refine lv_iinc (v := (v4_124 + (1 : Int32))) (lv' := [(4, .int (v4_124 + (1 : Int32))), (0, .ref (ad 0))]) hx hb dX5_two_124 hl (k := 1) rfl rfl (by decide) rfl (fun ls hl => ?_)
  refine lv_goto (tgt := 55) hx hb dX5_two_127 (by decide) ?_
  exact hkL55 (v4_124 + (1 : Int32)) _ _ _ hf (lv_sub hl [1, 0] rfl) hP hD hS
set_option maxHeartbeats 4000000 in
set_option maxRecDepth 100000 in
theorem w_X5_two_55 {p : Program} {l : Launch} {e : Env} {s : State} {m : MethodId} {args : Array Value} {below : List Frame} {meth : Method} {c : Code} {D : va_G} {cI : ClassId} {aS : aSt} {A : Nat → Prop} {Q : State → Prop}  (ad : Nat → Nat) (taped : Int32) (at_ : Int32) (statements : Int32) (hasImage : Int32) (forgottenWhen : Int32) (rowMany : Int32) (x1 : Int32) (x2 : Int32) (writers_u55 : Int32) (year_u55 : Int32) (isKeeping_u55 : Int32) (cursor_u55 : Int32) (refused_u55 : (Nat → Int32)) (kind_u55 : (Nat → Int32)) (figure_u55 : (Nat → Int32)) (style_u55 : (Nat → Int32)) (fame_u55 : (Nat → Int32)) (silent_u55 : (Nat → Int32)) (ring_u55 : (Nat → Int32)) (kept_u55 : (Nat → Int32)) (gets_u55 : (Nat → Int32)) {R : Int32 × Int32 × Int32 × Int32 × Int32 × (Nat → Int32) × (Nat → Int32) × (Nat → Int32) × (Nat → Int32) × (Nat → Int32) × (Nat → Int32) × (Nat → Int32) × (Nat → Int32) × (Nat → Int32)} (X : Bx p s m args meth c cX5_two 5 (some .int) RX5 D cI aS A) (hret : RtI p l e 5 s m args below meth c cX5_two (some .int) D A (wd_X5_two cI ad R.2.1 R.2.2.1 taped at_ statements hasImage R.2.2.2.1 R.2.2.2.2.1 forgottenWhen rowMany R.2.2.2.2.2.1 R.2.2.2.2.2.2.1 R.2.2.2.2.2.2.2.1 R.2.2.2.2.2.2.2.2.1 R.2.2.2.2.2.2.2.2.2.1 R.2.2.2.2.2.2.2.2.2.2.1 R.2.2.2.2.2.2.2.2.2.2.2.1 R.2.2.2.2.2.2.2.2.2.2.2.2.1 R.2.2.2.2.2.2.2.2.2.2.2.2.2) R.1 Q) (kX55_111 : Int32 → Option (Int32 × Int32 × Int32 × Int32 × Int32 × (Nat → Int32) × (Nat → Int32) × (Nat → Int32) × (Nat → Int32) × (Nat → Int32) × (Nat → Int32) × (Nat → Int32) × (Nat → Int32) × (Nat → Int32))) (hkX55_111 : ∀ (v4_111 : Int32) (H : Heap) (locs : List Loc) (ls : Array Slot), kX55_111 v4_111 = some R → lv_has ls 5 [(4, .int v4_111)] → va_P D vwCl (wd_X5_two cI ad writers_u55 year_u55 taped at_ statements hasImage isKeeping_u55 cursor_u55 forgottenWhen rowMany refused_u55 kind_u55 figure_u55 style_u55 fame_u55 silent_u55 ring_u55 kept_u55 gets_u55) H → va_D A (wd_X5_two cI ad writers_u55 year_u55 taped at_ statements hasImage isKeeping_u55 cursor_u55 forgottenWhen rowMany refused_u55 kind_u55 figure_u55 style_u55 fame_u55 silent_u55 ring_u55 kept_u55 gets_u55) → va_S A s.heap H locs → Wh p l e 5 s m args below meth c H locs Q (F0 m 111 ls [])) : ∀ (fuel : Nat) (v4_55 : Int32) (H : Heap) (locs : List Loc) (ls : Array Slot), f_X5_two_55 writers_u55 year_u55 isKeeping_u55 cursor_u55 refused_u55 kind_u55 figure_u55 style_u55 fame_u55 silent_u55 ring_u55 kept_u55 gets_u55 kX55_111 fuel v4_55 = some R → lv_has ls 5 [(0, .ref (ad 0)), (4, .int v4_55)] → va_P D vwCl (wd_X5_two cI ad writers_u55 year_u55 taped at_ statements hasImage isKeeping_u55 cursor_u55 forgottenWhen rowMany refused_u55 kind_u55 figure_u55 style_u55 fame_u55 silent_u55 ring_u55 kept_u55 gets_u55) H → va_D A (wd_X5_two cI ad writers_u55 year_u55 taped at_ statements hasImage isKeeping_u55 cursor_u55 forgottenWhen rowMany refused_u55 kind_u55 figure_u55 style_u55 fame_u55 silent_u55 ring_u55 kept_u55 gets_u55) → va_S A s.heap H locs → Wh p l e 5 s m args below meth c H locs Q (F0 m 55 ls []) := by
  have hx := X.1
  have hb := X.2.1
  intro fuel
  induction fuel with
  | zero =>
    intro v4_55 H locs ls hf hl hP hD hS
    cases hf
  | succ fuel ih =>
    intro v4_55 H locs ls hf hl hP hD hS
    replace hf : (if (4 : Int32) ≤ v4_55 then (some ((-9 : Int32), writers_u55, year_u55, isKeeping_u55, cursor_u55, refused_u55, kind_u55, figure_u55, style_u55, fame_u55, silent_u55, ring_u55, kept_u55, gets_u55)) else (gd ((2 : Int32) * (v4_55 ^^^ (2 : Int32))) 8 (gd ((2 : Int32) * v4_55) 8 (if (gets_u55 (Int32.toNatClampNeg ((2 : Int32) * v4_55))) < (gets_u55 (Int32.toNatClampNeg ((2 : Int32) * (v4_55 ^^^ (2 : Int32))))) then (f_X5_two_124  (f_X5_two_55 writers_u55 year_u55 isKeeping_u55 cursor_u55 refused_u55 kind_u55 figure_u55 style_u55 fame_u55 silent_u55 ring_u55 kept_u55 gets_u55 kX55_111 fuel) v4_55) else (gd (((2 : Int32) * (v4_55 ^^^ (1 : Int32))) + (1 : Int32)) 8 (gd (((2 : Int32) * v4_55) + (1 : Int32)) 8 (if (gets_u55 (Int32.toNatClampNeg (((2 : Int32) * v4_55) + (1 : Int32)))) < (gets_u55 (Int32.toNatClampNeg (((2 : Int32) * (v4_55 ^^^ (1 : Int32))) + (1 : Int32)))) then (f_X5_two_124  (f_X5_two_55 writers_u55 year_u55 isKeeping_u55 cursor_u55 refused_u55 kind_u55 figure_u55 style_u55 fame_u55 silent_u55 ring_u55 kept_u55 gets_u55 kX55_111 fuel) v4_55) else (kX55_111 v4_55)))))))) = some R := hf
    refine lv_iload hx hb dX5_two_55 (lv_at hl 1 rfl) ?_
    refine lv_iconst (v := 4) hx hb dX5_two_57 (by decide) ?_
    refine lv_icmp_ge (tgt := 130) hx hb dX5_two_58 (by decide) (fun c58 => ?_) (fun c58 => ?_)
    · have hf := iT c58 hf
      refine lv_bipush (v := -9) hx hb dX5_two_130 (by decide) ?_
      have hR := Option.some.inj hf
      subst hR
      exact hret _ _ _ _ _ rfl (fun _ hn => by cases hn; rfl) hP hD hS dX5_two_132
    · have hf := iF c58 hf
      refine lv_aload_n hx hb dX5_two_61 rfl (lv_at hl 0 rfl) ?_
      refine fgX5_49 X hP (q0 := 0) rfl rfl dX5_two_62 ?_
      refine lv_iconst (v := 2) hx hb dX5_two_65 (by decide) ?_
      refine lv_iload hx hb dX5_two_66 (lv_at hl 1 rfl) ?_
      refine lv_iconst (v := 2) hx hb dX5_two_68 (by decide) ?_
      refine lv_ixor hx hb dX5_two_69 ?_
      refine lv_imul hx hb dX5_two_70 ?_
      refine aGet X hP (q0 := 9) rfl (gdS hf).1 dX5_two_71 ?_
      have hf := (gdS hf).2
      refine lv_aload_n hx hb dX5_two_72 rfl (lv_at hl 0 rfl) ?_
      refine fgX5_49 X hP (q0 := 0) rfl rfl dX5_two_73 ?_
      refine lv_iconst (v := 2) hx hb dX5_two_76 (by decide) ?_
      refine lv_iload hx hb dX5_two_77 (lv_at hl 1 rfl) ?_
      refine lv_imul hx hb dX5_two_79 ?_
      refine aGet X hP (q0 := 9) rfl (gdS hf).1 dX5_two_80 ?_
      have hf := (gdS hf).2
      refine lv_icmp_gt (tgt := 124) hx hb dX5_two_81 (by decide) (fun c81 => ?_) (fun c81 => ?_)
      · have hf := iT c81 hf
        exact w_X5_two_124 ad taped at_ statements hasImage forgottenWhen rowMany x1 x2 writers_u55 year_u55 isKeeping_u55 cursor_u55 refused_u55 kind_u55 figure_u55 style_u55 fame_u55 silent_u55 ring_u55 kept_u55 gets_u55 X hret _ ih v4_55 _ _ _ hf (lv_sub hl [0, 1] rfl) hP hD hS
      · have hf := iF c81 hf
        refine lv_aload_n hx hb dX5_two_84 rfl (lv_at hl 0 rfl) ?_
        refine fgX5_49 X hP (q0 := 0) rfl rfl dX5_two_85 ?_
        refine lv_iconst (v := 2) hx hb dX5_two_88 (by decide) ?_
        refine lv_iload hx hb dX5_two_89 (lv_at hl 1 rfl) ?_
        refine lv_iconst (v := 1) hx hb dX5_two_91 (by decide) ?_
        refine lv_ixor hx hb dX5_two_92 ?_
        refine lv_imul hx hb dX5_two_93 ?_
        refine lv_iconst (v := 1) hx hb dX5_two_94 (by decide) ?_
        refine lv_iadd hx hb dX5_two_95 ?_
        refine aGet X hP (q0 := 9) rfl (gdS hf).1 dX5_two_96 ?_
        have hf := (gdS hf).2
        refine lv_aload_n hx hb dX5_two_97 rfl (lv_at hl 0 rfl) ?_
        refine fgX5_49 X hP (q0 := 0) rfl rfl dX5_two_98 ?_
        refine lv_iconst (v := 2) hx hb dX5_two_101 (by decide) ?_
        refine lv_iload hx hb dX5_two_102 (lv_at hl 1 rfl) ?_
        refine lv_imul hx hb dX5_two_104 ?_
        refine lv_iconst (v := 1) hx hb dX5_two_105 (by decide) ?_
        refine lv_iadd hx hb dX5_two_106 ?_
        refine aGet X hP (q0 := 9) rfl (gdS hf).1 dX5_two_107 ?_
        have hf := (gdS hf).2
        refine lv_icmp_gt (tgt := 124) hx hb dX5_two_108 (by decide) (fun c108 => ?_) (fun c108 => ?_)
        · have hf := iT c108 hf
          exact w_X5_two_124 ad taped at_ statements hasImage forgottenWhen rowMany x1 x2 writers_u55 year_u55 isKeeping_u55 cursor_u55 refused_u55 kind_u55 figure_u55 style_u55 fame_u55 silent_u55 ring_u55 kept_u55 gets_u55 X hret _ ih v4_55 _ _ _ hf (lv_sub hl [0, 1] rfl) hP hD hS
        · have hf := iF c108 hf
          exact hkX55_111 v4_55 _ _ _ hf (lv_sub hl [1] rfl) hP hD hS
set_option maxHeartbeats 4000000 in
set_option maxRecDepth 100000 in
theorem w_X5_two_111 {p : Program} {l : Launch} {e : Env} {s : State} {m : MethodId} {args : Array Value} {below : List Frame} {meth : Method} {c : Code} {D : va_G} {cI : ClassId} {aS : aSt} {A : Nat → Prop} {Q : State → Prop}  (ad : Nat → Nat) (taped : Int32) (at_ : Int32) (statements : Int32) (hasImage : Int32) (forgottenWhen : Int32) (rowMany : Int32) (x1 : Int32) (x2 : Int32) {R : Int32 × Int32 × Int32 × Int32 × Int32 × (Nat → Int32) × (Nat → Int32) × (Nat → Int32) × (Nat → Int32) × (Nat → Int32) × (Nat → Int32) × (Nat → Int32) × (Nat → Int32) × (Nat → Int32)} (X : Bx p s m args meth c cX5_two 5 (some .int) RX5 D cI aS A) (hret : RtI p l e 5 s m args below meth c cX5_two (some .int) D A (wd_X5_two cI ad R.2.1 R.2.2.1 taped at_ statements hasImage R.2.2.2.1 R.2.2.2.2.1 forgottenWhen rowMany R.2.2.2.2.2.1 R.2.2.2.2.2.2.1 R.2.2.2.2.2.2.2.1 R.2.2.2.2.2.2.2.2.1 R.2.2.2.2.2.2.2.2.2.1 R.2.2.2.2.2.2.2.2.2.2.1 R.2.2.2.2.2.2.2.2.2.2.2.1 R.2.2.2.2.2.2.2.2.2.2.2.2.1 R.2.2.2.2.2.2.2.2.2.2.2.2.2) R.1 Q) : ∀ (v4_111 : Int32) (writers_111 : Int32) (year_111 : Int32) (isKeeping_111 : Int32) (cursor_111 : Int32) (refused_111 : (Nat → Int32)) (kind_111 : (Nat → Int32)) (figure_111 : (Nat → Int32)) (style_111 : (Nat → Int32)) (fame_111 : (Nat → Int32)) (silent_111 : (Nat → Int32)) (ring_111 : (Nat → Int32)) (kept_111 : (Nat → Int32)) (gets_111 : (Nat → Int32)) (H : Heap) (locs : List Loc) (ls : Array Slot), f_X5_two_111   v4_111 writers_111 year_111 isKeeping_111 cursor_111 refused_111 kind_111 figure_111 style_111 fame_111 silent_111 ring_111 kept_111 gets_111 = some R → lv_has ls 5 [(4, .int v4_111)] → va_P D vwCl (wd_X5_two cI ad writers_111 year_111 taped at_ statements hasImage isKeeping_111 cursor_111 forgottenWhen rowMany refused_111 kind_111 figure_111 style_111 fame_111 silent_111 ring_111 kept_111 gets_111) H → va_D A (wd_X5_two cI ad writers_111 year_111 taped at_ statements hasImage isKeeping_111 cursor_111 forgottenWhen rowMany refused_111 kind_111 figure_111 style_111 fame_111 silent_111 ring_111 kept_111 gets_111) → va_S A s.heap H locs → Wh p l e 5 s m args below meth c H locs Q (F0 m 111 ls []) := by
  have hx := X.1
  have hb := X.2.1
  intro v4_111 writers_111 year_111 isKeeping_111 cursor_111 refused_111 kind_111 figure_111 style_111 fame_111 silent_111 ring_111 kept_111 gets_111 H locs ls hf hl hP hD hS
  replace hf : (some ((((10 : Int32) * (divI v4_111 (2 : Int32))) + (remI v4_111 (2 : Int32))), writers_111, year_111, isKeeping_111, cursor_111, refused_111, kind_111, figure_111, style_111, fame_111, silent_111, ring_111, kept_111, gets_111)) = some R := hf
  refine lv_bipush (v := 10) hx hb dX5_two_111 (by decide) ?_
  refine lv_iload hx hb dX5_two_113 (lv_at hl 0 rfl) ?_
  refine lv_iconst (v := 2) hx hb dX5_two_115 (by decide) ?_
  refine x_idiv hx hb dX5_two_116 (by decide) ?_
  refine lv_imul hx hb dX5_two_117 ?_
  refine lv_iload hx hb dX5_two_118 (lv_at hl 0 rfl) ?_
  refine lv_iconst (v := 2) hx hb dX5_two_120 (by decide) ?_
  refine x_irem hx hb dX5_two_121 (by decide) ?_
  refine lv_iadd hx hb dX5_two_122 ?_
  have hR := Option.some.inj hf
  subst hR
  exact hret _ _ _ _ _ rfl (fun _ hn => by cases hn; rfl) hP hD hS dX5_two_123
set_option maxHeartbeats 4000000 in
set_option maxRecDepth 100000 in
theorem w_X5_two_35 {p : Program} {l : Launch} {e : Env} {s : State} {m : MethodId} {args : Array Value} {below : List Frame} {meth : Method} {c : Code} {D : va_G} {cI : ClassId} {aS : aSt} {A : Nat → Prop} {Q : State → Prop}  (ad : Nat → Nat) (taped : Int32) (at_ : Int32) (statements : Int32) (hasImage : Int32) (forgottenWhen : Int32) (rowMany : Int32) (x1 : Int32) (x2 : Int32) {R : Int32 × Int32 × Int32 × Int32 × Int32 × (Nat → Int32) × (Nat → Int32) × (Nat → Int32) × (Nat → Int32) × (Nat → Int32) × (Nat → Int32) × (Nat → Int32) × (Nat → Int32) × (Nat → Int32)} (X : Bx p s m args meth c cX5_two 5 (some .int) RX5 D cI aS A) (hret : RtI p l e 5 s m args below meth c cX5_two (some .int) D A (wd_X5_two cI ad R.2.1 R.2.2.1 taped at_ statements hasImage R.2.2.2.1 R.2.2.2.2.1 forgottenWhen rowMany R.2.2.2.2.2.1 R.2.2.2.2.2.2.1 R.2.2.2.2.2.2.2.1 R.2.2.2.2.2.2.2.2.1 R.2.2.2.2.2.2.2.2.2.1 R.2.2.2.2.2.2.2.2.2.2.1 R.2.2.2.2.2.2.2.2.2.2.2.1 R.2.2.2.2.2.2.2.2.2.2.2.2.1 R.2.2.2.2.2.2.2.2.2.2.2.2.2) R.1 Q) : ∀ (writers_35 : Int32) (year_35 : Int32) (isKeeping_35 : Int32) (cursor_35 : Int32) (refused_35 : (Nat → Int32)) (kind_35 : (Nat → Int32)) (figure_35 : (Nat → Int32)) (style_35 : (Nat → Int32)) (fame_35 : (Nat → Int32)) (silent_35 : (Nat → Int32)) (ring_35 : (Nat → Int32)) (kept_35 : (Nat → Int32)) (gets_35 : (Nat → Int32)) (t0_35 : Int32) (H : Heap) (locs : List Loc) (ls : Array Slot), f_X5_two_35 x1 x2  writers_35 year_35 isKeeping_35 cursor_35 refused_35 kind_35 figure_35 style_35 fame_35 silent_35 ring_35 kept_35 gets_35 t0_35 = some R → lv_has ls 5 [(0, .ref (ad 0)), (1, .int x1), (2, .int x2)] → va_P D vwCl (wd_X5_two cI ad writers_35 year_35 taped at_ statements hasImage isKeeping_35 cursor_35 forgottenWhen rowMany refused_35 kind_35 figure_35 style_35 fame_35 silent_35 ring_35 kept_35 gets_35) H → va_D A (wd_X5_two cI ad writers_35 year_35 taped at_ statements hasImage isKeeping_35 cursor_35 forgottenWhen rowMany refused_35 kind_35 figure_35 style_35 fame_35 silent_35 ring_35 kept_35 gets_35) → va_S A s.heap H locs → Wh p l e 5 s m args below meth c H locs Q (F0 m 35 ls [.int t0_35]) := by
  have hx := X.1
  have hb := X.2.1
  intro writers_35 year_35 isKeeping_35 cursor_35 refused_35 kind_35 figure_35 style_35 fame_35 silent_35 ring_35 kept_35 gets_35 t0_35 H locs ls hf hl hP hD hS
  replace hf : (if t0_35 = 0 then ((f_X5_findGets writers_35 year_35 isKeeping_35 cursor_35 kind_35 figure_35 style_35 fame_35 silent_35 ring_35 kept_35 gets_35 x1 x2).bind fun (r49 : Int32 × Int32 × Int32 × Int32 × (Nat → Int32) × (Nat → Int32) × (Nat → Int32) × (Nat → Int32) × (Nat → Int32) × (Nat → Int32) × (Nat → Int32) × (Nat → Int32)) => (f_X5_two_55 r49.1 r49.2.1 r49.2.2.1 r49.2.2.2.1 refused_35 r49.2.2.2.2.1 r49.2.2.2.2.2.1 r49.2.2.2.2.2.2.1 r49.2.2.2.2.2.2.2.1 r49.2.2.2.2.2.2.2.2.1 r49.2.2.2.2.2.2.2.2.2.1 r49.2.2.2.2.2.2.2.2.2.2.1 r49.2.2.2.2.2.2.2.2.2.2.2 (fun (v4_111 : Int32) => (f_X5_two_111   v4_111 r49.1 r49.2.1 r49.2.2.1 r49.2.2.2.1 refused_35 r49.2.2.2.2.1 r49.2.2.2.2.2.1 r49.2.2.2.2.2.2.1 r49.2.2.2.2.2.2.2.1 r49.2.2.2.2.2.2.2.2.1 r49.2.2.2.2.2.2.2.2.2.1 r49.2.2.2.2.2.2.2.2.2.2.1 r49.2.2.2.2.2.2.2.2.2.2.2)) FU (0 : Int32))) else ((f_X5_no refused_35 t0_35).bind fun (r42 : Int32 × (Nat → Int32)) => (some (r42.1, writers_35, year_35, isKeeping_35, cursor_35, r42.2, kind_35, figure_35, style_35, fame_35, silent_35, ring_35, kept_35, gets_35)))) = some R := hf
  refine lv_istore_n (lv' := [(3, .int t0_35), (0, .ref (ad 0)), (1, .int x1), (2, .int x2)]) hx hb dX5_two_35 rfl hl (by decide) rfl (fun ls hl => ?_)
  refine lv_iload_n hx hb dX5_two_36 rfl (lv_at hl 0 rfl) ?_
  refine lv_if_eq (tgt := 46) hx hb dX5_two_37 (by decide) (fun c37 => ?_) (fun c37 => ?_)
  · have hf := iT c37 hf
    refine lv_aload_n hx hb dX5_two_46 rfl (lv_at hl 1 rfl) ?_
    refine lv_iload_n hx hb dX5_two_47 rfl (lv_at hl 2 rfl) ?_
    refine lv_iload_n hx hb dX5_two_48 rfl (lv_at hl 3 rfl) ?_
    obtain ⟨r49, hq49, hf⟩ := bS hf
    refine wr_v X hP hD hS [0, 2, 3, 4, 5, 6, 7, 8, 9] rfl (ws' := (wd_X5_two cI ad r49.1 r49.2.1 taped at_ statements hasImage r49.2.2.1 r49.2.2.2.1 forgottenWhen rowMany refused_35 r49.2.2.2.2.1 r49.2.2.2.2.2.1 r49.2.2.2.2.2.2.1 r49.2.2.2.2.2.2.2.1 r49.2.2.2.2.2.2.2.2.1 r49.2.2.2.2.2.2.2.2.2.1 r49.2.2.2.2.2.2.2.2.2.2.1 r49.2.2.2.2.2.2.2.2.2.2.2)) (Nat.le_of_ble_eq_true rfl) rfl rfl (run_V X hP hD hS [0, 2, 3, 4, 5, 6, 7, 8, 9] rfl rfl (c_X5_findGets l D cI aS ad writers_35 year_35 taped at_ statements hasImage isKeeping_35 cursor_35 forgottenWhen rowMany kind_35 figure_35 style_35 fame_35 silent_35 ring_35 kept_35 gets_35 x1 x2 _ hq49 _) lkX5_242 (by decide) (q0 := 0) rfl rfl rfl rfl (Nat.le_of_ble_eq_true rfl) hl.1 dX5_two_49) (fun H locs hP hD hS => ?_)
    refine lv_iconst (v := 0) hx hb dX5_two_52 (by decide) ?_
    refine lv_istore (lv' := [(4, .int (0 : Int32)), (3, .int t0_35), (0, .ref (ad 0)), (1, .int x1), (2, .int x2)]) hx hb dX5_two_53 hl (by decide) rfl (fun ls hl => ?_)
    exact w_X5_two_55 ad taped at_ statements hasImage forgottenWhen rowMany x1 x2 r49.1 r49.2.1 r49.2.2.1 r49.2.2.2.1 refused_35 r49.2.2.2.2.1 r49.2.2.2.2.2.1 r49.2.2.2.2.2.2.1 r49.2.2.2.2.2.2.2.1 r49.2.2.2.2.2.2.2.2.1 r49.2.2.2.2.2.2.2.2.2.1 r49.2.2.2.2.2.2.2.2.2.2.1 r49.2.2.2.2.2.2.2.2.2.2.2 X hret _ (fun v4_111 _ _ _ hf hl hP hD hS => w_X5_two_111 ad taped at_ statements hasImage forgottenWhen rowMany x1 x2 X hret  v4_111 r49.1 r49.2.1 r49.2.2.1 r49.2.2.2.1 refused_35 r49.2.2.2.2.1 r49.2.2.2.2.2.1 r49.2.2.2.2.2.2.1 r49.2.2.2.2.2.2.2.1 r49.2.2.2.2.2.2.2.2.1 r49.2.2.2.2.2.2.2.2.2.1 r49.2.2.2.2.2.2.2.2.2.2.1 r49.2.2.2.2.2.2.2.2.2.2.2 _ _ _ hf (lv_sub hl [0] rfl) hP hD hS) _ (0 : Int32) _ _ _ hf (lv_sub hl [2, 0] rfl) hP hD hS
  · have hf := iF c37 hf
    refine lv_aload_n hx hb dX5_two_40 rfl (lv_at hl 1 rfl) ?_
    refine lv_iload_n hx hb dX5_two_41 rfl (lv_at hl 0 rfl) ?_
    obtain ⟨r42, hq42, hf⟩ := bS hf
    refine wr_i X hP hD hS [0, 1] rfl (ws' := (wd_X5_two cI ad writers_35 year_35 taped at_ statements hasImage isKeeping_35 cursor_35 forgottenWhen rowMany r42.2 kind_35 figure_35 style_35 fame_35 silent_35 ring_35 kept_35 gets_35)) (Nat.le_of_ble_eq_true rfl) rfl rfl (run_V X hP hD hS [0, 1] rfl rfl (c_X5_no l D cI aS ad writers_35 year_35 taped at_ statements hasImage isKeeping_35 cursor_35 forgottenWhen rowMany refused_35 t0_35 _ hq42 _) lkX5_69 (by decide) (q0 := 0) rfl rfl rfl rfl (Nat.le_of_ble_eq_true rfl) hl.1 dX5_two_42) (fun H locs hP hD hS => ?_)
    have hR := Option.some.inj hf
    subst hR
    exact hret _ _ _ _ _ rfl (fun _ hn => by cases hn; rfl) hP hD hS dX5_two_45
set_option maxHeartbeats 4000000 in
set_option maxRecDepth 100000 in
theorem c_X5_two (l : Launch) (D : va_G) (cI : ClassId) (aS : aSt) (ad : Nat → Nat) (writers : Int32) (year : Int32) (taped : Int32) (at_ : Int32) (statements : Int32) (hasImage : Int32) (isKeeping : Int32) (cursor : Int32) (forgottenWhen : Int32) (rowMany : Int32) (refused : (Nat → Int32)) (kind : (Nat → Int32)) (figure : (Nat → Int32)) (style : (Nat → Int32)) (fame : (Nat → Int32)) (silent : (Nat → Int32)) (ring : (Nat → Int32)) (kept : (Nat → Int32)) (gets : (Nat → Int32)) (x1 : Int32) (x2 : Int32) (R : Int32 × Int32 × Int32 × Int32 × Int32 × (Nat → Int32) × (Nat → Int32) × (Nat → Int32) × (Nat → Int32) × (Nat → Int32) × (Nat → Int32) × (Nat → Int32) × (Nat → Int32) × (Nat → Int32)) (hf : f_X5_two writers year isKeeping cursor refused kind figure style fame silent ring kept gets x1 x2 = some R) : CtI l yX5_two cX5_two 5 (some .int) 5 D cI aS [.ref (ad 0), .int x1, .int x2] (wd_X5_two cI ad writers year taped at_ statements hasImage isKeeping cursor forgottenWhen rowMany refused kind figure style fame silent ring kept gets) (wd_X5_two cI ad R.2.1 R.2.2.1 taped at_ statements hasImage R.2.2.2.1 R.2.2.2.2.1 forgottenWhen rowMany R.2.2.2.2.2.1 R.2.2.2.2.2.2.1 R.2.2.2.2.2.2.2.1 R.2.2.2.2.2.2.2.2.1 R.2.2.2.2.2.2.2.2.2.1 R.2.2.2.2.2.2.2.2.2.2.1 R.2.2.2.2.2.2.2.2.2.2.2.1 R.2.2.2.2.2.2.2.2.2.2.2.2.1 R.2.2.2.2.2.2.2.2.2.2.2.2.2) R.1 := by
  refine ctI_of (by decide) ⟨_, rfl⟩ (Nat.le_of_ble_eq_true rfl) ?_
  intro p e s m below meth c A Q ls X hret hP hD hl
  have hS : va_S A s.heap s.heap [] := va_S.rf
  have hx := X.1
  have hb := X.2.1
  have hl : lv_has ls 5 [(0, .ref (ad 0)), (1, .int x1), (2, .int x2)] := hl
  replace hf : ((f_X5_areTwo writers x1 x2).bind fun (r3 : Int32) => (if r3 = 0 then (f_X5_two_35 x1 x2  writers year isKeeping cursor refused kind figure style fame silent ring kept gets (-1 : Int32)) else (gd x1 7 (gd x2 7 (if ((silent (Int32.toNatClampNeg x1)) + (silent (Int32.toNatClampNeg x2))) ≤ 0 then (f_X5_two_35 x1 x2  writers year isKeeping cursor refused kind figure style fame silent ring kept gets (0 : Int32)) else (f_X5_two_35 x1 x2  writers year isKeeping cursor refused kind figure style fame silent ring kept gets (-3 : Int32))))))) = some R := hf
  refine lv_aload_n hx hb dX5_two_0 rfl (lv_at hl 0 rfl) ?_
  refine lv_iload_n hx hb dX5_two_1 rfl (lv_at hl 1 rfl) ?_
  refine lv_iload_n hx hb dX5_two_2 rfl (lv_at hl 2 rfl) ?_
  obtain ⟨r3, hq3, hf⟩ := bS hf
  refine ro_i X hP hD hS [0] rfl (run_V X hP hD hS [0] rfl rfl (c_X5_areTwo l D cI aS ad writers year taped at_ statements hasImage isKeeping cursor forgottenWhen rowMany x1 x2 _ hq3 _) lkX5_114 (by decide) (q0 := 0) rfl rfl rfl rfl (Nat.le_of_ble_eq_true rfl) hl.1 dX5_two_3) (fun H locs hP hS => ?_)
  refine lv_if_ne (tgt := 13) hx hb dX5_two_6 (by decide) (fun c6 => ?_) (fun c6 => ?_)
  · have hf := iF c6 hf
    refine lv_aload_n hx hb dX5_two_13 rfl (lv_at hl 0 rfl) ?_
    refine fgX5_25 X hP (q0 := 0) rfl rfl dX5_two_14 ?_
    refine lv_iload_n hx hb dX5_two_17 rfl (lv_at hl 1 rfl) ?_
    refine aGet X hP (q0 := 6) rfl (gdS hf).1 dX5_two_18 ?_
    have hf := (gdS hf).2
    refine lv_aload_n hx hb dX5_two_19 rfl (lv_at hl 0 rfl) ?_
    refine fgX5_25 X hP (q0 := 0) rfl rfl dX5_two_20 ?_
    refine lv_iload_n hx hb dX5_two_23 rfl (lv_at hl 2 rfl) ?_
    refine aGet X hP (q0 := 6) rfl (gdS hf).1 dX5_two_24 ?_
    have hf := (gdS hf).2
    refine lv_iadd hx hb dX5_two_25 ?_
    refine lv_if_le (tgt := 34) hx hb dX5_two_26 (by decide) (fun c26 => ?_) (fun c26 => ?_)
    · have hf := iT c26 hf
      refine lv_iconst (v := 0) hx hb dX5_two_34 (by decide) ?_
      exact w_X5_two_35 ad taped at_ statements hasImage forgottenWhen rowMany x1 x2 X hret  writers year isKeeping cursor refused kind figure style fame silent ring kept gets (0 : Int32) _ _ _ hf (lv_sub hl [0, 1, 2] rfl) hP hD hS
    · have hf := iF c26 hf
      refine lv_bipush (v := -3) hx hb dX5_two_29 (by decide) ?_
      refine lv_goto (tgt := 35) hx hb dX5_two_31 (by decide) ?_
      exact w_X5_two_35 ad taped at_ statements hasImage forgottenWhen rowMany x1 x2 X hret  writers year isKeeping cursor refused kind figure style fame silent ring kept gets (-3 : Int32) _ _ _ hf (lv_sub hl [0, 1, 2] rfl) hP hD hS
  · have hf := iT c6 hf
    refine lv_iconst (v := -1) hx hb dX5_two_9 (by decide) ?_
    refine lv_goto (tgt := 35) hx hb dX5_two_10 (by decide) ?_
    exact w_X5_two_35 ad taped at_ statements hasImage forgottenWhen rowMany x1 x2 X hret  writers year isKeeping cursor refused kind figure style fame silent ring kept gets (-1 : Int32) _ _ _ hf (lv_sub hl [0, 1, 2] rfl) hP hD hS

abbrev wd_X5_whatIs (cI : ClassId) (ad : Nat → Nat) (writers : Int32) (year : Int32) (taped : Int32) (at_ : Int32) (statements : Int32) (hasImage : Int32) (isKeeping : Int32) (cursor : Int32) (forgottenWhen : Int32) (rowMany : Int32) (refused : (Nat → Int32)) (kind : (Nat → Int32)) (figure : (Nat → Int32)) (style : (Nat → Int32)) (fame : (Nat → Int32)) (silent : (Nat → Int32)) (ring : (Nat → Int32)) (kept : (Nat → Int32)) (row : (Nat → Int32)) : va_W := [((ad 0), .inr (5, [.ref (ad 1), .ref (ad 2), .ref (ad 3), .ref (ad 4), .ref (ad 5), .ref (ad 6), .ref (ad 7), .int writers, .int year, .ref (ad 8), .ref (ad 9), .ref (ad 10), .ref (ad 11), .int taped, .int at_, .int statements, .ref (ad 12), .int hasImage, .int isKeeping, .int cursor, .int forgottenWhen, .ref (ad 13), .ref (ad 14), .ref (ad 15), .int rowMany])), ((ad 1), .inl (cI, 7, .inl refused)), ((ad 2), .inl (cI, 7, .inl kind)), ((ad 3), .inl (cI, 7, .inl figure)), ((ad 4), .inl (cI, 7, .inl style)), ((ad 5), .inl (cI, 7, .inl fame)), ((ad 6), .inl (cI, 7, .inl silent)), ((ad 7), .inl (cI, 7, .inl ring)), ((ad 12), .inl (cI, 132, .inl kept)), ((ad 15), .inl (cI, 16, .inl row))]
def f_X5_whatIs_27 (rowMany : Int32) (row : (Nat → Int32)) (x1 : Int32) (x2 : Int32)  (writers_27 : Int32) (year_27 : Int32) (isKeeping_27 : Int32) (cursor_27 : Int32) (refused_27 : (Nat → Int32)) (kind_27 : (Nat → Int32)) (figure_27 : (Nat → Int32)) (style_27 : (Nat → Int32)) (fame_27 : (Nat → Int32)) (silent_27 : (Nat → Int32)) (ring_27 : (Nat → Int32)) (kept_27 : (Nat → Int32)) (t0_27 : Int32) : Option (Int32 × Int32 × Int32 × Int32 × Int32 × (Nat → Int32) × (Nat → Int32) × (Nat → Int32) × (Nat → Int32) × (Nat → Int32) × (Nat → Int32) × (Nat → Int32) × (Nat → Int32)) := (if t0_27 = 0 then ((f_X5_enderOf writers_27 silent_27 ring_27 x1).bind fun (r40 : Int32) => (if 0 ≤ r40 then (if x2 = 0 then ((f_X5_bitsFor_kind writers_27 year_27 isKeeping_27 cursor_27 rowMany kind_27 figure_27 style_27 fame_27 silent_27 ring_27 kept_27 row r40 x1 (6 : Int32)).bind fun (r68 : Int32 × Int32 × Int32 × Int32 × Int32 × (Nat → Int32) × (Nat → Int32) × (Nat → Int32) × (Nat → Int32) × (Nat → Int32) × (Nat → Int32) × (Nat → Int32)) => (some (r68.1, r68.2.1, r68.2.2.1, r68.2.2.2.1, r68.2.2.2.2.1, refused_27, r68.2.2.2.2.2.1, r68.2.2.2.2.2.2.1, r68.2.2.2.2.2.2.2.1, r68.2.2.2.2.2.2.2.2.1, r68.2.2.2.2.2.2.2.2.2.1, r68.2.2.2.2.2.2.2.2.2.2.1, r68.2.2.2.2.2.2.2.2.2.2.2))) else ((f_X5_bitsFor_figure writers_27 year_27 isKeeping_27 cursor_27 rowMany kind_27 figure_27 style_27 fame_27 silent_27 ring_27 kept_27 row r40 x1 (10 : Int32)).bind fun (r84 : Int32 × Int32 × Int32 × Int32 × Int32 × (Nat → Int32) × (Nat → Int32) × (Nat → Int32) × (Nat → Int32) × (Nat → Int32) × (Nat → Int32) × (Nat → Int32)) => (some (r84.1, r84.2.1, r84.2.2.1, r84.2.2.2.1, r84.2.2.2.2.1, refused_27, r84.2.2.2.2.2.1, r84.2.2.2.2.2.2.1, r84.2.2.2.2.2.2.2.1, r84.2.2.2.2.2.2.2.2.1, r84.2.2.2.2.2.2.2.2.2.1, r84.2.2.2.2.2.2.2.2.2.2.1, r84.2.2.2.2.2.2.2.2.2.2.2)))) else (some ((0 : Int32), writers_27, year_27, isKeeping_27, cursor_27, refused_27, kind_27, figure_27, style_27, fame_27, silent_27, ring_27, kept_27)))) else ((f_X5_no refused_27 t0_27).bind fun (r34 : Int32 × (Nat → Int32)) => (some (r34.1, writers_27, year_27, isKeeping_27, cursor_27, r34.2, kind_27, figure_27, style_27, fame_27, silent_27, ring_27, kept_27))))
def f_X5_whatIs (writers : Int32) (year : Int32) (isKeeping : Int32) (cursor : Int32) (rowMany : Int32) (refused : (Nat → Int32)) (kind : (Nat → Int32)) (figure : (Nat → Int32)) (style : (Nat → Int32)) (fame : (Nat → Int32)) (silent : (Nat → Int32)) (ring : (Nat → Int32)) (kept : (Nat → Int32)) (row : (Nat → Int32)) (x1 : Int32) (x2 : Int32) : Option (Int32 × Int32 × Int32 × Int32 × Int32 × (Nat → Int32) × (Nat → Int32) × (Nat → Int32) × (Nat → Int32) × (Nat → Int32) × (Nat → Int32) × (Nat → Int32) × (Nat → Int32)) := ((f_X5_isOne writers x1).bind fun (r2 : Int32) => (if r2 = 0 then (f_X5_whatIs_27 rowMany row x1 x2  writers year isKeeping cursor refused kind figure style fame silent ring kept (-1 : Int32)) else ((f_X5_isIn x2 (0 : Int32) (1 : Int32)).bind fun (r15 : Int32) => (if r15 = 0 then (f_X5_whatIs_27 rowMany row x1 x2  writers year isKeeping cursor refused kind figure style fame silent ring kept (-2 : Int32)) else (f_X5_whatIs_27 rowMany row x1 x2  writers year isKeeping cursor refused kind figure style fame silent ring kept (0 : Int32))))))
set_option maxHeartbeats 4000000 in
set_option maxRecDepth 100000 in
theorem w_X5_whatIs_27 {p : Program} {l : Launch} {e : Env} {s : State} {m : MethodId} {args : Array Value} {below : List Frame} {meth : Method} {c : Code} {D : va_G} {cI : ClassId} {aS : aSt} {A : Nat → Prop} {Q : State → Prop}  (ad : Nat → Nat) (taped : Int32) (at_ : Int32) (statements : Int32) (hasImage : Int32) (forgottenWhen : Int32) (rowMany : Int32) (row : (Nat → Int32)) (x1 : Int32) (x2 : Int32) {R : Int32 × Int32 × Int32 × Int32 × Int32 × (Nat → Int32) × (Nat → Int32) × (Nat → Int32) × (Nat → Int32) × (Nat → Int32) × (Nat → Int32) × (Nat → Int32) × (Nat → Int32)} (X : Bx p s m args meth c cX5_whatIs 5 (some .int) RX5 D cI aS A) (hret : RtI p l e 7 s m args below meth c cX5_whatIs (some .int) D A (wd_X5_whatIs cI ad R.2.1 R.2.2.1 taped at_ statements hasImage R.2.2.2.1 R.2.2.2.2.1 forgottenWhen rowMany R.2.2.2.2.2.1 R.2.2.2.2.2.2.1 R.2.2.2.2.2.2.2.1 R.2.2.2.2.2.2.2.2.1 R.2.2.2.2.2.2.2.2.2.1 R.2.2.2.2.2.2.2.2.2.2.1 R.2.2.2.2.2.2.2.2.2.2.2.1 R.2.2.2.2.2.2.2.2.2.2.2.2 row) R.1 Q) : ∀ (writers_27 : Int32) (year_27 : Int32) (isKeeping_27 : Int32) (cursor_27 : Int32) (refused_27 : (Nat → Int32)) (kind_27 : (Nat → Int32)) (figure_27 : (Nat → Int32)) (style_27 : (Nat → Int32)) (fame_27 : (Nat → Int32)) (silent_27 : (Nat → Int32)) (ring_27 : (Nat → Int32)) (kept_27 : (Nat → Int32)) (t0_27 : Int32) (H : Heap) (locs : List Loc) (ls : Array Slot), f_X5_whatIs_27 rowMany row x1 x2  writers_27 year_27 isKeeping_27 cursor_27 refused_27 kind_27 figure_27 style_27 fame_27 silent_27 ring_27 kept_27 t0_27 = some R → lv_has ls 5 [(0, .ref (ad 0)), (1, .int x1), (2, .int x2)] → va_P D vwCl (wd_X5_whatIs cI ad writers_27 year_27 taped at_ statements hasImage isKeeping_27 cursor_27 forgottenWhen rowMany refused_27 kind_27 figure_27 style_27 fame_27 silent_27 ring_27 kept_27 row) H → va_D A (wd_X5_whatIs cI ad writers_27 year_27 taped at_ statements hasImage isKeeping_27 cursor_27 forgottenWhen rowMany refused_27 kind_27 figure_27 style_27 fame_27 silent_27 ring_27 kept_27 row) → va_S A s.heap H locs → Wh p l e 7 s m args below meth c H locs Q (F0 m 27 ls [.int t0_27]) := by
  have hx := X.1
  have hb := X.2.1
  intro writers_27 year_27 isKeeping_27 cursor_27 refused_27 kind_27 figure_27 style_27 fame_27 silent_27 ring_27 kept_27 t0_27 H locs ls hf hl hP hD hS
  replace hf : (if t0_27 = 0 then ((f_X5_enderOf writers_27 silent_27 ring_27 x1).bind fun (r40 : Int32) => (if 0 ≤ r40 then (if x2 = 0 then ((f_X5_bitsFor_kind writers_27 year_27 isKeeping_27 cursor_27 rowMany kind_27 figure_27 style_27 fame_27 silent_27 ring_27 kept_27 row r40 x1 (6 : Int32)).bind fun (r68 : Int32 × Int32 × Int32 × Int32 × Int32 × (Nat → Int32) × (Nat → Int32) × (Nat → Int32) × (Nat → Int32) × (Nat → Int32) × (Nat → Int32) × (Nat → Int32)) => (some (r68.1, r68.2.1, r68.2.2.1, r68.2.2.2.1, r68.2.2.2.2.1, refused_27, r68.2.2.2.2.2.1, r68.2.2.2.2.2.2.1, r68.2.2.2.2.2.2.2.1, r68.2.2.2.2.2.2.2.2.1, r68.2.2.2.2.2.2.2.2.2.1, r68.2.2.2.2.2.2.2.2.2.2.1, r68.2.2.2.2.2.2.2.2.2.2.2))) else ((f_X5_bitsFor_figure writers_27 year_27 isKeeping_27 cursor_27 rowMany kind_27 figure_27 style_27 fame_27 silent_27 ring_27 kept_27 row r40 x1 (10 : Int32)).bind fun (r84 : Int32 × Int32 × Int32 × Int32 × Int32 × (Nat → Int32) × (Nat → Int32) × (Nat → Int32) × (Nat → Int32) × (Nat → Int32) × (Nat → Int32) × (Nat → Int32)) => (some (r84.1, r84.2.1, r84.2.2.1, r84.2.2.2.1, r84.2.2.2.2.1, refused_27, r84.2.2.2.2.2.1, r84.2.2.2.2.2.2.1, r84.2.2.2.2.2.2.2.1, r84.2.2.2.2.2.2.2.2.1, r84.2.2.2.2.2.2.2.2.2.1, r84.2.2.2.2.2.2.2.2.2.2.1, r84.2.2.2.2.2.2.2.2.2.2.2)))) else (some ((0 : Int32), writers_27, year_27, isKeeping_27, cursor_27, refused_27, kind_27, figure_27, style_27, fame_27, silent_27, ring_27, kept_27)))) else ((f_X5_no refused_27 t0_27).bind fun (r34 : Int32 × (Nat → Int32)) => (some (r34.1, writers_27, year_27, isKeeping_27, cursor_27, r34.2, kind_27, figure_27, style_27, fame_27, silent_27, ring_27, kept_27)))) = some R := hf
  refine lv_istore_n (lv' := [(3, .int t0_27), (0, .ref (ad 0)), (1, .int x1), (2, .int x2)]) hx hb dX5_whatIs_27 rfl hl (by decide) rfl (fun ls hl => ?_)
  refine lv_iload_n hx hb dX5_whatIs_28 rfl (lv_at hl 0 rfl) ?_
  refine lv_if_eq (tgt := 38) hx hb dX5_whatIs_29 (by decide) (fun c29 => ?_) (fun c29 => ?_)
  · have hf := iT c29 hf
    refine lv_aload_n hx hb dX5_whatIs_38 rfl (lv_at hl 1 rfl) ?_
    refine lv_iload_n hx hb dX5_whatIs_39 rfl (lv_at hl 2 rfl) ?_
    obtain ⟨r40, hq40, hf⟩ := bS hf
    refine ro_i X hP hD hS [0, 6, 7] rfl (run_V X hP hD hS [0, 6, 7] rfl rfl (c_X5_enderOf l D cI aS ad writers_27 year_27 taped at_ statements hasImage isKeeping_27 cursor_27 forgottenWhen rowMany silent_27 ring_27 x1 _ hq40 _) lkX5_162 (by decide) (q0 := 0) rfl rfl rfl rfl (Nat.le_of_ble_eq_true rfl) hl.1 dX5_whatIs_40) (fun H locs hP hS => ?_)
    refine lv_istore (lv' := [(4, .int r40), (3, .int t0_27), (0, .ref (ad 0)), (1, .int x1), (2, .int x2)]) hx hb dX5_whatIs_43 hl (by decide) rfl (fun ls hl => ?_)
    refine lv_iload hx hb dX5_whatIs_45 (lv_at hl 0 rfl) ?_
    refine lv_if_ge (tgt := 54) hx hb dX5_whatIs_47 (by decide) (fun c47 => ?_) (fun c47 => ?_)
    · have hf := iT c47 hf
      refine lv_iload_n hx hb dX5_whatIs_54 rfl (lv_at hl 4 rfl) ?_
      refine lv_if_ne (tgt := 74) hx hb dX5_whatIs_55 (by decide) (fun c55 => ?_) (fun c55 => ?_)
      · have hf := iF c55 hf
        refine lv_aload_n hx hb dX5_whatIs_74 rfl (lv_at hl 2 rfl) ?_
        refine lv_aload_n hx hb dX5_whatIs_75 rfl (lv_at hl 2 rfl) ?_
        refine fgX5_16 X hP (q0 := 0) rfl rfl dX5_whatIs_76 ?_
        refine lv_iload hx hb dX5_whatIs_79 (lv_at hl 0 rfl) ?_
        refine lv_iload_n hx hb dX5_whatIs_81 rfl (lv_at hl 3 rfl) ?_
        refine lv_bipush (v := 10) hx hb dX5_whatIs_82 (by decide) ?_
        obtain ⟨r84, hq84, hf⟩ := bS hf
        refine wr_i X hP hD hS [0, 2, 3, 4, 5, 6, 7, 8, 9] rfl (ws' := (wd_X5_whatIs cI ad r84.2.1 r84.2.2.1 taped at_ statements hasImage r84.2.2.2.1 r84.2.2.2.2.1 forgottenWhen rowMany refused_27 r84.2.2.2.2.2.1 r84.2.2.2.2.2.2.1 r84.2.2.2.2.2.2.2.1 r84.2.2.2.2.2.2.2.2.1 r84.2.2.2.2.2.2.2.2.2.1 r84.2.2.2.2.2.2.2.2.2.2.1 r84.2.2.2.2.2.2.2.2.2.2.2 row)) (Nat.le_of_ble_eq_true rfl) rfl rfl (run_V X hP hD hS [0, 2, 3, 4, 5, 6, 7, 8, 9] rfl rfl (c_X5_bitsFor_figure l D cI aS ad writers_27 year_27 taped at_ statements hasImage isKeeping_27 cursor_27 forgottenWhen rowMany kind_27 figure_27 style_27 fame_27 silent_27 ring_27 kept_27 row r40 x1 (10 : Int32) _ hq84 _) lkX5_266 (by decide) (q0 := 0) rfl rfl rfl rfl (Nat.le_of_ble_eq_true rfl) hl.1 dX5_whatIs_84) (fun H locs hP hD hS => ?_)
        have hR := Option.some.inj hf
        subst hR
        exact hret _ _ _ _ _ rfl (fun _ hn => by cases hn; rfl) hP hD hS dX5_whatIs_87
      · have hf := iT c55 hf
        refine lv_aload_n hx hb dX5_whatIs_58 rfl (lv_at hl 2 rfl) ?_
        refine lv_aload_n hx hb dX5_whatIs_59 rfl (lv_at hl 2 rfl) ?_
        refine fgX5_13 X hP (q0 := 0) rfl rfl dX5_whatIs_60 ?_
        refine lv_iload hx hb dX5_whatIs_63 (lv_at hl 0 rfl) ?_
        refine lv_iload_n hx hb dX5_whatIs_65 rfl (lv_at hl 3 rfl) ?_
        refine lv_bipush (v := 6) hx hb dX5_whatIs_66 (by decide) ?_
        obtain ⟨r68, hq68, hf⟩ := bS hf
        refine wr_i X hP hD hS [0, 2, 3, 4, 5, 6, 7, 8, 9] rfl (ws' := (wd_X5_whatIs cI ad r68.2.1 r68.2.2.1 taped at_ statements hasImage r68.2.2.2.1 r68.2.2.2.2.1 forgottenWhen rowMany refused_27 r68.2.2.2.2.2.1 r68.2.2.2.2.2.2.1 r68.2.2.2.2.2.2.2.1 r68.2.2.2.2.2.2.2.2.1 r68.2.2.2.2.2.2.2.2.2.1 r68.2.2.2.2.2.2.2.2.2.2.1 r68.2.2.2.2.2.2.2.2.2.2.2 row)) (Nat.le_of_ble_eq_true rfl) rfl rfl (run_V X hP hD hS [0, 2, 3, 4, 5, 6, 7, 8, 9] rfl rfl (c_X5_bitsFor_kind l D cI aS ad writers_27 year_27 taped at_ statements hasImage isKeeping_27 cursor_27 forgottenWhen rowMany kind_27 figure_27 style_27 fame_27 silent_27 ring_27 kept_27 row r40 x1 (6 : Int32) _ hq68 _) lkX5_266 (by decide) (q0 := 0) rfl rfl rfl rfl (Nat.le_of_ble_eq_true rfl) hl.1 dX5_whatIs_68) (fun H locs hP hD hS => ?_)
        refine lv_goto (tgt := 87) hx hb dX5_whatIs_71 (by decide) ?_
        have hR := Option.some.inj hf
        subst hR
        exact hret _ _ _ _ _ rfl (fun _ hn => by cases hn; rfl) hP hD hS dX5_whatIs_87
    · have hf := iF c47 hf
      refine lv_iconst (v := 0) hx hb dX5_whatIs_50 (by decide) ?_
      refine lv_goto (tgt := 87) hx hb dX5_whatIs_51 (by decide) ?_
      have hR := Option.some.inj hf
      subst hR
      exact hret _ _ _ _ _ rfl (fun _ hn => by cases hn; rfl) hP hD hS dX5_whatIs_87
  · have hf := iF c29 hf
    refine lv_aload_n hx hb dX5_whatIs_32 rfl (lv_at hl 1 rfl) ?_
    refine lv_iload_n hx hb dX5_whatIs_33 rfl (lv_at hl 0 rfl) ?_
    obtain ⟨r34, hq34, hf⟩ := bS hf
    refine wr_i X hP hD hS [0, 1] rfl (ws' := (wd_X5_whatIs cI ad writers_27 year_27 taped at_ statements hasImage isKeeping_27 cursor_27 forgottenWhen rowMany r34.2 kind_27 figure_27 style_27 fame_27 silent_27 ring_27 kept_27 row)) (Nat.le_of_ble_eq_true rfl) rfl rfl (run_V X hP hD hS [0, 1] rfl rfl (c_X5_no l D cI aS ad writers_27 year_27 taped at_ statements hasImage isKeeping_27 cursor_27 forgottenWhen rowMany refused_27 t0_27 _ hq34 _) lkX5_69 (by decide) (q0 := 0) rfl rfl rfl rfl (Nat.le_of_ble_eq_true rfl) hl.1 dX5_whatIs_34) (fun H locs hP hD hS => ?_)
    have hR := Option.some.inj hf
    subst hR
    exact hret _ _ _ _ _ rfl (fun _ hn => by cases hn; rfl) hP hD hS dX5_whatIs_37
set_option maxHeartbeats 4000000 in
set_option maxRecDepth 100000 in
theorem c_X5_whatIs (l : Launch) (D : va_G) (cI : ClassId) (aS : aSt) (ad : Nat → Nat) (writers : Int32) (year : Int32) (taped : Int32) (at_ : Int32) (statements : Int32) (hasImage : Int32) (isKeeping : Int32) (cursor : Int32) (forgottenWhen : Int32) (rowMany : Int32) (refused : (Nat → Int32)) (kind : (Nat → Int32)) (figure : (Nat → Int32)) (style : (Nat → Int32)) (fame : (Nat → Int32)) (silent : (Nat → Int32)) (ring : (Nat → Int32)) (kept : (Nat → Int32)) (row : (Nat → Int32)) (x1 : Int32) (x2 : Int32) (R : Int32 × Int32 × Int32 × Int32 × Int32 × (Nat → Int32) × (Nat → Int32) × (Nat → Int32) × (Nat → Int32) × (Nat → Int32) × (Nat → Int32) × (Nat → Int32) × (Nat → Int32)) (hf : f_X5_whatIs writers year isKeeping cursor rowMany refused kind figure style fame silent ring kept row x1 x2 = some R) : CtI l yX5_whatIs cX5_whatIs 5 (some .int) 7 D cI aS [.ref (ad 0), .int x1, .int x2] (wd_X5_whatIs cI ad writers year taped at_ statements hasImage isKeeping cursor forgottenWhen rowMany refused kind figure style fame silent ring kept row) (wd_X5_whatIs cI ad R.2.1 R.2.2.1 taped at_ statements hasImage R.2.2.2.1 R.2.2.2.2.1 forgottenWhen rowMany R.2.2.2.2.2.1 R.2.2.2.2.2.2.1 R.2.2.2.2.2.2.2.1 R.2.2.2.2.2.2.2.2.1 R.2.2.2.2.2.2.2.2.2.1 R.2.2.2.2.2.2.2.2.2.2.1 R.2.2.2.2.2.2.2.2.2.2.2.1 R.2.2.2.2.2.2.2.2.2.2.2.2 row) R.1 := by
  refine ctI_of (by decide) ⟨_, rfl⟩ (Nat.le_of_ble_eq_true rfl) ?_
  intro p e s m below meth c A Q ls X hret hP hD hl
  have hS : va_S A s.heap s.heap [] := va_S.rf
  have hx := X.1
  have hb := X.2.1
  have hl : lv_has ls 5 [(0, .ref (ad 0)), (1, .int x1), (2, .int x2)] := hl
  replace hf : ((f_X5_isOne writers x1).bind fun (r2 : Int32) => (if r2 = 0 then (f_X5_whatIs_27 rowMany row x1 x2  writers year isKeeping cursor refused kind figure style fame silent ring kept (-1 : Int32)) else ((f_X5_isIn x2 (0 : Int32) (1 : Int32)).bind fun (r15 : Int32) => (if r15 = 0 then (f_X5_whatIs_27 rowMany row x1 x2  writers year isKeeping cursor refused kind figure style fame silent ring kept (-2 : Int32)) else (f_X5_whatIs_27 rowMany row x1 x2  writers year isKeeping cursor refused kind figure style fame silent ring kept (0 : Int32)))))) = some R := hf
  refine lv_aload_n hx hb dX5_whatIs_0 rfl (lv_at hl 0 rfl) ?_
  refine lv_iload_n hx hb dX5_whatIs_1 rfl (lv_at hl 1 rfl) ?_
  obtain ⟨r2, hq2, hf⟩ := bS hf
  refine ro_i X hP hD hS [0] rfl (run_V X hP hD hS [0] rfl rfl (c_X5_isOne l D cI aS ad writers year taped at_ statements hasImage isKeeping cursor forgottenWhen rowMany x1 _ hq2 _) lkX5_108 (by decide) (q0 := 0) rfl rfl rfl rfl (Nat.le_of_ble_eq_true rfl) hl.1 dX5_whatIs_2) (fun H locs hP hS => ?_)
  refine lv_if_ne (tgt := 12) hx hb dX5_whatIs_5 (by decide) (fun c5 => ?_) (fun c5 => ?_)
  · have hf := iF c5 hf
    refine lv_iload_n hx hb dX5_whatIs_12 rfl (lv_at hl 2 rfl) ?_
    refine lv_iconst (v := 0) hx hb dX5_whatIs_13 (by decide) ?_
    refine lv_iconst (v := 1) hx hb dX5_whatIs_14 (by decide) ?_
    obtain ⟨r15, hq15, hf⟩ := bS hf
    refine ro_i X hP hD hS [] rfl (run_S X hP hD hS [] rfl rfl (c_X5_isIn l D cI aS x2 (0 : Int32) (1 : Int32) _ hq15 _) lkX5_80 (by decide) rfl rfl (Nat.le_of_ble_eq_true rfl) hl.1 dX5_whatIs_15) (fun H locs hP hS => ?_)
    refine lv_if_ne (tgt := 26) hx hb dX5_whatIs_18 (by decide) (fun c18 => ?_) (fun c18 => ?_)
    · have hf := iF c18 hf
      refine lv_iconst (v := 0) hx hb dX5_whatIs_26 (by decide) ?_
      exact w_X5_whatIs_27 ad taped at_ statements hasImage forgottenWhen rowMany row x1 x2 X hret  writers year isKeeping cursor refused kind figure style fame silent ring kept (0 : Int32) _ _ _ hf (lv_sub hl [0, 1, 2] rfl) hP hD hS
    · have hf := iT c18 hf
      refine lv_bipush (v := -2) hx hb dX5_whatIs_21 (by decide) ?_
      refine lv_goto (tgt := 27) hx hb dX5_whatIs_23 (by decide) ?_
      exact w_X5_whatIs_27 ad taped at_ statements hasImage forgottenWhen rowMany row x1 x2 X hret  writers year isKeeping cursor refused kind figure style fame silent ring kept (-2 : Int32) _ _ _ hf (lv_sub hl [0, 1, 2] rfl) hP hD hS
  · have hf := iT c5 hf
    refine lv_iconst (v := -1) hx hb dX5_whatIs_8 (by decide) ?_
    refine lv_goto (tgt := 27) hx hb dX5_whatIs_9 (by decide) ?_
    exact w_X5_whatIs_27 ad taped at_ statements hasImage forgottenWhen rowMany row x1 x2 X hret  writers year isKeeping cursor refused kind figure style fame silent ring kept (-1 : Int32) _ _ _ hf (lv_sub hl [0, 1, 2] rfl) hP hD hS

abbrev wd_X5_whoEnded (cI : ClassId) (ad : Nat → Nat) (writers : Int32) (year : Int32) (taped : Int32) (at_ : Int32) (statements : Int32) (hasImage : Int32) (isKeeping : Int32) (cursor : Int32) (forgottenWhen : Int32) (rowMany : Int32) (refused : (Nat → Int32)) (kind : (Nat → Int32)) (figure : (Nat → Int32)) (style : (Nat → Int32)) (row : (Nat → Int32)) : va_W := [((ad 0), .inr (5, [.ref (ad 1), .ref (ad 2), .ref (ad 3), .ref (ad 4), .ref (ad 5), .ref (ad 6), .ref (ad 7), .int writers, .int year, .ref (ad 8), .ref (ad 9), .ref (ad 10), .ref (ad 11), .int taped, .int at_, .int statements, .ref (ad 12), .int hasImage, .int isKeeping, .int cursor, .int forgottenWhen, .ref (ad 13), .ref (ad 14), .ref (ad 15), .int rowMany])), ((ad 1), .inl (cI, 7, .inl refused)), ((ad 2), .inl (cI, 7, .inl kind)), ((ad 3), .inl (cI, 7, .inl figure)), ((ad 4), .inl (cI, 7, .inl style)), ((ad 15), .inl (cI, 16, .inl row))]
def f_X5_whoEnded_48  (kL18 : Int32 → Int32 → Option (Int32 × (Nat → Int32))) (v3_48 : Int32) (t0_48 : Int32) (t1_48 : Int32) : Option (Int32 × (Nat → Int32)) := (kL18 (t0_48 ||| t1_48) (v3_48 + (1 : Int32)))
def f_X5_whoEnded_47  (kL18 : Int32 → Int32 → Option (Int32 × (Nat → Int32))) (v3_47 : Int32) (t0_47 : Int32) : Option (Int32 × (Nat → Int32)) := (f_X5_whoEnded_48  kL18 v3_47 t0_47 (0 : Int32))
def f_X5_whoEnded_18 (writers : Int32) (year : Int32) (rowMany : Int32) (kind : (Nat → Int32)) (figure : (Nat → Int32)) (style : (Nat → Int32)) (row : (Nat → Int32)) (x1 : Int32) (refused_u18 : (Nat → Int32))  : Nat → Int32 → Int32 → Option (Int32 × (Nat → Int32))
  | 0 => fun _ _ => none
  | fuel + 1 => fun v2_18 v3_18 => (if writers ≤ v3_18 then (some (v2_18, refused_u18)) else (if v3_18 = x1 then (f_X5_whoEnded_47  (f_X5_whoEnded_18 writers year rowMany kind figure style row x1 refused_u18  fuel) v3_18 v2_18) else ((f_X5_endedSo year rowMany kind figure style row x1 v3_18).bind fun (r35 : Int32) => (if r35 = 0 then (f_X5_whoEnded_47  (f_X5_whoEnded_18 writers year rowMany kind figure style row x1 refused_u18  fuel) v3_18 v2_18) else (f_X5_whoEnded_48  (f_X5_whoEnded_18 writers year rowMany kind figure style row x1 refused_u18  fuel) v3_18 v2_18 (shlI (1 : Int32) v3_18))))))
theorem e_X5_whoEnded_18 (writers : Int32) (year : Int32) (rowMany : Int32) (kind : (Nat → Int32)) (figure : (Nat → Int32)) (style : (Nat → Int32)) (row : (Nat → Int32)) (x1 : Int32) (refused_u18 : (Nat → Int32))  (fuel : Nat) (v2_18 : Int32) (v3_18 : Int32) : f_X5_whoEnded_18 writers year rowMany kind figure style row x1 refused_u18  (fuel + 1) v2_18 v3_18 = (if writers ≤ v3_18 then (some (v2_18, refused_u18)) else (if v3_18 = x1 then (f_X5_whoEnded_47  (f_X5_whoEnded_18 writers year rowMany kind figure style row x1 refused_u18  fuel) v3_18 v2_18) else ((f_X5_endedSo year rowMany kind figure style row x1 v3_18).bind fun (r35 : Int32) => (if r35 = 0 then (f_X5_whoEnded_47  (f_X5_whoEnded_18 writers year rowMany kind figure style row x1 refused_u18  fuel) v3_18 v2_18) else (f_X5_whoEnded_48  (f_X5_whoEnded_18 writers year rowMany kind figure style row x1 refused_u18  fuel) v3_18 v2_18 (shlI (1 : Int32) v3_18)))))) := rfl
def f_X5_whoEnded (writers : Int32) (year : Int32) (rowMany : Int32) (refused : (Nat → Int32)) (kind : (Nat → Int32)) (figure : (Nat → Int32)) (style : (Nat → Int32)) (row : (Nat → Int32)) (x1 : Int32) : Option (Int32 × (Nat → Int32)) := ((f_X5_isOne writers x1).bind fun (r2 : Int32) => (if r2 = 0 then ((f_X5_no refused (-1 : Int32)).bind fun (r10 : Int32 × (Nat → Int32)) => (some (r10.1, r10.2))) else (f_X5_whoEnded_18 writers year rowMany kind figure style row x1 refused  FU (0 : Int32) (0 : Int32))))
set_option maxHeartbeats 4000000 in
set_option maxRecDepth 100000 in
theorem w_X5_whoEnded_48 {p : Program} {l : Launch} {e : Env} {s : State} {m : MethodId} {args : Array Value} {below : List Frame} {meth : Method} {c : Code} {D : va_G} {cI : ClassId} {aS : aSt} {A : Nat → Prop} {Q : State → Prop}  (ad : Nat → Nat) (writers : Int32) (year : Int32) (taped : Int32) (at_ : Int32) (statements : Int32) (hasImage : Int32) (isKeeping : Int32) (cursor : Int32) (forgottenWhen : Int32) (rowMany : Int32) (kind : (Nat → Int32)) (figure : (Nat → Int32)) (style : (Nat → Int32)) (row : (Nat → Int32)) (x1 : Int32) (refused_u18 : (Nat → Int32)) {R : Int32 × (Nat → Int32)} (X : Bx p s m args meth c cX5_whoEnded 4 (some .int) RX5 D cI aS A) (hret : RtI p l e 2 s m args below meth c cX5_whoEnded (some .int) D A (wd_X5_whoEnded cI ad writers year taped at_ statements hasImage isKeeping cursor forgottenWhen rowMany R.2 kind figure style row) R.1 Q) (kL18 : Int32 → Int32 → Option (Int32 × (Nat → Int32))) (hkL18 : ∀ (v2_18 : Int32) (v3_18 : Int32) (H : Heap) (locs : List Loc) (ls : Array Slot), kL18 v2_18 v3_18 = some R → lv_has ls 4 [(0, .ref (ad 0)), (1, .int x1), (2, .int v2_18), (3, .int v3_18)] → va_P D vwCl (wd_X5_whoEnded cI ad writers year taped at_ statements hasImage isKeeping cursor forgottenWhen rowMany refused_u18 kind figure style row) H → va_D A (wd_X5_whoEnded cI ad writers year taped at_ statements hasImage isKeeping cursor forgottenWhen rowMany refused_u18 kind figure style row) → va_S A s.heap H locs → Wh p l e 2 s m args below meth c H locs Q (F0 m 18 ls [])) : ∀ (v3_48 : Int32) (t0_48 : Int32) (t1_48 : Int32) (H : Heap) (locs : List Loc) (ls : Array Slot), f_X5_whoEnded_48  kL18 v3_48 t0_48 t1_48 = some R → lv_has ls 4 [(0, .ref (ad 0)), (1, .int x1), (3, .int v3_48)] → va_P D vwCl (wd_X5_whoEnded cI ad writers year taped at_ statements hasImage isKeeping cursor forgottenWhen rowMany refused_u18 kind figure style row) H → va_D A (wd_X5_whoEnded cI ad writers year taped at_ statements hasImage isKeeping cursor forgottenWhen rowMany refused_u18 kind figure style row) → va_S A s.heap H locs → Wh p l e 2 s m args below meth c H locs Q (F0 m 48 ls [.int t1_48, .int t0_48]) := by
  have hx := X.1
  have hb := X.2.1
  intro v3_48 t0_48 t1_48 H locs ls hf hl hP hD hS
  replace hf : (kL18 (t0_48 ||| t1_48) (v3_48 + (1 : Int32))) = some R := hf
  refine lv_ior hx hb dX5_whoEnded_48 ?_
  refine lv_istore_n (lv' := [(2, .int (t0_48 ||| t1_48)), (0, .ref (ad 0)), (1, .int x1), (3, .int v3_48)]) hx hb dX5_whoEnded_49 rfl hl (by decide) rfl (fun ls hl => ?_)
  refine lv_iinc (v := (v3_48 + (1 : Int32))) (lv' := [(3, .int (v3_48 + (1 : Int32))), (2, .int (t0_48 ||| t1_48)), (0, .ref (ad 0)), (1, .int x1)]) hx hb dX5_whoEnded_50 hl (k := 3) rfl rfl (by decide) rfl (fun ls hl => ?_)
  refine lv_goto (tgt := 18) hx hb dX5_whoEnded_53 (by decide) ?_
  exact hkL18 (t0_48 ||| t1_48) (v3_48 + (1 : Int32)) _ _ _ hf (lv_sub hl [2, 3, 1, 0] rfl) hP hD hS
set_option maxHeartbeats 4000000 in
set_option maxRecDepth 100000 in
theorem w_X5_whoEnded_47 {p : Program} {l : Launch} {e : Env} {s : State} {m : MethodId} {args : Array Value} {below : List Frame} {meth : Method} {c : Code} {D : va_G} {cI : ClassId} {aS : aSt} {A : Nat → Prop} {Q : State → Prop}  (ad : Nat → Nat) (writers : Int32) (year : Int32) (taped : Int32) (at_ : Int32) (statements : Int32) (hasImage : Int32) (isKeeping : Int32) (cursor : Int32) (forgottenWhen : Int32) (rowMany : Int32) (kind : (Nat → Int32)) (figure : (Nat → Int32)) (style : (Nat → Int32)) (row : (Nat → Int32)) (x1 : Int32) (refused_u18 : (Nat → Int32)) {R : Int32 × (Nat → Int32)} (X : Bx p s m args meth c cX5_whoEnded 4 (some .int) RX5 D cI aS A) (hret : RtI p l e 2 s m args below meth c cX5_whoEnded (some .int) D A (wd_X5_whoEnded cI ad writers year taped at_ statements hasImage isKeeping cursor forgottenWhen rowMany R.2 kind figure style row) R.1 Q) (kL18 : Int32 → Int32 → Option (Int32 × (Nat → Int32))) (hkL18 : ∀ (v2_18 : Int32) (v3_18 : Int32) (H : Heap) (locs : List Loc) (ls : Array Slot), kL18 v2_18 v3_18 = some R → lv_has ls 4 [(0, .ref (ad 0)), (1, .int x1), (2, .int v2_18), (3, .int v3_18)] → va_P D vwCl (wd_X5_whoEnded cI ad writers year taped at_ statements hasImage isKeeping cursor forgottenWhen rowMany refused_u18 kind figure style row) H → va_D A (wd_X5_whoEnded cI ad writers year taped at_ statements hasImage isKeeping cursor forgottenWhen rowMany refused_u18 kind figure style row) → va_S A s.heap H locs → Wh p l e 2 s m args below meth c H locs Q (F0 m 18 ls [])) : ∀ (v3_47 : Int32) (t0_47 : Int32) (H : Heap) (locs : List Loc) (ls : Array Slot), f_X5_whoEnded_47  kL18 v3_47 t0_47 = some R → lv_has ls 4 [(0, .ref (ad 0)), (1, .int x1), (3, .int v3_47)] → va_P D vwCl (wd_X5_whoEnded cI ad writers year taped at_ statements hasImage isKeeping cursor forgottenWhen rowMany refused_u18 kind figure style row) H → va_D A (wd_X5_whoEnded cI ad writers year taped at_ statements hasImage isKeeping cursor forgottenWhen rowMany refused_u18 kind figure style row) → va_S A s.heap H locs → Wh p l e 2 s m args below meth c H locs Q (F0 m 47 ls [.int t0_47]) := by
  have hx := X.1
  have hb := X.2.1
  intro v3_47 t0_47 H locs ls hf hl hP hD hS
  replace hf : (f_X5_whoEnded_48  kL18 v3_47 t0_47 (0 : Int32)) = some R := hf
  refine lv_iconst (v := 0) hx hb dX5_whoEnded_47 (by decide) ?_
  exact w_X5_whoEnded_48 ad writers year taped at_ statements hasImage isKeeping cursor forgottenWhen rowMany kind figure style row x1 refused_u18 X hret _ hkL18 v3_47 t0_47 (0 : Int32) _ _ _ hf (lv_sub hl [0, 1, 2] rfl) hP hD hS
set_option maxHeartbeats 4000000 in
set_option maxRecDepth 100000 in
theorem w_X5_whoEnded_18 {p : Program} {l : Launch} {e : Env} {s : State} {m : MethodId} {args : Array Value} {below : List Frame} {meth : Method} {c : Code} {D : va_G} {cI : ClassId} {aS : aSt} {A : Nat → Prop} {Q : State → Prop}  (ad : Nat → Nat) (writers : Int32) (year : Int32) (taped : Int32) (at_ : Int32) (statements : Int32) (hasImage : Int32) (isKeeping : Int32) (cursor : Int32) (forgottenWhen : Int32) (rowMany : Int32) (kind : (Nat → Int32)) (figure : (Nat → Int32)) (style : (Nat → Int32)) (row : (Nat → Int32)) (x1 : Int32) (refused_u18 : (Nat → Int32)) {R : Int32 × (Nat → Int32)} (X : Bx p s m args meth c cX5_whoEnded 4 (some .int) RX5 D cI aS A) (hret : RtI p l e 2 s m args below meth c cX5_whoEnded (some .int) D A (wd_X5_whoEnded cI ad writers year taped at_ statements hasImage isKeeping cursor forgottenWhen rowMany R.2 kind figure style row) R.1 Q) : ∀ (fuel : Nat) (v2_18 : Int32) (v3_18 : Int32) (H : Heap) (locs : List Loc) (ls : Array Slot), f_X5_whoEnded_18 writers year rowMany kind figure style row x1 refused_u18  fuel v2_18 v3_18 = some R → lv_has ls 4 [(0, .ref (ad 0)), (1, .int x1), (2, .int v2_18), (3, .int v3_18)] → va_P D vwCl (wd_X5_whoEnded cI ad writers year taped at_ statements hasImage isKeeping cursor forgottenWhen rowMany refused_u18 kind figure style row) H → va_D A (wd_X5_whoEnded cI ad writers year taped at_ statements hasImage isKeeping cursor forgottenWhen rowMany refused_u18 kind figure style row) → va_S A s.heap H locs → Wh p l e 2 s m args below meth c H locs Q (F0 m 18 ls []) := by
  have hx := X.1
  have hb := X.2.1
  intro fuel
  induction fuel with
  | zero =>
    intro v2_18 v3_18 H locs ls hf hl hP hD hS
    cases hf
  | succ fuel ih =>
    intro v2_18 v3_18 H locs ls hf hl hP hD hS
    replace hf : (if writers ≤ v3_18 then (some (v2_18, refused_u18)) else (if v3_18 = x1 then (f_X5_whoEnded_47  (f_X5_whoEnded_18 writers year rowMany kind figure style row x1 refused_u18  fuel) v3_18 v2_18) else ((f_X5_endedSo year rowMany kind figure style row x1 v3_18).bind fun (r35 : Int32) => (if r35 = 0 then (f_X5_whoEnded_47  (f_X5_whoEnded_18 writers year rowMany kind figure style row x1 refused_u18  fuel) v3_18 v2_18) else (f_X5_whoEnded_48  (f_X5_whoEnded_18 writers year rowMany kind figure style row x1 refused_u18  fuel) v3_18 v2_18 (shlI (1 : Int32) v3_18)))))) = some R := hf
    refine lv_iload_n hx hb dX5_whoEnded_18 rfl (lv_at hl 3 rfl) ?_
    refine lv_aload_n hx hb dX5_whoEnded_19 rfl (lv_at hl 0 rfl) ?_
    refine fgX5_55 X hP (q0 := 0) rfl rfl dX5_whoEnded_20 ?_
    refine lv_icmp_ge (tgt := 56) hx hb dX5_whoEnded_23 (by decide) (fun c23 => ?_) (fun c23 => ?_)
    · have hf := iT c23 hf
      refine lv_iload_n hx hb dX5_whoEnded_56 rfl (lv_at hl 2 rfl) ?_
      have hR := Option.some.inj hf
      subst hR
      exact hret _ _ _ _ _ rfl (fun _ hn => by cases hn; rfl) hP hD hS dX5_whoEnded_57
    · have hf := iF c23 hf
      refine lv_iload_n hx hb dX5_whoEnded_26 rfl (lv_at hl 2 rfl) ?_
      refine lv_iload_n hx hb dX5_whoEnded_27 rfl (lv_at hl 3 rfl) ?_
      refine lv_iload_n hx hb dX5_whoEnded_28 rfl (lv_at hl 1 rfl) ?_
      refine lv_icmp_eq (tgt := 47) hx hb dX5_whoEnded_29 (by decide) (fun c29 => ?_) (fun c29 => ?_)
      · have hf := iT c29 hf
        exact w_X5_whoEnded_47 ad writers year taped at_ statements hasImage isKeeping cursor forgottenWhen rowMany kind figure style row x1 refused_u18 X hret _ ih v3_18 v2_18 _ _ _ hf (lv_sub hl [0, 1, 3] rfl) hP hD hS
      · have hf := iF c29 hf
        refine lv_aload_n hx hb dX5_whoEnded_32 rfl (lv_at hl 0 rfl) ?_
        refine lv_iload_n hx hb dX5_whoEnded_33 rfl (lv_at hl 1 rfl) ?_
        refine lv_iload_n hx hb dX5_whoEnded_34 rfl (lv_at hl 3 rfl) ?_
        obtain ⟨r35, hq35, hf⟩ := bS hf
        refine ro_i X hP hD hS [0, 2, 3, 4, 5] rfl (run_V X hP hD hS [0, 2, 3, 4, 5] rfl rfl (c_X5_endedSo l D cI aS ad writers year taped at_ statements hasImage isKeeping cursor forgottenWhen rowMany kind figure style row x1 v3_18 _ hq35 _) lkX5_260 (by decide) (q0 := 0) rfl rfl rfl rfl (Nat.le_of_ble_eq_true rfl) hl.1 dX5_whoEnded_35) (fun H locs hP hS => ?_)
        refine lv_if_eq (tgt := 47) hx hb dX5_whoEnded_38 (by decide) (fun c38 => ?_) (fun c38 => ?_)
        · have hf := iT c38 hf
          exact w_X5_whoEnded_47 ad writers year taped at_ statements hasImage isKeeping cursor forgottenWhen rowMany kind figure style row x1 refused_u18 X hret _ ih v3_18 v2_18 _ _ _ hf (lv_sub hl [0, 1, 3] rfl) hP hD hS
        · have hf := iF c38 hf
          refine lv_iconst (v := 1) hx hb dX5_whoEnded_41 (by decide) ?_
          refine lv_iload_n hx hb dX5_whoEnded_42 rfl (lv_at hl 3 rfl) ?_
          refine x_ishl hx hb dX5_whoEnded_43 ?_
          refine lv_goto (tgt := 48) hx hb dX5_whoEnded_44 (by decide) ?_
          exact w_X5_whoEnded_48 ad writers year taped at_ statements hasImage isKeeping cursor forgottenWhen rowMany kind figure style row x1 refused_u18 X hret _ ih v3_18 v2_18 (shlI (1 : Int32) v3_18) _ _ _ hf (lv_sub hl [0, 1, 3] rfl) hP hD hS
set_option maxHeartbeats 4000000 in
set_option maxRecDepth 100000 in
theorem c_X5_whoEnded (l : Launch) (D : va_G) (cI : ClassId) (aS : aSt) (ad : Nat → Nat) (writers : Int32) (year : Int32) (taped : Int32) (at_ : Int32) (statements : Int32) (hasImage : Int32) (isKeeping : Int32) (cursor : Int32) (forgottenWhen : Int32) (rowMany : Int32) (refused : (Nat → Int32)) (kind : (Nat → Int32)) (figure : (Nat → Int32)) (style : (Nat → Int32)) (row : (Nat → Int32)) (x1 : Int32) (R : Int32 × (Nat → Int32)) (hf : f_X5_whoEnded writers year rowMany refused kind figure style row x1 = some R) : CtI l yX5_whoEnded cX5_whoEnded 4 (some .int) 2 D cI aS [.ref (ad 0), .int x1] (wd_X5_whoEnded cI ad writers year taped at_ statements hasImage isKeeping cursor forgottenWhen rowMany refused kind figure style row) (wd_X5_whoEnded cI ad writers year taped at_ statements hasImage isKeeping cursor forgottenWhen rowMany R.2 kind figure style row) R.1 := by
  refine ctI_of (by decide) ⟨_, rfl⟩ (Nat.le_of_ble_eq_true rfl) ?_
  intro p e s m below meth c A Q ls X hret hP hD hl
  have hS : va_S A s.heap s.heap [] := va_S.rf
  have hx := X.1
  have hb := X.2.1
  have hl : lv_has ls 4 [(0, .ref (ad 0)), (1, .int x1)] := hl
  replace hf : ((f_X5_isOne writers x1).bind fun (r2 : Int32) => (if r2 = 0 then ((f_X5_no refused (-1 : Int32)).bind fun (r10 : Int32 × (Nat → Int32)) => (some (r10.1, r10.2))) else (f_X5_whoEnded_18 writers year rowMany kind figure style row x1 refused  FU (0 : Int32) (0 : Int32)))) = some R := hf
  refine lv_aload_n hx hb dX5_whoEnded_0 rfl (lv_at hl 0 rfl) ?_
  refine lv_iload_n hx hb dX5_whoEnded_1 rfl (lv_at hl 1 rfl) ?_
  obtain ⟨r2, hq2, hf⟩ := bS hf
  refine ro_i X hP hD hS [0] rfl (run_V X hP hD hS [0] rfl rfl (c_X5_isOne l D cI aS ad writers year taped at_ statements hasImage isKeeping cursor forgottenWhen rowMany x1 _ hq2 _) lkX5_108 (by decide) (q0 := 0) rfl rfl rfl rfl (Nat.le_of_ble_eq_true rfl) hl.1 dX5_whoEnded_2) (fun H locs hP hS => ?_)
  refine lv_if_ne (tgt := 14) hx hb dX5_whoEnded_5 (by decide) (fun c5 => ?_) (fun c5 => ?_)
  · have hf := iF c5 hf
    refine lv_iconst (v := 0) hx hb dX5_whoEnded_14 (by decide) ?_
    refine lv_istore_n (lv' := [(2, .int (0 : Int32)), (0, .ref (ad 0)), (1, .int x1)]) hx hb dX5_whoEnded_15 rfl hl (by decide) rfl (fun ls hl => ?_)
    refine lv_iconst (v := 0) hx hb dX5_whoEnded_16 (by decide) ?_
    refine lv_istore_n (lv' := [(3, .int (0 : Int32)), (2, .int (0 : Int32)), (0, .ref (ad 0)), (1, .int x1)]) hx hb dX5_whoEnded_17 rfl hl (by decide) rfl (fun ls hl => ?_)
    exact w_X5_whoEnded_18 ad writers year taped at_ statements hasImage isKeeping cursor forgottenWhen rowMany kind figure style row x1 refused X hret  _ (0 : Int32) (0 : Int32) _ _ _ hf (lv_sub hl [2, 3, 1, 0] rfl) hP hD hS
  · have hf := iT c5 hf
    refine lv_aload_n hx hb dX5_whoEnded_8 rfl (lv_at hl 0 rfl) ?_
    refine lv_iconst (v := -1) hx hb dX5_whoEnded_9 (by decide) ?_
    obtain ⟨r10, hq10, hf⟩ := bS hf
    refine wr_i X hP hD hS [0, 1] rfl (ws' := (wd_X5_whoEnded cI ad writers year taped at_ statements hasImage isKeeping cursor forgottenWhen rowMany r10.2 kind figure style row)) (Nat.le_of_ble_eq_true rfl) rfl rfl (run_V X hP hD hS [0, 1] rfl rfl (c_X5_no l D cI aS ad writers year taped at_ statements hasImage isKeeping cursor forgottenWhen rowMany refused (-1 : Int32) _ hq10 _) lkX5_69 (by decide) (q0 := 0) rfl rfl rfl rfl (Nat.le_of_ble_eq_true rfl) hl.1 dX5_whoEnded_10) (fun H locs hP hD hS => ?_)
    have hR := Option.some.inj hf
    subst hR
    exact hret _ _ _ _ _ rfl (fun _ hn => by cases hn; rfl) hP hD hS dX5_whoEnded_13

abbrev wd_X5_worth (cI : ClassId) (ad : Nat → Nat) (writers : Int32) (year : Int32) (taped : Int32) (at_ : Int32) (statements : Int32) (hasImage : Int32) (isKeeping : Int32) (cursor : Int32) (forgottenWhen : Int32) (rowMany : Int32) (kind : (Nat → Int32)) (figure : (Nat → Int32)) (style : (Nat → Int32)) (silent : (Nat → Int32)) (ring : (Nat → Int32)) : va_W := [((ad 0), .inr (5, [.ref (ad 1), .ref (ad 2), .ref (ad 3), .ref (ad 4), .ref (ad 5), .ref (ad 6), .ref (ad 7), .int writers, .int year, .ref (ad 8), .ref (ad 9), .ref (ad 10), .ref (ad 11), .int taped, .int at_, .int statements, .ref (ad 12), .int hasImage, .int isKeeping, .int cursor, .int forgottenWhen, .ref (ad 13), .ref (ad 14), .ref (ad 15), .int rowMany])), ((ad 2), .inl (cI, 7, .inl kind)), ((ad 3), .inl (cI, 7, .inl figure)), ((ad 4), .inl (cI, 7, .inl style)), ((ad 6), .inl (cI, 7, .inl silent)), ((ad 7), .inl (cI, 7, .inl ring))]
def f_X5_worth (writers : Int32) (year : Int32) (kind : (Nat → Int32)) (figure : (Nat → Int32)) (style : (Nat → Int32)) (silent : (Nat → Int32)) (ring : (Nat → Int32)) : Option (Int32) := ((f_X5_allWorth writers year kind figure style silent ring).bind fun (r1 : Int32) => (some r1))
set_option maxHeartbeats 4000000 in
set_option maxRecDepth 100000 in
theorem c_X5_worth (l : Launch) (D : va_G) (cI : ClassId) (aS : aSt) (ad : Nat → Nat) (writers : Int32) (year : Int32) (taped : Int32) (at_ : Int32) (statements : Int32) (hasImage : Int32) (isKeeping : Int32) (cursor : Int32) (forgottenWhen : Int32) (rowMany : Int32) (kind : (Nat → Int32)) (figure : (Nat → Int32)) (style : (Nat → Int32)) (silent : (Nat → Int32)) (ring : (Nat → Int32)) (R : Int32) (hf : f_X5_worth writers year kind figure style silent ring = some R) : CtI l yX5_worth cX5_worth 1 (some .int) 5 D cI aS [.ref (ad 0)] (wd_X5_worth cI ad writers year taped at_ statements hasImage isKeeping cursor forgottenWhen rowMany kind figure style silent ring) (wd_X5_worth cI ad writers year taped at_ statements hasImage isKeeping cursor forgottenWhen rowMany kind figure style silent ring) R := by
  refine ctI_of (by decide) ⟨_, rfl⟩ (Nat.le_of_ble_eq_true rfl) ?_
  intro p e s m below meth c A Q ls X hret hP hD hl
  have hS : va_S A s.heap s.heap [] := va_S.rf
  have hx := X.1
  have hb := X.2.1
  have hl : lv_has ls 1 [(0, .ref (ad 0))] := hl
  replace hf : ((f_X5_allWorth writers year kind figure style silent ring).bind fun (r1 : Int32) => (some r1)) = some R := hf
  refine lv_aload_n hx hb dX5_worth_0 rfl (lv_at hl 0 rfl) ?_
  obtain ⟨r1, hq1, hf⟩ := bS hf
  refine ro_i X hP hD hS [0, 1, 2, 3, 4, 5] rfl (run_V X hP hD hS [0, 1, 2, 3, 4, 5] rfl rfl (c_X5_allWorth l D cI aS ad writers year taped at_ statements hasImage isKeeping cursor forgottenWhen rowMany kind figure style silent ring _ hq1 _) lkX5_206 (by decide) (q0 := 0) rfl rfl rfl rfl (Nat.le_of_ble_eq_true rfl) hl.1 dX5_worth_1) (fun H locs hP hS => ?_)
  have hR := Option.some.inj hf
  subst hR
  exact hret _ _ _ _ _ rfl (fun _ hn => by cases hn; rfl) hP hD hS dX5_worth_4

abbrev wd_X5_writer (cI : ClassId) (ad : Nat → Nat) (writers : Int32) (year : Int32) (taped : Int32) (at_ : Int32) (statements : Int32) (hasImage : Int32) (isKeeping : Int32) (cursor : Int32) (forgottenWhen : Int32) (rowMany : Int32) (refused : (Nat → Int32)) (kind : (Nat → Int32)) (figure : (Nat → Int32)) (style : (Nat → Int32)) (fame : (Nat → Int32)) (silent : (Nat → Int32)) (ring : (Nat → Int32)) : va_W := [((ad 0), .inr (5, [.ref (ad 1), .ref (ad 2), .ref (ad 3), .ref (ad 4), .ref (ad 5), .ref (ad 6), .ref (ad 7), .int writers, .int year, .ref (ad 8), .ref (ad 9), .ref (ad 10), .ref (ad 11), .int taped, .int at_, .int statements, .ref (ad 12), .int hasImage, .int isKeeping, .int cursor, .int forgottenWhen, .ref (ad 13), .ref (ad 14), .ref (ad 15), .int rowMany])), ((ad 1), .inl (cI, 7, .inl refused)), ((ad 2), .inl (cI, 7, .inl kind)), ((ad 3), .inl (cI, 7, .inl figure)), ((ad 4), .inl (cI, 7, .inl style)), ((ad 5), .inl (cI, 7, .inl fame)), ((ad 6), .inl (cI, 7, .inl silent)), ((ad 7), .inl (cI, 7, .inl ring))]
def f_X5_writer (writers : Int32) (refused : (Nat → Int32)) (kind : (Nat → Int32)) (figure : (Nat → Int32)) (style : (Nat → Int32)) (fame : (Nat → Int32)) (silent : (Nat → Int32)) (ring : (Nat → Int32)) (x1 : Int32) (x2 : Int32) : Option (Int32 × (Nat → Int32)) := ((f_X5_isOne writers x1).bind fun (r2 : Int32) => (if r2 = 0 then ((f_X5_no refused (-1 : Int32)).bind fun (r10 : Int32 × (Nat → Int32)) => (some (r10.1, r10.2))) else (if x2 = (0 : Int32) then (gd x1 7 (some ((kind (Int32.toNatClampNeg x1)), refused))) else (if x2 = (1 : Int32) then (gd x1 7 (some ((figure (Int32.toNatClampNeg x1)), refused))) else (if x2 = (2 : Int32) then (gd x1 7 (some ((style (Int32.toNatClampNeg x1)), refused))) else (if x2 = (3 : Int32) then (gd x1 7 (some ((fame (Int32.toNatClampNeg x1)), refused))) else (if x2 = (4 : Int32) then (gd x1 7 (some (((1 : Int32) - (silent (Int32.toNatClampNeg x1))), refused))) else (if x2 = (5 : Int32) then ((f_X5_placeOf ring x1).bind fun (r95 : Int32) => (some (r95, refused))) else (if x2 = (6 : Int32) then ((f_X5_enderOf writers silent ring x1).bind fun (r101 : Int32) => (some (r101, refused))) else ((f_X5_no refused (-2 : Int32)).bind fun (r108 : Int32 × (Nat → Int32)) => (some (r108.1, r108.2))))))))))))
set_option maxHeartbeats 4000000 in
set_option maxRecDepth 100000 in
theorem c_X5_writer (l : Launch) (D : va_G) (cI : ClassId) (aS : aSt) (ad : Nat → Nat) (writers : Int32) (year : Int32) (taped : Int32) (at_ : Int32) (statements : Int32) (hasImage : Int32) (isKeeping : Int32) (cursor : Int32) (forgottenWhen : Int32) (rowMany : Int32) (refused : (Nat → Int32)) (kind : (Nat → Int32)) (figure : (Nat → Int32)) (style : (Nat → Int32)) (fame : (Nat → Int32)) (silent : (Nat → Int32)) (ring : (Nat → Int32)) (x1 : Int32) (x2 : Int32) (R : Int32 × (Nat → Int32)) (hf : f_X5_writer writers refused kind figure style fame silent ring x1 x2 = some R) : CtI l yX5_writer cX5_writer 3 (some .int) 2 D cI aS [.ref (ad 0), .int x1, .int x2] (wd_X5_writer cI ad writers year taped at_ statements hasImage isKeeping cursor forgottenWhen rowMany refused kind figure style fame silent ring) (wd_X5_writer cI ad writers year taped at_ statements hasImage isKeeping cursor forgottenWhen rowMany R.2 kind figure style fame silent ring) R.1 := by
  refine ctI_of (by decide) ⟨_, rfl⟩ (Nat.le_of_ble_eq_true rfl) ?_
  intro p e s m below meth c A Q ls X hret hP hD hl
  have hS : va_S A s.heap s.heap [] := va_S.rf
  have hx := X.1
  have hb := X.2.1
  have hl : lv_has ls 3 [(0, .ref (ad 0)), (1, .int x1), (2, .int x2)] := hl
  replace hf : ((f_X5_isOne writers x1).bind fun (r2 : Int32) => (if r2 = 0 then ((f_X5_no refused (-1 : Int32)).bind fun (r10 : Int32 × (Nat → Int32)) => (some (r10.1, r10.2))) else (if x2 = (0 : Int32) then (gd x1 7 (some ((kind (Int32.toNatClampNeg x1)), refused))) else (if x2 = (1 : Int32) then (gd x1 7 (some ((figure (Int32.toNatClampNeg x1)), refused))) else (if x2 = (2 : Int32) then (gd x1 7 (some ((style (Int32.toNatClampNeg x1)), refused))) else (if x2 = (3 : Int32) then (gd x1 7 (some ((fame (Int32.toNatClampNeg x1)), refused))) else (if x2 = (4 : Int32) then (gd x1 7 (some (((1 : Int32) - (silent (Int32.toNatClampNeg x1))), refused))) else (if x2 = (5 : Int32) then ((f_X5_placeOf ring x1).bind fun (r95 : Int32) => (some (r95, refused))) else (if x2 = (6 : Int32) then ((f_X5_enderOf writers silent ring x1).bind fun (r101 : Int32) => (some (r101, refused))) else ((f_X5_no refused (-2 : Int32)).bind fun (r108 : Int32 × (Nat → Int32)) => (some (r108.1, r108.2)))))))))))) = some R := hf
  refine lv_aload_n hx hb dX5_writer_0 rfl (lv_at hl 0 rfl) ?_
  refine lv_iload_n hx hb dX5_writer_1 rfl (lv_at hl 1 rfl) ?_
  obtain ⟨r2, hq2, hf⟩ := bS hf
  refine ro_i X hP hD hS [0] rfl (run_V X hP hD hS [0] rfl rfl (c_X5_isOne l D cI aS ad writers year taped at_ statements hasImage isKeeping cursor forgottenWhen rowMany x1 _ hq2 _) lkX5_108 (by decide) (q0 := 0) rfl rfl rfl rfl (Nat.le_of_ble_eq_true rfl) hl.1 dX5_writer_2) (fun H locs hP hS => ?_)
  refine lv_if_ne (tgt := 14) hx hb dX5_writer_5 (by decide) (fun c5 => ?_) (fun c5 => ?_)
  · have hf := iF c5 hf
    refine lv_iload_n hx hb dX5_writer_14 rfl (lv_at hl 2 rfl) ?_
    by_cases c15_0 : x2 = (0 : Int32)
    · have hf := iT c15_0 hf
      refine tsIn (tgt := 56) (off := 41) hx hb dX5_writer_15 c15_0 (by decide) (by decide) (by decide) (by decide) ?_
      refine lv_aload_n hx hb dX5_writer_56 rfl (lv_at hl 0 rfl) ?_
      refine fgX5_13 X hP (q0 := 0) rfl rfl dX5_writer_57 ?_
      refine lv_iload_n hx hb dX5_writer_60 rfl (lv_at hl 1 rfl) ?_
      refine aGet X hP (q0 := 2) rfl (gdS hf).1 dX5_writer_61 ?_
      have hf := (gdS hf).2
      have hR := Option.some.inj hf
      subst hR
      exact hret _ _ _ _ _ rfl (fun _ hn => by cases hn; rfl) hP hD hS dX5_writer_62
    have hf := iF c15_0 hf
    by_cases c15_1 : x2 = (1 : Int32)
    · have hf := iT c15_1 hf
      refine tsIn (tgt := 63) (off := 48) hx hb dX5_writer_15 c15_1 (by decide) (by decide) (by decide) (by decide) ?_
      refine lv_aload_n hx hb dX5_writer_63 rfl (lv_at hl 0 rfl) ?_
      refine fgX5_16 X hP (q0 := 0) rfl rfl dX5_writer_64 ?_
      refine lv_iload_n hx hb dX5_writer_67 rfl (lv_at hl 1 rfl) ?_
      refine aGet X hP (q0 := 3) rfl (gdS hf).1 dX5_writer_68 ?_
      have hf := (gdS hf).2
      have hR := Option.some.inj hf
      subst hR
      exact hret _ _ _ _ _ rfl (fun _ hn => by cases hn; rfl) hP hD hS dX5_writer_69
    have hf := iF c15_1 hf
    by_cases c15_2 : x2 = (2 : Int32)
    · have hf := iT c15_2 hf
      refine tsIn (tgt := 70) (off := 55) hx hb dX5_writer_15 c15_2 (by decide) (by decide) (by decide) (by decide) ?_
      refine lv_aload_n hx hb dX5_writer_70 rfl (lv_at hl 0 rfl) ?_
      refine fgX5_19 X hP (q0 := 0) rfl rfl dX5_writer_71 ?_
      refine lv_iload_n hx hb dX5_writer_74 rfl (lv_at hl 1 rfl) ?_
      refine aGet X hP (q0 := 4) rfl (gdS hf).1 dX5_writer_75 ?_
      have hf := (gdS hf).2
      have hR := Option.some.inj hf
      subst hR
      exact hret _ _ _ _ _ rfl (fun _ hn => by cases hn; rfl) hP hD hS dX5_writer_76
    have hf := iF c15_2 hf
    by_cases c15_3 : x2 = (3 : Int32)
    · have hf := iT c15_3 hf
      refine tsIn (tgt := 77) (off := 62) hx hb dX5_writer_15 c15_3 (by decide) (by decide) (by decide) (by decide) ?_
      refine lv_aload_n hx hb dX5_writer_77 rfl (lv_at hl 0 rfl) ?_
      refine fgX5_22 X hP (q0 := 0) rfl rfl dX5_writer_78 ?_
      refine lv_iload_n hx hb dX5_writer_81 rfl (lv_at hl 1 rfl) ?_
      refine aGet X hP (q0 := 5) rfl (gdS hf).1 dX5_writer_82 ?_
      have hf := (gdS hf).2
      have hR := Option.some.inj hf
      subst hR
      exact hret _ _ _ _ _ rfl (fun _ hn => by cases hn; rfl) hP hD hS dX5_writer_83
    have hf := iF c15_3 hf
    by_cases c15_4 : x2 = (4 : Int32)
    · have hf := iT c15_4 hf
      refine tsIn (tgt := 84) (off := 69) hx hb dX5_writer_15 c15_4 (by decide) (by decide) (by decide) (by decide) ?_
      refine lv_iconst (v := 1) hx hb dX5_writer_84 (by decide) ?_
      refine lv_aload_n hx hb dX5_writer_85 rfl (lv_at hl 0 rfl) ?_
      refine fgX5_25 X hP (q0 := 0) rfl rfl dX5_writer_86 ?_
      refine lv_iload_n hx hb dX5_writer_89 rfl (lv_at hl 1 rfl) ?_
      refine aGet X hP (q0 := 6) rfl (gdS hf).1 dX5_writer_90 ?_
      have hf := (gdS hf).2
      refine lv_isub hx hb dX5_writer_91 ?_
      have hR := Option.some.inj hf
      subst hR
      exact hret _ _ _ _ _ rfl (fun _ hn => by cases hn; rfl) hP hD hS dX5_writer_92
    have hf := iF c15_4 hf
    by_cases c15_5 : x2 = (5 : Int32)
    · have hf := iT c15_5 hf
      refine tsIn (tgt := 93) (off := 78) hx hb dX5_writer_15 c15_5 (by decide) (by decide) (by decide) (by decide) ?_
      refine lv_aload_n hx hb dX5_writer_93 rfl (lv_at hl 0 rfl) ?_
      refine lv_iload_n hx hb dX5_writer_94 rfl (lv_at hl 1 rfl) ?_
      obtain ⟨r95, hq95, hf⟩ := bS hf
      refine ro_i X hP hD hS [0, 7] rfl (run_V X hP hD hS [0, 7] rfl rfl (c_X5_placeOf l D cI aS ad writers year taped at_ statements hasImage isKeeping cursor forgottenWhen rowMany ring x1 _ hq95 _) lkX5_159 (by decide) (q0 := 0) rfl rfl rfl rfl (Nat.le_of_ble_eq_true rfl) hl.1 dX5_writer_95) (fun H locs hP hS => ?_)
      have hR := Option.some.inj hf
      subst hR
      exact hret _ _ _ _ _ rfl (fun _ hn => by cases hn; rfl) hP hD hS dX5_writer_98
    have hf := iF c15_5 hf
    by_cases c15_6 : x2 = (6 : Int32)
    · have hf := iT c15_6 hf
      refine tsIn (tgt := 99) (off := 84) hx hb dX5_writer_15 c15_6 (by decide) (by decide) (by decide) (by decide) ?_
      refine lv_aload_n hx hb dX5_writer_99 rfl (lv_at hl 0 rfl) ?_
      refine lv_iload_n hx hb dX5_writer_100 rfl (lv_at hl 1 rfl) ?_
      obtain ⟨r101, hq101, hf⟩ := bS hf
      refine ro_i X hP hD hS [0, 6, 7] rfl (run_V X hP hD hS [0, 6, 7] rfl rfl (c_X5_enderOf l D cI aS ad writers year taped at_ statements hasImage isKeeping cursor forgottenWhen rowMany silent ring x1 _ hq101 _) lkX5_162 (by decide) (q0 := 0) rfl rfl rfl rfl (Nat.le_of_ble_eq_true rfl) hl.1 dX5_writer_101) (fun H locs hP hS => ?_)
      have hR := Option.some.inj hf
      subst hR
      exact hret _ _ _ _ _ rfl (fun _ hn => by cases hn; rfl) hP hD hS dX5_writer_104
    have hf := iF c15_6 hf
    refine tsD (keys := [0, 1, 2, 3, 4, 5, 6]) (tgt := 105) hx hb dX5_writer_15 (List.forall_mem_cons.mpr ⟨i32ne c15_0 (by decide), (List.forall_mem_cons.mpr ⟨i32ne c15_1 (by decide), (List.forall_mem_cons.mpr ⟨i32ne c15_2 (by decide), (List.forall_mem_cons.mpr ⟨i32ne c15_3 (by decide), (List.forall_mem_cons.mpr ⟨i32ne c15_4 (by decide), (List.forall_mem_cons.mpr ⟨i32ne c15_5 (by decide), (List.forall_mem_cons.mpr ⟨i32ne c15_6 (by decide), (fun _ h => absurd h List.not_mem_nil)⟩)⟩)⟩)⟩)⟩)⟩)⟩) (by decide) (by decide) (by decide) ?_
    refine lv_aload_n hx hb dX5_writer_105 rfl (lv_at hl 0 rfl) ?_
    refine lv_bipush (v := -2) hx hb dX5_writer_106 (by decide) ?_
    obtain ⟨r108, hq108, hf⟩ := bS hf
    refine wr_i X hP hD hS [0, 1] rfl (ws' := (wd_X5_writer cI ad writers year taped at_ statements hasImage isKeeping cursor forgottenWhen rowMany r108.2 kind figure style fame silent ring)) (Nat.le_of_ble_eq_true rfl) rfl rfl (run_V X hP hD hS [0, 1] rfl rfl (c_X5_no l D cI aS ad writers year taped at_ statements hasImage isKeeping cursor forgottenWhen rowMany refused (-2 : Int32) _ hq108 _) lkX5_69 (by decide) (q0 := 0) rfl rfl rfl rfl (Nat.le_of_ble_eq_true rfl) hl.1 dX5_writer_108) (fun H locs hP hD hS => ?_)
    have hR := Option.some.inj hf
    subst hR
    exact hret _ _ _ _ _ rfl (fun _ hn => by cases hn; rfl) hP hD hS dX5_writer_111
  · have hf := iT c5 hf
    refine lv_aload_n hx hb dX5_writer_8 rfl (lv_at hl 0 rfl) ?_
    refine lv_iconst (v := -1) hx hb dX5_writer_9 (by decide) ?_
    obtain ⟨r10, hq10, hf⟩ := bS hf
    refine wr_i X hP hD hS [0, 1] rfl (ws' := (wd_X5_writer cI ad writers year taped at_ statements hasImage isKeeping cursor forgottenWhen rowMany r10.2 kind figure style fame silent ring)) (Nat.le_of_ble_eq_true rfl) rfl rfl (run_V X hP hD hS [0, 1] rfl rfl (c_X5_no l D cI aS ad writers year taped at_ statements hasImage isKeeping cursor forgottenWhen rowMany refused (-1 : Int32) _ hq10 _) lkX5_69 (by decide) (q0 := 0) rfl rfl rfl rfl (Nat.le_of_ble_eq_true rfl) hl.1 dX5_writer_10) (fun H locs hP hD hS => ?_)
    have hR := Option.some.inj hf
    subst hR
    exact hret _ _ _ _ _ rfl (fun _ hn => by cases hn; rfl) hP hD hS dX5_writer_13

abbrev wd_X5_years (cI : ClassId) (ad : Nat → Nat) (writers : Int32) (year : Int32) (taped : Int32) (at_ : Int32) (statements : Int32) (hasImage : Int32) (isKeeping : Int32) (cursor : Int32) (forgottenWhen : Int32) (rowMany : Int32) (refused : (Nat → Int32)) (kind : (Nat → Int32)) (figure : (Nat → Int32)) (style : (Nat → Int32)) (fame : (Nat → Int32)) (silent : (Nat → Int32)) (ring : (Nat → Int32)) : va_W := [((ad 0), .inr (5, [.ref (ad 1), .ref (ad 2), .ref (ad 3), .ref (ad 4), .ref (ad 5), .ref (ad 6), .ref (ad 7), .int writers, .int year, .ref (ad 8), .ref (ad 9), .ref (ad 10), .ref (ad 11), .int taped, .int at_, .int statements, .ref (ad 12), .int hasImage, .int isKeeping, .int cursor, .int forgottenWhen, .ref (ad 13), .ref (ad 14), .ref (ad 15), .int rowMany])), ((ad 1), .inl (cI, 7, .inl refused)), ((ad 2), .inl (cI, 7, .inl kind)), ((ad 3), .inl (cI, 7, .inl figure)), ((ad 4), .inl (cI, 7, .inl style)), ((ad 5), .inl (cI, 7, .inl fame)), ((ad 6), .inl (cI, 7, .inl silent)), ((ad 7), .inl (cI, 7, .inl ring))]
def f_X5_years_27 (writers : Int32) (kind : (Nat → Int32)) (figure : (Nat → Int32)) (style : (Nat → Int32)) (silent : (Nat → Int32)) (ring : (Nat → Int32)) (x1 : Int32)  (v2_27 : Int32) (year_27 : Int32) (refused_27 : (Nat → Int32)) (fame_27 : (Nat → Int32)) : Option (Int32 × Int32 × (Nat → Int32) × (Nat → Int32)) := (if v2_27 = 0 then ((f_X5_goes writers year_27 kind figure style fame_27 silent ring x1).bind fun (r39 : Int32 × (Nat → Int32)) => ((f_X5_allOf 7 writers r39.2).bind fun (r47 : Int32) => (some (r47, r39.1, refused_27, r39.2)))) else ((f_X5_no refused_27 v2_27).bind fun (r33 : Int32 × (Nat → Int32)) => (some (r33.1, year_27, r33.2, fame_27))))
def f_X5_years (writers : Int32) (year : Int32) (refused : (Nat → Int32)) (kind : (Nat → Int32)) (figure : (Nat → Int32)) (style : (Nat → Int32)) (fame : (Nat → Int32)) (silent : (Nat → Int32)) (ring : (Nat → Int32)) (x1 : Int32) : Option (Int32 × Int32 × (Nat → Int32) × (Nat → Int32)) := ((f_X5_bound x1 (1 : Int32) (60 : Int32)).bind fun (r4 : Int32) => (if r4 = 0 then (if (year + x1) ≤ (999 : Int32) then (f_X5_years_27 writers kind figure style silent ring x1  r4 year refused fame) else (f_X5_years_27 writers kind figure style silent ring x1  (-6 : Int32) year refused fame)) else (f_X5_years_27 writers kind figure style silent ring x1  r4 year refused fame)))
set_option maxHeartbeats 4000000 in
set_option maxRecDepth 100000 in
theorem w_X5_years_27 {p : Program} {l : Launch} {e : Env} {s : State} {m : MethodId} {args : Array Value} {below : List Frame} {meth : Method} {c : Code} {D : va_G} {cI : ClassId} {aS : aSt} {A : Nat → Prop} {Q : State → Prop}  (ad : Nat → Nat) (writers : Int32) (taped : Int32) (at_ : Int32) (statements : Int32) (hasImage : Int32) (isKeeping : Int32) (cursor : Int32) (forgottenWhen : Int32) (rowMany : Int32) (kind : (Nat → Int32)) (figure : (Nat → Int32)) (style : (Nat → Int32)) (silent : (Nat → Int32)) (ring : (Nat → Int32)) (x1 : Int32) {R : Int32 × Int32 × (Nat → Int32) × (Nat → Int32)} (X : Bx p s m args meth c cX5_years 3 (some .int) RX5 D cI aS A) (hret : RtI p l e 6 s m args below meth c cX5_years (some .int) D A (wd_X5_years cI ad writers R.2.1 taped at_ statements hasImage isKeeping cursor forgottenWhen rowMany R.2.2.1 kind figure style R.2.2.2 silent ring) R.1 Q) : ∀ (v2_27 : Int32) (year_27 : Int32) (refused_27 : (Nat → Int32)) (fame_27 : (Nat → Int32)) (H : Heap) (locs : List Loc) (ls : Array Slot), f_X5_years_27 writers kind figure style silent ring x1  v2_27 year_27 refused_27 fame_27 = some R → lv_has ls 3 [(0, .ref (ad 0)), (1, .int x1), (2, .int v2_27)] → va_P D vwCl (wd_X5_years cI ad writers year_27 taped at_ statements hasImage isKeeping cursor forgottenWhen rowMany refused_27 kind figure style fame_27 silent ring) H → va_D A (wd_X5_years cI ad writers year_27 taped at_ statements hasImage isKeeping cursor forgottenWhen rowMany refused_27 kind figure style fame_27 silent ring) → va_S A s.heap H locs → Wh p l e 6 s m args below meth c H locs Q (F0 m 27 ls []) := by
  have hx := X.1
  have hb := X.2.1
  intro v2_27 year_27 refused_27 fame_27 H locs ls hf hl hP hD hS
  replace hf : (if v2_27 = 0 then ((f_X5_goes writers year_27 kind figure style fame_27 silent ring x1).bind fun (r39 : Int32 × (Nat → Int32)) => ((f_X5_allOf 7 writers r39.2).bind fun (r47 : Int32) => (some (r47, r39.1, refused_27, r39.2)))) else ((f_X5_no refused_27 v2_27).bind fun (r33 : Int32 × (Nat → Int32)) => (some (r33.1, year_27, r33.2, fame_27)))) = some R := hf
  refine lv_iload_n hx hb dX5_years_27 rfl (lv_at hl 2 rfl) ?_
  refine lv_if_eq (tgt := 37) hx hb dX5_years_28 (by decide) (fun c28 => ?_) (fun c28 => ?_)
  · have hf := iT c28 hf
    refine lv_aload_n hx hb dX5_years_37 rfl (lv_at hl 0 rfl) ?_
    refine lv_iload_n hx hb dX5_years_38 rfl (lv_at hl 1 rfl) ?_
    obtain ⟨r39, hq39, hf⟩ := bS hf
    refine wr_v X hP hD hS [0, 2, 3, 4, 5, 6, 7] rfl (ws' := (wd_X5_years cI ad writers r39.1 taped at_ statements hasImage isKeeping cursor forgottenWhen rowMany refused_27 kind figure style r39.2 silent ring)) (Nat.le_of_ble_eq_true rfl) rfl rfl (run_V X hP hD hS [0, 2, 3, 4, 5, 6, 7] rfl rfl (c_X5_goes l D cI aS ad writers year_27 taped at_ statements hasImage isKeeping cursor forgottenWhen rowMany kind figure style fame_27 silent ring x1 _ hq39 _) lkX5_104 (by decide) (q0 := 0) rfl rfl rfl rfl (Nat.le_of_ble_eq_true rfl) hl.1 dX5_years_39) (fun H locs hP hD hS => ?_)
    refine lv_aload_n hx hb dX5_years_42 rfl (lv_at hl 0 rfl) ?_
    refine lv_aload_n hx hb dX5_years_43 rfl (lv_at hl 0 rfl) ?_
    refine fgX5_22 X hP (q0 := 0) rfl rfl dX5_years_44 ?_
    obtain ⟨r47, hq47, hf⟩ := bS hf
    refine ro_i X hP hD hS [0, 5] rfl (run_V X hP hD hS [0, 5] rfl rfl (c_X5_allOf l D cI aS ad (fun k => ad (5 + k)) 7 writers r39.1 taped at_ statements hasImage isKeeping cursor forgottenWhen rowMany r39.2 _ hq47 _) lkX5_196 (by decide) (q0 := 0) rfl rfl rfl rfl (Nat.le_of_ble_eq_true rfl) hl.1 dX5_years_47) (fun H locs hP hS => ?_)
    have hR := Option.some.inj hf
    subst hR
    exact hret _ _ _ _ _ rfl (fun _ hn => by cases hn; rfl) hP hD hS dX5_years_50
  · have hf := iF c28 hf
    refine lv_aload_n hx hb dX5_years_31 rfl (lv_at hl 0 rfl) ?_
    refine lv_iload_n hx hb dX5_years_32 rfl (lv_at hl 2 rfl) ?_
    obtain ⟨r33, hq33, hf⟩ := bS hf
    refine wr_i X hP hD hS [0, 1] rfl (ws' := (wd_X5_years cI ad writers year_27 taped at_ statements hasImage isKeeping cursor forgottenWhen rowMany r33.2 kind figure style fame_27 silent ring)) (Nat.le_of_ble_eq_true rfl) rfl rfl (run_V X hP hD hS [0, 1] rfl rfl (c_X5_no l D cI aS ad writers year_27 taped at_ statements hasImage isKeeping cursor forgottenWhen rowMany refused_27 v2_27 _ hq33 _) lkX5_69 (by decide) (q0 := 0) rfl rfl rfl rfl (Nat.le_of_ble_eq_true rfl) hl.1 dX5_years_33) (fun H locs hP hD hS => ?_)
    have hR := Option.some.inj hf
    subst hR
    exact hret _ _ _ _ _ rfl (fun _ hn => by cases hn; rfl) hP hD hS dX5_years_36
set_option maxHeartbeats 4000000 in
set_option maxRecDepth 100000 in
theorem c_X5_years (l : Launch) (D : va_G) (cI : ClassId) (aS : aSt) (ad : Nat → Nat) (writers : Int32) (year : Int32) (taped : Int32) (at_ : Int32) (statements : Int32) (hasImage : Int32) (isKeeping : Int32) (cursor : Int32) (forgottenWhen : Int32) (rowMany : Int32) (refused : (Nat → Int32)) (kind : (Nat → Int32)) (figure : (Nat → Int32)) (style : (Nat → Int32)) (fame : (Nat → Int32)) (silent : (Nat → Int32)) (ring : (Nat → Int32)) (x1 : Int32) (R : Int32 × Int32 × (Nat → Int32) × (Nat → Int32)) (hf : f_X5_years writers year refused kind figure style fame silent ring x1 = some R) : CtI l yX5_years cX5_years 3 (some .int) 6 D cI aS [.ref (ad 0), .int x1] (wd_X5_years cI ad writers year taped at_ statements hasImage isKeeping cursor forgottenWhen rowMany refused kind figure style fame silent ring) (wd_X5_years cI ad writers R.2.1 taped at_ statements hasImage isKeeping cursor forgottenWhen rowMany R.2.2.1 kind figure style R.2.2.2 silent ring) R.1 := by
  refine ctI_of (by decide) ⟨_, rfl⟩ (Nat.le_of_ble_eq_true rfl) ?_
  intro p e s m below meth c A Q ls X hret hP hD hl
  have hS : va_S A s.heap s.heap [] := va_S.rf
  have hx := X.1
  have hb := X.2.1
  have hl : lv_has ls 3 [(0, .ref (ad 0)), (1, .int x1)] := hl
  replace hf : ((f_X5_bound x1 (1 : Int32) (60 : Int32)).bind fun (r4 : Int32) => (if r4 = 0 then (if (year + x1) ≤ (999 : Int32) then (f_X5_years_27 writers kind figure style silent ring x1  r4 year refused fame) else (f_X5_years_27 writers kind figure style silent ring x1  (-6 : Int32) year refused fame)) else (f_X5_years_27 writers kind figure style silent ring x1  r4 year refused fame))) = some R := hf
  refine lv_iload_n hx hb dX5_years_0 rfl (lv_at hl 1 rfl) ?_
  refine lv_iconst (v := 1) hx hb dX5_years_1 (by decide) ?_
  refine lv_bipush (v := 60) hx hb dX5_years_2 (by decide) ?_
  obtain ⟨r4, hq4, hf⟩ := bS hf
  refine ro_i X hP hD hS [] rfl (run_S X hP hD hS [] rfl rfl (c_X5_bound l D cI aS x1 (1 : Int32) (60 : Int32) _ hq4 _) lkX5_62 (by decide) rfl rfl (Nat.le_of_ble_eq_true rfl) hl.1 dX5_years_4) (fun H locs hP hS => ?_)
  refine lv_istore_n (lv' := [(2, .int r4), (0, .ref (ad 0)), (1, .int x1)]) hx hb dX5_years_7 rfl hl (by decide) rfl (fun ls hl => ?_)
  refine lv_iload_n hx hb dX5_years_8 rfl (lv_at hl 0 rfl) ?_
  refine lv_if_ne (tgt := 27) hx hb dX5_years_9 (by decide) (fun c9 => ?_) (fun c9 => ?_)
  · have hf := iF c9 hf
    exact w_X5_years_27 ad writers taped at_ statements hasImage isKeeping cursor forgottenWhen rowMany kind figure style silent ring x1 X hret  r4 year refused fame _ _ _ hf (lv_sub hl [1, 2, 0] rfl) hP hD hS
  · have hf := iT c9 hf
    refine lv_aload_n hx hb dX5_years_12 rfl (lv_at hl 1 rfl) ?_
    refine fgX5_101 X hP (q0 := 0) rfl rfl dX5_years_13 ?_
    refine lv_iload_n hx hb dX5_years_16 rfl (lv_at hl 2 rfl) ?_
    refine lv_iadd hx hb dX5_years_17 ?_
    refine lv_sipush (v := 999) hx hb dX5_years_18 (by decide) ?_
    refine lv_icmp_le (tgt := 27) hx hb dX5_years_21 (by decide) (fun c21 => ?_) (fun c21 => ?_)
    · have hf := iT c21 hf
      exact w_X5_years_27 ad writers taped at_ statements hasImage isKeeping cursor forgottenWhen rowMany kind figure style silent ring x1 X hret  r4 year refused fame _ _ _ hf (lv_sub hl [1, 2, 0] rfl) hP hD hS
    · have hf := iF c21 hf
      refine lv_bipush (v := -6) hx hb dX5_years_24 (by decide) ?_
      refine lv_istore_n (lv' := [(2, .int (-6 : Int32)), (0, .ref (ad 0)), (1, .int x1)]) hx hb dX5_years_26 rfl hl (by decide) rfl (fun ls hl => ?_)
      exact w_X5_years_27 ad writers taped at_ statements hasImage isKeeping cursor forgottenWhen rowMany kind figure style silent ring x1 X hret  (-6 : Int32) year refused fame _ _ _ hf (lv_sub hl [1, 2, 0] rfl) hP hD hS
