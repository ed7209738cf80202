abbrev wd_X3_get (cI : ClassId) (ad : Nat → Nat) (n : Nat) (size : Int32) (cells : (Nat → Int32)) : va_W := [((ad 0), .inr (3, [.ref (ad 1), .int size])), ((ad 1), .inl (cI, n, .inl cells))]
def f_X3_get (n : Nat) (cells : (Nat → Int32)) (x1 : Int32) : Option (Int32) := (if x1 < 0 then (some (0 : Int32)) else (if (nI n) ≤ x1 then (some (0 : Int32)) else (gd x1 n (some (cells (Int32.toNatClampNeg x1))))))
set_option maxHeartbeats 4000000 in
set_option maxRecDepth 100000 in
theorem c_X3_get (l : Launch) (D : va_G) (cI : ClassId) (aS : aSt) (ad : Nat → Nat) (n : Nat) (size : Int32) (cells : (Nat → Int32)) (x1 : Int32) (R : Int32) (hf : f_X3_get n cells x1 = some R) : CtI l yX3_get cX3_get 2 (some .int) 0 D cI aS [.ref (ad 0), .int x1] (wd_X3_get cI ad n size cells) (wd_X3_get cI ad n size cells) R := by
  refine ctI_of (by decide) ⟨_, rfl⟩ (Nat.le_of_ble_eq_true rfl) ?_
  intro p e s m below meth c A Q ls X hret hP hD hl
  have hS : va_S A s.heap s.heap [] := va_S.rf
  have hx := X.1
  have hb := X.2.1
  have hl : lv_has ls 2 [(0, .ref (ad 0)), (1, .int x1)] := hl
  replace hf : (if x1 < 0 then (some (0 : Int32)) else (if (nI n) ≤ x1 then (some (0 : Int32)) else (gd x1 n (some (cells (Int32.toNatClampNeg x1)))))) = some R := hf
  refine lv_iload_n hx hb dX3_get_0 rfl (lv_at hl 1 rfl) ?_
  refine lv_if_lt (tgt := 22) hx hb dX3_get_1 (by decide) (fun c1 => ?_) (fun c1 => ?_)
  · have hf := iT c1 hf
    refine lv_iconst (v := 0) hx hb dX3_get_22 (by decide) ?_
    have hR := Option.some.inj hf
    subst hR
    exact hret _ _ _ _ _ rfl (fun _ hn => by cases hn; rfl) hP hD hS dX3_get_23
  · have hf := iF c1 hf
    refine lv_iload_n hx hb dX3_get_4 rfl (lv_at hl 1 rfl) ?_
    refine lv_aload_n hx hb dX3_get_5 rfl (lv_at hl 0 rfl) ?_
    refine fgX3_19 X hP (q0 := 0) rfl rfl dX3_get_6 ?_
    refine aLen X hP (q0 := 1) rfl dX3_get_9 ?_
    refine lv_icmp_ge (tgt := 22) hx hb dX3_get_10 (by decide) (fun c10 => ?_) (fun c10 => ?_)
    · have hf := iT c10 hf
      refine lv_iconst (v := 0) hx hb dX3_get_22 (by decide) ?_
      have hR := Option.some.inj hf
      subst hR
      exact hret _ _ _ _ _ rfl (fun _ hn => by cases hn; rfl) hP hD hS dX3_get_23
    · have hf := iF c10 hf
      refine lv_aload_n hx hb dX3_get_13 rfl (lv_at hl 0 rfl) ?_
      refine fgX3_19 X hP (q0 := 0) rfl rfl dX3_get_14 ?_
      refine lv_iload_n hx hb dX3_get_17 rfl (lv_at hl 1 rfl) ?_
      refine aGet X hP (q0 := 1) rfl (gdS hf).1 dX3_get_18 ?_
      have hf := (gdS hf).2
      refine lv_goto (tgt := 23) hx hb dX3_get_19 (by decide) ?_
      have hR := Option.some.inj hf
      subst hR
      exact hret _ _ _ _ _ rfl (fun _ hn => by cases hn; rfl) hP hD hS dX3_get_23

abbrev wd_X3_set (cI : ClassId) (ad : Nat → Nat) (n : Nat) (size : Int32) (cells : (Nat → Int32)) : va_W := [((ad 0), .inr (3, [.ref (ad 1), .int size])), ((ad 1), .inl (cI, n, .inl cells))]
def f_X3_set (n : Nat) (cells : (Nat → Int32)) (x1 : Int32) (x2 : Int32) : Option ((Nat → Int32)) := (if x1 < 0 then (some cells) else (if (nI n) ≤ x1 then (some cells) else (gd x1 n (some (upd cells (Int32.toNatClampNeg x1) x2)))))
set_option maxHeartbeats 4000000 in
set_option maxRecDepth 100000 in
theorem c_X3_set (l : Launch) (D : va_G) (cI : ClassId) (aS : aSt) (ad : Nat → Nat) (n : Nat) (size : Int32) (cells : (Nat → Int32)) (x1 : Int32) (x2 : Int32) (R : (Nat → Int32)) (hf : f_X3_set n cells x1 x2 = some R) : CtV l yX3_set cX3_set 3 none 0 D cI aS [.ref (ad 0), .int x1, .int x2] (wd_X3_set cI ad n size cells) (wd_X3_set cI ad n size R) := by
  refine ctV_of (by decide) rfl (Nat.le_of_ble_eq_true rfl) ?_
  intro p e s m below meth c A Q ls X hret hP hD hl
  have hS : va_S A s.heap s.heap [] := va_S.rf
  have hx := X.1
  have hb := X.2.1
  have hl : lv_has ls 3 [(0, .ref (ad 0)), (1, .int x1), (2, .int x2)] := hl
  replace hf : (if x1 < 0 then (some cells) else (if (nI n) ≤ x1 then (some cells) else (gd x1 n (some (upd cells (Int32.toNatClampNeg x1) x2))))) = some R := hf
  refine lv_iload_n hx hb dX3_set_0 rfl (lv_at hl 1 rfl) ?_
  refine lv_if_lt (tgt := 20) hx hb dX3_set_1 (by decide) (fun c1 => ?_) (fun c1 => ?_)
  · have hf := iT c1 hf
    have hR := Option.some.inj hf
    subst hR
    exact hret _ _ _ _ hP hD hS dX3_set_20
  · have hf := iF c1 hf
    refine lv_iload_n hx hb dX3_set_4 rfl (lv_at hl 1 rfl) ?_
    refine lv_aload_n hx hb dX3_set_5 rfl (lv_at hl 0 rfl) ?_
    refine fgX3_19 X hP (q0 := 0) rfl rfl dX3_set_6 ?_
    refine aLen X hP (q0 := 1) rfl dX3_set_9 ?_
    refine lv_icmp_ge (tgt := 20) hx hb dX3_set_10 (by decide) (fun c10 => ?_) (fun c10 => ?_)
    · have hf := iT c10 hf
      have hR := Option.some.inj hf
      subst hR
      exact hret _ _ _ _ hP hD hS dX3_set_20
    · have hf := iF c10 hf
      refine lv_aload_n hx hb dX3_set_13 rfl (lv_at hl 0 rfl) ?_
      refine fgX3_19 X hP (q0 := 0) rfl rfl dX3_set_14 ?_
      refine lv_iload_n hx hb dX3_set_17 rfl (lv_at hl 1 rfl) ?_
      refine lv_iload_n hx hb dX3_set_18 rfl (lv_at hl 2 rfl) ?_
      refine aPut X hP hD hS (q0 := 1) (ws' := (wd_X3_set cI ad n size (upd cells (Int32.toNatClampNeg x1) x2))) rfl (gdS hf).1 rfl dX3_set_19 (fun H locs hP hD hS => ?_)
      have hf := (gdS hf).2
      have hR := Option.some.inj hf
      subst hR
      exact hret _ _ _ _ hP hD hS dX3_set_20

abbrev wd_X3_take (cI : ClassId) (ad da1 : Nat → Nat) (n n_a1 : Nat) (size : Int32) (cells : (Nat → Int32)) (a1_size : Int32) (a1 : (Nat → Int32)) : va_W := [((ad 0), .inr (3, [.ref (ad 1), .int size])), ((ad 1), .inl (cI, n, .inl cells)), ((da1 0), .inr (3, [.ref (da1 1), .int a1_size])), ((da1 1), .inl (cI, n_a1, .inl a1))]
def f_X3_takeG_2 (n : Nat) (n_a1 : Nat) (a1 : (Nat → Int32)) (kX2_38 : (Nat → Int32) → Option (Int32 × (Nat → Int32))) : Nat → Int32 → (Nat → Int32) → Option (Int32 × (Nat → Int32))
  | 0 => fun _ _ => none
  | fuel + 1 => fun v2_2 cells_2 => (if (nI n) ≤ v2_2 then (kX2_38 cells_2) else (if (nI n_a1) ≤ v2_2 then (kX2_38 cells_2) else (gd v2_2 n_a1 (gd v2_2 n (f_X3_takeG_2 n n_a1 a1 kX2_38 fuel (v2_2 + (1 : Int32)) (upd cells_2 (Int32.toNatClampNeg v2_2) (a1 (Int32.toNatClampNeg v2_2))))))))
theorem e_X3_takeG_2 (n : Nat) (n_a1 : Nat) (a1 : (Nat → Int32)) (kX2_38 : (Nat → Int32) → Option (Int32 × (Nat → Int32))) (fuel : Nat) (v2_2 : Int32) (cells_2 : (Nat → Int32)) : f_X3_takeG_2 n n_a1 a1 kX2_38 (fuel + 1) v2_2 cells_2 = (if (nI n) ≤ v2_2 then (kX2_38 cells_2) else (if (nI n_a1) ≤ v2_2 then (kX2_38 cells_2) else (gd v2_2 n_a1 (gd v2_2 n (f_X3_takeG_2 n n_a1 a1 kX2_38 fuel (v2_2 + (1 : Int32)) (upd cells_2 (Int32.toNatClampNeg v2_2) (a1 (Int32.toNatClampNeg v2_2)))))))) := rfl
def f_X3_takeG_38 (a1_size : Int32)  (size_38 : Int32) (cells_38 : (Nat → Int32)) : Option (Int32 × (Nat → Int32)) := (some (a1_size, cells_38))
def f_X3_takeG (n : Nat) (n_a1 : Nat) (size : Int32) (cells : (Nat → Int32)) (a1_size : Int32) (a1 : (Nat → Int32)) : Option (Int32 × (Nat → Int32)) := (f_X3_takeG_2 n n_a1 a1 (fun (cells_38 : (Nat → Int32)) => (f_X3_takeG_38 a1_size  size cells_38)) FU (0 : Int32) cells)
set_option maxHeartbeats 4000000 in
set_option maxRecDepth 100000 in
theorem w_X3_takeG_2 {p : Program} {l : Launch} {e : Env} {s : State} {m : MethodId} {args : Array Value} {below : List Frame} {meth : Method} {c : Code} {D : va_G} {cI : ClassId} {aS : aSt} {A : Nat → Prop} {Q : State → Prop}  (ad : Nat → Nat) (da1 : Nat → Nat) (n : Nat) (n_a1 : Nat) (a1_size : Int32) (a1 : (Nat → Int32)) (size_u2 : Int32) {R : Int32 × (Nat → Int32)} (X : Bx p s m args meth c cX3_take 3 none RX3 D cI aS A) (hret : RtV p l e 0 s m args below meth c cX3_take D A (wd_X3_take cI ad da1 n n_a1 R.1 R.2 a1_size a1) Q) (kX2_38 : (Nat → Int32) → Option (Int32 × (Nat → Int32))) (hkX2_38 : ∀ (cells_38 : (Nat → Int32)) (H : Heap) (locs : List Loc) (ls : Array Slot), kX2_38 cells_38 = some R → lv_has ls 3 [(0, .ref (ad 0)), (1, .ref (da1 0))] → va_P D vwCl (wd_X3_take cI ad da1 n n_a1 size_u2 cells_38 a1_size a1) H → va_D A (wd_X3_take cI ad da1 n n_a1 size_u2 cells_38 a1_size a1) → va_S A s.heap H locs → Wh p l e 0 s m args below meth c H locs Q (F0 m 38 ls [])) : ∀ (fuel : Nat) (v2_2 : Int32) (cells_2 : (Nat → Int32)) (H : Heap) (locs : List Loc) (ls : Array Slot), f_X3_takeG_2 n n_a1 a1 kX2_38 fuel v2_2 cells_2 = some R → lv_has ls 3 [(0, .ref (ad 0)), (1, .ref (da1 0)), (2, .int v2_2)] → va_P D vwCl (wd_X3_take cI ad da1 n n_a1 size_u2 cells_2 a1_size a1) H → va_D A (wd_X3_take cI ad da1 n n_a1 size_u2 cells_2 a1_size a1) → va_S A s.heap H locs → Wh p l e 0 s m args below meth c H locs Q (F0 m 2 ls []) := by
  have hx := X.1
  have hb := X.2.1
  intro fuel
  induction fuel with
  | zero =>
    intro v2_2 cells_2 H locs ls hf hl hP hD hS
    cases hf
  | succ fuel ih =>
    intro v2_2 cells_2 H locs ls hf hl hP hD hS
    replace hf : (if (nI n) ≤ v2_2 then (kX2_38 cells_2) else (if (nI n_a1) ≤ v2_2 then (kX2_38 cells_2) else (gd v2_2 n_a1 (gd v2_2 n (f_X3_takeG_2 n n_a1 a1 kX2_38 fuel (v2_2 + (1 : Int32)) (upd cells_2 (Int32.toNatClampNeg v2_2) (a1 (Int32.toNatClampNeg v2_2)))))))) = some R := hf
    refine lv_iload_n hx hb dX3_take_2 rfl (lv_at hl 2 rfl) ?_
    refine lv_aload_n hx hb dX3_take_3 rfl (lv_at hl 0 rfl) ?_
    refine fgX3_19 X hP (q0 := 0) rfl rfl dX3_take_4 ?_
    refine aLen X hP (q0 := 1) rfl dX3_take_7 ?_
    refine lv_icmp_ge (tgt := 38) hx hb dX3_take_8 (by decide) (fun c8 => ?_) (fun c8 => ?_)
    · have hf := iT c8 hf
      exact hkX2_38 cells_2 _ _ _ hf (lv_sub hl [0, 1] rfl) hP hD hS
    · have hf := iF c8 hf
      refine lv_iload_n hx hb dX3_take_11 rfl (lv_at hl 2 rfl) ?_
      refine lv_aload_n hx hb dX3_take_12 rfl (lv_at hl 1 rfl) ?_
      refine fgX3_19 X hP (q0 := 2) rfl rfl dX3_take_13 ?_
      refine aLen X hP (q0 := 3) rfl dX3_take_16 ?_
      refine lv_icmp_ge (tgt := 38) hx hb dX3_take_17 (by decide) (fun c17 => ?_) (fun c17 => ?_)
      · have hf := iT c17 hf
        exact hkX2_38 cells_2 _ _ _ hf (lv_sub hl [0, 1] rfl) hP hD hS
      · have hf := iF c17 hf
        refine lv_aload_n hx hb dX3_take_20 rfl (lv_at hl 0 rfl) ?_
        refine fgX3_19 X hP (q0 := 0) rfl rfl dX3_take_21 ?_
        refine lv_iload_n hx hb dX3_take_24 rfl (lv_at hl 2 rfl) ?_
        refine lv_aload_n hx hb dX3_take_25 rfl (lv_at hl 1 rfl) ?_
        refine fgX3_19 X hP (q0 := 2) rfl rfl dX3_take_26 ?_
        refine lv_iload_n hx hb dX3_take_29 rfl (lv_at hl 2 rfl) ?_
        refine aGet X hP (q0 := 3) rfl (gdS hf).1 dX3_take_30 ?_
        have hf := (gdS hf).2
        refine aPut X hP hD hS (q0 := 1) (ws' := (wd_X3_take cI ad da1 n n_a1 size_u2 (upd cells_2 (Int32.toNatClampNeg v2_2) (a1 (Int32.toNatClampNeg v2_2))) a1_size a1)) rfl (gdS hf).1 rfl dX3_take_31 (fun H locs hP hD hS => ?_)
        have hf := (gdS hf).2
        refine lv_iinc (v := (v2_2 + (1 : Int32))) (lv' := [(2, .int (v2_2 + (1 : Int32))), (0, .ref (ad 0)), (1, .ref (da1 0))]) hx hb dX3_take_32 hl (k := 2) rfl rfl (by decide) rfl (fun ls hl => ?_)
        refine lv_goto (tgt := 2) hx hb dX3_take_35 (by decide) ?_
        exact ih (v2_2 + (1 : Int32)) (upd cells_2 (Int32.toNatClampNeg v2_2) (a1 (Int32.toNatClampNeg v2_2))) _ _ _ hf (lv_sub hl [1, 2, 0] rfl) hP hD hS
set_option maxHeartbeats 4000000 in
set_option maxRecDepth 100000 in
theorem w_X3_takeG_38 {p : Program} {l : Launch} {e : Env} {s : State} {m : MethodId} {args : Array Value} {below : List Frame} {meth : Method} {c : Code} {D : va_G} {cI : ClassId} {aS : aSt} {A : Nat → Prop} {Q : State → Prop}  (ad : Nat → Nat) (da1 : Nat → Nat) (n : Nat) (n_a1 : Nat) (a1_size : Int32) (a1 : (Nat → Int32)) {R : Int32 × (Nat → Int32)} (X : Bx p s m args meth c cX3_take 3 none RX3 D cI aS A) (hret : RtV p l e 0 s m args below meth c cX3_take D A (wd_X3_take cI ad da1 n n_a1 R.1 R.2 a1_size a1) Q) : ∀ (size_38 : Int32) (cells_38 : (Nat → Int32)) (H : Heap) (locs : List Loc) (ls : Array Slot), f_X3_takeG_38 a1_size  size_38 cells_38 = some R → lv_has ls 3 [(0, .ref (ad 0)), (1, .ref (da1 0))] → va_P D vwCl (wd_X3_take cI ad da1 n n_a1 size_38 cells_38 a1_size a1) H → va_D A (wd_X3_take cI ad da1 n n_a1 size_38 cells_38 a1_size a1) → va_S A s.heap H locs → Wh p l e 0 s m args below meth c H locs Q (F0 m 38 ls []) := by
  have hx := X.1
  have hb := X.2.1
  intro size_38 cells_38 H locs ls hf hl hP hD hS
  replace hf : (some (a1_size, cells_38)) = some R := hf
  refine lv_aload_n hx hb dX3_take_38 rfl (lv_at hl 0 rfl) ?_
  refine lv_aload_n hx hb dX3_take_39 rfl (lv_at hl 1 rfl) ?_
  refine fgX3_7 X hP (q0 := 2) rfl rfl dX3_take_40 ?_
  refine fpX3_7 X hP hD hS (q0 := 0) (ws' := (wd_X3_take cI ad da1 n n_a1 a1_size cells_38 a1_size a1)) rfl rfl rfl (Nat.le_of_ble_eq_true rfl) rfl dX3_take_43 (fun H locs hP hD hS => ?_)
  have hR := Option.some.inj hf
  subst hR
  exact hret _ _ _ _ hP hD hS dX3_take_46
set_option maxHeartbeats 4000000 in
set_option maxRecDepth 100000 in
theorem c_X3_takeG (l : Launch) (D : va_G) (cI : ClassId) (aS : aSt) (ad : Nat → Nat) (da1 : Nat → Nat) (n : Nat) (n_a1 : Nat) (size : Int32) (cells : (Nat → Int32)) (a1_size : Int32) (a1 : (Nat → Int32)) (R : Int32 × (Nat → Int32)) (hf : f_X3_takeG n n_a1 size cells a1_size a1 = some R) : CtV l yX3_take cX3_take 3 none 0 D cI aS [.ref (ad 0), .ref (da1 0)] (wd_X3_take cI ad da1 n n_a1 size cells a1_size a1) (wd_X3_take cI ad da1 n n_a1 R.1 R.2 a1_size a1) := by
  refine ctV_of (by decide) rfl (Nat.le_of_ble_eq_true rfl) ?_
  intro p e s m below meth c A Q ls X hret hP hD hl
  have hS : va_S A s.heap s.heap [] := va_S.rf
  have hx := X.1
  have hb := X.2.1
  have hl : lv_has ls 3 [(0, .ref (ad 0)), (1, .ref (da1 0))] := hl
  replace hf : (f_X3_takeG_2 n n_a1 a1 (fun (cells_38 : (Nat → Int32)) => (f_X3_takeG_38 a1_size  size cells_38)) FU (0 : Int32) cells) = some R := hf
  refine lv_iconst (v := 0) hx hb dX3_take_0 (by decide) ?_
  refine lv_istore_n (lv' := [(2, .int (0 : Int32)), (0, .ref (ad 0)), (1, .ref (da1 0))]) hx hb dX3_take_1 rfl hl (by decide) rfl (fun ls hl => ?_)
  exact w_X3_takeG_2 ad da1 n n_a1 a1_size a1 size X hret _ (fun cells_38 _ _ _ hf hl hP hD hS => w_X3_takeG_38 ad da1 n n_a1 a1_size a1 X hret  size cells_38 _ _ _ hf (lv_sub hl [0, 1] rfl) hP hD hS) _ (0 : Int32) cells _ _ _ hf (lv_sub hl [1, 2, 0] rfl) hP hD hS

abbrev wd_X3_makeEmpty (cI : ClassId) (ad : Nat → Nat) (size : Int32) : va_W := [((ad 0), .inr (3, [.ref (ad 1), .int size]))]
def f_X3_makeEmpty (size : Int32) : Option (Int32) := (some (0 : Int32))
set_option maxHeartbeats 4000000 in
set_option maxRecDepth 100000 in
theorem c_X3_makeEmpty (l : Launch) (D : va_G) (cI : ClassId) (aS : aSt) (ad : Nat → Nat) (size : Int32) (R : Int32) (hf : f_X3_makeEmpty size = some R) : CtV l yX3_makeEmpty cX3_makeEmpty 1 none 0 D cI aS [.ref (ad 0)] (wd_X3_makeEmpty cI ad size) (wd_X3_makeEmpty cI ad R) := by
  refine ctV_of (by decide) rfl (Nat.le_of_ble_eq_true rfl) ?_
  intro p e s m below meth c A Q ls X hret hP hD hl
  have hS : va_S A s.heap s.heap [] := va_S.rf
  have hx := X.1
  have hb := X.2.1
  have hl : lv_has ls 1 [(0, .ref (ad 0))] := hl
  replace hf : (some (0 : Int32)) = some R := hf
  refine lv_aload_n hx hb dX3_makeEmpty_0 rfl (lv_at hl 0 rfl) ?_
  refine lv_iconst (v := 0) hx hb dX3_makeEmpty_1 (by decide) ?_
  refine fpX3_7 X hP hD hS (q0 := 0) (ws' := (wd_X3_makeEmpty cI ad (0 : Int32))) rfl rfl rfl (Nat.le_of_ble_eq_true rfl) rfl dX3_makeEmpty_2 (fun H locs hP hD hS => ?_)
  have hR := Option.some.inj hf
  subst hR
  exact hret _ _ _ _ hP hD hS dX3_makeEmpty_5

abbrev wd_X3_push (cI : ClassId) (ad : Nat → Nat) (n : Nat) (size : Int32) (cells : (Nat → Int32)) : va_W := [((ad 0), .inr (3, [.ref (ad 1), .int size])), ((ad 1), .inl (cI, n, .inl cells))]
def f_X3_push (n : Nat) (size : Int32) (cells : (Nat → Int32)) (x1 : Int32) : Option (Int32 × (Nat → Int32)) := (if (nI n) ≤ size then (some (size, cells)) else ((f_X3_set n cells size x1).bind fun (r18 : (Nat → Int32)) => (some ((size + (1 : Int32)), r18))))
set_option maxHeartbeats 4000000 in
set_option maxRecDepth 100000 in
theorem c_X3_push (l : Launch) (D : va_G) (cI : ClassId) (aS : aSt) (ad : Nat → Nat) (n : Nat) (size : Int32) (cells : (Nat → Int32)) (x1 : Int32) (R : Int32 × (Nat → Int32)) (hf : f_X3_push n size cells x1 = some R) : CtV l yX3_push cX3_push 2 none 1 D cI aS [.ref (ad 0), .int x1] (wd_X3_push cI ad n size cells) (wd_X3_push cI ad n R.1 R.2) := by
  refine ctV_of (by decide) rfl (Nat.le_of_ble_eq_true rfl) ?_
  intro p e s m below meth c A Q ls X hret hP hD hl
  have hS : va_S A s.heap s.heap [] := va_S.rf
  have hx := X.1
  have hb := X.2.1
  have hl : lv_has ls 2 [(0, .ref (ad 0)), (1, .int x1)] := hl
  replace hf : (if (nI n) ≤ size then (some (size, cells)) else ((f_X3_set n cells size x1).bind fun (r18 : (Nat → Int32)) => (some ((size + (1 : Int32)), r18)))) = some R := hf
  refine lv_aload_n hx hb dX3_push_0 rfl (lv_at hl 0 rfl) ?_
  refine fgX3_7 X hP (q0 := 0) rfl rfl dX3_push_1 ?_
  refine lv_aload_n hx hb dX3_push_4 rfl (lv_at hl 0 rfl) ?_
  refine fgX3_19 X hP (q0 := 0) rfl rfl dX3_push_5 ?_
  refine aLen X hP (q0 := 1) rfl dX3_push_8 ?_
  refine lv_icmp_ge (tgt := 31) hx hb dX3_push_9 (by decide) (fun c9 => ?_) (fun c9 => ?_)
  · have hf := iT c9 hf
    have hR := Option.some.inj hf
    subst hR
    exact hret _ _ _ _ hP hD hS dX3_push_31
  · have hf := iF c9 hf
    refine lv_aload_n hx hb dX3_push_12 rfl (lv_at hl 0 rfl) ?_
    refine lv_aload_n hx hb dX3_push_13 rfl (lv_at hl 0 rfl) ?_
    refine fgX3_7 X hP (q0 := 0) rfl rfl dX3_push_14 ?_
    refine lv_iload_n hx hb dX3_push_17 rfl (lv_at hl 1 rfl) ?_
    obtain ⟨r18, hq18, hf⟩ := bS hf
    refine wr_v X hP hD hS [0, 1] rfl (ws' := (wd_X3_push cI ad n size r18)) (Nat.le_of_ble_eq_true rfl) rfl rfl (run_V X hP hD hS [0, 1] rfl rfl (c_X3_set l D cI aS ad n size cells size x1 _ hq18 _) lkX3_23 (by decide) (q0 := 0) rfl rfl rfl rfl (Nat.le_of_ble_eq_true rfl) hl.1 dX3_push_18) (fun H locs hP hD hS => ?_)
    refine lv_aload_n hx hb dX3_push_21 rfl (lv_at hl 0 rfl) ?_
    refine lv_dup hx hb dX3_push_22 rfl ?_
    refine fgX3_7 X hP (q0 := 0) rfl rfl dX3_push_23 ?_
    refine lv_iconst (v := 1) hx hb dX3_push_26 (by decide) ?_
    refine lv_iadd hx hb dX3_push_27 ?_
    refine fpX3_7 X hP hD hS (q0 := 0) (ws' := (wd_X3_push cI ad n (size + (1 : Int32)) r18)) rfl rfl rfl (Nat.le_of_ble_eq_true rfl) rfl dX3_push_28 (fun H locs hP hD hS => ?_)
    have hR := Option.some.inj hf
    subst hR
    exact hret _ _ _ _ hP hD hS dX3_push_31

abbrev wd_X3_sumOf (cI : ClassId) (ad : Nat → Nat) (n : Nat) (size : Int32) (cells : (Nat → Int32)) : va_W := [((ad 0), .inr (3, [.ref (ad 1), .int size])), ((ad 1), .inl (cI, n, .inl cells))]
def f_X3_sumOf_4 (n : Nat) (cells : (Nat → Int32)) (x1 : Int32)  : Nat → Int32 → Int32 → Option (Int32)
  | 0 => fun _ _ => none
  | fuel + 1 => fun v2_4 v3_4 => (if x1 ≤ v3_4 then (some v2_4) else (if (nI n) ≤ v3_4 then (some v2_4) else (gd v3_4 n (f_X3_sumOf_4 n cells x1  fuel (v2_4 + (cells (Int32.toNatClampNeg v3_4))) (v3_4 + (1 : Int32))))))
theorem e_X3_sumOf_4 (n : Nat) (cells : (Nat → Int32)) (x1 : Int32)  (fuel : Nat) (v2_4 : Int32) (v3_4 : Int32) : f_X3_sumOf_4 n cells x1  (fuel + 1) v2_4 v3_4 = (if x1 ≤ v3_4 then (some v2_4) else (if (nI n) ≤ v3_4 then (some v2_4) else (gd v3_4 n (f_X3_sumOf_4 n cells x1  fuel (v2_4 + (cells (Int32.toNatClampNeg v3_4))) (v3_4 + (1 : Int32)))))) := rfl
def f_X3_sumOf (n : Nat) (cells : (Nat → Int32)) (x1 : Int32) : Option (Int32) := (f_X3_sumOf_4 n cells x1  FU (0 : Int32) (0 : Int32))
set_option maxHeartbeats 4000000 in
set_option maxRecDepth 100000 in
theorem w_X3_sumOf_4 {p : Program} {l : Launch} {e : Env} {s : State} {m : MethodId} {args : Array Value} {below : List Frame} {meth : Method} {c : Code} {D : va_G} {cI : ClassId} {aS : aSt} {A : Nat → Prop} {Q : State → Prop}  (ad : Nat → Nat) (n : Nat) (size : Int32) (cells : (Nat → Int32)) (x1 : Int32) {R : Int32} (X : Bx p s m args meth c cX3_sumOf 4 (some .int) RX3 D cI aS A) (hret : RtI p l e 0 s m args below meth c cX3_sumOf (some .int) D A (wd_X3_sumOf cI ad n size cells) R Q) : ∀ (fuel : Nat) (v2_4 : Int32) (v3_4 : Int32) (H : Heap) (locs : List Loc) (ls : Array Slot), f_X3_sumOf_4 n cells x1  fuel v2_4 v3_4 = some R → lv_has ls 4 [(0, .ref (ad 0)), (1, .int x1), (2, .int v2_4), (3, .int v3_4)] → va_P D vwCl (wd_X3_sumOf cI ad n size cells) H → va_D A (wd_X3_sumOf cI ad n size cells) → va_S A s.heap H locs → Wh p l e 0 s m args below meth c H locs Q (F0 m 4 ls []) := by
  have hx := X.1
  have hb := X.2.1
  intro fuel
  induction fuel with
  | zero =>
    intro v2_4 v3_4 H locs ls hf hl hP hD hS
    cases hf
  | succ fuel ih =>
    intro v2_4 v3_4 H locs ls hf hl hP hD hS
    replace hf : (if x1 ≤ v3_4 then (some v2_4) else (if (nI n) ≤ v3_4 then (some v2_4) else (gd v3_4 n (f_X3_sumOf_4 n cells x1  fuel (v2_4 + (cells (Int32.toNatClampNeg v3_4))) (v3_4 + (1 : Int32)))))) = some R := hf
    refine lv_iload_n hx hb dX3_sumOf_4 rfl (lv_at hl 3 rfl) ?_
    refine lv_iload_n hx hb dX3_sumOf_5 rfl (lv_at hl 1 rfl) ?_
    refine lv_icmp_ge (tgt := 33) hx hb dX3_sumOf_6 (by decide) (fun c6 => ?_) (fun c6 => ?_)
    · have hf := iT c6 hf
      refine lv_iload_n hx hb dX3_sumOf_33 rfl (lv_at hl 2 rfl) ?_
      have hR := Option.some.inj hf
      subst hR
      exact hret _ _ _ _ _ rfl (fun _ hn => by cases hn; rfl) hP hD hS dX3_sumOf_34
    · have hf := iF c6 hf
      refine lv_iload_n hx hb dX3_sumOf_9 rfl (lv_at hl 3 rfl) ?_
      refine lv_aload_n hx hb dX3_sumOf_10 rfl (lv_at hl 0 rfl) ?_
      refine fgX3_19 X hP (q0 := 0) rfl rfl dX3_sumOf_11 ?_
      refine aLen X hP (q0 := 1) rfl dX3_sumOf_14 ?_
      refine lv_icmp_ge (tgt := 33) hx hb dX3_sumOf_15 (by decide) (fun c15 => ?_) (fun c15 => ?_)
      · have hf := iT c15 hf
        refine lv_iload_n hx hb dX3_sumOf_33 rfl (lv_at hl 2 rfl) ?_
        have hR := Option.some.inj hf
        subst hR
        exact hret _ _ _ _ _ rfl (fun _ hn => by cases hn; rfl) hP hD hS dX3_sumOf_34
      · have hf := iF c15 hf
        refine lv_iload_n hx hb dX3_sumOf_18 rfl (lv_at hl 2 rfl) ?_
        refine lv_aload_n hx hb dX3_sumOf_19 rfl (lv_at hl 0 rfl) ?_
        refine fgX3_19 X hP (q0 := 0) rfl rfl dX3_sumOf_20 ?_
        refine lv_iload_n hx hb dX3_sumOf_23 rfl (lv_at hl 3 rfl) ?_
        refine aGet X hP (q0 := 1) rfl (gdS hf).1 dX3_sumOf_24 ?_
        have hf := (gdS hf).2
        refine lv_iadd hx hb dX3_sumOf_25 ?_
        refine lv_istore_n (lv' := [(2, .int (v2_4 + (cells (Int32.toNatClampNeg v3_4)))), (0, .ref (ad 0)), (1, .int x1), (3, .int v3_4)]) hx hb dX3_sumOf_26 rfl hl (by decide) rfl (fun ls hl => ?_)
        refine lv_iinc (v := (v3_4 + (1 : Int32))) (lv' := [(3, .int (v3_4 + (1 : Int32))), (2, .int (v2_4 + (cells (Int32.toNatClampNeg v3_4)))), (0, .ref (ad 0)), (1, .int x1)]) hx hb dX3_sumOf_27 hl (k := 3) rfl rfl (by decide) rfl (fun ls hl => ?_)
        refine lv_goto (tgt := 4) hx hb dX3_sumOf_30 (by decide) ?_
        exact ih (v2_4 + (cells (Int32.toNatClampNeg v3_4))) (v3_4 + (1 : Int32)) _ _ _ hf (lv_sub hl [2, 3, 1, 0] rfl) hP hD hS
set_option maxHeartbeats 4000000 in
set_option maxRecDepth 100000 in
theorem c_X3_sumOf (l : Launch) (D : va_G) (cI : ClassId) (aS : aSt) (ad : Nat → Nat) (n : Nat) (size : Int32) (cells : (Nat → Int32)) (x1 : Int32) (R : Int32) (hf : f_X3_sumOf n cells x1 = some R) : CtI l yX3_sumOf cX3_sumOf 4 (some .int) 0 D cI aS [.ref (ad 0), .int x1] (wd_X3_sumOf cI ad n size cells) (wd_X3_sumOf cI ad n size cells) R := by
  refine ctI_of (by decide) ⟨_, rfl⟩ (Nat.le_of_ble_eq_true rfl) ?_
  intro p e s m below meth c A Q ls X hret hP hD hl
  have hS : va_S A s.heap s.heap [] := va_S.rf
  have hx := X.1
  have hb := X.2.1
  have hl : lv_has ls 4 [(0, .ref (ad 0)), (1, .int x1)] := hl
  replace hf : (f_X3_sumOf_4 n cells x1  FU (0 : Int32) (0 : Int32)) = some R := hf
  refine lv_iconst (v := 0) hx hb dX3_sumOf_0 (by decide) ?_
  refine lv_istore_n (lv' := [(2, .int (0 : Int32)), (0, .ref (ad 0)), (1, .int x1)]) hx hb dX3_sumOf_1 rfl hl (by decide) rfl (fun ls hl => ?_)
  refine lv_iconst (v := 0) hx hb dX3_sumOf_2 (by decide) ?_
  refine lv_istore_n (lv' := [(3, .int (0 : Int32)), (2, .int (0 : Int32)), (0, .ref (ad 0)), (1, .int x1)]) hx hb dX3_sumOf_3 rfl hl (by decide) rfl (fun ls hl => ?_)
  exact w_X3_sumOf_4 ad n size cells x1 X hret  _ (0 : Int32) (0 : Int32) _ _ _ hf (lv_sub hl [2, 3, 1, 0] rfl) hP hD hS
