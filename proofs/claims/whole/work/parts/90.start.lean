theorem mz_124 : Cond.instantiable RX0 9 ∈ wTT := wTT_of 124 (by decide +kernel) rfl
theorem mz_188 : Cond.instantiable RX1 1 ∈ wTT := wTT_of 188 (by decide +kernel) rfl
theorem mz_203 : Cond.instantiable RX2 7 ∈ wTT := wTT_of 203 (by decide +kernel) rfl
theorem mz_130 : Cond.instantiable RX3 2 ∈ wTT := wTT_of 130 (by decide +kernel) rfl
theorem mz_116 : Cond.instantiable RX4 10 ∈ wTT := wTT_of 116 (by decide +kernel) rfl
theorem mz_838 : Cond.instantiable RX5 25 ∈ wTT := wTT_of 838 (by decide +kernel) rfl
theorem mz_115 : Cond.classLink R_law 7 RX4 ∈ wTT := wTT_of 115 (by decide +kernel) rfl
theorem mz_837 : Cond.classLink R_law 10 RX5 ∈ wTT := wTT_of 837 (by decide +kernel) rfl
theorem mz_102 : Cond.initialized RX4 ∈ wTT := wTT_of 102 (by decide +kernel) rfl
theorem mz_108 : Cond.initialized RX5 ∈ wTT := wTT_of 108 (by decide +kernel) rfl
theorem mz_117 : Cond.methodLink R_law 9 yX4_init ∈ wTT := wTT_of 117 (by decide +kernel) rfl
theorem mz_118 : Cond.instanceMethod yX4_init ∈ wTT := wTT_of 118 (by decide +kernel) rfl
theorem mz_119 : Cond.code yX4_init cX4_init 1 none ∈ wTT := wTT_of 119 (by decide +kernel) rfl
theorem mz_839 : Cond.methodLink R_law 12 yX5_init ∈ wTT := wTT_of 839 (by decide +kernel) rfl
theorem mz_840 : Cond.instanceMethod yX5_init ∈ wTT := wTT_of 840 (by decide +kernel) rfl
theorem mz_841 : Cond.code yX5_init cX5_init 1 none ∈ wTT := wTT_of 841 (by decide +kernel) rfl
theorem lkL_i4 : LkI R_law 9 yX4_init cX4_init 1 0 := ⟨mz_117, mz_118, mz_102, mz_119, ⟨by decide, by decide, by decide +kernel⟩, rfl, by decide⟩
theorem lkL_i5 : LkI R_law 12 yX5_init cX5_init 1 0 := ⟨mz_839, mz_840, mz_108, mz_841, ⟨by decide, by decide, by decide +kernel⟩, rfl, by decide⟩
def wTm (i : Nat) : Term := Term.string RX1 (wIdx.getD i (0, "")).1
theorem ws_len : ∀ i : Nat, i < 8 → wLen.getD i 0 < 2 ^ 31 := by decide
theorem ws_ex : ∀ i : Nat, i < 8 → Cond.exactly (wTm i) "java/lang/String" ∈ flatC (Jvm.Cond.and given_1 narrow_1) := by decide +kernel
theorem ws_co : ∀ i : Nat, i < 8 → Cond.eq (.field (wTm i) "java/lang/String" "coder" "B") (.int 0) ∈ flatC (Jvm.Cond.and given_1 narrow_1) := by decide +kernel
theorem ws_ar : ∀ i : Nat, i < 8 → Cond.arrayOf (.field (wTm i) "java/lang/String" "value" "[B") .byte ∈ flatC (Jvm.Cond.and given_1 narrow_1) := by decide +kernel
theorem ws_le : ∀ i : Nat, i < 8 → Cond.eq (.length (.field (wTm i) "java/lang/String" "value" "[B")) (.int (Int32.ofNat (wLen.getD i 0))) ∈ flatC (Jvm.Cond.and given_1 narrow_1) := by decide +kernel
theorem ws_el : ∀ i : Nat, i < 8 → ∀ j : Nat, j < wLen.getD i 0 → Cond.eq (.elem (.field (wTm i) "java/lang/String" "value" "[B") (.int (Int32.ofNat j))) (.int ((wByt.getD i []).getD j 0)) ∈ flatC (Jvm.Cond.and given_1 narrow_1) := by decide +kernel
theorem ws_ne : ∀ i : Nat, i < 8 → ∀ j : Nat, j < 8 → i ≠ j → Cond.not (Cond.eq (wTm i) (wTm j)) ∈ flatC (Jvm.Cond.and given_1 narrow_1) ∨ Cond.not (Cond.eq (wTm j) (wTm i)) ∈ flatC (Jvm.Cond.and given_1 narrow_1) := by decide +kernel
theorem ws_cs : Cond.eq (.static "java/lang/String" "COMPACT_STRINGS" "Z") (.int 1) ∈ flatC (Jvm.Cond.and given_1 narrow_1) := by decide +kernel
theorem ws_bf : Cond.isRef (.static "jdk/internal/util/Preconditions" "SIOOBE_FORMATTER" "Ljava/util/function/BiFunction;") ∈ flatC (Jvm.Cond.and given_1 narrow_1) := by decide +kernel
theorem ws_sr : ∀ i : Nat, i < 8 → Cond.stringRef RX1 (wIdx.getD i (0, "")).1 (wIdx.getD i (0, "")).2 ∈ lw_tbl := by decide +kernel
theorem ws_l1 : Cond.laysStatic "java/lang/String" "COMPACT_STRINGS" "Z" ∈ lw_tbl := by decide +kernel
theorem ws_l2 : Cond.laysStatic "jdk/internal/util/Preconditions" "SIOOBE_FORMATTER" "Ljava/util/function/BiFunction;" ∈ lw_tbl := by decide +kernel
theorem ws_i1 : Cond.initialized "java/lang/String" ∈ lw_tbl := by decide +kernel
theorem ws_i2 : Cond.initialized "jdk/internal/util/Preconditions" ∈ lw_tbl := by decide +kernel
theorem ws_idx : ∀ (i : Nat) (q : Nat × String), wIdx[i]? = some q → i < 8 ∧ q = wIdx.getD i (0, "") := by
  intro i q h
  have hl : i < wIdx.length := (List.getElem?_eq_some_iff.mp h).1
  refine ⟨hl, ?_⟩
  rw [List.getD_eq_getElem?_getD, h]
  rfl
set_option maxHeartbeats 4000000 in
set_option maxRecDepth 100000 in
/-- the start: machine, code, words, classes, constants -/
theorem law_Bx {p : Program} {s : State} {m : MethodId} {meth : Method} {c : Code} {b L : Nat} {xs : Nat → Int32} (C0 : lw_At p s m meth c b L xs) : ∃ (D : va_G) (cI : ClassId) (aS : aSt), Bx p s m #[Value.ref b] meth c code 4 ret R_law D cI aS (fun q => s.heap.size ≤ q) := by
  obtain ⟨hx, hb, hr, hml, hown, hts, hX, hbl, hlocks, hgv⟩ := C0
  have hT : ∀ w ∈ wTT, w.before #[Value.ref b] s = true := fun w hw => hts w (List.mem_filter.mp hw).1
  have hg := flat_of_before _ hgv
  have hA : ∀ a : Nat, a < s.heap.size → ¬ (fun q : Nat => s.heap.size ≤ q) a := fun a h => Nat.not_le.mpr h
  obtain ⟨c0, iS0, hKn0⟩ := u_known (C := RX0) (T := TX0) (N := 9) (n := 9) hT inT0 (hT _ mz_124)
  obtain ⟨c1, iS1, hKn1⟩ := u_known (C := RX1) (T := TX1) (N := 1) (n := 1) hT inT1 (hT _ mz_188)
  obtain ⟨c2, iS2, hKn2⟩ := u_known (C := RX2) (T := TX2) (N := 7) (n := 7) hT inT2 (hT _ mz_203)
  obtain ⟨c3, iS3, hKn3⟩ := u_known (C := RX3) (T := TX3) (N := 2) (n := 2) hT inT3 (hT _ mz_130)
  obtain ⟨c4, iS4, hKn4⟩ := u_known (C := RX4) (T := TX4) (N := 10) (n := 10) hT inT4 (hT _ mz_116)
  obtain ⟨c5, iS5, hKn5⟩ := u_known (C := RX5) (T := TX5) (N := 25) (n := 25) hT inT5 (hT _ mz_838)
  obtain ⟨dC, dI, hKc⟩ : ∃ (dC : Nat → ClassId) (dI : Nat → Nat → Nat), ∀ (k : Nat) (q : vw_C), vwCl[k]? = some q → u_Kn s q.1 q.2.1 q.2.2 (dC k) (dI k) := by
    refine ⟨fun k => match k with | 0 => c0 | 1 => c1 | 2 => c2 | 3 => c3 | 4 => c4 | _ => c5, fun k => match k with | 0 => iS0 | 1 => iS1 | 2 => iS2 | 3 => iS3 | 4 => iS4 | _ => iS5, ?_⟩
    intro k q hq
    match k, hq with
    | 0, hq => cases hq; exact hKn0
    | 1, hq => cases hq; exact hKn1
    | 2, hq => cases hq; exact hKn2
    | 3, hq => cases hq; exact hKn3
    | 4, hq => cases hq; exact hKn4
    | 5, hq => cases hq; exact hKn5
    | k + 6, hq => simp [vwCl] at hq
  obtain ⟨cI, kA, comp, hfind, hk, hkind⟩ := Cond.arrayClass_spec (hT _ mw_arr)
  obtain ⟨adK, adV, hvS, hev⟩ := vk_Sof (args := #[Value.ref b]) (s := s) (N := 8) (tm := wTm) (len := wLen) (byt := wByt) (A := fun q : Nat => s.heap.size ≤ q) ws_len (fun i hi => hg _ (ws_ex i hi)) (fun i hi => hg _ (ws_co i hi)) (fun i hi => hg _ (ws_ar i hi)) (fun i hi => hg _ (ws_le i hi)) (fun i hi j hj => hg _ (ws_el i hi j hj)) (fun i j hi hj hij => (ws_ne i hi j hj hij).imp (hg _) (hg _)) hA
  refine ⟨(dC, dI), cI, (adK, adV), hx, hb, hr, hml, hown, hT, hlocks, ⟨⟨hKc, ?_⟩, ?_, ?_⟩, ⟨hvS, ?_, ?_⟩, fun q h => h⟩
  · intro k q hq
    match k, hq with
    | 0, hq =>
      cases hq
      exact ⟨fun n z => ⟨fun k h => (by cases h), kA, hk, comp, hkind⟩, hfind⟩
    | k + 1, hq => simp at hq
  · intro w hw
    have hm := List.mem_filter.mp hw
    have g := hm.2
    have h1 := hts w hm.1
    cases w <;> first | exact va_Nw.of rfl h1 | cases g
  · intro i q hq
    obtain ⟨hi, rfl⟩ := ws_idx i q hq
    exact vk_R.of (hts _ (ws_sr i hi)) (hev i hi)
  · exact va_Zof (hts _ ws_l1) (hts _ ws_i1) (va_eqi (hg _ ws_cs)) hA
  · exact va_Zqof (hts _ ws_l2) (hts _ ws_i2) (hg _ ws_bf) hA
theorem bd_init : BD (fun _ => 0) (fun _ => 0) 0 := ⟨fun _ _ => ⟨⟨(by decide : (0 : Int32) ≤ 0), (by decide : (0 : Int32) ≤ 9)⟩, (by decide : (0 : Int32) ≤ 0), (by decide : (0 : Int32) ≤ 9)⟩, (by decide : (0 : Int32) ≤ 0), (by decide : (0 : Int32) ≤ 999)⟩
theorem q_init : INV 0 0 0 0 (fun _ => 0) 0 (fun _ => 0) 0 (fun _ => 0) 0 (fun _ => 0) 0 (fun _ => 0) 0 (fun _ => 0) 0 (fun _ => 0) 0 0 0 (fun _ => 0) 0 (fun _ => 0) 0 (fun _ => 0) 0 (fun _ => 0) 0 (fun _ => 0) 0 (fun _ => 0) 0 (fun _ => 0) 0 0 0 (fun _ => 0) 0 (fun _ => 0) 0 (fun _ => 0) 0 (fun _ => 0) 0 (fun _ => 0) 0 (fun _ => 0) 0 (fun _ => 0) 0 (fun _ => 0) 0 (fun _ => 0) 0 (fun _ => 0) 0 (fun _ => 0) 0 (fun _ => 0) 0 0 0 0 0 (fun _ => 0) 0 (fun _ => 0) 0 (fun _ => 0) 0 0 0 0 0 0 0 0 0 0 (fun _ => 0) (fun _ => 0) (fun _ => 0) (fun _ => 0) (fun _ => 0) (fun _ => 0) (fun _ => 0) (fun _ => 0) (fun _ => 0) (fun _ => 0) (fun _ => 0) (fun _ => 0) (fun _ => 0) (fun _ => 0) (fun _ => 0) := ⟨⟨0, by omega, rfl, rfl, rfl, ⟨fun i h => by omega, fun w h => by omega, fun i j h => by omega⟩, fun w h => by omega⟩, ⟨rfl, Or.inl rfl⟩, ⟨⟨0, by omega, rfl, rfl, fun i h => by omega⟩, bd_init, bd_init⟩, ⟨0, by omega, rfl, rfl, fun i h => by omega⟩, fun _ _ => rfl⟩
set_option maxHeartbeats 4000000 in
set_option maxRecDepth 100000 in
/-- THE LAW, from its entry -/
theorem whole_start {p : Program} {e : Env} {s : State} {m : MethodId} {below : List Frame} {meth : Method} {c : Code} (l : Launch) (hflags : l.flags = flags0) {b L : Nat} {xs : Nat → Int32} (hL : L ≤ 3072) (C0 : lw_At p s m meth c b L xs) : W p l e room_1 s m #[Value.ref b] below meth c s.heap [] 0 0 (lw_Z below #[Value.ref b] s) (entryFrame m ([Value.ref b] : List Value).toArray 4) := by
  obtain ⟨D, cI, aS, X⟩ := law_Bx C0
  obtain ⟨-, -, -, -, -, -, hX, hbl, -, -⟩ := C0
  have hx := X.1
  have hb := X.2.1
  generalize hAe : (fun q : Nat => s.heap.size ≤ q) = A at X
  have hbA : ¬ A b := by rw [← hAe]; exact Nat.not_le.mpr hbl
  have hS : va_S A s.heap s.heap [] := va_S.rf
  have hP : va_P D vwCl [] s.heap := fun k q h => by simp at h
  have hD : va_D A [] := ⟨fun i j p q h => by simp at h, fun k q h => by simp at h⟩
  have hl := lv_entry ([.ref b]) (n := 4) (Nat.le_of_ble_eq_true rfl)
  rw [lg_entry_eq]
  generalize (lg_sl ([.ref b]) ++ List.replicate (4 - (lg_sl ([.ref b])).length) Slot.unset).toArray = ls at hl ⊢
  have hl : lv_has ls 4 [(0, .ref b)] := hl
  refine x_new (C := RX4) (T := TX4) (N := 10) (ci := 4) (fs := [.null, .null, .null, .int 0, .null, .null, .null, .null, .null, .null]) X inT4 tyX4_ok mz_115 mz_116 mz_102 rfl (by decide) hP hD hS (Nat.le_of_ble_eq_true rfl) (Nat.le_of_ble_eq_true rfl) dL_law_0 (fun q1 H hP1 hD1 hS1 => ?_)
  refine lv_dup hx hb dL_law_3 rfl ?_
  refine x_ctor (w0 := []) (wf := wz_X4 cI) X hP1 hD1 hS1 (c_X4_init l D cI aS q1) lkL_i4 (Nat.le_of_ble_eq_true rfl) (Nat.le_of_ble_eq_true rfl) rfl rfl (Nat.le_of_ble_eq_true rfl) hl.1 (Nat.le_of_ble_eq_true rfl) (Nat.le_of_ble_eq_true rfl) dL_law_4 (fun ad H locs had hP2 hD2 hS2 => ?_)
  subst had
  refine lv_astore_n (lv' := [(1, .ref (ad 0)), (0, .ref b)]) hx hb dL_law_7 rfl hl (by decide) rfl (fun ls hl => ?_)
  refine x_new (C := RX5) (T := TX5) (N := 25) (ci := 5) (fs := [.null, .null, .null, .null, .null, .null, .null, .int 0, .int 0, .null, .null, .null, .null, .int 0, .int 0, .int 0, .null, .int 0, .int 0, .int 0, .int 0, .null, .null, .null, .int 0]) X inT5 tyX5_ok mz_837 mz_838 mz_108 rfl (by decide) hP2 hD2 hS2 (Nat.le_of_ble_eq_true rfl) (Nat.le_of_ble_eq_true rfl) dL_law_8 (fun q2 H hP3 hD3 hS3 => ?_)
  refine lv_dup hx hb dL_law_11 rfl ?_
  refine x_ctor (w0 := [] ++ wz_X4 cI ad) (wf := wz_X5 cI) X hP3 hD3 hS3 (c_X5_init l D cI aS q2) lkL_i5 (Nat.le_of_ble_eq_true rfl) (Nat.le_of_ble_eq_true rfl) rfl rfl (Nat.le_of_ble_eq_true rfl) hl.1 (Nat.le_of_ble_eq_true rfl) (Nat.le_of_ble_eq_true rfl) dL_law_12 (fun ad2 H locs had2 hP4 hD4 hS4 => ?_)
  subst had2
  refine lv_astore_n (lv' := [(2, .ref (ad2 0)), (1, .ref (ad 0)), (0, .ref b)]) hx hb dL_law_15 rfl hl (by decide) rfl (fun ls hl => ?_)
  refine lv_iconst (v := nI 0) hx hb dL_law_16 (by decide) ?_
  refine lv_istore_n (lv' := [(3, .int (nI 0)), (2, .ref (ad2 0)), (1, .ref (ad 0)), (0, .ref b)]) hx hb dL_law_17 rfl hl (by decide) rfl (fun ls hl => ?_)
  refine law_loop X hX hbl hbA hL ad ad2 ?_ (L + 7) 0 (Nat.zero_le _) (by omega) 0 0 0 0 (fun _ => 0) 0 (fun _ => 0) 0 (fun _ => 0) 0 (fun _ => 0) 0 (fun _ => 0) 0 (fun _ => 0) 0 (fun _ => 0) 0 0 0 (fun _ => 0) 0 (fun _ => 0) 0 (fun _ => 0) 0 (fun _ => 0) 0 (fun _ => 0) 0 (fun _ => 0) 0 (fun _ => 0) 0 0 0 (fun _ => 0) 0 (fun _ => 0) 0 (fun _ => 0) 0 (fun _ => 0) 0 (fun _ => 0) 0 (fun _ => 0) 0 (fun _ => 0) 0 (fun _ => 0) 0 (fun _ => 0) 0 (fun _ => 0) 0 (fun _ => 0) 0 (fun _ => 0) 0 0 0 0 0 (fun _ => 0) 0 (fun _ => 0) 0 (fun _ => 0) 0 0 0 0 0 0 0 0 0 0 (fun _ => 0) (fun _ => 0) (fun _ => 0) (fun _ => 0) (fun _ => 0) (fun _ => 0) (fun _ => 0) (fun _ => 0) (fun _ => 0) (fun _ => 0) (fun _ => 0) (fun _ => 0) (fun _ => 0) (fun _ => 0) (fun _ => 0) q_init H locs ls (lv_sub hl [3, 2, 1, 0] rfl) hP4 hD4 hS4
  intro H locs ls hS5
  refine W.widen (k := 600000) (n := 7302250) (Nat.le_of_ble_eq_true rfl) (Nat.le_of_ble_eq_true rfl) ?_
  refine lv_iconst (v := 1) hx hb dL_law_1307 (by decide) ?_
  refine va_forget (fun q hq => by have z := hS5.2.2 q hq; rw [← hAe] at z; exact z) ?_
  exact lw_ret hx hb X.2.2.1 X.2.2.2.2.2.2.1 dL_law_1308
