/-! What the JDK's own methods answer: over the class's String constants, by their places, and Integer.bitCount. -/
def j_length (k : Nat) : Option Int32 := if k < 8 then some (nI (wLen.getD k 0)) else none
def j_isEmpty (k : Nat) : Option Int32 := if k < 8 then some (if wLen.getD k 0 = 0 then 1 else 0) else none
def j_charAt (k : Nat) (i : Int32) : Option Int32 := if k < 8 ∧ 0 ≤ i ∧ i.toNatClampNeg < wLen.getD k 0 then some ((wByt.getD k []).getD i.toNatClampNeg 0) else none
def j_ixF (c : Int32) : List Int32 → Nat → Int32
  | [], _ => -1
  | b :: l, k => if b = c then nI k else j_ixF c l (k + 1)
def j_indexOf (k : Nat) (c : Int32) : Option Int32 := if k = 7 ∧ 0 ≤ c ∧ c ≤ 255 then some (j_ixF c [97, 112, 103, 116, 102, 100] 0) else none
def ushrI (x y : Int32) : Int32 := (x.toUInt32 >>> (y.toUInt32 &&& Int32.toUInt32 31)).toInt32
def j_bc1 (x : Int32) : Int32 := x - (ushrI x 1 &&& 1431655765)
def j_bc2 (x : Int32) : Int32 := (x &&& 858993459) + (ushrI x 2 &&& 858993459)
def j_bc3 (x : Int32) : Int32 := (x + ushrI x 4) &&& 252645135
def j_bc4 (x : Int32) : Int32 := x + ushrI x 8
def j_bc5 (x : Int32) : Int32 := x + ushrI x 16
def j_bitCount (x : Int32) : Option Int32 := some (j_bc5 (j_bc4 (j_bc3 (j_bc2 (j_bc1 x)))) &&& 63)
theorem j_length_lt {k : Nat} {r : Int32} (h : j_length k = some r) : k < 8 := by
  unfold j_length at h
  split at h
  · assumption
  · cases h
theorem j_isEmpty_lt {k : Nat} {r : Int32} (h : j_isEmpty k = some r) : k < 8 := by
  unfold j_isEmpty at h
  split at h
  · assumption
  · cases h
theorem j_charAt_lt {k : Nat} {i r : Int32} (h : j_charAt k i = some r) : k < 8 := by
  unfold j_charAt at h
  split at h
  · rename_i g; exact g.1
  · cases h
theorem j_indexOf_lt {k : Nat} {i r : Int32} (h : j_indexOf k i = some r) : k < 8 := by
  unfold j_indexOf at h
  split at h
  · rename_i g; have := g.1; omega
  · cases h
theorem jw_318 : Cond.fieldLink RJ0 38 "java/lang/String" "COMPACT_STRINGS" "Z" ∈ wTT := wTT_of 318 (by decide +kernel) rfl
theorem jw_1311 : Cond.fieldLink RJ0 15 "java/lang/String" "coder" "B" ∈ wTT := wTT_of 1311 (by decide +kernel) rfl
theorem jw_1310 : Cond.fieldLink RJ0 9 "java/lang/String" "value" "[B" ∈ wTT := wTT_of 1310 (by decide +kernel) rfl
theorem jw_334 : Cond.fieldLink RJ0 1053 "jdk/internal/util/Preconditions" "SIOOBE_FORMATTER" "Ljava/util/function/BiFunction;" ∈ wTT := wTT_of 334 (by decide +kernel) rfl
theorem jw_317 : Cond.code yJ0_coder_7d493 cJ0_coder_7d493 1 (some .byte) ∈ wTT := wTT_of 317 (by decide +kernel) rfl
theorem jw_109 : Cond.initialized RJ0 ∈ wTT := wTT_of 109 (by decide +kernel) rfl
theorem jw_314 : Cond.methodLink RJ0 335 yJ0_coder_7d493 ∈ wTT := wTT_of 314 (by decide +kernel) rfl
theorem jw_315 : Cond.instanceMethod yJ0_coder_7d493 ∈ wTT := wTT_of 315 (by decide +kernel) rfl
theorem jw_316 : Cond.selects RJ0 yJ0_coder_7d493 yJ0_coder_7d493 ∈ wTT := wTT_of 316 (by decide +kernel) rfl
theorem jw_327 : Cond.code yJ0_isLatin1_aae02 cJ0_isLatin1_aae02 1 (some .boolean) ∈ wTT := wTT_of 327 (by decide +kernel) rfl
theorem jw_324 : Cond.methodLink RJ0 492 yJ0_isLatin1_aae02 ∈ wTT := wTT_of 324 (by decide +kernel) rfl
theorem jw_325 : Cond.instanceMethod yJ0_isLatin1_aae02 ∈ wTT := wTT_of 325 (by decide +kernel) rfl
theorem jw_326 : Cond.selects RJ0 yJ0_isLatin1_aae02 yJ0_isLatin1_aae02 ∈ wTT := wTT_of 326 (by decide +kernel) rfl
theorem jw_313 : Cond.code yJ0_length_8abf5 cJ0_length_8abf5 1 (some .int) ∈ wTT := wTT_of 313 (by decide +kernel) rfl
theorem jw_375 : Cond.methodLink RJ0 505 yJ0_length_8abf5 ∈ wTT := wTT_of 375 (by decide +kernel) rfl
theorem jw_311 : Cond.instanceMethod yJ0_length_8abf5 ∈ wTT := wTT_of 311 (by decide +kernel) rfl
theorem jw_312 : Cond.selects RJ0 yJ0_length_8abf5 yJ0_length_8abf5 ∈ wTT := wTT_of 312 (by decide +kernel) rfl
theorem jw_330 : Cond.code yJ1_charAt_3b067 cJ1_charAt_3b067 2 (some .char) ∈ wTT := wTT_of 330 (by decide +kernel) rfl
theorem jw_110 : Cond.initialized RJ1 ∈ wTT := wTT_of 110 (by decide +kernel) rfl
theorem jw_328 : Cond.methodLink RJ0 495 yJ1_charAt_3b067 ∈ wTT := wTT_of 328 (by decide +kernel) rfl
theorem jw_329 : Cond.static yJ1_charAt_3b067 ∈ wTT := wTT_of 329 (by decide +kernel) rfl
theorem jw_333 : Cond.code yJ0_checkIndex_df160 cJ0_checkIndex_df160 2 none ∈ wTT := wTT_of 333 (by decide +kernel) rfl
theorem jw_331 : Cond.methodLink RJ1 9 yJ0_checkIndex_df160 ∈ wTT := wTT_of 331 (by decide +kernel) rfl
theorem jw_332 : Cond.static yJ0_checkIndex_df160 ∈ wTT := wTT_of 332 (by decide +kernel) rfl
theorem jw_338 : Cond.code yJ3_checkIndex_8e157 cJ3_checkIndex_8e157 3 (some .int) ∈ wTT := wTT_of 338 (by decide +kernel) rfl
theorem jw_111 : Cond.initialized RJ3 ∈ wTT := wTT_of 111 (by decide +kernel) rfl
theorem jw_336 : Cond.methodLink RJ0 1059 yJ3_checkIndex_8e157 ∈ wTT := wTT_of 336 (by decide +kernel) rfl
theorem jw_337 : Cond.static yJ3_checkIndex_8e157 ∈ wTT := wTT_of 337 (by decide +kernel) rfl
theorem jw_374 : Cond.code yJ0_indexOf_7cf53 cJ0_indexOf_7cf53 3 (some .int) ∈ wTT := wTT_of 374 (by decide +kernel) rfl
theorem jw_371 : Cond.methodLink RJ0 633 yJ0_indexOf_7cf53 ∈ wTT := wTT_of 371 (by decide +kernel) rfl
theorem jw_372 : Cond.instanceMethod yJ0_indexOf_7cf53 ∈ wTT := wTT_of 372 (by decide +kernel) rfl
theorem jw_373 : Cond.selects RJ0 yJ0_indexOf_7cf53 yJ0_indexOf_7cf53 ∈ wTT := wTT_of 373 (by decide +kernel) rfl
theorem jw_378 : Cond.code yJ1_indexOf_4cfef cJ1_indexOf_4cfef 4 (some .int) ∈ wTT := wTT_of 378 (by decide +kernel) rfl
theorem jw_376 : Cond.methodLink RJ0 637 yJ1_indexOf_4cfef ∈ wTT := wTT_of 376 (by decide +kernel) rfl
theorem jw_377 : Cond.static yJ1_indexOf_4cfef ∈ wTT := wTT_of 377 (by decide +kernel) rfl
theorem jw_381 : Cond.code yJ1_canEncode_9a6ad cJ1_canEncode_9a6ad 1 (some .boolean) ∈ wTT := wTT_of 381 (by decide +kernel) rfl
theorem jw_379 : Cond.methodLink RJ1 88 yJ1_canEncode_9a6ad ∈ wTT := wTT_of 379 (by decide +kernel) rfl
theorem jw_380 : Cond.static yJ1_canEncode_9a6ad ∈ wTT := wTT_of 380 (by decide +kernel) rfl
theorem jw_388 : Cond.code yJ1_indexOfChar_4cfef cJ1_indexOfChar_4cfef 6 (some .int) ∈ wTT := wTT_of 388 (by decide +kernel) rfl
theorem jw_386 : Cond.methodLink RJ1 95 yJ1_indexOfChar_4cfef ∈ wTT := wTT_of 386 (by decide +kernel) rfl
theorem jw_387 : Cond.static yJ1_indexOfChar_4cfef ∈ wTT := wTT_of 387 (by decide +kernel) rfl
theorem jw_382 : Cond.methodLink RJ1 92 Lib.Math.max.name ∈ wTT := wTT_of 382 (by decide +kernel) rfl
theorem jw_136 : Cond.static Lib.Math.max.name ∈ wTT := wTT_of 136 (by decide +kernel) rfl
theorem jw_137 : Cond.code Lib.Math.max.name Lib.Math.max.code 2 (some .int) ∈ wTT := wTT_of 137 (by decide +kernel) rfl
theorem jw_383 : Cond.methodLink RJ1 38 Lib.Math.min.name ∈ wTT := wTT_of 383 (by decide +kernel) rfl
theorem jw_384 : Cond.static Lib.Math.min.name ∈ wTT := wTT_of 384 (by decide +kernel) rfl
theorem jw_385 : Cond.code Lib.Math.min.name Lib.Math.min.code 2 (some .int) ∈ wTT := wTT_of 385 (by decide +kernel) rfl
theorem jw_105 : Cond.initialized "java/lang/Math" ∈ wTT := wTT_of 105 (by decide +kernel) rfl
theorem jw_668 : Cond.constant RJ6 265 1431655765 ∈ wTT := wTT_of 668 (by decide +kernel) rfl
theorem jw_669 : Cond.constant RJ6 266 858993459 ∈ wTT := wTT_of 669 (by decide +kernel) rfl
theorem jw_670 : Cond.constant RJ6 267 252645135 ∈ wTT := wTT_of 670 (by decide +kernel) rfl
theorem lkJ_coder : LkV RJ0 335 yJ0_coder_7d493 "java/lang/String" cJ0_coder_7d493 1 (some .byte) 0 := ⟨jw_314, jw_315, jw_316, jw_109, jw_317, ⟨rfl, by decide, by decide, by decide +kernel⟩, by decide⟩
theorem lkJ_isLatin1 : LkV RJ0 492 yJ0_isLatin1_aae02 "java/lang/String" cJ0_isLatin1_aae02 1 (some .boolean) 0 := ⟨jw_324, jw_325, jw_326, jw_109, jw_327, ⟨rfl, by decide, by decide, by decide +kernel⟩, by decide⟩
theorem lkJ_length : LkV RJ0 505 yJ0_length_8abf5 "java/lang/String" cJ0_length_8abf5 1 (some .int) 0 := ⟨jw_375, jw_311, jw_312, jw_109, jw_313, ⟨rfl, by decide, by decide, by decide +kernel⟩, by decide⟩
theorem lkJ_lcharAt : LkJS RJ0 495 yJ1_charAt_3b067 cJ1_charAt_3b067 2 (some .char) 2 := ⟨jw_328, jw_329, jw_110, jw_330, ⟨by decide, by decide, by decide +kernel⟩, by decide⟩
theorem lkJ_checkIndex : LkJS RJ1 9 yJ0_checkIndex_df160 cJ0_checkIndex_df160 2 none 2 := ⟨jw_331, jw_332, jw_109, jw_333, ⟨by decide, by decide, by decide +kernel⟩, by decide⟩
theorem lkJ_pcheck : LkJS RJ0 1059 yJ3_checkIndex_8e157 cJ3_checkIndex_8e157 3 (some .int) 3 := ⟨jw_336, jw_337, jw_111, jw_338, ⟨by decide, by decide, by decide +kernel⟩, by decide⟩
theorem lkJ_indexOf2 : LkV RJ0 633 yJ0_indexOf_7cf53 "java/lang/String" cJ0_indexOf_7cf53 3 (some .int) 2 := ⟨jw_371, jw_372, jw_373, jw_109, jw_374, ⟨rfl, by decide, by decide, by decide +kernel⟩, by decide⟩
theorem lkJ_lindexOf : LkJS RJ0 637 yJ1_indexOf_4cfef cJ1_indexOf_4cfef 4 (some .int) 4 := ⟨jw_376, jw_377, jw_110, jw_378, ⟨by decide, by decide, by decide +kernel⟩, by decide⟩
theorem lkJ_canEncode : LkJS RJ1 88 yJ1_canEncode_9a6ad cJ1_canEncode_9a6ad 1 (some .boolean) 1 := ⟨jw_379, jw_380, jw_110, jw_381, ⟨by decide, by decide, by decide +kernel⟩, by decide⟩
theorem lkJ_indexOfChar : LkJS RJ1 95 yJ1_indexOfChar_4cfef cJ1_indexOfChar_4cfef 6 (some .int) 4 := ⟨jw_386, jw_387, jw_110, jw_388, ⟨by decide, by decide, by decide +kernel⟩, by decide⟩
set_option maxHeartbeats 4000000 in
set_option maxRecDepth 100000 in
theorem cj_coder (l : Launch) (D : va_G) (cI : ClassId) (aS : aSt) (k : Nat) (hk : k < 8) : CtI l yJ0_coder_7d493 cJ0_coder_7d493 1 (some .byte) 0 D cI aS [.ref (aS.1 k)] [] [] 0 := by
  refine ctI_of (by decide) ⟨_, rfl⟩ (Nat.le_of_ble_eq_true rfl) ?_
  intro p e s m below meth c A Q ls X hret hP hD hl
  have hS : va_S A s.heap s.heap [] := va_S.rf
  have hx := X.1
  have hb := X.2.1
  have hG := X.2.2.2.2.2.2.2.2.1
  have hl : lv_has ls 1 [(0, .ref (aS.1 k))] := hl
  refine va_gets hx hb hG.2.1 hS X.2.2.2.2.1 (X.hts jw_318) (fun _ h => h) dJ0_coder_7d493_0 ?_
  refine lv_if_eq (tgt := 13) hx hb dJ0_coder_7d493_3 (by decide) (fun h => absurd h (by decide)) (fun _ => ?_)
  refine lv_aload_n hx hb dJ0_coder_7d493_6 rfl (lv_at hl 0 rfl) ?_
  refine vk_getf hx hb (hG.1.1 k hk).2.1 hS X.2.2.2.2.1 (X.hts jw_1311) (fun _ h => h) dJ0_coder_7d493_7 ?_
  refine lv_goto (tgt := 14) hx hb dJ0_coder_7d493_10 (by decide) ?_
  exact hret 0 _ _ _ _ rfl (fun _ hn => by cases hn; rfl) hP hD hS dJ0_coder_7d493_14

set_option maxHeartbeats 4000000 in
set_option maxRecDepth 100000 in
theorem cj_isLatin1 (l : Launch) (D : va_G) (cI : ClassId) (aS : aSt) (k : Nat) (hk : k < 8) : CtI l yJ0_isLatin1_aae02 cJ0_isLatin1_aae02 1 (some .boolean) 0 D cI aS [.ref (aS.1 k)] [] [] 1 := by
  refine ctI_of (by decide) ⟨_, rfl⟩ (Nat.le_of_ble_eq_true rfl) ?_
  intro p e s m below meth c A Q ls X hret hP hD hl
  have hS : va_S A s.heap s.heap [] := va_S.rf
  have hx := X.1
  have hb := X.2.1
  have hG := X.2.2.2.2.2.2.2.2.1
  have hl : lv_has ls 1 [(0, .ref (aS.1 k))] := hl
  refine va_gets hx hb hG.2.1 hS X.2.2.2.2.1 (X.hts jw_318) (fun _ h => h) dJ0_isLatin1_aae02_0 ?_
  refine lv_if_eq (tgt := 17) hx hb dJ0_isLatin1_aae02_3 (by decide) (fun h => absurd h (by decide)) (fun _ => ?_)
  refine lv_aload_n hx hb dJ0_isLatin1_aae02_6 rfl (lv_at hl 0 rfl) ?_
  refine vk_getf hx hb (hG.1.1 k hk).2.1 hS X.2.2.2.2.1 (X.hts jw_1311) (fun _ h => h) dJ0_isLatin1_aae02_7 ?_
  refine lv_if_ne (tgt := 17) hx hb dJ0_isLatin1_aae02_10 (by decide) (fun h => absurd rfl h) (fun _ => ?_)
  refine lv_iconst (v := 1) hx hb dJ0_isLatin1_aae02_13 (by decide) ?_
  refine lv_goto (tgt := 18) hx hb dJ0_isLatin1_aae02_14 (by decide) ?_
  exact hret 1 _ _ _ _ rfl (fun _ hn => by cases hn; rfl) hP hD hS dJ0_isLatin1_aae02_18

theorem j_len0 : ∀ k, k < 8 → shrI (nI (wLen.getD k 0)) 0 = nI (wLen.getD k 0) := by decide
theorem j_len1 : ∀ k, k < 8 → (nI (wLen.getD k 0) = 0 ↔ wLen.getD k 0 = 0) := by decide

set_option maxHeartbeats 4000000 in
set_option maxRecDepth 100000 in
theorem cj_lengthH (l : Launch) (D : va_G) (cI : ClassId) (aS : aSt) (h : Nat) (hh : 1 ≤ h) (k : Nat) (hk : k < 8) : CtI l yJ0_length_8abf5 cJ0_length_8abf5 1 (some .int) h D cI aS [.ref (aS.1 k)] [] [] (nI (wLen.getD k 0)) := by
  refine ctI_of (by decide) ⟨_, rfl⟩ (Nat.le_of_ble_eq_true rfl) ?_
  intro p e s m below meth c A Q ls X hret hP hD hl
  have hS : va_S A s.heap s.heap [] := va_S.rf
  have hx := X.1
  have hb := X.2.1
  have hG := X.2.2.2.2.2.2.2.2.1
  have hl : lv_has ls 1 [(0, .ref (aS.1 k))] := hl
  refine lv_aload_n hx hb dJ0_length_8abf5_0 rfl (lv_at hl 0 rfl) ?_
  refine vk_getf hx hb (hG.1.1 k hk).2.2.1 hS X.2.2.2.2.1 (X.hts jw_1310) (fun _ h => h) dJ0_length_8abf5_1 ?_
  refine va_tlen hx hb (hG.1.1 k hk).2.2.2 hS (v := nI (wLen.getD k 0)) rfl dJ0_length_8abf5_4 ?_
  refine lv_aload_n hx hb dJ0_length_8abf5_5 rfl (lv_at hl 0 rfl) ?_
  refine ro_i X hP hD hS [] rfl (run_J X hP hD hS (cj_coder l D cI aS k hk _) hk lkJ_coder (by omega) rfl rfl (Nat.le_of_ble_eq_true rfl) hl.1 dJ0_length_8abf5_6) (fun H locs hP hS => ?_)
  refine x_ishr hx hb dJ0_length_8abf5_9 ?_
  exact hret _ _ _ _ _ (j_len0 k hk) (fun _ hn => by cases hn; rfl) hP hD hS dJ0_length_8abf5_10

theorem cj_length (l : Launch) (D : va_G) (cI : ClassId) (aS : aSt) (k : Nat) (R : Int32) (hf : j_length k = some R) : CtI l yJ0_length_8abf5 cJ0_length_8abf5 1 (some .int) 5 D cI aS [.ref (aS.1 k)] [] [] R := by
  have hk := j_length_lt hf
  unfold j_length at hf
  rw [if_pos hk] at hf
  cases hf
  exact cj_lengthH l D cI aS 5 (by decide) k hk

set_option maxHeartbeats 4000000 in
set_option maxRecDepth 100000 in
theorem cj_isEmpty (l : Launch) (D : va_G) (cI : ClassId) (aS : aSt) (k : Nat) (R : Int32) (hf : j_isEmpty k = some R) : CtI l yJ0_isEmpty_aae02 cJ0_isEmpty_aae02 1 (some .boolean) 5 D cI aS [.ref (aS.1 k)] [] [] R := by
  have hk := j_isEmpty_lt hf
  unfold j_isEmpty at hf
  rw [if_pos hk] at hf
  have hR := Option.some.inj hf
  refine ctI_of (by decide) ⟨_, rfl⟩ (Nat.le_of_ble_eq_true rfl) ?_
  intro p e s m below meth c A Q ls X hret hP hD hl
  have hS : va_S A s.heap s.heap [] := va_S.rf
  have hx := X.1
  have hb := X.2.1
  have hG := X.2.2.2.2.2.2.2.2.1
  have hl : lv_has ls 1 [(0, .ref (aS.1 k))] := hl
  refine lv_aload_n hx hb dJ0_isEmpty_aae02_0 rfl (lv_at hl 0 rfl) ?_
  refine vk_getf hx hb (hG.1.1 k hk).2.2.1 hS X.2.2.2.2.1 (X.hts jw_1310) (fun _ h => h) dJ0_isEmpty_aae02_1 ?_
  refine va_tlen hx hb (hG.1.1 k hk).2.2.2 hS (v := nI (wLen.getD k 0)) rfl dJ0_isEmpty_aae02_4 ?_
  refine lv_if_ne (tgt := 12) hx hb dJ0_isEmpty_aae02_5 (by decide) (fun h => ?_) (fun h => ?_)
  · refine lv_iconst (v := 0) hx hb dJ0_isEmpty_aae02_12 (by decide) ?_
    exact hret 0 _ _ _ _ (by rw [← hR, if_neg (fun z => h ((j_len1 k hk).mpr z))]) (fun _ hn => by cases hn; rfl) hP hD hS dJ0_isEmpty_aae02_13
  · refine lv_iconst (v := 1) hx hb dJ0_isEmpty_aae02_8 (by decide) ?_
    refine lv_goto (tgt := 13) hx hb dJ0_isEmpty_aae02_9 (by decide) ?_
    exact hret 1 _ _ _ _ (by rw [← hR, if_pos ((j_len1 k hk).mp h)]) (fun _ hn => by cases hn; rfl) hP hD hS dJ0_isEmpty_aae02_13

set_option maxHeartbeats 4000000 in
set_option maxRecDepth 100000 in
theorem cj_pcheck (l : Launch) (D : va_G) (cI : ClassId) (aS : aSt) (i n : Int32) (v : Value) (hv : v = .null ∨ ∃ t, v = .ref t) (h1 : ¬ i < 0) (h2 : i < n) : CtI l yJ3_checkIndex_8e157 cJ3_checkIndex_8e157 3 (some .int) 0 D cI aS [.int i, .int n, v] [] [] i := by
  have hlen : (lg_sl [.int i, .int n, v]).length ≤ 3 := by rcases hv with rfl | ⟨t, rfl⟩ <;> exact Nat.le_of_ble_eq_true rfl
  refine ctI_of (by decide) ⟨_, rfl⟩ hlen ?_
  intro p e s m below meth c A Q ls X hret hP hD hl
  have hS : va_S A s.heap s.heap [] := va_S.rf
  have hx := X.1
  have hb := X.2.1
  have hl : lv_has ls 3 [(0, .int i), (1, .int n)] := lv_sub hl [0, 1] (by rcases hv with rfl | ⟨t, rfl⟩ <;> rfl)
  refine lv_iload_n hx hb dJ3_checkIndex_8e157_0 rfl (lv_at hl 0 rfl) ?_
  refine lv_if_lt (tgt := 9) hx hb dJ3_checkIndex_8e157_1 (by decide) (fun h => absurd h h1) (fun _ => ?_)
  refine lv_iload_n hx hb dJ3_checkIndex_8e157_4 rfl (lv_at hl 0 rfl) ?_
  refine lv_iload_n hx hb dJ3_checkIndex_8e157_5 rfl (lv_at hl 1 rfl) ?_
  refine lv_icmp_lt (tgt := 16) hx hb dJ3_checkIndex_8e157_6 (by decide) (fun _ => ?_) (fun h => absurd h2 h)
  refine lv_iload_n hx hb dJ3_checkIndex_8e157_16 rfl (lv_at hl 0 rfl) ?_
  exact hret i _ _ _ _ rfl (fun _ hn => by cases hn; rfl) hP hD hS dJ3_checkIndex_8e157_17

set_option maxHeartbeats 4000000 in
set_option maxRecDepth 100000 in
theorem cj_checkIndex (l : Launch) (D : va_G) (cI : ClassId) (aS : aSt) (i n : Int32) (h1 : ¬ i < 0) (h2 : i < n) : CtV l yJ0_checkIndex_df160 cJ0_checkIndex_df160 2 none 1 D cI aS [.int i, .int n] [] [] := by
  refine ctV_of (by decide) rfl (Nat.le_of_ble_eq_true rfl) ?_
  intro p e s m below meth c A Q ls X hret hP hD hl
  have hS : va_S A s.heap s.heap [] := va_S.rf
  have hx := X.1
  have hb := X.2.1
  have hG := X.2.2.2.2.2.2.2.2.1
  have hl : lv_has ls 2 [(0, .int i), (1, .int n)] := hl
  refine lv_iload_n hx hb dJ0_checkIndex_df160_0 rfl (lv_at hl 0 rfl) ?_
  refine lv_iload_n hx hb dJ0_checkIndex_df160_1 rfl (lv_at hl 1 rfl) ?_
  rcases hG.2.2 with hz | ⟨t, hz⟩
  · refine va_gets hx hb hz hS X.2.2.2.2.1 (X.hts jw_334) (fun _ h => h) dJ0_checkIndex_df160_2 ?_
    refine ro_i X hP hD hS [] rfl (run_JS (As := [.int i, .int n, .null]) X hP hD hS (cj_pcheck l D cI aS i n .null (Or.inl rfl) h1 h2 _) lkJ_pcheck (by decide) rfl rfl (Nat.le_of_ble_eq_true rfl) hl.1 dJ0_checkIndex_df160_5) (fun H locs hP hS => ?_)
    refine lv_pop hx hb dJ0_checkIndex_df160_8 rfl ?_
    exact hret _ _ _ _ hP hD hS dJ0_checkIndex_df160_9
  · refine va_gets hx hb hz hS X.2.2.2.2.1 (X.hts jw_334) (fun _ h => h) dJ0_checkIndex_df160_2 ?_
    refine ro_i X hP hD hS [] rfl (run_JS (As := [.int i, .int n, (.ref t)]) X hP hD hS (cj_pcheck l D cI aS i n (.ref t) (Or.inr ⟨t, rfl⟩) h1 h2 _) lkJ_pcheck (by decide) rfl rfl (Nat.le_of_ble_eq_true rfl) hl.1 dJ0_checkIndex_df160_5) (fun H locs hP hS => ?_)
    refine lv_pop hx hb dJ0_checkIndex_df160_8 rfl ?_
    exact hret _ _ _ _ hP hD hS dJ0_checkIndex_df160_9

theorem j_byt : ∀ k, k < 8 → ∀ j, j < wLen.getD k 0 → i2cI ((wByt.getD k []).getD j 0 &&& 255) = (wByt.getD k []).getD j 0 ∧ narrow .char (.int ((wByt.getD k []).getD j 0)) = .int ((wByt.getD k []).getD j 0) := by decide
theorem j_lenlt : ∀ k, k < 8 → wLen.getD k 0 < 100 := by decide

set_option maxHeartbeats 4000000 in
set_option maxRecDepth 100000 in
theorem cj_lcharAt (l : Launch) (D : va_G) (cI : ClassId) (aS : aSt) (k : Nat) (hk : k < 8) (j : Nat) (hj : j < wLen.getD k 0) : CtI l yJ1_charAt_3b067 cJ1_charAt_3b067 2 (some .char) 2 D cI aS [.ref (aS.2 k), .int (nI j)] [] [] ((wByt.getD k []).getD j 0) := by
  have hlt := j_lenlt k hk
  refine ctI_of (by decide) ⟨_, rfl⟩ (Nat.le_of_ble_eq_true rfl) ?_
  intro p e s m below meth c A Q ls X hret hP hD hl
  have hS : va_S A s.heap s.heap [] := va_S.rf
  have hx := X.1
  have hb := X.2.1
  have hG := X.2.2.2.2.2.2.2.2.1
  have hl : lv_has ls 2 [(0, .ref (aS.2 k)), (1, .int (nI j))] := hl
  refine lv_iload_n hx hb dJ1_charAt_3b067_0 rfl (lv_at hl 1 rfl) ?_
  refine lv_aload_n hx hb dJ1_charAt_3b067_1 rfl (lv_at hl 0 rfl) ?_
  refine va_tlen hx hb (hG.1.1 k hk).2.2.2 hS (v := nI (wLen.getD k 0)) rfl dJ1_charAt_3b067_2 ?_
  refine wr_v X hP hD hS [] rfl (ws' := []) (Nat.le_of_ble_eq_true rfl) rfl rfl (run_JS X hP hD hS (cj_checkIndex l D cI aS (nI j) (nI (wLen.getD k 0)) (nI_pos (by omega)) (nI_lt hj (by omega)) _) lkJ_checkIndex (by decide) rfl rfl (Nat.le_of_ble_eq_true rfl) hl.1 dJ1_charAt_3b067_3) (fun H locs hP hD hS => ?_)
  refine lv_aload_n hx hb dJ1_charAt_3b067_6 rfl (lv_at hl 0 rfl) ?_
  refine lv_iload_n hx hb dJ1_charAt_3b067_7 rfl (lv_at hl 1 rfl) ?_
  refine va_tb hx hb (hG.1.1 k hk).2.2.2 hS (i := nI j) (v := .int ((wByt.getD k []).getD j 0)) (vp_in_nI hj (by omega)) (by rw [nI_clamp (by omega)]) dJ1_charAt_3b067_8 ?_
  refine lv_sipush (v := 255) hx hb dJ1_charAt_3b067_9 (by decide) ?_
  refine lv_iand hx hb dJ1_charAt_3b067_12 ?_
  refine x_i2c hx hb dJ1_charAt_3b067_13 ?_
  rw [(j_byt k hk j hj).1]
  exact hret _ _ _ _ _ rfl (fun _ hn => by cases hn; exact (j_byt k hk j hj).2) hP hD hS dJ1_charAt_3b067_14

set_option maxHeartbeats 4000000 in
set_option maxRecDepth 100000 in
theorem cj_charAt (l : Launch) (D : va_G) (cI : ClassId) (aS : aSt) (k : Nat) (i : Int32) (R : Int32) (hf : j_charAt k i = some R) : CtI l yJ0_charAt_5068e cJ0_charAt_5068e 2 (some .char) 5 D cI aS [.ref (aS.1 k), .int i] [] [] R := by
  unfold j_charAt at hf
  split at hf
  case isFalse => cases hf
  case isTrue hc =>
  obtain ⟨hk, h0, hj⟩ := hc
  have hR := Option.some.inj hf
  have hlt := j_lenlt k hk
  obtain ⟨j, hj31, rfl⟩ : ∃ j, j < 2 ^ 31 ∧ i = nI j := by
    have e : (i.toNatClampNeg : Int) = i.toInt := by
      have := Int32.le_iff_toInt_le.mp h0
      have z : (0 : Int32).toInt = 0 := by decide
      rw [z] at this
      show (i.toInt.toNat : Int) = _
      omega
    have h31 := Int32.toInt_lt i
    refine ⟨i.toNatClampNeg, by omega, ?_⟩
    apply Int32.toInt_inj.mp
    rw [nI_toInt (by omega), e]
  rw [nI_clamp hj31] at hj hR
  subst hR
  refine ctI_of (by decide) ⟨_, rfl⟩ (Nat.le_of_ble_eq_true rfl) ?_
  intro p e s m below meth c A Q ls X hret hP hD hl
  have hS : va_S A s.heap s.heap [] := va_S.rf
  have hx := X.1
  have hb := X.2.1
  have hG := X.2.2.2.2.2.2.2.2.1
  have hl : lv_has ls 2 [(0, .ref (aS.1 k)), (1, .int (nI j))] := hl
  refine lv_aload_n hx hb dJ0_charAt_5068e_0 rfl (lv_at hl 0 rfl) ?_
  refine ro_i X hP hD hS [] rfl (run_J X hP hD hS (cj_isLatin1 l D cI aS k hk _) hk lkJ_isLatin1 (by decide) rfl rfl (Nat.le_of_ble_eq_true rfl) hl.1 dJ0_charAt_5068e_1) (fun H locs hP hS => ?_)
  refine lv_if_eq (tgt := 16) hx hb dJ0_charAt_5068e_4 (by decide) (fun h => absurd h (by decide)) (fun _ => ?_)
  refine lv_aload_n hx hb dJ0_charAt_5068e_7 rfl (lv_at hl 0 rfl) ?_
  refine vk_getf hx hb (hG.1.1 k hk).2.2.1 hS X.2.2.2.2.1 (X.hts jw_1310) (fun _ h => h) dJ0_charAt_5068e_8 ?_
  refine lv_iload_n hx hb dJ0_charAt_5068e_11 rfl (lv_at hl 1 rfl) ?_
  refine ro_i X hP hD hS [] rfl (run_JS X hP hD hS (cj_lcharAt l D cI aS k hk j hj _) lkJ_lcharAt (by decide) rfl rfl (Nat.le_of_ble_eq_true rfl) hl.1 dJ0_charAt_5068e_12) (fun H locs hP hS => ?_)
  exact hret _ _ _ _ _ rfl (fun _ hn => by cases hn; exact (j_byt k hk j hj).2) hP hD hS dJ0_charAt_5068e_15

set_option maxHeartbeats 4000000 in
set_option maxRecDepth 100000 in
theorem cj_canEncode (l : Launch) (D : va_G) (cI : ClassId) (aS : aSt) (c0 : Int32) (h1 : ¬ c0 < 0) (h2 : ¬ 255 < c0) : CtI l yJ1_canEncode_9a6ad cJ1_canEncode_9a6ad 1 (some .boolean) 0 D cI aS [.int c0] [] [] 1 := by
  refine ctI_of (by decide) ⟨_, rfl⟩ (Nat.le_of_ble_eq_true rfl) ?_
  intro p e s m below meth c A Q ls X hret hP hD hl
  have hS : va_S A s.heap s.heap [] := va_S.rf
  have hx := X.1
  have hb := X.2.1
  have hG := X.2.2.2.2.2.2.2.2.1
  have hl : lv_has ls 1 [(0, .int c0)] := hl
  refine lv_iload_n hx hb dJ1_canEncode_9a6ad_0 rfl (lv_at hl 0 rfl) ?_
  refine lv_if_lt (tgt := 15) hx hb dJ1_canEncode_9a6ad_1 (by decide) (fun h => absurd h h1) (fun _ => ?_)
  refine lv_iload_n hx hb dJ1_canEncode_9a6ad_4 rfl (lv_at hl 0 rfl) ?_
  refine lv_sipush (v := 255) hx hb dJ1_canEncode_9a6ad_5 (by decide) ?_
  refine lv_icmp_gt (tgt := 15) hx hb dJ1_canEncode_9a6ad_8 (by decide) (fun h => absurd h h2) (fun _ => ?_)
  refine lv_iconst (v := 1) hx hb dJ1_canEncode_9a6ad_11 (by decide) ?_
  refine lv_goto (tgt := 16) hx hb dJ1_canEncode_9a6ad_12 (by decide) ?_
  exact hret 1 _ _ _ _ rfl (fun _ hn => by cases hn; rfl) hP hD hS dJ1_canEncode_9a6ad_16

theorem j_eqb0 : ∀ n, n < 256 → ∀ j, j < 6 → ((wByt.getD 7 []).getD j 0 = (nI n).toInt8.toInt32 ↔ (wByt.getD 7 []).getD j 0 = nI n) := by decide +kernel
theorem j_bytes {c : Int32} (h1 : ¬ c < 0) (h2 : ¬ 255 < c) : ∃ n, n < 256 ∧ c = nI n := by
  have a1 : (0 : Int32).toInt = 0 := by decide
  have a2 : (255 : Int32).toInt = 255 := by decide
  rw [Int32.lt_iff_toInt_lt, a1] at h1
  rw [Int32.lt_iff_toInt_lt, a2] at h2
  refine ⟨c.toInt.toNat, by omega, ?_⟩
  apply Int32.toInt_inj.mp
  rw [nI_toInt (by omega)]
  omega
theorem j_eqb {c : Int32} (h1 : ¬ c < 0) (h2 : ¬ 255 < c) (j : Nat) (hj : j < 6) : ((wByt.getD 7 []).getD j 0 = c.toInt8.toInt32 ↔ (wByt.getD 7 []).getD j 0 = c) := by
  obtain ⟨n, hn, rfl⟩ := j_bytes h1 h2
  exact j_eqb0 n hn j hj
theorem j_ixStep (c : Int32) : ∀ j, j < 6 → j_ixF c (([97, 112, 103, 116, 102, 100] : List Int32).drop j) j = if (wByt.getD 7 []).getD j 0 = c then nI j else j_ixF c (([97, 112, 103, 116, 102, 100] : List Int32).drop (j + 1)) (j + 1) := by
  intro j hj
  rcases (show j = 0 ∨ j = 1 ∨ j = 2 ∨ j = 3 ∨ j = 4 ∨ j = 5 by omega) with rfl | rfl | rfl | rfl | rfl | rfl <;> rfl

set_option maxHeartbeats 4000000 in
set_option maxRecDepth 100000 in
theorem cj_indexOfChar (l : Launch) (D : va_G) (cI : ClassId) (aS : aSt) (c0 : Int32) (h1 : ¬ c0 < 0) (h2 : ¬ 255 < c0) : CtI l yJ1_indexOfChar_4cfef cJ1_indexOfChar_4cfef 6 (some .int) 0 D cI aS [.ref (aS.2 7), .int c0, .int 0, .int 6] [] [] (j_ixF c0 [97, 112, 103, 116, 102, 100] 0) := by
  refine ctI_of (by decide) ⟨_, rfl⟩ (Nat.le_of_ble_eq_true rfl) ?_
  intro p e s m below meth c A Q ls X hret hP hD hl
  have hS : va_S A s.heap s.heap [] := va_S.rf
  have hx := X.1
  have hb := X.2.1
  have hG := X.2.2.2.2.2.2.2.2.1
  have hl : lv_has ls 6 [(0, .ref (aS.2 7)), (1, .int c0), (2, .int 0), (3, .int 6)] := hl
  refine lv_iload_n hx hb dJ1_indexOfChar_4cfef_0 rfl (lv_at hl 1 rfl) ?_
  refine lv_i2b hx hb dJ1_indexOfChar_4cfef_1 rfl ?_
  refine lv_istore (lv' := [(4, .int c0.toInt8.toInt32), (0, .ref (aS.2 7)), (1, .int c0), (2, .int 0), (3, .int 6)]) hx hb dJ1_indexOfChar_4cfef_2 hl (by decide) rfl (fun ls hl => ?_)
  refine lv_iload_n hx hb dJ1_indexOfChar_4cfef_4 rfl (lv_at hl 3 rfl) ?_
  refine lv_istore (lv' := [(5, .int 0), (4, .int c0.toInt8.toInt32), (0, .ref (aS.2 7)), (1, .int c0), (2, .int 0), (3, .int 6)]) hx hb dJ1_indexOfChar_4cfef_5 hl (by decide) rfl (fun ls hl => ?_)
  have key : ∀ (d j : Nat), j + d = 6 → j_ixF c0 (([97, 112, 103, 116, 102, 100] : List Int32).drop j) j = j_ixF c0 [97, 112, 103, 116, 102, 100] 0 → ∀ ls : Array Slot, lv_has ls 6 [(5, .int (nI j)), (4, .int c0.toInt8.toInt32), (0, .ref (aS.2 7)), (3, .int 6)] → Wh p l e 0 s m ([Value.ref (aS.2 7), Value.int c0, Value.int 0, Value.int 6] : List Value).toArray below meth c s.heap [] Q (F0 m 7 ls []) := by
    intro d
    induction d with
    | zero =>
      intro j hj hv ls hl
      obtain rfl : j = 6 := by omega
      refine lv_iload hx hb dJ1_indexOfChar_4cfef_7 (lv_at hl 0 rfl) ?_
      refine lv_iload_n hx hb dJ1_indexOfChar_4cfef_9 rfl (lv_at hl 3 rfl) ?_
      refine lv_icmp_ge (tgt := 31) hx hb dJ1_indexOfChar_4cfef_10 (by decide) (fun _ => ?_) (fun h => absurd (by decide) h)
      refine lv_iconst (v := -1) hx hb dJ1_indexOfChar_4cfef_31 (by decide) ?_
      exact hret _ _ _ _ _ hv (fun _ hn => by cases hn; rfl) hP hD hS dJ1_indexOfChar_4cfef_32
    | succ d ih =>
      intro j hj hv ls hl
      rw [j_ixStep c0 j (by omega)] at hv
      refine lv_iload hx hb dJ1_indexOfChar_4cfef_7 (lv_at hl 0 rfl) ?_
      refine lv_iload_n hx hb dJ1_indexOfChar_4cfef_9 rfl (lv_at hl 3 rfl) ?_
      refine lv_icmp_ge (tgt := 31) hx hb dJ1_indexOfChar_4cfef_10 (by decide) (fun h => absurd h (nI_ge (b := 6) (by omega) (by omega))) (fun _ => ?_)
      refine lv_aload_n hx hb dJ1_indexOfChar_4cfef_13 rfl (lv_at hl 2 rfl) ?_
      refine lv_iload hx hb dJ1_indexOfChar_4cfef_14 (lv_at hl 0 rfl) ?_
      refine va_tb hx hb (hG.1.1 7 (by decide)).2.2.2 hS (i := nI j) (v := .int ((wByt.getD 7 []).getD j 0)) (vp_in_nI (show j < 6 by omega) (by decide)) (by rw [nI_clamp (by omega)]) dJ1_indexOfChar_4cfef_16 ?_
      refine lv_iload hx hb dJ1_indexOfChar_4cfef_17 (lv_at hl 1 rfl) ?_
      refine lv_icmp_ne (tgt := 25) hx hb dJ1_indexOfChar_4cfef_19 (by decide) (fun h => ?_) (fun h => ?_)
      · rw [if_neg (fun z => h ((j_eqb h1 h2 j (by omega)).mpr z))] at hv
        refine lv_iinc (v := nI (j + 1)) (lv' := [(5, .int (nI (j + 1))), (4, .int c0.toInt8.toInt32), (0, .ref (aS.2 7)), (3, .int 6)]) hx hb dJ1_indexOfChar_4cfef_25 hl (k := 0) rfl (nI_succ j).symm (by decide) rfl (fun ls hl => ?_)
        refine lv_goto (tgt := 7) hx hb dJ1_indexOfChar_4cfef_28 (by decide) ?_
        exact ih (j + 1) (by omega) hv ls hl
      · rw [if_pos ((j_eqb h1 h2 j (by omega)).mp h)] at hv
        refine lv_iload hx hb dJ1_indexOfChar_4cfef_22 (lv_at hl 0 rfl) ?_
        exact hret _ _ _ _ _ hv (fun _ hn => by cases hn; rfl) hP hD hS dJ1_indexOfChar_4cfef_24
  exact key 6 0 rfl rfl ls (lv_sub hl [0, 1, 2, 5] rfl)

set_option maxHeartbeats 4000000 in
set_option maxRecDepth 100000 in
theorem cj_lindexOf (l : Launch) (D : va_G) (cI : ClassId) (aS : aSt) (c0 : Int32) (h1 : ¬ c0 < 0) (h2 : ¬ 255 < c0) : CtI l yJ1_indexOf_4cfef cJ1_indexOf_4cfef 4 (some .int) 1 D cI aS [.ref (aS.2 7), .int c0, .int 0, .int 6] [] [] (j_ixF c0 [97, 112, 103, 116, 102, 100] 0) := by
  refine ctI_of (by decide) ⟨_, rfl⟩ (Nat.le_of_ble_eq_true rfl) ?_
  intro p e s m below meth c A Q ls X hret hP hD hl
  have hS : va_S A s.heap s.heap [] := va_S.rf
  have hx := X.1
  have hb := X.2.1
  have hG := X.2.2.2.2.2.2.2.2.1
  have hl : lv_has ls 4 [(0, .ref (aS.2 7)), (1, .int c0), (2, .int 0), (3, .int 6)] := hl
  refine lv_iload_n hx hb dJ1_indexOf_4cfef_0 rfl (lv_at hl 1 rfl) ?_
  refine ro_i X hP hD hS [] rfl (run_JS X hP hD hS (cj_canEncode l D cI aS c0 h1 h2 _) lkJ_canEncode (by decide) rfl rfl (Nat.le_of_ble_eq_true rfl) hl.1 dJ1_indexOf_4cfef_1) (fun H locs hP hS => ?_)
  refine lv_if_ne (tgt := 9) hx hb dJ1_indexOf_4cfef_4 (by decide) (fun _ => ?_) (fun h => absurd h (by decide))
  refine lv_iload_n hx hb dJ1_indexOf_4cfef_9 rfl (lv_at hl 2 rfl) ?_
  refine lv_iconst (v := 0) hx hb dJ1_indexOf_4cfef_10 (by decide) ?_
  refine x_mmax X jw_382 jw_136 jw_105 jw_137 (by decide) hl.1 (Nat.le_of_ble_eq_true rfl) dJ1_indexOf_4cfef_11 ?_
  refine lv_istore_n (lv' := [(2, .int 0), (0, .ref (aS.2 7)), (1, .int c0), (3, .int 6)]) hx hb dJ1_indexOf_4cfef_14 rfl hl (by decide) rfl (fun ls hl => ?_)
  refine lv_iload_n hx hb dJ1_indexOf_4cfef_15 rfl (lv_at hl 3 rfl) ?_
  refine lv_aload_n hx hb dJ1_indexOf_4cfef_16 rfl (lv_at hl 1 rfl) ?_
  refine va_tlen hx hb (hG.1.1 7 (by decide)).2.2.2 hS (v := 6) rfl dJ1_indexOf_4cfef_17 ?_
  refine x_mmin X jw_383 jw_384 jw_105 jw_385 (by decide) hl.1 (Nat.le_of_ble_eq_true rfl) dJ1_indexOf_4cfef_18 ?_
  refine lv_istore_n (lv' := [(3, .int 6), (2, .int 0), (0, .ref (aS.2 7)), (1, .int c0)]) hx hb dJ1_indexOf_4cfef_21 rfl hl (by decide) rfl (fun ls hl => ?_)
  refine lv_iload_n hx hb dJ1_indexOf_4cfef_22 rfl (lv_at hl 1 rfl) ?_
  refine lv_iload_n hx hb dJ1_indexOf_4cfef_23 rfl (lv_at hl 0 rfl) ?_
  refine lv_icmp_lt (tgt := 29) hx hb dJ1_indexOf_4cfef_24 (by decide) (fun _ => ?_) (fun h => absurd (by decide) h)
  refine lv_aload_n hx hb dJ1_indexOf_4cfef_29 rfl (lv_at hl 2 rfl) ?_
  refine lv_iload_n hx hb dJ1_indexOf_4cfef_30 rfl (lv_at hl 3 rfl) ?_
  refine lv_iload_n hx hb dJ1_indexOf_4cfef_31 rfl (lv_at hl 1 rfl) ?_
  refine lv_iload_n hx hb dJ1_indexOf_4cfef_32 rfl (lv_at hl 0 rfl) ?_
  refine ro_i X hP hD hS [] rfl (run_JS X hP hD hS (cj_indexOfChar l D cI aS c0 h1 h2 _) lkJ_indexOfChar (by decide) rfl rfl (Nat.le_of_ble_eq_true rfl) hl.1 dJ1_indexOf_4cfef_33) (fun H locs hP hS => ?_)
  exact hret _ _ _ _ _ rfl (fun _ hn => by cases hn; rfl) hP hD hS dJ1_indexOf_4cfef_36

set_option maxHeartbeats 4000000 in
set_option maxRecDepth 100000 in
theorem cj_indexOf2 (l : Launch) (D : va_G) (cI : ClassId) (aS : aSt) (c0 : Int32) (h1 : ¬ c0 < 0) (h2 : ¬ 255 < c0) : CtI l yJ0_indexOf_7cf53 cJ0_indexOf_7cf53 3 (some .int) 3 D cI aS [.ref (aS.1 7), .int c0, .int 0] [] [] (j_ixF c0 [97, 112, 103, 116, 102, 100] 0) := by
  refine ctI_of (by decide) ⟨_, rfl⟩ (Nat.le_of_ble_eq_true rfl) ?_
  intro p e s m below meth c A Q ls X hret hP hD hl
  have hS : va_S A s.heap s.heap [] := va_S.rf
  have hx := X.1
  have hb := X.2.1
  have hG := X.2.2.2.2.2.2.2.2.1
  have hl : lv_has ls 3 [(0, .ref (aS.1 7)), (1, .int c0), (2, .int 0)] := hl
  refine lv_aload_n hx hb dJ0_indexOf_7cf53_0 rfl (lv_at hl 0 rfl) ?_
  refine ro_i X hP hD hS [] rfl (run_J X hP hD hS (cj_isLatin1 l D cI aS 7 (by decide) _) (by decide) lkJ_isLatin1 (by decide) rfl rfl (Nat.le_of_ble_eq_true rfl) hl.1 dJ0_indexOf_7cf53_1) (fun H locs hP hS => ?_)
  refine lv_if_eq (tgt := 23) hx hb dJ0_indexOf_7cf53_4 (by decide) (fun h => absurd h (by decide)) (fun _ => ?_)
  refine lv_aload_n hx hb dJ0_indexOf_7cf53_7 rfl (lv_at hl 0 rfl) ?_
  refine vk_getf hx hb (hG.1.1 7 (by decide)).2.2.1 hS X.2.2.2.2.1 (X.hts jw_1310) (fun _ h => h) dJ0_indexOf_7cf53_8 ?_
  refine lv_iload_n hx hb dJ0_indexOf_7cf53_11 rfl (lv_at hl 1 rfl) ?_
  refine lv_iload_n hx hb dJ0_indexOf_7cf53_12 rfl (lv_at hl 2 rfl) ?_
  refine lv_aload_n hx hb dJ0_indexOf_7cf53_13 rfl (lv_at hl 0 rfl) ?_
  refine ro_i X hP hD hS [] rfl (run_J X hP hD hS (cj_lengthH l D cI aS 1 (by decide) 7 (by decide) _) (by decide) lkJ_length (by decide) rfl rfl (Nat.le_of_ble_eq_true rfl) hl.1 dJ0_indexOf_7cf53_14) (fun H locs hP hS => ?_)
  refine ro_i X hP hD hS [] rfl (run_JS (As := [.ref (aS.2 7), .int c0, .int 0, .int 6]) X hP hD hS (cj_lindexOf l D cI aS c0 h1 h2 _) lkJ_lindexOf (by decide) rfl rfl (Nat.le_of_ble_eq_true rfl) hl.1 dJ0_indexOf_7cf53_17) (fun H locs hP hS => ?_)
  refine lv_goto (tgt := 36) hx hb dJ0_indexOf_7cf53_20 (by decide) ?_
  exact hret _ _ _ _ _ rfl (fun _ hn => by cases hn; rfl) hP hD hS dJ0_indexOf_7cf53_36

set_option maxHeartbeats 4000000 in
set_option maxRecDepth 100000 in
theorem cj_indexOf (l : Launch) (D : va_G) (cI : ClassId) (aS : aSt) (k : Nat) (c0 : Int32) (R : Int32) (hf : j_indexOf k c0 = some R) : CtI l yJ0_indexOf_0f7a4 cJ0_indexOf_0f7a4 2 (some .int) 5 D cI aS [.ref (aS.1 k), .int c0] [] [] R := by
  unfold j_indexOf at hf
  split at hf
  case isFalse => cases hf
  case isTrue hc =>
  obtain ⟨rfl, g1, g2⟩ := hc
  have hR := Option.some.inj hf
  subst hR
  have h1 : ¬ c0 < 0 := Int32.not_lt.mpr g1
  have h2 : ¬ 255 < c0 := Int32.not_lt.mpr g2
  refine ctI_of (by decide) ⟨_, rfl⟩ (Nat.le_of_ble_eq_true rfl) ?_
  intro p e s m below meth c A Q ls X hret hP hD hl
  have hS : va_S A s.heap s.heap [] := va_S.rf
  have hx := X.1
  have hb := X.2.1
  have hG := X.2.2.2.2.2.2.2.2.1
  have hl : lv_has ls 2 [(0, .ref (aS.1 7)), (1, .int c0)] := hl
  refine lv_aload_n hx hb dJ0_indexOf_0f7a4_0 rfl (lv_at hl 0 rfl) ?_
  refine lv_iload_n hx hb dJ0_indexOf_0f7a4_1 rfl (lv_at hl 1 rfl) ?_
  refine lv_iconst (v := 0) hx hb dJ0_indexOf_0f7a4_2 (by decide) ?_
  refine ro_i X hP hD hS [] rfl (run_J X hP hD hS (cj_indexOf2 l D cI aS c0 h1 h2 _) (by decide) lkJ_indexOf2 (by decide) rfl rfl (Nat.le_of_ble_eq_true rfl) hl.1 dJ0_indexOf_0f7a4_3) (fun H locs hP hS => ?_)
  exact hret _ _ _ _ _ rfl (fun _ hn => by cases hn; rfl) hP hD hS dJ0_indexOf_0f7a4_6

set_option maxHeartbeats 4000000 in
set_option maxRecDepth 100000 in
theorem cj_bitCount (l : Launch) (D : va_G) (cI : ClassId) (aS : aSt) (x : Int32) (R : Int32) (hf : j_bitCount x = some R) : CtI l yJ6_bitCount_0f7a4 cJ6_bitCount_0f7a4 1 (some .int) 5 D cI aS [.int x] [] [] R := by
  have hR := Option.some.inj hf
  refine ctI_of (by decide) ⟨_, rfl⟩ (Nat.le_of_ble_eq_true rfl) ?_
  intro p e s m below meth c A Q ls X hret hP hD hl
  have hS : va_S A s.heap s.heap [] := va_S.rf
  have hx := X.1
  have hb := X.2.1
  have hG := X.2.2.2.2.2.2.2.2.1
  have hl : lv_has ls 1 [(0, .int x)] := hl
  refine lv_iload_n hx hb dJ6_bitCount_0f7a4_0 rfl (lv_at hl 0 rfl) ?_
  refine lv_iload_n hx hb dJ6_bitCount_0f7a4_1 rfl (lv_at hl 0 rfl) ?_
  refine lv_iconst (v := 1) hx hb dJ6_bitCount_0f7a4_2 (by decide) ?_
  refine lv_iushr hx hb dJ6_bitCount_0f7a4_3 rfl ?_
  refine lv_ldcw (v := 1431655765) hx hb X.2.2.2.2.1 (X.hts jw_668) dJ6_bitCount_0f7a4_4 ?_
  refine lv_iand hx hb dJ6_bitCount_0f7a4_7 ?_
  refine lv_isub hx hb dJ6_bitCount_0f7a4_8 ?_
  refine lv_istore_n (lv' := [(0, .int (j_bc1 x))]) hx hb dJ6_bitCount_0f7a4_9 rfl hl (by decide) rfl (fun ls hl => ?_)
  refine lv_iload_n hx hb dJ6_bitCount_0f7a4_10 rfl (lv_at hl 0 rfl) ?_
  refine lv_ldcw (v := 858993459) hx hb X.2.2.2.2.1 (X.hts jw_669) dJ6_bitCount_0f7a4_11 ?_
  refine lv_iand hx hb dJ6_bitCount_0f7a4_14 ?_
  refine lv_iload_n hx hb dJ6_bitCount_0f7a4_15 rfl (lv_at hl 0 rfl) ?_
  refine lv_iconst (v := 2) hx hb dJ6_bitCount_0f7a4_16 (by decide) ?_
  refine lv_iushr hx hb dJ6_bitCount_0f7a4_17 rfl ?_
  refine lv_ldcw (v := 858993459) hx hb X.2.2.2.2.1 (X.hts jw_669) dJ6_bitCount_0f7a4_18 ?_
  refine lv_iand hx hb dJ6_bitCount_0f7a4_21 ?_
  refine lv_iadd hx hb dJ6_bitCount_0f7a4_22 ?_
  refine lv_istore_n (lv' := [(0, .int (j_bc2 (j_bc1 x)))]) hx hb dJ6_bitCount_0f7a4_23 rfl hl (by decide) rfl (fun ls hl => ?_)
  refine lv_iload_n hx hb dJ6_bitCount_0f7a4_24 rfl (lv_at hl 0 rfl) ?_
  refine lv_iload_n hx hb dJ6_bitCount_0f7a4_25 rfl (lv_at hl 0 rfl) ?_
  refine lv_iconst (v := 4) hx hb dJ6_bitCount_0f7a4_26 (by decide) ?_
  refine lv_iushr hx hb dJ6_bitCount_0f7a4_27 rfl ?_
  refine lv_iadd hx hb dJ6_bitCount_0f7a4_28 ?_
  refine lv_ldcw (v := 252645135) hx hb X.2.2.2.2.1 (X.hts jw_670) dJ6_bitCount_0f7a4_29 ?_
  refine lv_iand hx hb dJ6_bitCount_0f7a4_32 ?_
  refine lv_istore_n (lv' := [(0, .int (j_bc3 (j_bc2 (j_bc1 x))))]) hx hb dJ6_bitCount_0f7a4_33 rfl hl (by decide) rfl (fun ls hl => ?_)
  refine lv_iload_n hx hb dJ6_bitCount_0f7a4_34 rfl (lv_at hl 0 rfl) ?_
  refine lv_iload_n hx hb dJ6_bitCount_0f7a4_35 rfl (lv_at hl 0 rfl) ?_
  refine lv_bipush (v := 8) hx hb dJ6_bitCount_0f7a4_36 (by decide) ?_
  refine lv_iushr hx hb dJ6_bitCount_0f7a4_38 rfl ?_
  refine lv_iadd hx hb dJ6_bitCount_0f7a4_39 ?_
  refine lv_istore_n (lv' := [(0, .int (j_bc4 (j_bc3 (j_bc2 (j_bc1 x)))))]) hx hb dJ6_bitCount_0f7a4_40 rfl hl (by decide) rfl (fun ls hl => ?_)
  refine lv_iload_n hx hb dJ6_bitCount_0f7a4_41 rfl (lv_at hl 0 rfl) ?_
  refine lv_iload_n hx hb dJ6_bitCount_0f7a4_42 rfl (lv_at hl 0 rfl) ?_
  refine lv_bipush (v := 16) hx hb dJ6_bitCount_0f7a4_43 (by decide) ?_
  refine lv_iushr hx hb dJ6_bitCount_0f7a4_45 rfl ?_
  refine lv_iadd hx hb dJ6_bitCount_0f7a4_46 ?_
  refine lv_istore_n (lv' := [(0, .int (j_bc5 (j_bc4 (j_bc3 (j_bc2 (j_bc1 x))))))]) hx hb dJ6_bitCount_0f7a4_47 rfl hl (by decide) rfl (fun ls hl => ?_)
  refine lv_iload_n hx hb dJ6_bitCount_0f7a4_48 rfl (lv_at hl 0 rfl) ?_
  refine lv_bipush (v := 63) hx hb dJ6_bitCount_0f7a4_49 (by decide) ?_
  refine lv_iand hx hb dJ6_bitCount_0f7a4_51 ?_
  exact hret _ _ _ _ _ hR (fun _ hn => by cases hn; rfl) hP hD hS dJ6_bitCount_0f7a4_52
