/-! Behind a call that wrote many cells: the new world told by its places. -/
theorem wP_q {A : Nat → Prop} {D : va_G} {cl : List vw_C} {ws wc w1 ws' : va_W} {H H1 : Heap} (hP : va_P D cl ws H) (hD : va_D A ws) (isC isR : List Nat) (hC : isC.map (fun i => ws[i]?) = wc.map some) (hW : isC.map (fun i => ws'[i]?) = w1.map some) (hR : ∀ i ∈ isR, ∃ c, ws[i]? = some c ∧ ws'[i]? = some c) {N : Nat} (hN : ws'.length = N) (hall : (List.range N).all (fun k => isC.contains k || isR.contains k) = true) (hdis : isR.all (fun k => !isC.contains k) = true)
    (hk : ∀ q : Nat, q < H.size → ¬ va_A wc H.size q → H1[q]? = H[q]?) (hP1 : va_P D cl w1 H1) : va_P D cl ws' H1 := by
  intro k q hq
  have hlt : k < N := by rw [← hN]; exact (List.getElem?_eq_some_iff.mp hq).1
  have z := List.all_eq_true.mp hall k (List.mem_range.mpr hlt)
  simp only [Bool.or_eq_true, List.contains_iff_mem] at z
  rcases z with z | z
  · obtain ⟨j, hj⟩ := List.getElem?_of_mem z
    have e2 := congrArg (fun l => l[j]?) hW
    simp only [List.getElem?_map, hj, Option.map_some, hq] at e2
    cases hw : w1[j]? with
    | none => rw [hw] at e2; cases e2
    | some x =>
      rw [hw] at e2
      have e3 : q = x := Option.some.inj (Option.some.inj e2)
      rw [e3]
      exact hP1 j x hw
  · obtain ⟨c, h1, h2⟩ := hR k z
    rw [hq] at h2
    obtain rfl := Option.some.inj h2
    refine (hP k q h1).kept (hk q.1 (hP k q h1).lt ?_)
    rintro (⟨j, e, hj⟩ | hge)
    · have e2 := congrArg (fun l => l[j]?) hC
      simp only [List.getElem?_map, hj, Option.map_some] at e2
      cases hi : isC[j]? with
      | none => rw [hi] at e2; cases e2
      | some i =>
        rw [hi] at e2
        have e3 : ws[i]? = some (q.1, e) := Option.some.inj e2
        have e4 := hD.1 k i q (q.1, e) h1 e3 rfl
        have z2 := List.all_eq_true.mp hdis k z
        simp only [Bool.not_eq_true', ← Bool.not_eq_true, List.contains_iff_mem] at z2
        exact z2 (e4 ▸ List.mem_of_getElem? hi)
    · exact absurd (hP k q h1).lt (Nat.not_lt.mpr hge)
theorem wk_c {ws ws' : va_W} {i : Nat} {is : List Nat} (h : ∃ c, ws[i]? = some c ∧ ws'[i]? = some c) (t : ∀ i ∈ is, ∃ c, ws[i]? = some c ∧ ws'[i]? = some c) : ∀ j ∈ i :: is, ∃ c, ws[j]? = some c ∧ ws'[j]? = some c := List.forall_mem_cons.mpr ⟨h, t⟩
theorem wk_n {ws ws' : va_W} : ∀ i ∈ ([] : List Nat), ∃ c, ws[i]? = some c ∧ ws'[i]? = some c := fun _ h => absurd h List.not_mem_nil
section WQX
variable {p : Program} {l : Launch} {e : Env} {h : Nat} {s : State} {m : MethodId} {args : Array Value} {below : List Frame} {meth : Method} {c : Code} {H : Heap} {locs : List Loc} {Q : State → Prop}
variable {cc : ByteArray} {nL : Nat} {ret : Option FieldType} {own : String} {D : va_G} {cI : ClassId} {aS : aSt} {A : Nat → Prop} {pc : Nat} {ls : Array Slot} {rest : List Value} {ws wc w1 ws' : va_W} {a : Nat}
theorem wq_i {av : Array Value} {rv : Int32} {st0 : List Value} (X : Bx p s m args meth c cc nL ret own D cI aS A) (hP : va_P D vwCl ws H) (hD : va_D A ws) (hS : va_S A s.heap H locs) (isC isR : List Nat) (hC : isC.map (fun i => ws[i]?) = wc.map some) (hW : isC.map (fun i => ws'[i]?) = w1.map some) (hR : ∀ i ∈ isR, ∃ c, ws[i]? = some c ∧ ws'[i]? = some c) {N : Nat} (hN : ws'.length = N) (hall : (List.range N).all (fun k => isC.contains k || isR.contains k) = true) (hdis : isR.all (fun k => !isC.contains k) = true) (hf : ws'.map Prod.fst = ws.map Prod.fst)
    (hr : va_Run p l e (rmH h) s m args below meth c H locs 0 0 0 0 (F0 m pc ls st0) rest (qI D wc w1 rv H.size av) (va_A wc H.size))
    (kk : ∀ (H1 : Heap) (locs1 : List Loc), va_P D vwCl ws' H1 → va_D A ws' → va_S A s.heap H1 locs1 → Wh p l e h s m args below meth c H1 locs1 Q (F0 m (pc + 3) ls (.int rv :: rest))) : Wh p l e h s m args below meth c H locs Q (F0 m pc ls st0) := by
  have hF := X.free hD hS isC hC
  refine va_calli hr hS (fun q _ h => hF q h) hF (fun r u t H1 locs1 ht hvm hw hB hz1 hk1 hS1 => ?_)
  have e : r = rv := hw
  subst e
  exact kk H1 locs1 (wP_q hP hD isC isR hC hW hR hN hall hdis hk1 (ht ▸ hB.1)) (wD_congr hf hD) hS1
theorem wq_l {av : Array Value} {rv : Int64} {st0 : List Value} (X : Bx p s m args meth c cc nL ret own D cI aS A) (hP : va_P D vwCl ws H) (hD : va_D A ws) (hS : va_S A s.heap H locs) (isC isR : List Nat) (hC : isC.map (fun i => ws[i]?) = wc.map some) (hW : isC.map (fun i => ws'[i]?) = w1.map some) (hR : ∀ i ∈ isR, ∃ c, ws[i]? = some c ∧ ws'[i]? = some c) {N : Nat} (hN : ws'.length = N) (hall : (List.range N).all (fun k => isC.contains k || isR.contains k) = true) (hdis : isR.all (fun k => !isC.contains k) = true) (hf : ws'.map Prod.fst = ws.map Prod.fst)
    (hr : va_Run p l e (rmH h) s m args below meth c H locs 0 0 0 0 (F0 m pc ls st0) rest (qL D wc w1 rv H.size av) (va_A wc H.size))
    (kk : ∀ (H1 : Heap) (locs1 : List Loc), va_P D vwCl ws' H1 → va_D A ws' → va_S A s.heap H1 locs1 → Wh p l e h s m args below meth c H1 locs1 Q (F0 m (pc + 3) ls (.long rv :: rest))) : Wh p l e h s m args below meth c H locs Q (F0 m pc ls st0) := by
  have hF := X.free hD hS isC hC
  refine va_calll hr hS (fun q _ h => hF q h) hF (fun r u t H1 locs1 ht hvm hw hB hz1 hk1 hS1 => ?_)
  have e : r = rv := hw
  subst e
  exact kk H1 locs1 (wP_q hP hD isC isR hC hW hR hN hall hdis hk1 (ht ▸ hB.1)) (wD_congr hf hD) hS1
theorem wq_v {av : Array Value} {st0 : List Value} (X : Bx p s m args meth c cc nL ret own D cI aS A) (hP : va_P D vwCl ws H) (hD : va_D A ws) (hS : va_S A s.heap H locs) (isC isR : List Nat) (hC : isC.map (fun i => ws[i]?) = wc.map some) (hW : isC.map (fun i => ws'[i]?) = w1.map some) (hR : ∀ i ∈ isR, ∃ c, ws[i]? = some c ∧ ws'[i]? = some c) {N : Nat} (hN : ws'.length = N) (hall : (List.range N).all (fun k => isC.contains k || isR.contains k) = true) (hdis : isR.all (fun k => !isC.contains k) = true) (hf : ws'.map Prod.fst = ws.map Prod.fst)
    (hr : va_Run p l e (rmH h) s m args below meth c H locs 0 0 0 0 (F0 m pc ls st0) rest (qV D wc w1 H.size av) (va_A wc H.size))
    (kk : ∀ (H1 : Heap) (locs1 : List Loc), va_P D vwCl ws' H1 → va_D A ws' → va_S A s.heap H1 locs1 → Wh p l e h s m args below meth c H1 locs1 Q (F0 m (pc + 3) ls rest)) : Wh p l e h s m args below meth c H locs Q (F0 m pc ls st0) := by
  have hF := X.free hD hS isC hC
  refine va_callv hr hS (fun q _ h => hF q h) hF (fun u t H1 locs1 ht hvm hw hB hz1 hk1 hS1 => ?_)
  exact kk H1 locs1 (wP_q hP hD isC isR hC hW hR hN hall hdis hk1 (ht ▸ hB.1)) (wD_congr hf hD) hS1
end WQX
