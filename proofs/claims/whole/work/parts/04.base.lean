/-! One list of words for all methods; one shape of contract; a call as one row. -/
def wTT : List Cond := lw_tbl.filter goodWord
def wNst : Cond → Bool
  | .fieldLinkNest .. => true
  | .methodLinkNest .. => true
  | _ => false
def wNW : List Cond := lw_tbl.filter wNst
theorem wTT_of {w : Cond} (i : Nat) (h : lw_tbl[i]? = some w) (g : goodWord w = true) : w ∈ wTT := List.mem_filter.mpr ⟨List.mem_of_getElem? h, g⟩
theorem wNW_of {w : Cond} (i : Nat) (h : lw_tbl[i]? = some w) (g : wNst w = true) : w ∈ wNW := List.mem_filter.mpr ⟨List.mem_of_getElem? h, g⟩
theorem wTT_good {w : Cond} (h : w ∈ wTT) : (w.onTables && w.keeps) = true ∨ ∃ ty, w = .arrayClass ty := good_of_word (List.mem_filter.mp h).2
abbrev vwCl : List vw_C := [(RX0, TX0, 9), (RX1, TX1, 1), (RX2, TX2, 7), (RX3, TX3, 2), (RX4, TX4, 10), (RX5, TX5, 25)]
/-- the String constants of the class: place in the file, text -/
def wIdx : List (Nat × String) := [(50, ""), (56, "wk00;"), (58, "x00;"), (60, "s0;"), (62, "t00;"), (64, "f000;"), (66, "y00;"), (74, "apgtfd")]
def wLen : List Nat := [0, 5, 4, 3, 4, 5, 4, 6]
def wByt : List (List Int32) := [[], [119, 107, 48, 48, 59], [120, 48, 48, 59], [115, 48, 59], [116, 48, 48, 59], [102, 48, 48, 48, 59], [121, 48, 48, 59], [97, 112, 103, 116, 102, 100]]
abbrev aSt : Type := (Nat → Nat) × (Nat → Nat)
def wK (D : va_G) (cI : ClassId) (aS : aSt) (U : State) : Prop := va_K D vwCl [(cI, .int)] U ∧ (∀ w ∈ wNW, va_Nw w U) ∧ ∀ (i : Nat) (q : Nat × String), wIdx[i]? = some q → vk_R RX1 q.1 q.2 (aS.1 i) U
def wS (aS : aSt) (A : Nat → Prop) (U : State) (H : Heap) : Prop := vk_S 8 wLen wByt aS.1 aS.2 A U H ∧ va_Z "java/lang/String" "COMPACT_STRINGS" "Z" (.int 1) A U H ∧ va_Zq "jdk/internal/util/Preconditions" "SIOOBE_FORMATTER" "Ljava/util/function/BiFunction;" A U H
theorem wK.warm {D : va_G} {cI : ClassId} {aS : aSt} {s U : State} (hW : s.WarmedH U.vm) (h : wK D cI aS s) : wK D cI aS U := by
  refine ⟨va_K.moved hW.alike h.1, fun w hw => ?_, fun i q hq => vk_R.warm hW (h.2.2 i q hq)⟩
  have g := (List.mem_filter.mp hw).2
  have z := h.2.1 w hw
  cases w <;> first | exact va_Nw.warmF hW z | exact va_Nw.warmM hW z | cases g
theorem wK.calling {D : va_G} {cI : ClassId} {aS : aSt} {U V : State} (hv : U.vm = V.vm) (h : wK D cI aS U) : wK D cI aS V := by
  refine ⟨va_K.moved (by rw [hv]; exact Vm.Alike.refl _) h.1, fun w hw => ?_, fun i q hq => vk_R.same hv.symm (h.2.2 i q hq)⟩
  have g := (List.mem_filter.mp hw).2
  have z := h.2.1 w hw
  cases w <;> first | exact va_Nw.same rfl hv z | cases g
theorem wS.kept {aS : aSt} {A : Nat → Prop} {U : State} {H H1 : Heap} (h : wS aS A U H) (hq : ∀ a : Nat, a < H.size → ¬ A a → H1[a]? = H[a]?) : wS aS A U H1 := ⟨h.1.kept hq, h.2.1.kept hq, h.2.2.kept hq⟩
theorem wS.narrow {aS : aSt} {A B : Nat → Prop} {U : State} {H : Heap} (h : wS aS A U H) (hAB : ∀ q, B q → A q) : wS aS B U H := ⟨h.1.narrow hAB, h.2.1.narrow hAB, h.2.2.narrow hAB⟩
theorem wS.moved {aS : aSt} {A : Nat → Prop} {u U : State} {H : Heap} (hvm : u.vm.Alike U.vm) (h : wS aS A u H) : wS aS A U H := ⟨h.1.moved hvm, h.2.1.moved hvm, h.2.2.moved hvm⟩
def wx (y : MethodName) (cc : ByteArray) (n : Nat) (r : Option FieldType) : List Cond := Cond.code y cc n r :: wTT
def rmH (h : Nat) : Room := { frames := h, cells := 0, slots := 0, locals := 50 * h }
def pcW (D : va_G) (cI : ClassId) (aS : aSt) (As : List Value) (wc : va_W) (sz : Nat) : Array Value → State → Prop := va_Pc As (fun U => U.heap.size = sz ∧ va_P D vwCl wc U.heap ∧ wK D cI aS U ∧ wS aS (va_A wc sz) U U.heap ∧ va_D (fun _ => True) wc)
theorem pcW.blind {D : va_G} {cI : ClassId} {aS : aSt} {As : List Value} {wc : va_W} {sz : Nat} : FrameBlind (pcW D cI aS As wc sz) := fun a U g mk h => ⟨h.1, h.2.1, h.2.2.1, wK.calling (U := U) (V := U.calling g mk a) rfl h.2.2.2.1, wS.moved (u := U) (U := U.calling g mk a) (Vm.Alike.refl U.vm) h.2.2.2.2.1, h.2.2.2.2.2⟩
abbrev bW (D : va_G) (wc w1 : va_W) (sz : Nat) (t : State) : Prop := va_P D vwCl w1 t.heap ∧ va_D (va_A wc sz) w1
abbrev qI (D : va_G) (wc w1 : va_W) (rv : Int32) (sz : Nat) : Array Value → State → Outcome → State → Prop := va_Qi (fun v (_ : Unit) => v = rv) (fun _ t => bW D wc w1 sz t) (va_A wc sz)
abbrev qL (D : va_G) (wc w1 : va_W) (rv : Int64) (sz : Nat) : Array Value → State → Outcome → State → Prop := va_Ql (fun v (_ : Unit) => v = rv) (fun _ t => bW D wc w1 sz t) (va_A wc sz)
abbrev qV (D : va_G) (wc w1 : va_W) (sz : Nat) : Array Value → State → Outcome → State → Prop := va_Qv (fun (_ : Unit) => True) (fun _ t => bW D wc w1 sz t) (va_A wc sz)
abbrev qR (D : va_G) (wc w1 : va_W) (rv : Nat) (sz : Nat) : Array Value → State → Outcome → State → Prop := va_Qr (fun (_ : Unit) => True) (fun _ a t => a = rv ∧ bW D wc w1 sz t) (va_A wc sz)
def CtI (l : Launch) (y : MethodName) (cc : ByteArray) (n : Nat) (r : Option FieldType) (h : Nat) (D : va_G) (cI : ClassId) (aS : aSt) (As : List Value) (wc w1 : va_W) (rv : Int32) : Prop := ∀ sz : Nat, Met l y (wx y cc n r) (rmH h) (pcW D cI aS As wc sz) (qI D wc w1 rv sz) 0 0 (va_A wc sz)
def CtL (l : Launch) (y : MethodName) (cc : ByteArray) (n : Nat) (r : Option FieldType) (h : Nat) (D : va_G) (cI : ClassId) (aS : aSt) (As : List Value) (wc w1 : va_W) (rv : Int64) : Prop := ∀ sz : Nat, Met l y (wx y cc n r) (rmH h) (pcW D cI aS As wc sz) (qL D wc w1 rv sz) 0 0 (va_A wc sz)
def CtV (l : Launch) (y : MethodName) (cc : ByteArray) (n : Nat) (r : Option FieldType) (h : Nat) (D : va_G) (cI : ClassId) (aS : aSt) (As : List Value) (wc w1 : va_W) : Prop := ∀ sz : Nat, Met l y (wx y cc n r) (rmH h) (pcW D cI aS As wc sz) (qV D wc w1 sz) 0 0 (va_A wc sz)
def CtR (l : Launch) (y : MethodName) (cc : ByteArray) (n : Nat) (r : Option FieldType) (h : Nat) (D : va_G) (cI : ClassId) (aS : aSt) (As : List Value) (wc w1 : va_W) (rv : Nat) : Prop := ∀ sz : Nat, Met l y (wx y cc n r) (rmH h) (pcW D cI aS As wc sz) (qR D wc w1 rv sz) 0 0 (va_A wc sz)
/-! the text's own steps -/
def gd {α : Type} (i : Int32) (n : Nat) (x : Option α) : Option α := if i < 0 ∨ n ≤ i.toNatClampNeg then none else x
def gz {α : Type} (y : Int32) (x : Option α) : Option α := if y = 0 then none else x
def gzl {α : Type} (y : Int64) (x : Option α) : Option α := if y = 0 then none else x
def gb {α : Type} (v : Int32) (x : Option α) : Option α := if v = 0 ∨ v = 1 then x else none
theorem gdS {α : Type} {i : Int32} {n : Nat} {x : Option α} {r : α} (h : gd i n x = some r) : vp_in i n ∧ x = some r := by
  unfold gd at h
  split at h
  · cases h
  · exact ⟨‹_›, h⟩
theorem gzS {α : Type} {y : Int32} {x : Option α} {r : α} (h : gz y x = some r) : ¬ y = 0 ∧ x = some r := by
  unfold gz at h
  split at h
  · cases h
  · exact ⟨‹_›, h⟩
theorem gzlS {α : Type} {y : Int64} {x : Option α} {r : α} (h : gzl y x = some r) : ¬ y = 0 ∧ x = some r := by
  unfold gzl at h
  split at h
  · cases h
  · exact ⟨‹_›, h⟩
theorem gbS {α : Type} {v : Int32} {x : Option α} {r : α} (h : gb v x = some r) : narrow .boolean (.int v) = .int v ∧ x = some r := by
  unfold gb at h
  split at h
  · rename_i e
    exact ⟨by rcases e with rfl | rfl <;> rfl, h⟩
  · cases h
theorem gbF {α : Type} {v : Int32} {x : Option α} {r : α} (h : gb v x = some r) : fits .boolean (.int v) = true := by
  unfold gb at h
  split at h
  · rename_i e
    rcases e with rfl | rfl <;> rfl
  · cases h
theorem iT {α : Type} {c : Prop} {d : Decidable c} {a b : α} {r : α} (hc : c) (h : @ite α c d a b = r) : a = r := by rw [if_pos hc] at h; exact h
theorem iF {α : Type} {c : Prop} {d : Decidable c} {a b : α} {r : α} (hc : ¬ c) (h : @ite α c d a b = r) : b = r := by rw [if_neg hc] at h; exact h
theorem bS {α β : Type} {x : Option α} {g : α → Option β} {r : β} (h : x.bind g = some r) : ∃ q, x = some q ∧ g q = some r := by
  cases x with
  | none => cases h
  | some q => exact ⟨q, rfl, h⟩
/-! worlds: a callee's cells put back at their places -/
def wput : va_W → List Nat → va_W → va_W
  | ws, i :: is, x :: xs => wput (ws.set i x) is xs
  | ws, _, _ => ws
theorem wput_get : ∀ (is : List Nat) (xs ws : va_W) (k : Nat) (q : Nat × va_E), is.length ≤ xs.length → (wput ws is xs)[k]? = some q → (∃ j : Nat, xs[j]? = some q) ∨ (ws[k]? = some q ∧ k ∉ is) := by
  intro is
  induction is with
  | nil => intro xs ws k q _ h; exact Or.inr ⟨by cases xs <;> exact h, List.not_mem_nil⟩
  | cons i is ih =>
    intro xs ws k q hl h
    cases xs with
    | nil => simp at hl
    | cons x xs =>
      rcases ih xs (ws.set i x) k q (by simpa using hl) h with ⟨j, hj⟩ | ⟨h1, h2⟩
      · exact Or.inl ⟨j + 1, hj⟩
      · by_cases e : i = k
        · subst e
          rw [List.getElem?_set_self'] at h1
          cases hw : ws[i]? with
          | none => rw [hw] at h1; cases h1
          | some z => rw [hw] at h1; cases h1; exact Or.inl ⟨0, rfl⟩
        · rw [List.getElem?_set_ne e] at h1
          exact Or.inr ⟨h1, fun hm => (List.mem_cons.mp hm).elim (fun z => e z.symm) h2⟩
theorem wD_congr {A : Nat → Prop} {ws ws' : va_W} (h : ws'.map Prod.fst = ws.map Prod.fst) (hD : va_D A ws) : va_D A ws' := by
  have key : ∀ (k : Nat) (q : Nat × va_E), ws'[k]? = some q → ∃ q2, ws[k]? = some q2 ∧ q2.1 = q.1 := by
    intro k q hk
    have e := congrArg (fun l => l[k]?) h
    simp only [List.getElem?_map, hk, Option.map_some] at e
    cases hw : ws[k]? with
    | none => rw [hw] at e; cases e
    | some z => rw [hw] at e; exact ⟨z, rfl, (Option.some.inj e).symm⟩
  refine ⟨fun i j p q hi hj hpq => ?_, fun k q hk => ?_⟩
  · obtain ⟨p2, hp2, ep⟩ := key i p hi
    obtain ⟨q2, hq2, eq⟩ := key j q hj
    exact hD.1 i j p2 q2 hp2 hq2 (by rw [ep, eq, hpq])
  · obtain ⟨q2, hq2, eq⟩ := key k q hk
    exact eq ▸ hD.2 k q2 hq2
theorem wP_put {A : Nat → Prop} {D : va_G} {cl : List vw_C} {ws wc w1 : va_W} {H H1 : Heap} (hP : va_P D cl ws H) (hD : va_D A ws) (isC : List Nat) (hC : isC.map (fun i => ws[i]?) = wc.map some) (hl : isC.length ≤ w1.length)
    (hk : ∀ q : Nat, q < H.size → ¬ va_A wc H.size q → H1[q]? = H[q]?) (hP1 : va_P D cl w1 H1) : va_P D cl (wput ws isC w1) H1 := by
  intro k q hq
  rcases wput_get isC w1 ws k q hl hq with ⟨j, hj⟩ | ⟨h1, h2⟩
  · exact hP1 j q hj
  · refine (hP k q h1).kept (hk q.1 (hP k q h1).lt ?_)
    intro hA
    rcases hA with ⟨j, e, hj⟩ | hge
    · have e2 := congrArg (fun l => l[j]?) hC
      simp only [List.getElem?_map, hj, Option.map_some] at e2
      cases hi : isC[j]? with
      | none => rw [hi] at e2; cases e2
      | some i =>
        rw [hi] at e2
        have e3 : ws[i]? = some (q.1, e) := Option.some.inj e2
        have e4 := hD.1 k i q (q.1, e) h1 e3 rfl
        exact h2 (e4 ▸ List.mem_of_getElem? hi)
    · exact absurd (hP k q h1).lt (Nat.not_lt.mpr hge)
theorem wP_ro {A : Nat → Prop} {D : va_G} {cl : List vw_C} {ws wc : va_W} {H H1 : Heap} (hP : va_P D cl ws H) (hD : va_D A ws) (isC : List Nat) (hC : isC.map (fun i => ws[i]?) = wc.map some)
    (hk : ∀ q : Nat, q < H.size → ¬ va_A wc H.size q → H1[q]? = H[q]?) (hP1 : va_P D cl wc H1) : va_P D cl ws H1 := by
  intro k q h1
  by_cases hx : ∃ (j : Nat) (e : va_E), wc[j]? = some (q.1, e)
  · obtain ⟨j, e, hj⟩ := hx
    have e2 := congrArg (fun l => l[j]?) hC
    simp only [List.getElem?_map, hj, Option.map_some] at e2
    cases hi : isC[j]? with
    | none => rw [hi] at e2; cases e2
    | some i =>
      rw [hi] at e2
      have e3 : ws[i]? = some (q.1, e) := Option.some.inj e2
      have e4 := hD.1 k i q (q.1, e) h1 e3 rfl
      subst e4
      rw [h1] at e3
      have e5 : q = (q.1, e) := Option.some.inj e3
      rw [e5]
      exact hP1 j _ hj
  · refine (hP k q h1).kept (hk q.1 (hP k q h1).lt ?_)
    rintro (⟨j, e, hj⟩ | hge)
    · exact hx ⟨j, e, hj⟩
    · exact absurd (hP k q h1).lt (Nat.not_lt.mpr hge)
section WBX
variable {p : Program} {l : Launch} {e : Env} {h : Nat} {s : State} {m : MethodId} {args : Array Value} {below : List Frame} {meth : Method} {c : Code} {H : Heap} {locs : List Loc} {Q : State → Prop}
variable {cc : ByteArray} {nL : Nat} {ret : Option FieldType} {own : String} {D : va_G} {cI : ClassId} {aS : aSt} {A : Nat → Prop} {pc : Nat} {ls : Array Slot} {rest : List Value} {ws wc w1 ws' : va_W} {a : Nat}
/-- what holds in a body: the machine, the code, the words, the classes and constants, what may be written -/
def Bx (p : Program) (s : State) (m : MethodId) (args : Array Value) (meth : Method) (c : Code) (cc : ByteArray) (nL : Nat) (ret : Option FieldType) (own : String) (D : va_G) (cI : ClassId) (aS : aSt) (A : Nat → Prop) : Prop :=
  p.tables.exec = Jvm.exec ∧ c.code = cc ∧ meth.sig.returnType = ret ∧ c.maxLocals = nL ∧ s.vm.findClass own = some m.cls ∧ (∀ w ∈ wTT, w.before args s = true) ∧ meth.locks = false ∧ wK D cI aS s ∧ wS aS A s s.heap ∧ ∀ q, s.heap.size ≤ q → A q
abbrev Wh (p : Program) (l : Launch) (e : Env) (h : Nat) (s : State) (m : MethodId) (args : Array Value) (below : List Frame) (meth : Method) (c : Code) (H : Heap) (locs : List Loc) (Q : State → Prop) (g : JFrame) : Prop := W p l e (rmH h) s m args below meth c H locs 0 0 Q g
def RtI (p : Program) (l : Launch) (e : Env) (h : Nat) (s : State) (m : MethodId) (args : Array Value) (below : List Frame) (meth : Method) (c : Code) (cc : ByteArray) (ret : Option FieldType) (D : va_G) (A : Nat → Prop) (w1 : va_W) (rv : Int32) (Q : State → Prop) : Prop :=
  ∀ (v : Int32) (H : Heap) (locs : List Loc) (ls : Array Slot) (pc : Nat), v = rv → (∀ ty, ret = some ty → narrow ty (.int v) = .int v) → va_P D vwCl w1 H → va_D A w1 → va_S A s.heap H locs → decode cc pc = .ok (.ireturn, 1) → Wh p l e h s m args below meth c H locs Q (F0 m pc ls [.int v])
def RtL (p : Program) (l : Launch) (e : Env) (h : Nat) (s : State) (m : MethodId) (args : Array Value) (below : List Frame) (meth : Method) (c : Code) (cc : ByteArray) (D : va_G) (A : Nat → Prop) (w1 : va_W) (rv : Int64) (Q : State → Prop) : Prop :=
  ∀ (v : Int64) (H : Heap) (locs : List Loc) (ls : Array Slot) (pc : Nat), v = rv → va_P D vwCl w1 H → va_D A w1 → va_S A s.heap H locs → decode cc pc = .ok (.lreturn, 1) → Wh p l e h s m args below meth c H locs Q (F0 m pc ls [.long v])
def RtV (p : Program) (l : Launch) (e : Env) (h : Nat) (s : State) (m : MethodId) (args : Array Value) (below : List Frame) (meth : Method) (c : Code) (cc : ByteArray) (D : va_G) (A : Nat → Prop) (w1 : va_W) (Q : State → Prop) : Prop :=
  ∀ (H : Heap) (locs : List Loc) (ls : Array Slot) (pc : Nat), va_P D vwCl w1 H → va_D A w1 → va_S A s.heap H locs → decode cc pc = .ok (.return_, 1) → Wh p l e h s m args below meth c H locs Q (F0 m pc ls [])
def RtR (p : Program) (l : Launch) (e : Env) (h : Nat) (s : State) (m : MethodId) (args : Array Value) (below : List Frame) (meth : Method) (c : Code) (cc : ByteArray) (D : va_G) (A : Nat → Prop) (w1 : va_W) (rv : Nat) (Q : State → Prop) : Prop :=
  ∀ (v : Nat) (H : Heap) (locs : List Loc) (ls : Array Slot) (pc : Nat), v = rv → va_P D vwCl w1 H → va_D A w1 → va_S A s.heap H locs → decode cc pc = .ok (.areturn, 1) → Wh p l e h s m args below meth c H locs Q (F0 m pc ls [.ref v])
theorem bx_of {y : MethodName} {rm : Room} {s₁ : State} {wc : va_W} (B : BodyLoose p l y (headSpec (wx y cc nL ret) rm) cc nL ret e s m args below meth c s₁) (hml : c.maxLocals = nL) (hK : wK D cI aS s) (hS : wS aS (va_A wc s.heap.size) s s.heap) : Bx p s m args meth c cc nL ret y.cls D cI aS (va_A wc s.heap.size) :=
  ⟨B.exec, B.bytes, B.returns, hml, findClass_of_methodNamed B.named, fun w hw => atoms_spec (ws := wx y cc nL ret) B.pre w (List.mem_cons_of_mem _ hw), B.notSynchronized, hK, hS, fun _ hq => Or.inr hq⟩
theorem ctI_of {y : MethodName} {As : List Value} {rv : Int32} (hy : plainName y.cls = true) (hr : ∃ ty, ret = some ty) (hlen : (lg_sl As).length ≤ nL)
    (body : ∀ (p : Program) (e : Env) (s : State) (m : MethodId) (below : List Frame) (meth : Method) (c : Code) (A : Nat → Prop) (Q : State → Prop) (ls : Array Slot), Bx p s m As.toArray meth c cc nL ret y.cls D cI aS A → RtI p l e h s m As.toArray below meth c cc ret D A w1 rv Q → va_P D vwCl wc s.heap → va_D A wc → lv_has ls nL (lv_args 0 As) → Wh p l e h s m As.toArray below meth c s.heap [] Q (F0 m 0 ls [])) : CtI l y cc nL ret h D cI aS As wc w1 rv := by
  intro sz
  refine Met.ofW (cc := cc) (maxL := nL) (ret := ret) hy rfl ?_
  intro p e s m args below meth c s₁ B hml hv
  obtain ⟨rfl, hsz, hP, hK, hSt, hD0⟩ := hv
  subst hsz
  have X := bx_of B hml hK hSt
  have hl := lv_entry As (n := nL) hlen
  rw [lg_entry_eq]
  refine body p e s m below meth c _ _ _ X ?_ hP hD0.self hl
  intro v H locs ls pc hv hn hP hD hS hdg
  obtain ⟨ty, hty⟩ := hr
  exact W.zret (ty := ty) X.1 X.2.1 (X.2.2.1.trans hty) (hn ty hty) (fun t ht _ => ⟨⟨v, (), rfl, hv, by rw [ht]; exact hP, hD⟩, hS.F ht⟩) hS.2.2 hdg X.2.2.2.2.2.2.1
theorem ctL_of {y : MethodName} {As : List Value} {rv : Int64} (hy : plainName y.cls = true) (hr : ret = some .long) (hlen : (lg_sl As).length ≤ nL)
    (body : ∀ (p : Program) (e : Env) (s : State) (m : MethodId) (below : List Frame) (meth : Method) (c : Code) (A : Nat → Prop) (Q : State → Prop) (ls : Array Slot), Bx p s m As.toArray meth c cc nL ret y.cls D cI aS A → RtL p l e h s m As.toArray below meth c cc D A w1 rv Q → va_P D vwCl wc s.heap → va_D A wc → lv_has ls nL (lv_args 0 As) → Wh p l e h s m As.toArray below meth c s.heap [] Q (F0 m 0 ls [])) : CtL l y cc nL ret h D cI aS As wc w1 rv := by
  intro sz
  refine Met.ofW (cc := cc) (maxL := nL) (ret := ret) hy rfl ?_
  intro p e s m args below meth c s₁ B hml hv
  obtain ⟨rfl, hsz, hP, hK, hSt, hD0⟩ := hv
  subst hsz
  have X := bx_of B hml hK hSt
  have hl := lv_entry As (n := nL) hlen
  rw [lg_entry_eq]
  refine body p e s m below meth c _ _ _ X ?_ hP hD0.self hl
  intro v H locs ls pc hv hP hD hS hdg
  exact W.lret X.1 X.2.1 (X.2.2.1.trans hr) (fun t ht _ => ⟨⟨v, (), rfl, hv, by rw [ht]; exact hP, hD⟩, hS.F ht⟩) hS.2.2 hdg X.2.2.2.2.2.2.1
theorem ctV_of {y : MethodName} {As : List Value} (hy : plainName y.cls = true) (hr : ret = none) (hlen : (lg_sl As).length ≤ nL)
    (body : ∀ (p : Program) (e : Env) (s : State) (m : MethodId) (below : List Frame) (meth : Method) (c : Code) (A : Nat → Prop) (Q : State → Prop) (ls : Array Slot), Bx p s m As.toArray meth c cc nL ret y.cls D cI aS A → RtV p l e h s m As.toArray below meth c cc D A w1 Q → va_P D vwCl wc s.heap → va_D A wc → lv_has ls nL (lv_args 0 As) → Wh p l e h s m As.toArray below meth c s.heap [] Q (F0 m 0 ls [])) : CtV l y cc nL ret h D cI aS As wc w1 := by
  intro sz
  refine Met.ofW (cc := cc) (maxL := nL) (ret := ret) hy rfl ?_
  intro p e s m args below meth c s₁ B hml hv
  obtain ⟨rfl, hsz, hP, hK, hSt, hD0⟩ := hv
  subst hsz
  have X := bx_of B hml hK hSt
  have hl := lv_entry As (n := nL) hlen
  rw [lg_entry_eq]
  refine body p e s m below meth c _ _ _ X ?_ hP hD0.self hl
  intro H locs ls pc hP hD hS hdg
  exact W.vret X.1 X.2.1 (X.2.2.1.trans hr) (fun t ht _ => ⟨⟨(), rfl, trivial, by rw [ht]; exact hP, hD⟩, hS.F ht⟩) hS.2.2 hdg X.2.2.2.2.2.2.1
theorem ctR_of {y : MethodName} {As : List Value} {rv : Nat} (hy : plainName y.cls = true) (hr : ∃ n, ret = some (.object n)) (hlen : (lg_sl As).length ≤ nL)
    (body : ∀ (p : Program) (e : Env) (s : State) (m : MethodId) (below : List Frame) (meth : Method) (c : Code) (A : Nat → Prop) (Q : State → Prop) (ls : Array Slot), Bx p s m As.toArray meth c cc nL ret y.cls D cI aS A → RtR p l e h s m As.toArray below meth c cc D A w1 rv Q → va_P D vwCl wc s.heap → va_D A wc → lv_has ls nL (lv_args 0 As) → Wh p l e h s m As.toArray below meth c s.heap [] Q (F0 m 0 ls [])) : CtR l y cc nL ret h D cI aS As wc w1 rv := by
  intro sz
  refine Met.ofW (cc := cc) (maxL := nL) (ret := ret) hy rfl ?_
  intro p e s m args below meth c s₁ B hml hv
  obtain ⟨rfl, hsz, hP, hK, hSt, hD0⟩ := hv
  subst hsz
  have X := bx_of B hml hK hSt
  have hl := lv_entry As (n := nL) hlen
  rw [lg_entry_eq]
  refine body p e s m below meth c _ _ _ X ?_ hP hD0.self hl
  intro v H locs ls pc hv hP hD hS hdg
  obtain ⟨nm, hty⟩ := hr
  exact W.aret X.1 X.2.1 (X.2.2.1.trans hty) (Or.inl ⟨nm, rfl⟩) (Or.inr ⟨v, rfl⟩) (fun t ht _ => ⟨⟨(), v, rfl, trivial, hv, by rw [ht]; exact hP, hD⟩, hS.F ht⟩) hS.2.2 hdg X.2.2.2.2.2.2.1
/-! calls -/
def LkN (own : String) (idx : Nat) (y : MethodName) (host C : String) (cy : ByteArray) (maxL : Nat) (ry : Option FieldType) (n : Nat) : Prop :=
  Cond.methodLinkNest own idx y host ∈ wNW ∧ Cond.instanceMethod y ∈ wTT ∧ Cond.selects C y y ∈ wTT ∧ Cond.initialized y.cls ∈ wTT ∧ Cond.code y cy maxL ry ∈ wTT ∧ (y.cls ≠ "java/lang/invoke/MethodHandle" ∧ y.cls ≠ "java/lang/invoke/VarHandle" ∧ (parseMethodDescriptor y.desc).map (fun d => d.parameters.length) = some n) ∧ maxL ≤ 31
def LkV (own : String) (idx : Nat) (y : MethodName) (C : String) (cy : ByteArray) (maxL : Nat) (ry : Option FieldType) (n : Nat) : Prop :=
  Cond.methodLink own idx y ∈ wTT ∧ Cond.instanceMethod y ∈ wTT ∧ Cond.selects C y y ∈ wTT ∧ Cond.initialized C ∈ wTT ∧ Cond.code y cy maxL ry ∈ wTT ∧ (y.cls = C ∧ y.cls ≠ "java/lang/invoke/MethodHandle" ∧ y.cls ≠ "java/lang/invoke/VarHandle" ∧ (parseMethodDescriptor y.desc).map (fun d => d.parameters.length) = some n) ∧ maxL ≤ 31
def LkSN (own : String) (idx : Nat) (y : MethodName) (host : String) (cy : ByteArray) (maxL : Nat) (ry : Option FieldType) (n : Nat) : Prop :=
  Cond.methodLinkNest own idx y host ∈ wNW ∧ Cond.static y ∈ wTT ∧ Cond.initialized y.cls ∈ wTT ∧ Cond.code y cy maxL ry ∈ wTT ∧ (y.cls ≠ "java/lang/invoke/MethodHandle" ∧ y.cls ≠ "java/lang/invoke/VarHandle" ∧ (parseMethodDescriptor y.desc).map (fun d => d.parameters.length) = some n) ∧ maxL ≤ 31
def LkS (own : String) (idx : Nat) (y : MethodName) (cy : ByteArray) (maxL : Nat) (ry : Option FieldType) (n : Nat) : Prop :=
  Cond.methodLink own idx y ∈ wTT ∧ Cond.static y ∈ wTT ∧ Cond.initialized own ∈ wTT ∧ Cond.code y cy maxL ry ∈ wTT ∧ (y.cls = own ∧ y.cls ≠ "java/lang/invoke/MethodHandle" ∧ y.cls ≠ "java/lang/invoke/VarHandle" ∧ (parseMethodDescriptor y.desc).map (fun d => d.parameters.length) = some n) ∧ maxL ≤ 31
theorem wx_in {y : MethodName} {cy : ByteArray} {k : Nat} {r : Option FieldType} (h : Cond.code y cy k r ∈ wTT) : GoodIn wTT (wx y cy k r) := fun w hw => (List.mem_cons.mp hw).elim (fun q => by rw [q]; exact ⟨h, wTT_good h⟩) (fun q => ⟨q, wTT_good q⟩)
theorem Bx.fix (X : Bx p s m args meth c cc nL ret own D cI aS A) : CallFix p m c cc nL s args wTT own := ⟨X.1, X.2.1, X.2.2.2.1, X.2.2.2.2.1, X.2.2.2.2.2.1⟩
theorem Bx.hts (X : Bx p s m args meth c cc nL ret own D cI aS A) {w : Cond} (hw : w ∈ wTT) : w.before args s = true := X.2.2.2.2.2.1 w hw
theorem Bx.hnw (X : Bx p s m args meth c cc nL ret own D cI aS A) {w : Cond} (hw : w ∈ wNW) (ho : w.onTables = true) : w.before args s = true := va_Nw.use ho (X.2.2.2.2.2.2.2.1.2.1 w hw)
theorem Bx.free (X : Bx p s m args meth c cc nL ret own D cI aS A) (hD : va_D A ws) (hS : va_S A s.heap H locs) (isC : List Nat) (hC : isC.map (fun i => ws[i]?) = wc.map some) : ∀ q, va_A wc H.size q → A q := va_free hD hS X.2.2.2.2.2.2.2.2.2 isC hC
theorem wD_C (hD : va_D A ws) (isC : List Nat) (hn : va_nd isC = true) (hC : isC.map (fun i => ws[i]?) = wc.map some) : va_D A wc := hD.sub isC hn hC
theorem wP_C (hP : va_P D vwCl ws H) (isC : List Nat) (hC : isC.map (fun i => ws[i]?) = wc.map some) : va_P D vwCl wc H := by
  refine hP.sub isC ?_
  have e : ∀ (l : List Nat) (v : va_W), l.map (fun i => ws[i]?) = v.map some → l.filterMap (fun i => ws[i]?) = v := by
    intro l
    induction l with
    | nil => intro v hv; cases v with
      | nil => rfl
      | cons a t => cases hv
    | cons i t ih => intro v hv; cases v with
      | nil => cases hv
      | cons a t2 =>
        have h1 : ws[i]? = some a := (List.cons.inj hv).1
        have h2 := ih t2 (List.cons.inj hv).2
        simp [h1, h2]
  exact e isC wc hC
theorem Bx.pre (X : Bx p s m args meth c cc nL ret own D cI aS A) (hP : va_P D vwCl ws H) (hD : va_D A ws) (hS : va_S A s.heap H locs) (isC : List Nat) (hn : va_nd isC = true) (hC : isC.map (fun i => ws[i]?) = wc.map some) (As : List Value) {U : State} (hU : U.heap = H) (hW : s.WarmedH U.vm) : pcW D cI aS As wc H.size As.toArray U := by
  refine ⟨rfl, by rw [hU], by rw [hU]; exact wP_C hP isC hC, X.2.2.2.2.2.2.2.1.warm hW, ?_, (wD_C hD isC hn hC).weaken (fun _ _ _ _ => trivial)⟩
  rw [hU]
  exact ((X.2.2.2.2.2.2.2.2.1.kept hS.2.1).narrow (X.free hD hS isC hC)).moved hW.alike
theorem run_N {y : MethodName} {host C : String} {cy : ByteArray} {maxL k idx h' ci q0 N : Nat} {T : u_T} {ry : Option FieldType} {Qc : Array Value → State → Outcome → State → Prop} {As st0 : List Value} {fs : List Value}
    (X : Bx p s m args meth c cc nL ret own D cI aS A) (hP : va_P D vwCl ws H) (hD : va_D A ws) (hS : va_S A s.heap H locs) (isC : List Nat) (hn : va_nd isC = true) (hC : isC.map (fun i => ws[i]?) = wc.map some)
    (hM : Met l y (wx y cy maxL ry) (rmH h') (pcW D cI aS (.ref a :: As) wc H.size) Qc 0 0 (va_A wc H.size)) (lk : LkN own idx y host C cy maxL ry k) (hh : h' + 1 ≤ h) (hci : vwCl[ci]? = some (C, T, N)) (he : ws[q0]? = some (a, .inr (ci, fs))) (hk : As.length = k) (hst : st0 = As.reverse ++ .ref a :: rest) (hcat : (rest.map fun v => v.category).sum ≤ 8) (hls : ls.size = nL) (hdg : decode cc pc = .ok (.invokevirtual idx, 3)) :
    va_Run p l e (rmH h) s m args below meth c H locs 0 0 0 0 (F0 m pc ls st0) rest (Qc (Value.ref a :: As).toArray) (va_A wc H.size) := by
  obtain ⟨l1, l2, l3, l4, l5, l6, l7⟩ := lk
  refine va_runVN (C := C) X.fix hM ⟨va_cnB k (fun w hw => X.hts hw) (wx_in l5) rfl rfl rfl (X.2.2.2.2.2.2.2.1.2.1 _ l1) (X.hts l4) l6 ⟨hh, ?_⟩, X.hts l2, X.hts l3⟩ ⟨pcW.blind, va_recv X.2.2.2.2.2.2.2.1.1 hP hci he, fun U hU hW => X.pre hP hD hS isC hn hC _ hU hW⟩ rfl hk hls hst (lv_room hcat) hdg ⟨Nat.le_refl _, Nat.le_refl _⟩
  show 8 + (maxL + 11) + 50 * h' ≤ 50 * h
  omega
theorem run_V {y : MethodName} {C : String} {cy : ByteArray} {maxL k idx h' ci q0 N : Nat} {T : u_T} {ry : Option FieldType} {Qc : Array Value → State → Outcome → State → Prop} {As st0 : List Value} {fs : List Value}
    (X : Bx p s m args meth c cc nL ret own D cI aS A) (hP : va_P D vwCl ws H) (hD : va_D A ws) (hS : va_S A s.heap H locs) (isC : List Nat) (hn : va_nd isC = true) (hC : isC.map (fun i => ws[i]?) = wc.map some)
    (hM : Met l y (wx y cy maxL ry) (rmH h') (pcW D cI aS (.ref a :: As) wc H.size) Qc 0 0 (va_A wc H.size)) (lk : LkV own idx y C cy maxL ry k) (hh : h' + 1 ≤ h) (hci : vwCl[ci]? = some (C, T, N)) (he : ws[q0]? = some (a, .inr (ci, fs))) (hk : As.length = k) (hst : st0 = As.reverse ++ .ref a :: rest) (hcat : (rest.map fun v => v.category).sum ≤ 8) (hls : ls.size = nL) (hdg : decode cc pc = .ok (.invokevirtual idx, 3)) :
    va_Run p l e (rmH h) s m args below meth c H locs 0 0 0 0 (F0 m pc ls st0) rest (Qc (Value.ref a :: As).toArray) (va_A wc H.size) := by
  obtain ⟨l1, l2, l3, l4, l5, l6, l7⟩ := lk
  refine va_runV (C := C) X.fix hM (cwV k (fun w hw => X.hts hw) ?_ rfl rfl rfl l6 ⟨hh, ?_⟩) ⟨pcW.blind, va_recv X.2.2.2.2.2.2.2.1.1 hP hci he, fun U hU hW => X.pre hP hD hS isC hn hC _ hU hW⟩ rfl hk hls hst (lv_room hcat) hdg ⟨Nat.le_refl _, Nat.le_refl _⟩
  · intro w hw
    rcases List.mem_append.mp hw with hw | hw
    · simp only [List.mem_cons, List.not_mem_nil, or_false] at hw
      rcases hw with rfl | rfl | rfl | rfl
      · exact ⟨l1, wTT_good l1⟩
      · exact ⟨l2, wTT_good l2⟩
      · exact ⟨l3, wTT_good l3⟩
      · exact ⟨l4, wTT_good l4⟩
    · exact wx_in l5 w hw
  · show 8 + (maxL + 11) + 50 * h' ≤ 50 * h
    omega
theorem run_SN {y : MethodName} {host : String} {cy : ByteArray} {maxL k idx h' : Nat} {ry : Option FieldType} {Qc : Array Value → State → Outcome → State → Prop} {As st0 : List Value}
    (X : Bx p s m args meth c cc nL ret own D cI aS A) (hP : va_P D vwCl ws H) (hD : va_D A ws) (hS : va_S A s.heap H locs) (isC : List Nat) (hn : va_nd isC = true) (hC : isC.map (fun i => ws[i]?) = wc.map some)
    (hM : Met l y (wx y cy maxL ry) (rmH h') (pcW D cI aS As wc H.size) Qc 0 0 (va_A wc H.size)) (lk : LkSN own idx y host cy maxL ry k) (hh : h' + 1 ≤ h) (hk : As.length = k) (hst : st0 = As.reverse ++ rest) (hcat : (rest.map fun v => v.category).sum ≤ 8) (hls : ls.size = nL) (hdg : decode cc pc = .ok (.invokestatic idx, 3)) :
    va_Run p l e (rmH h) s m args below meth c H locs 0 0 0 0 (F0 m pc ls st0) rest (Qc As.toArray) (va_A wc H.size) := by
  obtain ⟨l1, l2, l4, l5, l6, l7⟩ := lk
  refine va_runSN X.fix hM ⟨va_cnB k (fun w hw => X.hts hw) (wx_in l5) rfl rfl rfl (X.2.2.2.2.2.2.2.1.2.1 _ l1) (X.hts l4) l6 ⟨hh, ?_⟩, X.hts l2, trivial⟩ ⟨pcW.blind, fun U hU hW => X.pre hP hD hS isC hn hC _ hU hW⟩ rfl hk hls hst (lv_room hcat) hdg ⟨Nat.le_refl _, Nat.le_refl _⟩
  show 8 + (maxL + 11) + 50 * h' ≤ 50 * h
  omega
theorem run_S {y : MethodName} {cy : ByteArray} {maxL k idx h' : Nat} {ry : Option FieldType} {Qc : Array Value → State → Outcome → State → Prop} {As st0 : List Value}
    (X : Bx p s m args meth c cc nL ret own D cI aS A) (hP : va_P D vwCl ws H) (hD : va_D A ws) (hS : va_S A s.heap H locs) (isC : List Nat) (hn : va_nd isC = true) (hC : isC.map (fun i => ws[i]?) = wc.map some)
    (hM : Met l y (wx y cy maxL ry) (rmH h') (pcW D cI aS As wc H.size) Qc 0 0 (va_A wc H.size)) (lk : LkS own idx y cy maxL ry k) (hh : h' + 1 ≤ h) (hk : As.length = k) (hst : st0 = As.reverse ++ rest) (hcat : (rest.map fun v => v.category).sum ≤ 8) (hls : ls.size = nL) (hdg : decode cc pc = .ok (.invokestatic idx, 3)) :
    va_Run p l e (rmH h) s m args below meth c H locs 0 0 0 0 (F0 m pc ls st0) rest (Qc As.toArray) (va_A wc H.size) := by
  obtain ⟨l1, l2, l4, l5, l6, l7⟩ := lk
  refine va_runS X.fix hM (cwS k (fun w hw => X.hts hw) ?_ rfl rfl rfl l6 ⟨hh, ?_⟩) ⟨pcW.blind, fun U hU hW => X.pre hP hD hS isC hn hC _ hU hW⟩ rfl hk hls hst (lv_room hcat) hdg ⟨Nat.le_refl _, Nat.le_refl _⟩
  · intro w hw
    rcases List.mem_append.mp hw with hw | hw
    · simp only [List.mem_cons, List.not_mem_nil, or_false] at hw
      rcases hw with rfl | rfl | rfl
      · exact ⟨l1, wTT_good l1⟩
      · exact ⟨l2, wTT_good l2⟩
      · exact ⟨l4, wTT_good l4⟩
    · exact wx_in l5 w hw
  · show 8 + (maxL + 11) + 50 * h' ≤ 50 * h
    omega
/-! behind a call: 'ro' the callee wrote nothing, 'wr' its cells are put back -/
theorem ro_i {av : Array Value} {rv : Int32} {st0 : List Value} (X : Bx p s m args meth c cc nL ret own D cI aS A) (hP : va_P D vwCl ws H) (hD : va_D A ws) (hS : va_S A s.heap H locs) (isC : List Nat) (hC : isC.map (fun i => ws[i]?) = wc.map some)
    (hr : va_Run p l e (rmH h) s m args below meth c H locs 0 0 0 0 (F0 m pc ls st0) rest (qI D wc wc rv H.size av) (va_A wc H.size))
    (kk : ∀ (H1 : Heap) (locs1 : List Loc), va_P D vwCl ws H1 → va_S A s.heap H1 locs1 → Wh p l e h s m args below meth c H1 locs1 Q (F0 m (pc + 3) ls (.int rv :: rest))) : Wh p l e h s m args below meth c H locs Q (F0 m pc ls st0) := by
  have hF := X.free hD hS isC hC
  refine va_calli hr hS (fun q _ h => hF q h) hF (fun r u t H1 locs1 ht hvm hw hB hz1 hk1 hS1 => ?_)
  have e : r = rv := hw
  subst e
  exact kk H1 locs1 (wP_ro hP hD isC hC hk1 (ht ▸ hB.1)) hS1
theorem wr_i {av : Array Value} {rv : Int32} {st0 : List Value} (X : Bx p s m args meth c cc nL ret own D cI aS A) (hP : va_P D vwCl ws H) (hD : va_D A ws) (hS : va_S A s.heap H locs) (isC : List Nat) (hC : isC.map (fun i => ws[i]?) = wc.map some) (hlen : isC.length ≤ w1.length) (hws : wput ws isC w1 = ws') (hf : ws'.map Prod.fst = ws.map Prod.fst)
    (hr : va_Run p l e (rmH h) s m args below meth c H locs 0 0 0 0 (F0 m pc ls st0) rest (qI D wc w1 rv H.size av) (va_A wc H.size))
    (kk : ∀ (H1 : Heap) (locs1 : List Loc), va_P D vwCl ws' H1 → va_D A ws' → va_S A s.heap H1 locs1 → Wh p l e h s m args below meth c H1 locs1 Q (F0 m (pc + 3) ls (.int rv :: rest))) : Wh p l e h s m args below meth c H locs Q (F0 m pc ls st0) := by
  have hF := X.free hD hS isC hC
  refine va_calli hr hS (fun q _ h => hF q h) hF (fun r u t H1 locs1 ht hvm hw hB hz1 hk1 hS1 => ?_)
  have e : r = rv := hw
  subst e
  exact kk H1 locs1 (hws ▸ wP_put hP hD isC hC hlen hk1 (ht ▸ hB.1)) (wD_congr hf hD) hS1
theorem ro_l {av : Array Value} {rv : Int64} {st0 : List Value} (X : Bx p s m args meth c cc nL ret own D cI aS A) (hP : va_P D vwCl ws H) (hD : va_D A ws) (hS : va_S A s.heap H locs) (isC : List Nat) (hC : isC.map (fun i => ws[i]?) = wc.map some)
    (hr : va_Run p l e (rmH h) s m args below meth c H locs 0 0 0 0 (F0 m pc ls st0) rest (qL D wc wc rv H.size av) (va_A wc H.size))
    (kk : ∀ (H1 : Heap) (locs1 : List Loc), va_P D vwCl ws H1 → va_S A s.heap H1 locs1 → Wh p l e h s m args below meth c H1 locs1 Q (F0 m (pc + 3) ls (.long rv :: rest))) : Wh p l e h s m args below meth c H locs Q (F0 m pc ls st0) := by
  have hF := X.free hD hS isC hC
  refine va_calll hr hS (fun q _ h => hF q h) hF (fun r u t H1 locs1 ht hvm hw hB hz1 hk1 hS1 => ?_)
  have e : r = rv := hw
  subst e
  exact kk H1 locs1 (wP_ro hP hD isC hC hk1 (ht ▸ hB.1)) hS1
theorem wr_l {av : Array Value} {rv : Int64} {st0 : List Value} (X : Bx p s m args meth c cc nL ret own D cI aS A) (hP : va_P D vwCl ws H) (hD : va_D A ws) (hS : va_S A s.heap H locs) (isC : List Nat) (hC : isC.map (fun i => ws[i]?) = wc.map some) (hlen : isC.length ≤ w1.length) (hws : wput ws isC w1 = ws') (hf : ws'.map Prod.fst = ws.map Prod.fst)
    (hr : va_Run p l e (rmH h) s m args below meth c H locs 0 0 0 0 (F0 m pc ls st0) rest (qL D wc w1 rv H.size av) (va_A wc H.size))
    (kk : ∀ (H1 : Heap) (locs1 : List Loc), va_P D vwCl ws' H1 → va_D A ws' → va_S A s.heap H1 locs1 → Wh p l e h s m args below meth c H1 locs1 Q (F0 m (pc + 3) ls (.long rv :: rest))) : Wh p l e h s m args below meth c H locs Q (F0 m pc ls st0) := by
  have hF := X.free hD hS isC hC
  refine va_calll hr hS (fun q _ h => hF q h) hF (fun r u t H1 locs1 ht hvm hw hB hz1 hk1 hS1 => ?_)
  have e : r = rv := hw
  subst e
  exact kk H1 locs1 (hws ▸ wP_put hP hD isC hC hlen hk1 (ht ▸ hB.1)) (wD_congr hf hD) hS1
theorem wr_v {av : Array Value} {st0 : List Value} (X : Bx p s m args meth c cc nL ret own D cI aS A) (hP : va_P D vwCl ws H) (hD : va_D A ws) (hS : va_S A s.heap H locs) (isC : List Nat) (hC : isC.map (fun i => ws[i]?) = wc.map some) (hlen : isC.length ≤ w1.length) (hws : wput ws isC w1 = ws') (hf : ws'.map Prod.fst = ws.map Prod.fst)
    (hr : va_Run p l e (rmH h) s m args below meth c H locs 0 0 0 0 (F0 m pc ls st0) rest (qV D wc w1 H.size av) (va_A wc H.size))
    (kk : ∀ (H1 : Heap) (locs1 : List Loc), va_P D vwCl ws' H1 → va_D A ws' → va_S A s.heap H1 locs1 → Wh p l e h s m args below meth c H1 locs1 Q (F0 m (pc + 3) ls rest)) : Wh p l e h s m args below meth c H locs Q (F0 m pc ls st0) := by
  have hF := X.free hD hS isC hC
  refine va_callv hr hS (fun q _ h => hF q h) hF (fun u t H1 locs1 ht hvm hw hB hz1 hk1 hS1 => ?_)
  exact kk H1 locs1 (hws ▸ wP_put hP hD isC hC hlen hk1 (ht ▸ hB.1)) (wD_congr hf hD) hS1
theorem ro_r {av : Array Value} {rv : Nat} {st0 : List Value} (X : Bx p s m args meth c cc nL ret own D cI aS A) (hP : va_P D vwCl ws H) (hD : va_D A ws) (hS : va_S A s.heap H locs) (isC : List Nat) (hC : isC.map (fun i => ws[i]?) = wc.map some)
    (hr : va_Run p l e (rmH h) s m args below meth c H locs 0 0 0 0 (F0 m pc ls st0) rest (qR D wc wc rv H.size av) (va_A wc H.size))
    (kk : ∀ (H1 : Heap) (locs1 : List Loc), va_P D vwCl ws H1 → va_S A s.heap H1 locs1 → Wh p l e h s m args below meth c H1 locs1 Q (F0 m (pc + 3) ls (.ref rv :: rest))) : Wh p l e h s m args below meth c H locs Q (F0 m pc ls st0) := by
  have hF := X.free hD hS isC hC
  refine va_callr hr hS (fun q _ h => hF q h) hF (fun u r t H1 locs1 ht hvm hw hB hz1 hk1 hS1 => ?_)
  have e : r = rv := hB.1
  subst e
  exact kk H1 locs1 (wP_ro hP hD isC hC hk1 (ht ▸ hB.2.1)) hS1
/-! fields and arrays -/
theorem fGet {C : String} {T : u_T} {N ci idx k q0 : Nat} {fs : List Value} {v : Value} (X : Bx p s m args meth c cc nL ret own D cI aS A) (hin : ∀ w ∈ u_ws C T N, w ∈ wTT) (hc : vwCl[ci]? = some (C, T, N)) (hk : k < N) (hlink : Cond.fieldLink own idx (T k).1 (T k).2.1 (T k).2.2.1 ∈ wTT)
    (hP : va_P D vwCl ws H) (he : ws[q0]? = some (a, .inr (ci, fs))) (hv : fs[k]? = some v) (hdg : decode cc pc = .ok (.getfield idx, 3)) (kk : Wh p l e h s m args below meth c H locs Q (F0 m (pc + 3) ls (v :: rest))) : Wh p l e h s m args below meth c H locs Q (F0 m pc ls (.ref a :: rest)) :=
  va_get X.1 X.2.1 X.2.2.2.2.2.1 hin X.2.2.2.2.1 X.2.2.2.2.2.2.2.1.1 hP q0 he hc k hk (X.hts hlink) (fun _ h => h) hv hdg kk
theorem fGetN {C host : String} {T : u_T} {N ci idx k q0 : Nat} {fs : List Value} {v : Value} (X : Bx p s m args meth c cc nL ret own D cI aS A) (hin : ∀ w ∈ u_ws C T N, w ∈ wTT) (hc : vwCl[ci]? = some (C, T, N)) (hk : k < N) (hlink : Cond.fieldLinkNest own idx (T k).1 (T k).2.1 (T k).2.2.1 host ∈ wNW)
    (hP : va_P D vwCl ws H) (he : ws[q0]? = some (a, .inr (ci, fs))) (hv : fs[k]? = some v) (hdg : decode cc pc = .ok (.getfield idx, 3)) (kk : Wh p l e h s m args below meth c H locs Q (F0 m (pc + 3) ls (v :: rest))) : Wh p l e h s m args below meth c H locs Q (F0 m pc ls (.ref a :: rest)) :=
  va_getN X.1 X.2.1 X.2.2.2.2.2.1 hin X.2.2.2.2.1 X.2.2.2.2.2.2.2.1.1 hP q0 he hc k hk (X.hnw hlink rfl) (fun _ h => h) hv hdg kk
theorem fPut {C : String} {T : u_T} {N ci idx k q0 : Nat} {ty0 : Nat → FieldType} {fs : List Value} {v : Value} (X : Bx p s m args meth c cc nL ret own D cI aS A) (hin : ∀ w ∈ u_ws C T N, w ∈ wTT) (hty : ∀ k, k < N → parseFieldDescriptor (T k).2.2.1 = some (ty0 k)) (hnm : ∀ a, a < N → ∀ b, b < N → a ≠ b → (T a).2.1 ≠ (T b).2.1) (hc : vwCl[ci]? = some (C, T, N)) (hk : k < N) (hlink : Cond.fieldLink own idx (T k).1 (T k).2.1 (T k).2.2.1 ∈ wTT) (hfin : (T k).2.2.2 = false)
    (hP : va_P D vwCl ws H) (hD : va_D A ws) (hS : va_S A s.heap H locs) (he : ws[q0]? = some (a, .inr (ci, fs))) (hn : narrow (ty0 k) v = v) (hfit : fits (ty0 k) v = true) (hl : k < fs.length) (hws : ws.set q0 (a, .inr (ci, fs.set k v)) = ws') (hdg : decode cc pc = .ok (.putfield idx, 3))
    (kk : ∀ (H1 : Heap) (locs1 : List Loc), va_P D vwCl ws' H1 → va_D A ws' → va_S A s.heap H1 locs1 → Wh p l e h s m args below meth c H1 locs1 Q (F0 m (pc + 3) ls rest)) : Wh p l e h s m args below meth c H locs Q (F0 m pc ls (v :: .ref a :: rest)) :=
  va_put X.1 X.2.1 X.2.2.2.2.2.1 hin ty0 hty hnm X.2.2.2.2.1 X.2.2.2.2.2.2.2.1.1 hP hD hS q0 he hc k hk (X.hts hlink) (fun _ h => h) hfin (hty k hk) hn hfit hl hdg (fun H1 locs1 a1 a2 a3 => kk H1 locs1 (hws ▸ a1) (hws ▸ a2) a3)
theorem fPutN {C host : String} {T : u_T} {N ci idx k q0 : Nat} {ty0 : Nat → FieldType} {fs : List Value} {v : Value} (X : Bx p s m args meth c cc nL ret own D cI aS A) (hin : ∀ w ∈ u_ws C T N, w ∈ wTT) (hty : ∀ k, k < N → parseFieldDescriptor (T k).2.2.1 = some (ty0 k)) (hnm : ∀ a, a < N → ∀ b, b < N → a ≠ b → (T a).2.1 ≠ (T b).2.1) (hc : vwCl[ci]? = some (C, T, N)) (hk : k < N) (hlink : Cond.fieldLinkNest own idx (T k).1 (T k).2.1 (T k).2.2.1 host ∈ wNW) (hfin : (T k).2.2.2 = false)
    (hP : va_P D vwCl ws H) (hD : va_D A ws) (hS : va_S A s.heap H locs) (he : ws[q0]? = some (a, .inr (ci, fs))) (hn : narrow (ty0 k) v = v) (hfit : fits (ty0 k) v = true) (hl : k < fs.length) (hws : ws.set q0 (a, .inr (ci, fs.set k v)) = ws') (hdg : decode cc pc = .ok (.putfield idx, 3))
    (kk : ∀ (H1 : Heap) (locs1 : List Loc), va_P D vwCl ws' H1 → va_D A ws' → va_S A s.heap H1 locs1 → Wh p l e h s m args below meth c H1 locs1 Q (F0 m (pc + 3) ls rest)) : Wh p l e h s m args below meth c H locs Q (F0 m pc ls (v :: .ref a :: rest)) :=
  va_putN X.1 X.2.1 X.2.2.2.2.2.1 hin ty0 hty hnm X.2.2.2.2.1 X.2.2.2.2.2.2.2.1.1 hP hD hS q0 he hc k hk (X.hnw hlink rfl) (fun _ h => h) hfin (hty k hk) hn hfit hl hdg (fun H1 locs1 a1 a2 a3 => kk H1 locs1 (hws ▸ a1) (hws ▸ a2) a3)
theorem aGet {q0 n : Nat} {f : Nat → Int32} {i : Int32} (X : Bx p s m args meth c cc nL ret own D cI aS A) (hP : va_P D vwCl ws H) (ha : ws[q0]? = some (a, .inl (cI, n, .inl f))) (hi : vp_in i n) (hdg : decode cc pc = .ok (.iaload, 1)) (kk : Wh p l e h s m args below meth c H locs Q (F0 m (pc + 1) ls (.int (f i.toNatClampNeg) :: rest))) : Wh p l e h s m args below meth c H locs Q (F0 m pc ls (.int i :: .ref a :: rest)) :=
  va_iald X.1 X.2.1 X.2.2.2.2.2.2.2.1.1 hP q0 0 ha rfl hi hdg kk
theorem aPut {q0 n : Nat} {f : Nat → Int32} {i x : Int32} (X : Bx p s m args meth c cc nL ret own D cI aS A) (hP : va_P D vwCl ws H) (hD : va_D A ws) (hS : va_S A s.heap H locs) (ha : ws[q0]? = some (a, .inl (cI, n, .inl f))) (hi : vp_in i n) (hws : ws.set q0 (a, .inl (cI, n, .inl (upd f i.toNatClampNeg x))) = ws') (hdg : decode cc pc = .ok (.iastore, 1)) (kk : ∀ (H1 : Heap) (locs1 : List Loc), va_P D vwCl ws' H1 → va_D A ws' → va_S A s.heap H1 locs1 → Wh p l e h s m args below meth c H1 locs1 Q (F0 m (pc + 1) ls rest)) : Wh p l e h s m args below meth c H locs Q (F0 m pc ls (.int x :: .int i :: .ref a :: rest)) :=
  va_iast X.1 X.2.1 X.2.2.2.2.2.2.2.1.1 hP hD hS q0 0 ha rfl hi hdg (fun H1 locs1 a1 a2 a3 => kk H1 locs1 (hws ▸ a1) (hws ▸ a2) a3)
theorem aLen {q0 n : Nat} {f : Nat → Int32} (X : Bx p s m args meth c cc nL ret own D cI aS A) (hP : va_P D vwCl ws H) (ha : ws[q0]? = some (a, .inl (cI, n, .inl f))) (hdg : decode cc pc = .ok (.arraylength, 1)) (kk : Wh p l e h s m args below meth c H locs Q (F0 m (pc + 1) ls (.int (nI n) :: rest))) : Wh p l e h s m args below meth c H locs Q (F0 m pc ls (.ref a :: rest)) :=
  va_alen X.1 X.2.1 X.2.2.2.2.2.2.2.1.1 hP q0 0 ha rfl (v := nI n) rfl hdg kk
end WBX
