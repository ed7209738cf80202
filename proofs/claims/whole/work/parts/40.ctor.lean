/-! Constructors: rows that make cells; the contract of a constructor: behind it the whole of the object stands at addresses 'ad'. -/
theorem mw_arr : Cond.arrayClass .int ∈ wTT := wTT_of 147 (by decide +kernel) rfl
theorem mw_objI : Cond.instanceMethod objectInit ∈ wTT := wTT_of 121 (by decide +kernel) rfl
theorem mw_objC : Cond.code objectInit ⟨#[0xb1]⟩ 1 none ∈ wTT := wTT_of 122 (by decide +kernel) rfl
def roomN (h mc ms : Nat) : Room := { frames := h, cells := mc, slots := ms, locals := 50 * h }
abbrev qN (D : va_G) (wc : va_W) (a : Nat) (wf : (Nat → Nat) → va_W) (sz : Nat) : Array Value → State → Outcome → State → Prop := va_Qv (fun (_ : Unit) => True) (fun _ t => ∃ ad : Nat → Nat, ad 0 = a ∧ va_P D vwCl (wf ad) t.heap ∧ va_D (va_A wc sz) (wf ad)) (va_A wc sz)
def CtN (l : Launch) (y : MethodName) (cc : ByteArray) (n : Nat) (h mc ms : Nat) (D : va_G) (cI : ClassId) (aS : aSt) (As : List Value) (a : Nat) (wc : va_W) (wf : (Nat → Nat) → va_W) : Prop := ∀ sz : Nat, Met l y (wx y cc n none) (roomN h mc ms) (pcW D cI aS (.ref a :: As) wc sz) (qN D wc a wf sz) mc ms (va_A wc sz)
def RtN (p : Program) (l : Launch) (e : Env) (h mc ms : Nat) (s : State) (m : MethodId) (args : Array Value) (below : List Frame) (meth : Method) (c : Code) (cc : ByteArray) (D : va_G) (A : Nat → Prop) (a : Nat) (wf : (Nat → Nat) → va_W) (Q : State → Prop) : Prop :=
  ∀ (ad : Nat → Nat) (H : Heap) (locs : List Loc) (ls : Array Slot) (pc : Nat), ad 0 = a → va_P D vwCl (wf ad) H → va_D A (wf ad) → va_S A s.heap H locs → decode cc pc = .ok (.return_, 1) → W p l e (roomN h mc ms) s m args below meth c H locs mc ms Q (F0 m pc ls [])
section WCT
variable {p : Program} {l : Launch} {e : Env} {R : Room} {h mc ms : Nat} {s : State} {m : MethodId} {args : Array Value} {below : List Frame} {meth : Method} {c : Code} {H : Heap} {locs : List Loc} {cells slots : Nat} {Q : State → Prop}
variable {cc : ByteArray} {nL : Nat} {ret : Option FieldType} {own : String} {D : va_G} {cI : ClassId} {aS : aSt} {A : Nat → Prop} {pc : Nat} {ls : Array Slot} {rest : List Value} {ws w0 wc w1 ws' : va_W} {a : Nat} {wf : (Nat → Nat) → va_W}
theorem ctN_of {y : MethodName} {As : List Value} (hy : plainName y.cls = true) (hyn : y.name = "<init>") (hlen : (lg_sl (.ref a :: As)).length ≤ nL)
    (body : ∀ (p : Program) (e : Env) (s : State) (m : MethodId) (below : List Frame) (meth : Method) (c : Code) (A : Nat → Prop) (Q : State → Prop) (ls : Array Slot), Bx p s m (.ref a :: As).toArray meth c cc nL none y.cls D cI aS A → meth.name = "<init>" → RtN p l e h mc ms s m (.ref a :: As).toArray below meth c cc D A a wf Q → va_P D vwCl wc s.heap → va_D A wc → lv_has ls nL (lv_args 0 (.ref a :: As)) → W p l e (roomN h mc ms) s m (.ref a :: As).toArray below meth c s.heap [] 0 0 Q (F0 m 0 ls [])) : CtN l y cc nL h mc ms D cI aS As a wc wf := by
  intro sz
  refine Met.ofW (cc := cc) (maxL := nL) (ret := none) hy rfl ?_
  intro p e s m args below meth c s₁ B hml hv
  obtain ⟨rfl, hsz, hP, hK, hSt, hD0⟩ := hv
  subst hsz
  have X := bx_of B hml hK hSt
  have hl := lv_entry (.ref a :: As) (n := nL) hlen
  have hin : meth.name = "<init>" := (name_of_methodNamed B.named B.method).1.trans hyn
  rw [lg_entry_eq]
  refine body p e s m below meth c _ _ _ X hin ?_ hP hD0.self hl
  intro ad H locs ls pc had hP hD hS hdg
  exact W.vret X.1 X.2.1 X.2.2.1 (fun t ht _ => ⟨⟨(), rfl, trivial, ad, had, by rw [ht]; exact hP, hD⟩, hS.F ht⟩) hS.2.2 hdg X.2.2.2.2.2.2.1
theorem x_objInit {idx : Nat} (X : Bx p s m args meth c cc nL ret own D cI aS A) (hlink : Cond.methodLink own idx objectInit ∈ wTT) (hls : ls.size = nL) (hfr : 1 ≤ R.frames) (hlo : (rest.map fun v => v.category).sum + 12 ≤ R.locals) (hdg : decode cc pc = .ok (.invokespecial idx, 3)) (kk : W p l e R s m args below meth c H locs cells slots Q (F0 m (pc + 3) ls rest)) : W p l e R s m args below meth c H locs cells slots Q (F0 m pc ls (.ref a :: rest)) := by
  refine W.objInit X.1 X.2.1 X.2.2.2.2.1 (X.hts hlink) (X.hts mw_objI) (X.hts mw_objC) rfl (hls.trans X.2.2.2.1.symm) rfl hdg hfr ?_ ?_
  · show 2 * 0 + _ + 12 ≤ _
    omega
  · exact kk
theorem x_new {C : String} {T : u_T} {N ci idx : Nat} {ty : Nat → FieldType} {fs : List Value} (X : Bx p s m args meth c cc nL ret own D cI aS A) (hin : ∀ w ∈ u_ws C T N, w ∈ wTT) (hty : ∀ k, k < N → parseFieldDescriptor (T k).2.2.1 = some (ty k)) (hcl : Cond.classLink own idx C ∈ wTT) (hinst : Cond.instantiable C N ∈ wTT) (hini : Cond.initialized C ∈ wTT) (hc : vwCl[ci]? = some (C, T, N)) (hfs : ∀ j, j < N → defaultValue (ty j) = vp_V fs j)
    (hP : va_P D vwCl ws H) (hD : va_D A ws) (hS : va_S A s.heap H locs) (hcells : cells + 1 ≤ R.cells) (hslots : slots + N ≤ R.slots) (hdg : decode cc pc = .ok (.new idx, 3))
    (kk : ∀ (q : Nat) (H1 : Heap), va_P D vwCl (ws ++ [(q, .inr (ci, fs))]) H1 → va_D A (ws ++ [(q, .inr (ci, fs))]) → va_S A s.heap H1 locs → W p l e R s m args below meth c H1 locs (cells + 1) (slots + N) Q (F0 m (pc + 3) ls (.ref q :: rest))) : W p l e R s m args below meth c H locs cells slots Q (F0 m pc ls rest) :=
  va_new X.1 X.2.1 X.2.2.2.2.2.1 hin ty hty X.2.2.2.2.1 (X.hts hcl) (X.hts hinst) (X.hts hini) X.2.2.2.2.2.2.2.1.1 hP hD hS X.2.2.2.2.2.2.2.2.2 hc hfs hcells hslots hdg kk
theorem x_newa {n : Nat} (X : Bx p s m args meth c cc nL ret own D cI aS A) (hP : va_P D vwCl ws H) (hD : va_D A ws) (hS : va_S A s.heap H locs) (hn : n ≤ 100000) (hcells : cells + 1 ≤ R.cells) (hslots : slots + n ≤ R.slots) (hdg : decode cc pc = .ok (.newarray .int, 2))
    (kk : ∀ (q : Nat) (H1 : Heap), va_P D vwCl (ws ++ [(q, .inl (cI, n, .inl (fun _ => 0)))]) H1 → va_D A (ws ++ [(q, .inl (cI, n, .inl (fun _ => 0)))]) → va_S A s.heap H1 locs → W p l e R s m args below meth c H1 locs (cells + 1) (slots + n) Q (F0 m (pc + 2) ls (.ref q :: rest))) : W p l e R s m args below meth c H locs cells slots Q (F0 m pc ls (.int (nI n) :: rest)) := by
  have hK := X.2.2.2.2.2.2.2.1.1
  refine va_newa (atype := .int) (ty := .int) (N' := n) (a0 := (n, .inl (fun _ => 0))) X.1 X.2.1 (X.hts mw_arr) rfl hK hP hD hS X.2.2.2.2.2.2.2.2.2 (fun _ => rfl) (nI_pos (by omega)) (nI_clamp (by omega)) ?_ hcells hslots hdg (fun q cA H1 hK1 hP1 hD1 hS1 => ?_)
  · show n * 4 ≤ 536870912
    omega
  · have e1 := va_nm_int (hK1.2 0 _ rfl).2
    have e2 := va_nm_int (hK1.2 1 _ rfl).2
    have e3 : cI = cA := Option.some.inj (e1.symm.trans e2)
    subst e3
    exact kk q H1 hP1 hD1 hS1
theorem x_newa2 {n : Nat} {c0 : Nat × va_E} (X : Bx p s m args meth c cc nL ret own D cI aS A) (hP : va_P D vwCl (c0 :: w0) H) (hD : va_D A (c0 :: w0)) (hS : va_S A s.heap H locs) (hn : n ≤ 100000) (hcells : cells + 1 ≤ R.cells) (hslots : slots + n ≤ R.slots) (hdg : decode cc pc = .ok (.newarray .int, 2))
    (kk : ∀ (q : Nat) (H1 : Heap), va_P D vwCl (c0 :: (w0 ++ [(q, .inl (cI, n, .inl (fun _ => 0)))])) H1 → va_D A (c0 :: (w0 ++ [(q, .inl (cI, n, .inl (fun _ => 0)))])) → va_S A s.heap H1 locs → W p l e R s m args below meth c H1 locs (cells + 1) (slots + n) Q (F0 m (pc + 2) ls (.ref q :: rest))) : W p l e R s m args below meth c H locs cells slots Q (F0 m pc ls (.int (nI n) :: rest)) :=
  x_newa X hP hD hS hn hcells hslots hdg (fun q H1 a1 a2 a3 => kk q H1 a1 a2 a3)
def LkIN (own : String) (idx : Nat) (y : MethodName) (cy : ByteArray) (maxL n : Nat) : Prop :=
  Cond.methodLinkNest own idx y RX4 ∈ wNW ∧ Cond.instanceMethod y ∈ wTT ∧ Cond.initialized y.cls ∈ wTT ∧ Cond.code y cy maxL none ∈ wTT ∧ (y.cls ≠ "java/lang/invoke/MethodHandle" ∧ y.cls ≠ "java/lang/invoke/VarHandle" ∧ (parseMethodDescriptor y.desc).map (fun d => d.parameters.length) = some n) ∧ y.name = "<init>" ∧ maxL ≤ 31
def LkI (own : String) (idx : Nat) (y : MethodName) (cy : ByteArray) (maxL n : Nat) : Prop :=
  Cond.methodLink own idx y ∈ wTT ∧ Cond.instanceMethod y ∈ wTT ∧ Cond.initialized y.cls ∈ wTT ∧ Cond.code y cy maxL none ∈ wTT ∧ (y.cls ≠ "java/lang/invoke/MethodHandle" ∧ y.cls ≠ "java/lang/invoke/VarHandle" ∧ (parseMethodDescriptor y.desc).map (fun d => d.parameters.length) = some n) ∧ y.name = "<init>" ∧ maxL ≤ 31
theorem last_at (w0 : va_W) (q : Nat × va_E) : [w0.length].map (fun i => (w0 ++ [q])[i]?) = [q].map some := by simp
theorem ctor_after {ci : Nat} {fs : List Value} {st0 : List Value} {av : Array Value} (X : Bx p s m args meth c cc nL ret own D cI aS A) (hP : va_P D vwCl (w0 ++ [(a, .inr (ci, fs))]) H) (hD : va_D A (w0 ++ [(a, .inr (ci, fs))])) (hS : va_S A s.heap H locs)
    (hr : va_Run p l e R s m args below meth c H locs cells slots mc ms (F0 m pc ls st0) rest (qN D [(a, .inr (ci, fs))] a wf H.size av) (va_A [(a, .inr (ci, fs))] H.size))
    (kk : ∀ (ad : Nat → Nat) (H1 : Heap) (locs1 : List Loc), ad 0 = a → va_P D vwCl (w0 ++ wf ad) H1 → va_D A (w0 ++ wf ad) → va_S A s.heap H1 locs1 → W p l e R s m args below meth c H1 locs1 (cells + mc) (slots + ms) Q (F0 m (pc + 3) ls rest)) : W p l e R s m args below meth c H locs cells slots Q (F0 m pc ls st0) := by
  have hF := X.free hD hS [w0.length] (last_at w0 _)
  refine va_callv hr hS (fun q _ h => hF q h) hF (fun u t H1 locs1 ht hvm hw hB hz1 hk1 hS1 => ?_)
  obtain ⟨ad, had, hP1, hD1⟩ := hB
  have hw0 : ∀ (k : Nat) (q : Nat × va_E), w0[k]? = some q → q.1 < H.size ∧ ¬ va_A [(a, .inr (ci, fs))] H.size q.1 ∧ va_at D vwCl q H ∧ A q.1 := by
    intro k q hq
    have hlt : k < w0.length := (List.getElem?_eq_some_iff.mp hq).1
    have e1 : (w0 ++ [(a, .inr (ci, fs))])[k]? = some q := by rw [List.getElem?_append_left hlt]; exact hq
    have e2 : (w0 ++ [(a, (.inr (ci, fs) : va_E))])[w0.length]? = some (a, .inr (ci, fs)) := by simp
    have h1 := hP k q e1
    refine ⟨h1.lt, ?_, h1, hD.2 k q e1⟩
    rintro (⟨j, e, hj⟩ | hge)
    · cases j with
      | zero =>
        have e3 : a = q.1 := congrArg Prod.fst (Option.some.inj hj)
        have := hD.1 k w0.length q _ e1 e2 e3.symm
        omega
      | succ j => simp at hj
    · exact absurd h1.lt (Nat.not_lt.mpr hge)
  refine kk ad H1 locs1 had ?_ ?_ hS1
  · refine va_P.app (fun k q hq => ?_) (ht ▸ hP1)
    obtain ⟨h1, h2, h3, -⟩ := hw0 k q hq
    exact h3.kept (hk1 q.1 h1 h2)
  · refine va_D.app ⟨fun i j p q hi hj hpq => ?_, fun k q hq => (hw0 k q hq).2.2.2⟩ (hD1.weaken (fun _ q _ h => hF q.1 h)) (fun i j p q hi hj hpq => ?_)
    · have e1 : (w0 ++ [(a, .inr (ci, fs))])[i]? = some p := by rw [List.getElem?_append_left (List.getElem?_eq_some_iff.mp hi).1]; exact hi
      have e2 : (w0 ++ [(a, .inr (ci, fs))])[j]? = some q := by rw [List.getElem?_append_left (List.getElem?_eq_some_iff.mp hj).1]; exact hj
      exact hD.1 i j p q e1 e2 hpq
    · have z := hD1.2 j q hj
      rw [← hpq] at z
      exact (hw0 i p hi).2.1 z
theorem x_ctorN {y : MethodName} {cy : ByteArray} {maxL k idx h' ci : Nat} {As st0 : List Value} {fs : List Value} (X : Bx p s m args meth c cc nL ret own D cI aS A) (hP : va_P D vwCl (w0 ++ [(a, .inr (ci, fs))]) H) (hD : va_D A (w0 ++ [(a, .inr (ci, fs))])) (hS : va_S A s.heap H locs)
    (hM : CtN l y cy maxL h' mc ms D cI aS As a [(a, .inr (ci, fs))] wf) (lk : LkIN own idx y cy maxL k) (hfr : h' + 1 ≤ R.frames) (hlo : 39 + 11 + 50 * h' ≤ R.locals) (hk : As.length = k) (hst : st0 = As.reverse ++ .ref a :: rest) (hcat : (rest.map fun v => v.category).sum ≤ 8) (hls : ls.size = nL) (hcells : cells + mc ≤ R.cells) (hslots : slots + ms ≤ R.slots) (hdg : decode cc pc = .ok (.invokespecial idx, 3))
    (kk : ∀ (ad : Nat → Nat) (H1 : Heap) (locs1 : List Loc), ad 0 = a → va_P D vwCl (w0 ++ wf ad) H1 → va_D A (w0 ++ wf ad) → va_S A s.heap H1 locs1 → W p l e R s m args below meth c H1 locs1 (cells + mc) (slots + ms) Q (F0 m (pc + 3) ls rest)) : W p l e R s m args below meth c H locs cells slots Q (F0 m pc ls st0) := by
  obtain ⟨l1, l2, l3, l4, l5, l6, l7⟩ := lk
  refine ctor_after X hP hD hS (va_runIN X.fix (hM H.size) ⟨va_cnB k (fun w hw => X.hts hw) (wx_in l4) rfl rfl rfl (X.2.2.2.2.2.2.2.1.2.1 _ l1) (X.hts l3) l5 ⟨hfr, ?_⟩, l6, X.hts l2⟩ ⟨pcW.blind, fun U hU hW => X.pre hP hD hS [w0.length] (by simp [va_nd]) (last_at w0 _) _ hU hW⟩ rfl hk hls hst (lv_room hcat) hdg ⟨hcells, hslots⟩) kk
  show 8 + (maxL + 11) + 50 * h' ≤ R.locals
  omega
theorem x_ctor {y : MethodName} {cy : ByteArray} {maxL k idx h' ci : Nat} {As st0 : List Value} {fs : List Value} (X : Bx p s m args meth c cc nL ret own D cI aS A) (hP : va_P D vwCl (w0 ++ [(a, .inr (ci, fs))]) H) (hD : va_D A (w0 ++ [(a, .inr (ci, fs))])) (hS : va_S A s.heap H locs)
    (hM : CtN l y cy maxL h' mc ms D cI aS As a [(a, .inr (ci, fs))] wf) (lk : LkI own idx y cy maxL k) (hfr : h' + 1 ≤ R.frames) (hlo : 39 + 11 + 50 * h' ≤ R.locals) (hk : As.length = k) (hst : st0 = As.reverse ++ .ref a :: rest) (hcat : (rest.map fun v => v.category).sum ≤ 8) (hls : ls.size = nL) (hcells : cells + mc ≤ R.cells) (hslots : slots + ms ≤ R.slots) (hdg : decode cc pc = .ok (.invokespecial idx, 3))
    (kk : ∀ (ad : Nat → Nat) (H1 : Heap) (locs1 : List Loc), ad 0 = a → va_P D vwCl (w0 ++ wf ad) H1 → va_D A (w0 ++ wf ad) → va_S A s.heap H1 locs1 → W p l e R s m args below meth c H1 locs1 (cells + mc) (slots + ms) Q (F0 m (pc + 3) ls rest)) : W p l e R s m args below meth c H locs cells slots Q (F0 m pc ls st0) := by
  obtain ⟨l1, l2, l3, l4, l5, l6, l7⟩ := lk
  refine ctor_after X hP hD hS (va_runI X.fix (hM H.size) (cwI k (fun w hw => X.hts hw) (wx_in l4) rfl rfl rfl (X.hts l3) (X.hts l1) (X.hts l2) l6 l5 ⟨hfr, ?_⟩) ⟨pcW.blind, fun U hU hW => X.pre hP hD hS [w0.length] (by simp [va_nd]) (last_at w0 _) _ hU hW⟩ rfl hk hls hst (lv_room hcat) hdg ⟨hcells, hslots⟩) kk
  show 8 + (maxL + 11) + 50 * h' ≤ R.locals
  omega
theorem x_putF {C : String} {T : u_T} {N ci idx k : Nat} {ty0 : Nat → FieldType} {fs : List Value} {v : Value} (X : Bx p s m args meth c cc nL ret own D cI aS A) (hin : ∀ w ∈ u_ws C T N, w ∈ wTT) (hty : ∀ k, k < N → parseFieldDescriptor (T k).2.2.1 = some (ty0 k)) (hnm : ∀ a, a < N → ∀ b, b < N → a ≠ b → (T a).2.1 ≠ (T b).2.1) (hc : vwCl[ci]? = some (C, T, N)) (hk : k < N) (hlink : Cond.fieldLink own idx (T k).1 (T k).2.1 (T k).2.2.1 ∈ wTT) (hfin : (T k).2.2.2 = true) (hin2 : meth.name = "<init>") (hdecl : (T k).1 = own)
    (hP : va_P D vwCl ((a, .inr (ci, fs)) :: w0) H) (hD : va_D A ((a, .inr (ci, fs)) :: w0)) (hS : va_S A s.heap H locs) (hn : narrow (ty0 k) v = v) (hfit : fits (ty0 k) v = true) (hl : k < fs.length) (hdg : decode cc pc = .ok (.putfield idx, 3))
    (kk : ∀ (H1 : Heap) (locs1 : List Loc), va_P D vwCl ((a, .inr (ci, fs.set k v)) :: w0) H1 → va_D A ((a, .inr (ci, fs.set k v)) :: w0) → va_S A s.heap H1 locs1 → W p l e R s m args below meth c H1 locs1 cells slots Q (F0 m (pc + 3) ls rest)) : W p l e R s m args below meth c H locs cells slots Q (F0 m pc ls (v :: .ref a :: rest)) :=
  va_putF X.1 X.2.1 X.2.2.2.2.2.1 hin ty0 hty hnm X.2.2.2.2.1 X.2.2.2.2.2.2.2.1.1 hP hD hS 0 rfl hc k hk (X.hts hlink) (fun _ h => h) hfin hin2 hdecl (hty k hk) hn hfit hl hdg kk
theorem x_put {C : String} {T : u_T} {N ci idx k : Nat} {ty0 : Nat → FieldType} {fs : List Value} {v : Value} (X : Bx p s m args meth c cc nL ret own D cI aS A) (hin : ∀ w ∈ u_ws C T N, w ∈ wTT) (hty : ∀ k, k < N → parseFieldDescriptor (T k).2.2.1 = some (ty0 k)) (hnm : ∀ a, a < N → ∀ b, b < N → a ≠ b → (T a).2.1 ≠ (T b).2.1) (hc : vwCl[ci]? = some (C, T, N)) (hk : k < N) (hlink : Cond.fieldLink own idx (T k).1 (T k).2.1 (T k).2.2.1 ∈ wTT) (hfin : (T k).2.2.2 = false)
    (hP : va_P D vwCl ((a, .inr (ci, fs)) :: w0) H) (hD : va_D A ((a, .inr (ci, fs)) :: w0)) (hS : va_S A s.heap H locs) (hn : narrow (ty0 k) v = v) (hfit : fits (ty0 k) v = true) (hl : k < fs.length) (hdg : decode cc pc = .ok (.putfield idx, 3))
    (kk : ∀ (H1 : Heap) (locs1 : List Loc), va_P D vwCl ((a, .inr (ci, fs.set k v)) :: w0) H1 → va_D A ((a, .inr (ci, fs.set k v)) :: w0) → va_S A s.heap H1 locs1 → W p l e R s m args below meth c H1 locs1 cells slots Q (F0 m (pc + 3) ls rest)) : W p l e R s m args below meth c H locs cells slots Q (F0 m pc ls (v :: .ref a :: rest)) :=
  va_put X.1 X.2.1 X.2.2.2.2.2.1 hin ty0 hty hnm X.2.2.2.2.1 X.2.2.2.2.2.2.2.1.1 hP hD hS 0 rfl hc k hk (X.hts hlink) (fun _ h => h) hfin (hty k hk) hn hfit hl hdg kk
end WCT
