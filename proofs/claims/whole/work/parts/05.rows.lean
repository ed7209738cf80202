/-! Rows of this claim's own shape. -/
def FU : Nat := 100000
def remI (x y : Int32) : Int32 := x - x / y * y
def divI (x y : Int32) : Int32 := x / y
def remL (x y : Int64) : Int64 := x - x / y * y
def divL (x y : Int64) : Int64 := x / y
def shlI (x y : Int32) : Int32 := x <<< (y &&& 31)
def shrI (x y : Int32) : Int32 := x >>> (y &&& 31)
def i2cI (x : Int32) : Int32 := (x.toUInt32 % 65536).toInt32
def maxI (x y : Int32) : Int32 := if x < y then y else x
def minI (x y : Int32) : Int32 := if y < x then y else x
theorem i32ne {x k : Int32} {z : Int} (h : ¬ x = k) (hz : k.toInt = z) : x.toInt ≠ z := fun e => h (Int32.toInt_inj.mp (e.trans hz.symm))
section WROWS
variable {p : Program} {l : Launch} {e : Env} {h : Nat} {s : State} {m : MethodId} {args : Array Value} {below : List Frame} {meth : Method} {c : Code} {H : Heap} {locs : List Loc} {Q : State → Prop}
variable {cc : ByteArray} {nL : Nat} {ret : Option FieldType} {own : String} {D : va_G} {cI : ClassId} {aS : aSt} {A : Nat → Prop} {pc : Nat} {ls : Array Slot} {rest : List Value} {ws wc w1 ws' : va_W} {a : Nat}
theorem x_irem (hx : p.tables.exec = Jvm.exec) (hb : c.code = cc) {x y : Int32} (hdg : decode cc pc = .ok (.irem, 1)) (hne : ¬ y = 0) (k : Wh p l e h s m args below meth c H locs Q (F0 m (pc + 1) ls (.int (remI x y) :: rest))) : Wh p l e h s m args below meth c H locs Q (F0 m pc ls (.int y :: .int x :: rest)) := lv_irem hx hb hdg hne k
theorem x_idiv (hx : p.tables.exec = Jvm.exec) (hb : c.code = cc) {x y : Int32} (hdg : decode cc pc = .ok (.idiv, 1)) (hne : ¬ y = 0) (k : Wh p l e h s m args below meth c H locs Q (F0 m (pc + 1) ls (.int (divI x y) :: rest))) : Wh p l e h s m args below meth c H locs Q (F0 m pc ls (.int y :: .int x :: rest)) := lv_idiv hx hb hdg hne k
theorem x_lrem (hx : p.tables.exec = Jvm.exec) (hb : c.code = cc) {x y : Int64} (hdg : decode cc pc = .ok (.lrem, 1)) (hne : ¬ y = 0) (k : Wh p l e h s m args below meth c H locs Q (F0 m (pc + 1) ls (.long (remL x y) :: rest))) : Wh p l e h s m args below meth c H locs Q (F0 m pc ls (.long y :: .long x :: rest)) := lv_lrem hx hb hdg hne k
theorem x_ldiv (hx : p.tables.exec = Jvm.exec) (hb : c.code = cc) {x y : Int64} (hdg : decode cc pc = .ok (.ldiv, 1)) (hne : ¬ y = 0) (k : Wh p l e h s m args below meth c H locs Q (F0 m (pc + 1) ls (.long (divL x y) :: rest))) : Wh p l e h s m args below meth c H locs Q (F0 m pc ls (.long y :: .long x :: rest)) := lv_ldiv hx hb hdg hne k
theorem x_ishl (hx : p.tables.exec = Jvm.exec) (hb : c.code = cc) {x y : Int32} (hdg : decode cc pc = .ok (.ishl, 1)) (k : Wh p l e h s m args below meth c H locs Q (F0 m (pc + 1) ls (.int (shlI x y) :: rest))) : Wh p l e h s m args below meth c H locs Q (F0 m pc ls (.int y :: .int x :: rest)) := lv_ishl hx hb hdg k
theorem x_ishr (hx : p.tables.exec = Jvm.exec) (hb : c.code = cc) {x y : Int32} (hdg : decode cc pc = .ok (.ishr, 1)) (k : Wh p l e h s m args below meth c H locs Q (F0 m (pc + 1) ls (.int (shrI x y) :: rest))) : Wh p l e h s m args below meth c H locs Q (F0 m pc ls (.int y :: .int x :: rest)) := lv_ishr hx hb hdg k
theorem x_i2c (hx : p.tables.exec = Jvm.exec) (hb : c.code = cc) {x : Int32} (hdg : decode cc pc = .ok (.i2c, 1)) (k : Wh p l e h s m args below meth c H locs Q (F0 m (pc + 1) ls (.int (i2cI x) :: rest))) : Wh p l e h s m args below meth c H locs Q (F0 m pc ls (.int x :: rest)) := lv_i2c hx hb hdg rfl k
theorem tsIn (hx : p.tables.exec = Jvm.exec) (hb : c.code = cc) {dflt lo hi : Int} {offs : Array Int} {len : Nat} {x k : Int32} {off : Int} {tgt : Nat} (hdg : decode cc pc = .ok (.tableswitch dflt lo hi offs, len)) (hk : x = k) (h1 : ¬ k.toInt < lo) (h2 : ¬ hi < k.toInt) (ho : offs[(k.toInt - lo).toNat]? = some off) (ht : (pc : Int) + off = (tgt : Int))
    (kk : Wh p l e h s m args below meth c H locs Q (F0 m tgt ls rest)) : Wh p l e h s m args below meth c H locs Q (F0 m pc ls (.int x :: rest)) := by
  subst hk
  exact lv_tableIn hx hb hdg h1 h2 ho ht kk
theorem tsD (hx : p.tables.exec = Jvm.exec) (hb : c.code = cc) {dflt lo hi : Int} {offs : Array Int} {len : Nat} {x : Int32} {keys : List Int} {tgt : Nat} (hdg : decode cc pc = .ok (.tableswitch dflt lo hi offs, len)) (hne : ∀ z ∈ keys, x.toInt ≠ z) (hsz : lo + offs.size = hi + 1) (chk : (List.range offs.size).all (fun j => decide (offs[j]? = some dflt) || keys.contains (lo + (j : Int))) = true) (ht : (pc : Int) + dflt = (tgt : Int))
    (kk : Wh p l e h s m args below meth c H locs Q (F0 m tgt ls rest)) : Wh p l e h s m args below meth c H locs Q (F0 m pc ls (.int x :: rest)) := by
  by_cases h1 : x.toInt < lo
  · exact lv_tableOut hx hb hdg (Or.inl h1) ht kk
  by_cases h2 : hi < x.toInt
  · exact lv_tableOut hx hb hdg (Or.inr h2) ht kk
  have hj : (x.toInt - lo).toNat < offs.size := by omega
  have z := List.all_eq_true.mp chk _ (List.mem_range.mpr hj)
  simp only [Bool.or_eq_true, decide_eq_true_eq] at z
  rcases z with z | z
  · exact lv_tableIn hx hb hdg h1 h2 z ht kk
  · have e : lo + ((x.toInt - lo).toNat : Int) = x.toInt := by omega
    rw [e] at z
    exact absurd rfl (hne _ (by simpa using z))
theorem lsIn (hx : p.tables.exec = Jvm.exec) (hb : c.code = cc) {dflt : Int} {ps : Array (Int × Int)} {len : Nat} {x k : Int32} {off : Int} {tgt : Nat} (hdg : decode cc pc = .ok (.lookupswitch dflt ps, len)) (hk : x = k) (hp : (ps.toList.zip (ps.toList.drop 1)).all (fun (a, next) => a.1 < next.1) = true) (ho : Op.lookupswitch.offset ps.toList dflt k.toInt = off) (ht : (pc : Int) + off = (tgt : Int))
    (kk : Wh p l e h s m args below meth c H locs Q (F0 m tgt ls rest)) : Wh p l e h s m args below meth c H locs Q (F0 m pc ls (.int x :: rest)) := by
  subst hk
  exact lv_lookup hx hb hdg hp ho ht kk
theorem lsOff {dflt k : Int} : ∀ (ps : List (Int × Int)), (∀ z ∈ ps.map Prod.fst, k ≠ z) → Op.lookupswitch.offset ps dflt k = dflt := by
  intro ps
  induction ps with
  | nil => intro _; rfl
  | cons q t ih =>
    intro hq
    obtain ⟨a, o⟩ := q
    rw [Op.lookupswitch.offset_cons, if_neg (fun e => hq a List.mem_cons_self e.symm)]
    exact ih (fun z hz => hq z (List.mem_cons_of_mem _ hz))
theorem lsD (hx : p.tables.exec = Jvm.exec) (hb : c.code = cc) {dflt : Int} {ps : Array (Int × Int)} {len : Nat} {x : Int32} {keys : List Int} {tgt : Nat} (hdg : decode cc pc = .ok (.lookupswitch dflt ps, len)) (hne : ∀ z ∈ keys, x.toInt ≠ z) (hp : (ps.toList.zip (ps.toList.drop 1)).all (fun (a, next) => a.1 < next.1) = true) (hk : (ps.toList.map Prod.fst).all (fun z => keys.contains z) = true) (ht : (pc : Int) + dflt = (tgt : Int))
    (kk : Wh p l e h s m args below meth c H locs Q (F0 m tgt ls rest)) : Wh p l e h s m args below meth c H locs Q (F0 m pc ls (.int x :: rest)) :=
  lv_lookup hx hb hdg hp (lsOff _ (fun z hz => hne z (by simpa using List.all_eq_true.mp hk z hz))) ht kk
theorem x_mmax {own : String} {idx : Nat} {x y : Int32} (X : Bx p s m args meth c cc nL ret own D cI aS A) (w1 : Cond.methodLink own idx Lib.Math.max.name ∈ wTT) (w2 : Cond.static Lib.Math.max.name ∈ wTT) (w3 : Cond.initialized "java/lang/Math" ∈ wTT) (w4 : Cond.code Lib.Math.max.name Lib.Math.max.code 2 (some .int) ∈ wTT) (hh : 1 ≤ h) (hls : ls.size = nL) (hcat : (rest.map fun v => v.category).sum ≤ 37) (hdg : decode cc pc = .ok (.invokestatic idx, 3))
    (kk : Wh p l e h s m args below meth c H locs Q (F0 m (pc + 3) ls (.int (maxI x y) :: rest))) : Wh p l e h s m args below meth c H locs Q (F0 m pc ls (.int y :: .int x :: rest)) :=
  va_mmax X.1 X.2.1 (X.2.2.2.1.trans hls.symm) X.2.2.2.2.1 (X.hts w1) (X.hts w2) (X.hts w3) (X.hts w4) hh (show _ ≤ 50 * h by omega) (Nat.le_refl _) (Nat.le_refl _) hdg kk
theorem x_mmin {own : String} {idx : Nat} {x y : Int32} (X : Bx p s m args meth c cc nL ret own D cI aS A) (w1 : Cond.methodLink own idx Lib.Math.min.name ∈ wTT) (w2 : Cond.static Lib.Math.min.name ∈ wTT) (w3 : Cond.initialized "java/lang/Math" ∈ wTT) (w4 : Cond.code Lib.Math.min.name Lib.Math.min.code 2 (some .int) ∈ wTT) (hh : 1 ≤ h) (hls : ls.size = nL) (hcat : (rest.map fun v => v.category).sum ≤ 37) (hdg : decode cc pc = .ok (.invokestatic idx, 3))
    (kk : Wh p l e h s m args below meth c H locs Q (F0 m (pc + 3) ls (.int (minI x y) :: rest))) : Wh p l e h s m args below meth c H locs Q (F0 m pc ls (.int y :: .int x :: rest)) :=
  va_mmin X.1 X.2.1 (X.2.2.2.1.trans hls.symm) X.2.2.2.2.1 (X.hts w1) (X.hts w2) (X.hts w3) (X.hts w4) hh (show _ ≤ 50 * h by omega) (Nat.le_refl _) (Nat.le_refl _) hdg kk
/-- a call of a JDK static method over numbers -/
def LkJS (own : String) (idx : Nat) (y : MethodName) (cy : ByteArray) (maxL : Nat) (ry : Option FieldType) (n : Nat) : Prop :=
  Cond.methodLink own idx y ∈ wTT ∧ Cond.static y ∈ wTT ∧ Cond.initialized y.cls ∈ wTT ∧ Cond.code y cy maxL ry ∈ wTT ∧ (y.cls ≠ "java/lang/invoke/MethodHandle" ∧ y.cls ≠ "java/lang/invoke/VarHandle" ∧ (parseMethodDescriptor y.desc).map (fun d => d.parameters.length) = some n) ∧ maxL ≤ 31
theorem run_JS {y : MethodName} {cy : ByteArray} {maxL k idx h' : Nat} {ry : Option FieldType} {Qc : Array Value → State → Outcome → State → Prop} {As st0 : List Value}
    (X : Bx p s m args meth c cc nL ret own D cI aS A) (hP : va_P D vwCl ws H) (hD : va_D A ws) (hS : va_S A s.heap H locs)
    (hM : Met l y (wx y cy maxL ry) (rmH h') (pcW D cI aS As [] H.size) Qc 0 0 (va_A [] H.size)) (lk : LkJS own idx y cy maxL ry k) (hh : h' + 1 ≤ h) (hk : As.length = k) (hst : st0 = As.reverse ++ rest) (hcat : (rest.map fun v => v.category).sum ≤ 8) (hls : ls.size = nL) (hdg : decode cc pc = .ok (.invokestatic idx, 3)) :
    va_Run p l e (rmH h) s m args below meth c H locs 0 0 0 0 (F0 m pc ls st0) rest (Qc As.toArray) (va_A [] H.size) := by
  obtain ⟨l1, l2, l4, l5, l6, l7⟩ := lk
  refine va_runS X.fix hM ⟨callB_of k (fun w hw => X.hts hw) (wx_in l5) rfl rfl rfl (X.hts l4) (X.hts l1) l6 ⟨hh, ?_⟩, X.hts l2⟩ ⟨pcW.blind, fun U hU hW => X.pre hP hD hS [] rfl rfl _ hU hW⟩ rfl hk hls hst (lv_room hcat) hdg ⟨Nat.le_refl _, Nat.le_refl _⟩
  show 8 + (maxL + 11) + 50 * h' ≤ 50 * h
  omega
/-- a call on a String constant -/
theorem run_J {y : MethodName} {cy : ByteArray} {maxL k idx h' i : Nat} {ry : Option FieldType} {Qc : Array Value → State → Outcome → State → Prop} {As st0 : List Value}
    (X : Bx p s m args meth c cc nL ret own D cI aS A) (hP : va_P D vwCl ws H) (hD : va_D A ws) (hS : va_S A s.heap H locs)
    (hM : Met l y (wx y cy maxL ry) (rmH h') (pcW D cI aS (.ref (aS.1 i) :: As) [] H.size) Qc 0 0 (va_A [] H.size)) (hi : i < 8) (lk : LkV own idx y "java/lang/String" cy maxL ry k) (hh : h' + 1 ≤ h) (hk : As.length = k) (hst : st0 = As.reverse ++ .ref (aS.1 i) :: rest) (hcat : (rest.map fun v => v.category).sum ≤ 8) (hls : ls.size = nL) (hdg : decode cc pc = .ok (.invokevirtual idx, 3)) :
    va_Run p l e (rmH h) s m args below meth c H locs 0 0 0 0 (F0 m pc ls st0) rest (Qc (Value.ref (aS.1 i) :: As).toArray) (va_A [] H.size) := by
  obtain ⟨l1, l2, l3, l4, l5, l6, l7⟩ := lk
  refine va_runV (C := "java/lang/String") X.fix hM (cwV k (fun w hw => X.hts hw) ?_ rfl rfl rfl l6 ⟨hh, ?_⟩) ⟨pcW.blind, vk_recv X.2.2.2.2.2.2.2.2.1.1 hi hS, fun U hU hW => X.pre hP hD hS [] rfl rfl _ hU hW⟩ rfl hk hls hst (lv_room hcat) hdg ⟨Nat.le_refl _, Nat.le_refl _⟩
  · intro w hw
    rcases List.mem_append.mp hw with hw | hw
    · simp only [List.mem_cons, List.not_mem_nil, or_false] at hw
      rcases hw with rfl | rfl | rfl | rfl
      · exact ⟨l1, wTT_good l1⟩
      · exact ⟨l2, wTT_good l2⟩
      · exact ⟨l3, wTT_good l3⟩
      · exact ⟨l4, wTT_good l4⟩
    · exact wx_in l5 w hw
  · show 8 + (maxL + 11) + 50 * h' ≤ 50 * h
    omega
end WROWS
