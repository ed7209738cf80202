/-! Rows for the law's own body (its room is the claim's). -/
section WLAW
variable {p : Program} {l : Launch} {e : Env} {R : Room} {s : State} {m : MethodId} {args : Array Value} {below : List Frame} {meth : Method} {c : Code} {H : Heap} {locs : List Loc} {cells slots : Nat} {Q : State → Prop}
variable {cc : ByteArray} {nL : Nat} {ret : Option FieldType} {own : String} {D : va_G} {cI : ClassId} {aS : aSt} {A : Nat → Prop} {pc : Nat} {ls : Array Slot} {rest : List Value} {ws wc w1 ws' : va_W} {a : Nat}
theorem run_L {y : MethodName} {C : String} {cy : ByteArray} {maxL k idx h' ci q0 N : Nat} {T : u_T} {ry : Option FieldType} {Qc : Array Value → State → Outcome → State → Prop} {As st0 : List Value} {fs : List Value}
    (X : Bx p s m args meth c cc nL ret own D cI aS A) (hP : va_P D vwCl ws H) (hD : va_D A ws) (hS : va_S A s.heap H locs) (isC : List Nat) (hn : va_nd isC = true) (hC : isC.map (fun i => ws[i]?) = wc.map some)
    (hM : Met l y (wx y cy maxL ry) (rmH h') (pcW D cI aS (.ref a :: As) wc H.size) Qc 0 0 (va_A wc H.size)) (lk : LkV own idx y C cy maxL ry k) (hfr : h' + 1 ≤ R.frames) (hlo : 50 + 50 * h' ≤ R.locals) (hci : vwCl[ci]? = some (C, T, N)) (he : ws[q0]? = some (a, .inr (ci, fs))) (hk : As.length = k) (hst : st0 = As.reverse ++ .ref a :: rest) (hcat : (rest.map fun v => v.category).sum ≤ 8) (hls : ls.size = nL) (hcells : cells ≤ R.cells) (hslots : slots ≤ R.slots) (hdg : decode cc pc = .ok (.invokevirtual idx, 3)) :
    va_Run p l e R s m args below meth c H locs cells slots 0 0 (F0 m pc ls st0) rest (Qc (Value.ref a :: As).toArray) (va_A wc H.size) := by
  obtain ⟨l1, l2, l3, l4, l5, l6, l7⟩ := lk
  refine va_runV (C := C) X.fix hM (cwV k (fun w hw => X.hts hw) ?_ rfl rfl rfl l6 ⟨hfr, ?_⟩) ⟨pcW.blind, va_recv X.2.2.2.2.2.2.2.1.1 hP hci he, fun U hU hW => X.pre hP hD hS isC hn hC _ hU hW⟩ rfl hk hls hst (lv_room hcat) hdg ⟨hcells, hslots⟩
  · intro w hw
    rcases List.mem_append.mp hw with hw | hw
    · simp only [List.mem_cons, List.not_mem_nil, or_false] at hw
      rcases hw with rfl | rfl | rfl | rfl
      · exact ⟨l1, wTT_good l1⟩
      · exact ⟨l2, wTT_good l2⟩
      · exact ⟨l3, wTT_good l3⟩
      · exact ⟨l4, wTT_good l4⟩
    · exact wx_in l5 w hw
  · show 8 + (maxL + 11) + 50 * h' ≤ R.locals
    omega
theorem lo_i {av : Array Value} {rv : Int32} {st0 : List Value} (X : Bx p s m args meth c cc nL ret own D cI aS A) (hP : va_P D vwCl ws H) (hD : va_D A ws) (hS : va_S A s.heap H locs) (isC : List Nat) (hC : isC.map (fun i => ws[i]?) = wc.map some)
    (hr : va_Run p l e R s m args below meth c H locs cells slots 0 0 (F0 m pc ls st0) rest (qI D wc wc rv H.size av) (va_A wc H.size))
    (kk : ∀ (H1 : Heap) (locs1 : List Loc), va_P D vwCl ws H1 → va_S A s.heap H1 locs1 → W p l e R s m args below meth c H1 locs1 cells slots Q (F0 m (pc + 3) ls (.int rv :: rest))) : W p l e R s m args below meth c H locs cells slots Q (F0 m pc ls st0) := by
  have hF := X.free hD hS isC hC
  refine va_calli hr hS (fun q _ h => hF q h) hF (fun r u t H1 locs1 ht hvm hw hB hz1 hk1 hS1 => ?_)
  have e : r = rv := hw
  subst e
  exact kk H1 locs1 (wP_ro hP hD isC hC hk1 (ht ▸ hB.1)) hS1
theorem lq_i {av : Array Value} {rv : Int32} {st0 : List Value} (X : Bx p s m args meth c cc nL ret own D cI aS A) (hP : va_P D vwCl ws H) (hD : va_D A ws) (hS : va_S A s.heap H locs) (isC isR : List Nat) (hC : isC.map (fun i => ws[i]?) = wc.map some) (hW : isC.map (fun i => ws'[i]?) = w1.map some) (hR : ∀ i ∈ isR, ∃ c, ws[i]? = some c ∧ ws'[i]? = some c) {N : Nat} (hN : ws'.length = N) (hall : (List.range N).all (fun k => isC.contains k || isR.contains k) = true) (hdis : isR.all (fun k => !isC.contains k) = true) (hf : ws'.map Prod.fst = ws.map Prod.fst)
    (hr : va_Run p l e R s m args below meth c H locs cells slots 0 0 (F0 m pc ls st0) rest (qI D wc w1 rv H.size av) (va_A wc H.size))
    (kk : ∀ (H1 : Heap) (locs1 : List Loc), va_P D vwCl ws' H1 → va_D A ws' → va_S A s.heap H1 locs1 → W p l e R s m args below meth c H1 locs1 cells slots Q (F0 m (pc + 3) ls (.int rv :: rest))) : W p l e R s m args below meth c H locs cells slots Q (F0 m pc ls st0) := by
  have hF := X.free hD hS isC hC
  refine va_calli hr hS (fun q _ h => hF q h) hF (fun r u t H1 locs1 ht hvm hw hB hz1 hk1 hS1 => ?_)
  have e : r = rv := hw
  subst e
  exact kk H1 locs1 (wP_q hP hD isC isR hC hW hR hN hall hdis hk1 (ht ▸ hB.1)) (wD_congr hf hD) hS1
theorem lq_l {av : Array Value} {rv : Int64} {st0 : List Value} (X : Bx p s m args meth c cc nL ret own D cI aS A) (hP : va_P D vwCl ws H) (hD : va_D A ws) (hS : va_S A s.heap H locs) (isC isR : List Nat) (hC : isC.map (fun i => ws[i]?) = wc.map some) (hW : isC.map (fun i => ws'[i]?) = w1.map some) (hR : ∀ i ∈ isR, ∃ c, ws[i]? = some c ∧ ws'[i]? = some c) {N : Nat} (hN : ws'.length = N) (hall : (List.range N).all (fun k => isC.contains k || isR.contains k) = true) (hdis : isR.all (fun k => !isC.contains k) = true) (hf : ws'.map Prod.fst = ws.map Prod.fst)
    (hr : va_Run p l e R s m args below meth c H locs cells slots 0 0 (F0 m pc ls st0) rest (qL D wc w1 rv H.size av) (va_A wc H.size))
    (kk : ∀ (H1 : Heap) (locs1 : List Loc), va_P D vwCl ws' H1 → va_D A ws' → va_S A s.heap H1 locs1 → W p l e R s m args below meth c H1 locs1 cells slots Q (F0 m (pc + 3) ls (.long rv :: rest))) : W p l e R s m args below meth c H locs cells slots Q (F0 m pc ls st0) := by
  have hF := X.free hD hS isC hC
  refine va_calll hr hS (fun q _ h => hF q h) hF (fun r u t H1 locs1 ht hvm hw hB hz1 hk1 hS1 => ?_)
  have e : r = rv := hw
  subst e
  exact kk H1 locs1 (wP_q hP hD isC isR hC hW hR hN hall hdis hk1 (ht ▸ hB.1)) (wD_congr hf hD) hS1
theorem tsInR (hx : p.tables.exec = Jvm.exec) (hb : c.code = cc) {dflt lo hi : Int} {offs : Array Int} {len : Nat} {x k : Int32} {off : Int} {tgt : Nat} (hdg : decode cc pc = .ok (.tableswitch dflt lo hi offs, len)) (hk : x = k) (h1 : ¬ k.toInt < lo) (h2 : ¬ hi < k.toInt) (ho : offs[(k.toInt - lo).toNat]? = some off) (ht : (pc : Int) + off = (tgt : Int))
    (kk : W p l e R s m args below meth c H locs cells slots Q (F0 m tgt ls rest)) : W p l e R s m args below meth c H locs cells slots Q (F0 m pc ls (.int x :: rest)) := by
  subst hk
  exact lv_tableIn hx hb hdg h1 h2 ho ht kk
theorem tsDR (hx : p.tables.exec = Jvm.exec) (hb : c.code = cc) {dflt lo hi : Int} {offs : Array Int} {len : Nat} {x : Int32} {keys : List Int} {tgt : Nat} (hdg : decode cc pc = .ok (.tableswitch dflt lo hi offs, len)) (hne : ∀ z ∈ keys, x.toInt ≠ z) (hsz : lo + offs.size = hi + 1) (chk : (List.range offs.size).all (fun j => decide (offs[j]? = some dflt) || keys.contains (lo + (j : Int))) = true) (ht : (pc : Int) + dflt = (tgt : Int))
    (kk : W p l e R s m args below meth c H locs cells slots Q (F0 m tgt ls rest)) : W p l e R s m args below meth c H locs cells slots Q (F0 m pc ls (.int x :: rest)) := by
  by_cases h1 : x.toInt < lo
  · exact lv_tableOut hx hb hdg (Or.inl h1) ht kk
  by_cases h2 : hi < x.toInt
  · exact lv_tableOut hx hb hdg (Or.inr h2) ht kk
  have hj : (x.toInt - lo).toNat < offs.size := by omega
  have z := List.all_eq_true.mp chk _ (List.mem_range.mpr hj)
  simp only [Bool.or_eq_true, decide_eq_true_eq] at z
  rcases z with z | z
  · exact lv_tableIn hx hb hdg h1 h2 z ht kk
  · have e : lo + ((x.toInt - lo).toNat : Int) = x.toInt := by omega
    rw [e] at z
    exact absurd rfl (hne _ (by simpa using z))
end WLAW
/-- six cells of the script are there -/
theorem law_six {L i : Nat} (hL : L ≤ 3072) (hi : i ≤ 4000) (h : ¬ nI L - 6 < nI i) : i + 6 ≤ L := by
  rcases Nat.lt_or_ge L 6 with q | q
  · exfalso
    apply h
    have hi2 : (nI i).toInt = (i : Int) := nI_toInt (by omega)
    rw [Int32.lt_iff_toInt_lt, hi2]
    have : L = 0 ∨ L = 1 ∨ L = 2 ∨ L = 3 ∨ L = 4 ∨ L = 5 := by omega
    rcases this with rfl | rfl | rfl | rfl | rfl | rfl
    · have e : (nI 0 - 6).toInt = -6 := by decide
      omega
    · have e : (nI 1 - 6).toInt = -5 := by decide
      omega
    · have e : (nI 2 - 6).toInt = -4 := by decide
      omega
    · have e : (nI 3 - 6).toInt = -3 := by decide
      omega
    · have e : (nI 4 - 6).toInt = -2 := by decide
      omega
    · have e : (nI 5 - 6).toInt = -1 := by decide
      omega
  · have e : nI L - 6 = nI (L - 6) := by
      obtain ⟨k, rfl⟩ : ∃ k, L = k + 6 := ⟨L - 6, by omega⟩
      have z : nI (k + 6) = nI k + 6 := by
        show Int32.ofNat (k + 6) = Int32.ofNat k + Int32.ofNat 6
        exact Int32.ofNat_add k 6
      rw [z, Nat.add_sub_cancel]
      exact Int32.add_sub_cancel _ _
    rw [e] at h
    rcases Nat.lt_or_ge (L - 6) i with z | z
    · exact absurd (nI_lt z (by omega)) h
    · omega
theorem nI_addc (i k : Nat) : nI i + nI k = nI (i + k) := (Int32.ofNat_add i k).symm
