/-! PURE: two loops side by side; changes of the ring, of who writes, of one's numbers. -/
def SQ {R S : Type} (Q : R → S → Prop) (x : Option R) (y : Option S) : Prop := ∃ r s, x = some r ∧ y = some s ∧ Q r s
theorem simL {α β R S : Type} (g4 : Nat → Int32 → α → Option R) (g5 : Nat → Int32 → β → Option S) (n : Nat) (P : Nat → α → β → Prop) (Q : R → S → Prop)
    (hend : ∀ f4 f5 a b, P n a b → SQ Q (g4 (f4 + 1) (nI n) a) (g5 (f5 + 1) (nI n) b))
    (hstep : ∀ f4 f5 i a b, 0 < f4 → 0 < f5 → i < n → P i a b → (∀ a' b', P (i + 1) a' b' → SQ Q (g4 f4 (nI i + 1) a') (g5 f5 (nI i + 1) b')) → SQ Q (g4 (f4 + 1) (nI i) a) (g5 (f5 + 1) (nI i) b)) :
    ∀ (d i f4 f5 : Nat) (a : α) (b : β), i + d = n → d < f4 → d < f5 → P i a b → SQ Q (g4 f4 (nI i) a) (g5 f5 (nI i) b) := by
  intro d
  induction d with
  | zero =>
    intro i f4 f5 a b hi h4 h5 hP
    obtain ⟨f4, rfl⟩ : ∃ f2, f4 = f2 + 1 := ⟨f4 - 1, by omega⟩
    obtain ⟨f5, rfl⟩ : ∃ f2, f5 = f2 + 1 := ⟨f5 - 1, by omega⟩
    obtain rfl : i = n := by omega
    exact hend f4 f5 a b hP
  | succ d ih =>
    intro i f4 f5 a b hi h4 h5 hP
    obtain ⟨f4, rfl⟩ : ∃ f2, f4 = f2 + 1 := ⟨f4 - 1, by omega⟩
    obtain ⟨f5, rfl⟩ : ∃ f2, f5 = f2 + 1 := ⟨f5 - 1, by omega⟩
    exact hstep f4 f5 i a b (by omega) (by omega) (by omega) hP (fun a' b' h => by rw [← nI_succ]; exact ih (i + 1) f4 f5 a' b' (by omega) (by omega) (by omega) h)
theorem nI_eqI {a b : Nat} (ha : a < 2 ^ 31) (hb : b < 2 ^ 31) : nI a = nI b ↔ a = b := ⟨nI_inj ha hb, fun h => by rw [h]⟩
theorem nI_or (a b : Nat) : nI a ||| nI b = nI (a ||| b) := by
  apply Int32.toBitVec_inj.mp
  show BitVec.ofNat 32 a ||| BitVec.ofNat 32 b = BitVec.ofNat 32 (a ||| b)
  apply BitVec.eq_of_toNat_eq
  simp [Nat.or_mod_two_pow]
theorem shl1 {i : Nat} (hi : i < 30) : shlI 1 (nI i) = nI (2 ^ i) := by
  have : ∀ i, i < 30 → shlI 1 (nI i) = nI (2 ^ i) := by decide +kernel
  exact this i hi
theorem or_bit {m i : Nat} (hm : m < 2 ^ i) (hi : i < 30) : ∃ k, k < 2 ^ (i + 1) ∧ nI m ||| shlI 1 (nI i) = nI k := by
  refine ⟨m ||| 2 ^ i, ?_, ?_⟩
  · exact Nat.or_lt_two_pow (Nat.lt_of_lt_of_le hm (Nat.pow_le_pow_right (by omega) (by omega))) (Nat.pow_lt_pow_right (by omega) (by omega))
  · rw [shl1 hi, nI_or]
/-! the ring -/
theorem pl_eq {n : Nat} {ring : Nat → Int32} (hM : PM n ring) {w i : Nat} (hw : w < n) (hi : i < n) (h : ring i = nI w) : sPl n ring w = i :=
  hM.2.2 _ _ (pl_spec hM hw).1 hi ((pl_spec hM hw).2.1.trans h.symm)
theorem PM_perm {n : Nat} {ring R : Nat → Int32} (hM : PM n ring) (σ : Nat → Nat) (h1 : ∀ i, i < n → σ i < n) (h2 : ∀ i, i < n → ∃ j, j < n ∧ σ j = i) (h3 : ∀ i j, i < n → j < n → σ i = σ j → i = j) (hR : ∀ i, i < n → R i = ring (σ i)) : PM n R := by
  refine ⟨fun i hi => ?_, fun w hw => ?_, fun i j hi hj e => ?_⟩
  · rw [hR i hi]; exact hM.1 _ (h1 i hi)
  · obtain ⟨i, hi, e⟩ := hM.2.1 w hw
    obtain ⟨j, hj, rfl⟩ := h2 i hi
    exact ⟨j, hj, by rw [hR j hj]; exact e⟩
  · rw [hR i hi, hR j hj] at e
    exact h3 i j hi hj (hM.2.2 _ _ (h1 i hi) (h1 j hj) e)
theorem PM_congr {n : Nat} {ring R : Nat → Int32} (hM : PM n ring) (hR : ∀ i, i < n → R i = ring i) : PM n R :=
  PM_perm hM (fun i => i) (fun _ h => h) (fun i h => ⟨i, h, rfl⟩) (fun _ _ _ _ h => h) hR
def sw (n : Nat) (ring : Nat → Int32) (a b : Nat) : Nat → Int32 := upd (upd ring (sPl n ring a) (nI b)) (sPl n ring b) (nI a)
theorem sw_pl {n : Nat} {ring : Nat → Int32} (hn : n ≤ 7) (hM : PM n ring) {a b : Nat} (ha : a < n) (hb : b < n) (hab : a ≠ b) : sPl n ring a ≠ sPl n ring b := by
  intro e
  have h1 := (pl_spec hM ha).2.1
  have h2 := (pl_spec hM hb).2.1
  rw [e, h2] at h1
  exact hab (nI_inj (by omega) (by omega) h1).symm
theorem PM_sw {n : Nat} {ring : Nat → Int32} (hn : n ≤ 7) (hM : PM n ring) {a b : Nat} (ha : a < n) (hb : b < n) (hab : a ≠ b) : PM n (sw n ring a b) := by
  have hne := sw_pl hn hM ha hb hab
  obtain ⟨p1, p2, -⟩ := pl_spec hM ha
  obtain ⟨q1, q2, -⟩ := pl_spec hM hb
  unfold sw
  generalize sPl n ring a = p at *
  generalize sPl n ring b = q at *
  refine PM_perm hM (fun i => if i = p then q else if i = q then p else i) (fun i hi => ?_) (fun i hi => ?_) (fun i j hi hj e => ?_) (fun i hi => ?_)
  · split
    · exact q1
    · split
      · exact p1
      · exact hi
  · by_cases e1 : i = p
    · exact ⟨q, q1, by rw [if_neg (Ne.symm hne), if_pos rfl, e1]⟩
    · by_cases e2 : i = q
      · exact ⟨p, p1, by rw [if_pos rfl, e2]⟩
      · exact ⟨i, hi, by rw [if_neg e1, if_neg e2]⟩
  · grind
  · unfold upd
    grind
theorem sw_sw {n : Nat} {ring : Nat → Int32} (hn : n ≤ 7) (hM : PM n ring) {a b : Nat} (ha : a < n) (hb : b < n) (hab : a ≠ b) : sw n (sw n ring a b) a b = ring := by
  have hne := sw_pl hn hM ha hb hab
  have hM2 := PM_sw hn hM ha hb hab
  obtain ⟨p1, p2, -⟩ := pl_spec hM ha
  obtain ⟨q1, q2, -⟩ := pl_spec hM hb
  have e1 : sPl n (sw n ring a b) a = sPl n ring b := pl_eq hM2 ha q1 (by unfold sw; rw [upd_at])
  have e2 : sPl n (sw n ring a b) b = sPl n ring a := pl_eq hM2 hb p1 (by unfold sw; rw [upd_ne hne, upd_at])
  rw [sw, e1, e2]
  funext i
  unfold sw
  generalize sPl n ring a = p at *
  generalize sPl n ring b = q at *
  by_cases h1 : i = p
  · subst h1; rw [upd_at, p2]
  · rw [upd_ne h1]
    by_cases h2 : i = q
    · subst h2; rw [upd_at, q2]
    · rw [upd_ne h2, upd_ne h2, upd_ne h1]
theorem x5_swaps {n : Nat} {ring : Nat → Int32} (hn : n ≤ 7) (hM : PM n ring) {a b : Nat} (ha : a < n) (hb : b < n) : f_X5_swaps ring (nI a) (nI b) = some (sw n ring a b) := by
  have p1 := (pl_spec hM ha).1
  have q1 := (pl_spec hM hb).1
  unfold f_X5_swaps
  rw [x5_placeOf hn hM ha]
  simp only [Option.bind_some]
  rw [x5_placeOf hn hM hb]
  simp only [Option.bind_some]
  rw [gdI (by omega) (by omega), gdI (by omega) (by omega), nI_clamp (by omega), nI_clamp (by omega)]
  rfl
section GRS
variable {n : Nat} {size year : Int32} {kinds figures styles fames writing order enders : Nat → Int32} {mw my : Int32} {kind figure style fame silent ring : Nat → Int32}
theorem GR.hW (hG : GR n size year kinds figures styles fames writing order enders mw my kind figure style fame silent ring) : ∀ w, w < n → (silent w = 0 ∨ silent w = 1) ∧ writing w = 1 - silent w := fun w hw => ⟨(hG.2.2.2.2.2 w hw).2.2.2.2.1, (hG.2.2.2.2.2 w hw).2.2.2.2.2.1⟩
theorem GR.hO (hG : GR n size year kinds figures styles fames writing order enders mw my kind figure style fame silent ring) : ∀ w, w < n → order w = ring w := fun w hw => (hG.2.2.2.2.2 w hw).2.2.2.2.2.2.1
theorem GR.hE (hG : GR n size year kinds figures styles fames writing order enders mw my kind figure style fame silent ring) : ∀ w, w < n → enders w = sEn n silent ring w := fun w hw => (hG.2.2.2.2.2 w hw).2.2.2.2.2.2.2
theorem GR.hF (hG : GR n size year kinds figures styles fames writing order enders mw my kind figure style fame silent ring) : ∀ w, w < n → fames w = fame w := fun w hw => (hG.2.2.2.2.2 w hw).2.2.2.1
theorem GR.hS (hG : GR n size year kinds figures styles fames writing order enders mw my kind figure style fame silent ring) : ∀ w, w < n → styles w = style w := fun w hw => (hG.2.2.2.2.2 w hw).2.2.1
theorem GR.hM (hG : GR n size year kinds figures styles fames writing order enders mw my kind figure style fame silent ring) : PM n ring := hG.2.2.2.2.1
/-- another ring, told anew -/
theorem GR.reorder (hG : GR n size year kinds figures styles fames writing order enders mw my kind figure style fame silent ring) {O R : Nat → Int32} (hM : PM n R) (hO : ∀ w, w < n → O w = R w) (e0 : Nat → Int32) : ∃ E, f_X0_tellEnders size writing O e0 = some E ∧ GR n size year kinds figures styles fames writing O E mw my kind figure style fame silent R := by
  obtain ⟨E, h1, h2⟩ := x0_tellEnders (enders := e0) hG.1 hM hG.hW hO
  refine ⟨E, by rw [hG.2.1]; exact h1, hG.1, hG.2.1, hG.2.2.1, hG.2.2.2.1, hM, fun w hw => ?_⟩
  obtain ⟨a1, a2, a3, a4, a5, a6, a7, a8⟩ := hG.2.2.2.2.2 w hw
  exact ⟨a1, a2, a3, a4, a5, a6, hO w hw, h2 w hw⟩
theorem GR.swap (hG : GR n size year kinds figures styles fames writing order enders mw my kind figure style fame silent ring) {a b : Nat} (ha : a < n) (hb : b < n) (hab : a ≠ b) : ∃ O E, f_X0_swapPlaces size writing order enders (nI a) (nI b) = some (O, E) ∧ GR n size year kinds figures styles fames writing O E mw my kind figure style fame silent (sw n ring a b) := by
  have hn := hG.1
  have hM := hG.hM
  have p1 := (pl_spec hM ha).1
  have q1 := (pl_spec hM hb).1
  obtain ⟨E, h1, h2⟩ := hG.reorder (O := upd (upd order (sPl n ring a) (nI b)) (sPl n ring b) (nI a)) (PM_sw hn hM ha hb hab) (fun w hw => by
    unfold sw upd
    split
    · rfl
    · split
      · rfl
      · exact hG.hO w hw) enders
  refine ⟨_, E, ?_, h2⟩
  rw [hG.2.1] at h1 ⊢
  unfold f_X0_swapPlaces
  rw [x0_placeOf hn hM hG.hO ha]
  simp only [Option.bind_some]
  rw [x0_placeOf hn hM hG.hO hb]
  simp only [Option.bind_some]
  rw [s3 (by omega) (by omega)]
  simp only [Option.bind_some]
  rw [s3 (by omega) (by omega)]
  simp only [Option.bind_some]
  rw [h1]
  rfl
theorem one_sub {x : Int32} (h : x = 0 ∨ x = 1) : (1 - x = 0 ∨ 1 - x = 1) ∧ 1 - (1 - x) = x := by
  rcases h with rfl | rfl <;> decide
theorem GR.toggle (hG : GR n size year kinds figures styles fames writing order enders mw my kind figure style fame silent ring) {w : Nat} (hw : w < n) : ∃ W E, f_X0_toggleWriting size writing order enders (nI w) = some (W, E) ∧ W w = silent w ∧ GR n size year kinds figures styles fames W order E mw my kind figure style fame (upd silent w (1 - silent w)) ring := by
  have hn := hG.1
  have hM := hG.hM
  obtain ⟨hs, hwr⟩ := hG.hW w hw
  have hW2 : ∀ v, v < n → (upd silent w (1 - silent w) v = 0 ∨ upd silent w (1 - silent w) v = 1) ∧ upd writing w (1 - writing w) v = 1 - upd silent w (1 - silent w) v := by
    intro v hv
    by_cases e : v = w
    · subst e
      rw [upd_at, upd_at, hwr]
      exact ⟨(one_sub hs).1, rfl⟩
    · rw [upd_ne e, upd_ne e]
      exact hG.hW v hv
  obtain ⟨E, h1, h2⟩ := x0_tellEnders (enders := enders) hn hM hW2 hG.hO
  refine ⟨upd writing w (1 - writing w), E, ?_, ?_, hn, hG.2.1, hG.2.2.1, hG.2.2.2.1, hM, fun v hv => ?_⟩
  · rw [hG.2.1]
    unfold f_X0_toggleWriting
    rw [g3 (by omega) (by omega)]
    simp only [Option.bind_some]
    rw [s3 (by omega) (by omega)]
    simp only [Option.bind_some]
    rw [h1]
    rfl
  · rw [upd_at, hwr]
    exact (one_sub hs).2
  · obtain ⟨a1, a2, a3, a4, a5, a6, a7, a8⟩ := hG.2.2.2.2.2 v hv
    exact ⟨a1, a2, a3, a4, (hW2 v hv).1, (hW2 v hv).2, a7, h2 v hv⟩
theorem upd2 {f g : Nat → Int32} {w v : Nat} {x : Int32} (h : f v = g v) : upd f w x v = upd g w x v := by
  unfold upd
  split
  · rfl
  · exact h
theorem GR.setStyle (hG : GR n size year kinds figures styles fames writing order enders mw my kind figure style fame silent ring) (w : Nat) (x : Int32) : GR n size year kinds figures (upd styles w x) fames writing order enders mw my kind figure (upd style w x) fame silent ring := by
  refine ⟨hG.1, hG.2.1, hG.2.2.1, hG.2.2.2.1, hG.hM, fun v hv => ?_⟩
  obtain ⟨a1, a2, a3, a4, a5⟩ := hG.2.2.2.2.2 v hv
  exact ⟨a1, a2, upd2 a3, a4, a5⟩
theorem GR.setFame (hG : GR n size year kinds figures styles fames writing order enders mw my kind figure style fame silent ring) (w : Nat) (x : Int32) : GR n size year kinds figures styles (upd fames w x) writing order enders mw my kind figure style (upd fame w x) silent ring := by
  refine ⟨hG.1, hG.2.1, hG.2.2.1, hG.2.2.2.1, hG.hM, fun v hv => ?_⟩
  obtain ⟨a1, a2, a3, a4, a5⟩ := hG.2.2.2.2.2 v hv
  exact ⟨a1, a2, a3, upd2 a4, a5⟩
theorem GR.setKind (hG : GR n size year kinds figures styles fames writing order enders mw my kind figure style fame silent ring) (w : Nat) (x : Int32) : GR n size year (upd kinds w x) figures styles fames writing order enders mw my (upd kind w x) figure style fame silent ring := by
  refine ⟨hG.1, hG.2.1, hG.2.2.1, hG.2.2.2.1, hG.hM, fun v hv => ?_⟩
  obtain ⟨a1, a5⟩ := hG.2.2.2.2.2 v hv
  exact ⟨upd2 a1, a5⟩
theorem GR.setFigure (hG : GR n size year kinds figures styles fames writing order enders mw my kind figure style fame silent ring) (w : Nat) (x : Int32) : GR n size year kinds (upd figures w x) styles fames writing order enders mw my kind (upd figure w x) style fame silent ring := by
  refine ⟨hG.1, hG.2.1, hG.2.2.1, hG.2.2.2.1, hG.hM, fun v hv => ?_⟩
  obtain ⟨a1, a2, a5⟩ := hG.2.2.2.2.2 v hv
  exact ⟨a1, upd2 a2, a5⟩
end GRS
