/-! PURE: years in mind: the reference's thinking and forgetting. -/
abbrev BT : Type := Int32 × Int32 × Int32 × Int32 × (Nat → Int32) × (Nat → Int32) × (Nat → Int32) × (Nat → Int32) × (Nat → Int32) × (Nat → Int32) × (Nat → Int32)
/-- the reference's state is as at first, as far as it is looked at -/
def BK (w y : Int32) (kind figure style fame silent ring kept : Nat → Int32) (b : BT) : Prop := b.1 = w ∧ b.2.1 = y ∧ (∀ j, j < 7 → b.2.2.2.2.1 j = kind j ∧ b.2.2.2.2.2.1 j = figure j ∧ b.2.2.2.2.2.2.1 j = style j ∧ b.2.2.2.2.2.2.2.1 j = fame j ∧ b.2.2.2.2.2.2.2.2.1 j = silent j ∧ b.2.2.2.2.2.2.2.2.2.1 j = ring j) ∧ ∀ j, j < 44 → b.2.2.2.2.2.2.2.2.2.2 j = kept j
abbrev T13 : Type := Int32 × Int32 × Int32 × Int32 × (Nat → Int32) × (Nat → Int32) × (Nat → Int32) × (Nat → Int32) × (Nat → Int32) × (Nat → Int32) × (Nat → Int32) × (Nat → Int32)
/-- without the refusals -/
def bt (s : T13) : BT := (s.1, s.2.1, s.2.2.1, s.2.2.2.1, s.2.2.2.2.2.1, s.2.2.2.2.2.2.1, s.2.2.2.2.2.2.2.1, s.2.2.2.2.2.2.2.2.1, s.2.2.2.2.2.2.2.2.2.1, s.2.2.2.2.2.2.2.2.2.2.1, s.2.2.2.2.2.2.2.2.2.2.2)
def br (s : T13) : Nat → Int32 := s.2.2.2.2.1
section KE
variable {n : Nat} {size year : Int32} {kinds figures styles fames writing order enders : Nat → Int32} {mw my : Int32} {kind figure style fame silent ring r4 r5 : Nat → Int32}
variable {kz gz sz fz wz oz ez t0 t1 z1 z2 z3 z4 z5 z6 z7 ik cu : Int32} {a1 a2 a3 a4 a5 a6 a7 kept : Nat → Int32}
theorem BK.self : BK mw my kind figure style fame silent ring kept (mw, my, ik, cu, kind, figure, style, fame, silent, ring, kept) := ⟨rfl, rfl, fun _ _ => ⟨rfl, rfl, rfl, rfl, rfl, rfl⟩, fun _ _ => rfl⟩
theorem x5_thinks : ∃ K, f_X5_thinks mw my ik cu kind figure style fame silent ring kept = some (mw, my, 1, nI 132, kind, figure, style, fame, silent, ring, K) ∧ PKd 88 K kind figure style fame silent ring mw my ∧ ∀ j, j < 88 → K j = kept j := by
  obtain ⟨K, h1, h2, h3⟩ := x5_keepAll (w := mw) (y := my) (ik := ik) (cu := cu) (kind := kind) (figure := figure) (style := style) (fame := fame) (silent := silent) (ring := ring) (kept := kept) (b := 2) (by omega)
  refine ⟨K, ?_, h2, fun j hj => h3 j (Or.inl (by omega))⟩
  unfold f_X5_thinks
  rw [show (2 : Int32) = nI 2 from rfl, h1]
  rfl
theorem x5_forgets {w0 y0 i0 c0 : Int32} {k0 f0 s0 m0 q0 p0 : Nat → Int32} (hK : PKd 88 kept kind figure style fame silent ring mw my) : ∃ k1 f1 s1 m1 q1 p1, f_X5_forgets w0 y0 i0 c0 k0 f0 s0 m0 q0 p0 kept = some (mw, my, 0, nI 132, k1, f1, s1, m1, q1, p1, kept) ∧ ∀ j, j < 7 → k1 j = kind j ∧ f1 j = figure j ∧ s1 j = style j ∧ m1 j = fame j ∧ q1 j = silent j ∧ p1 j = ring j := by
  obtain ⟨k1, f1, s1, m1, q1, p1, h1, h2⟩ := x5_backAll (w := mw) (y := my) (w0 := w0) (y0 := y0) (ik := i0) (cu := c0) (k0 := k0) (f0 := f0) (s0 := s0) (m0 := m0) (i0 := q0) (r0 := p0) (b := 2) (by omega) hK
  refine ⟨k1, f1, s1, m1, q1, p1, ?_, h2⟩
  unfold f_X5_forgets
  rw [show (2 : Int32) = nI 2 from rfl, h1]
  rfl
/-- what a forgetting leaves, at one stroke -/
theorem x5_forgetsB {w0 y0 i0 c0 : Int32} {k0 f0 s0 m0 q0 p0 K : Nat → Int32} (hK : PKd 88 K kind figure style fame silent ring mw my) (hk : ∀ j, j < 88 → K j = kept j) : ∃ b : BT, f_X5_forgets w0 y0 i0 c0 k0 f0 s0 m0 q0 p0 K = some b ∧ BK mw my kind figure style fame silent ring kept b := by
  obtain ⟨k1, f1, s1, m1, q1, p1, h1, h2⟩ := x5_forgets (w0 := w0) (y0 := y0) (i0 := i0) (c0 := c0) (k0 := k0) (f0 := f0) (s0 := s0) (m0 := m0) (q0 := q0) (p0 := p0) hK
  exact ⟨_, h1, rfl, rfl, h2, fun j hj => hk j (by omega)⟩
theorem BK.trans {b : BT} {w2 y2 : Int32} {k2 f2 s2 m2 q2 p2 K2 : Nat → Int32} (h1 : w2 = mw) (h2 : y2 = my) (h3 : ∀ j, j < 7 → k2 j = kind j ∧ f2 j = figure j ∧ s2 j = style j ∧ m2 j = fame j ∧ q2 j = silent j ∧ p2 j = ring j) (h4 : ∀ j, j < 44 → K2 j = kept j) (hb : BK w2 y2 k2 f2 s2 m2 q2 p2 K2 b) : BK mw my kind figure style fame silent ring kept b := by
  refine ⟨hb.1.trans h1, hb.2.1.trans h2, fun j hj => ?_, fun j hj => (hb.2.2.2 j hj).trans (h4 j hj)⟩
  obtain ⟨a1, a2, a3, a4, a5, a6⟩ := hb.2.2.1 j hj
  obtain ⟨b1, b2, b3, b4, b5, b6⟩ := h3 j hj
  exact ⟨a1.trans b1, a2.trans b2, a3.trans b3, a4.trans b4, a5.trans b5, a6.trans b6⟩
theorem BK.gr {b : BT} (hG : GR n size year kinds figures styles fames writing order enders mw my kind figure style fame silent ring) (hb : BK mw my kind figure style fame silent ring kept b) : GR n size year kinds figures styles fames writing order enders b.1 b.2.1 b.2.2.2.2.1 b.2.2.2.2.2.1 b.2.2.2.2.2.2.1 b.2.2.2.2.2.2.2.1 b.2.2.2.2.2.2.2.2.1 b.2.2.2.2.2.2.2.2.2.1 := by
  rw [hb.1, hb.2.1]
  exact hG.back hb.2.2.1
/-- one year on, on both sides -/
theorem GR.pass1 (hG : GR n size year kinds figures styles fames writing order enders mw my kind figure style fame silent ring) : ∃ F2, f_X0_passYears size year kinds figures styles fames writing enders 1 = some (year + 1, F2) ∧ f_X5_goesYear mw my kind figure style fame silent ring 0 = some (my + 1, sYr n kind figure style silent ring (my + 1) fame) ∧ GR n size (year + 1) kinds figures styles F2 writing order enders mw (my + 1) kind figure style (sYr n kind figure style silent ring (my + 1) fame) silent ring := by
  obtain ⟨F2, h1, h2⟩ := x0_passYears hG (show 1 ≤ 60 by omega)
  obtain ⟨hn, rfl, rfl, rfl, hM, hW⟩ := id hG
  exact ⟨F2, h1, x5_goesYear hn hM, hG.fame (year + 1) h2⟩
theorem GR.passK (hG : GR n size year kinds figures styles fames writing order enders mw my kind figure style fame silent ring) {k : Nat} (hk : k ≤ 60) : ∃ F2, f_X0_passYears size year kinds figures styles fames writing enders (nI k) = some ((sYs n kind figure style silent ring k my fame).1, F2) ∧ f_X5_goes mw my kind figure style fame silent ring (nI k) = some (sYs n kind figure style silent ring k my fame) ∧ GR n size (sYs n kind figure style silent ring k my fame).1 kinds figures styles F2 writing order enders mw (sYs n kind figure style silent ring k my fame).1 kind figure style (sYs n kind figure style silent ring k my fame).2 silent ring := by
  obtain ⟨F2, h1, h2⟩ := x0_passYears hG hk
  obtain ⟨hn, rfl, rfl, rfl, hM, hW⟩ := id hG
  exact ⟨F2, h1, x5_goes hn hM (by omega), hG.fame _ h2⟩
theorem bound60 {x : Int32} {m : Nat} (hm : m < 1000) (h0 : 0 ≤ x) (h1 : x ≤ nI m) : ∃ k, k ≤ m ∧ x = nI k := by
  obtain ⟨k, hk, e⟩ := i32nat0 h0 h1 (by omega)
  exact ⟨k, by omega, e⟩
theorem k_fameThen (hG : GR n size year kinds figures styles fames writing order enders mw my kind figure style fame silent ring) (hR : RR r4 r5) (x1 x2 : Int32) : SQ (fun r s => r.1 = s.1 ∧ RR r.2.2.2.2.2.2.2.2.2.2.2.2.2.2.2.2.2 (br s.2) ∧ BK mw my kind figure style fame silent ring kept (bt s.2)) (f_X4_fameThen size year kz kinds gz figures sz styles fz fames wz writing oz order ez enders t0 t1 z1 a1 z2 a2 z3 a3 z4 a4 z5 a5 z6 a6 z7 a7 r4 x1 x2) (f_X5_fameThen mw my ik cu r5 kind figure style fame silent ring kept x1 x2) := by
  have hpk := fun k (hk : k ≤ 60) => hG.passK (k := k) hk
  obtain ⟨hn, rfl, rfl, rfl, hM, hW⟩ := id hG
  unfold f_X4_fameThen f_X5_fameThen f_X5_fameThen_19
  by_cases hx : ∃ w, w < n ∧ x1 = nI w
  · obtain ⟨w, hw, rfl⟩ := hx
    rw [refNum_t hn hw, one_t hn hw]
    simp (decide := true) (implicitDefEqProofs := false) only [Option.bind_some, if_true, if_false]
    rcases bound_cases x2 60 with ⟨hb, b0, b9⟩ | hb | hb
    · rw [hb]
      simp (decide := true) (implicitDefEqProofs := false) only [Option.bind_some, if_true, if_false]
      obtain ⟨k, hk, rfl⟩ := bound60 (m := 60) (by omega) b0 b9
      obtain ⟨F2, p1, p2, hG2⟩ := hpk k hk
      obtain ⟨K, q1, q2, q3⟩ := x5_thinks (mw := nI n) (my := year) (ik := ik) (cu := cu) (kind := kind) (figure := figure) (style := style) (fame := fame) (silent := silent) (ring := ring) (kept := kept)
      rw [x0_take, q1]
      simp (decide := true) (implicitDefEqProofs := false) only [Option.bind_some, if_true, if_false]
      rw [p1, p2]
      simp (decide := true) (implicitDefEqProofs := false) only [Option.bind_some, if_true, if_false]
      rw [g3 (by omega) (by omega), gdI (by omega) (by omega), nI_clamp (by omega)]
      obtain ⟨b, f1, f2⟩ := x5_forgetsB (kept := kept) (w0 := nI n) (y0 := (sYs n kind figure style silent ring k year fame).1) (i0 := 1) (c0 := nI 132) (k0 := kind) (f0 := figure) (s0 := style) (m0 := (sYs n kind figure style silent ring k year fame).2) (q0 := silent) (p0 := ring) q2 q3
      rw [f1]
      exact ⟨_, _, rfl, rfl, hG2.hF w hw, hR, f2⟩
    · rw [hb]
      simp (decide := true) (implicitDefEqProofs := false) only [Option.bind_some, if_true, if_false]
      rw [rf6, no6]
      exact ⟨_, _, rfl, rfl, rfl, RR_upd hR (by omega) 1, BK.self⟩
    · rw [hb]
      simp (decide := true) (implicitDefEqProofs := false) only [Option.bind_some, if_true, if_false]
      rw [rf4, no4]
      exact ⟨_, _, rfl, rfl, rfl, RR_upd hR (by omega) 1, BK.self⟩
  · rw [refNum_f hn hx, one_f hn hx]
    simp (decide := true) (implicitDefEqProofs := false) only [Option.bind_some, if_true, if_false]
    rw [rf1, no1]
    exact ⟨_, _, rfl, rfl, rfl, RR_upd hR (by omega) 1, BK.self⟩
theorem k_famous (hG : GR n size year kinds figures styles fames writing order enders mw my kind figure style fame silent ring) (hR : RR r4 r5) (x1 x2 : Int32) : SQ (fun r s => r.1 = s.1 ∧ RR r.2.2.2.2.2.2.2.2.2.2.2.2.2.2.2.2.2 (br s.2) ∧ BK mw my kind figure style fame silent ring kept (bt s.2)) (f_X4_famous size year kz kinds gz figures sz styles fz fames wz writing oz order ez enders t0 t1 z1 a1 z2 a2 z3 a3 z4 a4 z5 a5 z6 a6 z7 a7 r4 x1 x2) (f_X5_famous mw my ik cu r5 kind figure style fame silent ring kept x1 x2) := by
  obtain ⟨hn, rfl, rfl, rfl, hM, hW⟩ := id hG
  unfold f_X4_famous f_X5_famous f_X5_famous_19
  by_cases hx : ∃ w, w < n ∧ x1 = nI w
  · obtain ⟨w, hw, rfl⟩ := hx
    rw [refNum_t hn hw, one_t hn hw]
    simp (decide := true) (implicitDefEqProofs := false) only [Option.bind_some, if_true, if_false]
    rcases bound_cases x2 99 with ⟨hb, b0, b9⟩ | hb | hb
    · rw [hb]
      simp (decide := true) (implicitDefEqProofs := false) only [Option.bind_some, if_true, if_false]
      obtain ⟨K, q1, q2, q3⟩ := x5_thinks (mw := nI n) (my := year) (ik := ik) (cu := cu) (kind := kind) (figure := figure) (style := style) (fame := fame) (silent := silent) (ring := ring) (kept := kept)
      rw [x0_take, q1]
      simp (decide := true) (implicitDefEqProofs := false) only [Option.bind_some, if_true, if_false]
      have hfin : ∀ (v y : Int32) (f : Nat → Int32), ∃ s, f_X5_famous_83 v (nI n) y 1 (nI 132) r5 kind figure style f silent ring K = some s ∧ s.1 = v ∧ br s.2 = r5 ∧ BK (nI n) year kind figure style fame silent ring kept (bt s.2) := by
        intro v y f
        obtain ⟨b, f1, f2⟩ := x5_forgetsB (kept := kept) (w0 := nI n) (y0 := y) (i0 := 1) (c0 := nI 132) (k0 := kind) (f0 := figure) (s0 := style) (m0 := f) (q0 := silent) (p0 := ring) q2 q3
        unfold f_X5_famous_83
        rw [f1]
        exact ⟨_, rfl, rfl, rfl, f2⟩
      refine simL (fun fuel v (a : Int32 × (Nat → Int32)) => f_X4_famous_33 (nI w) x2 (nI n) kz kinds gz figures sz styles fz wz writing oz order ez enders r4 fuel v a.1 a.2) (fun fuel v (b : Int32 × Int32 × (Nat → Int32)) => f_X5_famous_41 (nI w) x2 (nI n) kind figure style silent ring (fun v4 y f => f_X5_famous_83 v4 (nI n) y 1 (nI 132) r5 kind figure style f silent ring K) fuel b.1 v b.2.1 b.2.2) 61 (fun _ a b => b.1 = -9 ∧ GR n (nI n) a.1 kinds figures styles a.2 writing order enders (nI n) b.2.1 kind figure style b.2.2 silent ring) _ (fun f4 f5 a b hP => ?_) (fun f4 f5 i a b hf4 hf5 hi hP ih => ?_) 61 0 FU FU (year, fames) (-9, year, fame) (by omega) (FU_gt (by omega)) (FU_gt (by omega)) ⟨rfl, hG⟩
      · obtain ⟨v, y, f⟩ := b
        obtain ⟨rfl, -⟩ := hP
        rw [e_X4_famous_33, e_X5_famous_41, if_pos (show (60 : Int32) < nI 61 by decide), if_pos (show (60 : Int32) < nI 61 by decide)]
        obtain ⟨s, f1, f2, f3, f4⟩ := hfin (-9) y f
        exact ⟨_, s, rfl, f1, f2.symm, by rw [f3]; exact hR, f4⟩
      · obtain ⟨v, y, f⟩ := b
        obtain ⟨y4, F⟩ := a
        obtain ⟨rfl, hG2⟩ := hP
        dsimp only at hG2 ⊢
        have h60 : ¬ (60 : Int32) < nI i := Int32.not_lt.mpr (nI_le (b := 60) (by omega) (by omega))
        obtain ⟨F2, p1, p2, hG3⟩ := hG2.pass1
        rw [e_X4_famous_33, e_X5_famous_41, if_neg h60, if_neg h60, if_neg (show ¬ (0 : Int32) ≤ -9 by decide), g3 (by omega) (by omega), gdI (by omega) (by omega), nI_clamp (by omega), hG2.hF w hw]
        simp (decide := true) (implicitDefEqProofs := false) only [Option.bind_some, if_true, if_false]
        unfold f_X5_famous_70
        rw [p1, p2]
        simp (decide := true) (implicitDefEqProofs := false) only [Option.bind_some, if_true, if_false]
        by_cases hc : f w < x2
        · rw [if_pos hc, if_pos hc]
          exact ih (_, F2) (-9, _, _) ⟨rfl, hG3⟩
        · rw [if_neg hc, if_neg hc]
          obtain ⟨f5, rfl⟩ : ∃ g, f5 = g + 1 := ⟨f5 - 1, by omega⟩
          rw [e_X5_famous_41, if_pos (nI_pos' (n := i) (by omega)), ite_self]
          obtain ⟨s, f1, f2, f3, f4⟩ := hfin (nI i) (y + 1) (sYr n kind figure style silent ring (y + 1) f)
          exact ⟨_, s, rfl, f1, f2.symm, by rw [f3]; exact hR, f4⟩
    · rw [hb]
      simp (decide := true) (implicitDefEqProofs := false) only [Option.bind_some, if_true, if_false]
      rw [rf6, no6]
      exact ⟨_, _, rfl, rfl, rfl, RR_upd hR (by omega) 1, BK.self⟩
    · rw [hb]
      simp (decide := true) (implicitDefEqProofs := false) only [Option.bind_some, if_true, if_false]
      rw [rf4, no4]
      exact ⟨_, _, rfl, rfl, rfl, RR_upd hR (by omega) 1, BK.self⟩
  · rw [refNum_f hn hx, one_f hn hx]
    simp (decide := true) (implicitDefEqProofs := false) only [Option.bind_some, if_true, if_false]
    rw [rf1, no1]
    exact ⟨_, _, rfl, rfl, rfl, RR_upd hR (by omega) 1, BK.self⟩
theorem k_leads (hG : GR n size year kinds figures styles fames writing order enders mw my kind figure style fame silent ring) (hR : RR r4 r5) (x1 : Int32) : SQ (fun r s => r.1 = s.1 ∧ RR r.2.2.2.2.2.2.2.2.2.2.2.2.2.2.2.2.2 (br s.2) ∧ BK mw my kind figure style fame silent ring kept (bt s.2)) (f_X4_leads size year kz kinds gz figures sz styles fz fames wz writing oz order ez enders t0 t1 z1 a1 z2 a2 z3 a3 z4 a4 z5 a5 z6 a6 z7 a7 r4 x1) (f_X5_leads mw my ik cu r5 kind figure style fame silent ring kept x1) := by
  have hpk := fun k (hk : k ≤ 60) => hG.passK (k := k) hk
  obtain ⟨hn, rfl, rfl, rfl, hM, hW⟩ := id hG
  unfold f_X4_leads f_X5_leads f_X5_bound
  by_cases h0 : 0 ≤ x1
  · rw [if_pos h0, if_pos h0]
    by_cases h60 : x1 ≤ 60
    · rw [if_pos h60, if_pos h60]
      simp (decide := true) (implicitDefEqProofs := false) only [Option.bind_some, if_true, if_false]
      obtain ⟨k, hk, rfl⟩ := bound60 (m := 60) (by omega) h0 h60
      obtain ⟨F2, p1, p2, hG2⟩ := hpk k hk
      obtain ⟨K, q1, q2, q3⟩ := x5_thinks (mw := nI n) (my := year) (ik := ik) (cu := cu) (kind := kind) (figure := figure) (style := style) (fame := fame) (silent := silent) (ring := ring) (kept := kept)
      rw [x0_take, q1]
      simp (decide := true) (implicitDefEqProofs := false) only [Option.bind_some, if_true, if_false]
      rw [p1, p2]
      simp (decide := true) (implicitDefEqProofs := false) only [Option.bind_some, if_true, if_false]
      generalize hys : sYs n kind figure style silent ring k year fame = ys at *
      obtain ⟨y, f⟩ := ys
      dsimp only at hG2 ⊢
      refine simL (fun fuel v (a : Int32) => f_X4_leads_48 (nI n) y kz kinds gz figures sz styles fz F2 wz writing oz order ez enders r4 fuel a v) (fun fuel v (b : Int32) => f_X5_leads_33 (nI n) f (fun v3 => f_X5_leads_75 v3 (nI n) y 1 (nI 132) r5 kind figure style f silent ring K) fuel b v) n (fun _ a b => a = b ∧ (a = -9 ∨ ∃ v, v < n ∧ a = nI v)) _ (fun f4 f5 a b hP => ?_) (fun f4 f5 i a b hf4 hf5 hi hP ih => ?_) n 0 FU FU (-9) (-9) (by omega) (FU_gt (by omega)) (FU_gt (by omega)) ⟨rfl, Or.inl rfl⟩
      · obtain ⟨rfl, -⟩ := hP
        rw [e_X4_leads_48, e_X5_leads_33, if_pos (nI_le (Nat.le_refl _) (by omega)), if_pos (nI_le (Nat.le_refl _) (by omega))]
        obtain ⟨b, f1, f2⟩ := x5_forgetsB (kept := kept) (w0 := nI n) (y0 := y) (i0 := 1) (c0 := nI 132) (k0 := kind) (f0 := figure) (s0 := style) (m0 := f) (q0 := silent) (p0 := ring) q2 q3
        unfold f_X5_leads_75
        rw [f1]
        exact ⟨_, _, rfl, rfl, rfl, hR, f2⟩
      · obtain ⟨rfl, hP⟩ := hP
        rw [e_X4_leads_48, e_X5_leads_33, if_neg (nI_ge hi (by omega)), if_neg (nI_ge hi (by omega))]
        rcases hP with rfl | ⟨v, hv, rfl⟩
        · simp (decide := true) (implicitDefEqProofs := false) only [Option.bind_some, if_true, if_false]
          exact ih (nI i) (nI i) ⟨rfl, Or.inr ⟨i, hi, rfl⟩⟩
        · rw [if_neg (show ¬ nI v = -9 from fun e => nI_m9 (w := v) (by omega) e.symm), if_neg (nI_pos (by omega)), g3 (by omega) (by omega), g3 (by omega) (by omega), gdI (by omega) (by omega), gdI (by omega) (by omega), nI_clamp (by omega), nI_clamp (by omega), hG2.hF i hi, hG2.hF v hv]
          simp (decide := true) (implicitDefEqProofs := false) only [Option.bind_some, if_true, if_false]
          by_cases hc : f i ≤ f v
          · rw [if_pos hc, if_pos hc]
            exact ih (nI v) (nI v) ⟨rfl, Or.inr ⟨v, hv, rfl⟩⟩
          · rw [if_neg hc, if_neg hc]
            exact ih (nI i) (nI i) ⟨rfl, Or.inr ⟨i, hi, rfl⟩⟩
    · rw [if_neg h60, if_neg h60, rf6]
      simp (decide := true) (implicitDefEqProofs := false) only [Option.bind_some, if_true, if_false]
      rw [no6]
      exact ⟨_, _, rfl, rfl, rfl, RR_upd hR (by omega) 1, BK.self⟩
  · rw [if_neg h0, if_neg h0, rf4]
    simp (decide := true) (implicitDefEqProofs := false) only [Option.bind_some, if_true, if_false]
    rw [no4]
    exact ⟨_, _, rfl, rfl, rfl, RR_upd hR (by omega) 1, BK.self⟩
theorem ff_snoc {p : Nat → Bool} : ∀ (d i : Nat), ff p (d + 1) i = match ff p d i with | some k => some k | none => if p (i + d) = true then some (i + d) else none := by
  intro d
  induction d with
  | zero => intro i; simp [ff]
  | succ d ih =>
    intro i
    rw [ff, ih (i + 1), ff]
    by_cases h : p i = true
    · simp [h]
    · simp only [h]
      rw [show i + 1 + d = i + (d + 1) by omega]
      rfl
def sFg (fame : Nat → Int32) (m : Nat) (x : Int32) : Int32 := match ff (fun w => fame w == 0) m 0 with
  | some k => nI k
  | none => x
theorem x0_forgotten (hn : n ≤ 7) {f g : Nat → Int32} (h : ∀ w, w < n → f w = g w) : f_X0_forgotten (nI n) f = some (sFg g n (-9)) := by
  have key : ∀ (d i fuel : Nat), i + d = n → d < fuel → f_X0_forgotten_2 (nI n) f fuel (nI i) = some (match ff (fun w => g w == 0) d i with | some k => nI k | none => -9) := by
    intro d
    induction d with
    | zero =>
      intro i fuel hi hf
      obtain ⟨fuel, rfl⟩ : ∃ f2, fuel = f2 + 1 := ⟨fuel - 1, by omega⟩
      rw [e_X0_forgotten_2, if_pos (nI_le (by omega) (by omega))]
      rfl
    | succ d ih =>
      intro i fuel hi hf
      obtain ⟨fuel, rfl⟩ : ∃ f2, fuel = f2 + 1 := ⟨fuel - 1, by omega⟩
      rw [e_X0_forgotten_2, if_neg (nI_ge (by omega) (by omega)), g3 (by omega) (by omega), h i (by omega), ff]
      simp (decide := true) (implicitDefEqProofs := false) only [Option.bind_some, if_true, if_false]
      by_cases hc : g i = 0
      · rw [if_pos hc]; simp [hc]
      · rw [if_neg hc, ← nI_succ, ih (i + 1) fuel (by omega) (by omega)]
        simp [hc]
  exact key n 0 FU (by omega) (FU_gt (by omega))
theorem x5_forgotDown {R : Type} {f : Nat → Int32} (K : Int32 → Option (Int32 × Int32 × Int32 × Int32 × Int32 × Int32 × (Nat → Int32) × (Nat → Int32) × (Nat → Int32) × (Nat → Int32) × (Nat → Int32) × (Nat → Int32) × (Nat → Int32))) : ∀ (m fuel : Nat) (x : Int32), m ≤ 7 → m < fuel → f_X5_findForgotten_32 f K fuel x (nI m - 1) = K (sFg f m x) := by
  intro m
  induction m with
  | zero =>
    intro fuel x hm hf
    obtain ⟨fuel, rfl⟩ : ∃ f2, fuel = f2 + 1 := ⟨fuel - 1, by omega⟩
    rw [e_X5_findForgotten_32, if_pos (by decide)]
    rfl
  | succ m ih =>
    intro fuel x hm hf
    obtain ⟨fuel, rfl⟩ : ∃ f2, fuel = f2 + 1 := ⟨fuel - 1, by omega⟩
    rw [nI_pred, e_X5_findForgotten_32, if_neg (nI_pos (by omega)), gdI (by omega) (by omega), nI_clamp (by omega)]
    unfold f_X5_findForgotten_50
    rw [← Int32.sub_eq_add_neg, ih fuel _ (by omega) (by omega), ih fuel _ (by omega) (by omega)]
    unfold sFg
    rw [ff_snoc]
    cases hff : ff (fun w => f w == 0) m 0 with
    | some k => simp
    | none =>
      simp only [Nat.zero_add]
      by_cases hc : f m = 0
      · simp [hc]
      · simp [hc]
theorem sFg_cases (f : Nat → Int32) (m : Nat) : sFg f m (-9) = -9 ∨ ∃ k, k < m ∧ sFg f m (-9) = nI k := by
  unfold sFg
  cases hff : ff (fun w => f w == 0) m 0 with
  | none => exact Or.inl rfl
  | some k => exact Or.inr ⟨k, by have := ff_some hff; omega, rfl⟩
abbrev T14 : Type := Int32 × Int32 × Int32 × Int32 × Int32 × (Nat → Int32) × (Nat → Int32) × (Nat → Int32) × (Nat → Int32) × (Nat → Int32) × (Nat → Int32) × (Nat → Int32)
def bt6 (s : T14) : BT := (s.1, s.2.1, s.2.2.1, s.2.2.2.1, s.2.2.2.2.2.1, s.2.2.2.2.2.2.1, s.2.2.2.2.2.2.2.1, s.2.2.2.2.2.2.2.2.1, s.2.2.2.2.2.2.2.2.2.1, s.2.2.2.2.2.2.2.2.2.2.1, s.2.2.2.2.2.2.2.2.2.2.2)
theorem k_first0 (hG : GR n size year kinds figures styles fames writing order enders mw my kind figure style fame silent ring) {fw x1 : Int32} : SQ (fun r s => r.1 = (if x1 = 0 then s.1 else s.2.2.2.2.2.1) ∧ r.2.2.2.2.2.2.2.2.2.2.2.2.2.2.2.2.2 = r4 ∧ BK mw my kind figure style fame silent ring kept (bt6 s.2)) (f_X4_first_16 size year kz kinds gz figures sz styles fz fames wz writing oz order ez enders x1 t0 t1 z1 a1 z2 a2 z3 a3 z4 a4 z5 a5 z6 a6 z7 a7 r4) (f_X5_findForgotten mw my ik cu fw kind figure style fame silent ring kept) := by
  obtain ⟨hn, rfl, rfl, rfl, hM, hW⟩ := id hG
  unfold f_X4_first_16 f_X5_findForgotten
  obtain ⟨K, q1, q2, q3⟩ := x5_thinks (mw := nI n) (my := year) (ik := ik) (cu := cu) (kind := kind) (figure := figure) (style := style) (fame := fame) (silent := silent) (ring := ring) (kept := kept)
  rw [x0_take, q1]
  simp (decide := true) (implicitDefEqProofs := false) only [Option.bind_some, if_true, if_false]
  have hfin : ∀ (v y w : Int32) (f : Nat → Int32), ∃ s, f_X5_findForgotten_82 v (nI n) y 1 (nI 132) w kind figure style f silent ring K = some s ∧ s.1 = v ∧ s.2.2.2.2.2.1 = w ∧ BK (nI n) year kind figure style fame silent ring kept (bt6 s.2) := by
    intro v y w f
    obtain ⟨b, f1, f2⟩ := x5_forgetsB (kept := kept) (w0 := nI n) (y0 := y) (i0 := 1) (c0 := nI 132) (k0 := kind) (f0 := figure) (s0 := style) (m0 := f) (q0 := silent) (p0 := ring) q2 q3
    unfold f_X5_findForgotten_82
    rw [f1]
    exact ⟨_, rfl, rfl, rfl, f2⟩
  refine simL (fun fuel v (a : Int32 × (Nat → Int32)) => f_X4_first_29 (nI n) kz kinds gz figures sz styles fz wz writing oz order ez enders r4 (fun v2 v3 y F => f_X4_first_49 x1 v2 v3 (nI n) y kz kinds gz figures sz styles fz F wz writing oz order ez enders r4) fuel v a.1 a.2) (fun fuel v (b : Int32 × Int32 × Int32 × (Nat → Int32)) => f_X5_findForgotten_15 (nI n) kind figure style silent ring (fun v1 y w f => f_X5_findForgotten_82 v1 (nI n) y 1 (nI 132) w kind figure style f silent ring K) fuel b.1 v b.2.1 b.2.2.1 b.2.2.2) 61 (fun _ a b => b.1 = -9 ∧ b.2.2.1 = -9 ∧ GR n (nI n) a.1 kinds figures styles a.2 writing order enders (nI n) b.2.1 kind figure style b.2.2.2 silent ring) _ (fun f4 f5 a b hP => ?_) (fun f4 f5 i a b hf4 hf5 hi hP ih => ?_) 61 0 FU FU (year, fames) (-9, year, -9, fame) (by omega) (FU_gt (by omega)) (FU_gt (by omega)) ⟨rfl, rfl, hG⟩
  · obtain ⟨v, y, w, f⟩ := b
    obtain ⟨rfl, rfl, -⟩ := hP
    rw [e_X4_first_29, e_X5_findForgotten_15, if_pos (show (60 : Int32) < nI 61 by decide), if_pos (show (60 : Int32) < nI 61 by decide)]
    obtain ⟨s, f1, f2, f3, f4⟩ := hfin (-9) y (-9) f
    exact ⟨_, s, rfl, f1, by rw [f2, f3, ite_self], rfl, f4⟩
  · obtain ⟨v, y, w, f⟩ := b
    obtain ⟨y4, F⟩ := a
    obtain ⟨rfl, rfl, hG2⟩ := hP
    dsimp only at hG2 ⊢
    have h60 : ¬ (60 : Int32) < nI i := Int32.not_lt.mpr (nI_le (b := 60) (by omega) (by omega))
    obtain ⟨F2, p1, p2, hG3⟩ := hG2.pass1
    rw [e_X4_first_29, e_X5_findForgotten_15, if_neg h60, if_neg h60, if_neg (show ¬ (0 : Int32) ≤ -9 by decide), x0_forgotten hn hG2.hF, x5_forgotDown (R := Int32) _ n FU _ hn (FU_gt (by omega))]
    unfold f_X5_findForgotten_57 f_X5_findForgotten_68
    rw [p1, p2]
    simp (decide := true) (implicitDefEqProofs := false) only [Option.bind_some, if_true, if_false]
    rcases sFg_cases f n with h9 | ⟨k, hk, h9⟩
    · rw [h9]
      simp (decide := true) (implicitDefEqProofs := false) only [Option.bind_some, if_true, if_false]
      exact ih (_, F2) (-9, _, -9, _) ⟨rfl, rfl, hG3⟩
    · rw [h9, if_neg (show ¬ nI k = -9 from fun e => nI_m9 (w := k) (by omega) e.symm), if_pos (nI_pos' (n := k) (by omega))]
      obtain ⟨f5, rfl⟩ : ∃ g, f5 = g + 1 := ⟨f5 - 1, by omega⟩
      rw [e_X5_findForgotten_15, if_pos (nI_pos' (n := k) (by omega)), ite_self]
      obtain ⟨s, f1, f2, f3, f4⟩ := hfin (nI k) (y + 1) (nI i) (sYr n kind figure style silent ring (y + 1) f)
      unfold f_X4_first_49
      by_cases hc : x1 = 0
      · rw [if_pos hc]
        exact ⟨_, s, rfl, f1, by rw [if_pos hc, f2], rfl, f4⟩
      · rw [if_neg hc]
        exact ⟨_, s, rfl, f1, by rw [if_neg hc, f3], rfl, f4⟩
theorem k_first (hG : GR n size year kinds figures styles fames writing order enders mw my kind figure style fame silent ring) (hR : RR r4 r5) (fw x1 : Int32) : SQ (fun r s => r.1 = s.1 ∧ RR r.2.2.2.2.2.2.2.2.2.2.2.2.2.2.2.2.2 s.2.2.2.2.2.2.1 ∧ BK mw my kind figure style fame silent ring kept (s.2.1, s.2.2.1, s.2.2.2.1, s.2.2.2.2.1, s.2.2.2.2.2.2.2)) (f_X4_first size year kz kinds gz figures sz styles fz fames wz writing oz order ez enders t0 t1 z1 a1 z2 a2 z3 a3 z4 a4 z5 a5 z6 a6 z7 a7 r4 x1) (f_X5_first mw my ik cu fw r5 kind figure style fame silent ring kept x1) := by
  unfold f_X4_first f_X5_first
  rcases isIn1 x1 with ⟨h0, hi⟩ | ⟨h0, hi⟩ | ⟨h0, h1, hi⟩
  · obtain ⟨r, s, e4, e5, e1, e2, e3⟩ := k_first0 (kz := kz) (gz := gz) (sz := sz) (fz := fz) (wz := wz) (oz := oz) (ez := ez) (t0 := t0) (t1 := t1) (z1 := z1) (z2 := z2) (z3 := z3) (z4 := z4) (z5 := z5) (z6 := z6) (z7 := z7) (a1 := a1) (a2 := a2) (a3 := a3) (a4 := a4) (a5 := a5) (a6 := a6) (a7 := a7) (ik := ik) (cu := cu) (kept := kept) (r4 := r4) hG (fw := fw) (x1 := x1)
    rw [hi, if_pos h0]
    simp (decide := true) (implicitDefEqProofs := false) only [Option.bind_some, if_true, if_false]
    rw [e4, e5]
    simp (decide := true) (implicitDefEqProofs := false) only [Option.bind_some, if_true, if_false]
    rw [if_pos h0] at e1 ⊢
    exact ⟨_, _, rfl, rfl, e1, by rw [e2]; exact hR, e3⟩
  · obtain ⟨r, s, e4, e5, e1, e2, e3⟩ := k_first0 (kz := kz) (gz := gz) (sz := sz) (fz := fz) (wz := wz) (oz := oz) (ez := ez) (t0 := t0) (t1 := t1) (z1 := z1) (z2 := z2) (z3 := z3) (z4 := z4) (z5 := z5) (z6 := z6) (z7 := z7) (a1 := a1) (a2 := a2) (a3 := a3) (a4 := a4) (a5 := a5) (a6 := a6) (a7 := a7) (ik := ik) (cu := cu) (kept := kept) (r4 := r4) hG (fw := fw) (x1 := x1)
    have hn0 : ¬ x1 = 0 := by rw [h0]; decide
    rw [hi, if_neg hn0, if_pos h0]
    simp (decide := true) (implicitDefEqProofs := false) only [Option.bind_some, if_true, if_false]
    rw [e4, e5]
    simp (decide := true) (implicitDefEqProofs := false) only [Option.bind_some, if_true, if_false]
    rw [if_neg hn0] at e1 ⊢
    exact ⟨_, _, rfl, rfl, e1, by rw [e2]; exact hR, e3⟩
  · rw [hi, if_neg h0, if_neg h1, rf2]
    simp (decide := true) (implicitDefEqProofs := false) only [Option.bind_some, if_true, if_false]
    rw [no2]
    exact ⟨_, _, rfl, rfl, rfl, RR_upd hR (by omega) 1, BK.self⟩
end KE
