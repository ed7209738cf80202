/-! PURE: two who bribe or not. -/
section KG
variable {n : Nat} {size year : Int32} {kinds figures styles fames writing order enders : Nat → Int32} {mw my : Int32} {kind figure style fame silent ring r4 r5 : Nat → Int32}
variable {kz gz sz fz wz oz ez t0 t1 z1 z2 z3 z4 z5 z6 z7 ik cu : Int32} {a1 a2 a3 a4 a5 a6 a7 kept : Nat → Int32}
theorem k_w59 (hG : GR n size year kinds figures styles fames writing order enders mw my kind figure style fame silent ring) {a b i : Nat} (ha : a < n) (hb : b < n) (hi : i < 4) (hsa : silent a = 0) (hsb : silent b = 0) (own oth : Nat → Int32) : f_X4_weighPair_59 (nI a) (nI b) (nI i) size year kz kinds gz figures sz styles fz fames wz writing oz order ez enders own oth = some (size, year, kz, kinds, gz, figures, sz, styles, fz, fames, wz, writing, oz, order, ez, enders, upd own i (sBW n kind figure style silent ring my a - 2 * shrI (nI i) 1), upd oth i (sBW n kind figure style silent ring my b - 2 * (nI i &&& 1))) := by
  unfold f_X4_weighPair_59
  rw [x0_worthOf hG ha, x0_worthOf hG hb, sWo_w hsa, sWo_w hsb]
  simp (implicitDefEqProofs := false) only [Option.bind_some]
  rw [s3 (by omega) (by omega)]
  simp (implicitDefEqProofs := false) only [Option.bind_some]
  rw [s3 (by omega) (by omega)]
  simp (implicitDefEqProofs := false) only [Option.bind_some]
theorem k_g44 (hn : n ≤ 7) (hM : PM n ring) {a b i : Nat} (ha : a < n) (hb : b < n) (hi : i < 4) (kL gets) : f_X5_findGets_44 (nI a) (nI b) kL (nI i) (nI n) my ik cu kind figure style fame silent ring kept gets = (f_X5_forgets (nI n) my ik cu kind figure style fame silent ring kept).bind fun r => kL (nI i + 1) r.1 r.2.1 r.2.2.1 r.2.2.2.1 r.2.2.2.2.1 r.2.2.2.2.2.1 r.2.2.2.2.2.2.1 r.2.2.2.2.2.2.2.1 r.2.2.2.2.2.2.2.2.1 r.2.2.2.2.2.2.2.2.2.1 r.2.2.2.2.2.2.2.2.2.2 (upd (upd gets (2 * i) (sBW n kind figure style silent ring my a - 2 * divI (nI i) 2)) (2 * i + 1) (sBW n kind figure style silent ring my b - 2 * remI (nI i) 2)) := by
  unfold f_X5_findGets_44
  rw [x5_bookWorth hn hM ha, x5_bookWorth hn hM hb, nI_2i, ← nI_succ]
  simp (implicitDefEqProofs := false) only [Option.bind_some]
  rw [gdI (by omega) (by omega), gdI (by omega) (by omega), nI_clamp (by omega), nI_clamp (by omega)]
theorem four_bits {i : Nat} (hi : i < 4) : shrI (nI i) 1 = divI (nI i) 2 ∧ (nI i &&& 1) = remI (nI i) 2 ∧ (i ^^^ 2) < 4 ∧ (i ^^^ 1) < 4 ∧ nI i ^^^ 2 = nI (i ^^^ 2) ∧ nI i ^^^ 1 = nI (i ^^^ 1) := by
  have h : ∀ i, i < 4 → shrI (nI i) 1 = divI (nI i) 2 ∧ (nI i &&& 1) = remI (nI i) 2 ∧ (i ^^^ 2) < 4 ∧ (i ^^^ 1) < 4 ∧ nI i ^^^ 2 = nI (i ^^^ 2) ∧ nI i ^^^ 1 = nI (i ^^^ 1) := by decide
  exact h i hi
theorem gets_step {own oth gets : Nat → Int32} {i : Nat} {u v : Int32} (h : ∀ k, k < i → own k = gets (2 * k) ∧ oth k = gets (2 * k + 1)) : ∀ k, k < i + 1 → upd own i u k = upd (upd gets (2 * i) u) (2 * i + 1) v (2 * k) ∧ upd oth i v k = upd (upd gets (2 * i) u) (2 * i + 1) v (2 * k + 1) := by
  intro k hk
  by_cases e : k = i
  · subst e
    exact ⟨by rw [upd_at, upd_ne (by omega), upd_at], by rw [upd_at, upd_at]⟩
  · rw [upd_ne e, upd_ne e, upd_ne (by omega), upd_ne (by omega), upd_ne (by omega), upd_ne (by omega)]
    exact h k (by omega)
def bt5 (s : Int32 × Int32 × Int32 × Int32 × Int32 × (Nat → Int32) × (Nat → Int32) × (Nat → Int32) × (Nat → Int32) × (Nat → Int32) × (Nat → Int32) × (Nat → Int32) × (Nat → Int32) × (Nat → Int32)) : BT := (s.2.1, s.2.2.1, s.2.2.2.1, s.2.2.2.2.1, s.2.2.2.2.2.2.1, s.2.2.2.2.2.2.2.1, s.2.2.2.2.2.2.2.2.1, s.2.2.2.2.2.2.2.2.2.1, s.2.2.2.2.2.2.2.2.2.2.1, s.2.2.2.2.2.2.2.2.2.2.2.1, s.2.2.2.2.2.2.2.2.2.2.2.2.1)
theorem k_two (hG : GR n size year kinds figures styles fames writing order enders mw my kind figure style fame silent ring) (hR : RR r4 r5) (own oth gets : Nat → Int32) (x1 x2 : Int32) : SQ (fun r s => r.1 = s.1 ∧ RR r.2.2.2.2.2.2.2.2.2.2.2.2.2.2.2.2.2.1 s.2.2.2.2.2.1 ∧ BK mw my kind figure style fame silent ring kept (bt5 s)) (f_X4_two size year kz kinds gz figures sz styles fz fames wz writing oz order ez enders t0 t1 z1 a1 z2 a2 z3 a3 z4 a4 z5 a5 z6 a6 z7 a7 r4 own oth x1 x2) (f_X5_two mw my ik cu r5 kind figure style fame silent ring kept gets x1 x2) := by
  obtain ⟨hn, rfl, rfl, rfl, hM, hW⟩ := id hG
  unfold f_X4_two f_X5_two f_X5_two_35 f_X4_two_40
  by_cases hx : ∃ a b, a < n ∧ b < n ∧ a ≠ b ∧ x1 = nI a ∧ x2 = nI b
  · obtain ⟨a, b, ha, hb, hab, rfl, rfl⟩ := hx
    rw [two_eq, two_t hn ha hb hab, x0_isWriting hG ha, x0_isWriting hG hb, gdI (by omega) (by omega), gdI (by omega) (by omega), nI_clamp (by omega), nI_clamp (by omega)]
    simp (decide := true) (implicitDefEqProofs := false) only [Option.bind_some, if_true, if_false]
    rcases (hG.hW a ha).1 with hsa | hsa
    · rcases (hG.hW b hb).1 with hsb | hsb
      · rw [hsa, hsb]
        simp (decide := true) (implicitDefEqProofs := false) only [Option.bind_some, if_true, if_false]
        unfold f_X5_findGets
        refine simL (fun fuel v (s : ((Nat → Int32) × (Nat → Int32)) × (Int32 × Int32 × Int32 × (Nat → Int32) × Int32 × (Nat → Int32) × Int32 × (Nat → Int32) × Int32 × (Nat → Int32) × Int32 × (Nat → Int32) × Int32 × (Nat → Int32) × Int32 × (Nat → Int32))) => f_X4_two_49 (nI n) year kz kinds gz figures sz styles fz fames wz writing oz order ez enders (nI a) (nI b) (fun t0 t1 z1 a1 z2 a2 z3 a3 z4 a4 z5 a5 z6 a6 z7 a7 o1 o2 => f_X4_two_67 t0 t1 z1 a1 z2 a2 z3 a3 z4 a4 z5 a5 z6 a6 z7 a7 r4 o1 o2) fuel v s.2.1 s.2.2.1 s.2.2.2.1 s.2.2.2.2.1 s.2.2.2.2.2.1 s.2.2.2.2.2.2.1 s.2.2.2.2.2.2.2.1 s.2.2.2.2.2.2.2.2.1 s.2.2.2.2.2.2.2.2.2.1 s.2.2.2.2.2.2.2.2.2.2.1 s.2.2.2.2.2.2.2.2.2.2.2.1 s.2.2.2.2.2.2.2.2.2.2.2.2.1 s.2.2.2.2.2.2.2.2.2.2.2.2.2.1 s.2.2.2.2.2.2.2.2.2.2.2.2.2.2.1 s.2.2.2.2.2.2.2.2.2.2.2.2.2.2.2.1 s.2.2.2.2.2.2.2.2.2.2.2.2.2.2.2.2 s.1.1 s.1.2) (fun fuel v (s : BT × (Nat → Int32)) => (f_X5_findGets_2 (nI a) (nI b) fuel v s.1.1 s.1.2.1 s.1.2.2.1 s.1.2.2.2.1 s.1.2.2.2.2.1 s.1.2.2.2.2.2.1 s.1.2.2.2.2.2.2.1 s.1.2.2.2.2.2.2.2.1 s.1.2.2.2.2.2.2.2.2.1 s.1.2.2.2.2.2.2.2.2.2.1 s.1.2.2.2.2.2.2.2.2.2.2 s.2).bind fun r49 => f_X5_two_55 r49.1 r49.2.1 r49.2.2.1 r49.2.2.2.1 r5 r49.2.2.2.2.1 r49.2.2.2.2.2.1 r49.2.2.2.2.2.2.1 r49.2.2.2.2.2.2.2.1 r49.2.2.2.2.2.2.2.2.1 r49.2.2.2.2.2.2.2.2.2.1 r49.2.2.2.2.2.2.2.2.2.2.1 r49.2.2.2.2.2.2.2.2.2.2.2 (fun v4 => f_X5_two_111 v4 r49.1 r49.2.1 r49.2.2.1 r49.2.2.2.1 r5 r49.2.2.2.2.1 r49.2.2.2.2.2.1 r49.2.2.2.2.2.2.1 r49.2.2.2.2.2.2.2.1 r49.2.2.2.2.2.2.2.2.1 r49.2.2.2.2.2.2.2.2.2.1 r49.2.2.2.2.2.2.2.2.2.2.1 r49.2.2.2.2.2.2.2.2.2.2.2) FU 0) 4 (fun i s u => BK (nI n) year kind figure style fame silent ring kept u.1 ∧ ∀ k, k < i → s.1.1 k = u.2 (2 * k) ∧ s.1.2 k = u.2 (2 * k + 1)) _ (fun f4 f5 s u hP => ?_) (fun f4 f5 i s u hf4 hf5 hi hP ih => ?_) 4 0 FU FU ((own, oth), (t0, t1, z1, a1, z2, a2, z3, a3, z4, a4, z5, a5, z6, a6, z7, a7)) ((nI n, year, ik, cu, kind, figure, style, fame, silent, ring, kept), gets) (by omega) (FU_gt (by omega)) (FU_gt (by omega)) ⟨BK.self, fun k hk => by omega⟩
        · obtain ⟨⟨o1, o2⟩, T⟩ := s
          obtain ⟨B, gB⟩ := u
          obtain ⟨hb, hPk⟩ := hP
          dsimp only at hb hPk ⊢
          rw [e_X4_two_49, e_X5_findGets_2, if_pos (show (4 : Int32) ≤ nI 4 by decide), if_pos (show (4 : Int32) ≤ nI 4 by decide)]
          unfold f_X4_two_67
          simp (decide := true) (implicitDefEqProofs := false) only [Option.bind_some, if_true, if_false]
          refine simL (fun fuel v (_ : Unit) => f_X4_two_69 T.1 T.2.1 T.2.2.1 T.2.2.2.1 T.2.2.2.2.1 T.2.2.2.2.2.1 T.2.2.2.2.2.2.1 T.2.2.2.2.2.2.2.1 T.2.2.2.2.2.2.2.2.1 T.2.2.2.2.2.2.2.2.2.1 T.2.2.2.2.2.2.2.2.2.2.1 T.2.2.2.2.2.2.2.2.2.2.2.1 T.2.2.2.2.2.2.2.2.2.2.2.2.1 T.2.2.2.2.2.2.2.2.2.2.2.2.2.1 T.2.2.2.2.2.2.2.2.2.2.2.2.2.2.1 T.2.2.2.2.2.2.2.2.2.2.2.2.2.2.2 r4 o1 o2 (fun v3 => f_X4_two_116 v3 T.1 T.2.1 T.2.2.1 T.2.2.2.1 T.2.2.2.2.1 T.2.2.2.2.2.1 T.2.2.2.2.2.2.1 T.2.2.2.2.2.2.2.1 T.2.2.2.2.2.2.2.2.1 T.2.2.2.2.2.2.2.2.2.1 T.2.2.2.2.2.2.2.2.2.2.1 T.2.2.2.2.2.2.2.2.2.2.2.1 T.2.2.2.2.2.2.2.2.2.2.2.2.1 T.2.2.2.2.2.2.2.2.2.2.2.2.2.1 T.2.2.2.2.2.2.2.2.2.2.2.2.2.2.1 T.2.2.2.2.2.2.2.2.2.2.2.2.2.2.2 r4 o1 o2) fuel v) (fun fuel v (_ : Unit) => f_X5_two_55 B.1 B.2.1 B.2.2.1 B.2.2.2.1 r5 B.2.2.2.2.1 B.2.2.2.2.2.1 B.2.2.2.2.2.2.1 B.2.2.2.2.2.2.2.1 B.2.2.2.2.2.2.2.2.1 B.2.2.2.2.2.2.2.2.2.1 B.2.2.2.2.2.2.2.2.2.2 gB (fun v4 => f_X5_two_111 v4 B.1 B.2.1 B.2.2.1 B.2.2.2.1 r5 B.2.2.2.2.1 B.2.2.2.2.2.1 B.2.2.2.2.2.2.1 B.2.2.2.2.2.2.2.1 B.2.2.2.2.2.2.2.2.1 B.2.2.2.2.2.2.2.2.2.1 B.2.2.2.2.2.2.2.2.2.2 gB) fuel v) 4 (fun _ _ _ => True) _ (fun f4 f5 _ _ _ => ?_) (fun f4 f5 i _ _ hf4 hf5 hi _ ih => ?_) 4 0 FU FU () () (by omega) (FU_gt (by omega)) (FU_gt (by omega)) trivial
          · rw [e_X4_two_69, e_X5_two_55, if_pos (show (4 : Int32) ≤ nI 4 by decide), if_pos (show (4 : Int32) ≤ nI 4 by decide)]
            exact ⟨_, _, rfl, rfl, rfl, hR, hb⟩
          · obtain ⟨fb1, fb2, fb3, fb4, fb5, fb6⟩ := four_bits hi
            rw [e_X4_two_69, e_X5_two_55, if_neg (show ¬ (4 : Int32) ≤ nI i from nI_ge (b := 4) hi (by omega)), if_neg (show ¬ (4 : Int32) ≤ nI i from nI_ge (b := 4) hi (by omega)), fb5, fb6, nI_2i, nI_2i, nI_2i, ← nI_succ, ← nI_succ, g3 (by omega) (by omega), g3 (by omega) (by omega), g3 (by omega) (by omega), g3 (by omega) (by omega)]
            simp (implicitDefEqProofs := false) only [Option.bind_some]
            rw [gdI (by omega) (by omega), gdI (by omega) (by omega), gdI (by omega) (by omega), gdI (by omega) (by omega), nI_clamp (by omega), nI_clamp (by omega), nI_clamp (by omega), nI_clamp (by omega), (hPk i hi).1, (hPk _ fb3).1, (hPk i hi).2, (hPk _ fb4).2]
            by_cases c1 : gB (2 * i) < gB (2 * (i ^^^ 2))
            · rw [if_pos c1, if_pos c1]
              exact ih () () trivial
            · rw [if_neg c1, if_neg c1]
              by_cases c2 : gB (2 * i + 1) < gB (2 * (i ^^^ 1) + 1)
              · rw [if_pos c2, if_pos c2]
                exact ih () () trivial
              · rw [if_neg c2, if_neg c2]
                unfold f_X4_two_116 f_X5_two_111
                rw [fb1, fb2]
                exact ⟨_, _, rfl, rfl, rfl, hR, hb⟩
        · obtain ⟨⟨o1, o2⟩, T⟩ := s
          obtain ⟨⟨w', y', ik', cu', kB, fB, sB, mB, qB, rB, kpB⟩, gB⟩ := u
          obtain ⟨⟨hb1, hb2, hb3, hb4⟩, hPk⟩ := hP
          dsimp only at hb1 hb2 hb3 hb4 hPk ⊢
          subst w'
          subst y'
          have hGB := hG.back hb3
          have hqa : qB a = 0 := by rw [(hb3 a (by omega)).2.2.2.2.1]; exact hsa
          have hqb : qB b = 0 := by rw [(hb3 b (by omega)).2.2.2.2.1]; exact hsb
          have hi4 : i = 0 ∨ i = 1 ∨ i = 2 ∨ i = 3 := by omega
          rcases hi4 with rfl | rfl | rfl | rfl
          · rw [e_X4_two_49, e_X5_findGets_2, if_neg (show ¬ (4 : Int32) ≤ nI 0 by decide), if_neg (show ¬ (4 : Int32) ≤ nI 0 by decide)]
            obtain ⟨K, q1, q2, q3⟩ := x5_thinks (mw := nI n) (my := year) (ik := ik') (cu := cu') (kind := kB) (figure := fB) (style := sB) (fame := mB) (silent := qB) (ring := rB) (kept := kpB)
            have hGR := hGB
            unfold f_X4_weighPair
            rw [x0_take, q1]
            unfold f_X5_findGets_22 f_X5_findGets_33
            simp (decide := true) (implicitDefEqProofs := false) only [Option.bind_some, if_true, if_false]
            rw [k_w59 hGR ha hb (i := 0) (by omega) hqa hqb, k_g44 hn hGR.hM ha hb (i := 0) (by omega)]
            obtain ⟨b2, f1, f2⟩ := x5_forgetsB (kept := kpB) (w0 := nI n) (y0 := year) (i0 := 1) (c0 := nI 132) (k0 := kB) (f0 := fB) (s0 := sB) (m0 := mB) (q0 := qB) (p0 := rB) q2 q3
            rw [f1]
            simp (decide := true) (implicitDefEqProofs := false) only [Option.bind_some, if_true, if_false]
            refine ih ((_, _), (nI n, year, kz, kinds, gz, figures, sz, styles, fz, fames, wz, writing, oz, order, ez, enders)) (b2, _) ⟨BK.trans rfl rfl hb3 hb4 f2, fun k hk => ?_⟩
            obtain ⟨fb1, fb2, -⟩ := four_bits (i := 0) (by omega)
            dsimp only
            rw [fb1, fb2]
            exact gets_step hPk k hk
          · rw [e_X4_two_49, e_X5_findGets_2, if_neg (show ¬ (4 : Int32) ≤ nI 1 by decide), if_neg (show ¬ (4 : Int32) ≤ nI 1 by decide)]
            obtain ⟨K, q1, q2, q3⟩ := x5_thinks (mw := nI n) (my := year) (ik := ik') (cu := cu') (kind := kB) (figure := fB) (style := sB) (fame := mB) (silent := qB) (ring := rB) (kept := kpB)
            obtain ⟨O, E, R, p1, p2, hGR⟩ := hGB.bring hb ha (Ne.symm hab)
            unfold f_X4_weighPair
            rw [x0_take, q1]
            unfold f_X5_findGets_22 f_X5_findGets_33
            simp (decide := true) (implicitDefEqProofs := false) only [Option.bind_some, if_true, if_false]
            rw [p1, p2]
            simp (decide := true) (implicitDefEqProofs := false) only [Option.bind_some, if_true, if_false]
            rw [k_w59 hGR ha hb (i := 1) (by omega) hqa hqb, k_g44 hn hGR.hM ha hb (i := 1) (by omega)]
            obtain ⟨b2, f1, f2⟩ := x5_forgetsB (kept := kpB) (w0 := nI n) (y0 := year) (i0 := 1) (c0 := nI 132) (k0 := kB) (f0 := fB) (s0 := sB) (m0 := mB) (q0 := qB) (p0 := R) q2 q3
            rw [f1]
            simp (decide := true) (implicitDefEqProofs := false) only [Option.bind_some, if_true, if_false]
            refine ih ((_, _), (nI n, year, kz, kinds, gz, figures, sz, styles, fz, fames, wz, writing, oz, O, ez, E)) (b2, _) ⟨BK.trans rfl rfl hb3 hb4 f2, fun k hk => ?_⟩
            obtain ⟨fb1, fb2, -⟩ := four_bits (i := 1) (by omega)
            dsimp only
            rw [fb1, fb2]
            exact gets_step hPk k hk
          · rw [e_X4_two_49, e_X5_findGets_2, if_neg (show ¬ (4 : Int32) ≤ nI 2 by decide), if_neg (show ¬ (4 : Int32) ≤ nI 2 by decide)]
            obtain ⟨K, q1, q2, q3⟩ := x5_thinks (mw := nI n) (my := year) (ik := ik') (cu := cu') (kind := kB) (figure := fB) (style := sB) (fame := mB) (silent := qB) (ring := rB) (kept := kpB)
            obtain ⟨O, E, R, p1, p2, hGR⟩ := hGB.bring ha hb hab
            unfold f_X4_weighPair
            rw [x0_take, q1]
            unfold f_X5_findGets_22 f_X5_findGets_33
            simp (decide := true) (implicitDefEqProofs := false) only [Option.bind_some, if_true, if_false]
            rw [p1, p2]
            simp (decide := true) (implicitDefEqProofs := false) only [Option.bind_some, if_true, if_false]
            rw [k_w59 hGR ha hb (i := 2) (by omega) hqa hqb, k_g44 hn hGR.hM ha hb (i := 2) (by omega)]
            obtain ⟨b2, f1, f2⟩ := x5_forgetsB (kept := kpB) (w0 := nI n) (y0 := year) (i0 := 1) (c0 := nI 132) (k0 := kB) (f0 := fB) (s0 := sB) (m0 := mB) (q0 := qB) (p0 := R) q2 q3
            rw [f1]
            simp (decide := true) (implicitDefEqProofs := false) only [Option.bind_some, if_true, if_false]
            refine ih ((_, _), (nI n, year, kz, kinds, gz, figures, sz, styles, fz, fames, wz, writing, oz, O, ez, E)) (b2, _) ⟨BK.trans rfl rfl hb3 hb4 f2, fun k hk => ?_⟩
            obtain ⟨fb1, fb2, -⟩ := four_bits (i := 2) (by omega)
            dsimp only
            rw [fb1, fb2]
            exact gets_step hPk k hk
          · rw [e_X4_two_49, e_X5_findGets_2, if_neg (show ¬ (4 : Int32) ≤ nI 3 by decide), if_neg (show ¬ (4 : Int32) ≤ nI 3 by decide)]
            obtain ⟨K, q1, q2, q3⟩ := x5_thinks (mw := nI n) (my := year) (ik := ik') (cu := cu') (kind := kB) (figure := fB) (style := sB) (fame := mB) (silent := qB) (ring := rB) (kept := kpB)
            obtain ⟨O, E, p1, hGR⟩ := hGB.swap ha hb hab
            unfold f_X4_weighPair
            rw [x0_take, q1]
            unfold f_X5_findGets_22 f_X5_findGets_33
            simp (decide := true) (implicitDefEqProofs := false) only [Option.bind_some, if_true, if_false]
            rw [p1, x5_swaps hn hGB.hM ha hb]
            simp (decide := true) (implicitDefEqProofs := false) only [Option.bind_some, if_true, if_false]
            rw [k_w59 hGR ha hb (i := 3) (by omega) hqa hqb, k_g44 hn hGR.hM ha hb (i := 3) (by omega)]
            obtain ⟨b2, f1, f2⟩ := x5_forgetsB (kept := kpB) (w0 := nI n) (y0 := year) (i0 := 1) (c0 := nI 132) (k0 := kB) (f0 := fB) (s0 := sB) (m0 := mB) (q0 := qB) (p0 := sw n rB a b) q2 q3
            rw [f1]
            simp (decide := true) (implicitDefEqProofs := false) only [Option.bind_some, if_true, if_false]
            refine ih ((_, _), (nI n, year, kz, kinds, gz, figures, sz, styles, fz, fames, wz, writing, oz, O, ez, E)) (b2, _) ⟨BK.trans rfl rfl hb3 hb4 f2, fun k hk => ?_⟩
            obtain ⟨fb1, fb2, -⟩ := four_bits (i := 3) (by omega)
            dsimp only
            rw [fb1, fb2]
            exact gets_step hPk k hk
      · rw [hsa, hsb]
        simp (decide := true) (implicitDefEqProofs := false) only [Option.bind_some, if_true, if_false]
        rw [rf3, no3]
        exact ⟨_, _, rfl, rfl, rfl, RR_upd hR (by omega) 1, BK.self⟩
    · rw [hsa]
      simp (decide := true) (implicitDefEqProofs := false) only [Option.bind_some, if_true, if_false]
      have hle : ¬ ((1 : Int32) + silent b ≤ 0) := by
        rcases (hG.hW b hb).1 with h | h
        · rw [h]; decide
        · rw [h]; decide
      rw [if_neg hle, rf3]
      simp (decide := true) (implicitDefEqProofs := false) only [Option.bind_some, if_true, if_false]
      rw [no3]
      exact ⟨_, _, rfl, rfl, rfl, RR_upd hR (by omega) 1, BK.self⟩
  · rw [two_eq, two_f hn hx]
    simp (decide := true) (implicitDefEqProofs := false) only [Option.bind_some, if_true, if_false]
    rw [rf1, no1]
    exact ⟨_, _, rfl, rfl, rfl, RR_upd hR (by omega) 1, BK.self⟩
end KG
