/-! PURE: what a call answers on both sides: bribes, pages, enders, hushes. -/
section KD
variable {n : Nat} {size year : Int32} {kinds figures styles fames writing order enders : Nat → Int32} {mw my : Int32} {kind figure style fame silent ring r4 r5 : Nat → Int32}
variable {kz gz sz fz wz oz ez t0 t1 z1 z2 z3 z4 z5 z6 z7 ik cu : Int32} {a1 a2 a3 a4 a5 a6 a7 kept : Nat → Int32}
theorem upd_back {f : Nat → Int32} {w : Nat} {x : Int32} : upd (upd f w x) w (f w) = f := by
  funext i
  by_cases e : i = w
  · subst e; rw [upd_at]
  · rw [upd_ne e, upd_ne e]
theorem upd_upd {f : Nat → Int32} {w : Nat} {x y : Int32} : upd (upd f w x) w y = upd f w y := by
  funext i
  by_cases e : i = w
  · subst e; rw [upd_at, upd_at]
  · rw [upd_ne e, upd_ne e, upd_ne e]
theorem k_bribe (hG : GR n size year kinds figures styles fames writing order enders mw my kind figure style fame silent ring) : SQ (fun r s => r.1 = s.1 ∧ s.2 = ring) (f_X4_bribe size year kz kinds gz figures sz styles fz fames wz writing oz order ez enders t0 t1 z1 a1 z2 a2 z3 a3 z4 a4 z5 a5 z6 a6 z7 a7) (f_X5_bribe mw my kind figure style silent ring) := by
  have hA4 := x0_allWorth hG
  obtain ⟨hn, rfl, rfl, rfl, hM, hW⟩ := id hG
  unfold f_X4_bribe f_X5_bribe
  rw [x0_take]
  simp only [Option.bind_some]
  rw [hA4, x5_allWorth hn hM]
  simp only [Option.bind_some]
  refine simL (fun fuel v (a : Int32 × Int32 × (Nat → Int32) × (Nat → Int32)) => f_X4_bribe_24 (nI n) (nI n) year kz kinds gz figures sz styles fz fames wz writing oz ez fuel a.1 a.2.1 v a.2.2.1 a.2.2.2) (fun fuel v (b : Int32 × Int32 × (Nat → Int32)) => f_X5_bribe_10 (nI n) year kind figure style silent fuel b.1 b.2.1 v b.2.2) n (fun _ a b => a.1 = b.2.1 ∧ a.2.1 = b.1 ∧ b.2.2 = ring ∧ GR n (nI n) year kinds figures styles fames writing a.2.2.1 a.2.2.2 (nI n) year kind figure style fame silent ring) _ (fun f4 f5 a b hP => ?_) (fun f4 f5 i a b _ _ hi hP ih => ?_) n 0 FU FU (_, -9, order, enders) (-9, _, ring) (by omega) (FU_gt (by omega)) (FU_gt (by omega)) ⟨rfl, rfl, rfl, hG⟩
  · rw [e_X4_bribe_24, e_X5_bribe_10, if_pos (nI_le (Nat.le_refl _) (by omega)), if_pos (nI_le (Nat.le_refl _) (by omega))]
    exact ⟨_, _, rfl, rfl, hP.2.1, hP.2.2.1⟩
  · rw [e_X4_bribe_24, e_X5_bribe_10, if_neg (nI_ge hi (by omega)), if_neg (nI_ge hi (by omega)), ← nI_succ]
    refine simL (fun fuel v (a : Int32 × Int32 × (Nat → Int32) × (Nat → Int32)) => f_X4_bribe_40 (nI n) (nI n) year kinds figures styles writing (nI i) (fun v1 v2 o e => f_X4_bribe_104 (f_X4_bribe_24 (nI n) (nI n) year kz kinds gz figures sz styles fz fames wz writing oz ez f4) v1 v2 (nI i) o e) fuel a.1 a.2.1 v a.2.2.1 a.2.2.2) (fun fuel v (b : Int32 × Int32 × (Nat → Int32)) => f_X5_bribe_23 (nI n) year kind figure style silent (nI i) (fun v1 v2 r => f_X5_bribe_78 (f_X5_bribe_10 (nI n) year kind figure style silent f5) v1 v2 (nI i) r) fuel b.1 b.2.1 v b.2.2) n (fun j a b => i < j ∧ a.1 = b.2.1 ∧ a.2.1 = b.1 ∧ b.2.2 = ring ∧ GR n (nI n) year kinds figures styles fames writing a.2.2.1 a.2.2.2 (nI n) year kind figure style fame silent ring) _ (fun f4 f5 a b hP => ?_) (fun f4 f5 j a b _ _ hj hP ih2 => ?_) (n - (i + 1)) (i + 1) FU FU a b (by omega) (FU_gt (by omega)) (FU_gt (by omega)) ⟨by omega, hP⟩
    · rw [e_X4_bribe_40, e_X5_bribe_23, if_pos (nI_le (Nat.le_refl _) (by omega)), if_pos (nI_le (Nat.le_refl _) (by omega))]
      exact ih a b hP.2
    · obtain ⟨m, t, O, E⟩ := a
      obtain ⟨t', m', R⟩ := b
      obtain ⟨hij, rfl, rfl, rfl, hG2⟩ := hP
      dsimp only at hG2
      obtain ⟨O1, E1, p1, hG3⟩ := hG2.swap hi hj (by omega)
      obtain ⟨O2, E2, p2, hG4⟩ := hG3.swap hi hj (by omega)
      rw [sw_sw hn hM hi hj (by omega)] at hG4
      rw [e_X4_bribe_40, e_X5_bribe_23, if_neg (nI_ge hj (by omega)), if_neg (nI_ge hj (by omega)), p1, x5_swaps hn hM hi hj]
      simp only [Option.bind_some]
      rw [x0_allWorth hG3, x5_allWorth hn hG3.hM, p2, x5_swaps hn hG3.hM hi hj, sw_sw hn hM hi hj (by omega)]
      simp only [Option.bind_some]
      by_cases hc : sAll n kind figure style silent (sw n R i j) year ≤ m
      · rw [if_pos hc, if_neg (Int32.not_lt.mpr hc)]
        exact ih2 (m, t, O2, E2) (t, m, R) ⟨by omega, rfl, rfl, rfl, hG4⟩
      · rw [if_neg hc, if_pos (Int32.not_le.mp hc)]
        exact ih2 (_, _, O2, E2) (_, _, R) ⟨by omega, rfl, rfl, rfl, hG4⟩
theorem k_ownBribe (hG : GR n size year kinds figures styles fames writing order enders mw my kind figure style fame silent ring) (hR : RR r4 r5) (x1 : Int32) : SQ (fun r s => r.1 = s.1 ∧ RR r.2.2.2.2.2.2.2.2.2.2.2.2.2.2.2.2.2 s.2.1 ∧ s.2.2 = ring) (f_X4_ownBribe size year kz kinds gz figures sz styles fz fames wz writing oz order ez enders t0 t1 z1 a1 z2 a2 z3 a3 z4 a4 z5 a5 z6 a6 z7 a7 r4 x1) (f_X5_ownBribe mw my r5 kind figure style silent ring x1) := by
  by_cases hx : ∃ w, w < n ∧ x1 = nI w
  · obtain ⟨w, hw, rfl⟩ := hx
    have hb0 : ¬ (0 : Int32) < 0 := by decide
    have hb1 : (0 : Int32) ≤ 0 := by decide
    have hrw := fun hs => refBook_w hG hw hb0 hb1 hs
    have hrs := fun hs => refBook_s hG hw hb0 hb1 hs
    obtain ⟨hn, rfl, rfl, rfl, hM, hW⟩ := id hG
    unfold f_X4_ownBribe f_X5_ownBribe f_X5_ownBribe_28
    rw [one_t hn hw, gdI (by omega) (by omega), nI_clamp (by omega)]
    simp (decide := true) only [Option.bind_some, if_true, if_false]
    rcases (hG.hW w hw).1 with hs | hs
    · have hs1 : ¬ silent w = 1 := by rw [hs]; decide
      rw [hrw hs, if_neg hs1]
      simp (decide := true) only [Option.bind_some, if_true, if_false]
      rw [x0_take]
      simp only [Option.bind_some]
      rw [x0_worthOf hG hw, x5_bookWorth hn hM hw, sWo_w hs]
      simp only [Option.bind_some]
      refine simL (fun fuel v (a : Int32 × Int32 × (Nat → Int32) × (Nat → Int32)) => f_X4_ownBribe_45 (nI n) (nI w) (nI n) year kz kinds gz figures sz styles fz fames wz writing oz ez r4 fuel a.1 a.2.1 v a.2.2.1 a.2.2.2) (fun fuel v (b : Int32 × Int32 × (Nat → Int32)) => f_X5_ownBribe_52 (nI n) year kind figure style silent (nI w) r5 fuel b.1 b.2.1 v b.2.2) n (fun _ a b => a.1 = b.2.1 ∧ a.2.1 = b.1 ∧ b.2.2 = ring ∧ GR n (nI n) year kinds figures styles fames writing a.2.2.1 a.2.2.2 (nI n) year kind figure style fame silent ring) _ (fun f4 f5 a b hP => ?_) (fun f4 f5 j a b _ _ hj hP ih => ?_) n 0 FU FU (_, -9, order, enders) (-9, _, ring) (by omega) (FU_gt (by omega)) (FU_gt (by omega)) ⟨rfl, rfl, rfl, hG⟩
      · rw [e_X4_ownBribe_45, e_X5_ownBribe_52, if_pos (nI_le (Nat.le_refl _) (by omega)), if_pos (nI_le (Nat.le_refl _) (by omega))]
        exact ⟨_, _, rfl, rfl, hP.2.1, hR, hP.2.2.1⟩
      · obtain ⟨m, t, O, E⟩ := a
        obtain ⟨t', m', R⟩ := b
        obtain ⟨rfl, rfl, rfl, hG2⟩ := hP
        dsimp only at hG2
        rw [e_X4_ownBribe_45, e_X5_ownBribe_52, if_neg (nI_ge hj (by omega)), if_neg (nI_ge hj (by omega))]
        by_cases hjw : nI j = nI w
        · rw [if_pos hjw, if_pos hjw]
          exact ih (m, t, O, E) (t, m, R) ⟨rfl, rfl, rfl, hG2⟩
        · have hne : w ≠ j := fun e => hjw (by rw [e])
          obtain ⟨O1, E1, p1, hG3⟩ := hG2.swap hw hj hne
          obtain ⟨O2, E2, p2, hG4⟩ := hG3.swap hw hj hne
          rw [sw_sw hn hM hw hj hne] at hG4
          rw [if_neg hjw, if_neg hjw, p1, x5_swaps hn hM hw hj]
          simp only [Option.bind_some]
          rw [x0_worthOf hG3 hw, x5_bookWorth hn hG3.hM hw, p2, x5_swaps hn hG3.hM hw hj, sw_sw hn hM hw hj hne, sWo_w hs]
          simp only [Option.bind_some]
          by_cases hc : sBW n kind figure style silent (sw n R w j) year w ≤ m
          · rw [if_pos hc, if_neg (Int32.not_lt.mpr hc)]
            exact ih (m, t, O2, E2) (t, m, R) ⟨rfl, rfl, rfl, hG4⟩
          · rw [if_neg hc, if_pos (Int32.not_le.mp hc)]
            exact ih (_, _, O2, E2) (_, _, R) ⟨rfl, rfl, rfl, hG4⟩
    · rw [hrs hs, if_pos hs]
      simp (decide := true) only [Option.bind_some, if_true, if_false]
      rw [rf3, no3]
      exact ⟨_, _, rfl, rfl, rfl, RR_upd hR (by omega) 1, rfl⟩
  · obtain ⟨hn, rfl, rfl, rfl, hM, hW⟩ := id hG
    unfold f_X4_ownBribe f_X5_ownBribe f_X5_ownBribe_28
    rw [refBook_f hn hx, one_f hn hx]
    simp (decide := true) only [Option.bind_some, if_true, if_false]
    rw [rf1, no1]
    exact ⟨_, _, rfl, rfl, rfl, RR_upd hR (by omega) 1, rfl⟩
theorem k_hush (hG : GR n size year kinds figures styles fames writing order enders mw my kind figure style fame silent ring) : SQ (fun r s => r.1 = s.1 ∧ s.2 = silent) (f_X4_hush size year kz kinds gz figures sz styles fz fames wz writing oz order ez enders t0 t1 z1 a1 z2 a2 z3 a3 z4 a4 z5 a5 z6 a6 z7 a7) (f_X5_hush mw my kind figure style silent ring) := by
  have hA4 := x0_allWorth hG
  obtain ⟨hn, rfl, rfl, rfl, hM, hW⟩ := id hG
  unfold f_X4_hush f_X5_hush
  rw [x0_take]
  simp only [Option.bind_some]
  rw [hA4, x5_allWorth hn hM]
  simp only [Option.bind_some]
  refine simL (fun fuel v (a : Int32 × Int32 × (Nat → Int32) × (Nat → Int32)) => f_X4_hush_24 (nI n) writing (nI n) year kz kinds gz figures sz styles fz fames wz oz order ez fuel a.1 a.2.1 v a.2.2.1 a.2.2.2) (fun fuel v (b : Int32 × Int32 × (Nat → Int32)) => f_X5_hush_10 (nI n) year kind figure style ring fuel b.1 b.2.1 v b.2.2) n (fun _ a b => a.1 = b.2.1 ∧ a.2.1 = b.1 ∧ b.2.2 = silent ∧ GR n (nI n) year kinds figures styles fames a.2.2.1 order a.2.2.2 (nI n) year kind figure style fame silent ring) _ (fun f4 f5 a b hP => ?_) (fun f4 f5 i a b _ _ hi hP ih => ?_) n 0 FU FU (_, -9, writing, enders) (-9, _, silent) (by omega) (FU_gt (by omega)) (FU_gt (by omega)) ⟨rfl, rfl, rfl, hG⟩
  · rw [e_X4_hush_24, e_X5_hush_10, if_pos (nI_le (Nat.le_refl _) (by omega)), if_pos (nI_le (Nat.le_refl _) (by omega))]
    exact ⟨_, _, rfl, rfl, hP.2.1, hP.2.2.1⟩
  · obtain ⟨m, t, W, E⟩ := a
    obtain ⟨t', m', S⟩ := b
    dsimp only at hP
    obtain ⟨rfl, rfl, rfl, hG2⟩ := hP
    rw [e_X4_hush_24, e_X5_hush_10, if_neg (nI_ge hi (by omega)), if_neg (nI_ge hi (by omega)), x0_isWriting hG hi, gdI (by omega) (by omega), gdI (by omega) (by omega), nI_clamp (by omega)]
    simp only [Option.bind_some]
    rcases (hG.hW i hi).1 with hs | hs
    · have hs1 : ¬ S i = 1 := by rw [hs]; decide
      have e1 : upd S i (1 - S i) = upd S i 1 := by rw [hs]; rfl
      have e2 : upd (upd S i 1) i (1 - upd S i 1 i) = S := by
        rw [upd_at, show (1 : Int32) - 1 = S i from by rw [hs]; decide]
        exact upd_back
      have e3 : upd (upd S i 1) i 0 = S := by
        rw [show (0 : Int32) = S i from hs.symm]
        exact upd_back
      obtain ⟨W1, E1, p1, -, hG3⟩ := hG2.toggle hi
      rw [e1] at hG3
      obtain ⟨W2, E2, p2, -, hG4⟩ := hG3.toggle hi
      rw [e2] at hG4
      rw [if_pos hs, if_neg hs1, p1]
      simp (decide := true) only [Option.bind_some, if_true, if_false]
      rw [x0_allWorth hG3, x5_allWorth hn hM, p2, e3]
      simp (decide := true) only [Option.bind_some, if_true, if_false]
      rw [gdI (by omega) (by omega)]
      by_cases hc : sAll n kind figure style (upd S i 1) ring year ≤ m
      · rw [if_pos hc, if_neg (Int32.not_lt.mpr hc)]
        exact ih (m, t, W2, E2) (t, m, S) ⟨rfl, rfl, rfl, hG4⟩
      · rw [if_neg hc, if_pos (Int32.not_le.mp hc)]
        exact ih (_, _, W2, E2) (_, _, S) ⟨rfl, rfl, rfl, hG4⟩
    · have hs0 : ¬ S i = 0 := by rw [hs]; decide
      rw [if_neg hs0, if_pos hs]
      simp (decide := true) only [Option.bind_some, if_true, if_false]
      exact ih (m, t, W, E) (t, m, S) ⟨rfl, rfl, rfl, hG2⟩
theorem x5_worthBy (hn : n ≤ 7) (hM : PM n ring) {w : Nat} (hw : w < n) (v : Int32) : f_X5_worthBy (nI n) year kind figure style silent ring (nI w) v = some (sBW n kind figure (upd style w v) silent ring year w, style) := by
  unfold f_X5_worthBy
  simp only [gdI (show w < 7 by omega) (show 7 < 2 ^ 31 by omega), nI_clamp (show w < 2 ^ 31 by omega), x5_bookWorth hn hM hw, Option.bind_some]
  rw [upd_back]
theorem k_page (hG : GR n size year kinds figures styles fames writing order enders mw my kind figure style fame silent ring) (hR : RR r4 r5) (x1 x2 : Int32) : SQ (fun r s => r.1 = s.1 ∧ RR r.2.2.2.2.2.2.2.2.2.2.2.2.2.2.2.2.2 s.2.1 ∧ s.2.2 = style) (f_X4_page size year kz kinds gz figures sz styles fz fames wz writing oz order ez enders t0 t1 z1 a1 z2 a2 z3 a3 z4 a4 z5 a5 z6 a6 z7 a7 r4 x1 x2) (f_X5_page mw my r5 kind figure style silent ring x1 x2) := by
  by_cases hx : ∃ w, w < n ∧ x1 = nI w
  · obtain ⟨w, hw, rfl⟩ := hx
    have hrw := fun h0 h1 hs => refBook_w hG hw (x := x2) (m := 1) h0 h1 hs
    have hrs := fun h0 h1 hs => refBook_s hG hw (x := x2) (m := 1) h0 h1 hs
    have hro := fun ho => refBook_out hG hw (x := x2) (m := 1) ho
    obtain ⟨hn, rfl, rfl, rfl, hM, hW⟩ := id hG
    unfold f_X4_page f_X5_page f_X5_page_42
    rw [one_t hn hw, gdI (by omega) (by omega), nI_clamp (by omega)]
    simp (decide := true) (implicitDefEqProofs := false) only [Option.bind_some, if_true, if_false]
    rcases isIn_cases x2 1 with ⟨hi, h0, h1⟩ | ⟨hi, ho⟩
    · rw [hi]
      simp (decide := true) (implicitDefEqProofs := false) only [Option.bind_some, if_true, if_false]
      rcases (hG.hW w hw).1 with hs | hs
      · have hs1 : ¬ silent w = 1 := by rw [hs]; decide
        rw [hrw h0 h1 hs, if_neg hs1]
        simp (decide := true) (implicitDefEqProofs := false) only [Option.bind_some, if_true, if_false]
        rw [x0_take]
        simp (implicitDefEqProofs := false) only [Option.bind_some]
        -- the first style apart
        have hG0 := hG.setStyle w 0
        obtain ⟨F, hF, hF9⟩ : ∃ F, FU = F + 1 ∧ 9 < F := ⟨99999, rfl, by omega⟩
        rw [hF, e_X4_page_39, if_neg (show ¬ (10 : Int32) ≤ 0 by decide), s3 (by omega) (by omega)]
        simp (implicitDefEqProofs := false) only [Option.bind_some]
        rw [x0_worthOf hG0 hw, sWo_w hs]
        simp (decide := true) (implicitDefEqProofs := false) only [Option.bind_some, if_true, if_false]
        unfold f_X4_page_83 f_X4_page_91
        refine simL (fun fuel v (a : Int32 × Int32 × (Nat → Int32)) => f_X4_page_39 (nI w) year kinds figures writing enders (fun v4 v5 S => f_X4_page_97 x2 v4 v5 (nI n) year kz kinds gz figures sz S fz fames wz writing oz order ez enders r4) fuel a.1 a.2.1 v a.2.2) (fun fuel v (b : Int32 × (Nat → Int32)) => f_X5_page_59 (nI n) year kind figure silent ring (nI w) (fun v4 S => f_X5_page_98 (nI n) year kind figure silent ring (nI w) x2 v4 r5 S) fuel b.1 v b.2) 10 (fun _ a b => a.1 = b.1 ∧ 0 ≤ a.1 ∧ b.2 = style ∧ a.2.1 = sBW n kind figure (upd style w a.1) silent ring year w ∧ ∃ x, GR n (nI n) year kinds figures a.2.2 fames writing order enders (nI n) year kind figure (upd style w x) fame silent ring) _ (fun f4 f5 a b hP => ?_) (fun f4 f5 j a b _ _ hj hP ih => ?_) 9 1 F (F + 1) (0, _, _) (0, style) (by omega) (by omega) (by omega) ⟨rfl, Int32.le_refl 0, rfl, rfl, 0, hG0⟩
        · obtain ⟨t, m, S⟩ := a
          obtain ⟨t', S'⟩ := b
          obtain ⟨rfl, -, rfl, hm, x, hG2⟩ := hP
          dsimp only at hm
          rw [e_X4_page_39, e_X5_page_59, if_pos (show (10 : Int32) ≤ nI 10 by decide), if_pos (show (10 : Int32) ≤ nI 10 by decide)]
          unfold f_X4_page_97 f_X5_page_98
          by_cases hc : x2 = 0
          · rw [if_pos hc, if_pos hc]
            exact ⟨_, _, rfl, rfl, rfl, hR, rfl⟩
          · rw [if_neg hc, if_neg hc, x5_worthBy hn hM hw]
            exact ⟨_, _, rfl, rfl, hm, hR, rfl⟩
        · obtain ⟨t, m, S⟩ := a
          obtain ⟨t', S'⟩ := b
          obtain ⟨rfl, ht0, rfl, hm, x, hG2⟩ := hP
          dsimp only at hm hG2 ht0
          subst hm
          have hG3 := hG2.setStyle w (nI j)
          rw [upd_upd] at hG3
          have ht9 : ¬ t = -9 := fun e => by rw [e] at ht0; exact absurd ht0 (by decide)
          rw [e_X4_page_39, e_X5_page_59, if_neg (show ¬ (10 : Int32) ≤ nI j from nI_ge (b := 10) hj (by omega)), if_neg (show ¬ (10 : Int32) ≤ nI j from nI_ge (b := 10) hj (by omega)), s3 (by omega) (by omega), x5_worthBy hn hM hw]
          simp (implicitDefEqProofs := false) only [Option.bind_some]
          rw [x0_worthOf hG3 hw, sWo_w hs, x5_worthBy hn hM hw]
          simp (implicitDefEqProofs := false) only [Option.bind_some]
          rw [if_neg ht9]
          by_cases hc : sBW n kind figure (upd S' w (nI j)) silent ring year w ≤ sBW n kind figure (upd S' w t) silent ring year w
          · rw [if_pos hc, if_pos hc]
            exact ih (t, _, _) (t, S') ⟨rfl, ht0, rfl, rfl, nI j, hG3⟩
          · rw [if_neg hc, if_neg hc]
            exact ih (nI j, _, _) (nI j, S') ⟨rfl, nI_pos' (by omega), rfl, rfl, nI j, hG3⟩
      · rw [hrs h0 h1 hs, if_pos hs]
        simp (decide := true) (implicitDefEqProofs := false) only [Option.bind_some, if_true, if_false]
        rw [rb3, lw3]
        exact ⟨_, _, rfl, rfl, rfl, RR_upd hR (by omega) 1, rfl⟩
    · rw [hi, hro ho]
      simp (decide := true) (implicitDefEqProofs := false) only [Option.bind_some, if_true, if_false]
      rw [rb2, lw2]
      exact ⟨_, _, rfl, rfl, rfl, RR_upd hR (by omega) 1, rfl⟩
  · obtain ⟨hn, rfl, rfl, rfl, hM, hW⟩ := id hG
    unfold f_X4_page f_X5_page f_X5_page_42
    rw [refBook_f hn hx, one_f hn hx]
    simp (decide := true) (implicitDefEqProofs := false) only [Option.bind_some, if_true, if_false]
    rw [rb1, lw1]
    exact ⟨_, _, rfl, rfl, rfl, RR_upd hR (by omega) 1, rfl⟩
theorem x5_worthEnded {w e : Nat} (hw : w < 7) (he : e < 7) : f_X5_worthEnded year kind figure style (nI w) (nI e) = some (sWE kind figure style year w e) := by
  unfold f_X5_worthEnded
  rw [x5_opens hw]
  simp only [Option.bind_some]
  rw [x5_ends he]
  simp only [Option.bind_some]
  rw [x5_worthOf]
  rfl
theorem k_ender (hG : GR n size year kinds figures styles fames writing order enders mw my kind figure style fame silent ring) (hR : RR r4 r5) (x1 x2 : Int32) : SQ QR (f_X4_ender size year kinds figures styles writing r4 x1 x2) (f_X5_ender mw my r5 kind figure style silent x1 x2) := by
  by_cases hx : ∃ w, w < n ∧ x1 = nI w
  · obtain ⟨w, hw, rfl⟩ := hx
    have hrw := fun h0 h1 hs => refBook_w hG hw (x := x2) (m := 1) h0 h1 hs
    have hrs := fun h0 h1 hs => refBook_s hG hw (x := x2) (m := 1) h0 h1 hs
    have hro := fun ho => refBook_out hG hw (x := x2) (m := 1) ho
    obtain ⟨hn, rfl, rfl, rfl, hM, hW⟩ := id hG
    unfold f_X4_ender f_X5_ender f_X5_ender_42
    rw [one_t hn hw, gdI (by omega) (by omega), nI_clamp (by omega)]
    simp (decide := true) only [Option.bind_some, if_true, if_false]
    rcases isIn_cases x2 1 with ⟨hi, h0, h1⟩ | ⟨hi, ho⟩
    · rw [hi]
      simp (decide := true) only [Option.bind_some, if_true, if_false]
      rcases (hG.hW w hw).1 with hs | hs
      · have hs1 : ¬ silent w = 1 := by rw [hs]; decide
        rw [hrw h0 h1 hs, if_neg hs1]
        simp (decide := true) only [Option.bind_some, if_true, if_false]
        refine simL (fun fuel v (a : Int32 × Int32) => f_X4_ender_28 (nI n) year kinds figures styles (nI w) (fun v4 v5 => f_X4_ender_89 x2 v4 v5 r4) fuel a.1 a.2 v) (fun fuel v (b : Int32) => f_X5_ender_60 (nI n) year kind figure style (nI w) (fun v4 => f_X5_ender_107 year kind figure style (nI w) x2 v4 r5) fuel b v) n (fun _ a b => a.1 = b ∧ ((b = -9 ∧ a.2 = 0) ∨ ∃ v, v < n ∧ b = nI v ∧ a.2 = sWE kind figure style year w v)) _ (fun f4 f5 a b hP => ?_) (fun f4 f5 j a b _ _ hj hP ih => ?_) n 0 FU FU (-9, 0) (-9) (by omega) (FU_gt (by omega)) (FU_gt (by omega)) ⟨rfl, Or.inl ⟨rfl, rfl⟩⟩
        · obtain ⟨t, m⟩ := a
          dsimp only at hP
          obtain ⟨rfl, hP⟩ := hP
          rw [e_X4_ender_28, e_X5_ender_60, if_pos (nI_le (Nat.le_refl _) (by omega)), if_pos (nI_le (Nat.le_refl _) (by omega))]
          unfold f_X4_ender_89 f_X5_ender_107
          by_cases hc : x2 = 0
          · rw [if_pos hc, if_pos hc]
            exact ⟨_, _, rfl, rfl, rfl, hR⟩
          · rw [if_neg hc, if_neg hc]
            rcases hP with ⟨rfl, rfl⟩ | ⟨v, hv, rfl, rfl⟩
            · simp (decide := true) only [Option.bind_some, if_true, if_false]
              exact ⟨_, _, rfl, rfl, rfl, hR⟩
            · rw [if_pos (nI_pos' (by omega)), x5_worthEnded (by omega) (by omega)]
              exact ⟨_, _, rfl, rfl, rfl, hR⟩
        · obtain ⟨t, m⟩ := a
          dsimp only at hP
          obtain ⟨rfl, hP⟩ := hP
          rw [e_X4_ender_28, e_X5_ender_60, if_neg (nI_ge hj (by omega)), if_neg (nI_ge hj (by omega))]
          by_cases hjw : nI j = nI w
          · rw [if_pos hjw, if_pos hjw]
            exact ih (t, m) t ⟨rfl, hP⟩
          · rw [if_neg hjw, if_neg hjw, x0_worthEndedBy hG hw hj]
            simp only [Option.bind_some]
            rcases hP with ⟨rfl, rfl⟩ | ⟨v, hv, rfl, rfl⟩
            · simp (decide := true) only [Option.bind_some, if_true, if_false]
              exact ih (nI j, _) (nI j) ⟨rfl, Or.inr ⟨j, hj, rfl, rfl⟩⟩
            · rw [if_neg (show ¬ nI v = -9 from fun e => nI_m9 (w := v) (by omega) e.symm), if_neg (nI_pos (by omega)), x5_worthEnded (by omega) (by omega), x5_worthEnded (by omega) (by omega)]
              simp only [Option.bind_some]
              by_cases hc : sWE kind figure style year w j ≤ sWE kind figure style year w v
              · rw [if_pos hc, if_pos hc]
                exact ih (nI v, _) (nI v) ⟨rfl, Or.inr ⟨v, hv, rfl, rfl⟩⟩
              · rw [if_neg hc, if_neg hc]
                exact ih (nI j, _) (nI j) ⟨rfl, Or.inr ⟨j, hj, rfl, rfl⟩⟩
      · rw [hrs h0 h1 hs, if_pos hs]
        simp (decide := true) only [Option.bind_some, if_true, if_false]
        rw [rb3, lw3]
        exact ⟨_, _, rfl, rfl, rfl, RR_upd hR (by omega) 1⟩
    · rw [hi, hro ho]
      simp (decide := true) only [Option.bind_some, if_true, if_false]
      rw [rb2, lw2]
      exact ⟨_, _, rfl, rfl, rfl, RR_upd hR (by omega) 1⟩
  · obtain ⟨hn, rfl, rfl, rfl, hM, hW⟩ := id hG
    unfold f_X4_ender f_X5_ender f_X5_ender_42
    rw [refBook_f hn hx, one_f hn hx]
    simp (decide := true) only [Option.bind_some, if_true, if_false]
    rw [rb1, lw1]
    exact ⟨_, _, rfl, rfl, rfl, RR_upd hR (by omega) 1⟩
end KD
