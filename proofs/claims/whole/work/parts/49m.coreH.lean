/-! PURE: told fames, lots. -/
section KH
variable {n : Nat} {size year : Int32} {kinds figures styles fames writing order enders : Nat → Int32} {mw my : Int32} {kind figure style fame silent ring r4 r5 : Nat → Int32}
variable {kz gz sz fz wz oz ez t0 t1 z1 z2 z3 z4 z5 z6 z7 ik cu : Int32} {a1 a2 a3 a4 a5 a6 a7 kept : Nat → Int32}
theorem k_famedSo (hG : GR n size year kinds figures styles fames writing order enders mw my kind figure style fame silent ring) {ts rz : Int32} {told row : Nat → Int32} (hT : TR ts told rz row) {w : Nat} (hw : w < n) : SQ (fun r s => r.1 = s.1 ∧ (s.1 = 0 ∨ s.1 = 1) ∧ BK mw my kind figure style fame silent ring kept s.2) (f_X4_thoughtGoesAsTold size year kinds figures styles fames writing enders ts told (nI w)) (f_X5_isFamedSo mw my ik cu rz kind figure style fame silent ring kept row (nI w)) := by
  obtain ⟨hn, rfl, rfl, rfl, hM, hW⟩ := id hG
  obtain ⟨k, hk, rfl, rfl, hrow⟩ := hT
  unfold f_X4_thoughtGoesAsTold f_X5_isFamedSo
  obtain ⟨K, q1, q2, q3⟩ := x5_thinks (mw := nI n) (my := year) (ik := ik) (cu := cu) (kind := kind) (figure := figure) (style := style) (fame := fame) (silent := silent) (ring := ring) (kept := kept)
  rw [q1]
  simp (decide := true) (implicitDefEqProofs := false) only [Option.bind_some, if_true, if_false]
  have hfin : ∀ (v y : Int32) (f : Nat → Int32), (v = 0 ∨ v = 1) → ∃ s, f_X5_isFamedSo_52 v (nI n) y 1 (nI 132) kind figure style f silent ring K = some s ∧ s.1 = v ∧ BK (nI n) year kind figure style fame silent ring kept s.2 := by
    intro v y f hv
    obtain ⟨b, f1, f2⟩ := x5_forgetsB (kept := kept) (w0 := nI n) (y0 := y) (i0 := 1) (c0 := nI 132) (k0 := kind) (f0 := figure) (s0 := style) (m0 := f) (q0 := silent) (p0 := ring) q2 q3
    unfold f_X5_isFamedSo_52 gb
    rw [f1]
    simp (implicitDefEqProofs := false) only [Option.bind_some]
    rw [if_pos hv]
    exact ⟨_, rfl, rfl, f2⟩
  refine simL (fun fuel v (a : Int32 × (Nat → Int32)) => f_X4_thoughtGoesAsTold_2 (nI n) kinds figures styles writing enders (nI k) told (nI w) fuel v a.1 a.2) (fun fuel v (b : Int32 × Int32 × (Nat → Int32)) => f_X5_isFamedSo_8 (nI k) row (nI w) (nI n) kind figure style silent ring (fun v2 y f => f_X5_isFamedSo_52 v2 (nI n) y 1 (nI 132) kind figure style f silent ring K) fuel b.1 v b.2.1 b.2.2) k (fun _ a b => b.1 = 1 ∧ GR n (nI n) a.1 kinds figures styles a.2 writing order enders (nI n) b.2.1 kind figure style b.2.2 silent ring) _ (fun f4 f5 a b hP => ?_) (fun f4 f5 i a b hf4 hf5 hi hP ih => ?_) k 0 FU FU (year, fames) (1, year, fame) (by omega) (FU_gt (by omega)) (FU_gt (by omega)) ⟨rfl, hG⟩
  · obtain ⟨v, y, f⟩ := b
    obtain ⟨rfl, -⟩ := hP
    rw [e_X4_thoughtGoesAsTold_2, e_X5_isFamedSo_8, if_pos (nI_le (Nat.le_refl _) (by omega)), if_pos (nI_le (Nat.le_refl _) (by omega))]
    obtain ⟨s, f1, f2, f4⟩ := hfin 1 y f (Or.inr rfl)
    exact ⟨_, s, rfl, f1, f2.symm, Or.inr f2, f4⟩
  · obtain ⟨v, y, f⟩ := b
    obtain ⟨y4, F⟩ := a
    obtain ⟨rfl, hG2⟩ := hP
    dsimp only at hG2 ⊢
    obtain ⟨F2, p1, p2, hG3⟩ := hG2.pass1
    rw [e_X4_thoughtGoesAsTold_2, e_X5_isFamedSo_8, if_neg (nI_ge hi (by omega)), if_neg (nI_ge hi (by omega)), if_neg (show ¬ (16 : Int32) ≤ nI i from nI_ge (b := 16) (by omega) (by omega)), if_neg (show ¬ (1 : Int32) = 0 by decide), g3 (by omega) (by omega), g3 (by omega) (by omega), gdI (by omega) (by omega), gdI (by omega) (by omega), nI_clamp (by omega), nI_clamp (by omega), hG2.hF w hw, hrow i hi]
    unfold f_X5_isFamedSo_40
    rw [p1, p2]
    simp (decide := true) (implicitDefEqProofs := false) only [Option.bind_some, if_true, if_false]
    by_cases hc : f w = row i
    · rw [if_pos hc, if_pos hc]
      exact ih (_, F2) (1, _, _) ⟨rfl, hG3⟩
    · rw [if_neg hc, if_neg hc]
      obtain ⟨f5, rfl⟩ : ∃ g, f5 = g + 1 := ⟨f5 - 1, by omega⟩
      rw [e_X5_isFamedSo_8, if_pos (show (0 : Int32) = 0 from rfl), ite_self]
      obtain ⟨s, f1, f2, f4⟩ := hfin 0 (y + 1) (sYr n kind figure style silent ring (y + 1) f) (Or.inl rfl)
      exact ⟨_, s, rfl, f1, f2.symm, Or.inl f2, f4⟩
theorem upd_ch {f g : Nat → Int32} {e : Nat} {x v : Int32} {j : Nat} (h : g j = upd f e x j) : upd g e v j = upd f e v j := by
  by_cases z : j = e
  · subst z; rw [upd_at, upd_at]
  · rw [upd_ne z] at h
    rw [upd_ne z, upd_ne z, h]
theorem upd_ba {f g : Nat → Int32} {e : Nat} {x : Int32} {j : Nat} (h : g j = upd f e x j) : upd g e (f e) j = f j := by
  by_cases z : j = e
  · subst z; rw [upd_at]
  · rw [upd_ne z] at h
    rw [upd_ne z, h]
theorem upd_eq {f : Nat → Int32} {e j : Nat} : upd f e (f e) j = f j := by
  by_cases z : j = e
  · subst z; rw [upd_at]
  · rw [upd_ne z]
theorem k_what_kind (hG : GR n size year kinds figures styles fames writing order enders mw my kind figure style fame silent ring) (hR : RR r4 r5) {ts rz : Int32} {told row : Nat → Int32} (hT : TR ts told rz row) {w e : Nat} (hw : w < n) (he : e < n) : SQ (fun r s => r.1 = s.1 ∧ RR r.2.2.2.2.2.2.2.2.2.2.2.2.2.2.2.2.2 (br s.2) ∧ BK mw my kind figure style fame silent ring kept (bt s.2)) (f_X4_whatIs_70 size year kz kinds gz figures sz styles fz fames wz writing oz order ez enders ts told (nI w) 0 (nI e) (nI 6) r4 FU 0 0 t0 t1 z1 a1 z2 a2 z3 a3 z4 a4 z5 a5 z6 a6 z7 a7) ((f_X5_bitsFor_kind mw my ik cu rz kind figure style fame silent ring kept row (nI e) (nI w) (nI 6)).bind fun r68 => some (r68.1, r68.2.1, r68.2.2.1, r68.2.2.2.1, r68.2.2.2.2.1, r5, r68.2.2.2.2.2.1, r68.2.2.2.2.2.2.1, r68.2.2.2.2.2.2.2.1, r68.2.2.2.2.2.2.2.2.1, r68.2.2.2.2.2.2.2.2.2.1, r68.2.2.2.2.2.2.2.2.2.2.1, r68.2.2.2.2.2.2.2.2.2.2.2)) := by
  obtain ⟨hn, rfl, rfl, rfl, hM, hW⟩ := id hG
  unfold f_X5_bitsFor_kind
  rw [gdI (by omega) (by omega), nI_clamp (by omega)]
  refine simL (fun fuel v (a : Int32 × (Int32 × Int32 × Int32 × (Nat → Int32) × Int32 × (Nat → Int32) × Int32 × (Nat → Int32) × Int32 × (Nat → Int32) × Int32 × (Nat → Int32) × Int32 × (Nat → Int32) × Int32 × (Nat → Int32))) => f_X4_whatIs_70 (nI n) year kz kinds gz figures sz styles fz fames wz writing oz order ez enders ts told (nI w) 0 (nI e) (nI 6) r4 fuel a.1 v a.2.1 a.2.2.1 a.2.2.2.1 a.2.2.2.2.1 a.2.2.2.2.2.1 a.2.2.2.2.2.2.1 a.2.2.2.2.2.2.2.1 a.2.2.2.2.2.2.2.2.1 a.2.2.2.2.2.2.2.2.2.1 a.2.2.2.2.2.2.2.2.2.2.1 a.2.2.2.2.2.2.2.2.2.2.2.1 a.2.2.2.2.2.2.2.2.2.2.2.2.1 a.2.2.2.2.2.2.2.2.2.2.2.2.2.1 a.2.2.2.2.2.2.2.2.2.2.2.2.2.2.1 a.2.2.2.2.2.2.2.2.2.2.2.2.2.2.2.1 a.2.2.2.2.2.2.2.2.2.2.2.2.2.2.2.2) (fun fuel v (b : Int32 × BT) => (f_X5_bitsFor_kind_11 rz row (nI e) (nI w) (nI 6) (fun v6 w0 y0 i0 c0 k0 f0 s0 m0 q0 p0 K0 => f_X5_bitsFor_kind_50 (nI e) (kind e) v6 w0 y0 i0 c0 k0 f0 s0 m0 q0 p0 K0) fuel b.1 v b.2.1 b.2.2.1 b.2.2.2.1 b.2.2.2.2.1 b.2.2.2.2.2.1 b.2.2.2.2.2.2.1 b.2.2.2.2.2.2.2.1 b.2.2.2.2.2.2.2.2.1 b.2.2.2.2.2.2.2.2.2.1 b.2.2.2.2.2.2.2.2.2.2.1 b.2.2.2.2.2.2.2.2.2.2.2).bind fun r68 => some (r68.1, r68.2.1, r68.2.2.1, r68.2.2.2.1, r68.2.2.2.2.1, r5, r68.2.2.2.2.2.1, r68.2.2.2.2.2.2.1, r68.2.2.2.2.2.2.2.1, r68.2.2.2.2.2.2.2.2.1, r68.2.2.2.2.2.2.2.2.2.1, r68.2.2.2.2.2.2.2.2.2.2.1, r68.2.2.2.2.2.2.2.2.2.2.2)) 6 (fun _ a b => a.1 = b.1 ∧ ∃ x, BK (nI n) year (upd kind e x) figure style fame silent ring kept b.2) _ (fun f4 f5 a b hP => ?_) (fun f4 f5 i a b hf4 hf5 hi hP ih => ?_) 6 0 FU FU (0, (t0, t1, z1, a1, z2, a2, z3, a3, z4, a4, z5, a5, z6, a6, z7, a7)) (0, (nI n, year, ik, cu, kind, figure, style, fame, silent, ring, kept)) (by omega) (FU_gt (by omega)) (FU_gt (by omega)) ⟨rfl, kind e, rfl, rfl, fun j _ => ⟨by rw [upd_eq], rfl, rfl, rfl, rfl, rfl⟩, fun _ _ => rfl⟩
  · obtain ⟨v, w', y', ik', cu', kB, fB, sB, mB, qB, rB, kpB⟩ := b
    obtain ⟨av, aT⟩ := a
    obtain ⟨rfl, x, hb1, hb2, hb3, hb4⟩ := hP
    dsimp only at hb1 hb2 hb3 hb4 ⊢
    subst w'
    subst y'
    rw [e_X4_whatIs_70, e_X5_bitsFor_kind_11, if_pos (nI_le (Nat.le_refl _) (by omega)), if_pos (nI_le (Nat.le_refl _) (by omega))]
    unfold f_X5_bitsFor_kind_50
    rw [gdI (by omega) (by omega), nI_clamp (by omega)]
    refine ⟨_, _, rfl, rfl, rfl, hR, rfl, rfl, fun j hj => ?_, hb4⟩
    obtain ⟨b1, b2, b3, b4, b5, b6⟩ := hb3 j hj
    exact ⟨upd_ba b1, b2, b3, b4, b5, b6⟩
  · obtain ⟨v, w', y', ik', cu', kB, fB, sB, mB, qB, rB, kpB⟩ := b
    obtain ⟨av, aT⟩ := a
    obtain ⟨rfl, x, hb1, hb2, hb3, hb4⟩ := hP
    dsimp only at hb1 hb2 hb3 hb4 ⊢
    subst w'
    subst y'
    have hB2 : ∀ j, j < 7 → upd kB e (nI i) j = upd kind e (nI i) j ∧ fB j = figure j ∧ sB j = style j ∧ mB j = fame j ∧ qB j = silent j ∧ rB j = ring j := by
      intro j hj
      obtain ⟨b1, b2, b3, b4, b5, b6⟩ := hb3 j hj
      exact ⟨upd_ch b1, b2, b3, b4, b5, b6⟩
    have hGB := (hG.setKind e (nI i)).back hB2
    obtain ⟨r, s, z4, z5, y1, y2, y3⟩ := k_famedSo (ik := ik') (cu := cu') (kept := kpB) hGB hT hw
    rw [e_X4_whatIs_70, e_X5_bitsFor_kind_11, if_neg (nI_ge hi (by omega)), if_neg (nI_ge hi (by omega)), x0_take, gdI (by omega) (by omega), nI_clamp (by omega), z5]
    simp (decide := true) (implicitDefEqProofs := false) only [Option.bind_some, if_true, if_false]
    rw [s3 (by omega) (by omega)]
    simp (decide := true) (implicitDefEqProofs := false) only [Option.bind_some, if_true, if_false]
    unfold f_X4_whatIs_121
    rw [z4]
    simp (decide := true) (implicitDefEqProofs := false) only [Option.bind_some, if_true, if_false]
    obtain ⟨rv, ry, rF⟩ := r
    obtain ⟨sv, sB2⟩ := s
    dsimp only at y1 y2 y3 ⊢
    subst rv
    unfold f_X4_whatIs_138 f_X5_bitsFor_kind_41
    have hBK : BK (nI n) year (upd kind e (nI i)) figure style fame silent ring kept sB2 := BK.trans rfl rfl hB2 hb4 y3
    by_cases hc : sv = 0
    · rw [if_pos hc, if_pos hc]
      exact ih (_, (nI n, _, kz, upd kinds e (nI i), gz, figures, sz, styles, fz, _, wz, writing, oz, order, ez, enders)) (_, sB2) ⟨by rw [Int32.or_zero], nI i, hBK⟩
    · rw [if_neg hc, if_neg hc]
      exact ih (_, (nI n, _, kz, upd kinds e (nI i), gz, figures, sz, styles, fz, _, wz, writing, oz, order, ez, enders)) (_, sB2) ⟨rfl, nI i, hBK⟩
theorem k_what_figure (hG : GR n size year kinds figures styles fames writing order enders mw my kind figure style fame silent ring) (hR : RR r4 r5) {ts rz : Int32} {told row : Nat → Int32} (hT : TR ts told rz row) {w e : Nat} (hw : w < n) (he : e < n) : SQ (fun r s => r.1 = s.1 ∧ RR r.2.2.2.2.2.2.2.2.2.2.2.2.2.2.2.2.2 (br s.2) ∧ BK mw my kind figure style fame silent ring kept (bt s.2)) (f_X4_whatIs_70 size year kz kinds gz figures sz styles fz fames wz writing oz order ez enders ts told (nI w) 1 (nI e) (nI 10) r4 FU 0 0 t0 t1 z1 a1 z2 a2 z3 a3 z4 a4 z5 a5 z6 a6 z7 a7) ((f_X5_bitsFor_figure mw my ik cu rz kind figure style fame silent ring kept row (nI e) (nI w) (nI 10)).bind fun r68 => some (r68.1, r68.2.1, r68.2.2.1, r68.2.2.2.1, r68.2.2.2.2.1, r5, r68.2.2.2.2.2.1, r68.2.2.2.2.2.2.1, r68.2.2.2.2.2.2.2.1, r68.2.2.2.2.2.2.2.2.1, r68.2.2.2.2.2.2.2.2.2.1, r68.2.2.2.2.2.2.2.2.2.2.1, r68.2.2.2.2.2.2.2.2.2.2.2)) := by
  obtain ⟨hn, rfl, rfl, rfl, hM, hW⟩ := id hG
  unfold f_X5_bitsFor_figure
  rw [gdI (by omega) (by omega), nI_clamp (by omega)]
  refine simL (fun fuel v (a : Int32 × (Int32 × Int32 × Int32 × (Nat → Int32) × Int32 × (Nat → Int32) × Int32 × (Nat → Int32) × Int32 × (Nat → Int32) × Int32 × (Nat → Int32) × Int32 × (Nat → Int32) × Int32 × (Nat → Int32))) => f_X4_whatIs_70 (nI n) year kz kinds gz figures sz styles fz fames wz writing oz order ez enders ts told (nI w) 1 (nI e) (nI 10) r4 fuel a.1 v a.2.1 a.2.2.1 a.2.2.2.1 a.2.2.2.2.1 a.2.2.2.2.2.1 a.2.2.2.2.2.2.1 a.2.2.2.2.2.2.2.1 a.2.2.2.2.2.2.2.2.1 a.2.2.2.2.2.2.2.2.2.1 a.2.2.2.2.2.2.2.2.2.2.1 a.2.2.2.2.2.2.2.2.2.2.2.1 a.2.2.2.2.2.2.2.2.2.2.2.2.1 a.2.2.2.2.2.2.2.2.2.2.2.2.2.1 a.2.2.2.2.2.2.2.2.2.2.2.2.2.2.1 a.2.2.2.2.2.2.2.2.2.2.2.2.2.2.2.1 a.2.2.2.2.2.2.2.2.2.2.2.2.2.2.2.2) (fun fuel v (b : Int32 × BT) => (f_X5_bitsFor_figure_11 rz row (nI e) (nI w) (nI 10) (fun v6 w0 y0 i0 c0 k0 f0 s0 m0 q0 p0 K0 => f_X5_bitsFor_figure_50 (nI e) (figure e) v6 w0 y0 i0 c0 k0 f0 s0 m0 q0 p0 K0) fuel b.1 v b.2.1 b.2.2.1 b.2.2.2.1 b.2.2.2.2.1 b.2.2.2.2.2.1 b.2.2.2.2.2.2.1 b.2.2.2.2.2.2.2.1 b.2.2.2.2.2.2.2.2.1 b.2.2.2.2.2.2.2.2.2.1 b.2.2.2.2.2.2.2.2.2.2.1 b.2.2.2.2.2.2.2.2.2.2.2).bind fun r68 => some (r68.1, r68.2.1, r68.2.2.1, r68.2.2.2.1, r68.2.2.2.2.1, r5, r68.2.2.2.2.2.1, r68.2.2.2.2.2.2.1, r68.2.2.2.2.2.2.2.1, r68.2.2.2.2.2.2.2.2.1, r68.2.2.2.2.2.2.2.2.2.1, r68.2.2.2.2.2.2.2.2.2.2.1, r68.2.2.2.2.2.2.2.2.2.2.2)) 10 (fun _ a b => a.1 = b.1 ∧ ∃ x, BK (nI n) year kind (upd figure e x) style fame silent ring kept b.2) _ (fun f4 f5 a b hP => ?_) (fun f4 f5 i a b hf4 hf5 hi hP ih => ?_) 10 0 FU FU (0, (t0, t1, z1, a1, z2, a2, z3, a3, z4, a4, z5, a5, z6, a6, z7, a7)) (0, (nI n, year, ik, cu, kind, figure, style, fame, silent, ring, kept)) (by omega) (FU_gt (by omega)) (FU_gt (by omega)) ⟨rfl, figure e, rfl, rfl, fun j _ => ⟨rfl, by rw [upd_eq], rfl, rfl, rfl, rfl⟩, fun _ _ => rfl⟩
  · obtain ⟨v, w', y', ik', cu', kB, fB, sB, mB, qB, rB, kpB⟩ := b
    obtain ⟨av, aT⟩ := a
    obtain ⟨rfl, x, hb1, hb2, hb3, hb4⟩ := hP
    dsimp only at hb1 hb2 hb3 hb4 ⊢
    subst w'
    subst y'
    rw [e_X4_whatIs_70, e_X5_bitsFor_figure_11, if_pos (nI_le (Nat.le_refl _) (by omega)), if_pos (nI_le (Nat.le_refl _) (by omega))]
    unfold f_X5_bitsFor_figure_50
    rw [gdI (by omega) (by omega), nI_clamp (by omega)]
    refine ⟨_, _, rfl, rfl, rfl, hR, rfl, rfl, fun j hj => ?_, hb4⟩
    obtain ⟨b1, b2, b3, b4, b5, b6⟩ := hb3 j hj
    exact ⟨b1, upd_ba b2, b3, b4, b5, b6⟩
  · obtain ⟨v, w', y', ik', cu', kB, fB, sB, mB, qB, rB, kpB⟩ := b
    obtain ⟨av, aT⟩ := a
    obtain ⟨rfl, x, hb1, hb2, hb3, hb4⟩ := hP
    dsimp only at hb1 hb2 hb3 hb4 ⊢
    subst w'
    subst y'
    have hB2 : ∀ j, j < 7 → kB j = kind j ∧ upd fB e (nI i) j = upd figure e (nI i) j ∧ sB j = style j ∧ mB j = fame j ∧ qB j = silent j ∧ rB j = ring j := by
      intro j hj
      obtain ⟨b1, b2, b3, b4, b5, b6⟩ := hb3 j hj
      exact ⟨b1, upd_ch b2, b3, b4, b5, b6⟩
    have hGB := (hG.setFigure e (nI i)).back hB2
    obtain ⟨r, s, z4, z5, y1, y2, y3⟩ := k_famedSo (ik := ik') (cu := cu') (kept := kpB) hGB hT hw
    rw [e_X4_whatIs_70, e_X5_bitsFor_figure_11, if_neg (nI_ge hi (by omega)), if_neg (nI_ge hi (by omega)), x0_take, gdI (by omega) (by omega), nI_clamp (by omega), z5]
    simp (decide := true) (implicitDefEqProofs := false) only [Option.bind_some, if_true, if_false]
    rw [s3 (by omega) (by omega)]
    simp (decide := true) (implicitDefEqProofs := false) only [Option.bind_some, if_true, if_false]
    unfold f_X4_whatIs_121
    rw [z4]
    simp (decide := true) (implicitDefEqProofs := false) only [Option.bind_some, if_true, if_false]
    obtain ⟨rv, ry, rF⟩ := r
    obtain ⟨sv, sB2⟩ := s
    dsimp only at y1 y2 y3 ⊢
    subst rv
    unfold f_X4_whatIs_138 f_X5_bitsFor_figure_41
    have hBK : BK (nI n) year kind (upd figure e (nI i)) style fame silent ring kept sB2 := BK.trans rfl rfl hB2 hb4 y3
    by_cases hc : sv = 0
    · rw [if_pos hc, if_pos hc]
      exact ih (_, (nI n, _, kz, kinds, gz, upd figures e (nI i), sz, styles, fz, _, wz, writing, oz, order, ez, enders)) (_, sB2) ⟨by rw [Int32.or_zero], nI i, hBK⟩
    · rw [if_neg hc, if_neg hc]
      exact ih (_, (nI n, _, kz, kinds, gz, upd figures e (nI i), sz, styles, fz, _, wz, writing, oz, order, ez, enders)) (_, sB2) ⟨rfl, nI i, hBK⟩
theorem k_whatIs (hG : GR n size year kinds figures styles fames writing order enders mw my kind figure style fame silent ring) (hR : RR r4 r5) {ts rz : Int32} {told row : Nat → Int32} (hT : TR ts told rz row) (x1 x2 : Int32) : SQ (fun r s => r.1 = s.1 ∧ RR r.2.2.2.2.2.2.2.2.2.2.2.2.2.2.2.2.2 (br s.2) ∧ BK mw my kind figure style fame silent ring kept (bt s.2)) (f_X4_whatIs size year kz kinds gz figures sz styles fz fames wz writing oz order ez enders t0 t1 z1 a1 z2 a2 z3 a3 z4 a4 z5 a5 z6 a6 z7 a7 ts told r4 x1 x2) (f_X5_whatIs mw my ik cu rz r5 kind figure style fame silent ring kept row x1 x2) := by
  by_cases hx : ∃ w, w < n ∧ x1 = nI w
  · obtain ⟨w, hw, rfl⟩ := hx
    have key1 := fun e (he : e < n) => k_what_kind (kz := kz) (gz := gz) (sz := sz) (fz := fz) (wz := wz) (oz := oz) (ez := ez) (t0 := t0) (t1 := t1) (z1 := z1) (z2 := z2) (z3 := z3) (z4 := z4) (z5 := z5) (z6 := z6) (z7 := z7) (a1 := a1) (a2 := a2) (a3 := a3) (a4 := a4) (a5 := a5) (a6 := a6) (a7 := a7) (ik := ik) (cu := cu) (kept := kept) hG hR hT hw he
    have key2 := fun e (he : e < n) => k_what_figure (kz := kz) (gz := gz) (sz := sz) (fz := fz) (wz := wz) (oz := oz) (ez := ez) (t0 := t0) (t1 := t1) (z1 := z1) (z2 := z2) (z3 := z3) (z4 := z4) (z5 := z5) (z6 := z6) (z7 := z7) (a1 := a1) (a2 := a2) (a3 := a3) (a4 := a4) (a5 := a5) (a6 := a6) (a7 := a7) (ik := ik) (cu := cu) (kept := kept) hG hR hT hw he
    obtain ⟨hn, rfl, rfl, rfl, hM, hW⟩ := id hG
    unfold f_X4_whatIs f_X5_whatIs f_X4_whatIs_33 f_X5_whatIs_27 f_X4_whatIs_65
    rw [has_t hn hw, one_t hn hw, g3 (by omega) (by omega), hG.hE w hw, x5_enderOf hn hM hw]
    simp (decide := true) (implicitDefEqProofs := false) only [Option.bind_some, if_true, if_false]
    rcases isIn1 x2 with ⟨h0, hi⟩ | ⟨h0, hi⟩ | ⟨h0, h1, hi⟩
    · rw [hi]
      simp (decide := true) (implicitDefEqProofs := false) only [Option.bind_some, if_true, if_false]
      subst h0
      simp (decide := true) (implicitDefEqProofs := false) only [Option.bind_some, if_true, if_false]
      rcases sEn_cases (silent := silent) hn hM hw with h9 | ⟨e, he, hE, -, -⟩
      · rw [h9]
        simp (decide := true) (implicitDefEqProofs := false) only [Option.bind_some, if_true, if_false]
        exact ⟨_, _, rfl, rfl, rfl, hR, BK.self⟩
      · rw [hE, if_pos (nI_pos' (by omega)), if_pos (nI_pos' (by omega))]
        exact key1 e he
    · rw [hi]
      simp (decide := true) (implicitDefEqProofs := false) only [Option.bind_some, if_true, if_false]
      subst h0
      simp (decide := true) (implicitDefEqProofs := false) only [Option.bind_some, if_true, if_false]
      rcases sEn_cases (silent := silent) hn hM hw with h9 | ⟨e, he, hE, -, -⟩
      · rw [h9]
        simp (decide := true) (implicitDefEqProofs := false) only [Option.bind_some, if_true, if_false]
        exact ⟨_, _, rfl, rfl, rfl, hR, BK.self⟩
      · rw [hE, if_pos (nI_pos' (by omega)), if_pos (nI_pos' (by omega))]
        exact key2 e he
    · rw [hi, if_neg h0, if_neg h1, rf2]
      simp (decide := true) (implicitDefEqProofs := false) only [Option.bind_some, if_true, if_false]
      rw [no2]
      exact ⟨_, _, rfl, rfl, rfl, RR_upd hR (by omega) 1, BK.self⟩
  · obtain ⟨hn, rfl, rfl, rfl, hM, hW⟩ := id hG
    unfold f_X4_whatIs f_X5_whatIs f_X5_whatIs_27
    rw [has_f hn hx, one_f hn hx]
    simp (decide := true) (implicitDefEqProofs := false) only [Option.bind_some, if_true, if_false]
    rw [rf1, no1]
    exact ⟨_, _, rfl, rfl, rfl, RR_upd hR (by omega) 1, BK.self⟩
theorem k_forg (hn : n ≤ 7) {f g : Nat → Int32} (h : ∀ w, w < n → f w = g w) : SQ Eq (f_X0_howManyForgotten (nI n) f) (f_X5_forgottenOnes (nI n) g) := by
  unfold f_X0_howManyForgotten f_X5_forgottenOnes
  refine simL (fun fuel v a => f_X0_howManyForgotten_4 (nI n) f fuel a v) (fun fuel v a => f_X5_forgottenOnes_4 (nI n) g fuel a v) n (fun _ a b => a = b) Eq (fun f4 f5 a b hP => ?_) (fun f4 f5 i a b _ _ hi hP ih => ?_) n 0 FU FU 0 0 (by omega) (FU_gt (by omega)) (FU_gt (by omega)) rfl
  · rw [e_X0_howManyForgotten_4, e_X5_forgottenOnes_4, if_pos (nI_le (Nat.le_refl _) (by omega)), if_pos (nI_le (Nat.le_refl _) (by omega))]
    exact ⟨_, _, rfl, rfl, hP⟩
  · subst hP
    rw [e_X0_howManyForgotten_4, e_X5_forgottenOnes_4, if_neg (nI_ge hi (by omega)), if_neg (nI_ge hi (by omega)), g3 (by omega) (by omega), gdI (by omega) (by omega), nI_clamp (by omega), h i hi]
    simp (decide := true) (implicitDefEqProofs := false) only [Option.bind_some, if_true, if_false]
    by_cases hc : g i = 0
    · rw [if_pos hc, if_pos hc]
      exact ih _ _ rfl
    · rw [if_neg hc, if_neg hc]
      exact ih _ _ (by rw [Int32.add_zero])
theorem k_lots0 (hG : GR n size year kinds figures styles fames writing order enders mw my kind figure style fame silent ring) (hR : RR r4 r5) {m : Nat} (hm : m ≤ 20) (x2 x3 : Int32) : SQ (fun r s => r.1 = s.1 ∧ RR r.2.2.2.2.2.2.2.2.2.2.2.2.2.2.2.2.2 (br s.2) ∧ BK mw my kind figure style fame silent ring kept (bt s.2)) (f_X4_lots_41 size year kz kinds gz figures sz styles fz fames wz writing oz order ez enders (nI m) x2 x3 t0 t1 z1 a1 z2 a2 z3 a3 z4 a4 z5 a5 z6 a6 z7 a7 r4) (f_X5_lots_48 (nI m) x3 r5 FU x2 0 0 mw my ik cu kind figure style fame silent ring kept) := by
  obtain ⟨hn, rfl, rfl, rfl, hM, hW⟩ := id hG
  unfold f_X4_lots_41
  refine simL (fun fuel v (a : (Int32 × Int32 × Int32) × (Int32 × Int32 × Int32 × (Nat → Int32) × Int32 × (Nat → Int32) × Int32 × (Nat → Int32) × Int32 × (Nat → Int32) × Int32 × (Nat → Int32) × Int32 × (Nat → Int32) × Int32 × (Nat → Int32))) => f_X4_lots_53 (nI n) year kz kinds gz figures sz styles fz fames wz writing oz order ez enders (nI m) (fun v5 v6 t0 t1 z1 a1 z2 a2 z3 a3 z4 a4 z5 a5 z6 a6 z7 a7 => f_X4_lots_184 x3 v5 v6 t0 t1 z1 a1 z2 a2 z3 a3 z4 a4 z5 a5 z6 a6 z7 a7 r4) fuel a.1.1 a.1.2.1 a.1.2.2 v a.2.1 a.2.2.1 a.2.2.2.1 a.2.2.2.2.1 a.2.2.2.2.2.1 a.2.2.2.2.2.2.1 a.2.2.2.2.2.2.2.1 a.2.2.2.2.2.2.2.2.1 a.2.2.2.2.2.2.2.2.2.1 a.2.2.2.2.2.2.2.2.2.2.1 a.2.2.2.2.2.2.2.2.2.2.2.1 a.2.2.2.2.2.2.2.2.2.2.2.2.1 a.2.2.2.2.2.2.2.2.2.2.2.2.2.1 a.2.2.2.2.2.2.2.2.2.2.2.2.2.2.1 a.2.2.2.2.2.2.2.2.2.2.2.2.2.2.2.1 a.2.2.2.2.2.2.2.2.2.2.2.2.2.2.2.2) (fun fuel v (b : (Int32 × Int32) × BT) => f_X5_lots_48 (nI m) x3 r5 fuel b.1.1 b.1.2 v b.2.1 b.2.2.1 b.2.2.2.1 b.2.2.2.2.1 b.2.2.2.2.2.1 b.2.2.2.2.2.2.1 b.2.2.2.2.2.2.2.1 b.2.2.2.2.2.2.2.2.1 b.2.2.2.2.2.2.2.2.2.1 b.2.2.2.2.2.2.2.2.2.2.1 b.2.2.2.2.2.2.2.2.2.2.2) m (fun _ a b => a.1.1 = b.1.1 ∧ (x3 = 0 → a.1.2.1 = b.1.2) ∧ (¬ x3 = 0 → a.1.2.2 = b.1.2) ∧ BK (nI n) year kind figure style fame silent ring kept b.2) _ (fun f4 f5 a b hP => ?_) (fun f4 f5 i a b hf4 hf5 hi hP ih => ?_) m 0 FU FU ((x2, 0, 0), (t0, t1, z1, a1, z2, a2, z3, a3, z4, a4, z5, a5, z6, a6, z7, a7)) ((x2, 0), (nI n, year, ik, cu, kind, figure, style, fame, silent, ring, kept)) (by omega) (FU_gt (by omega)) (FU_gt (by omega)) ⟨rfl, fun _ => rfl, fun _ => rfl, BK.self⟩
  · obtain ⟨⟨az, a5, a6⟩, aT⟩ := a
    obtain ⟨⟨bz, bv⟩, b⟩ := b
    obtain ⟨h1, h2, h3, h4⟩ := hP
    dsimp only at h1 h2 h3 h4 ⊢
    rw [e_X4_lots_53, e_X5_lots_48, if_pos (nI_le (Nat.le_refl _) (by omega)), if_pos (nI_le (Nat.le_refl _) (by omega))]
    unfold f_X4_lots_184
    by_cases hc : x3 = 0
    · rw [if_pos hc]
      exact ⟨_, _, rfl, rfl, h2 hc, hR, h4⟩
    · rw [if_neg hc]
      exact ⟨_, _, rfl, rfl, h3 hc, hR, h4⟩
  · obtain ⟨⟨az, a5, a6⟩, aT⟩ := a
    obtain ⟨⟨bz, bv⟩, w', y', ik', cu', kB, fB, sB, mB, qB, rB, kpB⟩ := b
    obtain ⟨h1, h2, h3, hb1, hb2, hb3, hb4⟩ := hP
    dsimp only at h1 h2 h3 hb1 hb2 hb3 hb4 ⊢
    subst w'
    subst y'
    subst az
    have hGB := hG.back hb3
    obtain ⟨K, q1, q2, q3⟩ := x5_thinks (mw := nI n) (my := year) (ik := ik') (cu := cu') (kind := kB) (figure := fB) (style := sB) (fame := mB) (silent := qB) (ring := rB) (kept := kpB)
    rw [e_X4_lots_53, e_X5_lots_48, if_neg (nI_ge hi (by omega)), if_neg (nI_ge hi (by omega)), if_neg (show ¬ (20 : Int32) ≤ nI i from nI_ge (b := 20) (by omega) (by omega)), x0_take, q1]
    simp (decide := true) (implicitDefEqProofs := false) only [Option.bind_some, if_true, if_false]
    refine simL (fun fuel v (a : Int32 × (Nat → Int32)) => f_X4_lots_80 (nI n) (fun v4 S => f_X4_lots_135 (f_X4_lots_53 (nI n) year kz kinds gz figures sz styles fz fames wz writing oz order ez enders (nI m) (fun v5 v6 t0 t1 z1 a1 z2 a2 z3 a3 z4 a4 z5 a5 z6 a6 z7 a7 => f_X4_lots_184 x3 v5 v6 t0 t1 z1 a1 z2 a2 z3 a3 z4 a4 z5 a5 z6 a6 z7 a7 r4) f4) v4 a5 a6 (nI i) (nI n) year kz kinds gz figures sz S fz fames wz writing oz order ez enders) fuel a.1 v a.2) (fun fuel v (b : Int32 × (Nat → Int32)) => f_X5_lots_61 (nI n) (fun v5 S => f_X5_lots_108 x3 (f_X5_lots_48 (nI m) x3 r5 f5) v5 bv (nI i) (nI n) year 1 (nI 132) kB fB S mB qB rB K) fuel b.1 v b.2) n (fun _ a b => a.1 = b.1 ∧ GR n (nI n) year kinds figures a.2 fames writing order enders (nI n) year kB fB b.2 mB qB rB) _ (fun g4 g5 a b hP => ?_) (fun g4 g5 j a b _ _ hj hP ih2 => ?_) n 0 FU FU (bz, styles) (bz, sB) (by omega) (FU_gt (by omega)) (FU_gt (by omega)) ⟨rfl, hGB⟩
    · obtain ⟨z, S⟩ := a
      obtain ⟨z', S'⟩ := b
      obtain ⟨rfl, hG2⟩ := hP
      dsimp only at hG2 ⊢
      rw [e_X4_lots_80, e_X5_lots_61, if_pos (nI_le (Nat.le_refl _) (by omega)), if_pos (nI_le (Nat.le_refl _) (by omega))]
      unfold f_X4_lots_135 f_X5_lots_108
      obtain ⟨F2, p1, p2, hG3⟩ := hG2.passK (k := 10) (by omega)
      rw [show (10 : Int32) = nI 10 from rfl, p1, p2]
      simp (decide := true) (implicitDefEqProofs := false) only [Option.bind_some, if_true, if_false]
      obtain ⟨u, u', v4, v5, rfl⟩ := k_sum hn hG3.hF
      obtain ⟨g, g', w4, w5, rfl⟩ := k_forg hn hG3.hF
      rw [v4, w4, v5, w5]
      simp (decide := true) (implicitDefEqProofs := false) only [Option.bind_some, if_true, if_false]
      unfold f_X5_lots_135
      obtain ⟨b2, f1, f2⟩ := x5_forgetsB (kept := kpB) (w0 := nI n) (y0 := (sYs n kB fB S' qB rB 10 year mB).1) (i0 := 1) (c0 := nI 132) (k0 := kB) (f0 := fB) (s0 := S') (m0 := (sYs n kB fB S' qB rB 10 year mB).2) (q0 := qB) (p0 := rB) q2 q3
      rw [f1]
      simp (decide := true) (implicitDefEqProofs := false) only [Option.bind_some, if_true, if_false]
      have hBK := BK.trans rfl rfl hb3 hb4 f2
      by_cases hc : x3 = 0
      · rw [if_pos hc]
        exact ih ((_, _, _), (nI n, _, kz, kinds, gz, figures, sz, _, fz, _, wz, writing, oz, order, ez, enders)) ((_, _), b2) ⟨rfl, fun _ => by dsimp only; rw [h2 hc], fun z => absurd hc z, hBK⟩
      · rw [if_neg hc]
        exact ih ((_, _, _), (nI n, _, kz, kinds, gz, figures, sz, _, fz, _, wz, writing, oz, order, ez, enders)) ((_, _), b2) ⟨rfl, fun z => absurd z hc, fun _ => by dsimp only; rw [h3 hc], hBK⟩
    · obtain ⟨z, S⟩ := a
      obtain ⟨z', S'⟩ := b
      obtain ⟨rfl, hG2⟩ := hP
      dsimp only at hG2 ⊢
      rw [e_X4_lots_80, e_X5_lots_61, if_neg (nI_ge hj (by omega)), if_neg (nI_ge hj (by omega)), s3 (by omega) (by omega), gdI (by omega) (by omega), nI_clamp (by omega)]
      simp (decide := true) (implicitDefEqProofs := false) only [Option.bind_some, if_true, if_false]
      exact ih2 (_, _) (_, _) ⟨rfl, hG2.setStyle j _⟩
theorem k_lots (hG : GR n size year kinds figures styles fames writing order enders mw my kind figure style fame silent ring) (hR : RR r4 r5) (x1 x2 x3 : Int32) : SQ (fun r s => r.1 = s.1 ∧ RR r.2.2.2.2.2.2.2.2.2.2.2.2.2.2.2.2.2 (br s.2) ∧ BK mw my kind figure style fame silent ring kept (bt s.2)) (f_X4_lots size year kz kinds gz figures sz styles fz fames wz writing oz order ez enders t0 t1 z1 a1 z2 a2 z3 a3 z4 a4 z5 a5 z6 a6 z7 a7 r4 x1 x2 x3) (f_X5_lots mw my ik cu r5 kind figure style fame silent ring kept x1 x2 x3) := by
  have key := fun m (hm : m ≤ 20) => k_lots0 (kz := kz) (gz := gz) (sz := sz) (fz := fz) (wz := wz) (oz := oz) (ez := ez) (t0 := t0) (t1 := t1) (z1 := z1) (z2 := z2) (z3 := z3) (z4 := z4) (z5 := z5) (z6 := z6) (z7 := z7) (a1 := a1) (a2 := a2) (a3 := a3) (a4 := a4) (a5 := a5) (a6 := a6) (a7 := a7) (ik := ik) (cu := cu) (kept := kept) hG hR hm x2 x3
  unfold f_X4_lots f_X5_lots f_X5_lots_27 f_X5_bound
  by_cases h1 : 1 ≤ x1
  · rw [if_pos h1, if_pos h1]
    by_cases h20 : x1 ≤ 20
    · have h0 : 0 ≤ x1 := Int32.le_trans (by decide) h1
      obtain ⟨m, hm, rfl⟩ := bound60 (m := 20) (by omega) h0 h20
      rw [if_pos h20, if_pos h20]
      simp (decide := true) (implicitDefEqProofs := false) only [Option.bind_some, if_true, if_false]
      rcases isIn1 x3 with ⟨h0, hi⟩ | ⟨h0, hi⟩ | ⟨h0, h1, hi⟩
      · rw [hi, if_pos h0]
        simp (decide := true) (implicitDefEqProofs := false) only [Option.bind_some, if_true, if_false]
        exact key m hm
      · rw [hi, if_neg (show ¬ x3 = 0 by rw [h0]; decide), if_pos h0]
        simp (decide := true) (implicitDefEqProofs := false) only [Option.bind_some, if_true, if_false]
        exact key m hm
      · rw [hi, if_neg h0, if_neg h1, rf2]
        simp (decide := true) (implicitDefEqProofs := false) only [Option.bind_some, if_true, if_false]
        rw [no2]
        exact ⟨_, _, rfl, rfl, rfl, RR_upd hR (by omega) 1, BK.self⟩
    · rw [if_neg h20, if_neg h20, rf6]
      simp (decide := true) (implicitDefEqProofs := false) only [Option.bind_some, if_true, if_false]
      rw [no6]
      exact ⟨_, _, rfl, rfl, rfl, RR_upd hR (by omega) 1, BK.self⟩
  · rw [if_neg h1, if_neg h1, rf4]
    simp (decide := true) (implicitDefEqProofs := false) only [Option.bind_some, if_true, if_false]
    rw [no4]
    exact ⟨_, _, rfl, rfl, rfl, RR_upd hR (by omega) 1, BK.self⟩
end KH
