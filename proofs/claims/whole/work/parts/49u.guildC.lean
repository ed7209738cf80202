/-! PURE: a guild told in letters. -/
theorem posL_lt {k N : Nat} {L : Nat → Nat} {le la td : Nat → Int32} (h : RD k L N le la td) (h1 : 1 ≤ N) (hk : k ≤ 96) : posL L N < 2 ^ 31 := by
  obtain ⟨j, rfl⟩ : ∃ j, N = j + 1 := ⟨N - 1, by omega⟩
  have := (h j (by omega)).2.1.len.1
  rw [posL]
  omega
section KV
variable {n : Nat} {size year : Int32} {kinds figures styles fames writing order enders : Nat → Int32} {mw my : Int32} {kind figure style fame silent ring r4 r5 : Nat → Int32}
variable {kz gz sz fz wz oz ez t0 t1 z1 z2 z3 z4 z5 z6 z7 ik cu : Int32} {a1 a2 a3 a4 a5 a6 a7 kept : Nat → Int32}
theorem sh_ln {k : Nat} {lt tp : Nat → Int32} {L : Nat → Nat} (h : TX k lt tp L) {p : Nat} (hp : p < k) (hok : OKS k L p) : ∃ s, f_X1_shapeAt (nI k) lt (nI p) = some s ∧ j_length s = some (nI (lnL L p)) := by
  have hk := h.1
  obtain ⟨h1, -, -⟩ := h.2 p hp
  unfold f_X1_shapeAt
  rw [if_pos (Int32.not_le.mp (nI_ge hp (by omega))), g3 (by omega) (by omega), h1]
  rcases hok with ⟨c, -⟩ | ⟨c, -⟩ | ⟨c, -⟩ | ⟨c, -⟩ | ⟨c, -⟩ | ⟨c, -⟩
  · have e : lnL L p = 5 := by unfold lnL; rw [c]; rfl
    rw [c, e]
    exact ⟨1, rfl, by decide⟩
  · have e : lnL L p = 4 := by unfold lnL; rw [c]; rfl
    rw [c, e]
    exact ⟨2, rfl, by decide⟩
  · have e : lnL L p = 3 := by unfold lnL; rw [c]; rfl
    rw [c, e]
    exact ⟨3, rfl, by decide⟩
  · have e : lnL L p = 4 := by unfold lnL; rw [c]; rfl
    rw [c, e]
    exact ⟨4, rfl, by decide⟩
  · have e : lnL L p = 5 := by unfold lnL; rw [c]; rfl
    rw [c, e]
    exact ⟨5, rfl, by decide⟩
  · have e : lnL L p = 4 := by unfold lnL; rw [c]; rfl
    rw [c, e]
    exact ⟨6, rfl, by decide⟩
theorem k_guild (hG : GR n size year kinds figures styles fames writing order enders mw my kind figure style fame silent ring) (hB : BD figure style my) {ls tz at0 st0 : Int32} {lt tp le la td : Nat → Int32} (hL : LR ls lt tz tp) : SQ (fun r s => r.1 = s.1 ∧ r.2.2.2.2.2.2.2.2.2.2.2.2.2.2.2.2.2.2.2.2.2.2.2.2.2.2.2.2.2.2.2.2.2 = 0 ∧ s.2.2.2.1 = 0 ∧ (∀ j, j < 44 → s.2.2.2.2.2.2.2.2.2.2.2.2.2.2.2.2.2 j = kept j) ∧ (∃ n, GR n r.2.1 r.2.2.1 r.2.2.2.2.1 r.2.2.2.2.2.2.1 r.2.2.2.2.2.2.2.2.1 r.2.2.2.2.2.2.2.2.2.2.1 r.2.2.2.2.2.2.2.2.2.2.2.2.1 r.2.2.2.2.2.2.2.2.2.2.2.2.2.2.1 r.2.2.2.2.2.2.2.2.2.2.2.2.2.2.2.2.1 s.2.1 s.2.2.1 s.2.2.2.2.2.2.2.2.1 s.2.2.2.2.2.2.2.2.2.1 s.2.2.2.2.2.2.2.2.2.2.1 s.2.2.2.2.2.2.2.2.2.2.2.1 s.2.2.2.2.2.2.2.2.2.2.2.2.1 s.2.2.2.2.2.2.2.2.2.2.2.2.2.1) ∧ BD s.2.2.2.2.2.2.2.2.2.1 s.2.2.2.2.2.2.2.2.2.2.1 s.2.2.1) (f_X4_guild size year kz kinds gz figures sz styles fz fames wz writing oz order ez enders t0 t1 z1 a1 z2 a2 z3 a3 z4 a4 z5 a5 z6 a6 z7 a7 ls lt) (f_X5_guild mw my tz at0 st0 ik cu kind figure style fame silent ring tp le la td kept) := by
  obtain ⟨k, L, hX, rfl, rfl⟩ := hL.tx
  have hk := hX.1
  obtain ⟨w, gd_, a_, st, le', la', td', c4, c5, hcase⟩ := phase1 hX (fun v1 a st le la td => f_X5_guild_60 v1 mw my (nI k) a st ik cu kind figure style fame silent ring le la td kept) k 0 FU FU le la td (by rw [posL]; omega) (by omega) (FU_gt (by omega)) (FU_gt (by omega)) (fun j hj => by omega)
  have c4' : f_X1_wrongPlace (nI k) lt = some w := c4
  have c5' : f_X5_guild mw my (nI k) at0 st0 ik cu kind figure style fame silent ring tp le la td kept = f_X5_guild_60 gd_ mw my (nI k) a_ st ik cu kind figure style fame silent ring le' la' td' kept := c5
  rw [c5']
  unfold f_X4_guild f_X5_guild_60
  rw [c4']
  simp (decide := true) (implicitDefEqProofs := false) only [Option.bind_some, if_true, if_false]
  rcases hcase with ⟨e, he, rfl, rfl, rfl⟩ | ⟨rfl, rfl, N0, hN1, hN32, rfl, hend, hRD⟩
  · rw [if_neg (nI_pos (by omega))]
    unfold f_X4_guild_24 f_X3_makeEmpty
    simp (decide := true) (implicitDefEqProofs := false) only [Option.bind_some, if_true, if_false]
    exact ⟨_, _, rfl, rfl, rfl, rfl, rfl, fun _ _ => rfl, ⟨n, hG⟩, hB⟩
  · simp (decide := true) (implicitDefEqProofs := false) only [Option.bind_some, if_true, if_false]
    obtain ⟨K, q1, q2, q3⟩ := x5_keepAll (w := mw) (y := my) (ik := ik) (cu := cu) (kind := kind) (figure := figure) (style := style) (fame := fame) (silent := silent) (ring := ring) (kept := kept) (b := 1) (by omega)
    have q1' : f_X5_passesAll mw my ik cu kind figure style fame silent ring kept 1 1 = some (mw, my, 1, nI 88, kind, figure, style, fame, silent, ring, K) := q1
    rw [q1']
    unfold f_X4_allStatementsCome
    rw [x0_take]
    simp (decide := true) (implicitDefEqProofs := false) only [Option.bind_some, if_true, if_false]
    have hsz := hG.2.1
    have hkeep : ∀ j, j < 44 → K j = kept j := fun j hj => q3 j (Or.inl (by omega))
    subst hsz
    refine simL (fun fuel v (a : Int32 × Int32 × Int32 × (Nat → Int32) × (Nat → Int32) × (Nat → Int32) × (Nat → Int32) × (Nat → Int32) × (Nat → Int32) × (Nat → Int32)) => (f_X4_allStatementsCome_15 (nI k) lt (nI n) year kz kinds gz figures sz styles fz fames wz writing oz order ez enders kz gz sz fz wz oz ez (fun v2 t0 t1 a1 a2 a3 a4 a5 a6 a7 => f_X4_allStatementsCome_74 v2 (nI n) year kz kinds gz figures sz styles fz fames wz writing oz order ez enders t0 t1 kz a1 gz a2 sz a3 fz a4 wz a5 oz a6 ez a7) fuel a.1 v a.2.1 a.2.2.1 a.2.2.2.1 a.2.2.2.2.1 a.2.2.2.2.2.1 a.2.2.2.2.2.2.1 a.2.2.2.2.2.2.2.1 a.2.2.2.2.2.2.2.2.1 a.2.2.2.2.2.2.2.2.2).bind (fun r21 => f_X4_guild_24 r21.2.1 r21.2.2.1 r21.2.2.2.1 r21.2.2.2.2.1 r21.2.2.2.2.2.1 r21.2.2.2.2.2.2.1 r21.2.2.2.2.2.2.2.1 r21.2.2.2.2.2.2.2.2.1 r21.2.2.2.2.2.2.2.2.2.1 r21.2.2.2.2.2.2.2.2.2.2.1 r21.2.2.2.2.2.2.2.2.2.2.2.1 r21.2.2.2.2.2.2.2.2.2.2.2.2.1 r21.2.2.2.2.2.2.2.2.2.2.2.2.2.1 r21.2.2.2.2.2.2.2.2.2.2.2.2.2.2.1 r21.2.2.2.2.2.2.2.2.2.2.2.2.2.2.2.1 r21.2.2.2.2.2.2.2.2.2.2.2.2.2.2.2.2.1 r21.2.2.2.2.2.2.2.2.2.2.2.2.2.2.2.2.2.1 r21.2.2.2.2.2.2.2.2.2.2.2.2.2.2.2.2.2.2.1 r21.2.2.2.2.2.2.2.2.2.2.2.2.2.2.2.2.2.2.2.1 r21.2.2.2.2.2.2.2.2.2.2.2.2.2.2.2.2.2.2.2.2.1 r21.2.2.2.2.2.2.2.2.2.2.2.2.2.2.2.2.2.2.2.2.2.1 r21.2.2.2.2.2.2.2.2.2.2.2.2.2.2.2.2.2.2.2.2.2.2.1 r21.2.2.2.2.2.2.2.2.2.2.2.2.2.2.2.2.2.2.2.2.2.2.2.1 r21.2.2.2.2.2.2.2.2.2.2.2.2.2.2.2.2.2.2.2.2.2.2.2.2.1 r21.2.2.2.2.2.2.2.2.2.2.2.2.2.2.2.2.2.2.2.2.2.2.2.2.2.1 r21.2.2.2.2.2.2.2.2.2.2.2.2.2.2.2.2.2.2.2.2.2.2.2.2.2.2.1 r21.2.2.2.2.2.2.2.2.2.2.2.2.2.2.2.2.2.2.2.2.2.2.2.2.2.2.2.1 r21.2.2.2.2.2.2.2.2.2.2.2.2.2.2.2.2.2.2.2.2.2.2.2.2.2.2.2.2.1 r21.2.2.2.2.2.2.2.2.2.2.2.2.2.2.2.2.2.2.2.2.2.2.2.2.2.2.2.2.2.1 r21.2.2.2.2.2.2.2.2.2.2.2.2.2.2.2.2.2.2.2.2.2.2.2.2.2.2.2.2.2.2.1 r21.2.2.2.2.2.2.2.2.2.2.2.2.2.2.2.2.2.2.2.2.2.2.2.2.2.2.2.2.2.2.2.1 r21.2.2.2.2.2.2.2.2.2.2.2.2.2.2.2.2.2.2.2.2.2.2.2.2.2.2.2.2.2.2.2.2 (nI k) r21.1)) (fun fuel v (b : Int32 × Int32 × (Nat → Int32) × (Nat → Int32) × (Nat → Int32) × (Nat → Int32) × (Nat → Int32) × (Nat → Int32)) => f_X5_guild_86 (nI N0) le' td' (fun w0 y0 k0 f0 s0 m0 q0 p0 => f_X5_guild_128 w0 y0 0 a_ (nI N0) 1 (nI 88) k0 f0 s0 m0 q0 p0 le' la' td' K) (fun v2 w0 y0 k0 f0 s0 m0 q0 p0 => f_X5_guild_105 v2 w0 y0 0 a_ (nI N0) 1 (nI 88) k0 f0 s0 m0 q0 p0 le' la' td' K) fuel v b.1 b.2.1 b.2.2.1 b.2.2.2.1 b.2.2.2.2.1 b.2.2.2.2.2.1 b.2.2.2.2.2.2.1 b.2.2.2.2.2.2.2) N0 (fun i a b => a.1 = nI (posL L i) ∧ (∃ n', GR n' a.2.1 a.2.2.1 a.2.2.2.1 a.2.2.2.2.1 a.2.2.2.2.2.1 a.2.2.2.2.2.2.1 a.2.2.2.2.2.2.2.1 a.2.2.2.2.2.2.2.2.1 a.2.2.2.2.2.2.2.2.2 b.1 b.2.1 b.2.2.1 b.2.2.2.1 b.2.2.2.2.1 b.2.2.2.2.2.1 b.2.2.2.2.2.2.1 b.2.2.2.2.2.2.2) ∧ BD b.2.2.2.1 b.2.2.2.2.1 b.2.1) _ (fun f4 f5 a b hP => ?_) (fun f4 f5 i a b hf4 hf5 hi hP ih => ?_) N0 0 FU FU (0, nI n, year, kinds, figures, styles, fames, writing, order, enders) (mw, my, kind, figure, style, fame, silent, ring) (by omega) (FU_gt (by omega)) (FU_gt (by omega)) ⟨rfl, ⟨n, hG⟩, hB⟩
    · obtain ⟨pl, b0, b1, b2, b3, b4, b5, b6, b7, b8⟩ := a
      obtain ⟨c0, c1, c2, c3, c4, c5, c6, c7⟩ := b
      obtain ⟨hpl, hGR, hBD⟩ := hP
      dsimp only at hpl hGR hBD ⊢
      subst hpl
      rw [e_X4_allStatementsCome_15, e_X5_guild_86, if_neg (show ¬ (96 : Int32) ≤ nI N0 from nI_ge (b := 96) (by omega) (by omega)), if_pos (show nI k ≤ nI (posL L N0) from nI_le hend (posL_lt hRD hN1 hk)), if_pos (nI_le (Nat.le_refl _) (by omega))]
      unfold f_X4_allStatementsCome_74 f_X5_guild_128
      rw [x0_take]
      simp (decide := true) (implicitDefEqProofs := false) only [Option.bind_some, if_true, if_false]
      unfold f_X4_guild_24 f_X3_makeEmpty
      simp (decide := true) (implicitDefEqProofs := false) only [Option.bind_some, if_true, if_false]
      exact ⟨_, _, rfl, rfl, rfl, rfl, rfl, hkeep, hGR, hBD⟩
    · obtain ⟨pl, b0, b1, b2, b3, b4, b5, b6, b7, b8⟩ := a
      obtain ⟨c0, c1, c2, c3, c4, c5, c6, c7⟩ := b
      obtain ⟨hpl, ⟨n', hGR⟩, hBD⟩ := hP
      dsimp only at hpl hGR hBD ⊢
      subst hpl
      obtain ⟨r1, r2, r3, r4, r5⟩ := hRD i hi
      obtain ⟨hl1, hl2⟩ := r2.len
      rw [e_X4_allStatementsCome_15, e_X5_guild_86, if_neg (show ¬ (96 : Int32) ≤ nI i from nI_ge (b := 96) (by omega) (by omega)), if_neg (nI_ge r1 (by omega)), if_neg (nI_ge hi (by omega))]
      rcases cm_all hX hGR hBD r1 r2 (show i < 48 by omega) r3 r5 with ⟨u1, s, u2, u3⟩ | ⟨v, u1, u0, r, s, u2, u3, u4, u5, u6⟩
      · rw [u1, u2]
        simp (decide := true) (implicitDefEqProofs := false) only [Option.bind_some, if_true, if_false]
        unfold f_X4_guild_24 f_X3_makeEmpty
        simp (decide := true) (implicitDefEqProofs := false) only [Option.bind_some, if_true, if_false]
        rw [if_pos u3]
        unfold f_X5_guild_105
        obtain ⟨k1, f1, s1, m1, i1, g1, z1, z2⟩ := x5_backAll (w0 := s.2.1) (y0 := s.2.2.1) (ik := 1) (cu := nI 88) (k0 := s.2.2.2.1) (f0 := s.2.2.2.2.1) (s0 := s.2.2.2.2.2.1) (m0 := s.2.2.2.2.2.2.1) (i0 := s.2.2.2.2.2.2.2.1) (r0 := s.2.2.2.2.2.2.2.2) (b := 1) (by omega) q2
        have z1' : f_X5_passesAll s.2.1 s.2.2.1 1 (nI 88) s.2.2.2.1 s.2.2.2.2.1 s.2.2.2.2.2.1 s.2.2.2.2.2.2.1 s.2.2.2.2.2.2.2.1 s.2.2.2.2.2.2.2.2 K 1 0 = some (mw, my, 0, nI 88, k1, f1, s1, m1, i1, g1, K) := z1
        rw [z1']
        simp (decide := true) (implicitDefEqProofs := false) only [Option.bind_some, if_true, if_false]
        rw [gdI (by omega) (by omega), nI_clamp (by omega), r4]
        refine ⟨_, _, rfl, rfl, rfl, rfl, rfl, hkeep, ⟨n, hG.back z2⟩, hB.back (fun j hj => (z2 j hj).2.1) (fun j hj => (z2 j hj).2.2.1)⟩
      · obtain ⟨sh, y1, y2⟩ := sh_ln hX r1 r2
        rw [u1, u3]
        simp (decide := true) (implicitDefEqProofs := false) only [Option.bind_some, if_true, if_false]
        rw [if_neg u0, if_neg u4, u2]
        simp (decide := true) (implicitDefEqProofs := false) only [Option.bind_some, if_true, if_false]
        rw [y1]
        simp (decide := true) (implicitDefEqProofs := false) only [Option.bind_some, if_true, if_false]
        rw [y2]
        simp (decide := true) (implicitDefEqProofs := false) only [Option.bind_some, if_true, if_false]
        exact ih (_, r.1, r.2.1, r.2.2.1, r.2.2.2.1, r.2.2.2.2.1, r.2.2.2.2.2.1, r.2.2.2.2.2.2.1, r.2.2.2.2.2.2.2.1, r.2.2.2.2.2.2.2.2) (s.2.1, s.2.2.1, s.2.2.2.1, s.2.2.2.2.1, s.2.2.2.2.2.1, s.2.2.2.2.2.2.1, s.2.2.2.2.2.2.2.1, s.2.2.2.2.2.2.2.2) ⟨by dsimp only; rw [posL, nI_addn], u5, u6⟩
end KV
