/-! PURE: the reference's keeping and putting back. -/
theorem keep_loop {a : Nat → Int32} {c : Nat} (hc : c + 7 ≤ 132) : ∀ (d i fuel : Nat) (kept : Nat → Int32), i + d = 7 → d < fuel → ∃ K, f_X5_passes_2 7 1 fuel (nI i) (nI (c + i)) kept a = some (nI (c + 7), K, a) ∧ ∀ j, K j = if c + i ≤ j ∧ j < c + 7 then a (j - c) else kept j := by
  intro d
  induction d with
  | zero =>
    intro i fuel kept hi hf
    obtain ⟨fuel, rfl⟩ : ∃ f2, fuel = f2 + 1 := ⟨fuel - 1, by omega⟩
    obtain rfl : i = 7 := by omega
    refine ⟨kept, ?_, fun j => ?_⟩
    · rw [e_X5_passes_2, if_pos (nI_le (Nat.le_refl _) (by omega))]
    · rw [if_neg (by omega)]
  | succ d ih =>
    intro i fuel kept hi hf
    obtain ⟨fuel, rfl⟩ : ∃ f2, fuel = f2 + 1 := ⟨fuel - 1, by omega⟩
    obtain ⟨K, h1, h2⟩ := ih (i + 1) fuel (upd kept (c + i) (a i)) (by omega) (by omega)
    refine ⟨K, ?_, fun j => ?_⟩
    · rw [e_X5_passes_2, if_neg (nI_ge (by omega) (by omega)), if_neg (by decide), gdI (by omega) (by omega), gdI (by omega) (by omega), nI_clamp (by omega), nI_clamp (by omega)]
      unfold f_X5_passes_42
      rw [← nI_succ, ← nI_succ]
      exact h1
    · rw [h2 j]
      by_cases e : j = c + i
      · subst e
        rw [if_neg (by omega), if_pos (by omega), upd_at, Nat.add_sub_cancel_left]
      · rw [upd_ne e]
        by_cases e2 : c + (i + 1) ≤ j ∧ j < c + 7
        · rw [if_pos e2, if_pos (by omega)]
        · rw [if_neg e2, if_neg (by omega)]
theorem x5_keep {a kept : Nat → Int32} {c : Nat} (hc : c + 7 ≤ 132) : ∃ K, f_X5_passes 7 1 (nI c) kept a = some (nI (c + 7), K, a) ∧ ∀ j, K j = if c ≤ j ∧ j < c + 7 then a (j - c) else kept j := by
  unfold f_X5_passes
  exact keep_loop hc 7 0 FU kept (by omega) (FU_gt (by omega))
theorem back_loop {kept : Nat → Int32} {c : Nat} (hc : c + 7 ≤ 132) : ∀ (d i fuel : Nat) (a : Nat → Int32), i + d = 7 → d < fuel → ∃ B, f_X5_passes_2 7 0 fuel (nI i) (nI (c + i)) kept a = some (nI (c + 7), kept, B) ∧ ∀ j, B j = if i ≤ j ∧ j < 7 then kept (c + j) else a j := by
  intro d
  induction d with
  | zero =>
    intro i fuel a hi hf
    obtain ⟨fuel, rfl⟩ : ∃ f2, fuel = f2 + 1 := ⟨fuel - 1, by omega⟩
    obtain rfl : i = 7 := by omega
    refine ⟨a, ?_, fun j => ?_⟩
    · rw [e_X5_passes_2, if_pos (nI_le (Nat.le_refl _) (by omega))]
    · rw [if_neg (by omega)]
  | succ d ih =>
    intro i fuel a hi hf
    obtain ⟨fuel, rfl⟩ : ∃ f2, fuel = f2 + 1 := ⟨fuel - 1, by omega⟩
    obtain ⟨B, h1, h2⟩ := ih (i + 1) fuel (upd a i (kept (c + i))) (by omega) (by omega)
    refine ⟨B, ?_, fun j => ?_⟩
    · rw [e_X5_passes_2, if_neg (nI_ge (by omega) (by omega)), if_pos rfl, gdI (by omega) (by omega), gdI (by omega) (by omega), nI_clamp (by omega), nI_clamp (by omega)]
      unfold f_X5_passes_42
      rw [← nI_succ, ← nI_succ]
      exact h1
    · rw [h2 j]
      by_cases e : j = i
      · subst e
        rw [if_neg (by omega), if_pos (by omega), upd_at]
      · rw [upd_ne e]
        by_cases e2 : i + 1 ≤ j ∧ j < 7
        · rw [if_pos e2, if_pos (by omega)]
        · rw [if_neg e2, if_neg (by omega)]
theorem x5_back {a kept : Nat → Int32} {c : Nat} (hc : c + 7 ≤ 132) : ∃ B, f_X5_passes 7 0 (nI c) kept a = some (nI (c + 7), kept, B) ∧ ∀ j, j < 7 → B j = kept (c + j) := by
  unfold f_X5_passes
  obtain ⟨B, h1, h2⟩ := back_loop (kept := kept) hc 7 0 FU a (by omega) (FU_gt (by omega))
  exact ⟨B, h1, fun j hj => by rw [h2 j, if_pos (by omega)]⟩
theorem x5_one1 {kept : Nat → Int32} {c : Nat} {x : Int32} (hc : c < 132) : f_X5_passOne 1 (nI c) kept x = some (x, nI (c + 1), upd kept c x) := by
  unfold f_X5_passOne f_X5_passOne_20 f_X5_passOne_38
  rw [if_neg (by decide), if_neg (by decide), gdI hc (by omega), nI_clamp (by omega), ← nI_succ]
theorem x5_one0 {kept : Nat → Int32} {c : Nat} {x : Int32} (hc : c < 132) : f_X5_passOne 0 (nI c) kept x = some (kept c, nI (c + 1), kept) := by
  unfold f_X5_passOne f_X5_passOne_20 f_X5_passOne_38
  rw [if_pos rfl, if_pos rfl, gdI hc (by omega), nI_clamp (by omega), ← nI_succ]
/-- in the 44 cells from c on lie the guild's rows and numbers -/
def PKd (c : Nat) (K kind figure style fame silent ring : Nat → Int32) (w y : Int32) : Prop := (∀ j, j < 7 → K (c + j) = kind j ∧ K (c + 7 + j) = figure j ∧ K (c + 14 + j) = style j ∧ K (c + 21 + j) = fame j ∧ K (c + 28 + j) = silent j ∧ K (c + 35 + j) = ring j) ∧ K (c + 42) = w ∧ K (c + 43) = y
theorem e44 {b : Nat} (hb : b < 3) : (44 : Int32) * nI b = nI (44 * b) := by
  rcases (show b = 0 ∨ b = 1 ∨ b = 2 by omega) with rfl | rfl | rfl <;> decide
theorem x5_keepAll {w y ik cu : Int32} {kind figure style fame silent ring kept : Nat → Int32} {b : Nat} (hb : b < 3) : ∃ K, f_X5_passesAll w y ik cu kind figure style fame silent ring kept (nI b) 1 = some (w, y, 1, nI (44 * b + 44), kind, figure, style, fame, silent, ring, K) ∧ PKd (44 * b) K kind figure style fame silent ring w y ∧ ∀ j, j < 44 * b ∨ 44 * b + 44 ≤ j → K j = kept j := by
  unfold f_X5_passesAll gb
  rw [if_pos (Or.inr rfl), e44 hb]
  generalize hc : 44 * b = c
  have hc2 : c + 44 ≤ 132 := by omega
  obtain ⟨K1, h1, p1⟩ := x5_keep (a := kind) (kept := kept) (c := c) (by omega)
  obtain ⟨K2, h2, p2⟩ := x5_keep (a := figure) (kept := K1) (c := c + 7) (by omega)
  obtain ⟨K3, h3, p3⟩ := x5_keep (a := style) (kept := K2) (c := c + 7 + 7) (by omega)
  obtain ⟨K4, h4, p4⟩ := x5_keep (a := fame) (kept := K3) (c := c + 7 + 7 + 7) (by omega)
  obtain ⟨K5, h5, p5⟩ := x5_keep (a := silent) (kept := K4) (c := c + 7 + 7 + 7 + 7) (by omega)
  obtain ⟨K6, h6, p6⟩ := x5_keep (a := ring) (kept := K5) (c := c + 7 + 7 + 7 + 7 + 7) (by omega)
  rw [h1]; simp only [Option.bind_some]
  rw [h2]; simp only [Option.bind_some]
  rw [h3]; simp only [Option.bind_some]
  rw [h4]; simp only [Option.bind_some]
  rw [h5]; simp only [Option.bind_some]
  rw [h6]; simp only [Option.bind_some]
  rw [x5_one1 (by omega)]; simp only [Option.bind_some]
  rw [x5_one1 (by omega)]; simp only [Option.bind_some]
  refine ⟨_, rfl, ⟨fun j hj => ⟨?_, ?_, ?_, ?_, ?_, ?_⟩, ?_, ?_⟩, fun j hj => ?_⟩
  all_goals simp only [upd, p6, p5, p4, p3, p2, p1]
  · rw [if_neg (by omega), if_neg (by omega), if_neg (by omega), if_neg (by omega), if_neg (by omega), if_neg (by omega), if_neg (by omega), if_pos (by omega)]; congr 1; omega
  · rw [if_neg (by omega), if_neg (by omega), if_neg (by omega), if_neg (by omega), if_neg (by omega), if_neg (by omega), if_pos (by omega)]; congr 1; omega
  · rw [if_neg (by omega), if_neg (by omega), if_neg (by omega), if_neg (by omega), if_neg (by omega), if_pos (by omega)]; congr 1; omega
  · rw [if_neg (by omega), if_neg (by omega), if_neg (by omega), if_neg (by omega), if_pos (by omega)]; congr 1; omega
  · rw [if_neg (by omega), if_neg (by omega), if_neg (by omega), if_pos (by omega)]; congr 1; omega
  · rw [if_neg (by omega), if_neg (by omega), if_pos (by omega)]; congr 1; omega
  · rw [if_neg (by omega)]
    simp
  · simp
  · rw [if_neg (by omega), if_neg (by omega), if_neg (by omega), if_neg (by omega), if_neg (by omega), if_neg (by omega), if_neg (by omega), if_neg (by omega)]
theorem x5_backAll {w y w0 y0 ik cu : Int32} {kind figure style fame silent ring kept k0 f0 s0 m0 i0 r0 : Nat → Int32} {b : Nat} (hb : b < 3) (hK : PKd (44 * b) kept kind figure style fame silent ring w y) : ∃ k1 f1 s1 m1 i1 r1, f_X5_passesAll w0 y0 ik cu k0 f0 s0 m0 i0 r0 kept (nI b) 0 = some (w, y, 0, nI (44 * b + 44), k1, f1, s1, m1, i1, r1, kept) ∧ ∀ j, j < 7 → k1 j = kind j ∧ f1 j = figure j ∧ s1 j = style j ∧ m1 j = fame j ∧ i1 j = silent j ∧ r1 j = ring j := by
  unfold f_X5_passesAll gb
  rw [if_pos (Or.inl rfl), e44 hb]
  generalize hc : 44 * b = c at hK
  have hc2 : c + 44 ≤ 132 := by omega
  obtain ⟨hK1, hK2, hK3⟩ := hK
  obtain ⟨k1, h1, p1⟩ := x5_back (a := k0) (kept := kept) (c := c) (by omega)
  obtain ⟨f1, h2, p2⟩ := x5_back (a := f0) (kept := kept) (c := c + 7) (by omega)
  obtain ⟨s1, h3, p3⟩ := x5_back (a := s0) (kept := kept) (c := c + 7 + 7) (by omega)
  obtain ⟨m1, h4, p4⟩ := x5_back (a := m0) (kept := kept) (c := c + 7 + 7 + 7) (by omega)
  obtain ⟨i1, h5, p5⟩ := x5_back (a := i0) (kept := kept) (c := c + 7 + 7 + 7 + 7) (by omega)
  obtain ⟨r1, h6, p6⟩ := x5_back (a := r0) (kept := kept) (c := c + 7 + 7 + 7 + 7 + 7) (by omega)
  rw [h1]; simp only [Option.bind_some]
  rw [h2]; simp only [Option.bind_some]
  rw [h3]; simp only [Option.bind_some]
  rw [h4]; simp only [Option.bind_some]
  rw [h5]; simp only [Option.bind_some]
  rw [h6]; simp only [Option.bind_some]
  rw [x5_one0 (by omega)]; simp only [Option.bind_some]
  rw [x5_one0 (by omega)]; simp only [Option.bind_some]
  refine ⟨k1, f1, s1, m1, i1, r1, ?_, fun j hj => ?_⟩
  · rw [show c + 7 + 7 + 7 + 7 + 7 + 7 = c + 42 by omega, show c + 42 + 1 = c + 43 by omega, hK2, hK3]
  · obtain ⟨a1, a2, a3, a4, a5, a6⟩ := hK1 j hj
    exact ⟨(p1 j hj).trans a1, (p2 j hj).trans a2, (p3 j hj).trans a3, (p4 j hj).trans a4, (p5 j hj).trans a5, (p6 j hj).trans a6⟩
