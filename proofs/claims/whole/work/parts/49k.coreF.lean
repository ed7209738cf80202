/-! PURE: one brought behind another; two who bribe or not. -/
section KF
variable {n : Nat} {size year : Int32} {kinds figures styles fames writing order enders : Nat → Int32} {mw my : Int32} {kind figure style fame silent ring r4 r5 : Nat → Int32}
variable {kz gz sz fz wz oz ez t0 t1 z1 z2 z3 z4 z5 z6 z7 ik cu : Int32} {a1 a2 a3 a4 a5 a6 a7 kept : Nat → Int32}
theorem x0_shl {n : Nat} (hn : n ≤ 7) (K : (Nat → Int32) → Option ((Nat → Int32) × (Nat → Int32))) : ∀ (d i fuel : Nat) (O : Nat → Int32), i + d + 1 = n → d < fuel → ∃ O', f_X0_bringBehind_10 (nI n) K fuel (nI i) O = K O' ∧ ∀ k, O' k = if i ≤ k ∧ k + 1 < n then O (k + 1) else O k := by
  intro d
  induction d with
  | zero =>
    intro i fuel O hi hf
    obtain ⟨fuel, rfl⟩ : ∃ f2, fuel = f2 + 1 := ⟨fuel - 1, by omega⟩
    refine ⟨O, ?_, fun k => ?_⟩
    · rw [e_X0_bringBehind_10, ← nI_succ, if_pos (nI_le (by omega) (by omega))]
    · rw [if_neg (by omega)]
  | succ d ih =>
    intro i fuel O hi hf
    obtain ⟨fuel, rfl⟩ : ∃ f2, fuel = f2 + 1 := ⟨fuel - 1, by omega⟩
    obtain ⟨O', h1, h2⟩ := ih (i + 1) fuel (upd O i (O (i + 1))) (by omega) (by omega)
    refine ⟨O', ?_, fun k => ?_⟩
    · rw [e_X0_bringBehind_10, ← nI_succ, if_neg (nI_ge (by omega) (by omega)), g3 (by omega) (by omega)]
      simp (implicitDefEqProofs := false) only [Option.bind_some]
      rw [s3 (by omega) (by omega)]
      simp (implicitDefEqProofs := false) only [Option.bind_some]
      exact h1
    · rw [h2 k]
      by_cases e : k = i
      · subst e
        rw [if_neg (by omega), if_pos (by omega), upd_at]
      · rw [upd_ne e]
        by_cases e2 : i + 1 ≤ k ∧ k + 1 < n
        · rw [if_pos e2, if_pos (by omega), upd_ne (by omega)]
        · rw [if_neg e2, if_neg (by omega)]
theorem x5_shl {n : Nat} (hn : n ≤ 7) (K : (Nat → Int32) → Option (Nat → Int32)) : ∀ (d i fuel : Nat) (O : Nat → Int32), i + d + 1 = n → d < fuel → ∃ O', f_X5_bringsBehind_9 (nI n) K fuel (nI i) O = K O' ∧ ∀ k, O' k = if i ≤ k ∧ k + 1 < n then O (k + 1) else O k := by
  intro d
  induction d with
  | zero =>
    intro i fuel O hi hf
    obtain ⟨fuel, rfl⟩ : ∃ f2, fuel = f2 + 1 := ⟨fuel - 1, by omega⟩
    refine ⟨O, ?_, fun k => ?_⟩
    · rw [e_X5_bringsBehind_9, ← nI_succ, if_pos (nI_le (by omega) (by omega))]
    · rw [if_neg (by omega)]
  | succ d ih =>
    intro i fuel O hi hf
    obtain ⟨fuel, rfl⟩ : ∃ f2, fuel = f2 + 1 := ⟨fuel - 1, by omega⟩
    obtain ⟨O', h1, h2⟩ := ih (i + 1) fuel (upd O i (O (i + 1))) (by omega) (by omega)
    refine ⟨O', ?_, fun k => ?_⟩
    · rw [e_X5_bringsBehind_9, ← nI_succ, if_neg (nI_ge (by omega) (by omega)), gdI (by omega) (by omega), gdI (by omega) (by omega), nI_clamp (by omega), nI_clamp (by omega)]
      exact h1
    · rw [h2 k]
      by_cases e : k = i
      · subst e
        rw [if_neg (by omega), if_pos (by omega), upd_at]
      · rw [upd_ne e]
        by_cases e2 : i + 1 ≤ k ∧ k + 1 < n
        · rw [if_pos e2, if_pos (by omega), upd_ne (by omega)]
        · rw [if_neg e2, if_neg (by omega)]
theorem x0_shr (K : (Nat → Int32) → Option ((Nat → Int32) × (Nat → Int32))) {t : Nat} : ∀ (d i fuel : Nat) (O : Nat → Int32), i = t + d → i < 7 → d < fuel → ∃ O', f_X0_bringBehind_60 (nI t) K fuel (nI i) O = K O' ∧ ∀ k, O' k = if t < k ∧ k ≤ i then O (k - 1) else O k := by
  intro d
  induction d with
  | zero =>
    intro i fuel O hi h7 hf
    obtain ⟨fuel, rfl⟩ : ∃ f2, fuel = f2 + 1 := ⟨fuel - 1, by omega⟩
    refine ⟨O, ?_, fun k => ?_⟩
    · rw [e_X0_bringBehind_60, if_pos (nI_le (by omega) (by omega))]
    · rw [if_neg (by omega)]
  | succ d ih =>
    intro i fuel O hi h7 hf
    obtain ⟨fuel, rfl⟩ : ∃ f2, fuel = f2 + 1 := ⟨fuel - 1, by omega⟩
    obtain ⟨O', h1, h2⟩ := ih (i - 1) fuel (upd O i (O (i - 1))) (by omega) (by omega) (by omega)
    refine ⟨O', ?_, fun k => ?_⟩
    · rw [e_X0_bringBehind_60, if_neg (nI_ge (by omega) (by omega)), if_neg (show ¬ nI i ≤ 0 from nI_ge (a := 0) (by omega) (by omega)), nI_sub1 (by omega), nI_dec (by omega), g3 (by omega) (by omega)]
      simp (implicitDefEqProofs := false) only [Option.bind_some]
      rw [s3 (by omega) (by omega)]
      simp (implicitDefEqProofs := false) only [Option.bind_some]
      exact h1
    · rw [h2 k]
      by_cases e : k = i
      · subst e
        rw [if_neg (by omega), if_pos (by omega), upd_at]
      · rw [upd_ne e]
        by_cases e2 : t < k ∧ k ≤ i - 1
        · rw [if_pos e2, if_pos (by omega), upd_ne (by omega)]
        · rw [if_neg e2, if_neg (by omega)]
theorem x5_shr (K : (Nat → Int32) → Option (Nat → Int32)) {t : Nat} (ht : t < 7) : ∀ (d i fuel : Nat) (O : Nat → Int32), i = t + 1 + d → i < 7 → d < fuel → ∃ O', f_X5_bringsBehind_69 (nI t) K fuel (nI i) O = K O' ∧ ∀ k, O' k = if t + 1 < k ∧ k ≤ i then O (k - 1) else O k := by
  intro d
  induction d with
  | zero =>
    intro i fuel O hi h7 hf
    obtain ⟨fuel, rfl⟩ : ∃ f2, fuel = f2 + 1 := ⟨fuel - 1, by omega⟩
    refine ⟨O, ?_, fun k => ?_⟩
    · rw [e_X5_bringsBehind_69, ← nI_succ, if_pos (nI_le (by omega) (by omega))]
    · rw [if_neg (by omega)]
  | succ d ih =>
    intro i fuel O hi h7 hf
    obtain ⟨fuel, rfl⟩ : ∃ f2, fuel = f2 + 1 := ⟨fuel - 1, by omega⟩
    obtain ⟨O', h1, h2⟩ := ih (i - 1) fuel (upd O i (O (i - 1))) (by omega) (by omega) (by omega)
    refine ⟨O', ?_, fun k => ?_⟩
    · rw [e_X5_bringsBehind_69, ← nI_succ, if_neg (nI_ge (by omega) (by omega)), nI_sub1 (by omega), nI_dec (by omega), gdI (by omega) (by omega), gdI (by omega) (by omega), nI_clamp (by omega), nI_clamp (by omega)]
      exact h1
    · rw [h2 k]
      by_cases e : k = i
      · subst e
        rw [if_neg (by omega), if_pos (by omega), upd_at]
      · rw [upd_ne e]
        by_cases e2 : t + 1 < k ∧ k ≤ i - 1
        · rw [if_pos e2, if_pos (by omega), upd_ne (by omega)]
        · rw [if_neg e2, if_neg (by omega)]
/-- where a place's one stood, when he who stood at p has been brought behind the place j (of the others) -/
def sg (p j i : Nat) : Nat := if i ≤ j then (if i < p then i else i + 1) else if i = j + 1 then p else (if i - 1 < p then i - 1 else i)
theorem GR.bring (hG : GR n size year kinds figures styles fames writing order enders mw my kind figure style fame silent ring) {a b : Nat} (ha : a < n) (hb : b < n) (hab : a ≠ b) : ∃ O E R, f_X0_bringBehind size writing order enders (nI a) (nI b) = some (O, E) ∧ f_X5_bringsBehind mw ring (nI a) (nI b) = some R ∧ GR n size year kinds figures styles fames writing O E mw my kind figure style fame silent R := by
  have hn := hG.1
  have hM := hG.hM
  have hO := hG.hO
  obtain ⟨hp, hrp, hlp⟩ := pl_spec hM ha
  obtain ⟨hq, hrq, hlq⟩ := pl_spec hM hb
  have hpq := sw_pl hn hM ha hb hab
  have hx0 := x0_placeOf hn hM hO ha
  have hx5 := x5_placeOf hn hM ha
  have hinj := hM.2.2
  generalize sPl n ring a = p at *
  generalize sPl n ring b = q at *
  -- the other's place among the rest
  obtain ⟨j, hj, hjq⟩ : ∃ j, j + 1 < n ∧ (if j < p then j else j + 1) = q := by
    by_cases h : q < p
    · exact ⟨q, by omega, by rw [if_pos h]⟩
    · exact ⟨q - 1, by omega, by rw [if_neg (by omega)]; omega⟩
  have hnb : ∀ k, k < n → k ≠ q → ¬ ring k = nI b := fun k hk hkq e => hkq (hinj k q hk hq (e.trans hrq.symm))
  -- the class
  obtain ⟨S4, s1, s2⟩ := x0_shl hn (fun o => f_X0_bringBehind_44 (nI n) writing (nI a) (nI b) o enders) (n - 1 - p) p FU order (by omega) (FU_gt (by omega))
  have hS4 : ∀ k, k + 1 < n → S4 k = ring (if k < p then k else k + 1) := by
    intro k hk
    rw [s2 k]
    by_cases h : k < p
    · rw [if_neg (by omega), if_pos h, hO k (by omega)]
    · rw [if_pos (by omega), if_neg h, hO (k + 1) (by omega)]
  have hpl4 : f_X0_placeOf (nI n) S4 (nI b) = some (nI j) := by
    unfold f_X0_placeOf
    rw [show (0 : Int32) = nI 0 from rfl]
    exact x0_placeLoop hn (order := S4) (ring := S4) (fun _ _ => rfl) (show j < n by omega) (by rw [hS4 j hj, hjq]; exact hrq) (fun k hk => by
      rw [hS4 k (by omega)]
      refine hnb _ (by split <;> omega) (fun e => ?_)
      rw [← hjq] at e
      grind) j 0 FU (by omega) (FU_gt (by omega))
  obtain ⟨U4, u1, u2⟩ := x0_shr (t := j + 1) (fun o => f_X0_bringBehind_97 (nI n) writing (nI a) (nI (j + 1)) o enders) (n - 1 - (j + 1)) (n - 1) FU S4 (by omega) (by omega) (FU_gt (by omega))
  -- the reference
  obtain ⟨S5, t1, t2⟩ := x5_shl hn (fun o => f_X5_bringsBehind_42 (nI n) (nI a) (nI b) o) (n - 1 - p) p FU ring (by omega) (FU_gt (by omega))
  have hS5 : ∀ k, k + 1 < n → upd S5 (n - 1) (nI a) k = ring (if k < p then k else k + 1) := by
    intro k hk
    rw [upd_ne (by omega), t2 k]
    by_cases h : k < p
    · rw [if_neg (by omega), if_pos h]
    · rw [if_pos (by omega), if_neg h]
  have hpl5 : f_X5_placeOf (upd S5 (n - 1) (nI a)) (nI b) = some (nI j) := by
    unfold f_X5_placeOf
    rw [show (0 : Int32) = nI 0 from rfl]
    exact x5_placeLoop (show j < 7 by omega) (by rw [hS5 j hj, hjq]; exact hrq) (fun k hk => by
      rw [hS5 k (by omega)]
      refine hnb _ (by split <;> omega) (fun e => ?_)
      rw [← hjq] at e
      grind) j 0 FU (by omega) (FU_gt (by omega))
  obtain ⟨U5, v1, v2⟩ := x5_shr (t := j) (fun o => f_X5_bringsBehind_100 (nI a) (nI j) o) (by omega) (n - 1 - (j + 1)) (n - 1) FU (upd S5 (n - 1) (nI a)) (by omega) (by omega) (FU_gt (by omega))
  have hR : ∀ i, i < n → upd U5 (j + 1) (nI a) i = ring (sg p j i) := by
    intro i hi
    unfold sg
    by_cases e : i = j + 1
    · rw [e, upd_at, if_neg (by omega), if_pos rfl, hrp]
    · rw [upd_ne e, v2 i]
      by_cases h : i ≤ j
      · rw [if_neg (by omega), if_pos h, hS5 i (by omega)]
      · rw [if_pos (by omega), if_neg h, if_neg e, hS5 (i - 1) (by omega), show i - 1 + 1 = i by omega]
  have hO4 : ∀ i, i < n → upd U4 (j + 1) (nI a) i = upd U5 (j + 1) (nI a) i := by
    intro i hi
    rw [hR i hi]
    unfold sg
    by_cases e : i = j + 1
    · rw [e, upd_at, if_neg (by omega), if_pos rfl, hrp]
    · rw [upd_ne e, u2 i]
      by_cases h : i ≤ j
      · rw [if_neg (by omega), if_pos h, hS4 i (by omega)]
      · rw [if_pos (by omega), if_neg h, if_neg e, hS4 (i - 1) (by omega), show i - 1 + 1 = i by omega]
  have hPM : PM n (upd U5 (j + 1) (nI a)) := by
    refine PM_perm hM (sg p j) (fun i hi => ?_) (fun i hi => ?_) (fun i k hi hk e => ?_) hR
    · unfold sg
      grind
    · by_cases e1 : i = p
      · exact ⟨j + 1, by omega, by unfold sg; rw [if_neg (by omega), if_pos rfl, e1]⟩
      · -- his place among the rest
        by_cases e2 : i < p
        · by_cases e3 : i ≤ j
          · exact ⟨i, hi, by unfold sg; rw [if_pos e3, if_pos e2]⟩
          · exact ⟨i + 1, by omega, by unfold sg; rw [if_neg (by omega), if_neg (by omega), if_pos (by omega)]; omega⟩
        · by_cases e3 : i - 1 ≤ j
          · exact ⟨i - 1, by omega, by unfold sg; rw [if_pos e3, if_neg (by omega)]; omega⟩
          · exact ⟨i, by omega, by unfold sg; rw [if_neg (by omega), if_neg (by omega), if_neg (by omega)]⟩
    · unfold sg at e
      grind
  obtain ⟨E, g1, g2⟩ := hG.reorder hPM hO4 enders
  have hsz := hG.2.1
  have hmw := hG.2.2.1
  refine ⟨_, E, _, ?_, ?_, g2⟩
  · rw [hsz] at g1 ⊢
    unfold f_X0_bringBehind
    rw [hx0]
    simp (implicitDefEqProofs := false) only [Option.bind_some]
    rw [show maxI 0 (nI p) = nI p from by
      have : ∀ p, p < 7 → maxI 0 (nI p) = nI p := by decide
      exact this p (by omega), s1]
    unfold f_X0_bringBehind_44
    rw [hpl4]
    simp (implicitDefEqProofs := false) only [Option.bind_some]
    rw [← nI_succ, nI_sub1 (by omega), u1]
    unfold f_X0_bringBehind_97
    rw [s3 (by omega) (by omega)]
    simp (implicitDefEqProofs := false) only [Option.bind_some]
    rw [g1]
    rfl
  · rw [hmw]
    unfold f_X5_bringsBehind
    rw [hx5]
    simp (implicitDefEqProofs := false) only [Option.bind_some]
    rw [t1]
    unfold f_X5_bringsBehind_42
    rw [nI_sub1 (by omega), gdI (by omega) (by omega), nI_clamp (by omega), hpl5]
    simp (implicitDefEqProofs := false) only [Option.bind_some]
    rw [v1]
    unfold f_X5_bringsBehind_100
    rw [← nI_succ, gdI (by omega) (by omega), nI_clamp (by omega)]
end KF
