/-! PURE: years. -/
def vHold (v : Int32) : Int32 := if 0 ≤ v then (if v ≤ 99 then v else 99) else 0
theorem x5_held (v : Int32) : f_X5_held v 0 99 = some (vHold v) := by
  unfold f_X5_held vHold
  grind
theorem hold_eq (v : Int32) : maxI 0 (minI 99 v) = vHold v := by
  have a0 : (0 : Int32).toInt = 0 := by decide
  have a1 : (99 : Int32).toInt = 99 := by decide
  unfold maxI minI vHold
  simp only [Int32.lt_iff_toInt_lt, Int32.le_iff_toInt_le, a0, a1]
  by_cases h1 : v.toInt < 99
  · rw [if_pos h1]
    by_cases h2 : 0 < v.toInt
    · rw [if_pos h2, if_pos (by omega), if_pos (by omega)]
    · rw [if_neg h2]
      by_cases h3 : 0 ≤ v.toInt
      · rw [if_pos h3, if_pos (by omega)]
        apply Int32.toInt_inj.mp
        omega
      · rw [if_neg h3]
  · rw [if_neg h1, if_pos (by rw [a1]; omega), if_pos (by omega)]
    by_cases h3 : v.toInt ≤ 99
    · rw [if_pos h3]
      apply Int32.toInt_inj.mp
      omega
    · rw [if_neg h3]
def sBk (n : Nat) (kind figure style silent ring : Nat → Int32) (year : Int32) (w : Nat) (f : Nat → Int32) : Nat → Int32 := if sIs n silent ring w = true then (match sE n silent ring w with
  | some e => upd (upd f w (vHold (f w + sWE kind figure style year w e))) e (vHold (upd f w (vHold (f w + sWE kind figure style year w e)) e + vGain (kind e)))
  | none => f) else f
/-- one year: 'year' is what it is then -/
def sYr (n : Nat) (kind figure style silent ring : Nat → Int32) (year : Int32) (f : Nat → Int32) : Nat → Int32 := fr (fun w f => sBk n kind figure style silent ring year w f) n 0 f
def sYs (n : Nat) (kind figure style silent ring : Nat → Int32) : Nat → Int32 → (Nat → Int32) → Int32 × (Nat → Int32)
  | 0, y, f => (y, f)
  | k + 1, y, f => sYs n kind figure style silent ring k (y + 1) (sYr n kind figure style silent ring (y + 1) f)
section YM
variable {n : Nat} {year : Int32} {kind figure style fame silent ring : Nat → Int32}
theorem x5_goesYear (hn : n ≤ 7) (hM : PM n ring) : f_X5_goesYear (nI n) year kind figure style fame silent ring 0 = some (year + 1, sYr n kind figure style silent ring (year + 1) fame) := by
  unfold f_X5_goesYear sYr
  refine (loopN (fun fuel v a => f_X5_goesYear_12 (nI n) kind figure style silent ring 0 (year + 1) fuel v a) n (fun _ _ => True) (fun w f => sBk n kind figure style silent ring (year + 1) w f) (fun a => some (year + 1, a)) (fun fuel a _ => ?_) (fun fuel i a hi _ => ⟨?_, trivial⟩) n 0 FU fame (by omega) (FU_gt (by omega)) trivial).1
  · show f_X5_goesYear_12 _ _ _ _ _ _ _ _ (fuel + 1) (nI n) a = _
    rw [e_X5_goesYear_12, if_pos (nI_le (Nat.le_refl _) (by omega))]
  · show f_X5_goesYear_12 _ _ _ _ _ _ _ _ (fuel + 1) (nI i) a = _
    rw [e_X5_goesYear_12, if_neg (nI_ge hi (by omega)), if_pos rfl, x5_isEnded hn hM hi]
    simp only [Option.bind_some]
    unfold sBk
    cases hI : sIs n silent ring i with
    | false => simp [f_X5_goesYear_89, nI_succ]
    | true =>
      have hI2 := hI
      unfold sIs at hI2
      simp only [Bool.and_eq_true] at hI2
      obtain ⟨e, he⟩ := Option.isSome_iff_exists.mp hI2.2
      obtain ⟨h1, h2, -, -⟩ := sE_some hn hM hi he
      simp only [if_true]
      rw [if_neg (by decide), x5_enderOf hn hM hi, h1]
      simp only [Option.bind_some]
      rw [gdI (by omega) (by omega), x5_bookWorth hn hM hi]
      simp only [Option.bind_some]
      unfold sBW
      rw [he, x5_held]
      simp only [Option.bind_some]
      rw [gdI (by omega) (by omega), gdI (by omega) (by omega), x5_gains (by omega)]
      simp only [Option.bind_some]
      rw [x5_held]
      simp only [Option.bind_some]
      rw [gdI (by omega) (by omega), nI_clamp (by omega), nI_clamp (by omega)]
      simp only [f_X5_goesYear_89, nI_succ]
theorem x5_goesYear1 {x : Int32} (hx : ¬ x = 0) : f_X5_goesYear (nI n) year kind figure style fame silent ring x = some (year + 1, fame) := by
  unfold f_X5_goesYear FU
  rw [e_X5_goesYear_12, if_neg hx]
  split <;> rfl
theorem x5_goesLoop (hn : n ≤ 7) (hM : PM n ring) : ∀ (d i fuel k : Nat) (y : Int32) (f : Nat → Int32), i + d = k → k < 1000 → d < fuel → f_X5_goes_2 (nI n) kind figure style silent ring (nI k) fuel (nI i) y f = some (sYs n kind figure style silent ring d y f) := by
  intro d
  induction d with
  | zero =>
    intro i fuel k y f hi hk hf
    obtain ⟨fuel, rfl⟩ : ∃ f2, fuel = f2 + 1 := ⟨fuel - 1, by omega⟩
    rw [e_X5_goes_2, if_pos (nI_le (by omega) (by omega))]
    rfl
  | succ d ih =>
    intro i fuel k y f hi hk hf
    obtain ⟨fuel, rfl⟩ : ∃ f2, fuel = f2 + 1 := ⟨fuel - 1, by omega⟩
    rw [e_X5_goes_2, if_neg (nI_ge (by omega) (by omega)), x5_goesYear hn hM]
    simp only [Option.bind_some]
    rw [← nI_succ, ih (i + 1) fuel k _ _ (by omega) hk (by omega)]
    rfl
theorem x5_goes (hn : n ≤ 7) (hM : PM n ring) {k : Nat} (hk : k < 1000) : f_X5_goes (nI n) year kind figure style fame silent ring (nI k) = some (sYs n kind figure style silent ring k year fame) := by
  unfold f_X5_goes
  exact x5_goesLoop hn hM k 0 FU k year fame (by omega) hk (FU_gt (by omega))
end YM
theorem GR.fame {n : Nat} {size year : Int32} {kinds figures styles fames writing order enders : Nat → Int32} {mw my : Int32} {kind figure style fame silent ring : Nat → Int32} (hG : GR n size year kinds figures styles fames writing order enders mw my kind figure style fame silent ring) {F f : Nat → Int32} (y : Int32) (h : ∀ w, w < n → F w = f w) : GR n size y kinds figures styles F writing order enders mw y kind figure style f silent ring := by
  obtain ⟨h1, h2, h3, -, h5, h6⟩ := hG
  refine ⟨h1, h2, h3, rfl, h5, fun w hw => ?_⟩
  obtain ⟨a1, a2, a3, -, a5⟩ := h6 w hw
  exact ⟨a1, a2, a3, h w hw, a5⟩
section YC
variable {n : Nat} {size year : Int32} {kinds figures styles fames writing order enders : Nat → Int32} {mw my : Int32} {kind figure style fame silent ring : Nat → Int32}
theorem x0_addFame {f : Nat → Int32} {w : Nat} {x : Int32} (hw : w < 7) : f_X0_addFame f (nI w) x = some (upd f w (vHold (f w + x))) := by
  unfold f_X0_addFame
  rw [g3 hw (by omega)]
  simp only [Option.bind_some]
  rw [s3 hw (by omega), hold_eq]
  rfl
theorem x0_bookIsRead (hG : GR n size year kinds figures styles fames writing order enders mw my kind figure style fame silent ring) {w : Nat} (hw : w < n) : ∃ F, f_X0_bookIsRead year kinds figures styles fames writing enders (nI w) = some F ∧ ∀ v, v < n → F v = sBk n kind figure style silent ring my w fame v := by
  have hG2 := hG
  obtain ⟨hn, -, -, hy, hM, h⟩ := hG
  obtain ⟨-, -, -, -, hs, hwr, -, hen⟩ := h w hw
  have hfm : ∀ v, v < n → fames v = fame v := fun v hv => (h v hv).2.2.2.1
  unfold f_X0_bookIsRead sBk
  rw [g3 (by omega) (by omega), hen]
  simp only [Option.bind_some]
  rw [x0_isWriting hG2 hw]
  simp only [Option.bind_some]
  by_cases hs0 : silent w = 0
  · rw [if_pos hs0, if_neg (by decide)]
    cases he : sE n silent ring w with
    | none =>
      rw [sE_none hn hM hw he, if_pos m9_lt]
      refine ⟨fames, rfl, fun v hv => ?_⟩
      simp [sIs, he, hfm v hv]
    | some e =>
      obtain ⟨h1, h2, -, -⟩ := sE_some hn hM hw he
      rw [h1, if_neg (nI_pos (by omega)), x0_worthEndedBy hG2 hw h2]
      simp only [Option.bind_some]
      rw [x0_addFame (by omega)]
      simp only [Option.bind_some]
      rw [g3 (by omega) (by omega)]
      simp only [Option.bind_some]
      rw [x4_gainOfKind]
      simp only [Option.bind_some]
      rw [x0_addFame (by omega), (h e h2).1, hfm w hw]
      refine ⟨_, rfl, fun v hv => ?_⟩
      have hI : sIs n silent ring w = true := by simp [sIs, hs0, he]
      rw [if_pos hI]
      have hu : ∀ v, v < n → upd fames w (vHold (fame w + sWE kind figure style my w e)) v = upd fame w (vHold (fame w + sWE kind figure style my w e)) v := by
        intro v hv
        unfold upd
        split
        · rfl
        · exact hfm v hv
      rw [hu e h2]
      show upd _ e _ v = upd _ e _ v
      by_cases hve : v = e
      · subst hve; rw [upd_at, upd_at]
      · rw [upd_ne hve, upd_ne hve]; exact hu v hv
  · rw [if_neg hs0, if_pos rfl]
    refine ⟨fames, rfl, fun v hv => ?_⟩
    have hI : ¬ sIs n silent ring w = true := by simp [sIs, hs0]
    rw [if_neg hI]
    exact hfm v hv
theorem x0_yearLoop (hG : GR n size year kinds figures styles fames writing order enders mw my kind figure style fame silent ring) (y : Int32) (K : (Nat → Int32) → Option (Int32 × (Nat → Int32))) : ∀ (d i fuel : Nat) (F f : Nat → Int32), i + d = n → d < fuel → (∀ v, v < n → F v = f v) → ∃ F2, f_X0_passYears_25 (nI n) kinds figures styles writing enders y K fuel (nI i) F = K F2 ∧ ∀ v, v < n → F2 v = fr (fun w f => sBk n kind figure style silent ring y w f) d i f v := by
  have hn := hG.1
  intro d
  induction d with
  | zero =>
    intro i fuel F f hi hf hF
    obtain ⟨fuel, rfl⟩ : ∃ f2, fuel = f2 + 1 := ⟨fuel - 1, by omega⟩
    refine ⟨F, ?_, hF⟩
    rw [e_X0_passYears_25, if_pos (nI_le (by omega) (by omega))]
  | succ d ih =>
    intro i fuel F f hi hf hF
    obtain ⟨fuel, rfl⟩ : ∃ f2, fuel = f2 + 1 := ⟨fuel - 1, by omega⟩
    obtain ⟨F1, h1, h2⟩ := x0_bookIsRead (hG.fame y hF) (show i < n by omega)
    obtain ⟨F2, h3, h4⟩ := ih (i + 1) fuel F1 (sBk n kind figure style silent ring y i f) (by omega) (by omega) h2
    refine ⟨F2, ?_, h4⟩
    rw [e_X0_passYears_25, if_neg (nI_ge (by omega) (by omega)), h1]
    simp only [Option.bind_some]
    rw [← nI_succ]
    exact h3
theorem x0_yearsLoop (hG : GR n size year kinds figures styles fames writing order enders mw my kind figure style fame silent ring) {k : Nat} (hk : k ≤ 60) : ∀ (d i fuel : Nat) (y : Int32) (F f : Nat → Int32), i + d = k → d < fuel → (∀ v, v < n → F v = f v) → ∃ F2, f_X0_passYears_2 (nI n) kinds figures styles writing enders (nI k) fuel (nI i) y F = some ((sYs n kind figure style silent ring d y f).1, F2) ∧ ∀ v, v < n → F2 v = (sYs n kind figure style silent ring d y f).2 v := by
  have hn := hG.1
  intro d
  induction d with
  | zero =>
    intro i fuel y F f hi hf hF
    obtain ⟨fuel, rfl⟩ : ∃ f2, fuel = f2 + 1 := ⟨fuel - 1, by omega⟩
    refine ⟨F, ?_, hF⟩
    rw [e_X0_passYears_2, if_pos (nI_le (by omega) (by omega))]
    rfl
  | succ d ih =>
    intro i fuel y F f hi hf hF
    obtain ⟨fuel, rfl⟩ : ∃ f2, fuel = f2 + 1 := ⟨fuel - 1, by omega⟩
    obtain ⟨F1, h1, h2⟩ := x0_yearLoop hG (y + 1) (fun (fames_44 : (Nat → Int32)) => (f_X0_passYears_44 (f_X0_passYears_2 (nI n) kinds figures styles writing enders (nI k) fuel) (nI i) (y + (1 : Int32)) fames_44)) n 0 FU F f (by omega) (FU_gt (by omega)) hF
    obtain ⟨F2, h3, h4⟩ := ih (i + 1) fuel (y + 1) F1 (sYr n kind figure style silent ring (y + 1) f) (by omega) (by omega) h2
    refine ⟨F2, ?_, h4⟩
    rw [e_X0_passYears_2, if_neg (nI_ge (by omega) (by omega)), if_neg (show ¬ (60 : Int32) ≤ nI i from nI_ge (a := i) (b := 60) (by omega) (by omega)), show (0 : Int32) = nI 0 from rfl, h1]
    show f_X0_passYears_44 _ _ _ _ = _
    unfold f_X0_passYears_44
    rw [← nI_succ]
    exact h3
theorem x0_passYears (hG : GR n size year kinds figures styles fames writing order enders mw my kind figure style fame silent ring) {k : Nat} (hk : k ≤ 60) : ∃ F2, f_X0_passYears size year kinds figures styles fames writing enders (nI k) = some ((sYs n kind figure style silent ring k my fame).1, F2) ∧ ∀ v, v < n → F2 v = (sYs n kind figure style silent ring k my fame).2 v := by
  unfold f_X0_passYears
  rw [hG.2.1, hG.2.2.2.1]
  exact x0_yearsLoop hG hk k 0 FU my fames fame (by omega) (FU_gt (by omega)) (fun v hv => (hG.2.2.2.2.2 v hv).2.2.2.1)
end YC
