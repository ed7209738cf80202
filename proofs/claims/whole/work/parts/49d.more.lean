/-! PURE: places, bounds. -/
theorem x0_placeLoop {n : Nat} {order ring : Nat → Int32} {x : Int32} {p : Nat} (hn : n ≤ 7) (hO : ∀ w, w < n → order w = ring w) (hp : p < n) (h1 : ring p = x) (h2 : ∀ k, k < p → ¬ ring k = x) : ∀ (d i fuel : Nat), i + d = p → d < fuel → f_X0_placeOf_2 (nI n) order x fuel (nI i) = some (nI p) := by
  intro d
  induction d with
  | zero =>
    intro i fuel hi hf
    obtain ⟨fuel, rfl⟩ : ∃ f2, fuel = f2 + 1 := ⟨fuel - 1, by omega⟩
    obtain rfl : i = p := by omega
    rw [e_X0_placeOf_2, if_neg (nI_ge hp (by omega)), g3 (by omega) (by omega), hO _ hp]
    simp only [Option.bind_some]
    rw [if_pos h1]
  | succ d ih =>
    intro i fuel hi hf
    obtain ⟨fuel, rfl⟩ : ∃ f2, fuel = f2 + 1 := ⟨fuel - 1, by omega⟩
    rw [e_X0_placeOf_2, if_neg (nI_ge (by omega) (by omega)), g3 (by omega) (by omega), hO _ (by omega)]
    simp only [Option.bind_some]
    rw [if_neg (h2 i (by omega)), ← nI_succ]
    exact ih (i + 1) fuel (by omega) (by omega)
theorem x0_placeOf {n : Nat} {order ring : Nat → Int32} (hn : n ≤ 7) (hM : PM n ring) (hO : ∀ w, w < n → order w = ring w) {w : Nat} (hw : w < n) : f_X0_placeOf (nI n) order (nI w) = some (nI (sPl n ring w)) := by
  obtain ⟨h1, h2, h3⟩ := pl_spec hM hw
  unfold f_X0_placeOf
  rw [show (0 : Int32) = nI 0 from rfl]
  exact x0_placeLoop hn hO h1 h2 h3 (sPl n ring w) 0 FU (by omega) (FU_gt (by omega))
theorem bound_cases (x m : Int32) : (f_X5_bound x 0 m = some 0 ∧ 0 ≤ x ∧ x ≤ m) ∨ f_X5_bound x 0 m = some (-6) ∨ f_X5_bound x 0 m = some (-4) := by
  unfold f_X5_bound
  by_cases h0 : 0 ≤ x
  · by_cases h1 : x ≤ m
    · exact Or.inl ⟨by rw [if_pos h0, if_pos h1], h0, h1⟩
    · exact Or.inr (Or.inl (by rw [if_pos h0, if_neg h1]))
  · exact Or.inr (Or.inr (by rw [if_neg h0]))
theorem refNum_t {n w : Nat} (hn : n ≤ 7) (hw : w < n) (x m : Int32) : f_X4_refusalOfNumber (nI n) (nI w) x m = f_X5_bound x 0 m := by
  unfold f_X4_refusalOfNumber f_X5_bound
  rw [has_t hn hw]
  simp
theorem refNum_f {n : Nat} {y : Int32} (hn : n ≤ 7) (h : ¬ ∃ w, w < n ∧ y = nI w) (x m : Int32) : f_X4_refusalOfNumber (nI n) y x m = some (-1) := by
  unfold f_X4_refusalOfNumber
  rw [has_f hn h]
  simp
theorem no1 {r : Nat → Int32} : f_X5_no r (-1) = some (-1, upd r 1 (r 1 + 1)) := x5_no 1 (by omega) (by decide)
theorem no2 {r : Nat → Int32} : f_X5_no r (-2) = some (-2, upd r 2 (r 2 + 1)) := x5_no 2 (by omega) (by decide)
theorem no3 {r : Nat → Int32} : f_X5_no r (-3) = some (-3, upd r 3 (r 3 + 1)) := x5_no 3 (by omega) (by decide)
theorem no4 {r : Nat → Int32} : f_X5_no r (-4) = some (-4, upd r 4 (r 4 + 1)) := x5_no 4 (by omega) (by decide)
theorem no6 {r : Nat → Int32} : f_X5_no r (-6) = some (-6, upd r 6 (r 6 + 1)) := x5_no 6 (by omega) (by decide)
theorem rf1 {r : Nat → Int32} : f_X4_refused r (-1) = some (-1, upd r 1 (r 1 + 1)) := x4_refused 1 (by omega) (by decide)
theorem rf2 {r : Nat → Int32} : f_X4_refused r (-2) = some (-2, upd r 2 (r 2 + 1)) := x4_refused 2 (by omega) (by decide)
theorem rf3 {r : Nat → Int32} : f_X4_refused r (-3) = some (-3, upd r 3 (r 3 + 1)) := x4_refused 3 (by omega) (by decide)
theorem rf4 {r : Nat → Int32} : f_X4_refused r (-4) = some (-4, upd r 4 (r 4 + 1)) := x4_refused 4 (by omega) (by decide)
theorem rf6 {r : Nat → Int32} : f_X4_refused r (-6) = some (-6, upd r 6 (r 6 + 1)) := x4_refused 6 (by omega) (by decide)
