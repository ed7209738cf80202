/-! Row.take between rows of one length: the cells become the other's (only those below the length stand in the world). -/
theorem gdI {α : Type} {i n : Nat} {x : Option α} (h : i < n) (hn : n < 2 ^ 31) : gd (nI i) n x = x := by
  unfold gd
  rw [if_neg (nI_in h hn)]
theorem arr_congr {cA : ClassId} {n : Nat} {f g : Nat → Int32} (h : ∀ j, j < n → f j = g j) : vp_cell cA (n, .inl f) = vp_cell cA (n, .inl g) := by
  show arrV cA n (fun j => .int (f j)) = arrV cA n (fun j => .int (g j))
  unfold arrV
  congr 1
  apply Array.ext
  · simp
  · intro i h1 h2
    simp at h1
    simp [h i h1]
theorem vP_congr {D : va_G} {cl : List vw_C} {ws : va_W} {H : Heap} {k a : Nat} {cA : ClassId} {n : Nat} {f g : Nat → Int32} (hP : va_P D cl ws H) (hk : ws[k]? = some (a, .inl (cA, n, .inl f))) (h : ∀ j, j < n → f j = g j) : va_P D cl (ws.set k (a, .inl (cA, n, .inl g))) H := by
  intro i q hq
  by_cases e : k = i
  · subst e
    rw [List.getElem?_set_self', hk] at hq
    cases hq
    have z : H[a]? = some (vp_cell cA (n, .inl f)) := hP k _ hk
    show H[a]? = some (vp_cell cA (n, .inl g))
    rw [z, arr_congr h]
  · rw [List.getElem?_set_ne e] at hq
    exact hP i q hq
theorem tk_loop {n : Nat} {a1 : Nat → Int32} {k : (Nat → Int32) → Option (Int32 × (Nat → Int32))} (hn : n ≤ 100) : ∀ (d i fuel : Nat) (cells : Nat → Int32), n = i + d → d < fuel →
    ∃ g, f_X3_takeG_2 n n a1 k fuel (nI i) cells = k g ∧ (∀ j, j < i → g j = cells j) ∧ ∀ j, i ≤ j → j < n → g j = a1 j := by
  intro d
  induction d with
  | zero =>
    intro i fuel cells hi hf
    obtain ⟨fuel, rfl⟩ : ∃ f2, fuel = f2 + 1 := ⟨fuel - 1, by omega⟩
    refine ⟨cells, ?_, fun _ _ => rfl, fun j h1 h2 => by omega⟩
    rw [e_X3_takeG_2, if_pos (nI_le (by omega) (by omega))]
  | succ d ih =>
    intro i fuel cells hi hf
    obtain ⟨fuel, rfl⟩ : ∃ f2, fuel = f2 + 1 := ⟨fuel - 1, by omega⟩
    obtain ⟨g, h1, h2, h3⟩ := ih (i + 1) fuel (upd cells i (a1 i)) (by omega) (by omega)
    refine ⟨g, ?_, fun j hj => ?_, fun j hj hj2 => ?_⟩
    · rw [e_X3_takeG_2, if_neg (nI_ge (by omega) (by omega)), if_neg (nI_ge (by omega) (by omega)), gdI (by omega) (by omega), gdI (by omega) (by omega), nI_clamp (by omega), ← nI_succ, h1]
    · rw [h2 j (by omega)]
      simp [upd, show ¬ j = i by omega]
    · by_cases e : j = i
      · subst e
        rw [h2 j (by omega)]
        simp [upd]
      · exact h3 j (by omega) hj2
def f_X3_take (n : Nat) (n_a1 : Nat) (_ : Int32) (_ : (Nat → Int32)) (a1_size : Int32) (a1 : (Nat → Int32)) : Option (Int32 × (Nat → Int32)) := if n = n_a1 ∧ n ≤ 100 then some (a1_size, a1) else none
theorem c_X3_take (l : Launch) (D : va_G) (cI : ClassId) (aS : aSt) (ad : Nat → Nat) (da1 : Nat → Nat) (n : Nat) (n_a1 : Nat) (size : Int32) (cells : (Nat → Int32)) (a1_size : Int32) (a1 : (Nat → Int32)) (R : Int32 × (Nat → Int32)) (hf : f_X3_take n n_a1 size cells a1_size a1 = some R) : CtV l yX3_take cX3_take 3 none 0 D cI aS [.ref (ad 0), .ref (da1 0)] (wd_X3_take cI ad da1 n n_a1 size cells a1_size a1) (wd_X3_take cI ad da1 n n_a1 R.1 R.2 a1_size a1) := by
  unfold f_X3_take at hf
  split at hf
  case isFalse => cases hf
  case isTrue hc =>
    obtain ⟨rfl, hn⟩ := hc
    cases hf
    obtain ⟨g, h1, -, h3⟩ := tk_loop (a1 := a1) (k := fun (cells_38 : (Nat → Int32)) => (f_X3_takeG_38 a1_size size cells_38)) hn n 0 FU cells (by omega) (by unfold FU; omega)
    have hG : f_X3_takeG n n size cells a1_size a1 = some (a1_size, g) := h1
    intro sz
    refine MetFree.mono (c_X3_takeG l D cI aS ad da1 n n size cells a1_size a1 _ hG sz) (fun _ _ h => h) (fun _ _ _ _ _ h => h) (fun a st o t _ h => ⟨?_, h.2⟩)
    obtain ⟨⟨⟨u, h1, h2, hP, hD⟩, hF⟩, -⟩ := h
    have hP2 : va_P D vwCl (wd_X3_take cI ad da1 n n a1_size a1 a1_size a1) t.heap := vP_congr (k := 1) (f := g) (g := a1) hP rfl (fun j hj => h3 j (Nat.zero_le _) hj)
    have hD2 : va_D (va_A (wd_X3_take cI ad da1 n n size cells a1_size a1) sz) (wd_X3_take cI ad da1 n n a1_size a1 a1_size a1) := wD_congr (ws := wd_X3_take cI ad da1 n n a1_size g a1_size a1) rfl hD
    exact ⟨⟨u, h1, h2, hP2, hD2⟩, hF⟩
