/-! PURE: counted loops, and what get and set of a row say. -/
def fr {α : Type} (f : Nat → α → α) : Nat → Nat → α → α
  | 0, _, a => a
  | d + 1, i, a => fr f d (i + 1) (f i a)
theorem loopN {α R : Type} (g : Nat → Int32 → α → Option R) (n : Nat) (P : Nat → α → Prop) (body : Nat → α → α) (K : α → Option R)
    (hend : ∀ fuel a, P n a → g (fuel + 1) (nI n) a = K a)
    (hstep : ∀ fuel i a, i < n → P i a → g (fuel + 1) (nI i) a = g fuel (nI (i + 1)) (body i a) ∧ P (i + 1) (body i a)) :
    ∀ (d i fuel : Nat) (a : α), i + d = n → d < fuel → P i a → g fuel (nI i) a = K (fr body d i a) ∧ P n (fr body d i a) := by
  intro d
  induction d with
  | zero =>
    intro i fuel a hi hf hP
    obtain ⟨fuel, rfl⟩ : ∃ f2, fuel = f2 + 1 := ⟨fuel - 1, by omega⟩
    obtain rfl : i = n := by omega
    exact ⟨hend fuel a hP, hP⟩
  | succ d ih =>
    intro i fuel a hi hf hP
    obtain ⟨fuel, rfl⟩ : ∃ f2, fuel = f2 + 1 := ⟨fuel - 1, by omega⟩
    obtain ⟨h1, h2⟩ := hstep fuel i a (by omega) hP
    rw [h1]
    exact ih (i + 1) fuel (body i a) (by omega) (by omega) h2
/-- a loop that may be left -/
def fx {α β : Type} (f : Nat → α → α ⊕ β) : Nat → Nat → α → α ⊕ β
  | 0, _, a => .inl a
  | d + 1, i, a => match f i a with
    | .inl b => fx f d (i + 1) b
    | .inr b => .inr b
theorem loopX {α β R : Type} (g : Nat → Int32 → α → Option R) (n : Nat) (P : Nat → α → Prop) (body : Nat → α → α ⊕ β) (K : α → Option R) (J : β → Option R)
    (hend : ∀ fuel a, P n a → g (fuel + 1) (nI n) a = K a)
    (hgo : ∀ fuel i a b, i < n → P i a → body i a = .inl b → g (fuel + 1) (nI i) a = g fuel (nI (i + 1)) b ∧ P (i + 1) b)
    (hout : ∀ fuel i a b, i < n → P i a → body i a = .inr b → g (fuel + 1) (nI i) a = J b) :
    ∀ (d i fuel : Nat) (a : α), i + d = n → d < fuel → P i a → g fuel (nI i) a = (match fx body d i a with | .inl a => K a | .inr b => J b) ∧ ∀ b, fx body d i a = .inl b → P n b := by
  intro d
  induction d with
  | zero =>
    intro i fuel a hi hf hP
    obtain ⟨fuel, rfl⟩ : ∃ f2, fuel = f2 + 1 := ⟨fuel - 1, by omega⟩
    obtain rfl : i = n := by omega
    exact ⟨hend fuel a hP, fun b e => by cases e; exact hP⟩
  | succ d ih =>
    intro i fuel a hi hf hP
    obtain ⟨fuel, rfl⟩ : ∃ f2, fuel = f2 + 1 := ⟨fuel - 1, by omega⟩
    cases hb : body i a with
    | inl b =>
      obtain ⟨h1, h2⟩ := hgo fuel i a b (by omega) hP hb
      rw [h1]
      simp only [fx, hb]
      exact ih (i + 1) fuel b (by omega) (by omega) h2
    | inr b =>
      simp only [fx, hb]
      exact ⟨hout fuel i a b (by omega) hP hb, fun c e => by cases e⟩
/-- the first place with p -/
def ff (p : Nat → Bool) : Nat → Nat → Option Nat
  | 0, _ => none
  | d + 1, i => if p i = true then some i else ff p d (i + 1)
theorem ff_some {p : Nat → Bool} : ∀ {d i j : Nat}, ff p d i = some j → i ≤ j ∧ j < i + d ∧ p j = true ∧ ∀ k, i ≤ k → k < j → p k = false := by
  intro d
  induction d with
  | zero => intro i j h; cases h
  | succ d ih =>
    intro i j h
    rw [ff] at h
    split at h
    · cases h
      exact ⟨Nat.le_refl _, by omega, by assumption, fun k h1 h2 => by omega⟩
    · rename_i hp
      obtain ⟨h1, h2, h3, h4⟩ := ih h
      refine ⟨by omega, by omega, h3, fun k a b => ?_⟩
      by_cases e : k = i
      · subst e; exact Bool.eq_false_iff.mpr hp
      · exact h4 k (by omega) b
theorem ff_none {p : Nat → Bool} : ∀ {d i : Nat}, ff p d i = none → ∀ k, i ≤ k → k < i + d → p k = false := by
  intro d
  induction d with
  | zero => intro i _ k h1 h2; omega
  | succ d ih =>
    intro i h k h1 h2
    rw [ff] at h
    split at h
    · cases h
    · rename_i hp
      by_cases e : k = i
      · subst e; exact Bool.eq_false_iff.mpr hp
      · exact ih h k (by omega) (by omega)
theorem ff_eq {p : Nat → Bool} : ∀ {d i j : Nat}, i ≤ j → j < i + d → p j = true → (∀ k, i ≤ k → k < j → p k = false) → ff p d i = some j := by
  intro d
  induction d with
  | zero => intro i j h1 h2; omega
  | succ d ih =>
    intro i j h1 h2 h3 h4
    rw [ff]
    by_cases e : i = j
    · subst e; rw [if_pos h3]
    · rw [if_neg (by rw [h4 i (Nat.le_refl _) (by omega)]; decide)]
      exact ih (by omega) (by omega) h3 (fun k a b => h4 k (by omega) b)
theorem ff_eqn {p : Nat → Bool} : ∀ {d i : Nat}, (∀ k, i ≤ k → k < i + d → p k = false) → ff p d i = none := by
  intro d
  induction d with
  | zero => intro i _; rfl
  | succ d ih =>
    intro i h
    rw [ff, if_neg (by rw [h i (Nat.le_refl _) (by omega)]; decide)]
    exact ih (fun k a b => h k (by omega) (by omega))
theorem ff_congr {p q : Nat → Bool} : ∀ {d i : Nat}, (∀ k, i ≤ k → k < i + d → p k = q k) → ff p d i = ff q d i := by
  intro d
  induction d with
  | zero => intro i _; rfl
  | succ d ih =>
    intro i h
    rw [ff, ff, h i (Nat.le_refl _) (by omega), ih (fun k a b => h k (by omega) (by omega))]
theorem fr_congr {α : Type} {f g : Nat → α → α} : ∀ {d i : Nat} (a : α), (∀ k a, i ≤ k → k < i + d → f k a = g k a) → fr f d i a = fr g d i a := by
  intro d
  induction d with
  | zero => intro i a _; rfl
  | succ d ih =>
    intro i a h
    rw [fr, fr, h i a (Nat.le_refl _) (by omega), ih _ (fun k a x y => h k a (by omega) (by omega))]
/-! numbers -/
theorem i32nat {x : Int32} {n : Nat} (h0 : ¬ x < 0) (h1 : ¬ nI n ≤ x) (hn : n < 2 ^ 31) : ∃ w, w < n ∧ x = nI w := by
  have a1 : (0 : Int32).toInt = 0 := by decide
  rw [Int32.lt_iff_toInt_lt, a1] at h0
  rw [Int32.le_iff_toInt_le, nI_toInt hn] at h1
  refine ⟨x.toInt.toNat, by omega, ?_⟩
  apply Int32.toInt_inj.mp
  rw [nI_toInt (by omega)]
  omega
theorem nI_inj {a b : Nat} (ha : a < 2 ^ 31) (hb : b < 2 ^ 31) (h : nI a = nI b) : a = b := by
  have := congrArg Int32.toInt h
  rw [nI_toInt ha, nI_toInt hb] at this
  omega
theorem nI_sub1 {n : Nat} (h : 0 < n) : nI n - 1 = nI (n - 1) := by
  obtain ⟨k, rfl⟩ : ∃ k, n = k + 1 := ⟨n - 1, by omega⟩
  rw [nI_pred, Nat.add_sub_cancel]
theorem nI_dec {n : Nat} (h : 0 < n) : nI n + (-1 : Int32) = nI (n - 1) := by
  rw [← nI_sub1 h, Int32.sub_eq_add_neg]
theorem nI_addn (a b : Nat) : nI a + nI b = nI (a + b) := (Int32.ofNat_add a b).symm
theorem nI_subn {a b : Nat} (h : b ≤ a) : nI a - nI b = nI (a - b) := by
  obtain ⟨k, rfl⟩ : ∃ k, a = k + b := ⟨a - b, by omega⟩
  rw [Nat.add_sub_cancel, ← nI_addn]
  exact Int32.add_sub_cancel _ _
/-! rows -/
theorem g3 {n i : Nat} {f : Nat → Int32} (h : i < n) (hn : n < 2 ^ 31) : f_X3_get n f (nI i) = some (f i) := by
  unfold f_X3_get
  rw [if_neg (nI_pos (by omega)), if_neg (nI_ge h hn), gdI h hn, nI_clamp (by omega)]
theorem s3 {n i : Nat} {f : Nat → Int32} {v : Int32} (h : i < n) (hn : n < 2 ^ 31) : f_X3_set n f (nI i) v = some (upd f i v) := by
  unfold f_X3_set
  rw [if_neg (nI_pos (by omega)), if_neg (nI_ge h hn), gdI h hn, nI_clamp (by omega)]
theorem g3n {n : Nat} {f : Nat → Int32} {x : Int32} (h : x < 0) : f_X3_get n f x = some 0 := by
  unfold f_X3_get
  rw [if_pos h]
theorem upd_at {f : Nat → Int32} {i : Nat} {v : Int32} : upd f i v i = v := by simp [upd]
theorem upd_ne {f : Nat → Int32} {i j : Nat} {v : Int32} (h : j ≠ i) : upd f i v j = f j := by simp [upd, h]
