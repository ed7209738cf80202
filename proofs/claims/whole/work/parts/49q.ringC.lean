/-! PURE: the reference's rings by number; both searches alike. -/
def fct : Nat → Nat
  | 0 => 1
  | k + 1 => (k + 1) * fct k
theorem fct_pos : ∀ k : Nat, 0 < fct k := by
  intro k
  induction k with
  | zero => exact Nat.one_pos
  | succ k ih => rw [fct]; exact Nat.mul_pos (by omega) ih
theorem fct_le {k : Nat} (hk : k < 7) : fct k ≤ 720 := by
  have h : ∀ k, k < 7 → fct k ≤ 720 := by decide
  exact h k hk
def cdq (n : Nat) : Nat → Nat → (Nat → Nat) → Nat → (Nat → Nat)
  | 0, _, σ, _ => σ
  | k + 1, p, σ, c => cdq n k (p + 1) (updN σ p ((lf n p σ).getD (c / fct k) 0)) (c % fct k)
theorem fm_congr {α β : Type} {l : List α} {f g : α → List β} (h : ∀ a, a ∈ l → f a = g a) : l.flatMap f = l.flatMap g := by
  induction l with
  | nil => rfl
  | cons a l ih =>
    rw [List.flatMap_cons, List.flatMap_cons, h a (List.mem_cons_self), ih (fun b hb => h b (List.mem_cons_of_mem a hb))]
theorem fm_range {β : Type} {f : Nat} (hf : 0 < f) (h : Nat → Nat → β) : ∀ l : List Nat, l.flatMap (fun w => (List.range f).map (h w)) = (List.range (l.length * f)).map (fun c => h (l.getD (c / f) 0) (c % f)) := by
  intro l
  induction l with
  | nil => simp
  | cons w l ih =>
    rw [List.flatMap_cons, ih, List.length_cons, Nat.succ_mul, Nat.add_comm (l.length * f) f, List.range_add, List.map_append, List.map_map]
    congr 1
    · refine List.map_congr_left (fun c hc => ?_)
      have hc2 := List.mem_range.mp hc
      rw [Nat.div_eq_of_lt hc2, Nat.mod_eq_of_lt hc2]
      rfl
    · refine List.map_congr_left (fun c hc => ?_)
      show _ = h ((w :: l).getD ((f + c) / f) 0) ((f + c) % f)
      rw [Nat.add_div_left c hf, Nat.add_mod_left]
      rfl
theorem mem_lf {n p : Nat} {σ : Nat → Nat} {w : Nat} : w ∈ lf n p σ ↔ w < n ∧ ∀ j, j < p → ¬ σ j = w := by
  unfold lf
  rw [List.mem_filter, List.mem_range, nin_t]
theorem lf_step {n p : Nat} {σ : Nat → Nat} {w : Nat} (hw : w ∈ lf n p σ) : (lf n (p + 1) (updN σ p w)).length + 1 = (lf n p σ).length := by
  have e : lf n (p + 1) (updN σ p w) = (lf n p σ).filter (fun x => x != w) := by
    unfold lf
    rw [List.filter_filter]
    refine List.filter_congr (fun x hx => ?_)
    have : nin (p + 1) (updN σ p w) x = true ↔ ((x != w) && nin p σ x) = true := by
      rw [nin_t, Bool.and_eq_true, nin_t]
      constructor
      · intro h
        refine ⟨?_, fun j hj => ?_⟩
        · have := h p (by omega)
          rw [updN_at] at this
          simpa using fun z => this z.symm
        · have := h j (by omega)
          rwa [updN_ne (by omega)] at this
      · rintro ⟨h1, h2⟩ j hj
        by_cases z : j = p
        · subst z
          rw [updN_at]
          intro q
          subst q
          simp at h1
        · rw [updN_ne z]
          exact h2 j (by omega)
    exact Bool.eq_iff_iff.mpr this
  have hnd : (lf n p σ).Nodup := List.Pairwise.filter _ List.nodup_range
  rw [e, ← List.Nodup.erase_eq_filter hnd, List.length_erase_of_mem hw]
  have := List.length_pos_of_mem hw
  omega
/-- the first p places are well filled -/
def VA (n p : Nat) (σ : Nat → Nat) : Prop := (∀ j, j < p → σ j < n) ∧ (∀ i j, i < p → j < p → σ i = σ j → i = j) ∧ (lf n p σ).length + p = n
theorem VA.step {n p : Nat} {σ : Nat → Nat} (h : VA n p σ) {w : Nat} (hw : w ∈ lf n p σ) : VA n (p + 1) (updN σ p w) := by
  obtain ⟨hw1, hw2⟩ := mem_lf.mp hw
  refine ⟨fun j hj => ?_, fun i j hi hj e => ?_, ?_⟩
  · by_cases z : j = p
    · subst z; rw [updN_at]; exact hw1
    · rw [updN_ne z]; exact h.1 j (by omega)
  · by_cases z1 : i = p
    · by_cases z2 : j = p
      · omega
      · rw [z1, updN_at, updN_ne z2] at e
        exact absurd e.symm (hw2 j (by omega))
    · by_cases z2 : j = p
      · rw [z2, updN_at, updN_ne z1] at e
        exact absurd e (hw2 i (by omega))
      · rw [updN_ne z1, updN_ne z2] at e
        exact h.2.1 i j (by omega) (by omega) e
  · have := lf_step hw
    have := h.2.2
    omega
theorem getD_mem {l : List Nat} {j : Nat} (h : j < l.length) : l.getD j 0 ∈ l := by
  rw [List.getD_eq_getElem?_getD, List.getElem?_eq_getElem h]
  exact List.getElem_mem h
theorem div_fct {k c : Nat} (hc : c < fct (k + 1)) : c / fct k < k + 1 := by
  rw [fct] at hc
  exact Nat.div_lt_of_lt_mul (by rw [Nat.mul_comm]; exact hc)
theorem VA.cdq {n : Nat} : ∀ (k p : Nat) (σ : Nat → Nat) (c : Nat), p + k = n → VA n p σ → c < fct k → VA n n (cdq n k p σ c) := by
  intro k
  induction k with
  | zero =>
    intro p σ c hp h _
    obtain rfl : p = n := by omega
    exact h
  | succ k ih =>
    intro p σ c hp h hc
    have hl := h.2.2
    exact ih (p + 1) _ _ (by omega) (h.step (getD_mem (by have := div_fct hc; omega))) (Nat.mod_lt _ (fct_pos k))
theorem pmn_cdq {n : Nat} : ∀ (k p : Nat) (σ : Nat → Nat), p + k = n → VA n p σ → pmn n k p σ = (List.range (fct k)).map (cdq n k p σ) := by
  intro k
  induction k with
  | zero => intro p σ _ _; rfl
  | succ k ih =>
    intro p σ hp h
    have hl : (lf n p σ).length = k + 1 := by have := h.2.2; omega
    rw [pmn, fm_congr (fun w hw => ih (p + 1) (updN σ p w) (by omega) (h.step hw)), fm_range (fct_pos k) (fun w c => cdq n k (p + 1) (updN σ p w) c), hl]
    rfl
theorem VA.pm {n : Nat} {σ : Nat → Nat} {R : Nat → Int32} (hn : n ≤ 7) (h : VA n n σ) (hR : ∀ i, i < n → R i = nI (σ i)) : PM n R ∧ ∀ i, i < n → σ i < n ∧ R i = nI (σ i) := by
  refine ⟨⟨fun i hi => ⟨σ i, h.1 i hi, hR i hi⟩, fun w hw => ?_, fun i j hi hj e => ?_⟩, fun i hi => ⟨h.1 i hi, hR i hi⟩⟩
  · have hl : (lf n n σ).length = 0 := by have := h.2.2; omega
    have hnil := List.eq_nil_of_length_eq_zero hl
    have hnot : ¬ w ∈ lf n n σ := by rw [hnil]; exact List.not_mem_nil
    rw [mem_lf] at hnot
    have : ∃ j, j < n ∧ σ j = w := by
      apply Classical.byContradiction
      intro hc
      exact hnot ⟨hw, fun j hj e => hc ⟨j, hj, e⟩⟩
    obtain ⟨j, hj, e⟩ := this
    exact ⟨j, hj, by rw [hR j hj, e]⟩
  · rw [hR i hi, hR j hj] at e
    have h1 := h.1 i hi
    have h2 := h.1 j hj
    exact h.2.1 i j hi hj (nI_inj (by omega) (by omega) e)
theorem bit_clr {m v : Nat} (hm : m < 128) (hv : v < 7) (h1 : m / 2 ^ v % 2 = 1) : nI m &&& (shlI 1 (nI v) ^^^ (-1)) = nI (m - 2 ^ v) ∧ ∀ u, u < 7 → (m - 2 ^ v) / 2 ^ u % 2 = if u = v then 0 else m / 2 ^ u % 2 := by
  have h : ∀ m, m < 128 → ∀ v, v < 7 → m / 2 ^ v % 2 = 1 → nI m &&& (shlI 1 (nI v) ^^^ (-1)) = nI (m - 2 ^ v) ∧ ∀ u, u < 7 → (m - 2 ^ v) / 2 ^ u % 2 = if u = v then 0 else m / 2 ^ u % 2 := by decide +kernel
  exact h m hm v hv h1
theorem bit_all {n : Nat} (hn : n ≤ 7) : shlI 1 (nI n) - 1 = nI (2 ^ n - 1) ∧ 2 ^ n - 1 < 128 ∧ ∀ u, u < 7 → (2 ^ n - 1) / 2 ^ u % 2 = if u < n then 1 else 0 := by
  have h : ∀ n, n < 8 → shlI 1 (nI n) - 1 = nI (2 ^ n - 1) ∧ 2 ^ n - 1 < 128 ∧ ∀ u, u < 7 → (2 ^ n - 1) / 2 ^ u % 2 = if u < n then 1 else 0 := by decide +kernel
  exact h n (by omega)
/-- the bits of those who are left -/
def LM (n lm p : Nat) (σ : Nat → Nat) : Prop := lm < 128 ∧ ∀ w, w < 7 → (lm / 2 ^ w % 2 = 1 ↔ w ∈ lf n p σ)
theorem LM.step {n lm p : Nat} {σ : Nat → Nat} (hn : n ≤ 7) (h : LM n lm p σ) {w : Nat} (hw : w ∈ lf n p σ) : nI lm &&& (shlI 1 (nI w) ^^^ (-1)) = nI (lm - 2 ^ w) ∧ LM n (lm - 2 ^ w) (p + 1) (updN σ p w) := by
  have hw7 : w < 7 := by have := (mem_lf.mp hw).1; omega
  obtain ⟨h1, h2⟩ := bit_clr h.1 hw7 ((h.2 w hw7).mpr hw)
  refine ⟨h1, Nat.lt_of_le_of_lt (Nat.sub_le _ _) h.1, fun u hu => ?_⟩
  rw [h2 u hu, mem_lf]
  by_cases e : u = w
  · rw [if_pos e]
    refine ⟨fun z => by omega, fun z => ?_⟩
    have := z.2 p (by omega)
    rw [updN_at] at this
    exact absurd e.symm this
  · rw [if_neg e, h.2 u hu, mem_lf]
    constructor
    · rintro ⟨a, b⟩
      refine ⟨a, fun j hj => ?_⟩
      by_cases z : j = p
      · subst z; rw [updN_at]; exact fun q => e q.symm
      · rw [updN_ne z]; exact b j (by omega)
    · rintro ⟨a, b⟩
      refine ⟨a, fun j hj => ?_⟩
      have := b j (by omega)
      rwa [updN_ne (by omega)] at this
theorem x5_nth {n lm p : Nat} {σ : Nat → Nat} (hn : n ≤ 7) (h : LM n lm p σ) {j : Nat} (hj : j < (lf n p σ).length) : f_X5_nth (nI lm) (nI j) = some (nI ((lf n p σ).getD j 0)) := by
  have key : ∀ (d i fuel j : Nat), i + d = n → d < fuel → j < ((List.range' i d).filter (nin p σ)).length → j < 8 → f_X5_nth_4 (nI lm) fuel (nI j) (nI i) = some (nI (((List.range' i d).filter (nin p σ)).getD j 0)) := by
    intro d
    induction d with
    | zero => intro i fuel j _ _ hj; simp at hj
    | succ d ih =>
      intro i fuel j hi hf hj h8
      obtain ⟨fuel, rfl⟩ : ∃ f2, fuel = f2 + 1 := ⟨fuel - 1, by omega⟩
      rw [e_X5_nth_4]
      unfold f_X5_nth_16 f_X5_nth_30 f_X5_has
      rw [bit_at h.1 (by omega)]
      rw [List.range'_succ] at hj ⊢
      have hmem : i ∈ lf n p σ ↔ nin p σ i = true := by
        rw [mem_lf, nin_t]
        exact ⟨fun z => z.2, fun z => ⟨by omega, z⟩⟩
      rcases Nat.mod_two_eq_zero_or_one (lm / 2 ^ i) with hb | hb
      · have hnin : ¬ nin p σ i = true := fun z => by
          have := (h.2 i (by omega)).mpr (hmem.mpr z)
          omega
        rw [hb, show nI 0 = 0 from rfl]
        simp (decide := true) (implicitDefEqProofs := false) only [Option.bind_some, if_true, if_false]
        rw [List.filter_cons_of_neg hnin] at hj ⊢
        rw [Int32.sub_zero, ← nI_succ]
        exact ih (i + 1) fuel j (by omega) (by omega) hj h8
      · have hnin : nin p σ i = true := hmem.mp ((h.2 i (by omega)).mp hb)
        rw [hb, show nI 1 = 1 from rfl]
        simp (decide := true) (implicitDefEqProofs := false) only [Option.bind_some, if_true, if_false]
        rw [List.filter_cons_of_pos hnin] at hj ⊢
        by_cases hj0 : j = 0
        · subst hj0
          rw [if_pos (show nI 0 ≤ 0 by decide)]
          rfl
        · rw [if_neg (show ¬ nI j ≤ 0 from nI_ge (a := 0) (by omega) (by omega)), nI_sub1 (by omega), ← nI_succ]
          rw [ih (i + 1) fuel (j - 1) (by omega) (by omega) (by simp at hj; omega) (by omega)]
          obtain ⟨j2, rfl⟩ : ∃ j2, j = j2 + 1 := ⟨j - 1, by omega⟩
          rfl
  have hlen : (lf n p σ).length ≤ n := by
    unfold lf
    exact Nat.le_trans (List.length_filter_le _ _) (by simp)
  unfold f_X5_nth
  have e : lf n p σ = (List.range' 0 n).filter (nin p σ) := by unfold lf; rw [List.range_eq_range']
  rw [e] at hj ⊢
  exact key n 0 FU j (by omega) (FU_gt (by omega)) hj (by rw [← e] at hj; omega)
theorem x5_ringsLoop {n : Nat} (hn : n ≤ 7) : ∀ (k p fuel lm c : Nat) (σ : Nat → Nat) (R : Nat → Int32), p + k = n → 0 < p → k < fuel → VA n p σ → LM n lm p σ → c < fct k → (∀ i, i < p → R i = nI (σ i)) → ∃ R', f_X5_ringsBy_29 (nI n) fuel (nI lm) (nI c) (nI (fct k)) (nI p) R = some R' ∧ (∀ i, i < n → R' i = nI (cdq n k p σ c i)) ∧ ∀ i, i < p → R' i = R i := by
  intro k
  induction k with
  | zero =>
    intro p fuel lm c σ R hp hp0 hf hV hL hc hR
    obtain ⟨fuel, rfl⟩ : ∃ f2, fuel = f2 + 1 := ⟨fuel - 1, by omega⟩
    obtain rfl : p = n := by omega
    rw [e_X5_ringsBy_29, if_pos (nI_le (Nat.le_refl _) (by omega))]
    exact ⟨R, rfl, hR, fun _ _ => rfl⟩
  | succ k ih =>
    intro p fuel lm c σ R hp hp0 hf hV hL hc hR
    obtain ⟨fuel, rfl⟩ : ∃ f2, fuel = f2 + 1 := ⟨fuel - 1, by omega⟩
    have hl : (lf n p σ).length = k + 1 := by have := hV.2.2; omega
    have hq := div_fct hc
    have hfl := fct_le (k := k + 1) (by omega)
    have hfl2 := fct_le (k := k) (by omega)
    have hfp := fct_pos k
    have hw := getD_mem (l := lf n p σ) (j := c / fct k) (by omega)
    have hwn := (mem_lf.mp hw).1
    obtain ⟨l1, l2⟩ := hL.step hn hw
    have hdiv : divI (nI (fct (k + 1))) (nI (k + 1)) = nI (fct k) := by
      show nI (fct (k + 1)) / nI (k + 1) = nI (fct k)
      rw [pk_div (by omega) (by omega) (by omega), fct, Nat.mul_div_cancel_left _ (by omega)]
    have hdc : divI (nI c) (nI (fct k)) = nI (c / fct k) := by
      show nI c / nI (fct k) = _
      rw [pk_div (by omega) hfp (by omega)]
    have hrc : remI (nI c) (nI (fct k)) = nI (c % fct k) := pk_rem (by omega) hfp (by omega)
    have hgz : ∀ {x : Option (Nat → Int32)}, gz (nI (fct k)) x = x := by intro x; unfold gz; rw [if_neg (nI_ne0 hfp (by omega))]
    have hgz2 : ∀ {x : Option (Nat → Int32)}, gz (nI (k + 1)) x = x := by intro x; unfold gz; rw [if_neg (nI_ne0 (by omega) (by omega))]
    obtain ⟨R', r1, r2, r3⟩ := ih (p + 1) fuel (lm - 2 ^ ((lf n p σ).getD (c / fct k) 0)) (c % fct k) (updN σ p ((lf n p σ).getD (c / fct k) 0)) (upd R p (nI ((lf n p σ).getD (c / fct k) 0))) (by omega) (by omega) (by omega) (hV.step hw) l2 (Nat.mod_lt _ hfp) (fun i hi => by
      by_cases z : i = p
      · subst z; rw [upd_at, updN_at]
      · rw [upd_ne z, updN_ne z]; exact hR i (by omega))
    refine ⟨R', ?_, r2, fun i hi => by rw [r3 i (by omega), upd_ne (by omega)]⟩
    rw [e_X5_ringsBy_29, if_neg (nI_ge (by omega) (by omega)), nI_subn (by omega), show n - p = k + 1 by omega, hdiv, hgz2, hgz, hdc, x5_nth hn hL (by omega)]
    simp (implicitDefEqProofs := false) only [Option.bind_some]
    rw [hgz, gdI (by omega) (by omega), nI_clamp (by omega), l1, hrc, ← nI_succ]
    exact r1
theorem x5_ringsBy {n : Nat} (hn : n ≤ 7) (h0 : 0 < n) {h c : Nat} (hh : h < n) (hV : VA n 1 (fun _ => h)) (hc : c < fct (n - 1)) {R : Nat → Int32} (hR : R 0 = nI h) : ∃ R', f_X5_ringsBy (nI n) R (nI c) (nI (fct (n - 1))) = some R' ∧ (∀ i, i < n → R' i = nI (cdq n (n - 1) 1 (fun _ => h) c i)) ∧ R' 0 = nI h := by
  obtain ⟨b1, b2, b3⟩ := bit_all hn
  obtain ⟨c1, c2⟩ := bit_clr b2 (show h < 7 by omega) (by rw [b3 h (by omega), if_pos hh])
  have hLM : LM n (2 ^ n - 1 - 2 ^ h) 1 (fun _ => h) := by
    refine ⟨Nat.lt_of_le_of_lt (Nat.sub_le _ _) b2, fun u hu => ?_⟩
    rw [c2 u hu, mem_lf]
    by_cases e : u = h
    · rw [if_pos e]
      exact ⟨fun z => by omega, fun z => absurd e.symm (z.2 0 (by omega))⟩
    · rw [if_neg e, b3 u hu]
      by_cases hun : u < n
      · rw [if_pos hun]; exact ⟨fun _ => ⟨hun, fun _ _ z => e z.symm⟩, fun _ => rfl⟩
      · rw [if_neg hun]; exact ⟨fun z => by omega, fun z => absurd z.1 hun⟩
  obtain ⟨R', r1, r2, r3⟩ := x5_ringsLoop hn (n - 1) 1 FU (2 ^ n - 1 - 2 ^ h) c (fun _ => h) R (by omega) (by omega) (FU_gt (by omega)) hV hLM hc (fun i hi => by
    obtain rfl : i = 0 := by omega
    exact hR)
  refine ⟨R', ?_, r2, by rw [r3 0 (by omega), hR]⟩
  unfold f_X5_ringsBy
  have g0 : ∀ {x : Option (Nat → Int32)}, gd (0 : Int32) 7 x = x := by
    intro x
    exact gdI (i := 0) (n := 7) (by omega) (by omega)
  rw [g0, show (0 : Int32).toNatClampNeg = 0 from by decide, hR, b1, c1]
  exact r1
