/-! PURE: rings: what all books are worth, told along the ring. -/
def wE (W : Nat → Nat → Int32) (a b : Int32) : Int32 := if a = b then 0 else W a.toNatClampNeg b.toNatClampNeg
/-- who writes first so far, who last, and what the books of all but the last are worth -/
def stp (W : Nat → Nat → Int32) (s : Nat → Int32) (t : Int32 × Int32 × Int32) (w : Nat) : Int32 × Int32 × Int32 :=
  if s w = 0 then (if t.2.1 = -9 then (nI w, nI w, t.2.2) else (t.1, nI w, t.2.2 + wE W t.2.1 (nI w))) else t
def ac (W : Nat → Nat → Int32) (s : Nat → Int32) (σ : Nat → Nat) : Nat → Int32 × Int32 × Int32
  | 0 => (-9, -9, 0)
  | i + 1 => stp W s (ac W s σ i) (σ i)
def tot (W : Nat → Nat → Int32) (s : Nat → Int32) (n : Nat) (σ : Nat → Nat) : Int32 := (ac W s σ n).2.2 + wE W (ac W s σ n).2.1 (ac W s σ n).1
theorem ac_congr {W : Nat → Nat → Int32} {s : Nat → Int32} {σ τ : Nat → Nat} : ∀ (i : Nat), (∀ j, j < i → σ j = τ j) → ac W s σ i = ac W s τ i := by
  intro i
  induction i with
  | zero => intro _; rfl
  | succ i ih => intro h; rw [ac, ac, ih (fun j hj => h j (by omega)), h i (by omega)]
theorem fr_range {α : Type} (g : Nat → α → α) : ∀ (n : Nat) (a : α), fr g n 0 a = (List.range n).foldl (fun a i => g i a) a := by
  intro n
  induction n with
  | zero => intro a; rfl
  | succ n ih => intro a; rw [fr_snoc, ih, List.range_succ, List.foldl_append, Nat.zero_add]; rfl
section KO
variable {n : Nat} {size year : Int32} {kinds figures styles fames writing order enders : Nat → Int32} {mw my : Int32} {kind figure style fame silent ring r4 r5 : Nat → Int32}
variable {σ : Nat → Nat}
theorem next_is (hn : n ≤ 7) (hM : PM n ring) (hσ : ∀ i, i < n → σ i < n ∧ ring i = nI (σ i)) {p k : Nat} (hp : p < n) (hk1 : 1 ≤ k) (hk : k < n) (h0 : silent (σ ((p + k) % n)) = 0) (hno : ∀ k2, 1 ≤ k2 → k2 < k → ¬ silent (σ ((p + k2) % n)) = 0) : sE n silent ring (σ p) = some (σ ((p + k) % n)) := by
  have hl : ∀ x : Nat, x % n < n := fun x => Nat.mod_lt _ (by omega)
  have hpl : sPl n ring (σ p) = p := pl_eq hM (hσ p hp).1 hp (hσ p hp).2
  have hK : sEnK n silent ring (σ p) = some k := by
    unfold sEnK
    rw [hpl]
    refine ff_eq hk1 (by omega) ?_ (fun k2 h1 h2 => ?_)
    · rw [(hσ _ (hl _)).2, nI_clamp (by have := (hσ _ (hl (p + k))).1; omega), h0]; rfl
    · rw [(hσ _ (hl _)).2, nI_clamp (by have := (hσ _ (hl (p + k2))).1; omega)]
      have := hno k2 h1 h2
      simp [this]
  have hE : sEn n silent ring (σ p) = nI (σ ((p + k) % n)) := by
    unfold sEn
    rw [hK, hpl]
    exact (hσ _ (hl _)).2
  unfold sE
  have hlt := (hσ _ (hl (p + k))).1
  rw [hE, if_neg (nI_pos (by omega)), nI_clamp (by omega)]
theorem next_no (hM : PM n ring) (hn : n ≤ 7) (hσ : ∀ i, i < n → σ i < n ∧ ring i = nI (σ i)) {p : Nat} (hp : p < n) (hno : ∀ k2, 1 ≤ k2 → k2 < n → ¬ silent (σ ((p + k2) % n)) = 0) : sE n silent ring (σ p) = none := by
  have hl : ∀ x : Nat, x % n < n := fun x => Nat.mod_lt _ (by omega)
  have hpl : sPl n ring (σ p) = p := pl_eq hM (hσ p hp).1 hp (hσ p hp).2
  have hK : sEnK n silent ring (σ p) = none := by
    unfold sEnK
    rw [hpl]
    refine ff_eqn (fun k2 h1 h2 => ?_)
    rw [(hσ _ (hl _)).2, nI_clamp (by have := (hσ _ (hl (p + k2))).1; omega)]
    have := hno k2 h1 (by omega)
    simp [this]
  have hE : sEn n silent ring (σ p) = -9 := by
    unfold sEn
    rw [hK]
  unfold sE
  rw [hE, if_pos m9_lt]
theorem sWo_sil {w : Nat} (h : ¬ silent w = 0) : sWo n kind figure style silent ring year w = 0 := by
  unfold sWo sIs
  simp [h]
theorem sWo_en {w e : Nat} (h : silent w = 0) (he : sE n silent ring w = some e) : sWo n kind figure style silent ring year w = sWE kind figure style year w e := by
  rw [sWo_w h]
  unfold sBW
  rw [he]
theorem sWo_no {w : Nat} (he : sE n silent ring w = none) : sWo n kind figure style silent ring year w = 0 := by
  unfold sWo sIs
  simp [he]
theorem sum_perm (hn : n ≤ 7) (hM : PM n ring) (hσ : ∀ i, i < n → σ i < n ∧ ring i = nI (σ i)) (f : Nat → Int32) : fr (fun w a => a + f w) n 0 0 = fr (fun i a => a + f (σ i)) n 0 0 := by
  rw [fr_range, fr_range]
  have h : (List.range n).foldl (fun a i => a + f (σ i)) 0 = ((List.range n).map σ).foldl (fun a w => a + f w) 0 := (List.foldl_map (f := σ) (g := fun a w => a + f w)).symm
  rw [h]
  have hinj : ∀ i j, i < n → j < n → σ i = σ j → i = j := fun i j hi hj e => hM.2.2 i j hi hj (by rw [(hσ i hi).2, (hσ j hj).2, e])
  have hnd : ((List.range n).map σ).Nodup := by
    unfold List.Nodup
    rw [List.pairwise_map]
    refine List.Pairwise.imp_of_mem (fun {a b} ha hb hab => ?_) (List.nodup_range (n := n))
    intro e
    exact hab (hinj a b (List.mem_range.mp ha) (List.mem_range.mp hb) e)
  have hp : (List.range n).Perm ((List.range n).map σ) := by
    rw [List.perm_ext_iff_of_nodup List.nodup_range hnd]
    intro a
    rw [List.mem_range, List.mem_map]
    constructor
    · intro ha
      obtain ⟨i, hi, e⟩ := hM.2.1 a ha
      have h1 := (hσ i hi).1
      exact ⟨i, List.mem_range.mpr hi, nI_inj (by omega) (by omega) ((hσ i hi).2.symm.trans e)⟩
    · rintro ⟨i, hi, rfl⟩
      exact (hσ i (List.mem_range.mp hi)).1
  exact List.Perm.foldl_eq' hp (fun x _ y _ z => by rw [Int32.add_assoc, Int32.add_comm (f x), ← Int32.add_assoc]) 0
theorem tot_all (hn : n ≤ 7) (hM : PM n ring) (hσ : ∀ i, i < n → σ i < n ∧ ring i = nI (σ i)) : tot (sWE kind figure style year) silent n σ = sAll n kind figure style silent ring year := by
  have hinj : ∀ i j, i < n → j < n → σ i = σ j → i = j := fun i j hi hj e => hM.2.2 i j hi hj (by rw [(hσ i hi).2, (hσ j hj).2, e])
  unfold sAll
  rw [sum_perm hn hM hσ]
  have hWE : ∀ i j, i < n → j < n → i ≠ j → wE (sWE kind figure style year) (nI (σ i)) (nI (σ j)) = sWE kind figure style year (σ i) (σ j) := by
    intro i j hi hj hne
    have h1 := (hσ i hi).1
    have h2 := (hσ j hj).1
    unfold wE
    rw [if_neg (fun e => hne (hinj i j hi hj (nI_inj (by omega) (by omega) e))), nI_clamp (by omega), nI_clamp (by omega)]
  have inv : ∀ i, i ≤ n → (ac (sWE kind figure style year) silent σ i = (-9, -9, 0) ∧ fr (fun i a => a + sWo n kind figure style silent ring year (σ i)) i 0 0 = 0 ∧ ∀ j, j < i → ¬ silent (σ j) = 0) ∨ ∃ pa pb v, pa ≤ pb ∧ pb < i ∧ ac (sWE kind figure style year) silent σ i = (nI (σ pa), nI (σ pb), v) ∧ silent (σ pa) = 0 ∧ silent (σ pb) = 0 ∧ (∀ j, j < pa → ¬ silent (σ j) = 0) ∧ (∀ j, pb < j → j < i → ¬ silent (σ j) = 0) ∧ v + sWo n kind figure style silent ring year (σ pb) = fr (fun i a => a + sWo n kind figure style silent ring year (σ i)) i 0 0 := by
    intro i
    induction i with
    | zero => intro _; exact Or.inl ⟨rfl, rfl, fun j hj => by omega⟩
    | succ i ih =>
      intro hi
      rw [ac, fr_snoc, Nat.zero_add]
      rcases ih (by omega) with ⟨h1, h2, h3⟩ | ⟨pa, pb, v, a1, a2, a3, a4, a5, a6, a7, a8⟩
      · rw [h1, h2]
        unfold stp
        by_cases hs : silent (σ i) = 0
        · rw [if_pos hs, if_pos rfl]
          exact Or.inr ⟨i, i, 0, Nat.le_refl _, by omega, rfl, hs, hs, h3, fun j h4 h5 => by omega, rfl⟩
        · rw [if_neg hs]
          refine Or.inl ⟨rfl, ?_, fun j hj => ?_⟩
          · rw [sWo_sil hs]; rfl
          · by_cases e : j = i
            · rw [e]; exact hs
            · exact h3 j (by omega)
      · rw [a3]
        unfold stp
        by_cases hs : silent (σ i) = 0
        · have hlt := (hσ pb (by omega)).1
          have hnx : sE n silent ring (σ pb) = some (σ i) := by
            have := next_is hn hM hσ (p := pb) (k := i - pb) (by omega) (by omega) (by omega) (by rw [show pb + (i - pb) = i by omega, Nat.mod_eq_of_lt (by omega)]; exact hs) (fun k2 h1 h2 => by
              rw [Nat.mod_eq_of_lt (by omega)]
              exact a7 _ (by omega) (by omega))
            rwa [show pb + (i - pb) = i by omega, Nat.mod_eq_of_lt (by omega)] at this
          rw [if_pos hs, if_neg (fun e => nI_m9 (w := σ pb) (by omega) e.symm)]
          refine Or.inr ⟨pa, i, _, by omega, by omega, rfl, a4, hs, a6, fun j h4 h5 => by omega, ?_⟩
          rw [← a8]
          dsimp only
          rw [hWE pb i (by omega) (by omega) (by omega), sWo_en a5 hnx]
        · rw [if_neg hs]
          refine Or.inr ⟨pa, pb, v, a1, by omega, rfl, a4, a5, a6, fun j h4 h5 => ?_, ?_⟩
          · by_cases e : j = i
            · rw [e]; exact hs
            · exact a7 j h4 (by omega)
          · rw [← a8, sWo_sil hs, Int32.add_zero]
  unfold tot
  rcases inv n (Nat.le_refl _) with ⟨h1, h2, h3⟩ | ⟨pa, pb, v, a1, a2, a3, a4, a5, a6, a7, a8⟩
  · rw [h1, h2]; rfl
  · rw [a3, ← a8]
    dsimp only
    by_cases e : pa = pb
    · subst e
      rw [sWo_no (next_no hM hn hσ a2 (fun k2 h1 h2 => ?_))]
      · unfold wE; rw [if_pos rfl]
      · by_cases h : pa + k2 < n
        · rw [Nat.mod_eq_of_lt h]
          exact a7 _ (by omega) h
        · rw [Nat.mod_eq_sub_mod (by omega), Nat.mod_eq_of_lt (by omega)]
          exact a6 _ (by omega)
    · have hmod : (pb + (n - pb + pa)) % n = pa := by
        rw [show pb + (n - pb + pa) = pa + n by omega, Nat.add_mod_right, Nat.mod_eq_of_lt (by omega)]
      have hnx : sE n silent ring (σ pb) = some (σ pa) := by
        have := next_is hn hM hσ (p := pb) (k := n - pb + pa) a2 (by omega) (by omega) (by rw [hmod]; exact a4) (fun k2 h1 h2 => by
          by_cases h : pb + k2 < n
          · rw [Nat.mod_eq_of_lt h]
            exact a7 _ (by omega) h
          · rw [Nat.mod_eq_sub_mod (by omega), Nat.mod_eq_of_lt (by omega)]
            exact a6 _ (by omega))
        rwa [hmod] at this
      rw [hWE pb pa (by omega) (by omega) (by omega), sWo_en a5 hnx]
theorem wE_val (hB : BD figure style year) {a b : Nat} (ha : a < 7) (hb : b < 7) : ∃ k, k < 6 ∧ sWE kind figure style year a b = 9 - 2 * nI k := by
  obtain ⟨x, y, k, -, -, hk, -, -, -, h⟩ := hB.we kind ha hb
  exact ⟨k, hk, h⟩
theorem sAll_low (hB : BD figure style year) (hn : n ≤ 7) (hM : PM n ring) : (-64 : Int32) < sAll n kind figure style silent ring year := by
  have key : ∀ i : Nat, i ≤ n → -(i : Int) ≤ (fr (fun w a => a + sWo n kind figure style silent ring year w) i 0 0).toInt ∧ (fr (fun w a => a + sWo n kind figure style silent ring year w) i 0 0).toInt ≤ 9 * i := by
    intro i
    induction i with
    | zero =>
      intro _
      have h0 : (0 : Int32).toInt = 0 := by decide
      show -((0 : Nat) : Int) ≤ (0 : Int32).toInt ∧ (0 : Int32).toInt ≤ 9 * ((0 : Nat) : Int)
      omega
    | succ i ih =>
      intro hi
      obtain ⟨h1, h2⟩ := ih (by omega)
      rw [fr_snoc, Nat.zero_add]
      have hw : -1 ≤ (sWo n kind figure style silent ring year i).toInt ∧ (sWo n kind figure style silent ring year i).toInt ≤ 9 := by
        cases hI : sIs n silent ring i with
        | false =>
          have : sWo n kind figure style silent ring year i = 0 := by unfold sWo; rw [hI]; rfl
          rw [this]
          exact ⟨by decide, by decide⟩
        | true =>
          obtain ⟨e, y, k, -, -, hk, -, -, hb⟩ := hB.ended (kind := kind) hn hM (show i < n by omega) hI
          rw [sWo_t hI, hb]
          have : ∀ k, k < 6 → -1 ≤ ((9 : Int32) - 2 * nI k).toInt ∧ ((9 : Int32) - 2 * nI k).toInt ≤ 9 := by decide
          exact this k hk
      rw [Int32.toInt_add, Int.bmod_eq_of_le (by omega) (by omega)]
      omega
  have := key n (Nat.le_refl _)
  unfold sAll
  rw [Int32.lt_iff_toInt_lt, show (-64 : Int32).toInt = -64 by decide]
  omega
end KO
