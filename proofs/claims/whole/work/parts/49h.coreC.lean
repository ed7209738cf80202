/-! PURE: what a call answers on both sides: twos, chains, fractions, rows, letters. -/
theorem fr_cnt0 {p : Nat → Bool} : ∀ {d i : Nat} {c : Int32}, (∀ k, i ≤ k → k < i + d → p k = false) → fr (fun k c => if p k = true then c + 1 else c) d i c = c := by
  intro d
  induction d with
  | zero => intro i c _; rfl
  | succ d ih =>
    intro i c h
    rw [fr, h i (Nat.le_refl _) (by omega)]
    simp only [Bool.false_eq_true, if_false]
    exact ih (fun k a b => h k (by omega) (by omega))
theorem fr_cnt1 {p : Nat → Bool} {e : Nat} : ∀ {d i : Nat} {c : Int32}, i ≤ e → e < i + d → p e = true → (∀ k, i ≤ k → k < i + d → k ≠ e → p k = false) → fr (fun k c => if p k = true then c + 1 else c) d i c = c + 1 := by
  intro d
  induction d with
  | zero => intro i c h1 h2; omega
  | succ d ih =>
    intro i c h1 h2 h3 h4
    rw [fr]
    by_cases hz : i = e
    · subst hz
      rw [if_pos h3]
      exact fr_cnt0 (fun k a b => h4 k (by omega) (by omega) (by omega))
    · rw [h4 i (Nat.le_refl _) (by omega) hz]
      simp only [Bool.false_eq_true, if_false]
      exact ih (by omega) (by omega) h3 (fun k a b c => h4 k (by omega) (by omega) c)
def pcn (m : Nat) : Nat := m % 2 + m / 2 % 2 + m / 4 % 2 + m / 8 % 2 + m / 16 % 2 + m / 32 % 2 + m / 64 % 2
theorem bit_at {m v : Nat} (hm : m < 128) (hv : v < 7) : (shrI (nI m) (nI v) &&& 1) = nI (m / 2 ^ v % 2) := by
  have h : ∀ m, m < 128 → ∀ v, v < 7 → (shrI (nI m) (nI v) &&& 1) = nI (m / 2 ^ v % 2) := by decide +kernel
  exact h m hm v hv
theorem bit_put {m v : Nat} (hm : m < 128) (hv : v < 7) (h0 : m / 2 ^ v % 2 = 0) : m + 2 ^ v < 128 ∧ nI m ||| shlI 1 (nI v) = nI (m + 2 ^ v) ∧ pcn (m + 2 ^ v) = pcn m + 1 ∧ pcn m < 7 := by
  have h : ∀ m, m < 128 → ∀ v, v < 7 → m / 2 ^ v % 2 = 0 → m + 2 ^ v < 128 ∧ nI m ||| shlI 1 (nI v) = nI (m + 2 ^ v) ∧ pcn (m + 2 ^ v) = pcn m + 1 ∧ pcn m < 7 := by decide +kernel
  exact h m hm v hv h0
theorem remL_eq (x y : Int64) : remL x y = x % y := by
  apply Int64.toInt_inj.mp
  unfold remL
  have h1 : x.toInt.tmod y.toInt = x.toInt - x.toInt.tdiv y.toInt * y.toInt := by
    have := Int.tdiv_mul_add_tmod x.toInt y.toInt
    omega
  have h2 : (x % y).toInt = (x % y).toInt.bmod (2 ^ 64) := by
    have a := Int64.toInt_lt (x % y)
    have b := Int64.le_toInt (x % y)
    rw [Int.bmod_eq_of_le (by omega) (by omega)]
  rw [h2, Int64.toInt_mod, h1, Int64.toInt_sub, Int64.toInt_mul, Int64.toInt_div]
  simp
theorem remL_abs (x y : Int64) : (remL x y).toInt.natAbs = x.toInt.natAbs % y.toInt.natAbs := by
  rw [remL_eq, Int64.toInt_mod, Int.natAbs_tmod]
theorem lcmp0 (x : Int64) : lg_cmp x 0 = 0 ↔ x = 0 := by
  unfold lg_cmp
  by_cases h : x > 0
  · rw [if_pos h]
    refine ⟨fun e => absurd e (by decide), fun e => ?_⟩
    rw [e] at h
    exact absurd h (by decide)
  · rw [if_neg h]
    by_cases e : x = 0
    · rw [if_pos e]; exact ⟨fun _ => e, fun _ => rfl⟩
    · rw [if_neg e]; exact ⟨fun z => absurd z (by decide), fun z => absurd z e⟩
theorem abs0 {x : Int64} : x = 0 ↔ x.toInt.natAbs = 0 := by
  rw [← Int64.toInt_inj, show (0 : Int64).toInt = 0 from by decide]
  omega
theorem euclid : ∀ (k i f4 f5 : Nat) (a b : Int64), b.toInt.natAbs < 2 ^ k → i + 2 * k < 100 → 2 * k < f4 → 2 * k < f5 → SQ (fun r s => r = s ∧ (r = 0 ↔ a = 0 ∧ b = 0)) (f_X4_commonDivisor_9 f4 a b (nI i)) (f_X5_divisor_6 f5 a b) := by
  intro k
  induction k with
  | zero =>
    intro i f4 f5 a b hb hi h4 h5
    obtain ⟨f4, rfl⟩ : ∃ f2, f4 = f2 + 1 := ⟨f4 - 1, by omega⟩
    obtain ⟨f5, rfl⟩ : ∃ f2, f5 = f2 + 1 := ⟨f5 - 1, by omega⟩
    have h0 : b = 0 := abs0.mpr (by omega)
    rw [e_X4_commonDivisor_9, e_X5_divisor_6, if_neg (show ¬ (100 : Int32) ≤ nI i from nI_ge (a := i) (b := 100) (by omega) (by omega)), if_pos ((lcmp0 b).mpr h0), if_pos ((lcmp0 b).mpr h0)]
    exact ⟨_, _, rfl, rfl, rfl, fun h => ⟨h, h0⟩, fun h => h.1⟩
  | succ k ih =>
    intro i f4 f5 a b hb hi h4 h5
    obtain ⟨f4, rfl⟩ : ∃ f2, f4 = f2 + 1 + 1 := ⟨f4 - 2, by omega⟩
    obtain ⟨f5, rfl⟩ : ∃ f2, f5 = f2 + 1 + 1 := ⟨f5 - 2, by omega⟩
    rw [e_X4_commonDivisor_9, e_X5_divisor_6, if_neg (show ¬ (100 : Int32) ≤ nI i from nI_ge (a := i) (b := 100) (by omega) (by omega))]
    by_cases h0 : b = 0
    · rw [if_pos ((lcmp0 b).mpr h0), if_pos ((lcmp0 b).mpr h0)]
      exact ⟨_, _, rfl, rfl, rfl, fun h => ⟨h, h0⟩, fun h => h.1⟩
    · have hg : ∀ {x : Option Int64}, gzl b x = x := by intro x; unfold gzl; rw [if_neg h0]
      rw [if_neg (fun z => h0 ((lcmp0 b).mp z)), if_neg (fun z => h0 ((lcmp0 b).mp z)), hg, hg, ← nI_succ, e_X4_commonDivisor_9, e_X5_divisor_6, if_neg (show ¬ (100 : Int32) ≤ nI (i + 1) from nI_ge (a := i + 1) (b := 100) (by omega) (by omega))]
      have hb0 : 0 < b.toInt.natAbs := by
        have := mt abs0.mpr h0
        omega
      have hr := remL_abs a b
      have hlt : a.toInt.natAbs % b.toInt.natAbs < b.toInt.natAbs := Nat.mod_lt _ hb0
      by_cases h1 : remL a b = 0
      · rw [if_pos ((lcmp0 _).mpr h1), if_pos ((lcmp0 _).mpr h1)]
        exact ⟨_, _, rfl, rfl, rfl, fun h => absurd h h0, fun h => h.2⟩
      · have hg1 : ∀ {x : Option Int64}, gzl (remL a b) x = x := by intro x; unfold gzl; rw [if_neg h1]
        rw [if_neg (fun z => h1 ((lcmp0 _).mp z)), if_neg (fun z => h1 ((lcmp0 _).mp z)), hg1, hg1, ← nI_succ]
        have hr1 : 0 < (remL a b).toInt.natAbs := by
          have := mt abs0.mpr h1
          omega
        have hr2 := remL_abs b (remL a b)
        have hlt2 : b.toInt.natAbs % (remL a b).toInt.natAbs < (remL a b).toInt.natAbs := Nat.mod_lt _ hr1
        have hdm := Nat.mod_add_div b.toInt.natAbs (remL a b).toInt.natAbs
        have hq : 1 ≤ b.toInt.natAbs / (remL a b).toInt.natAbs := (Nat.one_le_div_iff hr1).mpr (by omega)
        have hge : (remL a b).toInt.natAbs ≤ (remL a b).toInt.natAbs * (b.toInt.natAbs / (remL a b).toInt.natAbs) := Nat.le_mul_of_pos_right _ hq
        have hp : 2 ^ (k + 1) = 2 * 2 ^ k := by rw [Nat.pow_succ, Nat.mul_comm]
        obtain ⟨r, s, e4, e5, e, z⟩ := ih (i + 1 + 1) f4 f5 (remL a b) (remL b (remL a b)) (by omega) (by omega) (by omega) (by omega)
        refine ⟨r, s, e4, e5, e, fun h => absurd (z.mp h).1 h1, fun h => absurd h.2 h0⟩
theorem k_div {a b : Int64} (hb : b.toInt.natAbs < 2 ^ 40) : SQ (fun r s => r = s ∧ (r = 0 ↔ a = 0 ∧ b = 0)) (f_X4_commonDivisor a b) (f_X5_divisor a b) := by
  unfold f_X4_commonDivisor f_X5_divisor
  exact euclid 40 0 FU FU a b hb (by omega) (FU_gt (by omega)) (FU_gt (by omega))
theorem k_least {a b : Int64} (hb : b.toInt.natAbs < 2 ^ 40) (h0 : ¬ b = 0) (x : Int32) : SQ Eq (f_X4_inLeastTerms a b x) (f_X5_partOf a b x) := by
  obtain ⟨r, s, e4, e5, e, z⟩ := k_div (a := a) hb
  subst e
  have hr : ¬ r = 0 := fun h => h0 (z.mp h).2
  have hg : ∀ {x : Option Int64}, gzl r x = x := by intro x; unfold gzl; rw [if_neg hr]
  unfold f_X4_inLeastTerms f_X5_partOf f_X4_inLeastTerms_28 f_X5_partOf_10
  rw [e4, e5]
  simp (decide := true) only [Option.bind_some, if_true, if_false]
  rw [if_neg (fun h => hr ((lcmp0 r).mp h)), hg, hg]
  by_cases hx : x = 0
  · rw [if_pos hx]; exact ⟨_, _, rfl, rfl, rfl⟩
  · rw [if_neg hx]; exact ⟨_, _, rfl, rfl, rfl⟩
section KC
variable {n : Nat} {size year : Int32} {kinds figures styles fames writing order enders : Nat → Int32} {mw my : Int32} {kind figure style fame silent ring r4 r5 : Nat → Int32}
theorem sE_ex (hn : n ≤ 7) (hM : PM n ring) {w e : Nat} (hw : w < n) (he : e < n) (hne : w ≠ e) (hs : silent w = 0) : ∃ x, sE n silent ring e = some x := by
  cases hx : sE n silent ring e with
  | some x => exact ⟨x, rfl⟩
  | none =>
    exfalso
    have h9 := sE_none hn hM he hx
    obtain ⟨hp, hrp, -⟩ := pl_spec hM he
    obtain ⟨hq, hrq, -⟩ := pl_spec hM hw
    have hpq := sw_pl hn hM he hw (Ne.symm hne)
    unfold sEn sEnK at h9
    generalize sPl n ring e = p at *
    generalize sPl n ring w = q at *
    cases hf : ff (fun k => silent (ring ((p + k) % n)).toNatClampNeg == 0) (n - 1) 1 with
    | some k =>
      rw [hf] at h9
      dsimp only at h9
      obtain ⟨v, hv, e2⟩ := hM.1 _ (Nat.mod_lt (p + k) (show 0 < n by omega))
      rw [e2] at h9
      exact nI_m9 (w := v) (by omega) h9.symm
    | none =>
      have key : ∀ k, 1 ≤ k → k < n → (p + k) % n = q → False := by
        intro k h1 h2 h3
        have := ff_none hf k h1 (by omega)
        rw [h3, hrq, nI_clamp (by omega), hs] at this
        exact absurd this (by decide)
      rcases Nat.lt_or_ge p q with h | h
      · exact key (q - p) (by omega) (by omega) (by rw [show p + (q - p) = q by omega, Nat.mod_eq_of_lt hq])
      · exact key (q + n - p) (by omega) (by omega) (by rw [show p + (q + n - p) = q + n by omega, Nat.add_mod_right, Nat.mod_eq_of_lt hq])
theorem chain_loop (hG : GR n size year kinds figures styles fames writing order enders mw my kind figure style fame silent ring) (hR : RR r4 r5) : ∀ (d m v f4 f5 : Nat), pcn m + d = 7 → d < f4 → d < f5 → m < 128 → v < n → sIs n silent ring v = true → SQ QR (f_X4_chain_37 enders (fun v2 => f_X4_chain_80 v2 r4) f4 (nI m) (nI v) (nI (pcn m))) (f_X5_chain_28 mw silent ring (fun v2 => f_X5_chain_51 v2 r5) f5 (nI m) (nI v)) := by
  obtain ⟨hn, rfl, rfl, rfl, hM, hW⟩ := id hG
  intro d
  induction d with
  | zero =>
    intro m v f4 f5 hd h4 h5 hm hv hI
    obtain ⟨f4, rfl⟩ : ∃ f2, f4 = f2 + 1 := ⟨f4 - 1, by omega⟩
    obtain ⟨f5, rfl⟩ : ∃ f2, f5 = f2 + 1 := ⟨f5 - 1, by omega⟩
    have hb : m / 2 ^ v % 2 = 1 := by
      rcases Nat.mod_two_eq_zero_or_one (m / 2 ^ v) with h | h
      · have := (bit_put hm (show v < 7 by omega) h).2.2.2
        omega
      · exact h
    rw [e_X4_chain_37, e_X5_chain_28, if_pos (show (7 : Int32) ≤ nI (pcn m) from nI_le (a := 7) (by omega) (by omega))]
    unfold f_X5_has f_X4_chain_80 f_X5_chain_51
    rw [bit_at hm (by omega), hb, if_pos (by decide), bits_eq hm]
    exact ⟨_, _, rfl, rfl, rfl, hR⟩
  | succ d ih =>
    intro m v f4 f5 hd h4 h5 hm hv hI
    obtain ⟨f4, rfl⟩ : ∃ f2, f4 = f2 + 1 := ⟨f4 - 1, by omega⟩
    obtain ⟨f5, rfl⟩ : ∃ f2, f5 = f2 + 1 := ⟨f5 - 1, by omega⟩
    rw [e_X4_chain_37, e_X5_chain_28, if_neg (show ¬ (7 : Int32) ≤ nI (pcn m) from nI_ge (b := 7) (by omega) (by omega)), if_neg (nI_pos (by omega))]
    unfold f_X5_has
    rw [bit_at hm (by omega)]
    rcases Nat.mod_two_eq_zero_or_one (m / 2 ^ v) with hb | hb
    · rw [hb, show nI 0 = 0 from rfl]
      simp (decide := true) only [Option.bind_some, if_true, if_false]
      obtain ⟨p1, p2, p3, -⟩ := bit_put hm (show v < 7 by omega) hb
      have hI2 := hI
      unfold sIs at hI2
      simp only [Bool.and_eq_true, beq_iff_eq] at hI2
      obtain ⟨e, he⟩ := Option.isSome_iff_exists.mp hI2.2
      obtain ⟨z1, z2, z3, z4⟩ := sE_some hn hM hv he
      rw [g3 (by omega) (by omega), hG.hE v hv, x5_enderOf hn hM hv, z1, p2]
      simp (decide := true) only [Option.bind_some, if_true, if_false]
      rw [← nI_succ, ← p3]
      refine ih (m + 2 ^ v) e f4 f5 (by omega) (by omega) (by omega) p1 z2 ?_
      obtain ⟨x, hx⟩ := sE_ex hn hM hv z2 (Ne.symm z3) hI2.1
      unfold sIs
      rw [z4, hx]
      rfl
    · rw [hb, show nI 1 = 1 from rfl]
      simp (decide := true) only [Option.bind_some, if_true, if_false]
      unfold f_X4_chain_80 f_X5_chain_51
      rw [bits_eq hm]
      exact ⟨_, _, rfl, rfl, rfl, hR⟩
theorem k_chain (hG : GR n size year kinds figures styles fames writing order enders mw my kind figure style fame silent ring) (hR : RR r4 r5) (x1 : Int32) : SQ QR (f_X4_chain size writing enders r4 x1) (f_X5_chain mw r5 silent ring x1) := by
  have hl := chain_loop hG hR
  obtain ⟨hn, rfl, rfl, rfl, hM, hW⟩ := id hG
  unfold f_X4_chain f_X5_chain
  by_cases hx : ∃ w, w < n ∧ x1 = nI w
  · obtain ⟨w, hw, rfl⟩ := hx
    rw [has_t hn hw, one_t hn hw, x0_isEnded hG hw, x5_isEnded hn hM hw]
    cases hI : sIs n silent ring w with
    | false =>
      simp (decide := true) only [Option.bind_some, if_true, if_false]
      exact ⟨_, _, rfl, rfl, rfl, hR⟩
    | true =>
      simp (decide := true) only [Option.bind_some, if_true, if_false]
      exact hl 7 0 w FU FU (by decide) (FU_gt (by omega)) (FU_gt (by omega)) (by omega) hw hI
  · rw [has_f hn hx, one_f hn hx]
    simp (decide := true) only [Option.bind_some, if_true, if_false]
    rw [rf1, no1]
    exact ⟨_, _, rfl, rfl, rfl, RR_upd hR (by omega) 1⟩
def mu (n : Nat) (silent ring : Nat → Int32) (a b : Nat) : Bool := silent a == 0 && silent b == 0 && sEn n silent ring a == nI b && sEn n silent ring b == nI a
theorem x5_areMutual (hn : n ≤ 7) (hM : PM n ring) {a b : Nat} (ha : a < n) (hb : b < n) : f_X5_areMutual (nI n) silent ring (nI a) (nI b) = some (if mu n silent ring a b = true then 1 else 0) := by
  unfold f_X5_areMutual mu
  rw [gdI (by omega) (by omega), gdI (by omega) (by omega), nI_clamp (by omega), nI_clamp (by omega), x5_enderOf hn hM ha, x5_enderOf hn hM hb]
  simp only [Option.bind_some]
  by_cases h1 : silent a = 0
  · by_cases h2 : silent b = 0
    · by_cases h3 : sEn n silent ring a = nI b
      · by_cases h4 : sEn n silent ring b = nI a
        · simp [h1, h2, h3, h4]
        · simp [h1, h2, h3, h4]
      · simp [h1, h2, h3]
    · simp [h1, h2]
  · simp [h1]
theorem x5_mutual_in {R : Type} (hn : n ≤ 7) (hM : PM n ring) {i : Nat} (hi : i < n) (K : Int32 → Option Int32) (c : Int32) : f_X5_mutual_16 (nI n) silent ring (nI i) K FU c (nI i + 1) = K (fr (fun j c => if mu n silent ring i j = true then c + 1 else c) (n - (i + 1)) (i + 1) c) := by
  rw [← nI_succ]
  refine (loopN (fun fuel v a => f_X5_mutual_16 (nI n) silent ring (nI i) K fuel a v) n (fun _ _ => True) _ K (fun fuel a _ => ?_) (fun fuel j a hj _ => ⟨?_, trivial⟩) (n - (i + 1)) (i + 1) FU c (by omega) (FU_gt (by omega)) trivial).1
  · rw [e_X5_mutual_16, if_pos (nI_le (Nat.le_refl _) (by omega))]
  · rw [e_X5_mutual_16, if_neg (nI_ge hj (by omega)), x5_areMutual hn hM hi hj, nI_succ]
    cases mu n silent ring i j with
    | true =>
      simp (decide := true) only [Option.bind_some, if_true, if_false]
      rfl
    | false =>
      simp (decide := true) only [Option.bind_some, if_true, if_false]
      unfold f_X5_mutual_39
      rw [Int32.add_zero]
theorem k_mutual (hG : GR n size year kinds figures styles fames writing order enders mw my kind figure style fame silent ring) : SQ Eq (f_X4_mutual size enders) (f_X5_mutual mw silent ring) := by
  obtain ⟨hn, rfl, rfl, rfl, hM, hW⟩ := id hG
  unfold f_X4_mutual f_X5_mutual
  refine simL (fun fuel v a => f_X4_mutual_4 (nI n) enders fuel a v) (fun fuel v a => f_X5_mutual_4 (nI n) silent ring fuel a v) n (fun _ a b => a = b) _ (fun f4 f5 a b hP => ?_) (fun f4 f5 i a b _ _ hi hP ih => ?_) n 0 FU FU 0 0 (by omega) (FU_gt (by omega)) (FU_gt (by omega)) rfl
  · rw [e_X4_mutual_4, e_X5_mutual_4, if_pos (nI_le (Nat.le_refl _) (by omega)), if_pos (nI_le (Nat.le_refl _) (by omega))]
    exact ⟨_, _, rfl, rfl, hP⟩
  · subst hP
    rw [e_X4_mutual_4, e_X5_mutual_4, if_neg (nI_ge hi (by omega)), if_neg (nI_ge hi (by omega)), x5_mutual_in (R := Int32) hn hM hi, g3 (by omega) (by omega), hG.hE i hi]
    simp (decide := true) only [Option.bind_some, if_true, if_false]
    have hno : (∀ j, i < j → j < n → mu n silent ring i j = false) → SQ Eq (f_X4_mutual_50 (f_X4_mutual_4 (nI n) enders f4) a (nI i)) (f_X5_mutual_47 (f_X5_mutual_4 (nI n) silent ring f5) (fr (fun j c => if mu n silent ring i j = true then c + 1 else c) (n - (i + 1)) (i + 1) a) (nI i)) := by
      intro h
      rw [fr_cnt0 (fun k h1 h2 => h k (by omega) (by omega))]
      exact ih a a rfl
    rcases sEn_cases (silent := silent) hn hM hi with h9 | ⟨e, he, hE, hne, hse⟩
    · rw [h9, if_pos (show (-9 : Int32) ≤ nI i from by
        rw [Int32.le_iff_toInt_le, nI_toInt (by omega)]
        have : (-9 : Int32).toInt = -9 := by decide
        omega)]
      refine hno (fun j h1 h2 => ?_)
      unfold mu
      rw [h9]
      simp [nI_m9 (w := j) (by omega)]
    · rw [hE]
      by_cases hei : e ≤ i
      · rw [if_pos (nI_le hei (by omega))]
        refine hno (fun j h1 h2 => ?_)
        unfold mu
        rw [hE]
        simp [nI_eqI (show e < 2 ^ 31 by omega) (show j < 2 ^ 31 by omega), show ¬ e = j by omega]
      · rw [if_neg (nI_ge (by omega) (by omega)), g3 (by omega) (by omega), hG.hE e he]
        simp (decide := true) only [Option.bind_some, if_true, if_false]
        by_cases hb : sEn n silent ring e = nI i
        · rw [if_pos hb, fr_cnt1 (e := e) (by omega) (by omega)]
          · exact ih _ _ rfl
          · have hsi : silent i = 0 := by
              rcases sEn_cases (silent := silent) hn hM he with h9 | ⟨e2, he2, hE2, hne2, hse2⟩
              · rw [h9] at hb; exact absurd hb (nI_m9 (w := i) (by omega))
              · rw [hE2] at hb
                have := nI_inj (by omega) (by omega) hb
                subst this
                exact hse2
            simp [mu, hsi, hse, hE, hb]
          · intro k h1 h2 h3
            unfold mu
            rw [hE]
            simp [nI_eqI (show e < 2 ^ 31 by omega) (show k < 2 ^ 31 by omega), show ¬ e = k by omega]
        · rw [if_neg hb]
          refine hno (fun j h1 h2 => ?_)
          unfold mu
          rw [hE]
          by_cases hj : e = j
          · subst hj; simp [hb]
          · simp [nI_eqI (show e < 2 ^ 31 by omega) (show j < 2 ^ 31 by omega), hj]
theorem k_mean (hG : GR n size year kinds figures styles fames writing order enders mw my kind figure style fame silent ring) (hR : RR r4 r5) (x1 : Int32) : SQ (fun r s => r.1 = s.1 ∧ RR r.2 s.2) (f_X4_mean size fames r4 x1) (f_X5_mean mw r5 fame x1) := by
  have hs := k_sum hG.1 hG.hF
  obtain ⟨hn, rfl, rfl, rfl, hM, hW⟩ := id hG
  have key : (x1 = 0 ∨ x1 = 1) → SQ (fun r s => r.1 = s.1 ∧ RR r.2 s.2) (f_X4_mean_16 (nI n) fames x1 r4) (if nI n = 0 then some (Int32.toInt64 x1, r5) else (f_X5_allOf 7 (nI n) fame).bind fun r33 => (f_X5_partOf (Int32.toInt64 r33) (Int32.toInt64 (nI n)) x1).bind fun r43 => some (r43, r5)) := by
    intro hx
    obtain ⟨r, s, e4, e5, e⟩ := hs
    subst e
    unfold f_X4_mean_16
    rw [e4, e5]
    simp (decide := true) only [Option.bind_some, if_true, if_false]
    by_cases h0 : n = 0
    · subst h0
      have hz : r = 0 := by
        have : f_X3_sumOf 7 fames (nI 0) = some 0 := by
          unfold f_X3_sumOf
          rw [show FU = 99999 + 1 from rfl, e_X3_sumOf_4, if_pos (by decide)]
        rw [this] at e4
        exact (Option.some.inj e4).symm
      subst hz
      rw [if_pos (show nI 0 = 0 from rfl)]
      have : f_X4_inLeastTerms (Int32.toInt64 0) (Int32.toInt64 (nI 0)) x1 = some (Int32.toInt64 x1) := by
        unfold f_X4_inLeastTerms f_X4_commonDivisor
        rw [show FU = 99999 + 1 from rfl, e_X4_commonDivisor_9, if_neg (by decide), if_pos (by decide)]
        simp (decide := true) only [Option.bind_some, if_true, if_false]
      rw [this]
      exact ⟨_, _, rfl, rfl, rfl, hR⟩
    · rw [if_neg (nI_ne0 (by omega) (by omega))]
      have hb : (Int32.toInt64 (nI n)).toInt = (n : Int) := by rw [Int32.toInt_toInt64, nI_toInt (by omega)]
      obtain ⟨r2, s2, z4, z5, z⟩ := k_least (a := Int32.toInt64 r) (b := Int32.toInt64 (nI n)) (by rw [hb]; omega) (fun h => by
        rw [h] at hb
        have h00 : (0 : Int64).toInt = 0 := by decide
        omega) x1
      rw [z4, z5]
      exact ⟨_, _, rfl, rfl, z, hR⟩
  unfold f_X4_mean f_X5_mean
  rcases isIn1 x1 with ⟨h0, hi⟩ | ⟨h0, hi⟩ | ⟨h0, h1, hi⟩
  · rw [hi, if_pos h0]
    simp (decide := true) only [Option.bind_some, if_true, if_false]
    exact key (Or.inl h0)
  · rw [hi, if_neg (by rw [h0]; decide), if_pos h0]
    simp (decide := true) only [Option.bind_some, if_true, if_false]
    exact key (Or.inr h0)
  · rw [hi, if_neg h0, if_neg h1, rl2]
    simp (decide := true) only [Option.bind_some, if_true, if_false]
    rw [lo2]
    exact ⟨_, _, rfl, rfl, rfl, RR_upd hR (by omega) 1⟩
theorem nI_2i (i : Nat) : (2 : Int32) * nI i = nI (2 * i) := (Int32.ofNat_mul 2 i).symm
theorem k_endedSo (hG : GR n size year kinds figures styles fames writing order enders mw my kind figure style fame silent ring) {ts rz : Int32} {told row : Nat → Int32} (hT : TR ts told rz row) {w e : Nat} (hw : w < n) (he : e < n) : SQ Eq (f_X4_wouldEndAsTold year kinds figures styles ts told (nI w) (nI e)) (f_X5_endedSo my rz kind figure style row (nI w) (nI e)) := by
  obtain ⟨hn, rfl, rfl, rfl, hM, hW⟩ := id hG
  obtain ⟨k, hk, rfl, rfl, hrow⟩ := hT
  unfold f_X4_wouldEndAsTold f_X5_endedSo
  refine simL (fun fuel v (_ : Unit) => f_X4_wouldEndAsTold_2 year kinds figures styles (nI k) told (nI w) (nI e) fuel v) (fun fuel v (_ : Unit) => f_X5_endedSo_2 year (nI k) kind figure style row (nI w) (nI e) fuel v) (k / 2) (fun _ _ _ => True) _ (fun f4 f5 a b hP => ?_) (fun f4 f5 i a b _ _ hi hP ih => ?_) (k / 2) 0 FU FU () () (by omega) (FU_gt (by omega)) (FU_gt (by omega)) trivial
  · rw [e_X4_wouldEndAsTold_2, e_X5_endedSo_2, nI_2i, ← nI_succ, if_pos (nI_le (by omega) (by omega)), if_pos (nI_le (by omega) (by omega))]
    exact ⟨_, _, rfl, rfl, rfl⟩
  · rw [e_X4_wouldEndAsTold_2, e_X5_endedSo_2, nI_2i, ← nI_succ, if_neg (nI_ge (by omega) (by omega)), if_neg (nI_ge (by omega) (by omega)), if_neg (show ¬ (16 : Int32) ≤ nI i from nI_ge (b := 16) (by omega) (by omega))]
    rw [g3 (f := styles) (by omega) (by omega), g3 (f := told) (by omega) (by omega), g3 (f := told) (by omega) (by omega), gdI (by omega) (by omega), gdI (by omega) (by omega), gdI (by omega) (by omega), nI_clamp (by omega), nI_clamp (by omega), nI_clamp (by omega)]
    unfold f_X4_opensWith f_X0_endBy
    simp (decide := true) only [Option.bind_some, if_true, if_false]
    rw [g3 (by omega) (by omega)]
    simp (decide := true) only [Option.bind_some, if_true, if_false]
    rw [g3 (by omega) (by omega)]
    simp (decide := true) only [Option.bind_some, if_true, if_false]
    rw [x4_endOfKind, x5_ends (by omega), hG.hS w hw, (hW e he).1, (hW e he).2.1, ← Int32.add_assoc, hrow _ (by omega), hrow _ (by omega)]
    simp (decide := true) only [Option.bind_some, if_true, if_false]
    by_cases h1 : row (2 * i) = remI (style w + year + nI i) 10
    · rw [if_pos h1, if_pos h1]
      by_cases h2 : row (2 * i + 1) = vEnd (kind e) (figure e) (remI (style w + year + nI i) 10)
      · rw [if_pos h2, if_pos h2]
        exact ih () () trivial
      · rw [if_neg h2, if_neg h2]
        exact ⟨_, _, rfl, rfl, rfl⟩
    · rw [if_neg h1, if_neg h1]
      exact ⟨_, _, rfl, rfl, rfl⟩
theorem k_whoEnded (hG : GR n size year kinds figures styles fames writing order enders mw my kind figure style fame silent ring) (hR : RR r4 r5) {ts rz : Int32} {told row : Nat → Int32} (hT : TR ts told rz row) (x1 : Int32) : SQ QR (f_X4_whoEnded size year kinds figures styles ts told r4 x1) (f_X5_whoEnded mw my rz r5 kind figure style row x1) := by
  have hes := @k_endedSo n size year kinds figures styles fames writing order enders mw my kind figure style fame silent ring hG ts rz told row hT
  obtain ⟨hn, rfl, rfl, rfl, hM, hW⟩ := id hG
  unfold f_X4_whoEnded f_X5_whoEnded
  by_cases hx : ∃ w, w < n ∧ x1 = nI w
  · obtain ⟨w, hw, rfl⟩ := hx
    rw [has_t hn hw, one_t hn hw]
    simp (decide := true) only [Option.bind_some, if_true, if_false]
    refine simL (fun fuel v a => f_X4_whoEnded_21 (nI n) year kinds figures styles ts told (nI w) r4 fuel a v) (fun fuel v a => f_X5_whoEnded_18 (nI n) year rz kind figure style row (nI w) r5 fuel a v) n (fun _ a b => a = b) _ (fun f4 f5 a b hP => ?_) (fun f4 f5 i a b _ _ hi hP ih => ?_) n 0 FU FU 0 0 (by omega) (FU_gt (by omega)) (FU_gt (by omega)) rfl
    · rw [e_X4_whoEnded_21, e_X5_whoEnded_18, if_pos (nI_le (Nat.le_refl _) (by omega)), if_pos (nI_le (Nat.le_refl _) (by omega)), hP]
      exact ⟨_, _, rfl, rfl, rfl, hR⟩
    · subst hP
      rw [e_X4_whoEnded_21, e_X5_whoEnded_18, if_neg (nI_ge hi (by omega)), if_neg (nI_ge hi (by omega))]
      by_cases hc : nI i = nI w
      · rw [if_pos hc, if_pos hc]
        exact ih _ _ (by rw [Int32.or_zero])
      · rw [if_neg hc, if_neg hc]
        obtain ⟨r, s, e4, e5, e⟩ := hes hw hi
        subst e
        rw [e4, e5]
        simp (decide := true) only [Option.bind_some, if_true, if_false]
        by_cases hr : r = 0
        · rw [if_pos hr, if_pos hr]
          exact ih _ _ (by rw [Int32.or_zero])
        · rw [if_neg hr, if_neg hr]
          exact ih _ _ rfl
  · rw [has_f hn hx, one_f hn hx]
    simp (decide := true) only [Option.bind_some, if_true, if_false]
    rw [rf1, no1]
    exact ⟨_, _, rfl, rfl, rfl, RR_upd hR (by omega) 1⟩
theorem k_letter {ls tz : Int32} {lt tp : Nat → Int32} (hL : LR ls lt tz tp) (hR : RR r4 r5) (x1 : Int32) : SQ (fun r s => r.1 = s.1 ∧ RR r.2.2.2 s.2.2.1 ∧ LR r.2.1 r.2.2.1 s.2.1 s.2.2.2) (f_X4_letter ls lt r4 x1) (f_X5_letter tz r5 tp x1) := by
  obtain ⟨k, hk, rfl, rfl, hrow⟩ := id hL
  unfold f_X4_letter f_X5_letter f_X5_bound f_X4_letter_33 f_X5_letter_25
  by_cases h0 : 0 ≤ x1
  · rw [if_pos h0, if_pos h0]
    by_cases h1 : x1 ≤ 255
    · rw [if_neg (Int32.not_lt.mpr h1), if_pos h1]
      simp (decide := true) only [Option.bind_some, if_true, if_false]
      by_cases hc : k = 96
      · subst hc
        rw [if_neg (show ¬ nI 96 < 96 by decide), if_pos (show nI 96 = 96 from rfl), rf6, no6]
        exact ⟨_, _, rfl, rfl, rfl, RR_upd hR (by omega) 1, hL⟩
      · unfold f_X3_push
        rw [if_pos (show nI k < 96 from Int32.not_le.mp (nI_ge (b := 96) (by omega) (by omega))), if_neg (show ¬ nI k = 96 from fun e => hc (nI_inj (b := 96) (by omega) (by omega) e)), if_neg (nI_ge (by omega) (by omega)), s3 (by omega) (by omega), gdI (by omega) (by omega), nI_clamp (by omega)]
        refine ⟨_, _, rfl, rfl, rfl, hR, k + 1, by omega, (nI_succ k).symm, (nI_succ k).symm, fun i hi => ?_⟩
        show upd lt k x1 i = upd tp k x1 i ∧ ∃ v, v < 256 ∧ upd tp k x1 i = nI v
        by_cases e : i = k
        · subst e
          obtain ⟨v, hv, rfl⟩ := i32nat0 (n := 255) h0 h1 (by omega)
          exact ⟨by rw [upd_at, upd_at], v, by omega, upd_at⟩
        · rw [upd_ne e, upd_ne e]
          exact hrow i (by omega)
    · rw [if_pos (Int32.not_le.mp h1), if_neg h1, rf6]
      simp (decide := true) only [Option.bind_some, if_true, if_false]
      rw [no6]
      exact ⟨_, _, rfl, rfl, rfl, RR_upd hR (by omega) 1, hL⟩
  · rw [if_neg h0, if_neg h0, rf4]
    simp (decide := true) only [Option.bind_some, if_true, if_false]
    rw [no4]
    exact ⟨_, _, rfl, rfl, rfl, RR_upd hR (by omega) 1, hL⟩
theorem k_row {ls tz : Int32} {lt tp : Nat → Int32} (hL : TR ls lt tz tp) (hR : RR r4 r5) (x1 : Int32) : SQ (fun r s => r.1 = s.1 ∧ RR r.2.2.2 s.2.2.1 ∧ TR r.2.1 r.2.2.1 s.2.1 s.2.2.2) (f_X4_row ls lt r4 x1) (f_X5_row tz r5 tp x1) := by
  obtain ⟨k, hk, rfl, rfl, hrow⟩ := id hL
  unfold f_X4_row f_X5_row f_X5_bound f_X4_row_29 f_X5_row_24
  by_cases h0 : 0 ≤ x1
  · rw [if_pos h0, if_pos h0]
    by_cases h1 : x1 ≤ 99
    · rw [if_neg (Int32.not_lt.mpr h1), if_pos h1]
      simp (decide := true) only [Option.bind_some, if_true, if_false]
      by_cases hc : k = 16
      · subst hc
        rw [if_neg (show ¬ nI 16 < 16 by decide), if_pos (show nI 16 = 16 from rfl), rf6, no6]
        exact ⟨_, _, rfl, rfl, rfl, RR_upd hR (by omega) 1, hL⟩
      · unfold f_X3_push
        rw [if_pos (show nI k < 16 from Int32.not_le.mp (nI_ge (b := 16) (by omega) (by omega))), if_neg (show ¬ nI k = 16 from fun e => hc (nI_inj (b := 16) (by omega) (by omega) e)), if_neg (nI_ge (by omega) (by omega)), s3 (by omega) (by omega), gdI (by omega) (by omega), nI_clamp (by omega)]
        refine ⟨_, _, rfl, rfl, rfl, hR, k + 1, by omega, (nI_succ k).symm, (nI_succ k).symm, fun i hi => ?_⟩
        show upd lt k x1 i = upd tp k x1 i
        by_cases e : i = k
        · subst e; rw [upd_at, upd_at]
        · rw [upd_ne e, upd_ne e]
          exact hrow i (by omega)
    · rw [if_pos (Int32.not_le.mp h1), if_neg h1, rf6]
      simp (decide := true) only [Option.bind_some, if_true, if_false]
      rw [no6]
      exact ⟨_, _, rfl, rfl, rfl, RR_upd hR (by omega) 1, hL⟩
  · rw [if_neg h0, if_neg h0, rf4]
    simp (decide := true) only [Option.bind_some, if_true, if_false]
    rw [no4]
    exact ⟨_, _, rfl, rfl, rfl, RR_upd hR (by omega) 1, hL⟩
end KC
