/-! PURE: the class's search of rings. -/
def updN (σ : Nat → Nat) (p w : Nat) : Nat → Nat := fun i => if i = p then w else σ i
def nin (p : Nat) (σ : Nat → Nat) (w : Nat) : Bool := (List.range p).all (fun j => σ j != w)
def lf (n p : Nat) (σ : Nat → Nat) : List Nat := (List.range n).filter (nin p σ)
/-- all that can stand in the next k places, the first by numbers first -/
def pmn (n : Nat) : Nat → Nat → (Nat → Nat) → List (Nat → Nat)
  | 0, _, σ => [σ]
  | k + 1, p, σ => (lf n p σ).flatMap (fun w => pmn n k (p + 1) (updN σ p w))
def kp (W : Nat → Nat → Int32) (s : Nat → Int32) (n : Nat) (st : Option (Int32 × (Nat → Nat))) (σ : Nat → Nat) : Option (Int32 × (Nat → Nat)) := match st with
  | none => some (tot W s n σ, σ)
  | some (m, q) => if m < tot W s n σ then some (tot W s n σ, σ) else some (m, q)
def SR (n : Nat) (st : Option (Int32 × (Nat → Nat))) (fo mo : Int32) (be : Nat → Int32) : Prop := match st with
  | none => fo = 0
  | some (m, q) => fo = 1 ∧ mo = m ∧ ∀ i, i < n → be i = nI (q i)
theorem updN_at {σ : Nat → Nat} {p w : Nat} : updN σ p w p = w := by simp [updN]
theorem updN_ne {σ : Nat → Nat} {p w i : Nat} (h : i ≠ p) : updN σ p w i = σ i := by simp [updN, h]
theorem nin_t {p : Nat} {σ : Nat → Nat} {w : Nat} : nin p σ w = true ↔ ∀ j, j < p → ¬ σ j = w := by
  unfold nin
  rw [List.all_eq_true]
  constructor
  · intro h j hj
    have := h j (List.mem_range.mpr hj)
    simpa using this
  · intro h j hj
    simpa using h j (List.mem_range.mp hj)
theorem bit_put2 {m v : Nat} (hm : m < 128) (hv : v < 7) (h0 : m / 2 ^ v % 2 = 0) {u : Nat} (hu : u < 7) : (m + 2 ^ v) / 2 ^ u % 2 = if u = v then 1 else m / 2 ^ u % 2 := by
  have h : ∀ m, m < 128 → ∀ v, v < 7 → m / 2 ^ v % 2 = 0 → ∀ u, u < 7 → (m + 2 ^ v) / 2 ^ u % 2 = if u = v then 1 else m / 2 ^ u % 2 := by decide +kernel
  exact h m hm v hv h0 u hu
theorem bit_top {m i : Nat} (hm : m < 2 ^ i) : m / 2 ^ i % 2 = 0 := by
  rw [Nat.div_eq_of_lt hm]
/-- the bits of those in the first p places -/
def PB (pm p : Nat) (σ : Nat → Nat) : Prop := pm < 128 ∧ ∀ w, w < 7 → (pm / 2 ^ w % 2 = 1 ↔ ∃ j, j < p ∧ σ j = w)
theorem PB.put {pm p : Nat} {σ : Nat → Nat} (h : PB pm p σ) {w : Nat} (hw : w < 7) (h0 : pm / 2 ^ w % 2 = 0) : PB (pm + 2 ^ w) (p + 1) (updN σ p w) := by
  refine ⟨(bit_put h.1 hw h0).1, fun u hu => ?_⟩
  rw [bit_put2 h.1 hw h0 hu]
  by_cases e : u = w
  · rw [if_pos e]
    exact ⟨fun _ => ⟨p, by omega, by rw [updN_at, e]⟩, fun _ => rfl⟩
  · rw [if_neg e, h.2 u hu]
    constructor
    · rintro ⟨j, hj, rfl⟩
      exact ⟨j, by omega, updN_ne (by omega)⟩
    · rintro ⟨j, hj, hj2⟩
      by_cases z : j = p
      · subst z; rw [updN_at] at hj2; exact absurd hj2.symm e
      · rw [updN_ne z] at hj2
        exact ⟨j, by omega, hj2⟩
def WB (n : Nat) (silent : Nat → Int32) (wb : Int32) : Prop := ∃ wm, wm < 128 ∧ wb = nI wm ∧ ∀ w, w < n → (wm / 2 ^ w % 2 = 1 ↔ silent w = 0)
section KP
variable {n : Nat} {size year : Int32} {kinds figures styles fames writing order enders : Nat → Int32} {mw my : Int32} {kind figure style fame silent ring r4 r5 : Nat → Int32}
theorem wb_spec (hG : GR n size year kinds figures styles fames writing order enders mw my kind figure style fame silent ring) : ∃ wb, f_X0_writingBits size writing = some wb ∧ WB n silent wb := by
  obtain ⟨hn, rfl, rfl, rfl, hM, hW⟩ := id hG
  have key : ∀ (d i fuel m : Nat), i + d = n → d < fuel → m < 2 ^ i → (∀ w, w < i → (m / 2 ^ w % 2 = 1 ↔ silent w = 0)) → ∃ wb, f_X0_writingBits_4 (nI n) writing fuel (nI m) (nI i) = some wb ∧ WB n silent wb := by
    intro d
    induction d with
    | zero =>
      intro i fuel m hi hf hm hb
      obtain ⟨fuel, rfl⟩ : ∃ f2, fuel = f2 + 1 := ⟨fuel - 1, by omega⟩
      obtain rfl : i = n := by omega
      have h128 : 2 ^ i ≤ 128 := Nat.pow_le_pow_right (n := 2) (by omega) (show i ≤ 7 by omega)
      rw [e_X0_writingBits_4, if_pos (nI_le (Nat.le_refl _) (by omega))]
      exact ⟨_, rfl, m, by omega, rfl, hb⟩
    | succ d ih =>
      intro i fuel m hi hf hm hb
      obtain ⟨fuel, rfl⟩ : ∃ f2, fuel = f2 + 1 := ⟨fuel - 1, by omega⟩
      have h128 : 2 ^ i ≤ 128 := Nat.pow_le_pow_right (n := 2) (by omega) (show i ≤ 7 by omega)
      have hp : 2 ^ (i + 1) = 2 * 2 ^ i := by rw [Nat.pow_succ, Nat.mul_comm]
      have ht := bit_top hm
      rw [e_X0_writingBits_4, if_neg (nI_ge (by omega) (by omega)), g3 (by omega) (by omega), (hG.hW i (by omega)).2]
      simp (decide := true) (implicitDefEqProofs := false) only [Option.bind_some, if_true, if_false]
      rw [← nI_succ]
      rcases (hG.hW i (by omega)).1 with hs | hs
      · rw [hs, show (1 : Int32) - 0 = 1 from by decide, (bit_put (by omega) (by omega) ht).2.1]
        refine ih (i + 1) fuel (m + 2 ^ i) (by omega) (by omega) (by omega) (fun w hw => ?_)
        rw [bit_put2 (by omega) (by omega) ht (show w < 7 by omega)]
        by_cases e : w = i
        · subst e; rw [if_pos rfl]; exact ⟨fun _ => hs, fun _ => rfl⟩
        · rw [if_neg e]; exact hb w (by omega)
      · rw [hs, show shlI ((1 : Int32) - 1) (nI i) = 0 from by
          have : ∀ i, i < 7 → shlI ((1 : Int32) - 1) (nI i) = 0 := by decide
          exact this i (by omega), Int32.or_zero]
        refine ih (i + 1) fuel m (by omega) (by omega) (by omega) (fun w hw => ?_)
        by_cases e : w = i
        · subst e; rw [ht, hs]; exact ⟨fun z => by omega, fun z => absurd z (by decide)⟩
        · exact hb w (by omega)
  unfold f_X0_writingBits
  exact key n 0 FU 0 (by omega) (FU_gt (by omega)) (by omega) (fun w hw => by omega)
theorem nI_7ab {a b : Nat} : (7 : Int32) * nI a + nI b = nI (7 * a + b) := by
  rw [show (7 : Int32) * nI a = nI (7 * a) from (Int32.ofNat_mul 7 a).symm, nI_addn]
theorem x2_wE {W : Nat → Nat → Int32} {worths : Nat → Int32} (hn : n ≤ 7) (hw : ∀ a b, a < n → b < n → worths (7 * a + b) = W a b) {a b : Nat} (ha : a < n) (hb : b < n) : f_X2_worthEnded worths (nI a) (nI b) = some (wE W (nI a) (nI b)) := by
  unfold f_X2_worthEnded wE
  by_cases e : nI a = nI b
  · rw [if_pos e, if_pos e]
  · rw [if_neg e, if_neg e, nI_7ab, g3 (by omega) (by omega), hw a b ha hb, nI_clamp (by omega), nI_clamp (by omega)]
    rfl
theorem ac_shape {W : Nat → Nat → Int32} {σ : Nat → Nat} : ∀ p : Nat, (∀ j, j < p → σ j < n) → ((ac W silent σ p).1 = -9 ∧ (ac W silent σ p).2.1 = -9) ∨ ∃ a b, a < n ∧ b < n ∧ (ac W silent σ p).1 = nI a ∧ (ac W silent σ p).2.1 = nI b := by
  intro p
  induction p with
  | zero => intro _; exact Or.inl ⟨rfl, rfl⟩
  | succ p ih =>
    intro h
    rw [ac]
    unfold stp
    by_cases hs : silent (σ p) = 0
    · rw [if_pos hs]
      rcases ih (fun j hj => h j (by omega)) with ⟨h1, h2⟩ | ⟨a, b, ha, hb, h1, h2⟩
      · rw [if_pos h2]
        exact Or.inr ⟨σ p, σ p, h p (by omega), h p (by omega), rfl, rfl⟩
      · by_cases h9 : (ac W silent σ p).2.1 = -9
        · rw [if_pos h9]
          exact Or.inr ⟨σ p, σ p, h p (by omega), h p (by omega), rfl, rfl⟩
        · rw [if_neg h9]
          exact Or.inr ⟨a, σ p, ha, h p (by omega), h1, rfl⟩
    · rw [if_neg hs]
      exact ih (fun j hj => h j (by omega))
theorem keep_spec {W : Nat → Nat → Int32} {σ : Nat → Nat} {st : Option (Int32 × (Nat → Nat))} {fo mo ts bs : Int32} {tr be : Nat → Int32} (h : SR n st fo mo be) (htr : ∀ i, i < n → tr i = nI (σ i)) : ∃ fo' mo' bs' be', f_X2_keepIfBetter fo mo ts tr bs be (tot W silent n σ) = some (fo', mo', bs', be') ∧ SR n (kp W silent n st σ) fo' mo' be' := by
  unfold f_X2_keepIfBetter f_X2_keepIfBetter_15 f_X3_take
  rw [if_pos (show (7 : Nat) = 7 ∧ (7 : Nat) ≤ 100 from ⟨rfl, by omega⟩)]
  cases st with
  | none =>
    have h0 : fo = 0 := h
    rw [if_pos h0]
    exact ⟨_, _, _, _, rfl, rfl, rfl, htr⟩
  | some mq =>
    obtain ⟨m, q⟩ := mq
    obtain ⟨h1, h2, h3⟩ := h
    subst h1
    subst h2
    rw [if_neg (show ¬ (1 : Int32) = 0 by decide)]
    unfold kp
    dsimp only
    by_cases hc : tot W silent n σ ≤ mo
    · rw [if_pos hc, if_neg (Int32.not_lt.mpr hc)]
      exact ⟨_, _, _, _, rfl, rfl, rfl, h3⟩
    · rw [if_neg hc, if_pos (Int32.not_le.mp hc)]
      exact ⟨_, _, _, _, rfl, rfl, rfl, htr⟩
theorem pnD_spec {W : Nat → Nat → Int32} {worths : Nat → Int32} {wb ts : Int32} (hn : n ≤ 7) (hwo : ∀ a b, a < n → b < n → worths (7 * a + b) = W a b) (hwb : WB n silent wb) : ∀ (k p d pm : Nat) (σ : Nat → Nat) (st : Option (Int32 × (Nat → Nat))) (fo mo bs : Int32) (tr be : Nat → Int32), p + k = n → k < d → (∀ j, j < p → σ j < n) → (∀ j, j < p → tr j = nI (σ j)) → PB pm p σ → SR n st fo mo be →
    ∃ fo' mo' tr' bs' be', f_X2_pnD (nI n) wb worths ts d fo mo tr bs be (nI p) (nI pm) (ac W silent σ p).1 (ac W silent σ p).2.1 (ac W silent σ p).2.2 = some (fo', mo', tr', bs', be') ∧ (∀ j, j < p → tr' j = nI (σ j)) ∧ SR n ((pmn n k p σ).foldl (kp W silent n) st) fo' mo' be' := by
  obtain ⟨wm, hwm, rfl, hwb⟩ := hwb
  intro k
  induction k with
  | zero =>
    intro p d pm σ st fo mo bs tr be hp hd hσ htr hpm hS
    obtain ⟨d, rfl⟩ : ∃ f2, d = f2 + 1 := ⟨d - 1, by omega⟩
    obtain rfl : p = n := by omega
    show ∃ fo' mo' tr' bs' be', f_X2_placeNextG (nI p) (nI wm) fo mo worths ts tr bs be (nI p) (nI pm) (ac W silent σ p).1 (ac W silent σ p).2.1 (ac W silent σ p).2.2 (f_X2_pnD (nI p) (nI wm) worths ts d) = some (fo', mo', tr', bs', be') ∧ _
    unfold f_X2_placeNextG
    have hE : f_X2_worthEnded worths (ac W silent σ p).2.1 (ac W silent σ p).1 = some (wE W (ac W silent σ p).2.1 (ac W silent σ p).1) := by
      rcases ac_shape (W := W) (silent := silent) p hσ with ⟨h1, h2⟩ | ⟨a, b, ha, hb, h1, h2⟩
      · rw [h1, h2]; rfl
      · rw [h1, h2]; exact x2_wE hn hwo hb ha
    rw [if_neg (Int32.lt_irrefl), hE]
    simp (implicitDefEqProofs := false) only [Option.bind_some]
    obtain ⟨fo', mo', bs', be', h1, h2⟩ := keep_spec (W := W) (σ := σ) (ts := ts) (bs := bs) hS htr
    unfold tot at h1
    rw [h1]
    exact ⟨_, _, _, _, _, rfl, htr, h2⟩
  | succ k ih =>
    intro p d pm σ st fo mo bs tr be hp hd hσ htr hpm hS
    obtain ⟨d, rfl⟩ : ∃ f2, d = f2 + 1 := ⟨d - 1, by omega⟩
    show ∃ fo' mo' tr' bs' be', f_X2_placeNextG (nI n) (nI wm) fo mo worths ts tr bs be (nI p) (nI pm) (ac W silent σ p).1 (ac W silent σ p).2.1 (ac W silent σ p).2.2 (f_X2_pnD (nI n) (nI wm) worths ts d) = some (fo', mo', tr', bs', be') ∧ _
    unfold f_X2_placeNextG
    rw [if_pos (Int32.not_le.mp (nI_ge (show p < n by omega) (by omega)))]
    have loop : ∀ (e i fuel : Nat) (st : Option (Int32 × (Nat → Nat))) (fo mo bs : Int32) (tr be : Nat → Int32), i + e = n → e < fuel → (∀ j, j < p → tr j = nI (σ j)) → SR n st fo mo be →
        ∃ fo' mo' tr' bs' be', f_X2_placeNextG_26 (nI n) (nI wm) worths (nI p) (nI pm) (ac W silent σ p).1 (ac W silent σ p).2.1 (ac W silent σ p).2.2 (f_X2_pnD (nI n) (nI wm) worths ts d) fuel (nI i) fo mo tr bs be = some (fo', mo', tr', bs', be') ∧ (∀ j, j < p → tr' j = nI (σ j)) ∧ SR n (((List.range' i e).filter (nin p σ)).foldl (fun st w => (pmn n k (p + 1) (updN σ p w)).foldl (kp W silent n) st) st) fo' mo' be' := by
      intro e
      induction e with
      | zero =>
        intro i fuel st fo mo bs tr be hi hf htr hS
        obtain ⟨fuel, rfl⟩ : ∃ f2, fuel = f2 + 1 := ⟨fuel - 1, by omega⟩
        rw [e_X2_placeNextG_26, if_pos (nI_le (by omega) (by omega))]
        exact ⟨_, _, _, _, _, rfl, htr, hS⟩
      | succ e ihe =>
        intro i fuel st fo mo bs tr be hi hf htr hS
        obtain ⟨fuel, rfl⟩ : ∃ f2, fuel = f2 + 1 := ⟨fuel - 1, by omega⟩
        have hin : i < n := by omega
        rw [e_X2_placeNextG_26, if_neg (nI_ge hin (by omega)), bit_at hpm.1 (by omega), bit_at hwm (by omega), List.range'_succ]
        rcases Nat.mod_two_eq_zero_or_one (pm / 2 ^ i) with hb | hb
        · have hnin : nin p σ i = true := nin_t.mpr (fun j hj hji => by
            have := (hpm.2 i (by omega)).mpr ⟨j, hj, hji⟩
            omega)
          rw [hb, if_neg (show ¬ nI 0 = 1 by decide), s3 (by omega) (by omega), List.filter_cons_of_pos hnin, List.foldl_cons, (bit_put hpm.1 (show i < 7 by omega) hb).2.1]
          simp (implicitDefEqProofs := false) only [Option.bind_some]
          rw [← nI_succ]
          -- he who is tried here
          have hac : ac W silent (updN σ p i) (p + 1) = stp W silent (ac W silent σ p) i := by
            rw [ac, updN_at, ac_congr p (fun j hj => updN_ne (by omega))]
          have hσ2 : ∀ j, j < p + 1 → updN σ p i j < n := by
            intro j hj
            by_cases z : j = p
            · subst z; rw [updN_at]; exact hin
            · rw [updN_ne z]; exact hσ j (by omega)
          have htr2 : ∀ j, j < p + 1 → upd tr p (nI i) j = nI (updN σ p i j) := by
            intro j hj
            by_cases z : j = p
            · subst z; rw [upd_at, updN_at]
            · rw [upd_ne z, updN_ne z]; exact htr j (by omega)
          obtain ⟨fo1, mo1, tr1, bs1, be1, r1, r2, r3⟩ := ih (p + 1) d (pm + 2 ^ i) (updN σ p i) st fo mo bs (upd tr p (nI i)) be (by omega) (by omega) hσ2 htr2 (hpm.put (by omega) hb) hS
          have htr3 : ∀ j, j < p → tr1 j = nI (σ j) := by
            intro j hj
            rw [r2 j (by omega), updN_ne (by omega)]
          obtain ⟨fo2, mo2, tr2, bs2, be2, u1, u2, u3⟩ := ihe (i + 1) fuel ((pmn n k (p + 1) (updN σ p i)).foldl (kp W silent n) st) fo1 mo1 bs1 tr1 be1 (by omega) (by omega) htr3 r3
          refine ⟨fo2, mo2, tr2, bs2, be2, ?_, u2, u3⟩
          rw [hac] at r1
          unfold stp at r1
          rcases Nat.mod_two_eq_zero_or_one (wm / 2 ^ i) with hw | hw
          · have hs : ¬ silent i = 0 := fun z => by
              have := (hwb i hin).mpr z
              omega
            rw [if_neg hs] at r1
            rw [hw, if_pos (show nI 0 = 0 from rfl), r1]
            simp (implicitDefEqProofs := false) only [Option.bind_some]
            unfold f_X2_placeNextG_143
            rw [← nI_succ]
            exact u1
          · have hs : silent i = 0 := (hwb i hin).mp hw
            rw [if_pos hs] at r1
            rw [hw, if_neg (show ¬ nI 1 = 0 by decide)]
            by_cases h9 : (ac W silent σ p).2.1 = -9
            · rw [if_pos h9] at r1
              rw [if_pos h9, r1]
              simp (implicitDefEqProofs := false) only [Option.bind_some]
              unfold f_X2_placeNextG_143
              rw [← nI_succ]
              exact u1
            · rw [if_neg h9] at r1
              have hE : f_X2_worthEnded worths (ac W silent σ p).2.1 (nI i) = some (wE W (ac W silent σ p).2.1 (nI i)) := by
                rcases ac_shape (W := W) (silent := silent) p hσ with ⟨h1, h2⟩ | ⟨a, b, ha, hb, h1, h2⟩
                · exact absurd h2 h9
                · rw [h2]; exact x2_wE hn hwo hb hin
              rw [if_neg h9, hE]
              simp (implicitDefEqProofs := false) only [Option.bind_some]
              rw [r1]
              simp (implicitDefEqProofs := false) only [Option.bind_some]
              unfold f_X2_placeNextG_143
              rw [← nI_succ]
              exact u1
        · have hnin : ¬ nin p σ i = true := fun z => by
            obtain ⟨j, hj, hji⟩ := (hpm.2 i (by omega)).mp hb
            exact nin_t.mp z j hj hji
          rw [hb, if_pos (show nI 1 = 1 from rfl), List.filter_cons_of_neg hnin]
          unfold f_X2_placeNextG_143
          rw [← nI_succ]
          exact ihe (i + 1) fuel st fo mo bs tr be (by omega) (by omega) htr hS
    obtain ⟨fo', mo', tr', bs', be', h1, h2, h3⟩ := loop n 0 FU st fo mo bs tr be (by omega) (FU_gt (by omega)) htr hS
    refine ⟨fo', mo', tr', bs', be', h1, h2, ?_⟩
    rw [pmn, List.foldl_flatMap]
    unfold lf
    rw [List.range_eq_range']
    exact h3
theorem fill_in (hG : GR n size year kinds figures styles fames writing order enders mw my kind figure style fame silent ring) {a : Nat} (ha : a < n) (K : (Nat → Int32) → Option (Int32 × Int32 × Int32 × Int32 × (Nat → Int32) × (Nat → Int32) × Int32 × (Nat → Int32))) : ∀ (d j fuel : Nat) (ws : Nat → Int32), j + d = n → d < fuel → ∃ ws', f_X2_seek_46 year kinds figures styles (nI n) (nI a) K fuel (nI j) ws = K ws' ∧ (∀ b, j ≤ b → b < n → ws' (7 * a + b) = sWE kind figure style my a b) ∧ ∀ x, (x < 7 * a + j ∨ 7 * a + n ≤ x) → ws' x = ws x := by
  have hn := hG.1
  intro d
  induction d with
  | zero =>
    intro j fuel ws hj hf
    obtain ⟨fuel, rfl⟩ : ∃ f2, fuel = f2 + 1 := ⟨fuel - 1, by omega⟩
    rw [e_X2_seek_46, if_pos (nI_le (by omega) (by omega))]
    exact ⟨ws, rfl, fun b h1 h2 => by omega, fun _ _ => rfl⟩
  | succ d ih =>
    intro j fuel ws hj hf
    obtain ⟨fuel, rfl⟩ : ∃ f2, fuel = f2 + 1 := ⟨fuel - 1, by omega⟩
    obtain ⟨ws', h1, h2, h3⟩ := ih (j + 1) fuel (upd ws (7 * a + j) (sWE kind figure style my a j)) (by omega) (by omega)
    refine ⟨ws', ?_, fun b hb1 hb2 => ?_, fun x hx => ?_⟩
    · rw [e_X2_seek_46, if_neg (nI_ge (by omega) (by omega)), x0_worthEndedBy hG ha (show j < n by omega)]
      simp (implicitDefEqProofs := false) only [Option.bind_some]
      rw [nI_7ab, s3 (by omega) (by omega)]
      simp (implicitDefEqProofs := false) only [Option.bind_some]
      rw [← nI_succ]
      exact h1
    · by_cases e : b = j
      · subst e
        rw [h3 _ (Or.inl (by omega)), upd_at]
      · exact h2 b (by omega) hb2
    · rw [h3 x (by omega), upd_ne (by omega)]
theorem fill_out (hG : GR n size year kinds figures styles fames writing order enders mw my kind figure style fame silent ring) (K : (Nat → Int32) → Option (Int32 × Int32 × Int32 × Int32 × (Nat → Int32) × (Nat → Int32) × Int32 × (Nat → Int32))) : ∀ (d i fuel : Nat) (ws : Nat → Int32), i + d = n → d < fuel → (∀ a b, a < i → b < n → ws (7 * a + b) = sWE kind figure style my a b) → ∃ ws', f_X2_seek_36 year kinds figures styles (nI n) K fuel (nI i) ws = K ws' ∧ ∀ a b, a < n → b < n → ws' (7 * a + b) = sWE kind figure style my a b := by
  have hn := hG.1
  intro d
  induction d with
  | zero =>
    intro i fuel ws hi hf hw
    obtain ⟨fuel, rfl⟩ : ∃ f2, fuel = f2 + 1 := ⟨fuel - 1, by omega⟩
    obtain rfl : i = n := by omega
    rw [e_X2_seek_36, if_pos (nI_le (by omega) (by omega))]
    exact ⟨ws, rfl, hw⟩
  | succ d ih =>
    intro i fuel ws hi hf hw
    obtain ⟨fuel, rfl⟩ : ∃ f2, fuel = f2 + 1 := ⟨fuel - 1, by omega⟩
    rw [e_X2_seek_36, if_neg (nI_ge (by omega) (by omega))]
    obtain ⟨ws1, h1, h2, h3⟩ := fill_in hG (show i < n by omega) (fun w => f_X2_seek_79 (f_X2_seek_36 year kinds figures styles (nI n) K fuel) (nI i) w) n 0 FU ws (by omega) (FU_gt (by omega))
    rw [show (0 : Int32) = nI 0 from rfl, h1]
    unfold f_X2_seek_79
    rw [← nI_succ]
    refine ih (i + 1) fuel ws1 (by omega) (by omega) (fun a b ha hb => ?_)
    by_cases e : a = i
    · subst e; exact h2 b (by omega) hb
    · rw [h3 _ (Or.inl (by omega)), hw a b (by omega) hb]
theorem k_seek (hG : GR n size year kinds figures styles fames writing order enders mw my kind figure style fame silent ring) (h0 : 0 < n) {h : Nat} (hh : h < n) (hr : ring 0 = nI h) (s1 s2 s3' s4 ts bs : Int32) (ws tr be : Nat → Int32) : ∃ R : Int32 × Int32 × Int32 × Int32 × (Nat → Int32) × (Nat → Int32) × Int32 × (Nat → Int32), f_X2_seek s1 s2 s3' s4 ws ts tr bs be size year kinds figures styles writing order = some R ∧ SR n ((pmn n (n - 1) 1 (fun _ => h)).foldl (kp (sWE kind figure style my) silent n) none) R.2.2.1 R.2.2.2.1 R.2.2.2.2.2.2.2 := by
  obtain ⟨wb, b1, b2⟩ := wb_spec hG
  have hn := hG.1
  have hsz := hG.2.1
  unfold f_X2_seek
  rw [b1]
  simp (implicitDefEqProofs := false) only [Option.bind_some]
  rw [hsz, if_neg (nI_ne0 h0 (by omega))]
  obtain ⟨ws', w1, w2⟩ := fill_out hG (fun w => f_X2_seek_85 ts writing order (nI n) wb 0 0 w tr bs be) n 0 FU ws (by omega) (FU_gt (by omega)) (fun a b ha => by omega)
  rw [show FU = FU from rfl]
  have w1' : f_X2_seek_36 year kinds figures styles (nI n) (fun w => f_X2_seek_85 ts writing order (nI n) wb 0 0 w tr bs be) FU 0 ws = f_X2_seek_85 ts writing order (nI n) wb 0 0 ws' tr bs be := w1
  rw [w1']
  unfold f_X2_seek_85
  have g0 : f_X3_get 7 order 0 = some (nI h) := by
    rw [show (0 : Int32) = nI 0 from rfl, g3 (by omega) (by omega), hG.hO 0 h0, hr]
  have s0 : f_X3_set 7 tr 0 (nI h) = some (upd tr 0 (nI h)) := by
    rw [show (0 : Int32) = nI 0 from rfl, s3 (by omega) (by omega)]
  rw [g0]
  simp (implicitDefEqProofs := false) only [Option.bind_some]
  rw [s0]
  simp (implicitDefEqProofs := false) only [Option.bind_some]
  rw [x0_isWriting hG hh]
  simp (implicitDefEqProofs := false) only [Option.bind_some]
  have hPB : PB (2 ^ h) 1 (fun _ => h) := by
    have hz := PB.put (pm := 0) (p := 0) (σ := fun _ => h) ⟨by omega, fun w hw => ⟨fun z => by simp at z, fun ⟨j, hj, _⟩ => by omega⟩⟩ (show h < 7 by omega) (by simp)
    rw [Nat.zero_add, Nat.zero_add] at hz
    refine ⟨hz.1, fun w hw => ?_⟩
    rw [hz.2 w hw]
    constructor
    · rintro ⟨j, hj, e⟩
      obtain rfl : j = 0 := by omega
      exact ⟨0, by omega, by rw [updN_at] at e; exact e⟩
    · rintro ⟨j, hj, e⟩
      exact ⟨0, by omega, by rw [updN_at]; exact e⟩
  obtain ⟨fo, mo, tr', bs', be', p1, -, p3⟩ := pnD_spec (ts := ts) hn w2 b2 (n - 1) 1 8 (2 ^ h) (fun _ => h) none 0 0 bs (upd tr 0 (nI h)) be (by omega) (by omega) (fun _ _ => hh) (fun j hj => by
    obtain rfl : j = 0 := by omega
    rw [upd_at]) hPB rfl
  rw [ac, ac] at p1
  unfold stp at p1
  unfold f_X2_seek_117 f_X2_placeNext
  rw [shl1 (show h < 30 by omega)]
  by_cases hs : silent h = 0
  · rw [if_pos hs, if_pos rfl] at p1
    rw [if_pos hs, if_neg (show ¬ (1 : Int32) = 0 by decide)]
    have p1' : f_X2_pnD (nI n) wb ws' ts 8 0 0 (upd tr 0 (nI h)) bs be 1 (nI (2 ^ h)) (nI h) (nI h) 0 = some (fo, mo, tr', bs', be') := p1
    rw [p1']
    exact ⟨_, rfl, p3⟩
  · rw [if_neg hs] at p1
    rw [if_neg hs, if_pos rfl]
    have p1' : f_X2_pnD (nI n) wb ws' ts 8 0 0 (upd tr 0 (nI h)) bs be 1 (nI (2 ^ h)) (-9) (-9) 0 = some (fo, mo, tr', bs', be') := p1
    rw [p1']
    exact ⟨_, rfl, p3⟩
end KP
