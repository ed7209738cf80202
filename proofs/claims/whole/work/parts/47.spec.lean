theorem FU_gt {d : Nat} (h : d < 100000) : d < FU := h
/-! SPEC: what both sides answer, over the reference's arrays. -/
def vEnd (k f x : Int32) : Int32 := if k = 1 then 9 - remI (x + f) 10 else if k = 2 then 0 else if k = 3 then 5 else if k = 4 then (if 5 ≤ x then x else 9 - remI (x + f) 10) else if k = 5 then (if remI x 2 = 1 then 9 else 0) else remI (x + f) 10
def vGain (k : Int32) : Int32 := if k = 1 then 1 else if k = 2 then -2 else if k = 4 then 1 else if k = 5 then 2 else 0
def vWay (x y : Int32) : Int32 := if 10 - (if x ≤ y then y - x else x - y) ≤ (if x ≤ y then y - x else x - y) then 10 - (if x ≤ y then y - x else x - y) else (if x ≤ y then y - x else x - y)
def vWorth (x y : Int32) : Int32 := 9 - 2 * vWay x y
theorem x4_endOfKind (k f x : Int32) : f_X4_endOfKind k f x = some (vEnd k f x) := by
  unfold f_X4_endOfKind vEnd
  grind
theorem x4_gainOfKind (k : Int32) : f_X4_gainOfKind k = some (vGain k) := by
  unfold f_X4_gainOfKind vGain
  have e1 : (0 : Int32) - 2 = -2 := by decide
  have e2 : (0 : Int32) - 2 + 4 = 2 := by decide
  rw [e2, e1]
  grind
theorem x4_worthBetween (x y : Int32) : f_X4_worthBetween x y = some (vWorth x y) := by
  unfold f_X4_worthBetween f_X4_worthBetween_14 vWorth vWay
  grind
theorem x5_wayTo (x y : Int32) : f_X5_wayTo x y = some (vWay x y) := by
  unfold f_X5_wayTo f_X5_wayTo_14 vWay
  grind
theorem x5_worthOf (x y : Int32) : f_X5_worthOf x y = some (vWorth x y) := by
  unfold f_X5_worthOf
  rw [x5_wayTo]
  rfl
theorem x5_ends {kind figure : Nat → Int32} {w : Nat} {x : Int32} (hw : w < 7) : f_X5_ends kind figure (nI w) x = some (vEnd (kind w) (figure w) x) := by
  unfold f_X5_ends vEnd
  rw [gdI hw (by omega), gdI hw (by omega), nI_clamp (by omega)]
  grind
theorem x5_gains {kind : Nat → Int32} {w : Nat} (hw : w < 7) : f_X5_gains kind (nI w) = some (vGain (kind w)) := by
  unfold f_X5_gains vGain
  simp only [gdI hw (show 7 < 2 ^ 31 by omega), nI_clamp (show w < 2 ^ 31 by omega)]
  grind
def sOp (style : Nat → Int32) (year : Int32) (w : Nat) : Int32 := remI (style w + year) 10
theorem x5_opens {style : Nat → Int32} {year : Int32} {w : Nat} (hw : w < 7) : f_X5_opens year style (nI w) = some (sOp style year w) := by
  unfold f_X5_opens sOp
  rw [gdI hw (by omega), nI_clamp (by omega)]
theorem x4_refused {r : Nat → Int32} {x : Int32} (k : Nat) (hk : k < 7) (hx : -x = nI k) : f_X4_refused r x = some (x, upd r k (r k + 1)) := by
  unfold f_X4_refused
  rw [hx, g3 hk (by omega)]
  simp only [Option.bind_some]
  rw [s3 hk (by omega)]
  rfl
theorem x5_no {r : Nat → Int32} {x : Int32} (k : Nat) (hk : k < 7) (hx : -x = nI k) : f_X5_no r x = some (x, upd r k (r k + 1)) := by
  unfold f_X5_no
  rw [hx, gdI hk (by omega), gdI hk (by omega), nI_clamp (by omega)]
/-! the ring -/
def sPl (n : Nat) (ring : Nat → Int32) (w : Nat) : Nat := (ff (fun i => ring i == nI w) n 0).getD 0
def sEnK (n : Nat) (silent ring : Nat → Int32) (w : Nat) : Option Nat := ff (fun k => silent (ring ((sPl n ring w + k) % n)).toNatClampNeg == 0) (n - 1) 1
def sEn (n : Nat) (silent ring : Nat → Int32) (w : Nat) : Int32 := match sEnK n silent ring w with
  | some k => ring ((sPl n ring w + k) % n)
  | none => -9
def PM (n : Nat) (ring : Nat → Int32) : Prop := (∀ i, i < n → ∃ w, w < n ∧ ring i = nI w) ∧ (∀ w, w < n → ∃ i, i < n ∧ ring i = nI w) ∧ ∀ i j, i < n → j < n → ring i = ring j → i = j
def GW (n : Nat) (kinds figures styles fames writing order enders kind figure style fame silent ring : Nat → Int32) (w : Nat) : Prop := kinds w = kind w ∧ figures w = figure w ∧ styles w = style w ∧ fames w = fame w ∧ (silent w = 0 ∨ silent w = 1) ∧ writing w = 1 - silent w ∧ order w = ring w ∧ enders w = sEn n silent ring w
def GR (n : Nat) (size year : Int32) (kinds figures styles fames writing order enders : Nat → Int32) (mw my : Int32) (kind figure style fame silent ring : Nat → Int32) : Prop := n ≤ 7 ∧ size = nI n ∧ mw = nI n ∧ year = my ∧ PM n ring ∧ ∀ w, w < n → GW n kinds figures styles fames writing order enders kind figure style fame silent ring w
theorem pl_spec {n : Nat} {ring : Nat → Int32} (hM : PM n ring) {w : Nat} (hw : w < n) : sPl n ring w < n ∧ ring (sPl n ring w) = nI w ∧ ∀ k, k < sPl n ring w → ¬ ring k = nI w := by
  obtain ⟨i, hi, he⟩ := hM.2.1 w hw
  unfold sPl
  cases h : ff (fun i => ring i == nI w) n 0 with
  | none => have := ff_none h i (Nat.zero_le _) (by omega); simp [he] at this
  | some j =>
    obtain ⟨h1, h2, h3, h4⟩ := ff_some h
    exact ⟨by simpa using h2, by simpa using h3, fun k hk => by simpa using h4 k (Nat.zero_le _) hk⟩
theorem x5_placeLoop {ring : Nat → Int32} {x : Int32} {p : Nat} (hp : p < 7) (h1 : ring p = x) (h2 : ∀ k, k < p → ¬ ring k = x) : ∀ (d i fuel : Nat), i + d = p → d < fuel → f_X5_placeOf_2 ring x fuel (nI i) = some (nI p) := by
  intro d
  induction d with
  | zero =>
    intro i fuel hi hf
    obtain ⟨fuel, rfl⟩ : ∃ f2, fuel = f2 + 1 := ⟨fuel - 1, by omega⟩
    obtain rfl : i = p := by omega
    rw [e_X5_placeOf_2, gdI hp (by omega), nI_clamp (by omega), if_pos h1]
  | succ d ih =>
    intro i fuel hi hf
    obtain ⟨fuel, rfl⟩ : ∃ f2, fuel = f2 + 1 := ⟨fuel - 1, by omega⟩
    rw [e_X5_placeOf_2, gdI (by omega) (by omega), nI_clamp (by omega), if_neg (h2 i (by omega)), ← nI_succ]
    exact ih (i + 1) fuel (by omega) (by omega)
theorem x5_placeOf {n : Nat} {ring : Nat → Int32} (hn : n ≤ 7) (hM : PM n ring) {w : Nat} (hw : w < n) : f_X5_placeOf ring (nI w) = some (nI (sPl n ring w)) := by
  obtain ⟨h1, h2, h3⟩ := pl_spec hM hw
  unfold f_X5_placeOf
  rw [show (0 : Int32) = nI 0 from rfl]
  exact x5_placeLoop (by omega) h2 h3 (sPl n ring w) 0 FU (by omega) (FU_gt (by omega))
/-- the reference's ender -/
theorem x5_enderLoop {n p : Nat} {silent ring : Nat → Int32} (hn : n ≤ 7) (h0 : 0 < n) (hM : PM n ring) (hp : p < n) : ∀ (d k fuel : Nat), k + d = n → 1 ≤ k → d < fuel → f_X5_enderOf_8 (nI n) silent ring (nI p) fuel (nI k) = some (match ff (fun k => silent (ring ((p + k) % n)).toNatClampNeg == 0) d k with | some k => ring ((p + k) % n) | none => -9) := by
  intro d
  induction d with
  | zero =>
    intro k fuel hk h1 hf
    obtain ⟨fuel, rfl⟩ : ∃ f2, fuel = f2 + 1 := ⟨fuel - 1, by omega⟩
    rw [e_X5_enderOf_8, if_pos (nI_le (by omega) (by omega))]
    rfl
  | succ d ih =>
    intro k fuel hk h1 hf
    obtain ⟨fuel, rfl⟩ : ∃ f2, fuel = f2 + 1 := ⟨fuel - 1, by omega⟩
    have e1 : nI p + nI k = nI (p + k) := nI_addn p k
    have e2 : remI (nI (p + k)) (nI n) = nI ((p + k) % n) := pk_rem (by omega) h0 (by omega)
    have hlt : (p + k) % n < n := Nat.mod_lt _ h0
    obtain ⟨w, hw, hr⟩ := hM.1 _ hlt
    rw [e_X5_enderOf_8, if_neg (nI_ge (by omega) (by omega)), e1, e2, gz, if_neg (nI_ne0 h0 (by omega)), gdI (by omega) (by omega), nI_clamp (by omega), hr, gdI (by omega) (by omega), nI_clamp (by omega)]
    rw [ff]
    simp only [hr, nI_clamp (show w < 2 ^ 31 by omega)]
    by_cases hs : silent w = 0
    · rw [if_pos hs]
      simp [hs, hr]
    · rw [if_neg hs, ← nI_succ, ih (k + 1) fuel (by omega) (by omega) (by omega)]
      simp [hs]
theorem x5_enderOf {n : Nat} {silent ring : Nat → Int32} (hn : n ≤ 7) (hM : PM n ring) {w : Nat} (hw : w < n) : f_X5_enderOf (nI n) silent ring (nI w) = some (sEn n silent ring w) := by
  unfold f_X5_enderOf
  rw [x5_placeOf hn hM hw]
  simp only [Option.bind_some]
  rw [show (1 : Int32) = nI 1 from rfl]
  exact x5_enderLoop hn (by omega) hM (pl_spec hM hw).1 (n - 1) 1 FU (by omega) (by omega) (FU_gt (by omega))
/-! the class's enders -/
def sNX (n : Nat) (silent ring : Nat → Int32) (m : Nat) : Int32 := match ff (fun q => silent (ring (q % n)).toNatClampNeg == 0) (2 * n - m) m with
  | some q => ring (q % n)
  | none => -9
theorem sNX_end {n : Nat} {silent ring : Nat → Int32} : sNX n silent ring (2 * n) = -9 := by
  unfold sNX
  rw [Nat.sub_self]
  rfl
theorem sNX_step {n m : Nat} {silent ring : Nat → Int32} (h : m < 2 * n) : sNX n silent ring m = if silent (ring (m % n)).toNatClampNeg = 0 then ring (m % n) else sNX n silent ring (m + 1) := by
  unfold sNX
  rw [show 2 * n - m = (2 * n - (m + 1)) + 1 by omega, ff]
  by_cases h0 : silent (ring (m % n)).toNatClampNeg = 0
  · simp [h0]
  · simp [h0]
def sVal (n : Nat) (silent ring : Nat → Int32) (m : Nat) : Int32 := if sNX n silent ring (m + 1) = ring (m % n) then -9 else sNX n silent ring (m + 1)
theorem nI_m9 {w : Nat} (h : w < 2 ^ 31) : ¬ (-9 : Int32) = nI w := by
  intro e
  have := congrArg Int32.toInt e
  rw [nI_toInt h] at this
  have z : (-9 : Int32).toInt = -9 := by decide
  omega
theorem sEn_val {n : Nat} {silent ring : Nat → Int32} (hn : n ≤ 7) (hM : PM n ring) {w : Nat} (hw : w < n) : sEn n silent ring w = sVal n silent ring (sPl n ring w) := by
  obtain ⟨hp, hr, -⟩ := pl_spec hM hw
  generalize hpe : sPl n ring w = p at hp hr
  unfold sEn sEnK sVal
  rw [hpe, Nat.mod_eq_of_lt hp]
  cases hf : ff (fun k => silent (ring ((p + k) % n)).toNatClampNeg == 0) (n - 1) 1 with
  | some k =>
    obtain ⟨h1, h2, h3, h4⟩ := ff_some hf
    have e : sNX n silent ring (p + 1) = ring ((p + k) % n) := by
      unfold sNX
      rw [ff_eq (j := p + k) (by omega) (by omega) h3 (fun q a b => by have := h4 (q - p) (by omega) (by omega); rwa [show p + (q - p) = q by omega] at this)]
    rw [e, if_neg]
    intro z
    have := hM.2.2 _ _ (Nat.mod_lt _ (by omega)) hp z
    have h5 : p + k < 2 * n := by omega
    rcases Nat.lt_or_ge (p + k) n with h6 | h6
    · rw [Nat.mod_eq_of_lt h6] at this; omega
    · rw [Nat.mod_eq_sub_mod h6, Nat.mod_eq_of_lt (by omega)] at this; omega
  | none =>
    have hall := ff_none hf
    by_cases hs : silent (ring p).toNatClampNeg = 0
    · have e : sNX n silent ring (p + 1) = ring p := by
        unfold sNX
        rw [ff_eq (j := p + n) (by omega) (by omega) (by simp [Nat.mod_eq_of_lt hp, hs]) (fun q a b => by have := hall (q - p) (by omega) (by omega); rwa [show p + (q - p) = q by omega] at this)]
        simp [Nat.mod_eq_of_lt hp]
      rw [e, if_pos rfl]
    · have e : sNX n silent ring (p + 1) = -9 := by
        unfold sNX
        rw [ff_eqn (fun q a b => ?_)]
        rcases Nat.lt_or_ge q (p + n) with h6 | h6
        · have := hall (q - p) (by omega) (by omega)
          rwa [show p + (q - p) = q by omega] at this
        · by_cases h7 : q = p + n
          · subst h7; simp [Nat.mod_eq_of_lt hp, hs]
          · have := hall (q - n - p) (by omega) (by omega)
            rw [show p + (q - n - p) = q - n by omega] at this
            rwa [Nat.mod_eq_sub_mod (by omega)]
      rw [e]
      simp
theorem tell_loop {n : Nat} {writing order silent ring : Nat → Int32} (hn : n ≤ 7) (hM : PM n ring) (hW : ∀ w, w < n → (silent w = 0 ∨ silent w = 1) ∧ writing w = 1 - silent w) (hO : ∀ w, w < n → order w = ring w) : ∀ (m fuel : Nat) (enders : Nat → Int32), m ≤ 2 * n → m < fuel →
    ∃ E, f_X0_tellEnders_12 (nI n) writing order fuel (sNX n silent ring m) (nI m - 1) enders = some E ∧ ∀ w, w < n → (sPl n ring w < m → E w = sVal n silent ring (sPl n ring w)) ∧ (m ≤ sPl n ring w → E w = enders w) := by
  intro m
  induction m with
  | zero =>
    intro fuel enders hm hf
    obtain ⟨fuel, rfl⟩ : ∃ f2, fuel = f2 + 1 := ⟨fuel - 1, by omega⟩
    refine ⟨enders, ?_, fun w hw => ⟨fun h => by omega, fun _ => rfl⟩⟩
    rw [e_X0_tellEnders_12, if_pos (by decide)]
  | succ m ih =>
    intro fuel enders hm hf
    obtain ⟨fuel, rfl⟩ : ∃ f2, fuel = f2 + 1 := ⟨fuel - 1, by omega⟩
    have hn0 : 0 < n := by omega
    have hlt : m % n < n := Nat.mod_lt _ hn0
    obtain ⟨w, hw, hr⟩ := hM.1 _ hlt
    obtain ⟨hs, hwr⟩ := hW w hw
    have hstep := sNX_step (silent := silent) (ring := ring) (show m < 2 * n by omega)
    rw [hr, nI_clamp (by omega)] at hstep
    obtain ⟨E, hE, hE2⟩ := ih fuel (upd enders w (sVal n silent ring m)) (by omega) (by omega)
    refine ⟨E, ?_, fun w2 hw2 => ⟨fun h => ?_, fun h => ?_⟩⟩
    · have key : ∀ t1 : Int32, t1 = nI (m % n) → f_X0_tellEnders_38 writing order (f_X0_tellEnders_12 (nI n) writing order fuel) (sNX n silent ring (m + 1)) (nI m) enders t1 = some E := by
        intro t1 ht
        subst ht
        have hv : (if sNX n silent ring (m + 1) = nI w then (-9 : Int32) else sNX n silent ring (m + 1)) = sVal n silent ring m := by unfold sVal; rw [hr]
        unfold f_X0_tellEnders_38
        rw [g3 (by omega) (by omega), hO _ hlt, hr]
        simp only [Option.bind_some]
        have key2 : ∀ t2 : Int32, t2 = sVal n silent ring m → f_X0_tellEnders_58 writing (f_X0_tellEnders_12 (nI n) writing order fuel) (sNX n silent ring (m + 1)) (nI m) (nI w) enders (nI w) t2 = some E := by
          intro t2 ht2
          subst ht2
          unfold f_X0_tellEnders_58 f_X0_isWriting f_X0_tellEnders_71
          rw [s3 (by omega) (by omega)]
          simp only [Option.bind_some]
          rw [g3 (by omega) (by omega), hwr]
          simp only [Option.bind_some]
          rw [Int32.sub_eq_add_neg] at hE
          rcases hs with hs | hs
          · rw [hs] at hstep ⊢
            rw [if_pos rfl] at hstep
            rw [hstep] at hE
            simpa using hE
          · rw [hs] at hstep ⊢
            rw [if_neg (by decide)] at hstep
            rw [hstep] at hE
            simpa using hE
        by_cases hx : sNX n silent ring (m + 1) = nI w
        · rw [if_pos hx]; exact key2 _ (by rw [← hv, if_pos hx])
        · rw [if_neg hx]; exact key2 _ (by rw [← hv, if_neg hx])
      rw [e_X0_tellEnders_12, nI_sub1 (by omega), Nat.add_sub_cancel, if_neg (nI_pos (by omega))]
      by_cases hmn : n ≤ m
      · rw [if_pos (nI_le hmn (by omega))]
        refine key _ ?_
        rw [nI_subn hmn, Nat.mod_eq_sub_mod hmn, Nat.mod_eq_of_lt (by omega)]
      · rw [if_neg (nI_ge (by omega) (by omega))]
        exact key _ (by rw [Nat.mod_eq_of_lt (by omega)])
    · obtain ⟨q1, q2⟩ := hE2 w2 hw2
      by_cases e : sPl n ring w2 = m
      · rw [q2 (by omega), e]
        have : w2 = w := by
          have h3 := (pl_spec hM hw2).2.1
          have h4 := (pl_spec hM hw2).1
          rw [e] at h3 h4
          rw [Nat.mod_eq_of_lt h4, h3] at hr
          exact nI_inj (by omega) (by omega) hr
        subst this
        exact upd_at
      · exact q1 (by omega)
    · obtain ⟨q1, q2⟩ := hE2 w2 hw2
      rw [q2 (by omega)]
      refine upd_ne (fun z => ?_)
      subst z
      have h3 := (pl_spec hM hw2).2.1
      have h4 := (pl_spec hM hw2).1
      have := hM.2.2 _ _ hlt h4 (hr.trans h3.symm)
      rw [Nat.mod_eq_of_lt (by omega)] at this
      omega
theorem x0_tellEnders {n : Nat} {writing order enders silent ring : Nat → Int32} (hn : n ≤ 7) (hM : PM n ring) (hW : ∀ w, w < n → (silent w = 0 ∨ silent w = 1) ∧ writing w = 1 - silent w) (hO : ∀ w, w < n → order w = ring w) :
    ∃ E, f_X0_tellEnders (nI n) writing order enders = some E ∧ ∀ w, w < n → E w = sEn n silent ring w := by
  obtain ⟨E, h1, h2⟩ := tell_loop (silent := silent) hn hM hW hO (2 * n) FU enders (Nat.le_refl _) (FU_gt (by omega))
  refine ⟨E, ?_, fun w hw => ?_⟩
  · unfold f_X0_tellEnders
    rw [sNX_end] at h1
    have e : (2 : Int32) * nI n = nI (2 * n) := by
      have : n = 0 ∨ n = 1 ∨ n = 2 ∨ n = 3 ∨ n = 4 ∨ n = 5 ∨ n = 6 ∨ n = 7 := by omega
      rcases this with rfl | rfl | rfl | rfl | rfl | rfl | rfl | rfl <;> decide
    rw [e]
    exact h1
  · rw [(h2 w hw).1 (by have := (pl_spec hM hw).1; omega)]
    exact (sEn_val hn hM hw).symm
