/-! PURE: the small methods of both sides, under the relation GR. -/
theorem has_t {n w : Nat} (hn : n ≤ 7) (hw : w < n) : f_X0_has (nI n) (nI w) = some 1 := by
  unfold f_X0_has
  rw [if_neg (nI_pos (by omega)), if_neg (nI_ge hw (by omega))]
theorem has_f {n : Nat} {x : Int32} (hn : n ≤ 7) (h : ¬ ∃ w, w < n ∧ x = nI w) : f_X0_has (nI n) x = some 0 := by
  unfold f_X0_has
  by_cases h0 : x < 0
  · rw [if_pos h0]
  · by_cases h1 : nI n ≤ x
    · rw [if_neg h0, if_pos h1]
    · exact absurd (i32nat h0 h1 (by omega)) h
theorem one_t {n w : Nat} (hn : n ≤ 7) (hw : w < n) : f_X5_isOne (nI n) (nI w) = some 1 := has_t hn hw
theorem one_f {n : Nat} {x : Int32} (hn : n ≤ 7) (h : ¬ ∃ w, w < n ∧ x = nI w) : f_X5_isOne (nI n) x = some 0 := has_f hn h
theorem two_eq (s a b : Int32) : f_X5_areTwo s a b = f_X0_hasTwo s a b := rfl
theorem two_t {n a b : Nat} (hn : n ≤ 7) (ha : a < n) (hb : b < n) (hab : a ≠ b) : f_X0_hasTwo (nI n) (nI a) (nI b) = some 1 := by
  unfold f_X0_hasTwo
  rw [has_t hn ha, has_t hn hb]
  simp only [Option.bind_some]
  rw [if_neg (by decide), if_neg (by decide), if_neg (fun e => hab (nI_inj (by omega) (by omega) e))]
theorem two_f {n : Nat} {x y : Int32} (hn : n ≤ 7) (h : ¬ ∃ a b, a < n ∧ b < n ∧ a ≠ b ∧ x = nI a ∧ y = nI b) : f_X0_hasTwo (nI n) x y = some 0 := by
  unfold f_X0_hasTwo
  by_cases hx : ∃ a, a < n ∧ x = nI a
  · obtain ⟨a, ha, rfl⟩ := hx
    rw [has_t hn ha]
    simp only [Option.bind_some]
    rw [if_neg (by decide)]
    by_cases hy : ∃ b, b < n ∧ y = nI b
    · obtain ⟨b, hb, rfl⟩ := hy
      rw [has_t hn hb]
      simp only [Option.bind_some]
      rw [if_neg (by decide)]
      by_cases e : nI a = nI b
      · rw [if_pos e]
      · exact absurd ⟨a, b, ha, hb, fun z => e (by rw [z]), rfl, rfl⟩ h
    · rw [has_f hn hy]
      simp
  · rw [has_f hn hx]
    simp
/-- who ends w, as a number of a writer -/
theorem sEn_cases {n : Nat} {silent ring : Nat → Int32} (hn : n ≤ 7) (hM : PM n ring) {w : Nat} (hw : w < n) : sEn n silent ring w = -9 ∨ ∃ e, e < n ∧ sEn n silent ring w = nI e ∧ e ≠ w ∧ silent e = 0 := by
  obtain ⟨hp, hr, -⟩ := pl_spec hM hw
  unfold sEn sEnK
  cases hf : ff (fun k => silent (ring ((sPl n ring w + k) % n)).toNatClampNeg == 0) (n - 1) 1 with
  | none => exact Or.inl rfl
  | some k =>
    obtain ⟨h1, h2, h3, -⟩ := ff_some hf
    obtain ⟨e, he, hre⟩ := hM.1 _ (Nat.mod_lt (sPl n ring w + k) (show 0 < n by omega))
    refine Or.inr ⟨e, he, hre, ?_, ?_⟩
    · intro z
      subst z
      have := hM.2.2 _ _ (Nat.mod_lt _ (by omega)) hp (hre.trans hr.symm)
      rcases Nat.lt_or_ge (sPl n ring e + k) n with h6 | h6
      · rw [Nat.mod_eq_of_lt h6] at this; omega
      · rw [Nat.mod_eq_sub_mod h6, Nat.mod_eq_of_lt (by omega)] at this; omega
    · rw [hre, nI_clamp (by omega)] at h3
      simpa using h3
theorem m9_lt : (-9 : Int32) < 0 := by decide
/-- what is told of w's ender: nobody, or a writer -/
def sE (n : Nat) (silent ring : Nat → Int32) (w : Nat) : Option Nat := if sEn n silent ring w < 0 then none else some (sEn n silent ring w).toNatClampNeg
theorem sE_none {n : Nat} {silent ring : Nat → Int32} (hn : n ≤ 7) (hM : PM n ring) {w : Nat} (hw : w < n) (h : sE n silent ring w = none) : sEn n silent ring w = -9 := by
  rcases sEn_cases (silent := silent) hn hM hw with e | ⟨e, he, h1, -, -⟩
  · exact e
  · unfold sE at h
    rw [h1, if_neg (nI_pos (by omega))] at h
    cases h
theorem sE_some {n : Nat} {silent ring : Nat → Int32} (hn : n ≤ 7) (hM : PM n ring) {w e : Nat} (hw : w < n) (h : sE n silent ring w = some e) : sEn n silent ring w = nI e ∧ e < n ∧ e ≠ w ∧ silent e = 0 := by
  rcases sEn_cases (silent := silent) hn hM hw with z | ⟨e2, he, h1, h2, h3⟩
  · unfold sE at h
    rw [z, if_pos m9_lt] at h
    cases h
  · unfold sE at h
    rw [h1, if_neg (nI_pos (by omega)), nI_clamp (by omega)] at h
    cases h
    exact ⟨h1, he, h2, h3⟩
def sWE (kind figure style : Nat → Int32) (year : Int32) (w e : Nat) : Int32 := vWorth (sOp style year w) (vEnd (kind e) (figure e) (sOp style year w))
/-- worth of w's book, whether he writes or not -/
def sBW (n : Nat) (kind figure style silent ring : Nat → Int32) (year : Int32) (w : Nat) : Int32 := match sE n silent ring w with
  | some e => sWE kind figure style year w e
  | none => 0
/-- is there a book of w, and is it ended -/
def sIs (n : Nat) (silent ring : Nat → Int32) (w : Nat) : Bool := silent w == 0 && (sE n silent ring w).isSome
def sWo (n : Nat) (kind figure style silent ring : Nat → Int32) (year : Int32) (w : Nat) : Int32 := if sIs n silent ring w = true then sBW n kind figure style silent ring year w else 0
/-- what w's book ends with, if somebody ends it -/
def sEd (n : Nat) (kind figure style silent ring : Nat → Int32) (year : Int32) (w : Nat) : Int32 := match sE n silent ring w with
  | some e => vEnd (kind e) (figure e) (sOp style year w)
  | none => -9
section LOWM
variable {n : Nat} {year : Int32} {kind figure style fame silent ring : Nat → Int32}
theorem x5_isEnded (hn : n ≤ 7) (hM : PM n ring) {w : Nat} (hw : w < n) : f_X5_isEnded (nI n) silent ring (nI w) = some (if sIs n silent ring w = true then 1 else 0) := by
  unfold f_X5_isEnded sIs
  rw [gdI (by omega) (by omega), nI_clamp (by omega), x5_enderOf hn hM hw]
  by_cases hs : silent w = 0
  · rw [if_pos hs]
    simp only [Option.bind_some]
    cases he : sE n silent ring w with
    | none => rw [sE_none hn hM hw he, if_pos m9_lt]; simp
    | some e => rw [(sE_some hn hM hw he).1, if_neg (nI_pos (by have := (sE_some hn hM hw he).2.1; omega))]; simp [hs]
  · rw [if_neg hs]
    simp [hs]
theorem x5_endOf (hn : n ≤ 7) (hM : PM n ring) {w e : Nat} (hw : w < n) (he : sE n silent ring w = some e) : f_X5_endOf (nI n) year kind figure style silent ring (nI w) = some (vEnd (kind e) (figure e) (sOp style year w)) := by
  obtain ⟨h1, h2, -, -⟩ := sE_some hn hM hw he
  unfold f_X5_endOf
  rw [x5_enderOf hn hM hw, h1]
  simp only [Option.bind_some]
  rw [x5_opens (by omega)]
  simp only [Option.bind_some]
  rw [x5_ends (by omega)]
  rfl
theorem x5_bookWorth (hn : n ≤ 7) (hM : PM n ring) {w : Nat} (hw : w < n) : f_X5_bookWorth (nI n) year kind figure style silent ring (nI w) = some (sBW n kind figure style silent ring year w) := by
  unfold f_X5_bookWorth sBW
  rw [x5_enderOf hn hM hw]
  simp only [Option.bind_some]
  cases he : sE n silent ring w with
  | none =>
    rw [sE_none hn hM hw he, if_neg (by decide)]
  | some e =>
    obtain ⟨h1, h2, -, -⟩ := sE_some hn hM hw he
    rw [h1, if_pos (nI_pos' (by omega)), x5_opens (by omega)]
    simp only [Option.bind_some]
    rw [x5_endOf hn hM hw he]
    simp only [Option.bind_some]
    rw [x5_worthOf]
    rfl
def sAll (n : Nat) (kind figure style silent ring : Nat → Int32) (year : Int32) : Int32 := fr (fun w a => a + sWo n kind figure style silent ring year w) n 0 0
theorem x5_allWorth (hn : n ≤ 7) (hM : PM n ring) : f_X5_allWorth (nI n) year kind figure style silent ring = some (sAll n kind figure style silent ring year) := by
  unfold f_X5_allWorth sAll
  refine (loopN (fun fuel v a => f_X5_allWorth_4 (nI n) year kind figure style silent ring fuel a v) n (fun _ _ => True) _ (fun a => some a) (fun fuel a _ => ?_) (fun fuel i a hi _ => ⟨?_, trivial⟩) n 0 FU 0 (by omega) (FU_gt (by omega)) trivial).1
  · show f_X5_allWorth_4 _ _ _ _ _ _ _ (fuel + 1) a (nI n) = _
    rw [e_X5_allWorth_4, if_pos (nI_le (Nat.le_refl _) (by omega))]
  · show f_X5_allWorth_4 _ _ _ _ _ _ _ (fuel + 1) a (nI i) = _
    rw [e_X5_allWorth_4, if_neg (nI_ge hi (by omega)), x5_isEnded hn hM hi]
    simp only [Option.bind_some]
    unfold sWo
    cases hI : sIs n silent ring i with
    | true =>
      simp only [if_true]
      rw [if_neg (by decide), x5_bookWorth hn hM hi]
      simp only [Option.bind_some, f_X5_allWorth_30, nI_succ]
    | false =>
      simp [f_X5_allWorth_30, nI_succ]
end LOWM
section LOWC
variable {n : Nat} {size year : Int32} {kinds figures styles fames writing order enders : Nat → Int32} {mw my : Int32} {kind figure style fame silent ring : Nat → Int32}
theorem x0_isWriting (hG : GR n size year kinds figures styles fames writing order enders mw my kind figure style fame silent ring) {w : Nat} (hw : w < n) : f_X0_isWriting writing (nI w) = some (if silent w = 0 then 1 else 0) := by
  obtain ⟨hn, -, -, -, -, h⟩ := hG
  obtain ⟨-, -, -, -, hs, hwr, -, -⟩ := h w hw
  unfold f_X0_isWriting
  rw [g3 (by omega) (by omega), hwr]
  rcases hs with hs | hs <;> rw [hs] <;> rfl
theorem x0_isEnded (hG : GR n size year kinds figures styles fames writing order enders mw my kind figure style fame silent ring) {w : Nat} (hw : w < n) : f_X0_isEnded writing enders (nI w) = some (if sIs n silent ring w = true then 1 else 0) := by
  unfold f_X0_isEnded sIs
  rw [x0_isWriting hG hw]
  obtain ⟨hn, -, -, -, hM, h⟩ := hG
  obtain ⟨-, -, -, -, hs, hwr, -, hen⟩ := h w hw
  simp only [Option.bind_some]
  by_cases hs0 : silent w = 0
  · rw [if_pos hs0, if_neg (by decide), g3 (by omega) (by omega), hen]
    simp only [Option.bind_some]
    cases he : sE n silent ring w with
    | none => rw [sE_none hn hM hw he, if_pos m9_lt]; simp
    | some e => rw [(sE_some hn hM hw he).1, if_neg (nI_pos (by have := (sE_some hn hM hw he).2.1; omega))]; simp [hs0]
  · rw [if_neg hs0]
    simp [hs0]
theorem x0_worthEndedBy (hG : GR n size year kinds figures styles fames writing order enders mw my kind figure style fame silent ring) {w e : Nat} (hw : w < n) (he : e < n) : f_X0_worthEndedBy year kinds figures styles (nI w) (nI e) = some (sWE kind figure style my w e) := by
  obtain ⟨hn, -, -, hy, hM, h⟩ := hG
  obtain ⟨-, -, h3, -⟩ := h w hw
  obtain ⟨h1, h2, -⟩ := h e he
  unfold f_X0_worthEndedBy f_X4_opensWith sWE sOp
  rw [g3 (by omega) (by omega)]
  simp only [Option.bind_some]
  rw [g3 (by omega) (by omega)]
  simp only [Option.bind_some]
  rw [g3 (by omega) (by omega)]
  simp only [Option.bind_some]
  rw [x4_endOfKind]
  simp only [Option.bind_some]
  rw [x4_worthBetween, h1, h2, h3, hy]
  rfl
theorem x0_worthOf (hG : GR n size year kinds figures styles fames writing order enders mw my kind figure style fame silent ring) {w : Nat} (hw : w < n) : f_X0_worthOf year kinds figures styles writing enders (nI w) = some (sWo n kind figure style silent ring my w) := by
  unfold f_X0_worthOf sWo
  rw [x0_isEnded hG hw]
  have hG2 := hG
  obtain ⟨hn, -, -, -, hM, h⟩ := hG
  obtain ⟨-, -, -, -, hs, hwr, -, hen⟩ := h w hw
  simp only [Option.bind_some]
  cases hI : sIs n silent ring w with
  | false => simp
  | true =>
    simp only [if_true]
    rw [if_neg (by decide), g3 (by omega) (by omega), hen]
    simp only [Option.bind_some]
    unfold sIs at hI
    simp only [Bool.and_eq_true] at hI
    obtain ⟨e, he⟩ := Option.isSome_iff_exists.mp hI.2
    obtain ⟨h1, h2, -, -⟩ := sE_some hn hM hw he
    rw [h1, x0_worthEndedBy hG2 hw h2]
    unfold sBW
    rw [he]
    rfl
theorem x0_allWorth (hG : GR n size year kinds figures styles fames writing order enders mw my kind figure style fame silent ring) : f_X0_allWorth size year kinds figures styles writing enders = some (sAll n kind figure style silent ring my) := by
  have hn := hG.1
  rw [hG.2.1]
  unfold f_X0_allWorth sAll
  refine (loopN (fun fuel v a => f_X0_allWorth_4 (nI n) year kinds figures styles writing enders fuel a v) n (fun _ _ => True) _ (fun a => some a) (fun fuel a _ => ?_) (fun fuel i a hi _ => ⟨?_, trivial⟩) n 0 FU 0 (by omega) (FU_gt (by omega)) trivial).1
  · show f_X0_allWorth_4 _ _ _ _ _ _ _ (fuel + 1) a (nI n) = _
    rw [e_X0_allWorth_4, if_pos (nI_le (Nat.le_refl _) (by omega))]
  · show f_X0_allWorth_4 _ _ _ _ _ _ _ (fuel + 1) a (nI i) = _
    rw [e_X0_allWorth_4, if_neg (nI_ge hi (by omega)), x0_worthOf hG hi]
    simp only [Option.bind_some, nI_succ]
theorem x0_opensOf (hG : GR n size year kinds figures styles fames writing order enders mw my kind figure style fame silent ring) {w : Nat} (hw : w < n) : f_X0_opensOf year styles (nI w) = some (sOp style my w) := by
  obtain ⟨hn, -, -, hy, hM, h⟩ := hG
  obtain ⟨-, -, h3, -⟩ := h w hw
  unfold f_X0_opensOf f_X4_opensWith sOp
  rw [g3 (by omega) (by omega), h3, hy]
  rfl
theorem x0_endsOf (hG : GR n size year kinds figures styles fames writing order enders mw my kind figure style fame silent ring) {w : Nat} (hw : w < n) : f_X0_endsOf year kinds figures styles writing enders (nI w) = some (if sIs n silent ring w = true then sEd n kind figure style silent ring my w else -9) := by
  unfold f_X0_endsOf
  rw [x0_isEnded hG hw]
  have hG2 := hG
  obtain ⟨hn, -, -, -, hM, h⟩ := hG
  obtain ⟨-, -, -, -, hs, hwr, -, hen⟩ := h w hw
  simp only [Option.bind_some]
  cases hI : sIs n silent ring w with
  | false => simp
  | true =>
    simp only [if_true]
    rw [if_neg (by decide), g3 (by omega) (by omega), hen]
    simp only [Option.bind_some]
    unfold sIs at hI
    simp only [Bool.and_eq_true] at hI
    obtain ⟨e, he⟩ := Option.isSome_iff_exists.mp hI.2
    obtain ⟨h1, h2, -, -⟩ := sE_some hn hM hw he
    rw [h1, x0_opensOf hG2 hw]
    simp only [Option.bind_some]
    unfold f_X0_endBy sEd
    obtain ⟨k1, k2, -⟩ := h e h2
    rw [g3 (by omega) (by omega)]
    simp only [Option.bind_some]
    rw [g3 (by omega) (by omega)]
    simp only [Option.bind_some]
    rw [x4_endOfKind, he, k1, k2]
    rfl
end LOWC
