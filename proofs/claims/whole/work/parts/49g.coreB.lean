/-! PURE: what a call answers on both sides: bounds; reading, twos, chains, ends. -/
theorem x0_take {a b c d e f g h i j k l m o p q : Int32} {f1 f2 f3 f4 f5 f6 f7 g1 g2 g3 g4 g5 g6 g7 : Nat → Int32} {a1 a2 : Int32} : f_X0_take a b c f1 d f2 e f3 f f4 g f5 h f6 i f7 a1 a2 j g1 k g2 l g3 m g4 o g5 p g6 q g7 = some (a1, a2, j, g1, k, g2, l, g3, m, g4, o, g5, p, g6, q, g7) := rfl
theorem i32nat0 {x : Int32} {n : Nat} (h0 : 0 ≤ x) (h1 : x ≤ nI n) (hn : n + 1 < 2 ^ 31) : ∃ w, w < n + 1 ∧ x = nI w := by
  refine i32nat (Int32.not_lt.mpr h0) ?_ hn
  rw [Int32.le_iff_toInt_le, nI_toInt (by omega)] at h1
  rw [Int32.le_iff_toInt_le, nI_toInt hn]
  omega
theorem rem10 {a : Nat} (h : a < 2 ^ 31) : remI (nI a) 10 = nI (a % 10) := pk_rem (d := 10) h (by omega) (by omega)
theorem vWay_b {a b : Nat} (ha : a < 10) (hb : b < 10) : ∃ k, k < 6 ∧ vWay (nI a) (nI b) = nI k := by
  have h : ∀ a, a < 10 → ∀ b, b < 10 → ∃ k, k < 6 ∧ vWay (nI a) (nI b) = nI k := by decide +kernel
  exact h a ha b hb
theorem vEnd_b {k : Int32} {f x : Nat} (hf : f < 10) (hx : x < 10) : ∃ y, y < 10 ∧ vEnd k (nI f) (nI x) = nI y := by
  have h0 : remI (nI x + nI f) 10 = nI ((x + f) % 10) := by rw [nI_addn, rem10 (by omega)]
  have h1 : (x + f) % 10 < 10 := Nat.mod_lt _ (by omega)
  have h9 : (9 : Int32) - nI ((x + f) % 10) = nI (9 - (x + f) % 10) := nI_subn (a := 9) (by omega)
  unfold vEnd
  rw [h0, h9]
  by_cases e1 : k = 1
  · rw [if_pos e1]; exact ⟨_, by omega, rfl⟩
  rw [if_neg e1]
  by_cases e2 : k = 2
  · rw [if_pos e2]; exact ⟨0, by omega, rfl⟩
  rw [if_neg e2]
  by_cases e3 : k = 3
  · rw [if_pos e3]; exact ⟨5, by omega, rfl⟩
  rw [if_neg e3]
  by_cases e4 : k = 4
  · rw [if_pos e4]
    split
    · exact ⟨x, hx, rfl⟩
    · exact ⟨_, by omega, rfl⟩
  rw [if_neg e4]
  by_cases e5 : k = 5
  · rw [if_pos e5]
    split
    · exact ⟨9, by omega, rfl⟩
    · exact ⟨0, by omega, rfl⟩
  rw [if_neg e5]
  exact ⟨_, h1, rfl⟩
theorem BD.op {figure style : Nat → Int32} {year : Int32} (h : BD figure style year) {w : Nat} (hw : w < 7) : ∃ x, x < 10 ∧ sOp style year w = nI x := by
  obtain ⟨s, hs, e⟩ := i32nat0 (n := 9) (h.1 w hw).2.1 (h.1 w hw).2.2 (by omega)
  obtain ⟨y, hy, e2⟩ := i32nat0 (n := 999) h.2.1 h.2.2 (by omega)
  unfold sOp
  rw [e, e2, nI_addn, rem10 (by omega)]
  exact ⟨_, Nat.mod_lt _ (by omega), rfl⟩
theorem BD.fig {figure style : Nat → Int32} {year : Int32} (h : BD figure style year) {w : Nat} (hw : w < 7) : ∃ x, x < 10 ∧ figure w = nI x :=
  i32nat0 (n := 9) (h.1 w hw).1.1 (h.1 w hw).1.2 (by omega)
theorem BD.we {figure style : Nat → Int32} {year : Int32} (h : BD figure style year) (kind : Nat → Int32) {w e : Nat} (hw : w < 7) (he : e < 7) : ∃ x y k, x < 10 ∧ y < 10 ∧ k < 6 ∧ sOp style year w = nI x ∧ vEnd (kind e) (figure e) (sOp style year w) = nI y ∧ vWay (sOp style year w) (vEnd (kind e) (figure e) (sOp style year w)) = nI k ∧ sWE kind figure style year w e = 9 - 2 * nI k := by
  obtain ⟨x, hx, e1⟩ := h.op hw
  obtain ⟨f, hf, e2⟩ := h.fig he
  obtain ⟨y, hy, e3⟩ := vEnd_b (k := kind e) hf hx
  obtain ⟨k, hk, e4⟩ := vWay_b hx hy
  refine ⟨x, y, k, hx, hy, hk, e1, by rw [e1, e2, e3], by rw [e1, e2, e3, e4], ?_⟩
  unfold sWE vWorth
  rw [e1, e2, e3, e4]
theorem w_le {a b : Nat} (ha : a < 6) (hb : b < 6) : (9 : Int32) - 2 * nI a ≤ 9 - 2 * nI b ↔ b ≤ a := by
  have h : ∀ a, a < 6 → ∀ b, b < 6 → ((9 : Int32) - 2 * nI a ≤ 9 - 2 * nI b ↔ b ≤ a) := by decide +kernel
  exact h a ha b hb
theorem w_diff {a b : Nat} (ha : a < 6) (hb : b < 6) : ((9 : Int32) - 2 * nI a - (9 - 2 * nI b) ≤ 0 ↔ b ≤ a) ∧ ((0 : Int32) ≤ 9 - 2 * nI a - (9 - 2 * nI b) ↔ a ≤ b) := by
  have h : ∀ a, a < 6 → ∀ b, b < 6 → ((9 : Int32) - 2 * nI a - (9 - 2 * nI b) ≤ 0 ↔ b ≤ a) ∧ ((0 : Int32) ≤ 9 - 2 * nI a - (9 - 2 * nI b) ↔ a ≤ b) := by decide +kernel
  exact h a ha b hb
theorem lo1 {r : Nat → Int32} : f_X5_lowestOf r (-1) = some (4000000000000000000 - Int32.toInt64 (-1), upd r 1 (r 1 + 1)) := by
  unfold f_X5_lowestOf
  rw [show -(-1 : Int32) = nI 1 from by decide, gdI (by omega) (by omega), gdI (by omega) (by omega), nI_clamp (by omega)]
theorem lo2 {r : Nat → Int32} : f_X5_lowestOf r (-2) = some (4000000000000000000 - Int32.toInt64 (-2), upd r 2 (r 2 + 1)) := by
  unfold f_X5_lowestOf
  rw [show -(-2 : Int32) = nI 2 from by decide, gdI (by omega) (by omega), gdI (by omega) (by omega), nI_clamp (by omega)]
theorem lo4 {r : Nat → Int32} : f_X5_lowestOf r (-4) = some (4000000000000000000 - Int32.toInt64 (-4), upd r 4 (r 4 + 1)) := by
  unfold f_X5_lowestOf
  rw [show -(-4 : Int32) = nI 4 from by decide, gdI (by omega) (by omega), gdI (by omega) (by omega), nI_clamp (by omega)]
theorem lo6 {r : Nat → Int32} : f_X5_lowestOf r (-6) = some (4000000000000000000 - Int32.toInt64 (-6), upd r 6 (r 6 + 1)) := by
  unfold f_X5_lowestOf
  rw [show -(-6 : Int32) = nI 6 from by decide, gdI (by omega) (by omega), gdI (by omega) (by omega), nI_clamp (by omega)]
theorem rl1 {r : Nat → Int32} : f_X4_refusedAsLong r (-1) = some (4000000000000000000 - Int32.toInt64 (-1), upd r 1 (r 1 + 1)) := by
  unfold f_X4_refusedAsLong; rw [rf1]; rfl
theorem rl2 {r : Nat → Int32} : f_X4_refusedAsLong r (-2) = some (4000000000000000000 - Int32.toInt64 (-2), upd r 2 (r 2 + 1)) := by
  unfold f_X4_refusedAsLong; rw [rf2]; rfl
theorem rl4 {r : Nat → Int32} : f_X4_refusedAsLong r (-4) = some (4000000000000000000 - Int32.toInt64 (-4), upd r 4 (r 4 + 1)) := by
  unfold f_X4_refusedAsLong; rw [rf4]; rfl
theorem rl6 {r : Nat → Int32} : f_X4_refusedAsLong r (-6) = some (4000000000000000000 - Int32.toInt64 (-6), upd r 6 (r 6 + 1)) := by
  unfold f_X4_refusedAsLong; rw [rf6]; rfl
/-- 0 or 1 -/
theorem isIn1 (x : Int32) : (x = 0 ∧ f_X5_isIn x 0 1 = some 1) ∨ (x = 1 ∧ f_X5_isIn x 0 1 = some 1) ∨ (¬ x = 0 ∧ ¬ x = 1 ∧ f_X5_isIn x 0 1 = some 0) := by
  by_cases e0 : x = 0
  · subst e0; exact Or.inl ⟨rfl, by decide⟩
  · by_cases e1 : x = 1
    · subst e1; exact Or.inr (Or.inl ⟨rfl, by decide⟩)
    · refine Or.inr (Or.inr ⟨e0, e1, ?_⟩)
      unfold f_X5_isIn
      have a0 : (0 : Int32).toInt = 0 := by decide
      have a1 : (1 : Int32).toInt = 1 := by decide
      rw [← Int32.toInt_inj, a0] at e0
      rw [← Int32.toInt_inj, a1] at e1
      by_cases h : x < 0
      · rw [if_pos h]
      · rw [if_neg h, if_pos]
        rw [Int32.lt_iff_toInt_lt] at h ⊢
        omega
section KB
variable {n : Nat} {size year : Int32} {kinds figures styles fames writing order enders : Nat → Int32} {mw my : Int32} {kind figure style fame silent ring r4 r5 : Nat → Int32}
/-- how far w's book's end is, when it is ended -/
def sFar (n : Nat) (kind figure style silent ring : Nat → Int32) (year : Int32) (w : Nat) : Int32 := vWay (sOp style year w) (sEd n kind figure style silent ring year w)
theorem BD.ended (hB : BD figure style year) (hn : n ≤ 7) (hM : PM n ring) {w : Nat} (hw : w < n) (hI : sIs n silent ring w = true) : ∃ e y k, sE n silent ring w = some e ∧ y < 10 ∧ k < 6 ∧ sEd n kind figure style silent ring year w = nI y ∧ sFar n kind figure style silent ring year w = nI k ∧ sBW n kind figure style silent ring year w = 9 - 2 * nI k := by
  unfold sIs at hI
  simp only [Bool.and_eq_true] at hI
  obtain ⟨e, he⟩ := Option.isSome_iff_exists.mp hI.2
  obtain ⟨x, y, k, hx, hy, hk, e1, e2, e3, e4⟩ := hB.we kind (show w < 7 by omega) (show e < 7 by have := (sE_some hn hM hw he).2.1; omega)
  refine ⟨e, y, k, he, hy, hk, ?_, ?_, ?_⟩
  · unfold sEd; rw [he]; exact e2
  · unfold sFar sEd; rw [he]; exact e3
  · unfold sBW; rw [he]; exact e4
theorem sWo_t {w : Nat} (hI : sIs n silent ring w = true) : sWo n kind figure style silent ring year w = sBW n kind figure style silent ring year w := by
  unfold sWo; rw [if_pos hI]
theorem k_best (hG : GR n size year kinds figures styles fames writing order enders mw my kind figure style fame silent ring) (hB : BD figure style my) : SQ (fun r s => s = (r, r5)) (f_X4_bestRead size year kinds figures styles writing enders) (f_X5_read_21 mw my kind figure style silent ring 0 r5 FU (-9) 0) := by
  obtain ⟨hn, rfl, rfl, rfl, hM, hW⟩ := id hG
  unfold f_X4_bestRead
  refine simL (fun fuel v a => f_X4_bestRead_5 (nI n) year kinds figures styles writing enders fuel a v) (fun fuel v a => f_X5_read_21 (nI n) year kind figure style silent ring 0 r5 fuel a v) n (fun i a b => a = b ∧ (a = -9 ∨ ∃ v, v < n ∧ a = nI v ∧ sIs n silent ring v = true)) _ (fun f4 f5 a b hP => ?_) (fun f4 f5 i a b _ _ hi hP ih => ?_) n 0 FU FU (-9) (-9) (by omega) (FU_gt (by omega)) (FU_gt (by omega)) ⟨rfl, Or.inl rfl⟩
  · rw [e_X4_bestRead_5, e_X5_read_21, if_pos (nI_le (Nat.le_refl _) (by omega)), if_pos (nI_le (Nat.le_refl _) (by omega)), hP.1]
    exact ⟨_, _, rfl, rfl, rfl⟩
  · obtain ⟨rfl, hP⟩ := hP
    rw [e_X4_bestRead_5, e_X5_read_21, if_neg (nI_ge hi (by omega)), if_neg (nI_ge hi (by omega)), x0_isEnded hG hi, x5_isEnded hn hM hi]
    cases hI : sIs n silent ring i with
    | false =>
      simp (decide := true) only [Option.bind_some, if_true, if_false]
      exact ih _ _ ⟨rfl, hP⟩
    | true =>
      simp (decide := true) only [Option.bind_some, if_true, if_false]
      rw [x0_worthOf hG hi, x5_bookWorth hn hM hi, sWo_t hI]
      obtain ⟨-, -, k, -, -, hk, -, -, hbw⟩ := hB.ended (kind := kind) hn hM hi hI
      rcases hP with rfl | ⟨v, hv, rfl, hIv⟩
      · simp (decide := true) only [if_true, if_false]
        unfold f_X5_read_59
        simp (decide := true) only [if_true, if_false]
        exact ih _ _ ⟨rfl, Or.inr ⟨i, hi, rfl, hI⟩⟩
      · rw [if_neg (fun e => nI_m9 (w := v) (by omega) e.symm), if_pos (nI_pos' (by omega)), x0_worthOf hG hv, x5_bookWorth hn hM hv, sWo_t hIv]
        obtain ⟨-, -, k2, -, -, hk2, -, -, hbw2⟩ := hB.ended (kind := kind) hn hM hv hIv
        simp (decide := true) only [Option.bind_some, if_true, if_false]
        unfold f_X5_read_59
        rw [if_neg (nI_pos (by omega)), if_pos rfl, hbw, hbw2]
        by_cases hc : k2 ≤ k
        · rw [if_pos ((w_le hk hk2).mpr hc), if_pos ((w_diff hk hk2).1.mpr hc)]
          exact ih _ _ ⟨rfl, Or.inr ⟨v, hv, rfl, hIv⟩⟩
        · rw [if_neg (fun z => hc ((w_le hk hk2).mp z)), if_neg (fun z => hc ((w_diff hk hk2).1.mp z))]
          exact ih _ _ ⟨rfl, Or.inr ⟨i, hi, rfl, hI⟩⟩
theorem k_worst (hG : GR n size year kinds figures styles fames writing order enders mw my kind figure style fame silent ring) (hB : BD figure style my) : SQ (fun r s => s = (r, r5)) (f_X4_worstRead size year kinds figures styles writing enders) (f_X5_read_21 mw my kind figure style silent ring 1 r5 FU (-9) 0) := by
  obtain ⟨hn, rfl, rfl, rfl, hM, hW⟩ := id hG
  unfold f_X4_worstRead
  refine simL (fun fuel v a => f_X4_worstRead_5 (nI n) year kinds figures styles writing enders fuel a v) (fun fuel v a => f_X5_read_21 (nI n) year kind figure style silent ring 1 r5 fuel a v) n (fun i a b => a = b ∧ (a = -9 ∨ ∃ v, v < n ∧ a = nI v ∧ sIs n silent ring v = true)) _ (fun f4 f5 a b hP => ?_) (fun f4 f5 i a b _ _ hi hP ih => ?_) n 0 FU FU (-9) (-9) (by omega) (FU_gt (by omega)) (FU_gt (by omega)) ⟨rfl, Or.inl rfl⟩
  · rw [e_X4_worstRead_5, e_X5_read_21, if_pos (nI_le (Nat.le_refl _) (by omega)), if_pos (nI_le (Nat.le_refl _) (by omega)), hP.1]
    exact ⟨_, _, rfl, rfl, rfl⟩
  · obtain ⟨rfl, hP⟩ := hP
    rw [e_X4_worstRead_5, e_X5_read_21, if_neg (nI_ge hi (by omega)), if_neg (nI_ge hi (by omega)), x0_isEnded hG hi, x5_isEnded hn hM hi]
    cases hI : sIs n silent ring i with
    | false =>
      simp (decide := true) only [Option.bind_some, if_true, if_false]
      exact ih _ _ ⟨rfl, hP⟩
    | true =>
      simp (decide := true) only [Option.bind_some, if_true, if_false]
      rw [x0_worthOf hG hi, x5_bookWorth hn hM hi, sWo_t hI]
      obtain ⟨-, -, k, -, -, hk, -, -, hbw⟩ := hB.ended (kind := kind) hn hM hi hI
      rcases hP with rfl | ⟨v, hv, rfl, hIv⟩
      · simp (decide := true) only [if_true, if_false]
        unfold f_X5_read_59
        simp (decide := true) only [if_true, if_false]
        exact ih _ _ ⟨rfl, Or.inr ⟨i, hi, rfl, hI⟩⟩
      · rw [if_neg (fun e => nI_m9 (w := v) (by omega) e.symm), if_pos (nI_pos' (by omega)), x0_worthOf hG hv, x5_bookWorth hn hM hv, sWo_t hIv]
        obtain ⟨-, -, k2, -, -, hk2, -, -, hbw2⟩ := hB.ended (kind := kind) hn hM hv hIv
        simp (decide := true) only [Option.bind_some, if_true, if_false]
        unfold f_X5_read_59
        rw [if_neg (nI_pos (by omega)), if_neg (show ¬ (1 : Int32) = 0 by decide), hbw, hbw2]
        by_cases hc : k ≤ k2
        · rw [if_pos ((w_le hk2 hk).mpr hc), if_pos ((w_diff hk hk2).2.mpr hc)]
          exact ih _ _ ⟨rfl, Or.inr ⟨v, hv, rfl, hIv⟩⟩
        · rw [if_neg (fun z => hc ((w_le hk2 hk).mp z)), if_neg (fun z => hc ((w_diff hk hk2).2.mp z))]
          exact ih _ _ ⟨rfl, Or.inr ⟨i, hi, rfl, hI⟩⟩
theorem k_read (hG : GR n size year kinds figures styles fames writing order enders mw my kind figure style fame silent ring) (hB : BD figure style my) (hR : RR r4 r5) (x1 : Int32) : SQ QR (f_X4_read size year kinds figures styles writing enders r4 x1) (f_X5_read mw my r5 kind figure style silent ring x1) := by
  unfold f_X4_read f_X5_read f_X4_read_16
  rcases isIn1 x1 with ⟨rfl, hi⟩ | ⟨rfl, hi⟩ | ⟨h0, h1, hi⟩
  · obtain ⟨r, s, e4, e5, e⟩ := k_best (r5 := r5) hG hB
    rw [hi]
    simp (decide := true) only [Option.bind_some, if_true, if_false]
    rw [e4, e5, e]
    exact ⟨_, _, rfl, rfl, rfl, hR⟩
  · obtain ⟨r, s, e4, e5, e⟩ := k_worst (r5 := r5) hG hB
    rw [hi]
    simp (decide := true) only [Option.bind_some, if_true, if_false]
    rw [e4, e5, e]
    exact ⟨_, _, rfl, rfl, rfl, hR⟩
  · rw [hi, if_neg h0, if_neg h1, rf2]
    simp (decide := true) only [Option.bind_some, if_true, if_false]
    rw [no2]
    exact ⟨_, _, rfl, rfl, rfl, RR_upd hR (by omega) 1⟩
theorem k_join (hG : GR n size year kinds figures styles fames writing order enders mw my kind figure style fame silent ring) (hB : BD figure style my) : SQ Eq (f_X4_join size year kinds figures styles writing enders) (f_X5_join mw my kind figure style silent ring) := by
  obtain ⟨hn, rfl, rfl, rfl, hM, hW⟩ := id hG
  have key : SQ Eq (f_X4_worstRead (nI n) year kinds figures styles writing enders) (f_X5_join (nI n) year kind figure style silent ring) := by
    unfold f_X4_worstRead f_X5_join
    refine simL (fun fuel v a => f_X4_worstRead_5 (nI n) year kinds figures styles writing enders fuel a v) (fun fuel v (a : Int32 × Int32) => f_X5_join_8 (nI n) year kind figure style silent ring fuel a.1 a.2 v) n (fun i a b => a = b.1 ∧ ((a = -9 ∧ b.2 = -9) ∨ ∃ v, v < n ∧ a = nI v ∧ sIs n silent ring v = true ∧ b.2 = sFar n kind figure style silent ring year v)) _ (fun f4 f5 a b hP => ?_) (fun f4 f5 i a b _ _ hi hP ih => ?_) n 0 FU FU (-9) (-9, -9) (by omega) (FU_gt (by omega)) (FU_gt (by omega)) ⟨rfl, Or.inl ⟨rfl, rfl⟩⟩
    · rw [e_X4_worstRead_5, e_X5_join_8, if_pos (nI_le (Nat.le_refl _) (by omega)), if_pos (nI_le (Nat.le_refl _) (by omega)), hP.1]
      exact ⟨_, _, rfl, rfl, rfl⟩
    · obtain ⟨b1, b2⟩ := b
      dsimp only at hP
      obtain ⟨rfl, hP⟩ := hP
      rw [e_X4_worstRead_5, e_X5_join_8, if_neg (nI_ge hi (by omega)), if_neg (nI_ge hi (by omega)), x0_isEnded hG hi, x5_isEnded hn hM hi]
      cases hI : sIs n silent ring i with
      | false =>
        simp (decide := true) only [Option.bind_some, if_true, if_false]
        unfold f_X5_join_42
        rw [if_neg]
        · exact ih a (a, b2) ⟨rfl, hP⟩
        · rcases hP with ⟨-, rfl⟩ | ⟨v, hv, -, hIv, rfl⟩
          · decide
          · obtain ⟨-, -, k, -, -, hk, -, hf, -⟩ := hB.ended (kind := kind) hn hM hv hIv
            rw [hf]
            have : ∀ k, k < 6 → ¬ nI k < (-9 : Int32) := by decide
            exact this k hk
      | true =>
        simp (decide := true) only [Option.bind_some, if_true, if_false]
        obtain ⟨e, y, k, he, hy, hk, hed, hf, hbw⟩ := hB.ended (kind := kind) hn hM hi hI
        rw [x5_opens (by omega), x5_endOf hn hM hi he]
        simp (decide := true) only [Option.bind_some, if_true, if_false]
        rw [x5_wayTo, x0_worthOf hG hi, sWo_t hI]
        have hfar : vWay (sOp style year i) (vEnd (kind e) (figure e) (sOp style year i)) = nI k := by
          rw [← hf]; unfold sFar sEd; rw [he]
        rw [hfar]
        simp (decide := true) only [Option.bind_some, if_true, if_false]
        unfold f_X5_join_42
        rcases hP with ⟨rfl, rfl⟩ | ⟨v, hv, rfl, hIv, rfl⟩
        · have : ∀ k, k < 6 → (-9 : Int32) < nI k := by decide
          rw [if_pos rfl, if_pos (this k hk)]
          exact ih (nI i) (nI i, nI k) ⟨rfl, Or.inr ⟨i, hi, rfl, hI, hf.symm⟩⟩
        · obtain ⟨-, -, k2, -, -, hk2, -, hf2, hbw2⟩ := hB.ended (kind := kind) hn hM hv hIv
          rw [if_neg (fun e => nI_m9 (w := v) (by omega) e.symm), x0_worthOf hG hv, sWo_t hIv, hbw, hbw2, hf2]
          simp (decide := true) only [Option.bind_some, if_true, if_false]
          by_cases hc : k ≤ k2
          · rw [if_pos ((w_le hk2 hk).mpr hc), if_neg (fun z => Int32.not_lt.mpr (nI_le hc (by omega)) z)]
            exact ih (nI v) (nI v, nI k2) ⟨rfl, Or.inr ⟨v, hv, rfl, hIv, hf2.symm⟩⟩
          · rw [if_neg (fun z => hc ((w_le hk2 hk).mp z)), if_pos (Int32.not_le.mp (nI_ge (show k2 < k by omega) (by omega)))]
            exact ih (nI i) (nI i, nI k) ⟨rfl, Or.inr ⟨i, hi, rfl, hI, hf.symm⟩⟩
  obtain ⟨r, s, e4, e5, e⟩ := key
  refine ⟨r, s, ?_, e5, e⟩
  unfold f_X4_join
  rw [e4]
  rfl
theorem k_ending (hG : GR n size year kinds figures styles fames writing order enders mw my kind figure style fame silent ring) (hR : RR r4 r5) (x1 : Int32) : SQ QR (f_X4_ending size year kinds figures styles writing enders r4 x1) (f_X5_ending mw my r5 kind figure style silent ring x1) := by
  obtain ⟨hn, rfl, rfl, rfl, hM, hW⟩ := id hG
  unfold f_X4_ending f_X5_ending f_X5_bound
  have c9 : x1 < 10 ↔ x1 ≤ 9 := by
    have a5 : (9 : Int32).toInt = 9 := by decide
    have a6 : (10 : Int32).toInt = 10 := by decide
    rw [Int32.lt_iff_toInt_lt, Int32.le_iff_toInt_le, a5, a6]
    omega
  by_cases h0 : 0 ≤ x1
  · rw [if_pos h0, if_pos h0]
    by_cases h9 : x1 ≤ 9
    · rw [if_pos (c9.mpr h9), if_pos h9]
      simp (decide := true) only [Option.bind_some, if_true, if_false]
      refine simL (fun fuel v a => f_X4_ending_28 (nI n) year kinds figures styles writing enders x1 r4 fuel a v) (fun fuel v a => f_X5_ending_23 (nI n) year kind figure style silent ring x1 r5 fuel a v) n (fun i a b => a = b) _ (fun f4 f5 a b hP => ?_) (fun f4 f5 i a b _ _ hi hP ih => ?_) n 0 FU FU 0 0 (by omega) (FU_gt (by omega)) (FU_gt (by omega)) rfl
      · rw [e_X4_ending_28, e_X5_ending_23, if_pos (nI_le (Nat.le_refl _) (by omega)), if_pos (nI_le (Nat.le_refl _) (by omega)), hP]
        exact ⟨_, _, rfl, rfl, rfl, hR⟩
      · subst hP
        rw [e_X4_ending_28, e_X5_ending_23, if_neg (nI_ge hi (by omega)), if_neg (nI_ge hi (by omega)), x0_endsOf hG hi, x5_isEnded hn hM hi]
        cases hI : sIs n silent ring i with
        | false =>
          simp (decide := true) only [Option.bind_some, if_true, if_false]
          rw [if_neg (fun e => by rw [← e] at h0; exact absurd h0 (by decide))]
          exact ih _ _ (by rw [Int32.add_zero])
        | true =>
          have hI2 := hI
          unfold sIs at hI2
          simp only [Bool.and_eq_true] at hI2
          obtain ⟨e, he⟩ := Option.isSome_iff_exists.mp hI2.2
          rw [x5_endOf hn hM hi he]
          unfold sEd
          rw [he]
          simp (decide := true) only [Option.bind_some, if_true, if_false]
          by_cases hy : vEnd (kind e) (figure e) (sOp style year i) = x1
          · rw [if_pos hy, if_pos hy]
            exact ih _ _ rfl
          · rw [if_neg hy, if_neg hy]
            exact ih _ _ (by rw [Int32.add_zero])
    · rw [if_neg (fun z => h9 (c9.mp z)), if_neg h9, rf6]
      simp (decide := true) only [Option.bind_some, if_true, if_false]
      rw [no6]
      exact ⟨_, _, rfl, rfl, rfl, RR_upd hR (by omega) 1⟩
  · rw [if_neg h0, if_neg h0, rf4]
    simp (decide := true) only [Option.bind_some, if_true, if_false]
    rw [no4]
    exact ⟨_, _, rfl, rfl, rfl, RR_upd hR (by omega) 1⟩
theorem k_judge (hG : GR n size year kinds figures styles fames writing order enders mw my kind figure style fame silent ring) (hB : BD figure style my) {ts rz : Int32} {told row : Nat → Int32} (hT : TR ts told rz row) : SQ (fun r s => r.1 = s.1 ∧ r.2 = 0 ∧ s.2 = 0) (f_X4_judge size year kinds figures styles writing enders ts told) (f_X5_judge mw my rz kind figure style silent ring row) := by
  obtain ⟨hn, rfl, rfl, rfl, hM, hW⟩ := id hG
  obtain ⟨k, hk, rfl, rfl, hrow⟩ := hT
  unfold f_X4_judge f_X5_judge
  refine simL (fun fuel v a => f_X4_judge_5 (nI n) year kinds figures styles writing enders told (nI k) (fun v1 => f_X4_judge_57 v1 (nI k)) fuel a v) (fun fuel v (_ : Unit) => f_X5_judge_12 (nI n) year kind figure style silent ring row (nI k) 0 fuel v) k (fun i a _ => a = -9) _ (fun f4 f5 a b hP => ?_) (fun f4 f5 i a b hf4 _ hi hP ih => ?_) k 0 FU FU (-9) () (by omega) (FU_gt (by omega)) (FU_gt (by omega)) rfl
  · rw [e_X4_judge_5, e_X5_judge_12, if_pos (nI_le (Nat.le_refl _) (by omega)), if_pos (nI_le (Nat.le_refl _) (by omega)), hP]
    exact ⟨_, _, rfl, rfl, rfl, rfl, rfl⟩
  · subst hP
    obtain ⟨f4, rfl⟩ : ∃ f, f4 = f + 1 := ⟨f4 - 1, by omega⟩
    have hout : ∀ f5 : Nat, SQ (fun (r s : Int32 × Int32) => r.1 = s.1 ∧ r.2 = 0 ∧ s.2 = 0) (f_X4_judge_5 (nI n) year kinds figures styles writing enders told (nI k) (fun v1 => f_X4_judge_57 v1 (nI k)) (f4 + 1) (nI i) (nI i + 1)) (some (nI i, 0)) := by
      intro f5
      rw [e_X4_judge_5, ← nI_succ]
      by_cases hz : i + 1 < k
      · rw [if_neg (nI_ge hz (by omega)), if_neg (fun e => nI_m9 (w := i) (by omega) e.symm)]
        exact ⟨_, _, rfl, rfl, rfl, rfl, rfl⟩
      · rw [if_pos (nI_le (by omega) (by omega))]
        exact ⟨_, _, rfl, rfl, rfl, rfl, rfl⟩
    rw [e_X4_judge_5, e_X5_judge_12, if_neg (nI_ge hi (by omega)), if_neg (nI_ge hi (by omega)), if_pos rfl]
    by_cases hin : i < n
    · rw [if_neg (nI_ge hin (by omega)), if_neg (nI_ge hin (by omega)), g3 (by omega) (by omega), x5_isEnded hn hM hin, hrow i hi]
      unfold f_X4_endAsJudged f_X5_judge_43
      rw [x0_endsOf hG hin]
      cases hI : sIs n silent ring i with
      | false =>
        simp (decide := true) only [Option.bind_some, if_true, if_false]
        rw [gdI (by omega) (by omega), nI_clamp (by omega)]
        by_cases hc : row i = 10
        · rw [if_pos hc, if_pos hc.symm]
          exact ih _ () rfl
        · rw [if_neg hc, if_neg (fun z => hc z.symm)]
          exact hout 0
      | true =>
        obtain ⟨e, y, kk, he, hy, -, hed, -, -⟩ := hB.ended (kind := kind) hn hM hin hI
        rw [x5_endOf hn hM hin he]
        have hed2 : vEnd (kind e) (figure e) (sOp style year i) = nI y := by rw [← hed]; unfold sEd; rw [he]
        rw [hed2, hed]
        simp (decide := true) only [Option.bind_some, if_true, if_false]
        rw [if_neg (fun e => nI_m9 (w := y) (by omega) e.symm), gdI (by omega) (by omega), nI_clamp (by omega)]
        simp (decide := true) only [Option.bind_some, if_true, if_false]
        by_cases hc : row i = nI y
        · rw [if_pos hc, if_pos hc.symm]
          exact ih _ () rfl
        · rw [if_neg hc, if_neg (fun z => hc z.symm)]
          exact hout 0
    · rw [if_pos (nI_le (by omega) (by omega)), if_pos (nI_le (by omega) (by omega))]
      exact hout 0
theorem k_same (hG : GR n size year kinds figures styles fames writing order enders mw my kind figure style fame silent ring) (hR : RR r4 r5) (x1 : Int32) : SQ QR (f_X4_same size year styles writing r4 x1) (f_X5_same mw my r5 style silent x1) := by
  obtain ⟨hn, rfl, rfl, rfl, hM, hW⟩ := id hG
  have key : SQ QR (f_X4_same_16 (nI n) year styles writing x1 r4) (f_X5_same_24 (nI n) year style silent (fun v2 v3 => f_X5_same_116 x1 v2 v3 r5) FU 0 (-9) 0) := by
    unfold f_X4_same_16
    refine simL (fun fuel v (a : Int32 × Int32) => f_X4_same_24 (nI n) year styles writing (fun v2 v3 => f_X4_same_102 x1 v2 v3 r4) fuel a.1 a.2 v) (fun fuel v (a : Int32 × Int32) => f_X5_same_24 (nI n) year style silent (fun v2 v3 => f_X5_same_116 x1 v2 v3 r5) fuel a.1 a.2 v) n (fun i a b => a = b ∧ (a.2 = -9 ∨ 0 ≤ a.2)) _ (fun f4 f5 a b hP => ?_) (fun f4 f5 i a b _ _ hi hP ih => ?_) n 0 FU FU (0, -9) (0, -9) (by omega) (FU_gt (by omega)) (FU_gt (by omega)) ⟨rfl, Or.inl rfl⟩
    · rw [e_X4_same_24, e_X5_same_24, if_pos (nI_le (Nat.le_refl _) (by omega)), if_pos (nI_le (Nat.le_refl _) (by omega)), hP.1]
      unfold f_X4_same_102 f_X5_same_116
      by_cases hc : x1 = 0
      · rw [if_pos hc, if_pos hc]; exact ⟨_, _, rfl, rfl, rfl, hR⟩
      · rw [if_neg hc, if_neg hc]; exact ⟨_, _, rfl, rfl, rfl, hR⟩
    · rw [e_X4_same_24, e_X5_same_24, if_neg (nI_ge hi (by omega)), if_neg (nI_ge hi (by omega))]
      rw [← nI_succ]
      refine simL (fun fuel v (a : Int32 × Int32) => f_X4_same_42 (nI n) year styles writing (nI i) (fun v2 v3 => f_X4_same_96 (f_X4_same_24 (nI n) year styles writing (fun v2 v3 => f_X4_same_102 x1 v2 v3 r4) f4) v2 v3 (nI i)) fuel a.1 a.2 v) (fun fuel v (a : Int32 × Int32) => f_X5_same_39 (nI n) year style silent (nI i) (fun v2 v3 => f_X5_same_110 (f_X5_same_24 (nI n) year style silent (fun v2 v3 => f_X5_same_116 x1 v2 v3 r5) f5) v2 v3 (nI i)) fuel a.1 a.2 v) n (fun _ a b => a = b ∧ (a.2 = -9 ∨ 0 ≤ a.2)) _ (fun f4 f5 a b hP => ?_) (fun f4 f5 j a b _ _ hj hP ih2 => ?_) (n - (i + 1)) (i + 1) FU FU a b (by omega) (FU_gt (by omega)) (FU_gt (by omega)) hP
      · rw [e_X4_same_42, e_X5_same_39, if_pos (nI_le (Nat.le_refl _) (by omega)), if_pos (nI_le (Nat.le_refl _) (by omega))]
        exact ih a b hP
      · obtain ⟨a1, a2⟩ := a
        obtain ⟨rfl, hP⟩ := hP
        dsimp only at hP
        rw [e_X4_same_42, e_X5_same_39, if_neg (nI_ge hj (by omega)), if_neg (nI_ge hj (by omega)), gdI (by omega) (by omega), gdI (by omega) (by omega), nI_clamp (by omega), nI_clamp (by omega)]
        unfold f_X0_openAlike
        rw [x0_isWriting hG hi, x0_isWriting hG hj, x0_opensOf hG hi, x0_opensOf hG hj, x5_opens (by omega), x5_opens (by omega)]
        rcases (hG.hW i hi).1 with si | si
        · rcases (hG.hW j hj).1 with sj | sj
          · rw [si, sj]
            simp (decide := true) only [Option.bind_some, if_true, if_false]
            by_cases hc : sOp style year i = sOp style year j
            · rw [if_pos hc, if_pos hc]
              simp (decide := true) only [Option.bind_some, if_true, if_false]
              rcases hP with rfl | h0
              · simp (decide := true) only [if_true, if_false]
                refine ih2 (a1 + 1, 10 * nI i + nI j) (a1 + 1, 10 * nI i + nI j) ⟨rfl, Or.inr ?_⟩
                have : ∀ i, i < 7 → ∀ j, j < 7 → (0 : Int32) ≤ 10 * nI i + nI j := by decide +kernel
                exact this i (by omega) j (by omega)
              · rw [if_pos h0, if_neg (fun e => by rw [e] at h0; exact absurd h0 (by decide))]
                exact ih2 (a1 + 1, a2) (a1 + 1, a2) ⟨rfl, Or.inr h0⟩
            · rw [if_neg hc, if_neg hc]
              simp (decide := true) only [Option.bind_some, if_true, if_false]
              exact ih2 (a1, a2) (a1, a2) ⟨rfl, hP⟩
          · rw [si, sj]
            simp (decide := true) only [Option.bind_some, if_true, if_false]
            exact ih2 (a1, a2) (a1, a2) ⟨rfl, hP⟩
        · rw [si]
          simp (decide := true) only [Option.bind_some, if_true, if_false]
          rw [if_pos]
          · exact ih2 (a1, a2) (a1, a2) ⟨rfl, hP⟩
          · rcases (hG.hW j hj).1 with sj | sj
            · rw [sj]; decide
            · rw [sj]; decide
  unfold f_X4_same f_X5_same
  rcases isIn1 x1 with ⟨h0, hi⟩ | ⟨h0, hi⟩ | ⟨h0, h1, hi⟩
  · rw [hi, if_pos h0]
    simp (decide := true) only [Option.bind_some, if_true, if_false]
    exact key
  · rw [hi, if_neg (by rw [h0]; decide), if_pos h0]
    simp (decide := true) only [Option.bind_some, if_true, if_false]
    exact key
  · rw [hi, if_neg h0, if_neg h1, rf2]
    simp (decide := true) only [Option.bind_some, if_true, if_false]
    rw [no2]
    exact ⟨_, _, rfl, rfl, rfl, RR_upd hR (by omega) 1⟩
end KB
