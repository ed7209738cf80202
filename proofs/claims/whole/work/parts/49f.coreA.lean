/-! PURE: what a call answers on both sides: the small ones. -/
theorem isIn_cases (x m : Int32) : (f_X5_isIn x 0 m = some 1 ∧ ¬ x < 0 ∧ x ≤ m) ∨ (f_X5_isIn x 0 m = some 0 ∧ (x < 0 ∨ ¬ x ≤ m)) := by
  unfold f_X5_isIn
  by_cases h0 : x < 0
  · exact Or.inr ⟨by rw [if_pos h0], Or.inl h0⟩
  · by_cases h1 : m < x
    · exact Or.inr ⟨by rw [if_neg h0, if_pos h1], Or.inr (Int32.not_le.mpr h1)⟩
    · exact Or.inl ⟨by rw [if_neg h0, if_neg h1], h0, Int32.not_lt.mp h1⟩
theorem refBook_f {n : Nat} {y : Int32} {writing : Nat → Int32} (hn : n ≤ 7) (h : ¬ ∃ w, w < n ∧ y = nI w) (x m : Int32) : f_X4_refusalOfBook (nI n) writing y x m = some (-1) := by
  unfold f_X4_refusalOfBook
  rw [has_f hn h]
  simp
theorem lw1 {r : Nat → Int32} : f_X5_lower r (-1) = some (1000000000 - (-1), upd r 1 (r 1 + 1)) := by
  unfold f_X5_lower
  rw [show -(-1 : Int32) = nI 1 from by decide, gdI (by omega) (by omega), gdI (by omega) (by omega), nI_clamp (by omega)]
theorem lw2 {r : Nat → Int32} : f_X5_lower r (-2) = some (1000000000 - (-2), upd r 2 (r 2 + 1)) := by
  unfold f_X5_lower
  rw [show -(-2 : Int32) = nI 2 from by decide, gdI (by omega) (by omega), gdI (by omega) (by omega), nI_clamp (by omega)]
theorem lw3 {r : Nat → Int32} : f_X5_lower r (-3) = some (1000000000 - (-3), upd r 3 (r 3 + 1)) := by
  unfold f_X5_lower
  rw [show -(-3 : Int32) = nI 3 from by decide, gdI (by omega) (by omega), gdI (by omega) (by omega), nI_clamp (by omega)]
theorem lw4 {r : Nat → Int32} : f_X5_lower r (-4) = some (1000000000 - (-4), upd r 4 (r 4 + 1)) := by
  unfold f_X5_lower
  rw [show -(-4 : Int32) = nI 4 from by decide, gdI (by omega) (by omega), gdI (by omega) (by omega), nI_clamp (by omega)]
theorem rb1 {r : Nat → Int32} : f_X4_refusedAsBig r (-1) = some (1000000000 - (-1), upd r 1 (r 1 + 1)) := by
  unfold f_X4_refusedAsBig; rw [rf1]; rfl
theorem rb2 {r : Nat → Int32} : f_X4_refusedAsBig r (-2) = some (1000000000 - (-2), upd r 2 (r 2 + 1)) := by
  unfold f_X4_refusedAsBig; rw [rf2]; rfl
theorem rb3 {r : Nat → Int32} : f_X4_refusedAsBig r (-3) = some (1000000000 - (-3), upd r 3 (r 3 + 1)) := by
  unfold f_X4_refusedAsBig; rw [rf3]; rfl
theorem rb4 {r : Nat → Int32} : f_X4_refusedAsBig r (-4) = some (1000000000 - (-4), upd r 4 (r 4 + 1)) := by
  unfold f_X4_refusedAsBig; rw [rf4]; rfl
theorem BD.setStyle {figure style : Nat → Int32} {year : Int32} (h : BD figure style year) (w : Nat) {x : Int32} (h0 : 0 ≤ x) (h9 : x ≤ 9) : BD figure (upd style w x) year := by
  refine ⟨fun j hj => ⟨(h.1 j hj).1, ?_⟩, h.2⟩
  by_cases e : j = w
  · subst e; rw [upd_at]; exact ⟨h0, h9⟩
  · rw [upd_ne e]; exact (h.1 j hj).2
theorem BD.setFigure {figure style : Nat → Int32} {year : Int32} (h : BD figure style year) (w : Nat) {x : Int32} (h0 : 0 ≤ x) (h9 : x ≤ 9) : BD (upd figure w x) style year := by
  refine ⟨fun j hj => ⟨?_, (h.1 j hj).2⟩, h.2⟩
  by_cases e : j = w
  · subst e; rw [upd_at]; exact ⟨h0, h9⟩
  · rw [upd_ne e]; exact (h.1 j hj).1
/-- counted bits -/
def sBits (x : Int32) : Nat → Int32 → Int32 := fun i a => a + (shrI x (nI i) &&& 1)
theorem x5_bits (x : Int32) : f_X5_bits x = some (fr (sBits x) 31 0 0) := by
  unfold f_X5_bits
  refine (loopN (fun fuel v a => f_X5_bits_4 x fuel a v) 31 (fun _ _ => True) (sBits x) (fun a => some a) (fun fuel a _ => ?_) (fun fuel i a hi _ => ⟨?_, trivial⟩) 31 0 FU 0 (by omega) (FU_gt (by omega)) trivial).1
  · show f_X5_bits_4 x (fuel + 1) a (nI 31) = _
    rw [e_X5_bits_4, if_pos (by decide)]
  · show f_X5_bits_4 x (fuel + 1) a (nI i) = _
    rw [e_X5_bits_4, if_neg (show ¬ (31 : Int32) ≤ nI i from nI_ge (a := i) (b := 31) hi (by omega)), ← nI_succ]
    rfl
theorem bits_eq {m : Nat} (hm : m < 128) : f_X5_bits (nI m) = j_bitCount (nI m) := by
  rw [x5_bits]
  have h : ∀ m, m < 128 → fr (sBits (nI m)) 31 0 0 = j_bc5 (j_bc4 (j_bc3 (j_bc2 (j_bc1 (nI m))))) &&& 63 := by decide +kernel
  rw [h m hm]
  rfl
section KA
variable {n : Nat} {size year : Int32} {kinds figures styles fames writing order enders : Nat → Int32} {mw my : Int32} {kind figure style fame silent ring r4 r5 : Nat → Int32}
theorem refBook_out (hG : GR n size year kinds figures styles fames writing order enders mw my kind figure style fame silent ring) {w : Nat} (hw : w < n) {x m : Int32} (h : x < 0 ∨ ¬ x ≤ m) : f_X4_refusalOfBook size writing (nI w) x m = some (-2) := by
  rw [hG.2.1]
  unfold f_X4_refusalOfBook
  rw [has_t hG.1 hw]
  try simp (decide := true) only [Option.bind_some, if_true, if_false]
  try simp (decide := true) only [Option.bind_some, if_true, if_false]
  rcases h with h | h
  · rw [if_pos h]
  · by_cases h0 : x < 0
    · rw [if_pos h0]
    · rw [if_neg h0, if_neg h]
theorem refBook_in (hG : GR n size year kinds figures styles fames writing order enders mw my kind figure style fame silent ring) {w : Nat} (hw : w < n) {x m : Int32} (h0 : ¬ x < 0) (h1 : x ≤ m) : f_X4_refusalOfBook size writing (nI w) x m = some (if silent w = 0 then 0 else -3) := by
  rw [hG.2.1]
  unfold f_X4_refusalOfBook
  rw [has_t hG.1 hw]
  try simp (decide := true) only [Option.bind_some, if_true, if_false]
  rw [if_neg h0, if_pos h1, x0_isWriting hG hw]
  try simp (decide := true) only [Option.bind_some, if_true, if_false]
  try simp (decide := true) only [Option.bind_some, if_true, if_false]
  by_cases hs : silent w = 0
  · rw [if_pos hs, if_pos hs]
    try simp (decide := true) only [Option.bind_some, if_true, if_false]
  · rw [if_neg hs, if_neg hs]
    try simp (decide := true) only [Option.bind_some, if_true, if_false]
theorem refBook_w (hG : GR n size year kinds figures styles fames writing order enders mw my kind figure style fame silent ring) {w : Nat} (hw : w < n) {x m : Int32} (h0 : ¬ x < 0) (h1 : x ≤ m) (hs : silent w = 0) : f_X4_refusalOfBook size writing (nI w) x m = some 0 := by
  rw [refBook_in hG hw h0 h1, if_pos hs]
theorem refBook_s (hG : GR n size year kinds figures styles fames writing order enders mw my kind figure style fame silent ring) {w : Nat} (hw : w < n) {x m : Int32} (h0 : ¬ x < 0) (h1 : x ≤ m) (hs : silent w = 1) : f_X4_refusalOfBook size writing (nI w) x m = some (-3) := by
  rw [refBook_in hG hw h0 h1, if_neg (by rw [hs]; decide)]
theorem sWo_w {w : Nat} (hs : silent w = 0) : sWo n kind figure style silent ring my w = sBW n kind figure style silent ring my w := by
  unfold sWo sIs sBW
  rw [hs]
  cases sE n silent ring w with
  | none => simp
  | some e => simp
abbrev QR (r s : Int32 × (Nat → Int32)) : Prop := r.1 = s.1 ∧ RR r.2 s.2
theorem k_writer (hG : GR n size year kinds figures styles fames writing order enders mw my kind figure style fame silent ring) (hR : RR r4 r5) (x1 x2 : Int32) : SQ QR (f_X4_writer size kinds figures styles fames writing order enders r4 x1 x2) (f_X5_writer mw r5 kind figure style fame silent ring x1 x2) := by
  obtain ⟨hn, rfl, rfl, rfl, hM, hW⟩ := id hG
  unfold f_X4_writer f_X5_writer
  by_cases hx : ∃ w, w < n ∧ x1 = nI w
  · obtain ⟨w, hw, rfl⟩ := hx
    obtain ⟨a1, a2, a3, a4, a5, a6, a7, a8⟩ := hW w hw
    rw [has_t hn hw, one_t hn hw]
    try simp (decide := true) only [Option.bind_some, if_true, if_false]
    try simp (decide := true) only [Option.bind_some, if_true, if_false]
    by_cases h0 : x2 = 0
    · rw [if_pos h0, if_pos h0, g3 (by omega) (by omega), gdI (by omega) (by omega), nI_clamp (by omega)]
      exact ⟨_, _, rfl, rfl, a1, hR⟩
    rw [if_neg h0, if_neg h0]
    by_cases h0 : x2 = 1
    · rw [if_pos h0, if_pos h0, g3 (by omega) (by omega), gdI (by omega) (by omega), nI_clamp (by omega)]
      exact ⟨_, _, rfl, rfl, a2, hR⟩
    rw [if_neg h0, if_neg h0]
    by_cases h0 : x2 = 2
    · rw [if_pos h0, if_pos h0, g3 (by omega) (by omega), gdI (by omega) (by omega), nI_clamp (by omega)]
      exact ⟨_, _, rfl, rfl, a3, hR⟩
    rw [if_neg h0, if_neg h0]
    by_cases h0 : x2 = 3
    · rw [if_pos h0, if_pos h0, g3 (by omega) (by omega), gdI (by omega) (by omega), nI_clamp (by omega)]
      exact ⟨_, _, rfl, rfl, a4, hR⟩
    rw [if_neg h0, if_neg h0]
    by_cases h0 : x2 = 4
    · rw [if_pos h0, if_pos h0, g3 (by omega) (by omega), gdI (by omega) (by omega), nI_clamp (by omega)]
      exact ⟨_, _, rfl, rfl, a6, hR⟩
    rw [if_neg h0, if_neg h0]
    by_cases h0 : x2 = 5
    · rw [if_pos h0, if_pos h0, x0_placeOf hn hM hG.hO hw, x5_placeOf hn hM hw]
      exact ⟨_, _, rfl, rfl, rfl, hR⟩
    rw [if_neg h0, if_neg h0]
    by_cases h0 : x2 = 6
    · rw [if_pos h0, if_pos h0, g3 (by omega) (by omega), x5_enderOf hn hM hw]
      exact ⟨_, _, rfl, rfl, a8, hR⟩
    rw [if_neg h0, if_neg h0, rf2, no2]
    exact ⟨_, _, rfl, rfl, rfl, RR_upd hR (by omega) 1⟩
  · rw [has_f hn hx, one_f hn hx]
    try simp (decide := true) only [Option.bind_some, if_true, if_false]
    rw [rf1, no1]
    try simp (decide := true) only [Option.bind_some, if_true, if_false]
    exact ⟨_, _, rfl, rfl, rfl, RR_upd hR (by omega) 1⟩
theorem k_book (hG : GR n size year kinds figures styles fames writing order enders mw my kind figure style fame silent ring) (hR : RR r4 r5) (x1 x2 : Int32) : SQ QR (f_X4_book size year kinds figures styles writing enders r4 x1 x2) (f_X5_book mw my r5 kind figure style silent ring x1 x2) := by
  obtain ⟨hn, rfl, rfl, rfl, hM, hW⟩ := id hG
  unfold f_X4_book f_X5_book
  by_cases hx : ∃ w, w < n ∧ x1 = nI w
  · obtain ⟨w, hw, rfl⟩ := hx
    rw [one_t hn hw]
    try simp (decide := true) only [Option.bind_some, if_true, if_false]
    try simp (decide := true) only [Option.bind_some, if_true, if_false]
    rcases isIn_cases x2 2 with ⟨hi, h0, h1⟩ | ⟨hi, ho⟩
    · rcases (hG.hW w hw).1 with hs | hs
      · have hs1 : ¬ silent w = 1 := by rw [hs]; decide
        rw [hi, refBook_w hG hw h0 h1 hs, gdI (by omega) (by omega), nI_clamp (by omega), if_neg hs1]
        unfold f_X5_book_42
        try simp (decide := true) only [Option.bind_some, if_true, if_false]
        by_cases e0 : x2 = 0
        · rw [if_pos e0, if_pos e0, x0_opensOf hG hw, x5_opens (by omega)]
          exact ⟨_, _, rfl, rfl, rfl, hR⟩
        · rw [if_neg e0, if_neg e0]
          by_cases e1 : x2 = 1
          · rw [if_pos e1, if_neg (by rw [e1]; decide), x0_endsOf hG hw, x5_enderOf hn hM hw]
            try simp (decide := true) only [Option.bind_some, if_true, if_false]
            cases he : sE n silent ring w with
            | none =>
              rw [sE_none hn hM hw he, if_neg (by simp [sIs, he])]
              try simp (decide := true) only [Option.bind_some, if_true, if_false]
              exact ⟨_, _, rfl, rfl, rfl, hR⟩
            | some e =>
              obtain ⟨z1, z2, -, -⟩ := sE_some hn hM hw he
              rw [z1, if_pos (nI_pos' (by omega)), if_pos (by simp [sIs, he, hs]), x5_endOf hn hM hw he]
              refine ⟨_, _, rfl, rfl, ?_, hR⟩
              show sEd _ _ _ _ _ _ _ _ = _
              unfold sEd
              rw [he]
          · have e2 : x2 = 2 := by
              have a0 : (0 : Int32).toInt = 0 := by decide
              have a1 : (1 : Int32).toInt = 1 := by decide
              have a2 : (2 : Int32).toInt = 2 := by decide
              rw [Int32.lt_iff_toInt_lt, a0] at h0
              rw [Int32.le_iff_toInt_le, a2] at h1
              rw [← Int32.toInt_inj, a0] at e0
              rw [← Int32.toInt_inj, a1] at e1
              rw [← Int32.toInt_inj, a2]
              omega
            rw [if_neg e1, if_pos e2, x0_worthOf hG hw, x5_bookWorth hn hM hw, sWo_w hs]
            exact ⟨_, _, rfl, rfl, rfl, hR⟩
      · rw [hi, refBook_s hG hw h0 h1 hs, gdI (by omega) (by omega), nI_clamp (by omega), if_pos hs]
        unfold f_X5_book_42
        try simp (decide := true) only [Option.bind_some, if_true, if_false]
        rw [rb3, lw3]
        try simp (decide := true) only [Option.bind_some, if_true, if_false]
        exact ⟨_, _, rfl, rfl, rfl, RR_upd hR (by omega) 1⟩
    · rw [hi, refBook_out hG hw ho]
      try simp (decide := true) only [Option.bind_some, if_true, if_false]
      unfold f_X5_book_42
      rw [rb2, lw2]
      try simp (decide := true) only [Option.bind_some, if_true, if_false]
      exact ⟨_, _, rfl, rfl, rfl, RR_upd hR (by omega) 1⟩
  · rw [refBook_f hn hx, one_f hn hx]
    try simp (decide := true) only [Option.bind_some, if_true, if_false]
    unfold f_X5_book_42
    rw [rb1, lw1]
    try simp (decide := true) only [Option.bind_some, if_true, if_false]
    exact ⟨_, _, rfl, rfl, rfl, RR_upd hR (by omega) 1⟩
theorem k_changes (hG : GR n size year kinds figures styles fames writing order enders mw my kind figure style fame silent ring) (hR : RR r4 r5) (x1 x2 : Int32) : SQ (fun r s => r.1 = s.1 ∧ RR r.2.2.2 s.2.1 ∧ GR n size year kinds figures styles fames writing r.2.1 r.2.2.1 mw my kind figure style fame silent s.2.2) (f_X4_changes size writing order enders r4 x1 x2) (f_X5_changes mw r5 ring x1 x2) := by
  obtain ⟨hn, rfl, rfl, rfl, hM, hW⟩ := id hG
  unfold f_X4_changes f_X5_changes
  by_cases hx : ∃ a b, a < n ∧ b < n ∧ a ≠ b ∧ x1 = nI a ∧ x2 = nI b
  · obtain ⟨a, b, ha, hb, hab, rfl, rfl⟩ := hx
    obtain ⟨O, E, h1, h2⟩ := hG.swap ha hb hab
    rw [two_eq, two_t hn ha hb hab]
    try simp (decide := true) only [Option.bind_some, if_true, if_false]
    rw [h1, x5_swaps hn hM ha hb]
    try simp (decide := true) only [Option.bind_some, if_true, if_false]
    try simp (decide := true) only [Option.bind_some, if_true, if_false]
    rw [x0_placeOf hn h2.hM h2.hO ha, x5_placeOf hn h2.hM ha]
    exact ⟨_, _, rfl, rfl, rfl, hR, h2⟩
  · rw [two_eq, two_f hn hx]
    try simp (decide := true) only [Option.bind_some, if_true, if_false]
    rw [rf1, no1]
    try simp (decide := true) only [Option.bind_some, if_true, if_false]
    exact ⟨_, _, rfl, rfl, rfl, RR_upd hR (by omega) 1, hG⟩
theorem k_hushes (hG : GR n size year kinds figures styles fames writing order enders mw my kind figure style fame silent ring) (hR : RR r4 r5) (x1 : Int32) : SQ (fun r s => r.1 = s.1 ∧ RR r.2.2.2 s.2.1 ∧ GR n size year kinds figures styles fames r.2.1 order r.2.2.1 mw my kind figure style fame s.2.2 ring) (f_X4_hushes size writing order enders r4 x1) (f_X5_hushes mw r5 silent x1) := by
  obtain ⟨hn, rfl, rfl, rfl, hM, hW⟩ := id hG
  unfold f_X4_hushes f_X5_hushes
  by_cases hx : ∃ w, w < n ∧ x1 = nI w
  · obtain ⟨w, hw, rfl⟩ := hx
    obtain ⟨W, E, h1, h0, h2⟩ := hG.toggle hw
    rw [has_t hn hw, one_t hn hw]
    try simp (decide := true) only [Option.bind_some, if_true, if_false]
    rw [h1, gdI (by omega) (by omega), gdI (by omega) (by omega), gdI (by omega) (by omega), nI_clamp (by omega), upd_at]
    try simp (decide := true) only [Option.bind_some, if_true, if_false]
    try simp (decide := true) only [Option.bind_some, if_true, if_false]
    rw [g3 (by omega) (by omega)]
    refine ⟨_, _, rfl, rfl, ?_, hR, h2⟩
    show W w = 1 - (1 - silent w)
    rw [h0, (one_sub (hG.hW w hw).1).2]
  · rw [has_f hn hx, one_f hn hx]
    try simp (decide := true) only [Option.bind_some, if_true, if_false]
    rw [rf1, no1]
    try simp (decide := true) only [Option.bind_some, if_true, if_false]
    exact ⟨_, _, rfl, rfl, rfl, RR_upd hR (by omega) 1, hG⟩
theorem k_styles (hG : GR n size year kinds figures styles fames writing order enders mw my kind figure style fame silent ring) (hB : BD figure style my) (hR : RR r4 r5) (x1 x2 : Int32) : SQ (fun r s => r.1 = s.1 ∧ RR r.2.2 s.2.1 ∧ GR n size year kinds figures r.2.1 fames writing order enders mw my kind figure s.2.2 fame silent ring ∧ BD figure s.2.2 my) (f_X4_styles size styles r4 x1 x2) (f_X5_styles mw r5 style x1 x2) := by
  obtain ⟨hn, rfl, rfl, rfl, hM, hW⟩ := id hG
  unfold f_X4_styles f_X5_styles f_X5_styles_19
  by_cases hx : ∃ w, w < n ∧ x1 = nI w
  · obtain ⟨w, hw, rfl⟩ := hx
    rw [refNum_t hn hw, one_t hn hw]
    try simp (decide := true) only [Option.bind_some, if_true, if_false]
    try simp (decide := true) only [Option.bind_some, if_true, if_false]
    rcases bound_cases x2 9 with ⟨hb, b0, b9⟩ | hb | hb
    · rw [hb]
      try simp (decide := true) only [Option.bind_some, if_true, if_false]
      rw [g3 (by omega) (by omega), gdI (by omega) (by omega), gdI (by omega) (by omega), nI_clamp (by omega)]
      try simp (decide := true) only [Option.bind_some, if_true, if_false]
      try simp (decide := true) only [Option.bind_some, if_true, if_false]
      rw [s3 (by omega) (by omega)]
      refine ⟨_, _, rfl, rfl, hG.hS w hw, hR, hG.setStyle w x2, hB.setStyle w b0 b9⟩
    · rw [hb]
      try simp (decide := true) only [Option.bind_some, if_true, if_false]
      rw [rf6, no6]
      try simp (decide := true) only [Option.bind_some, if_true, if_false]
      exact ⟨_, _, rfl, rfl, rfl, RR_upd hR (by omega) 1, hG, hB⟩
    · rw [hb]
      try simp (decide := true) only [Option.bind_some, if_true, if_false]
      rw [rf4, no4]
      try simp (decide := true) only [Option.bind_some, if_true, if_false]
      exact ⟨_, _, rfl, rfl, rfl, RR_upd hR (by omega) 1, hG, hB⟩
  · rw [refNum_f hn hx, one_f hn hx]
    try simp (decide := true) only [Option.bind_some, if_true, if_false]
    rw [rf1, no1]
    try simp (decide := true) only [Option.bind_some, if_true, if_false]
    exact ⟨_, _, rfl, rfl, rfl, RR_upd hR (by omega) 1, hG, hB⟩
theorem k_famed (hG : GR n size year kinds figures styles fames writing order enders mw my kind figure style fame silent ring) (hR : RR r4 r5) (x1 x2 : Int32) : SQ (fun r s => r.1 = s.1 ∧ RR r.2.2 s.2.1 ∧ GR n size year kinds figures styles r.2.1 writing order enders mw my kind figure style s.2.2 silent ring) (f_X4_famed size fames r4 x1 x2) (f_X5_famed mw r5 fame x1 x2) := by
  obtain ⟨hn, rfl, rfl, rfl, hM, hW⟩ := id hG
  unfold f_X4_famed f_X5_famed f_X5_famed_19
  by_cases hx : ∃ w, w < n ∧ x1 = nI w
  · obtain ⟨w, hw, rfl⟩ := hx
    rw [refNum_t hn hw, one_t hn hw]
    try simp (decide := true) only [Option.bind_some, if_true, if_false]
    try simp (decide := true) only [Option.bind_some, if_true, if_false]
    rcases bound_cases x2 99 with ⟨hb, b0, b9⟩ | hb | hb
    · rw [hb]
      try simp (decide := true) only [Option.bind_some, if_true, if_false]
      rw [g3 (by omega) (by omega), gdI (by omega) (by omega), gdI (by omega) (by omega), nI_clamp (by omega)]
      try simp (decide := true) only [Option.bind_some, if_true, if_false]
      try simp (decide := true) only [Option.bind_some, if_true, if_false]
      rw [s3 (by omega) (by omega)]
      exact ⟨_, _, rfl, rfl, hG.hF w hw, hR, hG.setFame w x2⟩
    · rw [hb]
      try simp (decide := true) only [Option.bind_some, if_true, if_false]
      rw [rf6, no6]
      try simp (decide := true) only [Option.bind_some, if_true, if_false]
      exact ⟨_, _, rfl, rfl, rfl, RR_upd hR (by omega) 1, hG⟩
    · rw [hb]
      try simp (decide := true) only [Option.bind_some, if_true, if_false]
      rw [rf4, no4]
      try simp (decide := true) only [Option.bind_some, if_true, if_false]
      exact ⟨_, _, rfl, rfl, rfl, RR_upd hR (by omega) 1, hG⟩
  · rw [refNum_f hn hx, one_f hn hx]
    try simp (decide := true) only [Option.bind_some, if_true, if_false]
    rw [rf1, no1]
    try simp (decide := true) only [Option.bind_some, if_true, if_false]
    exact ⟨_, _, rfl, rfl, rfl, RR_upd hR (by omega) 1, hG⟩
theorem i32lt {x : Int32} {n : Nat} (hn : n < 2 ^ 31) : x < nI n ↔ ¬ nI n ≤ x := Int32.not_le.symm
theorem k_turn (hG : GR n size year kinds figures styles fames writing order enders mw my kind figure style fame silent ring) (hB : BD figure style my) (hR : RR r4 r5) (x1 x2 x3 : Int32) : SQ (fun r s => r.1 = s.1 ∧ RR r.2.2.2 s.2.1 ∧ GR n size year r.2.1 r.2.2.1 styles fames writing order enders mw my s.2.2.1 s.2.2.2 style fame silent ring ∧ BD s.2.2.2 style my) (f_X4_turn size kinds figures r4 x1 x2 x3) (f_X5_turn mw r5 kind figure x1 x2 x3) := by
  obtain ⟨hn, rfl, rfl, rfl, hM, hW⟩ := id hG
  unfold f_X4_turn f_X5_turn f_X5_turn_33 f_X4_turn_27
  by_cases hx : ∃ w, w < n ∧ x1 = nI w
  · obtain ⟨w, hw, rfl⟩ := hx
    rw [has_t hn hw, one_t hn hw]
    try simp (decide := true) only [Option.bind_some, if_true, if_false]
    try simp (decide := true) only [Option.bind_some, if_true, if_false]
    have c56 : ∀ {x : Int32}, (x < 6 ↔ x ≤ 5) := by
      intro x
      have a5 : (5 : Int32).toInt = 5 := by decide
      have a6 : (6 : Int32).toInt = 6 := by decide
      rw [Int32.lt_iff_toInt_lt, Int32.le_iff_toInt_le, a5, a6]
      omega
    have c9 : ∀ {x : Int32}, (x < 10 ↔ x ≤ 9) := by
      intro x
      have a5 : (9 : Int32).toInt = 9 := by decide
      have a6 : (10 : Int32).toInt = 10 := by decide
      rw [Int32.lt_iff_toInt_lt, Int32.le_iff_toInt_le, a5, a6]
      omega
    rcases isIn_cases x2 5 with ⟨hi, h0, h1⟩ | ⟨hi, ho⟩
    · rw [hi, if_neg h0, if_pos (c56.mpr h1)]
      try simp (decide := true) only [Option.bind_some, if_true, if_false]
      try simp (decide := true) only [Option.bind_some, if_true, if_false]
      unfold f_X5_bound
      by_cases g0 : 0 ≤ x3
      · rw [if_pos g0, if_pos g0]
        by_cases g1 : x3 ≤ 9
        · rw [if_pos (c9.mpr g1), if_pos g1]
          try simp (decide := true) only [Option.bind_some, if_true, if_false]
          rw [g3 (by omega) (by omega), gdI (by omega) (by omega), gdI (by omega) (by omega), gdI (by omega) (by omega), gdI (by omega) (by omega), nI_clamp (by omega)]
          try simp (decide := true) only [Option.bind_some, if_true, if_false]
          try simp (decide := true) only [Option.bind_some, if_true, if_false]
          rw [g3 (by omega) (by omega)]
          try simp (decide := true) only [Option.bind_some, if_true, if_false]
          rw [s3 (by omega) (by omega)]
          try simp (decide := true) only [Option.bind_some, if_true, if_false]
          rw [s3 (by omega) (by omega)]
          refine ⟨_, _, rfl, rfl, ?_, hR, (hG.setKind w x2).setFigure w x3, hB.setFigure w g0 g1⟩
          show 10 * kinds w + figures w = 10 * kind w + figure w
          rw [(hW w hw).1, (hW w hw).2.1]
        · rw [if_neg (fun z => g1 (c9.mp z)), if_neg g1, rf6]
          try simp (decide := true) only [Option.bind_some, if_true, if_false]
          rw [no6]
          try simp (decide := true) only [Option.bind_some, if_true, if_false]
          exact ⟨_, _, rfl, rfl, rfl, RR_upd hR (by omega) 1, hG, hB⟩
      · rw [if_neg g0, if_neg g0, rf4]
        try simp (decide := true) only [Option.bind_some, if_true, if_false]
        rw [no4]
        try simp (decide := true) only [Option.bind_some, if_true, if_false]
        exact ⟨_, _, rfl, rfl, rfl, RR_upd hR (by omega) 1, hG, hB⟩
    · rw [hi]
      try simp (decide := true) only [Option.bind_some, if_true, if_false]
      rw [no2, rf2]
      try simp (decide := true) only [Option.bind_some, if_true, if_false]
      try simp (decide := true) only [Option.bind_some, if_true, if_false]
      by_cases h0 : x2 < 0
      · rw [if_pos h0]
        exact ⟨_, _, rfl, rfl, rfl, RR_upd hR (by omega) 1, hG, hB⟩
      · rw [if_neg h0, if_neg (fun z => (ho.elim h0 (fun h => h (c56.mp z))))]
        exact ⟨_, _, rfl, rfl, rfl, RR_upd hR (by omega) 1, hG, hB⟩
  · rw [has_f hn hx, one_f hn hx]
    try simp (decide := true) only [Option.bind_some, if_true, if_false]
    rw [rf1, no1]
    try simp (decide := true) only [Option.bind_some, if_true, if_false]
    exact ⟨_, _, rfl, rfl, rfl, RR_upd hR (by omega) 1, hG, hB⟩
theorem k_sum (hn : n ≤ 7) {f g : Nat → Int32} (h : ∀ w, w < n → f w = g w) : SQ Eq (f_X3_sumOf 7 f (nI n)) (f_X5_allOf 7 (nI n) g) := by
  unfold f_X3_sumOf f_X5_allOf
  refine simL (fun fuel v a => f_X3_sumOf_4 7 f (nI n) fuel a v) (fun fuel v a => f_X5_allOf_4 7 (nI n) g fuel a v) n (fun _ a b => a = b) Eq (fun f4 f5 a b hP => ?_) (fun f4 f5 i a b _ _ hi hP ih => ?_) n 0 FU FU 0 0 (by omega) (FU_gt (by omega)) (FU_gt (by omega)) rfl
  · try dsimp only
    rw [e_X3_sumOf_4, e_X5_allOf_4, if_pos (nI_le (Nat.le_refl _) (by omega)), if_pos (nI_le (Nat.le_refl _) (by omega))]
    exact ⟨_, _, rfl, rfl, hP⟩
  · try dsimp only at ih ⊢
    rw [e_X3_sumOf_4, e_X5_allOf_4, if_neg (nI_ge hi (by omega)), if_neg (nI_ge hi (by omega)), if_neg (nI_ge (by omega) (by omega)), gdI (by omega) (by omega), gdI (by omega) (by omega), nI_clamp (by omega)]
    exact ih _ _ (by rw [hP, h i hi])
theorem k_writingBits (hG : GR n size year kinds figures styles fames writing order enders mw my kind figure style fame silent ring) : SQ Eq (f_X0_writingBits size writing) (f_X5_writing mw silent) := by
  obtain ⟨hn, rfl, rfl, rfl, hM, hW⟩ := id hG
  unfold f_X0_writingBits f_X5_writing
  refine simL (fun fuel v a => f_X0_writingBits_4 (nI n) writing fuel a v) (fun fuel v a => f_X5_writing_4 (nI n) silent fuel a v) n (fun _ a b => a = b) Eq (fun f4 f5 a b hP => ?_) (fun f4 f5 i a b _ _ hi hP ih => ?_) n 0 FU FU 0 0 (by omega) (FU_gt (by omega)) (FU_gt (by omega)) rfl
  · try dsimp only
    rw [e_X0_writingBits_4, e_X5_writing_4, if_pos (nI_le (Nat.le_refl _) (by omega)), if_pos (nI_le (Nat.le_refl _) (by omega))]
    exact ⟨_, _, rfl, rfl, hP⟩
  · try dsimp only at ih ⊢
    rw [e_X0_writingBits_4, e_X5_writing_4, if_neg (nI_ge hi (by omega)), if_neg (nI_ge hi (by omega)), g3 (by omega) (by omega), gdI (by omega) (by omega), nI_clamp (by omega)]
    exact ih _ _ (by rw [hP, (hG.hW i hi).2])
theorem k_well (hG : GR n size year kinds figures styles fames writing order enders mw my kind figure style fame silent ring) : SQ (fun r s => r = s ∧ ∃ m, m < 128 ∧ r = nI m) (f_X4_well size year kinds figures styles writing enders) (f_X5_well mw my kind figure style silent ring) := by
  obtain ⟨hn, rfl, rfl, rfl, hM, hW⟩ := id hG
  unfold f_X4_well f_X5_well
  refine simL (fun fuel v a => f_X4_well_4 (nI n) year kinds figures styles writing enders fuel a v) (fun fuel v a => f_X5_well_4 (nI n) year kind figure style silent ring fuel a v) n (fun i a b => a = b ∧ ∃ m, m < 2 ^ i ∧ a = nI m) _ (fun f4 f5 a b hP => ?_) (fun f4 f5 i a b _ _ hi hP ih => ?_) n 0 FU FU 0 0 (by omega) (FU_gt (by omega)) (FU_gt (by omega)) ⟨rfl, 0, by omega, rfl⟩
  · try dsimp only
    rw [e_X4_well_4, e_X5_well_4, if_pos (nI_le (Nat.le_refl _) (by omega)), if_pos (nI_le (Nat.le_refl _) (by omega))]
    obtain ⟨h1, m, h2, h3⟩ := hP
    exact ⟨_, _, rfl, rfl, h1, m, Nat.lt_of_lt_of_le h2 (Nat.pow_le_pow_right (by omega) (show n ≤ 7 by omega)), h3⟩
  · try dsimp only at ih ⊢
    obtain ⟨rfl, m, h2, rfl⟩ := hP
    rw [e_X4_well_4, e_X5_well_4, if_neg (nI_ge hi (by omega)), if_neg (nI_ge hi (by omega)), x0_worthOf hG hi, x5_isEnded hn hM hi, x5_bookWorth hn hM hi]
    try simp (decide := true) only [Option.bind_some, if_true, if_false]
    have hgo : ∃ k, k < 2 ^ (i + 1) ∧ nI m = nI k := ⟨m, Nat.lt_trans h2 (Nat.pow_lt_pow_right (by omega) (by omega)), rfl⟩
    unfold sWo
    cases hI : sIs n silent ring i with
    | false =>
      simp only [Bool.false_eq_true, if_false, if_true]
      try simp (decide := true) only [Option.bind_some, if_true, if_false]
      exact ih _ _ ⟨by rw [Int32.or_zero], hgo⟩
    | true =>
      simp only [if_true]
      rw [if_neg (show ¬ (1 : Int32) = 0 by decide)]
      by_cases h5 : sBW n kind figure style silent ring year i < 5
      · rw [if_pos h5, if_pos h5]
        exact ih _ _ ⟨by rw [Int32.or_zero], hgo⟩
      · rw [if_neg h5, if_neg h5]
        exact ih _ _ ⟨rfl, or_bit h2 (by omega)⟩
theorem k_count (hG : GR n size year kinds figures styles fames writing order enders mw my kind figure style fame silent ring) (hR : RR r4 r5) {ls ts tz rz : Int32} (hl : ls = tz) (ht : ts = rz) (x1 : Int32) : SQ Eq (f_X4_count size year kinds figures styles fames writing enders ls ts r4 x1) (f_X5_count mw my tz rz r5 kind figure style fame silent ring x1) := by
  have hw := k_writingBits hG
  have hf := k_sum hG.1 hG.hF
  have hs := k_sum hG.1 hG.hS
  have he := k_well hG
  obtain ⟨hn, rfl, rfl, rfl, hM, hW⟩ := id hG
  subst hl
  subst ht
  unfold f_X4_count f_X5_count f_X5_isIn
  by_cases h0 : x1 = 0
  · subst h0
    try simp (decide := true) only [Option.bind_some, if_true, if_false]
    try simp (decide := true) only [Option.bind_some, if_true, if_false]
    try simp (decide := true) only [Option.bind_some, if_true, if_false]
    exact ⟨_, _, rfl, rfl, rfl⟩
  rw [if_neg h0]
  by_cases h1 : x1 = 1
  · subst h1
    try simp (decide := true) only [Option.bind_some, if_true, if_false]
    try simp (decide := true) only [Option.bind_some, if_true, if_false]
    try simp (decide := true) only [Option.bind_some, if_true, if_false]
    exact ⟨_, _, rfl, rfl, rfl⟩
  rw [if_neg h1]
  by_cases h2 : x1 = 2
  · subst h2
    obtain ⟨r, s, e4, e5, e⟩ := hw
    rw [e4, e5]
    try simp (decide := true) only [Option.bind_some, if_true, if_false]
    try simp (decide := true) only [Option.bind_some, if_true, if_false]
    try simp (decide := true) only [Option.bind_some, if_true, if_false]
    exact ⟨_, _, rfl, rfl, e⟩
  rw [if_neg h2]
  by_cases h3 : x1 = 3
  · subst h3
    obtain ⟨r, s, e4, e5, e⟩ := hf
    rw [e4, e5]
    try simp (decide := true) only [Option.bind_some, if_true, if_false]
    try simp (decide := true) only [Option.bind_some, if_true, if_false]
    try simp (decide := true) only [Option.bind_some, if_true, if_false]
    exact ⟨_, _, rfl, rfl, e⟩
  rw [if_neg h3]
  by_cases h4 : x1 = 4
  · subst h4
    obtain ⟨r, s, e4, e5, e⟩ := hs
    rw [e4, e5]
    try simp (decide := true) only [Option.bind_some, if_true, if_false]
    try simp (decide := true) only [Option.bind_some, if_true, if_false]
    try simp (decide := true) only [Option.bind_some, if_true, if_false]
    exact ⟨_, _, rfl, rfl, e⟩
  rw [if_neg h4]
  by_cases h5 : x1 = 5
  · subst h5
    obtain ⟨r, s, e4, e5, e, m, hm, rfl⟩ := he
    subst e
    rw [e4, e5]
    try simp (decide := true) only [Option.bind_some, if_true, if_false]
    try simp (decide := true) only [Option.bind_some, if_true, if_false]
    rw [bits_eq hm]
    try simp (decide := true) only [Option.bind_some, if_true, if_false]
    exact ⟨_, _, rfl, rfl, rfl⟩
  rw [if_neg h5]
  by_cases h6 : x1 = 6
  · subst h6
    try simp (decide := true) only [Option.bind_some, if_true, if_false]
    try simp (decide := true) only [Option.bind_some, if_true, if_false]
    try simp (decide := true) only [Option.bind_some, if_true, if_false]
    exact ⟨_, _, rfl, rfl, rfl⟩
  rw [if_neg h6]
  by_cases h7 : x1 = 7
  · subst h7
    try simp (decide := true) only [Option.bind_some, if_true, if_false]
    try simp (decide := true) only [Option.bind_some, if_true, if_false]
    try simp (decide := true) only [Option.bind_some, if_true, if_false]
    exact ⟨_, _, rfl, rfl, rfl⟩
  rw [if_neg h7]
  have a10 : (10 : Int32).toInt = 10 := by decide
  have a11 : (11 : Int32).toInt = 11 := by decide
  have a16 : (16 : Int32).toInt = 16 := by decide
  by_cases h10 : x1 ≤ 10
  · have q : x1 < 11 := by
      rw [Int32.le_iff_toInt_le, a10] at h10
      rw [Int32.lt_iff_toInt_lt, a11]
      omega
    rw [if_pos h10, if_pos q]
    try simp (decide := true) only [Option.bind_some, if_true, if_false]
    rw [if_neg h0, if_neg h1, if_neg h2, if_neg h3, if_neg h4, if_neg h5, if_neg h6, if_neg h7]
    try simp (decide := true) only [Option.bind_some, if_true, if_false]
    exact ⟨_, _, rfl, rfl, rfl⟩
  · have q : ¬ x1 < 11 := by
      rw [Int32.le_iff_toInt_le, a10] at h10
      rw [Int32.lt_iff_toInt_lt, a11]
      omega
    rw [if_neg h10, if_neg q]
    by_cases h16 : 16 < x1
    · rw [if_pos h16, if_pos h16]
      try simp (decide := true) only [Option.bind_some, if_true, if_false]
      rw [if_neg h0, if_neg h1, if_neg h2, if_neg h3, if_neg h4, if_neg h5, if_neg h6, if_neg h7]
      try simp (decide := true) only [Option.bind_some, if_true, if_false]
      exact ⟨_, _, rfl, rfl, rfl⟩
    · rw [if_neg h16, if_neg h16]
      try simp (decide := true) only [Option.bind_some, if_true, if_false]
      try simp (decide := true) only [Option.bind_some, if_true, if_false]
      obtain ⟨k, hk, rfl⟩ : ∃ k, k < 17 ∧ x1 = nI k := by
        refine i32nat (n := 17) (x := x1) ?_ ?_ (by omega)
        · rw [Int32.lt_iff_toInt_lt] at q ⊢
          rw [a11] at q
          have a0 : (0 : Int32).toInt = 0 := by decide
          omega
        · rw [Int32.lt_iff_toInt_lt] at h16
          rw [Int32.le_iff_toInt_le, nI_toInt (by omega)]
          omega
      have hk2 : 10 < k := by
        rw [Int32.le_iff_toInt_le, nI_toInt (by omega), a10] at h10
        omega
      rw [show nI k - 10 = nI (k - 10) from nI_subn (b := 10) (by omega), g3 (by omega) (by omega), gdI (by omega) (by omega), nI_clamp (by omega)]
      exact ⟨_, _, rfl, rfl, hR _ (by omega)⟩
theorem sYs_year : ∀ (k : Nat) (y : Int32) (f : Nat → Int32), (sYs n kind figure style silent ring k y f).1 = y + nI k := by
  intro k
  induction k with
  | zero => intro y f; exact (Int32.add_zero y).symm
  | succ k ih =>
    intro y f
    rw [sYs, ih, nI_succ, Int32.add_assoc, Int32.add_comm 1]
theorem k_years (hG : GR n size year kinds figures styles fames writing order enders mw my kind figure style fame silent ring) (hB : BD figure style my) (hR : RR r4 r5) (x1 : Int32) : SQ (fun r s => r.1 = s.1 ∧ RR r.2.2.2 s.2.2.1 ∧ GR n size r.2.1 kinds figures styles r.2.2.1 writing order enders mw s.2.1 kind figure style s.2.2.2 silent ring ∧ BD figure style s.2.1) (f_X4_years size year kinds figures styles fames writing enders r4 x1) (f_X5_years mw my r5 kind figure style fame silent ring x1) := by
  obtain ⟨hn, rfl, rfl, rfl, hM, hW⟩ := id hG
  unfold f_X4_years f_X5_years f_X5_years_27 f_X5_bound f_X0_hasRoomFor
  by_cases h1 : 1 ≤ x1
  · rw [if_pos h1, if_pos h1]
    by_cases h60 : x1 ≤ 60
    · rw [if_neg (Int32.not_lt.mpr h60), if_pos h60]
      try simp (decide := true) only [Option.bind_some, if_true, if_false]
      try simp (decide := true) only [Option.bind_some, if_true, if_false]
      by_cases h9 : year + x1 ≤ 999
      · rw [if_neg (Int32.not_lt.mpr h9), if_pos h9]
        try simp (decide := true) only [Option.bind_some, if_true, if_false]
        try simp (decide := true) only [Option.bind_some, if_true, if_false]
        obtain ⟨k, hk, rfl⟩ : ∃ k, k < 61 ∧ x1 = nI k := by
          have a1 : (1 : Int32).toInt = 1 := by decide
          have a60 : (60 : Int32).toInt = 60 := by decide
          have a0 : (0 : Int32).toInt = 0 := by decide
          rw [Int32.le_iff_toInt_le] at h1 h60
          refine i32nat (n := 61) (x := x1) ?_ ?_ (by omega)
          · rw [Int32.lt_iff_toInt_lt]; omega
          · rw [Int32.le_iff_toInt_le, nI_toInt (by omega)]; omega
        obtain ⟨F2, p1, p2⟩ := x0_passYears hG (show k ≤ 60 by omega)
        rw [p1, x5_goes hn hM (by omega)]
        try simp (decide := true) only [Option.bind_some, if_true, if_false]
        obtain ⟨r, s, e4, e5, e⟩ := k_sum hn p2
        rw [e4, e5]
        try simp (decide := true) only [Option.bind_some, if_true, if_false]
        refine ⟨_, _, rfl, rfl, e, hR, hG.fame _ p2, hB.1, ?_⟩
        rw [sYs_year]
        have q1 := hB.2.1
        have q2 := hB.2.2
        have a0 : (0 : Int32).toInt = 0 := by decide
        have a9 : (999 : Int32).toInt = 999 := by decide
        rw [Int32.le_iff_toInt_le] at q1 q2 h9 ⊢
        rw [Int32.le_iff_toInt_le]
        rw [Int32.toInt_add, nI_toInt (show k < 2 ^ 31 by omega), Int.bmod_eq_of_le (by omega) (by omega)] at h9 ⊢
        omega
      · rw [if_pos (Int32.not_le.mp h9), if_neg h9]
        try simp (decide := true) only [Option.bind_some, if_true, if_false]
        rw [rf6, no6]
        try simp (decide := true) only [Option.bind_some, if_true, if_false]
        exact ⟨_, _, rfl, rfl, rfl, RR_upd hR (by omega) 1, hG, hB⟩
    · rw [if_pos (Int32.not_le.mp h60), if_neg h60]
      try simp (decide := true) only [Option.bind_some, if_true, if_false]
      rw [rf6, no6]
      try simp (decide := true) only [Option.bind_some, if_true, if_false]
      exact ⟨_, _, rfl, rfl, rfl, RR_upd hR (by omega) 1, hG, hB⟩
  · rw [if_neg h1, if_neg h1]
    try simp (decide := true) only [Option.bind_some, if_true, if_false]
    rw [rf4, no4]
    try simp (decide := true) only [Option.bind_some, if_true, if_false]
    exact ⟨_, _, rfl, rfl, rfl, RR_upd hR (by omega) 1, hG, hB⟩
end KA
