/-! THE RELATION between the class's state and the reference's, at every turn of the law. -/
def RR (a b : Nat → Int32) : Prop := ∀ i, i < 7 → a i = b i
def LR (ls : Int32) (lt : Nat → Int32) (ts : Int32) (tp : Nat → Int32) : Prop := ∃ k, k ≤ 96 ∧ ls = nI k ∧ ts = nI k ∧ ∀ i, i < k → lt i = tp i ∧ ∃ v, v < 256 ∧ tp i = nI v
def TR (rs : Int32) (rw : Nat → Int32) (ms : Int32) (mr : Nat → Int32) : Prop := ∃ k, k ≤ 16 ∧ rs = nI k ∧ ms = nI k ∧ ∀ i, i < k → rw i = mr i
/-- what figures, styles and the year may be -/
def BD (figure style : Nat → Int32) (year : Int32) : Prop := (∀ j, j < 7 → (0 ≤ figure j ∧ figure j ≤ 9) ∧ 0 ≤ style j ∧ style j ≤ 9) ∧ 0 ≤ year ∧ year ≤ 999
theorem BD.back {figure style f1 s1 : Nat → Int32} {year : Int32} (h : BD figure style year) (hf : ∀ j, j < 7 → f1 j = figure j) (hs : ∀ j, j < 7 → s1 j = style j) : BD f1 s1 year :=
  ⟨fun j hj => by rw [hf j hj, hs j hj]; exact h.1 j hj, h.2⟩
abbrev INV0 (now_size now_year : Int32) (now_kinds now_figures now_styles now_fames now_writing now_order now_enders : Nat → Int32) (isKept : Int32) (kept_size kept_year : Int32) (kept_kinds kept_figures kept_styles kept_fames kept_writing kept_order kept_enders : Nat → Int32)
    (letters_text_size : Int32) (letters_text : Nat → Int32) (told_size : Int32) (told refusals : Nat → Int32)
    (m_refused m_kind m_figure m_style m_fame m_silent m_ring : Nat → Int32) (m_writers m_year : Int32) (m_tape : Nat → Int32) (m_taped : Int32) (m_kept : Nat → Int32) (m_hasImage : Int32) (m_row : Nat → Int32) (m_rowMany : Int32) : Prop :=
  (∃ n, GR n now_size now_year now_kinds now_figures now_styles now_fames now_writing now_order now_enders m_writers m_year m_kind m_figure m_style m_fame m_silent m_ring) ∧
  (isKept = m_hasImage ∧ (isKept = 0 ∨ (isKept = 1 ∧ ∃ n K F S M I R w y, PKd 0 m_kept K F S M I R w y ∧ GR n kept_size kept_year kept_kinds kept_figures kept_styles kept_fames kept_writing kept_order kept_enders w y K F S M I R))) ∧
  (LR letters_text_size letters_text m_taped m_tape ∧ BD m_figure m_style m_year ∧ BD (fun j => m_kept (7 + j)) (fun j => m_kept (14 + j)) (m_kept 43)) ∧ TR told_size told m_rowMany m_row ∧ RR refusals m_refused
theorem GR.back {n : Nat} {size year : Int32} {kinds figures styles fames writing order enders : Nat → Int32} {mw my : Int32} {kind figure style fame silent ring k1 f1 s1 m1 i1 r1 : Nat → Int32} (hG : GR n size year kinds figures styles fames writing order enders mw my kind figure style fame silent ring) (h : ∀ j, j < 7 → k1 j = kind j ∧ f1 j = figure j ∧ s1 j = style j ∧ m1 j = fame j ∧ i1 j = silent j ∧ r1 j = ring j) : GR n size year kinds figures styles fames writing order enders mw my k1 f1 s1 m1 i1 r1 := by
  obtain ⟨hn, h2, h3, h4, hM, h6⟩ := hG
  have hr : ∀ j, j < n → r1 j = ring j := fun j hj => (h j (by omega)).2.2.2.2.2
  have hi : ∀ j, j < n → i1 j = silent j := fun j hj => (h j (by omega)).2.2.2.2.1
  have hM1 : PM n r1 := by
    refine ⟨fun i hi => ?_, fun w hw => ?_, fun i j hi hj e => ?_⟩
    · rw [hr i hi]; exact hM.1 i hi
    · obtain ⟨i, a, b⟩ := hM.2.1 w hw
      exact ⟨i, a, by rw [hr i a]; exact b⟩
    · rw [hr i hi, hr j hj] at e; exact hM.2.2 i j hi hj e
  have hPl : ∀ w, sPl n r1 w = sPl n ring w := fun w => by
    unfold sPl
    rw [ff_congr (q := fun i => ring i == nI w) (fun k _ hk => by simp only [hr k (by omega)])]
  have hE : ∀ w, w < n → sEn n i1 r1 w = sEn n silent ring w := by
    intro w hw
    have hn0 : 0 < n := by omega
    unfold sEn sEnK
    rw [hPl w, ff_congr (q := fun k => silent (ring ((sPl n ring w + k) % n)).toNatClampNeg == 0) (fun k _ _ => ?_)]
    · split
      · rw [hr _ (Nat.mod_lt _ hn0)]
      · rfl
    · obtain ⟨v, hv, e⟩ := hM.1 _ (Nat.mod_lt (sPl n ring w + k) hn0)
      simp only [hr _ (Nat.mod_lt (sPl n ring w + k) hn0), e, nI_clamp (show v < 2 ^ 31 by omega), hi v hv]
  refine ⟨hn, h2, h3, h4, hM1, fun w hw => ?_⟩
  obtain ⟨a1, a2, a3, a4, a5, a6, a7, a8⟩ := h6 w hw
  obtain ⟨b1, b2, b3, b4, b5, b6⟩ := h w (by omega)
  exact ⟨a1.trans b1.symm, a2.trans b2.symm, a3.trans b3.symm, a4.trans b4.symm, by rw [b5]; exact a5, by rw [b5]; exact a6, a7.trans b6.symm, a8.trans (hE w hw).symm⟩
theorem RR_upd {a b : Nat → Int32} (h : RR a b) {k : Nat} (hk : k < 7) (x : Int32) : RR (upd a k (a k + x)) (upd b k (b k + x)) := by
  intro i hi
  by_cases e : i = k
  · subst e; rw [upd_at, upd_at, h i hi]
  · rw [upd_ne e, upd_ne e]; exact h i hi
