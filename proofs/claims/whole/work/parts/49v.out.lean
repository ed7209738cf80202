/-! PURE: what the relation needs after a call. -/
section KW
variable {n : Nat} {size year : Int32} {kinds figures styles fames writing order enders : Nat → Int32} {mw my : Int32} {kind figure style fame silent ring r4 r5 : Nat → Int32}
variable {kz gz sz fz wz oz ez t0 t1 z1 z2 z3 z4 z5 z6 z7 ik cu : Int32} {a1 a2 a3 a4 a5 a6 a7 kept : Nat → Int32}
theorem hk_back {isKept hasImage ks ky : Int32} {kk kf kst kfa kw ko ke K K2 : Nat → Int32} (h : isKept = hasImage ∧ (isKept = 0 ∨ (isKept = 1 ∧ ∃ n KK F S M I R w y, PKd 0 K KK F S M I R w y ∧ GR n ks ky kk kf kst kfa kw ko ke w y KK F S M I R))) (hk : ∀ j, j < 44 → K2 j = K j) : isKept = hasImage ∧ (isKept = 0 ∨ (isKept = 1 ∧ ∃ n KK F S M I R w y, PKd 0 K2 KK F S M I R w y ∧ GR n ks ky kk kf kst kfa kw ko ke w y KK F S M I R)) := by
  refine ⟨h.1, h.2.imp id (fun z => ⟨z.1, ?_⟩)⟩
  obtain ⟨n, KK, F, S, M, I, R, w, y, h1, h2⟩ := z.2
  refine ⟨n, KK, F, S, M, I, R, w, y, ⟨fun j hj => ?_, ?_, ?_⟩, h2⟩
  · obtain ⟨b1, b2, b3, b4, b5, b6⟩ := h1.1 j hj
    exact ⟨by rw [hk _ (by omega)]; exact b1, by rw [hk _ (by omega)]; exact b2, by rw [hk _ (by omega)]; exact b3, by rw [hk _ (by omega)]; exact b4, by rw [hk _ (by omega)]; exact b5, by rw [hk _ (by omega)]; exact b6⟩
  · rw [hk _ (by omega)]; exact h1.2.1
  · rw [hk _ (by omega)]; exact h1.2.2
theorem bdk_back {K K2 : Nat → Int32} (h : BD (fun j => K (7 + j)) (fun j => K (14 + j)) (K 43)) (hk : ∀ j, j < 44 → K2 j = K j) : BD (fun j => K2 (7 + j)) (fun j => K2 (14 + j)) (K2 43) := by
  refine ⟨fun j hj => ?_, ?_⟩
  · have := h.1 j hj
    dsimp only at this ⊢
    rw [hk _ (by omega), hk _ (by omega)]
    exact this
  · rw [hk _ (by omega)]
    exact h.2
theorem bd_back {b : BT} (h : BD figure style my) (hb : BK mw my kind figure style fame silent ring kept b) : BD b.2.2.2.2.2.1 b.2.2.2.2.2.2.1 b.2.1 := by
  rw [hb.2.1]
  exact h.back (fun j hj => (hb.2.2.1 j hj).2.1) (fun j hj => (hb.2.2.1 j hj).2.2.1)
theorem pkd0_bd {K : Nat → Int32} (hP : PKd 0 K kind figure style fame silent ring mw my) (h : BD figure style my) : BD (fun j => K (7 + j)) (fun j => K (14 + j)) (K 43) := by
  have h43 : K 43 = my := by have := hP.2.2; rwa [Nat.zero_add] at this
  rw [h43]
  refine h.back (fun j hj => ?_) (fun j hj => ?_)
  · have := (hP.1 j hj).2.1
    rwa [Nat.zero_add] at this
  · have := (hP.1 j hj).2.2.1
    rwa [Nat.zero_add] at this
theorem pkd0_bd2 {K : Nat → Int32} (hP : PKd 0 K kind figure style fame silent ring mw my) (h : BD (fun j => K (7 + j)) (fun j => K (14 + j)) (K 43)) : BD figure style my := by
  have h43 : K 43 = my := by have := hP.2.2; rwa [Nat.zero_add] at this
  rw [h43] at h
  refine h.back (fun j hj => ?_) (fun j hj => ?_)
  · have := (hP.1 j hj).2.1
    rw [Nat.zero_add] at this
    exact this.symm
  · have := (hP.1 j hj).2.2.1
    rw [Nat.zero_add] at this
    exact this.symm
end KW
