/-! PURE: guilds told in letters: all statements read, each one coming. -/
def posL (L : Nat → Nat) : Nat → Nat
  | 0 => 0
  | i + 1 => posL L i + lnL L (posL L i)
theorem OKS.len {k : Nat} {L : Nat → Nat} {p : Nat} (h : OKS k L p) : p + lnL L p ≤ k ∧ 3 ≤ lnL L p := by
  rcases h with ⟨c, -, -, -, h⟩ | ⟨c, -, -, h⟩ | ⟨c, -, h⟩ | ⟨c, -, -, h⟩ | ⟨c, -, -, -, h⟩ | ⟨c, -, -, h⟩
  · have e : lnL L p = 5 := by unfold lnL; rw [c]; rfl
    rw [e]; omega
  · have e : lnL L p = 4 := by unfold lnL; rw [c]; rfl
    rw [e]; omega
  · have e : lnL L p = 3 := by unfold lnL; rw [c]; rfl
    rw [e]; omega
  · have e : lnL L p = 4 := by unfold lnL; rw [c]; rfl
    rw [e]; omega
  · have e : lnL L p = 5 := by unfold lnL; rw [c]; rfl
    rw [e]; omega
  · have e : lnL L p = 4 := by unfold lnL; rw [c]; rfl
    rw [e]; omega
theorem TF.congr {L : Nat → Nat} {td td' : Nat → Int32} {i p m : Nat} (h : TF L td i p) (hi : i < m) (he : ∀ j, j < 3 * m → td' j = td j) : TF L td' i p := by
  unfold TF
  rw [he _ (by omega), he _ (by omega), he _ (by omega)]
  exact h
/-- the first N statements are read -/
def RD (k : Nat) (L : Nat → Nat) (N : Nat) (le la td : Nat → Int32) : Prop := ∀ j, j < N → posL L j < k ∧ OKS k L (posL L j) ∧ le j = nI (L (posL L j)) ∧ la j = nI (posL L j) ∧ TF L td j (posL L j)
section KT
variable {k : Nat} {lt tp : Nat → Int32} {L : Nat → Nat}
theorem phase1 (h : TX k lt tp L) (K : Int32 → Int32 → Int32 → (Nat → Int32) → (Nat → Int32) → (Nat → Int32) → Option (Int32 × Int32 × Int32 × Int32 × Int32 × Int32 × Int32 × Int32 × (Nat → Int32) × (Nat → Int32) × (Nat → Int32) × (Nat → Int32) × (Nat → Int32) × (Nat → Int32) × (Nat → Int32) × (Nat → Int32) × (Nat → Int32) × (Nat → Int32))) : ∀ (d i f4 f5 : Nat) (le la td : Nat → Int32), posL L i + d = k → 3 * i ≤ posL L i → d + 2 < f4 → d + 2 < f5 → RD k L i le la td →
    ∃ w gd at_ st le' la' td', f_X1_wrongPlace_4 (nI k) lt f4 (nI (posL L i)) (nI i) = some w ∧ f_X5_guild_12 tp (nI k) K f5 1 (nI (posL L i)) (nI i) le la td = K gd at_ st le' la' td' ∧ ((∃ e, e ≤ 200 ∧ w = nI e ∧ gd = 0 ∧ at_ = nI e) ∨ (w = -1 ∧ gd = 1 ∧ ∃ N, 1 ≤ N ∧ N ≤ 32 ∧ st = nI N ∧ k ≤ posL L N ∧ RD k L N le' la' td')) := by
  have hk := h.1
  intro d
  induction d using Nat.strongRecOn with
  | _ d ih =>
  intro i f4 f5 le la td hd h3 hf4 hf5 hR
  obtain ⟨f4, rfl⟩ : ∃ f, f4 = f + 1 := ⟨f4 - 1, by omega⟩
  obtain ⟨f5, rfl⟩ : ∃ f, f5 = f + 1 := ⟨f5 - 1, by omega⟩
  -- one statement more is read
  have go : ∃ w gd at_ st le' la' td', f_X1_wrongPlace_25 (nI k) lt (f_X1_wrongPlace_4 (nI k) lt f4) (nI (posL L i)) (nI i) = some w ∧ f_X5_guild_34 tp (nI k) (f_X5_guild_12 tp (nI k) K f5) (nI (posL L i)) (nI i) le la td = K gd at_ st le' la' td' ∧ ((∃ e, e ≤ 200 ∧ w = nI e ∧ gd = 0 ∧ at_ = nI e) ∨ (w = -1 ∧ gd = 1 ∧ ∃ N, 1 ≤ N ∧ N ≤ 32 ∧ st = nI N ∧ k ≤ posL L N ∧ RD k L N le' la' td')) := by
    unfold f_X5_guild_34 f_X5_guild_53
    rcases st_all (le := le) (la := la) (td := td) h (show posL L i ≤ k by omega) (show i < 48 by omega) with ⟨e, he, c4, le', la', td', c5⟩ | ⟨hp, hok, c4, td', c5, hTF, htd⟩
    · obtain ⟨f5, rfl⟩ : ∃ f, f5 = f + 1 := ⟨f5 - 1, by omega⟩
      rw [c4, c5]
      simp (decide := true) (implicitDefEqProofs := false) only [Option.bind_some, if_true, if_false]
      rw [e_X5_guild_12]
      simp (decide := true) (implicitDefEqProofs := false) only [Option.bind_some, if_true, if_false]
      exact ⟨_, _, _, _, _, _, _, rfl, rfl, Or.inl ⟨e, he, rfl, rfl, rfl⟩⟩
    · obtain ⟨hl1, hl2⟩ := hok.len
      rw [c4, c5]
      simp (decide := true) (implicitDefEqProofs := false) only [Option.bind_some, if_true, if_false]
      rw [← nI_succ]
      refine ih (d - lnL L (posL L i)) (by omega) (i + 1) f4 f5 _ _ _ (by rw [posL]; omega) (by rw [posL]; omega) (by omega) (by omega) (fun j hj => ?_)
      by_cases z : j = i
      · subst z
        exact ⟨hp, hok, upd_at, upd_at, hTF⟩
      · obtain ⟨a1, a2, a3, a4, a5⟩ := hR j (by omega)
        exact ⟨a1, a2, by rw [upd_ne z]; exact a3, by rw [upd_ne z]; exact a4, a5.congr (m := i) (by omega) htd⟩
  rw [e_X1_wrongPlace_4, e_X5_guild_12, if_neg (show ¬ (1 : Int32) = 0 by decide)]
  by_cases hi : i = 0
  · subst hi
    rw [if_pos (show nI 0 = 0 from rfl), if_pos (show nI 0 = 0 from rfl), ite_self]
    exact go
  · have hi0 : ¬ nI i = 0 := nI_ne0 (by omega) (by omega)
    rw [if_neg hi0, if_neg (show ¬ (96 : Int32) ≤ nI i from nI_ge (b := 96) (by omega) (by omega))]
    by_cases hp : posL L i < k
    · rw [if_neg (nI_ge hp (by omega)), if_pos (Int32.not_le.mp (nI_ge hp (by omega)))]
      exact go
    · rw [if_pos (nI_le (by omega) (by omega)), if_neg (Int32.not_lt.mpr (nI_le (by omega) (by omega))), if_neg hi0]
      exact ⟨_, _, _, _, _, _, _, rfl, rfl, Or.inr ⟨rfl, rfl, i, by omega, by omega, rfl, by omega, hR⟩⟩
theorem da_v (h : TX k lt tp L) {q : Nat} (hd : dg k L q) : f_X1_digitAt lt (nI q) = some (nI (L q - 48)) := by
  have hk := h.1
  obtain ⟨h1, h2, h3⟩ := h.2 q hd.1
  unfold f_X1_digitAt
  rw [g3 (by omega) (by omega), h1]
  simp only [Option.bind_some]
  rw [show nI (L q) - 48 = nI (L q - 48) from nI_subn (b := 48) hd.2.1]
theorem da_any {q : Nat} (hq : q < 200) : ∃ r, f_X1_digitAt lt (nI q) = some r := by
  unfold f_X1_digitAt
  by_cases h : q < 96
  · rw [g3 h (by omega)]
    exact ⟨_, rfl⟩
  · unfold f_X3_get
    rw [if_neg (nI_pos (by omega)), if_pos (nI_le (by omega) (by omega))]
    exact ⟨_, rfl⟩
theorem ka_v (h : TX k lt tp L) {q : Nat} (hq : q < k) : f_X1_kindAt lt (nI q) = some (kd (nI (L q))) := by
  have hk := h.1
  obtain ⟨h1, h2, h3⟩ := h.2 q hq
  unfold f_X1_kindAt
  rw [g3 (by omega) (by omega), h1]
  simp only [Option.bind_some]
  rw [ix_kd h3]
  simp only [Option.bind_some]
end KT
/-- one statement coming: both refuse it, or it comes on both sides -/
def CM (lt : Nat → Int32) (p : Nat) (le td : Nat → Int32) (i : Nat) (size year : Int32) (kinds figures styles fames writing order enders : Nat → Int32) (mw my : Int32) (kind figure style fame silent ring : Nat → Int32) : Prop :=
  (f_X4_isAsItMustBe size year lt (nI p) = some 0 ∧ ∃ s, f_X5_comes mw my kind figure style fame silent ring le td (nI i) = some s ∧ s.1 = 0) ∨
  (∃ v, f_X4_isAsItMustBe size year lt (nI p) = some v ∧ ¬ v = 0 ∧ ∃ r s, f_X4_statementComes size year kinds figures styles fames writing order enders lt (nI p) = some r ∧ f_X5_comes mw my kind figure style fame silent ring le td (nI i) = some s ∧ ¬ s.1 = 0 ∧ (∃ n, GR n r.1 r.2.1 r.2.2.1 r.2.2.2.1 r.2.2.2.2.1 r.2.2.2.2.2.1 r.2.2.2.2.2.2.1 r.2.2.2.2.2.2.2.1 r.2.2.2.2.2.2.2.2 s.2.1 s.2.2.1 s.2.2.2.1 s.2.2.2.2.1 s.2.2.2.2.2.1 s.2.2.2.2.2.2.1 s.2.2.2.2.2.2.2.1 s.2.2.2.2.2.2.2.2) ∧ BD s.2.2.2.2.1 s.2.2.2.2.2.1 s.2.2.1)
theorem dig_le {v : Nat} (h : v ≤ 9) : (0 : Int32) ≤ nI v ∧ nI v ≤ 9 := ⟨nI_pos' (by omega), nI_le (b := 9) h (by omega)⟩
section KU
variable {n : Nat} {size year : Int32} {kinds figures styles fames writing order enders : Nat → Int32} {mw my : Int32} {kind figure style fame silent ring r4 r5 : Nat → Int32}
variable {k : Nat} {lt tp : Nat → Int32} {L : Nat → Nat}
theorem GR.add (hG : GR n size year kinds figures styles fames writing order enders mw my kind figure style fame silent ring) (hn7 : n < 7) (kv fv sv : Int32) : ∃ R, f_X0_addWriter size kinds figures styles fames writing order enders kv fv sv = some R ∧ GR (n + 1) R.1 year R.2.1 R.2.2.1 R.2.2.2.1 R.2.2.2.2.1 R.2.2.2.2.2.1 R.2.2.2.2.2.2.1 R.2.2.2.2.2.2.2 (mw + 1) my (upd kind n kv) (upd figure n fv) (upd style n sv) (upd fame n 50) (upd silent n 0) (upd ring n (nI n)) := by
  have hM := hG.hM
  have hPM : PM (n + 1) (upd ring n (nI n)) := by
    refine ⟨fun i hi => ?_, fun w hw => ?_, fun i j hi hj e => ?_⟩
    · by_cases z : i = n
      · subst z; exact ⟨i, by omega, upd_at⟩
      · rw [upd_ne z]
        obtain ⟨w, hw, e⟩ := hM.1 i (by omega)
        exact ⟨w, by omega, e⟩
    · by_cases z : w = n
      · subst z; exact ⟨w, by omega, upd_at⟩
      · obtain ⟨i, hi, e⟩ := hM.2.1 w (by omega)
        exact ⟨i, by omega, by rw [upd_ne (by omega)]; exact e⟩
    · have hne : ∀ i, i < n → ¬ ring i = nI n := by
        intro i hi e
        obtain ⟨w, hw, e2⟩ := hM.1 i hi
        rw [e2] at e
        have := nI_inj (by omega) (by omega) e
        omega
      by_cases z1 : i = n
      · by_cases z2 : j = n
        · omega
        · rw [z1, upd_at, upd_ne z2] at e
          exact absurd e.symm (hne j (by omega))
      · by_cases z2 : j = n
        · rw [z2, upd_at, upd_ne z1] at e
          exact absurd e (hne i (by omega))
        · rw [upd_ne z1, upd_ne z2] at e
          exact hM.2.2 i j (by omega) (by omega) e
  have hW2 : ∀ w, w < n + 1 → (upd silent n 0 w = 0 ∨ upd silent n 0 w = 1) ∧ upd writing n 1 w = 1 - upd silent n 0 w := by
    intro w hw
    by_cases z : w = n
    · subst z; rw [upd_at, upd_at]; exact ⟨Or.inl rfl, by decide⟩
    · rw [upd_ne z, upd_ne z]; exact hG.hW w (by omega)
  have hO2 : ∀ w, w < n + 1 → upd order n (nI n) w = upd ring n (nI n) w := by
    intro w hw
    by_cases z : w = n
    · subst z; rw [upd_at, upd_at]
    · rw [upd_ne z, upd_ne z]; exact hG.hO w (by omega)
  obtain ⟨E, h1, h2⟩ := x0_tellEnders (enders := enders) (show n + 1 ≤ 7 by omega) hPM hW2 hO2
  refine ⟨(nI (n + 1), upd kinds n kv, upd figures n fv, upd styles n sv, upd fames n 50, upd writing n 1, upd order n (nI n), E), ?_, by omega, rfl, by rw [hG.2.2.1]; exact (nI_succ n).symm, hG.2.2.2.1, hPM, fun w hw => ?_⟩
  · rw [hG.2.1]
    unfold f_X0_addWriter
    rw [if_pos (show nI n < 7 from Int32.not_le.mp (nI_ge (b := 7) hn7 (by omega)))]
    rw [s3 hn7 (by omega)]
    simp (implicitDefEqProofs := false) only [Option.bind_some]
    rw [s3 hn7 (by omega)]
    simp (implicitDefEqProofs := false) only [Option.bind_some]
    rw [s3 hn7 (by omega)]
    simp (implicitDefEqProofs := false) only [Option.bind_some]
    rw [s3 hn7 (by omega)]
    simp (implicitDefEqProofs := false) only [Option.bind_some]
    rw [s3 hn7 (by omega)]
    simp (implicitDefEqProofs := false) only [Option.bind_some]
    rw [s3 hn7 (by omega)]
    simp (implicitDefEqProofs := false) only [Option.bind_some]
    rw [← nI_succ, h1]
    simp (implicitDefEqProofs := false) only [Option.bind_some]
  · refine ⟨?_, ?_, ?_, ?_, (hW2 w hw).1, (hW2 w hw).2, hO2 w hw, h2 w hw⟩
    · dsimp only
      by_cases z : w = n
      · subst z; rw [upd_at, upd_at]
      · rw [upd_ne z, upd_ne z]; exact (hG.2.2.2.2.2 w (by omega)).1
    · dsimp only
      by_cases z : w = n
      · subst z; rw [upd_at, upd_at]
      · rw [upd_ne z, upd_ne z]; exact (hG.2.2.2.2.2 w (by omega)).2.1
    · dsimp only
      by_cases z : w = n
      · subst z; rw [upd_at, upd_at]
      · rw [upd_ne z, upd_ne z]; exact hG.hS w (by omega)
    · dsimp only
      by_cases z : w = n
      · subst z; rw [upd_at, upd_at]
      · rw [upd_ne z, upd_ne z]; exact hG.hF w (by omega)
theorem nI_10 (a b : Nat) : (10 : Int32) * nI a + nI b = nI (10 * a + b) := by
  rw [show (10 : Int32) * nI a = nI (10 * a) from (Int32.ofNat_mul 10 a).symm, nI_addn]
theorem year_ok {y : Int32} {m : Nat} (h0 : 0 ≤ y) (h9 : y ≤ 999) (hm : m < 1000) (h : y + nI m ≤ 999) : 0 ≤ y + nI m ∧ y + nI m ≤ 999 := by
  refine ⟨?_, h⟩
  have a0 : (0 : Int32).toInt = 0 := by decide
  have a9 : (999 : Int32).toInt = 999 := by decide
  rw [Int32.le_iff_toInt_le] at h0 h9 ⊢
  rw [Int32.toInt_add, nI_toInt (show m < 2 ^ 31 by omega), Int.bmod_eq_of_le (by omega) (by omega)]
  omega
theorem cm_w (h : TX k lt tp L) (hG : GR n size year kinds figures styles fames writing order enders mw my kind figure style fame silent ring) (hB : BD figure style my) {p i : Nat} {le td : Nat → Int32} (hp : p < k) (hok : OKS k L p) (hc : L p = 119) (hi : i < 48) (hle : le i = nI (L p)) (hT : TF L td i p) : CM lt p le td i size year kinds figures styles fames writing order enders mw my kind figure style fame silent ring := by
  have hk := h.1
  obtain ⟨hlp, -, -⟩ := h.2 p hp
  have hpk : ∀ m, m ≤ 60 → _ := fun m hm => hG.passK (k := m) hm
  have hadd := fun hn7 => GR.add hG hn7
  obtain ⟨hn, rfl, rfl, rfl, hM, hW⟩ := id hG
  unfold OKS at hok
  rw [hc] at hok hle hlp
  simp (decide := true) only [true_and, false_and, or_false, false_or] at hok
  unfold TF at hT
  obtain ⟨b1, b2, b3, b4⟩ := hok
  obtain ⟨t1, t2, t3⟩ := hT.1 hc
  have e2 : nI p + 2 = nI (p + 2) := nI_addn p 2
  have e3 : nI p + 3 = nI (p + 3) := nI_addn p 3
  have e3i : nI (3 * i) + 2 = nI (3 * i + 2) := nI_addn (3 * i) 2
  obtain ⟨r1, d1⟩ := da_any (lt := lt) (q := p + 1) (by omega)
  have d2 := da_v h b2
  have d3 := da_v h b3
  have g0 : f_X3_get 96 lt (nI p) = some (nI 119) := by rw [g3 (by omega) (by omega), hlp]
  by_cases hn7 : n < 7
  · obtain ⟨R, q1, q2⟩ := hadd hn7 (kd (nI (L (p + 1)))) (nI (L (p + 2) - 48)) (nI (L (p + 3) - 48))
    refine Or.inr ⟨1, ?_, by decide, (R.1, year, R.2.1, R.2.2.1, R.2.2.2.1, R.2.2.2.2.1, R.2.2.2.2.2.1, R.2.2.2.2.2.2.1, R.2.2.2.2.2.2.2), (1, nI n + 1, year, upd kind n (kd (nI (L (p + 1)))), upd figure n (nI (L (p + 2) - 48)), upd style n (nI (L (p + 3) - 48)), upd fame n 50, upd silent n 0, upd ring n (nI n)), ?_, ?_, (show ¬ (1 : Int32) = 0 by decide), ⟨n + 1, q2⟩, ?_⟩
    · unfold f_X4_isAsItMustBe
      rw [e2, ← nI_succ, d1]
      try simp (decide := true) (implicitDefEqProofs := false) only [Option.bind_some, if_true, if_false, gb, or_true, true_or]
      rw [d2]
      try simp (decide := true) (implicitDefEqProofs := false) only [Option.bind_some, if_true, if_false, gb, or_true, true_or]
      rw [g0]
      try simp (decide := true) (implicitDefEqProofs := false) only [Option.bind_some, if_true, if_false, gb, or_true, true_or]
      rw [if_neg (show ¬ (7 : Int32) ≤ nI n from nI_ge (b := 7) hn7 (by omega))]
    · unfold f_X4_statementComes
      rw [e2, e3, ← nI_succ, d1]
      try simp (decide := true) (implicitDefEqProofs := false) only [Option.bind_some, if_true, if_false, gb, or_true, true_or]
      rw [d2]
      try simp (decide := true) (implicitDefEqProofs := false) only [Option.bind_some, if_true, if_false, gb, or_true, true_or]
      rw [d3]
      try simp (decide := true) (implicitDefEqProofs := false) only [Option.bind_some, if_true, if_false, gb, or_true, true_or]
      rw [g0]
      try simp (decide := true) (implicitDefEqProofs := false) only [Option.bind_some, if_true, if_false, gb, or_true, true_or]
      rw [ka_v h b1.1]
      try simp (decide := true) (implicitDefEqProofs := false) only [Option.bind_some, if_true, if_false, gb, or_true, true_or]
      rw [q1]
      try simp (decide := true) (implicitDefEqProofs := false) only [Option.bind_some, if_true, if_false, gb, or_true, true_or]
    · unfold f_X5_comes
      rw [gdI (i := i) (n := 48) (by omega) (by omega), nI_clamp (show i < 2 ^ 31 by omega), hle, nI_3i, e3i, ← nI_succ]
      try simp (decide := true) (implicitDefEqProofs := false) only [Option.bind_some, if_true, if_false, gb, or_true, true_or]
      rw [gdI (i := 3 * i) (n := 144) (by omega) (by omega), gdI (i := 3 * i + 1) (n := 144) (by omega) (by omega), gdI (i := 3 * i + 2) (n := 144) (by omega) (by omega)]
      rw [nI_clamp (show 3 * i < 2 ^ 31 by omega), nI_clamp (show 3 * i + 1 < 2 ^ 31 by omega), nI_clamp (show 3 * i + 2 < 2 ^ 31 by omega)]
      rw [t1, t2, t3]
      unfold f_X5_comesWriter
      rw [if_neg (show ¬ nI n = 7 from fun z => by have := nI_inj (b := 7) (by omega) (by omega) z; omega), gdI hn7 (by omega), gdI hn7 (by omega), gdI hn7 (by omega), gdI hn7 (by omega), gdI hn7 (by omega), gdI hn7 (by omega), nI_clamp (show n < 2 ^ 31 by omega)]
      try simp (decide := true) (implicitDefEqProofs := false) only [Option.bind_some, if_true, if_false, gb, or_true, true_or]
    · exact (hB.setFigure n (dig_le (by have := b2.2; omega)).1 (dig_le (by have := b2.2; omega)).2).setStyle n (dig_le (by have := b3.2; omega)).1 (dig_le (by have := b3.2; omega)).2
  · obtain rfl : n = 7 := by omega
    refine Or.inl ⟨?_, (0, nI 7, year, kind, figure, style, fame, silent, ring), ?_, rfl⟩
    · unfold f_X4_isAsItMustBe
      rw [e2, ← nI_succ, d1]
      try simp (decide := true) (implicitDefEqProofs := false) only [Option.bind_some, if_true, if_false, gb, or_true, true_or]
      rw [d2]
      try simp (decide := true) (implicitDefEqProofs := false) only [Option.bind_some, if_true, if_false, gb, or_true, true_or]
      rw [g0]
      try simp (decide := true) (implicitDefEqProofs := false) only [Option.bind_some, if_true, if_false, gb, or_true, true_or]
    · unfold f_X5_comes
      rw [gdI (i := i) (n := 48) (by omega) (by omega), nI_clamp (show i < 2 ^ 31 by omega), hle, nI_3i, e3i, ← nI_succ]
      try simp (decide := true) (implicitDefEqProofs := false) only [Option.bind_some, if_true, if_false, gb, or_true, true_or]
      rw [gdI (i := 3 * i) (n := 144) (by omega) (by omega), gdI (i := 3 * i + 1) (n := 144) (by omega) (by omega), gdI (i := 3 * i + 2) (n := 144) (by omega) (by omega)]
      rw [nI_clamp (show 3 * i < 2 ^ 31 by omega), nI_clamp (show 3 * i + 1 < 2 ^ 31 by omega), nI_clamp (show 3 * i + 2 < 2 ^ 31 by omega)]
      rw [t1, t2, t3]
      unfold f_X5_comesWriter
      rw [if_pos (show nI 7 = 7 from rfl)]
      try simp (decide := true) (implicitDefEqProofs := false) only [Option.bind_some, if_true, if_false, gb, or_true, true_or]
      all_goals rfl
theorem cm_x (h : TX k lt tp L) (hG : GR n size year kinds figures styles fames writing order enders mw my kind figure style fame silent ring) (hB : BD figure style my) {p i : Nat} {le td : Nat → Int32} (hp : p < k) (hok : OKS k L p) (hc : L p = 120) (hi : i < 48) (hle : le i = nI (L p)) (hT : TF L td i p) : CM lt p le td i size year kinds figures styles fames writing order enders mw my kind figure style fame silent ring := by
  have hk := h.1
  obtain ⟨hlp, -, -⟩ := h.2 p hp
  have hpk : ∀ m, m ≤ 60 → _ := fun m hm => hG.passK (k := m) hm
  have hadd := fun hn7 => GR.add hG hn7
  obtain ⟨hn, rfl, rfl, rfl, hM, hW⟩ := id hG
  unfold OKS at hok
  rw [hc] at hok hle hlp
  simp (decide := true) only [true_and, false_and, or_false, false_or] at hok
  unfold TF at hT
  obtain ⟨b1, b2, b3⟩ := hok
  obtain ⟨t1, t2⟩ := hT.2.1 (Or.inl hc)
  have e2 : nI p + 2 = nI (p + 2) := nI_addn p 2
  have e3 : nI p + 3 = nI (p + 3) := nI_addn p 3
  have e3i : nI (3 * i) + 2 = nI (3 * i + 2) := nI_addn (3 * i) 2
  have d1 := da_v h b1
  have d2 := da_v h b2
  obtain ⟨r3, d3⟩ := da_any (lt := lt) (q := p + 3) (by omega)
  have g0 : f_X3_get 96 lt (nI p) = some (nI 120) := by rw [g3 (by omega) (by omega), hlp]
  by_cases hx : ∃ a b, a < n ∧ b < n ∧ a ≠ b ∧ nI (L (p + 1) - 48) = nI a ∧ nI (L (p + 2) - 48) = nI b
  · obtain ⟨x, y, hx, hy, hxy, z1, z2⟩ := hx
    obtain ⟨O, E, q1, q2⟩ := hG.swap hx hy hxy
    have t5 := two_t hn hx hy hxy
    refine Or.inr ⟨1, ?_, by decide, (nI n, year, kinds, figures, styles, fames, writing, O, E), (1, nI n, year, kind, figure, style, fame, silent, sw n ring x y), ?_, ?_, (show ¬ (1 : Int32) = 0 by decide), ⟨n, q2⟩, hB⟩
    · unfold f_X4_isAsItMustBe
      rw [e2, ← nI_succ, d1]
      try simp (decide := true) (implicitDefEqProofs := false) only [Option.bind_some, if_true, if_false, gb, or_true, true_or]
      rw [d2]
      try simp (decide := true) (implicitDefEqProofs := false) only [Option.bind_some, if_true, if_false, gb, or_true, true_or]
      rw [g0]
      try simp (decide := true) (implicitDefEqProofs := false) only [Option.bind_some, if_true, if_false, gb, or_true, true_or]
      rw [z1, z2, t5]
      try simp (decide := true) (implicitDefEqProofs := false) only [Option.bind_some, if_true, if_false, gb, or_true, true_or]
    · unfold f_X4_statementComes
      rw [e2, e3, ← nI_succ, d1]
      try simp (decide := true) (implicitDefEqProofs := false) only [Option.bind_some, if_true, if_false, gb, or_true, true_or]
      rw [d2]
      try simp (decide := true) (implicitDefEqProofs := false) only [Option.bind_some, if_true, if_false, gb, or_true, true_or]
      rw [d3]
      try simp (decide := true) (implicitDefEqProofs := false) only [Option.bind_some, if_true, if_false, gb, or_true, true_or]
      rw [g0]
      try simp (decide := true) (implicitDefEqProofs := false) only [Option.bind_some, if_true, if_false, gb, or_true, true_or]
      rw [z1, z2, q1]
      try simp (decide := true) (implicitDefEqProofs := false) only [Option.bind_some, if_true, if_false, gb, or_true, true_or]
    · unfold f_X5_comes
      rw [gdI (i := i) (n := 48) (by omega) (by omega), nI_clamp (show i < 2 ^ 31 by omega), hle, nI_3i, e3i, ← nI_succ]
      try simp (decide := true) (implicitDefEqProofs := false) only [Option.bind_some, if_true, if_false, gb, or_true, true_or]
      rw [gdI (i := 3 * i) (n := 144) (by omega) (by omega), gdI (i := 3 * i + 1) (n := 144) (by omega) (by omega)]
      rw [nI_clamp (show 3 * i < 2 ^ 31 by omega), nI_clamp (show 3 * i + 1 < 2 ^ 31 by omega)]
      rw [t1, t2]
      rw [z1, z2, two_eq, t5]
      try simp (decide := true) (implicitDefEqProofs := false) only [Option.bind_some, if_true, if_false, gb, or_true, true_or]
      rw [x5_swaps hn hM hx hy]
      try simp (decide := true) (implicitDefEqProofs := false) only [Option.bind_some, if_true, if_false, gb, or_true, true_or]
      rw [gdI (i := 3 * i) (n := 144) (by omega) (by omega), gdI (i := 3 * i + 1) (n := 144) (by omega) (by omega)]
  · refine Or.inl ⟨?_, (0, nI n, year, kind, figure, style, fame, silent, ring), ?_, rfl⟩
    · unfold f_X4_isAsItMustBe
      rw [e2, ← nI_succ, d1]
      try simp (decide := true) (implicitDefEqProofs := false) only [Option.bind_some, if_true, if_false, gb, or_true, true_or]
      rw [d2]
      try simp (decide := true) (implicitDefEqProofs := false) only [Option.bind_some, if_true, if_false, gb, or_true, true_or]
      rw [g0]
      try simp (decide := true) (implicitDefEqProofs := false) only [Option.bind_some, if_true, if_false, gb, or_true, true_or]
      rw [two_f hn hx]
      try simp (decide := true) (implicitDefEqProofs := false) only [Option.bind_some, if_true, if_false, gb, or_true, true_or]
    · unfold f_X5_comes
      rw [gdI (i := i) (n := 48) (by omega) (by omega), nI_clamp (show i < 2 ^ 31 by omega), hle, nI_3i, e3i, ← nI_succ]
      try simp (decide := true) (implicitDefEqProofs := false) only [Option.bind_some, if_true, if_false, gb, or_true, true_or]
      rw [gdI (i := 3 * i) (n := 144) (by omega) (by omega), gdI (i := 3 * i + 1) (n := 144) (by omega) (by omega)]
      rw [nI_clamp (show 3 * i < 2 ^ 31 by omega), nI_clamp (show 3 * i + 1 < 2 ^ 31 by omega)]
      rw [t1, t2]
      rw [two_eq, two_f hn hx]
      try simp (decide := true) (implicitDefEqProofs := false) only [Option.bind_some, if_true, if_false, gb, or_true, true_or]
      all_goals rfl
theorem cm_s (h : TX k lt tp L) (hG : GR n size year kinds figures styles fames writing order enders mw my kind figure style fame silent ring) (hB : BD figure style my) {p i : Nat} {le td : Nat → Int32} (hp : p < k) (hok : OKS k L p) (hc : L p = 115) (hi : i < 48) (hle : le i = nI (L p)) (hT : TF L td i p) : CM lt p le td i size year kinds figures styles fames writing order enders mw my kind figure style fame silent ring := by
  have hk := h.1
  obtain ⟨hlp, -, -⟩ := h.2 p hp
  have hpk : ∀ m, m ≤ 60 → _ := fun m hm => hG.passK (k := m) hm
  have hadd := fun hn7 => GR.add hG hn7
  obtain ⟨hn, rfl, rfl, rfl, hM, hW⟩ := id hG
  unfold OKS at hok
  rw [hc] at hok hle hlp
  simp (decide := true) only [true_and, false_and, or_false, false_or] at hok
  unfold TF at hT
  obtain ⟨b1, b2⟩ := hok
  have t1 := hT.2.2.1 hc
  have e2 : nI p + 2 = nI (p + 2) := nI_addn p 2
  have e3 : nI p + 3 = nI (p + 3) := nI_addn p 3
  have e3i : nI (3 * i) + 2 = nI (3 * i + 2) := nI_addn (3 * i) 2
  have d1 := da_v h b1
  obtain ⟨r2, d2⟩ := da_any (lt := lt) (q := p + 2) (by omega)
  obtain ⟨r3, d3⟩ := da_any (lt := lt) (q := p + 3) (by omega)
  have g0 : f_X3_get 96 lt (nI p) = some (nI 115) := by rw [g3 (by omega) (by omega), hlp]
  by_cases hx : ∃ a, a < n ∧ nI (L (p + 1) - 48) = nI a
  · obtain ⟨x, hx, z1⟩ := hx
    obtain ⟨W, E, q1, -, q2⟩ := hG.toggle hx
    refine Or.inr ⟨1, ?_, by decide, (nI n, year, kinds, figures, styles, fames, W, order, E), (1, nI n, year, kind, figure, style, fame, upd silent x (1 - silent x), ring), ?_, ?_, (show ¬ (1 : Int32) = 0 by decide), ⟨n, q2⟩, hB⟩
    · unfold f_X4_isAsItMustBe
      rw [e2, ← nI_succ, d1]
      try simp (decide := true) (implicitDefEqProofs := false) only [Option.bind_some, if_true, if_false, gb, or_true, true_or]
      rw [d2]
      try simp (decide := true) (implicitDefEqProofs := false) only [Option.bind_some, if_true, if_false, gb, or_true, true_or]
      rw [g0]
      try simp (decide := true) (implicitDefEqProofs := false) only [Option.bind_some, if_true, if_false, gb, or_true, true_or]
      rw [z1, has_t hn hx]
      try simp (decide := true) (implicitDefEqProofs := false) only [Option.bind_some, if_true, if_false, gb, or_true, true_or]
    · unfold f_X4_statementComes
      rw [e2, e3, ← nI_succ, d1]
      try simp (decide := true) (implicitDefEqProofs := false) only [Option.bind_some, if_true, if_false, gb, or_true, true_or]
      rw [d2]
      try simp (decide := true) (implicitDefEqProofs := false) only [Option.bind_some, if_true, if_false, gb, or_true, true_or]
      rw [d3]
      try simp (decide := true) (implicitDefEqProofs := false) only [Option.bind_some, if_true, if_false, gb, or_true, true_or]
      rw [g0]
      try simp (decide := true) (implicitDefEqProofs := false) only [Option.bind_some, if_true, if_false, gb, or_true, true_or]
      rw [z1, q1]
      try simp (decide := true) (implicitDefEqProofs := false) only [Option.bind_some, if_true, if_false, gb, or_true, true_or]
    · unfold f_X5_comes
      rw [gdI (i := i) (n := 48) (by omega) (by omega), nI_clamp (show i < 2 ^ 31 by omega), hle, nI_3i, e3i, ← nI_succ]
      try simp (decide := true) (implicitDefEqProofs := false) only [Option.bind_some, if_true, if_false, gb, or_true, true_or]
      rw [gdI (i := i) (n := 48) (by omega) (by omega)]
      rw [gdI (i := 3 * i) (n := 144) (by omega) (by omega), gdI (i := 3 * i + 1) (n := 144) (by omega) (by omega)]
      rw [nI_clamp (show 3 * i < 2 ^ 31 by omega), nI_clamp (show 3 * i + 1 < 2 ^ 31 by omega)]
      rw [t1]
      unfold f_X5_comesOf
      rw [z1, one_t hn hx]
      try simp (decide := true) (implicitDefEqProofs := false) only [Option.bind_some, if_true, if_false, gb, or_true, true_or]
      rw [gdI (show x < 7 by omega) (by omega), gdI (show x < 7 by omega) (by omega), nI_clamp (show x < 2 ^ 31 by omega)]
      try simp (decide := true) (implicitDefEqProofs := false) only [Option.bind_some, if_true, if_false, gb, or_true, true_or]
  · refine Or.inl ⟨?_, (0, nI n, year, kind, figure, style, fame, silent, ring), ?_, rfl⟩
    · unfold f_X4_isAsItMustBe
      rw [e2, ← nI_succ, d1]
      try simp (decide := true) (implicitDefEqProofs := false) only [Option.bind_some, if_true, if_false, gb, or_true, true_or]
      rw [d2]
      try simp (decide := true) (implicitDefEqProofs := false) only [Option.bind_some, if_true, if_false, gb, or_true, true_or]
      rw [g0]
      try simp (decide := true) (implicitDefEqProofs := false) only [Option.bind_some, if_true, if_false, gb, or_true, true_or]
      rw [has_f hn hx]
      try simp (decide := true) (implicitDefEqProofs := false) only [Option.bind_some, if_true, if_false, gb, or_true, true_or]
    · unfold f_X5_comes
      rw [gdI (i := i) (n := 48) (by omega) (by omega), nI_clamp (show i < 2 ^ 31 by omega), hle, nI_3i, e3i, ← nI_succ]
      try simp (decide := true) (implicitDefEqProofs := false) only [Option.bind_some, if_true, if_false, gb, or_true, true_or]
      rw [gdI (i := i) (n := 48) (by omega) (by omega)]
      rw [gdI (i := 3 * i) (n := 144) (by omega) (by omega), gdI (i := 3 * i + 1) (n := 144) (by omega) (by omega)]
      rw [nI_clamp (show 3 * i < 2 ^ 31 by omega), nI_clamp (show 3 * i + 1 < 2 ^ 31 by omega)]
      rw [t1]
      unfold f_X5_comesOf
      rw [one_f hn hx]
      try simp (decide := true) (implicitDefEqProofs := false) only [Option.bind_some, if_true, if_false, gb, or_true, true_or]
      all_goals rfl
theorem cm_t (h : TX k lt tp L) (hG : GR n size year kinds figures styles fames writing order enders mw my kind figure style fame silent ring) (hB : BD figure style my) {p i : Nat} {le td : Nat → Int32} (hp : p < k) (hok : OKS k L p) (hc : L p = 116) (hi : i < 48) (hle : le i = nI (L p)) (hT : TF L td i p) : CM lt p le td i size year kinds figures styles fames writing order enders mw my kind figure style fame silent ring := by
  have hk := h.1
  obtain ⟨hlp, -, -⟩ := h.2 p hp
  have hpk : ∀ m, m ≤ 60 → _ := fun m hm => hG.passK (k := m) hm
  have hadd := fun hn7 => GR.add hG hn7
  obtain ⟨hn, rfl, rfl, rfl, hM, hW⟩ := id hG
  unfold OKS at hok
  rw [hc] at hok hle hlp
  simp (decide := true) only [true_and, false_and, or_false, false_or] at hok
  unfold TF at hT
  obtain ⟨b1, b2, b3⟩ := hok
  obtain ⟨t1, t2⟩ := hT.2.1 (Or.inr hc)
  have e2 : nI p + 2 = nI (p + 2) := nI_addn p 2
  have e3 : nI p + 3 = nI (p + 3) := nI_addn p 3
  have e3i : nI (3 * i) + 2 = nI (3 * i + 2) := nI_addn (3 * i) 2
  have d1 := da_v h b1
  have d2 := da_v h b2
  obtain ⟨r3, d3⟩ := da_any (lt := lt) (q := p + 3) (by omega)
  have g0 : f_X3_get 96 lt (nI p) = some (nI 116) := by rw [g3 (by omega) (by omega), hlp]
  by_cases hx : ∃ a, a < n ∧ nI (L (p + 1) - 48) = nI a
  · obtain ⟨x, hx, z1⟩ := hx
    refine Or.inr ⟨1, ?_, by decide, (nI n, year, kinds, figures, upd styles x (nI (L (p + 2) - 48)), fames, writing, order, enders), (1, nI n, year, kind, figure, upd style x (nI (L (p + 2) - 48)), fame, silent, ring), ?_, ?_, (show ¬ (1 : Int32) = 0 by decide), ⟨n, hG.setStyle x _⟩, hB.setStyle x (dig_le (by have := b2.2; omega)).1 (dig_le (by have := b2.2; omega)).2⟩
    · unfold f_X4_isAsItMustBe
      rw [e2, ← nI_succ, d1]
      try simp (decide := true) (implicitDefEqProofs := false) only [Option.bind_some, if_true, if_false, gb, or_true, true_or]
      rw [d2]
      try simp (decide := true) (implicitDefEqProofs := false) only [Option.bind_some, if_true, if_false, gb, or_true, true_or]
      rw [g0]
      try simp (decide := true) (implicitDefEqProofs := false) only [Option.bind_some, if_true, if_false, gb, or_true, true_or]
      rw [z1, has_t hn hx]
      try simp (decide := true) (implicitDefEqProofs := false) only [Option.bind_some, if_true, if_false, gb, or_true, true_or]
    · unfold f_X4_statementComes
      rw [e2, e3, ← nI_succ, d1]
      try simp (decide := true) (implicitDefEqProofs := false) only [Option.bind_some, if_true, if_false, gb, or_true, true_or]
      rw [d2]
      try simp (decide := true) (implicitDefEqProofs := false) only [Option.bind_some, if_true, if_false, gb, or_true, true_or]
      rw [d3]
      try simp (decide := true) (implicitDefEqProofs := false) only [Option.bind_some, if_true, if_false, gb, or_true, true_or]
      rw [g0]
      try simp (decide := true) (implicitDefEqProofs := false) only [Option.bind_some, if_true, if_false, gb, or_true, true_or]
      rw [z1, s3 (by omega) (by omega)]
      try simp (decide := true) (implicitDefEqProofs := false) only [Option.bind_some, if_true, if_false, gb, or_true, true_or]
    · unfold f_X5_comes
      rw [gdI (i := i) (n := 48) (by omega) (by omega), nI_clamp (show i < 2 ^ 31 by omega), hle, nI_3i, e3i, ← nI_succ]
      try simp (decide := true) (implicitDefEqProofs := false) only [Option.bind_some, if_true, if_false, gb, or_true, true_or]
      rw [gdI (i := i) (n := 48) (by omega) (by omega)]
      rw [gdI (i := 3 * i) (n := 144) (by omega) (by omega), gdI (i := 3 * i + 1) (n := 144) (by omega) (by omega)]
      rw [nI_clamp (show 3 * i < 2 ^ 31 by omega), nI_clamp (show 3 * i + 1 < 2 ^ 31 by omega)]
      rw [t1, t2]
      unfold f_X5_comesOf
      rw [z1, one_t hn hx]
      try simp (decide := true) (implicitDefEqProofs := false) only [Option.bind_some, if_true, if_false, gb, or_true, true_or]
      rw [gdI (show x < 7 by omega) (by omega), nI_clamp (show x < 2 ^ 31 by omega)]
      try simp (decide := true) (implicitDefEqProofs := false) only [Option.bind_some, if_true, if_false, gb, or_true, true_or]
  · refine Or.inl ⟨?_, (0, nI n, year, kind, figure, style, fame, silent, ring), ?_, rfl⟩
    · unfold f_X4_isAsItMustBe
      rw [e2, ← nI_succ, d1]
      try simp (decide := true) (implicitDefEqProofs := false) only [Option.bind_some, if_true, if_false, gb, or_true, true_or]
      rw [d2]
      try simp (decide := true) (implicitDefEqProofs := false) only [Option.bind_some, if_true, if_false, gb, or_true, true_or]
      rw [g0]
      try simp (decide := true) (implicitDefEqProofs := false) only [Option.bind_some, if_true, if_false, gb, or_true, true_or]
      rw [has_f hn hx]
      try simp (decide := true) (implicitDefEqProofs := false) only [Option.bind_some, if_true, if_false, gb, or_true, true_or]
    · unfold f_X5_comes
      rw [gdI (i := i) (n := 48) (by omega) (by omega), nI_clamp (show i < 2 ^ 31 by omega), hle, nI_3i, e3i, ← nI_succ]
      try simp (decide := true) (implicitDefEqProofs := false) only [Option.bind_some, if_true, if_false, gb, or_true, true_or]
      rw [gdI (i := i) (n := 48) (by omega) (by omega)]
      rw [gdI (i := 3 * i) (n := 144) (by omega) (by omega), gdI (i := 3 * i + 1) (n := 144) (by omega) (by omega)]
      rw [nI_clamp (show 3 * i < 2 ^ 31 by omega), nI_clamp (show 3 * i + 1 < 2 ^ 31 by omega)]
      rw [t1, t2]
      unfold f_X5_comesOf
      rw [one_f hn hx]
      try simp (decide := true) (implicitDefEqProofs := false) only [Option.bind_some, if_true, if_false, gb, or_true, true_or]
      all_goals rfl
theorem cm_f (h : TX k lt tp L) (hG : GR n size year kinds figures styles fames writing order enders mw my kind figure style fame silent ring) (hB : BD figure style my) {p i : Nat} {le td : Nat → Int32} (hp : p < k) (hok : OKS k L p) (hc : L p = 102) (hi : i < 48) (hle : le i = nI (L p)) (hT : TF L td i p) : CM lt p le td i size year kinds figures styles fames writing order enders mw my kind figure style fame silent ring := by
  have hk := h.1
  obtain ⟨hlp, -, -⟩ := h.2 p hp
  have hpk : ∀ m, m ≤ 60 → _ := fun m hm => hG.passK (k := m) hm
  have hadd := fun hn7 => GR.add hG hn7
  obtain ⟨hn, rfl, rfl, rfl, hM, hW⟩ := id hG
  unfold OKS at hok
  rw [hc] at hok hle hlp
  simp (decide := true) only [true_and, false_and, or_false, false_or] at hok
  unfold TF at hT
  obtain ⟨b1, b2, b3, b4⟩ := hok
  obtain ⟨t1, t2⟩ := hT.2.2.2.1 hc
  have e2 : nI p + 2 = nI (p + 2) := nI_addn p 2
  have e3 : nI p + 3 = nI (p + 3) := nI_addn p 3
  have e3i : nI (3 * i) + 2 = nI (3 * i + 2) := nI_addn (3 * i) 2
  have d1 := da_v h b1
  have d2 := da_v h b2
  have d3 := da_v h b3
  have g0 : f_X3_get 96 lt (nI p) = some (nI 102) := by rw [g3 (by omega) (by omega), hlp]
  by_cases hx : ∃ a, a < n ∧ nI (L (p + 1) - 48) = nI a
  · obtain ⟨x, hx, z1⟩ := hx
    refine Or.inr ⟨1, ?_, by decide, (nI n, year, kinds, figures, styles, upd fames x (nI (10 * (L (p + 2) - 48) + (L (p + 3) - 48))), writing, order, enders), (1, nI n, year, kind, figure, style, upd fame x (nI (10 * (L (p + 2) - 48) + (L (p + 3) - 48))), silent, ring), ?_, ?_, (show ¬ (1 : Int32) = 0 by decide), ⟨n, hG.setFame x _⟩, hB⟩
    · unfold f_X4_isAsItMustBe
      rw [e2, ← nI_succ, d1]
      try simp (decide := true) (implicitDefEqProofs := false) only [Option.bind_some, if_true, if_false, gb, or_true, true_or]
      rw [d2]
      try simp (decide := true) (implicitDefEqProofs := false) only [Option.bind_some, if_true, if_false, gb, or_true, true_or]
      rw [g0]
      try simp (decide := true) (implicitDefEqProofs := false) only [Option.bind_some, if_true, if_false, gb, or_true, true_or]
      rw [z1, has_t hn hx]
      try simp (decide := true) (implicitDefEqProofs := false) only [Option.bind_some, if_true, if_false, gb, or_true, true_or]
    · unfold f_X4_statementComes
      rw [e2, e3, ← nI_succ, d1]
      try simp (decide := true) (implicitDefEqProofs := false) only [Option.bind_some, if_true, if_false, gb, or_true, true_or]
      rw [d2]
      try simp (decide := true) (implicitDefEqProofs := false) only [Option.bind_some, if_true, if_false, gb, or_true, true_or]
      rw [d3]
      try simp (decide := true) (implicitDefEqProofs := false) only [Option.bind_some, if_true, if_false, gb, or_true, true_or]
      rw [g0]
      try simp (decide := true) (implicitDefEqProofs := false) only [Option.bind_some, if_true, if_false, gb, or_true, true_or]
      rw [z1, s3 (by omega) (by omega)]
      try simp (decide := true) (implicitDefEqProofs := false) only [Option.bind_some, if_true, if_false, gb, or_true, true_or]
      rw [show (10 : Int32) * nI (L (p + 2) - 48) + nI (L (p + 3) - 48) = nI (10 * (L (p + 2) - 48) + (L (p + 3) - 48)) from nI_10 _ _]
    · unfold f_X5_comes
      rw [gdI (i := i) (n := 48) (by omega) (by omega), nI_clamp (show i < 2 ^ 31 by omega), hle, nI_3i, e3i, ← nI_succ]
      try simp (decide := true) (implicitDefEqProofs := false) only [Option.bind_some, if_true, if_false, gb, or_true, true_or]
      rw [gdI (i := i) (n := 48) (by omega) (by omega)]
      rw [gdI (i := 3 * i) (n := 144) (by omega) (by omega), gdI (i := 3 * i + 1) (n := 144) (by omega) (by omega)]
      rw [nI_clamp (show 3 * i < 2 ^ 31 by omega), nI_clamp (show 3 * i + 1 < 2 ^ 31 by omega)]
      rw [t1, t2]
      unfold f_X5_comesOf
      rw [z1, one_t hn hx]
      try simp (decide := true) (implicitDefEqProofs := false) only [Option.bind_some, if_true, if_false, gb, or_true, true_or]
      rw [gdI (show x < 7 by omega) (by omega), nI_clamp (show x < 2 ^ 31 by omega)]
      try simp (decide := true) (implicitDefEqProofs := false) only [Option.bind_some, if_true, if_false, gb, or_true, true_or]
  · refine Or.inl ⟨?_, (0, nI n, year, kind, figure, style, fame, silent, ring), ?_, rfl⟩
    · unfold f_X4_isAsItMustBe
      rw [e2, ← nI_succ, d1]
      try simp (decide := true) (implicitDefEqProofs := false) only [Option.bind_some, if_true, if_false, gb, or_true, true_or]
      rw [d2]
      try simp (decide := true) (implicitDefEqProofs := false) only [Option.bind_some, if_true, if_false, gb, or_true, true_or]
      rw [g0]
      try simp (decide := true) (implicitDefEqProofs := false) only [Option.bind_some, if_true, if_false, gb, or_true, true_or]
      rw [has_f hn hx]
      try simp (decide := true) (implicitDefEqProofs := false) only [Option.bind_some, if_true, if_false, gb, or_true, true_or]
    · unfold f_X5_comes
      rw [gdI (i := i) (n := 48) (by omega) (by omega), nI_clamp (show i < 2 ^ 31 by omega), hle, nI_3i, e3i, ← nI_succ]
      try simp (decide := true) (implicitDefEqProofs := false) only [Option.bind_some, if_true, if_false, gb, or_true, true_or]
      rw [gdI (i := i) (n := 48) (by omega) (by omega)]
      rw [gdI (i := 3 * i) (n := 144) (by omega) (by omega), gdI (i := 3 * i + 1) (n := 144) (by omega) (by omega)]
      rw [nI_clamp (show 3 * i < 2 ^ 31 by omega), nI_clamp (show 3 * i + 1 < 2 ^ 31 by omega)]
      rw [t1, t2]
      unfold f_X5_comesOf
      rw [one_f hn hx]
      try simp (decide := true) (implicitDefEqProofs := false) only [Option.bind_some, if_true, if_false, gb, or_true, true_or]
      all_goals rfl
theorem cm_y (h : TX k lt tp L) (hG : GR n size year kinds figures styles fames writing order enders mw my kind figure style fame silent ring) (hB : BD figure style my) {p i : Nat} {le td : Nat → Int32} (hp : p < k) (hok : OKS k L p) (hc : L p = 121) (hi : i < 48) (hle : le i = nI (L p)) (hT : TF L td i p) : CM lt p le td i size year kinds figures styles fames writing order enders mw my kind figure style fame silent ring := by
  have hk := h.1
  obtain ⟨hlp, -, -⟩ := h.2 p hp
  have hpk : ∀ m, m ≤ 60 → _ := fun m hm => hG.passK (k := m) hm
  have hadd := fun hn7 => GR.add hG hn7
  obtain ⟨hn, rfl, rfl, rfl, hM, hW⟩ := id hG
  unfold OKS at hok
  rw [hc] at hok hle hlp
  simp (decide := true) only [true_and, false_and, or_false, false_or] at hok
  unfold TF at hT
  obtain ⟨b1, b2, b3⟩ := hok
  have t1 := hT.2.2.2.2 hc
  have e2 : nI p + 2 = nI (p + 2) := nI_addn p 2
  have e3 : nI p + 3 = nI (p + 3) := nI_addn p 3
  have e3i : nI (3 * i) + 2 = nI (3 * i + 2) := nI_addn (3 * i) 2
  have d1 := da_v h b1
  have d2 := da_v h b2
  obtain ⟨r3, d3⟩ := da_any (lt := lt) (q := p + 3) (by omega)
  have g0 : f_X3_get 96 lt (nI p) = some (nI 121) := by rw [g3 (by omega) (by omega), hlp]
  have hm : 10 * (L (p + 1) - 48) + (L (p + 2) - 48) ≤ 99 := by have := b1.2; have := b2.2; omega
  have e10 : (10 : Int32) * nI (L (p + 1) - 48) + nI (L (p + 2) - 48) = nI (10 * (L (p + 1) - 48) + (L (p + 2) - 48)) := nI_10 _ _
  generalize 10 * (L (p + 1) - 48) + (L (p + 2) - 48) = m at *
  have hmust : f_X4_isAsItMustBe (nI n) year lt (nI p) = if nI m < 1 then some 0 else (f_X0_hasRoomFor year (nI m)).bind fun r => if r = 0 then some 0 else some 1 := by
    unfold f_X4_isAsItMustBe
    rw [e2, ← nI_succ, d1]
    try simp (decide := true) (implicitDefEqProofs := false) only [Option.bind_some, if_true, if_false, gb, or_true, true_or]
    rw [d2]
    try simp (decide := true) (implicitDefEqProofs := false) only [Option.bind_some, if_true, if_false, gb, or_true, true_or]
    rw [g0]
    try simp (decide := true) (implicitDefEqProofs := false) only [Option.bind_some, if_true, if_false, gb, or_true, true_or]
    rw [e10]
  have hcome : f_X5_comes (nI n) year kind figure style fame silent ring le td (nI i) = (f_X5_comesYears (nI n) year kind figure style fame silent ring (nI m)).bind fun r => gb r.1 (some (r.1, nI n, r.2.1, kind, figure, style, r.2.2, silent, ring)) := by
    unfold f_X5_comes
    rw [gdI (i := i) (n := 48) (by omega) (by omega), nI_clamp (show i < 2 ^ 31 by omega), hle, nI_3i, e3i, ← nI_succ]
    try simp (decide := true) (implicitDefEqProofs := false) only [Option.bind_some, if_true, if_false, gb, or_true, true_or]
    rw [gdI (i := 3 * i) (n := 144) (by omega) (by omega)]
    rw [nI_clamp (show 3 * i < 2 ^ 31 by omega)]
    rw [t1]
  unfold f_X0_hasRoomFor at hmust
  unfold f_X5_comesYears f_X5_isIn at hcome
  by_cases c1 : nI m < 1
  · rw [if_pos c1] at hmust hcome
    simp (decide := true) (implicitDefEqProofs := false) only [Option.bind_some, if_true, if_false, gb, or_true, true_or] at hcome
    exact Or.inl ⟨hmust, _, hcome, rfl⟩
  · rw [if_neg c1] at hmust hcome
    by_cases c2 : 60 < nI m
    · rw [if_pos c2] at hmust hcome
      simp (decide := true) (implicitDefEqProofs := false) only [Option.bind_some, if_true, if_false, gb, or_true, true_or] at hmust
      simp (decide := true) (implicitDefEqProofs := false) only [Option.bind_some, if_true, if_false, gb, or_true, true_or] at hcome
      exact Or.inl ⟨hmust, _, hcome, rfl⟩
    · rw [if_neg c2] at hmust hcome
      by_cases c3 : 999 < year + nI m
      · rw [if_pos c3] at hmust
        simp (decide := true) (implicitDefEqProofs := false) only [Option.bind_some, if_true, if_false, gb, or_true, true_or] at hmust
        simp (decide := true) (implicitDefEqProofs := false) only [Option.bind_some, if_true, if_false, gb, or_true, true_or] at hcome
        rw [if_neg (Int32.not_le.mpr c3)] at hcome
        simp (decide := true) (implicitDefEqProofs := false) only [Option.bind_some, if_true, if_false, gb, or_true, true_or] at hcome
        exact Or.inl ⟨hmust, _, hcome, rfl⟩
      · have hm60 : m ≤ 60 := (nI_leI (b := 60) (by omega) (by omega)).mp (Int32.not_lt.mp c2)
        obtain ⟨F2, p1, p2, hG2⟩ := hG.passK hm60
        rw [if_neg c3] at hmust
        simp (decide := true) (implicitDefEqProofs := false) only [Option.bind_some, if_true, if_false, gb, or_true, true_or] at hmust
        simp (decide := true) (implicitDefEqProofs := false) only [Option.bind_some, if_true, if_false, gb, or_true, true_or] at hcome
        rw [if_pos (Int32.not_lt.mp c3), p2] at hcome
        simp (decide := true) (implicitDefEqProofs := false) only [Option.bind_some, if_true, if_false, gb, or_true, true_or] at hcome
        refine Or.inr ⟨1, hmust, by decide, (nI n, _, kinds, figures, styles, F2, writing, order, enders), _, ?_, hcome, (show ¬ (1 : Int32) = 0 by decide), ⟨n, hG2⟩, hB.1, ?_⟩
        · unfold f_X4_statementComes
          rw [e2, e3, ← nI_succ, d1]
          try simp (decide := true) (implicitDefEqProofs := false) only [Option.bind_some, if_true, if_false, gb, or_true, true_or]
          rw [d2]
          try simp (decide := true) (implicitDefEqProofs := false) only [Option.bind_some, if_true, if_false, gb, or_true, true_or]
          rw [d3]
          try simp (decide := true) (implicitDefEqProofs := false) only [Option.bind_some, if_true, if_false, gb, or_true, true_or]
          rw [g0]
          try simp (decide := true) (implicitDefEqProofs := false) only [Option.bind_some, if_true, if_false, gb, or_true, true_or]
          rw [e10, p1]
          try simp (decide := true) (implicitDefEqProofs := false) only [Option.bind_some, if_true, if_false, gb, or_true, true_or]
        · show 0 ≤ (sYs n kind figure style silent ring m year fame).1 ∧ (sYs n kind figure style silent ring m year fame).1 ≤ 999
          rw [sYs_year]
          exact year_ok hB.2.1 hB.2.2 (by omega) (Int32.not_lt.mp c3)
theorem cm_all (h : TX k lt tp L) (hG : GR n size year kinds figures styles fames writing order enders mw my kind figure style fame silent ring) (hB : BD figure style my) {p i : Nat} {le td : Nat → Int32} (hp : p < k) (hok : OKS k L p) (hi : i < 48) (hle : le i = nI (L p)) (hT : TF L td i p) : CM lt p le td i size year kinds figures styles fames writing order enders mw my kind figure style fame silent ring := by
  rcases id hok with ⟨c, -⟩ | ⟨c, -⟩ | ⟨c, -⟩ | ⟨c, -⟩ | ⟨c, -⟩ | ⟨c, -⟩
  · exact cm_w h hG hB hp hok c hi hle hT
  · exact cm_x h hG hB hp hok c hi hle hT
  · exact cm_s h hG hB hp hok c hi hle hT
  · exact cm_t h hG hB hp hok c hi hle hT
  · exact cm_f h hG hB hp hok c hi hle hT
  · exact cm_y h hG hB hp hok c hi hle hT
end KU
