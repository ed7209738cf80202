/-! PURE: censors by odds. -/
def zc (m : Nat) : Nat → Nat
  | 0 => 0
  | k + 1 => zc m k + (1 - m / 2 ^ k % 2)
def pL (e : Int64) : Nat → Int64
  | 0 => 1
  | k + 1 => pL e k * e
def cS (e : Int64) (nn d : Nat) : Int64 := fr (fun m a => a + pL e (zc m nn)) d 0 0
theorem fr_snoc {α : Type} {f : Nat → α → α} : ∀ (d i : Nat) (a : α), fr f (d + 1) i a = f (i + d) (fr f d i a) := by
  intro d
  induction d with
  | zero => intro i a; rfl
  | succ d ih =>
    intro i a
    rw [fr, ih (i + 1) (f i a), fr, show i + 1 + d = i + (d + 1) by omega]
theorem zc_facts {nn m : Nat} (hn : nn < 8) (hm : m < 2 ^ nn) : j_bitCount (nI m) = some (nI (nn - zc m nn)) ∧ zc m nn ≤ nn := by
  have h : ∀ nn, nn < 8 → ∀ m, m < 2 ^ nn → (j_bc5 (j_bc4 (j_bc3 (j_bc2 (j_bc1 (nI m))))) &&& 63) = nI (nn - zc m nn) ∧ zc m nn ≤ nn := by decide +kernel
  obtain ⟨h1, h2⟩ := h nn hn m hm
  exact ⟨congrArg some h1, h2⟩
theorem cS_facts {t nn : Nat} (h2 : 2 ≤ t) (ht : t < 21) (hn : nn < 8) : cS (Int32.toInt64 (nI t - 1)) nn (2 ^ nn) = pL (Int32.toInt64 (nI t)) nn ∧ ¬ pL (Int32.toInt64 (nI t)) nn = 0 ∧ (pL (Int32.toInt64 (nI t)) nn).toInt.natAbs < 2 ^ 40 := by
  have h : ∀ t, t < 21 → 2 ≤ t → ∀ nn, nn < 8 → cS (Int32.toInt64 (nI t - 1)) nn (2 ^ nn) = pL (Int32.toInt64 (nI t)) nn ∧ ¬ pL (Int32.toInt64 (nI t)) nn = 0 ∧ (pL (Int32.toInt64 (nI t)) nn).toInt.natAbs < 2 ^ 40 := by decide +kernel
  exact h t ht h2 nn hn
theorem x4_weight {x : Int32} {k : Nat} (hk : k ≤ 7) : f_X4_weightOfFreeYears (nI k) x = some (pL (Int32.toInt64 (x - 1)) k) := by
  have key : ∀ (d i fuel : Nat), i + d = k → d < fuel → f_X4_weightOfFreeYears_5 (nI k) x fuel (pL (Int32.toInt64 (x - 1)) i) (nI i) = some (pL (Int32.toInt64 (x - 1)) k) := by
    intro d
    induction d with
    | zero =>
      intro i fuel hi hf
      obtain ⟨fuel, rfl⟩ : ∃ f2, fuel = f2 + 1 := ⟨fuel - 1, by omega⟩
      obtain rfl : i = k := by omega
      rw [e_X4_weightOfFreeYears_5, if_pos (nI_le (by omega) (by omega))]
    | succ d ih =>
      intro i fuel hi hf
      obtain ⟨fuel, rfl⟩ : ∃ f2, fuel = f2 + 1 := ⟨fuel - 1, by omega⟩
      rw [e_X4_weightOfFreeYears_5, if_neg (nI_ge (by omega) (by omega)), if_neg (show ¬ (7 : Int32) ≤ nI i from nI_ge (b := 7) (by omega) (by omega)), ← nI_succ]
      exact ih (i + 1) fuel (by omega) (by omega)
  unfold f_X4_weightOfFreeYears
  exact key k 0 FU (by omega) (FU_gt (by omega))
section KI
variable {n : Nat} {size year : Int32} {kinds figures styles fames writing order enders : Nat → Int32} {mw my : Int32} {kind figure style fame silent ring r4 r5 : Nat → Int32}
variable {kz gz sz fz wz oz ez t0 t1 z1 z2 z3 z4 z5 z6 z7 ik cu : Int32} {a1 a2 a3 a4 a5 a6 a7 kept : Nat → Int32}
theorem x5_pow {x : Int32} {k : Nat} (hk : k ≤ 7) (K) : f_X5_censor_94 (nI k) x K FU 1 0 = K (pL (Int32.toInt64 x) k) := by
  have key : ∀ (d i fuel : Nat), i + d = k → d < fuel → f_X5_censor_94 (nI k) x K fuel (pL (Int32.toInt64 x) i) (nI i) = K (pL (Int32.toInt64 x) k) := by
    intro d
    induction d with
    | zero =>
      intro i fuel hi hf
      obtain ⟨fuel, rfl⟩ : ∃ f2, fuel = f2 + 1 := ⟨fuel - 1, by omega⟩
      obtain rfl : i = k := by omega
      rw [e_X5_censor_94, if_pos (nI_le (by omega) (by omega))]
    | succ d ih =>
      intro i fuel hi hf
      obtain ⟨fuel, rfl⟩ : ∃ f2, fuel = f2 + 1 := ⟨fuel - 1, by omega⟩
      rw [e_X5_censor_94, if_neg (nI_ge (by omega) (by omega)), ← nI_succ]
      exact ih (i + 1) fuel (by omega) (by omega)
  exact key k 0 FU (by omega) (FU_gt (by omega))
theorem k_censor0 (hG : GR n size year kinds figures styles fames writing order enders mw my kind figure style fame silent ring) (hR : RR r4 r5) {w nn t : Nat} (hw : w < n) (hnn : nn < 8) (ht2 : 2 ≤ t) (ht : t < 21) (x4 x5 : Int32) : SQ (fun r s => r.1 = s.1 ∧ RR r.2.2.2.2.2.2.2.2.2.2.2.2.2.2.2.2.2 (br s.2) ∧ BK mw my kind figure style fame silent ring kept (bt s.2)) (f_X4_censor_82 size year kz kinds gz figures sz styles fz fames wz writing oz order ez enders (nI w) (nI nn) (nI t) x4 x5 t0 t1 z1 a1 z2 a2 z3 a3 z4 a4 z5 a5 z6 a6 z7 a7 r4) (f_X5_censor_94 (nI nn) (nI t) (fun v9 => f_X5_censor_113 (nI w) (nI nn) (nI t) x4 x5 0 v9 mw my ik cu r5 kind figure style fame silent ring kept) FU 1 0) := by
  obtain ⟨hn, rfl, rfl, rfl, hM, hW⟩ := id hG
  obtain ⟨cs1, cs2, cs3⟩ := cS_facts ht2 ht hnn
  have h128 : 2 ^ nn ≤ 128 := Nat.pow_le_pow_right (n := 2) (by omega) (show nn ≤ 7 by omega)
  rw [x5_pow (by omega)]
  unfold f_X4_censor_82 f_X5_censor_113
  refine simL (fun fuel v (a : (Int64 × Int64) × (Int32 × Int32 × Int32 × (Nat → Int32) × Int32 × (Nat → Int32) × Int32 × (Nat → Int32) × Int32 × (Nat → Int32) × Int32 × (Nat → Int32) × Int32 × (Nat → Int32) × Int32 × (Nat → Int32))) => f_X4_censor_91 (nI n) year kz kinds gz figures sz styles fz fames wz writing oz order ez enders (nI w) (nI nn) (nI t) x4 (fun v6 v8 t0 t1 z1 a1 z2 a2 z3 a3 z4 a4 z5 a5 z6 a6 z7 a7 => f_X4_censor_145 x5 v6 v8 t0 t1 z1 a1 z2 a2 z3 a3 z4 a4 z5 a5 z6 a6 z7 a7 r4) fuel a.1.1 a.1.2 v a.2.1 a.2.2.1 a.2.2.2.1 a.2.2.2.2.1 a.2.2.2.2.2.1 a.2.2.2.2.2.2.1 a.2.2.2.2.2.2.2.1 a.2.2.2.2.2.2.2.2.1 a.2.2.2.2.2.2.2.2.2.1 a.2.2.2.2.2.2.2.2.2.2.1 a.2.2.2.2.2.2.2.2.2.2.2.1 a.2.2.2.2.2.2.2.2.2.2.2.2.1 a.2.2.2.2.2.2.2.2.2.2.2.2.2.1 a.2.2.2.2.2.2.2.2.2.2.2.2.2.2.1 a.2.2.2.2.2.2.2.2.2.2.2.2.2.2.2.1 a.2.2.2.2.2.2.2.2.2.2.2.2.2.2.2.2) (fun fuel v (b : Int64 × BT) => f_X5_censor_116 (nI w) (nI nn) (nI t) x4 (fun v7 w0 y0 i0 c0 k0 f0 s0 m0 q0 p0 K0 => f_X5_censor_212 x5 v7 (pL (Int32.toInt64 (nI t)) nn) w0 y0 i0 c0 r5 k0 f0 s0 m0 q0 p0 K0) fuel b.1 v b.2.1 b.2.2.1 b.2.2.2.1 b.2.2.2.2.1 b.2.2.2.2.2.1 b.2.2.2.2.2.2.1 b.2.2.2.2.2.2.2.1 b.2.2.2.2.2.2.2.2.1 b.2.2.2.2.2.2.2.2.2.1 b.2.2.2.2.2.2.2.2.2.2.1 b.2.2.2.2.2.2.2.2.2.2.2) (2 ^ nn) (fun m a b => a.1.1 = b.1 ∧ a.1.2 = cS (Int32.toInt64 (nI t - 1)) nn m ∧ BK (nI n) year kind figure style fame silent ring kept b.2) _ (fun f4 f5 a b hP => ?_) (fun f4 f5 m a b hf4 hf5 hm hP ih => ?_) (2 ^ nn) 0 FU FU ((0, 0), (t0, t1, z1, a1, z2, a2, z3, a3, z4, a4, z5, a5, z6, a6, z7, a7)) (0, (nI n, year, ik, cu, kind, figure, style, fame, silent, ring, kept)) (by omega) (FU_gt (by omega)) (FU_gt (by omega)) ⟨rfl, rfl, BK.self⟩
  · obtain ⟨⟨au, ab⟩, aT⟩ := a
    obtain ⟨bu, b⟩ := b
    obtain ⟨h1, h2, h3⟩ := hP
    dsimp only at h1 h2 h3 ⊢
    subst au
    rw [e_X4_censor_91, e_X5_censor_116, shl1 (by omega), if_pos (nI_le (Nat.le_refl _) (by omega)), if_pos (nI_le (Nat.le_refl _) (by omega))]
    unfold f_X4_censor_145 f_X5_censor_212
    rw [cs1] at h2
    subst ab
    obtain ⟨r, s, e4, e5, rfl⟩ := k_least (a := bu) cs3 cs2 x5
    rw [e4, e5]
    exact ⟨_, _, rfl, rfl, rfl, hR, h3⟩
  · obtain ⟨⟨au, ab⟩, aT⟩ := a
    obtain ⟨bu, w', y', ik', cu', kB, fB, sB, mB, qB, rB, kpB⟩ := b
    obtain ⟨h1, h2, hb1, hb2, hb3, hb4⟩ := hP
    dsimp only at h1 h2 hb1 hb2 hb3 hb4 ⊢
    subst w'
    subst y'
    subst au
    have hGB := hG.back hb3
    obtain ⟨zf1, zf2⟩ := zc_facts hnn hm
    obtain ⟨K, q1, q2, q3⟩ := x5_thinks (mw := nI n) (my := year) (ik := ik') (cu := cu') (kind := kB) (figure := fB) (style := sB) (fame := mB) (silent := qB) (ring := rB) (kept := kpB)
    rw [e_X4_censor_91, e_X5_censor_116, shl1 (by omega), if_neg (nI_ge hm (by omega)), if_neg (nI_ge hm (by omega)), q1, zf1]
    simp (decide := true) (implicitDefEqProofs := false) only [Option.bind_some, if_true, if_false]
    rw [nI_subn (by omega), show nn - (nn - zc m nn) = zc m nn by omega, x4_weight (by omega)]
    simp (decide := true) (implicitDefEqProofs := false) only [Option.bind_some, if_true, if_false]
    unfold f_X4_fameUnderCensor
    rw [x0_take]
    simp (decide := true) (implicitDefEqProofs := false) only [Option.bind_some, if_true, if_false]
    refine simL (fun fuel v (a : Int32 × (Nat → Int32)) => (f_X4_fameUnderCensor_14 (nI nn) (nI m) (nI n) kinds figures styles writing enders (fun y F => f_X4_fameUnderCensor_67 (nI w) (nI n) y kz kinds gz figures sz styles fz F wz writing oz order ez enders) fuel v a.1 a.2).bind (fun r124 => if r124.1 < x4 then f_X4_censor_139 (f_X4_censor_91 (nI n) year kz kinds gz figures sz styles fz fames wz writing oz order ez enders (nI w) (nI nn) (nI t) x4 (fun v6 v8 t0 t1 z1 a1 z2 a2 z3 a3 z4 a4 z5 a5 z6 a6 z7 a7 => f_X4_censor_145 x5 v6 v8 t0 t1 z1 a1 z2 a2 z3 a3 z4 a4 z5 a5 z6 a6 z7 a7 r4) f4) bu (ab + pL (Int32.toInt64 (nI t - 1)) (zc m nn)) (nI m) r124.2.1 r124.2.2.1 r124.2.2.2.1 r124.2.2.2.2.1 r124.2.2.2.2.2.1 r124.2.2.2.2.2.2.1 r124.2.2.2.2.2.2.2.1 r124.2.2.2.2.2.2.2.2.1 r124.2.2.2.2.2.2.2.2.2.1 r124.2.2.2.2.2.2.2.2.2.2.1 r124.2.2.2.2.2.2.2.2.2.2.2.1 r124.2.2.2.2.2.2.2.2.2.2.2.2.1 r124.2.2.2.2.2.2.2.2.2.2.2.2.2.1 r124.2.2.2.2.2.2.2.2.2.2.2.2.2.2.1 r124.2.2.2.2.2.2.2.2.2.2.2.2.2.2.2.1 r124.2.2.2.2.2.2.2.2.2.2.2.2.2.2.2.2 else f_X4_censor_139 (f_X4_censor_91 (nI n) year kz kinds gz figures sz styles fz fames wz writing oz order ez enders (nI w) (nI nn) (nI t) x4 (fun v6 v8 t0 t1 z1 a1 z2 a2 z3 a3 z4 a4 z5 a5 z6 a6 z7 a7 => f_X4_censor_145 x5 v6 v8 t0 t1 z1 a1 z2 a2 z3 a3 z4 a4 z5 a5 z6 a6 z7 a7 r4) f4) (bu + pL (Int32.toInt64 (nI t - 1)) (zc m nn)) (ab + pL (Int32.toInt64 (nI t - 1)) (zc m nn)) (nI m) r124.2.1 r124.2.2.1 r124.2.2.2.1 r124.2.2.2.2.1 r124.2.2.2.2.2.1 r124.2.2.2.2.2.2.1 r124.2.2.2.2.2.2.2.1 r124.2.2.2.2.2.2.2.2.1 r124.2.2.2.2.2.2.2.2.2.1 r124.2.2.2.2.2.2.2.2.2.2.1 r124.2.2.2.2.2.2.2.2.2.2.2.1 r124.2.2.2.2.2.2.2.2.2.2.2.2.1 r124.2.2.2.2.2.2.2.2.2.2.2.2.2.1 r124.2.2.2.2.2.2.2.2.2.2.2.2.2.2.1 r124.2.2.2.2.2.2.2.2.2.2.2.2.2.2.2.1 r124.2.2.2.2.2.2.2.2.2.2.2.2.2.2.2.2)) (fun fuel v (b : Int64 × Int32 × (Nat → Int32)) => f_X5_censor_134 (nI nn) (nI t) (nI m) (nI n) kB fB sB qB rB (fun v12 y f => f_X5_censor_180 (nI w) x4 (f_X5_censor_116 (nI w) (nI nn) (nI t) x4 (fun v7 w0 y0 i0 c0 k0 f0 s0 m0 q0 p0 K0 => f_X5_censor_212 x5 v7 (pL (Int32.toInt64 (nI t)) nn) w0 y0 i0 c0 r5 k0 f0 s0 m0 q0 p0 K0) f5) bu (nI m) v12 (nI n) y 1 (nI 132) kB fB sB f qB rB K) fuel b.1 v b.2.1 b.2.2) nn (fun i a b => b.1 = pL (Int32.toInt64 (nI t - 1)) (zc m i) ∧ GR n (nI n) a.1 kinds figures styles a.2 writing order enders (nI n) b.2.1 kB fB sB b.2.2 qB rB) _ (fun g4 g5 a b hP => ?_) (fun g4 g5 i a b _ _ hi hP ih2 => ?_) nn 0 FU FU (year, fames) (1, year, mB) (by omega) (FU_gt (by omega)) (FU_gt (by omega)) ⟨rfl, hGB⟩
    · obtain ⟨y4, F⟩ := a
      obtain ⟨v12, y, f⟩ := b
      obtain ⟨hv, hG2⟩ := hP
      dsimp only at hv hG2 ⊢
      subst hv
      rw [e_X4_fameUnderCensor_14, e_X5_censor_134, if_pos (nI_le (Nat.le_refl _) (by omega)), if_pos (nI_le (Nat.le_refl _) (by omega))]
      unfold f_X4_fameUnderCensor_67 f_X5_censor_180 f_X5_censor_199 f_X4_censor_139
      rw [g3 (by omega) (by omega), gdI (by omega) (by omega), nI_clamp (by omega), hG2.hF w hw]
      simp (decide := true) (implicitDefEqProofs := false) only [Option.bind_some, if_true, if_false]
      obtain ⟨b2, f1, f2⟩ := x5_forgetsB (kept := kpB) (w0 := nI n) (y0 := y) (i0 := 1) (c0 := nI 132) (k0 := kB) (f0 := fB) (s0 := sB) (m0 := f) (q0 := qB) (p0 := rB) q2 q3
      rw [f1]
      simp (decide := true) (implicitDefEqProofs := false) only [Option.bind_some, if_true, if_false]
      have hBK := BK.trans rfl rfl hb3 hb4 f2
      have hcs : ab + pL (Int32.toInt64 (nI t - 1)) (zc m nn) = cS (Int32.toInt64 (nI t - 1)) nn (m + 1) := by
        rw [h2]
        unfold cS
        rw [fr_snoc, Nat.zero_add]
      by_cases hc : f w < x4
      · rw [if_pos hc, if_pos hc]
        exact ih ((_, _), (nI n, _, kz, kinds, gz, figures, sz, styles, fz, _, wz, writing, oz, order, ez, enders)) (_, b2) ⟨by dsimp only; rw [Int64.add_zero], hcs, hBK⟩
      · rw [if_neg hc, if_neg hc]
        exact ih ((_, _), (nI n, _, kz, kinds, gz, figures, sz, styles, fz, _, wz, writing, oz, order, ez, enders)) (_, b2) ⟨rfl, hcs, hBK⟩
    · obtain ⟨y4, F⟩ := a
      obtain ⟨v12, y, f⟩ := b
      obtain ⟨hv, hG2⟩ := hP
      dsimp only at hv hG2 ⊢
      subst hv
      rw [e_X4_fameUnderCensor_14, e_X5_censor_134, if_neg (nI_ge hi (by omega)), if_neg (nI_ge hi (by omega)), if_neg (show ¬ (7 : Int32) ≤ nI i from nI_ge (b := 7) (by omega) (by omega))]
      unfold f_X5_censor_160 f_X5_has f_X4_fameUnderCensor_61
      rw [bit_at (m := m) (v := i) (by omega) (by omega)]
      rcases Nat.mod_two_eq_zero_or_one (m / 2 ^ i) with hb | hb
      · obtain ⟨F2, p1, p2, hG3⟩ := hG2.pass1
        rw [hb, show nI 0 = 0 from rfl]
        simp (decide := true) (implicitDefEqProofs := false) only [Option.bind_some, if_true, if_false]
        rw [p1, p2]
        simp (decide := true) (implicitDefEqProofs := false) only [Option.bind_some, if_true, if_false]
        exact ih2 (_, F2) (_, _, _) ⟨by dsimp only; rw [zc, hb]; rfl, hG3⟩
      · rw [hb, show nI 1 = 1 from rfl]
        simp (decide := true) (implicitDefEqProofs := false) only [Option.bind_some, if_true, if_false]
        rw [x5_goesYear1 (show ¬ (1 : Int32) = 0 by decide)]
        simp (decide := true) (implicitDefEqProofs := false) only [Option.bind_some, if_true, if_false]
        have hG3 : GR n (nI n) (y4 + 1) kinds figures styles F writing order enders (nI n) (y + 1) kB fB sB f qB rB := by
          have hy : y4 = y := hG2.2.2.2.1
          rw [hy]
          exact hG2.fame (y + 1) hG2.hF
        exact ih2 (_, F) (_, _, _) ⟨by dsimp only; rw [zc, hb, Int64.mul_one]; rfl, hG3⟩
theorem k_censor (hG : GR n size year kinds figures styles fames writing order enders mw my kind figure style fame silent ring) (hR : RR r4 r5) (x1 x2 x3 x4 x5 : Int32) : SQ (fun r s => r.1 = s.1 ∧ RR r.2.2.2.2.2.2.2.2.2.2.2.2.2.2.2.2.2 (br s.2) ∧ BK mw my kind figure style fame silent ring kept (bt s.2)) (f_X4_censor size year kz kinds gz figures sz styles fz fames wz writing oz order ez enders t0 t1 z1 a1 z2 a2 z3 a3 z4 a4 z5 a5 z6 a6 z7 a7 r4 x1 x2 x3 x4 x5) (f_X5_censor mw my ik cu r5 kind figure style fame silent ring kept x1 x2 x3 x4 x5) := by
  by_cases hx : ∃ w, w < n ∧ x1 = nI w
  · obtain ⟨w, hw, rfl⟩ := hx
    have key := fun nn t (h1 : nn < 8) (h2 : 2 ≤ t) (h3 : t < 21) => k_censor0 (kz := kz) (gz := gz) (sz := sz) (fz := fz) (wz := wz) (oz := oz) (ez := ez) (t0 := t0) (t1 := t1) (z1 := z1) (z2 := z2) (z3 := z3) (z4 := z4) (z5 := z5) (z6 := z6) (z7 := z7) (a1 := a1) (a2 := a2) (a3 := a3) (a4 := a4) (a5 := a5) (a6 := a6) (a7 := a7) (ik := ik) (cu := cu) (kept := kept) hG hR hw h1 h2 h3 x4 x5
    obtain ⟨hn, rfl, rfl, rfl, hM, hW⟩ := id hG
    unfold f_X4_censor f_X5_censor
    rw [has_t hn hw, one_t hn hw]
    simp (decide := true) (implicitDefEqProofs := false) only [Option.bind_some, if_true, if_false]
    have r4' : SQ (fun r s => r.1 = s.1 ∧ RR r.2.2.2.2.2.2.2.2.2.2.2.2.2.2.2.2.2 (br s.2) ∧ BK (nI n) year kind figure style fame silent ring kept (bt s.2)) (f_X4_censor_31 t0 t1 z1 a1 z2 a2 z3 a3 z4 a4 z5 a5 z6 a6 z7 a7 r4) (f_X5_censor_26 (nI w) x2 x3 x4 x5 (nI n) year ik cu r5 kind figure style fame silent ring kept) := by
      unfold f_X4_censor_31 f_X5_censor_26 f_X5_censor_71
      rw [rl4]
      simp (decide := true) (implicitDefEqProofs := false) only [Option.bind_some, if_true, if_false]
      rw [lo4]
      simp (decide := true) (implicitDefEqProofs := false) only [Option.bind_some, if_true, if_false]
      generalize (4000000000000000000 : Int64) - Int32.toInt64 (-4) = z
      exact ⟨_, _, rfl, rfl, rfl, RR_upd hR (by omega) 1, BK.self⟩
    have r6' : SQ (fun r s => r.1 = s.1 ∧ RR r.2.2.2.2.2.2.2.2.2.2.2.2.2.2.2.2.2 (br s.2) ∧ BK (nI n) year kind figure style fame silent ring kept (bt s.2)) (f_X4_censor_57 t0 t1 z1 a1 z2 a2 z3 a3 z4 a4 z5 a5 z6 a6 z7 a7 r4) (f_X5_censor_50 (nI w) x2 x3 x4 x5 (nI n) year ik cu r5 kind figure style fame silent ring kept) := by
      unfold f_X4_censor_57 f_X5_censor_50 f_X5_censor_71
      rw [rl6]
      simp (decide := true) (implicitDefEqProofs := false) only [Option.bind_some, if_true, if_false]
      rw [lo6]
      simp (decide := true) (implicitDefEqProofs := false) only [Option.bind_some, if_true, if_false]
      generalize (4000000000000000000 : Int64) - Int32.toInt64 (-6) = z
      exact ⟨_, _, rfl, rfl, rfl, RR_upd hR (by omega) 1, BK.self⟩
    by_cases h1 : x2 < 0
    · rw [if_pos h1, if_pos h1]; exact r4'
    rw [if_neg h1, if_neg h1]
    by_cases h2 : x4 < 0
    · rw [if_pos h2, if_pos h2]; exact r4'
    rw [if_neg h2, if_neg h2]
    by_cases h3 : 2 ≤ x3
    · rw [if_pos h3, if_pos h3]
      by_cases h4 : 7 < x2
      · rw [if_pos h4, if_pos h4]; exact r6'
      rw [if_neg h4, if_neg h4]
      by_cases h5 : 20 < x3
      · rw [if_pos h5, if_pos h5]; exact r6'
      rw [if_neg h5, if_neg h5]
      by_cases h6 : x4 ≤ 99
      · rw [if_pos h6, if_pos h6]
        obtain ⟨nn, hnn, rfl⟩ := bound60 (m := 7) (by omega) (Int32.not_lt.mp h1) (Int32.not_lt.mp h4)
        obtain ⟨t, ht, rfl⟩ := bound60 (m := 20) (by omega) (Int32.le_trans (by decide) h3) (Int32.not_lt.mp h5)
        have ht2 : 2 ≤ t := (nI_leI (a := 2) (b := t) (by omega) (by omega)).mp h3
        have kk := key nn t (by omega) ht2 (by omega)
        unfold f_X5_censor_71
        rcases isIn1 x5 with ⟨h0, hi⟩ | ⟨h0, hi⟩ | ⟨h0, h1, hi⟩
        · rw [hi, if_pos h0]
          simp (decide := true) (implicitDefEqProofs := false) only [Option.bind_some, if_true, if_false]
          exact kk
        · rw [hi, if_neg (show ¬ x5 = 0 by rw [h0]; decide), if_pos h0]
          simp (decide := true) (implicitDefEqProofs := false) only [Option.bind_some, if_true, if_false]
          exact kk
        · rw [hi, if_neg h0, if_neg h1, rl2]
          simp (decide := true) (implicitDefEqProofs := false) only [Option.bind_some, if_true, if_false]
          rw [lo2]
          simp (decide := true) (implicitDefEqProofs := false) only [Option.bind_some, if_true, if_false]
          generalize (4000000000000000000 : Int64) - Int32.toInt64 (-2) = z
          exact ⟨_, _, rfl, rfl, rfl, RR_upd hR (by omega) 1, BK.self⟩
      · rw [if_neg h6, if_neg h6]; exact r6'
    · rw [if_neg h3, if_neg h3]; exact r4'
  · obtain ⟨hn, rfl, rfl, rfl, hM, hW⟩ := id hG
    unfold f_X4_censor f_X5_censor f_X5_censor_71
    rw [has_f hn hx, one_f hn hx]
    simp (decide := true) (implicitDefEqProofs := false) only [Option.bind_some, if_true, if_false]
    rw [rl1, lo1]
    simp (decide := true) (implicitDefEqProofs := false) only [Option.bind_some, if_true, if_false]
    generalize (4000000000000000000 : Int64) - Int32.toInt64 (-1) = z
    exact ⟨_, _, rfl, rfl, rfl, RR_upd hR (by omega) 1, BK.self⟩
end KI
