/-! PURE: the best ring on both sides. -/
abbrev RT : Type := Int32 × Int32 × Int32 × Int32 × Int32 × (Nat → Int32) × (Nat → Int32) × (Nat → Int32) × (Nat → Int32) × (Nat → Int32) × (Nat → Int32) × (Nat → Int32) × (Nat → Int32)
def SM (n : Nat) (st : Option (Int32 × (Nat → Nat))) (mo : Int32) (be : Nat → Int32) : Prop := match st with
  | none => mo = -64
  | some (m, q) => mo = m ∧ ∀ i, i < n → be i = nI (q i)
theorem kp_some {W : Nat → Nat → Int32} {s : Nat → Int32} {n : Nat} (st : Option (Int32 × (Nat → Nat))) (σ : Nat → Nat) : ∃ m q, kp W s n st σ = some (m, q) := by
  unfold kp
  cases st with
  | none => exact ⟨_, _, rfl⟩
  | some mq =>
    obtain ⟨m, q⟩ := mq
    dsimp only
    split
    · exact ⟨_, _, rfl⟩
    · exact ⟨_, _, rfl⟩
section KR
variable {n : Nat} {size year : Int32} {kinds figures styles fames writing order enders : Nat → Int32} {mw my : Int32} {kind figure style fame silent ring r4 r5 : Nat → Int32}
variable {kz gz sz fz wz oz ez t0 t1 z1 z2 z3 z4 z5 z6 z7 ik cu : Int32} {a1 a2 a3 a4 a5 a6 a7 kept : Nat → Int32}
theorem x5_all {K : Int32 → Option RT} (hn : n ≤ 7) : f_X5_findRing_4 (nI n) K FU 1 2 = K (nI (fct (n - 1))) := by
  have key : ∀ (d i fuel : Nat), i + d = n → d < fuel → 2 ≤ i → f_X5_findRing_4 (nI n) K fuel (nI (fct (i - 1))) (nI i) = K (nI (fct (n - 1))) := by
    intro d
    induction d with
    | zero =>
      intro i fuel hi hf h2
      obtain ⟨fuel, rfl⟩ : ∃ f2, fuel = f2 + 1 := ⟨fuel - 1, by omega⟩
      obtain rfl : i = n := by omega
      rw [e_X5_findRing_4, if_pos (nI_le (Nat.le_refl _) (by omega))]
    | succ d ih =>
      intro i fuel hi hf h2
      obtain ⟨fuel, rfl⟩ : ∃ f2, fuel = f2 + 1 := ⟨fuel - 1, by omega⟩
      have hm : nI (fct (i - 1)) * nI i = nI (fct (i + 1 - 1)) := by
        rw [show nI (fct (i - 1)) * nI i = nI (fct (i - 1) * i) from (Int32.ofNat_mul _ _).symm]
        obtain ⟨j, rfl⟩ : ∃ j, i = j + 1 := ⟨i - 1, by omega⟩
        rw [Nat.add_sub_cancel, Nat.add_sub_cancel, fct, Nat.mul_comm]
      rw [e_X5_findRing_4, if_neg (nI_ge (by omega) (by omega)), hm, ← nI_succ]
      exact ih (i + 1) fuel (by omega) (by omega) (by omega)
  by_cases h : 2 ≤ n
  · exact key (n - 2) 2 FU (by omega) (FU_gt (by omega)) (by omega)
  · obtain ⟨F, hF⟩ : ∃ F, FU = F + 1 := ⟨99999, rfl⟩
    have h2 : nI n ≤ 2 := nI_le (b := 2) (by omega) (by omega)
    have h3 : n = 0 ∨ n = 1 := by omega
    rw [hF, e_X5_findRing_4, if_pos h2]
    rcases h3 with rfl | rfl
    · rfl
    · rfl
theorem x5_copy {K : (Nat → Int32) → Option RT} (hn : n ≤ 7) {R : Nat → Int32} {u v : Int32} (hv : ¬ v ≤ u) : ∀ (d i fuel : Nat) (be : Nat → Int32), i + d = n → d < fuel → (∀ j, j < i → be j = R j) → ∃ be', f_X5_findRing_51 (nI n) u v R K fuel (nI i) be = K be' ∧ ∀ j, j < n → be' j = R j := by
  intro d
  induction d with
  | zero =>
    intro i fuel be hi hf hb
    obtain ⟨fuel, rfl⟩ : ∃ f2, fuel = f2 + 1 := ⟨fuel - 1, by omega⟩
    obtain rfl : i = n := by omega
    rw [e_X5_findRing_51, if_pos (nI_le (Nat.le_refl _) (by omega))]
    exact ⟨be, rfl, hb⟩
  | succ d ih =>
    intro i fuel be hi hf hb
    obtain ⟨fuel, rfl⟩ : ∃ f2, fuel = f2 + 1 := ⟨fuel - 1, by omega⟩
    rw [e_X5_findRing_51, if_neg (nI_ge (by omega) (by omega)), if_neg hv, gdI (by omega) (by omega), gdI (by omega) (by omega), nI_clamp (by omega), ← nI_succ]
    refine ih (i + 1) fuel _ (by omega) (by omega) (fun j hj => ?_)
    by_cases z : j = i
    · subst z; rw [upd_at]
    · rw [upd_ne z]; exact hb j (by omega)
theorem x5_copy0 {K : (Nat → Int32) → Option RT} {R : Nat → Int32} {u v : Int32} (h0 : 0 < n) (hn : n ≤ 7) (hv : v ≤ u) (be : Nat → Int32) : f_X5_findRing_51 (nI n) u v R K FU 0 be = K be := by
  obtain ⟨F, hF⟩ : ∃ F, FU = F + 1 := ⟨99999, rfl⟩
  rw [hF, e_X5_findRing_51, if_neg (show ¬ nI n ≤ 0 from nI_ge (a := 0) h0 (by omega)), if_pos hv]
theorem VA1 {h : Nat} (hn : n ≤ 7) (hh : h < n) : VA n 1 (fun _ => h) := by
  refine ⟨fun _ _ => hh, fun i j hi hj _ => by omega, ?_⟩
  have hmem : h ∈ lf n 0 (fun _ => h) := mem_lf.mpr ⟨hh, fun j hj => by omega⟩
  have h1 := lf_step hmem
  have h2 : (lf n 0 (fun _ => h)).length = n := by
    unfold lf
    rw [List.filter_eq_self.mpr (fun a _ => nin_t.mpr (fun j hj => by omega)), List.length_range]
  have h3 : lf n 1 (fun _ => h) = lf n (0 + 1) (updN (fun _ => h) 0 h) := by
    unfold lf
    refine List.filter_congr (fun x _ => ?_)
    refine Bool.eq_iff_iff.mpr ?_
    rw [nin_t, nin_t]
    constructor
    · intro z j hj
      have := z 0 (by omega)
      obtain rfl : j = 0 := by omega
      rw [updN_at]
      exact this
    · intro z j hj
      have := z 0 (by omega)
      rw [updN_at] at this
      exact this
  rw [h3]
  omega
theorem x5_codes (hn : n ≤ 7) (h0 : 0 < n) {h : Nat} (hh : h < n) (hB : BD figure style my) {K : Int32 → (Nat → Int32) → (Nat → Int32) → Option RT} : ∀ (d c fuel : Nat) (mo : Int32) (R be : Nat → Int32) (st : Option (Int32 × (Nat → Nat))), c + d = fct (n - 1) → d < fuel → R 0 = nI h → SM n st mo be → ∃ mo' R' be', f_X5_findRing_31 (nI (fct (n - 1))) (nI n) my kind figure style silent K fuel mo (nI c) R be = K mo' R' be' ∧ SM n ((List.range' c d).foldl (fun st c => kp (sWE kind figure style my) silent n st (cdq n (n - 1) 1 (fun _ => h) c)) st) mo' be' := by
  have hV := VA1 hn hh
  have h720 := fct_le (k := n - 1) (by omega)
  intro d
  induction d with
  | zero =>
    intro c fuel mo R be st hc hf hR hS
    obtain ⟨fuel, rfl⟩ : ∃ f2, fuel = f2 + 1 := ⟨fuel - 1, by omega⟩
    rw [e_X5_findRing_31, if_pos (nI_le (by omega) (by omega))]
    exact ⟨mo, R, be, rfl, hS⟩
  | succ d ih =>
    intro c fuel mo R be st hc hf hR hS
    obtain ⟨fuel, rfl⟩ : ∃ f2, fuel = f2 + 1 := ⟨fuel - 1, by omega⟩
    have hlt : c < fct (n - 1) := by omega
    obtain ⟨R', r1, r2, r3⟩ := x5_ringsBy hn h0 hh hV hlt hR
    obtain ⟨hPM, hσ⟩ := (VA.cdq (n - 1) 1 (fun _ => h) c (by omega) hV hlt).pm hn r2
    have htot : sAll n kind figure style silent R' my = tot (sWE kind figure style my) silent n (cdq n (n - 1) 1 (fun _ => h) c) := (tot_all hn hPM hσ).symm
    rw [e_X5_findRing_31, if_neg (nI_ge hlt (by omega)), r1]
    simp (implicitDefEqProofs := false) only [Option.bind_some]
    rw [x5_allWorth hn hPM]
    simp (implicitDefEqProofs := false) only [Option.bind_some]
    rw [List.range'_succ, List.foldl_cons]
    unfold f_X5_findRing_86 f_X5_findRing_98
    by_cases hv : sAll n kind figure style silent R' my ≤ mo
    · rw [x5_copy0 h0 hn hv, if_pos hv, ← nI_succ]
      refine ih (c + 1) fuel mo R' be _ (by omega) (by omega) r3 ?_
      cases st with
      | none =>
        have hm : mo = -64 := hS
        have hlow := sAll_low (kind := kind) (silent := silent) hB hn hPM
        rw [hm] at hv
        exact absurd hlow (Int32.not_lt.mpr hv)
      | some mq =>
        obtain ⟨m, q⟩ := mq
        obtain ⟨h1, h2⟩ := hS
        unfold kp
        dsimp only
        rw [← htot, ← h1, if_neg (Int32.not_lt.mpr hv)]
        exact ⟨rfl, h2⟩
    · obtain ⟨be', b1, b2⟩ := x5_copy (K := fun b => if sAll n kind figure style silent R' my ≤ mo then f_X5_findRing_31 (nI (fct (n - 1))) (nI n) my kind figure style silent K fuel mo (nI c + 1) R' b else f_X5_findRing_31 (nI (fct (n - 1))) (nI n) my kind figure style silent K fuel (sAll n kind figure style silent R' my) (nI c + 1) R' b) hn hv n 0 FU be (by omega) (FU_gt (by omega)) (fun j hj => by omega)
      have b1' : f_X5_findRing_51 (nI n) mo (sAll n kind figure style silent R' my) R' (fun b => if sAll n kind figure style silent R' my ≤ mo then f_X5_findRing_31 (nI (fct (n - 1))) (nI n) my kind figure style silent K fuel mo (nI c + 1) R' b else f_X5_findRing_31 (nI (fct (n - 1))) (nI n) my kind figure style silent K fuel (sAll n kind figure style silent R' my) (nI c + 1) R' b) FU 0 be = _ := b1
      rw [b1', if_neg hv, ← nI_succ]
      refine ih (c + 1) fuel _ R' be' _ (by omega) (by omega) r3 ?_
      have hnew : ∀ i, i < n → be' i = nI (cdq n (n - 1) 1 (fun _ => h) c i) := fun i hi => by rw [b2 i hi, r2 i hi]
      cases st with
      | none =>
        unfold kp
        exact ⟨htot, hnew⟩
      | some mq =>
        obtain ⟨m, q⟩ := mq
        obtain ⟨h1, h2⟩ := hS
        unfold kp
        dsimp only
        rw [← htot, ← h1, if_pos (Int32.not_le.mp hv)]
        exact ⟨rfl, hnew⟩
theorem k_findRing (hn : n ≤ 7) (h0 : 0 < n) (hB : BD figure style my) {h : Nat} (hh : h < n) (hr : ring 0 = nI h) (be : Nat → Int32) : ∃ s : RT, f_X5_findRing (nI n) my ik cu kind figure style fame silent ring kept be = some s ∧ SM n ((pmn n (n - 1) 1 (fun _ => h)).foldl (kp (sWE kind figure style my) silent n) none) s.1 s.2.2.2.2.2.2.2.2.2.2.2.2 ∧ BK (nI n) my kind figure style fame silent ring kept (s.2.1, s.2.2.1, s.2.2.2.1, s.2.2.2.2.1, s.2.2.2.2.2.1, s.2.2.2.2.2.2.1, s.2.2.2.2.2.2.2.1, s.2.2.2.2.2.2.2.2.1, s.2.2.2.2.2.2.2.2.2.1, s.2.2.2.2.2.2.2.2.2.2.1, s.2.2.2.2.2.2.2.2.2.2.2.1) := by
  obtain ⟨K, q1, q2, q3⟩ := x5_thinks (mw := nI n) (my := my) (ik := ik) (cu := cu) (kind := kind) (figure := figure) (style := style) (fame := fame) (silent := silent) (ring := ring) (kept := kept)
  unfold f_X5_findRing
  rw [x5_all hn]
  unfold f_X5_findRing_22
  rw [q1]
  simp (decide := true) (implicitDefEqProofs := false) only [Option.bind_some, if_true, if_false]
  have h720 := fct_le (k := n - 1) (by omega)
  obtain ⟨mo', R', be', c1, c2⟩ := x5_codes (kind := kind) (silent := silent) hn h0 hh hB (K := fun v2 r b => f_X5_findRing_105 v2 (nI n) my 1 (nI 132) kind figure style fame silent r K b) (fct (n - 1)) 0 FU (-64) ring be none (by omega) (FU_gt (by omega)) hr rfl
  have c1' : f_X5_findRing_31 (nI (fct (n - 1))) (nI n) my kind figure style silent (fun v2 r b => f_X5_findRing_105 v2 (nI n) my 1 (nI 132) kind figure style fame silent r K b) FU (-64) 0 ring be = f_X5_findRing_105 mo' (nI n) my 1 (nI 132) kind figure style fame silent R' K be' := c1
  rw [c1']
  unfold f_X5_findRing_105
  obtain ⟨b, f1, f2⟩ := x5_forgetsB (kept := kept) (w0 := nI n) (y0 := my) (i0 := 1) (c0 := nI 132) (k0 := kind) (f0 := figure) (s0 := style) (m0 := fame) (q0 := silent) (p0 := R') q2 q3
  rw [f1]
  refine ⟨_, rfl, ?_, f2⟩
  rw [pmn_cdq (n - 1) 1 (fun _ => h) (by omega) (VA1 hn hh), List.foldl_map, List.range_eq_range']
  exact c2
theorem k_ring (hG : GR n size year kinds figures styles fames writing order enders mw my kind figure style fame silent ring) (hB : BD figure style my) (hR : RR r4 r5) (s1 s2 s3' s4 ts bs : Int32) (ws tr be br5 : Nat → Int32) (x1 : Int32) : SQ (fun r s => r.1 = s.1 ∧ RR r.2.1 s.2.2.2.2.2.1 ∧ BK mw my kind figure style fame silent ring kept (bt5 s)) (f_X4_ring size year kinds figures styles writing order r4 s1 s2 s3' s4 ws ts tr bs be x1) (f_X5_ring mw my ik cu r5 kind figure style fame silent ring kept br5 x1) := by
  have hsk := fun (h0 : 0 < n) h (hh : h < n) hr => k_seek hG h0 (h := h) hh hr s1 s2 s3' s4 ts bs ws tr be
  obtain ⟨wb, hwb, -⟩ := wb_spec hG
  obtain ⟨hn, rfl, rfl, rfl, hM, hW⟩ := id hG
  unfold f_X4_ring f_X5_ring f_X5_ring_38
  by_cases h1 : -1 ≤ x1
  · rw [if_pos h1, if_pos h1]
    by_cases hn0 : n = 0
    · subst hn0
      have hsk0 : f_X2_seek s1 s2 s3' s4 ws ts tr bs be (nI 0) year kinds figures styles writing order = some (nI 0, wb, 0, 0, ws, tr, bs, be) := by
        unfold f_X2_seek
        rw [hwb]
        simp (implicitDefEqProofs := false) only [Option.bind_some]
        rw [if_pos (show nI 0 = 0 from rfl)]
      rw [hsk0, show nI 0 = 0 from rfl]
      simp (decide := true) (implicitDefEqProofs := false) only [Option.bind_some, if_true, if_false]
      by_cases hx : x1 = -1
      · subst hx
        simp (decide := true) (implicitDefEqProofs := false) only [Option.bind_some, if_true, if_false]
        exact ⟨_, _, rfl, rfl, rfl, hR, BK.self⟩
      · have h2 : (0 : Int32) ≤ x1 := by
          rw [Int32.le_iff_toInt_le] at h1 ⊢
          rw [← Int32.toInt_inj] at hx
          have a0 : (0 : Int32).toInt = 0 := by decide
          have a1 : (-1 : Int32).toInt = -1 := by decide
          omega
        rw [if_neg hx, if_pos h2, if_neg (Int32.not_lt.mpr h2)]
        exact ⟨_, _, rfl, rfl, rfl, hR, BK.self⟩
    · have h0 : 0 < n := by omega
      obtain ⟨h, hh, hr⟩ := hM.1 0 h0
      obtain ⟨⟨sa, sb, sc, sd, se, sf, sg', sh⟩, k1, k2⟩ := hsk h0 h hh hr
      obtain ⟨s, f1, f2, f3⟩ := k_findRing (ik := ik) (cu := cu) (kind := kind) (fame := fame) (silent := silent) (kept := kept) hn h0 hB hh hr br5
      -- there is a best one
      obtain ⟨m, q, hst⟩ : ∃ m q, (pmn n (n - 1) 1 (fun _ => h)).foldl (kp (sWE kind figure style year) silent n) none = some (m, q) := by
        rw [pmn_cdq (n - 1) 1 (fun _ => h) (by omega) (VA1 hn hh)]
        obtain ⟨e, he⟩ : ∃ e, fct (n - 1) = e + 1 := ⟨fct (n - 1) - 1, by have := fct_pos (n - 1); omega⟩
        rw [he, List.range_succ, List.map_append, List.foldl_append]
        exact kp_some _ _
      rw [hst] at k2 f2
      obtain ⟨k3, k4, k5⟩ := k2
      obtain ⟨f4, f5⟩ := f2
      dsimp only at k3 k4 k5
      rw [k1, f1]
      simp (decide := true) (implicitDefEqProofs := false) only [Option.bind_some, if_true, if_false]
      rw [if_neg (nI_ne0 h0 (by omega))]
      by_cases hx : x1 = -1
      · subst hx
        rw [if_pos (show (-1 : Int32) < nI n from by
          rw [Int32.lt_iff_toInt_lt, nI_toInt (by omega)]
          have a1 : (-1 : Int32).toInt = -1 := by decide
          omega)]
        simp (decide := true) (implicitDefEqProofs := false) only [Option.bind_some, if_true, if_false]
        refine ⟨_, _, rfl, rfl, ?_, hR, f3⟩
        show sd = s.1
        rw [k4, f4]
      · have h2 : (0 : Int32) ≤ x1 := by
          rw [Int32.le_iff_toInt_le] at h1 ⊢
          rw [← Int32.toInt_inj] at hx
          have a0 : (0 : Int32).toInt = 0 := by decide
          have a1 : (-1 : Int32).toInt = -1 := by decide
          omega
        rw [if_neg hx]
        by_cases h3 : nI n ≤ x1
        · rw [if_pos h3, if_neg (Int32.not_lt.mpr h3)]
          exact ⟨_, _, rfl, rfl, rfl, hR, BK.self⟩
        · obtain ⟨w, hw, rfl⟩ := i32nat (Int32.not_lt.mpr h2) h3 (by omega)
          rw [if_neg h3, if_pos (Int32.not_le.mp h3), if_pos h2, g3 (by omega) (by omega), gdI (by omega) (by omega), nI_clamp (by omega)]
          refine ⟨_, _, rfl, rfl, ?_, hR, f3⟩
          show sh w = s.2.2.2.2.2.2.2.2.2.2.2.2 w
          rw [k5 w hw, f5 w hw]
  · rw [if_neg h1, if_neg h1, rb4, lw4]
    simp (decide := true) (implicitDefEqProofs := false) only [Option.bind_some, if_true, if_false]
    generalize (1000000000 : Int32) - (-4) = z
    exact ⟨_, _, rfl, rfl, rfl, RR_upd hR (by omega) 1, BK.self⟩
end KR
