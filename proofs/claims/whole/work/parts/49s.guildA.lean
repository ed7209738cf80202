/-! PURE: letters: how a statement is read on both sides. -/
def kd (x : Int32) : Int32 := if x = 97 then 0 else if x = 112 then 1 else if x = 103 then 2 else if x = 116 then 3 else if x = 102 then 4 else if x = 100 then 5 else -1
theorem x5_kindOf (x : Int32) : f_X5_kindOf x = some (kd x) := by
  unfold f_X5_kindOf kd
  grind
/-- letters that are told: both rows hold them -/
def TX (k : Nat) (lt tp : Nat → Int32) (L : Nat → Nat) : Prop := k ≤ 96 ∧ ∀ q, q < k → lt q = nI (L q) ∧ tp q = nI (L q) ∧ L q < 256
theorem LR.tx {ls ts : Int32} {lt tp : Nat → Int32} (h : LR ls lt ts tp) : ∃ k L, TX k lt tp L ∧ ls = nI k ∧ ts = nI k := by
  obtain ⟨k, hk, h1, h2, h3⟩ := h
  have hch : ∀ q, ∃ v, q < k → lt q = nI v ∧ tp q = nI v ∧ v < 256 := by
    intro q
    by_cases hq : q < k
    · obtain ⟨e, v, hv, e2⟩ := h3 q hq
      exact ⟨v, fun _ => ⟨e.trans e2, e2, hv⟩⟩
    · exact ⟨0, fun z => absurd z hq⟩
  exact ⟨k, fun q => (hch q).choose, ⟨hk, fun q hq => (hch q).choose_spec hq⟩, h1, h2⟩
abbrev dg (k : Nat) (L : Nat → Nat) (q : Nat) : Prop := q < k ∧ 48 ≤ L q ∧ L q ≤ 57
abbrev kx (k : Nat) (L : Nat → Nat) (q : Nat) : Prop := q < k ∧ 0 ≤ kd (nI (L q))
abbrev cx (k : Nat) (L : Nat → Nat) (q : Nat) (c : Nat) : Prop := q < k ∧ L q = c
theorem ix_kd {v : Nat} (hv : v < 256) : j_indexOf 7 (i2cI (nI v)) = some (kd (nI v)) := by
  have h : ∀ v, v < 256 → j_indexOf 7 (i2cI (nI v)) = some (kd (nI v)) := by decide +kernel
  exact h v hv
theorem dg_v {v : Nat} (hv : v < 256) : ((nI v - 48 < 0 ∨ (10 : Int32) ≤ nI v - 48) ↔ ¬ (48 ≤ v ∧ v ≤ 57)) ∧ f_X5_isIn (nI v) 48 57 = some (if 48 ≤ v ∧ v ≤ 57 then 1 else 0) := by
  have h : ∀ v, v < 256 → ((nI v - 48 < 0 ∨ (10 : Int32) ≤ nI v - 48) ↔ ¬ (48 ≤ v ∧ v ≤ 57)) ∧ f_X5_isIn (nI v) 48 57 = some (if 48 ≤ v ∧ v ≤ 57 then 1 else 0) := by decide +kernel
  exact h v hv
theorem kd_v {v : Nat} (hv : v < 256) : (kd (nI v) < 0 ↔ ¬ 0 ≤ kd (nI v)) ∧ kd (nI v) ≤ 5 := by
  have h : ∀ v, v < 256 → (kd (nI v) < 0 ↔ ¬ 0 ≤ kd (nI v)) ∧ kd (nI v) ≤ 5 := by decide +kernel
  exact h v hv
theorem nIc {v c : Nat} (hv : v < 256) (hc : c < 256) : nI v = nI c ↔ v = c := nI_eqI (by omega) (by omega)
section KS
variable {k : Nat} {lt tp : Nat → Int32} {L : Nat → Nat}
theorem fits_k (h : TX k lt tp L) {q : Nat} (hq : q < 200) : f_X1_fits (nI k) lt (nI q) 107 = some (if kx k L q then 1 else 0) := by
  have hk := h.1
  unfold f_X1_fits kx
  by_cases hqk : q < k
  · obtain ⟨h1, h2, h3⟩ := h.2 q hqk
    rw [if_pos (Int32.not_le.mp (nI_ge hqk (by omega))), if_pos rfl]
    unfold f_X1_kindAt
    rw [g3 (by omega) (by omega), h1]
    simp only [Option.bind_some]
    rw [ix_kd h3]
    simp only [Option.bind_some]
    by_cases hc : 0 ≤ kd (nI (L q))
    · rw [if_neg (fun z => (kd_v h3).1.mp z hc), if_pos ⟨hqk, hc⟩]
    · rw [if_pos ((kd_v h3).1.mpr hc), if_neg (fun z => hc z.2)]
  · rw [if_neg (Int32.not_lt.mpr (nI_le (by omega) (by omega))), if_neg (fun z => hqk z.1)]
theorem fits_d (h : TX k lt tp L) {q : Nat} (hq : q < 200) : f_X1_fits (nI k) lt (nI q) 48 = some (if dg k L q then 1 else 0) := by
  have hk := h.1
  unfold f_X1_fits dg
  by_cases hqk : q < k
  · obtain ⟨h1, h2, h3⟩ := h.2 q hqk
    rw [if_pos (Int32.not_le.mp (nI_ge hqk (by omega))), if_neg (show ¬ (48 : Int32) = 107 by decide), if_pos rfl]
    unfold f_X1_digitAt
    rw [g3 (by omega) (by omega), h1]
    simp only [Option.bind_some]
    by_cases hc : 48 ≤ L q ∧ L q ≤ 57
    · have := mt (dg_v h3).1.mp (fun z => z hc)
      rw [if_neg (fun z => this (Or.inl z)), if_neg (fun z => this (Or.inr z)), if_pos ⟨hqk, hc⟩]
    · rw [if_neg (show ¬ (q < k ∧ 48 ≤ L q ∧ L q ≤ 57) from fun z => hc z.2)]
      rcases (dg_v h3).1.mpr hc with z | z
      · rw [if_pos z]
      · by_cases y : nI (L q) - 48 < 0
        · rw [if_pos y]
        · rw [if_neg y, if_pos z]
  · rw [if_neg (Int32.not_lt.mpr (nI_le (by omega) (by omega))), if_neg (fun z => hqk z.1)]
theorem fits_c (h : TX k lt tp L) {q c : Nat} (hq : q < 200) (hc : c < 256) (c1 : c ≠ 107) (c2 : c ≠ 48) : f_X1_fits (nI k) lt (nI q) (nI c) = some (if cx k L q c then 1 else 0) := by
  have hk := h.1
  unfold f_X1_fits cx
  by_cases hqk : q < k
  · obtain ⟨h1, h2, h3⟩ := h.2 q hqk
    rw [if_pos (Int32.not_le.mp (nI_ge hqk (by omega))), if_neg (show ¬ nI c = 107 from fun e => c1 ((nIc hc (c := 107) (by omega)).mp e)), if_neg (show ¬ nI c = 48 from fun e => c2 ((nIc hc (c := 48) (by omega)).mp e)), g3 (by omega) (by omega), h1]
    simp only [Option.bind_some]
    by_cases e : L q = c
    · rw [if_pos (by rw [e]), if_pos ⟨hqk, e⟩]
    · rw [if_neg (fun z => e ((nIc h3 hc).mp z)), if_neg (fun z => e z.2)]
  · rw [if_neg (Int32.not_lt.mpr (nI_le (by omega) (by omega))), if_neg (fun z => hqk z.1)]
theorem hm_step {p s j fuel : Nat} {c : Int32} (hl : j_length s = some (nI (wLen.getD s 0))) (hj : j < wLen.getD s 0) (hw : wLen.getD s 0 < 9) (hc : j_charAt s (nI j) = some c) : f_X1_howManyFit_2 (nI k) lt (nI p) s (fuel + 1) (nI j) = (f_X1_fits (nI k) lt (nI (p + j)) c).bind fun r => if r = 0 then some (nI j) else f_X1_howManyFit_2 (nI k) lt (nI p) s fuel (nI (j + 1)) := by
  rw [e_X1_howManyFit_2, hl]
  simp (implicitDefEqProofs := false) only [Option.bind_some]
  rw [if_neg (nI_ge hj (by omega)), hc]
  simp (implicitDefEqProofs := false) only [Option.bind_some]
  rw [nI_addn, nI_succ]
theorem hm_end {p s fuel : Nat} (hl : j_length s = some (nI (wLen.getD s 0))) (hw : wLen.getD s 0 < 9) : f_X1_howManyFit_2 (nI k) lt (nI p) s (fuel + 1) (nI (wLen.getD s 0)) = some (nI (wLen.getD s 0)) := by
  rw [e_X1_howManyFit_2, hl]
  simp (implicitDefEqProofs := false) only [Option.bind_some]
  rw [if_pos (nI_le (Nat.le_refl _) (by omega))]
theorem x5_next_t (h : TX k lt tp L) {q : Nat} (hq : q < k) : f_X5_next (nI k) (nI q) tp = some (nI (L q)) := by
  have hk := h.1
  unfold f_X5_next
  rw [if_neg (nI_ge hq (by omega)), gdI (by omega) (by omega), nI_clamp (by omega), (h.2 q hq).2.1]
theorem x5_next_f (h : TX k lt tp L) {q : Nat} (hq : ¬ q < k) (hq2 : q < 200) : f_X5_next (nI k) (nI q) tp = some (-1) := by
  have hk := h.1
  unfold f_X5_next
  rw [if_pos (nI_le (by omega) (by omega))]
theorem dval {v : Nat} (h : 48 ≤ v ∧ v ≤ 57) : (10 : Int32) * 0 + nI v - 48 = nI (v - 48) ∧ ∀ a, a < 10 → (10 : Int32) * nI a + nI v - 48 = nI (10 * a + (v - 48)) := by
  have hh : ∀ v, v < 58 → 48 ≤ v → (10 : Int32) * 0 + nI v - 48 = nI (v - 48) ∧ ∀ a, a < 10 → (10 : Int32) * nI a + nI v - 48 = nI (10 * a + (v - 48)) := by decide +kernel
  exact hh v (by omega) h.1
theorem rdF (h : TX k lt tp L) {q x : Nat} {td : Nat → Int32} {K} {fuel : Nat} {v j nd : Int32} (hq : q < 200) (hd : ¬ dg k L q) (hj : ¬ nd ≤ j) : f_X5_readsDigits_5 (nI k) tp nd td K (fuel + 1) v j (nI q) = some (0, nI q, td) := by
  rw [e_X5_readsDigits_5, if_neg hj]
  by_cases hqk : q < k
  · obtain ⟨h1, h2, h3⟩ := h.2 q hqk
    rw [x5_next_t h hqk]
    simp (implicitDefEqProofs := false) only [Option.bind_some]
    rw [(dg_v h3).2, if_neg (fun z => hd ⟨hqk, z⟩)]
    simp (decide := true) (implicitDefEqProofs := false) only [Option.bind_some, if_true, if_false]
  · rw [x5_next_f h hqk hq]
    simp (implicitDefEqProofs := false) only [Option.bind_some]
    rw [show f_X5_isIn (-1) 48 57 = some 0 from by decide]
    simp (decide := true) (implicitDefEqProofs := false) only [Option.bind_some, if_true, if_false]
theorem rdT (h : TX k lt tp L) {q : Nat} {td : Nat → Int32} {K} {fuel : Nat} {v j nd : Int32} (hd : dg k L q) (hj : ¬ nd ≤ j) : f_X5_readsDigits_5 (nI k) tp nd td K (fuel + 1) v j (nI q) = f_X5_readsDigits_5 (nI k) tp nd td K fuel (10 * v + nI (L q) - 48) (j + 1) (nI (q + 1)) := by
  obtain ⟨hqk, hv⟩ := hd
  obtain ⟨h1, h2, h3⟩ := h.2 q hqk
  rw [e_X5_readsDigits_5, if_neg hj, x5_next_t h hqk]
  simp (implicitDefEqProofs := false) only [Option.bind_some]
  rw [(dg_v h3).2, if_pos hv]
  simp (decide := true) (implicitDefEqProofs := false) only [Option.bind_some, if_true, if_false]
  rw [nI_succ]
theorem rdE {q x : Nat} {td : Nat → Int32} {fuel : Nat} {v j nd : Int32} (hx : x < 144) (hj : nd ≤ j) : f_X5_readsDigits_5 (nI k) tp nd td (fun v3 a => f_X5_readsDigits_56 (nI x) v3 a td) (fuel + 1) v j (nI q) = some (1, nI q, upd td x v) := by
  rw [e_X5_readsDigits_5, if_pos hj]
  unfold f_X5_readsDigits_56
  rw [gdI hx (by omega), nI_clamp (by omega)]
theorem rd1_t (h : TX k lt tp L) {q x : Nat} {td : Nat → Int32} (hx : x < 144) (hd : dg k L q) : f_X5_readsDigits (nI k) (nI q) tp td (nI x) 1 = some (1, nI (q + 1), upd td x (nI (L q - 48))) := by
  obtain ⟨F, hF⟩ : ∃ F, FU = F + 1 + 1 := ⟨99998, rfl⟩
  unfold f_X5_readsDigits
  rw [hF, rdT h hd (by decide), rdE hx (by decide), (dval hd.2).1]
theorem rd1_f (h : TX k lt tp L) {q x : Nat} {td : Nat → Int32} (hq : q < 200) (hd : ¬ dg k L q) : f_X5_readsDigits (nI k) (nI q) tp td (nI x) 1 = some (0, nI q, td) := by
  obtain ⟨F, hF⟩ : ∃ F, FU = F + 1 + 1 := ⟨99998, rfl⟩
  unfold f_X5_readsDigits
  rw [hF, rdF (x := x) h hq hd (by decide)]
theorem rd2_tt (h : TX k lt tp L) {q x : Nat} {td : Nat → Int32} (hx : x < 144) (hd : dg k L q) (hd2 : dg k L (q + 1)) : f_X5_readsDigits (nI k) (nI q) tp td (nI x) 2 = some (1, nI (q + 2), upd td x (nI (10 * (L q - 48) + (L (q + 1) - 48)))) := by
  obtain ⟨F, hF⟩ : ∃ F, FU = F + 1 + 1 + 1 := ⟨99997, rfl⟩
  unfold f_X5_readsDigits
  rw [hF, rdT h hd (by decide), rdT h hd2 (by decide), rdE hx (by decide), (dval hd.2).1, (dval hd2.2).2 _ (by have := hd.2; omega)]
theorem rd2_f (h : TX k lt tp L) {q x : Nat} {td : Nat → Int32} (hq : q < 200) (hd : ¬ dg k L q) : f_X5_readsDigits (nI k) (nI q) tp td (nI x) 2 = some (0, nI q, td) := by
  obtain ⟨F, hF⟩ : ∃ F, FU = F + 1 + 1 := ⟨99998, rfl⟩
  unfold f_X5_readsDigits
  rw [hF, rdF (x := x) h hq hd (by decide)]
theorem rd2_tf (h : TX k lt tp L) {q x : Nat} {td : Nat → Int32} (hq : q + 1 < 200) (hd : dg k L q) (hd2 : ¬ dg k L (q + 1)) : f_X5_readsDigits (nI k) (nI q) tp td (nI x) 2 = some (0, nI (q + 1), td) := by
  obtain ⟨F, hF⟩ : ∃ F, FU = F + 1 + 1 + 1 := ⟨99997, rfl⟩
  unfold f_X5_readsDigits
  rw [hF, rdT h hd (by decide), rdF (x := x) h hq hd2 (by decide)]
/-- what a statement at p is, and where its numbers are kept -/
def lnL (L : Nat → Nat) (p : Nat) : Nat := if L p = 119 then 5 else if L p = 120 then 4 else if L p = 115 then 3 else if L p = 116 then 4 else if L p = 102 then 5 else 4
def OKS (k : Nat) (L : Nat → Nat) (p : Nat) : Prop := (L p = 119 ∧ kx k L (p + 1) ∧ dg k L (p + 2) ∧ dg k L (p + 3) ∧ p + 4 < k) ∨ (L p = 120 ∧ dg k L (p + 1) ∧ dg k L (p + 2) ∧ p + 3 < k) ∨ (L p = 115 ∧ dg k L (p + 1) ∧ p + 2 < k) ∨ (L p = 116 ∧ dg k L (p + 1) ∧ dg k L (p + 2) ∧ p + 3 < k) ∨ (L p = 102 ∧ dg k L (p + 1) ∧ dg k L (p + 2) ∧ dg k L (p + 3) ∧ p + 4 < k) ∨ (L p = 121 ∧ dg k L (p + 1) ∧ dg k L (p + 2) ∧ p + 3 < k)
def TF (L : Nat → Nat) (td : Nat → Int32) (i p : Nat) : Prop := (L p = 119 → td (3 * i) = kd (nI (L (p + 1))) ∧ td (3 * i + 1) = nI (L (p + 2) - 48) ∧ td (3 * i + 2) = nI (L (p + 3) - 48)) ∧ (L p = 120 ∨ L p = 116 → td (3 * i) = nI (L (p + 1) - 48) ∧ td (3 * i + 1) = nI (L (p + 2) - 48)) ∧ (L p = 115 → td (3 * i) = nI (L (p + 1) - 48)) ∧ (L p = 102 → td (3 * i) = nI (L (p + 1) - 48) ∧ td (3 * i + 1) = nI (10 * (L (p + 2) - 48) + (L (p + 3) - 48))) ∧ (L p = 121 → td (3 * i) = nI (10 * (L (p + 1) - 48) + (L (p + 2) - 48)))
def SJ (k : Nat) (lt tp : Nat → Int32) (L : Nat → Nat) (p i : Nat) (le la td : Nat → Int32) : Prop :=
  (∃ e, e ≤ 200 ∧ (∀ K, f_X1_wrongPlace_25 (nI k) lt K (nI p) (nI i) = some (nI e)) ∧ ∃ le' la' td', f_X5_statement (nI k) (nI p) (nI i) tp le la td = some (0, nI e, le', la', td')) ∨
  (p < k ∧ OKS k L p ∧ (∀ K, f_X1_wrongPlace_25 (nI k) lt K (nI p) (nI i) = K (nI (p + lnL L p)) (nI i + 1)) ∧ ∃ td', f_X5_statement (nI k) (nI p) (nI i) tp le la td = some (1, nI (p + lnL L p), upd le i (nI (L p)), upd la i (nI p), td') ∧ TF L td' i p ∧ ∀ j, j < 3 * i → td' j = td j)
theorem nI_3i (i : Nat) : (3 : Int32) * nI i = nI (3 * i) := (Int32.ofNat_mul 3 i).symm
set_option maxHeartbeats 1000000 in
theorem st_w (h : TX k lt tp L) {p i : Nat} {le la td : Nat → Int32} (hp : p < k) (hc : L p = 119) (hi : i < 48) : SJ k lt tp L p i le la td := by
  have hk := h.1
  obtain ⟨h1, h2, h3⟩ := h.2 p hp
  have hsh : f_X1_shapeAt (nI k) lt (nI p) = some 1 := by
    unfold f_X1_shapeAt
    rw [if_pos (Int32.not_le.mp (nI_ge hp (by omega))), g3 (by omega) (by omega), h1, hc]
    rfl
  have hln : lnL L p = 5 := by unfold lnL; rw [hc]; rfl
  have hl : j_length 1 = some (nI (wLen.getD 1 0)) := by decide
  have hst : f_X5_statement (nI k) (nI p) (nI i) tp le la td = f_X5_statement_43 (nI k) (nI i) tp (nI 119) (nI p) le la td := by
    unfold f_X5_statement
    rw [x5_next_t h hp, hc]
    simp (decide := true) (implicitDefEqProofs := false) only [Option.bind_some, if_true, if_false, ite_self]
  have hx : cx k L p 119 := ⟨hp, hc⟩
  obtain ⟨F, hF⟩ : ∃ F, FU = F + 1 + 1 + 1 + 1 + 1 + 1 + 1 := ⟨99993, rfl⟩
  by_cases b1 : kx k L (p + 1)
  case neg =>
    refine Or.inl ⟨p + 1, by omega, fun K => ?_, ?_⟩
    · have hmf : f_X1_howManyFit (nI k) lt (nI p) 1 = some (nI 1) := by
        unfold f_X1_howManyFit
        rw [hF, show (0 : Int32) = nI 0 from rfl]
        rw [hm_step (c := nI 119) hl (by decide) (by decide) (by decide)]
        rw [fits_c (c := 119) h (by omega) (by decide) (by decide) (by decide), if_pos (show cx k L (p + 0) 119 from hx)]
        simp (decide := true) (implicitDefEqProofs := false) only [Option.bind_some, if_true, if_false]
        rw [hm_step (c := 107) hl (by decide) (by decide) (by decide)]
        rw [fits_k h (by omega), if_neg b1]
        simp (decide := true) (implicitDefEqProofs := false) only [Option.bind_some, if_true, if_false]
      unfold f_X1_wrongPlace_25
      rw [hsh]
      simp (decide := true) (implicitDefEqProofs := false) only [Option.bind_some, if_true, if_false]
      rw [hmf, show j_isEmpty 1 = some 0 from by decide, hl]
      simp (decide := true) (implicitDefEqProofs := false) only [Option.bind_some, if_true, if_false]
      rw [nI_addn]
    · rw [hst]
      have hz : ∃ le' la' td', f_X5_statement_43 (nI k) (nI i) tp (nI 119) (nI p) le la td = some (0, nI (p + 1), le', la', td') := by
        unfold f_X5_statement_43
        rw [gdI (by omega) (by omega), gdI (by omega) (by omega), nI_clamp (by omega), nI_3i, ← nI_succ]
        unfold f_X5_readsAll
        simp (decide := true) (implicitDefEqProofs := false) only [if_true, if_false]
        unfold f_X5_readsWriter
        by_cases hq : p + 1 < k
        · rw [x5_next_t h hq]
          simp (decide := true) (implicitDefEqProofs := false) only [Option.bind_some, if_true, if_false]
          rw [x5_kindOf]
          simp (decide := true) (implicitDefEqProofs := false) only [Option.bind_some, if_true, if_false]
          rw [gdI (by omega) (by omega), gdI (by omega) (by omega), nI_clamp (by omega), upd_at, if_neg (fun z => b1 ⟨hq, z⟩)]
          exact ⟨_, _, _, rfl⟩
        · rw [x5_next_f h hq (by omega)]
          simp (decide := true) (implicitDefEqProofs := false) only [Option.bind_some, if_true, if_false]
          rw [x5_kindOf, show kd (-1) = -1 from by decide]
          simp (decide := true) (implicitDefEqProofs := false) only [Option.bind_some, if_true, if_false]
          rw [gdI (by omega) (by omega), gdI (by omega) (by omega), nI_clamp (by omega), upd_at]
          exact ⟨_, _, _, rfl⟩
      exact hz
  by_cases b2 : dg k L (p + 2)
  case neg =>
    refine Or.inl ⟨p + 2, by omega, fun K => ?_, ?_⟩
    · have hmf : f_X1_howManyFit (nI k) lt (nI p) 1 = some (nI 2) := by
        unfold f_X1_howManyFit
        rw [hF, show (0 : Int32) = nI 0 from rfl]
        rw [hm_step (c := nI 119) hl (by decide) (by decide) (by decide)]
        rw [fits_c (c := 119) h (by omega) (by decide) (by decide) (by decide), if_pos (show cx k L (p + 0) 119 from hx)]
        simp (decide := true) (implicitDefEqProofs := false) only [Option.bind_some, if_true, if_false]
        rw [hm_step (c := 107) hl (by decide) (by decide) (by decide)]
        rw [fits_k h (by omega), if_pos b1]
        simp (decide := true) (implicitDefEqProofs := false) only [Option.bind_some, if_true, if_false]
        rw [hm_step (c := 48) hl (by decide) (by decide) (by decide)]
        rw [fits_d h (by omega), if_neg b2]
        simp (decide := true) (implicitDefEqProofs := false) only [Option.bind_some, if_true, if_false]
      unfold f_X1_wrongPlace_25
      rw [hsh]
      simp (decide := true) (implicitDefEqProofs := false) only [Option.bind_some, if_true, if_false]
      rw [hmf, show j_isEmpty 1 = some 0 from by decide, hl]
      simp (decide := true) (implicitDefEqProofs := false) only [Option.bind_some, if_true, if_false]
      rw [nI_addn]
    · rw [hst]
      have hz : ∃ le' la' td', f_X5_statement_43 (nI k) (nI i) tp (nI 119) (nI p) le la td = some (0, nI (p + 2), le', la', td') := by
        unfold f_X5_statement_43
        rw [gdI (by omega) (by omega), gdI (by omega) (by omega), nI_clamp (by omega), nI_3i, ← nI_succ]
        unfold f_X5_readsAll
        simp (decide := true) (implicitDefEqProofs := false) only [if_true, if_false]
        unfold f_X5_readsWriter
        rw [x5_next_t h b1.1]
        simp (decide := true) (implicitDefEqProofs := false) only [Option.bind_some, if_true, if_false]
        rw [x5_kindOf]
        simp (decide := true) (implicitDefEqProofs := false) only [Option.bind_some, if_true, if_false]
        rw [gdI (by omega) (by omega), gdI (by omega) (by omega), nI_clamp (by omega), upd_at, if_pos b1.2, ← nI_succ, ← nI_succ, show nI (3 * i) + 2 = nI (3 * i + 2) from nI_addn (3 * i) 2]
        rw [rd1_f h (by omega) b2]
        simp (decide := true) (implicitDefEqProofs := false) only [Option.bind_some, if_true, if_false]
        exact ⟨_, _, _, rfl⟩
      exact hz
  by_cases b3 : dg k L (p + 3)
  case neg =>
    refine Or.inl ⟨p + 3, by omega, fun K => ?_, ?_⟩
    · have hmf : f_X1_howManyFit (nI k) lt (nI p) 1 = some (nI 3) := by
        unfold f_X1_howManyFit
        rw [hF, show (0 : Int32) = nI 0 from rfl]
        rw [hm_step (c := nI 119) hl (by decide) (by decide) (by decide)]
        rw [fits_c (c := 119) h (by omega) (by decide) (by decide) (by decide), if_pos (show cx k L (p + 0) 119 from hx)]
        simp (decide := true) (implicitDefEqProofs := false) only [Option.bind_some, if_true, if_false]
        rw [hm_step (c := 107) hl (by decide) (by decide) (by decide)]
        rw [fits_k h (by omega), if_pos b1]
        simp (decide := true) (implicitDefEqProofs := false) only [Option.bind_some, if_true, if_false]
        rw [hm_step (c := 48) hl (by decide) (by decide) (by decide)]
        rw [fits_d h (by omega), if_pos b2]
        simp (decide := true) (implicitDefEqProofs := false) only [Option.bind_some, if_true, if_false]
        rw [hm_step (c := 48) hl (by decide) (by decide) (by decide)]
        rw [fits_d h (by omega), if_neg b3]
        simp (decide := true) (implicitDefEqProofs := false) only [Option.bind_some, if_true, if_false]
      unfold f_X1_wrongPlace_25
      rw [hsh]
      simp (decide := true) (implicitDefEqProofs := false) only [Option.bind_some, if_true, if_false]
      rw [hmf, show j_isEmpty 1 = some 0 from by decide, hl]
      simp (decide := true) (implicitDefEqProofs := false) only [Option.bind_some, if_true, if_false]
      rw [nI_addn]
    · rw [hst]
      have hz : ∃ le' la' td', f_X5_statement_43 (nI k) (nI i) tp (nI 119) (nI p) le la td = some (0, nI (p + 3), le', la', td') := by
        unfold f_X5_statement_43
        rw [gdI (by omega) (by omega), gdI (by omega) (by omega), nI_clamp (by omega), nI_3i, ← nI_succ]
        unfold f_X5_readsAll
        simp (decide := true) (implicitDefEqProofs := false) only [if_true, if_false]
        unfold f_X5_readsWriter
        rw [x5_next_t h b1.1]
        simp (decide := true) (implicitDefEqProofs := false) only [Option.bind_some, if_true, if_false]
        rw [x5_kindOf]
        simp (decide := true) (implicitDefEqProofs := false) only [Option.bind_some, if_true, if_false]
        rw [gdI (by omega) (by omega), gdI (by omega) (by omega), nI_clamp (by omega), upd_at, if_pos b1.2, ← nI_succ, ← nI_succ, show nI (3 * i) + 2 = nI (3 * i + 2) from nI_addn (3 * i) 2]
        rw [rd1_t h (by omega) b2]
        simp (decide := true) (implicitDefEqProofs := false) only [Option.bind_some, if_true, if_false]
        rw [rd1_f h (by omega) b3]
        simp (decide := true) (implicitDefEqProofs := false) only [Option.bind_some, if_true, if_false]
        exact ⟨_, _, _, rfl⟩
      exact hz
  by_cases b4 : cx k L (p + 4) 59
  case neg =>
    refine Or.inl ⟨p + 4, by omega, fun K => ?_, ?_⟩
    · have hmf : f_X1_howManyFit (nI k) lt (nI p) 1 = some (nI 4) := by
        unfold f_X1_howManyFit
        rw [hF, show (0 : Int32) = nI 0 from rfl]
        rw [hm_step (c := nI 119) hl (by decide) (by decide) (by decide)]
        rw [fits_c (c := 119) h (by omega) (by decide) (by decide) (by decide), if_pos (show cx k L (p + 0) 119 from hx)]
        simp (decide := true) (implicitDefEqProofs := false) only [Option.bind_some, if_true, if_false]
        rw [hm_step (c := 107) hl (by decide) (by decide) (by decide)]
        rw [fits_k h (by omega), if_pos b1]
        simp (decide := true) (implicitDefEqProofs := false) only [Option.bind_some, if_true, if_false]
        rw [hm_step (c := 48) hl (by decide) (by decide) (by decide)]
        rw [fits_d h (by omega), if_pos b2]
        simp (decide := true) (implicitDefEqProofs := false) only [Option.bind_some, if_true, if_false]
        rw [hm_step (c := 48) hl (by decide) (by decide) (by decide)]
        rw [fits_d h (by omega), if_pos b3]
        simp (decide := true) (implicitDefEqProofs := false) only [Option.bind_some, if_true, if_false]
        rw [hm_step (c := nI 59) hl (by decide) (by decide) (by decide)]
        rw [fits_c (c := 59) h (by omega) (by decide) (by decide) (by decide), if_neg b4]
        simp (decide := true) (implicitDefEqProofs := false) only [Option.bind_some, if_true, if_false]
      unfold f_X1_wrongPlace_25
      rw [hsh]
      simp (decide := true) (implicitDefEqProofs := false) only [Option.bind_some, if_true, if_false]
      rw [hmf, show j_isEmpty 1 = some 0 from by decide, hl]
      simp (decide := true) (implicitDefEqProofs := false) only [Option.bind_some, if_true, if_false]
      rw [nI_addn]
    · rw [hst]
      have hz : ∃ le' la' td', f_X5_statement_43 (nI k) (nI i) tp (nI 119) (nI p) le la td = some (0, nI (p + 4), le', la', td') := by
        unfold f_X5_statement_43
        rw [gdI (by omega) (by omega), gdI (by omega) (by omega), nI_clamp (by omega), nI_3i, ← nI_succ]
        unfold f_X5_readsAll
        simp (decide := true) (implicitDefEqProofs := false) only [if_true, if_false]
        unfold f_X5_readsWriter
        rw [x5_next_t h b1.1]
        simp (decide := true) (implicitDefEqProofs := false) only [Option.bind_some, if_true, if_false]
        rw [x5_kindOf]
        simp (decide := true) (implicitDefEqProofs := false) only [Option.bind_some, if_true, if_false]
        rw [gdI (by omega) (by omega), gdI (by omega) (by omega), nI_clamp (by omega), upd_at, if_pos b1.2, ← nI_succ, ← nI_succ, show nI (3 * i) + 2 = nI (3 * i + 2) from nI_addn (3 * i) 2]
        rw [rd1_t h (by omega) b2]
        simp (decide := true) (implicitDefEqProofs := false) only [Option.bind_some, if_true, if_false]
        rw [rd1_t h (by omega) b3]
        try simp (decide := true) (implicitDefEqProofs := false) only [Option.bind_some, if_true, if_false, gb, or_true, true_or]
        by_cases hq : p + 4 < k
        · rw [x5_next_t h hq]
          simp (decide := true) (implicitDefEqProofs := false) only [Option.bind_some, if_true, if_false]
          rw [if_neg (show ¬ nI (L (p + 4)) = 59 from fun z => b4 ⟨hq, (nIc (h.2 _ hq).2.2 (c := 59) (by omega)).mp z⟩)]
          exact ⟨_, _, _, rfl⟩
        · rw [x5_next_f h hq (by omega)]
          simp (decide := true) (implicitDefEqProofs := false) only [Option.bind_some, if_true, if_false]
          exact ⟨_, _, _, rfl⟩
      exact hz
  refine Or.inr ⟨hp, ?_, fun K => ?_, ?_⟩
  · exact Or.inl ⟨hc, b1, b2, b3, b4.1⟩
  · have hmf : f_X1_howManyFit (nI k) lt (nI p) 1 = some (nI (wLen.getD 1 0)) := by
      unfold f_X1_howManyFit
      rw [hF, show (0 : Int32) = nI 0 from rfl]
      rw [hm_step (c := nI 119) hl (by decide) (by decide) (by decide)]
      rw [fits_c (c := 119) h (by omega) (by decide) (by decide) (by decide), if_pos (show cx k L (p + 0) 119 from hx)]
      simp (decide := true) (implicitDefEqProofs := false) only [Option.bind_some, if_true, if_false]
      rw [hm_step (c := 107) hl (by decide) (by decide) (by decide)]
      rw [fits_k h (by omega), if_pos b1]
      simp (decide := true) (implicitDefEqProofs := false) only [Option.bind_some, if_true, if_false]
      rw [hm_step (c := 48) hl (by decide) (by decide) (by decide)]
      rw [fits_d h (by omega), if_pos b2]
      simp (decide := true) (implicitDefEqProofs := false) only [Option.bind_some, if_true, if_false]
      rw [hm_step (c := 48) hl (by decide) (by decide) (by decide)]
      rw [fits_d h (by omega), if_pos b3]
      simp (decide := true) (implicitDefEqProofs := false) only [Option.bind_some, if_true, if_false]
      rw [hm_step (c := nI 59) hl (by decide) (by decide) (by decide)]
      rw [fits_c (c := 59) h (by omega) (by decide) (by decide) (by decide), if_pos b4]
      simp (decide := true) (implicitDefEqProofs := false) only [Option.bind_some, if_true, if_false]
      exact hm_end (s := 1) hl (by decide)
    unfold f_X1_wrongPlace_25
    rw [hsh]
    simp (decide := true) (implicitDefEqProofs := false) only [Option.bind_some, if_true, if_false]
    rw [hmf, show j_isEmpty 1 = some 0 from by decide, hl]
    simp (decide := true) (implicitDefEqProofs := false) only [Option.bind_some, if_true, if_false]
    rw [hln, show wLen.getD 1 0 = 5 from rfl, nI_addn]
  · rw [hst, hln, hc]
    refine ⟨upd (upd (upd td (3 * i) (kd (nI (L (p + 1))))) (3 * i + 1) (nI (L (p + 2) - 48))) (3 * i + 2) (nI (L (p + 3) - 48)), ?_, ?_, fun j hj => ?_⟩
    · unfold f_X5_statement_43
      rw [gdI (by omega) (by omega), gdI (by omega) (by omega), nI_clamp (by omega), nI_3i, ← nI_succ]
      unfold f_X5_readsAll
      simp (decide := true) (implicitDefEqProofs := false) only [if_true, if_false]
      unfold f_X5_readsWriter
      rw [x5_next_t h b1.1]
      simp (decide := true) (implicitDefEqProofs := false) only [Option.bind_some, if_true, if_false]
      rw [x5_kindOf]
      simp (decide := true) (implicitDefEqProofs := false) only [Option.bind_some, if_true, if_false]
      rw [gdI (by omega) (by omega), gdI (by omega) (by omega), nI_clamp (by omega), upd_at, if_pos b1.2, ← nI_succ, ← nI_succ, show nI (3 * i) + 2 = nI (3 * i + 2) from nI_addn (3 * i) 2]
      rw [rd1_t h (by omega) b2]
      simp (decide := true) (implicitDefEqProofs := false) only [Option.bind_some, if_true, if_false]
      rw [rd1_t h (by omega) b3]
      try simp (decide := true) (implicitDefEqProofs := false) only [Option.bind_some, if_true, if_false, gb, or_true, true_or]
      rw [x5_next_t h b4.1, b4.2]
      try simp (decide := true) (implicitDefEqProofs := false) only [Option.bind_some, if_true, if_false, gb, or_true, true_or]
      rw [← nI_succ]
    · unfold TF
      rw [hc]
      refine ⟨fun z => ?_, fun z => ?_, fun z => ?_, fun z => ?_, fun z => ?_⟩
      · exact ⟨by rw [upd_ne (by omega), upd_ne (by omega), upd_at], by rw [upd_ne (by omega), upd_at], upd_at⟩
      · omega
      · omega
      · omega
      · omega
    · rw [upd_ne (by omega), upd_ne (by omega), upd_ne (by omega)]
set_option maxHeartbeats 1000000 in
theorem st_x (h : TX k lt tp L) {p i : Nat} {le la td : Nat → Int32} (hp : p < k) (hc : L p = 120) (hi : i < 48) : SJ k lt tp L p i le la td := by
  have hk := h.1
  obtain ⟨h1, h2, h3⟩ := h.2 p hp
  have hsh : f_X1_shapeAt (nI k) lt (nI p) = some 2 := by
    unfold f_X1_shapeAt
    rw [if_pos (Int32.not_le.mp (nI_ge hp (by omega))), g3 (by omega) (by omega), h1, hc]
    rfl
  have hln : lnL L p = 4 := by unfold lnL; rw [hc]; rfl
  have hl : j_length 2 = some (nI (wLen.getD 2 0)) := by decide
  have hst : f_X5_statement (nI k) (nI p) (nI i) tp le la td = f_X5_statement_43 (nI k) (nI i) tp (nI 120) (nI p) le la td := by
    unfold f_X5_statement
    rw [x5_next_t h hp, hc]
    simp (decide := true) (implicitDefEqProofs := false) only [Option.bind_some, if_true, if_false, ite_self]
  have hx : cx k L p 120 := ⟨hp, hc⟩
  obtain ⟨F, hF⟩ : ∃ F, FU = F + 1 + 1 + 1 + 1 + 1 + 1 + 1 := ⟨99993, rfl⟩
  by_cases b1 : dg k L (p + 1)
  case neg =>
    refine Or.inl ⟨p + 1, by omega, fun K => ?_, ?_⟩
    · have hmf : f_X1_howManyFit (nI k) lt (nI p) 2 = some (nI 1) := by
        unfold f_X1_howManyFit
        rw [hF, show (0 : Int32) = nI 0 from rfl]
        rw [hm_step (c := nI 120) hl (by decide) (by decide) (by decide)]
        rw [fits_c (c := 120) h (by omega) (by decide) (by decide) (by decide), if_pos (show cx k L (p + 0) 120 from hx)]
        simp (decide := true) (implicitDefEqProofs := false) only [Option.bind_some, if_true, if_false]
        rw [hm_step (c := 48) hl (by decide) (by decide) (by decide)]
        rw [fits_d h (by omega), if_neg b1]
        simp (decide := true) (implicitDefEqProofs := false) only [Option.bind_some, if_true, if_false]
      unfold f_X1_wrongPlace_25
      rw [hsh]
      simp (decide := true) (implicitDefEqProofs := false) only [Option.bind_some, if_true, if_false]
      rw [hmf, show j_isEmpty 2 = some 0 from by decide, hl]
      simp (decide := true) (implicitDefEqProofs := false) only [Option.bind_some, if_true, if_false]
      rw [nI_addn]
    · rw [hst]
      have hz : ∃ le' la' td', f_X5_statement_43 (nI k) (nI i) tp (nI 120) (nI p) le la td = some (0, nI (p + 1), le', la', td') := by
        unfold f_X5_statement_43
        rw [gdI (by omega) (by omega), gdI (by omega) (by omega), nI_clamp (by omega), nI_3i, ← nI_succ]
        unfold f_X5_readsAll
        simp (decide := true) (implicitDefEqProofs := false) only [if_true, if_false]
        rw [rd1_f h (by omega) b1]
        try simp (decide := true) (implicitDefEqProofs := false) only [Option.bind_some, if_true, if_false, gb, or_true, true_or]
        exact ⟨_, _, _, rfl⟩
      exact hz
  by_cases b2 : dg k L (p + 2)
  case neg =>
    refine Or.inl ⟨p + 2, by omega, fun K => ?_, ?_⟩
    · have hmf : f_X1_howManyFit (nI k) lt (nI p) 2 = some (nI 2) := by
        unfold f_X1_howManyFit
        rw [hF, show (0 : Int32) = nI 0 from rfl]
        rw [hm_step (c := nI 120) hl (by decide) (by decide) (by decide)]
        rw [fits_c (c := 120) h (by omega) (by decide) (by decide) (by decide), if_pos (show cx k L (p + 0) 120 from hx)]
        simp (decide := true) (implicitDefEqProofs := false) only [Option.bind_some, if_true, if_false]
        rw [hm_step (c := 48) hl (by decide) (by decide) (by decide)]
        rw [fits_d h (by omega), if_pos b1]
        simp (decide := true) (implicitDefEqProofs := false) only [Option.bind_some, if_true, if_false]
        rw [hm_step (c := 48) hl (by decide) (by decide) (by decide)]
        rw [fits_d h (by omega), if_neg b2]
        simp (decide := true) (implicitDefEqProofs := false) only [Option.bind_some, if_true, if_false]
      unfold f_X1_wrongPlace_25
      rw [hsh]
      simp (decide := true) (implicitDefEqProofs := false) only [Option.bind_some, if_true, if_false]
      rw [hmf, show j_isEmpty 2 = some 0 from by decide, hl]
      simp (decide := true) (implicitDefEqProofs := false) only [Option.bind_some, if_true, if_false]
      rw [nI_addn]
    · rw [hst]
      have hz : ∃ le' la' td', f_X5_statement_43 (nI k) (nI i) tp (nI 120) (nI p) le la td = some (0, nI (p + 2), le', la', td') := by
        unfold f_X5_statement_43
        rw [gdI (by omega) (by omega), gdI (by omega) (by omega), nI_clamp (by omega), nI_3i, ← nI_succ]
        unfold f_X5_readsAll
        simp (decide := true) (implicitDefEqProofs := false) only [if_true, if_false]
        rw [rd1_t h (by omega) b1]
        try simp (decide := true) (implicitDefEqProofs := false) only [Option.bind_some, if_true, if_false, gb, or_true, true_or]
        rw [← nI_succ]
        rw [rd1_f h (by omega) b2]
        try simp (decide := true) (implicitDefEqProofs := false) only [Option.bind_some, if_true, if_false, gb, or_true, true_or]
        exact ⟨_, _, _, rfl⟩
      exact hz
  by_cases b3 : cx k L (p + 3) 59
  case neg =>
    refine Or.inl ⟨p + 3, by omega, fun K => ?_, ?_⟩
    · have hmf : f_X1_howManyFit (nI k) lt (nI p) 2 = some (nI 3) := by
        unfold f_X1_howManyFit
        rw [hF, show (0 : Int32) = nI 0 from rfl]
        rw [hm_step (c := nI 120) hl (by decide) (by decide) (by decide)]
        rw [fits_c (c := 120) h (by omega) (by decide) (by decide) (by decide), if_pos (show cx k L (p + 0) 120 from hx)]
        simp (decide := true) (implicitDefEqProofs := false) only [Option.bind_some, if_true, if_false]
        rw [hm_step (c := 48) hl (by decide) (by decide) (by decide)]
        rw [fits_d h (by omega), if_pos b1]
        simp (decide := true) (implicitDefEqProofs := false) only [Option.bind_some, if_true, if_false]
        rw [hm_step (c := 48) hl (by decide) (by decide) (by decide)]
        rw [fits_d h (by omega), if_pos b2]
        simp (decide := true) (implicitDefEqProofs := false) only [Option.bind_some, if_true, if_false]
        rw [hm_step (c := nI 59) hl (by decide) (by decide) (by decide)]
        rw [fits_c (c := 59) h (by omega) (by decide) (by decide) (by decide), if_neg b3]
        simp (decide := true) (implicitDefEqProofs := false) only [Option.bind_some, if_true, if_false]
      unfold f_X1_wrongPlace_25
      rw [hsh]
      simp (decide := true) (implicitDefEqProofs := false) only [Option.bind_some, if_true, if_false]
      rw [hmf, show j_isEmpty 2 = some 0 from by decide, hl]
      simp (decide := true) (implicitDefEqProofs := false) only [Option.bind_some, if_true, if_false]
      rw [nI_addn]
    · rw [hst]
      have hz : ∃ le' la' td', f_X5_statement_43 (nI k) (nI i) tp (nI 120) (nI p) le la td = some (0, nI (p + 3), le', la', td') := by
        unfold f_X5_statement_43
        rw [gdI (by omega) (by omega), gdI (by omega) (by omega), nI_clamp (by omega), nI_3i, ← nI_succ]
        unfold f_X5_readsAll
        simp (decide := true) (implicitDefEqProofs := false) only [if_true, if_false]
        rw [rd1_t h (by omega) b1]
        try simp (decide := true) (implicitDefEqProofs := false) only [Option.bind_some, if_true, if_false, gb, or_true, true_or]
        rw [← nI_succ]
        rw [rd1_t h (by omega) b2]
        try simp (decide := true) (implicitDefEqProofs := false) only [Option.bind_some, if_true, if_false, gb, or_true, true_or]
        by_cases hq : p + 3 < k
        · rw [x5_next_t h hq]
          simp (decide := true) (implicitDefEqProofs := false) only [Option.bind_some, if_true, if_false]
          rw [if_neg (show ¬ nI (L (p + 3)) = 59 from fun z => b3 ⟨hq, (nIc (h.2 _ hq).2.2 (c := 59) (by omega)).mp z⟩)]
          exact ⟨_, _, _, rfl⟩
        · rw [x5_next_f h hq (by omega)]
          simp (decide := true) (implicitDefEqProofs := false) only [Option.bind_some, if_true, if_false]
          exact ⟨_, _, _, rfl⟩
      exact hz
  refine Or.inr ⟨hp, ?_, fun K => ?_, ?_⟩
  · exact Or.inr (Or.inl ⟨hc, b1, b2, b3.1⟩)
  · have hmf : f_X1_howManyFit (nI k) lt (nI p) 2 = some (nI (wLen.getD 2 0)) := by
      unfold f_X1_howManyFit
      rw [hF, show (0 : Int32) = nI 0 from rfl]
      rw [hm_step (c := nI 120) hl (by decide) (by decide) (by decide)]
      rw [fits_c (c := 120) h (by omega) (by decide) (by decide) (by decide), if_pos (show cx k L (p + 0) 120 from hx)]
      simp (decide := true) (implicitDefEqProofs := false) only [Option.bind_some, if_true, if_false]
      rw [hm_step (c := 48) hl (by decide) (by decide) (by decide)]
      rw [fits_d h (by omega), if_pos b1]
      simp (decide := true) (implicitDefEqProofs := false) only [Option.bind_some, if_true, if_false]
      rw [hm_step (c := 48) hl (by decide) (by decide) (by decide)]
      rw [fits_d h (by omega), if_pos b2]
      simp (decide := true) (implicitDefEqProofs := false) only [Option.bind_some, if_true, if_false]
      rw [hm_step (c := nI 59) hl (by decide) (by decide) (by decide)]
      rw [fits_c (c := 59) h (by omega) (by decide) (by decide) (by decide), if_pos b3]
      simp (decide := true) (implicitDefEqProofs := false) only [Option.bind_some, if_true, if_false]
      exact hm_end (s := 2) hl (by decide)
    unfold f_X1_wrongPlace_25
    rw [hsh]
    simp (decide := true) (implicitDefEqProofs := false) only [Option.bind_some, if_true, if_false]
    rw [hmf, show j_isEmpty 2 = some 0 from by decide, hl]
    simp (decide := true) (implicitDefEqProofs := false) only [Option.bind_some, if_true, if_false]
    rw [hln, show wLen.getD 2 0 = 4 from rfl, nI_addn]
  · rw [hst, hln, hc]
    refine ⟨upd (upd td (3 * i) (nI (L (p + 1) - 48))) (3 * i + 1) (nI (L (p + 2) - 48)), ?_, ?_, fun j hj => ?_⟩
    · unfold f_X5_statement_43
      rw [gdI (by omega) (by omega), gdI (by omega) (by omega), nI_clamp (by omega), nI_3i, ← nI_succ]
      unfold f_X5_readsAll
      simp (decide := true) (implicitDefEqProofs := false) only [if_true, if_false]
      rw [rd1_t h (by omega) b1]
      try simp (decide := true) (implicitDefEqProofs := false) only [Option.bind_some, if_true, if_false, gb, or_true, true_or]
      rw [← nI_succ]
      rw [rd1_t h (by omega) b2]
      try simp (decide := true) (implicitDefEqProofs := false) only [Option.bind_some, if_true, if_false, gb, or_true, true_or]
      rw [x5_next_t h b3.1, b3.2]
      try simp (decide := true) (implicitDefEqProofs := false) only [Option.bind_some, if_true, if_false, gb, or_true, true_or]
      rw [← nI_succ]
    · unfold TF
      rw [hc]
      refine ⟨fun z => ?_, fun z => ?_, fun z => ?_, fun z => ?_, fun z => ?_⟩
      · omega
      · exact ⟨by rw [upd_ne (by omega), upd_at], upd_at⟩
      · omega
      · omega
      · omega
    · rw [upd_ne (by omega), upd_ne (by omega)]
set_option maxHeartbeats 1000000 in
theorem st_s (h : TX k lt tp L) {p i : Nat} {le la td : Nat → Int32} (hp : p < k) (hc : L p = 115) (hi : i < 48) : SJ k lt tp L p i le la td := by
  have hk := h.1
  obtain ⟨h1, h2, h3⟩ := h.2 p hp
  have hsh : f_X1_shapeAt (nI k) lt (nI p) = some 3 := by
    unfold f_X1_shapeAt
    rw [if_pos (Int32.not_le.mp (nI_ge hp (by omega))), g3 (by omega) (by omega), h1, hc]
    rfl
  have hln : lnL L p = 3 := by unfold lnL; rw [hc]; rfl
  have hl : j_length 3 = some (nI (wLen.getD 3 0)) := by decide
  have hst : f_X5_statement (nI k) (nI p) (nI i) tp le la td = f_X5_statement_43 (nI k) (nI i) tp (nI 115) (nI p) le la td := by
    unfold f_X5_statement
    rw [x5_next_t h hp, hc]
    simp (decide := true) (implicitDefEqProofs := false) only [Option.bind_some, if_true, if_false, ite_self]
  have hx : cx k L p 115 := ⟨hp, hc⟩
  obtain ⟨F, hF⟩ : ∃ F, FU = F + 1 + 1 + 1 + 1 + 1 + 1 + 1 := ⟨99993, rfl⟩
  by_cases b1 : dg k L (p + 1)
  case neg =>
    refine Or.inl ⟨p + 1, by omega, fun K => ?_, ?_⟩
    · have hmf : f_X1_howManyFit (nI k) lt (nI p) 3 = some (nI 1) := by
        unfold f_X1_howManyFit
        rw [hF, show (0 : Int32) = nI 0 from rfl]
        rw [hm_step (c := nI 115) hl (by decide) (by decide) (by decide)]
        rw [fits_c (c := 115) h (by omega) (by decide) (by decide) (by decide), if_pos (show cx k L (p + 0) 115 from hx)]
        simp (decide := true) (implicitDefEqProofs := false) only [Option.bind_some, if_true, if_false]
        rw [hm_step (c := 48) hl (by decide) (by decide) (by decide)]
        rw [fits_d h (by omega), if_neg b1]
        simp (decide := true) (implicitDefEqProofs := false) only [Option.bind_some, if_true, if_false]
      unfold f_X1_wrongPlace_25
      rw [hsh]
      simp (decide := true) (implicitDefEqProofs := false) only [Option.bind_some, if_true, if_false]
      rw [hmf, show j_isEmpty 3 = some 0 from by decide, hl]
      simp (decide := true) (implicitDefEqProofs := false) only [Option.bind_some, if_true, if_false]
      rw [nI_addn]
    · rw [hst]
      have hz : ∃ le' la' td', f_X5_statement_43 (nI k) (nI i) tp (nI 115) (nI p) le la td = some (0, nI (p + 1), le', la', td') := by
        unfold f_X5_statement_43
        rw [gdI (by omega) (by omega), gdI (by omega) (by omega), nI_clamp (by omega), nI_3i, ← nI_succ]
        unfold f_X5_readsAll
        simp (decide := true) (implicitDefEqProofs := false) only [if_true, if_false]
        rw [rd1_f h (by omega) b1]
        try simp (decide := true) (implicitDefEqProofs := false) only [Option.bind_some, if_true, if_false, gb, or_true, true_or]
        exact ⟨_, _, _, rfl⟩
      exact hz
  by_cases b2 : cx k L (p + 2) 59
  case neg =>
    refine Or.inl ⟨p + 2, by omega, fun K => ?_, ?_⟩
    · have hmf : f_X1_howManyFit (nI k) lt (nI p) 3 = some (nI 2) := by
        unfold f_X1_howManyFit
        rw [hF, show (0 : Int32) = nI 0 from rfl]
        rw [hm_step (c := nI 115) hl (by decide) (by decide) (by decide)]
        rw [fits_c (c := 115) h (by omega) (by decide) (by decide) (by decide), if_pos (show cx k L (p + 0) 115 from hx)]
        simp (decide := true) (implicitDefEqProofs := false) only [Option.bind_some, if_true, if_false]
        rw [hm_step (c := 48) hl (by decide) (by decide) (by decide)]
        rw [fits_d h (by omega), if_pos b1]
        simp (decide := true) (implicitDefEqProofs := false) only [Option.bind_some, if_true, if_false]
        rw [hm_step (c := nI 59) hl (by decide) (by decide) (by decide)]
        rw [fits_c (c := 59) h (by omega) (by decide) (by decide) (by decide), if_neg b2]
        simp (decide := true) (implicitDefEqProofs := false) only [Option.bind_some, if_true, if_false]
      unfold f_X1_wrongPlace_25
      rw [hsh]
      simp (decide := true) (implicitDefEqProofs := false) only [Option.bind_some, if_true, if_false]
      rw [hmf, show j_isEmpty 3 = some 0 from by decide, hl]
      simp (decide := true) (implicitDefEqProofs := false) only [Option.bind_some, if_true, if_false]
      rw [nI_addn]
    · rw [hst]
      have hz : ∃ le' la' td', f_X5_statement_43 (nI k) (nI i) tp (nI 115) (nI p) le la td = some (0, nI (p + 2), le', la', td') := by
        unfold f_X5_statement_43
        rw [gdI (by omega) (by omega), gdI (by omega) (by omega), nI_clamp (by omega), nI_3i, ← nI_succ]
        unfold f_X5_readsAll
        simp (decide := true) (implicitDefEqProofs := false) only [if_true, if_false]
        rw [rd1_t h (by omega) b1]
        try simp (decide := true) (implicitDefEqProofs := false) only [Option.bind_some, if_true, if_false, gb, or_true, true_or]
        by_cases hq : p + 2 < k
        · rw [x5_next_t h hq]
          simp (decide := true) (implicitDefEqProofs := false) only [Option.bind_some, if_true, if_false]
          rw [if_neg (show ¬ nI (L (p + 2)) = 59 from fun z => b2 ⟨hq, (nIc (h.2 _ hq).2.2 (c := 59) (by omega)).mp z⟩)]
          exact ⟨_, _, _, rfl⟩
        · rw [x5_next_f h hq (by omega)]
          simp (decide := true) (implicitDefEqProofs := false) only [Option.bind_some, if_true, if_false]
          exact ⟨_, _, _, rfl⟩
      exact hz
  refine Or.inr ⟨hp, ?_, fun K => ?_, ?_⟩
  · exact Or.inr (Or.inr (Or.inl ⟨hc, b1, b2.1⟩))
  · have hmf : f_X1_howManyFit (nI k) lt (nI p) 3 = some (nI (wLen.getD 3 0)) := by
      unfold f_X1_howManyFit
      rw [hF, show (0 : Int32) = nI 0 from rfl]
      rw [hm_step (c := nI 115) hl (by decide) (by decide) (by decide)]
      rw [fits_c (c := 115) h (by omega) (by decide) (by decide) (by decide), if_pos (show cx k L (p + 0) 115 from hx)]
      simp (decide := true) (implicitDefEqProofs := false) only [Option.bind_some, if_true, if_false]
      rw [hm_step (c := 48) hl (by decide) (by decide) (by decide)]
      rw [fits_d h (by omega), if_pos b1]
      simp (decide := true) (implicitDefEqProofs := false) only [Option.bind_some, if_true, if_false]
      rw [hm_step (c := nI 59) hl (by decide) (by decide) (by decide)]
      rw [fits_c (c := 59) h (by omega) (by decide) (by decide) (by decide), if_pos b2]
      simp (decide := true) (implicitDefEqProofs := false) only [Option.bind_some, if_true, if_false]
      exact hm_end (s := 3) hl (by decide)
    unfold f_X1_wrongPlace_25
    rw [hsh]
    simp (decide := true) (implicitDefEqProofs := false) only [Option.bind_some, if_true, if_false]
    rw [hmf, show j_isEmpty 3 = some 0 from by decide, hl]
    simp (decide := true) (implicitDefEqProofs := false) only [Option.bind_some, if_true, if_false]
    rw [hln, show wLen.getD 3 0 = 3 from rfl, nI_addn]
  · rw [hst, hln, hc]
    refine ⟨upd td (3 * i) (nI (L (p + 1) - 48)), ?_, ?_, fun j hj => ?_⟩
    · unfold f_X5_statement_43
      rw [gdI (by omega) (by omega), gdI (by omega) (by omega), nI_clamp (by omega), nI_3i, ← nI_succ]
      unfold f_X5_readsAll
      simp (decide := true) (implicitDefEqProofs := false) only [if_true, if_false]
      rw [rd1_t h (by omega) b1]
      try simp (decide := true) (implicitDefEqProofs := false) only [Option.bind_some, if_true, if_false, gb, or_true, true_or]
      rw [x5_next_t h b2.1, b2.2]
      try simp (decide := true) (implicitDefEqProofs := false) only [Option.bind_some, if_true, if_false, gb, or_true, true_or]
      rw [← nI_succ]
    · unfold TF
      rw [hc]
      refine ⟨fun z => ?_, fun z => ?_, fun z => ?_, fun z => ?_, fun z => ?_⟩
      · omega
      · omega
      · exact upd_at
      · omega
      · omega
    · rw [upd_ne (by omega)]
set_option maxHeartbeats 1000000 in
theorem st_t (h : TX k lt tp L) {p i : Nat} {le la td : Nat → Int32} (hp : p < k) (hc : L p = 116) (hi : i < 48) : SJ k lt tp L p i le la td := by
  have hk := h.1
  obtain ⟨h1, h2, h3⟩ := h.2 p hp
  have hsh : f_X1_shapeAt (nI k) lt (nI p) = some 4 := by
    unfold f_X1_shapeAt
    rw [if_pos (Int32.not_le.mp (nI_ge hp (by omega))), g3 (by omega) (by omega), h1, hc]
    rfl
  have hln : lnL L p = 4 := by unfold lnL; rw [hc]; rfl
  have hl : j_length 4 = some (nI (wLen.getD 4 0)) := by decide
  have hst : f_X5_statement (nI k) (nI p) (nI i) tp le la td = f_X5_statement_43 (nI k) (nI i) tp (nI 116) (nI p) le la td := by
    unfold f_X5_statement
    rw [x5_next_t h hp, hc]
    simp (decide := true) (implicitDefEqProofs := false) only [Option.bind_some, if_true, if_false, ite_self]
  have hx : cx k L p 116 := ⟨hp, hc⟩
  obtain ⟨F, hF⟩ : ∃ F, FU = F + 1 + 1 + 1 + 1 + 1 + 1 + 1 := ⟨99993, rfl⟩
  by_cases b1 : dg k L (p + 1)
  case neg =>
    refine Or.inl ⟨p + 1, by omega, fun K => ?_, ?_⟩
    · have hmf : f_X1_howManyFit (nI k) lt (nI p) 4 = some (nI 1) := by
        unfold f_X1_howManyFit
        rw [hF, show (0 : Int32) = nI 0 from rfl]
        rw [hm_step (c := nI 116) hl (by decide) (by decide) (by decide)]
        rw [fits_c (c := 116) h (by omega) (by decide) (by decide) (by decide), if_pos (show cx k L (p + 0) 116 from hx)]
        simp (decide := true) (implicitDefEqProofs := false) only [Option.bind_some, if_true, if_false]
        rw [hm_step (c := 48) hl (by decide) (by decide) (by decide)]
        rw [fits_d h (by omega), if_neg b1]
        simp (decide := true) (implicitDefEqProofs := false) only [Option.bind_some, if_true, if_false]
      unfold f_X1_wrongPlace_25
      rw [hsh]
      simp (decide := true) (implicitDefEqProofs := false) only [Option.bind_some, if_true, if_false]
      rw [hmf, show j_isEmpty 4 = some 0 from by decide, hl]
      simp (decide := true) (implicitDefEqProofs := false) only [Option.bind_some, if_true, if_false]
      rw [nI_addn]
    · rw [hst]
      have hz : ∃ le' la' td', f_X5_statement_43 (nI k) (nI i) tp (nI 116) (nI p) le la td = some (0, nI (p + 1), le', la', td') := by
        unfold f_X5_statement_43
        rw [gdI (by omega) (by omega), gdI (by omega) (by omega), nI_clamp (by omega), nI_3i, ← nI_succ]
        unfold f_X5_readsAll
        simp (decide := true) (implicitDefEqProofs := false) only [if_true, if_false]
        rw [rd1_f h (by omega) b1]
        try simp (decide := true) (implicitDefEqProofs := false) only [Option.bind_some, if_true, if_false, gb, or_true, true_or]
        exact ⟨_, _, _, rfl⟩
      exact hz
  by_cases b2 : dg k L (p + 2)
  case neg =>
    refine Or.inl ⟨p + 2, by omega, fun K => ?_, ?_⟩
    · have hmf : f_X1_howManyFit (nI k) lt (nI p) 4 = some (nI 2) := by
        unfold f_X1_howManyFit
        rw [hF, show (0 : Int32) = nI 0 from rfl]
        rw [hm_step (c := nI 116) hl (by decide) (by decide) (by decide)]
        rw [fits_c (c := 116) h (by omega) (by decide) (by decide) (by decide), if_pos (show cx k L (p + 0) 116 from hx)]
        simp (decide := true) (implicitDefEqProofs := false) only [Option.bind_some, if_true, if_false]
        rw [hm_step (c := 48) hl (by decide) (by decide) (by decide)]
        rw [fits_d h (by omega), if_pos b1]
        simp (decide := true) (implicitDefEqProofs := false) only [Option.bind_some, if_true, if_false]
        rw [hm_step (c := 48) hl (by decide) (by decide) (by decide)]
        rw [fits_d h (by omega), if_neg b2]
        simp (decide := true) (implicitDefEqProofs := false) only [Option.bind_some, if_true, if_false]
      unfold f_X1_wrongPlace_25
      rw [hsh]
      simp (decide := true) (implicitDefEqProofs := false) only [Option.bind_some, if_true, if_false]
      rw [hmf, show j_isEmpty 4 = some 0 from by decide, hl]
      simp (decide := true) (implicitDefEqProofs := false) only [Option.bind_some, if_true, if_false]
      rw [nI_addn]
    · rw [hst]
      have hz : ∃ le' la' td', f_X5_statement_43 (nI k) (nI i) tp (nI 116) (nI p) le la td = some (0, nI (p + 2), le', la', td') := by
        unfold f_X5_statement_43
        rw [gdI (by omega) (by omega), gdI (by omega) (by omega), nI_clamp (by omega), nI_3i, ← nI_succ]
        unfold f_X5_readsAll
        simp (decide := true) (implicitDefEqProofs := false) only [if_true, if_false]
        rw [rd1_t h (by omega) b1]
        try simp (decide := true) (implicitDefEqProofs := false) only [Option.bind_some, if_true, if_false, gb, or_true, true_or]
        rw [← nI_succ]
        rw [rd1_f h (by omega) b2]
        try simp (decide := true) (implicitDefEqProofs := false) only [Option.bind_some, if_true, if_false, gb, or_true, true_or]
        exact ⟨_, _, _, rfl⟩
      exact hz
  by_cases b3 : cx k L (p + 3) 59
  case neg =>
    refine Or.inl ⟨p + 3, by omega, fun K => ?_, ?_⟩
    · have hmf : f_X1_howManyFit (nI k) lt (nI p) 4 = some (nI 3) := by
        unfold f_X1_howManyFit
        rw [hF, show (0 : Int32) = nI 0 from rfl]
        rw [hm_step (c := nI 116) hl (by decide) (by decide) (by decide)]
        rw [fits_c (c := 116) h (by omega) (by decide) (by decide) (by decide), if_pos (show cx k L (p + 0) 116 from hx)]
        simp (decide := true) (implicitDefEqProofs := false) only [Option.bind_some, if_true, if_false]
        rw [hm_step (c := 48) hl (by decide) (by decide) (by decide)]
        rw [fits_d h (by omega), if_pos b1]
        simp (decide := true) (implicitDefEqProofs := false) only [Option.bind_some, if_true, if_false]
        rw [hm_step (c := 48) hl (by decide) (by decide) (by decide)]
        rw [fits_d h (by omega), if_pos b2]
        simp (decide := true) (implicitDefEqProofs := false) only [Option.bind_some, if_true, if_false]
        rw [hm_step (c := nI 59) hl (by decide) (by decide) (by decide)]
        rw [fits_c (c := 59) h (by omega) (by decide) (by decide) (by decide), if_neg b3]
        simp (decide := true) (implicitDefEqProofs := false) only [Option.bind_some, if_true, if_false]
      unfold f_X1_wrongPlace_25
      rw [hsh]
      simp (decide := true) (implicitDefEqProofs := false) only [Option.bind_some, if_true, if_false]
      rw [hmf, show j_isEmpty 4 = some 0 from by decide, hl]
      simp (decide := true) (implicitDefEqProofs := false) only [Option.bind_some, if_true, if_false]
      rw [nI_addn]
    · rw [hst]
      have hz : ∃ le' la' td', f_X5_statement_43 (nI k) (nI i) tp (nI 116) (nI p) le la td = some (0, nI (p + 3), le', la', td') := by
        unfold f_X5_statement_43
        rw [gdI (by omega) (by omega), gdI (by omega) (by omega), nI_clamp (by omega), nI_3i, ← nI_succ]
        unfold f_X5_readsAll
        simp (decide := true) (implicitDefEqProofs := false) only [if_true, if_false]
        rw [rd1_t h (by omega) b1]
        try simp (decide := true) (implicitDefEqProofs := false) only [Option.bind_some, if_true, if_false, gb, or_true, true_or]
        rw [← nI_succ]
        rw [rd1_t h (by omega) b2]
        try simp (decide := true) (implicitDefEqProofs := false) only [Option.bind_some, if_true, if_false, gb, or_true, true_or]
        by_cases hq : p + 3 < k
        · rw [x5_next_t h hq]
          simp (decide := true) (implicitDefEqProofs := false) only [Option.bind_some, if_true, if_false]
          rw [if_neg (show ¬ nI (L (p + 3)) = 59 from fun z => b3 ⟨hq, (nIc (h.2 _ hq).2.2 (c := 59) (by omega)).mp z⟩)]
          exact ⟨_, _, _, rfl⟩
        · rw [x5_next_f h hq (by omega)]
          simp (decide := true) (implicitDefEqProofs := false) only [Option.bind_some, if_true, if_false]
          exact ⟨_, _, _, rfl⟩
      exact hz
  refine Or.inr ⟨hp, ?_, fun K => ?_, ?_⟩
  · exact Or.inr (Or.inr (Or.inr (Or.inl ⟨hc, b1, b2, b3.1⟩)))
  · have hmf : f_X1_howManyFit (nI k) lt (nI p) 4 = some (nI (wLen.getD 4 0)) := by
      unfold f_X1_howManyFit
      rw [hF, show (0 : Int32) = nI 0 from rfl]
      rw [hm_step (c := nI 116) hl (by decide) (by decide) (by decide)]
      rw [fits_c (c := 116) h (by omega) (by decide) (by decide) (by decide), if_pos (show cx k L (p + 0) 116 from hx)]
      simp (decide := true) (implicitDefEqProofs := false) only [Option.bind_some, if_true, if_false]
      rw [hm_step (c := 48) hl (by decide) (by decide) (by decide)]
      rw [fits_d h (by omega), if_pos b1]
      simp (decide := true) (implicitDefEqProofs := false) only [Option.bind_some, if_true, if_false]
      rw [hm_step (c := 48) hl (by decide) (by decide) (by decide)]
      rw [fits_d h (by omega), if_pos b2]
      simp (decide := true) (implicitDefEqProofs := false) only [Option.bind_some, if_true, if_false]
      rw [hm_step (c := nI 59) hl (by decide) (by decide) (by decide)]
      rw [fits_c (c := 59) h (by omega) (by decide) (by decide) (by decide), if_pos b3]
      simp (decide := true) (implicitDefEqProofs := false) only [Option.bind_some, if_true, if_false]
      exact hm_end (s := 4) hl (by decide)
    unfold f_X1_wrongPlace_25
    rw [hsh]
    simp (decide := true) (implicitDefEqProofs := false) only [Option.bind_some, if_true, if_false]
    rw [hmf, show j_isEmpty 4 = some 0 from by decide, hl]
    simp (decide := true) (implicitDefEqProofs := false) only [Option.bind_some, if_true, if_false]
    rw [hln, show wLen.getD 4 0 = 4 from rfl, nI_addn]
  · rw [hst, hln, hc]
    refine ⟨upd (upd td (3 * i) (nI (L (p + 1) - 48))) (3 * i + 1) (nI (L (p + 2) - 48)), ?_, ?_, fun j hj => ?_⟩
    · unfold f_X5_statement_43
      rw [gdI (by omega) (by omega), gdI (by omega) (by omega), nI_clamp (by omega), nI_3i, ← nI_succ]
      unfold f_X5_readsAll
      simp (decide := true) (implicitDefEqProofs := false) only [if_true, if_false]
      rw [rd1_t h (by omega) b1]
      try simp (decide := true) (implicitDefEqProofs := false) only [Option.bind_some, if_true, if_false, gb, or_true, true_or]
      rw [← nI_succ]
      rw [rd1_t h (by omega) b2]
      try simp (decide := true) (implicitDefEqProofs := false) only [Option.bind_some, if_true, if_false, gb, or_true, true_or]
      rw [x5_next_t h b3.1, b3.2]
      try simp (decide := true) (implicitDefEqProofs := false) only [Option.bind_some, if_true, if_false, gb, or_true, true_or]
      rw [← nI_succ]
    · unfold TF
      rw [hc]
      refine ⟨fun z => ?_, fun z => ?_, fun z => ?_, fun z => ?_, fun z => ?_⟩
      · omega
      · exact ⟨by rw [upd_ne (by omega), upd_at], upd_at⟩
      · omega
      · omega
      · omega
    · rw [upd_ne (by omega), upd_ne (by omega)]
set_option maxHeartbeats 1000000 in
theorem st_f (h : TX k lt tp L) {p i : Nat} {le la td : Nat → Int32} (hp : p < k) (hc : L p = 102) (hi : i < 48) : SJ k lt tp L p i le la td := by
  have hk := h.1
  obtain ⟨h1, h2, h3⟩ := h.2 p hp
  have hsh : f_X1_shapeAt (nI k) lt (nI p) = some 5 := by
    unfold f_X1_shapeAt
    rw [if_pos (Int32.not_le.mp (nI_ge hp (by omega))), g3 (by omega) (by omega), h1, hc]
    rfl
  have hln : lnL L p = 5 := by unfold lnL; rw [hc]; rfl
  have hl : j_length 5 = some (nI (wLen.getD 5 0)) := by decide
  have hst : f_X5_statement (nI k) (nI p) (nI i) tp le la td = f_X5_statement_43 (nI k) (nI i) tp (nI 102) (nI p) le la td := by
    unfold f_X5_statement
    rw [x5_next_t h hp, hc]
    simp (decide := true) (implicitDefEqProofs := false) only [Option.bind_some, if_true, if_false, ite_self]
  have hx : cx k L p 102 := ⟨hp, hc⟩
  obtain ⟨F, hF⟩ : ∃ F, FU = F + 1 + 1 + 1 + 1 + 1 + 1 + 1 := ⟨99993, rfl⟩
  by_cases b1 : dg k L (p + 1)
  case neg =>
    refine Or.inl ⟨p + 1, by omega, fun K => ?_, ?_⟩
    · have hmf : f_X1_howManyFit (nI k) lt (nI p) 5 = some (nI 1) := by
        unfold f_X1_howManyFit
        rw [hF, show (0 : Int32) = nI 0 from rfl]
        rw [hm_step (c := nI 102) hl (by decide) (by decide) (by decide)]
        rw [fits_c (c := 102) h (by omega) (by decide) (by decide) (by decide), if_pos (show cx k L (p + 0) 102 from hx)]
        simp (decide := true) (implicitDefEqProofs := false) only [Option.bind_some, if_true, if_false]
        rw [hm_step (c := 48) hl (by decide) (by decide) (by decide)]
        rw [fits_d h (by omega), if_neg b1]
        simp (decide := true) (implicitDefEqProofs := false) only [Option.bind_some, if_true, if_false]
      unfold f_X1_wrongPlace_25
      rw [hsh]
      simp (decide := true) (implicitDefEqProofs := false) only [Option.bind_some, if_true, if_false]
      rw [hmf, show j_isEmpty 5 = some 0 from by decide, hl]
      simp (decide := true) (implicitDefEqProofs := false) only [Option.bind_some, if_true, if_false]
      rw [nI_addn]
    · rw [hst]
      have hz : ∃ le' la' td', f_X5_statement_43 (nI k) (nI i) tp (nI 102) (nI p) le la td = some (0, nI (p + 1), le', la', td') := by
        unfold f_X5_statement_43
        rw [gdI (by omega) (by omega), gdI (by omega) (by omega), nI_clamp (by omega), nI_3i, ← nI_succ]
        unfold f_X5_readsAll
        simp (decide := true) (implicitDefEqProofs := false) only [if_true, if_false]
        rw [rd1_f h (by omega) b1]
        try simp (decide := true) (implicitDefEqProofs := false) only [Option.bind_some, if_true, if_false, gb, or_true, true_or]
        exact ⟨_, _, _, rfl⟩
      exact hz
  by_cases b2 : dg k L (p + 2)
  case neg =>
    refine Or.inl ⟨p + 2, by omega, fun K => ?_, ?_⟩
    · have hmf : f_X1_howManyFit (nI k) lt (nI p) 5 = some (nI 2) := by
        unfold f_X1_howManyFit
        rw [hF, show (0 : Int32) = nI 0 from rfl]
        rw [hm_step (c := nI 102) hl (by decide) (by decide) (by decide)]
        rw [fits_c (c := 102) h (by omega) (by decide) (by decide) (by decide), if_pos (show cx k L (p + 0) 102 from hx)]
        simp (decide := true) (implicitDefEqProofs := false) only [Option.bind_some, if_true, if_false]
        rw [hm_step (c := 48) hl (by decide) (by decide) (by decide)]
        rw [fits_d h (by omega), if_pos b1]
        simp (decide := true) (implicitDefEqProofs := false) only [Option.bind_some, if_true, if_false]
        rw [hm_step (c := 48) hl (by decide) (by decide) (by decide)]
        rw [fits_d h (by omega), if_neg b2]
        simp (decide := true) (implicitDefEqProofs := false) only [Option.bind_some, if_true, if_false]
      unfold f_X1_wrongPlace_25
      rw [hsh]
      simp (decide := true) (implicitDefEqProofs := false) only [Option.bind_some, if_true, if_false]
      rw [hmf, show j_isEmpty 5 = some 0 from by decide, hl]
      simp (decide := true) (implicitDefEqProofs := false) only [Option.bind_some, if_true, if_false]
      rw [nI_addn]
    · rw [hst]
      have hz : ∃ le' la' td', f_X5_statement_43 (nI k) (nI i) tp (nI 102) (nI p) le la td = some (0, nI (p + 2), le', la', td') := by
        unfold f_X5_statement_43
        rw [gdI (by omega) (by omega), gdI (by omega) (by omega), nI_clamp (by omega), nI_3i, ← nI_succ]
        unfold f_X5_readsAll
        simp (decide := true) (implicitDefEqProofs := false) only [if_true, if_false]
        rw [rd1_t h (by omega) b1]
        try simp (decide := true) (implicitDefEqProofs := false) only [Option.bind_some, if_true, if_false, gb, or_true, true_or]
        rw [← nI_succ]
        rw [rd2_f h (by omega) b2]
        try simp (decide := true) (implicitDefEqProofs := false) only [Option.bind_some, if_true, if_false, gb, or_true, true_or]
        exact ⟨_, _, _, rfl⟩
      exact hz
  by_cases b3 : dg k L (p + 3)
  case neg =>
    refine Or.inl ⟨p + 3, by omega, fun K => ?_, ?_⟩
    · have hmf : f_X1_howManyFit (nI k) lt (nI p) 5 = some (nI 3) := by
        unfold f_X1_howManyFit
        rw [hF, show (0 : Int32) = nI 0 from rfl]
        rw [hm_step (c := nI 102) hl (by decide) (by decide) (by decide)]
        rw [fits_c (c := 102) h (by omega) (by decide) (by decide) (by decide), if_pos (show cx k L (p + 0) 102 from hx)]
        simp (decide := true) (implicitDefEqProofs := false) only [Option.bind_some, if_true, if_false]
        rw [hm_step (c := 48) hl (by decide) (by decide) (by decide)]
        rw [fits_d h (by omega), if_pos b1]
        simp (decide := true) (implicitDefEqProofs := false) only [Option.bind_some, if_true, if_false]
        rw [hm_step (c := 48) hl (by decide) (by decide) (by decide)]
        rw [fits_d h (by omega), if_pos b2]
        simp (decide := true) (implicitDefEqProofs := false) only [Option.bind_some, if_true, if_false]
        rw [hm_step (c := 48) hl (by decide) (by decide) (by decide)]
        rw [fits_d h (by omega), if_neg b3]
        simp (decide := true) (implicitDefEqProofs := false) only [Option.bind_some, if_true, if_false]
      unfold f_X1_wrongPlace_25
      rw [hsh]
      simp (decide := true) (implicitDefEqProofs := false) only [Option.bind_some, if_true, if_false]
      rw [hmf, show j_isEmpty 5 = some 0 from by decide, hl]
      simp (decide := true) (implicitDefEqProofs := false) only [Option.bind_some, if_true, if_false]
      rw [nI_addn]
    · rw [hst]
      have hz : ∃ le' la' td', f_X5_statement_43 (nI k) (nI i) tp (nI 102) (nI p) le la td = some (0, nI (p + 3), le', la', td') := by
        unfold f_X5_statement_43
        rw [gdI (by omega) (by omega), gdI (by omega) (by omega), nI_clamp (by omega), nI_3i, ← nI_succ]
        unfold f_X5_readsAll
        simp (decide := true) (implicitDefEqProofs := false) only [if_true, if_false]
        rw [rd1_t h (by omega) b1]
        try simp (decide := true) (implicitDefEqProofs := false) only [Option.bind_some, if_true, if_false, gb, or_true, true_or]
        rw [← nI_succ]
        rw [rd2_tf h (by omega) b2 b3]
        try simp (decide := true) (implicitDefEqProofs := false) only [Option.bind_some, if_true, if_false, gb, or_true, true_or]
        exact ⟨_, _, _, rfl⟩
      exact hz
  by_cases b4 : cx k L (p + 4) 59
  case neg =>
    refine Or.inl ⟨p + 4, by omega, fun K => ?_, ?_⟩
    · have hmf : f_X1_howManyFit (nI k) lt (nI p) 5 = some (nI 4) := by
        unfold f_X1_howManyFit
        rw [hF, show (0 : Int32) = nI 0 from rfl]
        rw [hm_step (c := nI 102) hl (by decide) (by decide) (by decide)]
        rw [fits_c (c := 102) h (by omega) (by decide) (by decide) (by decide), if_pos (show cx k L (p + 0) 102 from hx)]
        simp (decide := true) (implicitDefEqProofs := false) only [Option.bind_some, if_true, if_false]
        rw [hm_step (c := 48) hl (by decide) (by decide) (by decide)]
        rw [fits_d h (by omega), if_pos b1]
        simp (decide := true) (implicitDefEqProofs := false) only [Option.bind_some, if_true, if_false]
        rw [hm_step (c := 48) hl (by decide) (by decide) (by decide)]
        rw [fits_d h (by omega), if_pos b2]
        simp (decide := true) (implicitDefEqProofs := false) only [Option.bind_some, if_true, if_false]
        rw [hm_step (c := 48) hl (by decide) (by decide) (by decide)]
        rw [fits_d h (by omega), if_pos b3]
        simp (decide := true) (implicitDefEqProofs := false) only [Option.bind_some, if_true, if_false]
        rw [hm_step (c := nI 59) hl (by decide) (by decide) (by decide)]
        rw [fits_c (c := 59) h (by omega) (by decide) (by decide) (by decide), if_neg b4]
        simp (decide := true) (implicitDefEqProofs := false) only [Option.bind_some, if_true, if_false]
      unfold f_X1_wrongPlace_25
      rw [hsh]
      simp (decide := true) (implicitDefEqProofs := false) only [Option.bind_some, if_true, if_false]
      rw [hmf, show j_isEmpty 5 = some 0 from by decide, hl]
      simp (decide := true) (implicitDefEqProofs := false) only [Option.bind_some, if_true, if_false]
      rw [nI_addn]
    · rw [hst]
      have hz : ∃ le' la' td', f_X5_statement_43 (nI k) (nI i) tp (nI 102) (nI p) le la td = some (0, nI (p + 4), le', la', td') := by
        unfold f_X5_statement_43
        rw [gdI (by omega) (by omega), gdI (by omega) (by omega), nI_clamp (by omega), nI_3i, ← nI_succ]
        unfold f_X5_readsAll
        simp (decide := true) (implicitDefEqProofs := false) only [if_true, if_false]
        rw [rd1_t h (by omega) b1]
        try simp (decide := true) (implicitDefEqProofs := false) only [Option.bind_some, if_true, if_false, gb, or_true, true_or]
        rw [← nI_succ]
        rw [rd2_tt h (by omega) b2 b3]
        try simp (decide := true) (implicitDefEqProofs := false) only [Option.bind_some, if_true, if_false, gb, or_true, true_or]
        by_cases hq : p + 4 < k
        · rw [x5_next_t h hq]
          simp (decide := true) (implicitDefEqProofs := false) only [Option.bind_some, if_true, if_false]
          rw [if_neg (show ¬ nI (L (p + 4)) = 59 from fun z => b4 ⟨hq, (nIc (h.2 _ hq).2.2 (c := 59) (by omega)).mp z⟩)]
          exact ⟨_, _, _, rfl⟩
        · rw [x5_next_f h hq (by omega)]
          simp (decide := true) (implicitDefEqProofs := false) only [Option.bind_some, if_true, if_false]
          exact ⟨_, _, _, rfl⟩
      exact hz
  refine Or.inr ⟨hp, ?_, fun K => ?_, ?_⟩
  · exact Or.inr (Or.inr (Or.inr (Or.inr (Or.inl ⟨hc, b1, b2, b3, b4.1⟩))))
  · have hmf : f_X1_howManyFit (nI k) lt (nI p) 5 = some (nI (wLen.getD 5 0)) := by
      unfold f_X1_howManyFit
      rw [hF, show (0 : Int32) = nI 0 from rfl]
      rw [hm_step (c := nI 102) hl (by decide) (by decide) (by decide)]
      rw [fits_c (c := 102) h (by omega) (by decide) (by decide) (by decide), if_pos (show cx k L (p + 0) 102 from hx)]
      simp (decide := true) (implicitDefEqProofs := false) only [Option.bind_some, if_true, if_false]
      rw [hm_step (c := 48) hl (by decide) (by decide) (by decide)]
      rw [fits_d h (by omega), if_pos b1]
      simp (decide := true) (implicitDefEqProofs := false) only [Option.bind_some, if_true, if_false]
      rw [hm_step (c := 48) hl (by decide) (by decide) (by decide)]
      rw [fits_d h (by omega), if_pos b2]
      simp (decide := true) (implicitDefEqProofs := false) only [Option.bind_some, if_true, if_false]
      rw [hm_step (c := 48) hl (by decide) (by decide) (by decide)]
      rw [fits_d h (by omega), if_pos b3]
      simp (decide := true) (implicitDefEqProofs := false) only [Option.bind_some, if_true, if_false]
      rw [hm_step (c := nI 59) hl (by decide) (by decide) (by decide)]
      rw [fits_c (c := 59) h (by omega) (by decide) (by decide) (by decide), if_pos b4]
      simp (decide := true) (implicitDefEqProofs := false) only [Option.bind_some, if_true, if_false]
      exact hm_end (s := 5) hl (by decide)
    unfold f_X1_wrongPlace_25
    rw [hsh]
    simp (decide := true) (implicitDefEqProofs := false) only [Option.bind_some, if_true, if_false]
    rw [hmf, show j_isEmpty 5 = some 0 from by decide, hl]
    simp (decide := true) (implicitDefEqProofs := false) only [Option.bind_some, if_true, if_false]
    rw [hln, show wLen.getD 5 0 = 5 from rfl, nI_addn]
  · rw [hst, hln, hc]
    refine ⟨upd (upd td (3 * i) (nI (L (p + 1) - 48))) (3 * i + 1) (nI (10 * (L (p + 2) - 48) + (L (p + 3) - 48))), ?_, ?_, fun j hj => ?_⟩
    · unfold f_X5_statement_43
      rw [gdI (by omega) (by omega), gdI (by omega) (by omega), nI_clamp (by omega), nI_3i, ← nI_succ]
      unfold f_X5_readsAll
      simp (decide := true) (implicitDefEqProofs := false) only [if_true, if_false]
      rw [rd1_t h (by omega) b1]
      try simp (decide := true) (implicitDefEqProofs := false) only [Option.bind_some, if_true, if_false, gb, or_true, true_or]
      rw [← nI_succ]
      rw [rd2_tt h (by omega) b2 b3]
      try simp (decide := true) (implicitDefEqProofs := false) only [Option.bind_some, if_true, if_false, gb, or_true, true_or]
      rw [x5_next_t h b4.1, b4.2]
      try simp (decide := true) (implicitDefEqProofs := false) only [Option.bind_some, if_true, if_false, gb, or_true, true_or]
      rw [← nI_succ]
    · unfold TF
      rw [hc]
      refine ⟨fun z => ?_, fun z => ?_, fun z => ?_, fun z => ?_, fun z => ?_⟩
      · omega
      · omega
      · omega
      · exact ⟨by rw [upd_ne (by omega), upd_at], upd_at⟩
      · omega
    · rw [upd_ne (by omega), upd_ne (by omega)]
set_option maxHeartbeats 1000000 in
theorem st_y (h : TX k lt tp L) {p i : Nat} {le la td : Nat → Int32} (hp : p < k) (hc : L p = 121) (hi : i < 48) : SJ k lt tp L p i le la td := by
  have hk := h.1
  obtain ⟨h1, h2, h3⟩ := h.2 p hp
  have hsh : f_X1_shapeAt (nI k) lt (nI p) = some 6 := by
    unfold f_X1_shapeAt
    rw [if_pos (Int32.not_le.mp (nI_ge hp (by omega))), g3 (by omega) (by omega), h1, hc]
    rfl
  have hln : lnL L p = 4 := by unfold lnL; rw [hc]; rfl
  have hl : j_length 6 = some (nI (wLen.getD 6 0)) := by decide
  have hst : f_X5_statement (nI k) (nI p) (nI i) tp le la td = f_X5_statement_43 (nI k) (nI i) tp (nI 121) (nI p) le la td := by
    unfold f_X5_statement
    rw [x5_next_t h hp, hc]
    simp (decide := true) (implicitDefEqProofs := false) only [Option.bind_some, if_true, if_false, ite_self]
  have hx : cx k L p 121 := ⟨hp, hc⟩
  obtain ⟨F, hF⟩ : ∃ F, FU = F + 1 + 1 + 1 + 1 + 1 + 1 + 1 := ⟨99993, rfl⟩
  by_cases b1 : dg k L (p + 1)
  case neg =>
    refine Or.inl ⟨p + 1, by omega, fun K => ?_, ?_⟩
    · have hmf : f_X1_howManyFit (nI k) lt (nI p) 6 = some (nI 1) := by
        unfold f_X1_howManyFit
        rw [hF, show (0 : Int32) = nI 0 from rfl]
        rw [hm_step (c := nI 121) hl (by decide) (by decide) (by decide)]
        rw [fits_c (c := 121) h (by omega) (by decide) (by decide) (by decide), if_pos (show cx k L (p + 0) 121 from hx)]
        simp (decide := true) (implicitDefEqProofs := false) only [Option.bind_some, if_true, if_false]
        rw [hm_step (c := 48) hl (by decide) (by decide) (by decide)]
        rw [fits_d h (by omega), if_neg b1]
        simp (decide := true) (implicitDefEqProofs := false) only [Option.bind_some, if_true, if_false]
      unfold f_X1_wrongPlace_25
      rw [hsh]
      simp (decide := true) (implicitDefEqProofs := false) only [Option.bind_some, if_true, if_false]
      rw [hmf, show j_isEmpty 6 = some 0 from by decide, hl]
      simp (decide := true) (implicitDefEqProofs := false) only [Option.bind_some, if_true, if_false]
      rw [nI_addn]
    · rw [hst]
      have hz : ∃ le' la' td', f_X5_statement_43 (nI k) (nI i) tp (nI 121) (nI p) le la td = some (0, nI (p + 1), le', la', td') := by
        unfold f_X5_statement_43
        rw [gdI (by omega) (by omega), gdI (by omega) (by omega), nI_clamp (by omega), nI_3i, ← nI_succ]
        unfold f_X5_readsAll
        simp (decide := true) (implicitDefEqProofs := false) only [if_true, if_false]
        rw [rd2_f h (by omega) b1]
        try simp (decide := true) (implicitDefEqProofs := false) only [Option.bind_some, if_true, if_false, gb, or_true, true_or]
        exact ⟨_, _, _, rfl⟩
      exact hz
  by_cases b2 : dg k L (p + 2)
  case neg =>
    refine Or.inl ⟨p + 2, by omega, fun K => ?_, ?_⟩
    · have hmf : f_X1_howManyFit (nI k) lt (nI p) 6 = some (nI 2) := by
        unfold f_X1_howManyFit
        rw [hF, show (0 : Int32) = nI 0 from rfl]
        rw [hm_step (c := nI 121) hl (by decide) (by decide) (by decide)]
        rw [fits_c (c := 121) h (by omega) (by decide) (by decide) (by decide), if_pos (show cx k L (p + 0) 121 from hx)]
        simp (decide := true) (implicitDefEqProofs := false) only [Option.bind_some, if_true, if_false]
        rw [hm_step (c := 48) hl (by decide) (by decide) (by decide)]
        rw [fits_d h (by omega), if_pos b1]
        simp (decide := true) (implicitDefEqProofs := false) only [Option.bind_some, if_true, if_false]
        rw [hm_step (c := 48) hl (by decide) (by decide) (by decide)]
        rw [fits_d h (by omega), if_neg b2]
        simp (decide := true) (implicitDefEqProofs := false) only [Option.bind_some, if_true, if_false]
      unfold f_X1_wrongPlace_25
      rw [hsh]
      simp (decide := true) (implicitDefEqProofs := false) only [Option.bind_some, if_true, if_false]
      rw [hmf, show j_isEmpty 6 = some 0 from by decide, hl]
      simp (decide := true) (implicitDefEqProofs := false) only [Option.bind_some, if_true, if_false]
      rw [nI_addn]
    · rw [hst]
      have hz : ∃ le' la' td', f_X5_statement_43 (nI k) (nI i) tp (nI 121) (nI p) le la td = some (0, nI (p + 2), le', la', td') := by
        unfold f_X5_statement_43
        rw [gdI (by omega) (by omega), gdI (by omega) (by omega), nI_clamp (by omega), nI_3i, ← nI_succ]
        unfold f_X5_readsAll
        simp (decide := true) (implicitDefEqProofs := false) only [if_true, if_false]
        rw [rd2_tf h (by omega) b1 b2]
        try simp (decide := true) (implicitDefEqProofs := false) only [Option.bind_some, if_true, if_false, gb, or_true, true_or]
        exact ⟨_, _, _, rfl⟩
      exact hz
  by_cases b3 : cx k L (p + 3) 59
  case neg =>
    refine Or.inl ⟨p + 3, by omega, fun K => ?_, ?_⟩
    · have hmf : f_X1_howManyFit (nI k) lt (nI p) 6 = some (nI 3) := by
        unfold f_X1_howManyFit
        rw [hF, show (0 : Int32) = nI 0 from rfl]
        rw [hm_step (c := nI 121) hl (by decide) (by decide) (by decide)]
        rw [fits_c (c := 121) h (by omega) (by decide) (by decide) (by decide), if_pos (show cx k L (p + 0) 121 from hx)]
        simp (decide := true) (implicitDefEqProofs := false) only [Option.bind_some, if_true, if_false]
        rw [hm_step (c := 48) hl (by decide) (by decide) (by decide)]
        rw [fits_d h (by omega), if_pos b1]
        simp (decide := true) (implicitDefEqProofs := false) only [Option.bind_some, if_true, if_false]
        rw [hm_step (c := 48) hl (by decide) (by decide) (by decide)]
        rw [fits_d h (by omega), if_pos b2]
        simp (decide := true) (implicitDefEqProofs := false) only [Option.bind_some, if_true, if_false]
        rw [hm_step (c := nI 59) hl (by decide) (by decide) (by decide)]
        rw [fits_c (c := 59) h (by omega) (by decide) (by decide) (by decide), if_neg b3]
        simp (decide := true) (implicitDefEqProofs := false) only [Option.bind_some, if_true, if_false]
      unfold f_X1_wrongPlace_25
      rw [hsh]
      simp (decide := true) (implicitDefEqProofs := false) only [Option.bind_some, if_true, if_false]
      rw [hmf, show j_isEmpty 6 = some 0 from by decide, hl]
      simp (decide := true) (implicitDefEqProofs := false) only [Option.bind_some, if_true, if_false]
      rw [nI_addn]
    · rw [hst]
      have hz : ∃ le' la' td', f_X5_statement_43 (nI k) (nI i) tp (nI 121) (nI p) le la td = some (0, nI (p + 3), le', la', td') := by
        unfold f_X5_statement_43
        rw [gdI (by omega) (by omega), gdI (by omega) (by omega), nI_clamp (by omega), nI_3i, ← nI_succ]
        unfold f_X5_readsAll
        simp (decide := true) (implicitDefEqProofs := false) only [if_true, if_false]
        rw [rd2_tt h (by omega) b1 b2]
        try simp (decide := true) (implicitDefEqProofs := false) only [Option.bind_some, if_true, if_false, gb, or_true, true_or]
        by_cases hq : p + 3 < k
        · rw [x5_next_t h hq]
          simp (decide := true) (implicitDefEqProofs := false) only [Option.bind_some, if_true, if_false]
          rw [if_neg (show ¬ nI (L (p + 3)) = 59 from fun z => b3 ⟨hq, (nIc (h.2 _ hq).2.2 (c := 59) (by omega)).mp z⟩)]
          exact ⟨_, _, _, rfl⟩
        · rw [x5_next_f h hq (by omega)]
          simp (decide := true) (implicitDefEqProofs := false) only [Option.bind_some, if_true, if_false]
          exact ⟨_, _, _, rfl⟩
      exact hz
  refine Or.inr ⟨hp, ?_, fun K => ?_, ?_⟩
  · exact Or.inr (Or.inr (Or.inr (Or.inr (Or.inr (⟨hc, b1, b2, b3.1⟩)))))
  · have hmf : f_X1_howManyFit (nI k) lt (nI p) 6 = some (nI (wLen.getD 6 0)) := by
      unfold f_X1_howManyFit
      rw [hF, show (0 : Int32) = nI 0 from rfl]
      rw [hm_step (c := nI 121) hl (by decide) (by decide) (by decide)]
      rw [fits_c (c := 121) h (by omega) (by decide) (by decide) (by decide), if_pos (show cx k L (p + 0) 121 from hx)]
      simp (decide := true) (implicitDefEqProofs := false) only [Option.bind_some, if_true, if_false]
      rw [hm_step (c := 48) hl (by decide) (by decide) (by decide)]
      rw [fits_d h (by omega), if_pos b1]
      simp (decide := true) (implicitDefEqProofs := false) only [Option.bind_some, if_true, if_false]
      rw [hm_step (c := 48) hl (by decide) (by decide) (by decide)]
      rw [fits_d h (by omega), if_pos b2]
      simp (decide := true) (implicitDefEqProofs := false) only [Option.bind_some, if_true, if_false]
      rw [hm_step (c := nI 59) hl (by decide) (by decide) (by decide)]
      rw [fits_c (c := 59) h (by omega) (by decide) (by decide) (by decide), if_pos b3]
      simp (decide := true) (implicitDefEqProofs := false) only [Option.bind_some, if_true, if_false]
      exact hm_end (s := 6) hl (by decide)
    unfold f_X1_wrongPlace_25
    rw [hsh]
    simp (decide := true) (implicitDefEqProofs := false) only [Option.bind_some, if_true, if_false]
    rw [hmf, show j_isEmpty 6 = some 0 from by decide, hl]
    simp (decide := true) (implicitDefEqProofs := false) only [Option.bind_some, if_true, if_false]
    rw [hln, show wLen.getD 6 0 = 4 from rfl, nI_addn]
  · rw [hst, hln, hc]
    refine ⟨upd td (3 * i) (nI (10 * (L (p + 1) - 48) + (L (p + 2) - 48))), ?_, ?_, fun j hj => ?_⟩
    · unfold f_X5_statement_43
      rw [gdI (by omega) (by omega), gdI (by omega) (by omega), nI_clamp (by omega), nI_3i, ← nI_succ]
      unfold f_X5_readsAll
      simp (decide := true) (implicitDefEqProofs := false) only [if_true, if_false]
      rw [rd2_tt h (by omega) b1 b2]
      try simp (decide := true) (implicitDefEqProofs := false) only [Option.bind_some, if_true, if_false, gb, or_true, true_or]
      rw [x5_next_t h b3.1, b3.2]
      try simp (decide := true) (implicitDefEqProofs := false) only [Option.bind_some, if_true, if_false, gb, or_true, true_or]
      rw [← nI_succ]
    · unfold TF
      rw [hc]
      refine ⟨fun z => ?_, fun z => ?_, fun z => ?_, fun z => ?_, fun z => ?_⟩
      · omega
      · omega
      · omega
      · omega
      · exact upd_at
    · rw [upd_ne (by omega)]
theorem st_none (h : TX k lt tp L) {p i : Nat} {le la td : Nat → Int32} (hp2 : p < 190) (hn : p < k → ¬ L p = 119 ∧ ¬ L p = 120 ∧ ¬ L p = 115 ∧ ¬ L p = 116 ∧ ¬ L p = 102 ∧ ¬ L p = 121) : SJ k lt tp L p i le la td := by
  have hk := h.1
  obtain ⟨F, hF⟩ : ∃ F, FU = F + 1 := ⟨99999, rfl⟩
  have hmf : f_X1_howManyFit (nI k) lt (nI p) 0 = some (nI 0) := by
    unfold f_X1_howManyFit
    rw [hF]
    exact hm_end (s := 0) (by decide) (by decide)
  have hsh : f_X1_shapeAt (nI k) lt (nI p) = some 0 := by
    unfold f_X1_shapeAt
    by_cases hp : p < k
    · obtain ⟨h1, h2, h3⟩ := h.2 p hp
      obtain ⟨n1, n2, n3, n4, n5, n6⟩ := hn hp
      rw [if_pos (Int32.not_le.mp (nI_ge hp (by omega))), g3 (by omega) (by omega), h1]
      simp (implicitDefEqProofs := false) only [Option.bind_some]
      rw [if_neg (show ¬ nI (L p) = 102 from fun z => n5 ((nIc h3 (c := 102) (by omega)).mp z)), if_neg (show ¬ nI (L p) = 115 from fun z => n3 ((nIc h3 (c := 115) (by omega)).mp z)), if_neg (show ¬ nI (L p) = 116 from fun z => n4 ((nIc h3 (c := 116) (by omega)).mp z)), if_neg (show ¬ nI (L p) = 119 from fun z => n1 ((nIc h3 (c := 119) (by omega)).mp z)), if_neg (show ¬ nI (L p) = 120 from fun z => n2 ((nIc h3 (c := 120) (by omega)).mp z)), if_neg (show ¬ nI (L p) = 121 from fun z => n6 ((nIc h3 (c := 121) (by omega)).mp z))]
    · rw [if_neg (Int32.not_lt.mpr (nI_le (by omega) (by omega)))]
  refine Or.inl ⟨p, by omega, fun K => ?_, le, la, td, ?_⟩
  · unfold f_X1_wrongPlace_25
    rw [hsh]
    simp (decide := true) (implicitDefEqProofs := false) only [Option.bind_some, if_true, if_false]
    rw [hmf, show j_isEmpty 0 = some 1 from by decide]
    simp (decide := true) (implicitDefEqProofs := false) only [Option.bind_some, if_true, if_false]
    rw [nI_addn, Nat.add_zero]
  · unfold f_X5_statement
    by_cases hp : p < k
    · obtain ⟨h1, h2, h3⟩ := h.2 p hp
      obtain ⟨n1, n2, n3, n4, n5, n6⟩ := hn hp
      rw [x5_next_t h hp]
      simp (implicitDefEqProofs := false) only [Option.bind_some]
      rw [if_neg (show ¬ nI (L p) = 119 from fun z => n1 ((nIc h3 (c := 119) (by omega)).mp z)), if_neg (show ¬ nI (L p) = 120 from fun z => n2 ((nIc h3 (c := 120) (by omega)).mp z)), if_neg (show ¬ nI (L p) = 115 from fun z => n3 ((nIc h3 (c := 115) (by omega)).mp z)), if_neg (show ¬ nI (L p) = 116 from fun z => n4 ((nIc h3 (c := 116) (by omega)).mp z)), if_neg (show ¬ nI (L p) = 102 from fun z => n5 ((nIc h3 (c := 102) (by omega)).mp z)), if_neg (show ¬ nI (L p) = 121 from fun z => n6 ((nIc h3 (c := 121) (by omega)).mp z))]
    · rw [x5_next_f h hp (by omega)]
      simp (decide := true) (implicitDefEqProofs := false) only [Option.bind_some, if_true, if_false]
theorem st_all (h : TX k lt tp L) {p i : Nat} {le la td : Nat → Int32} (hp : p ≤ k) (hi : i < 48) : SJ k lt tp L p i le la td := by
  have hk := h.1
  by_cases hpk : p < k
  · by_cases c1 : L p = 119
    · exact st_w h hpk c1 hi
    by_cases c2 : L p = 120
    · exact st_x h hpk c2 hi
    by_cases c3 : L p = 115
    · exact st_s h hpk c3 hi
    by_cases c4 : L p = 116
    · exact st_t h hpk c4 hi
    by_cases c5 : L p = 102
    · exact st_f h hpk c5 hi
    by_cases c6 : L p = 121
    · exact st_y h hpk c6 hi
    exact st_none h (by omega) (fun _ => ⟨c1, c2, c3, c4, c5, c6⟩)
  · exact st_none h (by omega) (fun z => absurd z hpk)
end KS
