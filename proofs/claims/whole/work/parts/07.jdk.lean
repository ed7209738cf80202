/-! What the JDK's own methods answer: over the class's String constants, by their places, and Integer.bitCount. -/
def j_length (k : Nat) : Option Int32 := if k < 8 then some (nI (wLen.getD k 0)) else none
def j_isEmpty (k : Nat) : Option Int32 := if k < 8 then some (if wLen.getD k 0 = 0 then 1 else 0) else none
def j_charAt (k : Nat) (i : Int32) : Option Int32 := if k < 8 ∧ 0 ≤ i ∧ i.toNatClampNeg < wLen.getD k 0 then some ((wByt.getD k []).getD i.toNatClampNeg 0) else none
def j_ixF (c : Int32) : List Int32 → Nat → Int32
  | [], _ => -1
  | b :: l, k => if b = c then nI k else j_ixF c l (k + 1)
def j_indexOf (k : Nat) (c : Int32) : Option Int32 := if k < 8 ∧ 0 ≤ c ∧ c ≤ 255 then some (j_ixF c (wByt.getD k []) 0) else none
def ushrI (x y : Int32) : Int32 := (x.toUInt32 >>> (y &&& 31).toUInt32).toInt32
def j_bc1 (x : Int32) : Int32 := x - (ushrI x 1 &&& 1431655765)
def j_bc2 (x : Int32) : Int32 := (x &&& 858993459) + (ushrI x 2 &&& 858993459)
def j_bc3 (x : Int32) : Int32 := (x + ushrI x 4) &&& 252645135
def j_bc4 (x : Int32) : Int32 := x + ushrI x 8
def j_bc5 (x : Int32) : Int32 := x + ushrI x 16
def j_bitCount (x : Int32) : Option Int32 := some (j_bc5 (j_bc4 (j_bc3 (j_bc2 (j_bc1 x)))) &&& 63)
theorem j_length_lt {k : Nat} {r : Int32} (h : j_length k = some r) : k < 8 := by
  unfold j_length at h
  split at h
  · assumption
  · cases h
theorem j_isEmpty_lt {k : Nat} {r : Int32} (h : j_isEmpty k = some r) : k < 8 := by
  unfold j_isEmpty at h
  split at h
  · assumption
  · cases h
theorem j_charAt_lt {k : Nat} {i r : Int32} (h : j_charAt k i = some r) : k < 8 := by
  unfold j_charAt at h
  split at h
  · rename_i g; exact g.1
  · cases h
theorem j_indexOf_lt {k : Nat} {i r : Int32} (h : j_indexOf k i = some r) : k < 8 := by
  unfold j_indexOf at h
  split at h
  · rename_i g; exact g.1
  · cases h
theorem cj_length (l : Launch) (D : va_G) (cI : ClassId) (aS : aSt) (k : Nat) (R : Int32) (hf : j_length k = some R) : CtI l yJ0_length_8abf5 cJ0_length_8abf5 1 (some .int) 5 D cI aS [.ref (aS.1 k)] [] [] R := sorry
theorem cj_isEmpty (l : Launch) (D : va_G) (cI : ClassId) (aS : aSt) (k : Nat) (R : Int32) (hf : j_isEmpty k = some R) : CtI l yJ0_isEmpty_aae02 cJ0_isEmpty_aae02 1 (some .boolean) 5 D cI aS [.ref (aS.1 k)] [] [] R := sorry
theorem cj_charAt (l : Launch) (D : va_G) (cI : ClassId) (aS : aSt) (k : Nat) (i : Int32) (R : Int32) (hf : j_charAt k i = some R) : CtI l yJ0_charAt_5068e cJ0_charAt_5068e 2 (some .char) 5 D cI aS [.ref (aS.1 k), .int i] [] [] R := sorry
theorem cj_indexOf (l : Launch) (D : va_G) (cI : ClassId) (aS : aSt) (k : Nat) (c : Int32) (R : Int32) (hf : j_indexOf k c = some R) : CtI l yJ0_indexOf_0f7a4 cJ0_indexOf_0f7a4 2 (some .int) 5 D cI aS [.ref (aS.1 k), .int c] [] [] R := sorry
theorem cj_bitCount (l : Launch) (D : va_G) (cI : ClassId) (aS : aSt) (x : Int32) (R : Int32) (hf : j_bitCount x = some R) : CtI l yJ6_bitCount_0f7a4 cJ6_bitCount_0f7a4 1 (some .int) 5 D cI aS [.int x] [] [] R := sorry
