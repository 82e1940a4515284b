/-! whole numbers of Lean for the machine's ints and longs: J x is the int that x is, wr x what is left of x in an int -/
def J (x : Int) : Int32 := Int32.ofInt x
def wr (x : Int) : Int := (Int32.ofInt x).toInt
def InR (x : Int) : Prop := (Int32.ofInt x).toInt = x
def JL (x : Int) : Int64 := Int64.ofInt x
def wl (x : Int) : Int := (Int64.ofInt x).toInt
def InL (x : Int) : Prop := (Int64.ofInt x).toInt = x
theorem InR_iff {x : Int} : InR x ↔ -2147483648 ≤ x ∧ x < 2147483648 := by
  unfold InR
  rw [Int32.toInt_ofInt]
  constructor
  · intro h
    have h1 := Int.le_bmod (x := x) (m := 2 ^ 32) (by decide)
    have h2 := Int.bmod_lt (x := x) (m := 2 ^ 32) (by decide)
    rw [h] at h1 h2
    exact ⟨by omega, by omega⟩
  · intro ⟨h1, h2⟩
    have hz : (Int32.size : Int) = 4294967296 := rfl
    exact Int.bmod_eq_of_le (by omega) (by omega)
theorem InL_iff {x : Int} : InL x ↔ -9223372036854775808 ≤ x ∧ x < 9223372036854775808 := by
  unfold InL
  rw [Int64.toInt_ofInt]
  constructor
  · intro h
    have h1 := Int.le_bmod (x := x) (m := 2 ^ 64) (by decide)
    have h2 := Int.bmod_lt (x := x) (m := 2 ^ 64) (by decide)
    rw [h] at h1 h2
    exact ⟨by omega, by omega⟩
  · intro ⟨h1, h2⟩
    have hz : (Int64.size : Int) = 18446744073709551616 := rfl
    exact Int.bmod_eq_of_le (by omega) (by omega)
theorem InR_to (x : Int32) : InR x.toInt := by unfold InR; rw [Int32.ofInt_toInt]
theorem InL_to (x : Int64) : InL x.toInt := by unfold InL; rw [Int64.ofInt_toInt]
theorem InR_wr (x : Int) : InR (wr x) := InR_to _
theorem InL_wl (x : Int) : InL (wl x) := InL_to _
theorem InR_lit {x : Int} (h : decide (-2147483648 ≤ x ∧ x < 2147483648) = true) : InR x := InR_iff.mpr (of_decide_eq_true h)
theorem InL_lit {x : Int} (h : decide (-9223372036854775808 ≤ x ∧ x < 9223372036854775808) = true) : InL x := InL_iff.mpr (of_decide_eq_true h)
theorem wr_in {x : Int} (h : InR x) : wr x = x := h
theorem wr_of {x : Int} (h1 : -2147483648 ≤ x) (h2 : x < 2147483648) : wr x = x := InR_iff.mpr ⟨h1, h2⟩
theorem wl_of {x : Int} (h1 : -9223372036854775808 ≤ x) (h2 : x < 9223372036854775808) : wl x = x := InL_iff.mpr ⟨h1, h2⟩
theorem J_wr (x : Int) : J (wr x) = J x := Int32.ofInt_toInt _
theorem JL_wl (x : Int) : JL (wl x) = JL x := Int64.ofInt_toInt _
theorem J_to (x : Int32) : J x.toInt = x := Int32.ofInt_toInt _
theorem JL_to (x : Int64) : JL x.toInt = x := Int64.ofInt_toInt _
theorem J_int {x : Int} (h : InR x) : (J x).toInt = x := h
theorem JL_int {x : Int} (h : InL x) : (JL x).toInt = x := h
theorem J_add (a b : Int) : J a + J b = J (wr (a + b)) := by rw [J_wr]; exact (Int32.ofInt_add ..).symm
theorem J_sub (a b : Int) : J a - J b = J (wr (a - b)) := by rw [J_wr]; exact (Int32.ofInt_sub ..).symm
theorem J_mul (a b : Int) : J a * J b = J (wr (a * b)) := by rw [J_wr]; exact (Int32.ofInt_mul ..).symm
theorem J_neg (a : Int) : - J a = J (wr (- a)) := by rw [J_wr]; exact (Int32.ofInt_neg ..).symm
theorem JL_add (a b : Int) : JL a + JL b = JL (wl (a + b)) := by rw [JL_wl]; exact (Int64.ofInt_add ..).symm
theorem JL_sub (a b : Int) : JL a - JL b = JL (wl (a - b)) := by rw [JL_wl]; exact (Int64.ofInt_sub ..).symm
theorem JL_mul (a b : Int) : JL a * JL b = JL (wl (a * b)) := by rw [JL_wl]; exact (Int64.ofInt_mul ..).symm
theorem J_lt {a b : Int} (ha : InR a) (hb : InR b) : J a < J b ↔ a < b := by rw [Int32.lt_iff_toInt_lt, J_int ha, J_int hb]
theorem J_le {a b : Int} (ha : InR a) (hb : InR b) : J a ≤ J b ↔ a ≤ b := by rw [Int32.le_iff_toInt_le, J_int ha, J_int hb]
theorem J_eq {a b : Int} (ha : InR a) (hb : InR b) : J a = J b ↔ a = b := ⟨fun h => by have := congrArg Int32.toInt h; rwa [J_int ha, J_int hb] at this, fun h => by rw [h]⟩
theorem JL_lt {a b : Int} (ha : InL a) (hb : InL b) : JL a < JL b ↔ a < b := by rw [Int64.lt_iff_toInt_lt, JL_int ha, JL_int hb]
theorem JL_eq {a b : Int} (ha : InL a) (hb : InL b) : JL a = JL b ↔ a = b := ⟨fun h => by have := congrArg Int64.toInt h; rwa [JL_int ha, JL_int hb] at this, fun h => by rw [h]⟩
theorem J_0 : J 0 = 0 := rfl
theorem JL_0 : JL 0 = 0 := rfl
theorem InR_0 : InR 0 := InR_lit rfl
theorem J_div {a b : Int} (ha : InR a) (hb : InR b) : J a / J b = J (wr (a.tdiv b)) := by
  rw [J_wr]
  apply Int32.toInt_inj.mp
  rw [Int32.toInt_div, J_int ha, J_int hb]
  unfold J
  rw [Int32.toInt_ofInt]
theorem JL_div {a b : Int} (ha : InL a) (hb : InL b) : JL a / JL b = JL (wl (a.tdiv b)) := by
  rw [JL_wl]
  apply Int64.toInt_inj.mp
  rw [Int64.toInt_div, JL_int ha, JL_int hb]
  unfold JL
  rw [Int64.toInt_ofInt]
theorem J_rem {a b : Int} (ha : InR a) (hb : InR b) : J a - J a / J b * J b = J (a.tmod b) := by
  rw [J_div ha hb, J_wr, show J (a.tdiv b) * J b = J (a.tdiv b * b) from (Int32.ofInt_mul ..).symm, show J a - J (a.tdiv b * b) = J (a - a.tdiv b * b) from (Int32.ofInt_sub ..).symm]
  congr 1
  have := Int.tmod_add_tdiv_mul a b
  omega
theorem JL_rem {a b : Int} (ha : InL a) (hb : InL b) : JL a - JL a / JL b * JL b = JL (a.tmod b) := by
  rw [JL_div ha hb, JL_wl, show JL (a.tdiv b) * JL b = JL (a.tdiv b * b) from (Int64.ofInt_mul ..).symm, show JL a - JL (a.tdiv b * b) = JL (a - a.tdiv b * b) from (Int64.ofInt_sub ..).symm]
  congr 1
  have := Int.tmod_add_tdiv_mul a b
  omega
theorem tmod_le (a b : Int) : (a.tmod b).natAbs ≤ a.natAbs := by
  rw [Int.natAbs_tmod]
  exact Nat.mod_le _ _
theorem InR_rem {a : Int} (b : Int) (ha : InR a) : InR (a.tmod b) := by
  have h1 := InR_iff.mp ha
  have h2 := tmod_le a b
  rcases Int.le_total 0 a with h | h
  · have := Int.tmod_nonneg b h
    exact InR_iff.mpr ⟨by omega, by omega⟩
  · exact InR_iff.mpr ⟨by omega, by have := Int.tmod_nonneg b (show 0 ≤ -a by omega); rw [Int.neg_tmod] at this; omega⟩
theorem InL_rem {a : Int} (b : Int) (ha : InL a) : InL (a.tmod b) := by
  have h1 := InL_iff.mp ha
  have h2 := tmod_le a b
  rcases Int.le_total 0 a with h | h
  · have := Int.tmod_nonneg b h
    exact InL_iff.mpr ⟨by omega, by omega⟩
  · exact InL_iff.mpr ⟨by omega, by have := Int.tmod_nonneg b (show 0 ≤ -a by omega); rw [Int.neg_tmod] at this; omega⟩
def ishl (a b : Int) : Int := (J a <<< (J b &&& 31)).toInt
def ishr (a b : Int) : Int := (J a >>> (J b &&& 31)).toInt
def iand (a b : Int) : Int := (J a &&& J b).toInt
def ior (a b : Int) : Int := (J a ||| J b).toInt
def ixor (a b : Int) : Int := (J a ^^^ J b).toInt
def lshl (a b : Int) : Int := (JL a <<< ((J b).toInt64 &&& 63)).toInt
def lor (a b : Int) : Int := (JL a ||| JL b).toInt
def lcm3 (a b : Int) : Int := if b < a then 1 else if a = b then 0 else -1
theorem InR_lcm3 (a b : Int) : InR (lcm3 a b) := by
  unfold lcm3
  split
  · exact InR_lit rfl
  · split <;> exact InR_lit rfl
theorem J_l {x : Int} (h : InR x) : (J x).toInt64 = JL x := by
  apply Int64.toInt_inj.mp
  rw [Int32.toInt_toInt64, J_int h]
  have := InR_iff.mp h
  exact (InL_iff.mpr ⟨by omega, by omega⟩).symm
theorem JL_i (x : Int) : (JL x).toInt32 = J (wr x) := by
  rw [J_wr]
  exact Int64.toInt32_ofInt ..
theorem InL_i {x : Int} (h : InR x) : InL x := by
  have := InR_iff.mp h
  exact InL_iff.mpr ⟨by omega, by omega⟩
theorem vp_in_J {i : Int} {n : Nat} (hi : InR i) (h0 : 0 ≤ i) (h1 : i < (n : Int)) : vp_in (J i) n := by
  unfold vp_in
  intro h
  rcases h with h | h
  · rw [show (0 : Int32) = J 0 from rfl, J_lt hi InR_0] at h
    omega
  · have : (J i).toNatClampNeg = i.toNat := by
      show (J i).toInt.toNat = i.toNat
      rw [J_int hi]
    omega
theorem clamp_J {i : Int} (hi : InR i) : (J i).toNatClampNeg = i.toNat := by
  show (J i).toInt.toNat = i.toNat
  rw [J_int hi]
def B01 (x : Int) : Prop := x = 0 ∨ x = 1
theorem B01.inR {x : Int} (h : B01 x) : InR x := by
  rcases h with rfl | rfl
  · exact InR_lit rfl
  · exact InR_lit rfl
theorem B01_0 : B01 0 := Or.inl rfl
theorem B01_1 : B01 1 := Or.inr rfl
