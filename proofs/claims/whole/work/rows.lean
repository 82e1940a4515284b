section
/-! whole numbers of Lean for the machine's ints and longs: J x is the int that x is, wr x what is left of x in an int -/
def J (x : Int) : Int32 := Int32.ofInt x
def wr (x : Int) : Int := (Int32.ofInt x).toInt
def InR (x : Int) : Prop := (Int32.ofInt x).toInt = x
def JL (x : Int) : Int64 := Int64.ofInt x
def wl (x : Int) : Int := (Int64.ofInt x).toInt
def InL (x : Int) : Prop := (Int64.ofInt x).toInt = x
theorem InR_iff {x : Int} : InR x ↔ -2147483648 ≤ x ∧ x < 2147483648 := by
  unfold InR
  rw [Int32.toInt_ofInt]
  constructor
  · intro h
    have h1 := Int.le_bmod (x := x) (m := 2 ^ 32) (by decide)
    have h2 := Int.bmod_lt (x := x) (m := 2 ^ 32) (by decide)
    rw [h] at h1 h2
    exact ⟨by omega, by omega⟩
  · intro ⟨h1, h2⟩
    have hz : (Int32.size : Int) = 4294967296 := rfl
    exact Int.bmod_eq_of_le (by omega) (by omega)
theorem InL_iff {x : Int} : InL x ↔ -9223372036854775808 ≤ x ∧ x < 9223372036854775808 := by
  unfold InL
  rw [Int64.toInt_ofInt]
  constructor
  · intro h
    have h1 := Int.le_bmod (x := x) (m := 2 ^ 64) (by decide)
    have h2 := Int.bmod_lt (x := x) (m := 2 ^ 64) (by decide)
    rw [h] at h1 h2
    exact ⟨by omega, by omega⟩
  · intro ⟨h1, h2⟩
    have hz : (Int64.size : Int) = 18446744073709551616 := rfl
    exact Int.bmod_eq_of_le (by omega) (by omega)
theorem InR_to (x : Int32) : InR x.toInt := by unfold InR; rw [Int32.ofInt_toInt]
theorem InL_to (x : Int64) : InL x.toInt := by unfold InL; rw [Int64.ofInt_toInt]
theorem InR_wr (x : Int) : InR (wr x) := InR_to _
theorem InL_wl (x : Int) : InL (wl x) := InL_to _
theorem InR_lit {x : Int} (h : decide (-2147483648 ≤ x ∧ x < 2147483648) = true) : InR x := InR_iff.mpr (of_decide_eq_true h)
theorem InL_lit {x : Int} (h : decide (-9223372036854775808 ≤ x ∧ x < 9223372036854775808) = true) : InL x := InL_iff.mpr (of_decide_eq_true h)
theorem wr_in {x : Int} (h : InR x) : wr x = x := h
theorem wr_of {x : Int} (h1 : -2147483648 ≤ x) (h2 : x < 2147483648) : wr x = x := InR_iff.mpr ⟨h1, h2⟩
theorem wl_of {x : Int} (h1 : -9223372036854775808 ≤ x) (h2 : x < 9223372036854775808) : wl x = x := InL_iff.mpr ⟨h1, h2⟩
theorem J_wr (x : Int) : J (wr x) = J x := Int32.ofInt_toInt _
theorem JL_wl (x : Int) : JL (wl x) = JL x := Int64.ofInt_toInt _
theorem J_to (x : Int32) : J x.toInt = x := Int32.ofInt_toInt _
theorem JL_to (x : Int64) : JL x.toInt = x := Int64.ofInt_toInt _
theorem J_int {x : Int} (h : InR x) : (J x).toInt = x := h
theorem JL_int {x : Int} (h : InL x) : (JL x).toInt = x := h
theorem J_add (a b : Int) : J a + J b = J (wr (a + b)) := by rw [J_wr]; exact (Int32.ofInt_add ..).symm
theorem J_sub (a b : Int) : J a - J b = J (wr (a - b)) := by rw [J_wr]; exact (Int32.ofInt_sub ..).symm
theorem J_mul (a b : Int) : J a * J b = J (wr (a * b)) := by rw [J_wr]; exact (Int32.ofInt_mul ..).symm
theorem J_neg (a : Int) : - J a = J (wr (- a)) := by rw [J_wr]; exact (Int32.ofInt_neg ..).symm
theorem JL_add (a b : Int) : JL a + JL b = JL (wl (a + b)) := by rw [JL_wl]; exact (Int64.ofInt_add ..).symm
theorem JL_sub (a b : Int) : JL a - JL b = JL (wl (a - b)) := by rw [JL_wl]; exact (Int64.ofInt_sub ..).symm
theorem JL_mul (a b : Int) : JL a * JL b = JL (wl (a * b)) := by rw [JL_wl]; exact (Int64.ofInt_mul ..).symm
theorem J_lt {a b : Int} (ha : InR a) (hb : InR b) : J a < J b ↔ a < b := by rw [Int32.lt_iff_toInt_lt, J_int ha, J_int hb]
theorem J_le {a b : Int} (ha : InR a) (hb : InR b) : J a ≤ J b ↔ a ≤ b := by rw [Int32.le_iff_toInt_le, J_int ha, J_int hb]
theorem J_eq {a b : Int} (ha : InR a) (hb : InR b) : J a = J b ↔ a = b := ⟨fun h => by have := congrArg Int32.toInt h; rwa [J_int ha, J_int hb] at this, fun h => by rw [h]⟩
theorem JL_lt {a b : Int} (ha : InL a) (hb : InL b) : JL a < JL b ↔ a < b := by rw [Int64.lt_iff_toInt_lt, JL_int ha, JL_int hb]
theorem JL_eq {a b : Int} (ha : InL a) (hb : InL b) : JL a = JL b ↔ a = b := ⟨fun h => by have := congrArg Int64.toInt h; rwa [JL_int ha, JL_int hb] at this, fun h => by rw [h]⟩
theorem J_0 : J 0 = 0 := rfl
theorem JL_0 : JL 0 = 0 := rfl
theorem InR_0 : InR 0 := InR_lit rfl
theorem J_div {a b : Int} (ha : InR a) (hb : InR b) : J a / J b = J (wr (a.tdiv b)) := by
  rw [J_wr]
  apply Int32.toInt_inj.mp
  rw [Int32.toInt_div, J_int ha, J_int hb]
  unfold J
  rw [Int32.toInt_ofInt]
theorem JL_div {a b : Int} (ha : InL a) (hb : InL b) : JL a / JL b = JL (wl (a.tdiv b)) := by
  rw [JL_wl]
  apply Int64.toInt_inj.mp
  rw [Int64.toInt_div, JL_int ha, JL_int hb]
  unfold JL
  rw [Int64.toInt_ofInt]
theorem J_rem {a b : Int} (ha : InR a) (hb : InR b) : J a - J a / J b * J b = J (a.tmod b) := by
  rw [J_div ha hb, J_wr, show J (a.tdiv b) * J b = J (a.tdiv b * b) from (Int32.ofInt_mul ..).symm, show J a - J (a.tdiv b * b) = J (a - a.tdiv b * b) from (Int32.ofInt_sub ..).symm]
  congr 1
  have := Int.tmod_add_tdiv_mul a b
  omega
theorem JL_rem {a b : Int} (ha : InL a) (hb : InL b) : JL a - JL a / JL b * JL b = JL (a.tmod b) := by
  rw [JL_div ha hb, JL_wl, show JL (a.tdiv b) * JL b = JL (a.tdiv b * b) from (Int64.ofInt_mul ..).symm, show JL a - JL (a.tdiv b * b) = JL (a - a.tdiv b * b) from (Int64.ofInt_sub ..).symm]
  congr 1
  have := Int.tmod_add_tdiv_mul a b
  omega
theorem tmod_le (a b : Int) : (a.tmod b).natAbs ≤ a.natAbs := by
  rw [Int.natAbs_tmod]
  exact Nat.mod_le _ _
theorem InR_rem {a : Int} (b : Int) (ha : InR a) : InR (a.tmod b) := by
  have h1 := InR_iff.mp ha
  have h2 := tmod_le a b
  rcases Int.le_total 0 a with h | h
  · have := Int.tmod_nonneg b h
    exact InR_iff.mpr ⟨by omega, by omega⟩
  · exact InR_iff.mpr ⟨by omega, by have := Int.tmod_nonneg b (show 0 ≤ -a by omega); rw [Int.neg_tmod] at this; omega⟩
theorem InL_rem {a : Int} (b : Int) (ha : InL a) : InL (a.tmod b) := by
  have h1 := InL_iff.mp ha
  have h2 := tmod_le a b
  rcases Int.le_total 0 a with h | h
  · have := Int.tmod_nonneg b h
    exact InL_iff.mpr ⟨by omega, by omega⟩
  · exact InL_iff.mpr ⟨by omega, by have := Int.tmod_nonneg b (show 0 ≤ -a by omega); rw [Int.neg_tmod] at this; omega⟩
def ishl (a b : Int) : Int := (J a <<< (J b &&& 31)).toInt
def ishr (a b : Int) : Int := (J a >>> (J b &&& 31)).toInt
def iand (a b : Int) : Int := (J a &&& J b).toInt
def ior (a b : Int) : Int := (J a ||| J b).toInt
def ixor (a b : Int) : Int := (J a ^^^ J b).toInt
def lshl (a b : Int) : Int := (JL a <<< ((J b).toInt64 &&& 63)).toInt
def lor (a b : Int) : Int := (JL a ||| JL b).toInt
def lcm3 (a b : Int) : Int := if b < a then 1 else if a = b then 0 else -1
theorem InR_lcm3 (a b : Int) : InR (lcm3 a b) := by
  unfold lcm3
  split
  · exact InR_lit rfl
  · split <;> exact InR_lit rfl
theorem J_l {x : Int} (h : InR x) : (J x).toInt64 = JL x := by
  apply Int64.toInt_inj.mp
  rw [Int32.toInt_toInt64, J_int h]
  have := InR_iff.mp h
  exact (InL_iff.mpr ⟨by omega, by omega⟩).symm
theorem JL_i (x : Int) : (JL x).toInt32 = J (wr x) := by
  rw [J_wr]
  exact Int64.toInt32_ofInt ..
theorem InL_i {x : Int} (h : InR x) : InL x := by
  have := InR_iff.mp h
  exact InL_iff.mpr ⟨by omega, by omega⟩
theorem vp_in_J {i : Int} {n : Nat} (hi : InR i) (h0 : 0 ≤ i) (h1 : i < (n : Int)) : vp_in (J i) n := by
  unfold vp_in
  intro h
  rcases h with h | h
  · rw [show (0 : Int32) = J 0 from rfl, J_lt hi InR_0] at h
    omega
  · have : (J i).toNatClampNeg = i.toNat := by
      show (J i).toInt.toNat = i.toNat
      rw [J_int hi]
    omega
theorem clamp_J {i : Int} (hi : InR i) : (J i).toNatClampNeg = i.toNat := by
  show (J i).toInt.toNat = i.toNat
  rw [J_int hi]
def B01 (x : Int) : Prop := x = 0 ∨ x = 1
theorem B01.inR {x : Int} (h : B01 x) : InR x := by
  rcases h with rfl | rfl
  · exact InR_lit rfl
  · exact InR_lit rfl
theorem B01_0 : B01 0 := Or.inl rfl
theorem B01_1 : B01 1 := Or.inr rfl
end
section
-- ===== PART A: goes FIRST, ahead of the names: the tables' words, and 'selects' of the private methods out of them =====
/-- a private method of a class that the tables say can be made, by its rows of tables_1 -/
def lw_okq (q : MethodName × Nat) : Prop := (q.1.cls ≠ "java/lang/invoke/MethodHandle" ∧ q.1.cls ≠ "java/lang/invoke/VarHandle") ∧ Cond.instantiable q.1.cls q.2 ∈ tables_1 ∧ Cond.privateMethod q.1 ∈ tables_1 ∧ Cond.instanceMethod q.1 ∈ tables_1
theorem lw_p0 : lw_okq (⟨"FuguePlan", "settled", "(I)I"⟩, 14) := ⟨⟨by decide +kernel, by decide +kernel⟩, List.mem_of_getElem? (i := 15) (by decide +kernel), List.mem_of_getElem? (i := 364) (by decide +kernel), List.mem_of_getElem? (i := 365) (by decide +kernel)⟩
theorem lw_p1 : lw_okq (⟨"FuguePlan", "refused", "(I)I"⟩, 14) := ⟨⟨by decide +kernel, by decide +kernel⟩, List.mem_of_getElem? (i := 15) (by decide +kernel), List.mem_of_getElem? (i := 368) (by decide +kernel), List.mem_of_getElem? (i := 369) (by decide +kernel)⟩
theorem lw_p2 : lw_okq (⟨"FuguePlan", "formStretto", "(III)V"⟩, 14) := ⟨⟨by decide +kernel, by decide +kernel⟩, List.mem_of_getElem? (i := 15) (by decide +kernel), List.mem_of_getElem? (i := 663) (by decide +kernel), List.mem_of_getElem? (i := 664) (by decide +kernel)⟩
theorem lw_p3 : lw_okq (⟨"FuguePlan", "strettoFits", "(I)Z"⟩, 14) := ⟨⟨by decide +kernel, by decide +kernel⟩, List.mem_of_getElem? (i := 15) (by decide +kernel), List.mem_of_getElem? (i := 667) (by decide +kernel), List.mem_of_getElem? (i := 668) (by decide +kernel)⟩
theorem lw_p4 : lw_okq (⟨"FuguePlan", "closestStretto", "(I)I"⟩, 14) := ⟨⟨by decide +kernel, by decide +kernel⟩, List.mem_of_getElem? (i := 15) (by decide +kernel), List.mem_of_getElem? (i := 679) (by decide +kernel), List.mem_of_getElem? (i := 680) (by decide +kernel)⟩
theorem lw_p5 : lw_okq (⟨"FuguePlan", "invertsWell", "(III)Z"⟩, 14) := ⟨⟨by decide +kernel, by decide +kernel⟩, List.mem_of_getElem? (i := 15) (by decide +kernel), List.mem_of_getElem? (i := 693) (by decide +kernel), List.mem_of_getElem? (i := 694) (by decide +kernel)⟩
theorem lw_p6 : lw_okq (⟨"FuguePlan", "takesRow", "(II)Z"⟩, 14) := ⟨⟨by decide +kernel, by decide +kernel⟩, List.mem_of_getElem? (i := 15) (by decide +kernel), List.mem_of_getElem? (i := 708) (by decide +kernel), List.mem_of_getElem? (i := 709) (by decide +kernel)⟩
theorem lw_p7 : lw_okq (⟨"FuguePlan", "rowFaults", "(I)I"⟩, 14) := ⟨⟨by decide +kernel, by decide +kernel⟩, List.mem_of_getElem? (i := 15) (by decide +kernel), List.mem_of_getElem? (i := 713) (by decide +kernel), List.mem_of_getElem? (i := 714) (by decide +kernel)⟩
theorem lw_p8 : lw_okq (⟨"FuguePlan", "layRow", "(I)V"⟩, 14) := ⟨⟨by decide +kernel, by decide +kernel⟩, List.mem_of_getElem? (i := 15) (by decide +kernel), List.mem_of_getElem? (i := 717) (by decide +kernel), List.mem_of_getElem? (i := 718) (by decide +kernel)⟩
theorem lw_p9 : lw_okq (⟨"FuguePlan", "bestRow", "(I)I"⟩, 14) := ⟨⟨by decide +kernel, by decide +kernel⟩, List.mem_of_getElem? (i := 15) (by decide +kernel), List.mem_of_getElem? (i := 726) (by decide +kernel), List.mem_of_getElem? (i := 727) (by decide +kernel)⟩
theorem lw_p10 : lw_okq (⟨"FuguePlan", "rowNumber", "(I)I"⟩, 14) := ⟨⟨by decide +kernel, by decide +kernel⟩, List.mem_of_getElem? (i := 15) (by decide +kernel), List.mem_of_getElem? (i := 730) (by decide +kernel), List.mem_of_getElem? (i := 731) (by decide +kernel)⟩
theorem lw_p11 : lw_okq (⟨"FuguePlan$Tour", "sortVisits", "([II)V"⟩, 3) := ⟨⟨by decide +kernel, by decide +kernel⟩, List.mem_of_getElem? (i := 255) (by decide +kernel), List.mem_of_getElem? (i := 797) (by decide +kernel), List.mem_of_getElem? (i := 798) (by decide +kernel)⟩
theorem lw_p12 : lw_okq (⟨"FuguePlan$Tour", "lengthFrom", "(II)I"⟩, 3) := ⟨⟨by decide +kernel, by decide +kernel⟩, List.mem_of_getElem? (i := 255) (by decide +kernel), List.mem_of_getElem? (i := 802) (by decide +kernel), List.mem_of_getElem? (i := 803) (by decide +kernel)⟩
theorem lw_p13 : lw_okq (⟨"FuguePlan$Reader", "skipBlanks", "()V"⟩, 9) := ⟨⟨by decide +kernel, by decide +kernel⟩, List.mem_of_getElem? (i := 161) (by decide +kernel), List.mem_of_getElem? (i := 828) (by decide +kernel), List.mem_of_getElem? (i := 829) (by decide +kernel)⟩
theorem lw_p14 : lw_okq (⟨"FuguePlan$Reader", "parseOrder", "()V"⟩, 9) := ⟨⟨by decide +kernel, by decide +kernel⟩, List.mem_of_getElem? (i := 161) (by decide +kernel), List.mem_of_getElem? (i := 832) (by decide +kernel), List.mem_of_getElem? (i := 833) (by decide +kernel)⟩
theorem lw_p15 : lw_okq (⟨"FuguePlan$Reader", "byteHere", "()I"⟩, 9) := ⟨⟨by decide +kernel, by decide +kernel⟩, List.mem_of_getElem? (i := 161) (by decide +kernel), List.mem_of_getElem? (i := 836) (by decide +kernel), List.mem_of_getElem? (i := 837) (by decide +kernel)⟩
def lw_privs_1 : List (MethodName × Nat) := [(⟨"FuguePlan", "settled", "(I)I"⟩, 14), (⟨"FuguePlan", "refused", "(I)I"⟩, 14), (⟨"FuguePlan", "formStretto", "(III)V"⟩, 14), (⟨"FuguePlan", "strettoFits", "(I)Z"⟩, 14), (⟨"FuguePlan", "closestStretto", "(I)I"⟩, 14), (⟨"FuguePlan", "invertsWell", "(III)Z"⟩, 14), (⟨"FuguePlan", "takesRow", "(II)Z"⟩, 14), (⟨"FuguePlan", "rowFaults", "(I)I"⟩, 14), (⟨"FuguePlan", "layRow", "(I)V"⟩, 14), (⟨"FuguePlan", "bestRow", "(I)I"⟩, 14), (⟨"FuguePlan", "rowNumber", "(I)I"⟩, 14), (⟨"FuguePlan$Tour", "sortVisits", "([II)V"⟩, 3), (⟨"FuguePlan$Tour", "lengthFrom", "(II)I"⟩, 3), (⟨"FuguePlan$Reader", "skipBlanks", "()V"⟩, 9), (⟨"FuguePlan$Reader", "parseOrder", "()V"⟩, 9), (⟨"FuguePlan$Reader", "byteHere", "()I"⟩, 9)]
theorem lw_r1 : ∀ q ∈ lw_privs_1, lw_okq q := List.forall_mem_cons.mpr ⟨lw_p0, List.forall_mem_cons.mpr ⟨lw_p1, List.forall_mem_cons.mpr ⟨lw_p2, List.forall_mem_cons.mpr ⟨lw_p3, List.forall_mem_cons.mpr ⟨lw_p4, List.forall_mem_cons.mpr ⟨lw_p5, List.forall_mem_cons.mpr ⟨lw_p6, List.forall_mem_cons.mpr ⟨lw_p7, List.forall_mem_cons.mpr ⟨lw_p8, List.forall_mem_cons.mpr ⟨lw_p9, List.forall_mem_cons.mpr ⟨lw_p10, List.forall_mem_cons.mpr ⟨lw_p11, List.forall_mem_cons.mpr ⟨lw_p12, List.forall_mem_cons.mpr ⟨lw_p13, List.forall_mem_cons.mpr ⟨lw_p14, List.forall_mem_cons.mpr ⟨lw_p15, fun _ h => absurd h List.not_mem_nil⟩⟩⟩⟩⟩⟩⟩⟩⟩⟩⟩⟩⟩⟩⟩⟩
theorem lw_p16 : lw_okq (⟨"FuguePlan$Reader", "fail", "(I)V"⟩, 9) := ⟨⟨by decide +kernel, by decide +kernel⟩, List.mem_of_getElem? (i := 161) (by decide +kernel), List.mem_of_getElem? (i := 840) (by decide +kernel), List.mem_of_getElem? (i := 841) (by decide +kernel)⟩
theorem lw_p17 : lw_okq (⟨"FuguePlan$Reader", "open", "(I)V"⟩, 9) := ⟨⟨by decide +kernel, by decide +kernel⟩, List.mem_of_getElem? (i := 161) (by decide +kernel), List.mem_of_getElem? (i := 844) (by decide +kernel), List.mem_of_getElem? (i := 845) (by decide +kernel)⟩
theorem lw_p18 : lw_okq (⟨"FuguePlan$Reader", "parseLine", "()V"⟩, 9) := ⟨⟨by decide +kernel, by decide +kernel⟩, List.mem_of_getElem? (i := 161) (by decide +kernel), List.mem_of_getElem? (i := 848) (by decide +kernel), List.mem_of_getElem? (i := 849) (by decide +kernel)⟩
theorem lw_p19 : lw_okq (⟨"FuguePlan$Reader", "parseNumber", "(Z)V"⟩, 9) := ⟨⟨by decide +kernel, by decide +kernel⟩, List.mem_of_getElem? (i := 161) (by decide +kernel), List.mem_of_getElem? (i := 852) (by decide +kernel), List.mem_of_getElem? (i := 853) (by decide +kernel)⟩
theorem lw_p20 : lw_okq (⟨"FuguePlan$Reader", "take", "(I)V"⟩, 9) := ⟨⟨by decide +kernel, by decide +kernel⟩, List.mem_of_getElem? (i := 161) (by decide +kernel), List.mem_of_getElem? (i := 859) (by decide +kernel), List.mem_of_getElem? (i := 860) (by decide +kernel)⟩
theorem lw_p21 : lw_okq (⟨"FuguePlan$Reader", "isNext", "(I)Z"⟩, 9) := ⟨⟨by decide +kernel, by decide +kernel⟩, List.mem_of_getElem? (i := 161) (by decide +kernel), List.mem_of_getElem? (i := 863) (by decide +kernel), List.mem_of_getElem? (i := 864) (by decide +kernel)⟩
theorem lw_p22 : lw_okq (⟨"FuguePlan$Reader", "parseNote", "()V"⟩, 9) := ⟨⟨by decide +kernel, by decide +kernel⟩, List.mem_of_getElem? (i := 161) (by decide +kernel), List.mem_of_getElem? (i := 867) (by decide +kernel), List.mem_of_getElem? (i := 868) (by decide +kernel)⟩
theorem lw_p23 : lw_okq (⟨"FuguePlan$Reader", "parseEntry", "()V"⟩, 9) := ⟨⟨by decide +kernel, by decide +kernel⟩, List.mem_of_getElem? (i := 161) (by decide +kernel), List.mem_of_getElem? (i := 871) (by decide +kernel), List.mem_of_getElem? (i := 872) (by decide +kernel)⟩
theorem lw_p24 : lw_okq (⟨"FuguePlan$Reader", "parseKeys", "()V"⟩, 9) := ⟨⟨by decide +kernel, by decide +kernel⟩, List.mem_of_getElem? (i := 161) (by decide +kernel), List.mem_of_getElem? (i := 875) (by decide +kernel), List.mem_of_getElem? (i := 876) (by decide +kernel)⟩
theorem lw_p25 : lw_okq (⟨"FuguePlan$Reader", "isFigureNext", "()Z"⟩, 9) := ⟨⟨by decide +kernel, by decide +kernel⟩, List.mem_of_getElem? (i := 161) (by decide +kernel), List.mem_of_getElem? (i := 879) (by decide +kernel), List.mem_of_getElem? (i := 880) (by decide +kernel)⟩
theorem lw_p26 : lw_okq (⟨"FuguePlan$Reader", "parseEnd", "()V"⟩, 9) := ⟨⟨by decide +kernel, by decide +kernel⟩, List.mem_of_getElem? (i := 161) (by decide +kernel), List.mem_of_getElem? (i := 883) (by decide +kernel), List.mem_of_getElem? (i := 884) (by decide +kernel)⟩
theorem lw_p27 : lw_okq (⟨"FuguePlan", "isDone", "(I)Z"⟩, 14) := ⟨⟨by decide +kernel, by decide +kernel⟩, List.mem_of_getElem? (i := 15) (by decide +kernel), List.mem_of_getElem? (i := 887) (by decide +kernel), List.mem_of_getElem? (i := 888) (by decide +kernel)⟩
theorem lw_p28 : lw_okq (⟨"FuguePlan", "lineIsDone", "(II)Z"⟩, 14) := ⟨⟨by decide +kernel, by decide +kernel⟩, List.mem_of_getElem? (i := 15) (by decide +kernel), List.mem_of_getElem? (i := 899) (by decide +kernel), List.mem_of_getElem? (i := 900) (by decide +kernel)⟩
theorem lw_p29 : lw_okq (⟨"FuguePlan", "visitsAreDone", "(II)Z"⟩, 14) := ⟨⟨by decide +kernel, by decide +kernel⟩, List.mem_of_getElem? (i := 15) (by decide +kernel), List.mem_of_getElem? (i := 907) (by decide +kernel), List.mem_of_getElem? (i := 908) (by decide +kernel)⟩
theorem lw_p30 : lw_okq (⟨"FuguePlan", "lineDigest", "(JI)J"⟩, 14) := ⟨⟨by decide +kernel, by decide +kernel⟩, List.mem_of_getElem? (i := 15) (by decide +kernel), List.mem_of_getElem? (i := 930) (by decide +kernel), List.mem_of_getElem? (i := 931) (by decide +kernel)⟩
theorem lw_p31 : lw_okq (⟨"FuguePlanModel", "canNote", "(III)I"⟩, 21) := ⟨⟨by decide +kernel, by decide +kernel⟩, List.mem_of_getElem? (i := 939) (by decide +kernel), List.mem_of_getElem? (i := 1013) (by decide +kernel), List.mem_of_getElem? (i := 1014) (by decide +kernel)⟩
def lw_privs_2 : List (MethodName × Nat) := [(⟨"FuguePlan$Reader", "fail", "(I)V"⟩, 9), (⟨"FuguePlan$Reader", "open", "(I)V"⟩, 9), (⟨"FuguePlan$Reader", "parseLine", "()V"⟩, 9), (⟨"FuguePlan$Reader", "parseNumber", "(Z)V"⟩, 9), (⟨"FuguePlan$Reader", "take", "(I)V"⟩, 9), (⟨"FuguePlan$Reader", "isNext", "(I)Z"⟩, 9), (⟨"FuguePlan$Reader", "parseNote", "()V"⟩, 9), (⟨"FuguePlan$Reader", "parseEntry", "()V"⟩, 9), (⟨"FuguePlan$Reader", "parseKeys", "()V"⟩, 9), (⟨"FuguePlan$Reader", "isFigureNext", "()Z"⟩, 9), (⟨"FuguePlan$Reader", "parseEnd", "()V"⟩, 9), (⟨"FuguePlan", "isDone", "(I)Z"⟩, 14), (⟨"FuguePlan", "lineIsDone", "(II)Z"⟩, 14), (⟨"FuguePlan", "visitsAreDone", "(II)Z"⟩, 14), (⟨"FuguePlan", "lineDigest", "(JI)J"⟩, 14), (⟨"FuguePlanModel", "canNote", "(III)I"⟩, 21)]
theorem lw_r2 : ∀ q ∈ lw_privs_2, lw_okq q := List.forall_mem_cons.mpr ⟨lw_p16, List.forall_mem_cons.mpr ⟨lw_p17, List.forall_mem_cons.mpr ⟨lw_p18, List.forall_mem_cons.mpr ⟨lw_p19, List.forall_mem_cons.mpr ⟨lw_p20, List.forall_mem_cons.mpr ⟨lw_p21, List.forall_mem_cons.mpr ⟨lw_p22, List.forall_mem_cons.mpr ⟨lw_p23, List.forall_mem_cons.mpr ⟨lw_p24, List.forall_mem_cons.mpr ⟨lw_p25, List.forall_mem_cons.mpr ⟨lw_p26, List.forall_mem_cons.mpr ⟨lw_p27, List.forall_mem_cons.mpr ⟨lw_p28, List.forall_mem_cons.mpr ⟨lw_p29, List.forall_mem_cons.mpr ⟨lw_p30, List.forall_mem_cons.mpr ⟨lw_p31, fun _ h => absurd h List.not_mem_nil⟩⟩⟩⟩⟩⟩⟩⟩⟩⟩⟩⟩⟩⟩⟩⟩
theorem lw_p32 : lw_okq (⟨"FuguePlanModel", "entered", "(I)I"⟩, 21) := ⟨⟨by decide +kernel, by decide +kernel⟩, List.mem_of_getElem? (i := 939) (by decide +kernel), List.mem_of_getElem? (i := 1026) (by decide +kernel), List.mem_of_getElem? (i := 1027) (by decide +kernel)⟩
theorem lw_p33 : lw_okq (⟨"FuguePlanModel", "of", "(II)I"⟩, 21) := ⟨⟨by decide +kernel, by decide +kernel⟩, List.mem_of_getElem? (i := 939) (by decide +kernel), List.mem_of_getElem? (i := 1030) (by decide +kernel), List.mem_of_getElem? (i := 1031) (by decide +kernel)⟩
theorem lw_p34 : lw_okq (⟨"FuguePlanModel", "notes", "(I)I"⟩, 21) := ⟨⟨by decide +kernel, by decide +kernel⟩, List.mem_of_getElem? (i := 939) (by decide +kernel), List.mem_of_getElem? (i := 1034) (by decide +kernel), List.mem_of_getElem? (i := 1035) (by decide +kernel)⟩
theorem lw_p35 : lw_okq (⟨"FuguePlanModel", "refuses", "(I)I"⟩, 21) := ⟨⟨by decide +kernel, by decide +kernel⟩, List.mem_of_getElem? (i := 939) (by decide +kernel), List.mem_of_getElem? (i := 1038) (by decide +kernel), List.mem_of_getElem? (i := 1039) (by decide +kernel)⟩
theorem lw_p36 : lw_okq (⟨"FuguePlanModel", "keep", "()V"⟩, 21) := ⟨⟨by decide +kernel, by decide +kernel⟩, List.mem_of_getElem? (i := 939) (by decide +kernel), List.mem_of_getElem? (i := 1042) (by decide +kernel), List.mem_of_getElem? (i := 1043) (by decide +kernel)⟩
theorem lw_p37 : lw_okq (⟨"FuguePlanModel", "noteNow", "(III)I"⟩, 21) := ⟨⟨by decide +kernel, by decide +kernel⟩, List.mem_of_getElem? (i := 939) (by decide +kernel), List.mem_of_getElem? (i := 1046) (by decide +kernel), List.mem_of_getElem? (i := 1047) (by decide +kernel)⟩
theorem lw_p38 : lw_okq (⟨"FuguePlanModel", "plain", "(II)I"⟩, 21) := ⟨⟨by decide +kernel, by decide +kernel⟩, List.mem_of_getElem? (i := 939) (by decide +kernel), List.mem_of_getElem? (i := 1054) (by decide +kernel), List.mem_of_getElem? (i := 1055) (by decide +kernel)⟩
theorem lw_p39 : lw_okq (⟨"FuguePlanModel", "ticks", "(II)I"⟩, 21) := ⟨⟨by decide +kernel, by decide +kernel⟩, List.mem_of_getElem? (i := 939) (by decide +kernel), List.mem_of_getElem? (i := 1058) (by decide +kernel), List.mem_of_getElem? (i := 1059) (by decide +kernel)⟩
theorem lw_p40 : lw_okq (⟨"FuguePlanModel", "canEmpty", "(I)I"⟩, 21) := ⟨⟨by decide +kernel, by decide +kernel⟩, List.mem_of_getElem? (i := 939) (by decide +kernel), List.mem_of_getElem? (i := 1066) (by decide +kernel), List.mem_of_getElem? (i := 1067) (by decide +kernel)⟩
theorem lw_p41 : lw_okq (⟨"FuguePlanModel", "emptyNow", "(I)I"⟩, 21) := ⟨⟨by decide +kernel, by decide +kernel⟩, List.mem_of_getElem? (i := 939) (by decide +kernel), List.mem_of_getElem? (i := 1070) (by decide +kernel), List.mem_of_getElem? (i := 1071) (by decide +kernel)⟩
theorem lw_p42 : lw_okq (⟨"FuguePlanModel", "length", "(I)I"⟩, 21) := ⟨⟨by decide +kernel, by decide +kernel⟩, List.mem_of_getElem? (i := 939) (by decide +kernel), List.mem_of_getElem? (i := 1086) (by decide +kernel), List.mem_of_getElem? (i := 1087) (by decide +kernel)⟩
theorem lw_p43 : lw_okq (⟨"FuguePlanModel", "setNow", "(II)I"⟩, 21) := ⟨⟨by decide +kernel, by decide +kernel⟩, List.mem_of_getElem? (i := 939) (by decide +kernel), List.mem_of_getElem? (i := 1100) (by decide +kernel), List.mem_of_getElem? (i := 1101) (by decide +kernel)⟩
theorem lw_p44 : lw_okq (⟨"FuguePlanModel", "noteNow4", "(III)I"⟩, 21) := ⟨⟨by decide +kernel, by decide +kernel⟩, List.mem_of_getElem? (i := 939) (by decide +kernel), List.mem_of_getElem? (i := 1108) (by decide +kernel), List.mem_of_getElem? (i := 1109) (by decide +kernel)⟩
theorem lw_p45 : lw_okq (⟨"FuguePlanModel", "begin", "(II)I"⟩, 21) := ⟨⟨by decide +kernel, by decide +kernel⟩, List.mem_of_getElem? (i := 939) (by decide +kernel), List.mem_of_getElem? (i := 1112) (by decide +kernel), List.mem_of_getElem? (i := 1113) (by decide +kernel)⟩
theorem lw_p46 : lw_okq (⟨"FuguePlanModel", "answered", "(II)I"⟩, 21) := ⟨⟨by decide +kernel, by decide +kernel⟩, List.mem_of_getElem? (i := 939) (by decide +kernel), List.mem_of_getElem? (i := 1116) (by decide +kernel), List.mem_of_getElem? (i := 1117) (by decide +kernel)⟩
theorem lw_p47 : lw_okq (⟨"FuguePlanModel", "lineNow", "(II)I"⟩, 21) := ⟨⟨by decide +kernel, by decide +kernel⟩, List.mem_of_getElem? (i := 939) (by decide +kernel), List.mem_of_getElem? (i := 1127) (by decide +kernel), List.mem_of_getElem? (i := 1128) (by decide +kernel)⟩
def lw_privs_3 : List (MethodName × Nat) := [(⟨"FuguePlanModel", "entered", "(I)I"⟩, 21), (⟨"FuguePlanModel", "of", "(II)I"⟩, 21), (⟨"FuguePlanModel", "notes", "(I)I"⟩, 21), (⟨"FuguePlanModel", "refuses", "(I)I"⟩, 21), (⟨"FuguePlanModel", "keep", "()V"⟩, 21), (⟨"FuguePlanModel", "noteNow", "(III)I"⟩, 21), (⟨"FuguePlanModel", "plain", "(II)I"⟩, 21), (⟨"FuguePlanModel", "ticks", "(II)I"⟩, 21), (⟨"FuguePlanModel", "canEmpty", "(I)I"⟩, 21), (⟨"FuguePlanModel", "emptyNow", "(I)I"⟩, 21), (⟨"FuguePlanModel", "length", "(I)I"⟩, 21), (⟨"FuguePlanModel", "setNow", "(II)I"⟩, 21), (⟨"FuguePlanModel", "noteNow4", "(III)I"⟩, 21), (⟨"FuguePlanModel", "begin", "(II)I"⟩, 21), (⟨"FuguePlanModel", "answered", "(II)I"⟩, 21), (⟨"FuguePlanModel", "lineNow", "(II)I"⟩, 21)]
theorem lw_r3 : ∀ q ∈ lw_privs_3, lw_okq q := List.forall_mem_cons.mpr ⟨lw_p32, List.forall_mem_cons.mpr ⟨lw_p33, List.forall_mem_cons.mpr ⟨lw_p34, List.forall_mem_cons.mpr ⟨lw_p35, List.forall_mem_cons.mpr ⟨lw_p36, List.forall_mem_cons.mpr ⟨lw_p37, List.forall_mem_cons.mpr ⟨lw_p38, List.forall_mem_cons.mpr ⟨lw_p39, List.forall_mem_cons.mpr ⟨lw_p40, List.forall_mem_cons.mpr ⟨lw_p41, List.forall_mem_cons.mpr ⟨lw_p42, List.forall_mem_cons.mpr ⟨lw_p43, List.forall_mem_cons.mpr ⟨lw_p44, List.forall_mem_cons.mpr ⟨lw_p45, List.forall_mem_cons.mpr ⟨lw_p46, List.forall_mem_cons.mpr ⟨lw_p47, fun _ h => absurd h List.not_mem_nil⟩⟩⟩⟩⟩⟩⟩⟩⟩⟩⟩⟩⟩⟩⟩⟩
theorem lw_p48 : lw_okq (⟨"FuguePlanModel", "bound", "(IZ)I"⟩, 21) := ⟨⟨by decide +kernel, by decide +kernel⟩, List.mem_of_getElem? (i := 939) (by decide +kernel), List.mem_of_getElem? (i := 1131) (by decide +kernel), List.mem_of_getElem? (i := 1132) (by decide +kernel)⟩
theorem lw_p49 : lw_okq (⟨"FuguePlanModel", "bad", "(I)I"⟩, 21) := ⟨⟨by decide +kernel, by decide +kernel⟩, List.mem_of_getElem? (i := 939) (by decide +kernel), List.mem_of_getElem? (i := 1141) (by decide +kernel), List.mem_of_getElem? (i := 1142) (by decide +kernel)⟩
theorem lw_p50 : lw_okq (⟨"FuguePlanModel", "formed", "(III)I"⟩, 21) := ⟨⟨by decide +kernel, by decide +kernel⟩, List.mem_of_getElem? (i := 939) (by decide +kernel), List.mem_of_getElem? (i := 1145) (by decide +kernel), List.mem_of_getElem? (i := 1146) (by decide +kernel)⟩
theorem lw_p51 : lw_okq (⟨"FuguePlanModel", "canEnter", "(IIIII)I"⟩, 21) := ⟨⟨by decide +kernel, by decide +kernel⟩, List.mem_of_getElem? (i := 939) (by decide +kernel), List.mem_of_getElem? (i := 1153) (by decide +kernel), List.mem_of_getElem? (i := 1154) (by decide +kernel)⟩
theorem lw_p52 : lw_okq (⟨"FuguePlanModel", "lasts", "(II)I"⟩, 21) := ⟨⟨by decide +kernel, by decide +kernel⟩, List.mem_of_getElem? (i := 939) (by decide +kernel), List.mem_of_getElem? (i := 1158) (by decide +kernel), List.mem_of_getElem? (i := 1159) (by decide +kernel)⟩
theorem lw_p53 : lw_okq (⟨"FuguePlanModel", "enterNow", "(IIIII)I"⟩, 21) := ⟨⟨by decide +kernel, by decide +kernel⟩, List.mem_of_getElem? (i := 939) (by decide +kernel), List.mem_of_getElem? (i := 1162) (by decide +kernel), List.mem_of_getElem? (i := 1163) (by decide +kernel)⟩
theorem lw_p54 : lw_okq (⟨"FuguePlanModel", "isEntry", "(I)Z"⟩, 21) := ⟨⟨by decide +kernel, by decide +kernel⟩, List.mem_of_getElem? (i := 939) (by decide +kernel), List.mem_of_getElem? (i := 1170) (by decide +kernel), List.mem_of_getElem? (i := 1171) (by decide +kernel)⟩
theorem lw_p55 : lw_okq (⟨"FuguePlanModel", "entryNow", "(II)I"⟩, 21) := ⟨⟨by decide +kernel, by decide +kernel⟩, List.mem_of_getElem? (i := 939) (by decide +kernel), List.mem_of_getElem? (i := 1179) (by decide +kernel), List.mem_of_getElem? (i := 1180) (by decide +kernel)⟩
theorem lw_p56 : lw_okq (⟨"FuguePlanModel", "heardOf", "(II)I"⟩, 21) := ⟨⟨by decide +kernel, by decide +kernel⟩, List.mem_of_getElem? (i := 939) (by decide +kernel), List.mem_of_getElem? (i := 1187) (by decide +kernel), List.mem_of_getElem? (i := 1188) (by decide +kernel)⟩
theorem lw_p57 : lw_okq (⟨"FuguePlanModel", "heard", "([II)I"⟩, 21) := ⟨⟨by decide +kernel, by decide +kernel⟩, List.mem_of_getElem? (i := 939) (by decide +kernel), List.mem_of_getElem? (i := 1194) (by decide +kernel), List.mem_of_getElem? (i := 1195) (by decide +kernel)⟩
theorem lw_p58 : lw_okq (⟨"FuguePlanModel", "areTwo", "(II)Z"⟩, 21) := ⟨⟨by decide +kernel, by decide +kernel⟩, List.mem_of_getElem? (i := 939) (by decide +kernel), List.mem_of_getElem? (i := 1202) (by decide +kernel), List.mem_of_getElem? (i := 1203) (by decide +kernel)⟩
theorem lw_p59 : lw_okq (⟨"FuguePlanModel", "faultsOf", "(I)I"⟩, 21) := ⟨⟨by decide +kernel, by decide +kernel⟩, List.mem_of_getElem? (i := 939) (by decide +kernel), List.mem_of_getElem? (i := 1206) (by decide +kernel), List.mem_of_getElem? (i := 1207) (by decide +kernel)⟩
theorem lw_p60 : lw_okq (⟨"FuguePlanModel", "countsAll", "()V"⟩, 21) := ⟨⟨by decide +kernel, by decide +kernel⟩, List.mem_of_getElem? (i := 939) (by decide +kernel), List.mem_of_getElem? (i := 1210) (by decide +kernel), List.mem_of_getElem? (i := 1211) (by decide +kernel)⟩
theorem lw_p61 : lw_okq (⟨"FuguePlanModel", "faultsAt", "(I)I"⟩, 21) := ⟨⟨by decide +kernel, by decide +kernel⟩, List.mem_of_getElem? (i := 939) (by decide +kernel), List.mem_of_getElem? (i := 1214) (by decide +kernel), List.mem_of_getElem? (i := 1215) (by decide +kernel)⟩
theorem lw_p62 : lw_okq (⟨"FuguePlanModel", "allNow", "(I)I"⟩, 21) := ⟨⟨by decide +kernel, by decide +kernel⟩, List.mem_of_getElem? (i := 939) (by decide +kernel), List.mem_of_getElem? (i := 1222) (by decide +kernel), List.mem_of_getElem? (i := 1223) (by decide +kernel)⟩
theorem lw_p63 : lw_okq (⟨"FuguePlanModel", "end", "()I"⟩, 21) := ⟨⟨by decide +kernel, by decide +kernel⟩, List.mem_of_getElem? (i := 939) (by decide +kernel), List.mem_of_getElem? (i := 1226) (by decide +kernel), List.mem_of_getElem? (i := 1227) (by decide +kernel)⟩
def lw_privs_4 : List (MethodName × Nat) := [(⟨"FuguePlanModel", "bound", "(IZ)I"⟩, 21), (⟨"FuguePlanModel", "bad", "(I)I"⟩, 21), (⟨"FuguePlanModel", "formed", "(III)I"⟩, 21), (⟨"FuguePlanModel", "canEnter", "(IIIII)I"⟩, 21), (⟨"FuguePlanModel", "lasts", "(II)I"⟩, 21), (⟨"FuguePlanModel", "enterNow", "(IIIII)I"⟩, 21), (⟨"FuguePlanModel", "isEntry", "(I)Z"⟩, 21), (⟨"FuguePlanModel", "entryNow", "(II)I"⟩, 21), (⟨"FuguePlanModel", "heardOf", "(II)I"⟩, 21), (⟨"FuguePlanModel", "heard", "([II)I"⟩, 21), (⟨"FuguePlanModel", "areTwo", "(II)Z"⟩, 21), (⟨"FuguePlanModel", "faultsOf", "(I)I"⟩, 21), (⟨"FuguePlanModel", "countsAll", "()V"⟩, 21), (⟨"FuguePlanModel", "faultsAt", "(I)I"⟩, 21), (⟨"FuguePlanModel", "allNow", "(I)I"⟩, 21), (⟨"FuguePlanModel", "end", "()I"⟩, 21)]
theorem lw_r4 : ∀ q ∈ lw_privs_4, lw_okq q := List.forall_mem_cons.mpr ⟨lw_p48, List.forall_mem_cons.mpr ⟨lw_p49, List.forall_mem_cons.mpr ⟨lw_p50, List.forall_mem_cons.mpr ⟨lw_p51, List.forall_mem_cons.mpr ⟨lw_p52, List.forall_mem_cons.mpr ⟨lw_p53, List.forall_mem_cons.mpr ⟨lw_p54, List.forall_mem_cons.mpr ⟨lw_p55, List.forall_mem_cons.mpr ⟨lw_p56, List.forall_mem_cons.mpr ⟨lw_p57, List.forall_mem_cons.mpr ⟨lw_p58, List.forall_mem_cons.mpr ⟨lw_p59, List.forall_mem_cons.mpr ⟨lw_p60, List.forall_mem_cons.mpr ⟨lw_p61, List.forall_mem_cons.mpr ⟨lw_p62, List.forall_mem_cons.mpr ⟨lw_p63, fun _ h => absurd h List.not_mem_nil⟩⟩⟩⟩⟩⟩⟩⟩⟩⟩⟩⟩⟩⟩⟩⟩
theorem lw_p64 : lw_okq (⟨"FuguePlanModel", "most", "()I"⟩, 21) := ⟨⟨by decide +kernel, by decide +kernel⟩, List.mem_of_getElem? (i := 939) (by decide +kernel), List.mem_of_getElem? (i := 1230) (by decide +kernel), List.mem_of_getElem? (i := 1231) (by decide +kernel)⟩
theorem lw_p65 : lw_okq (⟨"FuguePlanModel", "pairAt", "(II)I"⟩, 21) := ⟨⟨by decide +kernel, by decide +kernel⟩, List.mem_of_getElem? (i := 939) (by decide +kernel), List.mem_of_getElem? (i := 1239) (by decide +kernel), List.mem_of_getElem? (i := 1240) (by decide +kernel)⟩
theorem lw_p66 : lw_okq (⟨"FuguePlanModel", "stretches", "(IIII)V"⟩, 21) := ⟨⟨by decide +kernel, by decide +kernel⟩, List.mem_of_getElem? (i := 939) (by decide +kernel), List.mem_of_getElem? (i := 1250) (by decide +kernel), List.mem_of_getElem? (i := 1251) (by decide +kernel)⟩
theorem lw_p67 : lw_okq (⟨"FuguePlanModel", "laysRows", "(II)V"⟩, 21) := ⟨⟨by decide +kernel, by decide +kernel⟩, List.mem_of_getElem? (i := 939) (by decide +kernel), List.mem_of_getElem? (i := 1258) (by decide +kernel), List.mem_of_getElem? (i := 1259) (by decide +kernel)⟩
theorem lw_p68 : lw_okq (⟨"FuguePlanModel", "isFit", "(III)Z"⟩, 21) := ⟨⟨by decide +kernel, by decide +kernel⟩, List.mem_of_getElem? (i := 939) (by decide +kernel), List.mem_of_getElem? (i := 1262) (by decide +kernel), List.mem_of_getElem? (i := 1263) (by decide +kernel)⟩
theorem lw_p69 : lw_okq (⟨"FuguePlanModel", "closestOf", "(I)I"⟩, 21) := ⟨⟨by decide +kernel, by decide +kernel⟩, List.mem_of_getElem? (i := 939) (by decide +kernel), List.mem_of_getElem? (i := 1270) (by decide +kernel), List.mem_of_getElem? (i := 1271) (by decide +kernel)⟩
theorem lw_p70 : lw_okq (⟨"FuguePlanModel", "inverts", "(III)V"⟩, 21) := ⟨⟨by decide +kernel, by decide +kernel⟩, List.mem_of_getElem? (i := 939) (by decide +kernel), List.mem_of_getElem? (i := 1279) (by decide +kernel), List.mem_of_getElem? (i := 1280) (by decide +kernel)⟩
theorem lw_p71 : lw_okq (⟨"FuguePlanModel", "orderFaults", "(II)I"⟩, 21) := ⟨⟨by decide +kernel, by decide +kernel⟩, List.mem_of_getElem? (i := 939) (by decide +kernel), List.mem_of_getElem? (i := 1300) (by decide +kernel), List.mem_of_getElem? (i := 1301) (by decide +kernel)⟩
theorem lw_p72 : lw_okq (⟨"FuguePlanModel", "sound", "([IIII)Z"⟩, 21) := ⟨⟨by decide +kernel, by decide +kernel⟩, List.mem_of_getElem? (i := 939) (by decide +kernel), List.mem_of_getElem? (i := 1304) (by decide +kernel), List.mem_of_getElem? (i := 1305) (by decide +kernel)⟩
theorem lw_p73 : lw_okq (⟨"FuguePlanModel", "bestOf", "(I)I"⟩, 21) := ⟨⟨by decide +kernel, by decide +kernel⟩, List.mem_of_getElem? (i := 939) (by decide +kernel), List.mem_of_getElem? (i := 1312) (by decide +kernel), List.mem_of_getElem? (i := 1313) (by decide +kernel)⟩
theorem lw_p74 : lw_okq (⟨"FuguePlanModel", "wayOf", "(II)I"⟩, 21) := ⟨⟨by decide +kernel, by decide +kernel⟩, List.mem_of_getElem? (i := 939) (by decide +kernel), List.mem_of_getElem? (i := 1327) (by decide +kernel), List.mem_of_getElem? (i := 1328) (by decide +kernel)⟩
theorem lw_p75 : lw_okq (⟨"FuguePlanModel", "laysWays", "(I)V"⟩, 21) := ⟨⟨by decide +kernel, by decide +kernel⟩, List.mem_of_getElem? (i := 939) (by decide +kernel), List.mem_of_getElem? (i := 1331) (by decide +kernel), List.mem_of_getElem? (i := 1332) (by decide +kernel)⟩
theorem lw_p76 : lw_okq (⟨"FuguePlanModel", "canVisit", "(I)I"⟩, 21) := ⟨⟨by decide +kernel, by decide +kernel⟩, List.mem_of_getElem? (i := 939) (by decide +kernel), List.mem_of_getElem? (i := 1346) (by decide +kernel), List.mem_of_getElem? (i := 1347) (by decide +kernel)⟩
theorem lw_p77 : lw_okq (⟨"FuguePlanModel", "visited", "(I)I"⟩, 21) := ⟨⟨by decide +kernel, by decide +kernel⟩, List.mem_of_getElem? (i := 939) (by decide +kernel), List.mem_of_getElem? (i := 1350) (by decide +kernel), List.mem_of_getElem? (i := 1351) (by decide +kernel)⟩
theorem lw_p78 : lw_okq (⟨"FuguePlanModel", "visitNow", "(I)I"⟩, 21) := ⟨⟨by decide +kernel, by decide +kernel⟩, List.mem_of_getElem? (i := 939) (by decide +kernel), List.mem_of_getElem? (i := 1354) (by decide +kernel), List.mem_of_getElem? (i := 1355) (by decide +kernel)⟩
theorem lw_p79 : lw_okq (⟨"FuguePlanModel", "bestPath", "()I"⟩, 21) := ⟨⟨by decide +kernel, by decide +kernel⟩, List.mem_of_getElem? (i := 939) (by decide +kernel), List.mem_of_getElem? (i := 1366) (by decide +kernel), List.mem_of_getElem? (i := 1367) (by decide +kernel)⟩
def lw_privs_5 : List (MethodName × Nat) := [(⟨"FuguePlanModel", "most", "()I"⟩, 21), (⟨"FuguePlanModel", "pairAt", "(II)I"⟩, 21), (⟨"FuguePlanModel", "stretches", "(IIII)V"⟩, 21), (⟨"FuguePlanModel", "laysRows", "(II)V"⟩, 21), (⟨"FuguePlanModel", "isFit", "(III)Z"⟩, 21), (⟨"FuguePlanModel", "closestOf", "(I)I"⟩, 21), (⟨"FuguePlanModel", "inverts", "(III)V"⟩, 21), (⟨"FuguePlanModel", "orderFaults", "(II)I"⟩, 21), (⟨"FuguePlanModel", "sound", "([IIII)Z"⟩, 21), (⟨"FuguePlanModel", "bestOf", "(I)I"⟩, 21), (⟨"FuguePlanModel", "wayOf", "(II)I"⟩, 21), (⟨"FuguePlanModel", "laysWays", "(I)V"⟩, 21), (⟨"FuguePlanModel", "canVisit", "(I)I"⟩, 21), (⟨"FuguePlanModel", "visited", "(I)I"⟩, 21), (⟨"FuguePlanModel", "visitNow", "(I)I"⟩, 21), (⟨"FuguePlanModel", "bestPath", "()I"⟩, 21)]
theorem lw_r5 : ∀ q ∈ lw_privs_5, lw_okq q := List.forall_mem_cons.mpr ⟨lw_p64, List.forall_mem_cons.mpr ⟨lw_p65, List.forall_mem_cons.mpr ⟨lw_p66, List.forall_mem_cons.mpr ⟨lw_p67, List.forall_mem_cons.mpr ⟨lw_p68, List.forall_mem_cons.mpr ⟨lw_p69, List.forall_mem_cons.mpr ⟨lw_p70, List.forall_mem_cons.mpr ⟨lw_p71, List.forall_mem_cons.mpr ⟨lw_p72, List.forall_mem_cons.mpr ⟨lw_p73, List.forall_mem_cons.mpr ⟨lw_p74, List.forall_mem_cons.mpr ⟨lw_p75, List.forall_mem_cons.mpr ⟨lw_p76, List.forall_mem_cons.mpr ⟨lw_p77, List.forall_mem_cons.mpr ⟨lw_p78, List.forall_mem_cons.mpr ⟨lw_p79, fun _ h => absurd h List.not_mem_nil⟩⟩⟩⟩⟩⟩⟩⟩⟩⟩⟩⟩⟩⟩⟩⟩
theorem lw_p80 : lw_okq (⟨"FuguePlanModel", "laysBetween", "()V"⟩, 21) := ⟨⟨by decide +kernel, by decide +kernel⟩, List.mem_of_getElem? (i := 939) (by decide +kernel), List.mem_of_getElem? (i := 1370) (by decide +kernel), List.mem_of_getElem? (i := 1371) (by decide +kernel)⟩
theorem lw_p81 : lw_okq (⟨"FuguePlanModel", "keyAt", "(I)I"⟩, 21) := ⟨⟨by decide +kernel, by decide +kernel⟩, List.mem_of_getElem? (i := 939) (by decide +kernel), List.mem_of_getElem? (i := 1374) (by decide +kernel), List.mem_of_getElem? (i := 1375) (by decide +kernel)⟩
theorem lw_p82 : lw_okq (⟨"FuguePlanModel", "isRow", "(I)Z"⟩, 21) := ⟨⟨by decide +kernel, by decide +kernel⟩, List.mem_of_getElem? (i := 939) (by decide +kernel), List.mem_of_getElem? (i := 1378) (by decide +kernel), List.mem_of_getElem? (i := 1379) (by decide +kernel)⟩
theorem lw_p83 : lw_okq (⟨"FuguePlanModel", "isLess", "()Z"⟩, 21) := ⟨⟨by decide +kernel, by decide +kernel⟩, List.mem_of_getElem? (i := 939) (by decide +kernel), List.mem_of_getElem? (i := 1382) (by decide +kernel), List.mem_of_getElem? (i := 1383) (by decide +kernel)⟩
theorem lw_p84 : lw_okq (⟨"FuguePlanModel", "readsOrder", "(Z)Z"⟩, 21) := ⟨⟨by decide +kernel, by decide +kernel⟩, List.mem_of_getElem? (i := 939) (by decide +kernel), List.mem_of_getElem? (i := 1399) (by decide +kernel), List.mem_of_getElem? (i := 1400) (by decide +kernel)⟩
theorem lw_p85 : lw_okq (⟨"FuguePlanModel", "here", "()I"⟩, 21) := ⟨⟨by decide +kernel, by decide +kernel⟩, List.mem_of_getElem? (i := 939) (by decide +kernel), List.mem_of_getElem? (i := 1403) (by decide +kernel), List.mem_of_getElem? (i := 1404) (by decide +kernel)⟩
theorem lw_p86 : lw_okq (⟨"FuguePlanModel", "readsLine", "(Z)Z"⟩, 21) := ⟨⟨by decide +kernel, by decide +kernel⟩, List.mem_of_getElem? (i := 939) (by decide +kernel), List.mem_of_getElem? (i := 1407) (by decide +kernel), List.mem_of_getElem? (i := 1408) (by decide +kernel)⟩
theorem lw_p87 : lw_okq (⟨"FuguePlanModel", "takesAll", "(II)Z"⟩, 21) := ⟨⟨by decide +kernel, by decide +kernel⟩, List.mem_of_getElem? (i := 939) (by decide +kernel), List.mem_of_getElem? (i := 1411) (by decide +kernel), List.mem_of_getElem? (i := 1412) (by decide +kernel)⟩
theorem lw_p88 : lw_okq (⟨"FuguePlanModel", "takes", "(Z)Z"⟩, 21) := ⟨⟨by decide +kernel, by decide +kernel⟩, List.mem_of_getElem? (i := 939) (by decide +kernel), List.mem_of_getElem? (i := 1415) (by decide +kernel), List.mem_of_getElem? (i := 1416) (by decide +kernel)⟩
theorem lw_p89 : lw_okq (⟨"FuguePlanModel", "isFigure", "(I)Z"⟩, 21) := ⟨⟨by decide +kernel, by decide +kernel⟩, List.mem_of_getElem? (i := 939) (by decide +kernel), List.mem_of_getElem? (i := 1419) (by decide +kernel), List.mem_of_getElem? (i := 1420) (by decide +kernel)⟩
theorem lw_p90 : lw_okq (⟨"FuguePlanModel", "readsNotes", "(IZ)Z"⟩, 21) := ⟨⟨by decide +kernel, by decide +kernel⟩, List.mem_of_getElem? (i := 939) (by decide +kernel), List.mem_of_getElem? (i := 1425) (by decide +kernel), List.mem_of_getElem? (i := 1426) (by decide +kernel)⟩
theorem lw_p91 : lw_okq (⟨"FuguePlanModel", "readsEntry", "(Z)Z"⟩, 21) := ⟨⟨by decide +kernel, by decide +kernel⟩, List.mem_of_getElem? (i := 939) (by decide +kernel), List.mem_of_getElem? (i := 1429) (by decide +kernel), List.mem_of_getElem? (i := 1430) (by decide +kernel)⟩
theorem lw_p92 : lw_okq (⟨"FuguePlanModel", "readsKeys", "(Z)Z"⟩, 21) := ⟨⟨by decide +kernel, by decide +kernel⟩, List.mem_of_getElem? (i := 939) (by decide +kernel), List.mem_of_getElem? (i := 1433) (by decide +kernel), List.mem_of_getElem? (i := 1434) (by decide +kernel)⟩
theorem lw_p93 : lw_okq (⟨"FuguePlanModel", "readsSetting", "(IZ)Z"⟩, 21) := ⟨⟨by decide +kernel, by decide +kernel⟩, List.mem_of_getElem? (i := 939) (by decide +kernel), List.mem_of_getElem? (i := 1437) (by decide +kernel), List.mem_of_getElem? (i := 1438) (by decide +kernel)⟩
theorem lw_p94 : lw_okq (⟨"FuguePlanModel", "keepsAside", "()V"⟩, 21) := ⟨⟨by decide +kernel, by decide +kernel⟩, List.mem_of_getElem? (i := 939) (by decide +kernel), List.mem_of_getElem? (i := 1441) (by decide +kernel), List.mem_of_getElem? (i := 1442) (by decide +kernel)⟩
theorem lw_p95 : lw_okq (⟨"FuguePlanModel", "toldOf", "(I)I"⟩, 21) := ⟨⟨by decide +kernel, by decide +kernel⟩, List.mem_of_getElem? (i := 939) (by decide +kernel), List.mem_of_getElem? (i := 1453) (by decide +kernel), List.mem_of_getElem? (i := 1454) (by decide +kernel)⟩
def lw_privs_6 : List (MethodName × Nat) := [(⟨"FuguePlanModel", "laysBetween", "()V"⟩, 21), (⟨"FuguePlanModel", "keyAt", "(I)I"⟩, 21), (⟨"FuguePlanModel", "isRow", "(I)Z"⟩, 21), (⟨"FuguePlanModel", "isLess", "()Z"⟩, 21), (⟨"FuguePlanModel", "readsOrder", "(Z)Z"⟩, 21), (⟨"FuguePlanModel", "here", "()I"⟩, 21), (⟨"FuguePlanModel", "readsLine", "(Z)Z"⟩, 21), (⟨"FuguePlanModel", "takesAll", "(II)Z"⟩, 21), (⟨"FuguePlanModel", "takes", "(Z)Z"⟩, 21), (⟨"FuguePlanModel", "isFigure", "(I)Z"⟩, 21), (⟨"FuguePlanModel", "readsNotes", "(IZ)Z"⟩, 21), (⟨"FuguePlanModel", "readsEntry", "(Z)Z"⟩, 21), (⟨"FuguePlanModel", "readsKeys", "(Z)Z"⟩, 21), (⟨"FuguePlanModel", "readsSetting", "(IZ)Z"⟩, 21), (⟨"FuguePlanModel", "keepsAside", "()V"⟩, 21), (⟨"FuguePlanModel", "toldOf", "(I)I"⟩, 21)]
theorem lw_r6 : ∀ q ∈ lw_privs_6, lw_okq q := List.forall_mem_cons.mpr ⟨lw_p80, List.forall_mem_cons.mpr ⟨lw_p81, List.forall_mem_cons.mpr ⟨lw_p82, List.forall_mem_cons.mpr ⟨lw_p83, List.forall_mem_cons.mpr ⟨lw_p84, List.forall_mem_cons.mpr ⟨lw_p85, List.forall_mem_cons.mpr ⟨lw_p86, List.forall_mem_cons.mpr ⟨lw_p87, List.forall_mem_cons.mpr ⟨lw_p88, List.forall_mem_cons.mpr ⟨lw_p89, List.forall_mem_cons.mpr ⟨lw_p90, List.forall_mem_cons.mpr ⟨lw_p91, List.forall_mem_cons.mpr ⟨lw_p92, List.forall_mem_cons.mpr ⟨lw_p93, List.forall_mem_cons.mpr ⟨lw_p94, List.forall_mem_cons.mpr ⟨lw_p95, fun _ h => absurd h List.not_mem_nil⟩⟩⟩⟩⟩⟩⟩⟩⟩⟩⟩⟩⟩⟩⟩⟩
def lw_privs : List (MethodName × Nat) := lw_privs_1 ++ (lw_privs_2 ++ (lw_privs_3 ++ (lw_privs_4 ++ (lw_privs_5 ++ (lw_privs_6)))))
def lw_tbl : List Cond := k2_sels lw_privs ++ tables_1
theorem lw_privs_ok : ∀ q ∈ lw_privs, lw_okq q := by
  show ∀ q ∈ lw_privs_1 ++ (lw_privs_2 ++ (lw_privs_3 ++ (lw_privs_4 ++ (lw_privs_5 ++ (lw_privs_6))))), lw_okq q
  exact List.forall_mem_append.mpr ⟨lw_r1, List.forall_mem_append.mpr ⟨lw_r2, List.forall_mem_append.mpr ⟨lw_r3, List.forall_mem_append.mpr ⟨lw_r4, List.forall_mem_append.mpr ⟨lw_r5, lw_r6⟩⟩⟩⟩⟩
end
section
def RX0 : String := "FuguePlan$Chorus"
def TX0 : u_T := fun k => match k with
  | 0 => ("FuguePlan$Chorus", "items", "[LFuguePlan$Sound;", true)
  | _ => ("FuguePlan$Chorus", "count", "I", false)
def tyX0 : Nat → FieldType := fun k => match k with
  | 0 => .array (.object "FuguePlan$Sound")
  | _ => .int
abbrev wsX00 : List Cond := u_ws RX0 TX0 2
theorem nmX0 : ∀ a, a < 2 → ∀ b, b < 2 → a ≠ b → (TX0 a).2.1 ≠ (TX0 b).2.1 := by decide +kernel
theorem tyX0_ok : ∀ k, k < 2 → parseFieldDescriptor (TX0 k).2.2.1 = some (tyX0 k) := by decide +kernel
abbrev cX0_init : ByteArray := prog_2_method_1_code
def yX0_init : MethodName := ⟨RX0, "<init>", "()V"⟩
abbrev cX0_gather : ByteArray := prog_2_method_2_code
def yX0_gather : MethodName := ⟨RX0, "gather", "(LFuguePlan$Plan;LFuguePlan$Entries;)V"⟩
abbrev cX0_stepOf : ByteArray := prog_2_method_3_code
def yX0_stepOf : MethodName := ⟨RX0, "stepOf", "(II)I"⟩
abbrev cX0_end : ByteArray := prog_2_method_4_code
def yX0_end : MethodName := ⟨RX0, "end", "()I"⟩
abbrev cX0_mostAtOnce : ByteArray := prog_2_method_5_code
def yX0_mostAtOnce : MethodName := ⟨RX0, "mostAtOnce", "()I"⟩
abbrev cX0_countFaults : ByteArray := prog_2_method_6_code
def yX0_countFaults : MethodName := ⟨RX0, "countFaults", "(LFuguePlan$Faults;I)V"⟩
abbrev cX0_firstFaultTick : ByteArray := prog_2_method_7_code
def yX0_firstFaultTick : MethodName := ⟨RX0, "firstFaultTick", "(I)I"⟩
abbrev cX0_leastKindAt : ByteArray := prog_2_method_8_code
def yX0_leastKindAt : MethodName := ⟨RX0, "leastKindAt", "(II)I"⟩
abbrev cX0_firstPairAt : ByteArray := prog_2_method_9_code
def yX0_firstPairAt : MethodName := ⟨RX0, "firstPairAt", "(III)I"⟩
def RX1 : String := "FuguePlan$Entries"
def TX1 : u_T := fun k => match k with
  | 0 => ("FuguePlan$Entries", "items", "[LFuguePlan$Entry;", true)
  | _ => ("FuguePlan$Entries", "count", "I", false)
def tyX1 : Nat → FieldType := fun k => match k with
  | 0 => .array (.object "FuguePlan$Entry")
  | _ => .int
abbrev wsX10 : List Cond := u_ws RX1 TX1 2
theorem nmX1 : ∀ a, a < 2 → ∀ b, b < 2 → a ≠ b → (TX1 a).2.1 ≠ (TX1 b).2.1 := by decide +kernel
theorem tyX1_ok : ∀ k, k < 2 → parseFieldDescriptor (TX1 k).2.2.1 = some (tyX1 k) := by decide +kernel
abbrev cX1_init : ByteArray := prog_3_method_1_code
def yX1_init : MethodName := ⟨RX1, "<init>", "()V"⟩
abbrev cX1_copyFrom : ByteArray := prog_3_method_2_code
def yX1_copyFrom : MethodName := ⟨RX1, "copyFrom", "(LFuguePlan$Entries;)V"⟩
abbrev cX1_has : ByteArray := prog_3_method_3_code
def yX1_has : MethodName := ⟨RX1, "has", "(I)Z"⟩
abbrev cX1_isFull : ByteArray := prog_3_method_4_code
def yX1_isFull : MethodName := ⟨RX1, "isFull", "()Z"⟩
abbrev cX1_having : ByteArray := prog_3_method_5_code
def yX1_having : MethodName := ⟨RX1, "having", "(I)I"⟩
abbrev cX1_append : ByteArray := prog_3_method_6_code
def yX1_append : MethodName := ⟨RX1, "append", "(IIIII)V"⟩
abbrev cX1_remove : ByteArray := prog_3_method_7_code
def yX1_remove : MethodName := ⟨RX1, "remove", "(I)V"⟩
def RX2 : String := "FuguePlan$Entry"
def TX2 : u_T := fun k => match k with
  | 0 => ("FuguePlan$Entry", "line", "I", false)
  | 1 => ("FuguePlan$Entry", "form", "I", false)
  | 2 => ("FuguePlan$Entry", "move", "I", false)
  | 3 => ("FuguePlan$Entry", "start", "I", false)
  | _ => ("FuguePlan$Entry", "voice", "I", false)
def tyX2 : Nat → FieldType := fun k => match k with
  | 0 => .int
  | 1 => .int
  | 2 => .int
  | 3 => .int
  | _ => .int
abbrev wsX20 : List Cond := u_ws RX2 TX2 5
theorem nmX2 : ∀ a, a < 5 → ∀ b, b < 5 → a ≠ b → (TX2 a).2.1 ≠ (TX2 b).2.1 := by decide +kernel
theorem tyX2_ok : ∀ k, k < 5 → parseFieldDescriptor (TX2 k).2.2.1 = some (tyX2 k) := by decide +kernel
abbrev cX2_init : ByteArray := prog_4_method_1_code
def yX2_init : MethodName := ⟨RX2, "<init>", "()V"⟩
abbrev cX2_be : ByteArray := prog_4_method_2_code
def yX2_be : MethodName := ⟨RX2, "be", "(IIIII)V"⟩
abbrev cX2_copyFrom : ByteArray := prog_4_method_3_code
def yX2_copyFrom : MethodName := ⟨RX2, "copyFrom", "(LFuguePlan$Entry;)V"⟩
def RX3 : String := "FuguePlan$Faults"
def TX3 : u_T := fun k => match k with
  | 0 => ("FuguePlan$Faults", "clashes", "I", false)
  | 1 => ("FuguePlan$Faults", "crossings", "I", false)
  | _ => ("FuguePlan$Faults", "parallels", "I", false)
def tyX3 : Nat → FieldType := fun k => match k with
  | 0 => .int
  | 1 => .int
  | _ => .int
abbrev wsX30 : List Cond := u_ws RX3 TX3 3
theorem nmX3 : ∀ a, a < 3 → ∀ b, b < 3 → a ≠ b → (TX3 a).2.1 ≠ (TX3 b).2.1 := by decide +kernel
theorem tyX3_ok : ∀ k, k < 3 → parseFieldDescriptor (TX3 k).2.2.1 = some (tyX3 k) := by decide +kernel
abbrev cX3_init : ByteArray := prog_5_method_1_code
def yX3_init : MethodName := ⟨RX3, "<init>", "()V"⟩
abbrev cX3_forget : ByteArray := prog_5_method_2_code
def yX3_forget : MethodName := ⟨RX3, "forget", "()V"⟩
abbrev cX3_number : ByteArray := prog_5_method_3_code
def yX3_number : MethodName := ⟨RX3, "number", "(I)I"⟩
abbrev cX3_addPair : ByteArray := prog_5_method_4_code
def yX3_addPair : MethodName := ⟨RX3, "addPair", "(LFuguePlan$Sound;LFuguePlan$Sound;I)V"⟩
abbrev cX3_kindsAt : ByteArray := prog_5_method_5_code
def yX3_kindsAt : MethodName := ⟨RX3, "kindsAt", "(LFuguePlan$Sound;LFuguePlan$Sound;II)I"⟩
abbrev cX3_isHarsh : ByteArray := prog_5_method_6_code
def yX3_isHarsh : MethodName := ⟨RX3, "isHarsh", "(II)Z"⟩
abbrev cX3_isParallel : ByteArray := prog_5_method_7_code
def yX3_isParallel : MethodName := ⟨RX3, "isParallel", "(IIII)Z"⟩
def RX4 : String := "FuguePlan$History"
def TX4 : u_T := fun k => match k with
  | 0 => ("FuguePlan$History", "kept", "[LFuguePlan$Plan;", true)
  | 1 => ("FuguePlan$History", "newest", "I", false)
  | _ => ("FuguePlan$History", "count", "I", false)
def tyX4 : Nat → FieldType := fun k => match k with
  | 0 => .array (.object "FuguePlan$Plan")
  | 1 => .int
  | _ => .int
abbrev wsX40 : List Cond := u_ws RX4 TX4 3
theorem nmX4 : ∀ a, a < 3 → ∀ b, b < 3 → a ≠ b → (TX4 a).2.1 ≠ (TX4 b).2.1 := by decide +kernel
theorem tyX4_ok : ∀ k, k < 3 → parseFieldDescriptor (TX4 k).2.2.1 = some (tyX4 k) := by decide +kernel
abbrev cX4_init : ByteArray := prog_6_method_1_code
def yX4_init : MethodName := ⟨RX4, "<init>", "()V"⟩
abbrev cX4_keep : ByteArray := prog_6_method_2_code
def yX4_keep : MethodName := ⟨RX4, "keep", "(LFuguePlan$Plan;)V"⟩
abbrev cX4_giveBack : ByteArray := prog_6_method_3_code
def yX4_giveBack : MethodName := ⟨RX4, "giveBack", "(LFuguePlan$Plan;)Z"⟩
def RX5 : String := "FuguePlan$Line"
def TX5 : u_T := fun k => match k with
  | 0 => ("FuguePlan$Line", "steps", "[I", true)
  | 1 => ("FuguePlan$Line", "ticks", "[I", true)
  | _ => ("FuguePlan$Line", "count", "I", false)
def tyX5 : Nat → FieldType := fun k => match k with
  | 0 => .array .int
  | 1 => .array .int
  | _ => .int
abbrev wsX50 : List Cond := u_ws RX5 TX5 3
theorem nmX5 : ∀ a, a < 3 → ∀ b, b < 3 → a ≠ b → (TX5 a).2.1 ≠ (TX5 b).2.1 := by decide +kernel
theorem tyX5_ok : ∀ k, k < 3 → parseFieldDescriptor (TX5 k).2.2.1 = some (tyX5 k) := by decide +kernel
abbrev cX5_init : ByteArray := prog_7_method_1_code
def yX5_init : MethodName := ⟨RX5, "<init>", "()V"⟩
abbrev cX5_copyFrom : ByteArray := prog_7_method_2_code
def yX5_copyFrom : MethodName := ⟨RX5, "copyFrom", "(LFuguePlan$Line;)V"⟩
abbrev cX5_has : ByteArray := prog_7_method_3_code
def yX5_has : MethodName := ⟨RX5, "has", "(I)Z"⟩
abbrev cX5_isEmpty : ByteArray := prog_7_method_4_code
def yX5_isEmpty : MethodName := ⟨RX5, "isEmpty", "()Z"⟩
abbrev cX5_isFull : ByteArray := prog_7_method_5_code
def yX5_isFull : MethodName := ⟨RX5, "isFull", "()Z"⟩
abbrev cX5_append : ByteArray := prog_7_method_6_code
def yX5_append : MethodName := ⟨RX5, "append", "(II)V"⟩
abbrev cX5_remove : ByteArray := prog_7_method_7_code
def yX5_remove : MethodName := ⟨RX5, "remove", "(I)V"⟩
abbrev cX5_stepOf : ByteArray := prog_7_method_8_code
def yX5_stepOf : MethodName := ⟨RX5, "stepOf", "(I)I"⟩
abbrev cX5_ticksOf : ByteArray := prog_7_method_9_code
def yX5_ticksOf : MethodName := ⟨RX5, "ticksOf", "(I)I"⟩
abbrev cX5_tickBefore : ByteArray := prog_7_method_10_code
def yX5_tickBefore : MethodName := ⟨RX5, "tickBefore", "(I)I"⟩
abbrev cX5_length : ByteArray := prog_7_method_11_code
def yX5_length : MethodName := ⟨RX5, "length", "()I"⟩
abbrev cX5_leastStep : ByteArray := prog_7_method_12_code
def yX5_leastStep : MethodName := ⟨RX5, "leastStep", "()I"⟩
abbrev cX5_greatestStep : ByteArray := prog_7_method_13_code
def yX5_greatestStep : MethodName := ⟨RX5, "greatestStep", "()I"⟩
abbrev cX5_formedStep : ByteArray := prog_7_method_14_code
def yX5_formedStep : MethodName := ⟨RX5, "formedStep", "(IIII)I"⟩
abbrev cX5_formedTicks : ByteArray := prog_7_method_15_code
def yX5_formedTicks : MethodName := ⟨RX5, "formedTicks", "(II)I"⟩
def RX6 : String := "FuguePlan$Plan"
def TX6 : u_T := fun k => match k with
  | 0 => ("FuguePlan$Plan", "lines", "[LFuguePlan$Line;", true)
  | 1 => ("FuguePlan$Plan", "entries", "LFuguePlan$Entries;", true)
  | 2 => ("FuguePlan$Plan", "toVisit", "[I", true)
  | 3 => ("FuguePlan$Plan", "visitCount", "I", false)
  | 4 => ("FuguePlan$Plan", "head", "I", false)
  | 5 => ("FuguePlan$Plan", "tonic", "I", false)
  | 6 => ("FuguePlan$Plan", "meter", "I", false)
  | _ => ("FuguePlan$Plan", "home", "I", false)
def tyX6 : Nat → FieldType := fun k => match k with
  | 0 => .array (.object "FuguePlan$Line")
  | 1 => .object "FuguePlan$Entries"
  | 2 => .array .int
  | 3 => .int
  | 4 => .int
  | 5 => .int
  | 6 => .int
  | _ => .int
abbrev wsX60 : List Cond := u_ws RX6 TX6 8
theorem nmX6 : ∀ a, a < 8 → ∀ b, b < 8 → a ≠ b → (TX6 a).2.1 ≠ (TX6 b).2.1 := by decide +kernel
theorem tyX6_ok : ∀ k, k < 8 → parseFieldDescriptor (TX6 k).2.2.1 = some (tyX6 k) := by decide +kernel
abbrev cX6_init : ByteArray := prog_8_method_1_code
def yX6_init : MethodName := ⟨RX6, "<init>", "()V"⟩
abbrev cX6_copyFrom : ByteArray := prog_8_method_2_code
def yX6_copyFrom : MethodName := ⟨RX6, "copyFrom", "(LFuguePlan$Plan;)V"⟩
abbrev cX6_addNote : ByteArray := prog_8_method_3_code
def yX6_addNote : MethodName := ⟨RX6, "addNote", "(III)I"⟩
abbrev cX6_dropNote : ByteArray := prog_8_method_4_code
def yX6_dropNote : MethodName := ⟨RX6, "dropNote", "(II)I"⟩
abbrev cX6_emptyLine : ByteArray := prog_8_method_5_code
def yX6_emptyLine : MethodName := ⟨RX6, "emptyLine", "(I)I"⟩
abbrev cX6_drawLine : ByteArray := prog_8_method_6_code
def yX6_drawLine : MethodName := ⟨RX6, "drawLine", "(III)I"⟩
abbrev cX6_setValue : ByteArray := prog_8_method_7_code
def yX6_setValue : MethodName := ⟨RX6, "setValue", "(II)I"⟩
abbrev cX6_addEntry : ByteArray := prog_8_method_8_code
def yX6_addEntry : MethodName := ⟨RX6, "addEntry", "(IIIII)I"⟩
abbrev cX6_removeEntry : ByteArray := prog_8_method_9_code
def yX6_removeEntry : MethodName := ⟨RX6, "removeEntry", "(I)I"⟩
abbrev cX6_addVisit : ByteArray := prog_8_method_10_code
def yX6_addVisit : MethodName := ⟨RX6, "addVisit", "(I)I"⟩
abbrev cX6_removeVisit : ByteArray := prog_8_method_11_code
def yX6_removeVisit : MethodName := ⟨RX6, "removeVisit", "(I)I"⟩
abbrev cX6_visitOf : ByteArray := prog_8_method_12_code
def yX6_visitOf : MethodName := ⟨RX6, "visitOf", "(I)I"⟩
abbrev cX6_lengthOf : ByteArray := prog_8_method_13_code
def yX6_lengthOf : MethodName := ⟨RX6, "lengthOf", "(II)I"⟩
abbrev cX6_isFree : ByteArray := prog_8_method_14_code
def yX6_isFree : MethodName := ⟨RX6, "isFree", "(III)Z"⟩
abbrev cX6_form : ByteArray := prog_8_method_15_code
def yX6_form : MethodName := ⟨RX6, "form", "(LFuguePlan$Sound;III)V"⟩
def RX7 : String := "FuguePlan$Reader"
def TX7 : u_T := fun k => match k with
  | 0 => ("FuguePlan$Reader", "bytes", "[I", true)
  | 1 => ("FuguePlan$Reader", "letters", "[I", true)
  | 2 => ("FuguePlan$Reader", "starts", "[I", true)
  | 3 => ("FuguePlan$Reader", "numbers", "[I", true)
  | 4 => ("FuguePlan$Reader", "length", "I", false)
  | 5 => ("FuguePlan$Reader", "orders", "I", false)
  | 6 => ("FuguePlan$Reader", "numberCount", "I", false)
  | 7 => ("FuguePlan$Reader", "place", "I", false)
  | _ => ("FuguePlan$Reader", "fault", "I", false)
def tyX7 : Nat → FieldType := fun k => match k with
  | 0 => .array .int
  | 1 => .array .int
  | 2 => .array .int
  | 3 => .array .int
  | 4 => .int
  | 5 => .int
  | 6 => .int
  | 7 => .int
  | _ => .int
abbrev wsX70 : List Cond := u_ws RX7 TX7 9
theorem nmX7 : ∀ a, a < 9 → ∀ b, b < 9 → a ≠ b → (TX7 a).2.1 ≠ (TX7 b).2.1 := by decide +kernel
theorem tyX7_ok : ∀ k, k < 9 → parseFieldDescriptor (TX7 k).2.2.1 = some (tyX7 k) := by decide +kernel
abbrev cX7_init : ByteArray := prog_9_method_1_code
def yX7_init : MethodName := ⟨RX7, "<init>", "()V"⟩
abbrev cX7_append : ByteArray := prog_9_method_2_code
def yX7_append : MethodName := ⟨RX7, "append", "(I)I"⟩
abbrev cX7_letter : ByteArray := prog_9_method_3_code
def yX7_letter : MethodName := ⟨RX7, "letter", "(I)I"⟩
abbrev cX7_firstNumber : ByteArray := prog_9_method_4_code
def yX7_firstNumber : MethodName := ⟨RX7, "firstNumber", "(I)I"⟩
abbrev cX7_number : ByteArray := prog_9_method_5_code
def yX7_number : MethodName := ⟨RX7, "number", "(I)I"⟩
abbrev cX7_parse : ByteArray := prog_9_method_6_code
def yX7_parse : MethodName := ⟨RX7, "parse", "()I"⟩
abbrev cX7_parseOrder : ByteArray := prog_9_method_7_code
def yX7_parseOrder : MethodName := ⟨RX7, "parseOrder", "()V"⟩
abbrev cX7_open : ByteArray := prog_9_method_8_code
def yX7_open : MethodName := ⟨RX7, "open", "(I)V"⟩
abbrev cX7_parseLine : ByteArray := prog_9_method_9_code
def yX7_parseLine : MethodName := ⟨RX7, "parseLine", "()V"⟩
abbrev cX7_parseNote : ByteArray := prog_9_method_10_code
def yX7_parseNote : MethodName := ⟨RX7, "parseNote", "()V"⟩
abbrev cX7_parseEntry : ByteArray := prog_9_method_11_code
def yX7_parseEntry : MethodName := ⟨RX7, "parseEntry", "()V"⟩
abbrev cX7_parseKeys : ByteArray := prog_9_method_12_code
def yX7_parseKeys : MethodName := ⟨RX7, "parseKeys", "()V"⟩
abbrev cX7_parseEnd : ByteArray := prog_9_method_13_code
def yX7_parseEnd : MethodName := ⟨RX7, "parseEnd", "()V"⟩
abbrev cX7_parseNumber : ByteArray := prog_9_method_14_code
def yX7_parseNumber : MethodName := ⟨RX7, "parseNumber", "(Z)V"⟩
abbrev cX7_take : ByteArray := prog_9_method_15_code
def yX7_take : MethodName := ⟨RX7, "take", "(I)V"⟩
abbrev cX7_fail : ByteArray := prog_9_method_16_code
def yX7_fail : MethodName := ⟨RX7, "fail", "(I)V"⟩
abbrev cX7_isNext : ByteArray := prog_9_method_17_code
def yX7_isNext : MethodName := ⟨RX7, "isNext", "(I)Z"⟩
abbrev cX7_isFigureNext : ByteArray := prog_9_method_18_code
def yX7_isFigureNext : MethodName := ⟨RX7, "isFigureNext", "()Z"⟩
abbrev cX7_skipBlanks : ByteArray := prog_9_method_19_code
def yX7_skipBlanks : MethodName := ⟨RX7, "skipBlanks", "()V"⟩
abbrev cX7_isFigure : ByteArray := prog_9_method_20_code
def yX7_isFigure : MethodName := ⟨RX7, "isFigure", "(I)Z"⟩
abbrev cX7_byteHere : ByteArray := prog_9_method_21_code
def yX7_byteHere : MethodName := ⟨RX7, "byteHere", "()I"⟩
def RX8 : String := "FuguePlan$Sound"
def TX8 : u_T := fun k => match k with
  | 0 => ("FuguePlan$Sound", "steps", "[I", true)
  | 1 => ("FuguePlan$Sound", "length", "I", false)
  | 2 => ("FuguePlan$Sound", "start", "I", false)
  | _ => ("FuguePlan$Sound", "voice", "I", false)
def tyX8 : Nat → FieldType := fun k => match k with
  | 0 => .array .int
  | 1 => .int
  | 2 => .int
  | _ => .int
abbrev wsX80 : List Cond := u_ws RX8 TX8 4
theorem nmX8 : ∀ a, a < 4 → ∀ b, b < 4 → a ≠ b → (TX8 a).2.1 ≠ (TX8 b).2.1 := by decide +kernel
theorem tyX8_ok : ∀ k, k < 4 → parseFieldDescriptor (TX8 k).2.2.1 = some (tyX8 k) := by decide +kernel
abbrev cX8_init : ByteArray := prog_10_method_1_code
def yX8_init : MethodName := ⟨RX8, "<init>", "()V"⟩
abbrev cX8_append : ByteArray := prog_10_method_2_code
def yX8_append : MethodName := ⟨RX8, "append", "(II)V"⟩
abbrev cX8_place : ByteArray := prog_10_method_3_code
def yX8_place : MethodName := ⟨RX8, "place", "(II)V"⟩
abbrev cX8_end : ByteArray := prog_10_method_4_code
def yX8_end : MethodName := ⟨RX8, "end", "()I"⟩
abbrev cX8_isHeardAt : ByteArray := prog_10_method_5_code
def yX8_isHeardAt : MethodName := ⟨RX8, "isHeardAt", "(I)Z"⟩
abbrev cX8_stepAt : ByteArray := prog_10_method_6_code
def yX8_stepAt : MethodName := ⟨RX8, "stepAt", "(I)I"⟩
def RX9 : String := "FuguePlan$Tour"
def TX9 : u_T := fun k => match k with
  | 0 => ("FuguePlan$Tour", "best", "[I", true)
  | 1 => ("FuguePlan$Tour", "tried", "[I", true)
  | _ => ("FuguePlan$Tour", "length", "I", false)
def tyX9 : Nat → FieldType := fun k => match k with
  | 0 => .array .int
  | 1 => .array .int
  | _ => .int
abbrev wsX90 : List Cond := u_ws RX9 TX9 3
theorem nmX9 : ∀ a, a < 3 → ∀ b, b < 3 → a ≠ b → (TX9 a).2.1 ≠ (TX9 b).2.1 := by decide +kernel
theorem tyX9_ok : ∀ k, k < 3 → parseFieldDescriptor (TX9 k).2.2.1 = some (tyX9 k) := by decide +kernel
abbrev cX9_init : ByteArray := prog_11_method_1_code
def yX9_init : MethodName := ⟨RX9, "<init>", "()V"⟩
abbrev cX9_find : ByteArray := prog_11_method_2_code
def yX9_find : MethodName := ⟨RX9, "find", "(LFuguePlan$Plan;)V"⟩
abbrev cX9_sortVisits : ByteArray := prog_11_method_3_code
def yX9_sortVisits : MethodName := ⟨RX9, "sortVisits", "([II)V"⟩
abbrev cX9_lengthFrom : ByteArray := prog_11_method_4_code
def yX9_lengthFrom : MethodName := ⟨RX9, "lengthFrom", "(II)I"⟩
def RX10 : String := "FuguePlan"
def TX10 : u_T := fun k => match k with
  | 0 => ("FuguePlan", "plan", "LFuguePlan$Plan;", true)
  | 1 => ("FuguePlan", "before", "LFuguePlan$Plan;", true)
  | 2 => ("FuguePlan", "history", "LFuguePlan$History;", true)
  | 3 => ("FuguePlan", "text", "LFuguePlan$Reader;", true)
  | 4 => ("FuguePlan", "bads", "I", false)
  | 5 => ("FuguePlan", "noes", "I", false)
  | 6 => ("FuguePlan", "fulls", "I", false)
  | 7 => ("FuguePlan", "upper", "LFuguePlan$Sound;", true)
  | 8 => ("FuguePlan", "lower", "LFuguePlan$Sound;", true)
  | 9 => ("FuguePlan", "faults", "LFuguePlan$Faults;", true)
  | 10 => ("FuguePlan", "chorus", "LFuguePlan$Chorus;", true)
  | 11 => ("FuguePlan", "rowEntries", "LFuguePlan$Entries;", true)
  | 12 => ("FuguePlan", "row", "[I", true)
  | _ => ("FuguePlan", "tour", "LFuguePlan$Tour;", true)
def tyX10 : Nat → FieldType := fun k => match k with
  | 0 => .object "FuguePlan$Plan"
  | 1 => .object "FuguePlan$Plan"
  | 2 => .object "FuguePlan$History"
  | 3 => .object "FuguePlan$Reader"
  | 4 => .int
  | 5 => .int
  | 6 => .int
  | 7 => .object "FuguePlan$Sound"
  | 8 => .object "FuguePlan$Sound"
  | 9 => .object "FuguePlan$Faults"
  | 10 => .object "FuguePlan$Chorus"
  | 11 => .object "FuguePlan$Entries"
  | 12 => .array .int
  | _ => .object "FuguePlan$Tour"
abbrev wsX100 : List Cond := u_ws RX10 TX10 14
theorem nmX10 : ∀ a, a < 14 → ∀ b, b < 14 → a ≠ b → (TX10 a).2.1 ≠ (TX10 b).2.1 := by decide +kernel
theorem tyX10_ok : ∀ k, k < 14 → parseFieldDescriptor (TX10 k).2.2.1 = some (tyX10 k) := by decide +kernel
abbrev cX10_init : ByteArray := prog_1_method_1_code
def yX10_init : MethodName := ⟨RX10, "<init>", "()V"⟩
abbrev cX10_note : ByteArray := prog_1_method_2_code
def yX10_note : MethodName := ⟨RX10, "note", "(III)I"⟩
abbrev cX10_drop : ByteArray := prog_1_method_3_code
def yX10_drop : MethodName := ⟨RX10, "drop", "(II)I"⟩
abbrev cX10_empties : ByteArray := prog_1_method_4_code
def yX10_empties : MethodName := ⟨RX10, "empties", "(I)I"⟩
abbrev cX10_draw : ByteArray := prog_1_method_5_code
def yX10_draw : MethodName := ⟨RX10, "draw", "(III)I"⟩
abbrev cX10_sets : ByteArray := prog_1_method_6_code
def yX10_sets : MethodName := ⟨RX10, "sets", "(II)I"⟩
abbrev cX10_noteOf : ByteArray := prog_1_method_7_code
def yX10_noteOf : MethodName := ⟨RX10, "noteOf", "(III)I"⟩
abbrev cX10_line : ByteArray := prog_1_method_8_code
def yX10_line : MethodName := ⟨RX10, "line", "(II)I"⟩
abbrev cX10_step : ByteArray := prog_1_method_9_code
def yX10_step : MethodName := ⟨RX10, "step", "(IIII)I"⟩
abbrev cX10_enters : ByteArray := prog_1_method_10_code
def yX10_enters : MethodName := ⟨RX10, "enters", "(IIIII)I"⟩
abbrev cX10_leaves : ByteArray := prog_1_method_11_code
def yX10_leaves : MethodName := ⟨RX10, "leaves", "(I)I"⟩
abbrev cX10_entry : ByteArray := prog_1_method_12_code
def yX10_entry : MethodName := ⟨RX10, "entry", "(II)I"⟩
abbrev cX10_sounds : ByteArray := prog_1_method_13_code
def yX10_sounds : MethodName := ⟨RX10, "sounds", "(II)I"⟩
abbrev cX10_faults : ByteArray := prog_1_method_14_code
def yX10_faults : MethodName := ⟨RX10, "faults", "(III)I"⟩
abbrev cX10_all : ByteArray := prog_1_method_15_code
def yX10_all : MethodName := ⟨RX10, "all", "(I)I"⟩
abbrev cX10_first : ByteArray := prog_1_method_16_code
def yX10_first : MethodName := ⟨RX10, "first", "(I)I"⟩
abbrev cX10_stretto : ByteArray := prog_1_method_17_code
def yX10_stretto : MethodName := ⟨RX10, "stretto", "(IIIII)I"⟩
abbrev cX10_strettos : ByteArray := prog_1_method_18_code
def yX10_strettos : MethodName := ⟨RX10, "strettos", "(III)J"⟩
abbrev cX10_closest : ByteArray := prog_1_method_19_code
def yX10_closest : MethodName := ⟨RX10, "closest", "(II)I"⟩
abbrev cX10_inverted : ByteArray := prog_1_method_20_code
def yX10_inverted : MethodName := ⟨RX10, "inverted", "(IIII)I"⟩
abbrev cX10_inversions : ByteArray := prog_1_method_21_code
def yX10_inversions : MethodName := ⟨RX10, "inversions", "(II)I"⟩
abbrev cX10_order : ByteArray := prog_1_method_22_code
def yX10_order : MethodName := ⟨RX10, "order", "(II)I"⟩
abbrev cX10_best : ByteArray := prog_1_method_23_code
def yX10_best : MethodName := ⟨RX10, "best", "(II)I"⟩
abbrev cX10_lays : ByteArray := prog_1_method_24_code
def yX10_lays : MethodName := ⟨RX10, "lays", "(I)I"⟩
abbrev cX10_way : ByteArray := prog_1_method_25_code
def yX10_way : MethodName := ⟨RX10, "way", "(II)I"⟩
abbrev cX10_next : ByteArray := prog_1_method_26_code
def yX10_next : MethodName := ⟨RX10, "next", "(II)I"⟩
abbrev cX10_visits : ByteArray := prog_1_method_27_code
def yX10_visits : MethodName := ⟨RX10, "visits", "(I)I"⟩
abbrev cX10_skips : ByteArray := prog_1_method_28_code
def yX10_skips : MethodName := ⟨RX10, "skips", "(I)I"⟩
abbrev cX10_path : ByteArray := prog_1_method_29_code
def yX10_path : MethodName := ⟨RX10, "path", "(I)I"⟩
abbrev cX10_type : ByteArray := prog_1_method_30_code
def yX10_type : MethodName := ⟨RX10, "type", "(I)I"⟩
abbrev cX10_clear : ByteArray := prog_1_method_31_code
def yX10_clear : MethodName := ⟨RX10, "clear", "()I"⟩
abbrev cX10_reads : ByteArray := prog_1_method_32_code
def yX10_reads : MethodName := ⟨RX10, "reads", "()I"⟩
abbrev cX10_back : ByteArray := prog_1_method_33_code
def yX10_back : MethodName := ⟨RX10, "back", "()I"⟩
abbrev cX10_told : ByteArray := prog_1_method_34_code
def yX10_told : MethodName := ⟨RX10, "told", "(I)I"⟩
abbrev cX10_digest : ByteArray := prog_1_method_35_code
def yX10_digest : MethodName := ⟨RX10, "digest", "()J"⟩
abbrev cX10_lineDigest : ByteArray := prog_1_method_36_code
def yX10_lineDigest : MethodName := ⟨RX10, "lineDigest", "(JI)J"⟩
abbrev cX10_within : ByteArray := prog_1_method_37_code
def yX10_within : MethodName := ⟨RX10, "within", "(III)Z"⟩
abbrev cX10_isLine : ByteArray := prog_1_method_38_code
def yX10_isLine : MethodName := ⟨RX10, "isLine", "(I)Z"⟩
abbrev cX10_isKey : ByteArray := prog_1_method_39_code
def yX10_isKey : MethodName := ⟨RX10, "isKey", "(I)Z"⟩
abbrev cX10_isFormed : ByteArray := prog_1_method_40_code
def yX10_isFormed : MethodName := ⟨RX10, "isFormed", "(III)Z"⟩
abbrev cX10_areTwoLines : ByteArray := prog_1_method_41_code
def yX10_areTwoLines : MethodName := ⟨RX10, "areTwoLines", "(II)Z"⟩
abbrev cX10_areRowVoices : ByteArray := prog_1_method_42_code
def yX10_areRowVoices : MethodName := ⟨RX10, "areRowVoices", "(I)Z"⟩
abbrev cX10_refused : ByteArray := prog_1_method_43_code
def yX10_refused : MethodName := ⟨RX10, "refused", "(I)I"⟩
abbrev cX10_settled : ByteArray := prog_1_method_44_code
def yX10_settled : MethodName := ⟨RX10, "settled", "(I)I"⟩
abbrev cX10_formStretto : ByteArray := prog_1_method_45_code
def yX10_formStretto : MethodName := ⟨RX10, "formStretto", "(III)V"⟩
abbrev cX10_strettoFits : ByteArray := prog_1_method_46_code
def yX10_strettoFits : MethodName := ⟨RX10, "strettoFits", "(I)Z"⟩
abbrev cX10_closestStretto : ByteArray := prog_1_method_47_code
def yX10_closestStretto : MethodName := ⟨RX10, "closestStretto", "(I)I"⟩
abbrev cX10_nearMove : ByteArray := prog_1_method_48_code
def yX10_nearMove : MethodName := ⟨RX10, "nearMove", "(I)I"⟩
abbrev cX10_invertsWell : ByteArray := prog_1_method_49_code
def yX10_invertsWell : MethodName := ⟨RX10, "invertsWell", "(III)Z"⟩
abbrev cX10_takesRow : ByteArray := prog_1_method_50_code
def yX10_takesRow : MethodName := ⟨RX10, "takesRow", "(II)Z"⟩
abbrev cX10_rowNumber : ByteArray := prog_1_method_51_code
def yX10_rowNumber : MethodName := ⟨RX10, "rowNumber", "(I)I"⟩
abbrev cX10_layRow : ByteArray := prog_1_method_52_code
def yX10_layRow : MethodName := ⟨RX10, "layRow", "(I)V"⟩
abbrev cX10_rowFaults : ByteArray := prog_1_method_53_code
def yX10_rowFaults : MethodName := ⟨RX10, "rowFaults", "(I)I"⟩
abbrev cX10_bestRow : ByteArray := prog_1_method_54_code
def yX10_bestRow : MethodName := ⟨RX10, "bestRow", "(I)I"⟩
abbrev cX10_toNextRow : ByteArray := prog_1_method_55_code
def yX10_toNextRow : MethodName := ⟨RX10, "toNextRow", "([II)Z"⟩
abbrev cX10_exchange : ByteArray := prog_1_method_56_code
def yX10_exchange : MethodName := ⟨RX10, "exchange", "([III)V"⟩
abbrev cX10_modeOf : ByteArray := prog_1_method_57_code
def yX10_modeOf : MethodName := ⟨RX10, "modeOf", "(I)I"⟩
abbrev cX10_turns : ByteArray := prog_1_method_58_code
def yX10_turns : MethodName := ⟨RX10, "turns", "(II)I"⟩
abbrev cX10_roadBetween : ByteArray := prog_1_method_59_code
def yX10_roadBetween : MethodName := ⟨RX10, "roadBetween", "(II)I"⟩
abbrev cX10_wayBetween : ByteArray := prog_1_method_60_code
def yX10_wayBetween : MethodName := ⟨RX10, "wayBetween", "(II)I"⟩
abbrev cX10_isDone : ByteArray := prog_1_method_61_code
def yX10_isDone : MethodName := ⟨RX10, "isDone", "(I)Z"⟩
abbrev cX10_lineIsDone : ByteArray := prog_1_method_62_code
def yX10_lineIsDone : MethodName := ⟨RX10, "lineIsDone", "(II)Z"⟩
abbrev cX10_visitsAreDone : ByteArray := prog_1_method_63_code
def yX10_visitsAreDone : MethodName := ⟨RX10, "visitsAreDone", "(II)Z"⟩
def RX11 : String := "FuguePlanModel"
def TX11 : u_T := fun k => match k with
  | 0 => ("FuguePlanModel", "all", "[I", true)
  | 1 => ("FuguePlanModel", "past", "[I", true)
  | 2 => ("FuguePlanModel", "aside", "[I", true)
  | 3 => ("FuguePlanModel", "states", "I", false)
  | 4 => ("FuguePlanModel", "refused", "[I", true)
  | 5 => ("FuguePlanModel", "upper", "[I", true)
  | 6 => ("FuguePlanModel", "lower", "[I", true)
  | 7 => ("FuguePlanModel", "counted", "[I", true)
  | 8 => ("FuguePlanModel", "plainRow", "[I", true)
  | 9 => ("FuguePlanModel", "formRow", "[I", true)
  | 10 => ("FuguePlanModel", "bestFaults", "I", false)
  | 11 => ("FuguePlanModel", "far", "[I", true)
  | 12 => ("FuguePlanModel", "between", "[I", true)
  | 13 => ("FuguePlanModel", "bestRow", "[I", true)
  | 14 => ("FuguePlanModel", "tried", "[I", true)
  | 15 => ("FuguePlanModel", "text", "[I", true)
  | 16 => ("FuguePlanModel", "textLong", "I", false)
  | 17 => ("FuguePlanModel", "place", "I", false)
  | 18 => ("FuguePlanModel", "value", "I", false)
  | 19 => ("FuguePlanModel", "not", "I", false)
  | _ => ("FuguePlanModel", "numbers", "[I", true)
def tyX11 : Nat → FieldType := fun k => match k with
  | 0 => .array .int
  | 1 => .array .int
  | 2 => .array .int
  | 3 => .int
  | 4 => .array .int
  | 5 => .array .int
  | 6 => .array .int
  | 7 => .array .int
  | 8 => .array .int
  | 9 => .array .int
  | 10 => .int
  | 11 => .array .int
  | 12 => .array .int
  | 13 => .array .int
  | 14 => .array .int
  | 15 => .array .int
  | 16 => .int
  | 17 => .int
  | 18 => .int
  | 19 => .int
  | _ => .array .int
abbrev wsX110 : List Cond := u_ws RX11 TX11 21
theorem nmX11 : ∀ a, a < 21 → ∀ b, b < 21 → a ≠ b → (TX11 a).2.1 ≠ (TX11 b).2.1 := by decide +kernel
theorem tyX11_ok : ∀ k, k < 21 → parseFieldDescriptor (TX11 k).2.2.1 = some (tyX11 k) := by decide +kernel
abbrev cX11_init : ByteArray := prog_13_method_1_code
def yX11_init : MethodName := ⟨RX11, "<init>", "()V"⟩
abbrev cX11_in : ByteArray := prog_13_method_3_code
def yX11_in : MethodName := ⟨RX11, "in", "(JJJ)Z"⟩
abbrev cX11_refuses : ByteArray := prog_13_method_4_code
def yX11_refuses : MethodName := ⟨RX11, "refuses", "(I)I"⟩
abbrev cX11_bad : ByteArray := prog_13_method_5_code
def yX11_bad : MethodName := ⟨RX11, "bad", "(I)I"⟩
abbrev cX11_keep : ByteArray := prog_13_method_6_code
def yX11_keep : MethodName := ⟨RX11, "keep", "()V"⟩
abbrev cX11_left : ByteArray := prog_13_method_7_code
def yX11_left : MethodName := ⟨RX11, "left", "(II)I"⟩
abbrev cX11_isLine : ByteArray := prog_13_method_8_code
def yX11_isLine : MethodName := ⟨RX11, "isLine", "(I)Z"⟩
abbrev cX11_notes : ByteArray := prog_13_method_9_code
def yX11_notes : MethodName := ⟨RX11, "notes", "(I)I"⟩
abbrev cX11_plain : ByteArray := prog_13_method_10_code
def yX11_plain : MethodName := ⟨RX11, "plain", "(II)I"⟩
abbrev cX11_ticks : ByteArray := prog_13_method_11_code
def yX11_ticks : MethodName := ⟨RX11, "ticks", "(II)I"⟩
abbrev cX11_length : ByteArray := prog_13_method_12_code
def yX11_length : MethodName := ⟨RX11, "length", "(I)I"⟩
abbrev cX11_entered : ByteArray := prog_13_method_13_code
def yX11_entered : MethodName := ⟨RX11, "entered", "(I)I"⟩
abbrev cX11_answered : ByteArray := prog_13_method_14_code
def yX11_answered : MethodName := ⟨RX11, "answered", "(II)I"⟩
abbrev cX11_canNote : ByteArray := prog_13_method_15_code
def yX11_canNote : MethodName := ⟨RX11, "canNote", "(III)I"⟩
abbrev cX11_noteNow : ByteArray := prog_13_method_16_code
def yX11_noteNow : MethodName := ⟨RX11, "noteNow", "(III)I"⟩
abbrev cX11_note : ByteArray := prog_13_method_17_code
def yX11_note : MethodName := ⟨RX11, "note", "(III)I"⟩
abbrev cX11_drop : ByteArray := prog_13_method_18_code
def yX11_drop : MethodName := ⟨RX11, "drop", "(II)I"⟩
abbrev cX11_canEmpty : ByteArray := prog_13_method_19_code
def yX11_canEmpty : MethodName := ⟨RX11, "canEmpty", "(I)I"⟩
abbrev cX11_emptyNow : ByteArray := prog_13_method_20_code
def yX11_emptyNow : MethodName := ⟨RX11, "emptyNow", "(I)I"⟩
abbrev cX11_empties : ByteArray := prog_13_method_21_code
def yX11_empties : MethodName := ⟨RX11, "empties", "(I)I"⟩
abbrev cX11_draw : ByteArray := prog_13_method_22_code
def yX11_draw : MethodName := ⟨RX11, "draw", "(III)I"⟩
abbrev cX11_isSetting : ByteArray := prog_13_method_23_code
def yX11_isSetting : MethodName := ⟨RX11, "isSetting", "(II)Z"⟩
abbrev cX11_setNow : ByteArray := prog_13_method_24_code
def yX11_setNow : MethodName := ⟨RX11, "setNow", "(II)I"⟩
abbrev cX11_sets : ByteArray := prog_13_method_25_code
def yX11_sets : MethodName := ⟨RX11, "sets", "(II)I"⟩
abbrev cX11_begin : ByteArray := prog_13_method_26_code
def yX11_begin : MethodName := ⟨RX11, "begin", "(II)I"⟩
abbrev cX11_noteNow4 : ByteArray := prog_13_method_27_code
def yX11_noteNow4 : MethodName := ⟨RX11, "noteNow4", "(III)I"⟩
abbrev cX11_noteOf : ByteArray := prog_13_method_28_code
def yX11_noteOf : MethodName := ⟨RX11, "noteOf", "(III)I"⟩
abbrev cX11_bound : ByteArray := prog_13_method_29_code
def yX11_bound : MethodName := ⟨RX11, "bound", "(IZ)I"⟩
abbrev cX11_lineNow : ByteArray := prog_13_method_30_code
def yX11_lineNow : MethodName := ⟨RX11, "lineNow", "(II)I"⟩
abbrev cX11_line : ByteArray := prog_13_method_31_code
def yX11_line : MethodName := ⟨RX11, "line", "(II)I"⟩
abbrev cX11_formed : ByteArray := prog_13_method_32_code
def yX11_formed : MethodName := ⟨RX11, "formed", "(III)I"⟩
abbrev cX11_lasts : ByteArray := prog_13_method_33_code
def yX11_lasts : MethodName := ⟨RX11, "lasts", "(II)I"⟩
abbrev cX11_step : ByteArray := prog_13_method_34_code
def yX11_step : MethodName := ⟨RX11, "step", "(IIII)I"⟩
abbrev cX11_puts : ByteArray := prog_13_method_35_code
def yX11_puts : MethodName := ⟨RX11, "puts", "([IIIII)V"⟩
abbrev cX11_heard : ByteArray := prog_13_method_36_code
def yX11_heard : MethodName := ⟨RX11, "heard", "([II)I"⟩
abbrev cX11_faultsAt : ByteArray := prog_13_method_37_code
def yX11_faultsAt : MethodName := ⟨RX11, "faultsAt", "(I)I"⟩
abbrev cX11_countsAll : ByteArray := prog_13_method_38_code
def yX11_countsAll : MethodName := ⟨RX11, "countsAll", "()V"⟩
abbrev cX11_of : ByteArray := prog_13_method_39_code
def yX11_of : MethodName := ⟨RX11, "of", "(II)I"⟩
abbrev cX11_isEntry : ByteArray := prog_13_method_40_code
def yX11_isEntry : MethodName := ⟨RX11, "isEntry", "(I)Z"⟩
abbrev cX11_canEnter : ByteArray := prog_13_method_41_code
def yX11_canEnter : MethodName := ⟨RX11, "canEnter", "(IIIII)I"⟩
abbrev cX11_enterNow : ByteArray := prog_13_method_42_code
def yX11_enterNow : MethodName := ⟨RX11, "enterNow", "(IIIII)I"⟩
abbrev cX11_enters : ByteArray := prog_13_method_43_code
def yX11_enters : MethodName := ⟨RX11, "enters", "(IIIII)I"⟩
abbrev cX11_leaves : ByteArray := prog_13_method_44_code
def yX11_leaves : MethodName := ⟨RX11, "leaves", "(I)I"⟩
abbrev cX11_entryNow : ByteArray := prog_13_method_45_code
def yX11_entryNow : MethodName := ⟨RX11, "entryNow", "(II)I"⟩
abbrev cX11_entry : ByteArray := prog_13_method_46_code
def yX11_entry : MethodName := ⟨RX11, "entry", "(II)I"⟩
abbrev cX11_heardOf : ByteArray := prog_13_method_47_code
def yX11_heardOf : MethodName := ⟨RX11, "heardOf", "(II)I"⟩
abbrev cX11_sounds : ByteArray := prog_13_method_48_code
def yX11_sounds : MethodName := ⟨RX11, "sounds", "(II)I"⟩
abbrev cX11_areTwo : ByteArray := prog_13_method_49_code
def yX11_areTwo : MethodName := ⟨RX11, "areTwo", "(II)Z"⟩
abbrev cX11_faultsOf : ByteArray := prog_13_method_50_code
def yX11_faultsOf : MethodName := ⟨RX11, "faultsOf", "(I)I"⟩
abbrev cX11_faults : ByteArray := prog_13_method_51_code
def yX11_faults : MethodName := ⟨RX11, "faults", "(III)I"⟩
abbrev cX11_end : ByteArray := prog_13_method_52_code
def yX11_end : MethodName := ⟨RX11, "end", "()I"⟩
abbrev cX11_most : ByteArray := prog_13_method_53_code
def yX11_most : MethodName := ⟨RX11, "most", "()I"⟩
abbrev cX11_allNow : ByteArray := prog_13_method_54_code
def yX11_allNow : MethodName := ⟨RX11, "allNow", "(I)I"⟩
abbrev cX11_all : ByteArray := prog_13_method_55_code
def yX11_all : MethodName := ⟨RX11, "all", "(I)I"⟩
abbrev cX11_pairAt : ByteArray := prog_13_method_56_code
def yX11_pairAt : MethodName := ⟨RX11, "pairAt", "(II)I"⟩
abbrev cX11_first : ByteArray := prog_13_method_57_code
def yX11_first : MethodName := ⟨RX11, "first", "(I)I"⟩
abbrev cX11_isMoved : ByteArray := prog_13_method_58_code
def yX11_isMoved : MethodName := ⟨RX11, "isMoved", "(III)Z"⟩
abbrev cX11_stretches : ByteArray := prog_13_method_59_code
def yX11_stretches : MethodName := ⟨RX11, "stretches", "(IIII)V"⟩
abbrev cX11_stretto : ByteArray := prog_13_method_60_code
def yX11_stretto : MethodName := ⟨RX11, "stretto", "(IIIII)I"⟩
abbrev cX11_laysRows : ByteArray := prog_13_method_61_code
def yX11_laysRows : MethodName := ⟨RX11, "laysRows", "(II)V"⟩
abbrev cX11_isFit : ByteArray := prog_13_method_62_code
def yX11_isFit : MethodName := ⟨RX11, "isFit", "(III)Z"⟩
abbrev cX11_strettos : ByteArray := prog_13_method_63_code
def yX11_strettos : MethodName := ⟨RX11, "strettos", "(III)J"⟩
abbrev cX11_closestOf : ByteArray := prog_13_method_64_code
def yX11_closestOf : MethodName := ⟨RX11, "closestOf", "(I)I"⟩
abbrev cX11_closest : ByteArray := prog_13_method_65_code
def yX11_closest : MethodName := ⟨RX11, "closest", "(II)I"⟩
abbrev cX11_inverts : ByteArray := prog_13_method_66_code
def yX11_inverts : MethodName := ⟨RX11, "inverts", "(III)V"⟩
abbrev cX11_inverted : ByteArray := prog_13_method_67_code
def yX11_inverted : MethodName := ⟨RX11, "inverted", "(IIII)I"⟩
abbrev cX11_inversions : ByteArray := prog_13_method_68_code
def yX11_inversions : MethodName := ⟨RX11, "inversions", "(II)I"⟩
abbrev cX11_power : ByteArray := prog_13_method_69_code
def yX11_power : MethodName := ⟨RX11, "power", "(I)I"⟩
abbrev cX11_voice : ByteArray := prog_13_method_70_code
def yX11_voice : MethodName := ⟨RX11, "voice", "(III)I"⟩
abbrev cX11_isOrder : ByteArray := prog_13_method_71_code
def yX11_isOrder : MethodName := ⟨RX11, "isOrder", "(II)Z"⟩
abbrev cX11_sound : ByteArray := prog_13_method_72_code
def yX11_sound : MethodName := ⟨RX11, "sound", "([IIII)Z"⟩
abbrev cX11_orderFaults : ByteArray := prog_13_method_73_code
def yX11_orderFaults : MethodName := ⟨RX11, "orderFaults", "(II)I"⟩
abbrev cX11_order : ByteArray := prog_13_method_74_code
def yX11_order : MethodName := ⟨RX11, "order", "(II)I"⟩
abbrev cX11_bestOf : ByteArray := prog_13_method_75_code
def yX11_bestOf : MethodName := ⟨RX11, "bestOf", "(I)I"⟩
abbrev cX11_best : ByteArray := prog_13_method_76_code
def yX11_best : MethodName := ⟨RX11, "best", "(II)I"⟩
abbrev cX11_lays : ByteArray := prog_13_method_77_code
def yX11_lays : MethodName := ⟨RX11, "lays", "(I)I"⟩
abbrev cX11_isKey : ByteArray := prog_13_method_78_code
def yX11_isKey : MethodName := ⟨RX11, "isKey", "(I)Z"⟩
abbrev cX11_road : ByteArray := prog_13_method_79_code
def yX11_road : MethodName := ⟨RX11, "road", "(II)I"⟩
abbrev cX11_laysWays : ByteArray := prog_13_method_80_code
def yX11_laysWays : MethodName := ⟨RX11, "laysWays", "(I)V"⟩
abbrev cX11_wayOf : ByteArray := prog_13_method_81_code
def yX11_wayOf : MethodName := ⟨RX11, "wayOf", "(II)I"⟩
abbrev cX11_way : ByteArray := prog_13_method_82_code
def yX11_way : MethodName := ⟨RX11, "way", "(II)I"⟩
abbrev cX11_next : ByteArray := prog_13_method_83_code
def yX11_next : MethodName := ⟨RX11, "next", "(II)I"⟩
abbrev cX11_visited : ByteArray := prog_13_method_84_code
def yX11_visited : MethodName := ⟨RX11, "visited", "(I)I"⟩
abbrev cX11_canVisit : ByteArray := prog_13_method_85_code
def yX11_canVisit : MethodName := ⟨RX11, "canVisit", "(I)I"⟩
abbrev cX11_visitNow : ByteArray := prog_13_method_86_code
def yX11_visitNow : MethodName := ⟨RX11, "visitNow", "(I)I"⟩
abbrev cX11_visits : ByteArray := prog_13_method_87_code
def yX11_visits : MethodName := ⟨RX11, "visits", "(I)I"⟩
abbrev cX11_skips : ByteArray := prog_13_method_88_code
def yX11_skips : MethodName := ⟨RX11, "skips", "(I)I"⟩
abbrev cX11_keyAt : ByteArray := prog_13_method_89_code
def yX11_keyAt : MethodName := ⟨RX11, "keyAt", "(I)I"⟩
abbrev cX11_laysBetween : ByteArray := prog_13_method_90_code
def yX11_laysBetween : MethodName := ⟨RX11, "laysBetween", "()V"⟩
abbrev cX11_isRow : ByteArray := prog_13_method_91_code
def yX11_isRow : MethodName := ⟨RX11, "isRow", "(I)Z"⟩
abbrev cX11_isLess : ByteArray := prog_13_method_92_code
def yX11_isLess : MethodName := ⟨RX11, "isLess", "()Z"⟩
abbrev cX11_bestPath : ByteArray := prog_13_method_93_code
def yX11_bestPath : MethodName := ⟨RX11, "bestPath", "()I"⟩
abbrev cX11_path : ByteArray := prog_13_method_94_code
def yX11_path : MethodName := ⟨RX11, "path", "(I)I"⟩
abbrev cX11_type : ByteArray := prog_13_method_95_code
def yX11_type : MethodName := ⟨RX11, "type", "(I)I"⟩
abbrev cX11_clear : ByteArray := prog_13_method_96_code
def yX11_clear : MethodName := ⟨RX11, "clear", "()I"⟩
abbrev cX11_here : ByteArray := prog_13_method_97_code
def yX11_here : MethodName := ⟨RX11, "here", "()I"⟩
abbrev cX11_isFigure : ByteArray := prog_13_method_98_code
def yX11_isFigure : MethodName := ⟨RX11, "isFigure", "(I)Z"⟩
abbrev cX11_takes : ByteArray := prog_13_method_99_code
def yX11_takes : MethodName := ⟨RX11, "takes", "(Z)Z"⟩
abbrev cX11_takesAll : ByteArray := prog_13_method_100_code
def yX11_takesAll : MethodName := ⟨RX11, "takesAll", "(II)Z"⟩
abbrev cX11_readsNotes : ByteArray := prog_13_method_101_code
def yX11_readsNotes : MethodName := ⟨RX11, "readsNotes", "(IZ)Z"⟩
abbrev cX11_readsLine : ByteArray := prog_13_method_102_code
def yX11_readsLine : MethodName := ⟨RX11, "readsLine", "(Z)Z"⟩
abbrev cX11_readsKeys : ByteArray := prog_13_method_103_code
def yX11_readsKeys : MethodName := ⟨RX11, "readsKeys", "(Z)Z"⟩
abbrev cX11_readsEntry : ByteArray := prog_13_method_104_code
def yX11_readsEntry : MethodName := ⟨RX11, "readsEntry", "(Z)Z"⟩
abbrev cX11_readsSetting : ByteArray := prog_13_method_105_code
def yX11_readsSetting : MethodName := ⟨RX11, "readsSetting", "(IZ)Z"⟩
abbrev cX11_readsOrder : ByteArray := prog_13_method_106_code
def yX11_readsOrder : MethodName := ⟨RX11, "readsOrder", "(Z)Z"⟩
abbrev cX11_reads : ByteArray := prog_13_method_107_code
def yX11_reads : MethodName := ⟨RX11, "reads", "()I"⟩
abbrev cX11_keepsAside : ByteArray := prog_13_method_108_code
def yX11_keepsAside : MethodName := ⟨RX11, "keepsAside", "()V"⟩
abbrev cX11_back : ByteArray := prog_13_method_109_code
def yX11_back : MethodName := ⟨RX11, "back", "()I"⟩
abbrev cX11_toldOf : ByteArray := prog_13_method_110_code
def yX11_toldOf : MethodName := ⟨RX11, "toldOf", "(I)I"⟩
abbrev cX11_told : ByteArray := prog_13_method_111_code
def yX11_told : MethodName := ⟨RX11, "told", "(I)I"⟩
abbrev cX11_digest : ByteArray := prog_13_method_112_code
def yX11_digest : MethodName := ⟨RX11, "digest", "()J"⟩
def RJ9 : String := "java/lang/Math"
def TJ9 : u_T := fun k => match k with
  | _ => ("", "", "", false)
def tyJ9 : Nat → FieldType := fun k => match k with
  | _ => .int
abbrev wsJ90 : List Cond := u_ws RJ9 TJ9 0
theorem nmJ9 : ∀ a, a < 0 → ∀ b, b < 0 → a ≠ b → (TJ9 a).2.1 ≠ (TJ9 b).2.1 := by decide +kernel
theorem tyJ9_ok : ∀ k, k < 0 → parseFieldDescriptor (TJ9 k).2.2.1 = some (tyJ9 k) := by decide +kernel
abbrev cJ9_floorMod_7cf53 : ByteArray := prog_14_method_50_code
def yJ9_floorMod_7cf53 : MethodName := ⟨RJ9, "floorMod", "(II)I"⟩
abbrev cJ9_max_7cf53 : ByteArray := prog_14_method_65_code
def yJ9_max_7cf53 : MethodName := ⟨RJ9, "max", "(II)I"⟩
abbrev cJ9_min_7cf53 : ByteArray := prog_14_method_69_code
def yJ9_min_7cf53 : MethodName := ⟨RJ9, "min", "(II)I"⟩
def RL : String := "FuguePlanLaw"
abbrev cL_law : ByteArray := code
def yL_law : MethodName := ⟨RL, "law", "([I)Z"⟩
abbrev vwCl : List vw_C := [(RX0, TX0, 2), (RX1, TX1, 2), (RX2, TX2, 5), (RX3, TX3, 3), (RX4, TX4, 3), (RX5, TX5, 3), (RX6, TX6, 8), (RX7, TX7, 9), (RX8, TX8, 4), (RX9, TX9, 3), (RX10, TX10, 14), (RX11, TX11, 21)]
end
section
/-! THE WALK: a judgement over the kit's W with the method's own numbers hidden, a row an instruction; ints and longs are told by Lean's whole numbers -/
def lvp : Nat → List (Option Value) → List (Nat × Value)
  | _, [] => []
  | i, none :: t => lvp (i + 1) t
  | i, some v :: t => (i, v) :: lvp (i + 1) t
theorem lvp_mem : ∀ (l : List (Option Value)) (i j : Nat) (v : Value), (j, v) ∈ lvp i l ↔ ∃ k, j = i + k ∧ l[k]? = some (some v)
  | [], i, j, v => by simp [lvp]
  | none :: t, i, j, v => by
    rw [show lvp i (none :: t) = lvp (i + 1) t from rfl, lvp_mem t (i + 1) j v]
    constructor
    · rintro ⟨k, h1, h2⟩; exact ⟨k + 1, by omega, by simpa using h2⟩
    · rintro ⟨k, h1, h2⟩
      cases k with
      | zero => simp at h2
      | succ k => exact ⟨k, by omega, by simpa using h2⟩
  | some u :: t, i, j, v => by
    rw [show lvp i (some u :: t) = (i, u) :: lvp (i + 1) t from rfl, List.mem_cons, lvp_mem t (i + 1) j v]
    constructor
    · rintro (h | ⟨k, h1, h2⟩)
      · cases h; exact ⟨0, rfl, rfl⟩
      · exact ⟨k + 1, by omega, by simpa using h2⟩
    · rintro ⟨k, h1, h2⟩
      cases k with
      | zero => left; simp at h2; rw [h1, h2]; rfl
      | succ k => right; exact ⟨k, by omega, by simpa using h2⟩
theorem lvp_at {ls : Array Slot} {nL : Nat} {lv : List (Option Value)} (h : lv_has ls nL (lvp 0 lv)) {i : Nat} {v : Value} (hi : lv[i]? = some (some v)) : ls[i]? = some (.val v) := h.2.2 (i, v) ((lvp_mem lv 0 i v).mpr ⟨i, by omega, hi⟩)
def okst (lv : List (Option Value)) (i : Nat) : Bool := match i with
  | 0 => true
  | j + 1 => match lv[j]? with
    | some (some v) => v.category != 2
    | _ => true
theorem lvp_set {ls : Array Slot} {nL : Nat} {lv : List (Option Value)} {i : Nat} {v : Value} (hk : okst lv i = true) (h : lv_has ls nL ((i, v) :: (lvp 0 lv).filter (fun q => !(q.1 == i) && !(q.1 + 1 == i && q.2.category == 2)))) : lv_has ls nL (lvp 0 (lv.set i (some v))) := by
  refine ⟨h.1, h.2.1, fun q hq => ?_⟩
  obtain ⟨j, u⟩ := q
  obtain ⟨k, h1, h2⟩ := (lvp_mem _ 0 j u).mp hq
  have e : j = k := by omega
  subst e
  by_cases hj : i = j
  · subst hj
    rw [List.getElem?_set] at h2
    split at h2
    · split at h2
      · cases h2; exact h.2.2 _ List.mem_cons_self
      · cases h2
    · exact absurd rfl ‹_›
  · rw [List.getElem?_set_ne hj] at h2
    refine h.2.2 (j, u) (List.mem_cons_of_mem _ (List.mem_filter.mpr ⟨(lvp_mem lv 0 j u).mpr ⟨j, by omega, h2⟩, ?_⟩))
    have c1 : (j == i) = false := by simpa using fun e => hj e.symm
    rw [Bool.and_eq_true]
    refine ⟨by simp [c1], ?_⟩
    by_cases c2 : j + 1 = i
    · subst c2
      rw [show okst lv (j + 1) = (match lv[j]? with | some (some v) => v.category != 2 | _ => true) from rfl, h2] at hk
      simp at hk
      simp [hk]
    · simp [c2]
theorem lvp_setL {ls : Array Slot} {nL : Nat} {lv : List (Option Value)} {i : Nat} {v : Value} (hk : okst lv i = true) (h : lv_has ls nL ((i, v) :: (lvp 0 lv).filter (fun q => !(q.1 == i) && (!(q.1 == i + 1) && !(q.1 + 1 == i && q.2.category == 2))))) : lv_has ls nL (lvp 0 ((lv.set i (some v)).set (i + 1) none)) := by
  refine ⟨h.1, h.2.1, fun q hq => ?_⟩
  obtain ⟨j, u⟩ := q
  obtain ⟨k, h1, h2⟩ := (lvp_mem _ 0 j u).mp hq
  have e : j = k := by omega
  subst e
  by_cases hj1 : i + 1 = j
  · subst hj1
    rw [List.getElem?_set] at h2
    split at h2
    · split at h2 <;> cases h2
    · exact absurd rfl ‹_›
  rw [List.getElem?_set_ne hj1] at h2
  by_cases hj : i = j
  · subst hj
    rw [List.getElem?_set] at h2
    split at h2
    · split at h2
      · cases h2; exact h.2.2 _ List.mem_cons_self
      · cases h2
    · exact absurd rfl ‹_›
  · rw [List.getElem?_set_ne hj] at h2
    refine h.2.2 (j, u) (List.mem_cons_of_mem _ (List.mem_filter.mpr ⟨(lvp_mem lv 0 j u).mpr ⟨j, by omega, h2⟩, ?_⟩))
    have c1 : (j == i) = false := by simpa using fun e => hj e.symm
    have c3 : (j == i + 1) = false := by simpa using fun e => hj1 e.symm
    rw [Bool.and_eq_true, Bool.and_eq_true]
    refine ⟨by simp [c1], by simp [c3], ?_⟩
    by_cases c2 : j + 1 = i
    · subst c2
      rw [show okst lv (j + 1) = (match lv[j]? with | some (some v) => v.category != 2 | _ => true) from rfl, h2] at hk
      simp at hk
      simp [hk]
    · simp [c2]
/-- some locals forgotten -/
def mask : List Bool → List (Option Value) → List (Option Value)
  | b :: bs, o :: os => (if b then o else none) :: mask bs os
  | _, [] => []
  | [], o :: os => o :: mask [] os
theorem mask_len : ∀ (bs : List Bool) (l : List (Option Value)), (mask bs l).length = l.length
  | _ :: bs, _ :: os => by simp [mask, mask_len bs os]
  | _ :: _, [] => by simp [mask]
  | [], [] => by simp [mask]
  | [], _ :: os => by simp [mask, mask_len [] os]
theorem mask_get : ∀ (bs : List Bool) (l : List (Option Value)) (k : Nat) (v : Value), (mask bs l)[k]? = some (some v) → l[k]? = some (some v)
  | b :: bs, o :: os, 0, v => by
    cases b <;> simp [mask]
  | b :: bs, o :: os, k + 1, v => by simpa [mask] using mask_get bs os k v
  | _ :: _, [], k, v => by simp [mask]
  | [], [], k, v => by simp [mask]
  | [], o :: os, 0, v => by simp [mask]
  | [], o :: os, k + 1, v => by simpa [mask] using mask_get [] os k v
theorem lvp_mask {ls : Array Slot} {nL : Nat} {lv : List (Option Value)} (bs : List Bool) (h : lv_has ls nL (lvp 0 lv)) : lv_has ls nL (lvp 0 (mask bs lv)) := by
  refine ⟨h.1, h.2.1, fun q hq => ?_⟩
  obtain ⟨j, u⟩ := q
  obtain ⟨k, h1, h2⟩ := (lvp_mem _ 0 j u).mp hq
  exact h.2.2 (j, u) ((lvp_mem lv 0 j u).mpr ⟨k, h1, mask_get bs lv k u h2⟩)
/-- the words that every method rests on -/
def lw_G : List Cond := lw_tbl.filter goodWord
theorem lw_G_good : ∀ w ∈ lw_G, goodWord w = true := fun w h => (List.mem_filter.mp h).2
theorem lw_G_in {w : Cond} (h : w ∈ lw_tbl) (hg : goodWord w = true) : w ∈ lw_G := List.mem_filter.mpr ⟨h, hg⟩
theorem lw_G_sub : ∀ w ∈ lw_G, w ∈ lw_tbl := fun _ h => (List.mem_filter.mp h).1
def isNest : Cond → Bool
  | .methodLinkNest .. => true
  | _ => false
def lw_nest : List Cond := lw_tbl.filter isNest
abbrev u_X : Type := va_G × List (ClassId × FieldType)
abbrev u_K : Type := Nat → Nat → Nat → List (Option Value) → List Value → va_W → Prop
def KX (X : u_X) (U : State) : Prop := va_K X.1 vwCl X.2 U ∧ ∀ w ∈ lw_nest, va_Nw w U
theorem nest_warm {w : Cond} (hw : w ∈ lw_nest) {s U : State} (hW : s.WarmedH U.vm) (h : va_Nw w s) : va_Nw w U := by
  have h1 := (List.mem_filter.mp hw).2
  cases w <;> first | exact va_Nw.warmM hW h | cases h1
theorem nest_same {w : Cond} (hw : w ∈ lw_nest) {s U : State} (he : s.vm = U.vm) (h : va_Nw w s) : va_Nw w U := by
  have h1 := (List.mem_filter.mp hw).2
  cases w <;> first | exact va_Nw.same rfl he h | cases h1
theorem KX.warm {X : u_X} {s U : State} (hW : s.WarmedH U.vm) (h : KX X s) : KX X U := ⟨va_K.moved hW.alike h.1, fun w hw => nest_warm hw hW (h.2 w hw)⟩
theorem KX.same {X : u_X} {s U : State} (he : s.vm = U.vm) (h : KX X s) : KX X U := ⟨va_K.moved (by rw [he]; exact Vm.Alike.refl _) h.1, fun w hw => nest_same hw he (h.2 w hw)⟩
def wsG (y : MethodName) (cc : ByteArray) (nL : Nat) (ret : Option FieldType) : List Cond := .code y cc nL ret :: lw_G
/-- how a method ends -/
def QG (X : u_X) (Rt : Option Value → va_W → Prop) (A : Nat → Prop) : Array Value → State → Outcome → State → Prop := fun _ st oc t => (∃ (v : Option Value) (w : va_W), oc = .returned v ∧ Rt v w ∧ va_P X.1 vwCl w t.heap ∧ va_D A w) ∧ va_F A st t
def PG (X : u_X) (args : List Value) (w : va_W) (sz : Nat) : Array Value → State → Prop := va_Pc args (fun U => U.heap.size = sz ∧ va_P X.1 vwCl w U.heap ∧ KX X U ∧ va_D (fun _ => True) w)
/-- a method's contract -/
def Con (l : Launch) (X : u_X) (y : MethodName) (cc : ByteArray) (nL : Nat) (ret : Option FieldType) (rf rl mc ms : Nat) (args : List Value) (w : va_W) (Rt : Option Value → va_W → Prop) : Prop :=
  ∀ sz : Nat, Met l y (wsG y cc nL ret) { frames := rf, cells := mc, slots := ms, locals := rl } (PG X args w sz) (QG X Rt (va_A w sz)) mc ms (va_A w sz)
theorem PG_blind (X : u_X) (args : List Value) (w : va_W) (sz : Nat) : FrameBlind (PG X args w sz) := fun a U g mk q => by
  obtain ⟨q0, q1, qP, qK, qD⟩ := q
  exact ⟨q0, q1, qP, KX.same (U := U.calling g mk a) (s := U) rfl qK, qD⟩
def MW (X : u_X) (p : Program) (l : Launch) (e : Env) (R : Room) (s : State) (m : MethodId) (args : Array Value) (below : List Frame) (meth : Method) (c : Code) (nL : Nat) (A : Nat → Prop) (H0 : Heap) (Q : State → Prop) : u_K :=
  fun nc ns pc lv st w => lv.length = nL → ∀ (H : Heap) (locs : List Loc) (ls : Array Slot), lv_has ls nL (lvp 0 lv) → va_P X.1 vwCl w H → va_D A w → va_S A H0 H locs → W p l e R s m args below meth c H locs nc ns Q (F0 m pc ls st)
/-- what a walk rests on -/
def Wk0 (l : Launch) (X : u_X) (R : Room) (cc : ByteArray) (nL : Nat) (own : String) (nm : String) (K : u_K) : Prop :=
  ∃ (p : Program) (e : Env) (s : State) (m : MethodId) (args : Array Value) (below : List Frame) (meth : Method) (c : Code) (A : Nat → Prop) (H0 : Heap) (Q : State → Prop), K = MW X p l e R s m args below meth c nL A H0 Q ∧ p.tables.exec = Jvm.exec ∧ c.code = cc ∧ c.maxLocals = nL ∧ s.vm.findClass own = some m.cls ∧ (∀ w ∈ lw_G, w.before args s = true) ∧ KX X s ∧ (∀ q, H0.size ≤ q → A q) ∧ meth.name = nm
/-- .. and its end -/
def Wk (l : Launch) (X : u_X) (R : Room) (cc : ByteArray) (nL : Nat) (own nm : String) (ret : Option FieldType) (Rt : Option Value → va_W → Prop) (K : u_K) : Prop :=
  ∃ (p : Program) (e : Env) (s : State) (m : MethodId) (args : Array Value) (below : List Frame) (meth : Method) (c : Code) (A : Nat → Prop), K = MW X p l e R s m args below meth c nL A s.heap (MQ below (QG X Rt A) args s R.cells R.slots A) ∧ p.tables.exec = Jvm.exec ∧ c.code = cc ∧ c.maxLocals = nL ∧ s.vm.findClass own = some m.cls ∧ (∀ w ∈ lw_G, w.before args s = true) ∧ KX X s ∧ (∀ q, s.heap.size ≤ q → A q) ∧ meth.name = nm ∧ meth.sig.returnType = ret ∧ meth.locks = false
theorem Wk.wk {l : Launch} {X : u_X} {R : Room} {cc : ByteArray} {nL : Nat} {own nm : String} {ret : Option FieldType} {Rt : Option Value → va_W → Prop} {K : u_K} (g : Wk l X R cc nL own nm ret Rt K) : Wk0 l X R cc nL own nm K := by
  obtain ⟨p, e, s, m, args, below, meth, c, A, h1, h2, h3, h4, h5, h6, h7, h8, h9, -⟩ := g
  exact ⟨p, e, s, m, args, below, meth, c, A, s.heap, _, h1, h2, h3, h4, h5, h6, h7, h8, h9⟩
theorem Con.of {l : Launch} {X : u_X} {y : MethodName} {cc : ByteArray} {nL : Nat} {ret : Option FieldType} {rf rl mc ms : Nat} {args : List Value} {w : va_W} {Rt : Option Value → va_W → Prop} (lv : List (Option Value)) (hy : plainName y.cls = true) (hlv : lvp 0 lv = lv_args 0 args) (hln : lv.length = nL) (hsl : (lg_sl args).length ≤ nL)
    (body : ∀ K, Wk l X { frames := rf, cells := mc, slots := ms, locals := rl } cc nL y.cls y.name ret Rt K → K 0 0 0 lv [] w) : Con l X y cc nL ret rf rl mc ms args w Rt := by
  intro sz
  refine Met.ofW (cc := cc) (maxL := nL) (ret := ret) hy rfl ?_
  intro p e s m a below meth c s₁ B hml hv
  obtain ⟨rfl, hsz, hP, hK, hD0⟩ := hv
  have hts := atoms_spec (ws := wsG y cc nL ret) B.pre
  have hown : s.vm.findClass y.cls = some m.cls := findClass_of_methodNamed B.named
  subst hsz
  have hD := hD0.self (sz := s.heap.size)
  have hl := lv_entry args (n := nL) hsl
  rw [lg_entry_eq]
  rw [← hlv] at hl
  exact body _ ⟨p, e, s, m, args.toArray, below, meth, c, va_A w s.heap.size, rfl, B.exec, B.bytes, hml, hown, fun w h => hts w (List.mem_cons_of_mem _ h), hK, fun q h => Or.inr h, (name_of_methodNamed B.named B.method).1, B.returns, B.notSynchronized⟩ hln s.heap [] _ hl hP hD va_S.rf
section ROWS
variable {l : Launch} {X : u_X} {R : Room} {cc : ByteArray} {nL : Nat} {own nm : String} {K : u_K} {nc ns pc : Nat} {lv : List (Option Value)} {st : List Value} {w : va_W}
theorem r_mask (g : Wk0 l X R cc nL own nm K) (bs : List Bool) {lv' : List (Option Value)} (h : mask bs lv = lv') (k : K nc ns pc lv' st w) : K nc ns pc lv st w := by
  obtain ⟨p, e, s, m, args, below, meth, c, A, H0, Q, rfl, hx, hb, hml, hown, hts, hK, hA, hnm⟩ := g
  intro hln H locs ls hl hP hD hS
  subst h
  exact k (by rw [mask_len]; exact hln) H locs ls (lvp_mask bs hl) hP hD hS
theorem r_iconst (g : Wk0 l X R cc nL own nm K) {n : Int} (d : decode cc pc = .ok (.iconst n, 1))  (k : K nc ns (pc + 1) lv (.int (J n) :: st) w) : K nc ns pc lv (st) w := by
  obtain ⟨p, e, s, m, args, below, meth, c, A, H0, Q, rfl, hx, hb, hml, hown, hts, hK, hA, hnm⟩ := g
  intro hln H locs ls hl hP hD hS
  exact lv_iconst (v := J n) hx hb d rfl (k hln H locs ls hl hP hD hS)
theorem r_bipush (g : Wk0 l X R cc nL own nm K) {n : Int} (d : decode cc pc = .ok (.bipush n, 2)) (hn : (Int8.ofInt n).toInt32 = J n) (k : K nc ns (pc + 2) lv (.int (J n) :: st) w) : K nc ns pc lv (st) w := by
  obtain ⟨p, e, s, m, args, below, meth, c, A, H0, Q, rfl, hx, hb, hml, hown, hts, hK, hA, hnm⟩ := g
  intro hln H locs ls hl hP hD hS
  exact lv_bipush (v := J n) hx hb d hn (k hln H locs ls hl hP hD hS)
theorem r_sipush (g : Wk0 l X R cc nL own nm K) {n : Int} (d : decode cc pc = .ok (.sipush n, 3)) (hn : (Int16.ofInt n).toInt32 = J n) (k : K nc ns (pc + 3) lv (.int (J n) :: st) w) : K nc ns pc lv (st) w := by
  obtain ⟨p, e, s, m, args, below, meth, c, A, H0, Q, rfl, hx, hb, hml, hown, hts, hK, hA, hnm⟩ := g
  intro hln H locs ls hl hP hD hS
  exact lv_sipush (v := J n) hx hb d hn (k hln H locs ls hl hP hD hS)
theorem r_lconst (g : Wk0 l X R cc nL own nm K) {n : Fin 2} {v : Int} (d : decode cc pc = .ok (.lconst n, 1)) (hv : Int64.ofNat (n : Nat) = JL v) (k : K nc ns (pc + 1) lv (.long (JL v) :: st) w) : K nc ns pc lv (st) w := by
  obtain ⟨p, e, s, m, args, below, meth, c, A, H0, Q, rfl, hx, hb, hml, hown, hts, hK, hA, hnm⟩ := g
  intro hln H locs ls hl hP hD hS
  exact lv_lconst (v := JL v) hx hb d hv (k hln H locs ls hl hP hD hS)
theorem r_ldc (g : Wk0 l X R cc nL own nm K) {i : Nat} {v : Int} (d : decode cc pc = .ok (.ldc i, 2)) (hc : Cond.constant own i (J v) ∈ lw_G) (k : K nc ns (pc + 2) lv (.int (J v) :: st) w) : K nc ns pc lv (st) w := by
  obtain ⟨p, e, s, m, args, below, meth, c, A, H0, Q, rfl, hx, hb, hml, hown, hts, hK, hA, hnm⟩ := g
  intro hln H locs ls hl hP hD hS
  exact lv_ldc hx hb hown (hts _ hc) d (k hln H locs ls hl hP hD hS)
theorem r_ldc2 (g : Wk0 l X R cc nL own nm K) {i : Nat} {v : Int} (d : decode cc pc = .ok (.ldc2_w i, 3)) (hc : Cond.constantLong own i (JL v) ∈ lw_G) (k : K nc ns (pc + 3) lv (.long (JL v) :: st) w) : K nc ns pc lv (st) w := by
  obtain ⟨p, e, s, m, args, below, meth, c, A, H0, Q, rfl, hx, hb, hml, hown, hts, hK, hA, hnm⟩ := g
  intro hln H locs ls hl hP hD hS
  exact lv_ldc2 hx hb hown (hts _ hc) d (k hln H locs ls hl hP hD hS)
theorem r_iload (g : Wk0 l X R cc nL own nm K) {i : Nat} {x : Int32} (d : decode cc pc = .ok (.iload i, 2)) (hi : lv[i]? = some (some (.int x))) (k : K nc ns (pc + 2) lv (.int x :: st) w) : K nc ns pc lv (st) w := by
  obtain ⟨p, e, s, m, args, below, meth, c, A, H0, Q, rfl, hx, hb, hml, hown, hts, hK, hA, hnm⟩ := g
  intro hln H locs ls hl hP hD hS
  exact lv_iload hx hb d (lvp_at hl hi) (k hln H locs ls hl hP hD hS)
theorem r_iload_n (g : Wk0 l X R cc nL own nm K) {i : Fin 4} {x : Int32} (d : decode cc pc = .ok (.iload_n i, 1)) (hi : lv[(i : Nat)]? = some (some (.int x))) (k : K nc ns (pc + 1) lv (.int x :: st) w) : K nc ns pc lv (st) w := by
  obtain ⟨p, e, s, m, args, below, meth, c, A, H0, Q, rfl, hx, hb, hml, hown, hts, hK, hA, hnm⟩ := g
  intro hln H locs ls hl hP hD hS
  exact lv_iload_n hx hb d rfl (lvp_at hl hi) (k hln H locs ls hl hP hD hS)
theorem r_istore (g : Wk0 l X R cc nL own nm K) {i : Nat} {x : Int32} {lv' : List (Option Value)} (d : decode cc pc = .ok (.istore i, 2)) (hi : i < nL) (ho : okst lv i = true) (hs : lv.set i (some (.int x)) = lv') (k : K nc ns (pc + 2) lv' st w) : K nc ns pc lv (.int x :: st) w := by
  obtain ⟨p, e, s, m, args, below, meth, c, A, H0, Q, rfl, hx, hb, hml, hown, hts, hK, hA, hnm⟩ := g
  intro hln H locs ls hl hP hD hS
  subst hs
  exact lv_istore hx hb d hl hi rfl (fun ls' hl' => k (by simpa using hln) H locs ls' (lvp_set ho hl') hP hD hS)
theorem r_istore_n (g : Wk0 l X R cc nL own nm K) {i : Fin 4} {x : Int32} {lv' : List (Option Value)} (d : decode cc pc = .ok (.istore_n i, 1)) (hi : (i : Nat) < nL) (ho : okst lv (i : Nat) = true) (hs : lv.set (i : Nat) (some (.int x)) = lv') (k : K nc ns (pc + 1) lv' st w) : K nc ns pc lv (.int x :: st) w := by
  obtain ⟨p, e, s, m, args, below, meth, c, A, H0, Q, rfl, hx, hb, hml, hown, hts, hK, hA, hnm⟩ := g
  intro hln H locs ls hl hP hD hS
  subst hs
  exact lv_istore_n hx hb d rfl hl hi rfl (fun ls' hl' => k (by simpa using hln) H locs ls' (lvp_set ho hl') hP hD hS)
theorem r_lload (g : Wk0 l X R cc nL own nm K) {i : Nat} {x : Int64} (d : decode cc pc = .ok (.lload i, 2)) (hi : lv[i]? = some (some (.long x))) (k : K nc ns (pc + 2) lv (.long x :: st) w) : K nc ns pc lv (st) w := by
  obtain ⟨p, e, s, m, args, below, meth, c, A, H0, Q, rfl, hx, hb, hml, hown, hts, hK, hA, hnm⟩ := g
  intro hln H locs ls hl hP hD hS
  exact lv_lload hx hb d (lvp_at hl hi) (k hln H locs ls hl hP hD hS)
theorem r_lload_n (g : Wk0 l X R cc nL own nm K) {i : Fin 4} {x : Int64} (d : decode cc pc = .ok (.lload_n i, 1)) (hi : lv[(i : Nat)]? = some (some (.long x))) (k : K nc ns (pc + 1) lv (.long x :: st) w) : K nc ns pc lv (st) w := by
  obtain ⟨p, e, s, m, args, below, meth, c, A, H0, Q, rfl, hx, hb, hml, hown, hts, hK, hA, hnm⟩ := g
  intro hln H locs ls hl hP hD hS
  exact lv_lload_n hx hb d rfl (lvp_at hl hi) (k hln H locs ls hl hP hD hS)
theorem r_lstore (g : Wk0 l X R cc nL own nm K) {i : Nat} {x : Int64} {lv' : List (Option Value)} (d : decode cc pc = .ok (.lstore i, 2)) (hi : i + 1 < nL) (ho : okst lv i = true) (hs : (lv.set i (some (.long x))).set (i + 1) none = lv') (k : K nc ns (pc + 2) lv' st w) : K nc ns pc lv (.long x :: st) w := by
  obtain ⟨p, e, s, m, args, below, meth, c, A, H0, Q, rfl, hx, hb, hml, hown, hts, hK, hA, hnm⟩ := g
  intro hln H locs ls hl hP hD hS
  subst hs
  exact lv_lstore hx hb d hl hi rfl (fun ls' hl' => k (by simpa using hln) H locs ls' (lvp_setL ho hl') hP hD hS)
theorem r_lstore_n (g : Wk0 l X R cc nL own nm K) {i : Fin 4} {x : Int64} {lv' : List (Option Value)} (d : decode cc pc = .ok (.lstore_n i, 1)) (hi : (i : Nat) + 1 < nL) (ho : okst lv (i : Nat) = true) (hs : (lv.set (i : Nat) (some (.long x))).set ((i : Nat) + 1) none = lv') (k : K nc ns (pc + 1) lv' st w) : K nc ns pc lv (.long x :: st) w := by
  obtain ⟨p, e, s, m, args, below, meth, c, A, H0, Q, rfl, hx, hb, hml, hown, hts, hK, hA, hnm⟩ := g
  intro hln H locs ls hl hP hD hS
  subst hs
  exact lv_lstore_n hx hb d rfl hl hi rfl (fun ls' hl' => k (by simpa using hln) H locs ls' (lvp_setL ho hl') hP hD hS)
theorem r_aload (g : Wk0 l X R cc nL own nm K) {i : Nat} {x : Nat} (d : decode cc pc = .ok (.aload i, 2)) (hi : lv[i]? = some (some (.ref x))) (k : K nc ns (pc + 2) lv (.ref x :: st) w) : K nc ns pc lv (st) w := by
  obtain ⟨p, e, s, m, args, below, meth, c, A, H0, Q, rfl, hx, hb, hml, hown, hts, hK, hA, hnm⟩ := g
  intro hln H locs ls hl hP hD hS
  exact lv_aload hx hb d (lvp_at hl hi) (k hln H locs ls hl hP hD hS)
theorem r_aload_n (g : Wk0 l X R cc nL own nm K) {i : Fin 4} {x : Nat} (d : decode cc pc = .ok (.aload_n i, 1)) (hi : lv[(i : Nat)]? = some (some (.ref x))) (k : K nc ns (pc + 1) lv (.ref x :: st) w) : K nc ns pc lv (st) w := by
  obtain ⟨p, e, s, m, args, below, meth, c, A, H0, Q, rfl, hx, hb, hml, hown, hts, hK, hA, hnm⟩ := g
  intro hln H locs ls hl hP hD hS
  exact lv_aload_n hx hb d rfl (lvp_at hl hi) (k hln H locs ls hl hP hD hS)
theorem r_astore (g : Wk0 l X R cc nL own nm K) {i : Nat} {x : Nat} {lv' : List (Option Value)} (d : decode cc pc = .ok (.astore i, 2)) (hi : i < nL) (ho : okst lv i = true) (hs : lv.set i (some (.ref x)) = lv') (k : K nc ns (pc + 2) lv' st w) : K nc ns pc lv (.ref x :: st) w := by
  obtain ⟨p, e, s, m, args, below, meth, c, A, H0, Q, rfl, hx, hb, hml, hown, hts, hK, hA, hnm⟩ := g
  intro hln H locs ls hl hP hD hS
  subst hs
  exact lv_astore hx hb d hl hi rfl (fun ls' hl' => k (by simpa using hln) H locs ls' (lvp_set ho hl') hP hD hS)
theorem r_astore_n (g : Wk0 l X R cc nL own nm K) {i : Fin 4} {x : Nat} {lv' : List (Option Value)} (d : decode cc pc = .ok (.astore_n i, 1)) (hi : (i : Nat) < nL) (ho : okst lv (i : Nat) = true) (hs : lv.set (i : Nat) (some (.ref x)) = lv') (k : K nc ns (pc + 1) lv' st w) : K nc ns pc lv (.ref x :: st) w := by
  obtain ⟨p, e, s, m, args, below, meth, c, A, H0, Q, rfl, hx, hb, hml, hown, hts, hK, hA, hnm⟩ := g
  intro hln H locs ls hl hP hD hS
  subst hs
  exact lv_astore_n hx hb d rfl hl hi rfl (fun ls' hl' => k (by simpa using hln) H locs ls' (lvp_set ho hl') hP hD hS)
theorem r_iinc (g : Wk0 l X R cc nL own nm K) {i : Nat} {n a : Int} {lv' : List (Option Value)} (d : decode cc pc = .ok (.iinc i n, 3)) (hi : i < nL) (hv : lv[i]? = some (some (.int (J a)))) (ho : okst lv i = true) (hs : lv.set i (some (.int (J (wr (a + n))))) = lv') (k : K nc ns (pc + 3) lv' st w) : K nc ns pc lv st w := by
  obtain ⟨p, e, s, m, args, below, meth, c, A, H0, Q, rfl, hx, hb, hml, hown, hts, hK, hA, hnm⟩ := g
  intro hln H locs ls hl hP hD hS
  subst hs
  obtain ⟨j, hj⟩ := List.getElem?_of_mem ((lvp_mem lv 0 i _).mpr ⟨i, by omega, hv⟩)
  exact lv_iinc hx hb d hl hj (v := J (wr (a + n))) (by rw [← J_add]; rfl) hi rfl (fun ls' hl' => k (by simpa using hln) H locs ls' (lvp_set ho hl') hP hD hS)
theorem r_iadd (g : Wk0 l X R cc nL own nm K) {a b : Int} (d : decode cc pc = .ok (.iadd, 1)) (k : K nc ns (pc + 1) lv (.int (J (wr (a + b))) :: st) w) : K nc ns pc lv (.int (J b) :: .int (J a) :: st) w := by
  obtain ⟨p, e, s, m, args, below, meth, c, A, H0, Q, rfl, hx, hb, hml, hown, hts, hK, hA, hnm⟩ := g
  intro hln H locs ls hl hP hD hS
  rw [← J_add] at k
  exact lv_iadd hx hb d (k hln H locs ls hl hP hD hS)
theorem r_isub (g : Wk0 l X R cc nL own nm K) {a b : Int} (d : decode cc pc = .ok (.isub, 1)) (k : K nc ns (pc + 1) lv (.int (J (wr (a - b))) :: st) w) : K nc ns pc lv (.int (J b) :: .int (J a) :: st) w := by
  obtain ⟨p, e, s, m, args, below, meth, c, A, H0, Q, rfl, hx, hb, hml, hown, hts, hK, hA, hnm⟩ := g
  intro hln H locs ls hl hP hD hS
  rw [← J_sub] at k
  exact lv_isub hx hb d (k hln H locs ls hl hP hD hS)
theorem r_imul (g : Wk0 l X R cc nL own nm K) {a b : Int} (d : decode cc pc = .ok (.imul, 1)) (k : K nc ns (pc + 1) lv (.int (J (wr (a * b))) :: st) w) : K nc ns pc lv (.int (J b) :: .int (J a) :: st) w := by
  obtain ⟨p, e, s, m, args, below, meth, c, A, H0, Q, rfl, hx, hb, hml, hown, hts, hK, hA, hnm⟩ := g
  intro hln H locs ls hl hP hD hS
  rw [← J_mul] at k
  exact lv_imul hx hb d (k hln H locs ls hl hP hD hS)
theorem r_ineg (g : Wk0 l X R cc nL own nm K) {a : Int} (d : decode cc pc = .ok (.ineg, 1)) (k : K nc ns (pc + 1) lv (.int (J (wr (- a))) :: st) w) : K nc ns pc lv (.int (J a) :: st) w := by
  obtain ⟨p, e, s, m, args, below, meth, c, A, H0, Q, rfl, hx, hb, hml, hown, hts, hK, hA, hnm⟩ := g
  intro hln H locs ls hl hP hD hS
  rw [← J_neg] at k
  exact lv_ineg hx hb d (k hln H locs ls hl hP hD hS)
theorem r_ladd (g : Wk0 l X R cc nL own nm K) {a b : Int} (d : decode cc pc = .ok (.ladd, 1)) (k : K nc ns (pc + 1) lv (.long (JL (wl (a + b))) :: st) w) : K nc ns pc lv (.long (JL b) :: .long (JL a) :: st) w := by
  obtain ⟨p, e, s, m, args, below, meth, c, A, H0, Q, rfl, hx, hb, hml, hown, hts, hK, hA, hnm⟩ := g
  intro hln H locs ls hl hP hD hS
  rw [← JL_add] at k
  exact lv_ladd hx hb d (k hln H locs ls hl hP hD hS)
theorem r_lsub (g : Wk0 l X R cc nL own nm K) {a b : Int} (d : decode cc pc = .ok (.lsub, 1)) (k : K nc ns (pc + 1) lv (.long (JL (wl (a - b))) :: st) w) : K nc ns pc lv (.long (JL b) :: .long (JL a) :: st) w := by
  obtain ⟨p, e, s, m, args, below, meth, c, A, H0, Q, rfl, hx, hb, hml, hown, hts, hK, hA, hnm⟩ := g
  intro hln H locs ls hl hP hD hS
  rw [← JL_sub] at k
  exact lv_lsub hx hb d (k hln H locs ls hl hP hD hS)
theorem r_lmul (g : Wk0 l X R cc nL own nm K) {a b : Int} (d : decode cc pc = .ok (.lmul, 1)) (k : K nc ns (pc + 1) lv (.long (JL (wl (a * b))) :: st) w) : K nc ns pc lv (.long (JL b) :: .long (JL a) :: st) w := by
  obtain ⟨p, e, s, m, args, below, meth, c, A, H0, Q, rfl, hx, hb, hml, hown, hts, hK, hA, hnm⟩ := g
  intro hln H locs ls hl hP hD hS
  rw [← JL_mul] at k
  exact lv_lmul hx hb d (k hln H locs ls hl hP hD hS)
theorem r_idiv (g : Wk0 l X R cc nL own nm K) {a b : Int} (d : decode cc pc = .ok (.idiv, 1)) (ha0 : InR a) (hb0 : InR b) (hne : ¬ b = 0) (k : K nc ns (pc + 1) lv (.int (J (wr (a.tdiv b))) :: st) w) : K nc ns pc lv (.int (J b) :: .int (J a) :: st) w := by
  obtain ⟨p, e, s, m, args, below, meth, c, A, H0, Q, rfl, hx, hb, hml, hown, hts, hK, hA, hnm⟩ := g
  intro hln H locs ls hl hP hD hS
  rw [← J_div ha0 hb0] at k
  exact lv_idiv hx hb d (fun h => hne ((J_eq hb0 InR_0).mp h)) (k hln H locs ls hl hP hD hS)
theorem r_ldiv (g : Wk0 l X R cc nL own nm K) {a b : Int} (d : decode cc pc = .ok (.ldiv, 1)) (ha0 : InL a) (hb0 : InL b) (hne : ¬ b = 0) (k : K nc ns (pc + 1) lv (.long (JL (wl (a.tdiv b))) :: st) w) : K nc ns pc lv (.long (JL b) :: .long (JL a) :: st) w := by
  obtain ⟨p, e, s, m, args, below, meth, c, A, H0, Q, rfl, hx, hb, hml, hown, hts, hK, hA, hnm⟩ := g
  intro hln H locs ls hl hP hD hS
  rw [← JL_div ha0 hb0] at k
  exact lv_ldiv hx hb d (fun h => hne ((JL_eq hb0 (InL_i InR_0)).mp h)) (k hln H locs ls hl hP hD hS)
theorem r_irem (g : Wk0 l X R cc nL own nm K) {a b : Int} (d : decode cc pc = .ok (.irem, 1)) (ha0 : InR a) (hb0 : InR b) (hne : ¬ b = 0) (k : K nc ns (pc + 1) lv (.int (J (a.tmod b)) :: st) w) : K nc ns pc lv (.int (J b) :: .int (J a) :: st) w := by
  obtain ⟨p, e, s, m, args, below, meth, c, A, H0, Q, rfl, hx, hb, hml, hown, hts, hK, hA, hnm⟩ := g
  intro hln H locs ls hl hP hD hS
  rw [← J_rem ha0 hb0] at k
  exact lv_irem hx hb d (fun h => hne ((J_eq hb0 InR_0).mp h)) (k hln H locs ls hl hP hD hS)
theorem r_lrem (g : Wk0 l X R cc nL own nm K) {a b : Int} (d : decode cc pc = .ok (.lrem, 1)) (ha0 : InL a) (hb0 : InL b) (hne : ¬ b = 0) (k : K nc ns (pc + 1) lv (.long (JL (a.tmod b)) :: st) w) : K nc ns pc lv (.long (JL b) :: .long (JL a) :: st) w := by
  obtain ⟨p, e, s, m, args, below, meth, c, A, H0, Q, rfl, hx, hb, hml, hown, hts, hK, hA, hnm⟩ := g
  intro hln H locs ls hl hP hD hS
  rw [← JL_rem ha0 hb0] at k
  exact lv_lrem hx hb d (fun h => hne ((JL_eq hb0 (InL_i InR_0)).mp h)) (k hln H locs ls hl hP hD hS)
theorem r_ishl (g : Wk0 l X R cc nL own nm K) {a b : Int} (d : decode cc pc = .ok (.ishl, 1)) (k : K nc ns (pc + 1) lv (.int (J (ishl a b)) :: st) w) : K nc ns pc lv (.int (J b) :: .int (J a) :: st) w := by
  obtain ⟨p, e, s, m, args, below, meth, c, A, H0, Q, rfl, hx, hb, hml, hown, hts, hK, hA, hnm⟩ := g
  intro hln H locs ls hl hP hD hS
  unfold ishl at k
  rw [J_to] at k
  exact lv_ishl hx hb d (k hln H locs ls hl hP hD hS)
theorem r_ishr (g : Wk0 l X R cc nL own nm K) {a b : Int} (d : decode cc pc = .ok (.ishr, 1)) (k : K nc ns (pc + 1) lv (.int (J (ishr a b)) :: st) w) : K nc ns pc lv (.int (J b) :: .int (J a) :: st) w := by
  obtain ⟨p, e, s, m, args, below, meth, c, A, H0, Q, rfl, hx, hb, hml, hown, hts, hK, hA, hnm⟩ := g
  intro hln H locs ls hl hP hD hS
  unfold ishr at k
  rw [J_to] at k
  exact lv_ishr hx hb d (k hln H locs ls hl hP hD hS)
theorem r_iand (g : Wk0 l X R cc nL own nm K) {a b : Int} (d : decode cc pc = .ok (.iand, 1)) (k : K nc ns (pc + 1) lv (.int (J (iand a b)) :: st) w) : K nc ns pc lv (.int (J b) :: .int (J a) :: st) w := by
  obtain ⟨p, e, s, m, args, below, meth, c, A, H0, Q, rfl, hx, hb, hml, hown, hts, hK, hA, hnm⟩ := g
  intro hln H locs ls hl hP hD hS
  unfold iand at k
  rw [J_to] at k
  exact lv_iand hx hb d (k hln H locs ls hl hP hD hS)
theorem r_ior (g : Wk0 l X R cc nL own nm K) {a b : Int} (d : decode cc pc = .ok (.ior, 1)) (k : K nc ns (pc + 1) lv (.int (J (ior a b)) :: st) w) : K nc ns pc lv (.int (J b) :: .int (J a) :: st) w := by
  obtain ⟨p, e, s, m, args, below, meth, c, A, H0, Q, rfl, hx, hb, hml, hown, hts, hK, hA, hnm⟩ := g
  intro hln H locs ls hl hP hD hS
  unfold ior at k
  rw [J_to] at k
  exact lv_ior hx hb d (k hln H locs ls hl hP hD hS)
theorem r_ixor (g : Wk0 l X R cc nL own nm K) {a b : Int} (d : decode cc pc = .ok (.ixor, 1)) (k : K nc ns (pc + 1) lv (.int (J (ixor a b)) :: st) w) : K nc ns pc lv (.int (J b) :: .int (J a) :: st) w := by
  obtain ⟨p, e, s, m, args, below, meth, c, A, H0, Q, rfl, hx, hb, hml, hown, hts, hK, hA, hnm⟩ := g
  intro hln H locs ls hl hP hD hS
  unfold ixor at k
  rw [J_to] at k
  exact lv_ixor hx hb d (k hln H locs ls hl hP hD hS)
theorem r_lor (g : Wk0 l X R cc nL own nm K) {a b : Int} (d : decode cc pc = .ok (.lor, 1)) (k : K nc ns (pc + 1) lv (.long (JL (lor a b)) :: st) w) : K nc ns pc lv (.long (JL b) :: .long (JL a) :: st) w := by
  obtain ⟨p, e, s, m, args, below, meth, c, A, H0, Q, rfl, hx, hb, hml, hown, hts, hK, hA, hnm⟩ := g
  intro hln H locs ls hl hP hD hS
  unfold lor at k
  rw [JL_to] at k
  exact lv_lor hx hb d (k hln H locs ls hl hP hD hS)
theorem r_lshl (g : Wk0 l X R cc nL own nm K) {a b : Int} (d : decode cc pc = .ok (.lshl, 1)) (k : K nc ns (pc + 1) lv (.long (JL (lshl a b)) :: st) w) : K nc ns pc lv (.int (J b) :: .long (JL a) :: st) w := by
  obtain ⟨p, e, s, m, args, below, meth, c, A, H0, Q, rfl, hx, hb, hml, hown, hts, hK, hA, hnm⟩ := g
  intro hln H locs ls hl hP hD hS
  unfold lshl at k
  rw [JL_to] at k
  exact lv_lshl hx hb d rfl (k hln H locs ls hl hP hD hS)
theorem r_lcmp (g : Wk0 l X R cc nL own nm K) {a b : Int} (d : decode cc pc = .ok (.lcmp, 1)) (ha0 : InL a) (hb0 : InL b) (k : K nc ns (pc + 1) lv (.int (J (lcm3 a b)) :: st) w) : K nc ns pc lv (.long (JL b) :: .long (JL a) :: st) w := by
  obtain ⟨p, e, s, m, args, below, meth, c, A, H0, Q, rfl, hx, hb, hml, hown, hts, hK, hA, hnm⟩ := g
  intro hln H locs ls hl hP hD hS
  have e : lg_cmp (JL a) (JL b) = J (lcm3 a b) := by
    unfold lg_cmp lcm3
    have c1 : (JL a > JL b) ↔ b < a := JL_lt hb0 ha0
    have c2 := JL_eq ha0 hb0
    simp only [c1, c2]
    split
    · rfl
    · split <;> rfl
  rw [← e] at k
  exact W.lcmp hx hb d (k hln H locs ls hl hP hD hS)
theorem r_i2l (g : Wk0 l X R cc nL own nm K) {a : Int} (d : decode cc pc = .ok (.i2l, 1)) (ha0 : InR a) (k : K nc ns (pc + 1) lv (.long (JL a) :: st) w) : K nc ns pc lv (.int (J a) :: st) w := by
  obtain ⟨p, e, s, m, args, below, meth, c, A, H0, Q, rfl, hx, hb, hml, hown, hts, hK, hA, hnm⟩ := g
  intro hln H locs ls hl hP hD hS
  exact lv_i2l hx hb d (J_l ha0) (k hln H locs ls hl hP hD hS)
theorem r_l2i (g : Wk0 l X R cc nL own nm K) {a : Int} (d : decode cc pc = .ok (.l2i, 1)) (k : K nc ns (pc + 1) lv (.int (J (wr a)) :: st) w) : K nc ns pc lv (.long (JL a) :: st) w := by
  obtain ⟨p, e, s, m, args, below, meth, c, A, H0, Q, rfl, hx, hb, hml, hown, hts, hK, hA, hnm⟩ := g
  intro hln H locs ls hl hP hD hS
  exact lv_l2i hx hb d (JL_i a) (k hln H locs ls hl hP hD hS)
theorem r_dup (g : Wk0 l X R cc nL own nm K) {v : Value} (d : decode cc pc = .ok (.dup, 1)) (hv : v.category = 1) (k : K nc ns (pc + 1) lv (v :: v :: st) w) : K nc ns pc lv (v :: st) w := by
  obtain ⟨p, e, s, m, args, below, meth, c, A, H0, Q, rfl, hx, hb, hml, hown, hts, hK, hA, hnm⟩ := g
  intro hln H locs ls hl hP hD hS
  exact lv_dup hx hb d hv (k hln H locs ls hl hP hD hS)
theorem r_dup2 (g : Wk0 l X R cc nL own nm K) {u v : Value} (d : decode cc pc = .ok (.dup2, 1)) (hu : u.category = 1) (hv : v.category = 1) (k : K nc ns (pc + 1) lv (u :: v :: u :: v :: st) w) : K nc ns pc lv (u :: v :: st) w := by
  obtain ⟨p, e, s, m, args, below, meth, c, A, H0, Q, rfl, hx, hb, hml, hown, hts, hK, hA, hnm⟩ := g
  intro hln H locs ls hl hP hD hS
  exact lv_dup2_11 hx hb d hu hv (k hln H locs ls hl hP hD hS)
theorem r_pop (g : Wk0 l X R cc nL own nm K) {v : Value} (d : decode cc pc = .ok (.pop, 1)) (hv : v.category = 1) (k : K nc ns (pc + 1) lv st w) : K nc ns pc lv (v :: st) w := by
  obtain ⟨p, e, s, m, args, below, meth, c, A, H0, Q, rfl, hx, hb, hml, hown, hts, hK, hA, hnm⟩ := g
  intro hln H locs ls hl hP hD hS
  exact lv_pop hx hb d hv (k hln H locs ls hl hP hD hS)
theorem r_goto (g : Wk0 l X R cc nL own nm K) {off : Int} (tgt : Nat) (d : decode cc pc = .ok (.goto off, 3)) (ht : (pc : Int) + off = (tgt : Int)) (k : K nc ns tgt lv st w) : K nc ns pc lv st w := by
  obtain ⟨p, e, s, m, args, below, meth, c, A, H0, Q, rfl, hx, hb, hml, hown, hts, hK, hA, hnm⟩ := g
  intro hln H locs ls hl hP hD hS
  exact lv_goto hx hb d ht (k hln H locs ls hl hP hD hS)
theorem r_icmp_lt (g : Wk0 l X R cc nL own nm K) {a b : Int} {off : Int} (tgt : Nat) (d : decode cc pc = .ok (.if_icmp .lt off, 3)) (ht : (pc : Int) + off = (tgt : Int)) (ha0 : InR a) (hb0 : InR b) (kt : a < b → K nc ns tgt lv st w) (kf : ¬ a < b → K nc ns (pc + 3) lv st w) : K nc ns pc lv (.int (J b) :: .int (J a) :: st) w := by
  obtain ⟨p, e, s, m, args, below, meth, c, A, H0, Q, rfl, hx, hb, hml, hown, hts, hK, hA, hnm⟩ := g
  intro hln H locs ls hl hP hD hS
  exact lv_icmp_lt hx hb d ht (fun h => (kt ((J_lt ha0 hb0).mp h) hln H locs ls hl hP hD hS)) (fun h => (kf (fun z => h ((J_lt ha0 hb0).mpr z)) hln H locs ls hl hP hD hS))
theorem r_if_lt (g : Wk0 l X R cc nL own nm K) {a : Int} {off : Int} (tgt : Nat) (d : decode cc pc = .ok (.ifCond .lt off, 3)) (ht : (pc : Int) + off = (tgt : Int)) (ha0 : InR a) (kt : a < 0 → K nc ns tgt lv st w) (kf : ¬ a < 0 → K nc ns (pc + 3) lv st w) : K nc ns pc lv (.int (J a) :: st) w := by
  obtain ⟨p, e, s, m, args, below, meth, c, A, H0, Q, rfl, hx, hb, hml, hown, hts, hK, hA, hnm⟩ := g
  intro hln H locs ls hl hP hD hS
  have hb0 : InR 0 := InR_0
  exact lv_if_lt hx hb d ht (fun h => (kt ((J_lt ha0 hb0).mp h) hln H locs ls hl hP hD hS)) (fun h => (kf (fun z => h ((J_lt ha0 hb0).mpr z)) hln H locs ls hl hP hD hS))
theorem r_icmp_ge (g : Wk0 l X R cc nL own nm K) {a b : Int} {off : Int} (tgt : Nat) (d : decode cc pc = .ok (.if_icmp .ge off, 3)) (ht : (pc : Int) + off = (tgt : Int)) (ha0 : InR a) (hb0 : InR b) (kt : ¬ a < b → K nc ns tgt lv st w) (kf : a < b → K nc ns (pc + 3) lv st w) : K nc ns pc lv (.int (J b) :: .int (J a) :: st) w := by
  obtain ⟨p, e, s, m, args, below, meth, c, A, H0, Q, rfl, hx, hb, hml, hown, hts, hK, hA, hnm⟩ := g
  intro hln H locs ls hl hP hD hS
  exact lv_icmp_ge hx hb d ht (fun h => (kt (fun z => by have := (J_le hb0 ha0).mp h; omega) hln H locs ls hl hP hD hS)) (fun h => (kf (by have := mt (J_le hb0 ha0).mpr h; omega) hln H locs ls hl hP hD hS))
theorem r_if_ge (g : Wk0 l X R cc nL own nm K) {a : Int} {off : Int} (tgt : Nat) (d : decode cc pc = .ok (.ifCond .ge off, 3)) (ht : (pc : Int) + off = (tgt : Int)) (ha0 : InR a) (kt : ¬ a < 0 → K nc ns tgt lv st w) (kf : a < 0 → K nc ns (pc + 3) lv st w) : K nc ns pc lv (.int (J a) :: st) w := by
  obtain ⟨p, e, s, m, args, below, meth, c, A, H0, Q, rfl, hx, hb, hml, hown, hts, hK, hA, hnm⟩ := g
  intro hln H locs ls hl hP hD hS
  have hb0 : InR 0 := InR_0
  exact lv_if_ge hx hb d ht (fun h => (kt (fun z => by have := (J_le hb0 ha0).mp h; omega) hln H locs ls hl hP hD hS)) (fun h => (kf (by have := mt (J_le hb0 ha0).mpr h; omega) hln H locs ls hl hP hD hS))
theorem r_icmp_le (g : Wk0 l X R cc nL own nm K) {a b : Int} {off : Int} (tgt : Nat) (d : decode cc pc = .ok (.if_icmp .le off, 3)) (ht : (pc : Int) + off = (tgt : Int)) (ha0 : InR a) (hb0 : InR b) (kt : a ≤ b → K nc ns tgt lv st w) (kf : ¬ a ≤ b → K nc ns (pc + 3) lv st w) : K nc ns pc lv (.int (J b) :: .int (J a) :: st) w := by
  obtain ⟨p, e, s, m, args, below, meth, c, A, H0, Q, rfl, hx, hb, hml, hown, hts, hK, hA, hnm⟩ := g
  intro hln H locs ls hl hP hD hS
  exact lv_icmp_le hx hb d ht (fun h => (kt ((J_le ha0 hb0).mp h) hln H locs ls hl hP hD hS)) (fun h => (kf (fun z => h ((J_le ha0 hb0).mpr z)) hln H locs ls hl hP hD hS))
theorem r_if_le (g : Wk0 l X R cc nL own nm K) {a : Int} {off : Int} (tgt : Nat) (d : decode cc pc = .ok (.ifCond .le off, 3)) (ht : (pc : Int) + off = (tgt : Int)) (ha0 : InR a) (kt : a ≤ 0 → K nc ns tgt lv st w) (kf : ¬ a ≤ 0 → K nc ns (pc + 3) lv st w) : K nc ns pc lv (.int (J a) :: st) w := by
  obtain ⟨p, e, s, m, args, below, meth, c, A, H0, Q, rfl, hx, hb, hml, hown, hts, hK, hA, hnm⟩ := g
  intro hln H locs ls hl hP hD hS
  have hb0 : InR 0 := InR_0
  exact lv_if_le hx hb d ht (fun h => (kt ((J_le ha0 hb0).mp h) hln H locs ls hl hP hD hS)) (fun h => (kf (fun z => h ((J_le ha0 hb0).mpr z)) hln H locs ls hl hP hD hS))
theorem r_icmp_gt (g : Wk0 l X R cc nL own nm K) {a b : Int} {off : Int} (tgt : Nat) (d : decode cc pc = .ok (.if_icmp .gt off, 3)) (ht : (pc : Int) + off = (tgt : Int)) (ha0 : InR a) (hb0 : InR b) (kt : ¬ a ≤ b → K nc ns tgt lv st w) (kf : a ≤ b → K nc ns (pc + 3) lv st w) : K nc ns pc lv (.int (J b) :: .int (J a) :: st) w := by
  obtain ⟨p, e, s, m, args, below, meth, c, A, H0, Q, rfl, hx, hb, hml, hown, hts, hK, hA, hnm⟩ := g
  intro hln H locs ls hl hP hD hS
  exact lv_icmp_gt hx hb d ht (fun h => (kt (fun z => by have := (J_lt hb0 ha0).mp h; omega) hln H locs ls hl hP hD hS)) (fun h => (kf (by have := mt (J_lt hb0 ha0).mpr h; omega) hln H locs ls hl hP hD hS))
theorem r_if_gt (g : Wk0 l X R cc nL own nm K) {a : Int} {off : Int} (tgt : Nat) (d : decode cc pc = .ok (.ifCond .gt off, 3)) (ht : (pc : Int) + off = (tgt : Int)) (ha0 : InR a) (kt : ¬ a ≤ 0 → K nc ns tgt lv st w) (kf : a ≤ 0 → K nc ns (pc + 3) lv st w) : K nc ns pc lv (.int (J a) :: st) w := by
  obtain ⟨p, e, s, m, args, below, meth, c, A, H0, Q, rfl, hx, hb, hml, hown, hts, hK, hA, hnm⟩ := g
  intro hln H locs ls hl hP hD hS
  have hb0 : InR 0 := InR_0
  exact lv_if_gt hx hb d ht (fun h => (kt (fun z => by have := (J_lt hb0 ha0).mp h; omega) hln H locs ls hl hP hD hS)) (fun h => (kf (by have := mt (J_lt hb0 ha0).mpr h; omega) hln H locs ls hl hP hD hS))
theorem r_icmp_eq (g : Wk0 l X R cc nL own nm K) {a b : Int} {off : Int} (tgt : Nat) (d : decode cc pc = .ok (.if_icmp .eq off, 3)) (ht : (pc : Int) + off = (tgt : Int)) (ha0 : InR a) (hb0 : InR b) (kt : a = b → K nc ns tgt lv st w) (kf : ¬ a = b → K nc ns (pc + 3) lv st w) : K nc ns pc lv (.int (J b) :: .int (J a) :: st) w := by
  obtain ⟨p, e, s, m, args, below, meth, c, A, H0, Q, rfl, hx, hb, hml, hown, hts, hK, hA, hnm⟩ := g
  intro hln H locs ls hl hP hD hS
  exact lv_icmp_eq hx hb d ht (fun h => (kt ((J_eq ha0 hb0).mp h) hln H locs ls hl hP hD hS)) (fun h => (kf (fun z => h ((J_eq ha0 hb0).mpr z)) hln H locs ls hl hP hD hS))
theorem r_if_eq (g : Wk0 l X R cc nL own nm K) {a : Int} {off : Int} (tgt : Nat) (d : decode cc pc = .ok (.ifCond .eq off, 3)) (ht : (pc : Int) + off = (tgt : Int)) (ha0 : InR a) (kt : a = 0 → K nc ns tgt lv st w) (kf : ¬ a = 0 → K nc ns (pc + 3) lv st w) : K nc ns pc lv (.int (J a) :: st) w := by
  obtain ⟨p, e, s, m, args, below, meth, c, A, H0, Q, rfl, hx, hb, hml, hown, hts, hK, hA, hnm⟩ := g
  intro hln H locs ls hl hP hD hS
  have hb0 : InR 0 := InR_0
  exact lv_if_eq hx hb d ht (fun h => (kt ((J_eq ha0 hb0).mp h) hln H locs ls hl hP hD hS)) (fun h => (kf (fun z => h ((J_eq ha0 hb0).mpr z)) hln H locs ls hl hP hD hS))
theorem r_icmp_ne (g : Wk0 l X R cc nL own nm K) {a b : Int} {off : Int} (tgt : Nat) (d : decode cc pc = .ok (.if_icmp .ne off, 3)) (ht : (pc : Int) + off = (tgt : Int)) (ha0 : InR a) (hb0 : InR b) (kt : ¬ a = b → K nc ns tgt lv st w) (kf : a = b → K nc ns (pc + 3) lv st w) : K nc ns pc lv (.int (J b) :: .int (J a) :: st) w := by
  obtain ⟨p, e, s, m, args, below, meth, c, A, H0, Q, rfl, hx, hb, hml, hown, hts, hK, hA, hnm⟩ := g
  intro hln H locs ls hl hP hD hS
  exact lv_icmp_ne hx hb d ht (fun h => (kt (fun z => h ((J_eq ha0 hb0).mpr z)) hln H locs ls hl hP hD hS)) (fun h => (kf ((J_eq ha0 hb0).mp h) hln H locs ls hl hP hD hS))
theorem r_if_ne (g : Wk0 l X R cc nL own nm K) {a : Int} {off : Int} (tgt : Nat) (d : decode cc pc = .ok (.ifCond .ne off, 3)) (ht : (pc : Int) + off = (tgt : Int)) (ha0 : InR a) (kt : ¬ a = 0 → K nc ns tgt lv st w) (kf : a = 0 → K nc ns (pc + 3) lv st w) : K nc ns pc lv (.int (J a) :: st) w := by
  obtain ⟨p, e, s, m, args, below, meth, c, A, H0, Q, rfl, hx, hb, hml, hown, hts, hK, hA, hnm⟩ := g
  intro hln H locs ls hl hP hD hS
  have hb0 : InR 0 := InR_0
  exact lv_if_ne hx hb d ht (fun h => (kt (fun z => h ((J_eq ha0 hb0).mpr z)) hln H locs ls hl hP hD hS)) (fun h => (kf ((J_eq ha0 hb0).mp h) hln H locs ls hl hP hD hS))
end ROWS
end
section
/-! CALLS AND ENDS -/
def MHVH (y : MethodName) : Prop := y.cls ≠ "java/lang/invoke/MethodHandle" ∧ y.cls ≠ "java/lang/invoke/VarHandle"
def OKc (y : MethodName) (cc : ByteArray) (nL : Nat) (ret : Option FieldType) (n : Nat) : Prop := Cond.initialized y.cls ∈ lw_G ∧ Cond.code y cc nL ret ∈ lw_G ∧ (y.cls ≠ "java/lang/invoke/MethodHandle" ∧ y.cls ≠ "java/lang/invoke/VarHandle" ∧ (parseMethodDescriptor y.desc).map (fun d => d.parameters.length) = some n)
/-- what links a call of an instance method -/
def OKV (own : String) (idx : Nat) (y : MethodName) : Prop := Cond.methodLink own idx y ∈ lw_G ∧ Cond.instanceMethod y ∈ lw_G ∧ Cond.selects y.cls y y ∈ lw_G
def OKS (own : String) (idx : Nat) (y : MethodName) : Prop := Cond.methodLink own idx y ∈ lw_G ∧ Cond.static y ∈ lw_G
def OKI (own : String) (idx : Nat) (y : MethodName) : Prop := Cond.methodLink own idx y ∈ lw_G ∧ Cond.instanceMethod y ∈ lw_G ∧ y.name = "<init>"
def OKSN (own host : String) (idx : Nat) (y : MethodName) : Prop := Cond.methodLinkNest own idx y host ∈ lw_nest ∧ Cond.static y ∈ lw_G
def OKIN (own host : String) (idx : Nat) (y : MethodName) : Prop := Cond.methodLinkNest own idx y host ∈ lw_nest ∧ Cond.instanceMethod y ∈ lw_G ∧ y.name = "<init>"
def Recv (w : va_W) (b : Nat) (C : String) : Prop := ∃ (k ci : Nat) (q : vw_C) (fs : List Value), vwCl[ci]? = some q ∧ q.1 = C ∧ w[k]? = some (b, .inr (ci, fs))
theorem goodG {y : MethodName} {cc : ByteArray} {nL : Nat} {ret : Option FieldType} (h : Cond.code y cc nL ret ∈ lw_G) : GoodIn lw_G (wsG y cc nL ret) := fun w hw => by
  have hm : w ∈ lw_G := by
    rcases List.mem_cons.mp hw with rfl | h2
    · exact h
    · exact h2
  exact ⟨hm, good_of_word (lw_G_good w hm)⟩
section CALLS
variable {p : Program} {l : Launch} {e : Env} {R : Room} {s : State} {m : MethodId} {args : Array Value} {below : List Frame} {meth : Method} {c : Code} {H : Heap} {locs : List Loc} {nc ns mc ms : Nat} {Q : State → Prop}
variable {pc : Nat} {ls : Array Slot} {rest st0 : List Value} {a : Array Value} {A0 A1 : Nat → Prop} {H0 : Heap} {free : Addr → Prop} {X : u_X} {Rt : Option Value → va_W → Prop}
theorem K_run (hr : va_Run p l e R s m args below meth c H locs nc ns mc ms (F0 m pc ls st0) rest (QG X Rt A1 a) free) (hS : va_S A0 H0 H locs) (hA : ∀ q, q < H.size → A1 q → A0 q) (hf : ∀ q, free q → A0 q)
    (kk : ∀ (v : Option Value) (w : va_W) (H1 : Heap) (locs1 : List Loc), Rt v w → va_P X.1 vwCl w H1 → va_D A1 w → va_S A0 H0 H1 locs1 → W p l e R s m args below meth c H1 locs1 (nc + mc) (ns + ms) Q (F0 m (pc + 3) ls (v.toList ++ rest))) : W p l e R s m args below meth c H locs nc ns Q (F0 m pc ls st0) := by
  intro T hT Y
  obtain ⟨v, st₀, t, T', L, h0, Y', hL, e1, e2, ⟨⟨v', w, hv, hp, hPw, hDw⟩, hz, hk⟩, st⟩ := hr T hT Y
  cases hv
  rw [h0] at hz hk
  obtain ⟨t2, a1, b1⟩ := kk v w T'.heap (locs ++ L) hp (by rw [e1]; exact hPw) hDw
    ⟨Nat.le_trans hS.1 (by rw [e1]; exact hz), fun q h1 h2 => by rw [e1, hk q (Nat.lt_of_lt_of_le h1 hS.1) (fun z => h2 (hA q (Nat.lt_of_lt_of_le h1 hS.1) z))]; exact hS.2.1 q h1 h2, fun q hq => by
      rcases List.mem_append.mp hq with h | h
      · exact hS.2.2 q h
      · exact hf _ (hL q h)⟩ T' rfl Y'
  exact ⟨t2, st t2 a1, b1⟩
end CALLS
theorem A_lt {w : va_W} {A0 : Nat → Prop} {n : Nat} (hD : va_D A0 w) (q : Nat) (h : q < n) (h2 : va_A w n q) : A0 q := by
  rcases h2 with ⟨k, e, h2⟩ | h2
  · exact hD.2 k _ h2
  · omega
theorem A_all {w : va_W} {A0 : Nat → Prop} {H0 H : Heap} {locs : List Loc} (hD : va_D A0 w) (hS : va_S A0 H0 H locs) (hA : ∀ q, H0.size ≤ q → A0 q) (q : Nat) (h2 : va_A w H.size q) : A0 q := by
  rcases h2 with ⟨k, e, h2⟩ | h2
  · exact hD.2 k _ h2
  · exact hA q (Nat.le_trans hS.1 h2)
section CROWS
variable {l : Launch} {X : u_X} {R : Room} {cc : ByteArray} {nL : Nat} {own nm : String} {K : u_K} {nc ns pc : Nat} {lv : List (Option Value)} {st : List Value} {w : va_W}
variable {y : MethodName} {cy : ByteArray} {nY idx rf rl mc ms n : Nat} {ry : Option FieldType} {b : Nat} {As rest : List Value} {Rt : Option Value → va_W → Prop}
theorem r_callV (g : Wk0 l X R cc nL own nm K) (hc : Con l X y cy nY ry rf rl mc ms (.ref b :: As) w Rt) (ho : OKc y cy nY ry n) (hv : OKV own idx y) (hrecv : Recv w b y.cls) (d : decode cc pc = .ok (.invokevirtual idx, 3))
    (hR : rf + 1 ≤ R.frames ∧ 8 + (nY + 11) + rl ≤ R.locals) (hroom : nc + mc ≤ R.cells ∧ ns + ms ≤ R.slots) (hn : As.length = n) (hrest : (rest.map fun v => v.category).sum ≤ 8) (hst : As.reverse ++ .ref b :: rest = st)
    (k : ∀ v w', Rt v w' → K (nc + mc) (ns + ms) (pc + 3) lv (v.toList ++ rest) w') : K nc ns pc lv st w := by
  obtain ⟨p, e, s, m, args, below, meth, c, A, H0, Q, rfl, hx, hb, hml, hown, hts, hK, hA, hnm⟩ := g
  intro hln H locs ls hl hP hD hS
  obtain ⟨k0, ci, q, fs, hq, hqc, hw⟩ := hrecv
  refine K_run (va_runV (As := As) (rest := rest) (C := y.cls) ⟨hx, hb, hml, hown, hts⟩ (hc H.size) ⟨callB_of n hts (goodG ho.2.1) rfl rfl rfl (hts _ ho.1) (hts _ hv.1) ho.2.2 hR, hts _ hv.2.1, hts _ hv.2.2⟩ ⟨PG_blind _ _ _ _, hqc ▸ va_recv hK.1 hP hq hw, fun U hU hW => ⟨rfl, by rw [hU], by rw [hU]; exact hP, hK.warm hW, hD.weaken (fun _ _ _ _ => trivial)⟩⟩ rfl hn hl.1 hst.symm (lv_room hrest) d hroom) hS (A_lt hD) (A_all hD hS hA) (fun v w' H1 locs1 hv hP1 hD1 hS1 => k v w' hv hln H1 locs1 ls hl hP1 (hD1.weaken (fun _ _ _ h => A_all hD hS hA _ h)) hS1)
theorem r_callS (g : Wk0 l X R cc nL own nm K) (hc : Con l X y cy nY ry rf rl mc ms As w Rt) (ho : OKc y cy nY ry n) (hv : OKS own idx y) (d : decode cc pc = .ok (.invokestatic idx, 3))
    (hR : rf + 1 ≤ R.frames ∧ 8 + (nY + 11) + rl ≤ R.locals) (hroom : nc + mc ≤ R.cells ∧ ns + ms ≤ R.slots) (hn : As.length = n) (hrest : (rest.map fun v => v.category).sum ≤ 8) (hst : As.reverse ++ rest = st)
    (k : ∀ v w', Rt v w' → K (nc + mc) (ns + ms) (pc + 3) lv (v.toList ++ rest) w') : K nc ns pc lv st w := by
  obtain ⟨p, e, s, m, args, below, meth, c, A, H0, Q, rfl, hx, hb, hml, hown, hts, hK, hA, hnm⟩ := g
  intro hln H locs ls hl hP hD hS
  refine K_run (va_runS (As := As) (rest := rest) ⟨hx, hb, hml, hown, hts⟩ (hc H.size) ⟨callB_of n hts (goodG ho.2.1) rfl rfl rfl (hts _ ho.1) (hts _ hv.1) ho.2.2 hR, hts _ hv.2⟩ ⟨PG_blind _ _ _ _, fun U hU hW => ⟨rfl, by rw [hU], by rw [hU]; exact hP, hK.warm hW, hD.weaken (fun _ _ _ _ => trivial)⟩⟩ rfl hn hl.1 hst.symm (lv_room hrest) d hroom) hS (A_lt hD) (A_all hD hS hA) (fun v w' H1 locs1 hv hP1 hD1 hS1 => k v w' hv hln H1 locs1 ls hl hP1 (hD1.weaken (fun _ _ _ h => A_all hD hS hA _ h)) hS1)
theorem r_callI (g : Wk0 l X R cc nL own nm K) (hc : Con l X y cy nY none rf rl mc ms (.ref b :: As) w Rt) (ho : OKc y cy nY none n) (hv : OKI own idx y) (d : decode cc pc = .ok (.invokespecial idx, 3))
    (hR : rf + 1 ≤ R.frames ∧ 8 + (nY + 11) + rl ≤ R.locals) (hroom : nc + mc ≤ R.cells ∧ ns + ms ≤ R.slots) (hn : As.length = n) (hrest : (rest.map fun v => v.category).sum ≤ 8) (hst : As.reverse ++ .ref b :: rest = st)
    (k : ∀ v w', Rt v w' → K (nc + mc) (ns + ms) (pc + 3) lv (v.toList ++ rest) w') : K nc ns pc lv st w := by
  obtain ⟨p, e, s, m, args, below, meth, c, A, H0, Q, rfl, hx, hb, hml, hown, hts, hK, hA, hnm⟩ := g
  intro hln H locs ls hl hP hD hS
  refine K_run (va_runI (As := As) (rest := rest) ⟨hx, hb, hml, hown, hts⟩ (hc H.size) ⟨callB_of n hts (goodG ho.2.1) rfl rfl rfl (hts _ ho.1) (hts _ hv.1) ho.2.2 hR, hv.2.2, hts _ hv.2.1⟩ ⟨PG_blind _ _ _ _, fun U hU hW => ⟨rfl, by rw [hU], by rw [hU]; exact hP, hK.warm hW, hD.weaken (fun _ _ _ _ => trivial)⟩⟩ rfl hn hl.1 hst.symm (lv_room hrest) d hroom) hS (A_lt hD) (A_all hD hS hA) (fun v w' H1 locs1 hv hP1 hD1 hS1 => k v w' hv hln H1 locs1 ls hl hP1 (hD1.weaken (fun _ _ _ h => A_all hD hS hA _ h)) hS1)
theorem r_callSN (g : Wk0 l X R cc nL own nm K) {host : String} (hc : Con l X y cy nY ry rf rl mc ms As w Rt) (ho : OKc y cy nY ry n) (hv : OKSN own host idx y) (d : decode cc pc = .ok (.invokestatic idx, 3))
    (hR : rf + 1 ≤ R.frames ∧ 8 + (nY + 11) + rl ≤ R.locals) (hroom : nc + mc ≤ R.cells ∧ ns + ms ≤ R.slots) (hn : As.length = n) (hrest : (rest.map fun v => v.category).sum ≤ 8) (hst : As.reverse ++ rest = st)
    (k : ∀ v w', Rt v w' → K (nc + mc) (ns + ms) (pc + 3) lv (v.toList ++ rest) w') : K nc ns pc lv st w := by
  obtain ⟨p, e, s, m, args, below, meth, c, A, H0, Q, rfl, hx, hb, hml, hown, hts, hK, hA, hnm⟩ := g
  intro hln H locs ls hl hP hD hS
  refine K_run (va_runSN (As := As) (rest := rest) (host := host) ⟨hx, hb, hml, hown, hts⟩ (hc H.size) ⟨va_cnB n hts (goodG ho.2.1) rfl rfl rfl (hK.2 _ hv.1) (hts _ ho.1) ho.2.2 hR, hts _ hv.2, trivial⟩ ⟨PG_blind _ _ _ _, fun U hU hW => ⟨rfl, by rw [hU], by rw [hU]; exact hP, hK.warm hW, hD.weaken (fun _ _ _ _ => trivial)⟩⟩ rfl hn hl.1 hst.symm (lv_room hrest) d hroom) hS (A_lt hD) (A_all hD hS hA) (fun v w' H1 locs1 hv hP1 hD1 hS1 => k v w' hv hln H1 locs1 ls hl hP1 (hD1.weaken (fun _ _ _ h => A_all hD hS hA _ h)) hS1)
theorem r_callIN (g : Wk0 l X R cc nL own nm K) {host : String} (hc : Con l X y cy nY none rf rl mc ms (.ref b :: As) w Rt) (ho : OKc y cy nY none n) (hv : OKIN own host idx y) (d : decode cc pc = .ok (.invokespecial idx, 3))
    (hR : rf + 1 ≤ R.frames ∧ 8 + (nY + 11) + rl ≤ R.locals) (hroom : nc + mc ≤ R.cells ∧ ns + ms ≤ R.slots) (hn : As.length = n) (hrest : (rest.map fun v => v.category).sum ≤ 8) (hst : As.reverse ++ .ref b :: rest = st)
    (k : ∀ v w', Rt v w' → K (nc + mc) (ns + ms) (pc + 3) lv (v.toList ++ rest) w') : K nc ns pc lv st w := by
  obtain ⟨p, e, s, m, args, below, meth, c, A, H0, Q, rfl, hx, hb, hml, hown, hts, hK, hA, hnm⟩ := g
  intro hln H locs ls hl hP hD hS
  refine K_run (va_runIN (As := As) (rest := rest) (host := host) ⟨hx, hb, hml, hown, hts⟩ (hc H.size) ⟨va_cnB n hts (goodG ho.2.1) rfl rfl rfl (hK.2 _ hv.1) (hts _ ho.1) ho.2.2 hR, hv.2.2, hts _ hv.2.1⟩ ⟨PG_blind _ _ _ _, fun U hU hW => ⟨rfl, by rw [hU], by rw [hU]; exact hP, hK.warm hW, hD.weaken (fun _ _ _ _ => trivial)⟩⟩ rfl hn hl.1 hst.symm (lv_room hrest) d hroom) hS (A_lt hD) (A_all hD hS hA) (fun v w' H1 locs1 hv hP1 hD1 hS1 => k v w' hv hln H1 locs1 ls hl hP1 (hD1.weaken (fun _ _ _ h => A_all hD hS hA _ h)) hS1)
variable {ret : Option FieldType}
theorem r_ireturn (g : Wk l X R cc nL own nm (some .int) Rt K) {v : Int32} (d : decode cc pc = .ok (.ireturn, 1)) (hR : Rt (some (.int v)) w) : K R.cells R.slots pc lv [.int v] w := by
  obtain ⟨p, e, s, m, args, below, meth, c, A, rfl, hx, hb, hml, hown, hts, hK, hA, hnm, hr, hlk⟩ := g
  intro hln H locs ls hl hP hD hS
  exact W.iret hx hb hr (fun t ht hW => ⟨⟨_, w, rfl, hR, by rw [ht]; exact hP, hD⟩, hS.F ht⟩) hS.2.2 d hlk
theorem r_zreturn (g : Wk l X R cc nL own nm (some .boolean) Rt K) {r : Int} (d : decode cc pc = .ok (.ireturn, 1)) (h01 : B01 r) (hR : Rt (some (.int (J r))) w) : K R.cells R.slots pc lv [.int (J r)] w := by
  obtain ⟨p, e, s, m, args, below, meth, c, A, rfl, hx, hb, hml, hown, hts, hK, hA, hnm, hr, hlk⟩ := g
  intro hln H locs ls hl hP hD hS
  exact W.zret hx hb hr (by rcases h01 with rfl | rfl <;> rfl) (fun t ht hW => ⟨⟨_, w, rfl, hR, by rw [ht]; exact hP, hD⟩, hS.F ht⟩) hS.2.2 d hlk
theorem r_lreturn (g : Wk l X R cc nL own nm (some .long) Rt K) {v : Int64} (d : decode cc pc = .ok (.lreturn, 1)) (hR : Rt (some (.long v)) w) : K R.cells R.slots pc lv [.long v] w := by
  obtain ⟨p, e, s, m, args, below, meth, c, A, rfl, hx, hb, hml, hown, hts, hK, hA, hnm, hr, hlk⟩ := g
  intro hln H locs ls hl hP hD hS
  exact W.lret hx hb hr (fun t ht hW => ⟨⟨_, w, rfl, hR, by rw [ht]; exact hP, hD⟩, hS.F ht⟩) hS.2.2 d hlk
theorem r_vreturn (g : Wk l X R cc nL own nm none Rt K) (d : decode cc pc = .ok (.return_, 1)) (hR : Rt none w) : K R.cells R.slots pc lv [] w := by
  obtain ⟨p, e, s, m, args, below, meth, c, A, rfl, hx, hb, hml, hown, hts, hK, hA, hnm, hr, hlk⟩ := g
  intro hln H locs ls hl hP hD hS
  exact W.vret hx hb hr (fun t ht hW => ⟨⟨_, w, rfl, hR, by rw [ht]; exact hP, hD⟩, hS.F ht⟩) hS.2.2 d hlk
theorem r_tsIn (g : Wk0 l X R cc nL own nm K) {x lo hi dflt off : Int} {offs : Array Int} {len : Nat} (tgt : Nat) (d : decode cc pc = .ok (.tableswitch dflt lo hi offs, len)) (hx0 : InR x) (h1 : ¬ x < lo) (h2 : ¬ hi < x) (ho : offs[(x - lo).toNat]? = some off) (ht : (pc : Int) + off = (tgt : Int)) (k : K nc ns tgt lv st w) : K nc ns pc lv (.int (J x) :: st) w := by
  obtain ⟨p, e, s, m, args, below, meth, c, A, H0, Q, rfl, hx, hb, hml, hown, hts, hK, hA, hnm⟩ := g
  intro hln H locs ls hl hP hD hS
  exact lv_tableIn hx hb d (by rw [J_int hx0]; exact h1) (by rw [J_int hx0]; exact h2) (by rw [J_int hx0]; exact ho) ht (k hln H locs ls hl hP hD hS)
theorem r_tsOut (g : Wk0 l X R cc nL own nm K) {x lo hi dflt : Int} {offs : Array Int} {len : Nat} (tgt : Nat) (d : decode cc pc = .ok (.tableswitch dflt lo hi offs, len)) (hx0 : InR x) (h : x < lo ∨ hi < x) (ht : (pc : Int) + dflt = (tgt : Int)) (k : K nc ns tgt lv st w) : K nc ns pc lv (.int (J x) :: st) w := by
  obtain ⟨p, e, s, m, args, below, meth, c, A, H0, Q, rfl, hx, hb, hml, hown, hts, hK, hA, hnm⟩ := g
  intro hln H locs ls hl hP hD hS
  exact lv_tableOut hx hb d (by rw [J_int hx0]; exact h) ht (k hln H locs ls hl hP hD hS)
theorem r_lsw (g : Wk0 l X R cc nL own nm K) {x dflt off : Int} {ps : Array (Int × Int)} {len : Nat} (tgt : Nat) (d : decode cc pc = .ok (.lookupswitch dflt ps, len)) (hx0 : InR x) (hp : (ps.toList.zip (ps.toList.drop 1)).all (fun (a, next) => a.1 < next.1) = true) (ho : Op.lookupswitch.offset ps.toList dflt x = off) (ht : (pc : Int) + off = (tgt : Int)) (k : K nc ns tgt lv st w) : K nc ns pc lv (.int (J x) :: st) w := by
  obtain ⟨p, e, s, m, args, below, meth, c, A, H0, Q, rfl, hx, hb, hml, hown, hts, hK, hA, hnm⟩ := g
  intro hln H locs ls hl hP hD hS
  exact lv_lookup hx hb d hp (by rw [J_int hx0]; exact ho) ht (k hln H locs ls hl hP hD hS)
end CROWS
end
section
/-! THE OBJECTS: fixed once both constructors have run; what they hold of numbers is a state s of u_S -/
abbrev u_O : Type := Nat × Nat × Nat
abbrev u_S : Type := u_O → Int → Int32
def rd (s : u_S) (o : u_O) (k : Int) : Int := (s o k).toInt
def wt (s : u_S) (o : u_O) (k v : Int) : u_S := fun o' k' => if o' = o ∧ k' = k then J v else s o' k'
theorem InR_rd (s : u_S) (o : u_O) (k : Int) : InR (rd s o k) := InR_to _
theorem J_rd (s : u_S) (o : u_O) (k : Int) : J (rd s o k) = s o k := J_to _
def okinds : List (Nat × Nat × Nat) := [(0, 1, 1), (1, 7, 1), (2, 7, 1), (3, 7, 4), (4, 7, 4), (5, 7, 4), (6, 8, 1), (7, 8, 1), (8, 8, 10), (9, 7, 1), (10, 1, 1), (11, 1, 1), (12, 1, 1), (13, 4, 1), (14, 12, 1), (15, 12, 1), (16, 1, 1), (17, 1, 1), (18, 1, 1), (19, 1, 1), (20, 1, 1), (21, 1, 1), (22, 1, 1), (23, 1, 1)]
def omo : List Nat := [0, 1, 2, 4, 5, 6, 7, 8, 9, 11, 12, 13, 14, 15, 20]
def objs : List u_O := (okinds.flatMap fun q => (List.range q.2.1).flatMap fun p => (List.range q.2.2).map fun l => (q.1, p, l)) ++ omo.map fun k => (24, k, 0)
theorem objs_nodup : objs.Nodup := by decide +kernel
theorem objs_in {k P L : Nat} (h : (k, P, L) ∈ okinds) {p l : Nat} (hp : p < P) (hl : l < L) : ((k, p, l) : u_O) ∈ objs := List.mem_append_left _ (List.mem_flatMap.mpr ⟨_, h, List.mem_flatMap.mpr ⟨p, List.mem_range.mpr hp, List.mem_map.mpr ⟨l, List.mem_range.mpr hl, rfl⟩⟩⟩)
theorem objs_mo {k : Nat} (h : k ∈ omo) : ((24, k, 0) : u_O) ∈ objs := List.mem_append_right _ (List.mem_map.mpr ⟨k, h, rfl⟩)
def alenM (k : Nat) : Nat := match k with
  | 0 => 145
  | 1 => 725
  | 2 => 145
  | 4 => 3
  | 5 => 4
  | 6 => 4
  | 7 => 3
  | 8 => 40
  | 9 => 80
  | 11 => 24
  | 12 => 36
  | 13 => 5
  | 14 => 5
  | 15 => 120
  | 20 => 5
  | _ => 0
/-- how long a row of ints is -/
def alen (o : u_O) : Nat := match o.1 with
  | 4 => 10
  | 5 => 10
  | 9 => 5
  | 13 => 120
  | 15 => 80
  | 19 => 4
  | 21 => 5
  | 22 => 5
  | 24 => alenM o.2.1
  | _ => 0
def is_FP (o : u_O) : Prop := o.1 = 0 ∧ o.2.1 < 1 ∧ o.2.2 < 1
theorem is_FP.mem {o : u_O} (h : is_FP o) : o ∈ objs := by
  obtain ⟨k, p, l⟩ := o
  obtain ⟨h1, h2, h3⟩ := h
  cases h1
  exact objs_in (P := 1) (L := 1) (by decide) h2 h3
def is_Plan (o : u_O) : Prop := o.1 = 1 ∧ o.2.1 < 7 ∧ o.2.2 < 1
theorem is_Plan.mem {o : u_O} (h : is_Plan o) : o ∈ objs := by
  obtain ⟨k, p, l⟩ := o
  obtain ⟨h1, h2, h3⟩ := h
  cases h1
  exact objs_in (P := 7) (L := 1) (by decide) h2 h3
def is_Line (o : u_O) : Prop := o.1 = 3 ∧ o.2.1 < 7 ∧ o.2.2 < 4
theorem is_Line.mem {o : u_O} (h : is_Line o) : o ∈ objs := by
  obtain ⟨k, p, l⟩ := o
  obtain ⟨h1, h2, h3⟩ := h
  cases h1
  exact objs_in (P := 7) (L := 4) (by decide) h2 h3
def is_Entries (o : u_O) : Prop := o.1 = 6 ∧ o.2.1 < 8 ∧ o.2.2 < 1
theorem is_Entries.mem {o : u_O} (h : is_Entries o) : o ∈ objs := by
  obtain ⟨k, p, l⟩ := o
  obtain ⟨h1, h2, h3⟩ := h
  cases h1
  exact objs_in (P := 8) (L := 1) (by decide) h2 h3
def is_Entry (o : u_O) : Prop := o.1 = 8 ∧ o.2.1 < 8 ∧ o.2.2 < 10
theorem is_Entry.mem {o : u_O} (h : is_Entry o) : o ∈ objs := by
  obtain ⟨k, p, l⟩ := o
  obtain ⟨h1, h2, h3⟩ := h
  cases h1
  exact objs_in (P := 8) (L := 10) (by decide) h2 h3
def is_History (o : u_O) : Prop := o.1 = 10 ∧ o.2.1 < 1 ∧ o.2.2 < 1
theorem is_History.mem {o : u_O} (h : is_History o) : o ∈ objs := by
  obtain ⟨k, p, l⟩ := o
  obtain ⟨h1, h2, h3⟩ := h
  cases h1
  exact objs_in (P := 1) (L := 1) (by decide) h2 h3
def is_Reader (o : u_O) : Prop := o.1 = 12 ∧ o.2.1 < 1 ∧ o.2.2 < 1
theorem is_Reader.mem {o : u_O} (h : is_Reader o) : o ∈ objs := by
  obtain ⟨k, p, l⟩ := o
  obtain ⟨h1, h2, h3⟩ := h
  cases h1
  exact objs_in (P := 1) (L := 1) (by decide) h2 h3
def is_Sound (o : u_O) : Prop := o.1 = 14 ∧ o.2.1 < 12 ∧ o.2.2 < 1
theorem is_Sound.mem {o : u_O} (h : is_Sound o) : o ∈ objs := by
  obtain ⟨k, p, l⟩ := o
  obtain ⟨h1, h2, h3⟩ := h
  cases h1
  exact objs_in (P := 12) (L := 1) (by decide) h2 h3
def is_Faults (o : u_O) : Prop := o.1 = 16 ∧ o.2.1 < 1 ∧ o.2.2 < 1
theorem is_Faults.mem {o : u_O} (h : is_Faults o) : o ∈ objs := by
  obtain ⟨k, p, l⟩ := o
  obtain ⟨h1, h2, h3⟩ := h
  cases h1
  exact objs_in (P := 1) (L := 1) (by decide) h2 h3
def is_Chorus (o : u_O) : Prop := o.1 = 17 ∧ o.2.1 < 1 ∧ o.2.2 < 1
theorem is_Chorus.mem {o : u_O} (h : is_Chorus o) : o ∈ objs := by
  obtain ⟨k, p, l⟩ := o
  obtain ⟨h1, h2, h3⟩ := h
  cases h1
  exact objs_in (P := 1) (L := 1) (by decide) h2 h3
def is_Tour (o : u_O) : Prop := o.1 = 20 ∧ o.2.1 < 1 ∧ o.2.2 < 1
theorem is_Tour.mem {o : u_O} (h : is_Tour o) : o ∈ objs := by
  obtain ⟨k, p, l⟩ := o
  obtain ⟨h1, h2, h3⟩ := h
  cases h1
  exact objs_in (P := 1) (L := 1) (by decide) h2 h3
def is_Mo (o : u_O) : Prop := o.1 = 23 ∧ o.2.1 < 1 ∧ o.2.2 < 1
theorem is_Mo.mem {o : u_O} (h : is_Mo o) : o ∈ objs := by
  obtain ⟨k, p, l⟩ := o
  obtain ⟨h1, h2, h3⟩ := h
  cases h1
  exact objs_in (P := 1) (L := 1) (by decide) h2 h3
def is_A (o : u_O) : Prop := (o.1 = 4 ∧ o.2.1 < 7 ∧ o.2.2 < 4) ∨ (o.1 = 5 ∧ o.2.1 < 7 ∧ o.2.2 < 4) ∨ (o.1 = 9 ∧ o.2.1 < 7 ∧ o.2.2 < 1) ∨ (o.1 = 13 ∧ o.2.1 < 4 ∧ o.2.2 < 1) ∨ (o.1 = 15 ∧ o.2.1 < 12 ∧ o.2.2 < 1) ∨ (o.1 = 19 ∧ o.2.1 < 1 ∧ o.2.2 < 1) ∨ (o.1 = 21 ∧ o.2.1 < 1 ∧ o.2.2 < 1) ∨ (o.1 = 22 ∧ o.2.1 < 1 ∧ o.2.2 < 1) ∨ (o.1 = 24 ∧ o.2.1 ∈ omo ∧ o.2.2 = 0)
theorem is_A.mem {o : u_O} (h : is_A o) : o ∈ objs := by
  obtain ⟨k, p, l⟩ := o
  rcases h with ⟨h1, h2, h3⟩ | ⟨h1, h2, h3⟩ | ⟨h1, h2, h3⟩ | ⟨h1, h2, h3⟩ | ⟨h1, h2, h3⟩ | ⟨h1, h2, h3⟩ | ⟨h1, h2, h3⟩ | ⟨h1, h2, h3⟩ | ⟨h1, h2, h3⟩
  · cases h1; exact objs_in (P := 7) (L := 4) (by decide) h2 h3
  · cases h1; exact objs_in (P := 7) (L := 4) (by decide) h2 h3
  · cases h1; exact objs_in (P := 7) (L := 1) (by decide) h2 h3
  · cases h1; exact objs_in (P := 4) (L := 1) (by decide) h2 h3
  · cases h1; exact objs_in (P := 12) (L := 1) (by decide) h2 h3
  · cases h1; exact objs_in (P := 1) (L := 1) (by decide) h2 h3
  · cases h1; exact objs_in (P := 1) (L := 1) (by decide) h2 h3
  · cases h1; exact objs_in (P := 1) (L := 1) (by decide) h2 h3
  · cases h1; cases h3; exact objs_mo h2
def is_RLine (o : u_O) : Prop := o.1 = 2 ∧ o.2.1 < 7 ∧ o.2.2 < 1
theorem is_RLine.mem {o : u_O} (h : is_RLine o) : o ∈ objs := by
  obtain ⟨k, p, l⟩ := o
  obtain ⟨h1, h2, h3⟩ := h
  cases h1
  exact objs_in (P := 7) (L := 1) (by decide) h2 h3
def e_Line (o : u_O) (i : Int) : u_O := (3, o.2.1, i.toNat)
theorem is_e_Line {o : u_O} {i : Int} (h : is_RLine o) (hi : 0 ≤ i ∧ i < 4) : is_Line (e_Line o i) := by
  obtain ⟨h1, h2, h3⟩ := h
  exact ⟨rfl, by simp only [e_Line]; omega, by simp only [e_Line]; omega⟩
def is_REntry (o : u_O) : Prop := o.1 = 7 ∧ o.2.1 < 8 ∧ o.2.2 < 1
theorem is_REntry.mem {o : u_O} (h : is_REntry o) : o ∈ objs := by
  obtain ⟨k, p, l⟩ := o
  obtain ⟨h1, h2, h3⟩ := h
  cases h1
  exact objs_in (P := 8) (L := 1) (by decide) h2 h3
def e_Entry (o : u_O) (i : Int) : u_O := (8, o.2.1, i.toNat)
theorem is_e_Entry {o : u_O} {i : Int} (h : is_REntry o) (hi : 0 ≤ i ∧ i < 10) : is_Entry (e_Entry o i) := by
  obtain ⟨h1, h2, h3⟩ := h
  exact ⟨rfl, by simp only [e_Entry]; omega, by simp only [e_Entry]; omega⟩
def is_RPlan (o : u_O) : Prop := o.1 = 11 ∧ o.2.1 < 1 ∧ o.2.2 < 1
theorem is_RPlan.mem {o : u_O} (h : is_RPlan o) : o ∈ objs := by
  obtain ⟨k, p, l⟩ := o
  obtain ⟨h1, h2, h3⟩ := h
  cases h1
  exact objs_in (P := 1) (L := 1) (by decide) h2 h3
def e_Plan (o : u_O) (i : Int) : u_O := (1, 2 + i.toNat, 0)
theorem is_e_Plan {o : u_O} {i : Int} (h : is_RPlan o) (hi : 0 ≤ i ∧ i < 5) : is_Plan (e_Plan o i) := by
  obtain ⟨h1, h2, h3⟩ := h
  exact ⟨rfl, by simp only [e_Plan]; omega, by simp only [e_Plan]; omega⟩
def is_RSound (o : u_O) : Prop := o.1 = 18 ∧ o.2.1 < 1 ∧ o.2.2 < 1
theorem is_RSound.mem {o : u_O} (h : is_RSound o) : o ∈ objs := by
  obtain ⟨k, p, l⟩ := o
  obtain ⟨h1, h2, h3⟩ := h
  cases h1
  exact objs_in (P := 1) (L := 1) (by decide) h2 h3
def e_Sound (o : u_O) (i : Int) : u_O := (14, 2 + i.toNat, 0)
theorem is_e_Sound {o : u_O} {i : Int} (h : is_RSound o) (hi : 0 ≤ i ∧ i < 10) : is_Sound (e_Sound o i) := by
  obtain ⟨h1, h2, h3⟩ := h
  exact ⟨rfl, by simp only [e_Sound]; omega, by simp only [e_Sound]; omega⟩
def a_FP_plan (_ : u_O) : u_O := (1, 0, 0)
theorem is_a_FP_plan {o : u_O} (h : is_FP o) : is_Plan (a_FP_plan o) := by
  obtain ⟨h1, h2, h3⟩ := h
  exact ⟨rfl, by simp only [a_FP_plan]; omega, by simp only [a_FP_plan]; omega⟩
def a_FP_before (_ : u_O) : u_O := (1, 1, 0)
theorem is_a_FP_before {o : u_O} (h : is_FP o) : is_Plan (a_FP_before o) := by
  obtain ⟨h1, h2, h3⟩ := h
  exact ⟨rfl, by simp only [a_FP_before]; omega, by simp only [a_FP_before]; omega⟩
def a_FP_history (_ : u_O) : u_O := (10, 0, 0)
theorem is_a_FP_history {o : u_O} (h : is_FP o) : is_History (a_FP_history o) := by
  obtain ⟨h1, h2, h3⟩ := h
  exact ⟨rfl, by simp only [a_FP_history]; omega, by simp only [a_FP_history]; omega⟩
def a_FP_text (_ : u_O) : u_O := (12, 0, 0)
theorem is_a_FP_text {o : u_O} (h : is_FP o) : is_Reader (a_FP_text o) := by
  obtain ⟨h1, h2, h3⟩ := h
  exact ⟨rfl, by simp only [a_FP_text]; omega, by simp only [a_FP_text]; omega⟩
def a_FP_upper (_ : u_O) : u_O := (14, 0, 0)
theorem is_a_FP_upper {o : u_O} (h : is_FP o) : is_Sound (a_FP_upper o) := by
  obtain ⟨h1, h2, h3⟩ := h
  exact ⟨rfl, by simp only [a_FP_upper]; omega, by simp only [a_FP_upper]; omega⟩
def a_FP_lower (_ : u_O) : u_O := (14, 1, 0)
theorem is_a_FP_lower {o : u_O} (h : is_FP o) : is_Sound (a_FP_lower o) := by
  obtain ⟨h1, h2, h3⟩ := h
  exact ⟨rfl, by simp only [a_FP_lower]; omega, by simp only [a_FP_lower]; omega⟩
def a_FP_faults (_ : u_O) : u_O := (16, 0, 0)
theorem is_a_FP_faults {o : u_O} (h : is_FP o) : is_Faults (a_FP_faults o) := by
  obtain ⟨h1, h2, h3⟩ := h
  exact ⟨rfl, by simp only [a_FP_faults]; omega, by simp only [a_FP_faults]; omega⟩
def a_FP_chorus (_ : u_O) : u_O := (17, 0, 0)
theorem is_a_FP_chorus {o : u_O} (h : is_FP o) : is_Chorus (a_FP_chorus o) := by
  obtain ⟨h1, h2, h3⟩ := h
  exact ⟨rfl, by simp only [a_FP_chorus]; omega, by simp only [a_FP_chorus]; omega⟩
def a_FP_rowEntries (_ : u_O) : u_O := (6, 7, 0)
theorem is_a_FP_rowEntries {o : u_O} (h : is_FP o) : is_Entries (a_FP_rowEntries o) := by
  obtain ⟨h1, h2, h3⟩ := h
  exact ⟨rfl, by simp only [a_FP_rowEntries]; omega, by simp only [a_FP_rowEntries]; omega⟩
def a_FP_row (_ : u_O) : u_O := (19, 0, 0)
theorem is_a_FP_row {o : u_O} (h : is_FP o) : is_A (a_FP_row o) := by
  obtain ⟨h1, h2, h3⟩ := h
  simp [is_A, a_FP_row, omo]
def a_FP_tour (_ : u_O) : u_O := (20, 0, 0)
theorem is_a_FP_tour {o : u_O} (h : is_FP o) : is_Tour (a_FP_tour o) := by
  obtain ⟨h1, h2, h3⟩ := h
  exact ⟨rfl, by simp only [a_FP_tour]; omega, by simp only [a_FP_tour]; omega⟩
def a_Plan_lines (o : u_O) : u_O := (2, o.2.1, 0)
theorem is_a_Plan_lines {o : u_O} (h : is_Plan o) : is_RLine (a_Plan_lines o) := by
  obtain ⟨h1, h2, h3⟩ := h
  exact ⟨rfl, by simp only [a_Plan_lines]; omega, by simp only [a_Plan_lines]; omega⟩
def a_Plan_entries (o : u_O) : u_O := (6, o.2.1, 0)
theorem is_a_Plan_entries {o : u_O} (h : is_Plan o) : is_Entries (a_Plan_entries o) := by
  obtain ⟨h1, h2, h3⟩ := h
  exact ⟨rfl, by simp only [a_Plan_entries]; omega, by simp only [a_Plan_entries]; omega⟩
def a_Plan_toVisit (o : u_O) : u_O := (9, o.2.1, 0)
theorem is_a_Plan_toVisit {o : u_O} (h : is_Plan o) : is_A (a_Plan_toVisit o) := by
  obtain ⟨h1, h2, h3⟩ := h
  simp [is_A, a_Plan_toVisit, omo]; omega
def a_Line_steps (o : u_O) : u_O := (4, o.2.1, o.2.2)
theorem is_a_Line_steps {o : u_O} (h : is_Line o) : is_A (a_Line_steps o) := by
  obtain ⟨h1, h2, h3⟩ := h
  simp [is_A, a_Line_steps, omo]; omega
def a_Line_ticks (o : u_O) : u_O := (5, o.2.1, o.2.2)
theorem is_a_Line_ticks {o : u_O} (h : is_Line o) : is_A (a_Line_ticks o) := by
  obtain ⟨h1, h2, h3⟩ := h
  simp [is_A, a_Line_ticks, omo]; omega
def a_Entries_items (o : u_O) : u_O := (7, o.2.1, 0)
theorem is_a_Entries_items {o : u_O} (h : is_Entries o) : is_REntry (a_Entries_items o) := by
  obtain ⟨h1, h2, h3⟩ := h
  exact ⟨rfl, by simp only [a_Entries_items]; omega, by simp only [a_Entries_items]; omega⟩
def a_History_kept (_ : u_O) : u_O := (11, 0, 0)
theorem is_a_History_kept {o : u_O} (h : is_History o) : is_RPlan (a_History_kept o) := by
  obtain ⟨h1, h2, h3⟩ := h
  exact ⟨rfl, by simp only [a_History_kept]; omega, by simp only [a_History_kept]; omega⟩
def a_Reader_bytes (_ : u_O) : u_O := (13, 0, 0)
theorem is_a_Reader_bytes {o : u_O} (h : is_Reader o) : is_A (a_Reader_bytes o) := by
  obtain ⟨h1, h2, h3⟩ := h
  simp [is_A, a_Reader_bytes, omo]
def a_Reader_letters (_ : u_O) : u_O := (13, 1, 0)
theorem is_a_Reader_letters {o : u_O} (h : is_Reader o) : is_A (a_Reader_letters o) := by
  obtain ⟨h1, h2, h3⟩ := h
  simp [is_A, a_Reader_letters, omo]
def a_Reader_starts (_ : u_O) : u_O := (13, 2, 0)
theorem is_a_Reader_starts {o : u_O} (h : is_Reader o) : is_A (a_Reader_starts o) := by
  obtain ⟨h1, h2, h3⟩ := h
  simp [is_A, a_Reader_starts, omo]
def a_Reader_numbers (_ : u_O) : u_O := (13, 3, 0)
theorem is_a_Reader_numbers {o : u_O} (h : is_Reader o) : is_A (a_Reader_numbers o) := by
  obtain ⟨h1, h2, h3⟩ := h
  simp [is_A, a_Reader_numbers, omo]
def a_Sound_steps (o : u_O) : u_O := (15, o.2.1, 0)
theorem is_a_Sound_steps {o : u_O} (h : is_Sound o) : is_A (a_Sound_steps o) := by
  obtain ⟨h1, h2, h3⟩ := h
  simp [is_A, a_Sound_steps, omo]; omega
def a_Chorus_items (_ : u_O) : u_O := (18, 0, 0)
theorem is_a_Chorus_items {o : u_O} (h : is_Chorus o) : is_RSound (a_Chorus_items o) := by
  obtain ⟨h1, h2, h3⟩ := h
  exact ⟨rfl, by simp only [a_Chorus_items]; omega, by simp only [a_Chorus_items]; omega⟩
def a_Tour_best (_ : u_O) : u_O := (21, 0, 0)
theorem is_a_Tour_best {o : u_O} (h : is_Tour o) : is_A (a_Tour_best o) := by
  obtain ⟨h1, h2, h3⟩ := h
  simp [is_A, a_Tour_best, omo]
def a_Tour_tried (_ : u_O) : u_O := (22, 0, 0)
theorem is_a_Tour_tried {o : u_O} (h : is_Tour o) : is_A (a_Tour_tried o) := by
  obtain ⟨h1, h2, h3⟩ := h
  simp [is_A, a_Tour_tried, omo]
def a_Mo_all (_ : u_O) : u_O := (24, 0, 0)
theorem is_a_Mo_all {o : u_O} (h : is_Mo o) : is_A (a_Mo_all o) := by
  obtain ⟨h1, h2, h3⟩ := h
  simp [is_A, a_Mo_all, omo]
def a_Mo_past (_ : u_O) : u_O := (24, 1, 0)
theorem is_a_Mo_past {o : u_O} (h : is_Mo o) : is_A (a_Mo_past o) := by
  obtain ⟨h1, h2, h3⟩ := h
  simp [is_A, a_Mo_past, omo]
def a_Mo_aside (_ : u_O) : u_O := (24, 2, 0)
theorem is_a_Mo_aside {o : u_O} (h : is_Mo o) : is_A (a_Mo_aside o) := by
  obtain ⟨h1, h2, h3⟩ := h
  simp [is_A, a_Mo_aside, omo]
def a_Mo_refused (_ : u_O) : u_O := (24, 4, 0)
theorem is_a_Mo_refused {o : u_O} (h : is_Mo o) : is_A (a_Mo_refused o) := by
  obtain ⟨h1, h2, h3⟩ := h
  simp [is_A, a_Mo_refused, omo]
def a_Mo_upper (_ : u_O) : u_O := (24, 5, 0)
theorem is_a_Mo_upper {o : u_O} (h : is_Mo o) : is_A (a_Mo_upper o) := by
  obtain ⟨h1, h2, h3⟩ := h
  simp [is_A, a_Mo_upper, omo]
def a_Mo_lower (_ : u_O) : u_O := (24, 6, 0)
theorem is_a_Mo_lower {o : u_O} (h : is_Mo o) : is_A (a_Mo_lower o) := by
  obtain ⟨h1, h2, h3⟩ := h
  simp [is_A, a_Mo_lower, omo]
def a_Mo_counted (_ : u_O) : u_O := (24, 7, 0)
theorem is_a_Mo_counted {o : u_O} (h : is_Mo o) : is_A (a_Mo_counted o) := by
  obtain ⟨h1, h2, h3⟩ := h
  simp [is_A, a_Mo_counted, omo]
def a_Mo_plainRow (_ : u_O) : u_O := (24, 8, 0)
theorem is_a_Mo_plainRow {o : u_O} (h : is_Mo o) : is_A (a_Mo_plainRow o) := by
  obtain ⟨h1, h2, h3⟩ := h
  simp [is_A, a_Mo_plainRow, omo]
def a_Mo_formRow (_ : u_O) : u_O := (24, 9, 0)
theorem is_a_Mo_formRow {o : u_O} (h : is_Mo o) : is_A (a_Mo_formRow o) := by
  obtain ⟨h1, h2, h3⟩ := h
  simp [is_A, a_Mo_formRow, omo]
def a_Mo_far (_ : u_O) : u_O := (24, 11, 0)
theorem is_a_Mo_far {o : u_O} (h : is_Mo o) : is_A (a_Mo_far o) := by
  obtain ⟨h1, h2, h3⟩ := h
  simp [is_A, a_Mo_far, omo]
def a_Mo_between (_ : u_O) : u_O := (24, 12, 0)
theorem is_a_Mo_between {o : u_O} (h : is_Mo o) : is_A (a_Mo_between o) := by
  obtain ⟨h1, h2, h3⟩ := h
  simp [is_A, a_Mo_between, omo]
def a_Mo_bestRow (_ : u_O) : u_O := (24, 13, 0)
theorem is_a_Mo_bestRow {o : u_O} (h : is_Mo o) : is_A (a_Mo_bestRow o) := by
  obtain ⟨h1, h2, h3⟩ := h
  simp [is_A, a_Mo_bestRow, omo]
def a_Mo_tried (_ : u_O) : u_O := (24, 14, 0)
theorem is_a_Mo_tried {o : u_O} (h : is_Mo o) : is_A (a_Mo_tried o) := by
  obtain ⟨h1, h2, h3⟩ := h
  simp [is_A, a_Mo_tried, omo]
def a_Mo_text (_ : u_O) : u_O := (24, 15, 0)
theorem is_a_Mo_text {o : u_O} (h : is_Mo o) : is_A (a_Mo_text o) := by
  obtain ⟨h1, h2, h3⟩ := h
  simp [is_A, a_Mo_text, omo]
def a_Mo_numbers (_ : u_O) : u_O := (24, 20, 0)
theorem is_a_Mo_numbers {o : u_O} (h : is_Mo o) : is_A (a_Mo_numbers o) := by
  obtain ⟨h1, h2, h3⟩ := h
  simp [is_A, a_Mo_numbers, omo]
abbrev u_E : Type := (u_O → Nat) × va_G × (Nat → ClassId)
def XE (E : u_E) : u_X := (E.2.1, [(E.2.2 0, .int), (E.2.2 1, .object RX2), (E.2.2 2, .object RX5), (E.2.2 3, .object RX6), (E.2.2 4, .object RX8)])
def cell (E : u_E) (o : u_O) (f : Int → Int32) : va_E := match o.1 with
  | 0 => .inr (10, [.ref (E.1 (a_FP_plan o)), .ref (E.1 (a_FP_before o)), .ref (E.1 (a_FP_history o)), .ref (E.1 (a_FP_text o)), .int (f 4), .int (f 5), .int (f 6), .ref (E.1 (a_FP_upper o)), .ref (E.1 (a_FP_lower o)), .ref (E.1 (a_FP_faults o)), .ref (E.1 (a_FP_chorus o)), .ref (E.1 (a_FP_rowEntries o)), .ref (E.1 (a_FP_row o)), .ref (E.1 (a_FP_tour o))])
  | 1 => .inr (6, [.ref (E.1 (a_Plan_lines o)), .ref (E.1 (a_Plan_entries o)), .ref (E.1 (a_Plan_toVisit o)), .int (f 3), .int (f 4), .int (f 5), .int (f 6), .int (f 7)])
  | 2 => .inl (E.2.2 2, 4, .inr (.inr (.inr (.inr (fun j => some (E.1 (3, o.2.1, j)))))))
  | 3 => .inr (5, [.ref (E.1 (a_Line_steps o)), .ref (E.1 (a_Line_ticks o)), .int (f 2)])
  | 4 => .inl (E.2.2 0, 10, .inl (fun j => f (j : Int)))
  | 5 => .inl (E.2.2 0, 10, .inl (fun j => f (j : Int)))
  | 6 => .inr (1, [.ref (E.1 (a_Entries_items o)), .int (f 1)])
  | 7 => .inl (E.2.2 1, 10, .inr (.inr (.inr (.inr (fun j => some (E.1 (8, o.2.1, j)))))))
  | 8 => .inr (2, [.int (f 0), .int (f 1), .int (f 2), .int (f 3), .int (f 4)])
  | 9 => .inl (E.2.2 0, 5, .inl (fun j => f (j : Int)))
  | 10 => .inr (4, [.ref (E.1 (a_History_kept o)), .int (f 1), .int (f 2)])
  | 11 => .inl (E.2.2 3, 5, .inr (.inr (.inr (.inr (fun j => some (E.1 (1, 2 + j, 0)))))))
  | 12 => .inr (7, [.ref (E.1 (a_Reader_bytes o)), .ref (E.1 (a_Reader_letters o)), .ref (E.1 (a_Reader_starts o)), .ref (E.1 (a_Reader_numbers o)), .int (f 4), .int (f 5), .int (f 6), .int (f 7), .int (f 8)])
  | 13 => .inl (E.2.2 0, 120, .inl (fun j => f (j : Int)))
  | 14 => .inr (8, [.ref (E.1 (a_Sound_steps o)), .int (f 1), .int (f 2), .int (f 3)])
  | 15 => .inl (E.2.2 0, 80, .inl (fun j => f (j : Int)))
  | 16 => .inr (3, [.int (f 0), .int (f 1), .int (f 2)])
  | 17 => .inr (0, [.ref (E.1 (a_Chorus_items o)), .int (f 1)])
  | 18 => .inl (E.2.2 4, 10, .inr (.inr (.inr (.inr (fun j => some (E.1 (14, 2 + j, 0)))))))
  | 19 => .inl (E.2.2 0, 4, .inl (fun j => f (j : Int)))
  | 20 => .inr (9, [.ref (E.1 (a_Tour_best o)), .ref (E.1 (a_Tour_tried o)), .int (f 2)])
  | 21 => .inl (E.2.2 0, 5, .inl (fun j => f (j : Int)))
  | 22 => .inl (E.2.2 0, 5, .inl (fun j => f (j : Int)))
  | 23 => .inr (11, [.ref (E.1 (a_Mo_all o)), .ref (E.1 (a_Mo_past o)), .ref (E.1 (a_Mo_aside o)), .int (f 3), .ref (E.1 (a_Mo_refused o)), .ref (E.1 (a_Mo_upper o)), .ref (E.1 (a_Mo_lower o)), .ref (E.1 (a_Mo_counted o)), .ref (E.1 (a_Mo_plainRow o)), .ref (E.1 (a_Mo_formRow o)), .int (f 10), .ref (E.1 (a_Mo_far o)), .ref (E.1 (a_Mo_between o)), .ref (E.1 (a_Mo_bestRow o)), .ref (E.1 (a_Mo_tried o)), .ref (E.1 (a_Mo_text o)), .int (f 16), .int (f 17), .int (f 18), .int (f 19), .ref (E.1 (a_Mo_numbers o))])
  | _ => .inl (E.2.2 0, alenM o.2.1, .inl (fun j => f (j : Int)))
/-- the world of a state -/
def Wd (E : u_E) (s : u_S) : va_W := objs.map fun o => (E.1 o, cell E o (s o))
theorem Wd_at (E : u_E) (s : u_S) {o : u_O} (h : o ∈ objs) : ∃ q0 : Nat, objs[q0]? = some o ∧ (Wd E s)[q0]? = some (E.1 o, cell E o (s o)) := by
  obtain ⟨q0, hq⟩ := List.getElem?_of_mem h
  exact ⟨q0, hq, by simp [Wd, List.getElem?_map, hq]⟩
theorem Wd_set (E : u_E) {s s' : u_S} {o : u_O} {q0 : Nat} (h : objs[q0]? = some o) (hs : ∀ o', o' ≠ o → s' o' = s o') {c : va_E} (hc : c = cell E o (s' o)) : (Wd E s).set q0 (E.1 o, c) = Wd E s' := by
  subst hc
  apply List.ext_getElem?
  intro i
  unfold Wd
  rw [List.getElem?_set, List.getElem?_map, List.getElem?_map]
  by_cases hi : q0 = i
  · subst hi
    have hlt := (List.getElem?_eq_some_iff.mp h).1
    rw [if_pos rfl, h]
    simp [hlt]
  · rw [if_neg hi]
    cases hq : objs[i]? with
    | none => rfl
    | some o' =>
      have hne : o' ≠ o := by
        intro e
        subst e
        have h1 := (List.getElem?_eq_some_iff.mp h)
        have h2 := (List.getElem?_eq_some_iff.mp hq)
        obtain ⟨l1, e1⟩ := h1
        obtain ⟨l2, e2⟩ := h2
        have hp := List.pairwise_iff_getElem.mp objs_nodup
        rcases Nat.lt_or_gt_of_ne hi with hlt | hlt
        · exact hp q0 i l1 l2 hlt (e1.trans e2.symm)
        · exact hp i q0 l2 l1 hlt (e2.trans e1.symm)
      simp [hs o' hne]
theorem wt_ne {s : u_S} {o : u_O} {k v : Int} (o' : u_O) (h : o' ≠ o) : wt s o k v o' = s o' := by
  funext k'
  simp [wt, h]
def gd {α : Type} (i : Int) (n : Nat) (k : Option α) : Option α := if 0 ≤ i ∧ i < (n : Int) then k else none
theorem gd_some {α : Type} {i : Int} {n : Nat} {k : Option α} {r : α} (h : gd i n k = some r) : (0 ≤ i ∧ i < (n : Int)) ∧ k = some r := by
  unfold gd at h
  split at h
  · exact ⟨‹_›, h⟩
  · cases h
section HROWS
variable {l : Launch} {X : u_X} {R : Room} {cc : ByteArray} {nL : Nat} {own nm : String} {K : u_K} {nc ns pc : Nat} {lv : List (Option Value)} {st : List Value} {w : va_W}
theorem r_get (g : Wk0 l X R cc nL own nm K) {C : String} {T : u_T} {N ci : Nat} (hin : ∀ w ∈ u_ws C T N, w ∈ lw_G) (hc : vwCl[ci]? = some (C, T, N)) {a : Nat} {fs : List Value} (q0 : Nat) (he : w[q0]? = some (a, .inr (ci, fs))) (k : Nat) (hk : k < N) {v : Value} (hv : fs[k]? = some v) {idx : Nat} (hl0 : Cond.fieldLink own idx (T k).1 (T k).2.1 (T k).2.2.1 ∈ lw_G) (d : decode cc pc = .ok (.getfield idx, 3)) (kk : K nc ns (pc + 3) lv (v :: st) w) : K nc ns pc lv (.ref a :: st) w := by
  obtain ⟨p, e, s, m, args, below, meth, c, A, H0, Q, rfl, hx, hb, hml, hown, hts, hK, hA, hnm⟩ := g
  intro hln H locs ls hl hP hD hS
  exact va_get hx hb hts hin hown hK.1 hP q0 he hc k hk (hts _ hl0) (fun _ h => h) hv d (kk hln H locs ls hl hP hD hS)
theorem r_put (g : Wk0 l X R cc nL own nm K) {C : String} {T : u_T} {N ci : Nat} (hin : ∀ w ∈ u_ws C T N, w ∈ lw_G) (hc : vwCl[ci]? = some (C, T, N)) (ty0 : Nat → FieldType) (hty : ∀ k, k < N → parseFieldDescriptor (T k).2.2.1 = some (ty0 k)) (hnmm : ∀ a, a < N → ∀ b, b < N → a ≠ b → (T a).2.1 ≠ (T b).2.1) {a : Nat} {fs : List Value} (q0 : Nat) (he : w[q0]? = some (a, .inr (ci, fs))) (k : Nat) (hk : k < N) (hfin : (T k).2.2.2 = false) {x : Int32} (hti : parseFieldDescriptor (T k).2.2.1 = some .int) (hlen : k < fs.length) {idx : Nat} (hl0 : Cond.fieldLink own idx (T k).1 (T k).2.1 (T k).2.2.1 ∈ lw_G) (d : decode cc pc = .ok (.putfield idx, 3)) (kk : K nc ns (pc + 3) lv st (w.set q0 (a, .inr (ci, fs.set k (.int x))))) : K nc ns pc lv (.int x :: .ref a :: st) w := by
  obtain ⟨p, e, s, m, args, below, meth, c, A, H0, Q, rfl, hx, hb, hml, hown, hts, hK, hA, hnm⟩ := g
  intro hln H locs ls hl hP hD hS
  exact va_put hx hb hts hin ty0 hty hnmm hown hK.1 hP hD hS q0 he hc k hk (hts _ hl0) (fun _ h => h) hfin hti rfl rfl hlen d (fun H1 locs1 hP1 hD1 hS1 => kk hln H1 locs1 ls hl hP1 hD1 hS1)
theorem r_ald (g : Wk0 l X R cc nL own nm K) {a : Nat} (q0 t0 : Nat) {cA : ClassId} {n : Nat} {f : Nat → Int32} (ha : w[q0]? = some (a, .inl (cA, n, .inl f))) (ht : X.2[t0]? = some (cA, .int)) {i : Int} (hi : InR i) (hin : 0 ≤ i ∧ i < (n : Int)) (d : decode cc pc = .ok (.iaload, 1)) (kk : K nc ns (pc + 1) lv (.int (f i.toNat) :: st) w) : K nc ns pc lv (.int (J i) :: .ref a :: st) w := by
  obtain ⟨p, e, s, m, args, below, meth, c, A, H0, Q, rfl, hx, hb, hml, hown, hts, hK, hA, hnm⟩ := g
  intro hln H locs ls hl hP hD hS
  exact va_iald hx hb hK.1 hP q0 t0 ha ht (vp_in_J hi hin.1 hin.2) d (by rw [clamp_J hi]; exact kk hln H locs ls hl hP hD hS)
theorem r_ast (g : Wk0 l X R cc nL own nm K) {a : Nat} (q0 t0 : Nat) {cA : ClassId} {n : Nat} {f : Nat → Int32} (ha : w[q0]? = some (a, .inl (cA, n, .inl f))) (ht : X.2[t0]? = some (cA, .int)) {i : Int} {x : Int32} (hi : InR i) (hin : 0 ≤ i ∧ i < (n : Int)) (d : decode cc pc = .ok (.iastore, 1)) (kk : K nc ns (pc + 1) lv st (w.set q0 (a, .inl (cA, n, .inl (upd f i.toNat x))))) : K nc ns pc lv (.int x :: .int (J i) :: .ref a :: st) w := by
  obtain ⟨p, e, s, m, args, below, meth, c, A, H0, Q, rfl, hx, hb, hml, hown, hts, hK, hA, hnm⟩ := g
  intro hln H locs ls hl hP hD hS
  exact va_iast hx hb hK.1 hP hD hS q0 t0 ha ht (vp_in_J hi hin.1 hin.2) d (fun H1 locs1 hP1 hD1 hS1 => kk hln H1 locs1 ls hl (by rw [clamp_J hi] at hP1; exact hP1) (by rw [clamp_J hi] at hD1; exact hD1) hS1)
theorem r_aaldq (g : Wk0 l X R cc nL own nm K) {a : Nat} (q0 t0 : Nat) {cA : ClassId} {C : String} {n : Nat} {f : Nat → Option Nat} (ha : w[q0]? = some (a, .inl (cA, n, .inr (.inr (.inr (.inr f)))))) (ht : X.2[t0]? = some (cA, .object C)) {i : Int} (hi : InR i) (hin : 0 ≤ i ∧ i < (n : Int)) (d : decode cc pc = .ok (.aaload, 1)) (kk : K nc ns (pc + 1) lv (va_rf (f i.toNat) :: st) w) : K nc ns pc lv (.int (J i) :: .ref a :: st) w := by
  obtain ⟨p, e, s, m, args, below, meth, c, A, H0, Q, rfl, hx, hb, hml, hown, hts, hK, hA, hnm⟩ := g
  intro hln H locs ls hl hP hD hS
  exact va_aldq hx hb hK.1 hP q0 t0 ha ht (vp_in_J hi hin.1 hin.2) d (by rw [clamp_J hi]; exact kk hln H locs ls hl hP hD hS)
end HROWS
section TROWS
variable {l : Launch} {E : u_E} {R : Room} {cc : ByteArray} {nL : Nat} {own nm : String} {K : u_K} {nc ns pc : Nat} {lv : List (Option Value)} {st : List Value} {s : u_S}
theorem cell_A {o : u_O} (h : is_A o) (f : Int → Int32) : cell E o f = .inl (E.2.2 0, alen o, .inl (fun j => f (j : Int))) := by
  obtain ⟨k, p, l⟩ := o
  rcases h with ⟨h1, h2, h3⟩ | ⟨h1, h2, h3⟩ | ⟨h1, h2, h3⟩ | ⟨h1, h2, h3⟩ | ⟨h1, h2, h3⟩ | ⟨h1, h2, h3⟩ | ⟨h1, h2, h3⟩ | ⟨h1, h2, h3⟩ | ⟨h1, h2, h3⟩ <;> (cases h1; rfl)
theorem r_iaload (g : Wk0 l (XE E) R cc nL own nm K) {o : u_O} {n : Nat} (ho : is_A o) (hn : alen o = n) {i : Int} (hi : InR i) (hin : 0 ≤ i ∧ i < (n : Int)) (d : decode cc pc = .ok (.iaload, 1)) (kk : K nc ns (pc + 1) lv (.int (J (rd s o i)) :: st) (Wd E s)) : K nc ns pc lv (.int (J i) :: .ref (E.1 o) :: st) (Wd E s) := by
  obtain ⟨q0, h1, h2⟩ := Wd_at E s ho.mem
  rw [cell_A ho, hn] at h2
  refine r_ald g q0 0 h2 rfl hi hin d ?_
  rw [J_rd] at kk
  rw [show ((i.toNat : Nat) : Int) = i from Int.toNat_of_nonneg hin.1]
  exact kk
theorem r_iastore (g : Wk0 l (XE E) R cc nL own nm K) {o : u_O} {n : Nat} (ho : is_A o) (hn : alen o = n) {i v : Int} (hi : InR i) (hin : 0 ≤ i ∧ i < (n : Int)) (d : decode cc pc = .ok (.iastore, 1)) (kk : K nc ns (pc + 1) lv st (Wd E (wt s o i v))) : K nc ns pc lv (.int (J v) :: .int (J i) :: .ref (E.1 o) :: st) (Wd E s) := by
  obtain ⟨q0, h1, h2⟩ := Wd_at E s ho.mem
  rw [cell_A ho, hn] at h2
  refine r_ast g q0 0 h2 rfl hi hin d ?_
  rw [Wd_set E (s' := wt s o i v) h1 (fun o' h => wt_ne o' h)]
  · exact kk
  · rw [cell_A ho, hn]
    congr 4
    funext j
    simp only [wt, upd, true_and]
    by_cases hj : j = i.toNat
    · subst hj
      rw [if_pos rfl, if_pos (Int.toNat_of_nonneg hin.1)]
    · rw [if_neg hj, if_neg (by omega)]

theorem r_aald_Line (g : Wk0 l (XE E) R cc nL own nm K) {o : u_O} (ho : is_RLine o) {i : Int} (hi : InR i) (hin : 0 ≤ i ∧ i < (4 : Int)) (d : decode cc pc = .ok (.aaload, 1)) (kk : K nc ns (pc + 1) lv (.ref (E.1 (e_Line o i)) :: st) (Wd E s)) : K nc ns pc lv (.int (J i) :: .ref (E.1 o) :: st) (Wd E s) := by
  obtain ⟨q0, h1, h2⟩ := Wd_at E s ho.mem
  obtain ⟨k, p, l⟩ := o
  obtain ⟨h3, h4, h5⟩ := ho
  cases h3
  exact r_aaldq g q0 2 h2 rfl hi hin d kk
theorem r_aald_Entry (g : Wk0 l (XE E) R cc nL own nm K) {o : u_O} (ho : is_REntry o) {i : Int} (hi : InR i) (hin : 0 ≤ i ∧ i < (10 : Int)) (d : decode cc pc = .ok (.aaload, 1)) (kk : K nc ns (pc + 1) lv (.ref (E.1 (e_Entry o i)) :: st) (Wd E s)) : K nc ns pc lv (.int (J i) :: .ref (E.1 o) :: st) (Wd E s) := by
  obtain ⟨q0, h1, h2⟩ := Wd_at E s ho.mem
  obtain ⟨k, p, l⟩ := o
  obtain ⟨h3, h4, h5⟩ := ho
  cases h3
  exact r_aaldq g q0 1 h2 rfl hi hin d kk
theorem r_aald_Plan (g : Wk0 l (XE E) R cc nL own nm K) {o : u_O} (ho : is_RPlan o) {i : Int} (hi : InR i) (hin : 0 ≤ i ∧ i < (5 : Int)) (d : decode cc pc = .ok (.aaload, 1)) (kk : K nc ns (pc + 1) lv (.ref (E.1 (e_Plan o i)) :: st) (Wd E s)) : K nc ns pc lv (.int (J i) :: .ref (E.1 o) :: st) (Wd E s) := by
  obtain ⟨q0, h1, h2⟩ := Wd_at E s ho.mem
  obtain ⟨k, p, l⟩ := o
  obtain ⟨h3, h4, h5⟩ := ho
  cases h3
  exact r_aaldq g q0 3 h2 rfl hi hin d kk
theorem r_aald_Sound (g : Wk0 l (XE E) R cc nL own nm K) {o : u_O} (ho : is_RSound o) {i : Int} (hi : InR i) (hin : 0 ≤ i ∧ i < (10 : Int)) (d : decode cc pc = .ok (.aaload, 1)) (kk : K nc ns (pc + 1) lv (.ref (E.1 (e_Sound o i)) :: st) (Wd E s)) : K nc ns pc lv (.int (J i) :: .ref (E.1 o) :: st) (Wd E s) := by
  obtain ⟨q0, h1, h2⟩ := Wd_at E s ho.mem
  obtain ⟨k, p, l⟩ := o
  obtain ⟨h3, h4, h5⟩ := ho
  cases h3
  exact r_aaldq g q0 4 h2 rfl hi hin d kk
theorem in_FP : ∀ w ∈ u_ws RX10 TX10 14, w ∈ lw_G := by decide +kernel
theorem recv_FP {o : u_O} (h : is_FP o) : Recv (Wd E s) (E.1 o) RX10 := by
  obtain ⟨q0, h1, h2⟩ := Wd_at E s h.mem
  obtain ⟨k, p, l⟩ := o
  obtain ⟨h3, h4, h5⟩ := h
  cases h3
  exact ⟨q0, 10, _, _, rfl, rfl, h2⟩
theorem g_FP_plan (g : Wk0 l (XE E) R cc nL own nm K) {o : u_O} (ho : is_FP o) {idx : Nat} (hl0 : Cond.fieldLink own idx (TX10 0).1 (TX10 0).2.1 (TX10 0).2.2.1 ∈ lw_G) (d : decode cc pc = .ok (.getfield idx, 3)) (kk : K nc ns (pc + 3) lv (.ref (E.1 (a_FP_plan o)) :: st) (Wd E s)) : K nc ns pc lv (.ref (E.1 o) :: st) (Wd E s) := by
  obtain ⟨q0, h1, h2⟩ := Wd_at E s ho.mem
  obtain ⟨k, p, l⟩ := o
  obtain ⟨h3, h4, h5⟩ := ho
  cases h3
  exact r_get g in_FP rfl q0 h2 0 (by decide) rfl hl0 d kk
theorem g_FP_before (g : Wk0 l (XE E) R cc nL own nm K) {o : u_O} (ho : is_FP o) {idx : Nat} (hl0 : Cond.fieldLink own idx (TX10 1).1 (TX10 1).2.1 (TX10 1).2.2.1 ∈ lw_G) (d : decode cc pc = .ok (.getfield idx, 3)) (kk : K nc ns (pc + 3) lv (.ref (E.1 (a_FP_before o)) :: st) (Wd E s)) : K nc ns pc lv (.ref (E.1 o) :: st) (Wd E s) := by
  obtain ⟨q0, h1, h2⟩ := Wd_at E s ho.mem
  obtain ⟨k, p, l⟩ := o
  obtain ⟨h3, h4, h5⟩ := ho
  cases h3
  exact r_get g in_FP rfl q0 h2 1 (by decide) rfl hl0 d kk
theorem g_FP_history (g : Wk0 l (XE E) R cc nL own nm K) {o : u_O} (ho : is_FP o) {idx : Nat} (hl0 : Cond.fieldLink own idx (TX10 2).1 (TX10 2).2.1 (TX10 2).2.2.1 ∈ lw_G) (d : decode cc pc = .ok (.getfield idx, 3)) (kk : K nc ns (pc + 3) lv (.ref (E.1 (a_FP_history o)) :: st) (Wd E s)) : K nc ns pc lv (.ref (E.1 o) :: st) (Wd E s) := by
  obtain ⟨q0, h1, h2⟩ := Wd_at E s ho.mem
  obtain ⟨k, p, l⟩ := o
  obtain ⟨h3, h4, h5⟩ := ho
  cases h3
  exact r_get g in_FP rfl q0 h2 2 (by decide) rfl hl0 d kk
theorem g_FP_text (g : Wk0 l (XE E) R cc nL own nm K) {o : u_O} (ho : is_FP o) {idx : Nat} (hl0 : Cond.fieldLink own idx (TX10 3).1 (TX10 3).2.1 (TX10 3).2.2.1 ∈ lw_G) (d : decode cc pc = .ok (.getfield idx, 3)) (kk : K nc ns (pc + 3) lv (.ref (E.1 (a_FP_text o)) :: st) (Wd E s)) : K nc ns pc lv (.ref (E.1 o) :: st) (Wd E s) := by
  obtain ⟨q0, h1, h2⟩ := Wd_at E s ho.mem
  obtain ⟨k, p, l⟩ := o
  obtain ⟨h3, h4, h5⟩ := ho
  cases h3
  exact r_get g in_FP rfl q0 h2 3 (by decide) rfl hl0 d kk
theorem g_FP_bads (g : Wk0 l (XE E) R cc nL own nm K) {o : u_O} (ho : is_FP o) {idx : Nat} (hl0 : Cond.fieldLink own idx (TX10 4).1 (TX10 4).2.1 (TX10 4).2.2.1 ∈ lw_G) (d : decode cc pc = .ok (.getfield idx, 3)) (kk : K nc ns (pc + 3) lv (.int (J (rd s o 4)) :: st) (Wd E s)) : K nc ns pc lv (.ref (E.1 o) :: st) (Wd E s) := by
  obtain ⟨q0, h1, h2⟩ := Wd_at E s ho.mem
  obtain ⟨k, p, l⟩ := o
  obtain ⟨h3, h4, h5⟩ := ho
  cases h3
  rw [J_rd] at kk
  exact r_get g in_FP rfl q0 h2 4 (by decide) rfl hl0 d kk
theorem p_FP_bads (g : Wk0 l (XE E) R cc nL own nm K) {o : u_O} (ho : is_FP o) {v : Int} {idx : Nat} (hl0 : Cond.fieldLink own idx (TX10 4).1 (TX10 4).2.1 (TX10 4).2.2.1 ∈ lw_G) (d : decode cc pc = .ok (.putfield idx, 3)) (kk : K nc ns (pc + 3) lv st (Wd E (wt s o 4 v))) : K nc ns pc lv (.int (J v) :: .ref (E.1 o) :: st) (Wd E s) := by
  obtain ⟨q0, h1, h2⟩ := Wd_at E s ho.mem
  obtain ⟨k, p, l⟩ := o
  obtain ⟨h3, h4, h5⟩ := ho
  cases h3
  refine r_put g in_FP rfl tyX10 tyX10_ok nmX10 q0 h2 4 (by decide) rfl (by decide +kernel) (Nat.le_of_ble_eq_true rfl) hl0 d ?_
  rw [Wd_set E (s' := wt s (0, p, l) 4 v) h1 (fun o' h => wt_ne o' h)]
  · exact kk
  · simp [cell, wt]
theorem g_FP_noes (g : Wk0 l (XE E) R cc nL own nm K) {o : u_O} (ho : is_FP o) {idx : Nat} (hl0 : Cond.fieldLink own idx (TX10 5).1 (TX10 5).2.1 (TX10 5).2.2.1 ∈ lw_G) (d : decode cc pc = .ok (.getfield idx, 3)) (kk : K nc ns (pc + 3) lv (.int (J (rd s o 5)) :: st) (Wd E s)) : K nc ns pc lv (.ref (E.1 o) :: st) (Wd E s) := by
  obtain ⟨q0, h1, h2⟩ := Wd_at E s ho.mem
  obtain ⟨k, p, l⟩ := o
  obtain ⟨h3, h4, h5⟩ := ho
  cases h3
  rw [J_rd] at kk
  exact r_get g in_FP rfl q0 h2 5 (by decide) rfl hl0 d kk
theorem p_FP_noes (g : Wk0 l (XE E) R cc nL own nm K) {o : u_O} (ho : is_FP o) {v : Int} {idx : Nat} (hl0 : Cond.fieldLink own idx (TX10 5).1 (TX10 5).2.1 (TX10 5).2.2.1 ∈ lw_G) (d : decode cc pc = .ok (.putfield idx, 3)) (kk : K nc ns (pc + 3) lv st (Wd E (wt s o 5 v))) : K nc ns pc lv (.int (J v) :: .ref (E.1 o) :: st) (Wd E s) := by
  obtain ⟨q0, h1, h2⟩ := Wd_at E s ho.mem
  obtain ⟨k, p, l⟩ := o
  obtain ⟨h3, h4, h5⟩ := ho
  cases h3
  refine r_put g in_FP rfl tyX10 tyX10_ok nmX10 q0 h2 5 (by decide) rfl (by decide +kernel) (Nat.le_of_ble_eq_true rfl) hl0 d ?_
  rw [Wd_set E (s' := wt s (0, p, l) 5 v) h1 (fun o' h => wt_ne o' h)]
  · exact kk
  · simp [cell, wt]
theorem g_FP_fulls (g : Wk0 l (XE E) R cc nL own nm K) {o : u_O} (ho : is_FP o) {idx : Nat} (hl0 : Cond.fieldLink own idx (TX10 6).1 (TX10 6).2.1 (TX10 6).2.2.1 ∈ lw_G) (d : decode cc pc = .ok (.getfield idx, 3)) (kk : K nc ns (pc + 3) lv (.int (J (rd s o 6)) :: st) (Wd E s)) : K nc ns pc lv (.ref (E.1 o) :: st) (Wd E s) := by
  obtain ⟨q0, h1, h2⟩ := Wd_at E s ho.mem
  obtain ⟨k, p, l⟩ := o
  obtain ⟨h3, h4, h5⟩ := ho
  cases h3
  rw [J_rd] at kk
  exact r_get g in_FP rfl q0 h2 6 (by decide) rfl hl0 d kk
theorem p_FP_fulls (g : Wk0 l (XE E) R cc nL own nm K) {o : u_O} (ho : is_FP o) {v : Int} {idx : Nat} (hl0 : Cond.fieldLink own idx (TX10 6).1 (TX10 6).2.1 (TX10 6).2.2.1 ∈ lw_G) (d : decode cc pc = .ok (.putfield idx, 3)) (kk : K nc ns (pc + 3) lv st (Wd E (wt s o 6 v))) : K nc ns pc lv (.int (J v) :: .ref (E.1 o) :: st) (Wd E s) := by
  obtain ⟨q0, h1, h2⟩ := Wd_at E s ho.mem
  obtain ⟨k, p, l⟩ := o
  obtain ⟨h3, h4, h5⟩ := ho
  cases h3
  refine r_put g in_FP rfl tyX10 tyX10_ok nmX10 q0 h2 6 (by decide) rfl (by decide +kernel) (Nat.le_of_ble_eq_true rfl) hl0 d ?_
  rw [Wd_set E (s' := wt s (0, p, l) 6 v) h1 (fun o' h => wt_ne o' h)]
  · exact kk
  · simp [cell, wt]
theorem g_FP_upper (g : Wk0 l (XE E) R cc nL own nm K) {o : u_O} (ho : is_FP o) {idx : Nat} (hl0 : Cond.fieldLink own idx (TX10 7).1 (TX10 7).2.1 (TX10 7).2.2.1 ∈ lw_G) (d : decode cc pc = .ok (.getfield idx, 3)) (kk : K nc ns (pc + 3) lv (.ref (E.1 (a_FP_upper o)) :: st) (Wd E s)) : K nc ns pc lv (.ref (E.1 o) :: st) (Wd E s) := by
  obtain ⟨q0, h1, h2⟩ := Wd_at E s ho.mem
  obtain ⟨k, p, l⟩ := o
  obtain ⟨h3, h4, h5⟩ := ho
  cases h3
  exact r_get g in_FP rfl q0 h2 7 (by decide) rfl hl0 d kk
theorem g_FP_lower (g : Wk0 l (XE E) R cc nL own nm K) {o : u_O} (ho : is_FP o) {idx : Nat} (hl0 : Cond.fieldLink own idx (TX10 8).1 (TX10 8).2.1 (TX10 8).2.2.1 ∈ lw_G) (d : decode cc pc = .ok (.getfield idx, 3)) (kk : K nc ns (pc + 3) lv (.ref (E.1 (a_FP_lower o)) :: st) (Wd E s)) : K nc ns pc lv (.ref (E.1 o) :: st) (Wd E s) := by
  obtain ⟨q0, h1, h2⟩ := Wd_at E s ho.mem
  obtain ⟨k, p, l⟩ := o
  obtain ⟨h3, h4, h5⟩ := ho
  cases h3
  exact r_get g in_FP rfl q0 h2 8 (by decide) rfl hl0 d kk
theorem g_FP_faults (g : Wk0 l (XE E) R cc nL own nm K) {o : u_O} (ho : is_FP o) {idx : Nat} (hl0 : Cond.fieldLink own idx (TX10 9).1 (TX10 9).2.1 (TX10 9).2.2.1 ∈ lw_G) (d : decode cc pc = .ok (.getfield idx, 3)) (kk : K nc ns (pc + 3) lv (.ref (E.1 (a_FP_faults o)) :: st) (Wd E s)) : K nc ns pc lv (.ref (E.1 o) :: st) (Wd E s) := by
  obtain ⟨q0, h1, h2⟩ := Wd_at E s ho.mem
  obtain ⟨k, p, l⟩ := o
  obtain ⟨h3, h4, h5⟩ := ho
  cases h3
  exact r_get g in_FP rfl q0 h2 9 (by decide) rfl hl0 d kk
theorem g_FP_chorus (g : Wk0 l (XE E) R cc nL own nm K) {o : u_O} (ho : is_FP o) {idx : Nat} (hl0 : Cond.fieldLink own idx (TX10 10).1 (TX10 10).2.1 (TX10 10).2.2.1 ∈ lw_G) (d : decode cc pc = .ok (.getfield idx, 3)) (kk : K nc ns (pc + 3) lv (.ref (E.1 (a_FP_chorus o)) :: st) (Wd E s)) : K nc ns pc lv (.ref (E.1 o) :: st) (Wd E s) := by
  obtain ⟨q0, h1, h2⟩ := Wd_at E s ho.mem
  obtain ⟨k, p, l⟩ := o
  obtain ⟨h3, h4, h5⟩ := ho
  cases h3
  exact r_get g in_FP rfl q0 h2 10 (by decide) rfl hl0 d kk
theorem g_FP_rowEntries (g : Wk0 l (XE E) R cc nL own nm K) {o : u_O} (ho : is_FP o) {idx : Nat} (hl0 : Cond.fieldLink own idx (TX10 11).1 (TX10 11).2.1 (TX10 11).2.2.1 ∈ lw_G) (d : decode cc pc = .ok (.getfield idx, 3)) (kk : K nc ns (pc + 3) lv (.ref (E.1 (a_FP_rowEntries o)) :: st) (Wd E s)) : K nc ns pc lv (.ref (E.1 o) :: st) (Wd E s) := by
  obtain ⟨q0, h1, h2⟩ := Wd_at E s ho.mem
  obtain ⟨k, p, l⟩ := o
  obtain ⟨h3, h4, h5⟩ := ho
  cases h3
  exact r_get g in_FP rfl q0 h2 11 (by decide) rfl hl0 d kk
theorem g_FP_row (g : Wk0 l (XE E) R cc nL own nm K) {o : u_O} (ho : is_FP o) {idx : Nat} (hl0 : Cond.fieldLink own idx (TX10 12).1 (TX10 12).2.1 (TX10 12).2.2.1 ∈ lw_G) (d : decode cc pc = .ok (.getfield idx, 3)) (kk : K nc ns (pc + 3) lv (.ref (E.1 (a_FP_row o)) :: st) (Wd E s)) : K nc ns pc lv (.ref (E.1 o) :: st) (Wd E s) := by
  obtain ⟨q0, h1, h2⟩ := Wd_at E s ho.mem
  obtain ⟨k, p, l⟩ := o
  obtain ⟨h3, h4, h5⟩ := ho
  cases h3
  exact r_get g in_FP rfl q0 h2 12 (by decide) rfl hl0 d kk
theorem g_FP_tour (g : Wk0 l (XE E) R cc nL own nm K) {o : u_O} (ho : is_FP o) {idx : Nat} (hl0 : Cond.fieldLink own idx (TX10 13).1 (TX10 13).2.1 (TX10 13).2.2.1 ∈ lw_G) (d : decode cc pc = .ok (.getfield idx, 3)) (kk : K nc ns (pc + 3) lv (.ref (E.1 (a_FP_tour o)) :: st) (Wd E s)) : K nc ns pc lv (.ref (E.1 o) :: st) (Wd E s) := by
  obtain ⟨q0, h1, h2⟩ := Wd_at E s ho.mem
  obtain ⟨k, p, l⟩ := o
  obtain ⟨h3, h4, h5⟩ := ho
  cases h3
  exact r_get g in_FP rfl q0 h2 13 (by decide) rfl hl0 d kk
theorem in_Plan : ∀ w ∈ u_ws RX6 TX6 8, w ∈ lw_G := by decide +kernel
theorem recv_Plan {o : u_O} (h : is_Plan o) : Recv (Wd E s) (E.1 o) RX6 := by
  obtain ⟨q0, h1, h2⟩ := Wd_at E s h.mem
  obtain ⟨k, p, l⟩ := o
  obtain ⟨h3, h4, h5⟩ := h
  cases h3
  exact ⟨q0, 6, _, _, rfl, rfl, h2⟩
theorem g_Plan_lines (g : Wk0 l (XE E) R cc nL own nm K) {o : u_O} (ho : is_Plan o) {idx : Nat} (hl0 : Cond.fieldLink own idx (TX6 0).1 (TX6 0).2.1 (TX6 0).2.2.1 ∈ lw_G) (d : decode cc pc = .ok (.getfield idx, 3)) (kk : K nc ns (pc + 3) lv (.ref (E.1 (a_Plan_lines o)) :: st) (Wd E s)) : K nc ns pc lv (.ref (E.1 o) :: st) (Wd E s) := by
  obtain ⟨q0, h1, h2⟩ := Wd_at E s ho.mem
  obtain ⟨k, p, l⟩ := o
  obtain ⟨h3, h4, h5⟩ := ho
  cases h3
  exact r_get g in_Plan rfl q0 h2 0 (by decide) rfl hl0 d kk
theorem g_Plan_entries (g : Wk0 l (XE E) R cc nL own nm K) {o : u_O} (ho : is_Plan o) {idx : Nat} (hl0 : Cond.fieldLink own idx (TX6 1).1 (TX6 1).2.1 (TX6 1).2.2.1 ∈ lw_G) (d : decode cc pc = .ok (.getfield idx, 3)) (kk : K nc ns (pc + 3) lv (.ref (E.1 (a_Plan_entries o)) :: st) (Wd E s)) : K nc ns pc lv (.ref (E.1 o) :: st) (Wd E s) := by
  obtain ⟨q0, h1, h2⟩ := Wd_at E s ho.mem
  obtain ⟨k, p, l⟩ := o
  obtain ⟨h3, h4, h5⟩ := ho
  cases h3
  exact r_get g in_Plan rfl q0 h2 1 (by decide) rfl hl0 d kk
theorem g_Plan_toVisit (g : Wk0 l (XE E) R cc nL own nm K) {o : u_O} (ho : is_Plan o) {idx : Nat} (hl0 : Cond.fieldLink own idx (TX6 2).1 (TX6 2).2.1 (TX6 2).2.2.1 ∈ lw_G) (d : decode cc pc = .ok (.getfield idx, 3)) (kk : K nc ns (pc + 3) lv (.ref (E.1 (a_Plan_toVisit o)) :: st) (Wd E s)) : K nc ns pc lv (.ref (E.1 o) :: st) (Wd E s) := by
  obtain ⟨q0, h1, h2⟩ := Wd_at E s ho.mem
  obtain ⟨k, p, l⟩ := o
  obtain ⟨h3, h4, h5⟩ := ho
  cases h3
  exact r_get g in_Plan rfl q0 h2 2 (by decide) rfl hl0 d kk
theorem g_Plan_visitCount (g : Wk0 l (XE E) R cc nL own nm K) {o : u_O} (ho : is_Plan o) {idx : Nat} (hl0 : Cond.fieldLink own idx (TX6 3).1 (TX6 3).2.1 (TX6 3).2.2.1 ∈ lw_G) (d : decode cc pc = .ok (.getfield idx, 3)) (kk : K nc ns (pc + 3) lv (.int (J (rd s o 3)) :: st) (Wd E s)) : K nc ns pc lv (.ref (E.1 o) :: st) (Wd E s) := by
  obtain ⟨q0, h1, h2⟩ := Wd_at E s ho.mem
  obtain ⟨k, p, l⟩ := o
  obtain ⟨h3, h4, h5⟩ := ho
  cases h3
  rw [J_rd] at kk
  exact r_get g in_Plan rfl q0 h2 3 (by decide) rfl hl0 d kk
theorem p_Plan_visitCount (g : Wk0 l (XE E) R cc nL own nm K) {o : u_O} (ho : is_Plan o) {v : Int} {idx : Nat} (hl0 : Cond.fieldLink own idx (TX6 3).1 (TX6 3).2.1 (TX6 3).2.2.1 ∈ lw_G) (d : decode cc pc = .ok (.putfield idx, 3)) (kk : K nc ns (pc + 3) lv st (Wd E (wt s o 3 v))) : K nc ns pc lv (.int (J v) :: .ref (E.1 o) :: st) (Wd E s) := by
  obtain ⟨q0, h1, h2⟩ := Wd_at E s ho.mem
  obtain ⟨k, p, l⟩ := o
  obtain ⟨h3, h4, h5⟩ := ho
  cases h3
  refine r_put g in_Plan rfl tyX6 tyX6_ok nmX6 q0 h2 3 (by decide) rfl (by decide +kernel) (Nat.le_of_ble_eq_true rfl) hl0 d ?_
  rw [Wd_set E (s' := wt s (1, p, l) 3 v) h1 (fun o' h => wt_ne o' h)]
  · exact kk
  · simp [cell, wt]
theorem g_Plan_head (g : Wk0 l (XE E) R cc nL own nm K) {o : u_O} (ho : is_Plan o) {idx : Nat} (hl0 : Cond.fieldLink own idx (TX6 4).1 (TX6 4).2.1 (TX6 4).2.2.1 ∈ lw_G) (d : decode cc pc = .ok (.getfield idx, 3)) (kk : K nc ns (pc + 3) lv (.int (J (rd s o 4)) :: st) (Wd E s)) : K nc ns pc lv (.ref (E.1 o) :: st) (Wd E s) := by
  obtain ⟨q0, h1, h2⟩ := Wd_at E s ho.mem
  obtain ⟨k, p, l⟩ := o
  obtain ⟨h3, h4, h5⟩ := ho
  cases h3
  rw [J_rd] at kk
  exact r_get g in_Plan rfl q0 h2 4 (by decide) rfl hl0 d kk
theorem p_Plan_head (g : Wk0 l (XE E) R cc nL own nm K) {o : u_O} (ho : is_Plan o) {v : Int} {idx : Nat} (hl0 : Cond.fieldLink own idx (TX6 4).1 (TX6 4).2.1 (TX6 4).2.2.1 ∈ lw_G) (d : decode cc pc = .ok (.putfield idx, 3)) (kk : K nc ns (pc + 3) lv st (Wd E (wt s o 4 v))) : K nc ns pc lv (.int (J v) :: .ref (E.1 o) :: st) (Wd E s) := by
  obtain ⟨q0, h1, h2⟩ := Wd_at E s ho.mem
  obtain ⟨k, p, l⟩ := o
  obtain ⟨h3, h4, h5⟩ := ho
  cases h3
  refine r_put g in_Plan rfl tyX6 tyX6_ok nmX6 q0 h2 4 (by decide) rfl (by decide +kernel) (Nat.le_of_ble_eq_true rfl) hl0 d ?_
  rw [Wd_set E (s' := wt s (1, p, l) 4 v) h1 (fun o' h => wt_ne o' h)]
  · exact kk
  · simp [cell, wt]
theorem g_Plan_tonic (g : Wk0 l (XE E) R cc nL own nm K) {o : u_O} (ho : is_Plan o) {idx : Nat} (hl0 : Cond.fieldLink own idx (TX6 5).1 (TX6 5).2.1 (TX6 5).2.2.1 ∈ lw_G) (d : decode cc pc = .ok (.getfield idx, 3)) (kk : K nc ns (pc + 3) lv (.int (J (rd s o 5)) :: st) (Wd E s)) : K nc ns pc lv (.ref (E.1 o) :: st) (Wd E s) := by
  obtain ⟨q0, h1, h2⟩ := Wd_at E s ho.mem
  obtain ⟨k, p, l⟩ := o
  obtain ⟨h3, h4, h5⟩ := ho
  cases h3
  rw [J_rd] at kk
  exact r_get g in_Plan rfl q0 h2 5 (by decide) rfl hl0 d kk
theorem p_Plan_tonic (g : Wk0 l (XE E) R cc nL own nm K) {o : u_O} (ho : is_Plan o) {v : Int} {idx : Nat} (hl0 : Cond.fieldLink own idx (TX6 5).1 (TX6 5).2.1 (TX6 5).2.2.1 ∈ lw_G) (d : decode cc pc = .ok (.putfield idx, 3)) (kk : K nc ns (pc + 3) lv st (Wd E (wt s o 5 v))) : K nc ns pc lv (.int (J v) :: .ref (E.1 o) :: st) (Wd E s) := by
  obtain ⟨q0, h1, h2⟩ := Wd_at E s ho.mem
  obtain ⟨k, p, l⟩ := o
  obtain ⟨h3, h4, h5⟩ := ho
  cases h3
  refine r_put g in_Plan rfl tyX6 tyX6_ok nmX6 q0 h2 5 (by decide) rfl (by decide +kernel) (Nat.le_of_ble_eq_true rfl) hl0 d ?_
  rw [Wd_set E (s' := wt s (1, p, l) 5 v) h1 (fun o' h => wt_ne o' h)]
  · exact kk
  · simp [cell, wt]
theorem g_Plan_meter (g : Wk0 l (XE E) R cc nL own nm K) {o : u_O} (ho : is_Plan o) {idx : Nat} (hl0 : Cond.fieldLink own idx (TX6 6).1 (TX6 6).2.1 (TX6 6).2.2.1 ∈ lw_G) (d : decode cc pc = .ok (.getfield idx, 3)) (kk : K nc ns (pc + 3) lv (.int (J (rd s o 6)) :: st) (Wd E s)) : K nc ns pc lv (.ref (E.1 o) :: st) (Wd E s) := by
  obtain ⟨q0, h1, h2⟩ := Wd_at E s ho.mem
  obtain ⟨k, p, l⟩ := o
  obtain ⟨h3, h4, h5⟩ := ho
  cases h3
  rw [J_rd] at kk
  exact r_get g in_Plan rfl q0 h2 6 (by decide) rfl hl0 d kk
theorem p_Plan_meter (g : Wk0 l (XE E) R cc nL own nm K) {o : u_O} (ho : is_Plan o) {v : Int} {idx : Nat} (hl0 : Cond.fieldLink own idx (TX6 6).1 (TX6 6).2.1 (TX6 6).2.2.1 ∈ lw_G) (d : decode cc pc = .ok (.putfield idx, 3)) (kk : K nc ns (pc + 3) lv st (Wd E (wt s o 6 v))) : K nc ns pc lv (.int (J v) :: .ref (E.1 o) :: st) (Wd E s) := by
  obtain ⟨q0, h1, h2⟩ := Wd_at E s ho.mem
  obtain ⟨k, p, l⟩ := o
  obtain ⟨h3, h4, h5⟩ := ho
  cases h3
  refine r_put g in_Plan rfl tyX6 tyX6_ok nmX6 q0 h2 6 (by decide) rfl (by decide +kernel) (Nat.le_of_ble_eq_true rfl) hl0 d ?_
  rw [Wd_set E (s' := wt s (1, p, l) 6 v) h1 (fun o' h => wt_ne o' h)]
  · exact kk
  · simp [cell, wt]
theorem g_Plan_home (g : Wk0 l (XE E) R cc nL own nm K) {o : u_O} (ho : is_Plan o) {idx : Nat} (hl0 : Cond.fieldLink own idx (TX6 7).1 (TX6 7).2.1 (TX6 7).2.2.1 ∈ lw_G) (d : decode cc pc = .ok (.getfield idx, 3)) (kk : K nc ns (pc + 3) lv (.int (J (rd s o 7)) :: st) (Wd E s)) : K nc ns pc lv (.ref (E.1 o) :: st) (Wd E s) := by
  obtain ⟨q0, h1, h2⟩ := Wd_at E s ho.mem
  obtain ⟨k, p, l⟩ := o
  obtain ⟨h3, h4, h5⟩ := ho
  cases h3
  rw [J_rd] at kk
  exact r_get g in_Plan rfl q0 h2 7 (by decide) rfl hl0 d kk
theorem p_Plan_home (g : Wk0 l (XE E) R cc nL own nm K) {o : u_O} (ho : is_Plan o) {v : Int} {idx : Nat} (hl0 : Cond.fieldLink own idx (TX6 7).1 (TX6 7).2.1 (TX6 7).2.2.1 ∈ lw_G) (d : decode cc pc = .ok (.putfield idx, 3)) (kk : K nc ns (pc + 3) lv st (Wd E (wt s o 7 v))) : K nc ns pc lv (.int (J v) :: .ref (E.1 o) :: st) (Wd E s) := by
  obtain ⟨q0, h1, h2⟩ := Wd_at E s ho.mem
  obtain ⟨k, p, l⟩ := o
  obtain ⟨h3, h4, h5⟩ := ho
  cases h3
  refine r_put g in_Plan rfl tyX6 tyX6_ok nmX6 q0 h2 7 (by decide) rfl (by decide +kernel) (Nat.le_of_ble_eq_true rfl) hl0 d ?_
  rw [Wd_set E (s' := wt s (1, p, l) 7 v) h1 (fun o' h => wt_ne o' h)]
  · exact kk
  · simp [cell, wt]
theorem in_Line : ∀ w ∈ u_ws RX5 TX5 3, w ∈ lw_G := by decide +kernel
theorem recv_Line {o : u_O} (h : is_Line o) : Recv (Wd E s) (E.1 o) RX5 := by
  obtain ⟨q0, h1, h2⟩ := Wd_at E s h.mem
  obtain ⟨k, p, l⟩ := o
  obtain ⟨h3, h4, h5⟩ := h
  cases h3
  exact ⟨q0, 5, _, _, rfl, rfl, h2⟩
theorem g_Line_steps (g : Wk0 l (XE E) R cc nL own nm K) {o : u_O} (ho : is_Line o) {idx : Nat} (hl0 : Cond.fieldLink own idx (TX5 0).1 (TX5 0).2.1 (TX5 0).2.2.1 ∈ lw_G) (d : decode cc pc = .ok (.getfield idx, 3)) (kk : K nc ns (pc + 3) lv (.ref (E.1 (a_Line_steps o)) :: st) (Wd E s)) : K nc ns pc lv (.ref (E.1 o) :: st) (Wd E s) := by
  obtain ⟨q0, h1, h2⟩ := Wd_at E s ho.mem
  obtain ⟨k, p, l⟩ := o
  obtain ⟨h3, h4, h5⟩ := ho
  cases h3
  exact r_get g in_Line rfl q0 h2 0 (by decide) rfl hl0 d kk
theorem g_Line_ticks (g : Wk0 l (XE E) R cc nL own nm K) {o : u_O} (ho : is_Line o) {idx : Nat} (hl0 : Cond.fieldLink own idx (TX5 1).1 (TX5 1).2.1 (TX5 1).2.2.1 ∈ lw_G) (d : decode cc pc = .ok (.getfield idx, 3)) (kk : K nc ns (pc + 3) lv (.ref (E.1 (a_Line_ticks o)) :: st) (Wd E s)) : K nc ns pc lv (.ref (E.1 o) :: st) (Wd E s) := by
  obtain ⟨q0, h1, h2⟩ := Wd_at E s ho.mem
  obtain ⟨k, p, l⟩ := o
  obtain ⟨h3, h4, h5⟩ := ho
  cases h3
  exact r_get g in_Line rfl q0 h2 1 (by decide) rfl hl0 d kk
theorem g_Line_count (g : Wk0 l (XE E) R cc nL own nm K) {o : u_O} (ho : is_Line o) {idx : Nat} (hl0 : Cond.fieldLink own idx (TX5 2).1 (TX5 2).2.1 (TX5 2).2.2.1 ∈ lw_G) (d : decode cc pc = .ok (.getfield idx, 3)) (kk : K nc ns (pc + 3) lv (.int (J (rd s o 2)) :: st) (Wd E s)) : K nc ns pc lv (.ref (E.1 o) :: st) (Wd E s) := by
  obtain ⟨q0, h1, h2⟩ := Wd_at E s ho.mem
  obtain ⟨k, p, l⟩ := o
  obtain ⟨h3, h4, h5⟩ := ho
  cases h3
  rw [J_rd] at kk
  exact r_get g in_Line rfl q0 h2 2 (by decide) rfl hl0 d kk
theorem p_Line_count (g : Wk0 l (XE E) R cc nL own nm K) {o : u_O} (ho : is_Line o) {v : Int} {idx : Nat} (hl0 : Cond.fieldLink own idx (TX5 2).1 (TX5 2).2.1 (TX5 2).2.2.1 ∈ lw_G) (d : decode cc pc = .ok (.putfield idx, 3)) (kk : K nc ns (pc + 3) lv st (Wd E (wt s o 2 v))) : K nc ns pc lv (.int (J v) :: .ref (E.1 o) :: st) (Wd E s) := by
  obtain ⟨q0, h1, h2⟩ := Wd_at E s ho.mem
  obtain ⟨k, p, l⟩ := o
  obtain ⟨h3, h4, h5⟩ := ho
  cases h3
  refine r_put g in_Line rfl tyX5 tyX5_ok nmX5 q0 h2 2 (by decide) rfl (by decide +kernel) (Nat.le_of_ble_eq_true rfl) hl0 d ?_
  rw [Wd_set E (s' := wt s (3, p, l) 2 v) h1 (fun o' h => wt_ne o' h)]
  · exact kk
  · simp [cell, wt]
theorem in_Entries : ∀ w ∈ u_ws RX1 TX1 2, w ∈ lw_G := by decide +kernel
theorem recv_Entries {o : u_O} (h : is_Entries o) : Recv (Wd E s) (E.1 o) RX1 := by
  obtain ⟨q0, h1, h2⟩ := Wd_at E s h.mem
  obtain ⟨k, p, l⟩ := o
  obtain ⟨h3, h4, h5⟩ := h
  cases h3
  exact ⟨q0, 1, _, _, rfl, rfl, h2⟩
theorem g_Entries_items (g : Wk0 l (XE E) R cc nL own nm K) {o : u_O} (ho : is_Entries o) {idx : Nat} (hl0 : Cond.fieldLink own idx (TX1 0).1 (TX1 0).2.1 (TX1 0).2.2.1 ∈ lw_G) (d : decode cc pc = .ok (.getfield idx, 3)) (kk : K nc ns (pc + 3) lv (.ref (E.1 (a_Entries_items o)) :: st) (Wd E s)) : K nc ns pc lv (.ref (E.1 o) :: st) (Wd E s) := by
  obtain ⟨q0, h1, h2⟩ := Wd_at E s ho.mem
  obtain ⟨k, p, l⟩ := o
  obtain ⟨h3, h4, h5⟩ := ho
  cases h3
  exact r_get g in_Entries rfl q0 h2 0 (by decide) rfl hl0 d kk
theorem g_Entries_count (g : Wk0 l (XE E) R cc nL own nm K) {o : u_O} (ho : is_Entries o) {idx : Nat} (hl0 : Cond.fieldLink own idx (TX1 1).1 (TX1 1).2.1 (TX1 1).2.2.1 ∈ lw_G) (d : decode cc pc = .ok (.getfield idx, 3)) (kk : K nc ns (pc + 3) lv (.int (J (rd s o 1)) :: st) (Wd E s)) : K nc ns pc lv (.ref (E.1 o) :: st) (Wd E s) := by
  obtain ⟨q0, h1, h2⟩ := Wd_at E s ho.mem
  obtain ⟨k, p, l⟩ := o
  obtain ⟨h3, h4, h5⟩ := ho
  cases h3
  rw [J_rd] at kk
  exact r_get g in_Entries rfl q0 h2 1 (by decide) rfl hl0 d kk
theorem p_Entries_count (g : Wk0 l (XE E) R cc nL own nm K) {o : u_O} (ho : is_Entries o) {v : Int} {idx : Nat} (hl0 : Cond.fieldLink own idx (TX1 1).1 (TX1 1).2.1 (TX1 1).2.2.1 ∈ lw_G) (d : decode cc pc = .ok (.putfield idx, 3)) (kk : K nc ns (pc + 3) lv st (Wd E (wt s o 1 v))) : K nc ns pc lv (.int (J v) :: .ref (E.1 o) :: st) (Wd E s) := by
  obtain ⟨q0, h1, h2⟩ := Wd_at E s ho.mem
  obtain ⟨k, p, l⟩ := o
  obtain ⟨h3, h4, h5⟩ := ho
  cases h3
  refine r_put g in_Entries rfl tyX1 tyX1_ok nmX1 q0 h2 1 (by decide) rfl (by decide +kernel) (Nat.le_of_ble_eq_true rfl) hl0 d ?_
  rw [Wd_set E (s' := wt s (6, p, l) 1 v) h1 (fun o' h => wt_ne o' h)]
  · exact kk
  · simp [cell, wt]
theorem in_Entry : ∀ w ∈ u_ws RX2 TX2 5, w ∈ lw_G := by decide +kernel
theorem recv_Entry {o : u_O} (h : is_Entry o) : Recv (Wd E s) (E.1 o) RX2 := by
  obtain ⟨q0, h1, h2⟩ := Wd_at E s h.mem
  obtain ⟨k, p, l⟩ := o
  obtain ⟨h3, h4, h5⟩ := h
  cases h3
  exact ⟨q0, 2, _, _, rfl, rfl, h2⟩
theorem g_Entry_line (g : Wk0 l (XE E) R cc nL own nm K) {o : u_O} (ho : is_Entry o) {idx : Nat} (hl0 : Cond.fieldLink own idx (TX2 0).1 (TX2 0).2.1 (TX2 0).2.2.1 ∈ lw_G) (d : decode cc pc = .ok (.getfield idx, 3)) (kk : K nc ns (pc + 3) lv (.int (J (rd s o 0)) :: st) (Wd E s)) : K nc ns pc lv (.ref (E.1 o) :: st) (Wd E s) := by
  obtain ⟨q0, h1, h2⟩ := Wd_at E s ho.mem
  obtain ⟨k, p, l⟩ := o
  obtain ⟨h3, h4, h5⟩ := ho
  cases h3
  rw [J_rd] at kk
  exact r_get g in_Entry rfl q0 h2 0 (by decide) rfl hl0 d kk
theorem p_Entry_line (g : Wk0 l (XE E) R cc nL own nm K) {o : u_O} (ho : is_Entry o) {v : Int} {idx : Nat} (hl0 : Cond.fieldLink own idx (TX2 0).1 (TX2 0).2.1 (TX2 0).2.2.1 ∈ lw_G) (d : decode cc pc = .ok (.putfield idx, 3)) (kk : K nc ns (pc + 3) lv st (Wd E (wt s o 0 v))) : K nc ns pc lv (.int (J v) :: .ref (E.1 o) :: st) (Wd E s) := by
  obtain ⟨q0, h1, h2⟩ := Wd_at E s ho.mem
  obtain ⟨k, p, l⟩ := o
  obtain ⟨h3, h4, h5⟩ := ho
  cases h3
  refine r_put g in_Entry rfl tyX2 tyX2_ok nmX2 q0 h2 0 (by decide) rfl (by decide +kernel) (Nat.le_of_ble_eq_true rfl) hl0 d ?_
  rw [Wd_set E (s' := wt s (8, p, l) 0 v) h1 (fun o' h => wt_ne o' h)]
  · exact kk
  · simp [cell, wt]
theorem g_Entry_form (g : Wk0 l (XE E) R cc nL own nm K) {o : u_O} (ho : is_Entry o) {idx : Nat} (hl0 : Cond.fieldLink own idx (TX2 1).1 (TX2 1).2.1 (TX2 1).2.2.1 ∈ lw_G) (d : decode cc pc = .ok (.getfield idx, 3)) (kk : K nc ns (pc + 3) lv (.int (J (rd s o 1)) :: st) (Wd E s)) : K nc ns pc lv (.ref (E.1 o) :: st) (Wd E s) := by
  obtain ⟨q0, h1, h2⟩ := Wd_at E s ho.mem
  obtain ⟨k, p, l⟩ := o
  obtain ⟨h3, h4, h5⟩ := ho
  cases h3
  rw [J_rd] at kk
  exact r_get g in_Entry rfl q0 h2 1 (by decide) rfl hl0 d kk
theorem p_Entry_form (g : Wk0 l (XE E) R cc nL own nm K) {o : u_O} (ho : is_Entry o) {v : Int} {idx : Nat} (hl0 : Cond.fieldLink own idx (TX2 1).1 (TX2 1).2.1 (TX2 1).2.2.1 ∈ lw_G) (d : decode cc pc = .ok (.putfield idx, 3)) (kk : K nc ns (pc + 3) lv st (Wd E (wt s o 1 v))) : K nc ns pc lv (.int (J v) :: .ref (E.1 o) :: st) (Wd E s) := by
  obtain ⟨q0, h1, h2⟩ := Wd_at E s ho.mem
  obtain ⟨k, p, l⟩ := o
  obtain ⟨h3, h4, h5⟩ := ho
  cases h3
  refine r_put g in_Entry rfl tyX2 tyX2_ok nmX2 q0 h2 1 (by decide) rfl (by decide +kernel) (Nat.le_of_ble_eq_true rfl) hl0 d ?_
  rw [Wd_set E (s' := wt s (8, p, l) 1 v) h1 (fun o' h => wt_ne o' h)]
  · exact kk
  · simp [cell, wt]
theorem g_Entry_move (g : Wk0 l (XE E) R cc nL own nm K) {o : u_O} (ho : is_Entry o) {idx : Nat} (hl0 : Cond.fieldLink own idx (TX2 2).1 (TX2 2).2.1 (TX2 2).2.2.1 ∈ lw_G) (d : decode cc pc = .ok (.getfield idx, 3)) (kk : K nc ns (pc + 3) lv (.int (J (rd s o 2)) :: st) (Wd E s)) : K nc ns pc lv (.ref (E.1 o) :: st) (Wd E s) := by
  obtain ⟨q0, h1, h2⟩ := Wd_at E s ho.mem
  obtain ⟨k, p, l⟩ := o
  obtain ⟨h3, h4, h5⟩ := ho
  cases h3
  rw [J_rd] at kk
  exact r_get g in_Entry rfl q0 h2 2 (by decide) rfl hl0 d kk
theorem p_Entry_move (g : Wk0 l (XE E) R cc nL own nm K) {o : u_O} (ho : is_Entry o) {v : Int} {idx : Nat} (hl0 : Cond.fieldLink own idx (TX2 2).1 (TX2 2).2.1 (TX2 2).2.2.1 ∈ lw_G) (d : decode cc pc = .ok (.putfield idx, 3)) (kk : K nc ns (pc + 3) lv st (Wd E (wt s o 2 v))) : K nc ns pc lv (.int (J v) :: .ref (E.1 o) :: st) (Wd E s) := by
  obtain ⟨q0, h1, h2⟩ := Wd_at E s ho.mem
  obtain ⟨k, p, l⟩ := o
  obtain ⟨h3, h4, h5⟩ := ho
  cases h3
  refine r_put g in_Entry rfl tyX2 tyX2_ok nmX2 q0 h2 2 (by decide) rfl (by decide +kernel) (Nat.le_of_ble_eq_true rfl) hl0 d ?_
  rw [Wd_set E (s' := wt s (8, p, l) 2 v) h1 (fun o' h => wt_ne o' h)]
  · exact kk
  · simp [cell, wt]
theorem g_Entry_start (g : Wk0 l (XE E) R cc nL own nm K) {o : u_O} (ho : is_Entry o) {idx : Nat} (hl0 : Cond.fieldLink own idx (TX2 3).1 (TX2 3).2.1 (TX2 3).2.2.1 ∈ lw_G) (d : decode cc pc = .ok (.getfield idx, 3)) (kk : K nc ns (pc + 3) lv (.int (J (rd s o 3)) :: st) (Wd E s)) : K nc ns pc lv (.ref (E.1 o) :: st) (Wd E s) := by
  obtain ⟨q0, h1, h2⟩ := Wd_at E s ho.mem
  obtain ⟨k, p, l⟩ := o
  obtain ⟨h3, h4, h5⟩ := ho
  cases h3
  rw [J_rd] at kk
  exact r_get g in_Entry rfl q0 h2 3 (by decide) rfl hl0 d kk
theorem p_Entry_start (g : Wk0 l (XE E) R cc nL own nm K) {o : u_O} (ho : is_Entry o) {v : Int} {idx : Nat} (hl0 : Cond.fieldLink own idx (TX2 3).1 (TX2 3).2.1 (TX2 3).2.2.1 ∈ lw_G) (d : decode cc pc = .ok (.putfield idx, 3)) (kk : K nc ns (pc + 3) lv st (Wd E (wt s o 3 v))) : K nc ns pc lv (.int (J v) :: .ref (E.1 o) :: st) (Wd E s) := by
  obtain ⟨q0, h1, h2⟩ := Wd_at E s ho.mem
  obtain ⟨k, p, l⟩ := o
  obtain ⟨h3, h4, h5⟩ := ho
  cases h3
  refine r_put g in_Entry rfl tyX2 tyX2_ok nmX2 q0 h2 3 (by decide) rfl (by decide +kernel) (Nat.le_of_ble_eq_true rfl) hl0 d ?_
  rw [Wd_set E (s' := wt s (8, p, l) 3 v) h1 (fun o' h => wt_ne o' h)]
  · exact kk
  · simp [cell, wt]
theorem g_Entry_voice (g : Wk0 l (XE E) R cc nL own nm K) {o : u_O} (ho : is_Entry o) {idx : Nat} (hl0 : Cond.fieldLink own idx (TX2 4).1 (TX2 4).2.1 (TX2 4).2.2.1 ∈ lw_G) (d : decode cc pc = .ok (.getfield idx, 3)) (kk : K nc ns (pc + 3) lv (.int (J (rd s o 4)) :: st) (Wd E s)) : K nc ns pc lv (.ref (E.1 o) :: st) (Wd E s) := by
  obtain ⟨q0, h1, h2⟩ := Wd_at E s ho.mem
  obtain ⟨k, p, l⟩ := o
  obtain ⟨h3, h4, h5⟩ := ho
  cases h3
  rw [J_rd] at kk
  exact r_get g in_Entry rfl q0 h2 4 (by decide) rfl hl0 d kk
theorem p_Entry_voice (g : Wk0 l (XE E) R cc nL own nm K) {o : u_O} (ho : is_Entry o) {v : Int} {idx : Nat} (hl0 : Cond.fieldLink own idx (TX2 4).1 (TX2 4).2.1 (TX2 4).2.2.1 ∈ lw_G) (d : decode cc pc = .ok (.putfield idx, 3)) (kk : K nc ns (pc + 3) lv st (Wd E (wt s o 4 v))) : K nc ns pc lv (.int (J v) :: .ref (E.1 o) :: st) (Wd E s) := by
  obtain ⟨q0, h1, h2⟩ := Wd_at E s ho.mem
  obtain ⟨k, p, l⟩ := o
  obtain ⟨h3, h4, h5⟩ := ho
  cases h3
  refine r_put g in_Entry rfl tyX2 tyX2_ok nmX2 q0 h2 4 (by decide) rfl (by decide +kernel) (Nat.le_of_ble_eq_true rfl) hl0 d ?_
  rw [Wd_set E (s' := wt s (8, p, l) 4 v) h1 (fun o' h => wt_ne o' h)]
  · exact kk
  · simp [cell, wt]
theorem in_History : ∀ w ∈ u_ws RX4 TX4 3, w ∈ lw_G := by decide +kernel
theorem recv_History {o : u_O} (h : is_History o) : Recv (Wd E s) (E.1 o) RX4 := by
  obtain ⟨q0, h1, h2⟩ := Wd_at E s h.mem
  obtain ⟨k, p, l⟩ := o
  obtain ⟨h3, h4, h5⟩ := h
  cases h3
  exact ⟨q0, 4, _, _, rfl, rfl, h2⟩
theorem g_History_kept (g : Wk0 l (XE E) R cc nL own nm K) {o : u_O} (ho : is_History o) {idx : Nat} (hl0 : Cond.fieldLink own idx (TX4 0).1 (TX4 0).2.1 (TX4 0).2.2.1 ∈ lw_G) (d : decode cc pc = .ok (.getfield idx, 3)) (kk : K nc ns (pc + 3) lv (.ref (E.1 (a_History_kept o)) :: st) (Wd E s)) : K nc ns pc lv (.ref (E.1 o) :: st) (Wd E s) := by
  obtain ⟨q0, h1, h2⟩ := Wd_at E s ho.mem
  obtain ⟨k, p, l⟩ := o
  obtain ⟨h3, h4, h5⟩ := ho
  cases h3
  exact r_get g in_History rfl q0 h2 0 (by decide) rfl hl0 d kk
theorem g_History_newest (g : Wk0 l (XE E) R cc nL own nm K) {o : u_O} (ho : is_History o) {idx : Nat} (hl0 : Cond.fieldLink own idx (TX4 1).1 (TX4 1).2.1 (TX4 1).2.2.1 ∈ lw_G) (d : decode cc pc = .ok (.getfield idx, 3)) (kk : K nc ns (pc + 3) lv (.int (J (rd s o 1)) :: st) (Wd E s)) : K nc ns pc lv (.ref (E.1 o) :: st) (Wd E s) := by
  obtain ⟨q0, h1, h2⟩ := Wd_at E s ho.mem
  obtain ⟨k, p, l⟩ := o
  obtain ⟨h3, h4, h5⟩ := ho
  cases h3
  rw [J_rd] at kk
  exact r_get g in_History rfl q0 h2 1 (by decide) rfl hl0 d kk
theorem p_History_newest (g : Wk0 l (XE E) R cc nL own nm K) {o : u_O} (ho : is_History o) {v : Int} {idx : Nat} (hl0 : Cond.fieldLink own idx (TX4 1).1 (TX4 1).2.1 (TX4 1).2.2.1 ∈ lw_G) (d : decode cc pc = .ok (.putfield idx, 3)) (kk : K nc ns (pc + 3) lv st (Wd E (wt s o 1 v))) : K nc ns pc lv (.int (J v) :: .ref (E.1 o) :: st) (Wd E s) := by
  obtain ⟨q0, h1, h2⟩ := Wd_at E s ho.mem
  obtain ⟨k, p, l⟩ := o
  obtain ⟨h3, h4, h5⟩ := ho
  cases h3
  refine r_put g in_History rfl tyX4 tyX4_ok nmX4 q0 h2 1 (by decide) rfl (by decide +kernel) (Nat.le_of_ble_eq_true rfl) hl0 d ?_
  rw [Wd_set E (s' := wt s (10, p, l) 1 v) h1 (fun o' h => wt_ne o' h)]
  · exact kk
  · simp [cell, wt]
theorem g_History_count (g : Wk0 l (XE E) R cc nL own nm K) {o : u_O} (ho : is_History o) {idx : Nat} (hl0 : Cond.fieldLink own idx (TX4 2).1 (TX4 2).2.1 (TX4 2).2.2.1 ∈ lw_G) (d : decode cc pc = .ok (.getfield idx, 3)) (kk : K nc ns (pc + 3) lv (.int (J (rd s o 2)) :: st) (Wd E s)) : K nc ns pc lv (.ref (E.1 o) :: st) (Wd E s) := by
  obtain ⟨q0, h1, h2⟩ := Wd_at E s ho.mem
  obtain ⟨k, p, l⟩ := o
  obtain ⟨h3, h4, h5⟩ := ho
  cases h3
  rw [J_rd] at kk
  exact r_get g in_History rfl q0 h2 2 (by decide) rfl hl0 d kk
theorem p_History_count (g : Wk0 l (XE E) R cc nL own nm K) {o : u_O} (ho : is_History o) {v : Int} {idx : Nat} (hl0 : Cond.fieldLink own idx (TX4 2).1 (TX4 2).2.1 (TX4 2).2.2.1 ∈ lw_G) (d : decode cc pc = .ok (.putfield idx, 3)) (kk : K nc ns (pc + 3) lv st (Wd E (wt s o 2 v))) : K nc ns pc lv (.int (J v) :: .ref (E.1 o) :: st) (Wd E s) := by
  obtain ⟨q0, h1, h2⟩ := Wd_at E s ho.mem
  obtain ⟨k, p, l⟩ := o
  obtain ⟨h3, h4, h5⟩ := ho
  cases h3
  refine r_put g in_History rfl tyX4 tyX4_ok nmX4 q0 h2 2 (by decide) rfl (by decide +kernel) (Nat.le_of_ble_eq_true rfl) hl0 d ?_
  rw [Wd_set E (s' := wt s (10, p, l) 2 v) h1 (fun o' h => wt_ne o' h)]
  · exact kk
  · simp [cell, wt]
theorem in_Reader : ∀ w ∈ u_ws RX7 TX7 9, w ∈ lw_G := by decide +kernel
theorem recv_Reader {o : u_O} (h : is_Reader o) : Recv (Wd E s) (E.1 o) RX7 := by
  obtain ⟨q0, h1, h2⟩ := Wd_at E s h.mem
  obtain ⟨k, p, l⟩ := o
  obtain ⟨h3, h4, h5⟩ := h
  cases h3
  exact ⟨q0, 7, _, _, rfl, rfl, h2⟩
theorem g_Reader_bytes (g : Wk0 l (XE E) R cc nL own nm K) {o : u_O} (ho : is_Reader o) {idx : Nat} (hl0 : Cond.fieldLink own idx (TX7 0).1 (TX7 0).2.1 (TX7 0).2.2.1 ∈ lw_G) (d : decode cc pc = .ok (.getfield idx, 3)) (kk : K nc ns (pc + 3) lv (.ref (E.1 (a_Reader_bytes o)) :: st) (Wd E s)) : K nc ns pc lv (.ref (E.1 o) :: st) (Wd E s) := by
  obtain ⟨q0, h1, h2⟩ := Wd_at E s ho.mem
  obtain ⟨k, p, l⟩ := o
  obtain ⟨h3, h4, h5⟩ := ho
  cases h3
  exact r_get g in_Reader rfl q0 h2 0 (by decide) rfl hl0 d kk
theorem g_Reader_letters (g : Wk0 l (XE E) R cc nL own nm K) {o : u_O} (ho : is_Reader o) {idx : Nat} (hl0 : Cond.fieldLink own idx (TX7 1).1 (TX7 1).2.1 (TX7 1).2.2.1 ∈ lw_G) (d : decode cc pc = .ok (.getfield idx, 3)) (kk : K nc ns (pc + 3) lv (.ref (E.1 (a_Reader_letters o)) :: st) (Wd E s)) : K nc ns pc lv (.ref (E.1 o) :: st) (Wd E s) := by
  obtain ⟨q0, h1, h2⟩ := Wd_at E s ho.mem
  obtain ⟨k, p, l⟩ := o
  obtain ⟨h3, h4, h5⟩ := ho
  cases h3
  exact r_get g in_Reader rfl q0 h2 1 (by decide) rfl hl0 d kk
theorem g_Reader_starts (g : Wk0 l (XE E) R cc nL own nm K) {o : u_O} (ho : is_Reader o) {idx : Nat} (hl0 : Cond.fieldLink own idx (TX7 2).1 (TX7 2).2.1 (TX7 2).2.2.1 ∈ lw_G) (d : decode cc pc = .ok (.getfield idx, 3)) (kk : K nc ns (pc + 3) lv (.ref (E.1 (a_Reader_starts o)) :: st) (Wd E s)) : K nc ns pc lv (.ref (E.1 o) :: st) (Wd E s) := by
  obtain ⟨q0, h1, h2⟩ := Wd_at E s ho.mem
  obtain ⟨k, p, l⟩ := o
  obtain ⟨h3, h4, h5⟩ := ho
  cases h3
  exact r_get g in_Reader rfl q0 h2 2 (by decide) rfl hl0 d kk
theorem g_Reader_numbers (g : Wk0 l (XE E) R cc nL own nm K) {o : u_O} (ho : is_Reader o) {idx : Nat} (hl0 : Cond.fieldLink own idx (TX7 3).1 (TX7 3).2.1 (TX7 3).2.2.1 ∈ lw_G) (d : decode cc pc = .ok (.getfield idx, 3)) (kk : K nc ns (pc + 3) lv (.ref (E.1 (a_Reader_numbers o)) :: st) (Wd E s)) : K nc ns pc lv (.ref (E.1 o) :: st) (Wd E s) := by
  obtain ⟨q0, h1, h2⟩ := Wd_at E s ho.mem
  obtain ⟨k, p, l⟩ := o
  obtain ⟨h3, h4, h5⟩ := ho
  cases h3
  exact r_get g in_Reader rfl q0 h2 3 (by decide) rfl hl0 d kk
theorem g_Reader_length (g : Wk0 l (XE E) R cc nL own nm K) {o : u_O} (ho : is_Reader o) {idx : Nat} (hl0 : Cond.fieldLink own idx (TX7 4).1 (TX7 4).2.1 (TX7 4).2.2.1 ∈ lw_G) (d : decode cc pc = .ok (.getfield idx, 3)) (kk : K nc ns (pc + 3) lv (.int (J (rd s o 4)) :: st) (Wd E s)) : K nc ns pc lv (.ref (E.1 o) :: st) (Wd E s) := by
  obtain ⟨q0, h1, h2⟩ := Wd_at E s ho.mem
  obtain ⟨k, p, l⟩ := o
  obtain ⟨h3, h4, h5⟩ := ho
  cases h3
  rw [J_rd] at kk
  exact r_get g in_Reader rfl q0 h2 4 (by decide) rfl hl0 d kk
theorem p_Reader_length (g : Wk0 l (XE E) R cc nL own nm K) {o : u_O} (ho : is_Reader o) {v : Int} {idx : Nat} (hl0 : Cond.fieldLink own idx (TX7 4).1 (TX7 4).2.1 (TX7 4).2.2.1 ∈ lw_G) (d : decode cc pc = .ok (.putfield idx, 3)) (kk : K nc ns (pc + 3) lv st (Wd E (wt s o 4 v))) : K nc ns pc lv (.int (J v) :: .ref (E.1 o) :: st) (Wd E s) := by
  obtain ⟨q0, h1, h2⟩ := Wd_at E s ho.mem
  obtain ⟨k, p, l⟩ := o
  obtain ⟨h3, h4, h5⟩ := ho
  cases h3
  refine r_put g in_Reader rfl tyX7 tyX7_ok nmX7 q0 h2 4 (by decide) rfl (by decide +kernel) (Nat.le_of_ble_eq_true rfl) hl0 d ?_
  rw [Wd_set E (s' := wt s (12, p, l) 4 v) h1 (fun o' h => wt_ne o' h)]
  · exact kk
  · simp [cell, wt]
theorem g_Reader_orders (g : Wk0 l (XE E) R cc nL own nm K) {o : u_O} (ho : is_Reader o) {idx : Nat} (hl0 : Cond.fieldLink own idx (TX7 5).1 (TX7 5).2.1 (TX7 5).2.2.1 ∈ lw_G) (d : decode cc pc = .ok (.getfield idx, 3)) (kk : K nc ns (pc + 3) lv (.int (J (rd s o 5)) :: st) (Wd E s)) : K nc ns pc lv (.ref (E.1 o) :: st) (Wd E s) := by
  obtain ⟨q0, h1, h2⟩ := Wd_at E s ho.mem
  obtain ⟨k, p, l⟩ := o
  obtain ⟨h3, h4, h5⟩ := ho
  cases h3
  rw [J_rd] at kk
  exact r_get g in_Reader rfl q0 h2 5 (by decide) rfl hl0 d kk
theorem p_Reader_orders (g : Wk0 l (XE E) R cc nL own nm K) {o : u_O} (ho : is_Reader o) {v : Int} {idx : Nat} (hl0 : Cond.fieldLink own idx (TX7 5).1 (TX7 5).2.1 (TX7 5).2.2.1 ∈ lw_G) (d : decode cc pc = .ok (.putfield idx, 3)) (kk : K nc ns (pc + 3) lv st (Wd E (wt s o 5 v))) : K nc ns pc lv (.int (J v) :: .ref (E.1 o) :: st) (Wd E s) := by
  obtain ⟨q0, h1, h2⟩ := Wd_at E s ho.mem
  obtain ⟨k, p, l⟩ := o
  obtain ⟨h3, h4, h5⟩ := ho
  cases h3
  refine r_put g in_Reader rfl tyX7 tyX7_ok nmX7 q0 h2 5 (by decide) rfl (by decide +kernel) (Nat.le_of_ble_eq_true rfl) hl0 d ?_
  rw [Wd_set E (s' := wt s (12, p, l) 5 v) h1 (fun o' h => wt_ne o' h)]
  · exact kk
  · simp [cell, wt]
theorem g_Reader_numberCount (g : Wk0 l (XE E) R cc nL own nm K) {o : u_O} (ho : is_Reader o) {idx : Nat} (hl0 : Cond.fieldLink own idx (TX7 6).1 (TX7 6).2.1 (TX7 6).2.2.1 ∈ lw_G) (d : decode cc pc = .ok (.getfield idx, 3)) (kk : K nc ns (pc + 3) lv (.int (J (rd s o 6)) :: st) (Wd E s)) : K nc ns pc lv (.ref (E.1 o) :: st) (Wd E s) := by
  obtain ⟨q0, h1, h2⟩ := Wd_at E s ho.mem
  obtain ⟨k, p, l⟩ := o
  obtain ⟨h3, h4, h5⟩ := ho
  cases h3
  rw [J_rd] at kk
  exact r_get g in_Reader rfl q0 h2 6 (by decide) rfl hl0 d kk
theorem p_Reader_numberCount (g : Wk0 l (XE E) R cc nL own nm K) {o : u_O} (ho : is_Reader o) {v : Int} {idx : Nat} (hl0 : Cond.fieldLink own idx (TX7 6).1 (TX7 6).2.1 (TX7 6).2.2.1 ∈ lw_G) (d : decode cc pc = .ok (.putfield idx, 3)) (kk : K nc ns (pc + 3) lv st (Wd E (wt s o 6 v))) : K nc ns pc lv (.int (J v) :: .ref (E.1 o) :: st) (Wd E s) := by
  obtain ⟨q0, h1, h2⟩ := Wd_at E s ho.mem
  obtain ⟨k, p, l⟩ := o
  obtain ⟨h3, h4, h5⟩ := ho
  cases h3
  refine r_put g in_Reader rfl tyX7 tyX7_ok nmX7 q0 h2 6 (by decide) rfl (by decide +kernel) (Nat.le_of_ble_eq_true rfl) hl0 d ?_
  rw [Wd_set E (s' := wt s (12, p, l) 6 v) h1 (fun o' h => wt_ne o' h)]
  · exact kk
  · simp [cell, wt]
theorem g_Reader_place (g : Wk0 l (XE E) R cc nL own nm K) {o : u_O} (ho : is_Reader o) {idx : Nat} (hl0 : Cond.fieldLink own idx (TX7 7).1 (TX7 7).2.1 (TX7 7).2.2.1 ∈ lw_G) (d : decode cc pc = .ok (.getfield idx, 3)) (kk : K nc ns (pc + 3) lv (.int (J (rd s o 7)) :: st) (Wd E s)) : K nc ns pc lv (.ref (E.1 o) :: st) (Wd E s) := by
  obtain ⟨q0, h1, h2⟩ := Wd_at E s ho.mem
  obtain ⟨k, p, l⟩ := o
  obtain ⟨h3, h4, h5⟩ := ho
  cases h3
  rw [J_rd] at kk
  exact r_get g in_Reader rfl q0 h2 7 (by decide) rfl hl0 d kk
theorem p_Reader_place (g : Wk0 l (XE E) R cc nL own nm K) {o : u_O} (ho : is_Reader o) {v : Int} {idx : Nat} (hl0 : Cond.fieldLink own idx (TX7 7).1 (TX7 7).2.1 (TX7 7).2.2.1 ∈ lw_G) (d : decode cc pc = .ok (.putfield idx, 3)) (kk : K nc ns (pc + 3) lv st (Wd E (wt s o 7 v))) : K nc ns pc lv (.int (J v) :: .ref (E.1 o) :: st) (Wd E s) := by
  obtain ⟨q0, h1, h2⟩ := Wd_at E s ho.mem
  obtain ⟨k, p, l⟩ := o
  obtain ⟨h3, h4, h5⟩ := ho
  cases h3
  refine r_put g in_Reader rfl tyX7 tyX7_ok nmX7 q0 h2 7 (by decide) rfl (by decide +kernel) (Nat.le_of_ble_eq_true rfl) hl0 d ?_
  rw [Wd_set E (s' := wt s (12, p, l) 7 v) h1 (fun o' h => wt_ne o' h)]
  · exact kk
  · simp [cell, wt]
theorem g_Reader_fault (g : Wk0 l (XE E) R cc nL own nm K) {o : u_O} (ho : is_Reader o) {idx : Nat} (hl0 : Cond.fieldLink own idx (TX7 8).1 (TX7 8).2.1 (TX7 8).2.2.1 ∈ lw_G) (d : decode cc pc = .ok (.getfield idx, 3)) (kk : K nc ns (pc + 3) lv (.int (J (rd s o 8)) :: st) (Wd E s)) : K nc ns pc lv (.ref (E.1 o) :: st) (Wd E s) := by
  obtain ⟨q0, h1, h2⟩ := Wd_at E s ho.mem
  obtain ⟨k, p, l⟩ := o
  obtain ⟨h3, h4, h5⟩ := ho
  cases h3
  rw [J_rd] at kk
  exact r_get g in_Reader rfl q0 h2 8 (by decide) rfl hl0 d kk
theorem p_Reader_fault (g : Wk0 l (XE E) R cc nL own nm K) {o : u_O} (ho : is_Reader o) {v : Int} {idx : Nat} (hl0 : Cond.fieldLink own idx (TX7 8).1 (TX7 8).2.1 (TX7 8).2.2.1 ∈ lw_G) (d : decode cc pc = .ok (.putfield idx, 3)) (kk : K nc ns (pc + 3) lv st (Wd E (wt s o 8 v))) : K nc ns pc lv (.int (J v) :: .ref (E.1 o) :: st) (Wd E s) := by
  obtain ⟨q0, h1, h2⟩ := Wd_at E s ho.mem
  obtain ⟨k, p, l⟩ := o
  obtain ⟨h3, h4, h5⟩ := ho
  cases h3
  refine r_put g in_Reader rfl tyX7 tyX7_ok nmX7 q0 h2 8 (by decide) rfl (by decide +kernel) (Nat.le_of_ble_eq_true rfl) hl0 d ?_
  rw [Wd_set E (s' := wt s (12, p, l) 8 v) h1 (fun o' h => wt_ne o' h)]
  · exact kk
  · simp [cell, wt]
theorem in_Sound : ∀ w ∈ u_ws RX8 TX8 4, w ∈ lw_G := by decide +kernel
theorem recv_Sound {o : u_O} (h : is_Sound o) : Recv (Wd E s) (E.1 o) RX8 := by
  obtain ⟨q0, h1, h2⟩ := Wd_at E s h.mem
  obtain ⟨k, p, l⟩ := o
  obtain ⟨h3, h4, h5⟩ := h
  cases h3
  exact ⟨q0, 8, _, _, rfl, rfl, h2⟩
theorem g_Sound_steps (g : Wk0 l (XE E) R cc nL own nm K) {o : u_O} (ho : is_Sound o) {idx : Nat} (hl0 : Cond.fieldLink own idx (TX8 0).1 (TX8 0).2.1 (TX8 0).2.2.1 ∈ lw_G) (d : decode cc pc = .ok (.getfield idx, 3)) (kk : K nc ns (pc + 3) lv (.ref (E.1 (a_Sound_steps o)) :: st) (Wd E s)) : K nc ns pc lv (.ref (E.1 o) :: st) (Wd E s) := by
  obtain ⟨q0, h1, h2⟩ := Wd_at E s ho.mem
  obtain ⟨k, p, l⟩ := o
  obtain ⟨h3, h4, h5⟩ := ho
  cases h3
  exact r_get g in_Sound rfl q0 h2 0 (by decide) rfl hl0 d kk
theorem g_Sound_length (g : Wk0 l (XE E) R cc nL own nm K) {o : u_O} (ho : is_Sound o) {idx : Nat} (hl0 : Cond.fieldLink own idx (TX8 1).1 (TX8 1).2.1 (TX8 1).2.2.1 ∈ lw_G) (d : decode cc pc = .ok (.getfield idx, 3)) (kk : K nc ns (pc + 3) lv (.int (J (rd s o 1)) :: st) (Wd E s)) : K nc ns pc lv (.ref (E.1 o) :: st) (Wd E s) := by
  obtain ⟨q0, h1, h2⟩ := Wd_at E s ho.mem
  obtain ⟨k, p, l⟩ := o
  obtain ⟨h3, h4, h5⟩ := ho
  cases h3
  rw [J_rd] at kk
  exact r_get g in_Sound rfl q0 h2 1 (by decide) rfl hl0 d kk
theorem p_Sound_length (g : Wk0 l (XE E) R cc nL own nm K) {o : u_O} (ho : is_Sound o) {v : Int} {idx : Nat} (hl0 : Cond.fieldLink own idx (TX8 1).1 (TX8 1).2.1 (TX8 1).2.2.1 ∈ lw_G) (d : decode cc pc = .ok (.putfield idx, 3)) (kk : K nc ns (pc + 3) lv st (Wd E (wt s o 1 v))) : K nc ns pc lv (.int (J v) :: .ref (E.1 o) :: st) (Wd E s) := by
  obtain ⟨q0, h1, h2⟩ := Wd_at E s ho.mem
  obtain ⟨k, p, l⟩ := o
  obtain ⟨h3, h4, h5⟩ := ho
  cases h3
  refine r_put g in_Sound rfl tyX8 tyX8_ok nmX8 q0 h2 1 (by decide) rfl (by decide +kernel) (Nat.le_of_ble_eq_true rfl) hl0 d ?_
  rw [Wd_set E (s' := wt s (14, p, l) 1 v) h1 (fun o' h => wt_ne o' h)]
  · exact kk
  · simp [cell, wt]
theorem g_Sound_start (g : Wk0 l (XE E) R cc nL own nm K) {o : u_O} (ho : is_Sound o) {idx : Nat} (hl0 : Cond.fieldLink own idx (TX8 2).1 (TX8 2).2.1 (TX8 2).2.2.1 ∈ lw_G) (d : decode cc pc = .ok (.getfield idx, 3)) (kk : K nc ns (pc + 3) lv (.int (J (rd s o 2)) :: st) (Wd E s)) : K nc ns pc lv (.ref (E.1 o) :: st) (Wd E s) := by
  obtain ⟨q0, h1, h2⟩ := Wd_at E s ho.mem
  obtain ⟨k, p, l⟩ := o
  obtain ⟨h3, h4, h5⟩ := ho
  cases h3
  rw [J_rd] at kk
  exact r_get g in_Sound rfl q0 h2 2 (by decide) rfl hl0 d kk
theorem p_Sound_start (g : Wk0 l (XE E) R cc nL own nm K) {o : u_O} (ho : is_Sound o) {v : Int} {idx : Nat} (hl0 : Cond.fieldLink own idx (TX8 2).1 (TX8 2).2.1 (TX8 2).2.2.1 ∈ lw_G) (d : decode cc pc = .ok (.putfield idx, 3)) (kk : K nc ns (pc + 3) lv st (Wd E (wt s o 2 v))) : K nc ns pc lv (.int (J v) :: .ref (E.1 o) :: st) (Wd E s) := by
  obtain ⟨q0, h1, h2⟩ := Wd_at E s ho.mem
  obtain ⟨k, p, l⟩ := o
  obtain ⟨h3, h4, h5⟩ := ho
  cases h3
  refine r_put g in_Sound rfl tyX8 tyX8_ok nmX8 q0 h2 2 (by decide) rfl (by decide +kernel) (Nat.le_of_ble_eq_true rfl) hl0 d ?_
  rw [Wd_set E (s' := wt s (14, p, l) 2 v) h1 (fun o' h => wt_ne o' h)]
  · exact kk
  · simp [cell, wt]
theorem g_Sound_voice (g : Wk0 l (XE E) R cc nL own nm K) {o : u_O} (ho : is_Sound o) {idx : Nat} (hl0 : Cond.fieldLink own idx (TX8 3).1 (TX8 3).2.1 (TX8 3).2.2.1 ∈ lw_G) (d : decode cc pc = .ok (.getfield idx, 3)) (kk : K nc ns (pc + 3) lv (.int (J (rd s o 3)) :: st) (Wd E s)) : K nc ns pc lv (.ref (E.1 o) :: st) (Wd E s) := by
  obtain ⟨q0, h1, h2⟩ := Wd_at E s ho.mem
  obtain ⟨k, p, l⟩ := o
  obtain ⟨h3, h4, h5⟩ := ho
  cases h3
  rw [J_rd] at kk
  exact r_get g in_Sound rfl q0 h2 3 (by decide) rfl hl0 d kk
theorem p_Sound_voice (g : Wk0 l (XE E) R cc nL own nm K) {o : u_O} (ho : is_Sound o) {v : Int} {idx : Nat} (hl0 : Cond.fieldLink own idx (TX8 3).1 (TX8 3).2.1 (TX8 3).2.2.1 ∈ lw_G) (d : decode cc pc = .ok (.putfield idx, 3)) (kk : K nc ns (pc + 3) lv st (Wd E (wt s o 3 v))) : K nc ns pc lv (.int (J v) :: .ref (E.1 o) :: st) (Wd E s) := by
  obtain ⟨q0, h1, h2⟩ := Wd_at E s ho.mem
  obtain ⟨k, p, l⟩ := o
  obtain ⟨h3, h4, h5⟩ := ho
  cases h3
  refine r_put g in_Sound rfl tyX8 tyX8_ok nmX8 q0 h2 3 (by decide) rfl (by decide +kernel) (Nat.le_of_ble_eq_true rfl) hl0 d ?_
  rw [Wd_set E (s' := wt s (14, p, l) 3 v) h1 (fun o' h => wt_ne o' h)]
  · exact kk
  · simp [cell, wt]
theorem in_Faults : ∀ w ∈ u_ws RX3 TX3 3, w ∈ lw_G := by decide +kernel
theorem recv_Faults {o : u_O} (h : is_Faults o) : Recv (Wd E s) (E.1 o) RX3 := by
  obtain ⟨q0, h1, h2⟩ := Wd_at E s h.mem
  obtain ⟨k, p, l⟩ := o
  obtain ⟨h3, h4, h5⟩ := h
  cases h3
  exact ⟨q0, 3, _, _, rfl, rfl, h2⟩
theorem g_Faults_clashes (g : Wk0 l (XE E) R cc nL own nm K) {o : u_O} (ho : is_Faults o) {idx : Nat} (hl0 : Cond.fieldLink own idx (TX3 0).1 (TX3 0).2.1 (TX3 0).2.2.1 ∈ lw_G) (d : decode cc pc = .ok (.getfield idx, 3)) (kk : K nc ns (pc + 3) lv (.int (J (rd s o 0)) :: st) (Wd E s)) : K nc ns pc lv (.ref (E.1 o) :: st) (Wd E s) := by
  obtain ⟨q0, h1, h2⟩ := Wd_at E s ho.mem
  obtain ⟨k, p, l⟩ := o
  obtain ⟨h3, h4, h5⟩ := ho
  cases h3
  rw [J_rd] at kk
  exact r_get g in_Faults rfl q0 h2 0 (by decide) rfl hl0 d kk
theorem p_Faults_clashes (g : Wk0 l (XE E) R cc nL own nm K) {o : u_O} (ho : is_Faults o) {v : Int} {idx : Nat} (hl0 : Cond.fieldLink own idx (TX3 0).1 (TX3 0).2.1 (TX3 0).2.2.1 ∈ lw_G) (d : decode cc pc = .ok (.putfield idx, 3)) (kk : K nc ns (pc + 3) lv st (Wd E (wt s o 0 v))) : K nc ns pc lv (.int (J v) :: .ref (E.1 o) :: st) (Wd E s) := by
  obtain ⟨q0, h1, h2⟩ := Wd_at E s ho.mem
  obtain ⟨k, p, l⟩ := o
  obtain ⟨h3, h4, h5⟩ := ho
  cases h3
  refine r_put g in_Faults rfl tyX3 tyX3_ok nmX3 q0 h2 0 (by decide) rfl (by decide +kernel) (Nat.le_of_ble_eq_true rfl) hl0 d ?_
  rw [Wd_set E (s' := wt s (16, p, l) 0 v) h1 (fun o' h => wt_ne o' h)]
  · exact kk
  · simp [cell, wt]
theorem g_Faults_crossings (g : Wk0 l (XE E) R cc nL own nm K) {o : u_O} (ho : is_Faults o) {idx : Nat} (hl0 : Cond.fieldLink own idx (TX3 1).1 (TX3 1).2.1 (TX3 1).2.2.1 ∈ lw_G) (d : decode cc pc = .ok (.getfield idx, 3)) (kk : K nc ns (pc + 3) lv (.int (J (rd s o 1)) :: st) (Wd E s)) : K nc ns pc lv (.ref (E.1 o) :: st) (Wd E s) := by
  obtain ⟨q0, h1, h2⟩ := Wd_at E s ho.mem
  obtain ⟨k, p, l⟩ := o
  obtain ⟨h3, h4, h5⟩ := ho
  cases h3
  rw [J_rd] at kk
  exact r_get g in_Faults rfl q0 h2 1 (by decide) rfl hl0 d kk
theorem p_Faults_crossings (g : Wk0 l (XE E) R cc nL own nm K) {o : u_O} (ho : is_Faults o) {v : Int} {idx : Nat} (hl0 : Cond.fieldLink own idx (TX3 1).1 (TX3 1).2.1 (TX3 1).2.2.1 ∈ lw_G) (d : decode cc pc = .ok (.putfield idx, 3)) (kk : K nc ns (pc + 3) lv st (Wd E (wt s o 1 v))) : K nc ns pc lv (.int (J v) :: .ref (E.1 o) :: st) (Wd E s) := by
  obtain ⟨q0, h1, h2⟩ := Wd_at E s ho.mem
  obtain ⟨k, p, l⟩ := o
  obtain ⟨h3, h4, h5⟩ := ho
  cases h3
  refine r_put g in_Faults rfl tyX3 tyX3_ok nmX3 q0 h2 1 (by decide) rfl (by decide +kernel) (Nat.le_of_ble_eq_true rfl) hl0 d ?_
  rw [Wd_set E (s' := wt s (16, p, l) 1 v) h1 (fun o' h => wt_ne o' h)]
  · exact kk
  · simp [cell, wt]
theorem g_Faults_parallels (g : Wk0 l (XE E) R cc nL own nm K) {o : u_O} (ho : is_Faults o) {idx : Nat} (hl0 : Cond.fieldLink own idx (TX3 2).1 (TX3 2).2.1 (TX3 2).2.2.1 ∈ lw_G) (d : decode cc pc = .ok (.getfield idx, 3)) (kk : K nc ns (pc + 3) lv (.int (J (rd s o 2)) :: st) (Wd E s)) : K nc ns pc lv (.ref (E.1 o) :: st) (Wd E s) := by
  obtain ⟨q0, h1, h2⟩ := Wd_at E s ho.mem
  obtain ⟨k, p, l⟩ := o
  obtain ⟨h3, h4, h5⟩ := ho
  cases h3
  rw [J_rd] at kk
  exact r_get g in_Faults rfl q0 h2 2 (by decide) rfl hl0 d kk
theorem p_Faults_parallels (g : Wk0 l (XE E) R cc nL own nm K) {o : u_O} (ho : is_Faults o) {v : Int} {idx : Nat} (hl0 : Cond.fieldLink own idx (TX3 2).1 (TX3 2).2.1 (TX3 2).2.2.1 ∈ lw_G) (d : decode cc pc = .ok (.putfield idx, 3)) (kk : K nc ns (pc + 3) lv st (Wd E (wt s o 2 v))) : K nc ns pc lv (.int (J v) :: .ref (E.1 o) :: st) (Wd E s) := by
  obtain ⟨q0, h1, h2⟩ := Wd_at E s ho.mem
  obtain ⟨k, p, l⟩ := o
  obtain ⟨h3, h4, h5⟩ := ho
  cases h3
  refine r_put g in_Faults rfl tyX3 tyX3_ok nmX3 q0 h2 2 (by decide) rfl (by decide +kernel) (Nat.le_of_ble_eq_true rfl) hl0 d ?_
  rw [Wd_set E (s' := wt s (16, p, l) 2 v) h1 (fun o' h => wt_ne o' h)]
  · exact kk
  · simp [cell, wt]
theorem in_Chorus : ∀ w ∈ u_ws RX0 TX0 2, w ∈ lw_G := by decide +kernel
theorem recv_Chorus {o : u_O} (h : is_Chorus o) : Recv (Wd E s) (E.1 o) RX0 := by
  obtain ⟨q0, h1, h2⟩ := Wd_at E s h.mem
  obtain ⟨k, p, l⟩ := o
  obtain ⟨h3, h4, h5⟩ := h
  cases h3
  exact ⟨q0, 0, _, _, rfl, rfl, h2⟩
theorem g_Chorus_items (g : Wk0 l (XE E) R cc nL own nm K) {o : u_O} (ho : is_Chorus o) {idx : Nat} (hl0 : Cond.fieldLink own idx (TX0 0).1 (TX0 0).2.1 (TX0 0).2.2.1 ∈ lw_G) (d : decode cc pc = .ok (.getfield idx, 3)) (kk : K nc ns (pc + 3) lv (.ref (E.1 (a_Chorus_items o)) :: st) (Wd E s)) : K nc ns pc lv (.ref (E.1 o) :: st) (Wd E s) := by
  obtain ⟨q0, h1, h2⟩ := Wd_at E s ho.mem
  obtain ⟨k, p, l⟩ := o
  obtain ⟨h3, h4, h5⟩ := ho
  cases h3
  exact r_get g in_Chorus rfl q0 h2 0 (by decide) rfl hl0 d kk
theorem g_Chorus_count (g : Wk0 l (XE E) R cc nL own nm K) {o : u_O} (ho : is_Chorus o) {idx : Nat} (hl0 : Cond.fieldLink own idx (TX0 1).1 (TX0 1).2.1 (TX0 1).2.2.1 ∈ lw_G) (d : decode cc pc = .ok (.getfield idx, 3)) (kk : K nc ns (pc + 3) lv (.int (J (rd s o 1)) :: st) (Wd E s)) : K nc ns pc lv (.ref (E.1 o) :: st) (Wd E s) := by
  obtain ⟨q0, h1, h2⟩ := Wd_at E s ho.mem
  obtain ⟨k, p, l⟩ := o
  obtain ⟨h3, h4, h5⟩ := ho
  cases h3
  rw [J_rd] at kk
  exact r_get g in_Chorus rfl q0 h2 1 (by decide) rfl hl0 d kk
theorem p_Chorus_count (g : Wk0 l (XE E) R cc nL own nm K) {o : u_O} (ho : is_Chorus o) {v : Int} {idx : Nat} (hl0 : Cond.fieldLink own idx (TX0 1).1 (TX0 1).2.1 (TX0 1).2.2.1 ∈ lw_G) (d : decode cc pc = .ok (.putfield idx, 3)) (kk : K nc ns (pc + 3) lv st (Wd E (wt s o 1 v))) : K nc ns pc lv (.int (J v) :: .ref (E.1 o) :: st) (Wd E s) := by
  obtain ⟨q0, h1, h2⟩ := Wd_at E s ho.mem
  obtain ⟨k, p, l⟩ := o
  obtain ⟨h3, h4, h5⟩ := ho
  cases h3
  refine r_put g in_Chorus rfl tyX0 tyX0_ok nmX0 q0 h2 1 (by decide) rfl (by decide +kernel) (Nat.le_of_ble_eq_true rfl) hl0 d ?_
  rw [Wd_set E (s' := wt s (17, p, l) 1 v) h1 (fun o' h => wt_ne o' h)]
  · exact kk
  · simp [cell, wt]
theorem in_Tour : ∀ w ∈ u_ws RX9 TX9 3, w ∈ lw_G := by decide +kernel
theorem recv_Tour {o : u_O} (h : is_Tour o) : Recv (Wd E s) (E.1 o) RX9 := by
  obtain ⟨q0, h1, h2⟩ := Wd_at E s h.mem
  obtain ⟨k, p, l⟩ := o
  obtain ⟨h3, h4, h5⟩ := h
  cases h3
  exact ⟨q0, 9, _, _, rfl, rfl, h2⟩
theorem g_Tour_best (g : Wk0 l (XE E) R cc nL own nm K) {o : u_O} (ho : is_Tour o) {idx : Nat} (hl0 : Cond.fieldLink own idx (TX9 0).1 (TX9 0).2.1 (TX9 0).2.2.1 ∈ lw_G) (d : decode cc pc = .ok (.getfield idx, 3)) (kk : K nc ns (pc + 3) lv (.ref (E.1 (a_Tour_best o)) :: st) (Wd E s)) : K nc ns pc lv (.ref (E.1 o) :: st) (Wd E s) := by
  obtain ⟨q0, h1, h2⟩ := Wd_at E s ho.mem
  obtain ⟨k, p, l⟩ := o
  obtain ⟨h3, h4, h5⟩ := ho
  cases h3
  exact r_get g in_Tour rfl q0 h2 0 (by decide) rfl hl0 d kk
theorem g_Tour_tried (g : Wk0 l (XE E) R cc nL own nm K) {o : u_O} (ho : is_Tour o) {idx : Nat} (hl0 : Cond.fieldLink own idx (TX9 1).1 (TX9 1).2.1 (TX9 1).2.2.1 ∈ lw_G) (d : decode cc pc = .ok (.getfield idx, 3)) (kk : K nc ns (pc + 3) lv (.ref (E.1 (a_Tour_tried o)) :: st) (Wd E s)) : K nc ns pc lv (.ref (E.1 o) :: st) (Wd E s) := by
  obtain ⟨q0, h1, h2⟩ := Wd_at E s ho.mem
  obtain ⟨k, p, l⟩ := o
  obtain ⟨h3, h4, h5⟩ := ho
  cases h3
  exact r_get g in_Tour rfl q0 h2 1 (by decide) rfl hl0 d kk
theorem g_Tour_length (g : Wk0 l (XE E) R cc nL own nm K) {o : u_O} (ho : is_Tour o) {idx : Nat} (hl0 : Cond.fieldLink own idx (TX9 2).1 (TX9 2).2.1 (TX9 2).2.2.1 ∈ lw_G) (d : decode cc pc = .ok (.getfield idx, 3)) (kk : K nc ns (pc + 3) lv (.int (J (rd s o 2)) :: st) (Wd E s)) : K nc ns pc lv (.ref (E.1 o) :: st) (Wd E s) := by
  obtain ⟨q0, h1, h2⟩ := Wd_at E s ho.mem
  obtain ⟨k, p, l⟩ := o
  obtain ⟨h3, h4, h5⟩ := ho
  cases h3
  rw [J_rd] at kk
  exact r_get g in_Tour rfl q0 h2 2 (by decide) rfl hl0 d kk
theorem p_Tour_length (g : Wk0 l (XE E) R cc nL own nm K) {o : u_O} (ho : is_Tour o) {v : Int} {idx : Nat} (hl0 : Cond.fieldLink own idx (TX9 2).1 (TX9 2).2.1 (TX9 2).2.2.1 ∈ lw_G) (d : decode cc pc = .ok (.putfield idx, 3)) (kk : K nc ns (pc + 3) lv st (Wd E (wt s o 2 v))) : K nc ns pc lv (.int (J v) :: .ref (E.1 o) :: st) (Wd E s) := by
  obtain ⟨q0, h1, h2⟩ := Wd_at E s ho.mem
  obtain ⟨k, p, l⟩ := o
  obtain ⟨h3, h4, h5⟩ := ho
  cases h3
  refine r_put g in_Tour rfl tyX9 tyX9_ok nmX9 q0 h2 2 (by decide) rfl (by decide +kernel) (Nat.le_of_ble_eq_true rfl) hl0 d ?_
  rw [Wd_set E (s' := wt s (20, p, l) 2 v) h1 (fun o' h => wt_ne o' h)]
  · exact kk
  · simp [cell, wt]
theorem in_Mo : ∀ w ∈ u_ws RX11 TX11 21, w ∈ lw_G := by decide +kernel
theorem recv_Mo {o : u_O} (h : is_Mo o) : Recv (Wd E s) (E.1 o) RX11 := by
  obtain ⟨q0, h1, h2⟩ := Wd_at E s h.mem
  obtain ⟨k, p, l⟩ := o
  obtain ⟨h3, h4, h5⟩ := h
  cases h3
  exact ⟨q0, 11, _, _, rfl, rfl, h2⟩
theorem g_Mo_all (g : Wk0 l (XE E) R cc nL own nm K) {o : u_O} (ho : is_Mo o) {idx : Nat} (hl0 : Cond.fieldLink own idx (TX11 0).1 (TX11 0).2.1 (TX11 0).2.2.1 ∈ lw_G) (d : decode cc pc = .ok (.getfield idx, 3)) (kk : K nc ns (pc + 3) lv (.ref (E.1 (a_Mo_all o)) :: st) (Wd E s)) : K nc ns pc lv (.ref (E.1 o) :: st) (Wd E s) := by
  obtain ⟨q0, h1, h2⟩ := Wd_at E s ho.mem
  obtain ⟨k, p, l⟩ := o
  obtain ⟨h3, h4, h5⟩ := ho
  cases h3
  exact r_get g in_Mo rfl q0 h2 0 (by decide) rfl hl0 d kk
theorem g_Mo_past (g : Wk0 l (XE E) R cc nL own nm K) {o : u_O} (ho : is_Mo o) {idx : Nat} (hl0 : Cond.fieldLink own idx (TX11 1).1 (TX11 1).2.1 (TX11 1).2.2.1 ∈ lw_G) (d : decode cc pc = .ok (.getfield idx, 3)) (kk : K nc ns (pc + 3) lv (.ref (E.1 (a_Mo_past o)) :: st) (Wd E s)) : K nc ns pc lv (.ref (E.1 o) :: st) (Wd E s) := by
  obtain ⟨q0, h1, h2⟩ := Wd_at E s ho.mem
  obtain ⟨k, p, l⟩ := o
  obtain ⟨h3, h4, h5⟩ := ho
  cases h3
  exact r_get g in_Mo rfl q0 h2 1 (by decide) rfl hl0 d kk
theorem g_Mo_aside (g : Wk0 l (XE E) R cc nL own nm K) {o : u_O} (ho : is_Mo o) {idx : Nat} (hl0 : Cond.fieldLink own idx (TX11 2).1 (TX11 2).2.1 (TX11 2).2.2.1 ∈ lw_G) (d : decode cc pc = .ok (.getfield idx, 3)) (kk : K nc ns (pc + 3) lv (.ref (E.1 (a_Mo_aside o)) :: st) (Wd E s)) : K nc ns pc lv (.ref (E.1 o) :: st) (Wd E s) := by
  obtain ⟨q0, h1, h2⟩ := Wd_at E s ho.mem
  obtain ⟨k, p, l⟩ := o
  obtain ⟨h3, h4, h5⟩ := ho
  cases h3
  exact r_get g in_Mo rfl q0 h2 2 (by decide) rfl hl0 d kk
theorem g_Mo_states (g : Wk0 l (XE E) R cc nL own nm K) {o : u_O} (ho : is_Mo o) {idx : Nat} (hl0 : Cond.fieldLink own idx (TX11 3).1 (TX11 3).2.1 (TX11 3).2.2.1 ∈ lw_G) (d : decode cc pc = .ok (.getfield idx, 3)) (kk : K nc ns (pc + 3) lv (.int (J (rd s o 3)) :: st) (Wd E s)) : K nc ns pc lv (.ref (E.1 o) :: st) (Wd E s) := by
  obtain ⟨q0, h1, h2⟩ := Wd_at E s ho.mem
  obtain ⟨k, p, l⟩ := o
  obtain ⟨h3, h4, h5⟩ := ho
  cases h3
  rw [J_rd] at kk
  exact r_get g in_Mo rfl q0 h2 3 (by decide) rfl hl0 d kk
theorem p_Mo_states (g : Wk0 l (XE E) R cc nL own nm K) {o : u_O} (ho : is_Mo o) {v : Int} {idx : Nat} (hl0 : Cond.fieldLink own idx (TX11 3).1 (TX11 3).2.1 (TX11 3).2.2.1 ∈ lw_G) (d : decode cc pc = .ok (.putfield idx, 3)) (kk : K nc ns (pc + 3) lv st (Wd E (wt s o 3 v))) : K nc ns pc lv (.int (J v) :: .ref (E.1 o) :: st) (Wd E s) := by
  obtain ⟨q0, h1, h2⟩ := Wd_at E s ho.mem
  obtain ⟨k, p, l⟩ := o
  obtain ⟨h3, h4, h5⟩ := ho
  cases h3
  refine r_put g in_Mo rfl tyX11 tyX11_ok nmX11 q0 h2 3 (by decide) rfl (by decide +kernel) (Nat.le_of_ble_eq_true rfl) hl0 d ?_
  rw [Wd_set E (s' := wt s (23, p, l) 3 v) h1 (fun o' h => wt_ne o' h)]
  · exact kk
  · simp [cell, wt]
theorem g_Mo_refused (g : Wk0 l (XE E) R cc nL own nm K) {o : u_O} (ho : is_Mo o) {idx : Nat} (hl0 : Cond.fieldLink own idx (TX11 4).1 (TX11 4).2.1 (TX11 4).2.2.1 ∈ lw_G) (d : decode cc pc = .ok (.getfield idx, 3)) (kk : K nc ns (pc + 3) lv (.ref (E.1 (a_Mo_refused o)) :: st) (Wd E s)) : K nc ns pc lv (.ref (E.1 o) :: st) (Wd E s) := by
  obtain ⟨q0, h1, h2⟩ := Wd_at E s ho.mem
  obtain ⟨k, p, l⟩ := o
  obtain ⟨h3, h4, h5⟩ := ho
  cases h3
  exact r_get g in_Mo rfl q0 h2 4 (by decide) rfl hl0 d kk
theorem g_Mo_upper (g : Wk0 l (XE E) R cc nL own nm K) {o : u_O} (ho : is_Mo o) {idx : Nat} (hl0 : Cond.fieldLink own idx (TX11 5).1 (TX11 5).2.1 (TX11 5).2.2.1 ∈ lw_G) (d : decode cc pc = .ok (.getfield idx, 3)) (kk : K nc ns (pc + 3) lv (.ref (E.1 (a_Mo_upper o)) :: st) (Wd E s)) : K nc ns pc lv (.ref (E.1 o) :: st) (Wd E s) := by
  obtain ⟨q0, h1, h2⟩ := Wd_at E s ho.mem
  obtain ⟨k, p, l⟩ := o
  obtain ⟨h3, h4, h5⟩ := ho
  cases h3
  exact r_get g in_Mo rfl q0 h2 5 (by decide) rfl hl0 d kk
theorem g_Mo_lower (g : Wk0 l (XE E) R cc nL own nm K) {o : u_O} (ho : is_Mo o) {idx : Nat} (hl0 : Cond.fieldLink own idx (TX11 6).1 (TX11 6).2.1 (TX11 6).2.2.1 ∈ lw_G) (d : decode cc pc = .ok (.getfield idx, 3)) (kk : K nc ns (pc + 3) lv (.ref (E.1 (a_Mo_lower o)) :: st) (Wd E s)) : K nc ns pc lv (.ref (E.1 o) :: st) (Wd E s) := by
  obtain ⟨q0, h1, h2⟩ := Wd_at E s ho.mem
  obtain ⟨k, p, l⟩ := o
  obtain ⟨h3, h4, h5⟩ := ho
  cases h3
  exact r_get g in_Mo rfl q0 h2 6 (by decide) rfl hl0 d kk
theorem g_Mo_counted (g : Wk0 l (XE E) R cc nL own nm K) {o : u_O} (ho : is_Mo o) {idx : Nat} (hl0 : Cond.fieldLink own idx (TX11 7).1 (TX11 7).2.1 (TX11 7).2.2.1 ∈ lw_G) (d : decode cc pc = .ok (.getfield idx, 3)) (kk : K nc ns (pc + 3) lv (.ref (E.1 (a_Mo_counted o)) :: st) (Wd E s)) : K nc ns pc lv (.ref (E.1 o) :: st) (Wd E s) := by
  obtain ⟨q0, h1, h2⟩ := Wd_at E s ho.mem
  obtain ⟨k, p, l⟩ := o
  obtain ⟨h3, h4, h5⟩ := ho
  cases h3
  exact r_get g in_Mo rfl q0 h2 7 (by decide) rfl hl0 d kk
theorem g_Mo_plainRow (g : Wk0 l (XE E) R cc nL own nm K) {o : u_O} (ho : is_Mo o) {idx : Nat} (hl0 : Cond.fieldLink own idx (TX11 8).1 (TX11 8).2.1 (TX11 8).2.2.1 ∈ lw_G) (d : decode cc pc = .ok (.getfield idx, 3)) (kk : K nc ns (pc + 3) lv (.ref (E.1 (a_Mo_plainRow o)) :: st) (Wd E s)) : K nc ns pc lv (.ref (E.1 o) :: st) (Wd E s) := by
  obtain ⟨q0, h1, h2⟩ := Wd_at E s ho.mem
  obtain ⟨k, p, l⟩ := o
  obtain ⟨h3, h4, h5⟩ := ho
  cases h3
  exact r_get g in_Mo rfl q0 h2 8 (by decide) rfl hl0 d kk
theorem g_Mo_formRow (g : Wk0 l (XE E) R cc nL own nm K) {o : u_O} (ho : is_Mo o) {idx : Nat} (hl0 : Cond.fieldLink own idx (TX11 9).1 (TX11 9).2.1 (TX11 9).2.2.1 ∈ lw_G) (d : decode cc pc = .ok (.getfield idx, 3)) (kk : K nc ns (pc + 3) lv (.ref (E.1 (a_Mo_formRow o)) :: st) (Wd E s)) : K nc ns pc lv (.ref (E.1 o) :: st) (Wd E s) := by
  obtain ⟨q0, h1, h2⟩ := Wd_at E s ho.mem
  obtain ⟨k, p, l⟩ := o
  obtain ⟨h3, h4, h5⟩ := ho
  cases h3
  exact r_get g in_Mo rfl q0 h2 9 (by decide) rfl hl0 d kk
theorem g_Mo_bestFaults (g : Wk0 l (XE E) R cc nL own nm K) {o : u_O} (ho : is_Mo o) {idx : Nat} (hl0 : Cond.fieldLink own idx (TX11 10).1 (TX11 10).2.1 (TX11 10).2.2.1 ∈ lw_G) (d : decode cc pc = .ok (.getfield idx, 3)) (kk : K nc ns (pc + 3) lv (.int (J (rd s o 10)) :: st) (Wd E s)) : K nc ns pc lv (.ref (E.1 o) :: st) (Wd E s) := by
  obtain ⟨q0, h1, h2⟩ := Wd_at E s ho.mem
  obtain ⟨k, p, l⟩ := o
  obtain ⟨h3, h4, h5⟩ := ho
  cases h3
  rw [J_rd] at kk
  exact r_get g in_Mo rfl q0 h2 10 (by decide) rfl hl0 d kk
theorem p_Mo_bestFaults (g : Wk0 l (XE E) R cc nL own nm K) {o : u_O} (ho : is_Mo o) {v : Int} {idx : Nat} (hl0 : Cond.fieldLink own idx (TX11 10).1 (TX11 10).2.1 (TX11 10).2.2.1 ∈ lw_G) (d : decode cc pc = .ok (.putfield idx, 3)) (kk : K nc ns (pc + 3) lv st (Wd E (wt s o 10 v))) : K nc ns pc lv (.int (J v) :: .ref (E.1 o) :: st) (Wd E s) := by
  obtain ⟨q0, h1, h2⟩ := Wd_at E s ho.mem
  obtain ⟨k, p, l⟩ := o
  obtain ⟨h3, h4, h5⟩ := ho
  cases h3
  refine r_put g in_Mo rfl tyX11 tyX11_ok nmX11 q0 h2 10 (by decide) rfl (by decide +kernel) (Nat.le_of_ble_eq_true rfl) hl0 d ?_
  rw [Wd_set E (s' := wt s (23, p, l) 10 v) h1 (fun o' h => wt_ne o' h)]
  · exact kk
  · simp [cell, wt]
theorem g_Mo_far (g : Wk0 l (XE E) R cc nL own nm K) {o : u_O} (ho : is_Mo o) {idx : Nat} (hl0 : Cond.fieldLink own idx (TX11 11).1 (TX11 11).2.1 (TX11 11).2.2.1 ∈ lw_G) (d : decode cc pc = .ok (.getfield idx, 3)) (kk : K nc ns (pc + 3) lv (.ref (E.1 (a_Mo_far o)) :: st) (Wd E s)) : K nc ns pc lv (.ref (E.1 o) :: st) (Wd E s) := by
  obtain ⟨q0, h1, h2⟩ := Wd_at E s ho.mem
  obtain ⟨k, p, l⟩ := o
  obtain ⟨h3, h4, h5⟩ := ho
  cases h3
  exact r_get g in_Mo rfl q0 h2 11 (by decide) rfl hl0 d kk
theorem g_Mo_between (g : Wk0 l (XE E) R cc nL own nm K) {o : u_O} (ho : is_Mo o) {idx : Nat} (hl0 : Cond.fieldLink own idx (TX11 12).1 (TX11 12).2.1 (TX11 12).2.2.1 ∈ lw_G) (d : decode cc pc = .ok (.getfield idx, 3)) (kk : K nc ns (pc + 3) lv (.ref (E.1 (a_Mo_between o)) :: st) (Wd E s)) : K nc ns pc lv (.ref (E.1 o) :: st) (Wd E s) := by
  obtain ⟨q0, h1, h2⟩ := Wd_at E s ho.mem
  obtain ⟨k, p, l⟩ := o
  obtain ⟨h3, h4, h5⟩ := ho
  cases h3
  exact r_get g in_Mo rfl q0 h2 12 (by decide) rfl hl0 d kk
theorem g_Mo_bestRow (g : Wk0 l (XE E) R cc nL own nm K) {o : u_O} (ho : is_Mo o) {idx : Nat} (hl0 : Cond.fieldLink own idx (TX11 13).1 (TX11 13).2.1 (TX11 13).2.2.1 ∈ lw_G) (d : decode cc pc = .ok (.getfield idx, 3)) (kk : K nc ns (pc + 3) lv (.ref (E.1 (a_Mo_bestRow o)) :: st) (Wd E s)) : K nc ns pc lv (.ref (E.1 o) :: st) (Wd E s) := by
  obtain ⟨q0, h1, h2⟩ := Wd_at E s ho.mem
  obtain ⟨k, p, l⟩ := o
  obtain ⟨h3, h4, h5⟩ := ho
  cases h3
  exact r_get g in_Mo rfl q0 h2 13 (by decide) rfl hl0 d kk
theorem g_Mo_tried (g : Wk0 l (XE E) R cc nL own nm K) {o : u_O} (ho : is_Mo o) {idx : Nat} (hl0 : Cond.fieldLink own idx (TX11 14).1 (TX11 14).2.1 (TX11 14).2.2.1 ∈ lw_G) (d : decode cc pc = .ok (.getfield idx, 3)) (kk : K nc ns (pc + 3) lv (.ref (E.1 (a_Mo_tried o)) :: st) (Wd E s)) : K nc ns pc lv (.ref (E.1 o) :: st) (Wd E s) := by
  obtain ⟨q0, h1, h2⟩ := Wd_at E s ho.mem
  obtain ⟨k, p, l⟩ := o
  obtain ⟨h3, h4, h5⟩ := ho
  cases h3
  exact r_get g in_Mo rfl q0 h2 14 (by decide) rfl hl0 d kk
theorem g_Mo_text (g : Wk0 l (XE E) R cc nL own nm K) {o : u_O} (ho : is_Mo o) {idx : Nat} (hl0 : Cond.fieldLink own idx (TX11 15).1 (TX11 15).2.1 (TX11 15).2.2.1 ∈ lw_G) (d : decode cc pc = .ok (.getfield idx, 3)) (kk : K nc ns (pc + 3) lv (.ref (E.1 (a_Mo_text o)) :: st) (Wd E s)) : K nc ns pc lv (.ref (E.1 o) :: st) (Wd E s) := by
  obtain ⟨q0, h1, h2⟩ := Wd_at E s ho.mem
  obtain ⟨k, p, l⟩ := o
  obtain ⟨h3, h4, h5⟩ := ho
  cases h3
  exact r_get g in_Mo rfl q0 h2 15 (by decide) rfl hl0 d kk
theorem g_Mo_textLong (g : Wk0 l (XE E) R cc nL own nm K) {o : u_O} (ho : is_Mo o) {idx : Nat} (hl0 : Cond.fieldLink own idx (TX11 16).1 (TX11 16).2.1 (TX11 16).2.2.1 ∈ lw_G) (d : decode cc pc = .ok (.getfield idx, 3)) (kk : K nc ns (pc + 3) lv (.int (J (rd s o 16)) :: st) (Wd E s)) : K nc ns pc lv (.ref (E.1 o) :: st) (Wd E s) := by
  obtain ⟨q0, h1, h2⟩ := Wd_at E s ho.mem
  obtain ⟨k, p, l⟩ := o
  obtain ⟨h3, h4, h5⟩ := ho
  cases h3
  rw [J_rd] at kk
  exact r_get g in_Mo rfl q0 h2 16 (by decide) rfl hl0 d kk
theorem p_Mo_textLong (g : Wk0 l (XE E) R cc nL own nm K) {o : u_O} (ho : is_Mo o) {v : Int} {idx : Nat} (hl0 : Cond.fieldLink own idx (TX11 16).1 (TX11 16).2.1 (TX11 16).2.2.1 ∈ lw_G) (d : decode cc pc = .ok (.putfield idx, 3)) (kk : K nc ns (pc + 3) lv st (Wd E (wt s o 16 v))) : K nc ns pc lv (.int (J v) :: .ref (E.1 o) :: st) (Wd E s) := by
  obtain ⟨q0, h1, h2⟩ := Wd_at E s ho.mem
  obtain ⟨k, p, l⟩ := o
  obtain ⟨h3, h4, h5⟩ := ho
  cases h3
  refine r_put g in_Mo rfl tyX11 tyX11_ok nmX11 q0 h2 16 (by decide) rfl (by decide +kernel) (Nat.le_of_ble_eq_true rfl) hl0 d ?_
  rw [Wd_set E (s' := wt s (23, p, l) 16 v) h1 (fun o' h => wt_ne o' h)]
  · exact kk
  · simp [cell, wt]
theorem g_Mo_place (g : Wk0 l (XE E) R cc nL own nm K) {o : u_O} (ho : is_Mo o) {idx : Nat} (hl0 : Cond.fieldLink own idx (TX11 17).1 (TX11 17).2.1 (TX11 17).2.2.1 ∈ lw_G) (d : decode cc pc = .ok (.getfield idx, 3)) (kk : K nc ns (pc + 3) lv (.int (J (rd s o 17)) :: st) (Wd E s)) : K nc ns pc lv (.ref (E.1 o) :: st) (Wd E s) := by
  obtain ⟨q0, h1, h2⟩ := Wd_at E s ho.mem
  obtain ⟨k, p, l⟩ := o
  obtain ⟨h3, h4, h5⟩ := ho
  cases h3
  rw [J_rd] at kk
  exact r_get g in_Mo rfl q0 h2 17 (by decide) rfl hl0 d kk
theorem p_Mo_place (g : Wk0 l (XE E) R cc nL own nm K) {o : u_O} (ho : is_Mo o) {v : Int} {idx : Nat} (hl0 : Cond.fieldLink own idx (TX11 17).1 (TX11 17).2.1 (TX11 17).2.2.1 ∈ lw_G) (d : decode cc pc = .ok (.putfield idx, 3)) (kk : K nc ns (pc + 3) lv st (Wd E (wt s o 17 v))) : K nc ns pc lv (.int (J v) :: .ref (E.1 o) :: st) (Wd E s) := by
  obtain ⟨q0, h1, h2⟩ := Wd_at E s ho.mem
  obtain ⟨k, p, l⟩ := o
  obtain ⟨h3, h4, h5⟩ := ho
  cases h3
  refine r_put g in_Mo rfl tyX11 tyX11_ok nmX11 q0 h2 17 (by decide) rfl (by decide +kernel) (Nat.le_of_ble_eq_true rfl) hl0 d ?_
  rw [Wd_set E (s' := wt s (23, p, l) 17 v) h1 (fun o' h => wt_ne o' h)]
  · exact kk
  · simp [cell, wt]
theorem g_Mo_value (g : Wk0 l (XE E) R cc nL own nm K) {o : u_O} (ho : is_Mo o) {idx : Nat} (hl0 : Cond.fieldLink own idx (TX11 18).1 (TX11 18).2.1 (TX11 18).2.2.1 ∈ lw_G) (d : decode cc pc = .ok (.getfield idx, 3)) (kk : K nc ns (pc + 3) lv (.int (J (rd s o 18)) :: st) (Wd E s)) : K nc ns pc lv (.ref (E.1 o) :: st) (Wd E s) := by
  obtain ⟨q0, h1, h2⟩ := Wd_at E s ho.mem
  obtain ⟨k, p, l⟩ := o
  obtain ⟨h3, h4, h5⟩ := ho
  cases h3
  rw [J_rd] at kk
  exact r_get g in_Mo rfl q0 h2 18 (by decide) rfl hl0 d kk
theorem p_Mo_value (g : Wk0 l (XE E) R cc nL own nm K) {o : u_O} (ho : is_Mo o) {v : Int} {idx : Nat} (hl0 : Cond.fieldLink own idx (TX11 18).1 (TX11 18).2.1 (TX11 18).2.2.1 ∈ lw_G) (d : decode cc pc = .ok (.putfield idx, 3)) (kk : K nc ns (pc + 3) lv st (Wd E (wt s o 18 v))) : K nc ns pc lv (.int (J v) :: .ref (E.1 o) :: st) (Wd E s) := by
  obtain ⟨q0, h1, h2⟩ := Wd_at E s ho.mem
  obtain ⟨k, p, l⟩ := o
  obtain ⟨h3, h4, h5⟩ := ho
  cases h3
  refine r_put g in_Mo rfl tyX11 tyX11_ok nmX11 q0 h2 18 (by decide) rfl (by decide +kernel) (Nat.le_of_ble_eq_true rfl) hl0 d ?_
  rw [Wd_set E (s' := wt s (23, p, l) 18 v) h1 (fun o' h => wt_ne o' h)]
  · exact kk
  · simp [cell, wt]
theorem g_Mo_not (g : Wk0 l (XE E) R cc nL own nm K) {o : u_O} (ho : is_Mo o) {idx : Nat} (hl0 : Cond.fieldLink own idx (TX11 19).1 (TX11 19).2.1 (TX11 19).2.2.1 ∈ lw_G) (d : decode cc pc = .ok (.getfield idx, 3)) (kk : K nc ns (pc + 3) lv (.int (J (rd s o 19)) :: st) (Wd E s)) : K nc ns pc lv (.ref (E.1 o) :: st) (Wd E s) := by
  obtain ⟨q0, h1, h2⟩ := Wd_at E s ho.mem
  obtain ⟨k, p, l⟩ := o
  obtain ⟨h3, h4, h5⟩ := ho
  cases h3
  rw [J_rd] at kk
  exact r_get g in_Mo rfl q0 h2 19 (by decide) rfl hl0 d kk
theorem p_Mo_not (g : Wk0 l (XE E) R cc nL own nm K) {o : u_O} (ho : is_Mo o) {v : Int} {idx : Nat} (hl0 : Cond.fieldLink own idx (TX11 19).1 (TX11 19).2.1 (TX11 19).2.2.1 ∈ lw_G) (d : decode cc pc = .ok (.putfield idx, 3)) (kk : K nc ns (pc + 3) lv st (Wd E (wt s o 19 v))) : K nc ns pc lv (.int (J v) :: .ref (E.1 o) :: st) (Wd E s) := by
  obtain ⟨q0, h1, h2⟩ := Wd_at E s ho.mem
  obtain ⟨k, p, l⟩ := o
  obtain ⟨h3, h4, h5⟩ := ho
  cases h3
  refine r_put g in_Mo rfl tyX11 tyX11_ok nmX11 q0 h2 19 (by decide) rfl (by decide +kernel) (Nat.le_of_ble_eq_true rfl) hl0 d ?_
  rw [Wd_set E (s' := wt s (23, p, l) 19 v) h1 (fun o' h => wt_ne o' h)]
  · exact kk
  · simp [cell, wt]
theorem g_Mo_numbers (g : Wk0 l (XE E) R cc nL own nm K) {o : u_O} (ho : is_Mo o) {idx : Nat} (hl0 : Cond.fieldLink own idx (TX11 20).1 (TX11 20).2.1 (TX11 20).2.2.1 ∈ lw_G) (d : decode cc pc = .ok (.getfield idx, 3)) (kk : K nc ns (pc + 3) lv (.ref (E.1 (a_Mo_numbers o)) :: st) (Wd E s)) : K nc ns pc lv (.ref (E.1 o) :: st) (Wd E s) := by
  obtain ⟨q0, h1, h2⟩ := Wd_at E s ho.mem
  obtain ⟨k, p, l⟩ := o
  obtain ⟨h3, h4, h5⟩ := ho
  cases h3
  exact r_get g in_Mo rfl q0 h2 20 (by decide) rfl hl0 d kk
end TROWS
end
section
/-! what links the calls and the fields, by places in the tables' words -/
theorem qX10_12 : Cond.fieldLink RX10 12 (TX10 0).1 (TX10 0).2.1 (TX10 0).2.2.1 ∈ lw_G := (lw_G_in (List.mem_of_getElem? (i := 368) (by decide +kernel)) (by decide +kernel))
theorem qX10_16 : Cond.fieldLink RX10 16 (TX10 1).1 (TX10 1).2.1 (TX10 1).2.2.1 ∈ lw_G := (lw_G_in (List.mem_of_getElem? (i := 369) (by decide +kernel)) (by decide +kernel))
theorem qX10_22 : Cond.fieldLink RX10 22 (TX10 2).1 (TX10 2).2.1 (TX10 2).2.2.1 ∈ lw_G := (lw_G_in (List.mem_of_getElem? (i := 370) (by decide +kernel)) (by decide +kernel))
theorem qX10_29 : Cond.fieldLink RX10 29 (TX10 3).1 (TX10 3).2.1 (TX10 3).2.2.1 ∈ lw_G := (lw_G_in (List.mem_of_getElem? (i := 371) (by decide +kernel)) (by decide +kernel))
theorem qX10_36 : Cond.fieldLink RX10 36 (TX10 7).1 (TX10 7).2.1 (TX10 7).2.2.1 ∈ lw_G := (lw_G_in (List.mem_of_getElem? (i := 375) (by decide +kernel)) (by decide +kernel))
theorem qX10_40 : Cond.fieldLink RX10 40 (TX10 8).1 (TX10 8).2.1 (TX10 8).2.2.1 ∈ lw_G := (lw_G_in (List.mem_of_getElem? (i := 376) (by decide +kernel)) (by decide +kernel))
theorem qX10_46 : Cond.fieldLink RX10 46 (TX10 9).1 (TX10 9).2.1 (TX10 9).2.2.1 ∈ lw_G := (lw_G_in (List.mem_of_getElem? (i := 377) (by decide +kernel)) (by decide +kernel))
theorem qX10_53 : Cond.fieldLink RX10 53 (TX10 10).1 (TX10 10).2.1 (TX10 10).2.2.1 ∈ lw_G := (lw_G_in (List.mem_of_getElem? (i := 378) (by decide +kernel)) (by decide +kernel))
theorem qX10_60 : Cond.fieldLink RX10 60 (TX10 11).1 (TX10 11).2.1 (TX10 11).2.2.1 ∈ lw_G := (lw_G_in (List.mem_of_getElem? (i := 379) (by decide +kernel)) (by decide +kernel))
theorem qX10_64 : Cond.fieldLink RX10 64 (TX10 12).1 (TX10 12).2.1 (TX10 12).2.2.1 ∈ lw_G := (lw_G_in (List.mem_of_getElem? (i := 380) (by decide +kernel)) (by decide +kernel))
theorem qX10_71 : Cond.fieldLink RX10 71 (TX10 13).1 (TX10 13).2.1 (TX10 13).2.2.1 ∈ lw_G := (lw_G_in (List.mem_of_getElem? (i := 381) (by decide +kernel)) (by decide +kernel))
theorem qX10_104 : Cond.fieldLink RX10 104 (TX6 0).1 (TX6 0).2.1 (TX6 0).2.2.1 ∈ lw_G := (lw_G_in (List.mem_of_getElem? (i := 202) (by decide +kernel)) (by decide +kernel))
theorem qX10_129 : Cond.fieldLink RX10 129 (TX6 4).1 (TX6 4).2.1 (TX6 4).2.2.1 ∈ lw_G := (lw_G_in (List.mem_of_getElem? (i := 211) (by decide +kernel)) (by decide +kernel))
theorem qX10_133 : Cond.fieldLink RX10 133 (TX6 5).1 (TX6 5).2.1 (TX6 5).2.2.1 ∈ lw_G := (lw_G_in (List.mem_of_getElem? (i := 213) (by decide +kernel)) (by decide +kernel))
theorem qX10_144 : Cond.fieldLink RX10 144 (TX5 2).1 (TX5 2).2.1 (TX5 2).2.2.1 ∈ lw_G := (lw_G_in (List.mem_of_getElem? (i := 192) (by decide +kernel)) (by decide +kernel))
theorem qX10_153 : Cond.fieldLink RX10 153 (TX6 1).1 (TX6 1).2.1 (TX6 1).2.2.1 ∈ lw_G := (lw_G_in (List.mem_of_getElem? (i := 204) (by decide +kernel)) (by decide +kernel))
theorem qX10_181 : Cond.fieldLink RX10 181 (TX1 0).1 (TX1 0).2.1 (TX1 0).2.2.1 ∈ lw_G := (lw_G_in (List.mem_of_getElem? (i := 172) (by decide +kernel)) (by decide +kernel))
theorem qX10_185 : Cond.fieldLink RX10 185 (TX2 0).1 (TX2 0).2.1 (TX2 0).2.2.1 ∈ lw_G := (lw_G_in (List.mem_of_getElem? (i := 142) (by decide +kernel)) (by decide +kernel))
theorem qX10_190 : Cond.fieldLink RX10 190 (TX2 1).1 (TX2 1).2.1 (TX2 1).2.2.1 ∈ lw_G := (lw_G_in (List.mem_of_getElem? (i := 146) (by decide +kernel)) (by decide +kernel))
theorem qX10_192 : Cond.fieldLink RX10 192 (TX2 3).1 (TX2 3).2.1 (TX2 3).2.2.1 ∈ lw_G := (lw_G_in (List.mem_of_getElem? (i := 153) (by decide +kernel)) (by decide +kernel))
theorem qX10_195 : Cond.fieldLink RX10 195 (TX2 4).1 (TX2 4).2.1 (TX2 4).2.2.1 ∈ lw_G := (lw_G_in (List.mem_of_getElem? (i := 157) (by decide +kernel)) (by decide +kernel))
theorem qX10_201 : Cond.fieldLink RX10 201 (TX2 2).1 (TX2 2).2.1 (TX2 2).2.2.1 ∈ lw_G := (lw_G_in (List.mem_of_getElem? (i := 150) (by decide +kernel)) (by decide +kernel))
theorem qX10_213 : Cond.fieldLink RX10 213 (TX0 0).1 (TX0 0).2.1 (TX0 0).2.2.1 ∈ lw_G := (lw_G_in (List.mem_of_getElem? (i := 341) (by decide +kernel)) (by decide +kernel))
theorem qX10_216 : Cond.fieldLink RX10 216 (TX6 6).1 (TX6 6).2.1 (TX6 6).2.2.1 ∈ lw_G := (lw_G_in (List.mem_of_getElem? (i := 215) (by decide +kernel)) (by decide +kernel))
theorem qX10_285 : Cond.fieldLink RX10 285 (TX1 1).1 (TX1 1).2.1 (TX1 1).2.2.1 ∈ lw_G := (lw_G_in (List.mem_of_getElem? (i := 177) (by decide +kernel)) (by decide +kernel))
theorem qX10_301 : Cond.fieldLink RX10 301 (TX6 3).1 (TX6 3).2.1 (TX6 3).2.2.1 ∈ lw_G := (lw_G_in (List.mem_of_getElem? (i := 209) (by decide +kernel)) (by decide +kernel))
theorem qX10_307 : Cond.fieldLink RX10 307 (TX9 2).1 (TX9 2).2.1 (TX9 2).2.2.1 ∈ lw_G := (lw_G_in (List.mem_of_getElem? (i := 360) (by decide +kernel)) (by decide +kernel))
theorem qX10_309 : Cond.fieldLink RX10 309 (TX9 0).1 (TX9 0).2.1 (TX9 0).2.2.1 ∈ lw_G := (lw_G_in (List.mem_of_getElem? (i := 357) (by decide +kernel)) (by decide +kernel))
theorem qX10_312 : Cond.fieldLink RX10 312 (TX7 4).1 (TX7 4).2.1 (TX7 4).2.2.1 ∈ lw_G := (lw_G_in (List.mem_of_getElem? (i := 267) (by decide +kernel)) (by decide +kernel))
theorem qX10_319 : Cond.fieldLink RX10 319 (TX7 5).1 (TX7 5).2.1 (TX7 5).2.2.1 ∈ lw_G := (lw_G_in (List.mem_of_getElem? (i := 269) (by decide +kernel)) (by decide +kernel))
theorem qX10_329 : Cond.fieldLink RX10 329 (TX4 2).1 (TX4 2).2.1 (TX4 2).2.2.1 ∈ lw_G := (lw_G_in (List.mem_of_getElem? (i := 248) (by decide +kernel)) (by decide +kernel))
theorem qX10_330 : Cond.fieldLink RX10 330 (TX10 4).1 (TX10 4).2.1 (TX10 4).2.2.1 ∈ lw_G := (lw_G_in (List.mem_of_getElem? (i := 372) (by decide +kernel)) (by decide +kernel))
theorem qX10_333 : Cond.fieldLink RX10 333 (TX10 5).1 (TX10 5).2.1 (TX10 5).2.2.1 ∈ lw_G := (lw_G_in (List.mem_of_getElem? (i := 373) (by decide +kernel)) (by decide +kernel))
theorem qX10_336 : Cond.fieldLink RX10 336 (TX10 6).1 (TX10 6).2.1 (TX10 6).2.2.1 ∈ lw_G := (lw_G_in (List.mem_of_getElem? (i := 374) (by decide +kernel)) (by decide +kernel))
theorem qX10_339 : Cond.fieldLink RX10 339 (TX6 7).1 (TX6 7).2.1 (TX6 7).2.2.1 ∈ lw_G := (lw_G_in (List.mem_of_getElem? (i := 218) (by decide +kernel)) (by decide +kernel))
theorem qX0_11 : Cond.fieldLink RX0 11 (TX0 0).1 (TX0 0).2.1 (TX0 0).2.2.1 ∈ lw_G := (lw_G_in (List.mem_of_getElem? (i := 340) (by decide +kernel)) (by decide +kernel))
theorem qX0_18 : Cond.fieldLink RX0 18 (TX1 1).1 (TX1 1).2.1 (TX1 1).2.2.1 ∈ lw_G := (lw_G_in (List.mem_of_getElem? (i := 174) (by decide +kernel)) (by decide +kernel))
theorem qX0_24 : Cond.fieldLink RX0 24 (TX0 1).1 (TX0 1).2.1 (TX0 1).2.2.1 ∈ lw_G := (lw_G_in (List.mem_of_getElem? (i := 342) (by decide +kernel)) (by decide +kernel))
theorem qX0_25 : Cond.fieldLink RX0 25 (TX1 0).1 (TX1 0).2.1 (TX1 0).2.2.1 ∈ lw_G := (lw_G_in (List.mem_of_getElem? (i := 171) (by decide +kernel)) (by decide +kernel))
theorem qX0_28 : Cond.fieldLink RX0 28 (TX2 0).1 (TX2 0).2.1 (TX2 0).2.2.1 ∈ lw_G := (lw_G_in (List.mem_of_getElem? (i := 140) (by decide +kernel)) (by decide +kernel))
theorem qX0_33 : Cond.fieldLink RX0 33 (TX2 1).1 (TX2 1).2.1 (TX2 1).2.2.1 ∈ lw_G := (lw_G_in (List.mem_of_getElem? (i := 145) (by decide +kernel)) (by decide +kernel))
theorem qX0_36 : Cond.fieldLink RX0 36 (TX2 2).1 (TX2 2).2.1 (TX2 2).2.2.1 ∈ lw_G := (lw_G_in (List.mem_of_getElem? (i := 149) (by decide +kernel)) (by decide +kernel))
theorem qX0_44 : Cond.fieldLink RX0 44 (TX2 3).1 (TX2 3).2.1 (TX2 3).2.2.1 ∈ lw_G := (lw_G_in (List.mem_of_getElem? (i := 152) (by decide +kernel)) (by decide +kernel))
theorem qX0_47 : Cond.fieldLink RX0 47 (TX2 4).1 (TX2 4).2.1 (TX2 4).2.2.1 ∈ lw_G := (lw_G_in (List.mem_of_getElem? (i := 156) (by decide +kernel)) (by decide +kernel))
theorem qX0_54 : Cond.fieldLink RX0 54 (TX8 3).1 (TX8 3).2.1 (TX8 3).2.2.1 ∈ lw_G := (lw_G_in (List.mem_of_getElem? (i := 304) (by decide +kernel)) (by decide +kernel))
theorem qX1_11 : Cond.fieldLink RX1 11 (TX1 0).1 (TX1 0).2.1 (TX1 0).2.2.1 ∈ lw_G := (lw_G_in (List.mem_of_getElem? (i := 170) (by decide +kernel)) (by decide +kernel))
theorem qX1_22 : Cond.fieldLink RX1 22 (TX1 1).1 (TX1 1).2.1 (TX1 1).2.2.1 ∈ lw_G := (lw_G_in (List.mem_of_getElem? (i := 175) (by decide +kernel)) (by decide +kernel))
theorem qX1_26 : Cond.fieldLink RX1 26 (TX2 0).1 (TX2 0).2.1 (TX2 0).2.2.1 ∈ lw_G := (lw_G_in (List.mem_of_getElem? (i := 141) (by decide +kernel)) (by decide +kernel))
theorem qX2_7 : Cond.fieldLink RX2 7 (TX2 0).1 (TX2 0).2.1 (TX2 0).2.2.1 ∈ lw_G := (lw_G_in (List.mem_of_getElem? (i := 139) (by decide +kernel)) (by decide +kernel))
theorem qX2_13 : Cond.fieldLink RX2 13 (TX2 1).1 (TX2 1).2.1 (TX2 1).2.2.1 ∈ lw_G := (lw_G_in (List.mem_of_getElem? (i := 144) (by decide +kernel)) (by decide +kernel))
theorem qX2_16 : Cond.fieldLink RX2 16 (TX2 2).1 (TX2 2).2.1 (TX2 2).2.2.1 ∈ lw_G := (lw_G_in (List.mem_of_getElem? (i := 148) (by decide +kernel)) (by decide +kernel))
theorem qX2_19 : Cond.fieldLink RX2 19 (TX2 3).1 (TX2 3).2.1 (TX2 3).2.2.1 ∈ lw_G := (lw_G_in (List.mem_of_getElem? (i := 151) (by decide +kernel)) (by decide +kernel))
theorem qX2_22 : Cond.fieldLink RX2 22 (TX2 4).1 (TX2 4).2.1 (TX2 4).2.2.1 ∈ lw_G := (lw_G_in (List.mem_of_getElem? (i := 155) (by decide +kernel)) (by decide +kernel))
theorem qX3_9 : Cond.fieldLink RX3 9 (TX3 0).1 (TX3 0).2.1 (TX3 0).2.2.1 ∈ lw_G := (lw_G_in (List.mem_of_getElem? (i := 321) (by decide +kernel)) (by decide +kernel))
theorem qX3_15 : Cond.fieldLink RX3 15 (TX3 1).1 (TX3 1).2.1 (TX3 1).2.2.1 ∈ lw_G := (lw_G_in (List.mem_of_getElem? (i := 322) (by decide +kernel)) (by decide +kernel))
theorem qX3_18 : Cond.fieldLink RX3 18 (TX3 2).1 (TX3 2).2.1 (TX3 2).2.2.1 ∈ lw_G := (lw_G_in (List.mem_of_getElem? (i := 323) (by decide +kernel)) (by decide +kernel))
theorem qX3_33 : Cond.fieldLink RX3 33 (TX8 2).1 (TX8 2).2.1 (TX8 2).2.2.1 ∈ lw_G := (lw_G_in (List.mem_of_getElem? (i := 302) (by decide +kernel)) (by decide +kernel))
theorem qX3_43 : Cond.fieldLink RX3 43 (TX8 3).1 (TX8 3).2.1 (TX8 3).2.2.1 ∈ lw_G := (lw_G_in (List.mem_of_getElem? (i := 305) (by decide +kernel)) (by decide +kernel))
theorem qX4_11 : Cond.fieldLink RX4 11 (TX4 0).1 (TX4 0).2.1 (TX4 0).2.2.1 ∈ lw_G := (lw_G_in (List.mem_of_getElem? (i := 245) (by decide +kernel)) (by decide +kernel))
theorem qX4_18 : Cond.fieldLink RX4 18 (TX4 1).1 (TX4 1).2.1 (TX4 1).2.2.1 ∈ lw_G := (lw_G_in (List.mem_of_getElem? (i := 246) (by decide +kernel)) (by decide +kernel))
theorem qX4_26 : Cond.fieldLink RX4 26 (TX4 2).1 (TX4 2).2.1 (TX4 2).2.2.1 ∈ lw_G := (lw_G_in (List.mem_of_getElem? (i := 247) (by decide +kernel)) (by decide +kernel))
theorem qX5_9 : Cond.fieldLink RX5 9 (TX5 0).1 (TX5 0).2.1 (TX5 0).2.2.1 ∈ lw_G := (lw_G_in (List.mem_of_getElem? (i := 188) (by decide +kernel)) (by decide +kernel))
theorem qX5_15 : Cond.fieldLink RX5 15 (TX5 1).1 (TX5 1).2.1 (TX5 1).2.2.1 ∈ lw_G := (lw_G_in (List.mem_of_getElem? (i := 189) (by decide +kernel)) (by decide +kernel))
theorem qX5_18 : Cond.fieldLink RX5 18 (TX5 2).1 (TX5 2).2.1 (TX5 2).2.2.1 ∈ lw_G := (lw_G_in (List.mem_of_getElem? (i := 190) (by decide +kernel)) (by decide +kernel))
theorem qX6_11 : Cond.fieldLink RX6 11 (TX6 0).1 (TX6 0).2.1 (TX6 0).2.2.1 ∈ lw_G := (lw_G_in (List.mem_of_getElem? (i := 201) (by decide +kernel)) (by decide +kernel))
theorem qX6_20 : Cond.fieldLink RX6 20 (TX6 1).1 (TX6 1).2.1 (TX6 1).2.2.1 ∈ lw_G := (lw_G_in (List.mem_of_getElem? (i := 203) (by decide +kernel)) (by decide +kernel))
theorem qX6_24 : Cond.fieldLink RX6 24 (TX6 2).1 (TX6 2).2.1 (TX6 2).2.2.1 ∈ lw_G := (lw_G_in (List.mem_of_getElem? (i := 205) (by decide +kernel)) (by decide +kernel))
theorem qX6_28 : Cond.fieldLink RX6 28 (TX6 4).1 (TX6 4).2.1 (TX6 4).2.2.1 ∈ lw_G := (lw_G_in (List.mem_of_getElem? (i := 210) (by decide +kernel)) (by decide +kernel))
theorem qX6_32 : Cond.fieldLink RX6 32 (TX6 6).1 (TX6 6).2.1 (TX6 6).2.2.1 ∈ lw_G := (lw_G_in (List.mem_of_getElem? (i := 214) (by decide +kernel)) (by decide +kernel))
theorem qX6_43 : Cond.fieldLink RX6 43 (TX6 3).1 (TX6 3).2.1 (TX6 3).2.2.1 ∈ lw_G := (lw_G_in (List.mem_of_getElem? (i := 208) (by decide +kernel)) (by decide +kernel))
theorem qX6_46 : Cond.fieldLink RX6 46 (TX6 5).1 (TX6 5).2.1 (TX6 5).2.2.1 ∈ lw_G := (lw_G_in (List.mem_of_getElem? (i := 212) (by decide +kernel)) (by decide +kernel))
theorem qX6_49 : Cond.fieldLink RX6 49 (TX6 7).1 (TX6 7).2.1 (TX6 7).2.2.1 ∈ lw_G := (lw_G_in (List.mem_of_getElem? (i := 217) (by decide +kernel)) (by decide +kernel))
theorem qX6_72 : Cond.fieldLink RX6 72 (TX5 2).1 (TX5 2).2.1 (TX5 2).2.2.1 ∈ lw_G := (lw_G_in (List.mem_of_getElem? (i := 191) (by decide +kernel)) (by decide +kernel))
theorem qX6_129 : Cond.fieldLink RX6 129 (TX1 1).1 (TX1 1).2.1 (TX1 1).2.2.1 ∈ lw_G := (lw_G_in (List.mem_of_getElem? (i := 176) (by decide +kernel)) (by decide +kernel))
theorem qX6_135 : Cond.fieldLink RX6 135 (TX1 0).1 (TX1 0).2.1 (TX1 0).2.2.1 ∈ lw_G := (lw_G_in (List.mem_of_getElem? (i := 173) (by decide +kernel)) (by decide +kernel))
theorem qX6_139 : Cond.fieldLink RX6 139 (TX2 3).1 (TX2 3).2.1 (TX2 3).2.2.1 ∈ lw_G := (lw_G_in (List.mem_of_getElem? (i := 154) (by decide +kernel)) (by decide +kernel))
theorem qX6_144 : Cond.fieldLink RX6 144 (TX2 0).1 (TX2 0).2.1 (TX2 0).2.2.1 ∈ lw_G := (lw_G_in (List.mem_of_getElem? (i := 143) (by decide +kernel)) (by decide +kernel))
theorem qX6_147 : Cond.fieldLink RX6 147 (TX2 1).1 (TX2 1).2.1 (TX2 1).2.2.1 ∈ lw_G := (lw_G_in (List.mem_of_getElem? (i := 147) (by decide +kernel)) (by decide +kernel))
theorem qX6_150 : Cond.fieldLink RX6 150 (TX2 4).1 (TX2 4).2.1 (TX2 4).2.2.1 ∈ lw_G := (lw_G_in (List.mem_of_getElem? (i := 158) (by decide +kernel)) (by decide +kernel))
theorem qX6_153 : Cond.fieldLink RX6 153 (TX8 1).1 (TX8 1).2.1 (TX8 1).2.2.1 ∈ lw_G := (lw_G_in (List.mem_of_getElem? (i := 300) (by decide +kernel)) (by decide +kernel))
theorem qX7_9 : Cond.fieldLink RX7 9 (TX7 0).1 (TX7 0).2.1 (TX7 0).2.2.1 ∈ lw_G := (lw_G_in (List.mem_of_getElem? (i := 262) (by decide +kernel)) (by decide +kernel))
theorem qX7_15 : Cond.fieldLink RX7 15 (TX7 1).1 (TX7 1).2.1 (TX7 1).2.2.1 ∈ lw_G := (lw_G_in (List.mem_of_getElem? (i := 263) (by decide +kernel)) (by decide +kernel))
theorem qX7_18 : Cond.fieldLink RX7 18 (TX7 2).1 (TX7 2).2.1 (TX7 2).2.2.1 ∈ lw_G := (lw_G_in (List.mem_of_getElem? (i := 264) (by decide +kernel)) (by decide +kernel))
theorem qX7_21 : Cond.fieldLink RX7 21 (TX7 3).1 (TX7 3).2.1 (TX7 3).2.2.1 ∈ lw_G := (lw_G_in (List.mem_of_getElem? (i := 265) (by decide +kernel)) (by decide +kernel))
theorem qX7_24 : Cond.fieldLink RX7 24 (TX7 4).1 (TX7 4).2.1 (TX7 4).2.2.1 ∈ lw_G := (lw_G_in (List.mem_of_getElem? (i := 266) (by decide +kernel)) (by decide +kernel))
theorem qX7_28 : Cond.fieldLink RX7 28 (TX7 5).1 (TX7 5).2.1 (TX7 5).2.2.1 ∈ lw_G := (lw_G_in (List.mem_of_getElem? (i := 268) (by decide +kernel)) (by decide +kernel))
theorem qX7_31 : Cond.fieldLink RX7 31 (TX7 6).1 (TX7 6).2.1 (TX7 6).2.2.1 ∈ lw_G := (lw_G_in (List.mem_of_getElem? (i := 270) (by decide +kernel)) (by decide +kernel))
theorem qX7_34 : Cond.fieldLink RX7 34 (TX7 7).1 (TX7 7).2.1 (TX7 7).2.2.1 ∈ lw_G := (lw_G_in (List.mem_of_getElem? (i := 271) (by decide +kernel)) (by decide +kernel))
theorem qX7_37 : Cond.fieldLink RX7 37 (TX7 8).1 (TX7 8).2.1 (TX7 8).2.2.1 ∈ lw_G := (lw_G_in (List.mem_of_getElem? (i := 272) (by decide +kernel)) (by decide +kernel))
theorem qX8_9 : Cond.fieldLink RX8 9 (TX8 0).1 (TX8 0).2.1 (TX8 0).2.2.1 ∈ lw_G := (lw_G_in (List.mem_of_getElem? (i := 298) (by decide +kernel)) (by decide +kernel))
theorem qX8_15 : Cond.fieldLink RX8 15 (TX8 1).1 (TX8 1).2.1 (TX8 1).2.2.1 ∈ lw_G := (lw_G_in (List.mem_of_getElem? (i := 299) (by decide +kernel)) (by decide +kernel))
theorem qX8_19 : Cond.fieldLink RX8 19 (TX8 2).1 (TX8 2).2.1 (TX8 2).2.2.1 ∈ lw_G := (lw_G_in (List.mem_of_getElem? (i := 301) (by decide +kernel)) (by decide +kernel))
theorem qX8_22 : Cond.fieldLink RX8 22 (TX8 3).1 (TX8 3).2.1 (TX8 3).2.2.1 ∈ lw_G := (lw_G_in (List.mem_of_getElem? (i := 303) (by decide +kernel)) (by decide +kernel))
theorem qX9_9 : Cond.fieldLink RX9 9 (TX9 0).1 (TX9 0).2.1 (TX9 0).2.2.1 ∈ lw_G := (lw_G_in (List.mem_of_getElem? (i := 356) (by decide +kernel)) (by decide +kernel))
theorem qX9_15 : Cond.fieldLink RX9 15 (TX9 1).1 (TX9 1).2.1 (TX9 1).2.2.1 ∈ lw_G := (lw_G_in (List.mem_of_getElem? (i := 358) (by decide +kernel)) (by decide +kernel))
theorem qX9_18 : Cond.fieldLink RX9 18 (TX6 3).1 (TX6 3).2.1 (TX6 3).2.2.1 ∈ lw_G := (lw_G_in (List.mem_of_getElem? (i := 207) (by decide +kernel)) (by decide +kernel))
theorem qX9_24 : Cond.fieldLink RX9 24 (TX6 2).1 (TX6 2).2.1 (TX6 2).2.2.1 ∈ lw_G := (lw_G_in (List.mem_of_getElem? (i := 206) (by decide +kernel)) (by decide +kernel))
theorem qX9_32 : Cond.fieldLink RX9 32 (TX9 2).1 (TX9 2).2.1 (TX9 2).2.2.1 ∈ lw_G := (lw_G_in (List.mem_of_getElem? (i := 359) (by decide +kernel)) (by decide +kernel))
theorem qX9_35 : Cond.fieldLink RX9 35 (TX6 7).1 (TX6 7).2.1 (TX6 7).2.2.1 ∈ lw_G := (lw_G_in (List.mem_of_getElem? (i := 216) (by decide +kernel)) (by decide +kernel))
theorem qX11_7 : Cond.fieldLink RX11 7 (TX11 0).1 (TX11 0).2.1 (TX11 0).2.2.1 ∈ lw_G := (lw_G_in (List.mem_of_getElem? (i := 1040) (by decide +kernel)) (by decide +kernel))
theorem qX11_13 : Cond.fieldLink RX11 13 (TX11 1).1 (TX11 1).2.1 (TX11 1).2.2.1 ∈ lw_G := (lw_G_in (List.mem_of_getElem? (i := 1041) (by decide +kernel)) (by decide +kernel))
theorem qX11_16 : Cond.fieldLink RX11 16 (TX11 2).1 (TX11 2).2.1 (TX11 2).2.2.1 ∈ lw_G := (lw_G_in (List.mem_of_getElem? (i := 1042) (by decide +kernel)) (by decide +kernel))
theorem qX11_19 : Cond.fieldLink RX11 19 (TX11 4).1 (TX11 4).2.1 (TX11 4).2.2.1 ∈ lw_G := (lw_G_in (List.mem_of_getElem? (i := 1044) (by decide +kernel)) (by decide +kernel))
theorem qX11_22 : Cond.fieldLink RX11 22 (TX11 5).1 (TX11 5).2.1 (TX11 5).2.2.1 ∈ lw_G := (lw_G_in (List.mem_of_getElem? (i := 1045) (by decide +kernel)) (by decide +kernel))
theorem qX11_25 : Cond.fieldLink RX11 25 (TX11 6).1 (TX11 6).2.1 (TX11 6).2.2.1 ∈ lw_G := (lw_G_in (List.mem_of_getElem? (i := 1046) (by decide +kernel)) (by decide +kernel))
theorem qX11_28 : Cond.fieldLink RX11 28 (TX11 7).1 (TX11 7).2.1 (TX11 7).2.2.1 ∈ lw_G := (lw_G_in (List.mem_of_getElem? (i := 1047) (by decide +kernel)) (by decide +kernel))
theorem qX11_31 : Cond.fieldLink RX11 31 (TX11 8).1 (TX11 8).2.1 (TX11 8).2.2.1 ∈ lw_G := (lw_G_in (List.mem_of_getElem? (i := 1048) (by decide +kernel)) (by decide +kernel))
theorem qX11_34 : Cond.fieldLink RX11 34 (TX11 9).1 (TX11 9).2.1 (TX11 9).2.2.1 ∈ lw_G := (lw_G_in (List.mem_of_getElem? (i := 1049) (by decide +kernel)) (by decide +kernel))
theorem qX11_37 : Cond.fieldLink RX11 37 (TX11 11).1 (TX11 11).2.1 (TX11 11).2.2.1 ∈ lw_G := (lw_G_in (List.mem_of_getElem? (i := 1051) (by decide +kernel)) (by decide +kernel))
theorem qX11_40 : Cond.fieldLink RX11 40 (TX11 12).1 (TX11 12).2.1 (TX11 12).2.2.1 ∈ lw_G := (lw_G_in (List.mem_of_getElem? (i := 1052) (by decide +kernel)) (by decide +kernel))
theorem qX11_43 : Cond.fieldLink RX11 43 (TX11 13).1 (TX11 13).2.1 (TX11 13).2.2.1 ∈ lw_G := (lw_G_in (List.mem_of_getElem? (i := 1053) (by decide +kernel)) (by decide +kernel))
theorem qX11_46 : Cond.fieldLink RX11 46 (TX11 14).1 (TX11 14).2.1 (TX11 14).2.2.1 ∈ lw_G := (lw_G_in (List.mem_of_getElem? (i := 1054) (by decide +kernel)) (by decide +kernel))
theorem qX11_49 : Cond.fieldLink RX11 49 (TX11 15).1 (TX11 15).2.1 (TX11 15).2.2.1 ∈ lw_G := (lw_G_in (List.mem_of_getElem? (i := 1055) (by decide +kernel)) (by decide +kernel))
theorem qX11_52 : Cond.fieldLink RX11 52 (TX11 20).1 (TX11 20).2.1 (TX11 20).2.2.1 ∈ lw_G := (lw_G_in (List.mem_of_getElem? (i := 1060) (by decide +kernel)) (by decide +kernel))
theorem qX11_55 : Cond.fieldLink RX11 55 (TX11 3).1 (TX11 3).2.1 (TX11 3).2.2.1 ∈ lw_G := (lw_G_in (List.mem_of_getElem? (i := 1043) (by decide +kernel)) (by decide +kernel))
theorem qX11_268 : Cond.fieldLink RX11 268 (TX11 10).1 (TX11 10).2.1 (TX11 10).2.2.1 ∈ lw_G := (lw_G_in (List.mem_of_getElem? (i := 1050) (by decide +kernel)) (by decide +kernel))
theorem qX11_314 : Cond.fieldLink RX11 314 (TX11 16).1 (TX11 16).2.1 (TX11 16).2.2.1 ∈ lw_G := (lw_G_in (List.mem_of_getElem? (i := 1056) (by decide +kernel)) (by decide +kernel))
theorem qX11_317 : Cond.fieldLink RX11 317 (TX11 17).1 (TX11 17).2.1 (TX11 17).2.2.1 ∈ lw_G := (lw_G_in (List.mem_of_getElem? (i := 1057) (by decide +kernel)) (by decide +kernel))
theorem qX11_327 : Cond.fieldLink RX11 327 (TX11 18).1 (TX11 18).2.1 (TX11 18).2.2.1 ∈ lw_G := (lw_G_in (List.mem_of_getElem? (i := 1058) (by decide +kernel)) (by decide +kernel))
theorem qX11_340 : Cond.fieldLink RX11 340 (TX11 19).1 (TX11 19).2.1 (TX11 19).2.2.1 ∈ lw_G := (lw_G_in (List.mem_of_getElem? (i := 1059) (by decide +kernel)) (by decide +kernel))
theorem kX10_342 : Cond.constantLong RX10 342 (JL 2267) ∈ lw_G := (lw_G_in (List.mem_of_getElem? (i := 1022) (by decide +kernel)) (by decide +kernel))
theorem kX10_344 : Cond.constantLong RX10 344 (JL 31) ∈ lw_G := (lw_G_in (List.mem_of_getElem? (i := 1023) (by decide +kernel)) (by decide +kernel))
theorem kX6_82 : Cond.constant RX6 82 (J 999999) ∈ lw_G := (lw_G_in (List.mem_of_getElem? (i := 505) (by decide +kernel)) (by decide +kernel))
theorem kX6_83 : Cond.constantLong RX6 83 (JL 1103515245) ∈ lw_G := (lw_G_in (List.mem_of_getElem? (i := 506) (by decide +kernel)) (by decide +kernel))
theorem kX6_85 : Cond.constantLong RX6 85 (JL 12345) ∈ lw_G := (lw_G_in (List.mem_of_getElem? (i := 507) (by decide +kernel)) (by decide +kernel))
theorem kX6_87 : Cond.constantLong RX6 87 (JL 2147483648) ∈ lw_G := (lw_G_in (List.mem_of_getElem? (i := 508) (by decide +kernel)) (by decide +kernel))
theorem kX6_89 : Cond.constantLong RX6 89 (JL 65536) ∈ lw_G := (lw_G_in (List.mem_of_getElem? (i := 509) (by decide +kernel)) (by decide +kernel))
theorem kX6_91 : Cond.constantLong RX6 91 (JL 7) ∈ lw_G := (lw_G_in (List.mem_of_getElem? (i := 510) (by decide +kernel)) (by decide +kernel))
theorem kX6_102 : Cond.constantLong RX6 102 (JL 1024) ∈ lw_G := (lw_G_in (List.mem_of_getElem? (i := 517) (by decide +kernel)) (by decide +kernel))
theorem kX6_104 : Cond.constantLong RX6 104 (JL 4) ∈ lw_G := (lw_G_in (List.mem_of_getElem? (i := 518) (by decide +kernel)) (by decide +kernel))
theorem kX9_31 : Cond.constant RX9 31 (J 1000000) ∈ lw_G := (lw_G_in (List.mem_of_getElem? (i := 896) (by decide +kernel)) (by decide +kernel))
theorem kX11_59 : Cond.constantLong RX11 59 (JL 3) ∈ lw_G := (lw_G_in (List.mem_of_getElem? (i := 1115) (by decide +kernel)) (by decide +kernel))
theorem kX11_86 : Cond.constantLong RX11 86 (JL 27) ∈ lw_G := (lw_G_in (List.mem_of_getElem? (i := 1119) (by decide +kernel)) (by decide +kernel))
theorem kX11_88 : Cond.constantLong RX11 88 (JL 4) ∈ lw_G := (lw_G_in (List.mem_of_getElem? (i := 1120) (by decide +kernel)) (by decide +kernel))
theorem kX11_112 : Cond.constantLong RX11 112 (JL 999999) ∈ lw_G := (lw_G_in (List.mem_of_getElem? (i := 1173) (by decide +kernel)) (by decide +kernel))
theorem kX11_114 : Cond.constantLong RX11 114 (JL 10) ∈ lw_G := (lw_G_in (List.mem_of_getElem? (i := 1174) (by decide +kernel)) (by decide +kernel))
theorem kX11_116 : Cond.constantLong RX11 116 (JL 1103515245) ∈ lw_G := (lw_G_in (List.mem_of_getElem? (i := 1175) (by decide +kernel)) (by decide +kernel))
theorem kX11_118 : Cond.constantLong RX11 118 (JL 12345) ∈ lw_G := (lw_G_in (List.mem_of_getElem? (i := 1176) (by decide +kernel)) (by decide +kernel))
theorem kX11_120 : Cond.constantLong RX11 120 (JL 2147483648) ∈ lw_G := (lw_G_in (List.mem_of_getElem? (i := 1177) (by decide +kernel)) (by decide +kernel))
theorem kX11_122 : Cond.constantLong RX11 122 (JL 65536) ∈ lw_G := (lw_G_in (List.mem_of_getElem? (i := 1178) (by decide +kernel)) (by decide +kernel))
theorem kX11_124 : Cond.constantLong RX11 124 (JL 7) ∈ lw_G := (lw_G_in (List.mem_of_getElem? (i := 1179) (by decide +kernel)) (by decide +kernel))
theorem kX11_126 : Cond.constantLong RX11 126 (JL 1024) ∈ lw_G := (lw_G_in (List.mem_of_getElem? (i := 1180) (by decide +kernel)) (by decide +kernel))
theorem kX11_131 : Cond.constantLong RX11 131 (JL 6) ∈ lw_G := (lw_G_in (List.mem_of_getElem? (i := 1192) (by decide +kernel)) (by decide +kernel))
theorem kX11_133 : Cond.constantLong RX11 133 (JL 8) ∈ lw_G := (lw_G_in (List.mem_of_getElem? (i := 1193) (by decide +kernel)) (by decide +kernel))
theorem kX11_135 : Cond.constantLong RX11 135 (JL 23) ∈ lw_G := (lw_G_in (List.mem_of_getElem? (i := 1194) (by decide +kernel)) (by decide +kernel))
theorem kX11_160 : Cond.constantLong RX11 160 (JL (-21)) ∈ lw_G := (lw_G_in (List.mem_of_getElem? (i := 1234) (by decide +kernel)) (by decide +kernel))
theorem kX11_162 : Cond.constantLong RX11 162 (JL 21) ∈ lw_G := (lw_G_in (List.mem_of_getElem? (i := 1235) (by decide +kernel)) (by decide +kernel))
theorem kX11_180 : Cond.constantLong RX11 180 (JL 199) ∈ lw_G := (lw_G_in (List.mem_of_getElem? (i := 1252) (by decide +kernel)) (by decide +kernel))
theorem kX11_192 : Cond.constantLong RX11 192 (JL 5) ∈ lw_G := (lw_G_in (List.mem_of_getElem? (i := 1273) (by decide +kernel)) (by decide +kernel))
theorem kX11_223 : Cond.constantLong RX11 223 (JL 2) ∈ lw_G := (lw_G_in (List.mem_of_getElem? (i := 1333) (by decide +kernel)) (by decide +kernel))
theorem kX11_246 : Cond.constantLong RX11 246 (JL 20) ∈ lw_G := (lw_G_in (List.mem_of_getElem? (i := 1373) (by decide +kernel)) (by decide +kernel))
theorem kX11_312 : Cond.constantLong RX11 312 (JL 127) ∈ lw_G := (lw_G_in (List.mem_of_getElem? (i := 1485) (by decide +kernel)) (by decide +kernel))
theorem kX11_320 : Cond.constantLong RX11 320 (JL 48) ∈ lw_G := (lw_G_in (List.mem_of_getElem? (i := 1518) (by decide +kernel)) (by decide +kernel))
theorem kX11_322 : Cond.constantLong RX11 322 (JL 57) ∈ lw_G := (lw_G_in (List.mem_of_getElem? (i := 1519) (by decide +kernel)) (by decide +kernel))
theorem kX11_368 : Cond.constantLong RX11 368 (JL 2267) ∈ lw_G := (lw_G_in (List.mem_of_getElem? (i := 1556) (by decide +kernel)) (by decide +kernel))
theorem kX11_370 : Cond.constantLong RX11 370 (JL 31) ∈ lw_G := (lw_G_in (List.mem_of_getElem? (i := 1557) (by decide +kernel)) (by decide +kernel))
theorem ok_X10_within : OKc yX10_within cX10_within 3 (some .boolean) 3 := ⟨(lw_G_in (List.mem_of_getElem? (i := 97) (by decide +kernel)) (by decide +kernel)), (lw_G_in (List.mem_of_getElem? (i := 444) (by decide +kernel)) (by decide +kernel)), by decide +kernel, by decide +kernel, by decide +kernel⟩
theorem ok_X10_isLine : OKc yX10_isLine cX10_isLine 1 (some .boolean) 1 := ⟨(lw_G_in (List.mem_of_getElem? (i := 97) (by decide +kernel)) (by decide +kernel)), (lw_G_in (List.mem_of_getElem? (i := 441) (by decide +kernel)) (by decide +kernel)), by decide +kernel, by decide +kernel, by decide +kernel⟩
theorem ok_X5_has : OKc yX5_has cX5_has 2 (some .boolean) 1 := ⟨(lw_G_in (List.mem_of_getElem? (i := 101) (by decide +kernel)) (by decide +kernel)), (lw_G_in (List.mem_of_getElem? (i := 483) (by decide +kernel)) (by decide +kernel)), by decide +kernel, by decide +kernel, by decide +kernel⟩
theorem ok_J9_floorMod_7cf53 : OKc yJ9_floorMod_7cf53 cJ9_floorMod_7cf53 3 (some .int) 2 := ⟨(lw_G_in (List.mem_of_getElem? (i := 109) (by decide +kernel)) (by decide +kernel)), (lw_G_in (List.mem_of_getElem? (i := 559) (by decide +kernel)) (by decide +kernel)), by decide +kernel, by decide +kernel, by decide +kernel⟩
theorem ok_X5_formedStep : OKc yX5_formedStep cX5_formedStep 6 (some .int) 4 := ⟨(lw_G_in (List.mem_of_getElem? (i := 101) (by decide +kernel)) (by decide +kernel)), (lw_G_in (List.mem_of_getElem? (i := 556) (by decide +kernel)) (by decide +kernel)), by decide +kernel, by decide +kernel, by decide +kernel⟩
theorem ok_X5_formedTicks : OKc yX5_formedTicks cX5_formedTicks 3 (some .int) 2 := ⟨(lw_G_in (List.mem_of_getElem? (i := 101) (by decide +kernel)) (by decide +kernel)), (lw_G_in (List.mem_of_getElem? (i := 596) (by decide +kernel)) (by decide +kernel)), by decide +kernel, by decide +kernel, by decide +kernel⟩
theorem ok_X8_append : OKc yX8_append cX8_append 4 none 2 := ⟨(lw_G_in (List.mem_of_getElem? (i := 104) (by decide +kernel)) (by decide +kernel)), (lw_G_in (List.mem_of_getElem? (i := 600) (by decide +kernel)) (by decide +kernel)), by decide +kernel, by decide +kernel, by decide +kernel⟩
theorem ok_X6_form : OKc yX6_form cX6_form 7 none 4 := ⟨(lw_G_in (List.mem_of_getElem? (i := 98) (by decide +kernel)) (by decide +kernel)), (lw_G_in (List.mem_of_getElem? (i := 591) (by decide +kernel)) (by decide +kernel)), by decide +kernel, by decide +kernel, by decide +kernel⟩
theorem ok_X8_place : OKc yX8_place cX8_place 3 none 2 := ⟨(lw_G_in (List.mem_of_getElem? (i := 104) (by decide +kernel)) (by decide +kernel)), (lw_G_in (List.mem_of_getElem? (i := 604) (by decide +kernel)) (by decide +kernel)), by decide +kernel, by decide +kernel, by decide +kernel⟩
theorem ok_X0_gather : OKc yX0_gather cX0_gather 5 none 2 := ⟨(lw_G_in (List.mem_of_getElem? (i := 106) (by decide +kernel)) (by decide +kernel)), (lw_G_in (List.mem_of_getElem? (i := 671) (by decide +kernel)) (by decide +kernel)), by decide +kernel, by decide +kernel, by decide +kernel⟩
theorem ok_X8_isHeardAt : OKc yX8_isHeardAt cX8_isHeardAt 2 (some .boolean) 1 := ⟨(lw_G_in (List.mem_of_getElem? (i := 104) (by decide +kernel)) (by decide +kernel)), (lw_G_in (List.mem_of_getElem? (i := 612) (by decide +kernel)) (by decide +kernel)), by decide +kernel, by decide +kernel, by decide +kernel⟩
theorem ok_X8_stepAt : OKc yX8_stepAt cX8_stepAt 2 (some .int) 1 := ⟨(lw_G_in (List.mem_of_getElem? (i := 104) (by decide +kernel)) (by decide +kernel)), (lw_G_in (List.mem_of_getElem? (i := 608) (by decide +kernel)) (by decide +kernel)), by decide +kernel, by decide +kernel, by decide +kernel⟩
theorem ok_X0_stepOf : OKc yX0_stepOf cX0_stepOf 4 (some .int) 2 := ⟨(lw_G_in (List.mem_of_getElem? (i := 106) (by decide +kernel)) (by decide +kernel)), (lw_G_in (List.mem_of_getElem? (i := 677) (by decide +kernel)) (by decide +kernel)), by decide +kernel, by decide +kernel, by decide +kernel⟩
theorem ok_X8_end : OKc yX8_end cX8_end 1 (some .int) 0 := ⟨(lw_G_in (List.mem_of_getElem? (i := 104) (by decide +kernel)) (by decide +kernel)), (lw_G_in (List.mem_of_getElem? (i := 695) (by decide +kernel)) (by decide +kernel)), by decide +kernel, by decide +kernel, by decide +kernel⟩
theorem ok_J9_max_7cf53 : OKc yJ9_max_7cf53 cJ9_max_7cf53 2 (some .int) 2 := ⟨(lw_G_in (List.mem_of_getElem? (i := 109) (by decide +kernel)) (by decide +kernel)), (lw_G_in (List.mem_of_getElem? (i := 516) (by decide +kernel)) (by decide +kernel)), by decide +kernel, by decide +kernel, by decide +kernel⟩
theorem ok_X0_end : OKc yX0_end cX0_end 3 (some .int) 0 := ⟨(lw_G_in (List.mem_of_getElem? (i := 106) (by decide +kernel)) (by decide +kernel)), (lw_G_in (List.mem_of_getElem? (i := 721) (by decide +kernel)) (by decide +kernel)), by decide +kernel, by decide +kernel, by decide +kernel⟩
theorem ok_X0_mostAtOnce : OKc yX0_mostAtOnce cX0_mostAtOnce 6 (some .int) 0 := ⟨(lw_G_in (List.mem_of_getElem? (i := 106) (by decide +kernel)) (by decide +kernel)), (lw_G_in (List.mem_of_getElem? (i := 727) (by decide +kernel)) (by decide +kernel)), by decide +kernel, by decide +kernel, by decide +kernel⟩
theorem ok_X3_forget : OKc yX3_forget cX3_forget 1 none 0 := ⟨(lw_G_in (List.mem_of_getElem? (i := 105) (by decide +kernel)) (by decide +kernel)), (lw_G_in (List.mem_of_getElem? (i := 687) (by decide +kernel)) (by decide +kernel)), by decide +kernel, by decide +kernel, by decide +kernel⟩
theorem ok_J9_min_7cf53 : OKc yJ9_min_7cf53 cJ9_min_7cf53 2 (some .int) 2 := ⟨(lw_G_in (List.mem_of_getElem? (i := 109) (by decide +kernel)) (by decide +kernel)), (lw_G_in (List.mem_of_getElem? (i := 513) (by decide +kernel)) (by decide +kernel)), by decide +kernel, by decide +kernel, by decide +kernel⟩
theorem ok_X3_isHarsh : OKc yX3_isHarsh cX3_isHarsh 3 (some .boolean) 2 := ⟨(lw_G_in (List.mem_of_getElem? (i := 105) (by decide +kernel)) (by decide +kernel)), (lw_G_in (List.mem_of_getElem? (i := 705) (by decide +kernel)) (by decide +kernel)), by decide +kernel, by decide +kernel, by decide +kernel⟩
theorem ok_X3_isParallel : OKc yX3_isParallel cX3_isParallel 7 (some .boolean) 4 := ⟨(lw_G_in (List.mem_of_getElem? (i := 105) (by decide +kernel)) (by decide +kernel)), (lw_G_in (List.mem_of_getElem? (i := 709) (by decide +kernel)) (by decide +kernel)), by decide +kernel, by decide +kernel, by decide +kernel⟩
theorem ok_X3_kindsAt : OKc yX3_kindsAt cX3_kindsAt 9 (some .int) 4 := ⟨(lw_G_in (List.mem_of_getElem? (i := 105) (by decide +kernel)) (by decide +kernel)), (lw_G_in (List.mem_of_getElem? (i := 700) (by decide +kernel)) (by decide +kernel)), by decide +kernel, by decide +kernel, by decide +kernel⟩
theorem ok_X3_addPair : OKc yX3_addPair cX3_addPair 7 none 3 := ⟨(lw_G_in (List.mem_of_getElem? (i := 105) (by decide +kernel)) (by decide +kernel)), (lw_G_in (List.mem_of_getElem? (i := 691) (by decide +kernel)) (by decide +kernel)), by decide +kernel, by decide +kernel, by decide +kernel⟩
theorem ok_X0_countFaults : OKc yX0_countFaults cX0_countFaults 5 none 2 := ⟨(lw_G_in (List.mem_of_getElem? (i := 106) (by decide +kernel)) (by decide +kernel)), (lw_G_in (List.mem_of_getElem? (i := 732) (by decide +kernel)) (by decide +kernel)), by decide +kernel, by decide +kernel, by decide +kernel⟩
theorem ok_X0_firstPairAt : OKc yX0_firstPairAt cX0_firstPairAt 7 (some .int) 3 := ⟨(lw_G_in (List.mem_of_getElem? (i := 106) (by decide +kernel)) (by decide +kernel)), (lw_G_in (List.mem_of_getElem? (i := 750) (by decide +kernel)) (by decide +kernel)), by decide +kernel, by decide +kernel, by decide +kernel⟩
theorem ok_X0_leastKindAt : OKc yX0_leastKindAt cX0_leastKindAt 4 (some .int) 2 := ⟨(lw_G_in (List.mem_of_getElem? (i := 106) (by decide +kernel)) (by decide +kernel)), (lw_G_in (List.mem_of_getElem? (i := 746) (by decide +kernel)) (by decide +kernel)), by decide +kernel, by decide +kernel, by decide +kernel⟩
theorem ok_X0_firstFaultTick : OKc yX0_firstFaultTick cX0_firstFaultTick 4 (some .int) 1 := ⟨(lw_G_in (List.mem_of_getElem? (i := 106) (by decide +kernel)) (by decide +kernel)), (lw_G_in (List.mem_of_getElem? (i := 742) (by decide +kernel)) (by decide +kernel)), by decide +kernel, by decide +kernel, by decide +kernel⟩
theorem ok_X2_be : OKc yX2_be cX2_be 6 none 5 := ⟨(lw_G_in (List.mem_of_getElem? (i := 100) (by decide +kernel)) (by decide +kernel)), (lw_G_in (List.mem_of_getElem? (i := 434) (by decide +kernel)) (by decide +kernel)), by decide +kernel, by decide +kernel, by decide +kernel⟩
theorem ok_X2_copyFrom : OKc yX2_copyFrom cX2_copyFrom 2 none 1 := ⟨(lw_G_in (List.mem_of_getElem? (i := 100) (by decide +kernel)) (by decide +kernel)), (lw_G_in (List.mem_of_getElem? (i := 430) (by decide +kernel)) (by decide +kernel)), by decide +kernel, by decide +kernel, by decide +kernel⟩
theorem ok_X1_copyFrom : OKc yX1_copyFrom cX1_copyFrom 3 none 1 := ⟨(lw_G_in (List.mem_of_getElem? (i := 99) (by decide +kernel)) (by decide +kernel)), (lw_G_in (List.mem_of_getElem? (i := 426) (by decide +kernel)) (by decide +kernel)), by decide +kernel, by decide +kernel, by decide +kernel⟩
theorem ok_X1_has : OKc yX1_has cX1_has 2 (some .boolean) 1 := ⟨(lw_G_in (List.mem_of_getElem? (i := 99) (by decide +kernel)) (by decide +kernel)), (lw_G_in (List.mem_of_getElem? (i := 652) (by decide +kernel)) (by decide +kernel)), by decide +kernel, by decide +kernel, by decide +kernel⟩
theorem ok_X1_isFull : OKc yX1_isFull cX1_isFull 1 (some .boolean) 0 := ⟨(lw_G_in (List.mem_of_getElem? (i := 99) (by decide +kernel)) (by decide +kernel)), (lw_G_in (List.mem_of_getElem? (i := 634) (by decide +kernel)) (by decide +kernel)), by decide +kernel, by decide +kernel, by decide +kernel⟩
theorem ok_X1_having : OKc yX1_having cX1_having 4 (some .int) 1 := ⟨(lw_G_in (List.mem_of_getElem? (i := 99) (by decide +kernel)) (by decide +kernel)), (lw_G_in (List.mem_of_getElem? (i := 449) (by decide +kernel)) (by decide +kernel)), by decide +kernel, by decide +kernel, by decide +kernel⟩
theorem ok_X1_append : OKc yX1_append cX1_append 6 none 5 := ⟨(lw_G_in (List.mem_of_getElem? (i := 99) (by decide +kernel)) (by decide +kernel)), (lw_G_in (List.mem_of_getElem? (i := 638) (by decide +kernel)) (by decide +kernel)), by decide +kernel, by decide +kernel, by decide +kernel⟩
theorem ok_X1_remove : OKc yX1_remove cX1_remove 3 none 1 := ⟨(lw_G_in (List.mem_of_getElem? (i := 99) (by decide +kernel)) (by decide +kernel)), (lw_G_in (List.mem_of_getElem? (i := 656) (by decide +kernel)) (by decide +kernel)), by decide +kernel, by decide +kernel, by decide +kernel⟩
theorem ok_X3_number : OKc yX3_number cX3_number 2 (some .int) 1 := ⟨(lw_G_in (List.mem_of_getElem? (i := 105) (by decide +kernel)) (by decide +kernel)), (lw_G_in (List.mem_of_getElem? (i := 713) (by decide +kernel)) (by decide +kernel)), by decide +kernel, by decide +kernel, by decide +kernel⟩
theorem ok_X5_copyFrom : OKc yX5_copyFrom cX5_copyFrom 3 none 1 := ⟨(lw_G_in (List.mem_of_getElem? (i := 101) (by decide +kernel)) (by decide +kernel)), (lw_G_in (List.mem_of_getElem? (i := 422) (by decide +kernel)) (by decide +kernel)), by decide +kernel, by decide +kernel, by decide +kernel⟩
theorem ok_X6_copyFrom : OKc yX6_copyFrom cX6_copyFrom 3 none 1 := ⟨(lw_G_in (List.mem_of_getElem? (i := 98) (by decide +kernel)) (by decide +kernel)), (lw_G_in (List.mem_of_getElem? (i := 418) (by decide +kernel)) (by decide +kernel)), by decide +kernel, by decide +kernel, by decide +kernel⟩
theorem ok_X4_keep : OKc yX4_keep cX4_keep 2 none 1 := ⟨(lw_G_in (List.mem_of_getElem? (i := 102) (by decide +kernel)) (by decide +kernel)), (lw_G_in (List.mem_of_getElem? (i := 470) (by decide +kernel)) (by decide +kernel)), by decide +kernel, by decide +kernel, by decide +kernel⟩
theorem ok_X4_giveBack : OKc yX4_giveBack cX4_giveBack 2 (some .boolean) 1 := ⟨(lw_G_in (List.mem_of_getElem? (i := 102) (by decide +kernel)) (by decide +kernel)), (lw_G_in (List.mem_of_getElem? (i := 1013) (by decide +kernel)) (by decide +kernel)), by decide +kernel, by decide +kernel, by decide +kernel⟩
theorem ok_X5_isEmpty : OKc yX5_isEmpty cX5_isEmpty 1 (some .boolean) 0 := ⟨(lw_G_in (List.mem_of_getElem? (i := 101) (by decide +kernel)) (by decide +kernel)), (lw_G_in (List.mem_of_getElem? (i := 572) (by decide +kernel)) (by decide +kernel)), by decide +kernel, by decide +kernel, by decide +kernel⟩
theorem ok_X5_isFull : OKc yX5_isFull cX5_isFull 1 (some .boolean) 0 := ⟨(lw_G_in (List.mem_of_getElem? (i := 101) (by decide +kernel)) (by decide +kernel)), (lw_G_in (List.mem_of_getElem? (i := 453) (by decide +kernel)) (by decide +kernel)), by decide +kernel, by decide +kernel, by decide +kernel⟩
theorem ok_X5_append : OKc yX5_append cX5_append 3 none 2 := ⟨(lw_G_in (List.mem_of_getElem? (i := 101) (by decide +kernel)) (by decide +kernel)), (lw_G_in (List.mem_of_getElem? (i := 457) (by decide +kernel)) (by decide +kernel)), by decide +kernel, by decide +kernel, by decide +kernel⟩
theorem ok_X5_remove : OKc yX5_remove cX5_remove 3 none 1 := ⟨(lw_G_in (List.mem_of_getElem? (i := 101) (by decide +kernel)) (by decide +kernel)), (lw_G_in (List.mem_of_getElem? (i := 487) (by decide +kernel)) (by decide +kernel)), by decide +kernel, by decide +kernel, by decide +kernel⟩
theorem ok_X5_stepOf : OKc yX5_stepOf cX5_stepOf 2 (some .int) 1 := ⟨(lw_G_in (List.mem_of_getElem? (i := 101) (by decide +kernel)) (by decide +kernel)), (lw_G_in (List.mem_of_getElem? (i := 547) (by decide +kernel)) (by decide +kernel)), by decide +kernel, by decide +kernel, by decide +kernel⟩
theorem ok_X5_ticksOf : OKc yX5_ticksOf cX5_ticksOf 2 (some .int) 1 := ⟨(lw_G_in (List.mem_of_getElem? (i := 101) (by decide +kernel)) (by decide +kernel)), (lw_G_in (List.mem_of_getElem? (i := 551) (by decide +kernel)) (by decide +kernel)), by decide +kernel, by decide +kernel, by decide +kernel⟩
theorem ok_X5_tickBefore : OKc yX5_tickBefore cX5_tickBefore 4 (some .int) 1 := ⟨(lw_G_in (List.mem_of_getElem? (i := 101) (by decide +kernel)) (by decide +kernel)), (lw_G_in (List.mem_of_getElem? (i := 526) (by decide +kernel)) (by decide +kernel)), by decide +kernel, by decide +kernel, by decide +kernel⟩
theorem ok_X5_length : OKc yX5_length cX5_length 1 (some .int) 0 := ⟨(lw_G_in (List.mem_of_getElem? (i := 101) (by decide +kernel)) (by decide +kernel)), (lw_G_in (List.mem_of_getElem? (i := 522) (by decide +kernel)) (by decide +kernel)), by decide +kernel, by decide +kernel, by decide +kernel⟩
theorem ok_X5_leastStep : OKc yX5_leastStep cX5_leastStep 3 (some .int) 0 := ⟨(lw_G_in (List.mem_of_getElem? (i := 101) (by decide +kernel)) (by decide +kernel)), (lw_G_in (List.mem_of_getElem? (i := 568) (by decide +kernel)) (by decide +kernel)), by decide +kernel, by decide +kernel, by decide +kernel⟩
theorem ok_X5_greatestStep : OKc yX5_greatestStep cX5_greatestStep 3 (some .int) 0 := ⟨(lw_G_in (List.mem_of_getElem? (i := 101) (by decide +kernel)) (by decide +kernel)), (lw_G_in (List.mem_of_getElem? (i := 578) (by decide +kernel)) (by decide +kernel)), by decide +kernel, by decide +kernel, by decide +kernel⟩
theorem ok_X6_addNote : OKc yX6_addNote cX6_addNote 4 (some .int) 3 := ⟨(lw_G_in (List.mem_of_getElem? (i := 98) (by decide +kernel)) (by decide +kernel)), (lw_G_in (List.mem_of_getElem? (i := 438) (by decide +kernel)) (by decide +kernel)), by decide +kernel, by decide +kernel, by decide +kernel⟩
theorem ok_X6_dropNote : OKc yX6_dropNote cX6_dropNote 3 (some .int) 2 := ⟨(lw_G_in (List.mem_of_getElem? (i := 98) (by decide +kernel)) (by decide +kernel)), (lw_G_in (List.mem_of_getElem? (i := 479) (by decide +kernel)) (by decide +kernel)), by decide +kernel, by decide +kernel, by decide +kernel⟩
theorem ok_X6_emptyLine : OKc yX6_emptyLine cX6_emptyLine 3 (some .int) 1 := ⟨(lw_G_in (List.mem_of_getElem? (i := 98) (by decide +kernel)) (by decide +kernel)), (lw_G_in (List.mem_of_getElem? (i := 496) (by decide +kernel)) (by decide +kernel)), by decide +kernel, by decide +kernel, by decide +kernel⟩
theorem ok_X6_drawLine : OKc yX6_drawLine cX6_drawLine 10 (some .int) 3 := ⟨(lw_G_in (List.mem_of_getElem? (i := 98) (by decide +kernel)) (by decide +kernel)), (lw_G_in (List.mem_of_getElem? (i := 504) (by decide +kernel)) (by decide +kernel)), by decide +kernel, by decide +kernel, by decide +kernel⟩
theorem ok_X10_isKey : OKc yX10_isKey cX10_isKey 1 (some .boolean) 1 := ⟨(lw_G_in (List.mem_of_getElem? (i := 97) (by decide +kernel)) (by decide +kernel)), (lw_G_in (List.mem_of_getElem? (i := 537) (by decide +kernel)) (by decide +kernel)), by decide +kernel, by decide +kernel, by decide +kernel⟩
theorem ok_X6_setValue : OKc yX6_setValue cX6_setValue 4 (some .int) 2 := ⟨(lw_G_in (List.mem_of_getElem? (i := 98) (by decide +kernel)) (by decide +kernel)), (lw_G_in (List.mem_of_getElem? (i := 534) (by decide +kernel)) (by decide +kernel)), by decide +kernel, by decide +kernel, by decide +kernel⟩
theorem ok_X10_isFormed : OKc yX10_isFormed cX10_isFormed 3 (some .boolean) 3 := ⟨(lw_G_in (List.mem_of_getElem? (i := 97) (by decide +kernel)) (by decide +kernel)), (lw_G_in (List.mem_of_getElem? (i := 587) (by decide +kernel)) (by decide +kernel)), by decide +kernel, by decide +kernel, by decide +kernel⟩
theorem ok_X6_lengthOf : OKc yX6_lengthOf cX6_lengthOf 3 (some .int) 2 := ⟨(lw_G_in (List.mem_of_getElem? (i := 98) (by decide +kernel)) (by decide +kernel)), (lw_G_in (List.mem_of_getElem? (i := 626) (by decide +kernel)) (by decide +kernel)), by decide +kernel, by decide +kernel, by decide +kernel⟩
theorem ok_X6_isFree : OKc yX6_isFree cX6_isFree 7 (some .boolean) 3 := ⟨(lw_G_in (List.mem_of_getElem? (i := 98) (by decide +kernel)) (by decide +kernel)), (lw_G_in (List.mem_of_getElem? (i := 630) (by decide +kernel)) (by decide +kernel)), by decide +kernel, by decide +kernel, by decide +kernel⟩
theorem ok_X6_addEntry : OKc yX6_addEntry cX6_addEntry 6 (some .int) 5 := ⟨(lw_G_in (List.mem_of_getElem? (i := 98) (by decide +kernel)) (by decide +kernel)), (lw_G_in (List.mem_of_getElem? (i := 620) (by decide +kernel)) (by decide +kernel)), by decide +kernel, by decide +kernel, by decide +kernel⟩
theorem ok_X6_removeEntry : OKc yX6_removeEntry cX6_removeEntry 2 (some .int) 1 := ⟨(lw_G_in (List.mem_of_getElem? (i := 98) (by decide +kernel)) (by decide +kernel)), (lw_G_in (List.mem_of_getElem? (i := 648) (by decide +kernel)) (by decide +kernel)), by decide +kernel, by decide +kernel, by decide +kernel⟩
theorem ok_X6_visitOf : OKc yX6_visitOf cX6_visitOf 3 (some .int) 1 := ⟨(lw_G_in (List.mem_of_getElem? (i := 98) (by decide +kernel)) (by decide +kernel)), (lw_G_in (List.mem_of_getElem? (i := 875) (by decide +kernel)) (by decide +kernel)), by decide +kernel, by decide +kernel, by decide +kernel⟩
theorem ok_X6_addVisit : OKc yX6_addVisit cX6_addVisit 2 (some .int) 1 := ⟨(lw_G_in (List.mem_of_getElem? (i := 98) (by decide +kernel)) (by decide +kernel)), (lw_G_in (List.mem_of_getElem? (i := 871) (by decide +kernel)) (by decide +kernel)), by decide +kernel, by decide +kernel, by decide +kernel⟩
theorem ok_X6_removeVisit : OKc yX6_removeVisit cX6_removeVisit 4 (some .int) 1 := ⟨(lw_G_in (List.mem_of_getElem? (i := 98) (by decide +kernel)) (by decide +kernel)), (lw_G_in (List.mem_of_getElem? (i := 883) (by decide +kernel)) (by decide +kernel)), by decide +kernel, by decide +kernel, by decide +kernel⟩
theorem ok_X7_append : OKc yX7_append cX7_append 2 (some .int) 1 := ⟨(lw_G_in (List.mem_of_getElem? (i := 103) (by decide +kernel)) (by decide +kernel)), (lw_G_in (List.mem_of_getElem? (i := 910) (by decide +kernel)) (by decide +kernel)), by decide +kernel, by decide +kernel, by decide +kernel⟩
theorem ok_X7_letter : OKc yX7_letter cX7_letter 2 (some .int) 1 := ⟨(lw_G_in (List.mem_of_getElem? (i := 103) (by decide +kernel)) (by decide +kernel)), (lw_G_in (List.mem_of_getElem? (i := 993) (by decide +kernel)) (by decide +kernel)), by decide +kernel, by decide +kernel, by decide +kernel⟩
theorem ok_X7_firstNumber : OKc yX7_firstNumber cX7_firstNumber 2 (some .int) 1 := ⟨(lw_G_in (List.mem_of_getElem? (i := 103) (by decide +kernel)) (by decide +kernel)), (lw_G_in (List.mem_of_getElem? (i := 989) (by decide +kernel)) (by decide +kernel)), by decide +kernel, by decide +kernel, by decide +kernel⟩
theorem ok_X7_number : OKc yX7_number cX7_number 2 (some .int) 1 := ⟨(lw_G_in (List.mem_of_getElem? (i := 103) (by decide +kernel)) (by decide +kernel)), (lw_G_in (List.mem_of_getElem? (i := 1001) (by decide +kernel)) (by decide +kernel)), by decide +kernel, by decide +kernel, by decide +kernel⟩
theorem ok_X7_skipBlanks : OKc yX7_skipBlanks cX7_skipBlanks 1 none 0 := ⟨(lw_G_in (List.mem_of_getElem? (i := 103) (by decide +kernel)) (by decide +kernel)), (lw_G_in (List.mem_of_getElem? (i := 926) (by decide +kernel)) (by decide +kernel)), by decide +kernel, by decide +kernel, by decide +kernel⟩
theorem ok_X7_byteHere : OKc yX7_byteHere cX7_byteHere 1 (some .int) 0 := ⟨(lw_G_in (List.mem_of_getElem? (i := 103) (by decide +kernel)) (by decide +kernel)), (lw_G_in (List.mem_of_getElem? (i := 934) (by decide +kernel)) (by decide +kernel)), by decide +kernel, by decide +kernel, by decide +kernel⟩
theorem ok_X7_fail : OKc yX7_fail cX7_fail 2 none 1 := ⟨(lw_G_in (List.mem_of_getElem? (i := 103) (by decide +kernel)) (by decide +kernel)), (lw_G_in (List.mem_of_getElem? (i := 938) (by decide +kernel)) (by decide +kernel)), by decide +kernel, by decide +kernel, by decide +kernel⟩
theorem ok_X7_open : OKc yX7_open cX7_open 2 none 1 := ⟨(lw_G_in (List.mem_of_getElem? (i := 103) (by decide +kernel)) (by decide +kernel)), (lw_G_in (List.mem_of_getElem? (i := 942) (by decide +kernel)) (by decide +kernel)), by decide +kernel, by decide +kernel, by decide +kernel⟩
theorem ok_X7_isFigure : OKc yX7_isFigure cX7_isFigure 1 (some .boolean) 1 := ⟨(lw_G_in (List.mem_of_getElem? (i := 103) (by decide +kernel)) (by decide +kernel)), (lw_G_in (List.mem_of_getElem? (i := 953) (by decide +kernel)) (by decide +kernel)), by decide +kernel, by decide +kernel, by decide +kernel⟩
theorem ok_X7_take : OKc yX7_take cX7_take 2 none 1 := ⟨(lw_G_in (List.mem_of_getElem? (i := 103) (by decide +kernel)) (by decide +kernel)), (lw_G_in (List.mem_of_getElem? (i := 957) (by decide +kernel)) (by decide +kernel)), by decide +kernel, by decide +kernel, by decide +kernel⟩
theorem ok_X7_parseNumber : OKc yX7_parseNumber cX7_parseNumber 6 none 1 := ⟨(lw_G_in (List.mem_of_getElem? (i := 103) (by decide +kernel)) (by decide +kernel)), (lw_G_in (List.mem_of_getElem? (i := 950) (by decide +kernel)) (by decide +kernel)), by decide +kernel, by decide +kernel, by decide +kernel⟩
theorem ok_X7_isNext : OKc yX7_isNext cX7_isNext 2 (some .boolean) 1 := ⟨(lw_G_in (List.mem_of_getElem? (i := 103) (by decide +kernel)) (by decide +kernel)), (lw_G_in (List.mem_of_getElem? (i := 961) (by decide +kernel)) (by decide +kernel)), by decide +kernel, by decide +kernel, by decide +kernel⟩
theorem ok_X7_parseNote : OKc yX7_parseNote cX7_parseNote 1 none 0 := ⟨(lw_G_in (List.mem_of_getElem? (i := 103) (by decide +kernel)) (by decide +kernel)), (lw_G_in (List.mem_of_getElem? (i := 965) (by decide +kernel)) (by decide +kernel)), by decide +kernel, by decide +kernel, by decide +kernel⟩
theorem ok_X7_parseLine : OKc yX7_parseLine cX7_parseLine 2 none 0 := ⟨(lw_G_in (List.mem_of_getElem? (i := 103) (by decide +kernel)) (by decide +kernel)), (lw_G_in (List.mem_of_getElem? (i := 946) (by decide +kernel)) (by decide +kernel)), by decide +kernel, by decide +kernel, by decide +kernel⟩
theorem ok_X7_parseEntry : OKc yX7_parseEntry cX7_parseEntry 1 none 0 := ⟨(lw_G_in (List.mem_of_getElem? (i := 103) (by decide +kernel)) (by decide +kernel)), (lw_G_in (List.mem_of_getElem? (i := 969) (by decide +kernel)) (by decide +kernel)), by decide +kernel, by decide +kernel, by decide +kernel⟩
theorem ok_X7_isFigureNext : OKc yX7_isFigureNext cX7_isFigureNext 1 (some .boolean) 0 := ⟨(lw_G_in (List.mem_of_getElem? (i := 103) (by decide +kernel)) (by decide +kernel)), (lw_G_in (List.mem_of_getElem? (i := 977) (by decide +kernel)) (by decide +kernel)), by decide +kernel, by decide +kernel, by decide +kernel⟩
theorem ok_X7_parseKeys : OKc yX7_parseKeys cX7_parseKeys 2 none 0 := ⟨(lw_G_in (List.mem_of_getElem? (i := 103) (by decide +kernel)) (by decide +kernel)), (lw_G_in (List.mem_of_getElem? (i := 973) (by decide +kernel)) (by decide +kernel)), by decide +kernel, by decide +kernel, by decide +kernel⟩
theorem ok_X7_parseEnd : OKc yX7_parseEnd cX7_parseEnd 1 none 0 := ⟨(lw_G_in (List.mem_of_getElem? (i := 103) (by decide +kernel)) (by decide +kernel)), (lw_G_in (List.mem_of_getElem? (i := 981) (by decide +kernel)) (by decide +kernel)), by decide +kernel, by decide +kernel, by decide +kernel⟩
theorem ok_X7_parseOrder : OKc yX7_parseOrder cX7_parseOrder 2 none 0 := ⟨(lw_G_in (List.mem_of_getElem? (i := 103) (by decide +kernel)) (by decide +kernel)), (lw_G_in (List.mem_of_getElem? (i := 930) (by decide +kernel)) (by decide +kernel)), by decide +kernel, by decide +kernel, by decide +kernel⟩
theorem ok_X7_parse : OKc yX7_parse cX7_parse 2 (some .int) 0 := ⟨(lw_G_in (List.mem_of_getElem? (i := 103) (by decide +kernel)) (by decide +kernel)), (lw_G_in (List.mem_of_getElem? (i := 922) (by decide +kernel)) (by decide +kernel)), by decide +kernel, by decide +kernel, by decide +kernel⟩
theorem ok_X9_sortVisits : OKc yX9_sortVisits cX9_sortVisits 5 none 2 := ⟨(lw_G_in (List.mem_of_getElem? (i := 107) (by decide +kernel)) (by decide +kernel)), (lw_G_in (List.mem_of_getElem? (i := 895) (by decide +kernel)) (by decide +kernel)), by decide +kernel, by decide +kernel, by decide +kernel⟩
theorem ok_X10_modeOf : OKc yX10_modeOf cX10_modeOf 1 (some .int) 1 := ⟨(lw_G_in (List.mem_of_getElem? (i := 97) (by decide +kernel)) (by decide +kernel)), (lw_G_in (List.mem_of_getElem? (i := 851) (by decide +kernel)) (by decide +kernel)), by decide +kernel, by decide +kernel, by decide +kernel⟩
theorem ok_X10_turns : OKc yX10_turns cX10_turns 3 (some .int) 2 := ⟨(lw_G_in (List.mem_of_getElem? (i := 97) (by decide +kernel)) (by decide +kernel)), (lw_G_in (List.mem_of_getElem? (i := 854) (by decide +kernel)) (by decide +kernel)), by decide +kernel, by decide +kernel, by decide +kernel⟩
theorem ok_X10_wayBetween : OKc yX10_wayBetween cX10_wayBetween 4 (some .int) 2 := ⟨(lw_G_in (List.mem_of_getElem? (i := 97) (by decide +kernel)) (by decide +kernel)), (lw_G_in (List.mem_of_getElem? (i := 848) (by decide +kernel)) (by decide +kernel)), by decide +kernel, by decide +kernel, by decide +kernel⟩
theorem ok_X9_lengthFrom : OKc yX9_lengthFrom cX9_lengthFrom 6 (some .int) 2 := ⟨(lw_G_in (List.mem_of_getElem? (i := 107) (by decide +kernel)) (by decide +kernel)), (lw_G_in (List.mem_of_getElem? (i := 900) (by decide +kernel)) (by decide +kernel)), by decide +kernel, by decide +kernel, by decide +kernel⟩
theorem ok_X10_exchange : OKc yX10_exchange cX10_exchange 4 none 3 := ⟨(lw_G_in (List.mem_of_getElem? (i := 97) (by decide +kernel)) (by decide +kernel)), (lw_G_in (List.mem_of_getElem? (i := 834) (by decide +kernel)) (by decide +kernel)), by decide +kernel, by decide +kernel, by decide +kernel⟩
theorem ok_X10_toNextRow : OKc yX10_toNextRow cX10_toNextRow 6 (some .boolean) 2 := ⟨(lw_G_in (List.mem_of_getElem? (i := 97) (by decide +kernel)) (by decide +kernel)), (lw_G_in (List.mem_of_getElem? (i := 831) (by decide +kernel)) (by decide +kernel)), by decide +kernel, by decide +kernel, by decide +kernel⟩
theorem ok_X9_find : OKc yX9_find cX9_find 7 none 1 := ⟨(lw_G_in (List.mem_of_getElem? (i := 107) (by decide +kernel)) (by decide +kernel)), (lw_G_in (List.mem_of_getElem? (i := 891) (by decide +kernel)) (by decide +kernel)), by decide +kernel, by decide +kernel, by decide +kernel⟩
theorem ok_X10_refused : OKc yX10_refused cX10_refused 2 (some .int) 1 := ⟨(lw_G_in (List.mem_of_getElem? (i := 97) (by decide +kernel)) (by decide +kernel)), (lw_G_in (List.mem_of_getElem? (i := 466) (by decide +kernel)) (by decide +kernel)), by decide +kernel, by decide +kernel, by decide +kernel⟩
theorem ok_X10_settled : OKc yX10_settled cX10_settled 2 (some .int) 1 := ⟨(lw_G_in (List.mem_of_getElem? (i := 97) (by decide +kernel)) (by decide +kernel)), (lw_G_in (List.mem_of_getElem? (i := 462) (by decide +kernel)) (by decide +kernel)), by decide +kernel, by decide +kernel, by decide +kernel⟩
theorem ok_X10_note : OKc yX10_note cX10_note 4 (some .int) 3 := ⟨(lw_G_in (List.mem_of_getElem? (i := 97) (by decide +kernel)) (by decide +kernel)), (lw_G_in (List.mem_of_getElem? (i := 414) (by decide +kernel)) (by decide +kernel)), by decide +kernel, by decide +kernel, by decide +kernel⟩
theorem ok_X10_drop : OKc yX10_drop cX10_drop 3 (some .int) 2 := ⟨(lw_G_in (List.mem_of_getElem? (i := 97) (by decide +kernel)) (by decide +kernel)), (lw_G_in (List.mem_of_getElem? (i := 475) (by decide +kernel)) (by decide +kernel)), by decide +kernel, by decide +kernel, by decide +kernel⟩
theorem ok_X10_empties : OKc yX10_empties cX10_empties 2 (some .int) 1 := ⟨(lw_G_in (List.mem_of_getElem? (i := 97) (by decide +kernel)) (by decide +kernel)), (lw_G_in (List.mem_of_getElem? (i := 492) (by decide +kernel)) (by decide +kernel)), by decide +kernel, by decide +kernel, by decide +kernel⟩
theorem ok_X10_draw : OKc yX10_draw cX10_draw 4 (some .int) 3 := ⟨(lw_G_in (List.mem_of_getElem? (i := 97) (by decide +kernel)) (by decide +kernel)), (lw_G_in (List.mem_of_getElem? (i := 500) (by decide +kernel)) (by decide +kernel)), by decide +kernel, by decide +kernel, by decide +kernel⟩
theorem ok_X10_sets : OKc yX10_sets cX10_sets 3 (some .int) 2 := ⟨(lw_G_in (List.mem_of_getElem? (i := 97) (by decide +kernel)) (by decide +kernel)), (lw_G_in (List.mem_of_getElem? (i := 530) (by decide +kernel)) (by decide +kernel)), by decide +kernel, by decide +kernel, by decide +kernel⟩
theorem ok_X10_noteOf : OKc yX10_noteOf cX10_noteOf 5 (some .int) 3 := ⟨(lw_G_in (List.mem_of_getElem? (i := 97) (by decide +kernel)) (by decide +kernel)), (lw_G_in (List.mem_of_getElem? (i := 541) (by decide +kernel)) (by decide +kernel)), by decide +kernel, by decide +kernel, by decide +kernel⟩
theorem ok_X10_line : OKc yX10_line cX10_line 4 (some .int) 2 := ⟨(lw_G_in (List.mem_of_getElem? (i := 97) (by decide +kernel)) (by decide +kernel)), (lw_G_in (List.mem_of_getElem? (i := 563) (by decide +kernel)) (by decide +kernel)), by decide +kernel, by decide +kernel, by decide +kernel⟩
theorem ok_X10_step : OKc yX10_step cX10_step 5 (some .int) 4 := ⟨(lw_G_in (List.mem_of_getElem? (i := 97) (by decide +kernel)) (by decide +kernel)), (lw_G_in (List.mem_of_getElem? (i := 584) (by decide +kernel)) (by decide +kernel)), by decide +kernel, by decide +kernel, by decide +kernel⟩
theorem ok_X10_enters : OKc yX10_enters cX10_enters 6 (some .int) 5 := ⟨(lw_G_in (List.mem_of_getElem? (i := 97) (by decide +kernel)) (by decide +kernel)), (lw_G_in (List.mem_of_getElem? (i := 616) (by decide +kernel)) (by decide +kernel)), by decide +kernel, by decide +kernel, by decide +kernel⟩
theorem ok_X10_leaves : OKc yX10_leaves cX10_leaves 2 (some .int) 1 := ⟨(lw_G_in (List.mem_of_getElem? (i := 97) (by decide +kernel)) (by decide +kernel)), (lw_G_in (List.mem_of_getElem? (i := 644) (by decide +kernel)) (by decide +kernel)), by decide +kernel, by decide +kernel, by decide +kernel⟩
theorem ok_X10_entry : OKc yX10_entry cX10_entry 4 (some .int) 2 := ⟨(lw_G_in (List.mem_of_getElem? (i := 97) (by decide +kernel)) (by decide +kernel)), (lw_G_in (List.mem_of_getElem? (i := 661) (by decide +kernel)) (by decide +kernel)), by decide +kernel, by decide +kernel, by decide +kernel⟩
theorem ok_X10_sounds : OKc yX10_sounds cX10_sounds 3 (some .int) 2 := ⟨(lw_G_in (List.mem_of_getElem? (i := 97) (by decide +kernel)) (by decide +kernel)), (lw_G_in (List.mem_of_getElem? (i := 667) (by decide +kernel)) (by decide +kernel)), by decide +kernel, by decide +kernel, by decide +kernel⟩
theorem ok_X10_faults : OKc yX10_faults cX10_faults 4 (some .int) 3 := ⟨(lw_G_in (List.mem_of_getElem? (i := 97) (by decide +kernel)) (by decide +kernel)), (lw_G_in (List.mem_of_getElem? (i := 683) (by decide +kernel)) (by decide +kernel)), by decide +kernel, by decide +kernel, by decide +kernel⟩
theorem ok_X10_all : OKc yX10_all cX10_all 2 (some .int) 1 := ⟨(lw_G_in (List.mem_of_getElem? (i := 97) (by decide +kernel)) (by decide +kernel)), (lw_G_in (List.mem_of_getElem? (i := 717) (by decide +kernel)) (by decide +kernel)), by decide +kernel, by decide +kernel, by decide +kernel⟩
theorem ok_X10_first : OKc yX10_first cX10_first 4 (some .int) 1 := ⟨(lw_G_in (List.mem_of_getElem? (i := 97) (by decide +kernel)) (by decide +kernel)), (lw_G_in (List.mem_of_getElem? (i := 738) (by decide +kernel)) (by decide +kernel)), by decide +kernel, by decide +kernel, by decide +kernel⟩
theorem ok_X10_formStretto : OKc yX10_formStretto cX10_formStretto 4 none 3 := ⟨(lw_G_in (List.mem_of_getElem? (i := 97) (by decide +kernel)) (by decide +kernel)), (lw_G_in (List.mem_of_getElem? (i := 761) (by decide +kernel)) (by decide +kernel)), by decide +kernel, by decide +kernel, by decide +kernel⟩
theorem ok_X10_strettoFits : OKc yX10_strettoFits cX10_strettoFits 2 (some .boolean) 1 := ⟨(lw_G_in (List.mem_of_getElem? (i := 97) (by decide +kernel)) (by decide +kernel)), (lw_G_in (List.mem_of_getElem? (i := 765) (by decide +kernel)) (by decide +kernel)), by decide +kernel, by decide +kernel, by decide +kernel⟩
theorem ok_X10_stretto : OKc yX10_stretto cX10_stretto 7 (some .int) 5 := ⟨(lw_G_in (List.mem_of_getElem? (i := 97) (by decide +kernel)) (by decide +kernel)), (lw_G_in (List.mem_of_getElem? (i := 757) (by decide +kernel)) (by decide +kernel)), by decide +kernel, by decide +kernel, by decide +kernel⟩
theorem ok_X10_strettos : OKc yX10_strettos cX10_strettos 8 (some .long) 3 := ⟨(lw_G_in (List.mem_of_getElem? (i := 97) (by decide +kernel)) (by decide +kernel)), (lw_G_in (List.mem_of_getElem? (i := 769) (by decide +kernel)) (by decide +kernel)), by decide +kernel, by decide +kernel, by decide +kernel⟩
theorem ok_X10_nearMove : OKc yX10_nearMove cX10_nearMove 2 (some .int) 1 := ⟨(lw_G_in (List.mem_of_getElem? (i := 97) (by decide +kernel)) (by decide +kernel)), (lw_G_in (List.mem_of_getElem? (i := 780) (by decide +kernel)) (by decide +kernel)), by decide +kernel, by decide +kernel, by decide +kernel⟩
theorem ok_X10_closestStretto : OKc yX10_closestStretto cX10_closestStretto 7 (some .int) 1 := ⟨(lw_G_in (List.mem_of_getElem? (i := 97) (by decide +kernel)) (by decide +kernel)), (lw_G_in (List.mem_of_getElem? (i := 777) (by decide +kernel)) (by decide +kernel)), by decide +kernel, by decide +kernel, by decide +kernel⟩
theorem ok_X10_closest : OKc yX10_closest cX10_closest 4 (some .int) 2 := ⟨(lw_G_in (List.mem_of_getElem? (i := 97) (by decide +kernel)) (by decide +kernel)), (lw_G_in (List.mem_of_getElem? (i := 773) (by decide +kernel)) (by decide +kernel)), by decide +kernel, by decide +kernel, by decide +kernel⟩
theorem ok_X10_areTwoLines : OKc yX10_areTwoLines cX10_areTwoLines 2 (some .boolean) 2 := ⟨(lw_G_in (List.mem_of_getElem? (i := 97) (by decide +kernel)) (by decide +kernel)), (lw_G_in (List.mem_of_getElem? (i := 787) (by decide +kernel)) (by decide +kernel)), by decide +kernel, by decide +kernel, by decide +kernel⟩
theorem ok_X10_invertsWell : OKc yX10_invertsWell cX10_invertsWell 4 (some .boolean) 3 := ⟨(lw_G_in (List.mem_of_getElem? (i := 97) (by decide +kernel)) (by decide +kernel)), (lw_G_in (List.mem_of_getElem? (i := 791) (by decide +kernel)) (by decide +kernel)), by decide +kernel, by decide +kernel, by decide +kernel⟩
theorem ok_X10_inverted : OKc yX10_inverted cX10_inverted 6 (some .int) 4 := ⟨(lw_G_in (List.mem_of_getElem? (i := 97) (by decide +kernel)) (by decide +kernel)), (lw_G_in (List.mem_of_getElem? (i := 784) (by decide +kernel)) (by decide +kernel)), by decide +kernel, by decide +kernel, by decide +kernel⟩
theorem ok_X10_inversions : OKc yX10_inversions cX10_inversions 5 (some .int) 2 := ⟨(lw_G_in (List.mem_of_getElem? (i := 97) (by decide +kernel)) (by decide +kernel)), (lw_G_in (List.mem_of_getElem? (i := 795) (by decide +kernel)) (by decide +kernel)), by decide +kernel, by decide +kernel, by decide +kernel⟩
theorem ok_X10_areRowVoices : OKc yX10_areRowVoices cX10_areRowVoices 1 (some .boolean) 1 := ⟨(lw_G_in (List.mem_of_getElem? (i := 97) (by decide +kernel)) (by decide +kernel)), (lw_G_in (List.mem_of_getElem? (i := 802) (by decide +kernel)) (by decide +kernel)), by decide +kernel, by decide +kernel, by decide +kernel⟩
theorem ok_X10_takesRow : OKc yX10_takesRow cX10_takesRow 7 (some .boolean) 2 := ⟨(lw_G_in (List.mem_of_getElem? (i := 97) (by decide +kernel)) (by decide +kernel)), (lw_G_in (List.mem_of_getElem? (i := 806) (by decide +kernel)) (by decide +kernel)), by decide +kernel, by decide +kernel, by decide +kernel⟩
theorem ok_X10_layRow : OKc yX10_layRow cX10_layRow 6 none 1 := ⟨(lw_G_in (List.mem_of_getElem? (i := 97) (by decide +kernel)) (by decide +kernel)), (lw_G_in (List.mem_of_getElem? (i := 815) (by decide +kernel)) (by decide +kernel)), by decide +kernel, by decide +kernel, by decide +kernel⟩
theorem ok_X10_rowFaults : OKc yX10_rowFaults cX10_rowFaults 2 (some .int) 1 := ⟨(lw_G_in (List.mem_of_getElem? (i := 97) (by decide +kernel)) (by decide +kernel)), (lw_G_in (List.mem_of_getElem? (i := 811) (by decide +kernel)) (by decide +kernel)), by decide +kernel, by decide +kernel, by decide +kernel⟩
theorem ok_X10_order : OKc yX10_order cX10_order 3 (some .int) 2 := ⟨(lw_G_in (List.mem_of_getElem? (i := 97) (by decide +kernel)) (by decide +kernel)), (lw_G_in (List.mem_of_getElem? (i := 799) (by decide +kernel)) (by decide +kernel)), by decide +kernel, by decide +kernel, by decide +kernel⟩
theorem ok_X10_rowNumber : OKc yX10_rowNumber cX10_rowNumber 4 (some .int) 1 := ⟨(lw_G_in (List.mem_of_getElem? (i := 97) (by decide +kernel)) (by decide +kernel)), (lw_G_in (List.mem_of_getElem? (i := 828) (by decide +kernel)) (by decide +kernel)), by decide +kernel, by decide +kernel, by decide +kernel⟩
theorem ok_X10_bestRow : OKc yX10_bestRow cX10_bestRow 4 (some .int) 1 := ⟨(lw_G_in (List.mem_of_getElem? (i := 97) (by decide +kernel)) (by decide +kernel)), (lw_G_in (List.mem_of_getElem? (i := 824) (by decide +kernel)) (by decide +kernel)), by decide +kernel, by decide +kernel, by decide +kernel⟩
theorem ok_X10_best : OKc yX10_best cX10_best 4 (some .int) 2 := ⟨(lw_G_in (List.mem_of_getElem? (i := 97) (by decide +kernel)) (by decide +kernel)), (lw_G_in (List.mem_of_getElem? (i := 820) (by decide +kernel)) (by decide +kernel)), by decide +kernel, by decide +kernel, by decide +kernel⟩
theorem ok_X10_lays : OKc yX10_lays cX10_lays 2 (some .int) 1 := ⟨(lw_G_in (List.mem_of_getElem? (i := 97) (by decide +kernel)) (by decide +kernel)), (lw_G_in (List.mem_of_getElem? (i := 839) (by decide +kernel)) (by decide +kernel)), by decide +kernel, by decide +kernel, by decide +kernel⟩
theorem ok_X10_way : OKc yX10_way cX10_way 3 (some .int) 2 := ⟨(lw_G_in (List.mem_of_getElem? (i := 97) (by decide +kernel)) (by decide +kernel)), (lw_G_in (List.mem_of_getElem? (i := 844) (by decide +kernel)) (by decide +kernel)), by decide +kernel, by decide +kernel, by decide +kernel⟩
theorem ok_X10_roadBetween : OKc yX10_roadBetween cX10_roadBetween 4 (some .int) 2 := ⟨(lw_G_in (List.mem_of_getElem? (i := 97) (by decide +kernel)) (by decide +kernel)), (lw_G_in (List.mem_of_getElem? (i := 863) (by decide +kernel)) (by decide +kernel)), by decide +kernel, by decide +kernel, by decide +kernel⟩
theorem ok_X10_next : OKc yX10_next cX10_next 5 (some .int) 2 := ⟨(lw_G_in (List.mem_of_getElem? (i := 97) (by decide +kernel)) (by decide +kernel)), (lw_G_in (List.mem_of_getElem? (i := 860) (by decide +kernel)) (by decide +kernel)), by decide +kernel, by decide +kernel, by decide +kernel⟩
theorem ok_X10_visits : OKc yX10_visits cX10_visits 2 (some .int) 1 := ⟨(lw_G_in (List.mem_of_getElem? (i := 97) (by decide +kernel)) (by decide +kernel)), (lw_G_in (List.mem_of_getElem? (i := 867) (by decide +kernel)) (by decide +kernel)), by decide +kernel, by decide +kernel, by decide +kernel⟩
theorem ok_X10_skips : OKc yX10_skips cX10_skips 2 (some .int) 1 := ⟨(lw_G_in (List.mem_of_getElem? (i := 97) (by decide +kernel)) (by decide +kernel)), (lw_G_in (List.mem_of_getElem? (i := 879) (by decide +kernel)) (by decide +kernel)), by decide +kernel, by decide +kernel, by decide +kernel⟩
theorem ok_X10_path : OKc yX10_path cX10_path 2 (some .int) 1 := ⟨(lw_G_in (List.mem_of_getElem? (i := 97) (by decide +kernel)) (by decide +kernel)), (lw_G_in (List.mem_of_getElem? (i := 887) (by decide +kernel)) (by decide +kernel)), by decide +kernel, by decide +kernel, by decide +kernel⟩
theorem ok_X10_type : OKc yX10_type cX10_type 2 (some .int) 1 := ⟨(lw_G_in (List.mem_of_getElem? (i := 97) (by decide +kernel)) (by decide +kernel)), (lw_G_in (List.mem_of_getElem? (i := 906) (by decide +kernel)) (by decide +kernel)), by decide +kernel, by decide +kernel, by decide +kernel⟩
theorem ok_X10_clear : OKc yX10_clear cX10_clear 2 (some .int) 0 := ⟨(lw_G_in (List.mem_of_getElem? (i := 97) (by decide +kernel)) (by decide +kernel)), (lw_G_in (List.mem_of_getElem? (i := 914) (by decide +kernel)) (by decide +kernel)), by decide +kernel, by decide +kernel, by decide +kernel⟩
theorem ok_X10_lineIsDone : OKc yX10_lineIsDone cX10_lineIsDone 5 (some .boolean) 2 := ⟨(lw_G_in (List.mem_of_getElem? (i := 97) (by decide +kernel)) (by decide +kernel)), (lw_G_in (List.mem_of_getElem? (i := 997) (by decide +kernel)) (by decide +kernel)), by decide +kernel, by decide +kernel, by decide +kernel⟩
theorem ok_X10_visitsAreDone : OKc yX10_visitsAreDone cX10_visitsAreDone 4 (some .boolean) 2 := ⟨(lw_G_in (List.mem_of_getElem? (i := 97) (by decide +kernel)) (by decide +kernel)), (lw_G_in (List.mem_of_getElem? (i := 1005) (by decide +kernel)) (by decide +kernel)), by decide +kernel, by decide +kernel, by decide +kernel⟩
theorem ok_X10_isDone : OKc yX10_isDone cX10_isDone 4 (some .boolean) 1 := ⟨(lw_G_in (List.mem_of_getElem? (i := 97) (by decide +kernel)) (by decide +kernel)), (lw_G_in (List.mem_of_getElem? (i := 985) (by decide +kernel)) (by decide +kernel)), by decide +kernel, by decide +kernel, by decide +kernel⟩
theorem ok_X10_reads : OKc yX10_reads cX10_reads 3 (some .int) 0 := ⟨(lw_G_in (List.mem_of_getElem? (i := 97) (by decide +kernel)) (by decide +kernel)), (lw_G_in (List.mem_of_getElem? (i := 918) (by decide +kernel)) (by decide +kernel)), by decide +kernel, by decide +kernel, by decide +kernel⟩
theorem ok_X10_back : OKc yX10_back cX10_back 1 (some .int) 0 := ⟨(lw_G_in (List.mem_of_getElem? (i := 97) (by decide +kernel)) (by decide +kernel)), (lw_G_in (List.mem_of_getElem? (i := 1009) (by decide +kernel)) (by decide +kernel)), by decide +kernel, by decide +kernel, by decide +kernel⟩
theorem ok_X10_told : OKc yX10_told cX10_told 2 (some .int) 1 := ⟨(lw_G_in (List.mem_of_getElem? (i := 97) (by decide +kernel)) (by decide +kernel)), (lw_G_in (List.mem_of_getElem? (i := 1017) (by decide +kernel)) (by decide +kernel)), by decide +kernel, by decide +kernel, by decide +kernel⟩
theorem ok_X10_lineDigest : OKc yX10_lineDigest cX10_lineDigest 8 (some .long) 2 := ⟨(lw_G_in (List.mem_of_getElem? (i := 97) (by decide +kernel)) (by decide +kernel)), (lw_G_in (List.mem_of_getElem? (i := 1028) (by decide +kernel)) (by decide +kernel)), by decide +kernel, by decide +kernel, by decide +kernel⟩
theorem ok_X10_digest : OKc yX10_digest cX10_digest 5 (some .long) 0 := ⟨(lw_G_in (List.mem_of_getElem? (i := 97) (by decide +kernel)) (by decide +kernel)), (lw_G_in (List.mem_of_getElem? (i := 1021) (by decide +kernel)) (by decide +kernel)), by decide +kernel, by decide +kernel, by decide +kernel⟩
theorem ok_X11_in : OKc yX11_in cX11_in 6 (some .boolean) 3 := ⟨(lw_G_in (List.mem_of_getElem? (i := 108) (by decide +kernel)) (by decide +kernel)), (lw_G_in (List.mem_of_getElem? (i := 1118) (by decide +kernel)) (by decide +kernel)), by decide +kernel, by decide +kernel, by decide +kernel⟩
theorem ok_X11_refuses : OKc yX11_refuses cX11_refuses 2 (some .int) 1 := ⟨(lw_G_in (List.mem_of_getElem? (i := 108) (by decide +kernel)) (by decide +kernel)), (lw_G_in (List.mem_of_getElem? (i := 1136) (by decide +kernel)) (by decide +kernel)), by decide +kernel, by decide +kernel, by decide +kernel⟩
theorem ok_X11_bad : OKc yX11_bad cX11_bad 2 (some .int) 1 := ⟨(lw_G_in (List.mem_of_getElem? (i := 108) (by decide +kernel)) (by decide +kernel)), (lw_G_in (List.mem_of_getElem? (i := 1239) (by decide +kernel)) (by decide +kernel)), by decide +kernel, by decide +kernel, by decide +kernel⟩
theorem ok_X11_keep : OKc yX11_keep cX11_keep 2 none 0 := ⟨(lw_G_in (List.mem_of_getElem? (i := 108) (by decide +kernel)) (by decide +kernel)), (lw_G_in (List.mem_of_getElem? (i := 1140) (by decide +kernel)) (by decide +kernel)), by decide +kernel, by decide +kernel, by decide +kernel⟩
theorem ok_X11_left : OKc yX11_left cX11_left 3 (some .int) 2 := ⟨(lw_G_in (List.mem_of_getElem? (i := 108) (by decide +kernel)) (by decide +kernel)), (lw_G_in (List.mem_of_getElem? (i := 1217) (by decide +kernel)) (by decide +kernel)), by decide +kernel, by decide +kernel, by decide +kernel⟩
theorem ok_X11_isLine : OKc yX11_isLine cX11_isLine 1 (some .boolean) 1 := ⟨(lw_G_in (List.mem_of_getElem? (i := 108) (by decide +kernel)) (by decide +kernel)), (lw_G_in (List.mem_of_getElem? (i := 1114) (by decide +kernel)) (by decide +kernel)), by decide +kernel, by decide +kernel, by decide +kernel⟩
theorem ok_X11_notes : OKc yX11_notes cX11_notes 2 (some .int) 1 := ⟨(lw_G_in (List.mem_of_getElem? (i := 108) (by decide +kernel)) (by decide +kernel)), (lw_G_in (List.mem_of_getElem? (i := 1132) (by decide +kernel)) (by decide +kernel)), by decide +kernel, by decide +kernel, by decide +kernel⟩
theorem ok_X11_plain : OKc yX11_plain cX11_plain 3 (some .int) 2 := ⟨(lw_G_in (List.mem_of_getElem? (i := 108) (by decide +kernel)) (by decide +kernel)), (lw_G_in (List.mem_of_getElem? (i := 1152) (by decide +kernel)) (by decide +kernel)), by decide +kernel, by decide +kernel, by decide +kernel⟩
theorem ok_X11_ticks : OKc yX11_ticks cX11_ticks 3 (some .int) 2 := ⟨(lw_G_in (List.mem_of_getElem? (i := 108) (by decide +kernel)) (by decide +kernel)), (lw_G_in (List.mem_of_getElem? (i := 1156) (by decide +kernel)) (by decide +kernel)), by decide +kernel, by decide +kernel, by decide +kernel⟩
theorem ok_X11_length : OKc yX11_length cX11_length 4 (some .int) 1 := ⟨(lw_G_in (List.mem_of_getElem? (i := 108) (by decide +kernel)) (by decide +kernel)), (lw_G_in (List.mem_of_getElem? (i := 1184) (by decide +kernel)) (by decide +kernel)), by decide +kernel, by decide +kernel, by decide +kernel⟩
theorem ok_X11_of : OKc yX11_of cX11_of 3 (some .int) 2 := ⟨(lw_G_in (List.mem_of_getElem? (i := 108) (by decide +kernel)) (by decide +kernel)), (lw_G_in (List.mem_of_getElem? (i := 1128) (by decide +kernel)) (by decide +kernel)), by decide +kernel, by decide +kernel, by decide +kernel⟩
theorem ok_X11_entered : OKc yX11_entered cX11_entered 4 (some .int) 1 := ⟨(lw_G_in (List.mem_of_getElem? (i := 108) (by decide +kernel)) (by decide +kernel)), (lw_G_in (List.mem_of_getElem? (i := 1124) (by decide +kernel)) (by decide +kernel)), by decide +kernel, by decide +kernel, by decide +kernel⟩
theorem ok_X11_answered : OKc yX11_answered cX11_answered 4 (some .int) 2 := ⟨(lw_G_in (List.mem_of_getElem? (i := 108) (by decide +kernel)) (by decide +kernel)), (lw_G_in (List.mem_of_getElem? (i := 1214) (by decide +kernel)) (by decide +kernel)), by decide +kernel, by decide +kernel, by decide +kernel⟩
theorem ok_X11_canNote : OKc yX11_canNote cX11_canNote 4 (some .int) 3 := ⟨(lw_G_in (List.mem_of_getElem? (i := 108) (by decide +kernel)) (by decide +kernel)), (lw_G_in (List.mem_of_getElem? (i := 1111) (by decide +kernel)) (by decide +kernel)), by decide +kernel, by decide +kernel, by decide +kernel⟩
theorem ok_X11_noteNow : OKc yX11_noteNow cX11_noteNow 5 (some .int) 3 := ⟨(lw_G_in (List.mem_of_getElem? (i := 108) (by decide +kernel)) (by decide +kernel)), (lw_G_in (List.mem_of_getElem? (i := 1144) (by decide +kernel)) (by decide +kernel)), by decide +kernel, by decide +kernel, by decide +kernel⟩
theorem ok_X11_note : OKc yX11_note cX11_note 5 (some .int) 3 := ⟨(lw_G_in (List.mem_of_getElem? (i := 108) (by decide +kernel)) (by decide +kernel)), (lw_G_in (List.mem_of_getElem? (i := 1107) (by decide +kernel)) (by decide +kernel)), by decide +kernel, by decide +kernel, by decide +kernel⟩
theorem ok_X11_drop : OKc yX11_drop cX11_drop 5 (some .int) 2 := ⟨(lw_G_in (List.mem_of_getElem? (i := 108) (by decide +kernel)) (by decide +kernel)), (lw_G_in (List.mem_of_getElem? (i := 1148) (by decide +kernel)) (by decide +kernel)), by decide +kernel, by decide +kernel, by decide +kernel⟩
theorem ok_X11_canEmpty : OKc yX11_canEmpty cX11_canEmpty 2 (some .int) 1 := ⟨(lw_G_in (List.mem_of_getElem? (i := 108) (by decide +kernel)) (by decide +kernel)), (lw_G_in (List.mem_of_getElem? (i := 1164) (by decide +kernel)) (by decide +kernel)), by decide +kernel, by decide +kernel, by decide +kernel⟩
theorem ok_X11_emptyNow : OKc yX11_emptyNow cX11_emptyNow 3 (some .int) 1 := ⟨(lw_G_in (List.mem_of_getElem? (i := 108) (by decide +kernel)) (by decide +kernel)), (lw_G_in (List.mem_of_getElem? (i := 1168) (by decide +kernel)) (by decide +kernel)), by decide +kernel, by decide +kernel, by decide +kernel⟩
theorem ok_X11_empties : OKc yX11_empties cX11_empties 3 (some .int) 1 := ⟨(lw_G_in (List.mem_of_getElem? (i := 108) (by decide +kernel)) (by decide +kernel)), (lw_G_in (List.mem_of_getElem? (i := 1160) (by decide +kernel)) (by decide +kernel)), by decide +kernel, by decide +kernel, by decide +kernel⟩
theorem ok_X11_draw : OKc yX11_draw cX11_draw 11 (some .int) 3 := ⟨(lw_G_in (List.mem_of_getElem? (i := 108) (by decide +kernel)) (by decide +kernel)), (lw_G_in (List.mem_of_getElem? (i := 1172) (by decide +kernel)) (by decide +kernel)), by decide +kernel, by decide +kernel, by decide +kernel⟩
theorem ok_X11_isSetting : OKc yX11_isSetting cX11_isSetting 2 (some .boolean) 2 := ⟨(lw_G_in (List.mem_of_getElem? (i := 108) (by decide +kernel)) (by decide +kernel)), (lw_G_in (List.mem_of_getElem? (i := 1191) (by decide +kernel)) (by decide +kernel)), by decide +kernel, by decide +kernel, by decide +kernel⟩
theorem ok_X11_setNow : OKc yX11_setNow cX11_setNow 4 (some .int) 2 := ⟨(lw_G_in (List.mem_of_getElem? (i := 108) (by decide +kernel)) (by decide +kernel)), (lw_G_in (List.mem_of_getElem? (i := 1198) (by decide +kernel)) (by decide +kernel)), by decide +kernel, by decide +kernel, by decide +kernel⟩
theorem ok_X11_sets : OKc yX11_sets cX11_sets 3 (some .int) 2 := ⟨(lw_G_in (List.mem_of_getElem? (i := 108) (by decide +kernel)) (by decide +kernel)), (lw_G_in (List.mem_of_getElem? (i := 1188) (by decide +kernel)) (by decide +kernel)), by decide +kernel, by decide +kernel, by decide +kernel⟩
theorem ok_X11_begin : OKc yX11_begin cX11_begin 5 (some .int) 2 := ⟨(lw_G_in (List.mem_of_getElem? (i := 108) (by decide +kernel)) (by decide +kernel)), (lw_G_in (List.mem_of_getElem? (i := 1210) (by decide +kernel)) (by decide +kernel)), by decide +kernel, by decide +kernel, by decide +kernel⟩
theorem ok_X11_noteNow4 : OKc yX11_noteNow4 cX11_noteNow4 4 (some .int) 3 := ⟨(lw_G_in (List.mem_of_getElem? (i := 108) (by decide +kernel)) (by decide +kernel)), (lw_G_in (List.mem_of_getElem? (i := 1206) (by decide +kernel)) (by decide +kernel)), by decide +kernel, by decide +kernel, by decide +kernel⟩
theorem ok_X11_noteOf : OKc yX11_noteOf cX11_noteOf 4 (some .int) 3 := ⟨(lw_G_in (List.mem_of_getElem? (i := 108) (by decide +kernel)) (by decide +kernel)), (lw_G_in (List.mem_of_getElem? (i := 1202) (by decide +kernel)) (by decide +kernel)), by decide +kernel, by decide +kernel, by decide +kernel⟩
theorem ok_X11_bound : OKc yX11_bound cX11_bound 6 (some .int) 2 := ⟨(lw_G_in (List.mem_of_getElem? (i := 108) (by decide +kernel)) (by decide +kernel)), (lw_G_in (List.mem_of_getElem? (i := 1229) (by decide +kernel)) (by decide +kernel)), by decide +kernel, by decide +kernel, by decide +kernel⟩
theorem ok_X11_lineNow : OKc yX11_lineNow cX11_lineNow 3 (some .int) 2 := ⟨(lw_G_in (List.mem_of_getElem? (i := 108) (by decide +kernel)) (by decide +kernel)), (lw_G_in (List.mem_of_getElem? (i := 1225) (by decide +kernel)) (by decide +kernel)), by decide +kernel, by decide +kernel, by decide +kernel⟩
theorem ok_X11_line : OKc yX11_line cX11_line 3 (some .int) 2 := ⟨(lw_G_in (List.mem_of_getElem? (i := 108) (by decide +kernel)) (by decide +kernel)), (lw_G_in (List.mem_of_getElem? (i := 1221) (by decide +kernel)) (by decide +kernel)), by decide +kernel, by decide +kernel, by decide +kernel⟩
theorem ok_X11_formed : OKc yX11_formed cX11_formed 7 (some .int) 3 := ⟨(lw_G_in (List.mem_of_getElem? (i := 108) (by decide +kernel)) (by decide +kernel)), (lw_G_in (List.mem_of_getElem? (i := 1243) (by decide +kernel)) (by decide +kernel)), by decide +kernel, by decide +kernel, by decide +kernel⟩
theorem ok_X11_lasts : OKc yX11_lasts cX11_lasts 3 (some .int) 2 := ⟨(lw_G_in (List.mem_of_getElem? (i := 108) (by decide +kernel)) (by decide +kernel)), (lw_G_in (List.mem_of_getElem? (i := 1256) (by decide +kernel)) (by decide +kernel)), by decide +kernel, by decide +kernel, by decide +kernel⟩
theorem ok_X11_step : OKc yX11_step cX11_step 6 (some .int) 4 := ⟨(lw_G_in (List.mem_of_getElem? (i := 108) (by decide +kernel)) (by decide +kernel)), (lw_G_in (List.mem_of_getElem? (i := 1233) (by decide +kernel)) (by decide +kernel)), by decide +kernel, by decide +kernel, by decide +kernel⟩
theorem ok_X11_puts : OKc yX11_puts cX11_puts 5 none 5 := ⟨(lw_G_in (List.mem_of_getElem? (i := 108) (by decide +kernel)) (by decide +kernel)), (lw_G_in (List.mem_of_getElem? (i := 1288) (by decide +kernel)) (by decide +kernel)), by decide +kernel, by decide +kernel, by decide +kernel⟩
theorem ok_X11_heard : OKc yX11_heard cX11_heard 4 (some .int) 2 := ⟨(lw_G_in (List.mem_of_getElem? (i := 108) (by decide +kernel)) (by decide +kernel)), (lw_G_in (List.mem_of_getElem? (i := 1292) (by decide +kernel)) (by decide +kernel)), by decide +kernel, by decide +kernel, by decide +kernel⟩
theorem ok_X11_faultsAt : OKc yX11_faultsAt cX11_faultsAt 9 (some .int) 1 := ⟨(lw_G_in (List.mem_of_getElem? (i := 108) (by decide +kernel)) (by decide +kernel)), (lw_G_in (List.mem_of_getElem? (i := 1312) (by decide +kernel)) (by decide +kernel)), by decide +kernel, by decide +kernel, by decide +kernel⟩
theorem ok_X11_countsAll : OKc yX11_countsAll cX11_countsAll 8 none 0 := ⟨(lw_G_in (List.mem_of_getElem? (i := 108) (by decide +kernel)) (by decide +kernel)), (lw_G_in (List.mem_of_getElem? (i := 1308) (by decide +kernel)) (by decide +kernel)), by decide +kernel, by decide +kernel, by decide +kernel⟩
theorem ok_X11_isEntry : OKc yX11_isEntry cX11_isEntry 2 (some .boolean) 1 := ⟨(lw_G_in (List.mem_of_getElem? (i := 108) (by decide +kernel)) (by decide +kernel)), (lw_G_in (List.mem_of_getElem? (i := 1268) (by decide +kernel)) (by decide +kernel)), by decide +kernel, by decide +kernel, by decide +kernel⟩
theorem ok_X11_canEnter : OKc yX11_canEnter cX11_canEnter 8 (some .int) 5 := ⟨(lw_G_in (List.mem_of_getElem? (i := 108) (by decide +kernel)) (by decide +kernel)), (lw_G_in (List.mem_of_getElem? (i := 1251) (by decide +kernel)) (by decide +kernel)), by decide +kernel, by decide +kernel, by decide +kernel⟩
theorem ok_X11_enterNow : OKc yX11_enterNow cX11_enterNow 7 (some .int) 5 := ⟨(lw_G_in (List.mem_of_getElem? (i := 108) (by decide +kernel)) (by decide +kernel)), (lw_G_in (List.mem_of_getElem? (i := 1260) (by decide +kernel)) (by decide +kernel)), by decide +kernel, by decide +kernel, by decide +kernel⟩
theorem ok_X11_enters : OKc yX11_enters cX11_enters 7 (some .int) 5 := ⟨(lw_G_in (List.mem_of_getElem? (i := 108) (by decide +kernel)) (by decide +kernel)), (lw_G_in (List.mem_of_getElem? (i := 1247) (by decide +kernel)) (by decide +kernel)), by decide +kernel, by decide +kernel, by decide +kernel⟩
theorem ok_X11_leaves : OKc yX11_leaves cX11_leaves 3 (some .int) 1 := ⟨(lw_G_in (List.mem_of_getElem? (i := 108) (by decide +kernel)) (by decide +kernel)), (lw_G_in (List.mem_of_getElem? (i := 1264) (by decide +kernel)) (by decide +kernel)), by decide +kernel, by decide +kernel, by decide +kernel⟩
theorem ok_X11_entryNow : OKc yX11_entryNow cX11_entryNow 3 (some .int) 2 := ⟨(lw_G_in (List.mem_of_getElem? (i := 108) (by decide +kernel)) (by decide +kernel)), (lw_G_in (List.mem_of_getElem? (i := 1277) (by decide +kernel)) (by decide +kernel)), by decide +kernel, by decide +kernel, by decide +kernel⟩
theorem ok_X11_entry : OKc yX11_entry cX11_entry 3 (some .int) 2 := ⟨(lw_G_in (List.mem_of_getElem? (i := 108) (by decide +kernel)) (by decide +kernel)), (lw_G_in (List.mem_of_getElem? (i := 1272) (by decide +kernel)) (by decide +kernel)), by decide +kernel, by decide +kernel, by decide +kernel⟩
theorem ok_X11_heardOf : OKc yX11_heardOf cX11_heardOf 3 (some .int) 2 := ⟨(lw_G_in (List.mem_of_getElem? (i := 108) (by decide +kernel)) (by decide +kernel)), (lw_G_in (List.mem_of_getElem? (i := 1285) (by decide +kernel)) (by decide +kernel)), by decide +kernel, by decide +kernel, by decide +kernel⟩
theorem ok_X11_sounds : OKc yX11_sounds cX11_sounds 6 (some .int) 2 := ⟨(lw_G_in (List.mem_of_getElem? (i := 108) (by decide +kernel)) (by decide +kernel)), (lw_G_in (List.mem_of_getElem? (i := 1281) (by decide +kernel)) (by decide +kernel)), by decide +kernel, by decide +kernel, by decide +kernel⟩
theorem ok_X11_areTwo : OKc yX11_areTwo cX11_areTwo 5 (some .boolean) 2 := ⟨(lw_G_in (List.mem_of_getElem? (i := 108) (by decide +kernel)) (by decide +kernel)), (lw_G_in (List.mem_of_getElem? (i := 1300) (by decide +kernel)) (by decide +kernel)), by decide +kernel, by decide +kernel, by decide +kernel⟩
theorem ok_X11_faultsOf : OKc yX11_faultsOf cX11_faultsOf 2 (some .int) 1 := ⟨(lw_G_in (List.mem_of_getElem? (i := 108) (by decide +kernel)) (by decide +kernel)), (lw_G_in (List.mem_of_getElem? (i := 1304) (by decide +kernel)) (by decide +kernel)), by decide +kernel, by decide +kernel, by decide +kernel⟩
theorem ok_X11_faults : OKc yX11_faults cX11_faults 4 (some .int) 3 := ⟨(lw_G_in (List.mem_of_getElem? (i := 108) (by decide +kernel)) (by decide +kernel)), (lw_G_in (List.mem_of_getElem? (i := 1296) (by decide +kernel)) (by decide +kernel)), by decide +kernel, by decide +kernel, by decide +kernel⟩
theorem ok_X11_end : OKc yX11_end cX11_end 4 (some .int) 0 := ⟨(lw_G_in (List.mem_of_getElem? (i := 108) (by decide +kernel)) (by decide +kernel)), (lw_G_in (List.mem_of_getElem? (i := 1324) (by decide +kernel)) (by decide +kernel)), by decide +kernel, by decide +kernel, by decide +kernel⟩
theorem ok_X11_most : OKc yX11_most cX11_most 5 (some .int) 0 := ⟨(lw_G_in (List.mem_of_getElem? (i := 108) (by decide +kernel)) (by decide +kernel)), (lw_G_in (List.mem_of_getElem? (i := 1328) (by decide +kernel)) (by decide +kernel)), by decide +kernel, by decide +kernel, by decide +kernel⟩
theorem ok_X11_allNow : OKc yX11_allNow cX11_allNow 5 (some .int) 1 := ⟨(lw_G_in (List.mem_of_getElem? (i := 108) (by decide +kernel)) (by decide +kernel)), (lw_G_in (List.mem_of_getElem? (i := 1320) (by decide +kernel)) (by decide +kernel)), by decide +kernel, by decide +kernel, by decide +kernel⟩
theorem ok_X11_all : OKc yX11_all cX11_all 2 (some .int) 1 := ⟨(lw_G_in (List.mem_of_getElem? (i := 108) (by decide +kernel)) (by decide +kernel)), (lw_G_in (List.mem_of_getElem? (i := 1316) (by decide +kernel)) (by decide +kernel)), by decide +kernel, by decide +kernel, by decide +kernel⟩
theorem ok_X11_pairAt : OKc yX11_pairAt cX11_pairAt 5 (some .int) 2 := ⟨(lw_G_in (List.mem_of_getElem? (i := 108) (by decide +kernel)) (by decide +kernel)), (lw_G_in (List.mem_of_getElem? (i := 1337) (by decide +kernel)) (by decide +kernel)), by decide +kernel, by decide +kernel, by decide +kernel⟩
theorem ok_X11_first : OKc yX11_first cX11_first 5 (some .int) 1 := ⟨(lw_G_in (List.mem_of_getElem? (i := 108) (by decide +kernel)) (by decide +kernel)), (lw_G_in (List.mem_of_getElem? (i := 1332) (by decide +kernel)) (by decide +kernel)), by decide +kernel, by decide +kernel, by decide +kernel⟩
theorem ok_X11_isMoved : OKc yX11_isMoved cX11_isMoved 3 (some .boolean) 3 := ⟨(lw_G_in (List.mem_of_getElem? (i := 108) (by decide +kernel)) (by decide +kernel)), (lw_G_in (List.mem_of_getElem? (i := 1344) (by decide +kernel)) (by decide +kernel)), by decide +kernel, by decide +kernel, by decide +kernel⟩
theorem ok_X11_stretches : OKc yX11_stretches cX11_stretches 5 none 4 := ⟨(lw_G_in (List.mem_of_getElem? (i := 108) (by decide +kernel)) (by decide +kernel)), (lw_G_in (List.mem_of_getElem? (i := 1348) (by decide +kernel)) (by decide +kernel)), by decide +kernel, by decide +kernel, by decide +kernel⟩
theorem ok_X11_stretto : OKc yX11_stretto cX11_stretto 6 (some .int) 5 := ⟨(lw_G_in (List.mem_of_getElem? (i := 108) (by decide +kernel)) (by decide +kernel)), (lw_G_in (List.mem_of_getElem? (i := 1341) (by decide +kernel)) (by decide +kernel)), by decide +kernel, by decide +kernel, by decide +kernel⟩
theorem ok_X11_laysRows : OKc yX11_laysRows cX11_laysRows 4 none 2 := ⟨(lw_G_in (List.mem_of_getElem? (i := 108) (by decide +kernel)) (by decide +kernel)), (lw_G_in (List.mem_of_getElem? (i := 1356) (by decide +kernel)) (by decide +kernel)), by decide +kernel, by decide +kernel, by decide +kernel⟩
theorem ok_X11_isFit : OKc yX11_isFit cX11_isFit 9 (some .boolean) 3 := ⟨(lw_G_in (List.mem_of_getElem? (i := 108) (by decide +kernel)) (by decide +kernel)), (lw_G_in (List.mem_of_getElem? (i := 1360) (by decide +kernel)) (by decide +kernel)), by decide +kernel, by decide +kernel, by decide +kernel⟩
theorem ok_X11_strettos : OKc yX11_strettos cX11_strettos 8 (some .long) 3 := ⟨(lw_G_in (List.mem_of_getElem? (i := 108) (by decide +kernel)) (by decide +kernel)), (lw_G_in (List.mem_of_getElem? (i := 1352) (by decide +kernel)) (by decide +kernel)), by decide +kernel, by decide +kernel, by decide +kernel⟩
theorem ok_X11_closestOf : OKc yX11_closestOf cX11_closestOf 7 (some .int) 1 := ⟨(lw_G_in (List.mem_of_getElem? (i := 108) (by decide +kernel)) (by decide +kernel)), (lw_G_in (List.mem_of_getElem? (i := 1368) (by decide +kernel)) (by decide +kernel)), by decide +kernel, by decide +kernel, by decide +kernel⟩
theorem ok_X11_closest : OKc yX11_closest cX11_closest 4 (some .int) 2 := ⟨(lw_G_in (List.mem_of_getElem? (i := 108) (by decide +kernel)) (by decide +kernel)), (lw_G_in (List.mem_of_getElem? (i := 1364) (by decide +kernel)) (by decide +kernel)), by decide +kernel, by decide +kernel, by decide +kernel⟩
theorem ok_X11_inverts : OKc yX11_inverts cX11_inverts 4 none 3 := ⟨(lw_G_in (List.mem_of_getElem? (i := 108) (by decide +kernel)) (by decide +kernel)), (lw_G_in (List.mem_of_getElem? (i := 1377) (by decide +kernel)) (by decide +kernel)), by decide +kernel, by decide +kernel, by decide +kernel⟩
theorem ok_X11_inverted : OKc yX11_inverted cX11_inverted 5 (some .int) 4 := ⟨(lw_G_in (List.mem_of_getElem? (i := 108) (by decide +kernel)) (by decide +kernel)), (lw_G_in (List.mem_of_getElem? (i := 1372) (by decide +kernel)) (by decide +kernel)), by decide +kernel, by decide +kernel, by decide +kernel⟩
theorem ok_X11_inversions : OKc yX11_inversions cX11_inversions 5 (some .int) 2 := ⟨(lw_G_in (List.mem_of_getElem? (i := 108) (by decide +kernel)) (by decide +kernel)), (lw_G_in (List.mem_of_getElem? (i := 1381) (by decide +kernel)) (by decide +kernel)), by decide +kernel, by decide +kernel, by decide +kernel⟩
theorem ok_X11_power : OKc yX11_power cX11_power 3 (some .int) 1 := ⟨(lw_G_in (List.mem_of_getElem? (i := 108) (by decide +kernel)) (by decide +kernel)), (lw_G_in (List.mem_of_getElem? (i := 1391) (by decide +kernel)) (by decide +kernel)), by decide +kernel, by decide +kernel, by decide +kernel⟩
theorem ok_X11_voice : OKc yX11_voice cX11_voice 3 (some .int) 3 := ⟨(lw_G_in (List.mem_of_getElem? (i := 108) (by decide +kernel)) (by decide +kernel)), (lw_G_in (List.mem_of_getElem? (i := 1394) (by decide +kernel)) (by decide +kernel)), by decide +kernel, by decide +kernel, by decide +kernel⟩
theorem ok_X11_isOrder : OKc yX11_isOrder cX11_isOrder 4 (some .boolean) 2 := ⟨(lw_G_in (List.mem_of_getElem? (i := 108) (by decide +kernel)) (by decide +kernel)), (lw_G_in (List.mem_of_getElem? (i := 1388) (by decide +kernel)) (by decide +kernel)), by decide +kernel, by decide +kernel, by decide +kernel⟩
theorem ok_X11_sound : OKc yX11_sound cX11_sound 9 (some .boolean) 4 := ⟨(lw_G_in (List.mem_of_getElem? (i := 108) (by decide +kernel)) (by decide +kernel)), (lw_G_in (List.mem_of_getElem? (i := 1402) (by decide +kernel)) (by decide +kernel)), by decide +kernel, by decide +kernel, by decide +kernel⟩
theorem ok_X11_orderFaults : OKc yX11_orderFaults cX11_orderFaults 7 (some .int) 2 := ⟨(lw_G_in (List.mem_of_getElem? (i := 108) (by decide +kernel)) (by decide +kernel)), (lw_G_in (List.mem_of_getElem? (i := 1398) (by decide +kernel)) (by decide +kernel)), by decide +kernel, by decide +kernel, by decide +kernel⟩
theorem ok_X11_order : OKc yX11_order cX11_order 3 (some .int) 2 := ⟨(lw_G_in (List.mem_of_getElem? (i := 108) (by decide +kernel)) (by decide +kernel)), (lw_G_in (List.mem_of_getElem? (i := 1385) (by decide +kernel)) (by decide +kernel)), by decide +kernel, by decide +kernel, by decide +kernel⟩
theorem ok_X11_bestOf : OKc yX11_bestOf cX11_bestOf 5 (some .int) 1 := ⟨(lw_G_in (List.mem_of_getElem? (i := 108) (by decide +kernel)) (by decide +kernel)), (lw_G_in (List.mem_of_getElem? (i := 1410) (by decide +kernel)) (by decide +kernel)), by decide +kernel, by decide +kernel, by decide +kernel⟩
theorem ok_X11_best : OKc yX11_best cX11_best 4 (some .int) 2 := ⟨(lw_G_in (List.mem_of_getElem? (i := 108) (by decide +kernel)) (by decide +kernel)), (lw_G_in (List.mem_of_getElem? (i := 1406) (by decide +kernel)) (by decide +kernel)), by decide +kernel, by decide +kernel, by decide +kernel⟩
theorem ok_X11_lays : OKc yX11_lays cX11_lays 5 (some .int) 1 := ⟨(lw_G_in (List.mem_of_getElem? (i := 108) (by decide +kernel)) (by decide +kernel)), (lw_G_in (List.mem_of_getElem? (i := 1414) (by decide +kernel)) (by decide +kernel)), by decide +kernel, by decide +kernel, by decide +kernel⟩
theorem ok_X11_isKey : OKc yX11_isKey cX11_isKey 1 (some .boolean) 1 := ⟨(lw_G_in (List.mem_of_getElem? (i := 108) (by decide +kernel)) (by decide +kernel)), (lw_G_in (List.mem_of_getElem? (i := 1421) (by decide +kernel)) (by decide +kernel)), by decide +kernel, by decide +kernel, by decide +kernel⟩
theorem ok_X11_road : OKc yX11_road cX11_road 5 (some .int) 2 := ⟨(lw_G_in (List.mem_of_getElem? (i := 108) (by decide +kernel)) (by decide +kernel)), (lw_G_in (List.mem_of_getElem? (i := 1432) (by decide +kernel)) (by decide +kernel)), by decide +kernel, by decide +kernel, by decide +kernel⟩
theorem ok_X11_laysWays : OKc yX11_laysWays cX11_laysWays 6 none 1 := ⟨(lw_G_in (List.mem_of_getElem? (i := 108) (by decide +kernel)) (by decide +kernel)), (lw_G_in (List.mem_of_getElem? (i := 1429) (by decide +kernel)) (by decide +kernel)), by decide +kernel, by decide +kernel, by decide +kernel⟩
theorem ok_X11_wayOf : OKc yX11_wayOf cX11_wayOf 3 (some .int) 2 := ⟨(lw_G_in (List.mem_of_getElem? (i := 108) (by decide +kernel)) (by decide +kernel)), (lw_G_in (List.mem_of_getElem? (i := 1425) (by decide +kernel)) (by decide +kernel)), by decide +kernel, by decide +kernel, by decide +kernel⟩
theorem ok_X11_way : OKc yX11_way cX11_way 3 (some .int) 2 := ⟨(lw_G_in (List.mem_of_getElem? (i := 108) (by decide +kernel)) (by decide +kernel)), (lw_G_in (List.mem_of_getElem? (i := 1418) (by decide +kernel)) (by decide +kernel)), by decide +kernel, by decide +kernel, by decide +kernel⟩
theorem ok_X11_next : OKc yX11_next cX11_next 4 (some .int) 2 := ⟨(lw_G_in (List.mem_of_getElem? (i := 108) (by decide +kernel)) (by decide +kernel)), (lw_G_in (List.mem_of_getElem? (i := 1436) (by decide +kernel)) (by decide +kernel)), by decide +kernel, by decide +kernel, by decide +kernel⟩
theorem ok_X11_visited : OKc yX11_visited cX11_visited 4 (some .int) 1 := ⟨(lw_G_in (List.mem_of_getElem? (i := 108) (by decide +kernel)) (by decide +kernel)), (lw_G_in (List.mem_of_getElem? (i := 1448) (by decide +kernel)) (by decide +kernel)), by decide +kernel, by decide +kernel, by decide +kernel⟩
theorem ok_X11_canVisit : OKc yX11_canVisit cX11_canVisit 2 (some .int) 1 := ⟨(lw_G_in (List.mem_of_getElem? (i := 108) (by decide +kernel)) (by decide +kernel)), (lw_G_in (List.mem_of_getElem? (i := 1444) (by decide +kernel)) (by decide +kernel)), by decide +kernel, by decide +kernel, by decide +kernel⟩
theorem ok_X11_visitNow : OKc yX11_visitNow cX11_visitNow 2 (some .int) 1 := ⟨(lw_G_in (List.mem_of_getElem? (i := 108) (by decide +kernel)) (by decide +kernel)), (lw_G_in (List.mem_of_getElem? (i := 1452) (by decide +kernel)) (by decide +kernel)), by decide +kernel, by decide +kernel, by decide +kernel⟩
theorem ok_X11_visits : OKc yX11_visits cX11_visits 3 (some .int) 1 := ⟨(lw_G_in (List.mem_of_getElem? (i := 108) (by decide +kernel)) (by decide +kernel)), (lw_G_in (List.mem_of_getElem? (i := 1440) (by decide +kernel)) (by decide +kernel)), by decide +kernel, by decide +kernel, by decide +kernel⟩
theorem ok_X11_skips : OKc yX11_skips cX11_skips 4 (some .int) 1 := ⟨(lw_G_in (List.mem_of_getElem? (i := 108) (by decide +kernel)) (by decide +kernel)), (lw_G_in (List.mem_of_getElem? (i := 1456) (by decide +kernel)) (by decide +kernel)), by decide +kernel, by decide +kernel, by decide +kernel⟩
theorem ok_X11_keyAt : OKc yX11_keyAt cX11_keyAt 2 (some .int) 1 := ⟨(lw_G_in (List.mem_of_getElem? (i := 108) (by decide +kernel)) (by decide +kernel)), (lw_G_in (List.mem_of_getElem? (i := 1472) (by decide +kernel)) (by decide +kernel)), by decide +kernel, by decide +kernel, by decide +kernel⟩
theorem ok_X11_laysBetween : OKc yX11_laysBetween cX11_laysBetween 3 none 0 := ⟨(lw_G_in (List.mem_of_getElem? (i := 108) (by decide +kernel)) (by decide +kernel)), (lw_G_in (List.mem_of_getElem? (i := 1468) (by decide +kernel)) (by decide +kernel)), by decide +kernel, by decide +kernel, by decide +kernel⟩
theorem ok_X11_isRow : OKc yX11_isRow cX11_isRow 5 (some .boolean) 1 := ⟨(lw_G_in (List.mem_of_getElem? (i := 108) (by decide +kernel)) (by decide +kernel)), (lw_G_in (List.mem_of_getElem? (i := 1476) (by decide +kernel)) (by decide +kernel)), by decide +kernel, by decide +kernel, by decide +kernel⟩
theorem ok_X11_isLess : OKc yX11_isLess cX11_isLess 2 (some .boolean) 0 := ⟨(lw_G_in (List.mem_of_getElem? (i := 108) (by decide +kernel)) (by decide +kernel)), (lw_G_in (List.mem_of_getElem? (i := 1480) (by decide +kernel)) (by decide +kernel)), by decide +kernel, by decide +kernel, by decide +kernel⟩
theorem ok_X11_bestPath : OKc yX11_bestPath cX11_bestPath 7 (some .int) 0 := ⟨(lw_G_in (List.mem_of_getElem? (i := 108) (by decide +kernel)) (by decide +kernel)), (lw_G_in (List.mem_of_getElem? (i := 1464) (by decide +kernel)) (by decide +kernel)), by decide +kernel, by decide +kernel, by decide +kernel⟩
theorem ok_X11_path : OKc yX11_path cX11_path 3 (some .int) 1 := ⟨(lw_G_in (List.mem_of_getElem? (i := 108) (by decide +kernel)) (by decide +kernel)), (lw_G_in (List.mem_of_getElem? (i := 1460) (by decide +kernel)) (by decide +kernel)), by decide +kernel, by decide +kernel, by decide +kernel⟩
theorem ok_X11_type : OKc yX11_type cX11_type 2 (some .int) 1 := ⟨(lw_G_in (List.mem_of_getElem? (i := 108) (by decide +kernel)) (by decide +kernel)), (lw_G_in (List.mem_of_getElem? (i := 1484) (by decide +kernel)) (by decide +kernel)), by decide +kernel, by decide +kernel, by decide +kernel⟩
theorem ok_X11_clear : OKc yX11_clear cX11_clear 2 (some .int) 0 := ⟨(lw_G_in (List.mem_of_getElem? (i := 108) (by decide +kernel)) (by decide +kernel)), (lw_G_in (List.mem_of_getElem? (i := 1489) (by decide +kernel)) (by decide +kernel)), by decide +kernel, by decide +kernel, by decide +kernel⟩
theorem ok_X11_here : OKc yX11_here cX11_here 1 (some .int) 0 := ⟨(lw_G_in (List.mem_of_getElem? (i := 108) (by decide +kernel)) (by decide +kernel)), (lw_G_in (List.mem_of_getElem? (i := 1501) (by decide +kernel)) (by decide +kernel)), by decide +kernel, by decide +kernel, by decide +kernel⟩
theorem ok_X11_isFigure : OKc yX11_isFigure cX11_isFigure 2 (some .boolean) 1 := ⟨(lw_G_in (List.mem_of_getElem? (i := 108) (by decide +kernel)) (by decide +kernel)), (lw_G_in (List.mem_of_getElem? (i := 1517) (by decide +kernel)) (by decide +kernel)), by decide +kernel, by decide +kernel, by decide +kernel⟩
theorem ok_X11_takes : OKc yX11_takes cX11_takes 6 (some .boolean) 1 := ⟨(lw_G_in (List.mem_of_getElem? (i := 108) (by decide +kernel)) (by decide +kernel)), (lw_G_in (List.mem_of_getElem? (i := 1513) (by decide +kernel)) (by decide +kernel)), by decide +kernel, by decide +kernel, by decide +kernel⟩
theorem ok_X11_takesAll : OKc yX11_takesAll cX11_takesAll 4 (some .boolean) 2 := ⟨(lw_G_in (List.mem_of_getElem? (i := 108) (by decide +kernel)) (by decide +kernel)), (lw_G_in (List.mem_of_getElem? (i := 1509) (by decide +kernel)) (by decide +kernel)), by decide +kernel, by decide +kernel, by decide +kernel⟩
theorem ok_X11_readsNotes : OKc yX11_readsNotes cX11_readsNotes 5 (some .boolean) 2 := ⟨(lw_G_in (List.mem_of_getElem? (i := 108) (by decide +kernel)) (by decide +kernel)), (lw_G_in (List.mem_of_getElem? (i := 1523) (by decide +kernel)) (by decide +kernel)), by decide +kernel, by decide +kernel, by decide +kernel⟩
theorem ok_X11_readsLine : OKc yX11_readsLine cX11_readsLine 4 (some .boolean) 1 := ⟨(lw_G_in (List.mem_of_getElem? (i := 108) (by decide +kernel)) (by decide +kernel)), (lw_G_in (List.mem_of_getElem? (i := 1505) (by decide +kernel)) (by decide +kernel)), by decide +kernel, by decide +kernel, by decide +kernel⟩
theorem ok_X11_readsKeys : OKc yX11_readsKeys cX11_readsKeys 3 (some .boolean) 1 := ⟨(lw_G_in (List.mem_of_getElem? (i := 108) (by decide +kernel)) (by decide +kernel)), (lw_G_in (List.mem_of_getElem? (i := 1531) (by decide +kernel)) (by decide +kernel)), by decide +kernel, by decide +kernel, by decide +kernel⟩
theorem ok_X11_readsEntry : OKc yX11_readsEntry cX11_readsEntry 3 (some .boolean) 1 := ⟨(lw_G_in (List.mem_of_getElem? (i := 108) (by decide +kernel)) (by decide +kernel)), (lw_G_in (List.mem_of_getElem? (i := 1527) (by decide +kernel)) (by decide +kernel)), by decide +kernel, by decide +kernel, by decide +kernel⟩
theorem ok_X11_readsSetting : OKc yX11_readsSetting cX11_readsSetting 5 (some .boolean) 2 := ⟨(lw_G_in (List.mem_of_getElem? (i := 108) (by decide +kernel)) (by decide +kernel)), (lw_G_in (List.mem_of_getElem? (i := 1535) (by decide +kernel)) (by decide +kernel)), by decide +kernel, by decide +kernel, by decide +kernel⟩
theorem ok_X11_readsOrder : OKc yX11_readsOrder cX11_readsOrder 4 (some .boolean) 1 := ⟨(lw_G_in (List.mem_of_getElem? (i := 108) (by decide +kernel)) (by decide +kernel)), (lw_G_in (List.mem_of_getElem? (i := 1497) (by decide +kernel)) (by decide +kernel)), by decide +kernel, by decide +kernel, by decide +kernel⟩
theorem ok_X11_keepsAside : OKc yX11_keepsAside cX11_keepsAside 3 none 0 := ⟨(lw_G_in (List.mem_of_getElem? (i := 108) (by decide +kernel)) (by decide +kernel)), (lw_G_in (List.mem_of_getElem? (i := 1539) (by decide +kernel)) (by decide +kernel)), by decide +kernel, by decide +kernel, by decide +kernel⟩
theorem ok_X11_reads : OKc yX11_reads cX11_reads 4 (some .int) 0 := ⟨(lw_G_in (List.mem_of_getElem? (i := 108) (by decide +kernel)) (by decide +kernel)), (lw_G_in (List.mem_of_getElem? (i := 1493) (by decide +kernel)) (by decide +kernel)), by decide +kernel, by decide +kernel, by decide +kernel⟩
theorem ok_X11_back : OKc yX11_back cX11_back 2 (some .int) 0 := ⟨(lw_G_in (List.mem_of_getElem? (i := 108) (by decide +kernel)) (by decide +kernel)), (lw_G_in (List.mem_of_getElem? (i := 1543) (by decide +kernel)) (by decide +kernel)), by decide +kernel, by decide +kernel, by decide +kernel⟩
theorem ok_X11_toldOf : OKc yX11_toldOf cX11_toldOf 2 (some .int) 1 := ⟨(lw_G_in (List.mem_of_getElem? (i := 108) (by decide +kernel)) (by decide +kernel)), (lw_G_in (List.mem_of_getElem? (i := 1551) (by decide +kernel)) (by decide +kernel)), by decide +kernel, by decide +kernel, by decide +kernel⟩
theorem ok_X11_told : OKc yX11_told cX11_told 2 (some .int) 1 := ⟨(lw_G_in (List.mem_of_getElem? (i := 108) (by decide +kernel)) (by decide +kernel)), (lw_G_in (List.mem_of_getElem? (i := 1547) (by decide +kernel)) (by decide +kernel)), by decide +kernel, by decide +kernel, by decide +kernel⟩
theorem ok_X11_digest : OKc yX11_digest cX11_digest 5 (some .long) 0 := ⟨(lw_G_in (List.mem_of_getElem? (i := 108) (by decide +kernel)) (by decide +kernel)), (lw_G_in (List.mem_of_getElem? (i := 1555) (by decide +kernel)) (by decide +kernel)), by decide +kernel, by decide +kernel, by decide +kernel⟩
theorem mX10_75 : OKV RX10 75 yX6_copyFrom := ⟨(lw_G_in (List.mem_of_getElem? (i := 415) (by decide +kernel)) (by decide +kernel)), (lw_G_in (List.mem_of_getElem? (i := 416) (by decide +kernel)) (by decide +kernel)), (lw_G_in (List.mem_of_getElem? (i := 417) (by decide +kernel)) (by decide +kernel))⟩
theorem mX10_79 : OKV RX10 79 yX6_addNote := ⟨(lw_G_in (List.mem_of_getElem? (i := 435) (by decide +kernel)) (by decide +kernel)), (lw_G_in (List.mem_of_getElem? (i := 436) (by decide +kernel)) (by decide +kernel)), (lw_G_in (List.mem_of_getElem? (i := 437) (by decide +kernel)) (by decide +kernel))⟩
theorem mX10_83 : OKV RX10 83 yX10_settled := ⟨(lw_G_in (List.mem_of_getElem? (i := 459) (by decide +kernel)) (by decide +kernel)), (lw_G_in (List.mem_of_getElem? (i := 461) (by decide +kernel)) (by decide +kernel)), (lw_G_in (List.mem_of_getElem? (i := 0) (by decide +kernel)) (by decide +kernel))⟩
theorem mX10_87 : OKV RX10 87 yX6_dropNote := ⟨(lw_G_in (List.mem_of_getElem? (i := 476) (by decide +kernel)) (by decide +kernel)), (lw_G_in (List.mem_of_getElem? (i := 477) (by decide +kernel)) (by decide +kernel)), (lw_G_in (List.mem_of_getElem? (i := 478) (by decide +kernel)) (by decide +kernel))⟩
theorem mX10_91 : OKV RX10 91 yX6_emptyLine := ⟨(lw_G_in (List.mem_of_getElem? (i := 493) (by decide +kernel)) (by decide +kernel)), (lw_G_in (List.mem_of_getElem? (i := 494) (by decide +kernel)) (by decide +kernel)), (lw_G_in (List.mem_of_getElem? (i := 495) (by decide +kernel)) (by decide +kernel))⟩
theorem mX10_94 : OKV RX10 94 yX6_drawLine := ⟨(lw_G_in (List.mem_of_getElem? (i := 501) (by decide +kernel)) (by decide +kernel)), (lw_G_in (List.mem_of_getElem? (i := 502) (by decide +kernel)) (by decide +kernel)), (lw_G_in (List.mem_of_getElem? (i := 503) (by decide +kernel)) (by decide +kernel))⟩
theorem mX10_97 : OKV RX10 97 yX6_setValue := ⟨(lw_G_in (List.mem_of_getElem? (i := 531) (by decide +kernel)) (by decide +kernel)), (lw_G_in (List.mem_of_getElem? (i := 532) (by decide +kernel)) (by decide +kernel)), (lw_G_in (List.mem_of_getElem? (i := 533) (by decide +kernel)) (by decide +kernel))⟩
theorem mX10_100 : OKS RX10 100 yX10_isLine := ⟨(lw_G_in (List.mem_of_getElem? (i := 542) (by decide +kernel)) (by decide +kernel)), (lw_G_in (List.mem_of_getElem? (i := 440) (by decide +kernel)) (by decide +kernel))⟩
theorem mX10_108 : OKV RX10 108 yX5_has := ⟨(lw_G_in (List.mem_of_getElem? (i := 543) (by decide +kernel)) (by decide +kernel)), (lw_G_in (List.mem_of_getElem? (i := 481) (by decide +kernel)) (by decide +kernel)), (lw_G_in (List.mem_of_getElem? (i := 482) (by decide +kernel)) (by decide +kernel))⟩
theorem mX10_113 : OKS RX10 113 yX10_within := ⟨(lw_G_in (List.mem_of_getElem? (i := 442) (by decide +kernel)) (by decide +kernel)), (lw_G_in (List.mem_of_getElem? (i := 443) (by decide +kernel)) (by decide +kernel))⟩
theorem mX10_117 : OKV RX10 117 yX10_refused := ⟨(lw_G_in (List.mem_of_getElem? (i := 463) (by decide +kernel)) (by decide +kernel)), (lw_G_in (List.mem_of_getElem? (i := 465) (by decide +kernel)) (by decide +kernel)), (lw_G_in (List.mem_of_getElem? (i := 1) (by decide +kernel)) (by decide +kernel))⟩
theorem mX10_120 : OKV RX10 120 yX5_stepOf := ⟨(lw_G_in (List.mem_of_getElem? (i := 544) (by decide +kernel)) (by decide +kernel)), (lw_G_in (List.mem_of_getElem? (i := 545) (by decide +kernel)) (by decide +kernel)), (lw_G_in (List.mem_of_getElem? (i := 546) (by decide +kernel)) (by decide +kernel))⟩
theorem mX10_123 : OKV RX10 123 yX5_ticksOf := ⟨(lw_G_in (List.mem_of_getElem? (i := 548) (by decide +kernel)) (by decide +kernel)), (lw_G_in (List.mem_of_getElem? (i := 549) (by decide +kernel)) (by decide +kernel)), (lw_G_in (List.mem_of_getElem? (i := 550) (by decide +kernel)) (by decide +kernel))⟩
theorem mX10_126 : OKV RX10 126 yX5_tickBefore := ⟨(lw_G_in (List.mem_of_getElem? (i := 552) (by decide +kernel)) (by decide +kernel)), (lw_G_in (List.mem_of_getElem? (i := 524) (by decide +kernel)) (by decide +kernel)), (lw_G_in (List.mem_of_getElem? (i := 525) (by decide +kernel)) (by decide +kernel))⟩
theorem mX10_136 : OKV RX10 136 yX5_formedStep := ⟨(lw_G_in (List.mem_of_getElem? (i := 553) (by decide +kernel)) (by decide +kernel)), (lw_G_in (List.mem_of_getElem? (i := 554) (by decide +kernel)) (by decide +kernel)), (lw_G_in (List.mem_of_getElem? (i := 555) (by decide +kernel)) (by decide +kernel))⟩
theorem mX10_140 : OKV RX10 140 yX5_length := ⟨(lw_G_in (List.mem_of_getElem? (i := 564) (by decide +kernel)) (by decide +kernel)), (lw_G_in (List.mem_of_getElem? (i := 520) (by decide +kernel)) (by decide +kernel)), (lw_G_in (List.mem_of_getElem? (i := 521) (by decide +kernel)) (by decide +kernel))⟩
theorem mX10_147 : OKV RX10 147 yX5_leastStep := ⟨(lw_G_in (List.mem_of_getElem? (i := 565) (by decide +kernel)) (by decide +kernel)), (lw_G_in (List.mem_of_getElem? (i := 566) (by decide +kernel)) (by decide +kernel)), (lw_G_in (List.mem_of_getElem? (i := 567) (by decide +kernel)) (by decide +kernel))⟩
theorem mX10_150 : OKV RX10 150 yX5_greatestStep := ⟨(lw_G_in (List.mem_of_getElem? (i := 575) (by decide +kernel)) (by decide +kernel)), (lw_G_in (List.mem_of_getElem? (i := 576) (by decide +kernel)) (by decide +kernel)), (lw_G_in (List.mem_of_getElem? (i := 577) (by decide +kernel)) (by decide +kernel))⟩
theorem mX10_156 : OKV RX10 156 yX1_having := ⟨(lw_G_in (List.mem_of_getElem? (i := 580) (by decide +kernel)) (by decide +kernel)), (lw_G_in (List.mem_of_getElem? (i := 447) (by decide +kernel)) (by decide +kernel)), (lw_G_in (List.mem_of_getElem? (i := 448) (by decide +kernel)) (by decide +kernel))⟩
theorem mX10_159 : OKS RX10 159 yX10_isFormed := ⟨(lw_G_in (List.mem_of_getElem? (i := 585) (by decide +kernel)) (by decide +kernel)), (lw_G_in (List.mem_of_getElem? (i := 586) (by decide +kernel)) (by decide +kernel))⟩
theorem mX10_162 : OKV RX10 162 yX6_form := ⟨(lw_G_in (List.mem_of_getElem? (i := 588) (by decide +kernel)) (by decide +kernel)), (lw_G_in (List.mem_of_getElem? (i := 589) (by decide +kernel)) (by decide +kernel)), (lw_G_in (List.mem_of_getElem? (i := 590) (by decide +kernel)) (by decide +kernel))⟩
theorem mX10_166 : OKV RX10 166 yX8_place := ⟨(lw_G_in (List.mem_of_getElem? (i := 601) (by decide +kernel)) (by decide +kernel)), (lw_G_in (List.mem_of_getElem? (i := 602) (by decide +kernel)) (by decide +kernel)), (lw_G_in (List.mem_of_getElem? (i := 603) (by decide +kernel)) (by decide +kernel))⟩
theorem mX10_170 : OKV RX10 170 yX8_stepAt := ⟨(lw_G_in (List.mem_of_getElem? (i := 605) (by decide +kernel)) (by decide +kernel)), (lw_G_in (List.mem_of_getElem? (i := 606) (by decide +kernel)) (by decide +kernel)), (lw_G_in (List.mem_of_getElem? (i := 607) (by decide +kernel)) (by decide +kernel))⟩
theorem mX10_173 : OKV RX10 173 yX6_addEntry := ⟨(lw_G_in (List.mem_of_getElem? (i := 617) (by decide +kernel)) (by decide +kernel)), (lw_G_in (List.mem_of_getElem? (i := 618) (by decide +kernel)) (by decide +kernel)), (lw_G_in (List.mem_of_getElem? (i := 619) (by decide +kernel)) (by decide +kernel))⟩
theorem mX10_177 : OKV RX10 177 yX6_removeEntry := ⟨(lw_G_in (List.mem_of_getElem? (i := 645) (by decide +kernel)) (by decide +kernel)), (lw_G_in (List.mem_of_getElem? (i := 646) (by decide +kernel)) (by decide +kernel)), (lw_G_in (List.mem_of_getElem? (i := 647) (by decide +kernel)) (by decide +kernel))⟩
theorem mX10_180 : OKV RX10 180 yX1_has := ⟨(lw_G_in (List.mem_of_getElem? (i := 662) (by decide +kernel)) (by decide +kernel)), (lw_G_in (List.mem_of_getElem? (i := 650) (by decide +kernel)) (by decide +kernel)), (lw_G_in (List.mem_of_getElem? (i := 651) (by decide +kernel)) (by decide +kernel))⟩
theorem mX10_198 : OKV RX10 198 yX6_lengthOf := ⟨(lw_G_in (List.mem_of_getElem? (i := 663) (by decide +kernel)) (by decide +kernel)), (lw_G_in (List.mem_of_getElem? (i := 624) (by decide +kernel)) (by decide +kernel)), (lw_G_in (List.mem_of_getElem? (i := 625) (by decide +kernel)) (by decide +kernel))⟩
theorem mX10_204 : OKV RX10 204 yX0_gather := ⟨(lw_G_in (List.mem_of_getElem? (i := 668) (by decide +kernel)) (by decide +kernel)), (lw_G_in (List.mem_of_getElem? (i := 669) (by decide +kernel)) (by decide +kernel)), (lw_G_in (List.mem_of_getElem? (i := 670) (by decide +kernel)) (by decide +kernel))⟩
theorem mX10_208 : OKV RX10 208 yX0_stepOf := ⟨(lw_G_in (List.mem_of_getElem? (i := 674) (by decide +kernel)) (by decide +kernel)), (lw_G_in (List.mem_of_getElem? (i := 675) (by decide +kernel)) (by decide +kernel)), (lw_G_in (List.mem_of_getElem? (i := 676) (by decide +kernel)) (by decide +kernel))⟩
theorem mX10_210 : OKV RX10 210 yX3_forget := ⟨(lw_G_in (List.mem_of_getElem? (i := 684) (by decide +kernel)) (by decide +kernel)), (lw_G_in (List.mem_of_getElem? (i := 685) (by decide +kernel)) (by decide +kernel)), (lw_G_in (List.mem_of_getElem? (i := 686) (by decide +kernel)) (by decide +kernel))⟩
theorem mX10_219 : OKV RX10 219 yX3_addPair := ⟨(lw_G_in (List.mem_of_getElem? (i := 688) (by decide +kernel)) (by decide +kernel)), (lw_G_in (List.mem_of_getElem? (i := 689) (by decide +kernel)) (by decide +kernel)), (lw_G_in (List.mem_of_getElem? (i := 690) (by decide +kernel)) (by decide +kernel))⟩
theorem mX10_223 : OKV RX10 223 yX3_number := ⟨(lw_G_in (List.mem_of_getElem? (i := 710) (by decide +kernel)) (by decide +kernel)), (lw_G_in (List.mem_of_getElem? (i := 711) (by decide +kernel)) (by decide +kernel)), (lw_G_in (List.mem_of_getElem? (i := 712) (by decide +kernel)) (by decide +kernel))⟩
theorem mX10_226 : OKV RX10 226 yX0_end := ⟨(lw_G_in (List.mem_of_getElem? (i := 718) (by decide +kernel)) (by decide +kernel)), (lw_G_in (List.mem_of_getElem? (i := 719) (by decide +kernel)) (by decide +kernel)), (lw_G_in (List.mem_of_getElem? (i := 720) (by decide +kernel)) (by decide +kernel))⟩
theorem mX10_229 : OKV RX10 229 yX0_mostAtOnce := ⟨(lw_G_in (List.mem_of_getElem? (i := 724) (by decide +kernel)) (by decide +kernel)), (lw_G_in (List.mem_of_getElem? (i := 725) (by decide +kernel)) (by decide +kernel)), (lw_G_in (List.mem_of_getElem? (i := 726) (by decide +kernel)) (by decide +kernel))⟩
theorem mX10_232 : OKV RX10 232 yX0_countFaults := ⟨(lw_G_in (List.mem_of_getElem? (i := 729) (by decide +kernel)) (by decide +kernel)), (lw_G_in (List.mem_of_getElem? (i := 730) (by decide +kernel)) (by decide +kernel)), (lw_G_in (List.mem_of_getElem? (i := 731) (by decide +kernel)) (by decide +kernel))⟩
theorem mX10_236 : OKV RX10 236 yX0_firstFaultTick := ⟨(lw_G_in (List.mem_of_getElem? (i := 739) (by decide +kernel)) (by decide +kernel)), (lw_G_in (List.mem_of_getElem? (i := 740) (by decide +kernel)) (by decide +kernel)), (lw_G_in (List.mem_of_getElem? (i := 741) (by decide +kernel)) (by decide +kernel))⟩
theorem mX10_239 : OKV RX10 239 yX0_leastKindAt := ⟨(lw_G_in (List.mem_of_getElem? (i := 752) (by decide +kernel)) (by decide +kernel)), (lw_G_in (List.mem_of_getElem? (i := 744) (by decide +kernel)) (by decide +kernel)), (lw_G_in (List.mem_of_getElem? (i := 745) (by decide +kernel)) (by decide +kernel))⟩
theorem mX10_242 : OKV RX10 242 yX0_firstPairAt := ⟨(lw_G_in (List.mem_of_getElem? (i := 753) (by decide +kernel)) (by decide +kernel)), (lw_G_in (List.mem_of_getElem? (i := 748) (by decide +kernel)) (by decide +kernel)), (lw_G_in (List.mem_of_getElem? (i := 749) (by decide +kernel)) (by decide +kernel))⟩
theorem mX10_245 : OKV RX10 245 yX10_formStretto := ⟨(lw_G_in (List.mem_of_getElem? (i := 758) (by decide +kernel)) (by decide +kernel)), (lw_G_in (List.mem_of_getElem? (i := 760) (by decide +kernel)) (by decide +kernel)), (lw_G_in (List.mem_of_getElem? (i := 2) (by decide +kernel)) (by decide +kernel))⟩
theorem mX10_249 : OKV RX10 249 yX10_strettoFits := ⟨(lw_G_in (List.mem_of_getElem? (i := 762) (by decide +kernel)) (by decide +kernel)), (lw_G_in (List.mem_of_getElem? (i := 764) (by decide +kernel)) (by decide +kernel)), (lw_G_in (List.mem_of_getElem? (i := 3) (by decide +kernel)) (by decide +kernel))⟩
theorem mX10_252 : OKV RX10 252 yX10_closestStretto := ⟨(lw_G_in (List.mem_of_getElem? (i := 774) (by decide +kernel)) (by decide +kernel)), (lw_G_in (List.mem_of_getElem? (i := 776) (by decide +kernel)) (by decide +kernel)), (lw_G_in (List.mem_of_getElem? (i := 4) (by decide +kernel)) (by decide +kernel))⟩
theorem mX10_255 : OKS RX10 255 yX10_areTwoLines := ⟨(lw_G_in (List.mem_of_getElem? (i := 785) (by decide +kernel)) (by decide +kernel)), (lw_G_in (List.mem_of_getElem? (i := 786) (by decide +kernel)) (by decide +kernel))⟩
theorem mX10_259 : OKV RX10 259 yX10_invertsWell := ⟨(lw_G_in (List.mem_of_getElem? (i := 788) (by decide +kernel)) (by decide +kernel)), (lw_G_in (List.mem_of_getElem? (i := 790) (by decide +kernel)) (by decide +kernel)), (lw_G_in (List.mem_of_getElem? (i := 5) (by decide +kernel)) (by decide +kernel))⟩
theorem mX10_262 : OKS RX10 262 yX10_areRowVoices := ⟨(lw_G_in (List.mem_of_getElem? (i := 800) (by decide +kernel)) (by decide +kernel)), (lw_G_in (List.mem_of_getElem? (i := 801) (by decide +kernel)) (by decide +kernel))⟩
theorem mX10_265 : OKV RX10 265 yX10_takesRow := ⟨(lw_G_in (List.mem_of_getElem? (i := 803) (by decide +kernel)) (by decide +kernel)), (lw_G_in (List.mem_of_getElem? (i := 805) (by decide +kernel)) (by decide +kernel)), (lw_G_in (List.mem_of_getElem? (i := 6) (by decide +kernel)) (by decide +kernel))⟩
theorem mX10_268 : OKV RX10 268 yX5_isEmpty := ⟨(lw_G_in (List.mem_of_getElem? (i := 807) (by decide +kernel)) (by decide +kernel)), (lw_G_in (List.mem_of_getElem? (i := 570) (by decide +kernel)) (by decide +kernel)), (lw_G_in (List.mem_of_getElem? (i := 571) (by decide +kernel)) (by decide +kernel))⟩
theorem mX10_272 : OKV RX10 272 yX10_rowFaults := ⟨(lw_G_in (List.mem_of_getElem? (i := 808) (by decide +kernel)) (by decide +kernel)), (lw_G_in (List.mem_of_getElem? (i := 810) (by decide +kernel)) (by decide +kernel)), (lw_G_in (List.mem_of_getElem? (i := 7) (by decide +kernel)) (by decide +kernel))⟩
theorem mX10_275 : OKV RX10 275 yX10_bestRow := ⟨(lw_G_in (List.mem_of_getElem? (i := 821) (by decide +kernel)) (by decide +kernel)), (lw_G_in (List.mem_of_getElem? (i := 823) (by decide +kernel)) (by decide +kernel)), (lw_G_in (List.mem_of_getElem? (i := 9) (by decide +kernel)) (by decide +kernel))⟩
theorem mX10_278 : OKV RX10 278 yX10_layRow := ⟨(lw_G_in (List.mem_of_getElem? (i := 812) (by decide +kernel)) (by decide +kernel)), (lw_G_in (List.mem_of_getElem? (i := 814) (by decide +kernel)) (by decide +kernel)), (lw_G_in (List.mem_of_getElem? (i := 8) (by decide +kernel)) (by decide +kernel))⟩
theorem mX10_282 : OKV RX10 282 yX1_copyFrom := ⟨(lw_G_in (List.mem_of_getElem? (i := 840) (by decide +kernel)) (by decide +kernel)), (lw_G_in (List.mem_of_getElem? (i := 424) (by decide +kernel)) (by decide +kernel)), (lw_G_in (List.mem_of_getElem? (i := 425) (by decide +kernel)) (by decide +kernel))⟩
theorem mX10_286 : OKS RX10 286 yX10_isKey := ⟨(lw_G_in (List.mem_of_getElem? (i := 845) (by decide +kernel)) (by decide +kernel)), (lw_G_in (List.mem_of_getElem? (i := 536) (by decide +kernel)) (by decide +kernel))⟩
theorem mX10_289 : OKS RX10 289 yX10_wayBetween := ⟨(lw_G_in (List.mem_of_getElem? (i := 846) (by decide +kernel)) (by decide +kernel)), (lw_G_in (List.mem_of_getElem? (i := 847) (by decide +kernel)) (by decide +kernel))⟩
theorem mX10_292 : OKS RX10 292 yX10_roadBetween := ⟨(lw_G_in (List.mem_of_getElem? (i := 861) (by decide +kernel)) (by decide +kernel)), (lw_G_in (List.mem_of_getElem? (i := 862) (by decide +kernel)) (by decide +kernel))⟩
theorem mX10_295 : OKV RX10 295 yX6_addVisit := ⟨(lw_G_in (List.mem_of_getElem? (i := 868) (by decide +kernel)) (by decide +kernel)), (lw_G_in (List.mem_of_getElem? (i := 869) (by decide +kernel)) (by decide +kernel)), (lw_G_in (List.mem_of_getElem? (i := 870) (by decide +kernel)) (by decide +kernel))⟩
theorem mX10_298 : OKV RX10 298 yX6_removeVisit := ⟨(lw_G_in (List.mem_of_getElem? (i := 880) (by decide +kernel)) (by decide +kernel)), (lw_G_in (List.mem_of_getElem? (i := 881) (by decide +kernel)) (by decide +kernel)), (lw_G_in (List.mem_of_getElem? (i := 882) (by decide +kernel)) (by decide +kernel))⟩
theorem mX10_304 : OKV RX10 304 yX9_find := ⟨(lw_G_in (List.mem_of_getElem? (i := 888) (by decide +kernel)) (by decide +kernel)), (lw_G_in (List.mem_of_getElem? (i := 889) (by decide +kernel)) (by decide +kernel)), (lw_G_in (List.mem_of_getElem? (i := 890) (by decide +kernel)) (by decide +kernel))⟩
theorem mX10_313 : OKV RX10 313 yX7_append := ⟨(lw_G_in (List.mem_of_getElem? (i := 907) (by decide +kernel)) (by decide +kernel)), (lw_G_in (List.mem_of_getElem? (i := 908) (by decide +kernel)) (by decide +kernel)), (lw_G_in (List.mem_of_getElem? (i := 909) (by decide +kernel)) (by decide +kernel))⟩
theorem mX10_316 : OKV RX10 316 yX7_parse := ⟨(lw_G_in (List.mem_of_getElem? (i := 919) (by decide +kernel)) (by decide +kernel)), (lw_G_in (List.mem_of_getElem? (i := 920) (by decide +kernel)) (by decide +kernel)), (lw_G_in (List.mem_of_getElem? (i := 921) (by decide +kernel)) (by decide +kernel))⟩
theorem mX10_322 : OKV RX10 322 yX10_isDone := ⟨(lw_G_in (List.mem_of_getElem? (i := 982) (by decide +kernel)) (by decide +kernel)), (lw_G_in (List.mem_of_getElem? (i := 984) (by decide +kernel)) (by decide +kernel)), (lw_G_in (List.mem_of_getElem? (i := 27) (by decide +kernel)) (by decide +kernel))⟩
theorem mX10_325 : OKV RX10 325 yX4_giveBack := ⟨(lw_G_in (List.mem_of_getElem? (i := 1010) (by decide +kernel)) (by decide +kernel)), (lw_G_in (List.mem_of_getElem? (i := 1011) (by decide +kernel)) (by decide +kernel)), (lw_G_in (List.mem_of_getElem? (i := 1012) (by decide +kernel)) (by decide +kernel))⟩
theorem mX10_346 : OKV RX10 346 yX10_told := ⟨(lw_G_in (List.mem_of_getElem? (i := 1024) (by decide +kernel)) (by decide +kernel)), (lw_G_in (List.mem_of_getElem? (i := 1015) (by decide +kernel)) (by decide +kernel)), (lw_G_in (List.mem_of_getElem? (i := 1016) (by decide +kernel)) (by decide +kernel))⟩
theorem mX10_349 : OKV RX10 349 yX10_lineDigest := ⟨(lw_G_in (List.mem_of_getElem? (i := 1025) (by decide +kernel)) (by decide +kernel)), (lw_G_in (List.mem_of_getElem? (i := 1027) (by decide +kernel)) (by decide +kernel)), (lw_G_in (List.mem_of_getElem? (i := 30) (by decide +kernel)) (by decide +kernel))⟩
theorem mX10_353 : OKV RX10 353 yX10_entry := ⟨(lw_G_in (List.mem_of_getElem? (i := 1031) (by decide +kernel)) (by decide +kernel)), (lw_G_in (List.mem_of_getElem? (i := 659) (by decide +kernel)) (by decide +kernel)), (lw_G_in (List.mem_of_getElem? (i := 660) (by decide +kernel)) (by decide +kernel))⟩
theorem mX10_356 : OKV RX10 356 yX10_all := ⟨(lw_G_in (List.mem_of_getElem? (i := 1032) (by decide +kernel)) (by decide +kernel)), (lw_G_in (List.mem_of_getElem? (i := 715) (by decide +kernel)) (by decide +kernel)), (lw_G_in (List.mem_of_getElem? (i := 716) (by decide +kernel)) (by decide +kernel))⟩
theorem mX10_359 : OKV RX10 359 yX10_path := ⟨(lw_G_in (List.mem_of_getElem? (i := 1033) (by decide +kernel)) (by decide +kernel)), (lw_G_in (List.mem_of_getElem? (i := 885) (by decide +kernel)) (by decide +kernel)), (lw_G_in (List.mem_of_getElem? (i := 886) (by decide +kernel)) (by decide +kernel))⟩
theorem mX10_362 : OKV RX10 362 yX10_line := ⟨(lw_G_in (List.mem_of_getElem? (i := 1029) (by decide +kernel)) (by decide +kernel)), (lw_G_in (List.mem_of_getElem? (i := 561) (by decide +kernel)) (by decide +kernel)), (lw_G_in (List.mem_of_getElem? (i := 562) (by decide +kernel)) (by decide +kernel))⟩
theorem mX10_364 : OKV RX10 364 yX10_noteOf := ⟨(lw_G_in (List.mem_of_getElem? (i := 1030) (by decide +kernel)) (by decide +kernel)), (lw_G_in (List.mem_of_getElem? (i := 539) (by decide +kernel)) (by decide +kernel)), (lw_G_in (List.mem_of_getElem? (i := 540) (by decide +kernel)) (by decide +kernel))⟩
theorem mX10_367 : OKV RX10 367 yX4_keep := ⟨(lw_G_in (List.mem_of_getElem? (i := 467) (by decide +kernel)) (by decide +kernel)), (lw_G_in (List.mem_of_getElem? (i := 468) (by decide +kernel)) (by decide +kernel)), (lw_G_in (List.mem_of_getElem? (i := 469) (by decide +kernel)) (by decide +kernel))⟩
theorem mX10_370 : OKS RX10 370 yX10_nearMove := ⟨(lw_G_in (List.mem_of_getElem? (i := 778) (by decide +kernel)) (by decide +kernel)), (lw_G_in (List.mem_of_getElem? (i := 779) (by decide +kernel)) (by decide +kernel))⟩
theorem mX10_373 : OKV RX10 373 yX1_append := ⟨(lw_G_in (List.mem_of_getElem? (i := 816) (by decide +kernel)) (by decide +kernel)), (lw_G_in (List.mem_of_getElem? (i := 636) (by decide +kernel)) (by decide +kernel)), (lw_G_in (List.mem_of_getElem? (i := 637) (by decide +kernel)) (by decide +kernel))⟩
theorem mX10_376 : OKV RX10 376 yX10_rowNumber := ⟨(lw_G_in (List.mem_of_getElem? (i := 825) (by decide +kernel)) (by decide +kernel)), (lw_G_in (List.mem_of_getElem? (i := 827) (by decide +kernel)) (by decide +kernel)), (lw_G_in (List.mem_of_getElem? (i := 10) (by decide +kernel)) (by decide +kernel))⟩
theorem mX10_379 : OKS RX10 379 yX10_toNextRow := ⟨(lw_G_in (List.mem_of_getElem? (i := 829) (by decide +kernel)) (by decide +kernel)), (lw_G_in (List.mem_of_getElem? (i := 830) (by decide +kernel)) (by decide +kernel))⟩
theorem mX10_383 : OKS RX10 383 yJ9_min_7cf53 := ⟨(lw_G_in (List.mem_of_getElem? (i := 835) (by decide +kernel)) (by decide +kernel)), (lw_G_in (List.mem_of_getElem? (i := 512) (by decide +kernel)) (by decide +kernel))⟩
theorem mX10_388 : OKS RX10 388 yX10_exchange := ⟨(lw_G_in (List.mem_of_getElem? (i := 832) (by decide +kernel)) (by decide +kernel)), (lw_G_in (List.mem_of_getElem? (i := 833) (by decide +kernel)) (by decide +kernel))⟩
theorem mX10_392 : OKS RX10 392 yJ9_floorMod_7cf53 := ⟨(lw_G_in (List.mem_of_getElem? (i := 855) (by decide +kernel)) (by decide +kernel)), (lw_G_in (List.mem_of_getElem? (i := 558) (by decide +kernel)) (by decide +kernel))⟩
theorem mX10_395 : OKS RX10 395 yX10_modeOf := ⟨(lw_G_in (List.mem_of_getElem? (i := 849) (by decide +kernel)) (by decide +kernel)), (lw_G_in (List.mem_of_getElem? (i := 850) (by decide +kernel)) (by decide +kernel))⟩
theorem mX10_398 : OKS RX10 398 yX10_turns := ⟨(lw_G_in (List.mem_of_getElem? (i := 852) (by decide +kernel)) (by decide +kernel)), (lw_G_in (List.mem_of_getElem? (i := 853) (by decide +kernel)) (by decide +kernel))⟩
theorem mX10_401 : OKS RX10 401 yJ9_max_7cf53 := ⟨(lw_G_in (List.mem_of_getElem? (i := 856) (by decide +kernel)) (by decide +kernel)), (lw_G_in (List.mem_of_getElem? (i := 515) (by decide +kernel)) (by decide +kernel))⟩
theorem mX10_404 : OKV RX10 404 yX7_firstNumber := ⟨(lw_G_in (List.mem_of_getElem? (i := 986) (by decide +kernel)) (by decide +kernel)), (lw_G_in (List.mem_of_getElem? (i := 987) (by decide +kernel)) (by decide +kernel)), (lw_G_in (List.mem_of_getElem? (i := 988) (by decide +kernel)) (by decide +kernel))⟩
theorem mX10_407 : OKV RX10 407 yX7_letter := ⟨(lw_G_in (List.mem_of_getElem? (i := 990) (by decide +kernel)) (by decide +kernel)), (lw_G_in (List.mem_of_getElem? (i := 991) (by decide +kernel)) (by decide +kernel)), (lw_G_in (List.mem_of_getElem? (i := 992) (by decide +kernel)) (by decide +kernel))⟩
theorem mX10_410 : OKV RX10 410 yX10_lineIsDone := ⟨(lw_G_in (List.mem_of_getElem? (i := 994) (by decide +kernel)) (by decide +kernel)), (lw_G_in (List.mem_of_getElem? (i := 996) (by decide +kernel)) (by decide +kernel)), (lw_G_in (List.mem_of_getElem? (i := 28) (by decide +kernel)) (by decide +kernel))⟩
theorem mX10_413 : OKV RX10 413 yX7_number := ⟨(lw_G_in (List.mem_of_getElem? (i := 998) (by decide +kernel)) (by decide +kernel)), (lw_G_in (List.mem_of_getElem? (i := 999) (by decide +kernel)) (by decide +kernel)), (lw_G_in (List.mem_of_getElem? (i := 1000) (by decide +kernel)) (by decide +kernel))⟩
theorem mX10_414 : OKV RX10 414 yX10_visitsAreDone := ⟨(lw_G_in (List.mem_of_getElem? (i := 1002) (by decide +kernel)) (by decide +kernel)), (lw_G_in (List.mem_of_getElem? (i := 1004) (by decide +kernel)) (by decide +kernel)), (lw_G_in (List.mem_of_getElem? (i := 29) (by decide +kernel)) (by decide +kernel))⟩
theorem mX0_39 : OKV RX0 39 yX6_form := ⟨(lw_G_in (List.mem_of_getElem? (i := 672) (by decide +kernel)) (by decide +kernel)), (lw_G_in (List.mem_of_getElem? (i := 589) (by decide +kernel)) (by decide +kernel)), (lw_G_in (List.mem_of_getElem? (i := 590) (by decide +kernel)) (by decide +kernel))⟩
theorem mX0_50 : OKV RX0 50 yX8_place := ⟨(lw_G_in (List.mem_of_getElem? (i := 673) (by decide +kernel)) (by decide +kernel)), (lw_G_in (List.mem_of_getElem? (i := 602) (by decide +kernel)) (by decide +kernel)), (lw_G_in (List.mem_of_getElem? (i := 603) (by decide +kernel)) (by decide +kernel))⟩
theorem mX0_55 : OKV RX0 55 yX8_isHeardAt := ⟨(lw_G_in (List.mem_of_getElem? (i := 678) (by decide +kernel)) (by decide +kernel)), (lw_G_in (List.mem_of_getElem? (i := 610) (by decide +kernel)) (by decide +kernel)), (lw_G_in (List.mem_of_getElem? (i := 611) (by decide +kernel)) (by decide +kernel))⟩
theorem mX0_59 : OKV RX0 59 yX8_stepAt := ⟨(lw_G_in (List.mem_of_getElem? (i := 679) (by decide +kernel)) (by decide +kernel)), (lw_G_in (List.mem_of_getElem? (i := 606) (by decide +kernel)) (by decide +kernel)), (lw_G_in (List.mem_of_getElem? (i := 607) (by decide +kernel)) (by decide +kernel))⟩
theorem mX0_63 : OKV RX0 63 yX8_end := ⟨(lw_G_in (List.mem_of_getElem? (i := 722) (by decide +kernel)) (by decide +kernel)), (lw_G_in (List.mem_of_getElem? (i := 693) (by decide +kernel)) (by decide +kernel)), (lw_G_in (List.mem_of_getElem? (i := 694) (by decide +kernel)) (by decide +kernel))⟩
theorem mX0_67 : OKS RX0 67 yJ9_max_7cf53 := ⟨(lw_G_in (List.mem_of_getElem? (i := 723) (by decide +kernel)) (by decide +kernel)), (lw_G_in (List.mem_of_getElem? (i := 515) (by decide +kernel)) (by decide +kernel))⟩
theorem mX0_73 : OKV RX0 73 yX0_end := ⟨(lw_G_in (List.mem_of_getElem? (i := 728) (by decide +kernel)) (by decide +kernel)), (lw_G_in (List.mem_of_getElem? (i := 719) (by decide +kernel)) (by decide +kernel)), (lw_G_in (List.mem_of_getElem? (i := 720) (by decide +kernel)) (by decide +kernel))⟩
theorem mX0_74 : OKV RX0 74 yX3_forget := ⟨(lw_G_in (List.mem_of_getElem? (i := 733) (by decide +kernel)) (by decide +kernel)), (lw_G_in (List.mem_of_getElem? (i := 685) (by decide +kernel)) (by decide +kernel)), (lw_G_in (List.mem_of_getElem? (i := 686) (by decide +kernel)) (by decide +kernel))⟩
theorem mX0_79 : OKV RX0 79 yX3_addPair := ⟨(lw_G_in (List.mem_of_getElem? (i := 734) (by decide +kernel)) (by decide +kernel)), (lw_G_in (List.mem_of_getElem? (i := 689) (by decide +kernel)) (by decide +kernel)), (lw_G_in (List.mem_of_getElem? (i := 690) (by decide +kernel)) (by decide +kernel))⟩
theorem mX0_83 : OKV RX0 83 yX0_leastKindAt := ⟨(lw_G_in (List.mem_of_getElem? (i := 743) (by decide +kernel)) (by decide +kernel)), (lw_G_in (List.mem_of_getElem? (i := 744) (by decide +kernel)) (by decide +kernel)), (lw_G_in (List.mem_of_getElem? (i := 745) (by decide +kernel)) (by decide +kernel))⟩
theorem mX0_86 : OKV RX0 86 yX0_firstPairAt := ⟨(lw_G_in (List.mem_of_getElem? (i := 747) (by decide +kernel)) (by decide +kernel)), (lw_G_in (List.mem_of_getElem? (i := 748) (by decide +kernel)) (by decide +kernel)), (lw_G_in (List.mem_of_getElem? (i := 749) (by decide +kernel)) (by decide +kernel))⟩
theorem mX0_90 : OKS RX0 90 yX3_kindsAt := ⟨(lw_G_in (List.mem_of_getElem? (i := 751) (by decide +kernel)) (by decide +kernel)), (lw_G_in (List.mem_of_getElem? (i := 699) (by decide +kernel)) (by decide +kernel))⟩
theorem mX1_18 : OKV RX1 18 yX2_copyFrom := ⟨(lw_G_in (List.mem_of_getElem? (i := 427) (by decide +kernel)) (by decide +kernel)), (lw_G_in (List.mem_of_getElem? (i := 428) (by decide +kernel)) (by decide +kernel)), (lw_G_in (List.mem_of_getElem? (i := 429) (by decide +kernel)) (by decide +kernel))⟩
theorem mX1_29 : OKV RX1 29 yX1_isFull := ⟨(lw_G_in (List.mem_of_getElem? (i := 639) (by decide +kernel)) (by decide +kernel)), (lw_G_in (List.mem_of_getElem? (i := 632) (by decide +kernel)) (by decide +kernel)), (lw_G_in (List.mem_of_getElem? (i := 633) (by decide +kernel)) (by decide +kernel))⟩
theorem mX1_33 : OKV RX1 33 yX2_be := ⟨(lw_G_in (List.mem_of_getElem? (i := 640) (by decide +kernel)) (by decide +kernel)), (lw_G_in (List.mem_of_getElem? (i := 432) (by decide +kernel)) (by decide +kernel)), (lw_G_in (List.mem_of_getElem? (i := 433) (by decide +kernel)) (by decide +kernel))⟩
theorem mX1_37 : OKV RX1 37 yX1_has := ⟨(lw_G_in (List.mem_of_getElem? (i := 657) (by decide +kernel)) (by decide +kernel)), (lw_G_in (List.mem_of_getElem? (i := 650) (by decide +kernel)) (by decide +kernel)), (lw_G_in (List.mem_of_getElem? (i := 651) (by decide +kernel)) (by decide +kernel))⟩
theorem mX2_25 : OKV RX2 25 yX2_be := ⟨(lw_G_in (List.mem_of_getElem? (i := 431) (by decide +kernel)) (by decide +kernel)), (lw_G_in (List.mem_of_getElem? (i := 432) (by decide +kernel)) (by decide +kernel)), (lw_G_in (List.mem_of_getElem? (i := 433) (by decide +kernel)) (by decide +kernel))⟩
theorem mX3_21 : OKV RX3 21 yX8_end := ⟨(lw_G_in (List.mem_of_getElem? (i := 692) (by decide +kernel)) (by decide +kernel)), (lw_G_in (List.mem_of_getElem? (i := 693) (by decide +kernel)) (by decide +kernel)), (lw_G_in (List.mem_of_getElem? (i := 694) (by decide +kernel)) (by decide +kernel))⟩
theorem mX3_27 : OKS RX3 27 yJ9_min_7cf53 := ⟨(lw_G_in (List.mem_of_getElem? (i := 696) (by decide +kernel)) (by decide +kernel)), (lw_G_in (List.mem_of_getElem? (i := 512) (by decide +kernel)) (by decide +kernel))⟩
theorem mX3_36 : OKS RX3 36 yJ9_max_7cf53 := ⟨(lw_G_in (List.mem_of_getElem? (i := 697) (by decide +kernel)) (by decide +kernel)), (lw_G_in (List.mem_of_getElem? (i := 515) (by decide +kernel)) (by decide +kernel))⟩
theorem mX3_39 : OKS RX3 39 yX3_kindsAt := ⟨(lw_G_in (List.mem_of_getElem? (i := 698) (by decide +kernel)) (by decide +kernel)), (lw_G_in (List.mem_of_getElem? (i := 699) (by decide +kernel)) (by decide +kernel))⟩
theorem mX3_46 : OKV RX3 46 yX8_isHeardAt := ⟨(lw_G_in (List.mem_of_getElem? (i := 701) (by decide +kernel)) (by decide +kernel)), (lw_G_in (List.mem_of_getElem? (i := 610) (by decide +kernel)) (by decide +kernel)), (lw_G_in (List.mem_of_getElem? (i := 611) (by decide +kernel)) (by decide +kernel))⟩
theorem mX3_50 : OKV RX3 50 yX8_stepAt := ⟨(lw_G_in (List.mem_of_getElem? (i := 702) (by decide +kernel)) (by decide +kernel)), (lw_G_in (List.mem_of_getElem? (i := 606) (by decide +kernel)) (by decide +kernel)), (lw_G_in (List.mem_of_getElem? (i := 607) (by decide +kernel)) (by decide +kernel))⟩
theorem mX3_54 : OKS RX3 54 yX3_isHarsh := ⟨(lw_G_in (List.mem_of_getElem? (i := 703) (by decide +kernel)) (by decide +kernel)), (lw_G_in (List.mem_of_getElem? (i := 704) (by decide +kernel)) (by decide +kernel))⟩
theorem mX3_58 : OKS RX3 58 yX3_isParallel := ⟨(lw_G_in (List.mem_of_getElem? (i := 707) (by decide +kernel)) (by decide +kernel)), (lw_G_in (List.mem_of_getElem? (i := 708) (by decide +kernel)) (by decide +kernel))⟩
theorem mX3_62 : OKS RX3 62 yJ9_floorMod_7cf53 := ⟨(lw_G_in (List.mem_of_getElem? (i := 706) (by decide +kernel)) (by decide +kernel)), (lw_G_in (List.mem_of_getElem? (i := 558) (by decide +kernel)) (by decide +kernel))⟩
theorem mX4_22 : OKV RX4 22 yX6_copyFrom := ⟨(lw_G_in (List.mem_of_getElem? (i := 471) (by decide +kernel)) (by decide +kernel)), (lw_G_in (List.mem_of_getElem? (i := 416) (by decide +kernel)) (by decide +kernel)), (lw_G_in (List.mem_of_getElem? (i := 417) (by decide +kernel)) (by decide +kernel))⟩
theorem mX5_22 : OKV RX5 22 yX5_isFull := ⟨(lw_G_in (List.mem_of_getElem? (i := 458) (by decide +kernel)) (by decide +kernel)), (lw_G_in (List.mem_of_getElem? (i := 451) (by decide +kernel)) (by decide +kernel)), (lw_G_in (List.mem_of_getElem? (i := 452) (by decide +kernel)) (by decide +kernel))⟩
theorem mX5_26 : OKV RX5 26 yX5_has := ⟨(lw_G_in (List.mem_of_getElem? (i := 488) (by decide +kernel)) (by decide +kernel)), (lw_G_in (List.mem_of_getElem? (i := 481) (by decide +kernel)) (by decide +kernel)), (lw_G_in (List.mem_of_getElem? (i := 482) (by decide +kernel)) (by decide +kernel))⟩
theorem mX5_30 : OKV RX5 30 yX5_tickBefore := ⟨(lw_G_in (List.mem_of_getElem? (i := 523) (by decide +kernel)) (by decide +kernel)), (lw_G_in (List.mem_of_getElem? (i := 524) (by decide +kernel)) (by decide +kernel)), (lw_G_in (List.mem_of_getElem? (i := 525) (by decide +kernel)) (by decide +kernel))⟩
theorem mX5_34 : OKV RX5 34 yX5_isEmpty := ⟨(lw_G_in (List.mem_of_getElem? (i := 569) (by decide +kernel)) (by decide +kernel)), (lw_G_in (List.mem_of_getElem? (i := 570) (by decide +kernel)) (by decide +kernel)), (lw_G_in (List.mem_of_getElem? (i := 571) (by decide +kernel)) (by decide +kernel))⟩
theorem mX5_37 : OKV RX5 37 yX5_stepOf := ⟨(lw_G_in (List.mem_of_getElem? (i := 573) (by decide +kernel)) (by decide +kernel)), (lw_G_in (List.mem_of_getElem? (i := 545) (by decide +kernel)) (by decide +kernel)), (lw_G_in (List.mem_of_getElem? (i := 546) (by decide +kernel)) (by decide +kernel))⟩
theorem mX5_40 : OKS RX5 40 yJ9_min_7cf53 := ⟨(lw_G_in (List.mem_of_getElem? (i := 574) (by decide +kernel)) (by decide +kernel)), (lw_G_in (List.mem_of_getElem? (i := 512) (by decide +kernel)) (by decide +kernel))⟩
theorem mX5_46 : OKS RX5 46 yJ9_max_7cf53 := ⟨(lw_G_in (List.mem_of_getElem? (i := 579) (by decide +kernel)) (by decide +kernel)), (lw_G_in (List.mem_of_getElem? (i := 515) (by decide +kernel)) (by decide +kernel))⟩
theorem mX5_49 : OKS RX5 49 yJ9_floorMod_7cf53 := ⟨(lw_G_in (List.mem_of_getElem? (i := 557) (by decide +kernel)) (by decide +kernel)), (lw_G_in (List.mem_of_getElem? (i := 558) (by decide +kernel)) (by decide +kernel))⟩
theorem mX6_36 : OKV RX6 36 yX5_copyFrom := ⟨(lw_G_in (List.mem_of_getElem? (i := 419) (by decide +kernel)) (by decide +kernel)), (lw_G_in (List.mem_of_getElem? (i := 420) (by decide +kernel)) (by decide +kernel)), (lw_G_in (List.mem_of_getElem? (i := 421) (by decide +kernel)) (by decide +kernel))⟩
theorem mX6_40 : OKV RX6 40 yX1_copyFrom := ⟨(lw_G_in (List.mem_of_getElem? (i := 423) (by decide +kernel)) (by decide +kernel)), (lw_G_in (List.mem_of_getElem? (i := 424) (by decide +kernel)) (by decide +kernel)), (lw_G_in (List.mem_of_getElem? (i := 425) (by decide +kernel)) (by decide +kernel))⟩
theorem mX6_52 : OKSN RX6 "FuguePlan" 52 yX10_isLine := ⟨List.mem_filter.mpr ⟨List.mem_of_getElem? (i := 439) (by decide +kernel), rfl⟩, (lw_G_in (List.mem_of_getElem? (i := 440) (by decide +kernel)) (by decide +kernel))⟩
theorem mX6_56 : OKSN RX6 "FuguePlan" 56 yX10_within := ⟨List.mem_filter.mpr ⟨List.mem_of_getElem? (i := 445) (by decide +kernel), rfl⟩, (lw_G_in (List.mem_of_getElem? (i := 443) (by decide +kernel)) (by decide +kernel))⟩
theorem mX6_60 : OKV RX6 60 yX1_having := ⟨(lw_G_in (List.mem_of_getElem? (i := 446) (by decide +kernel)) (by decide +kernel)), (lw_G_in (List.mem_of_getElem? (i := 447) (by decide +kernel)) (by decide +kernel)), (lw_G_in (List.mem_of_getElem? (i := 448) (by decide +kernel)) (by decide +kernel))⟩
theorem mX6_64 : OKV RX6 64 yX5_isFull := ⟨(lw_G_in (List.mem_of_getElem? (i := 450) (by decide +kernel)) (by decide +kernel)), (lw_G_in (List.mem_of_getElem? (i := 451) (by decide +kernel)) (by decide +kernel)), (lw_G_in (List.mem_of_getElem? (i := 452) (by decide +kernel)) (by decide +kernel))⟩
theorem mX6_68 : OKV RX6 68 yX5_append := ⟨(lw_G_in (List.mem_of_getElem? (i := 454) (by decide +kernel)) (by decide +kernel)), (lw_G_in (List.mem_of_getElem? (i := 455) (by decide +kernel)) (by decide +kernel)), (lw_G_in (List.mem_of_getElem? (i := 456) (by decide +kernel)) (by decide +kernel))⟩
theorem mX6_75 : OKV RX6 75 yX5_has := ⟨(lw_G_in (List.mem_of_getElem? (i := 480) (by decide +kernel)) (by decide +kernel)), (lw_G_in (List.mem_of_getElem? (i := 481) (by decide +kernel)) (by decide +kernel)), (lw_G_in (List.mem_of_getElem? (i := 482) (by decide +kernel)) (by decide +kernel))⟩
theorem mX6_78 : OKV RX6 78 yX5_remove := ⟨(lw_G_in (List.mem_of_getElem? (i := 484) (by decide +kernel)) (by decide +kernel)), (lw_G_in (List.mem_of_getElem? (i := 485) (by decide +kernel)) (by decide +kernel)), (lw_G_in (List.mem_of_getElem? (i := 486) (by decide +kernel)) (by decide +kernel))⟩
theorem mX6_93 : OKS RX6 93 yJ9_min_7cf53 := ⟨(lw_G_in (List.mem_of_getElem? (i := 511) (by decide +kernel)) (by decide +kernel)), (lw_G_in (List.mem_of_getElem? (i := 512) (by decide +kernel)) (by decide +kernel))⟩
theorem mX6_99 : OKS RX6 99 yJ9_max_7cf53 := ⟨(lw_G_in (List.mem_of_getElem? (i := 514) (by decide +kernel)) (by decide +kernel)), (lw_G_in (List.mem_of_getElem? (i := 515) (by decide +kernel)) (by decide +kernel))⟩
theorem mX6_106 : OKV RX6 106 yX5_length := ⟨(lw_G_in (List.mem_of_getElem? (i := 519) (by decide +kernel)) (by decide +kernel)), (lw_G_in (List.mem_of_getElem? (i := 520) (by decide +kernel)) (by decide +kernel)), (lw_G_in (List.mem_of_getElem? (i := 521) (by decide +kernel)) (by decide +kernel))⟩
theorem mX6_110 : OKSN RX6 "FuguePlan" 110 yX10_isKey := ⟨List.mem_filter.mpr ⟨List.mem_of_getElem? (i := 535) (by decide +kernel), rfl⟩, (lw_G_in (List.mem_of_getElem? (i := 536) (by decide +kernel)) (by decide +kernel))⟩
theorem mX6_113 : OKSN RX6 "FuguePlan" 113 yX10_isFormed := ⟨List.mem_filter.mpr ⟨List.mem_of_getElem? (i := 621) (by decide +kernel), rfl⟩, (lw_G_in (List.mem_of_getElem? (i := 586) (by decide +kernel)) (by decide +kernel))⟩
theorem mX6_116 : OKV RX6 116 yX5_isEmpty := ⟨(lw_G_in (List.mem_of_getElem? (i := 622) (by decide +kernel)) (by decide +kernel)), (lw_G_in (List.mem_of_getElem? (i := 570) (by decide +kernel)) (by decide +kernel)), (lw_G_in (List.mem_of_getElem? (i := 571) (by decide +kernel)) (by decide +kernel))⟩
theorem mX6_119 : OKV RX6 119 yX6_lengthOf := ⟨(lw_G_in (List.mem_of_getElem? (i := 623) (by decide +kernel)) (by decide +kernel)), (lw_G_in (List.mem_of_getElem? (i := 624) (by decide +kernel)) (by decide +kernel)), (lw_G_in (List.mem_of_getElem? (i := 625) (by decide +kernel)) (by decide +kernel))⟩
theorem mX6_122 : OKV RX6 122 yX6_isFree := ⟨(lw_G_in (List.mem_of_getElem? (i := 627) (by decide +kernel)) (by decide +kernel)), (lw_G_in (List.mem_of_getElem? (i := 628) (by decide +kernel)) (by decide +kernel)), (lw_G_in (List.mem_of_getElem? (i := 629) (by decide +kernel)) (by decide +kernel))⟩
theorem mX6_125 : OKV RX6 125 yX1_isFull := ⟨(lw_G_in (List.mem_of_getElem? (i := 631) (by decide +kernel)) (by decide +kernel)), (lw_G_in (List.mem_of_getElem? (i := 632) (by decide +kernel)) (by decide +kernel)), (lw_G_in (List.mem_of_getElem? (i := 633) (by decide +kernel)) (by decide +kernel))⟩
theorem mX6_126 : OKV RX6 126 yX1_append := ⟨(lw_G_in (List.mem_of_getElem? (i := 635) (by decide +kernel)) (by decide +kernel)), (lw_G_in (List.mem_of_getElem? (i := 636) (by decide +kernel)) (by decide +kernel)), (lw_G_in (List.mem_of_getElem? (i := 637) (by decide +kernel)) (by decide +kernel))⟩
theorem mX6_130 : OKV RX6 130 yX1_has := ⟨(lw_G_in (List.mem_of_getElem? (i := 649) (by decide +kernel)) (by decide +kernel)), (lw_G_in (List.mem_of_getElem? (i := 650) (by decide +kernel)) (by decide +kernel)), (lw_G_in (List.mem_of_getElem? (i := 651) (by decide +kernel)) (by decide +kernel))⟩
theorem mX6_131 : OKV RX6 131 yX1_remove := ⟨(lw_G_in (List.mem_of_getElem? (i := 653) (by decide +kernel)) (by decide +kernel)), (lw_G_in (List.mem_of_getElem? (i := 654) (by decide +kernel)) (by decide +kernel)), (lw_G_in (List.mem_of_getElem? (i := 655) (by decide +kernel)) (by decide +kernel))⟩
theorem mX6_132 : OKV RX6 132 yX6_visitOf := ⟨(lw_G_in (List.mem_of_getElem? (i := 872) (by decide +kernel)) (by decide +kernel)), (lw_G_in (List.mem_of_getElem? (i := 873) (by decide +kernel)) (by decide +kernel)), (lw_G_in (List.mem_of_getElem? (i := 874) (by decide +kernel)) (by decide +kernel))⟩
theorem mX6_157 : OKV RX6 157 yX5_formedStep := ⟨(lw_G_in (List.mem_of_getElem? (i := 592) (by decide +kernel)) (by decide +kernel)), (lw_G_in (List.mem_of_getElem? (i := 554) (by decide +kernel)) (by decide +kernel)), (lw_G_in (List.mem_of_getElem? (i := 555) (by decide +kernel)) (by decide +kernel))⟩
theorem mX6_161 : OKV RX6 161 yX5_formedTicks := ⟨(lw_G_in (List.mem_of_getElem? (i := 593) (by decide +kernel)) (by decide +kernel)), (lw_G_in (List.mem_of_getElem? (i := 594) (by decide +kernel)) (by decide +kernel)), (lw_G_in (List.mem_of_getElem? (i := 595) (by decide +kernel)) (by decide +kernel))⟩
theorem mX6_164 : OKV RX6 164 yX8_append := ⟨(lw_G_in (List.mem_of_getElem? (i := 597) (by decide +kernel)) (by decide +kernel)), (lw_G_in (List.mem_of_getElem? (i := 598) (by decide +kernel)) (by decide +kernel)), (lw_G_in (List.mem_of_getElem? (i := 599) (by decide +kernel)) (by decide +kernel))⟩
theorem mX7_40 : OKV RX7 40 yX7_skipBlanks := ⟨(lw_G_in (List.mem_of_getElem? (i := 923) (by decide +kernel)) (by decide +kernel)), (lw_G_in (List.mem_of_getElem? (i := 925) (by decide +kernel)) (by decide +kernel)), (lw_G_in (List.mem_of_getElem? (i := 13) (by decide +kernel)) (by decide +kernel))⟩
theorem mX7_43 : OKV RX7 43 yX7_parseOrder := ⟨(lw_G_in (List.mem_of_getElem? (i := 927) (by decide +kernel)) (by decide +kernel)), (lw_G_in (List.mem_of_getElem? (i := 929) (by decide +kernel)) (by decide +kernel)), (lw_G_in (List.mem_of_getElem? (i := 14) (by decide +kernel)) (by decide +kernel))⟩
theorem mX7_46 : OKV RX7 46 yX7_byteHere := ⟨(lw_G_in (List.mem_of_getElem? (i := 931) (by decide +kernel)) (by decide +kernel)), (lw_G_in (List.mem_of_getElem? (i := 933) (by decide +kernel)) (by decide +kernel)), (lw_G_in (List.mem_of_getElem? (i := 15) (by decide +kernel)) (by decide +kernel))⟩
theorem mX7_50 : OKV RX7 50 yX7_fail := ⟨(lw_G_in (List.mem_of_getElem? (i := 935) (by decide +kernel)) (by decide +kernel)), (lw_G_in (List.mem_of_getElem? (i := 937) (by decide +kernel)) (by decide +kernel)), (lw_G_in (List.mem_of_getElem? (i := 16) (by decide +kernel)) (by decide +kernel))⟩
theorem mX7_54 : OKV RX7 54 yX7_open := ⟨(lw_G_in (List.mem_of_getElem? (i := 939) (by decide +kernel)) (by decide +kernel)), (lw_G_in (List.mem_of_getElem? (i := 941) (by decide +kernel)) (by decide +kernel)), (lw_G_in (List.mem_of_getElem? (i := 17) (by decide +kernel)) (by decide +kernel))⟩
theorem mX7_57 : OKV RX7 57 yX7_parseLine := ⟨(lw_G_in (List.mem_of_getElem? (i := 943) (by decide +kernel)) (by decide +kernel)), (lw_G_in (List.mem_of_getElem? (i := 945) (by decide +kernel)) (by decide +kernel)), (lw_G_in (List.mem_of_getElem? (i := 18) (by decide +kernel)) (by decide +kernel))⟩
theorem mX7_60 : OKV RX7 60 yX7_parseEntry := ⟨(lw_G_in (List.mem_of_getElem? (i := 966) (by decide +kernel)) (by decide +kernel)), (lw_G_in (List.mem_of_getElem? (i := 968) (by decide +kernel)) (by decide +kernel)), (lw_G_in (List.mem_of_getElem? (i := 23) (by decide +kernel)) (by decide +kernel))⟩
theorem mX7_63 : OKV RX7 63 yX7_parseKeys := ⟨(lw_G_in (List.mem_of_getElem? (i := 970) (by decide +kernel)) (by decide +kernel)), (lw_G_in (List.mem_of_getElem? (i := 972) (by decide +kernel)) (by decide +kernel)), (lw_G_in (List.mem_of_getElem? (i := 24) (by decide +kernel)) (by decide +kernel))⟩
theorem mX7_66 : OKV RX7 66 yX7_parseNumber := ⟨(lw_G_in (List.mem_of_getElem? (i := 947) (by decide +kernel)) (by decide +kernel)), (lw_G_in (List.mem_of_getElem? (i := 949) (by decide +kernel)) (by decide +kernel)), (lw_G_in (List.mem_of_getElem? (i := 19) (by decide +kernel)) (by decide +kernel))⟩
theorem mX7_70 : OKV RX7 70 yX7_parseEnd := ⟨(lw_G_in (List.mem_of_getElem? (i := 978) (by decide +kernel)) (by decide +kernel)), (lw_G_in (List.mem_of_getElem? (i := 980) (by decide +kernel)) (by decide +kernel)), (lw_G_in (List.mem_of_getElem? (i := 26) (by decide +kernel)) (by decide +kernel))⟩
theorem mX7_73 : OKV RX7 73 yX7_isNext := ⟨(lw_G_in (List.mem_of_getElem? (i := 958) (by decide +kernel)) (by decide +kernel)), (lw_G_in (List.mem_of_getElem? (i := 960) (by decide +kernel)) (by decide +kernel)), (lw_G_in (List.mem_of_getElem? (i := 21) (by decide +kernel)) (by decide +kernel))⟩
theorem mX7_77 : OKV RX7 77 yX7_parseNote := ⟨(lw_G_in (List.mem_of_getElem? (i := 962) (by decide +kernel)) (by decide +kernel)), (lw_G_in (List.mem_of_getElem? (i := 964) (by decide +kernel)) (by decide +kernel)), (lw_G_in (List.mem_of_getElem? (i := 22) (by decide +kernel)) (by decide +kernel))⟩
theorem mX7_80 : OKV RX7 80 yX7_isFigureNext := ⟨(lw_G_in (List.mem_of_getElem? (i := 974) (by decide +kernel)) (by decide +kernel)), (lw_G_in (List.mem_of_getElem? (i := 976) (by decide +kernel)) (by decide +kernel)), (lw_G_in (List.mem_of_getElem? (i := 25) (by decide +kernel)) (by decide +kernel))⟩
theorem mX7_84 : OKS RX7 84 yX7_isFigure := ⟨(lw_G_in (List.mem_of_getElem? (i := 951) (by decide +kernel)) (by decide +kernel)), (lw_G_in (List.mem_of_getElem? (i := 952) (by decide +kernel)) (by decide +kernel))⟩
theorem mX7_87 : OKV RX7 87 yX7_take := ⟨(lw_G_in (List.mem_of_getElem? (i := 954) (by decide +kernel)) (by decide +kernel)), (lw_G_in (List.mem_of_getElem? (i := 956) (by decide +kernel)) (by decide +kernel)), (lw_G_in (List.mem_of_getElem? (i := 20) (by decide +kernel)) (by decide +kernel))⟩
theorem mX8_25 : OKV RX8 25 yX8_isHeardAt := ⟨(lw_G_in (List.mem_of_getElem? (i := 609) (by decide +kernel)) (by decide +kernel)), (lw_G_in (List.mem_of_getElem? (i := 610) (by decide +kernel)) (by decide +kernel)), (lw_G_in (List.mem_of_getElem? (i := 611) (by decide +kernel)) (by decide +kernel))⟩
theorem mX9_27 : OKV RX9 27 yX9_sortVisits := ⟨(lw_G_in (List.mem_of_getElem? (i := 892) (by decide +kernel)) (by decide +kernel)), (lw_G_in (List.mem_of_getElem? (i := 894) (by decide +kernel)) (by decide +kernel)), (lw_G_in (List.mem_of_getElem? (i := 11) (by decide +kernel)) (by decide +kernel))⟩
theorem mX9_38 : OKV RX9 38 yX9_lengthFrom := ⟨(lw_G_in (List.mem_of_getElem? (i := 897) (by decide +kernel)) (by decide +kernel)), (lw_G_in (List.mem_of_getElem? (i := 899) (by decide +kernel)) (by decide +kernel)), (lw_G_in (List.mem_of_getElem? (i := 12) (by decide +kernel)) (by decide +kernel))⟩
theorem mX9_42 : OKSN RX9 "FuguePlan" 42 yX10_toNextRow := ⟨List.mem_filter.mpr ⟨List.mem_of_getElem? (i := 902) (by decide +kernel), rfl⟩, (lw_G_in (List.mem_of_getElem? (i := 830) (by decide +kernel)) (by decide +kernel))⟩
theorem mX9_46 : OKSN RX9 "FuguePlan" 46 yX10_wayBetween := ⟨List.mem_filter.mpr ⟨List.mem_of_getElem? (i := 901) (by decide +kernel), rfl⟩, (lw_G_in (List.mem_of_getElem? (i := 847) (by decide +kernel)) (by decide +kernel))⟩
theorem mL_13 : OKV RL 13 yX10_note := ⟨(lw_G_in (List.mem_of_getElem? (i := 411) (by decide +kernel)) (by decide +kernel)), (lw_G_in (List.mem_of_getElem? (i := 412) (by decide +kernel)) (by decide +kernel)), (lw_G_in (List.mem_of_getElem? (i := 413) (by decide +kernel)) (by decide +kernel))⟩
theorem mL_17 : OKV RL 17 yX11_note := ⟨(lw_G_in (List.mem_of_getElem? (i := 1104) (by decide +kernel)) (by decide +kernel)), (lw_G_in (List.mem_of_getElem? (i := 1105) (by decide +kernel)) (by decide +kernel)), (lw_G_in (List.mem_of_getElem? (i := 1106) (by decide +kernel)) (by decide +kernel))⟩
theorem mL_18 : OKV RL 18 yX10_drop := ⟨(lw_G_in (List.mem_of_getElem? (i := 472) (by decide +kernel)) (by decide +kernel)), (lw_G_in (List.mem_of_getElem? (i := 473) (by decide +kernel)) (by decide +kernel)), (lw_G_in (List.mem_of_getElem? (i := 474) (by decide +kernel)) (by decide +kernel))⟩
theorem mL_22 : OKV RL 22 yX11_drop := ⟨(lw_G_in (List.mem_of_getElem? (i := 1145) (by decide +kernel)) (by decide +kernel)), (lw_G_in (List.mem_of_getElem? (i := 1146) (by decide +kernel)) (by decide +kernel)), (lw_G_in (List.mem_of_getElem? (i := 1147) (by decide +kernel)) (by decide +kernel))⟩
theorem mL_23 : OKV RL 23 yX10_empties := ⟨(lw_G_in (List.mem_of_getElem? (i := 489) (by decide +kernel)) (by decide +kernel)), (lw_G_in (List.mem_of_getElem? (i := 490) (by decide +kernel)) (by decide +kernel)), (lw_G_in (List.mem_of_getElem? (i := 491) (by decide +kernel)) (by decide +kernel))⟩
theorem mL_27 : OKV RL 27 yX11_empties := ⟨(lw_G_in (List.mem_of_getElem? (i := 1157) (by decide +kernel)) (by decide +kernel)), (lw_G_in (List.mem_of_getElem? (i := 1158) (by decide +kernel)) (by decide +kernel)), (lw_G_in (List.mem_of_getElem? (i := 1159) (by decide +kernel)) (by decide +kernel))⟩
theorem mL_28 : OKV RL 28 yX10_draw := ⟨(lw_G_in (List.mem_of_getElem? (i := 497) (by decide +kernel)) (by decide +kernel)), (lw_G_in (List.mem_of_getElem? (i := 498) (by decide +kernel)) (by decide +kernel)), (lw_G_in (List.mem_of_getElem? (i := 499) (by decide +kernel)) (by decide +kernel))⟩
theorem mL_31 : OKV RL 31 yX11_draw := ⟨(lw_G_in (List.mem_of_getElem? (i := 1169) (by decide +kernel)) (by decide +kernel)), (lw_G_in (List.mem_of_getElem? (i := 1170) (by decide +kernel)) (by decide +kernel)), (lw_G_in (List.mem_of_getElem? (i := 1171) (by decide +kernel)) (by decide +kernel))⟩
theorem mL_32 : OKV RL 32 yX10_sets := ⟨(lw_G_in (List.mem_of_getElem? (i := 527) (by decide +kernel)) (by decide +kernel)), (lw_G_in (List.mem_of_getElem? (i := 528) (by decide +kernel)) (by decide +kernel)), (lw_G_in (List.mem_of_getElem? (i := 529) (by decide +kernel)) (by decide +kernel))⟩
theorem mL_35 : OKV RL 35 yX11_sets := ⟨(lw_G_in (List.mem_of_getElem? (i := 1185) (by decide +kernel)) (by decide +kernel)), (lw_G_in (List.mem_of_getElem? (i := 1186) (by decide +kernel)) (by decide +kernel)), (lw_G_in (List.mem_of_getElem? (i := 1187) (by decide +kernel)) (by decide +kernel))⟩
theorem mL_36 : OKV RL 36 yX10_noteOf := ⟨(lw_G_in (List.mem_of_getElem? (i := 538) (by decide +kernel)) (by decide +kernel)), (lw_G_in (List.mem_of_getElem? (i := 539) (by decide +kernel)) (by decide +kernel)), (lw_G_in (List.mem_of_getElem? (i := 540) (by decide +kernel)) (by decide +kernel))⟩
theorem mL_39 : OKV RL 39 yX11_noteOf := ⟨(lw_G_in (List.mem_of_getElem? (i := 1199) (by decide +kernel)) (by decide +kernel)), (lw_G_in (List.mem_of_getElem? (i := 1200) (by decide +kernel)) (by decide +kernel)), (lw_G_in (List.mem_of_getElem? (i := 1201) (by decide +kernel)) (by decide +kernel))⟩
theorem mL_40 : OKV RL 40 yX10_line := ⟨(lw_G_in (List.mem_of_getElem? (i := 560) (by decide +kernel)) (by decide +kernel)), (lw_G_in (List.mem_of_getElem? (i := 561) (by decide +kernel)) (by decide +kernel)), (lw_G_in (List.mem_of_getElem? (i := 562) (by decide +kernel)) (by decide +kernel))⟩
theorem mL_43 : OKV RL 43 yX11_line := ⟨(lw_G_in (List.mem_of_getElem? (i := 1218) (by decide +kernel)) (by decide +kernel)), (lw_G_in (List.mem_of_getElem? (i := 1219) (by decide +kernel)) (by decide +kernel)), (lw_G_in (List.mem_of_getElem? (i := 1220) (by decide +kernel)) (by decide +kernel))⟩
theorem mL_44 : OKV RL 44 yX10_step := ⟨(lw_G_in (List.mem_of_getElem? (i := 581) (by decide +kernel)) (by decide +kernel)), (lw_G_in (List.mem_of_getElem? (i := 582) (by decide +kernel)) (by decide +kernel)), (lw_G_in (List.mem_of_getElem? (i := 583) (by decide +kernel)) (by decide +kernel))⟩
theorem mL_48 : OKV RL 48 yX11_step := ⟨(lw_G_in (List.mem_of_getElem? (i := 1230) (by decide +kernel)) (by decide +kernel)), (lw_G_in (List.mem_of_getElem? (i := 1231) (by decide +kernel)) (by decide +kernel)), (lw_G_in (List.mem_of_getElem? (i := 1232) (by decide +kernel)) (by decide +kernel))⟩
theorem mL_49 : OKV RL 49 yX10_enters := ⟨(lw_G_in (List.mem_of_getElem? (i := 613) (by decide +kernel)) (by decide +kernel)), (lw_G_in (List.mem_of_getElem? (i := 614) (by decide +kernel)) (by decide +kernel)), (lw_G_in (List.mem_of_getElem? (i := 615) (by decide +kernel)) (by decide +kernel))⟩
theorem mL_53 : OKV RL 53 yX11_enters := ⟨(lw_G_in (List.mem_of_getElem? (i := 1244) (by decide +kernel)) (by decide +kernel)), (lw_G_in (List.mem_of_getElem? (i := 1245) (by decide +kernel)) (by decide +kernel)), (lw_G_in (List.mem_of_getElem? (i := 1246) (by decide +kernel)) (by decide +kernel))⟩
theorem mL_54 : OKV RL 54 yX10_leaves := ⟨(lw_G_in (List.mem_of_getElem? (i := 641) (by decide +kernel)) (by decide +kernel)), (lw_G_in (List.mem_of_getElem? (i := 642) (by decide +kernel)) (by decide +kernel)), (lw_G_in (List.mem_of_getElem? (i := 643) (by decide +kernel)) (by decide +kernel))⟩
theorem mL_57 : OKV RL 57 yX11_leaves := ⟨(lw_G_in (List.mem_of_getElem? (i := 1261) (by decide +kernel)) (by decide +kernel)), (lw_G_in (List.mem_of_getElem? (i := 1262) (by decide +kernel)) (by decide +kernel)), (lw_G_in (List.mem_of_getElem? (i := 1263) (by decide +kernel)) (by decide +kernel))⟩
theorem mL_58 : OKV RL 58 yX10_entry := ⟨(lw_G_in (List.mem_of_getElem? (i := 658) (by decide +kernel)) (by decide +kernel)), (lw_G_in (List.mem_of_getElem? (i := 659) (by decide +kernel)) (by decide +kernel)), (lw_G_in (List.mem_of_getElem? (i := 660) (by decide +kernel)) (by decide +kernel))⟩
theorem mL_61 : OKV RL 61 yX11_entry := ⟨(lw_G_in (List.mem_of_getElem? (i := 1269) (by decide +kernel)) (by decide +kernel)), (lw_G_in (List.mem_of_getElem? (i := 1270) (by decide +kernel)) (by decide +kernel)), (lw_G_in (List.mem_of_getElem? (i := 1271) (by decide +kernel)) (by decide +kernel))⟩
theorem mL_62 : OKV RL 62 yX10_sounds := ⟨(lw_G_in (List.mem_of_getElem? (i := 664) (by decide +kernel)) (by decide +kernel)), (lw_G_in (List.mem_of_getElem? (i := 665) (by decide +kernel)) (by decide +kernel)), (lw_G_in (List.mem_of_getElem? (i := 666) (by decide +kernel)) (by decide +kernel))⟩
theorem mL_65 : OKV RL 65 yX11_sounds := ⟨(lw_G_in (List.mem_of_getElem? (i := 1278) (by decide +kernel)) (by decide +kernel)), (lw_G_in (List.mem_of_getElem? (i := 1279) (by decide +kernel)) (by decide +kernel)), (lw_G_in (List.mem_of_getElem? (i := 1280) (by decide +kernel)) (by decide +kernel))⟩
theorem mL_66 : OKV RL 66 yX10_faults := ⟨(lw_G_in (List.mem_of_getElem? (i := 680) (by decide +kernel)) (by decide +kernel)), (lw_G_in (List.mem_of_getElem? (i := 681) (by decide +kernel)) (by decide +kernel)), (lw_G_in (List.mem_of_getElem? (i := 682) (by decide +kernel)) (by decide +kernel))⟩
theorem mL_69 : OKV RL 69 yX11_faults := ⟨(lw_G_in (List.mem_of_getElem? (i := 1293) (by decide +kernel)) (by decide +kernel)), (lw_G_in (List.mem_of_getElem? (i := 1294) (by decide +kernel)) (by decide +kernel)), (lw_G_in (List.mem_of_getElem? (i := 1295) (by decide +kernel)) (by decide +kernel))⟩
theorem mL_70 : OKV RL 70 yX10_all := ⟨(lw_G_in (List.mem_of_getElem? (i := 714) (by decide +kernel)) (by decide +kernel)), (lw_G_in (List.mem_of_getElem? (i := 715) (by decide +kernel)) (by decide +kernel)), (lw_G_in (List.mem_of_getElem? (i := 716) (by decide +kernel)) (by decide +kernel))⟩
theorem mL_73 : OKV RL 73 yX11_all := ⟨(lw_G_in (List.mem_of_getElem? (i := 1313) (by decide +kernel)) (by decide +kernel)), (lw_G_in (List.mem_of_getElem? (i := 1314) (by decide +kernel)) (by decide +kernel)), (lw_G_in (List.mem_of_getElem? (i := 1315) (by decide +kernel)) (by decide +kernel))⟩
theorem mL_74 : OKV RL 74 yX10_first := ⟨(lw_G_in (List.mem_of_getElem? (i := 735) (by decide +kernel)) (by decide +kernel)), (lw_G_in (List.mem_of_getElem? (i := 736) (by decide +kernel)) (by decide +kernel)), (lw_G_in (List.mem_of_getElem? (i := 737) (by decide +kernel)) (by decide +kernel))⟩
theorem mL_77 : OKV RL 77 yX11_first := ⟨(lw_G_in (List.mem_of_getElem? (i := 1329) (by decide +kernel)) (by decide +kernel)), (lw_G_in (List.mem_of_getElem? (i := 1330) (by decide +kernel)) (by decide +kernel)), (lw_G_in (List.mem_of_getElem? (i := 1331) (by decide +kernel)) (by decide +kernel))⟩
theorem mL_78 : OKV RL 78 yX10_stretto := ⟨(lw_G_in (List.mem_of_getElem? (i := 754) (by decide +kernel)) (by decide +kernel)), (lw_G_in (List.mem_of_getElem? (i := 755) (by decide +kernel)) (by decide +kernel)), (lw_G_in (List.mem_of_getElem? (i := 756) (by decide +kernel)) (by decide +kernel))⟩
theorem mL_81 : OKV RL 81 yX11_stretto := ⟨(lw_G_in (List.mem_of_getElem? (i := 1338) (by decide +kernel)) (by decide +kernel)), (lw_G_in (List.mem_of_getElem? (i := 1339) (by decide +kernel)) (by decide +kernel)), (lw_G_in (List.mem_of_getElem? (i := 1340) (by decide +kernel)) (by decide +kernel))⟩
theorem mL_82 : OKV RL 82 yX10_strettos := ⟨(lw_G_in (List.mem_of_getElem? (i := 766) (by decide +kernel)) (by decide +kernel)), (lw_G_in (List.mem_of_getElem? (i := 767) (by decide +kernel)) (by decide +kernel)), (lw_G_in (List.mem_of_getElem? (i := 768) (by decide +kernel)) (by decide +kernel))⟩
theorem mL_86 : OKV RL 86 yX11_strettos := ⟨(lw_G_in (List.mem_of_getElem? (i := 1349) (by decide +kernel)) (by decide +kernel)), (lw_G_in (List.mem_of_getElem? (i := 1350) (by decide +kernel)) (by decide +kernel)), (lw_G_in (List.mem_of_getElem? (i := 1351) (by decide +kernel)) (by decide +kernel))⟩
theorem mL_87 : OKV RL 87 yX10_closest := ⟨(lw_G_in (List.mem_of_getElem? (i := 770) (by decide +kernel)) (by decide +kernel)), (lw_G_in (List.mem_of_getElem? (i := 771) (by decide +kernel)) (by decide +kernel)), (lw_G_in (List.mem_of_getElem? (i := 772) (by decide +kernel)) (by decide +kernel))⟩
theorem mL_90 : OKV RL 90 yX11_closest := ⟨(lw_G_in (List.mem_of_getElem? (i := 1361) (by decide +kernel)) (by decide +kernel)), (lw_G_in (List.mem_of_getElem? (i := 1362) (by decide +kernel)) (by decide +kernel)), (lw_G_in (List.mem_of_getElem? (i := 1363) (by decide +kernel)) (by decide +kernel))⟩
theorem mL_91 : OKV RL 91 yX10_inverted := ⟨(lw_G_in (List.mem_of_getElem? (i := 781) (by decide +kernel)) (by decide +kernel)), (lw_G_in (List.mem_of_getElem? (i := 782) (by decide +kernel)) (by decide +kernel)), (lw_G_in (List.mem_of_getElem? (i := 783) (by decide +kernel)) (by decide +kernel))⟩
theorem mL_94 : OKV RL 94 yX11_inverted := ⟨(lw_G_in (List.mem_of_getElem? (i := 1369) (by decide +kernel)) (by decide +kernel)), (lw_G_in (List.mem_of_getElem? (i := 1370) (by decide +kernel)) (by decide +kernel)), (lw_G_in (List.mem_of_getElem? (i := 1371) (by decide +kernel)) (by decide +kernel))⟩
theorem mL_95 : OKV RL 95 yX10_inversions := ⟨(lw_G_in (List.mem_of_getElem? (i := 792) (by decide +kernel)) (by decide +kernel)), (lw_G_in (List.mem_of_getElem? (i := 793) (by decide +kernel)) (by decide +kernel)), (lw_G_in (List.mem_of_getElem? (i := 794) (by decide +kernel)) (by decide +kernel))⟩
theorem mL_98 : OKV RL 98 yX11_inversions := ⟨(lw_G_in (List.mem_of_getElem? (i := 1378) (by decide +kernel)) (by decide +kernel)), (lw_G_in (List.mem_of_getElem? (i := 1379) (by decide +kernel)) (by decide +kernel)), (lw_G_in (List.mem_of_getElem? (i := 1380) (by decide +kernel)) (by decide +kernel))⟩
theorem mL_99 : OKV RL 99 yX10_order := ⟨(lw_G_in (List.mem_of_getElem? (i := 796) (by decide +kernel)) (by decide +kernel)), (lw_G_in (List.mem_of_getElem? (i := 797) (by decide +kernel)) (by decide +kernel)), (lw_G_in (List.mem_of_getElem? (i := 798) (by decide +kernel)) (by decide +kernel))⟩
theorem mL_102 : OKV RL 102 yX11_order := ⟨(lw_G_in (List.mem_of_getElem? (i := 1382) (by decide +kernel)) (by decide +kernel)), (lw_G_in (List.mem_of_getElem? (i := 1383) (by decide +kernel)) (by decide +kernel)), (lw_G_in (List.mem_of_getElem? (i := 1384) (by decide +kernel)) (by decide +kernel))⟩
theorem mL_103 : OKV RL 103 yX10_best := ⟨(lw_G_in (List.mem_of_getElem? (i := 817) (by decide +kernel)) (by decide +kernel)), (lw_G_in (List.mem_of_getElem? (i := 818) (by decide +kernel)) (by decide +kernel)), (lw_G_in (List.mem_of_getElem? (i := 819) (by decide +kernel)) (by decide +kernel))⟩
theorem mL_106 : OKV RL 106 yX11_best := ⟨(lw_G_in (List.mem_of_getElem? (i := 1403) (by decide +kernel)) (by decide +kernel)), (lw_G_in (List.mem_of_getElem? (i := 1404) (by decide +kernel)) (by decide +kernel)), (lw_G_in (List.mem_of_getElem? (i := 1405) (by decide +kernel)) (by decide +kernel))⟩
theorem mL_107 : OKV RL 107 yX10_lays := ⟨(lw_G_in (List.mem_of_getElem? (i := 836) (by decide +kernel)) (by decide +kernel)), (lw_G_in (List.mem_of_getElem? (i := 837) (by decide +kernel)) (by decide +kernel)), (lw_G_in (List.mem_of_getElem? (i := 838) (by decide +kernel)) (by decide +kernel))⟩
theorem mL_110 : OKV RL 110 yX11_lays := ⟨(lw_G_in (List.mem_of_getElem? (i := 1411) (by decide +kernel)) (by decide +kernel)), (lw_G_in (List.mem_of_getElem? (i := 1412) (by decide +kernel)) (by decide +kernel)), (lw_G_in (List.mem_of_getElem? (i := 1413) (by decide +kernel)) (by decide +kernel))⟩
theorem mL_111 : OKV RL 111 yX10_way := ⟨(lw_G_in (List.mem_of_getElem? (i := 841) (by decide +kernel)) (by decide +kernel)), (lw_G_in (List.mem_of_getElem? (i := 842) (by decide +kernel)) (by decide +kernel)), (lw_G_in (List.mem_of_getElem? (i := 843) (by decide +kernel)) (by decide +kernel))⟩
theorem mL_114 : OKV RL 114 yX11_way := ⟨(lw_G_in (List.mem_of_getElem? (i := 1415) (by decide +kernel)) (by decide +kernel)), (lw_G_in (List.mem_of_getElem? (i := 1416) (by decide +kernel)) (by decide +kernel)), (lw_G_in (List.mem_of_getElem? (i := 1417) (by decide +kernel)) (by decide +kernel))⟩
theorem mL_115 : OKV RL 115 yX10_next := ⟨(lw_G_in (List.mem_of_getElem? (i := 857) (by decide +kernel)) (by decide +kernel)), (lw_G_in (List.mem_of_getElem? (i := 858) (by decide +kernel)) (by decide +kernel)), (lw_G_in (List.mem_of_getElem? (i := 859) (by decide +kernel)) (by decide +kernel))⟩
theorem mL_118 : OKV RL 118 yX11_next := ⟨(lw_G_in (List.mem_of_getElem? (i := 1433) (by decide +kernel)) (by decide +kernel)), (lw_G_in (List.mem_of_getElem? (i := 1434) (by decide +kernel)) (by decide +kernel)), (lw_G_in (List.mem_of_getElem? (i := 1435) (by decide +kernel)) (by decide +kernel))⟩
theorem mL_119 : OKV RL 119 yX10_visits := ⟨(lw_G_in (List.mem_of_getElem? (i := 864) (by decide +kernel)) (by decide +kernel)), (lw_G_in (List.mem_of_getElem? (i := 865) (by decide +kernel)) (by decide +kernel)), (lw_G_in (List.mem_of_getElem? (i := 866) (by decide +kernel)) (by decide +kernel))⟩
theorem mL_122 : OKV RL 122 yX11_visits := ⟨(lw_G_in (List.mem_of_getElem? (i := 1437) (by decide +kernel)) (by decide +kernel)), (lw_G_in (List.mem_of_getElem? (i := 1438) (by decide +kernel)) (by decide +kernel)), (lw_G_in (List.mem_of_getElem? (i := 1439) (by decide +kernel)) (by decide +kernel))⟩
theorem mL_123 : OKV RL 123 yX10_skips := ⟨(lw_G_in (List.mem_of_getElem? (i := 876) (by decide +kernel)) (by decide +kernel)), (lw_G_in (List.mem_of_getElem? (i := 877) (by decide +kernel)) (by decide +kernel)), (lw_G_in (List.mem_of_getElem? (i := 878) (by decide +kernel)) (by decide +kernel))⟩
theorem mL_126 : OKV RL 126 yX11_skips := ⟨(lw_G_in (List.mem_of_getElem? (i := 1453) (by decide +kernel)) (by decide +kernel)), (lw_G_in (List.mem_of_getElem? (i := 1454) (by decide +kernel)) (by decide +kernel)), (lw_G_in (List.mem_of_getElem? (i := 1455) (by decide +kernel)) (by decide +kernel))⟩
theorem mL_127 : OKV RL 127 yX10_path := ⟨(lw_G_in (List.mem_of_getElem? (i := 884) (by decide +kernel)) (by decide +kernel)), (lw_G_in (List.mem_of_getElem? (i := 885) (by decide +kernel)) (by decide +kernel)), (lw_G_in (List.mem_of_getElem? (i := 886) (by decide +kernel)) (by decide +kernel))⟩
theorem mL_130 : OKV RL 130 yX11_path := ⟨(lw_G_in (List.mem_of_getElem? (i := 1457) (by decide +kernel)) (by decide +kernel)), (lw_G_in (List.mem_of_getElem? (i := 1458) (by decide +kernel)) (by decide +kernel)), (lw_G_in (List.mem_of_getElem? (i := 1459) (by decide +kernel)) (by decide +kernel))⟩
theorem mL_131 : OKV RL 131 yX10_type := ⟨(lw_G_in (List.mem_of_getElem? (i := 903) (by decide +kernel)) (by decide +kernel)), (lw_G_in (List.mem_of_getElem? (i := 904) (by decide +kernel)) (by decide +kernel)), (lw_G_in (List.mem_of_getElem? (i := 905) (by decide +kernel)) (by decide +kernel))⟩
theorem mL_134 : OKV RL 134 yX11_type := ⟨(lw_G_in (List.mem_of_getElem? (i := 1481) (by decide +kernel)) (by decide +kernel)), (lw_G_in (List.mem_of_getElem? (i := 1482) (by decide +kernel)) (by decide +kernel)), (lw_G_in (List.mem_of_getElem? (i := 1483) (by decide +kernel)) (by decide +kernel))⟩
theorem mL_135 : OKV RL 135 yX10_clear := ⟨(lw_G_in (List.mem_of_getElem? (i := 911) (by decide +kernel)) (by decide +kernel)), (lw_G_in (List.mem_of_getElem? (i := 912) (by decide +kernel)) (by decide +kernel)), (lw_G_in (List.mem_of_getElem? (i := 913) (by decide +kernel)) (by decide +kernel))⟩
theorem mL_139 : OKV RL 139 yX11_clear := ⟨(lw_G_in (List.mem_of_getElem? (i := 1486) (by decide +kernel)) (by decide +kernel)), (lw_G_in (List.mem_of_getElem? (i := 1487) (by decide +kernel)) (by decide +kernel)), (lw_G_in (List.mem_of_getElem? (i := 1488) (by decide +kernel)) (by decide +kernel))⟩
theorem mL_140 : OKV RL 140 yX10_reads := ⟨(lw_G_in (List.mem_of_getElem? (i := 915) (by decide +kernel)) (by decide +kernel)), (lw_G_in (List.mem_of_getElem? (i := 916) (by decide +kernel)) (by decide +kernel)), (lw_G_in (List.mem_of_getElem? (i := 917) (by decide +kernel)) (by decide +kernel))⟩
theorem mL_143 : OKV RL 143 yX11_reads := ⟨(lw_G_in (List.mem_of_getElem? (i := 1490) (by decide +kernel)) (by decide +kernel)), (lw_G_in (List.mem_of_getElem? (i := 1491) (by decide +kernel)) (by decide +kernel)), (lw_G_in (List.mem_of_getElem? (i := 1492) (by decide +kernel)) (by decide +kernel))⟩
theorem mL_144 : OKV RL 144 yX10_back := ⟨(lw_G_in (List.mem_of_getElem? (i := 1006) (by decide +kernel)) (by decide +kernel)), (lw_G_in (List.mem_of_getElem? (i := 1007) (by decide +kernel)) (by decide +kernel)), (lw_G_in (List.mem_of_getElem? (i := 1008) (by decide +kernel)) (by decide +kernel))⟩
theorem mL_147 : OKV RL 147 yX11_back := ⟨(lw_G_in (List.mem_of_getElem? (i := 1540) (by decide +kernel)) (by decide +kernel)), (lw_G_in (List.mem_of_getElem? (i := 1541) (by decide +kernel)) (by decide +kernel)), (lw_G_in (List.mem_of_getElem? (i := 1542) (by decide +kernel)) (by decide +kernel))⟩
theorem mL_148 : OKV RL 148 yX10_told := ⟨(lw_G_in (List.mem_of_getElem? (i := 1014) (by decide +kernel)) (by decide +kernel)), (lw_G_in (List.mem_of_getElem? (i := 1015) (by decide +kernel)) (by decide +kernel)), (lw_G_in (List.mem_of_getElem? (i := 1016) (by decide +kernel)) (by decide +kernel))⟩
theorem mL_151 : OKV RL 151 yX11_told := ⟨(lw_G_in (List.mem_of_getElem? (i := 1544) (by decide +kernel)) (by decide +kernel)), (lw_G_in (List.mem_of_getElem? (i := 1545) (by decide +kernel)) (by decide +kernel)), (lw_G_in (List.mem_of_getElem? (i := 1546) (by decide +kernel)) (by decide +kernel))⟩
theorem mL_152 : OKV RL 152 yX10_digest := ⟨(lw_G_in (List.mem_of_getElem? (i := 1018) (by decide +kernel)) (by decide +kernel)), (lw_G_in (List.mem_of_getElem? (i := 1019) (by decide +kernel)) (by decide +kernel)), (lw_G_in (List.mem_of_getElem? (i := 1020) (by decide +kernel)) (by decide +kernel))⟩
theorem mL_156 : OKV RL 156 yX11_digest := ⟨(lw_G_in (List.mem_of_getElem? (i := 1552) (by decide +kernel)) (by decide +kernel)), (lw_G_in (List.mem_of_getElem? (i := 1553) (by decide +kernel)) (by decide +kernel)), (lw_G_in (List.mem_of_getElem? (i := 1554) (by decide +kernel)) (by decide +kernel))⟩
theorem mX11_61 : OKS RX11 61 yX11_in := ⟨(lw_G_in (List.mem_of_getElem? (i := 1116) (by decide +kernel)) (by decide +kernel)), (lw_G_in (List.mem_of_getElem? (i := 1117) (by decide +kernel)) (by decide +kernel))⟩
theorem mX11_65 : OKV RX11 65 yX11_notes := ⟨(lw_G_in (List.mem_of_getElem? (i := 1129) (by decide +kernel)) (by decide +kernel)), (lw_G_in (List.mem_of_getElem? (i := 1131) (by decide +kernel)) (by decide +kernel)), (lw_G_in (List.mem_of_getElem? (i := 34) (by decide +kernel)) (by decide +kernel))⟩
theorem mX11_69 : OKV RX11 69 yX11_ticks := ⟨(lw_G_in (List.mem_of_getElem? (i := 1153) (by decide +kernel)) (by decide +kernel)), (lw_G_in (List.mem_of_getElem? (i := 1155) (by decide +kernel)) (by decide +kernel)), (lw_G_in (List.mem_of_getElem? (i := 39) (by decide +kernel)) (by decide +kernel))⟩
theorem mX11_73 : OKV RX11 73 yX11_of := ⟨(lw_G_in (List.mem_of_getElem? (i := 1125) (by decide +kernel)) (by decide +kernel)), (lw_G_in (List.mem_of_getElem? (i := 1127) (by decide +kernel)) (by decide +kernel)), (lw_G_in (List.mem_of_getElem? (i := 33) (by decide +kernel)) (by decide +kernel))⟩
theorem mX11_76 : OKV RX11 76 yX11_plain := ⟨(lw_G_in (List.mem_of_getElem? (i := 1149) (by decide +kernel)) (by decide +kernel)), (lw_G_in (List.mem_of_getElem? (i := 1151) (by decide +kernel)) (by decide +kernel)), (lw_G_in (List.mem_of_getElem? (i := 38) (by decide +kernel)) (by decide +kernel))⟩
theorem mX11_79 : OKS RX11 79 yX11_left := ⟨(lw_G_in (List.mem_of_getElem? (i := 1215) (by decide +kernel)) (by decide +kernel)), (lw_G_in (List.mem_of_getElem? (i := 1216) (by decide +kernel)) (by decide +kernel))⟩
theorem mX11_82 : OKS RX11 82 yX11_isLine := ⟨(lw_G_in (List.mem_of_getElem? (i := 1112) (by decide +kernel)) (by decide +kernel)), (lw_G_in (List.mem_of_getElem? (i := 1113) (by decide +kernel)) (by decide +kernel))⟩
theorem mX11_90 : OKV RX11 90 yX11_entered := ⟨(lw_G_in (List.mem_of_getElem? (i := 1121) (by decide +kernel)) (by decide +kernel)), (lw_G_in (List.mem_of_getElem? (i := 1123) (by decide +kernel)) (by decide +kernel)), (lw_G_in (List.mem_of_getElem? (i := 32) (by decide +kernel)) (by decide +kernel))⟩
theorem mX11_93 : OKV RX11 93 yX11_canNote := ⟨(lw_G_in (List.mem_of_getElem? (i := 1108) (by decide +kernel)) (by decide +kernel)), (lw_G_in (List.mem_of_getElem? (i := 1110) (by decide +kernel)) (by decide +kernel)), (lw_G_in (List.mem_of_getElem? (i := 31) (by decide +kernel)) (by decide +kernel))⟩
theorem mX11_97 : OKV RX11 97 yX11_refuses := ⟨(lw_G_in (List.mem_of_getElem? (i := 1133) (by decide +kernel)) (by decide +kernel)), (lw_G_in (List.mem_of_getElem? (i := 1135) (by decide +kernel)) (by decide +kernel)), (lw_G_in (List.mem_of_getElem? (i := 35) (by decide +kernel)) (by decide +kernel))⟩
theorem mX11_100 : OKV RX11 100 yX11_keep := ⟨(lw_G_in (List.mem_of_getElem? (i := 1137) (by decide +kernel)) (by decide +kernel)), (lw_G_in (List.mem_of_getElem? (i := 1139) (by decide +kernel)) (by decide +kernel)), (lw_G_in (List.mem_of_getElem? (i := 36) (by decide +kernel)) (by decide +kernel))⟩
theorem mX11_103 : OKV RX11 103 yX11_noteNow := ⟨(lw_G_in (List.mem_of_getElem? (i := 1141) (by decide +kernel)) (by decide +kernel)), (lw_G_in (List.mem_of_getElem? (i := 1143) (by decide +kernel)) (by decide +kernel)), (lw_G_in (List.mem_of_getElem? (i := 37) (by decide +kernel)) (by decide +kernel))⟩
theorem mX11_106 : OKV RX11 106 yX11_canEmpty := ⟨(lw_G_in (List.mem_of_getElem? (i := 1161) (by decide +kernel)) (by decide +kernel)), (lw_G_in (List.mem_of_getElem? (i := 1163) (by decide +kernel)) (by decide +kernel)), (lw_G_in (List.mem_of_getElem? (i := 40) (by decide +kernel)) (by decide +kernel))⟩
theorem mX11_109 : OKV RX11 109 yX11_emptyNow := ⟨(lw_G_in (List.mem_of_getElem? (i := 1165) (by decide +kernel)) (by decide +kernel)), (lw_G_in (List.mem_of_getElem? (i := 1167) (by decide +kernel)) (by decide +kernel)), (lw_G_in (List.mem_of_getElem? (i := 41) (by decide +kernel)) (by decide +kernel))⟩
theorem mX11_128 : OKV RX11 128 yX11_length := ⟨(lw_G_in (List.mem_of_getElem? (i := 1181) (by decide +kernel)) (by decide +kernel)), (lw_G_in (List.mem_of_getElem? (i := 1183) (by decide +kernel)) (by decide +kernel)), (lw_G_in (List.mem_of_getElem? (i := 42) (by decide +kernel)) (by decide +kernel))⟩
theorem mX11_137 : OKS RX11 137 yX11_isSetting := ⟨(lw_G_in (List.mem_of_getElem? (i := 1189) (by decide +kernel)) (by decide +kernel)), (lw_G_in (List.mem_of_getElem? (i := 1190) (by decide +kernel)) (by decide +kernel))⟩
theorem mX11_141 : OKV RX11 141 yX11_setNow := ⟨(lw_G_in (List.mem_of_getElem? (i := 1195) (by decide +kernel)) (by decide +kernel)), (lw_G_in (List.mem_of_getElem? (i := 1197) (by decide +kernel)) (by decide +kernel)), (lw_G_in (List.mem_of_getElem? (i := 43) (by decide +kernel)) (by decide +kernel))⟩
theorem mX11_144 : OKV RX11 144 yX11_begin := ⟨(lw_G_in (List.mem_of_getElem? (i := 1207) (by decide +kernel)) (by decide +kernel)), (lw_G_in (List.mem_of_getElem? (i := 1209) (by decide +kernel)) (by decide +kernel)), (lw_G_in (List.mem_of_getElem? (i := 45) (by decide +kernel)) (by decide +kernel))⟩
theorem mX11_147 : OKV RX11 147 yX11_answered := ⟨(lw_G_in (List.mem_of_getElem? (i := 1211) (by decide +kernel)) (by decide +kernel)), (lw_G_in (List.mem_of_getElem? (i := 1213) (by decide +kernel)) (by decide +kernel)), (lw_G_in (List.mem_of_getElem? (i := 46) (by decide +kernel)) (by decide +kernel))⟩
theorem mX11_150 : OKV RX11 150 yX11_noteNow4 := ⟨(lw_G_in (List.mem_of_getElem? (i := 1203) (by decide +kernel)) (by decide +kernel)), (lw_G_in (List.mem_of_getElem? (i := 1205) (by decide +kernel)) (by decide +kernel)), (lw_G_in (List.mem_of_getElem? (i := 44) (by decide +kernel)) (by decide +kernel))⟩
theorem mX11_153 : OKV RX11 153 yX11_bound := ⟨(lw_G_in (List.mem_of_getElem? (i := 1226) (by decide +kernel)) (by decide +kernel)), (lw_G_in (List.mem_of_getElem? (i := 1228) (by decide +kernel)) (by decide +kernel)), (lw_G_in (List.mem_of_getElem? (i := 48) (by decide +kernel)) (by decide +kernel))⟩
theorem mX11_157 : OKV RX11 157 yX11_lineNow := ⟨(lw_G_in (List.mem_of_getElem? (i := 1222) (by decide +kernel)) (by decide +kernel)), (lw_G_in (List.mem_of_getElem? (i := 1224) (by decide +kernel)) (by decide +kernel)), (lw_G_in (List.mem_of_getElem? (i := 47) (by decide +kernel)) (by decide +kernel))⟩
theorem mX11_164 : OKV RX11 164 yX11_bad := ⟨(lw_G_in (List.mem_of_getElem? (i := 1236) (by decide +kernel)) (by decide +kernel)), (lw_G_in (List.mem_of_getElem? (i := 1238) (by decide +kernel)) (by decide +kernel)), (lw_G_in (List.mem_of_getElem? (i := 49) (by decide +kernel)) (by decide +kernel))⟩
theorem mX11_167 : OKV RX11 167 yX11_formed := ⟨(lw_G_in (List.mem_of_getElem? (i := 1240) (by decide +kernel)) (by decide +kernel)), (lw_G_in (List.mem_of_getElem? (i := 1242) (by decide +kernel)) (by decide +kernel)), (lw_G_in (List.mem_of_getElem? (i := 50) (by decide +kernel)) (by decide +kernel))⟩
theorem mX11_170 : OKV RX11 170 yX11_heard := ⟨(lw_G_in (List.mem_of_getElem? (i := 1289) (by decide +kernel)) (by decide +kernel)), (lw_G_in (List.mem_of_getElem? (i := 1291) (by decide +kernel)) (by decide +kernel)), (lw_G_in (List.mem_of_getElem? (i := 57) (by decide +kernel)) (by decide +kernel))⟩
theorem mX11_174 : OKV RX11 174 yX11_lasts := ⟨(lw_G_in (List.mem_of_getElem? (i := 1253) (by decide +kernel)) (by decide +kernel)), (lw_G_in (List.mem_of_getElem? (i := 1255) (by decide +kernel)) (by decide +kernel)), (lw_G_in (List.mem_of_getElem? (i := 52) (by decide +kernel)) (by decide +kernel))⟩
theorem mX11_177 : OKV RX11 177 yX11_faultsAt := ⟨(lw_G_in (List.mem_of_getElem? (i := 1309) (by decide +kernel)) (by decide +kernel)), (lw_G_in (List.mem_of_getElem? (i := 1311) (by decide +kernel)) (by decide +kernel)), (lw_G_in (List.mem_of_getElem? (i := 61) (by decide +kernel)) (by decide +kernel))⟩
theorem mX11_182 : OKV RX11 182 yX11_canEnter := ⟨(lw_G_in (List.mem_of_getElem? (i := 1248) (by decide +kernel)) (by decide +kernel)), (lw_G_in (List.mem_of_getElem? (i := 1250) (by decide +kernel)) (by decide +kernel)), (lw_G_in (List.mem_of_getElem? (i := 51) (by decide +kernel)) (by decide +kernel))⟩
theorem mX11_186 : OKV RX11 186 yX11_enterNow := ⟨(lw_G_in (List.mem_of_getElem? (i := 1257) (by decide +kernel)) (by decide +kernel)), (lw_G_in (List.mem_of_getElem? (i := 1259) (by decide +kernel)) (by decide +kernel)), (lw_G_in (List.mem_of_getElem? (i := 53) (by decide +kernel)) (by decide +kernel))⟩
theorem mX11_189 : OKV RX11 189 yX11_isEntry := ⟨(lw_G_in (List.mem_of_getElem? (i := 1265) (by decide +kernel)) (by decide +kernel)), (lw_G_in (List.mem_of_getElem? (i := 1267) (by decide +kernel)) (by decide +kernel)), (lw_G_in (List.mem_of_getElem? (i := 54) (by decide +kernel)) (by decide +kernel))⟩
theorem mX11_194 : OKV RX11 194 yX11_entryNow := ⟨(lw_G_in (List.mem_of_getElem? (i := 1274) (by decide +kernel)) (by decide +kernel)), (lw_G_in (List.mem_of_getElem? (i := 1276) (by decide +kernel)) (by decide +kernel)), (lw_G_in (List.mem_of_getElem? (i := 55) (by decide +kernel)) (by decide +kernel))⟩
theorem mX11_197 : OKS RX11 197 yX11_puts := ⟨(lw_G_in (List.mem_of_getElem? (i := 1286) (by decide +kernel)) (by decide +kernel)), (lw_G_in (List.mem_of_getElem? (i := 1287) (by decide +kernel)) (by decide +kernel))⟩
theorem mX11_201 : OKV RX11 201 yX11_heardOf := ⟨(lw_G_in (List.mem_of_getElem? (i := 1282) (by decide +kernel)) (by decide +kernel)), (lw_G_in (List.mem_of_getElem? (i := 1284) (by decide +kernel)) (by decide +kernel)), (lw_G_in (List.mem_of_getElem? (i := 56) (by decide +kernel)) (by decide +kernel))⟩
theorem mX11_204 : OKV RX11 204 yX11_countsAll := ⟨(lw_G_in (List.mem_of_getElem? (i := 1305) (by decide +kernel)) (by decide +kernel)), (lw_G_in (List.mem_of_getElem? (i := 1307) (by decide +kernel)) (by decide +kernel)), (lw_G_in (List.mem_of_getElem? (i := 60) (by decide +kernel)) (by decide +kernel))⟩
theorem mX11_207 : OKV RX11 207 yX11_areTwo := ⟨(lw_G_in (List.mem_of_getElem? (i := 1297) (by decide +kernel)) (by decide +kernel)), (lw_G_in (List.mem_of_getElem? (i := 1299) (by decide +kernel)) (by decide +kernel)), (lw_G_in (List.mem_of_getElem? (i := 58) (by decide +kernel)) (by decide +kernel))⟩
theorem mX11_210 : OKV RX11 210 yX11_faultsOf := ⟨(lw_G_in (List.mem_of_getElem? (i := 1301) (by decide +kernel)) (by decide +kernel)), (lw_G_in (List.mem_of_getElem? (i := 1303) (by decide +kernel)) (by decide +kernel)), (lw_G_in (List.mem_of_getElem? (i := 59) (by decide +kernel)) (by decide +kernel))⟩
theorem mX11_213 : OKV RX11 213 yX11_end := ⟨(lw_G_in (List.mem_of_getElem? (i := 1321) (by decide +kernel)) (by decide +kernel)), (lw_G_in (List.mem_of_getElem? (i := 1323) (by decide +kernel)) (by decide +kernel)), (lw_G_in (List.mem_of_getElem? (i := 63) (by decide +kernel)) (by decide +kernel))⟩
theorem mX11_217 : OKV RX11 217 yX11_most := ⟨(lw_G_in (List.mem_of_getElem? (i := 1325) (by decide +kernel)) (by decide +kernel)), (lw_G_in (List.mem_of_getElem? (i := 1327) (by decide +kernel)) (by decide +kernel)), (lw_G_in (List.mem_of_getElem? (i := 64) (by decide +kernel)) (by decide +kernel))⟩
theorem mX11_220 : OKV RX11 220 yX11_allNow := ⟨(lw_G_in (List.mem_of_getElem? (i := 1317) (by decide +kernel)) (by decide +kernel)), (lw_G_in (List.mem_of_getElem? (i := 1319) (by decide +kernel)) (by decide +kernel)), (lw_G_in (List.mem_of_getElem? (i := 62) (by decide +kernel)) (by decide +kernel))⟩
theorem mX11_225 : OKV RX11 225 yX11_pairAt := ⟨(lw_G_in (List.mem_of_getElem? (i := 1334) (by decide +kernel)) (by decide +kernel)), (lw_G_in (List.mem_of_getElem? (i := 1336) (by decide +kernel)) (by decide +kernel)), (lw_G_in (List.mem_of_getElem? (i := 65) (by decide +kernel)) (by decide +kernel))⟩
theorem mX11_228 : OKS RX11 228 yX11_isMoved := ⟨(lw_G_in (List.mem_of_getElem? (i := 1342) (by decide +kernel)) (by decide +kernel)), (lw_G_in (List.mem_of_getElem? (i := 1343) (by decide +kernel)) (by decide +kernel))⟩
theorem mX11_232 : OKV RX11 232 yX11_stretches := ⟨(lw_G_in (List.mem_of_getElem? (i := 1345) (by decide +kernel)) (by decide +kernel)), (lw_G_in (List.mem_of_getElem? (i := 1347) (by decide +kernel)) (by decide +kernel)), (lw_G_in (List.mem_of_getElem? (i := 66) (by decide +kernel)) (by decide +kernel))⟩
theorem mX11_236 : OKV RX11 236 yX11_laysRows := ⟨(lw_G_in (List.mem_of_getElem? (i := 1353) (by decide +kernel)) (by decide +kernel)), (lw_G_in (List.mem_of_getElem? (i := 1355) (by decide +kernel)) (by decide +kernel)), (lw_G_in (List.mem_of_getElem? (i := 67) (by decide +kernel)) (by decide +kernel))⟩
theorem mX11_240 : OKV RX11 240 yX11_isFit := ⟨(lw_G_in (List.mem_of_getElem? (i := 1357) (by decide +kernel)) (by decide +kernel)), (lw_G_in (List.mem_of_getElem? (i := 1359) (by decide +kernel)) (by decide +kernel)), (lw_G_in (List.mem_of_getElem? (i := 68) (by decide +kernel)) (by decide +kernel))⟩
theorem mX11_243 : OKV RX11 243 yX11_closestOf := ⟨(lw_G_in (List.mem_of_getElem? (i := 1365) (by decide +kernel)) (by decide +kernel)), (lw_G_in (List.mem_of_getElem? (i := 1367) (by decide +kernel)) (by decide +kernel)), (lw_G_in (List.mem_of_getElem? (i := 69) (by decide +kernel)) (by decide +kernel))⟩
theorem mX11_248 : OKV RX11 248 yX11_inverts := ⟨(lw_G_in (List.mem_of_getElem? (i := 1374) (by decide +kernel)) (by decide +kernel)), (lw_G_in (List.mem_of_getElem? (i := 1376) (by decide +kernel)) (by decide +kernel)), (lw_G_in (List.mem_of_getElem? (i := 70) (by decide +kernel)) (by decide +kernel))⟩
theorem mX11_252 : OKS RX11 252 yX11_power := ⟨(lw_G_in (List.mem_of_getElem? (i := 1389) (by decide +kernel)) (by decide +kernel)), (lw_G_in (List.mem_of_getElem? (i := 1390) (by decide +kernel)) (by decide +kernel))⟩
theorem mX11_255 : OKS RX11 255 yX11_voice := ⟨(lw_G_in (List.mem_of_getElem? (i := 1392) (by decide +kernel)) (by decide +kernel)), (lw_G_in (List.mem_of_getElem? (i := 1393) (by decide +kernel)) (by decide +kernel))⟩
theorem mX11_258 : OKV RX11 258 yX11_sound := ⟨(lw_G_in (List.mem_of_getElem? (i := 1399) (by decide +kernel)) (by decide +kernel)), (lw_G_in (List.mem_of_getElem? (i := 1401) (by decide +kernel)) (by decide +kernel)), (lw_G_in (List.mem_of_getElem? (i := 72) (by decide +kernel)) (by decide +kernel))⟩
theorem mX11_262 : OKS RX11 262 yX11_isOrder := ⟨(lw_G_in (List.mem_of_getElem? (i := 1386) (by decide +kernel)) (by decide +kernel)), (lw_G_in (List.mem_of_getElem? (i := 1387) (by decide +kernel)) (by decide +kernel))⟩
theorem mX11_265 : OKV RX11 265 yX11_orderFaults := ⟨(lw_G_in (List.mem_of_getElem? (i := 1395) (by decide +kernel)) (by decide +kernel)), (lw_G_in (List.mem_of_getElem? (i := 1397) (by decide +kernel)) (by decide +kernel)), (lw_G_in (List.mem_of_getElem? (i := 71) (by decide +kernel)) (by decide +kernel))⟩
theorem mX11_271 : OKV RX11 271 yX11_bestOf := ⟨(lw_G_in (List.mem_of_getElem? (i := 1407) (by decide +kernel)) (by decide +kernel)), (lw_G_in (List.mem_of_getElem? (i := 1409) (by decide +kernel)) (by decide +kernel)), (lw_G_in (List.mem_of_getElem? (i := 73) (by decide +kernel)) (by decide +kernel))⟩
theorem mX11_274 : OKS RX11 274 yX11_road := ⟨(lw_G_in (List.mem_of_getElem? (i := 1430) (by decide +kernel)) (by decide +kernel)), (lw_G_in (List.mem_of_getElem? (i := 1431) (by decide +kernel)) (by decide +kernel))⟩
theorem mX11_277 : OKV RX11 277 yX11_laysWays := ⟨(lw_G_in (List.mem_of_getElem? (i := 1426) (by decide +kernel)) (by decide +kernel)), (lw_G_in (List.mem_of_getElem? (i := 1428) (by decide +kernel)) (by decide +kernel)), (lw_G_in (List.mem_of_getElem? (i := 75) (by decide +kernel)) (by decide +kernel))⟩
theorem mX11_281 : OKS RX11 281 yX11_isKey := ⟨(lw_G_in (List.mem_of_getElem? (i := 1419) (by decide +kernel)) (by decide +kernel)), (lw_G_in (List.mem_of_getElem? (i := 1420) (by decide +kernel)) (by decide +kernel))⟩
theorem mX11_284 : OKV RX11 284 yX11_wayOf := ⟨(lw_G_in (List.mem_of_getElem? (i := 1422) (by decide +kernel)) (by decide +kernel)), (lw_G_in (List.mem_of_getElem? (i := 1424) (by decide +kernel)) (by decide +kernel)), (lw_G_in (List.mem_of_getElem? (i := 74) (by decide +kernel)) (by decide +kernel))⟩
theorem mX11_287 : OKV RX11 287 yX11_visited := ⟨(lw_G_in (List.mem_of_getElem? (i := 1445) (by decide +kernel)) (by decide +kernel)), (lw_G_in (List.mem_of_getElem? (i := 1447) (by decide +kernel)) (by decide +kernel)), (lw_G_in (List.mem_of_getElem? (i := 77) (by decide +kernel)) (by decide +kernel))⟩
theorem mX11_290 : OKV RX11 290 yX11_canVisit := ⟨(lw_G_in (List.mem_of_getElem? (i := 1441) (by decide +kernel)) (by decide +kernel)), (lw_G_in (List.mem_of_getElem? (i := 1443) (by decide +kernel)) (by decide +kernel)), (lw_G_in (List.mem_of_getElem? (i := 76) (by decide +kernel)) (by decide +kernel))⟩
theorem mX11_293 : OKV RX11 293 yX11_visitNow := ⟨(lw_G_in (List.mem_of_getElem? (i := 1449) (by decide +kernel)) (by decide +kernel)), (lw_G_in (List.mem_of_getElem? (i := 1451) (by decide +kernel)) (by decide +kernel)), (lw_G_in (List.mem_of_getElem? (i := 78) (by decide +kernel)) (by decide +kernel))⟩
theorem mX11_296 : OKV RX11 296 yX11_keyAt := ⟨(lw_G_in (List.mem_of_getElem? (i := 1469) (by decide +kernel)) (by decide +kernel)), (lw_G_in (List.mem_of_getElem? (i := 1471) (by decide +kernel)) (by decide +kernel)), (lw_G_in (List.mem_of_getElem? (i := 81) (by decide +kernel)) (by decide +kernel))⟩
theorem mX11_299 : OKV RX11 299 yX11_laysBetween := ⟨(lw_G_in (List.mem_of_getElem? (i := 1465) (by decide +kernel)) (by decide +kernel)), (lw_G_in (List.mem_of_getElem? (i := 1467) (by decide +kernel)) (by decide +kernel)), (lw_G_in (List.mem_of_getElem? (i := 80) (by decide +kernel)) (by decide +kernel))⟩
theorem mX11_302 : OKV RX11 302 yX11_isRow := ⟨(lw_G_in (List.mem_of_getElem? (i := 1473) (by decide +kernel)) (by decide +kernel)), (lw_G_in (List.mem_of_getElem? (i := 1475) (by decide +kernel)) (by decide +kernel)), (lw_G_in (List.mem_of_getElem? (i := 82) (by decide +kernel)) (by decide +kernel))⟩
theorem mX11_305 : OKV RX11 305 yX11_isLess := ⟨(lw_G_in (List.mem_of_getElem? (i := 1477) (by decide +kernel)) (by decide +kernel)), (lw_G_in (List.mem_of_getElem? (i := 1479) (by decide +kernel)) (by decide +kernel)), (lw_G_in (List.mem_of_getElem? (i := 83) (by decide +kernel)) (by decide +kernel))⟩
theorem mX11_309 : OKV RX11 309 yX11_bestPath := ⟨(lw_G_in (List.mem_of_getElem? (i := 1461) (by decide +kernel)) (by decide +kernel)), (lw_G_in (List.mem_of_getElem? (i := 1463) (by decide +kernel)) (by decide +kernel)), (lw_G_in (List.mem_of_getElem? (i := 79) (by decide +kernel)) (by decide +kernel))⟩
theorem mX11_324 : OKV RX11 324 yX11_here := ⟨(lw_G_in (List.mem_of_getElem? (i := 1498) (by decide +kernel)) (by decide +kernel)), (lw_G_in (List.mem_of_getElem? (i := 1500) (by decide +kernel)) (by decide +kernel)), (lw_G_in (List.mem_of_getElem? (i := 85) (by decide +kernel)) (by decide +kernel))⟩
theorem mX11_330 : OKV RX11 330 yX11_isFigure := ⟨(lw_G_in (List.mem_of_getElem? (i := 1514) (by decide +kernel)) (by decide +kernel)), (lw_G_in (List.mem_of_getElem? (i := 1516) (by decide +kernel)) (by decide +kernel)), (lw_G_in (List.mem_of_getElem? (i := 89) (by decide +kernel)) (by decide +kernel))⟩
theorem mX11_333 : OKV RX11 333 yX11_takes := ⟨(lw_G_in (List.mem_of_getElem? (i := 1510) (by decide +kernel)) (by decide +kernel)), (lw_G_in (List.mem_of_getElem? (i := 1512) (by decide +kernel)) (by decide +kernel)), (lw_G_in (List.mem_of_getElem? (i := 88) (by decide +kernel)) (by decide +kernel))⟩
theorem mX11_337 : OKV RX11 337 yX11_takesAll := ⟨(lw_G_in (List.mem_of_getElem? (i := 1506) (by decide +kernel)) (by decide +kernel)), (lw_G_in (List.mem_of_getElem? (i := 1508) (by decide +kernel)) (by decide +kernel)), (lw_G_in (List.mem_of_getElem? (i := 87) (by decide +kernel)) (by decide +kernel))⟩
theorem mX11_343 : OKV RX11 343 yX11_readsNotes := ⟨(lw_G_in (List.mem_of_getElem? (i := 1520) (by decide +kernel)) (by decide +kernel)), (lw_G_in (List.mem_of_getElem? (i := 1522) (by decide +kernel)) (by decide +kernel)), (lw_G_in (List.mem_of_getElem? (i := 90) (by decide +kernel)) (by decide +kernel))⟩
theorem mX11_347 : OKV RX11 347 yX11_readsLine := ⟨(lw_G_in (List.mem_of_getElem? (i := 1502) (by decide +kernel)) (by decide +kernel)), (lw_G_in (List.mem_of_getElem? (i := 1504) (by decide +kernel)) (by decide +kernel)), (lw_G_in (List.mem_of_getElem? (i := 86) (by decide +kernel)) (by decide +kernel))⟩
theorem mX11_350 : OKV RX11 350 yX11_readsEntry := ⟨(lw_G_in (List.mem_of_getElem? (i := 1524) (by decide +kernel)) (by decide +kernel)), (lw_G_in (List.mem_of_getElem? (i := 1526) (by decide +kernel)) (by decide +kernel)), (lw_G_in (List.mem_of_getElem? (i := 91) (by decide +kernel)) (by decide +kernel))⟩
theorem mX11_353 : OKV RX11 353 yX11_readsKeys := ⟨(lw_G_in (List.mem_of_getElem? (i := 1528) (by decide +kernel)) (by decide +kernel)), (lw_G_in (List.mem_of_getElem? (i := 1530) (by decide +kernel)) (by decide +kernel)), (lw_G_in (List.mem_of_getElem? (i := 92) (by decide +kernel)) (by decide +kernel))⟩
theorem mX11_356 : OKV RX11 356 yX11_readsSetting := ⟨(lw_G_in (List.mem_of_getElem? (i := 1532) (by decide +kernel)) (by decide +kernel)), (lw_G_in (List.mem_of_getElem? (i := 1534) (by decide +kernel)) (by decide +kernel)), (lw_G_in (List.mem_of_getElem? (i := 93) (by decide +kernel)) (by decide +kernel))⟩
theorem mX11_359 : OKV RX11 359 yX11_readsOrder := ⟨(lw_G_in (List.mem_of_getElem? (i := 1494) (by decide +kernel)) (by decide +kernel)), (lw_G_in (List.mem_of_getElem? (i := 1496) (by decide +kernel)) (by decide +kernel)), (lw_G_in (List.mem_of_getElem? (i := 84) (by decide +kernel)) (by decide +kernel))⟩
theorem mX11_362 : OKV RX11 362 yX11_keepsAside := ⟨(lw_G_in (List.mem_of_getElem? (i := 1536) (by decide +kernel)) (by decide +kernel)), (lw_G_in (List.mem_of_getElem? (i := 1538) (by decide +kernel)) (by decide +kernel)), (lw_G_in (List.mem_of_getElem? (i := 94) (by decide +kernel)) (by decide +kernel))⟩
theorem mX11_365 : OKV RX11 365 yX11_toldOf := ⟨(lw_G_in (List.mem_of_getElem? (i := 1548) (by decide +kernel)) (by decide +kernel)), (lw_G_in (List.mem_of_getElem? (i := 1550) (by decide +kernel)) (by decide +kernel)), (lw_G_in (List.mem_of_getElem? (i := 95) (by decide +kernel)) (by decide +kernel))⟩
end
section
/-- as Con.of, for a method of a class that is not plainly named -/
theorem Con.ofF {l : Launch} {X : u_X} {y : MethodName} {cc : ByteArray} {nL : Nat} {ret : Option FieldType} {rf rl mc ms : Nat} {args : List Value} {w : va_W} {Rt : Option Value → va_W → Prop} (lv : List (Option Value)) (hy : plainFor y = true) (hlv : lvp 0 lv = lv_args 0 args) (hln : lv.length = nL) (hsl : (lg_sl args).length ≤ nL)
    (body : ∀ K, Wk l X { frames := rf, cells := mc, slots := ms, locals := rl } cc nL y.cls y.name ret Rt K → K 0 0 0 lv [] w) : Con l X y cc nL ret rf rl mc ms args w Rt := by
  intro sz
  refine MetFree.of_bodySF (code := cc) (maxLocals := nL) (ret := ret) hy ?_ ?_
  · intro args s m h hn
    obtain ⟨meth, c, h1, h2, h3, h4, h5, h6, -, -⟩ := Cond.code_spec hn (atoms_spec (ws := wsG y cc nL ret) h _ List.mem_cons_self)
    exact ⟨meth, c, h1, h2, h3, h4, h5, h6⟩
  · intro p e s m a below meth c s₁ B hml hv _
    have hh0 : s₁.heap = s.heap := by rw [B.state]; rfl
    obtain ⟨rfl, hsz, hP, hK, hD0⟩ := hv
    have hts := atoms_spec (ws := wsG y cc nL ret) B.pre
    have hown : s.vm.findClass y.cls = some m.cls := findClass_of_methodNamed B.named
    subst hsz
    have hD := hD0.self (sz := s.heap.size)
    have hl := lv_entry args (n := nL) hsl
    rw [lg_entry_eq]
    rw [← hlv] at hl
    have K := body _ ⟨p, e, s, m, args.toArray, below, meth, c, va_A w s.heap.size, rfl, B.exec, B.bytes, hml, hown, fun w h => hts w (List.mem_cons_of_mem _ h), hK, fun q h => Or.inr h, (name_of_methodNamed B.named B.method).1, B.returns, B.notSynchronized⟩ hln s.heap [] _ hl hP hD va_S.rf
    obtain ⟨t, a1, o, b1, b2, b3⟩ := K s₁ hh0 (Stand.of_body B)
    exact ⟨t, o, a1, b1, b2, ⟨b3.1, b3.2⟩⟩
/-! THE POSTS of typed methods, and the small words of their functions -/
def RI (E : u_E) (r : Int) (s : u_S) : Option Value → va_W → Prop := fun v w => v = some (.int (J r)) ∧ w = Wd E s ∧ InR r
def RZ (E : u_E) (r : Int) (s : u_S) : Option Value → va_W → Prop := fun v w => v = some (.int (J r)) ∧ w = Wd E s ∧ B01 r
def RJ (E : u_E) (r : Int) (s : u_S) : Option Value → va_W → Prop := fun v w => v = some (.long (JL r)) ∧ w = Wd E s ∧ InL r
def RV (E : u_E) (_ : Int) (s : u_S) : Option Value → va_W → Prop := fun v w => v = none ∧ w = Wd E s
/-- a run's result handed on -/
def bd {α : Type} (x : Option (Int × u_S)) (k : Int → u_S → Option α) : Option α := match x with
  | some (v, s) => k v s
  | none => none
theorem bd_some {α : Type} {x : Option (Int × u_S)} {k : Int → u_S → Option α} {r : α} (h : bd x k = some r) : ∃ v s, x = some (v, s) ∧ k v s = some r := by
  cases x with
  | none => cases h
  | some q => exact ⟨q.1, q.2, rfl, h⟩
theorem bd_eq {α : Type} (v : Int) (s : u_S) (k : Int → u_S → Option α) : bd (some (v, s)) k = k v s := rfl
/-- a place where ways join -/
def jn {α β : Type} (k : α) (b : α → β) : β := b k
theorem jn_some {α β : Type} {k : α} {b : α → Option β} {r : β} (h : jn k b = some r) : ∃ jp, jp = k ∧ b jp = some r := ⟨k, rfl, h⟩
def nz {α : Type} (b : Int) (k : Option α) : Option α := if b = 0 then none else k
theorem nz_some {α : Type} {b : Int} {k : Option α} {r : α} (h : nz b k = some r) : ¬ b = 0 ∧ k = some r := by
  unfold nz at h
  split at h
  · cases h
  · exact ⟨‹_›, h⟩
theorem if_t {α : Type} {c : Prop} [Decidable c] {a b x : α} (hc : c) (h : (if c then a else b) = x) : a = x := by rw [if_pos hc] at h; exact h
theorem if_f {α : Type} {c : Prop} [Decidable c] {a b x : α} (hc : ¬ c) (h : (if c then a else b) = x) : b = x := by rw [if_neg hc] at h; exact h
/-- turns enough for any loop -/
def FU : Nat := 100000
section TYPED
variable {l : Launch} {E : u_E} {R : Room} {cc : ByteArray} {nL : Nat} {own nm : String} {K : u_K} {nc ns pc : Nat} {lv : List (Option Value)} {st : List Value} {s s1 : u_S} {v : Int}
variable {y : MethodName} {cy : ByteArray} {nY idx rf rl n : Nat} {b : Nat} {As rest : List Value}
theorem r_cVI (g : Wk0 l (XE E) R cc nL own nm K) (hc : Con l (XE E) y cy nY (some .int) rf rl 0 0 (.ref b :: As) (Wd E s) (RI E v s1)) (ho : OKc y cy nY (some .int) n) (hv : OKV own idx y) (hrecv : Recv (Wd E s) b y.cls) (d : decode cc pc = .ok (.invokevirtual idx, 3)) (hR : rf + 1 ≤ R.frames ∧ 8 + (nY + 11) + rl ≤ R.locals) (hroom : nc ≤ R.cells ∧ ns ≤ R.slots) (hn : As.length = n) (hrest : (rest.map fun v => v.category).sum ≤ 8) (hst : As.reverse ++ .ref b :: rest = st) (k : InR v → K nc ns (pc + 3) lv ( .int (J v) :: rest) (Wd E s1)) : K nc ns pc lv st (Wd E s) :=
  r_callV g hc ho hv hrecv d hR hroom hn hrest hst (fun v' w' hq => by
    obtain ⟨rfl, rfl, hi⟩ := hq
    exact k hi)
theorem r_cVZ (g : Wk0 l (XE E) R cc nL own nm K) (hc : Con l (XE E) y cy nY (some .boolean) rf rl 0 0 (.ref b :: As) (Wd E s) (RZ E v s1)) (ho : OKc y cy nY (some .boolean) n) (hv : OKV own idx y) (hrecv : Recv (Wd E s) b y.cls) (d : decode cc pc = .ok (.invokevirtual idx, 3)) (hR : rf + 1 ≤ R.frames ∧ 8 + (nY + 11) + rl ≤ R.locals) (hroom : nc ≤ R.cells ∧ ns ≤ R.slots) (hn : As.length = n) (hrest : (rest.map fun v => v.category).sum ≤ 8) (hst : As.reverse ++ .ref b :: rest = st) (k : B01 v → K nc ns (pc + 3) lv ( .int (J v) :: rest) (Wd E s1)) : K nc ns pc lv st (Wd E s) :=
  r_callV g hc ho hv hrecv d hR hroom hn hrest hst (fun v' w' hq => by
    obtain ⟨rfl, rfl, hi⟩ := hq
    exact k hi)
theorem r_cVJ (g : Wk0 l (XE E) R cc nL own nm K) (hc : Con l (XE E) y cy nY (some .long) rf rl 0 0 (.ref b :: As) (Wd E s) (RJ E v s1)) (ho : OKc y cy nY (some .long) n) (hv : OKV own idx y) (hrecv : Recv (Wd E s) b y.cls) (d : decode cc pc = .ok (.invokevirtual idx, 3)) (hR : rf + 1 ≤ R.frames ∧ 8 + (nY + 11) + rl ≤ R.locals) (hroom : nc ≤ R.cells ∧ ns ≤ R.slots) (hn : As.length = n) (hrest : (rest.map fun v => v.category).sum ≤ 8) (hst : As.reverse ++ .ref b :: rest = st) (k : InL v → K nc ns (pc + 3) lv ( .long (JL v) :: rest) (Wd E s1)) : K nc ns pc lv st (Wd E s) :=
  r_callV g hc ho hv hrecv d hR hroom hn hrest hst (fun v' w' hq => by
    obtain ⟨rfl, rfl, hi⟩ := hq
    exact k hi)
theorem r_cVV (g : Wk0 l (XE E) R cc nL own nm K) (hc : Con l (XE E) y cy nY none rf rl 0 0 (.ref b :: As) (Wd E s) (RV E v s1)) (ho : OKc y cy nY none n) (hv : OKV own idx y) (hrecv : Recv (Wd E s) b y.cls) (d : decode cc pc = .ok (.invokevirtual idx, 3)) (hR : rf + 1 ≤ R.frames ∧ 8 + (nY + 11) + rl ≤ R.locals) (hroom : nc ≤ R.cells ∧ ns ≤ R.slots) (hn : As.length = n) (hrest : (rest.map fun v => v.category).sum ≤ 8) (hst : As.reverse ++ .ref b :: rest = st) (k : K nc ns (pc + 3) lv rest (Wd E s1)) : K nc ns pc lv st (Wd E s) :=
  r_callV g hc ho hv hrecv d hR hroom hn hrest hst (fun v' w' hq => by
    obtain ⟨rfl, rfl⟩ := hq
    exact k)
theorem r_cSI (g : Wk0 l (XE E) R cc nL own nm K) (hc : Con l (XE E) y cy nY (some .int) rf rl 0 0 (As) (Wd E s) (RI E v s1)) (ho : OKc y cy nY (some .int) n) (hv : OKS own idx y) (d : decode cc pc = .ok (.invokestatic idx, 3)) (hR : rf + 1 ≤ R.frames ∧ 8 + (nY + 11) + rl ≤ R.locals) (hroom : nc ≤ R.cells ∧ ns ≤ R.slots) (hn : As.length = n) (hrest : (rest.map fun v => v.category).sum ≤ 8) (hst : As.reverse ++ rest = st) (k : InR v → K nc ns (pc + 3) lv ( .int (J v) :: rest) (Wd E s1)) : K nc ns pc lv st (Wd E s) :=
  r_callS g hc ho hv d hR hroom hn hrest hst (fun v' w' hq => by
    obtain ⟨rfl, rfl, hi⟩ := hq
    exact k hi)
theorem r_cSZ (g : Wk0 l (XE E) R cc nL own nm K) (hc : Con l (XE E) y cy nY (some .boolean) rf rl 0 0 (As) (Wd E s) (RZ E v s1)) (ho : OKc y cy nY (some .boolean) n) (hv : OKS own idx y) (d : decode cc pc = .ok (.invokestatic idx, 3)) (hR : rf + 1 ≤ R.frames ∧ 8 + (nY + 11) + rl ≤ R.locals) (hroom : nc ≤ R.cells ∧ ns ≤ R.slots) (hn : As.length = n) (hrest : (rest.map fun v => v.category).sum ≤ 8) (hst : As.reverse ++ rest = st) (k : B01 v → K nc ns (pc + 3) lv ( .int (J v) :: rest) (Wd E s1)) : K nc ns pc lv st (Wd E s) :=
  r_callS g hc ho hv d hR hroom hn hrest hst (fun v' w' hq => by
    obtain ⟨rfl, rfl, hi⟩ := hq
    exact k hi)
theorem r_cSJ (g : Wk0 l (XE E) R cc nL own nm K) (hc : Con l (XE E) y cy nY (some .long) rf rl 0 0 (As) (Wd E s) (RJ E v s1)) (ho : OKc y cy nY (some .long) n) (hv : OKS own idx y) (d : decode cc pc = .ok (.invokestatic idx, 3)) (hR : rf + 1 ≤ R.frames ∧ 8 + (nY + 11) + rl ≤ R.locals) (hroom : nc ≤ R.cells ∧ ns ≤ R.slots) (hn : As.length = n) (hrest : (rest.map fun v => v.category).sum ≤ 8) (hst : As.reverse ++ rest = st) (k : InL v → K nc ns (pc + 3) lv ( .long (JL v) :: rest) (Wd E s1)) : K nc ns pc lv st (Wd E s) :=
  r_callS g hc ho hv d hR hroom hn hrest hst (fun v' w' hq => by
    obtain ⟨rfl, rfl, hi⟩ := hq
    exact k hi)
theorem r_cSV (g : Wk0 l (XE E) R cc nL own nm K) (hc : Con l (XE E) y cy nY none rf rl 0 0 (As) (Wd E s) (RV E v s1)) (ho : OKc y cy nY none n) (hv : OKS own idx y) (d : decode cc pc = .ok (.invokestatic idx, 3)) (hR : rf + 1 ≤ R.frames ∧ 8 + (nY + 11) + rl ≤ R.locals) (hroom : nc ≤ R.cells ∧ ns ≤ R.slots) (hn : As.length = n) (hrest : (rest.map fun v => v.category).sum ≤ 8) (hst : As.reverse ++ rest = st) (k : K nc ns (pc + 3) lv rest (Wd E s1)) : K nc ns pc lv st (Wd E s) :=
  r_callS g hc ho hv d hR hroom hn hrest hst (fun v' w' hq => by
    obtain ⟨rfl, rfl⟩ := hq
    exact k)
theorem r_cNI (g : Wk0 l (XE E) R cc nL own nm K) {host : String} (hc : Con l (XE E) y cy nY (some .int) rf rl 0 0 (As) (Wd E s) (RI E v s1)) (ho : OKc y cy nY (some .int) n) (hv : OKSN own host idx y) (d : decode cc pc = .ok (.invokestatic idx, 3)) (hR : rf + 1 ≤ R.frames ∧ 8 + (nY + 11) + rl ≤ R.locals) (hroom : nc ≤ R.cells ∧ ns ≤ R.slots) (hn : As.length = n) (hrest : (rest.map fun v => v.category).sum ≤ 8) (hst : As.reverse ++ rest = st) (k : InR v → K nc ns (pc + 3) lv ( .int (J v) :: rest) (Wd E s1)) : K nc ns pc lv st (Wd E s) :=
  r_callSN g hc ho hv d hR hroom hn hrest hst (fun v' w' hq => by
    obtain ⟨rfl, rfl, hi⟩ := hq
    exact k hi)
theorem r_cNZ (g : Wk0 l (XE E) R cc nL own nm K) {host : String} (hc : Con l (XE E) y cy nY (some .boolean) rf rl 0 0 (As) (Wd E s) (RZ E v s1)) (ho : OKc y cy nY (some .boolean) n) (hv : OKSN own host idx y) (d : decode cc pc = .ok (.invokestatic idx, 3)) (hR : rf + 1 ≤ R.frames ∧ 8 + (nY + 11) + rl ≤ R.locals) (hroom : nc ≤ R.cells ∧ ns ≤ R.slots) (hn : As.length = n) (hrest : (rest.map fun v => v.category).sum ≤ 8) (hst : As.reverse ++ rest = st) (k : B01 v → K nc ns (pc + 3) lv ( .int (J v) :: rest) (Wd E s1)) : K nc ns pc lv st (Wd E s) :=
  r_callSN g hc ho hv d hR hroom hn hrest hst (fun v' w' hq => by
    obtain ⟨rfl, rfl, hi⟩ := hq
    exact k hi)
theorem r_cNJ (g : Wk0 l (XE E) R cc nL own nm K) {host : String} (hc : Con l (XE E) y cy nY (some .long) rf rl 0 0 (As) (Wd E s) (RJ E v s1)) (ho : OKc y cy nY (some .long) n) (hv : OKSN own host idx y) (d : decode cc pc = .ok (.invokestatic idx, 3)) (hR : rf + 1 ≤ R.frames ∧ 8 + (nY + 11) + rl ≤ R.locals) (hroom : nc ≤ R.cells ∧ ns ≤ R.slots) (hn : As.length = n) (hrest : (rest.map fun v => v.category).sum ≤ 8) (hst : As.reverse ++ rest = st) (k : InL v → K nc ns (pc + 3) lv ( .long (JL v) :: rest) (Wd E s1)) : K nc ns pc lv st (Wd E s) :=
  r_callSN g hc ho hv d hR hroom hn hrest hst (fun v' w' hq => by
    obtain ⟨rfl, rfl, hi⟩ := hq
    exact k hi)
theorem r_cNV (g : Wk0 l (XE E) R cc nL own nm K) {host : String} (hc : Con l (XE E) y cy nY none rf rl 0 0 (As) (Wd E s) (RV E v s1)) (ho : OKc y cy nY none n) (hv : OKSN own host idx y) (d : decode cc pc = .ok (.invokestatic idx, 3)) (hR : rf + 1 ≤ R.frames ∧ 8 + (nY + 11) + rl ≤ R.locals) (hroom : nc ≤ R.cells ∧ ns ≤ R.slots) (hn : As.length = n) (hrest : (rest.map fun v => v.category).sum ≤ 8) (hst : As.reverse ++ rest = st) (k : K nc ns (pc + 3) lv rest (Wd E s1)) : K nc ns pc lv st (Wd E s) :=
  r_callSN g hc ho hv d hR hroom hn hrest hst (fun v' w' hq => by
    obtain ⟨rfl, rfl⟩ := hq
    exact k)
variable {s' : u_S} {r e : Int} {rfm rlm : Nat}
theorem z_I (g : Wk l (XE E) { frames := rfm, cells := 0, slots := 0, locals := rlm } cc nL own nm (some .int) (RI E r s') K) (d : decode cc pc = .ok (.ireturn, 1)) (he : InR e) (h : some (e, s) = some (r, s')) : K 0 0 pc lv [.int (J e)] (Wd E s) := by
  cases h
  exact r_ireturn g d ⟨rfl, rfl, he⟩
theorem z_Z (g : Wk l (XE E) { frames := rfm, cells := 0, slots := 0, locals := rlm } cc nL own nm (some .boolean) (RZ E r s') K) (d : decode cc pc = .ok (.ireturn, 1)) (he : B01 e) (h : some (e, s) = some (r, s')) : K 0 0 pc lv [.int (J e)] (Wd E s) := by
  cases h
  exact r_zreturn g d he ⟨rfl, rfl, he⟩
theorem z_J (g : Wk l (XE E) { frames := rfm, cells := 0, slots := 0, locals := rlm } cc nL own nm (some .long) (RJ E r s') K) (d : decode cc pc = .ok (.lreturn, 1)) (he : InL e) (h : some (e, s) = some (r, s')) : K 0 0 pc lv [.long (JL e)] (Wd E s) := by
  cases h
  exact r_lreturn g d ⟨rfl, rfl, he⟩
theorem z_V (g : Wk l (XE E) { frames := rfm, cells := 0, slots := 0, locals := rlm } cc nL own nm none (RV E r s') K) (d : decode cc pc = .ok (.return_, 1)) (h : some (e, s) = some (r, s')) : K 0 0 pc lv [] (Wd E s) := by
  cases h
  exact r_vreturn g d ⟨rfl, rfl⟩
end TYPED
end
section
def f_X5_has (o : u_O) (p1 : Int) (s : u_S) : Option (Int × u_S) := if p1 < 0 then (some (0, s)) else (if p1 < (rd s o 2) then (if (rd s o 2) ≤ 10 then (some (1, s)) else (some (0, s))) else (some (0, s)))
def f_J9_floorMod_7cf53 (p1 : Int) (p2 : Int) (s : u_S) : Option (Int × u_S) := nz p2 (if (ixor p1 p2) < 0 then (if (Int.tmod p1 p2) = 0 then (some ((Int.tmod p1 p2), s)) else (some ((wr ((Int.tmod p1 p2) + p2)), s))) else (some ((Int.tmod p1 p2), s)))
def f_X5_formedStep (o : u_O) (p1 : Int) (p2 : Int) (p3 : Int) (p4 : Int) (s : u_S) : Option (Int × u_S) := bd (f_X5_has o p2 s) (fun r_1 s_1 => if r_1 = 0 then (some (0, s_1)) else (if p1 = 3 then (gd (wr ((wr ((rd s_1 o 2) - 1)) - p2)) 10 (some ((rd s_1 (a_Line_steps o) (wr ((wr ((rd s_1 o 2) - 1)) - p2))), s_1))) else (if p1 = 2 then (gd 0 10 (gd p2 10 (some ((wr ((wr (2 * (rd s_1 (a_Line_steps o) 0))) - (rd s_1 (a_Line_steps o) p2))), s_1)))) else (if p1 = 1 then (jn (fun (vt_1 : Int) (s_2 : u_S) => gd p2 10 (jn (fun (vt_2 : Int) (vt_3 : Int) (s_3 : u_S) => some ((wr (vt_2 + vt_3)), s_3)) (fun jp_2 => if vt_1 = 0 then (jp_2 (rd s_2 (a_Line_steps o) p2) 4 s_2) else (jp_2 (rd s_2 (a_Line_steps o) p2) 3 s_2)))) (fun jp_1 => jn (fun (s_4 : u_S) => jp_1 0 s_4) (fun jp_3 => if p2 < p3 then (gd p2 10 (bd (f_J9_floorMod_7cf53 (wr ((rd s_1 (a_Line_steps o) p2) - p4)) 7 s_1) (fun r_2 s_5 => if r_2 = 4 then (jp_1 1 s_5) else (jp_3 s_5)))) else (jp_3 s_1)))) else (gd p2 10 (some ((rd s_1 (a_Line_steps o) p2), s_1)))))))
def f_X5_formedTicks (o : u_O) (p1 : Int) (p2 : Int) (s : u_S) : Option (Int × u_S) := bd (f_X5_has o p2 s) (fun r_1 s_1 => if r_1 = 0 then (some (0, s_1)) else (if p1 = 3 then (gd (wr ((wr ((rd s_1 o 2) - 1)) - p2)) 10 (some ((rd s_1 (a_Line_ticks o) (wr ((wr ((rd s_1 o 2) - 1)) - p2))), s_1))) else (if p1 = 4 then (gd p2 10 (some ((wr (2 * (rd s_1 (a_Line_ticks o) p2))), s_1))) else (gd p2 10 (some ((rd s_1 (a_Line_ticks o) p2), s_1))))))
def f_X8_append_L2 : Nat → (u_S → Option (Int × u_S)) → u_O → Int → Int → Int → u_S → Option (Int × u_S)
  | 0, _, _, _, _, _, _ => none
  | m + 1, kx42, v0_1, v1_1, v2_1, v3_1, s_2 => if v3_1 < v2_1 then (if (rd s_2 v0_1 1) < 80 then (gd (rd s_2 v0_1 1) 80 (f_X8_append_L2 m kx42 v0_1 v1_1 v2_1 (wr (v3_1 + 1)) (wt (wt s_2 (a_Sound_steps v0_1) (rd s_2 v0_1 1) v1_1) v0_1 1 (wr ((rd (wt s_2 (a_Sound_steps v0_1) (rd s_2 v0_1 1) v1_1) v0_1 1) + 1))))) else (kx42 s_2)) else (kx42 s_2)
def f_X8_append (o : u_O) (p1 : Int) (p2 : Int) (s : u_S) : Option (Int × u_S) := f_X8_append_L2 FU (fun s_1 => some (0, s_1)) o p1 p2 0 s
def f_X8_place (o : u_O) (p1 : Int) (p2 : Int) (s : u_S) : Option (Int × u_S) := some (0, (wt (wt s o 2 p1) o 3 p2))
def f_X8_isHeardAt (o : u_O) (p1 : Int) (s : u_S) : Option (Int × u_S) := if p1 < (rd s o 2) then (some (0, s)) else (if (wr (p1 - (rd s o 2))) < (rd s o 1) then (if (rd s o 2) < 0 then (some (0, s)) else (some (1, s))) else (some (0, s)))
def f_X8_stepAt (o : u_O) (p1 : Int) (s : u_S) : Option (Int × u_S) := bd (f_X8_isHeardAt o p1 s) (fun r_1 s_1 => if r_1 = 0 then (some ((-1000), s_1)) else (gd (wr (p1 - (rd s_1 o 2))) 80 (some ((rd s_1 (a_Sound_steps o) (wr (p1 - (rd s_1 o 2)))), s_1))))
def f_X8_end (o : u_O) (s : u_S) : Option (Int × u_S) := some ((wr ((rd s o 2) + (rd s o 1))), s)
def f_J9_max_7cf53 (p1 : Int) (p2 : Int) (s : u_S) : Option (Int × u_S) := if p1 < p2 then (some (p2, s)) else (some (p1, s))
def f_J9_min_7cf53 (p1 : Int) (p2 : Int) (s : u_S) : Option (Int × u_S) := if p1 ≤ p2 then (some (p1, s)) else (some (p2, s))
def f_X5_copyFrom_L2 : Nat → (u_S → Option (Int × u_S)) → u_O → u_O → Int → u_S → Option (Int × u_S)
  | 0, _, _, _, _, _ => none
  | m + 1, kx38, v0_1, v1_1, v2_1, s_2 => if v2_1 < 10 then (gd v2_1 10 (gd v2_1 10 (gd v2_1 10 (gd v2_1 10 (f_X5_copyFrom_L2 m kx38 v0_1 v1_1 (wr (v2_1 + 1)) (wt (wt s_2 (a_Line_steps v0_1) v2_1 (rd s_2 (a_Line_steps v1_1) v2_1)) (a_Line_ticks v0_1) v2_1 (rd (wt s_2 (a_Line_steps v0_1) v2_1 (rd s_2 (a_Line_steps v1_1) v2_1)) (a_Line_ticks v1_1) v2_1))))))) else (kx38 s_2)
def f_X5_copyFrom (o : u_O) (p1 : u_O) (s : u_S) : Option (Int × u_S) := f_X5_copyFrom_L2 FU (fun s_1 => some (0, (wt s_1 o 2 (rd s_1 p1 2)))) o p1 0 s
def f_X5_isEmpty (o : u_O) (s : u_S) : Option (Int × u_S) := if (rd s o 2) ≤ 0 then (some (1, s)) else (some (0, s))
def f_X5_isFull (o : u_O) (s : u_S) : Option (Int × u_S) := if (rd s o 2) < 10 then (some (0, s)) else (some (1, s))
def f_X5_append (o : u_O) (p1 : Int) (p2 : Int) (s : u_S) : Option (Int × u_S) := bd (f_X5_isFull o s) (fun r_1 s_1 => if r_1 = 0 then (gd (rd s_1 o 2) 10 (gd (rd (wt s_1 (a_Line_steps o) (rd s_1 o 2) p1) o 2) 10 (some (0, (wt (wt (wt s_1 (a_Line_steps o) (rd s_1 o 2) p1) (a_Line_ticks o) (rd (wt s_1 (a_Line_steps o) (rd s_1 o 2) p1) o 2) p2) o 2 (wr ((rd (wt (wt s_1 (a_Line_steps o) (rd s_1 o 2) p1) (a_Line_ticks o) (rd (wt s_1 (a_Line_steps o) (rd s_1 o 2) p1) o 2) p2) o 2) + 1))))))) else (some (0, s_1)))
def f_X5_remove_L13 : Nat → (u_S → Option (Int × u_S)) → u_O → Int → u_S → Option (Int × u_S)
  | 0, _, _, _, _ => none
  | m + 1, kx55, v0_1, v2_1, s_3 => if v2_1 < (rd s_3 v0_1 2) then (gd v2_1 10 (gd (wr (v2_1 - 1)) 10 (gd v2_1 10 (gd (wr (v2_1 - 1)) 10 (f_X5_remove_L13 m kx55 v0_1 (wr (v2_1 + 1)) (wt (wt s_3 (a_Line_steps v0_1) (wr (v2_1 - 1)) (rd s_3 (a_Line_steps v0_1) v2_1)) (a_Line_ticks v0_1) (wr (v2_1 - 1)) (rd (wt s_3 (a_Line_steps v0_1) (wr (v2_1 - 1)) (rd s_3 (a_Line_steps v0_1) v2_1)) (a_Line_ticks v0_1) v2_1))))))) else (kx55 s_3)
def f_X5_remove (o : u_O) (p1 : Int) (s : u_S) : Option (Int × u_S) := bd (f_X5_has o p1 s) (fun r_1 s_1 => if r_1 = 0 then (some (0, s_1)) else (f_X5_remove_L13 FU (fun s_2 => some (0, (wt s_2 o 2 (wr ((rd s_2 o 2) - 1))))) o (wr (p1 + 1)) s_1))
def f_X5_stepOf (o : u_O) (p1 : Int) (s : u_S) : Option (Int × u_S) := bd (f_X5_has o p1 s) (fun r_1 s_1 => if r_1 = 0 then (some (0, s_1)) else (gd p1 10 (some ((rd s_1 (a_Line_steps o) p1), s_1))))
def f_X5_ticksOf (o : u_O) (p1 : Int) (s : u_S) : Option (Int × u_S) := bd (f_X5_has o p1 s) (fun r_1 s_1 => if r_1 = 0 then (some (0, s_1)) else (gd p1 10 (some ((rd s_1 (a_Line_ticks o) p1), s_1))))
def f_X5_tickBefore_L4 : Nat → (Int → u_S → Option (Int × u_S)) → u_O → Int → Int → Int → u_S → Option (Int × u_S)
  | 0, _, _, _, _, _, _ => none
  | m + 1, kx32, v0_1, v1_1, v2_2, v3_1, s_2 => if v3_1 < v1_1 then (if v3_1 < (rd s_2 v0_1 2) then (gd v3_1 10 (f_X5_tickBefore_L4 m kx32 v0_1 v1_1 (wr (v2_2 + (rd s_2 (a_Line_ticks v0_1) v3_1))) (wr (v3_1 + 1)) s_2)) else (kx32 v2_2 s_2)) else (kx32 v2_2 s_2)
def f_X5_tickBefore (o : u_O) (p1 : Int) (s : u_S) : Option (Int × u_S) := f_X5_tickBefore_L4 FU (fun v2_1 s_1 => some (v2_1, s_1)) o p1 0 0 s
def f_X5_length (o : u_O) (s : u_S) : Option (Int × u_S) := bd (f_X5_tickBefore o (rd s o 2) s) (fun r_1 s_1 => some (r_1, s_1))
def f_X5_leastStep_L19 : Nat → (Int → u_S → Option (Int × u_S)) → u_O → Int → Int → u_S → Option (Int × u_S)
  | 0, _, _, _, _, _ => none
  | m + 1, kx44, v0_1, v1_2, v2_1, s_4 => if v2_1 < (rd s_4 v0_1 2) then (gd v2_1 10 (bd (f_J9_min_7cf53 v1_2 (rd s_4 (a_Line_steps v0_1) v2_1) s_4) (fun r_2 s_5 => f_X5_leastStep_L19 m kx44 v0_1 r_2 (wr (v2_1 + 1)) s_5))) else (kx44 v1_2 s_4)
def f_X5_leastStep (o : u_O) (s : u_S) : Option (Int × u_S) := bd (f_X5_isEmpty o s) (fun r_1 s_1 => jn (fun (vt_1 : Int) (s_2 : u_S) => f_X5_leastStep_L19 FU (fun v1_1 s_3 => some (v1_1, s_3)) o vt_1 1 s_2) (fun jp_1 => if r_1 = 0 then (bd (f_X5_stepOf o 0 s_1) (fun r_3 s_7 => jp_1 r_3 s_7)) else (jp_1 (-1) s_1)))
def f_X5_greatestStep_L19 : Nat → (Int → u_S → Option (Int × u_S)) → u_O → Int → Int → u_S → Option (Int × u_S)
  | 0, _, _, _, _, _ => none
  | m + 1, kx44, v0_1, v1_2, v2_1, s_4 => if v2_1 < (rd s_4 v0_1 2) then (gd v2_1 10 (bd (f_J9_max_7cf53 v1_2 (rd s_4 (a_Line_steps v0_1) v2_1) s_4) (fun r_2 s_5 => f_X5_greatestStep_L19 m kx44 v0_1 r_2 (wr (v2_1 + 1)) s_5))) else (kx44 v1_2 s_4)
def f_X5_greatestStep (o : u_O) (s : u_S) : Option (Int × u_S) := bd (f_X5_isEmpty o s) (fun r_1 s_1 => jn (fun (vt_1 : Int) (s_2 : u_S) => f_X5_greatestStep_L19 FU (fun v1_1 s_3 => some (v1_1, s_3)) o vt_1 1 s_2) (fun jp_1 => if r_1 = 0 then (bd (f_X5_stepOf o 0 s_1) (fun r_3 s_7 => jp_1 r_3 s_7)) else (jp_1 (-1) s_1)))
theorem dX5_has_0 : decode cX5_has 0 = .ok (.iload_n 1, 1) := by decide +kernel
theorem dX5_has_1 : decode cX5_has 1 = .ok (.ifCond .lt 24, 3) := by decide +kernel
theorem dX5_has_4 : decode cX5_has 4 = .ok (.iload_n 1, 1) := by decide +kernel
theorem dX5_has_5 : decode cX5_has 5 = .ok (.aload_n 0, 1) := by decide +kernel
theorem dX5_has_6 : decode cX5_has 6 = .ok (.getfield 18, 3) := by decide +kernel
theorem dX5_has_9 : decode cX5_has 9 = .ok (.if_icmp .ge 16, 3) := by decide +kernel
theorem dX5_has_12 : decode cX5_has 12 = .ok (.aload_n 0, 1) := by decide +kernel
theorem dX5_has_13 : decode cX5_has 13 = .ok (.getfield 18, 3) := by decide +kernel
theorem dX5_has_16 : decode cX5_has 16 = .ok (.bipush 10, 2) := by decide +kernel
theorem dX5_has_18 : decode cX5_has 18 = .ok (.if_icmp .gt 7, 3) := by decide +kernel
theorem dX5_has_21 : decode cX5_has 21 = .ok (.iconst 1, 1) := by decide +kernel
theorem dX5_has_22 : decode cX5_has 22 = .ok (.goto 4, 3) := by decide +kernel
theorem dX5_has_25 : decode cX5_has 25 = .ok (.iconst 0, 1) := by decide +kernel
theorem dX5_has_26 : decode cX5_has 26 = .ok (.ireturn, 1) := by decide +kernel
set_option maxHeartbeats 4000000 in
set_option maxRecDepth 100000 in
theorem c_X5_has {E : u_E} {l : Launch} {o : u_O} {p1 : Int} (ho : is_Line o) (i_p1 : InR p1) {s s' : u_S} {r : Int} (h : f_X5_has o p1 s = some (r, s')) : Con l (XE E) yX5_has cX5_has 2 (some .boolean) 0 0 0 0 [.ref (E.1 o), .int (J p1)] (Wd E s) (RZ E r s') := by
  refine Con.of [some (.ref (E.1 o)), some (.int (J p1))] (by decide +kernel) rfl rfl (Nat.le_of_ble_eq_true rfl) (fun K g => ?_)
  have g0 := g.wk
  unfold f_X5_has at h
  refine r_iload_n g0 dX5_has_0 rfl ?_
  refine r_if_lt g0 25 dX5_has_1 (by decide) i_p1 (fun hc => ?_) (fun hc => ?_)
  · replace h := if_t hc h
    refine r_iconst g0 dX5_has_25 ?_
    exact z_Z g dX5_has_26 B01_0 h
  · replace h := if_f hc h
    refine r_iload_n g0 dX5_has_4 rfl ?_
    refine r_aload_n g0 dX5_has_5 rfl ?_
    refine g_Line_count g0 ho qX5_18 dX5_has_6 ?_
    refine r_icmp_ge g0 25 dX5_has_9 (by decide) i_p1 (InR_rd _ _ _) (fun hc => ?_) (fun hc => ?_)
    · replace h := if_f hc h
      refine r_iconst g0 dX5_has_25 ?_
      exact z_Z g dX5_has_26 B01_0 h
    · replace h := if_t hc h
      refine r_aload_n g0 dX5_has_12 rfl ?_
      refine g_Line_count g0 ho qX5_18 dX5_has_13 ?_
      refine r_bipush g0 dX5_has_16 rfl ?_
      refine r_icmp_gt g0 25 dX5_has_18 (by decide) (InR_rd _ _ _) (InR_lit rfl) (fun hc => ?_) (fun hc => ?_)
      · replace h := if_f hc h
        refine r_iconst g0 dX5_has_25 ?_
        exact z_Z g dX5_has_26 B01_0 h
      · replace h := if_t hc h
        refine r_iconst g0 dX5_has_21 ?_
        refine r_goto g0 26 dX5_has_22 (by decide) ?_
        exact z_Z g dX5_has_26 B01_1 h
theorem dJ9_floorMod_7cf53_0 : decode cJ9_floorMod_7cf53 0 = .ok (.iload_n 0, 1) := by decide +kernel
theorem dJ9_floorMod_7cf53_1 : decode cJ9_floorMod_7cf53 1 = .ok (.iload_n 1, 1) := by decide +kernel
theorem dJ9_floorMod_7cf53_2 : decode cJ9_floorMod_7cf53 2 = .ok (.irem, 1) := by decide +kernel
theorem dJ9_floorMod_7cf53_3 : decode cJ9_floorMod_7cf53 3 = .ok (.istore_n 2, 1) := by decide +kernel
theorem dJ9_floorMod_7cf53_4 : decode cJ9_floorMod_7cf53 4 = .ok (.iload_n 0, 1) := by decide +kernel
theorem dJ9_floorMod_7cf53_5 : decode cJ9_floorMod_7cf53 5 = .ok (.iload_n 1, 1) := by decide +kernel
theorem dJ9_floorMod_7cf53_6 : decode cJ9_floorMod_7cf53 6 = .ok (.ixor, 1) := by decide +kernel
theorem dJ9_floorMod_7cf53_7 : decode cJ9_floorMod_7cf53 7 = .ok (.ifCond .ge 11, 3) := by decide +kernel
theorem dJ9_floorMod_7cf53_10 : decode cJ9_floorMod_7cf53 10 = .ok (.iload_n 2, 1) := by decide +kernel
theorem dJ9_floorMod_7cf53_11 : decode cJ9_floorMod_7cf53 11 = .ok (.ifCond .eq 7, 3) := by decide +kernel
theorem dJ9_floorMod_7cf53_14 : decode cJ9_floorMod_7cf53 14 = .ok (.iload_n 2, 1) := by decide +kernel
theorem dJ9_floorMod_7cf53_15 : decode cJ9_floorMod_7cf53 15 = .ok (.iload_n 1, 1) := by decide +kernel
theorem dJ9_floorMod_7cf53_16 : decode cJ9_floorMod_7cf53 16 = .ok (.iadd, 1) := by decide +kernel
theorem dJ9_floorMod_7cf53_17 : decode cJ9_floorMod_7cf53 17 = .ok (.ireturn, 1) := by decide +kernel
theorem dJ9_floorMod_7cf53_18 : decode cJ9_floorMod_7cf53 18 = .ok (.iload_n 2, 1) := by decide +kernel
theorem dJ9_floorMod_7cf53_19 : decode cJ9_floorMod_7cf53 19 = .ok (.ireturn, 1) := by decide +kernel
set_option maxHeartbeats 4000000 in
set_option maxRecDepth 100000 in
theorem c_J9_floorMod_7cf53 {E : u_E} {l : Launch} {p1 : Int} {p2 : Int} (i_p1 : InR p1) (i_p2 : InR p2) {s s' : u_S} {r : Int} (h : f_J9_floorMod_7cf53 p1 p2 s = some (r, s')) : Con l (XE E) yJ9_floorMod_7cf53 cJ9_floorMod_7cf53 3 (some .int) 0 0 0 0 [.int (J p1), .int (J p2)] (Wd E s) (RI E r s') := by
  refine Con.ofF [some (.int (J p1)), some (.int (J p2)), none] (by decide +kernel) rfl rfl (Nat.le_of_ble_eq_true rfl) (fun K g => ?_)
  have g0 := g.wk
  unfold f_J9_floorMod_7cf53 at h
  refine r_iload_n g0 dJ9_floorMod_7cf53_0 rfl ?_
  refine r_iload_n g0 dJ9_floorMod_7cf53_1 rfl ?_
  obtain ⟨hne, h⟩ := nz_some h
  refine r_irem g0 dJ9_floorMod_7cf53_2 i_p1 i_p2 hne ?_
  refine r_istore_n g0 (lv' := [some (.int (J p1)), some (.int (J p2)), some (.int (J (Int.tmod p1 p2)))]) dJ9_floorMod_7cf53_3 (by decide) rfl rfl ?_
  refine r_iload_n g0 dJ9_floorMod_7cf53_4 rfl ?_
  refine r_iload_n g0 dJ9_floorMod_7cf53_5 rfl ?_
  refine r_ixor g0 dJ9_floorMod_7cf53_6 ?_
  refine r_if_ge g0 18 dJ9_floorMod_7cf53_7 (by decide) (InR_to _) (fun hc => ?_) (fun hc => ?_)
  · replace h := if_f hc h
    refine r_iload_n g0 dJ9_floorMod_7cf53_18 rfl ?_
    exact z_I g dJ9_floorMod_7cf53_19 (InR_rem _ i_p1) h
  · replace h := if_t hc h
    refine r_iload_n g0 dJ9_floorMod_7cf53_10 rfl ?_
    refine r_if_eq g0 18 dJ9_floorMod_7cf53_11 (by decide) (InR_rem _ i_p1) (fun hc => ?_) (fun hc => ?_)
    · replace h := if_t hc h
      refine r_iload_n g0 dJ9_floorMod_7cf53_18 rfl ?_
      exact z_I g dJ9_floorMod_7cf53_19 (InR_rem _ i_p1) h
    · replace h := if_f hc h
      refine r_iload_n g0 dJ9_floorMod_7cf53_14 rfl ?_
      refine r_iload_n g0 dJ9_floorMod_7cf53_15 rfl ?_
      refine r_iadd g0 dJ9_floorMod_7cf53_16 ?_
      exact z_I g dJ9_floorMod_7cf53_17 (InR_wr _) h
theorem dX5_formedStep_0 : decode cX5_formedStep 0 = .ok (.aload_n 0, 1) := by decide +kernel
theorem dX5_formedStep_1 : decode cX5_formedStep 1 = .ok (.iload_n 2, 1) := by decide +kernel
theorem dX5_formedStep_2 : decode cX5_formedStep 2 = .ok (.invokevirtual 26, 3) := by decide +kernel
theorem dX5_formedStep_5 : decode cX5_formedStep 5 = .ok (.ifCond .ne 5, 3) := by decide +kernel
theorem dX5_formedStep_8 : decode cX5_formedStep 8 = .ok (.iconst 0, 1) := by decide +kernel
theorem dX5_formedStep_9 : decode cX5_formedStep 9 = .ok (.ireturn, 1) := by decide +kernel
theorem dX5_formedStep_10 : decode cX5_formedStep 10 = .ok (.iload_n 1, 1) := by decide +kernel
theorem dX5_formedStep_11 : decode cX5_formedStep 11 = .ok (.iconst 3, 1) := by decide +kernel
theorem dX5_formedStep_12 : decode cX5_formedStep 12 = .ok (.if_icmp .ne 17, 3) := by decide +kernel
theorem dX5_formedStep_15 : decode cX5_formedStep 15 = .ok (.aload_n 0, 1) := by decide +kernel
theorem dX5_formedStep_16 : decode cX5_formedStep 16 = .ok (.getfield 9, 3) := by decide +kernel
theorem dX5_formedStep_19 : decode cX5_formedStep 19 = .ok (.aload_n 0, 1) := by decide +kernel
theorem dX5_formedStep_20 : decode cX5_formedStep 20 = .ok (.getfield 18, 3) := by decide +kernel
theorem dX5_formedStep_23 : decode cX5_formedStep 23 = .ok (.iconst 1, 1) := by decide +kernel
theorem dX5_formedStep_24 : decode cX5_formedStep 24 = .ok (.isub, 1) := by decide +kernel
theorem dX5_formedStep_25 : decode cX5_formedStep 25 = .ok (.iload_n 2, 1) := by decide +kernel
theorem dX5_formedStep_26 : decode cX5_formedStep 26 = .ok (.isub, 1) := by decide +kernel
theorem dX5_formedStep_27 : decode cX5_formedStep 27 = .ok (.iaload, 1) := by decide +kernel
theorem dX5_formedStep_28 : decode cX5_formedStep 28 = .ok (.ireturn, 1) := by decide +kernel
theorem dX5_formedStep_29 : decode cX5_formedStep 29 = .ok (.iload_n 1, 1) := by decide +kernel
theorem dX5_formedStep_30 : decode cX5_formedStep 30 = .ok (.iconst 2, 1) := by decide +kernel
theorem dX5_formedStep_31 : decode cX5_formedStep 31 = .ok (.if_icmp .ne 19, 3) := by decide +kernel
theorem dX5_formedStep_34 : decode cX5_formedStep 34 = .ok (.iconst 2, 1) := by decide +kernel
theorem dX5_formedStep_35 : decode cX5_formedStep 35 = .ok (.aload_n 0, 1) := by decide +kernel
theorem dX5_formedStep_36 : decode cX5_formedStep 36 = .ok (.getfield 9, 3) := by decide +kernel
theorem dX5_formedStep_39 : decode cX5_formedStep 39 = .ok (.iconst 0, 1) := by decide +kernel
theorem dX5_formedStep_40 : decode cX5_formedStep 40 = .ok (.iaload, 1) := by decide +kernel
theorem dX5_formedStep_41 : decode cX5_formedStep 41 = .ok (.imul, 1) := by decide +kernel
theorem dX5_formedStep_42 : decode cX5_formedStep 42 = .ok (.aload_n 0, 1) := by decide +kernel
theorem dX5_formedStep_43 : decode cX5_formedStep 43 = .ok (.getfield 9, 3) := by decide +kernel
theorem dX5_formedStep_46 : decode cX5_formedStep 46 = .ok (.iload_n 2, 1) := by decide +kernel
theorem dX5_formedStep_47 : decode cX5_formedStep 47 = .ok (.iaload, 1) := by decide +kernel
theorem dX5_formedStep_48 : decode cX5_formedStep 48 = .ok (.isub, 1) := by decide +kernel
theorem dX5_formedStep_49 : decode cX5_formedStep 49 = .ok (.ireturn, 1) := by decide +kernel
theorem dX5_formedStep_50 : decode cX5_formedStep 50 = .ok (.iload_n 1, 1) := by decide +kernel
theorem dX5_formedStep_51 : decode cX5_formedStep 51 = .ok (.iconst 1, 1) := by decide +kernel
theorem dX5_formedStep_52 : decode cX5_formedStep 52 = .ok (.if_icmp .eq 10, 3) := by decide +kernel
theorem dX5_formedStep_55 : decode cX5_formedStep 55 = .ok (.aload_n 0, 1) := by decide +kernel
theorem dX5_formedStep_56 : decode cX5_formedStep 56 = .ok (.getfield 9, 3) := by decide +kernel
theorem dX5_formedStep_59 : decode cX5_formedStep 59 = .ok (.iload_n 2, 1) := by decide +kernel
theorem dX5_formedStep_60 : decode cX5_formedStep 60 = .ok (.iaload, 1) := by decide +kernel
theorem dX5_formedStep_61 : decode cX5_formedStep 61 = .ok (.ireturn, 1) := by decide +kernel
theorem dX5_formedStep_62 : decode cX5_formedStep 62 = .ok (.iload_n 2, 1) := by decide +kernel
theorem dX5_formedStep_63 : decode cX5_formedStep 63 = .ok (.iload_n 3, 1) := by decide +kernel
theorem dX5_formedStep_64 : decode cX5_formedStep 64 = .ok (.if_icmp .ge 25, 3) := by decide +kernel
theorem dX5_formedStep_67 : decode cX5_formedStep 67 = .ok (.aload_n 0, 1) := by decide +kernel
theorem dX5_formedStep_68 : decode cX5_formedStep 68 = .ok (.getfield 9, 3) := by decide +kernel
theorem dX5_formedStep_71 : decode cX5_formedStep 71 = .ok (.iload_n 2, 1) := by decide +kernel
theorem dX5_formedStep_72 : decode cX5_formedStep 72 = .ok (.iaload, 1) := by decide +kernel
theorem dX5_formedStep_73 : decode cX5_formedStep 73 = .ok (.iload 4, 2) := by decide +kernel
theorem dX5_formedStep_75 : decode cX5_formedStep 75 = .ok (.isub, 1) := by decide +kernel
theorem dX5_formedStep_76 : decode cX5_formedStep 76 = .ok (.bipush 7, 2) := by decide +kernel
theorem dX5_formedStep_78 : decode cX5_formedStep 78 = .ok (.invokestatic 49, 3) := by decide +kernel
theorem dX5_formedStep_81 : decode cX5_formedStep 81 = .ok (.iconst 4, 1) := by decide +kernel
theorem dX5_formedStep_82 : decode cX5_formedStep 82 = .ok (.if_icmp .ne 7, 3) := by decide +kernel
theorem dX5_formedStep_85 : decode cX5_formedStep 85 = .ok (.iconst 1, 1) := by decide +kernel
theorem dX5_formedStep_86 : decode cX5_formedStep 86 = .ok (.goto 4, 3) := by decide +kernel
theorem dX5_formedStep_89 : decode cX5_formedStep 89 = .ok (.iconst 0, 1) := by decide +kernel
theorem dX5_formedStep_90 : decode cX5_formedStep 90 = .ok (.istore 5, 2) := by decide +kernel
theorem dX5_formedStep_92 : decode cX5_formedStep 92 = .ok (.aload_n 0, 1) := by decide +kernel
theorem dX5_formedStep_93 : decode cX5_formedStep 93 = .ok (.getfield 9, 3) := by decide +kernel
theorem dX5_formedStep_96 : decode cX5_formedStep 96 = .ok (.iload_n 2, 1) := by decide +kernel
theorem dX5_formedStep_97 : decode cX5_formedStep 97 = .ok (.iaload, 1) := by decide +kernel
theorem dX5_formedStep_98 : decode cX5_formedStep 98 = .ok (.iload 5, 2) := by decide +kernel
theorem dX5_formedStep_100 : decode cX5_formedStep 100 = .ok (.ifCond .eq 7, 3) := by decide +kernel
theorem dX5_formedStep_103 : decode cX5_formedStep 103 = .ok (.iconst 3, 1) := by decide +kernel
theorem dX5_formedStep_104 : decode cX5_formedStep 104 = .ok (.goto 4, 3) := by decide +kernel
theorem dX5_formedStep_107 : decode cX5_formedStep 107 = .ok (.iconst 4, 1) := by decide +kernel
theorem dX5_formedStep_108 : decode cX5_formedStep 108 = .ok (.iadd, 1) := by decide +kernel
theorem dX5_formedStep_109 : decode cX5_formedStep 109 = .ok (.ireturn, 1) := by decide +kernel
set_option maxHeartbeats 4000000 in
set_option maxRecDepth 100000 in
theorem c_X5_formedStep {E : u_E} {l : Launch} {o : u_O} {p1 : Int} {p2 : Int} {p3 : Int} {p4 : Int} (ho : is_Line o) (i_p1 : InR p1) (i_p2 : InR p2) (i_p3 : InR p3) (i_p4 : InR p4) {s s' : u_S} {r : Int} (h : f_X5_formedStep o p1 p2 p3 p4 s = some (r, s')) : Con l (XE E) yX5_formedStep cX5_formedStep 6 (some .int) 1 22 0 0 [.ref (E.1 o), .int (J p1), .int (J p2), .int (J p3), .int (J p4)] (Wd E s) (RI E r s') := by
  refine Con.of [some (.ref (E.1 o)), some (.int (J p1)), some (.int (J p2)), some (.int (J p3)), some (.int (J p4)), none] (by decide +kernel) rfl rfl (Nat.le_of_ble_eq_true rfl) (fun K g => ?_)
  have g0 := g.wk
  unfold f_X5_formedStep at h
  refine r_aload_n g0 dX5_formedStep_0 rfl ?_
  refine r_iload_n g0 dX5_formedStep_1 rfl ?_
  obtain ⟨r_1, s_1, hr_1, h⟩ := bd_some h
  refine r_cVZ g0 (rest := []) (c_X5_has ho i_p2 hr_1) ok_X5_has mX5_26 (recv_Line ho) dX5_formedStep_2 ⟨Nat.le_of_ble_eq_true rfl, Nat.le_of_ble_eq_true rfl⟩ ⟨Nat.zero_le _, Nat.zero_le _⟩ rfl (Nat.le_of_ble_eq_true rfl) rfl (fun i_r_1 => ?_)
  refine r_if_ne g0 10 dX5_formedStep_5 (by decide) (B01.inR i_r_1) (fun hc => ?_) (fun hc => ?_)
  · replace h := if_f hc h
    refine r_iload_n g0 dX5_formedStep_10 rfl ?_
    refine r_iconst g0 dX5_formedStep_11 ?_
    refine r_icmp_ne g0 29 dX5_formedStep_12 (by decide) i_p1 (InR_lit rfl) (fun hc => ?_) (fun hc => ?_)
    · replace h := if_f hc h
      refine r_iload_n g0 dX5_formedStep_29 rfl ?_
      refine r_iconst g0 dX5_formedStep_30 ?_
      refine r_icmp_ne g0 50 dX5_formedStep_31 (by decide) i_p1 (InR_lit rfl) (fun hc => ?_) (fun hc => ?_)
      · replace h := if_f hc h
        refine r_iload_n g0 dX5_formedStep_50 rfl ?_
        refine r_iconst g0 dX5_formedStep_51 ?_
        refine r_icmp_eq g0 62 dX5_formedStep_52 (by decide) i_p1 (B01.inR B01_1) (fun hc => ?_) (fun hc => ?_)
        · replace h := if_t hc h
          refine r_iload_n g0 dX5_formedStep_62 rfl ?_
          refine r_iload_n g0 dX5_formedStep_63 rfl ?_
          obtain ⟨jp_1, hdjp_1, h⟩ := jn_some h
          have hjp_1 : ∀ (vt_1 : Int) (s_2 : u_S), B01 vt_1 → jp_1 vt_1 s_2 = some (r, s') → K 0 0 90 [some (.ref (E.1 o)), none, some (.int (J p2)), none, none, none] [.int (J vt_1)] (Wd E s_2) := by
            intro vt_1 s_2 i_vt_1 h
            subst hdjp_1
            refine r_istore g0 (lv' := [some (.ref (E.1 o)), none, some (.int (J p2)), none, none, some (.int (J vt_1))]) dX5_formedStep_90 (by decide) rfl rfl ?_
            refine r_aload_n g0 dX5_formedStep_92 rfl ?_
            refine g_Line_steps g0 ho qX5_9 dX5_formedStep_93 ?_
            refine r_iload_n g0 dX5_formedStep_96 rfl ?_
            obtain ⟨hb, h⟩ := gd_some h
            refine r_iaload g0 (is_a_Line_steps ho) (n := 10) rfl i_p2 hb dX5_formedStep_97 ?_
            refine r_iload g0 dX5_formedStep_98 rfl ?_
            obtain ⟨jp_2, hdjp_2, h⟩ := jn_some h
            have hjp_2 : ∀ (vt_2 : Int) (vt_3 : Int) (s_3 : u_S), InR vt_2 → InR vt_3 → jp_2 vt_2 vt_3 s_3 = some (r, s') → K 0 0 108 [none, none, none, none, none, none] [.int (J vt_3), .int (J vt_2)] (Wd E s_3) := by
              intro vt_2 vt_3 s_3 i_vt_2 i_vt_3 h
              subst hdjp_2
              refine r_iadd g0 dX5_formedStep_108 ?_
              exact z_I g dX5_formedStep_109 (InR_wr _) h
            clear hdjp_2
            refine r_if_eq g0 107 dX5_formedStep_100 (by decide) (B01.inR i_vt_1) (fun hc => ?_) (fun hc => ?_)
            · replace h := if_t hc h
              refine r_iconst g0 dX5_formedStep_107 ?_
              refine r_mask g0 (lv' := [none, none, none, none, none, none]) [false, false, false, false, false, false] rfl ?_
              exact hjp_2 (rd s_2 (a_Line_steps o) p2) 4 s_2 (InR_rd _ _ _) (InR_lit rfl) h
            · replace h := if_f hc h
              refine r_iconst g0 dX5_formedStep_103 ?_
              refine r_goto g0 108 dX5_formedStep_104 (by decide) ?_
              refine r_mask g0 (lv' := [none, none, none, none, none, none]) [false, false, false, false, false, false] rfl ?_
              exact hjp_2 (rd s_2 (a_Line_steps o) p2) 3 s_2 (InR_rd _ _ _) (InR_lit rfl) h
          clear hdjp_1
          obtain ⟨jp_3, hdjp_3, h⟩ := jn_some h
          have hjp_3 : ∀  (s_4 : u_S), jp_3 s_4 = some (r, s') → K 0 0 89 [some (.ref (E.1 o)), none, some (.int (J p2)), none, none, none] [] (Wd E s_4) := by
            intro s_4 h
            subst hdjp_3
            refine r_iconst g0 dX5_formedStep_89 ?_
            exact hjp_1 0 s_4 B01_0 h
          clear hdjp_3
          refine r_icmp_ge g0 89 dX5_formedStep_64 (by decide) i_p2 i_p3 (fun hc => ?_) (fun hc => ?_)
          · replace h := if_f hc h
            refine r_mask g0 (lv' := [some (.ref (E.1 o)), none, some (.int (J p2)), none, none, none]) [true, false, true, false, false, false] rfl ?_
            exact hjp_3 s_1 h
          · replace h := if_t hc h
            refine r_aload_n g0 dX5_formedStep_67 rfl ?_
            refine g_Line_steps g0 ho qX5_9 dX5_formedStep_68 ?_
            refine r_iload_n g0 dX5_formedStep_71 rfl ?_
            obtain ⟨hb, h⟩ := gd_some h
            refine r_iaload g0 (is_a_Line_steps ho) (n := 10) rfl i_p2 hb dX5_formedStep_72 ?_
            refine r_iload g0 dX5_formedStep_73 rfl ?_
            refine r_isub g0 dX5_formedStep_75 ?_
            refine r_bipush g0 dX5_formedStep_76 rfl ?_
            obtain ⟨r_2, s_5, hr_2, h⟩ := bd_some h
            refine r_cSI g0 (rest := []) (c_J9_floorMod_7cf53 (InR_wr _) (InR_lit rfl) hr_2) ok_J9_floorMod_7cf53 mX5_49 dX5_formedStep_78 ⟨Nat.le_of_ble_eq_true rfl, Nat.le_of_ble_eq_true rfl⟩ ⟨Nat.zero_le _, Nat.zero_le _⟩ rfl (Nat.le_of_ble_eq_true rfl) rfl (fun i_r_2 => ?_)
            refine r_iconst g0 dX5_formedStep_81 ?_
            refine r_icmp_ne g0 89 dX5_formedStep_82 (by decide) i_r_2 (InR_lit rfl) (fun hc => ?_) (fun hc => ?_)
            · replace h := if_f hc h
              refine r_mask g0 (lv' := [some (.ref (E.1 o)), none, some (.int (J p2)), none, none, none]) [true, false, true, false, false, false] rfl ?_
              exact hjp_3 s_5 h
            · replace h := if_t hc h
              refine r_iconst g0 dX5_formedStep_85 ?_
              refine r_goto g0 90 dX5_formedStep_86 (by decide) ?_
              refine r_mask g0 (lv' := [some (.ref (E.1 o)), none, some (.int (J p2)), none, none, none]) [true, false, true, false, false, false] rfl ?_
              exact hjp_1 1 s_5 B01_1 h
        · replace h := if_f hc h
          refine r_aload_n g0 dX5_formedStep_55 rfl ?_
          refine g_Line_steps g0 ho qX5_9 dX5_formedStep_56 ?_
          refine r_iload_n g0 dX5_formedStep_59 rfl ?_
          obtain ⟨hb, h⟩ := gd_some h
          refine r_iaload g0 (is_a_Line_steps ho) (n := 10) rfl i_p2 hb dX5_formedStep_60 ?_
          exact z_I g dX5_formedStep_61 (InR_rd _ _ _) h
      · replace h := if_t hc h
        refine r_iconst g0 dX5_formedStep_34 ?_
        refine r_aload_n g0 dX5_formedStep_35 rfl ?_
        refine g_Line_steps g0 ho qX5_9 dX5_formedStep_36 ?_
        refine r_iconst g0 dX5_formedStep_39 ?_
        obtain ⟨hb, h⟩ := gd_some h
        refine r_iaload g0 (is_a_Line_steps ho) (n := 10) rfl (B01.inR B01_0) hb dX5_formedStep_40 ?_
        refine r_imul g0 dX5_formedStep_41 ?_
        refine r_aload_n g0 dX5_formedStep_42 rfl ?_
        refine g_Line_steps g0 ho qX5_9 dX5_formedStep_43 ?_
        refine r_iload_n g0 dX5_formedStep_46 rfl ?_
        obtain ⟨hb, h⟩ := gd_some h
        refine r_iaload g0 (is_a_Line_steps ho) (n := 10) rfl i_p2 hb dX5_formedStep_47 ?_
        refine r_isub g0 dX5_formedStep_48 ?_
        exact z_I g dX5_formedStep_49 (InR_wr _) h
    · replace h := if_t hc h
      refine r_aload_n g0 dX5_formedStep_15 rfl ?_
      refine g_Line_steps g0 ho qX5_9 dX5_formedStep_16 ?_
      refine r_aload_n g0 dX5_formedStep_19 rfl ?_
      refine g_Line_count g0 ho qX5_18 dX5_formedStep_20 ?_
      refine r_iconst g0 dX5_formedStep_23 ?_
      refine r_isub g0 dX5_formedStep_24 ?_
      refine r_iload_n g0 dX5_formedStep_25 rfl ?_
      refine r_isub g0 dX5_formedStep_26 ?_
      obtain ⟨hb, h⟩ := gd_some h
      refine r_iaload g0 (is_a_Line_steps ho) (n := 10) rfl (InR_wr _) hb dX5_formedStep_27 ?_
      exact z_I g dX5_formedStep_28 (InR_rd _ _ _) h
  · replace h := if_t hc h
    refine r_iconst g0 dX5_formedStep_8 ?_
    exact z_I g dX5_formedStep_9 (B01.inR B01_0) h
theorem dX5_formedTicks_0 : decode cX5_formedTicks 0 = .ok (.aload_n 0, 1) := by decide +kernel
theorem dX5_formedTicks_1 : decode cX5_formedTicks 1 = .ok (.iload_n 2, 1) := by decide +kernel
theorem dX5_formedTicks_2 : decode cX5_formedTicks 2 = .ok (.invokevirtual 26, 3) := by decide +kernel
theorem dX5_formedTicks_5 : decode cX5_formedTicks 5 = .ok (.ifCond .ne 5, 3) := by decide +kernel
theorem dX5_formedTicks_8 : decode cX5_formedTicks 8 = .ok (.iconst 0, 1) := by decide +kernel
theorem dX5_formedTicks_9 : decode cX5_formedTicks 9 = .ok (.ireturn, 1) := by decide +kernel
theorem dX5_formedTicks_10 : decode cX5_formedTicks 10 = .ok (.iload_n 1, 1) := by decide +kernel
theorem dX5_formedTicks_11 : decode cX5_formedTicks 11 = .ok (.iconst 3, 1) := by decide +kernel
theorem dX5_formedTicks_12 : decode cX5_formedTicks 12 = .ok (.if_icmp .ne 17, 3) := by decide +kernel
theorem dX5_formedTicks_15 : decode cX5_formedTicks 15 = .ok (.aload_n 0, 1) := by decide +kernel
theorem dX5_formedTicks_16 : decode cX5_formedTicks 16 = .ok (.getfield 15, 3) := by decide +kernel
theorem dX5_formedTicks_19 : decode cX5_formedTicks 19 = .ok (.aload_n 0, 1) := by decide +kernel
theorem dX5_formedTicks_20 : decode cX5_formedTicks 20 = .ok (.getfield 18, 3) := by decide +kernel
theorem dX5_formedTicks_23 : decode cX5_formedTicks 23 = .ok (.iconst 1, 1) := by decide +kernel
theorem dX5_formedTicks_24 : decode cX5_formedTicks 24 = .ok (.isub, 1) := by decide +kernel
theorem dX5_formedTicks_25 : decode cX5_formedTicks 25 = .ok (.iload_n 2, 1) := by decide +kernel
theorem dX5_formedTicks_26 : decode cX5_formedTicks 26 = .ok (.isub, 1) := by decide +kernel
theorem dX5_formedTicks_27 : decode cX5_formedTicks 27 = .ok (.iaload, 1) := by decide +kernel
theorem dX5_formedTicks_28 : decode cX5_formedTicks 28 = .ok (.ireturn, 1) := by decide +kernel
theorem dX5_formedTicks_29 : decode cX5_formedTicks 29 = .ok (.iload_n 1, 1) := by decide +kernel
theorem dX5_formedTicks_30 : decode cX5_formedTicks 30 = .ok (.iconst 4, 1) := by decide +kernel
theorem dX5_formedTicks_31 : decode cX5_formedTicks 31 = .ok (.if_icmp .ne 14, 3) := by decide +kernel
theorem dX5_formedTicks_34 : decode cX5_formedTicks 34 = .ok (.iconst 2, 1) := by decide +kernel
theorem dX5_formedTicks_35 : decode cX5_formedTicks 35 = .ok (.aload_n 0, 1) := by decide +kernel
theorem dX5_formedTicks_36 : decode cX5_formedTicks 36 = .ok (.getfield 15, 3) := by decide +kernel
theorem dX5_formedTicks_39 : decode cX5_formedTicks 39 = .ok (.iload_n 2, 1) := by decide +kernel
theorem dX5_formedTicks_40 : decode cX5_formedTicks 40 = .ok (.iaload, 1) := by decide +kernel
theorem dX5_formedTicks_41 : decode cX5_formedTicks 41 = .ok (.imul, 1) := by decide +kernel
theorem dX5_formedTicks_42 : decode cX5_formedTicks 42 = .ok (.goto 9, 3) := by decide +kernel
theorem dX5_formedTicks_45 : decode cX5_formedTicks 45 = .ok (.aload_n 0, 1) := by decide +kernel
theorem dX5_formedTicks_46 : decode cX5_formedTicks 46 = .ok (.getfield 15, 3) := by decide +kernel
theorem dX5_formedTicks_49 : decode cX5_formedTicks 49 = .ok (.iload_n 2, 1) := by decide +kernel
theorem dX5_formedTicks_50 : decode cX5_formedTicks 50 = .ok (.iaload, 1) := by decide +kernel
theorem dX5_formedTicks_51 : decode cX5_formedTicks 51 = .ok (.ireturn, 1) := by decide +kernel
set_option maxHeartbeats 4000000 in
set_option maxRecDepth 100000 in
theorem c_X5_formedTicks {E : u_E} {l : Launch} {o : u_O} {p1 : Int} {p2 : Int} (ho : is_Line o) (i_p1 : InR p1) (i_p2 : InR p2) {s s' : u_S} {r : Int} (h : f_X5_formedTicks o p1 p2 s = some (r, s')) : Con l (XE E) yX5_formedTicks cX5_formedTicks 3 (some .int) 1 21 0 0 [.ref (E.1 o), .int (J p1), .int (J p2)] (Wd E s) (RI E r s') := by
  refine Con.of [some (.ref (E.1 o)), some (.int (J p1)), some (.int (J p2))] (by decide +kernel) rfl rfl (Nat.le_of_ble_eq_true rfl) (fun K g => ?_)
  have g0 := g.wk
  unfold f_X5_formedTicks at h
  refine r_aload_n g0 dX5_formedTicks_0 rfl ?_
  refine r_iload_n g0 dX5_formedTicks_1 rfl ?_
  obtain ⟨r_1, s_1, hr_1, h⟩ := bd_some h
  refine r_cVZ g0 (rest := []) (c_X5_has ho i_p2 hr_1) ok_X5_has mX5_26 (recv_Line ho) dX5_formedTicks_2 ⟨Nat.le_of_ble_eq_true rfl, Nat.le_of_ble_eq_true rfl⟩ ⟨Nat.zero_le _, Nat.zero_le _⟩ rfl (Nat.le_of_ble_eq_true rfl) rfl (fun i_r_1 => ?_)
  refine r_if_ne g0 10 dX5_formedTicks_5 (by decide) (B01.inR i_r_1) (fun hc => ?_) (fun hc => ?_)
  · replace h := if_f hc h
    refine r_iload_n g0 dX5_formedTicks_10 rfl ?_
    refine r_iconst g0 dX5_formedTicks_11 ?_
    refine r_icmp_ne g0 29 dX5_formedTicks_12 (by decide) i_p1 (InR_lit rfl) (fun hc => ?_) (fun hc => ?_)
    · replace h := if_f hc h
      refine r_iload_n g0 dX5_formedTicks_29 rfl ?_
      refine r_iconst g0 dX5_formedTicks_30 ?_
      refine r_icmp_ne g0 45 dX5_formedTicks_31 (by decide) i_p1 (InR_lit rfl) (fun hc => ?_) (fun hc => ?_)
      · replace h := if_f hc h
        refine r_aload_n g0 dX5_formedTicks_45 rfl ?_
        refine g_Line_ticks g0 ho qX5_15 dX5_formedTicks_46 ?_
        refine r_iload_n g0 dX5_formedTicks_49 rfl ?_
        obtain ⟨hb, h⟩ := gd_some h
        refine r_iaload g0 (is_a_Line_ticks ho) (n := 10) rfl i_p2 hb dX5_formedTicks_50 ?_
        exact z_I g dX5_formedTicks_51 (InR_rd _ _ _) h
      · replace h := if_t hc h
        refine r_iconst g0 dX5_formedTicks_34 ?_
        refine r_aload_n g0 dX5_formedTicks_35 rfl ?_
        refine g_Line_ticks g0 ho qX5_15 dX5_formedTicks_36 ?_
        refine r_iload_n g0 dX5_formedTicks_39 rfl ?_
        obtain ⟨hb, h⟩ := gd_some h
        refine r_iaload g0 (is_a_Line_ticks ho) (n := 10) rfl i_p2 hb dX5_formedTicks_40 ?_
        refine r_imul g0 dX5_formedTicks_41 ?_
        refine r_goto g0 51 dX5_formedTicks_42 (by decide) ?_
        exact z_I g dX5_formedTicks_51 (InR_wr _) h
    · replace h := if_t hc h
      refine r_aload_n g0 dX5_formedTicks_15 rfl ?_
      refine g_Line_ticks g0 ho qX5_15 dX5_formedTicks_16 ?_
      refine r_aload_n g0 dX5_formedTicks_19 rfl ?_
      refine g_Line_count g0 ho qX5_18 dX5_formedTicks_20 ?_
      refine r_iconst g0 dX5_formedTicks_23 ?_
      refine r_isub g0 dX5_formedTicks_24 ?_
      refine r_iload_n g0 dX5_formedTicks_25 rfl ?_
      refine r_isub g0 dX5_formedTicks_26 ?_
      obtain ⟨hb, h⟩ := gd_some h
      refine r_iaload g0 (is_a_Line_ticks ho) (n := 10) rfl (InR_wr _) hb dX5_formedTicks_27 ?_
      exact z_I g dX5_formedTicks_28 (InR_rd _ _ _) h
  · replace h := if_t hc h
    refine r_iconst g0 dX5_formedTicks_8 ?_
    exact z_I g dX5_formedTicks_9 (B01.inR B01_0) h
theorem dX8_append_0 : decode cX8_append 0 = .ok (.iconst 0, 1) := by decide +kernel
theorem dX8_append_1 : decode cX8_append 1 = .ok (.istore_n 3, 1) := by decide +kernel
theorem dX8_append_2 : decode cX8_append 2 = .ok (.iload_n 3, 1) := by decide +kernel
theorem dX8_append_3 : decode cX8_append 3 = .ok (.iload_n 2, 1) := by decide +kernel
theorem dX8_append_4 : decode cX8_append 4 = .ok (.if_icmp .ge 38, 3) := by decide +kernel
theorem dX8_append_7 : decode cX8_append 7 = .ok (.aload_n 0, 1) := by decide +kernel
theorem dX8_append_8 : decode cX8_append 8 = .ok (.getfield 15, 3) := by decide +kernel
theorem dX8_append_11 : decode cX8_append 11 = .ok (.bipush 80, 2) := by decide +kernel
theorem dX8_append_13 : decode cX8_append 13 = .ok (.if_icmp .ge 29, 3) := by decide +kernel
theorem dX8_append_16 : decode cX8_append 16 = .ok (.aload_n 0, 1) := by decide +kernel
theorem dX8_append_17 : decode cX8_append 17 = .ok (.getfield 9, 3) := by decide +kernel
theorem dX8_append_20 : decode cX8_append 20 = .ok (.aload_n 0, 1) := by decide +kernel
theorem dX8_append_21 : decode cX8_append 21 = .ok (.getfield 15, 3) := by decide +kernel
theorem dX8_append_24 : decode cX8_append 24 = .ok (.iload_n 1, 1) := by decide +kernel
theorem dX8_append_25 : decode cX8_append 25 = .ok (.iastore, 1) := by decide +kernel
theorem dX8_append_26 : decode cX8_append 26 = .ok (.aload_n 0, 1) := by decide +kernel
theorem dX8_append_27 : decode cX8_append 27 = .ok (.dup, 1) := by decide +kernel
theorem dX8_append_28 : decode cX8_append 28 = .ok (.getfield 15, 3) := by decide +kernel
theorem dX8_append_31 : decode cX8_append 31 = .ok (.iconst 1, 1) := by decide +kernel
theorem dX8_append_32 : decode cX8_append 32 = .ok (.iadd, 1) := by decide +kernel
theorem dX8_append_33 : decode cX8_append 33 = .ok (.putfield 15, 3) := by decide +kernel
theorem dX8_append_36 : decode cX8_append 36 = .ok (.iinc 3 1, 3) := by decide +kernel
theorem dX8_append_39 : decode cX8_append 39 = .ok (.goto (-37), 3) := by decide +kernel
theorem dX8_append_42 : decode cX8_append 42 = .ok (.return_, 1) := by decide +kernel
set_option maxHeartbeats 4000000 in
set_option maxRecDepth 100000 in
theorem t_X8_append_L2 {l : Launch} {E : u_E} {K : u_K} {r : Int} {s' : u_S} (g : Wk l (XE E) { frames := 0, cells := 0, slots := 0, locals := 0 } cX8_append 4 yX8_append.cls yX8_append.name none (RV E r s') K) {v0_1 : u_O} {v1_1 : Int} {v2_1 : Int} (i_v0_1 : is_Sound v0_1) (i_v1_1 : InR v1_1) (i_v2_1 : InR v2_1) {kx42 : u_S → Option (Int × u_S)} (hkx42 : ∀ (s_3 : u_S), kx42 s_3 = some (r, s') → K 0 0 42 [none, none, none, none] [] (Wd E s_3)) : ∀ (m : Nat) (v3_1 : Int) (s_2 : u_S), InR v3_1 → f_X8_append_L2 m kx42 v0_1 v1_1 v2_1 v3_1 s_2 = some (r, s') → K 0 0 2 [some (.ref (E.1 v0_1)), some (.int (J v1_1)), some (.int (J v2_1)), some (.int (J v3_1))] [] (Wd E s_2) := by
  have g0 := g.wk
  intro m
  induction m with
  | zero =>
    intro v3_1 s_2 i_v3_1 h
    exact absurd (show (none : Option (Int × u_S)) = some (r, s') from h) (by intro z; cases z)
  | succ m ih =>
    intro v3_1 s_2 i_v3_1 h
    rw [f_X8_append_L2] at h
    refine r_iload_n g0 dX8_append_2 rfl ?_
    refine r_iload_n g0 dX8_append_3 rfl ?_
    refine r_icmp_ge g0 42 dX8_append_4 (by decide) i_v3_1 i_v2_1 (fun hc => ?_) (fun hc => ?_)
    · replace h := if_f hc h
      refine r_mask g0 (lv' := [none, none, none, none]) [false, false, false, false] rfl ?_
      exact hkx42 s_2 h
    · replace h := if_t hc h
      refine r_aload_n g0 dX8_append_7 rfl ?_
      refine g_Sound_length g0 i_v0_1 qX8_15 dX8_append_8 ?_
      refine r_bipush g0 dX8_append_11 rfl ?_
      refine r_icmp_ge g0 42 dX8_append_13 (by decide) (InR_rd _ _ _) (InR_lit rfl) (fun hc => ?_) (fun hc => ?_)
      · replace h := if_f hc h
        refine r_mask g0 (lv' := [none, none, none, none]) [false, false, false, false] rfl ?_
        exact hkx42 s_2 h
      · replace h := if_t hc h
        refine r_aload_n g0 dX8_append_16 rfl ?_
        refine g_Sound_steps g0 i_v0_1 qX8_9 dX8_append_17 ?_
        refine r_aload_n g0 dX8_append_20 rfl ?_
        refine g_Sound_length g0 i_v0_1 qX8_15 dX8_append_21 ?_
        refine r_iload_n g0 dX8_append_24 rfl ?_
        obtain ⟨hb, h⟩ := gd_some h
        refine r_iastore g0 (is_a_Sound_steps i_v0_1) (n := 80) rfl (InR_rd _ _ _) hb dX8_append_25 ?_
        refine r_aload_n g0 dX8_append_26 rfl ?_
        refine r_dup g0 dX8_append_27 rfl ?_
        refine g_Sound_length g0 i_v0_1 qX8_15 dX8_append_28 ?_
        refine r_iconst g0 dX8_append_31 ?_
        refine r_iadd g0 dX8_append_32 ?_
        refine p_Sound_length g0 i_v0_1 qX8_15 dX8_append_33 ?_
        refine r_iinc g0 (a := v3_1) (lv' := [some (.ref (E.1 v0_1)), some (.int (J v1_1)), some (.int (J v2_1)), some (.int (J (wr (v3_1 + 1))))]) dX8_append_36 (by decide) rfl rfl rfl ?_
        refine r_goto g0 2 dX8_append_39 (by decide) ?_
        exact ih (wr (v3_1 + 1)) (wt (wt s_2 (a_Sound_steps v0_1) (rd s_2 v0_1 1) v1_1) v0_1 1 (wr ((rd (wt s_2 (a_Sound_steps v0_1) (rd s_2 v0_1 1) v1_1) v0_1 1) + 1))) (InR_wr _) h
set_option maxHeartbeats 4000000 in
set_option maxRecDepth 100000 in
theorem c_X8_append {E : u_E} {l : Launch} {o : u_O} {p1 : Int} {p2 : Int} (ho : is_Sound o) (i_p1 : InR p1) (i_p2 : InR p2) {s s' : u_S} {r : Int} (h : f_X8_append o p1 p2 s = some (r, s')) : Con l (XE E) yX8_append cX8_append 4 none 0 0 0 0 [.ref (E.1 o), .int (J p1), .int (J p2)] (Wd E s) (RV E r s') := by
  refine Con.of [some (.ref (E.1 o)), some (.int (J p1)), some (.int (J p2)), none] (by decide +kernel) rfl rfl (Nat.le_of_ble_eq_true rfl) (fun K g => ?_)
  have g0 := g.wk
  unfold f_X8_append at h
  refine r_iconst g0 dX8_append_0 ?_
  refine r_istore_n g0 (lv' := [some (.ref (E.1 o)), some (.int (J p1)), some (.int (J p2)), some (.int (J 0))]) dX8_append_1 (by decide) rfl rfl ?_
  refine t_X8_append_L2 g ho i_p1 i_p2 ?_ FU 0 s (B01.inR B01_0) h
  · intro s_1 h
    exact z_V g dX8_append_42 h
theorem dX8_place_0 : decode cX8_place 0 = .ok (.aload_n 0, 1) := by decide +kernel
theorem dX8_place_1 : decode cX8_place 1 = .ok (.iload_n 1, 1) := by decide +kernel
theorem dX8_place_2 : decode cX8_place 2 = .ok (.putfield 19, 3) := by decide +kernel
theorem dX8_place_5 : decode cX8_place 5 = .ok (.aload_n 0, 1) := by decide +kernel
theorem dX8_place_6 : decode cX8_place 6 = .ok (.iload_n 2, 1) := by decide +kernel
theorem dX8_place_7 : decode cX8_place 7 = .ok (.putfield 22, 3) := by decide +kernel
theorem dX8_place_10 : decode cX8_place 10 = .ok (.return_, 1) := by decide +kernel
set_option maxHeartbeats 4000000 in
set_option maxRecDepth 100000 in
theorem c_X8_place {E : u_E} {l : Launch} {o : u_O} {p1 : Int} {p2 : Int} (ho : is_Sound o) (i_p1 : InR p1) (i_p2 : InR p2) {s s' : u_S} {r : Int} (h : f_X8_place o p1 p2 s = some (r, s')) : Con l (XE E) yX8_place cX8_place 3 none 0 0 0 0 [.ref (E.1 o), .int (J p1), .int (J p2)] (Wd E s) (RV E r s') := by
  refine Con.of [some (.ref (E.1 o)), some (.int (J p1)), some (.int (J p2))] (by decide +kernel) rfl rfl (Nat.le_of_ble_eq_true rfl) (fun K g => ?_)
  have g0 := g.wk
  unfold f_X8_place at h
  refine r_aload_n g0 dX8_place_0 rfl ?_
  refine r_iload_n g0 dX8_place_1 rfl ?_
  refine p_Sound_start g0 ho qX8_19 dX8_place_2 ?_
  refine r_aload_n g0 dX8_place_5 rfl ?_
  refine r_iload_n g0 dX8_place_6 rfl ?_
  refine p_Sound_voice g0 ho qX8_22 dX8_place_7 ?_
  exact z_V g dX8_place_10 h
theorem dX8_isHeardAt_0 : decode cX8_isHeardAt 0 = .ok (.iload_n 1, 1) := by decide +kernel
theorem dX8_isHeardAt_1 : decode cX8_isHeardAt 1 = .ok (.aload_n 0, 1) := by decide +kernel
theorem dX8_isHeardAt_2 : decode cX8_isHeardAt 2 = .ok (.getfield 19, 3) := by decide +kernel
theorem dX8_isHeardAt_5 : decode cX8_isHeardAt 5 = .ok (.if_icmp .lt 27, 3) := by decide +kernel
theorem dX8_isHeardAt_8 : decode cX8_isHeardAt 8 = .ok (.iload_n 1, 1) := by decide +kernel
theorem dX8_isHeardAt_9 : decode cX8_isHeardAt 9 = .ok (.aload_n 0, 1) := by decide +kernel
theorem dX8_isHeardAt_10 : decode cX8_isHeardAt 10 = .ok (.getfield 19, 3) := by decide +kernel
theorem dX8_isHeardAt_13 : decode cX8_isHeardAt 13 = .ok (.isub, 1) := by decide +kernel
theorem dX8_isHeardAt_14 : decode cX8_isHeardAt 14 = .ok (.aload_n 0, 1) := by decide +kernel
theorem dX8_isHeardAt_15 : decode cX8_isHeardAt 15 = .ok (.getfield 15, 3) := by decide +kernel
theorem dX8_isHeardAt_18 : decode cX8_isHeardAt 18 = .ok (.if_icmp .ge 14, 3) := by decide +kernel
theorem dX8_isHeardAt_21 : decode cX8_isHeardAt 21 = .ok (.aload_n 0, 1) := by decide +kernel
theorem dX8_isHeardAt_22 : decode cX8_isHeardAt 22 = .ok (.getfield 19, 3) := by decide +kernel
theorem dX8_isHeardAt_25 : decode cX8_isHeardAt 25 = .ok (.ifCond .lt 7, 3) := by decide +kernel
theorem dX8_isHeardAt_28 : decode cX8_isHeardAt 28 = .ok (.iconst 1, 1) := by decide +kernel
theorem dX8_isHeardAt_29 : decode cX8_isHeardAt 29 = .ok (.goto 4, 3) := by decide +kernel
theorem dX8_isHeardAt_32 : decode cX8_isHeardAt 32 = .ok (.iconst 0, 1) := by decide +kernel
theorem dX8_isHeardAt_33 : decode cX8_isHeardAt 33 = .ok (.ireturn, 1) := by decide +kernel
set_option maxHeartbeats 4000000 in
set_option maxRecDepth 100000 in
theorem c_X8_isHeardAt {E : u_E} {l : Launch} {o : u_O} {p1 : Int} (ho : is_Sound o) (i_p1 : InR p1) {s s' : u_S} {r : Int} (h : f_X8_isHeardAt o p1 s = some (r, s')) : Con l (XE E) yX8_isHeardAt cX8_isHeardAt 2 (some .boolean) 0 0 0 0 [.ref (E.1 o), .int (J p1)] (Wd E s) (RZ E r s') := by
  refine Con.of [some (.ref (E.1 o)), some (.int (J p1))] (by decide +kernel) rfl rfl (Nat.le_of_ble_eq_true rfl) (fun K g => ?_)
  have g0 := g.wk
  unfold f_X8_isHeardAt at h
  refine r_iload_n g0 dX8_isHeardAt_0 rfl ?_
  refine r_aload_n g0 dX8_isHeardAt_1 rfl ?_
  refine g_Sound_start g0 ho qX8_19 dX8_isHeardAt_2 ?_
  refine r_icmp_lt g0 32 dX8_isHeardAt_5 (by decide) i_p1 (InR_rd _ _ _) (fun hc => ?_) (fun hc => ?_)
  · replace h := if_t hc h
    refine r_iconst g0 dX8_isHeardAt_32 ?_
    exact z_Z g dX8_isHeardAt_33 B01_0 h
  · replace h := if_f hc h
    refine r_iload_n g0 dX8_isHeardAt_8 rfl ?_
    refine r_aload_n g0 dX8_isHeardAt_9 rfl ?_
    refine g_Sound_start g0 ho qX8_19 dX8_isHeardAt_10 ?_
    refine r_isub g0 dX8_isHeardAt_13 ?_
    refine r_aload_n g0 dX8_isHeardAt_14 rfl ?_
    refine g_Sound_length g0 ho qX8_15 dX8_isHeardAt_15 ?_
    refine r_icmp_ge g0 32 dX8_isHeardAt_18 (by decide) (InR_wr _) (InR_rd _ _ _) (fun hc => ?_) (fun hc => ?_)
    · replace h := if_f hc h
      refine r_iconst g0 dX8_isHeardAt_32 ?_
      exact z_Z g dX8_isHeardAt_33 B01_0 h
    · replace h := if_t hc h
      refine r_aload_n g0 dX8_isHeardAt_21 rfl ?_
      refine g_Sound_start g0 ho qX8_19 dX8_isHeardAt_22 ?_
      refine r_if_lt g0 32 dX8_isHeardAt_25 (by decide) (InR_rd _ _ _) (fun hc => ?_) (fun hc => ?_)
      · replace h := if_t hc h
        refine r_iconst g0 dX8_isHeardAt_32 ?_
        exact z_Z g dX8_isHeardAt_33 B01_0 h
      · replace h := if_f hc h
        refine r_iconst g0 dX8_isHeardAt_28 ?_
        refine r_goto g0 33 dX8_isHeardAt_29 (by decide) ?_
        exact z_Z g dX8_isHeardAt_33 B01_1 h
theorem dX8_stepAt_0 : decode cX8_stepAt 0 = .ok (.aload_n 0, 1) := by decide +kernel
theorem dX8_stepAt_1 : decode cX8_stepAt 1 = .ok (.iload_n 1, 1) := by decide +kernel
theorem dX8_stepAt_2 : decode cX8_stepAt 2 = .ok (.invokevirtual 25, 3) := by decide +kernel
theorem dX8_stepAt_5 : decode cX8_stepAt 5 = .ok (.ifCond .eq 17, 3) := by decide +kernel
theorem dX8_stepAt_8 : decode cX8_stepAt 8 = .ok (.aload_n 0, 1) := by decide +kernel
theorem dX8_stepAt_9 : decode cX8_stepAt 9 = .ok (.getfield 9, 3) := by decide +kernel
theorem dX8_stepAt_12 : decode cX8_stepAt 12 = .ok (.iload_n 1, 1) := by decide +kernel
theorem dX8_stepAt_13 : decode cX8_stepAt 13 = .ok (.aload_n 0, 1) := by decide +kernel
theorem dX8_stepAt_14 : decode cX8_stepAt 14 = .ok (.getfield 19, 3) := by decide +kernel
theorem dX8_stepAt_17 : decode cX8_stepAt 17 = .ok (.isub, 1) := by decide +kernel
theorem dX8_stepAt_18 : decode cX8_stepAt 18 = .ok (.iaload, 1) := by decide +kernel
theorem dX8_stepAt_19 : decode cX8_stepAt 19 = .ok (.goto 6, 3) := by decide +kernel
theorem dX8_stepAt_22 : decode cX8_stepAt 22 = .ok (.sipush (-1000), 3) := by decide +kernel
theorem dX8_stepAt_25 : decode cX8_stepAt 25 = .ok (.ireturn, 1) := by decide +kernel
set_option maxHeartbeats 4000000 in
set_option maxRecDepth 100000 in
theorem c_X8_stepAt {E : u_E} {l : Launch} {o : u_O} {p1 : Int} (ho : is_Sound o) (i_p1 : InR p1) {s s' : u_S} {r : Int} (h : f_X8_stepAt o p1 s = some (r, s')) : Con l (XE E) yX8_stepAt cX8_stepAt 2 (some .int) 1 21 0 0 [.ref (E.1 o), .int (J p1)] (Wd E s) (RI E r s') := by
  refine Con.of [some (.ref (E.1 o)), some (.int (J p1))] (by decide +kernel) rfl rfl (Nat.le_of_ble_eq_true rfl) (fun K g => ?_)
  have g0 := g.wk
  unfold f_X8_stepAt at h
  refine r_aload_n g0 dX8_stepAt_0 rfl ?_
  refine r_iload_n g0 dX8_stepAt_1 rfl ?_
  obtain ⟨r_1, s_1, hr_1, h⟩ := bd_some h
  refine r_cVZ g0 (rest := []) (c_X8_isHeardAt ho i_p1 hr_1) ok_X8_isHeardAt mX8_25 (recv_Sound ho) dX8_stepAt_2 ⟨Nat.le_of_ble_eq_true rfl, Nat.le_of_ble_eq_true rfl⟩ ⟨Nat.zero_le _, Nat.zero_le _⟩ rfl (Nat.le_of_ble_eq_true rfl) rfl (fun i_r_1 => ?_)
  refine r_if_eq g0 22 dX8_stepAt_5 (by decide) (B01.inR i_r_1) (fun hc => ?_) (fun hc => ?_)
  · replace h := if_t hc h
    refine r_sipush g0 dX8_stepAt_22 rfl ?_
    exact z_I g dX8_stepAt_25 (InR_lit rfl) h
  · replace h := if_f hc h
    refine r_aload_n g0 dX8_stepAt_8 rfl ?_
    refine g_Sound_steps g0 ho qX8_9 dX8_stepAt_9 ?_
    refine r_iload_n g0 dX8_stepAt_12 rfl ?_
    refine r_aload_n g0 dX8_stepAt_13 rfl ?_
    refine g_Sound_start g0 ho qX8_19 dX8_stepAt_14 ?_
    refine r_isub g0 dX8_stepAt_17 ?_
    obtain ⟨hb, h⟩ := gd_some h
    refine r_iaload g0 (is_a_Sound_steps ho) (n := 80) rfl (InR_wr _) hb dX8_stepAt_18 ?_
    refine r_goto g0 25 dX8_stepAt_19 (by decide) ?_
    exact z_I g dX8_stepAt_25 (InR_rd _ _ _) h
theorem dX8_end_0 : decode cX8_end 0 = .ok (.aload_n 0, 1) := by decide +kernel
theorem dX8_end_1 : decode cX8_end 1 = .ok (.getfield 19, 3) := by decide +kernel
theorem dX8_end_4 : decode cX8_end 4 = .ok (.aload_n 0, 1) := by decide +kernel
theorem dX8_end_5 : decode cX8_end 5 = .ok (.getfield 15, 3) := by decide +kernel
theorem dX8_end_8 : decode cX8_end 8 = .ok (.iadd, 1) := by decide +kernel
theorem dX8_end_9 : decode cX8_end 9 = .ok (.ireturn, 1) := by decide +kernel
set_option maxHeartbeats 4000000 in
set_option maxRecDepth 100000 in
theorem c_X8_end {E : u_E} {l : Launch} {o : u_O} (ho : is_Sound o) {s s' : u_S} {r : Int} (h : f_X8_end o s = some (r, s')) : Con l (XE E) yX8_end cX8_end 1 (some .int) 0 0 0 0 [.ref (E.1 o)] (Wd E s) (RI E r s') := by
  refine Con.of [some (.ref (E.1 o))] (by decide +kernel) rfl rfl (Nat.le_of_ble_eq_true rfl) (fun K g => ?_)
  have g0 := g.wk
  unfold f_X8_end at h
  refine r_aload_n g0 dX8_end_0 rfl ?_
  refine g_Sound_start g0 ho qX8_19 dX8_end_1 ?_
  refine r_aload_n g0 dX8_end_4 rfl ?_
  refine g_Sound_length g0 ho qX8_15 dX8_end_5 ?_
  refine r_iadd g0 dX8_end_8 ?_
  exact z_I g dX8_end_9 (InR_wr _) h
theorem dJ9_max_7cf53_0 : decode cJ9_max_7cf53 0 = .ok (.iload_n 0, 1) := by decide +kernel
theorem dJ9_max_7cf53_1 : decode cJ9_max_7cf53 1 = .ok (.iload_n 1, 1) := by decide +kernel
theorem dJ9_max_7cf53_2 : decode cJ9_max_7cf53 2 = .ok (.if_icmp .lt 7, 3) := by decide +kernel
theorem dJ9_max_7cf53_5 : decode cJ9_max_7cf53 5 = .ok (.iload_n 0, 1) := by decide +kernel
theorem dJ9_max_7cf53_6 : decode cJ9_max_7cf53 6 = .ok (.goto 4, 3) := by decide +kernel
theorem dJ9_max_7cf53_9 : decode cJ9_max_7cf53 9 = .ok (.iload_n 1, 1) := by decide +kernel
theorem dJ9_max_7cf53_10 : decode cJ9_max_7cf53 10 = .ok (.ireturn, 1) := by decide +kernel
set_option maxHeartbeats 4000000 in
set_option maxRecDepth 100000 in
theorem c_J9_max_7cf53 {E : u_E} {l : Launch} {p1 : Int} {p2 : Int} (i_p1 : InR p1) (i_p2 : InR p2) {s s' : u_S} {r : Int} (h : f_J9_max_7cf53 p1 p2 s = some (r, s')) : Con l (XE E) yJ9_max_7cf53 cJ9_max_7cf53 2 (some .int) 0 0 0 0 [.int (J p1), .int (J p2)] (Wd E s) (RI E r s') := by
  refine Con.ofF [some (.int (J p1)), some (.int (J p2))] (by decide +kernel) rfl rfl (Nat.le_of_ble_eq_true rfl) (fun K g => ?_)
  have g0 := g.wk
  unfold f_J9_max_7cf53 at h
  refine r_iload_n g0 dJ9_max_7cf53_0 rfl ?_
  refine r_iload_n g0 dJ9_max_7cf53_1 rfl ?_
  refine r_icmp_lt g0 9 dJ9_max_7cf53_2 (by decide) i_p1 i_p2 (fun hc => ?_) (fun hc => ?_)
  · replace h := if_t hc h
    refine r_iload_n g0 dJ9_max_7cf53_9 rfl ?_
    exact z_I g dJ9_max_7cf53_10 i_p2 h
  · replace h := if_f hc h
    refine r_iload_n g0 dJ9_max_7cf53_5 rfl ?_
    refine r_goto g0 10 dJ9_max_7cf53_6 (by decide) ?_
    exact z_I g dJ9_max_7cf53_10 i_p1 h
theorem dJ9_min_7cf53_0 : decode cJ9_min_7cf53 0 = .ok (.iload_n 0, 1) := by decide +kernel
theorem dJ9_min_7cf53_1 : decode cJ9_min_7cf53 1 = .ok (.iload_n 1, 1) := by decide +kernel
theorem dJ9_min_7cf53_2 : decode cJ9_min_7cf53 2 = .ok (.if_icmp .gt 7, 3) := by decide +kernel
theorem dJ9_min_7cf53_5 : decode cJ9_min_7cf53 5 = .ok (.iload_n 0, 1) := by decide +kernel
theorem dJ9_min_7cf53_6 : decode cJ9_min_7cf53 6 = .ok (.goto 4, 3) := by decide +kernel
theorem dJ9_min_7cf53_9 : decode cJ9_min_7cf53 9 = .ok (.iload_n 1, 1) := by decide +kernel
theorem dJ9_min_7cf53_10 : decode cJ9_min_7cf53 10 = .ok (.ireturn, 1) := by decide +kernel
set_option maxHeartbeats 4000000 in
set_option maxRecDepth 100000 in
theorem c_J9_min_7cf53 {E : u_E} {l : Launch} {p1 : Int} {p2 : Int} (i_p1 : InR p1) (i_p2 : InR p2) {s s' : u_S} {r : Int} (h : f_J9_min_7cf53 p1 p2 s = some (r, s')) : Con l (XE E) yJ9_min_7cf53 cJ9_min_7cf53 2 (some .int) 0 0 0 0 [.int (J p1), .int (J p2)] (Wd E s) (RI E r s') := by
  refine Con.ofF [some (.int (J p1)), some (.int (J p2))] (by decide +kernel) rfl rfl (Nat.le_of_ble_eq_true rfl) (fun K g => ?_)
  have g0 := g.wk
  unfold f_J9_min_7cf53 at h
  refine r_iload_n g0 dJ9_min_7cf53_0 rfl ?_
  refine r_iload_n g0 dJ9_min_7cf53_1 rfl ?_
  refine r_icmp_gt g0 9 dJ9_min_7cf53_2 (by decide) i_p1 i_p2 (fun hc => ?_) (fun hc => ?_)
  · replace h := if_f hc h
    refine r_iload_n g0 dJ9_min_7cf53_9 rfl ?_
    exact z_I g dJ9_min_7cf53_10 i_p2 h
  · replace h := if_t hc h
    refine r_iload_n g0 dJ9_min_7cf53_5 rfl ?_
    refine r_goto g0 10 dJ9_min_7cf53_6 (by decide) ?_
    exact z_I g dJ9_min_7cf53_10 i_p1 h
theorem dX5_copyFrom_0 : decode cX5_copyFrom 0 = .ok (.iconst 0, 1) := by decide +kernel
theorem dX5_copyFrom_1 : decode cX5_copyFrom 1 = .ok (.istore_n 2, 1) := by decide +kernel
theorem dX5_copyFrom_2 : decode cX5_copyFrom 2 = .ok (.iload_n 2, 1) := by decide +kernel
theorem dX5_copyFrom_3 : decode cX5_copyFrom 3 = .ok (.bipush 10, 2) := by decide +kernel
theorem dX5_copyFrom_5 : decode cX5_copyFrom 5 = .ok (.if_icmp .ge 33, 3) := by decide +kernel
theorem dX5_copyFrom_8 : decode cX5_copyFrom 8 = .ok (.aload_n 0, 1) := by decide +kernel
theorem dX5_copyFrom_9 : decode cX5_copyFrom 9 = .ok (.getfield 9, 3) := by decide +kernel
theorem dX5_copyFrom_12 : decode cX5_copyFrom 12 = .ok (.iload_n 2, 1) := by decide +kernel
theorem dX5_copyFrom_13 : decode cX5_copyFrom 13 = .ok (.aload_n 1, 1) := by decide +kernel
theorem dX5_copyFrom_14 : decode cX5_copyFrom 14 = .ok (.getfield 9, 3) := by decide +kernel
theorem dX5_copyFrom_17 : decode cX5_copyFrom 17 = .ok (.iload_n 2, 1) := by decide +kernel
theorem dX5_copyFrom_18 : decode cX5_copyFrom 18 = .ok (.iaload, 1) := by decide +kernel
theorem dX5_copyFrom_19 : decode cX5_copyFrom 19 = .ok (.iastore, 1) := by decide +kernel
theorem dX5_copyFrom_20 : decode cX5_copyFrom 20 = .ok (.aload_n 0, 1) := by decide +kernel
theorem dX5_copyFrom_21 : decode cX5_copyFrom 21 = .ok (.getfield 15, 3) := by decide +kernel
theorem dX5_copyFrom_24 : decode cX5_copyFrom 24 = .ok (.iload_n 2, 1) := by decide +kernel
theorem dX5_copyFrom_25 : decode cX5_copyFrom 25 = .ok (.aload_n 1, 1) := by decide +kernel
theorem dX5_copyFrom_26 : decode cX5_copyFrom 26 = .ok (.getfield 15, 3) := by decide +kernel
theorem dX5_copyFrom_29 : decode cX5_copyFrom 29 = .ok (.iload_n 2, 1) := by decide +kernel
theorem dX5_copyFrom_30 : decode cX5_copyFrom 30 = .ok (.iaload, 1) := by decide +kernel
theorem dX5_copyFrom_31 : decode cX5_copyFrom 31 = .ok (.iastore, 1) := by decide +kernel
theorem dX5_copyFrom_32 : decode cX5_copyFrom 32 = .ok (.iinc 2 1, 3) := by decide +kernel
theorem dX5_copyFrom_35 : decode cX5_copyFrom 35 = .ok (.goto (-33), 3) := by decide +kernel
theorem dX5_copyFrom_38 : decode cX5_copyFrom 38 = .ok (.aload_n 0, 1) := by decide +kernel
theorem dX5_copyFrom_39 : decode cX5_copyFrom 39 = .ok (.aload_n 1, 1) := by decide +kernel
theorem dX5_copyFrom_40 : decode cX5_copyFrom 40 = .ok (.getfield 18, 3) := by decide +kernel
theorem dX5_copyFrom_43 : decode cX5_copyFrom 43 = .ok (.putfield 18, 3) := by decide +kernel
theorem dX5_copyFrom_46 : decode cX5_copyFrom 46 = .ok (.return_, 1) := by decide +kernel
set_option maxHeartbeats 4000000 in
set_option maxRecDepth 100000 in
theorem t_X5_copyFrom_L2 {l : Launch} {E : u_E} {K : u_K} {r : Int} {s' : u_S} (g : Wk l (XE E) { frames := 0, cells := 0, slots := 0, locals := 0 } cX5_copyFrom 3 yX5_copyFrom.cls yX5_copyFrom.name none (RV E r s') K) {v0_1 : u_O} {v1_1 : u_O} (i_v0_1 : is_Line v0_1) (i_v1_1 : is_Line v1_1) {kx38 : u_S → Option (Int × u_S)} (hkx38 : ∀ (s_3 : u_S), kx38 s_3 = some (r, s') → K 0 0 38 [some (.ref (E.1 v0_1)), some (.ref (E.1 v1_1)), none] [] (Wd E s_3)) : ∀ (m : Nat) (v2_1 : Int) (s_2 : u_S), InR v2_1 → f_X5_copyFrom_L2 m kx38 v0_1 v1_1 v2_1 s_2 = some (r, s') → K 0 0 2 [some (.ref (E.1 v0_1)), some (.ref (E.1 v1_1)), some (.int (J v2_1))] [] (Wd E s_2) := by
  have g0 := g.wk
  intro m
  induction m with
  | zero =>
    intro v2_1 s_2 i_v2_1 h
    exact absurd (show (none : Option (Int × u_S)) = some (r, s') from h) (by intro z; cases z)
  | succ m ih =>
    intro v2_1 s_2 i_v2_1 h
    rw [f_X5_copyFrom_L2] at h
    refine r_iload_n g0 dX5_copyFrom_2 rfl ?_
    refine r_bipush g0 dX5_copyFrom_3 rfl ?_
    refine r_icmp_ge g0 38 dX5_copyFrom_5 (by decide) i_v2_1 (InR_lit rfl) (fun hc => ?_) (fun hc => ?_)
    · replace h := if_f hc h
      refine r_mask g0 (lv' := [some (.ref (E.1 v0_1)), some (.ref (E.1 v1_1)), none]) [true, true, false] rfl ?_
      exact hkx38 s_2 h
    · replace h := if_t hc h
      refine r_aload_n g0 dX5_copyFrom_8 rfl ?_
      refine g_Line_steps g0 i_v0_1 qX5_9 dX5_copyFrom_9 ?_
      refine r_iload_n g0 dX5_copyFrom_12 rfl ?_
      refine r_aload_n g0 dX5_copyFrom_13 rfl ?_
      refine g_Line_steps g0 i_v1_1 qX5_9 dX5_copyFrom_14 ?_
      refine r_iload_n g0 dX5_copyFrom_17 rfl ?_
      obtain ⟨hb, h⟩ := gd_some h
      refine r_iaload g0 (is_a_Line_steps i_v1_1) (n := 10) rfl i_v2_1 hb dX5_copyFrom_18 ?_
      obtain ⟨hb, h⟩ := gd_some h
      refine r_iastore g0 (is_a_Line_steps i_v0_1) (n := 10) rfl i_v2_1 hb dX5_copyFrom_19 ?_
      refine r_aload_n g0 dX5_copyFrom_20 rfl ?_
      refine g_Line_ticks g0 i_v0_1 qX5_15 dX5_copyFrom_21 ?_
      refine r_iload_n g0 dX5_copyFrom_24 rfl ?_
      refine r_aload_n g0 dX5_copyFrom_25 rfl ?_
      refine g_Line_ticks g0 i_v1_1 qX5_15 dX5_copyFrom_26 ?_
      refine r_iload_n g0 dX5_copyFrom_29 rfl ?_
      obtain ⟨hb, h⟩ := gd_some h
      refine r_iaload g0 (is_a_Line_ticks i_v1_1) (n := 10) rfl i_v2_1 hb dX5_copyFrom_30 ?_
      obtain ⟨hb, h⟩ := gd_some h
      refine r_iastore g0 (is_a_Line_ticks i_v0_1) (n := 10) rfl i_v2_1 hb dX5_copyFrom_31 ?_
      refine r_iinc g0 (a := v2_1) (lv' := [some (.ref (E.1 v0_1)), some (.ref (E.1 v1_1)), some (.int (J (wr (v2_1 + 1))))]) dX5_copyFrom_32 (by decide) rfl rfl rfl ?_
      refine r_goto g0 2 dX5_copyFrom_35 (by decide) ?_
      exact ih (wr (v2_1 + 1)) (wt (wt s_2 (a_Line_steps v0_1) v2_1 (rd s_2 (a_Line_steps v1_1) v2_1)) (a_Line_ticks v0_1) v2_1 (rd (wt s_2 (a_Line_steps v0_1) v2_1 (rd s_2 (a_Line_steps v1_1) v2_1)) (a_Line_ticks v1_1) v2_1)) (InR_wr _) h
set_option maxHeartbeats 4000000 in
set_option maxRecDepth 100000 in
theorem c_X5_copyFrom {E : u_E} {l : Launch} {o : u_O} {p1 : u_O} (ho : is_Line o) (i_p1 : is_Line p1) {s s' : u_S} {r : Int} (h : f_X5_copyFrom o p1 s = some (r, s')) : Con l (XE E) yX5_copyFrom cX5_copyFrom 3 none 0 0 0 0 [.ref (E.1 o), .ref (E.1 p1)] (Wd E s) (RV E r s') := by
  refine Con.of [some (.ref (E.1 o)), some (.ref (E.1 p1)), none] (by decide +kernel) rfl rfl (Nat.le_of_ble_eq_true rfl) (fun K g => ?_)
  have g0 := g.wk
  unfold f_X5_copyFrom at h
  refine r_iconst g0 dX5_copyFrom_0 ?_
  refine r_istore_n g0 (lv' := [some (.ref (E.1 o)), some (.ref (E.1 p1)), some (.int (J 0))]) dX5_copyFrom_1 (by decide) rfl rfl ?_
  refine t_X5_copyFrom_L2 g ho i_p1 ?_ FU 0 s (B01.inR B01_0) h
  · intro s_1 h
    refine r_aload_n g0 dX5_copyFrom_38 rfl ?_
    refine r_aload_n g0 dX5_copyFrom_39 rfl ?_
    refine g_Line_count g0 i_p1 qX5_18 dX5_copyFrom_40 ?_
    refine p_Line_count g0 ho qX5_18 dX5_copyFrom_43 ?_
    exact z_V g dX5_copyFrom_46 h
theorem dX5_isEmpty_0 : decode cX5_isEmpty 0 = .ok (.aload_n 0, 1) := by decide +kernel
theorem dX5_isEmpty_1 : decode cX5_isEmpty 1 = .ok (.getfield 18, 3) := by decide +kernel
theorem dX5_isEmpty_4 : decode cX5_isEmpty 4 = .ok (.ifCond .gt 7, 3) := by decide +kernel
theorem dX5_isEmpty_7 : decode cX5_isEmpty 7 = .ok (.iconst 1, 1) := by decide +kernel
theorem dX5_isEmpty_8 : decode cX5_isEmpty 8 = .ok (.goto 4, 3) := by decide +kernel
theorem dX5_isEmpty_11 : decode cX5_isEmpty 11 = .ok (.iconst 0, 1) := by decide +kernel
theorem dX5_isEmpty_12 : decode cX5_isEmpty 12 = .ok (.ireturn, 1) := by decide +kernel
set_option maxHeartbeats 4000000 in
set_option maxRecDepth 100000 in
theorem c_X5_isEmpty {E : u_E} {l : Launch} {o : u_O} (ho : is_Line o) {s s' : u_S} {r : Int} (h : f_X5_isEmpty o s = some (r, s')) : Con l (XE E) yX5_isEmpty cX5_isEmpty 1 (some .boolean) 0 0 0 0 [.ref (E.1 o)] (Wd E s) (RZ E r s') := by
  refine Con.of [some (.ref (E.1 o))] (by decide +kernel) rfl rfl (Nat.le_of_ble_eq_true rfl) (fun K g => ?_)
  have g0 := g.wk
  unfold f_X5_isEmpty at h
  refine r_aload_n g0 dX5_isEmpty_0 rfl ?_
  refine g_Line_count g0 ho qX5_18 dX5_isEmpty_1 ?_
  refine r_if_gt g0 11 dX5_isEmpty_4 (by decide) (InR_rd _ _ _) (fun hc => ?_) (fun hc => ?_)
  · replace h := if_f hc h
    refine r_iconst g0 dX5_isEmpty_11 ?_
    exact z_Z g dX5_isEmpty_12 B01_0 h
  · replace h := if_t hc h
    refine r_iconst g0 dX5_isEmpty_7 ?_
    refine r_goto g0 12 dX5_isEmpty_8 (by decide) ?_
    exact z_Z g dX5_isEmpty_12 B01_1 h
theorem dX5_isFull_0 : decode cX5_isFull 0 = .ok (.aload_n 0, 1) := by decide +kernel
theorem dX5_isFull_1 : decode cX5_isFull 1 = .ok (.getfield 18, 3) := by decide +kernel
theorem dX5_isFull_4 : decode cX5_isFull 4 = .ok (.bipush 10, 2) := by decide +kernel
theorem dX5_isFull_6 : decode cX5_isFull 6 = .ok (.if_icmp .lt 7, 3) := by decide +kernel
theorem dX5_isFull_9 : decode cX5_isFull 9 = .ok (.iconst 1, 1) := by decide +kernel
theorem dX5_isFull_10 : decode cX5_isFull 10 = .ok (.goto 4, 3) := by decide +kernel
theorem dX5_isFull_13 : decode cX5_isFull 13 = .ok (.iconst 0, 1) := by decide +kernel
theorem dX5_isFull_14 : decode cX5_isFull 14 = .ok (.ireturn, 1) := by decide +kernel
set_option maxHeartbeats 4000000 in
set_option maxRecDepth 100000 in
theorem c_X5_isFull {E : u_E} {l : Launch} {o : u_O} (ho : is_Line o) {s s' : u_S} {r : Int} (h : f_X5_isFull o s = some (r, s')) : Con l (XE E) yX5_isFull cX5_isFull 1 (some .boolean) 0 0 0 0 [.ref (E.1 o)] (Wd E s) (RZ E r s') := by
  refine Con.of [some (.ref (E.1 o))] (by decide +kernel) rfl rfl (Nat.le_of_ble_eq_true rfl) (fun K g => ?_)
  have g0 := g.wk
  unfold f_X5_isFull at h
  refine r_aload_n g0 dX5_isFull_0 rfl ?_
  refine g_Line_count g0 ho qX5_18 dX5_isFull_1 ?_
  refine r_bipush g0 dX5_isFull_4 rfl ?_
  refine r_icmp_lt g0 13 dX5_isFull_6 (by decide) (InR_rd _ _ _) (InR_lit rfl) (fun hc => ?_) (fun hc => ?_)
  · replace h := if_t hc h
    refine r_iconst g0 dX5_isFull_13 ?_
    exact z_Z g dX5_isFull_14 B01_0 h
  · replace h := if_f hc h
    refine r_iconst g0 dX5_isFull_9 ?_
    refine r_goto g0 14 dX5_isFull_10 (by decide) ?_
    exact z_Z g dX5_isFull_14 B01_1 h
theorem dX5_append_0 : decode cX5_append 0 = .ok (.aload_n 0, 1) := by decide +kernel
theorem dX5_append_1 : decode cX5_append 1 = .ok (.invokevirtual 22, 3) := by decide +kernel
theorem dX5_append_4 : decode cX5_append 4 = .ok (.ifCond .eq 4, 3) := by decide +kernel
theorem dX5_append_7 : decode cX5_append 7 = .ok (.return_, 1) := by decide +kernel
theorem dX5_append_8 : decode cX5_append 8 = .ok (.aload_n 0, 1) := by decide +kernel
theorem dX5_append_9 : decode cX5_append 9 = .ok (.getfield 9, 3) := by decide +kernel
theorem dX5_append_12 : decode cX5_append 12 = .ok (.aload_n 0, 1) := by decide +kernel
theorem dX5_append_13 : decode cX5_append 13 = .ok (.getfield 18, 3) := by decide +kernel
theorem dX5_append_16 : decode cX5_append 16 = .ok (.iload_n 1, 1) := by decide +kernel
theorem dX5_append_17 : decode cX5_append 17 = .ok (.iastore, 1) := by decide +kernel
theorem dX5_append_18 : decode cX5_append 18 = .ok (.aload_n 0, 1) := by decide +kernel
theorem dX5_append_19 : decode cX5_append 19 = .ok (.getfield 15, 3) := by decide +kernel
theorem dX5_append_22 : decode cX5_append 22 = .ok (.aload_n 0, 1) := by decide +kernel
theorem dX5_append_23 : decode cX5_append 23 = .ok (.getfield 18, 3) := by decide +kernel
theorem dX5_append_26 : decode cX5_append 26 = .ok (.iload_n 2, 1) := by decide +kernel
theorem dX5_append_27 : decode cX5_append 27 = .ok (.iastore, 1) := by decide +kernel
theorem dX5_append_28 : decode cX5_append 28 = .ok (.aload_n 0, 1) := by decide +kernel
theorem dX5_append_29 : decode cX5_append 29 = .ok (.dup, 1) := by decide +kernel
theorem dX5_append_30 : decode cX5_append 30 = .ok (.getfield 18, 3) := by decide +kernel
theorem dX5_append_33 : decode cX5_append 33 = .ok (.iconst 1, 1) := by decide +kernel
theorem dX5_append_34 : decode cX5_append 34 = .ok (.iadd, 1) := by decide +kernel
theorem dX5_append_35 : decode cX5_append 35 = .ok (.putfield 18, 3) := by decide +kernel
theorem dX5_append_38 : decode cX5_append 38 = .ok (.return_, 1) := by decide +kernel
set_option maxHeartbeats 4000000 in
set_option maxRecDepth 100000 in
theorem c_X5_append {E : u_E} {l : Launch} {o : u_O} {p1 : Int} {p2 : Int} (ho : is_Line o) (i_p1 : InR p1) (i_p2 : InR p2) {s s' : u_S} {r : Int} (h : f_X5_append o p1 p2 s = some (r, s')) : Con l (XE E) yX5_append cX5_append 3 none 1 20 0 0 [.ref (E.1 o), .int (J p1), .int (J p2)] (Wd E s) (RV E r s') := by
  refine Con.of [some (.ref (E.1 o)), some (.int (J p1)), some (.int (J p2))] (by decide +kernel) rfl rfl (Nat.le_of_ble_eq_true rfl) (fun K g => ?_)
  have g0 := g.wk
  unfold f_X5_append at h
  refine r_aload_n g0 dX5_append_0 rfl ?_
  obtain ⟨r_1, s_1, hr_1, h⟩ := bd_some h
  refine r_cVZ g0 (rest := []) (c_X5_isFull ho hr_1) ok_X5_isFull mX5_22 (recv_Line ho) dX5_append_1 ⟨Nat.le_of_ble_eq_true rfl, Nat.le_of_ble_eq_true rfl⟩ ⟨Nat.zero_le _, Nat.zero_le _⟩ rfl (Nat.le_of_ble_eq_true rfl) rfl (fun i_r_1 => ?_)
  refine r_if_eq g0 8 dX5_append_4 (by decide) (B01.inR i_r_1) (fun hc => ?_) (fun hc => ?_)
  · replace h := if_t hc h
    refine r_aload_n g0 dX5_append_8 rfl ?_
    refine g_Line_steps g0 ho qX5_9 dX5_append_9 ?_
    refine r_aload_n g0 dX5_append_12 rfl ?_
    refine g_Line_count g0 ho qX5_18 dX5_append_13 ?_
    refine r_iload_n g0 dX5_append_16 rfl ?_
    obtain ⟨hb, h⟩ := gd_some h
    refine r_iastore g0 (is_a_Line_steps ho) (n := 10) rfl (InR_rd _ _ _) hb dX5_append_17 ?_
    refine r_aload_n g0 dX5_append_18 rfl ?_
    refine g_Line_ticks g0 ho qX5_15 dX5_append_19 ?_
    refine r_aload_n g0 dX5_append_22 rfl ?_
    refine g_Line_count g0 ho qX5_18 dX5_append_23 ?_
    refine r_iload_n g0 dX5_append_26 rfl ?_
    obtain ⟨hb, h⟩ := gd_some h
    refine r_iastore g0 (is_a_Line_ticks ho) (n := 10) rfl (InR_rd _ _ _) hb dX5_append_27 ?_
    refine r_aload_n g0 dX5_append_28 rfl ?_
    refine r_dup g0 dX5_append_29 rfl ?_
    refine g_Line_count g0 ho qX5_18 dX5_append_30 ?_
    refine r_iconst g0 dX5_append_33 ?_
    refine r_iadd g0 dX5_append_34 ?_
    refine p_Line_count g0 ho qX5_18 dX5_append_35 ?_
    exact z_V g dX5_append_38 h
  · replace h := if_f hc h
    exact z_V g dX5_append_7 h
theorem dX5_remove_0 : decode cX5_remove 0 = .ok (.aload_n 0, 1) := by decide +kernel
theorem dX5_remove_1 : decode cX5_remove 1 = .ok (.iload_n 1, 1) := by decide +kernel
theorem dX5_remove_2 : decode cX5_remove 2 = .ok (.invokevirtual 26, 3) := by decide +kernel
theorem dX5_remove_5 : decode cX5_remove 5 = .ok (.ifCond .ne 4, 3) := by decide +kernel
theorem dX5_remove_8 : decode cX5_remove 8 = .ok (.return_, 1) := by decide +kernel
theorem dX5_remove_9 : decode cX5_remove 9 = .ok (.iload_n 1, 1) := by decide +kernel
theorem dX5_remove_10 : decode cX5_remove 10 = .ok (.iconst 1, 1) := by decide +kernel
theorem dX5_remove_11 : decode cX5_remove 11 = .ok (.iadd, 1) := by decide +kernel
theorem dX5_remove_12 : decode cX5_remove 12 = .ok (.istore_n 2, 1) := by decide +kernel
theorem dX5_remove_13 : decode cX5_remove 13 = .ok (.iload_n 2, 1) := by decide +kernel
theorem dX5_remove_14 : decode cX5_remove 14 = .ok (.aload_n 0, 1) := by decide +kernel
theorem dX5_remove_15 : decode cX5_remove 15 = .ok (.getfield 18, 3) := by decide +kernel
theorem dX5_remove_18 : decode cX5_remove 18 = .ok (.if_icmp .ge 37, 3) := by decide +kernel
theorem dX5_remove_21 : decode cX5_remove 21 = .ok (.aload_n 0, 1) := by decide +kernel
theorem dX5_remove_22 : decode cX5_remove 22 = .ok (.getfield 9, 3) := by decide +kernel
theorem dX5_remove_25 : decode cX5_remove 25 = .ok (.iload_n 2, 1) := by decide +kernel
theorem dX5_remove_26 : decode cX5_remove 26 = .ok (.iconst 1, 1) := by decide +kernel
theorem dX5_remove_27 : decode cX5_remove 27 = .ok (.isub, 1) := by decide +kernel
theorem dX5_remove_28 : decode cX5_remove 28 = .ok (.aload_n 0, 1) := by decide +kernel
theorem dX5_remove_29 : decode cX5_remove 29 = .ok (.getfield 9, 3) := by decide +kernel
theorem dX5_remove_32 : decode cX5_remove 32 = .ok (.iload_n 2, 1) := by decide +kernel
theorem dX5_remove_33 : decode cX5_remove 33 = .ok (.iaload, 1) := by decide +kernel
theorem dX5_remove_34 : decode cX5_remove 34 = .ok (.iastore, 1) := by decide +kernel
theorem dX5_remove_35 : decode cX5_remove 35 = .ok (.aload_n 0, 1) := by decide +kernel
theorem dX5_remove_36 : decode cX5_remove 36 = .ok (.getfield 15, 3) := by decide +kernel
theorem dX5_remove_39 : decode cX5_remove 39 = .ok (.iload_n 2, 1) := by decide +kernel
theorem dX5_remove_40 : decode cX5_remove 40 = .ok (.iconst 1, 1) := by decide +kernel
theorem dX5_remove_41 : decode cX5_remove 41 = .ok (.isub, 1) := by decide +kernel
theorem dX5_remove_42 : decode cX5_remove 42 = .ok (.aload_n 0, 1) := by decide +kernel
theorem dX5_remove_43 : decode cX5_remove 43 = .ok (.getfield 15, 3) := by decide +kernel
theorem dX5_remove_46 : decode cX5_remove 46 = .ok (.iload_n 2, 1) := by decide +kernel
theorem dX5_remove_47 : decode cX5_remove 47 = .ok (.iaload, 1) := by decide +kernel
theorem dX5_remove_48 : decode cX5_remove 48 = .ok (.iastore, 1) := by decide +kernel
theorem dX5_remove_49 : decode cX5_remove 49 = .ok (.iinc 2 1, 3) := by decide +kernel
theorem dX5_remove_52 : decode cX5_remove 52 = .ok (.goto (-39), 3) := by decide +kernel
theorem dX5_remove_55 : decode cX5_remove 55 = .ok (.aload_n 0, 1) := by decide +kernel
theorem dX5_remove_56 : decode cX5_remove 56 = .ok (.dup, 1) := by decide +kernel
theorem dX5_remove_57 : decode cX5_remove 57 = .ok (.getfield 18, 3) := by decide +kernel
theorem dX5_remove_60 : decode cX5_remove 60 = .ok (.iconst 1, 1) := by decide +kernel
theorem dX5_remove_61 : decode cX5_remove 61 = .ok (.isub, 1) := by decide +kernel
theorem dX5_remove_62 : decode cX5_remove 62 = .ok (.putfield 18, 3) := by decide +kernel
theorem dX5_remove_65 : decode cX5_remove 65 = .ok (.return_, 1) := by decide +kernel
set_option maxHeartbeats 4000000 in
set_option maxRecDepth 100000 in
theorem t_X5_remove_L13 {l : Launch} {E : u_E} {K : u_K} {r : Int} {s' : u_S} (g : Wk l (XE E) { frames := 1, cells := 0, slots := 0, locals := 21 } cX5_remove 3 yX5_remove.cls yX5_remove.name none (RV E r s') K) {v0_1 : u_O} (i_v0_1 : is_Line v0_1) {kx55 : u_S → Option (Int × u_S)} (hkx55 : ∀ (s_4 : u_S), kx55 s_4 = some (r, s') → K 0 0 55 [some (.ref (E.1 v0_1)), none, none] [] (Wd E s_4)) : ∀ (m : Nat) (v2_1 : Int) (s_3 : u_S), InR v2_1 → f_X5_remove_L13 m kx55 v0_1 v2_1 s_3 = some (r, s') → K 0 0 13 [some (.ref (E.1 v0_1)), none, some (.int (J v2_1))] [] (Wd E s_3) := by
  have g0 := g.wk
  intro m
  induction m with
  | zero =>
    intro v2_1 s_3 i_v2_1 h
    exact absurd (show (none : Option (Int × u_S)) = some (r, s') from h) (by intro z; cases z)
  | succ m ih =>
    intro v2_1 s_3 i_v2_1 h
    rw [f_X5_remove_L13] at h
    refine r_iload_n g0 dX5_remove_13 rfl ?_
    refine r_aload_n g0 dX5_remove_14 rfl ?_
    refine g_Line_count g0 i_v0_1 qX5_18 dX5_remove_15 ?_
    refine r_icmp_ge g0 55 dX5_remove_18 (by decide) i_v2_1 (InR_rd _ _ _) (fun hc => ?_) (fun hc => ?_)
    · replace h := if_f hc h
      refine r_mask g0 (lv' := [some (.ref (E.1 v0_1)), none, none]) [true, false, false] rfl ?_
      exact hkx55 s_3 h
    · replace h := if_t hc h
      refine r_aload_n g0 dX5_remove_21 rfl ?_
      refine g_Line_steps g0 i_v0_1 qX5_9 dX5_remove_22 ?_
      refine r_iload_n g0 dX5_remove_25 rfl ?_
      refine r_iconst g0 dX5_remove_26 ?_
      refine r_isub g0 dX5_remove_27 ?_
      refine r_aload_n g0 dX5_remove_28 rfl ?_
      refine g_Line_steps g0 i_v0_1 qX5_9 dX5_remove_29 ?_
      refine r_iload_n g0 dX5_remove_32 rfl ?_
      obtain ⟨hb, h⟩ := gd_some h
      refine r_iaload g0 (is_a_Line_steps i_v0_1) (n := 10) rfl i_v2_1 hb dX5_remove_33 ?_
      obtain ⟨hb, h⟩ := gd_some h
      refine r_iastore g0 (is_a_Line_steps i_v0_1) (n := 10) rfl (InR_wr _) hb dX5_remove_34 ?_
      refine r_aload_n g0 dX5_remove_35 rfl ?_
      refine g_Line_ticks g0 i_v0_1 qX5_15 dX5_remove_36 ?_
      refine r_iload_n g0 dX5_remove_39 rfl ?_
      refine r_iconst g0 dX5_remove_40 ?_
      refine r_isub g0 dX5_remove_41 ?_
      refine r_aload_n g0 dX5_remove_42 rfl ?_
      refine g_Line_ticks g0 i_v0_1 qX5_15 dX5_remove_43 ?_
      refine r_iload_n g0 dX5_remove_46 rfl ?_
      obtain ⟨hb, h⟩ := gd_some h
      refine r_iaload g0 (is_a_Line_ticks i_v0_1) (n := 10) rfl i_v2_1 hb dX5_remove_47 ?_
      obtain ⟨hb, h⟩ := gd_some h
      refine r_iastore g0 (is_a_Line_ticks i_v0_1) (n := 10) rfl (InR_wr _) hb dX5_remove_48 ?_
      refine r_iinc g0 (a := v2_1) (lv' := [some (.ref (E.1 v0_1)), none, some (.int (J (wr (v2_1 + 1))))]) dX5_remove_49 (by decide) rfl rfl rfl ?_
      refine r_goto g0 13 dX5_remove_52 (by decide) ?_
      exact ih (wr (v2_1 + 1)) (wt (wt s_3 (a_Line_steps v0_1) (wr (v2_1 - 1)) (rd s_3 (a_Line_steps v0_1) v2_1)) (a_Line_ticks v0_1) (wr (v2_1 - 1)) (rd (wt s_3 (a_Line_steps v0_1) (wr (v2_1 - 1)) (rd s_3 (a_Line_steps v0_1) v2_1)) (a_Line_ticks v0_1) v2_1)) (InR_wr _) h
set_option maxHeartbeats 4000000 in
set_option maxRecDepth 100000 in
theorem c_X5_remove {E : u_E} {l : Launch} {o : u_O} {p1 : Int} (ho : is_Line o) (i_p1 : InR p1) {s s' : u_S} {r : Int} (h : f_X5_remove o p1 s = some (r, s')) : Con l (XE E) yX5_remove cX5_remove 3 none 1 21 0 0 [.ref (E.1 o), .int (J p1)] (Wd E s) (RV E r s') := by
  refine Con.of [some (.ref (E.1 o)), some (.int (J p1)), none] (by decide +kernel) rfl rfl (Nat.le_of_ble_eq_true rfl) (fun K g => ?_)
  have g0 := g.wk
  unfold f_X5_remove at h
  refine r_aload_n g0 dX5_remove_0 rfl ?_
  refine r_iload_n g0 dX5_remove_1 rfl ?_
  obtain ⟨r_1, s_1, hr_1, h⟩ := bd_some h
  refine r_cVZ g0 (rest := []) (c_X5_has ho i_p1 hr_1) ok_X5_has mX5_26 (recv_Line ho) dX5_remove_2 ⟨Nat.le_of_ble_eq_true rfl, Nat.le_of_ble_eq_true rfl⟩ ⟨Nat.zero_le _, Nat.zero_le _⟩ rfl (Nat.le_of_ble_eq_true rfl) rfl (fun i_r_1 => ?_)
  refine r_if_ne g0 9 dX5_remove_5 (by decide) (B01.inR i_r_1) (fun hc => ?_) (fun hc => ?_)
  · replace h := if_f hc h
    refine r_iload_n g0 dX5_remove_9 rfl ?_
    refine r_iconst g0 dX5_remove_10 ?_
    refine r_iadd g0 dX5_remove_11 ?_
    refine r_istore_n g0 (lv' := [some (.ref (E.1 o)), some (.int (J p1)), some (.int (J (wr (p1 + 1))))]) dX5_remove_12 (by decide) rfl rfl ?_
    refine r_mask g0 (lv' := [some (.ref (E.1 o)), none, some (.int (J (wr (p1 + 1))))]) [true, false, true] rfl ?_
    refine t_X5_remove_L13 g ho ?_ FU (wr (p1 + 1)) s_1 (InR_wr _) h
    · intro s_2 h
      refine r_aload_n g0 dX5_remove_55 rfl ?_
      refine r_dup g0 dX5_remove_56 rfl ?_
      refine g_Line_count g0 ho qX5_18 dX5_remove_57 ?_
      refine r_iconst g0 dX5_remove_60 ?_
      refine r_isub g0 dX5_remove_61 ?_
      refine p_Line_count g0 ho qX5_18 dX5_remove_62 ?_
      exact z_V g dX5_remove_65 h
  · replace h := if_t hc h
    exact z_V g dX5_remove_8 h
theorem dX5_stepOf_0 : decode cX5_stepOf 0 = .ok (.aload_n 0, 1) := by decide +kernel
theorem dX5_stepOf_1 : decode cX5_stepOf 1 = .ok (.iload_n 1, 1) := by decide +kernel
theorem dX5_stepOf_2 : decode cX5_stepOf 2 = .ok (.invokevirtual 26, 3) := by decide +kernel
theorem dX5_stepOf_5 : decode cX5_stepOf 5 = .ok (.ifCond .eq 12, 3) := by decide +kernel
theorem dX5_stepOf_8 : decode cX5_stepOf 8 = .ok (.aload_n 0, 1) := by decide +kernel
theorem dX5_stepOf_9 : decode cX5_stepOf 9 = .ok (.getfield 9, 3) := by decide +kernel
theorem dX5_stepOf_12 : decode cX5_stepOf 12 = .ok (.iload_n 1, 1) := by decide +kernel
theorem dX5_stepOf_13 : decode cX5_stepOf 13 = .ok (.iaload, 1) := by decide +kernel
theorem dX5_stepOf_14 : decode cX5_stepOf 14 = .ok (.goto 4, 3) := by decide +kernel
theorem dX5_stepOf_17 : decode cX5_stepOf 17 = .ok (.iconst 0, 1) := by decide +kernel
theorem dX5_stepOf_18 : decode cX5_stepOf 18 = .ok (.ireturn, 1) := by decide +kernel
set_option maxHeartbeats 4000000 in
set_option maxRecDepth 100000 in
theorem c_X5_stepOf {E : u_E} {l : Launch} {o : u_O} {p1 : Int} (ho : is_Line o) (i_p1 : InR p1) {s s' : u_S} {r : Int} (h : f_X5_stepOf o p1 s = some (r, s')) : Con l (XE E) yX5_stepOf cX5_stepOf 2 (some .int) 1 21 0 0 [.ref (E.1 o), .int (J p1)] (Wd E s) (RI E r s') := by
  refine Con.of [some (.ref (E.1 o)), some (.int (J p1))] (by decide +kernel) rfl rfl (Nat.le_of_ble_eq_true rfl) (fun K g => ?_)
  have g0 := g.wk
  unfold f_X5_stepOf at h
  refine r_aload_n g0 dX5_stepOf_0 rfl ?_
  refine r_iload_n g0 dX5_stepOf_1 rfl ?_
  obtain ⟨r_1, s_1, hr_1, h⟩ := bd_some h
  refine r_cVZ g0 (rest := []) (c_X5_has ho i_p1 hr_1) ok_X5_has mX5_26 (recv_Line ho) dX5_stepOf_2 ⟨Nat.le_of_ble_eq_true rfl, Nat.le_of_ble_eq_true rfl⟩ ⟨Nat.zero_le _, Nat.zero_le _⟩ rfl (Nat.le_of_ble_eq_true rfl) rfl (fun i_r_1 => ?_)
  refine r_if_eq g0 17 dX5_stepOf_5 (by decide) (B01.inR i_r_1) (fun hc => ?_) (fun hc => ?_)
  · replace h := if_t hc h
    refine r_iconst g0 dX5_stepOf_17 ?_
    exact z_I g dX5_stepOf_18 (B01.inR B01_0) h
  · replace h := if_f hc h
    refine r_aload_n g0 dX5_stepOf_8 rfl ?_
    refine g_Line_steps g0 ho qX5_9 dX5_stepOf_9 ?_
    refine r_iload_n g0 dX5_stepOf_12 rfl ?_
    obtain ⟨hb, h⟩ := gd_some h
    refine r_iaload g0 (is_a_Line_steps ho) (n := 10) rfl i_p1 hb dX5_stepOf_13 ?_
    refine r_goto g0 18 dX5_stepOf_14 (by decide) ?_
    exact z_I g dX5_stepOf_18 (InR_rd _ _ _) h
theorem dX5_ticksOf_0 : decode cX5_ticksOf 0 = .ok (.aload_n 0, 1) := by decide +kernel
theorem dX5_ticksOf_1 : decode cX5_ticksOf 1 = .ok (.iload_n 1, 1) := by decide +kernel
theorem dX5_ticksOf_2 : decode cX5_ticksOf 2 = .ok (.invokevirtual 26, 3) := by decide +kernel
theorem dX5_ticksOf_5 : decode cX5_ticksOf 5 = .ok (.ifCond .eq 12, 3) := by decide +kernel
theorem dX5_ticksOf_8 : decode cX5_ticksOf 8 = .ok (.aload_n 0, 1) := by decide +kernel
theorem dX5_ticksOf_9 : decode cX5_ticksOf 9 = .ok (.getfield 15, 3) := by decide +kernel
theorem dX5_ticksOf_12 : decode cX5_ticksOf 12 = .ok (.iload_n 1, 1) := by decide +kernel
theorem dX5_ticksOf_13 : decode cX5_ticksOf 13 = .ok (.iaload, 1) := by decide +kernel
theorem dX5_ticksOf_14 : decode cX5_ticksOf 14 = .ok (.goto 4, 3) := by decide +kernel
theorem dX5_ticksOf_17 : decode cX5_ticksOf 17 = .ok (.iconst 0, 1) := by decide +kernel
theorem dX5_ticksOf_18 : decode cX5_ticksOf 18 = .ok (.ireturn, 1) := by decide +kernel
set_option maxHeartbeats 4000000 in
set_option maxRecDepth 100000 in
theorem c_X5_ticksOf {E : u_E} {l : Launch} {o : u_O} {p1 : Int} (ho : is_Line o) (i_p1 : InR p1) {s s' : u_S} {r : Int} (h : f_X5_ticksOf o p1 s = some (r, s')) : Con l (XE E) yX5_ticksOf cX5_ticksOf 2 (some .int) 1 21 0 0 [.ref (E.1 o), .int (J p1)] (Wd E s) (RI E r s') := by
  refine Con.of [some (.ref (E.1 o)), some (.int (J p1))] (by decide +kernel) rfl rfl (Nat.le_of_ble_eq_true rfl) (fun K g => ?_)
  have g0 := g.wk
  unfold f_X5_ticksOf at h
  refine r_aload_n g0 dX5_ticksOf_0 rfl ?_
  refine r_iload_n g0 dX5_ticksOf_1 rfl ?_
  obtain ⟨r_1, s_1, hr_1, h⟩ := bd_some h
  refine r_cVZ g0 (rest := []) (c_X5_has ho i_p1 hr_1) ok_X5_has mX5_26 (recv_Line ho) dX5_ticksOf_2 ⟨Nat.le_of_ble_eq_true rfl, Nat.le_of_ble_eq_true rfl⟩ ⟨Nat.zero_le _, Nat.zero_le _⟩ rfl (Nat.le_of_ble_eq_true rfl) rfl (fun i_r_1 => ?_)
  refine r_if_eq g0 17 dX5_ticksOf_5 (by decide) (B01.inR i_r_1) (fun hc => ?_) (fun hc => ?_)
  · replace h := if_t hc h
    refine r_iconst g0 dX5_ticksOf_17 ?_
    exact z_I g dX5_ticksOf_18 (B01.inR B01_0) h
  · replace h := if_f hc h
    refine r_aload_n g0 dX5_ticksOf_8 rfl ?_
    refine g_Line_ticks g0 ho qX5_15 dX5_ticksOf_9 ?_
    refine r_iload_n g0 dX5_ticksOf_12 rfl ?_
    obtain ⟨hb, h⟩ := gd_some h
    refine r_iaload g0 (is_a_Line_ticks ho) (n := 10) rfl i_p1 hb dX5_ticksOf_13 ?_
    refine r_goto g0 18 dX5_ticksOf_14 (by decide) ?_
    exact z_I g dX5_ticksOf_18 (InR_rd _ _ _) h
theorem dX5_tickBefore_0 : decode cX5_tickBefore 0 = .ok (.iconst 0, 1) := by decide +kernel
theorem dX5_tickBefore_1 : decode cX5_tickBefore 1 = .ok (.istore_n 2, 1) := by decide +kernel
theorem dX5_tickBefore_2 : decode cX5_tickBefore 2 = .ok (.iconst 0, 1) := by decide +kernel
theorem dX5_tickBefore_3 : decode cX5_tickBefore 3 = .ok (.istore_n 3, 1) := by decide +kernel
theorem dX5_tickBefore_4 : decode cX5_tickBefore 4 = .ok (.iload_n 3, 1) := by decide +kernel
theorem dX5_tickBefore_5 : decode cX5_tickBefore 5 = .ok (.iload_n 1, 1) := by decide +kernel
theorem dX5_tickBefore_6 : decode cX5_tickBefore 6 = .ok (.if_icmp .ge 26, 3) := by decide +kernel
theorem dX5_tickBefore_9 : decode cX5_tickBefore 9 = .ok (.iload_n 3, 1) := by decide +kernel
theorem dX5_tickBefore_10 : decode cX5_tickBefore 10 = .ok (.aload_n 0, 1) := by decide +kernel
theorem dX5_tickBefore_11 : decode cX5_tickBefore 11 = .ok (.getfield 18, 3) := by decide +kernel
theorem dX5_tickBefore_14 : decode cX5_tickBefore 14 = .ok (.if_icmp .ge 18, 3) := by decide +kernel
theorem dX5_tickBefore_17 : decode cX5_tickBefore 17 = .ok (.iload_n 2, 1) := by decide +kernel
theorem dX5_tickBefore_18 : decode cX5_tickBefore 18 = .ok (.aload_n 0, 1) := by decide +kernel
theorem dX5_tickBefore_19 : decode cX5_tickBefore 19 = .ok (.getfield 15, 3) := by decide +kernel
theorem dX5_tickBefore_22 : decode cX5_tickBefore 22 = .ok (.iload_n 3, 1) := by decide +kernel
theorem dX5_tickBefore_23 : decode cX5_tickBefore 23 = .ok (.iaload, 1) := by decide +kernel
theorem dX5_tickBefore_24 : decode cX5_tickBefore 24 = .ok (.iadd, 1) := by decide +kernel
theorem dX5_tickBefore_25 : decode cX5_tickBefore 25 = .ok (.istore_n 2, 1) := by decide +kernel
theorem dX5_tickBefore_26 : decode cX5_tickBefore 26 = .ok (.iinc 3 1, 3) := by decide +kernel
theorem dX5_tickBefore_29 : decode cX5_tickBefore 29 = .ok (.goto (-25), 3) := by decide +kernel
theorem dX5_tickBefore_32 : decode cX5_tickBefore 32 = .ok (.iload_n 2, 1) := by decide +kernel
theorem dX5_tickBefore_33 : decode cX5_tickBefore 33 = .ok (.ireturn, 1) := by decide +kernel
set_option maxHeartbeats 4000000 in
set_option maxRecDepth 100000 in
theorem t_X5_tickBefore_L4 {l : Launch} {E : u_E} {K : u_K} {r : Int} {s' : u_S} (g : Wk l (XE E) { frames := 0, cells := 0, slots := 0, locals := 0 } cX5_tickBefore 4 yX5_tickBefore.cls yX5_tickBefore.name (some .int) (RI E r s') K) {v0_1 : u_O} {v1_1 : Int} (i_v0_1 : is_Line v0_1) (i_v1_1 : InR v1_1) {kx32 : Int → u_S → Option (Int × u_S)} (hkx32 : ∀ (v2_3 : Int) (s_3 : u_S), InR v2_3 → kx32 v2_3 s_3 = some (r, s') → K 0 0 32 [none, none, some (.int (J v2_3)), none] [] (Wd E s_3)) : ∀ (m : Nat) (v2_2 : Int) (v3_1 : Int) (s_2 : u_S), InR v2_2 → InR v3_1 → f_X5_tickBefore_L4 m kx32 v0_1 v1_1 v2_2 v3_1 s_2 = some (r, s') → K 0 0 4 [some (.ref (E.1 v0_1)), some (.int (J v1_1)), some (.int (J v2_2)), some (.int (J v3_1))] [] (Wd E s_2) := by
  have g0 := g.wk
  intro m
  induction m with
  | zero =>
    intro v2_2 v3_1 s_2 i_v2_2 i_v3_1 h
    exact absurd (show (none : Option (Int × u_S)) = some (r, s') from h) (by intro z; cases z)
  | succ m ih =>
    intro v2_2 v3_1 s_2 i_v2_2 i_v3_1 h
    rw [f_X5_tickBefore_L4] at h
    refine r_iload_n g0 dX5_tickBefore_4 rfl ?_
    refine r_iload_n g0 dX5_tickBefore_5 rfl ?_
    refine r_icmp_ge g0 32 dX5_tickBefore_6 (by decide) i_v3_1 i_v1_1 (fun hc => ?_) (fun hc => ?_)
    · replace h := if_f hc h
      refine r_mask g0 (lv' := [none, none, some (.int (J v2_2)), none]) [false, false, true, false] rfl ?_
      exact hkx32 v2_2 s_2 i_v2_2 h
    · replace h := if_t hc h
      refine r_iload_n g0 dX5_tickBefore_9 rfl ?_
      refine r_aload_n g0 dX5_tickBefore_10 rfl ?_
      refine g_Line_count g0 i_v0_1 qX5_18 dX5_tickBefore_11 ?_
      refine r_icmp_ge g0 32 dX5_tickBefore_14 (by decide) i_v3_1 (InR_rd _ _ _) (fun hc => ?_) (fun hc => ?_)
      · replace h := if_f hc h
        refine r_mask g0 (lv' := [none, none, some (.int (J v2_2)), none]) [false, false, true, false] rfl ?_
        exact hkx32 v2_2 s_2 i_v2_2 h
      · replace h := if_t hc h
        refine r_iload_n g0 dX5_tickBefore_17 rfl ?_
        refine r_aload_n g0 dX5_tickBefore_18 rfl ?_
        refine g_Line_ticks g0 i_v0_1 qX5_15 dX5_tickBefore_19 ?_
        refine r_iload_n g0 dX5_tickBefore_22 rfl ?_
        obtain ⟨hb, h⟩ := gd_some h
        refine r_iaload g0 (is_a_Line_ticks i_v0_1) (n := 10) rfl i_v3_1 hb dX5_tickBefore_23 ?_
        refine r_iadd g0 dX5_tickBefore_24 ?_
        refine r_istore_n g0 (lv' := [some (.ref (E.1 v0_1)), some (.int (J v1_1)), some (.int (J (wr (v2_2 + (rd s_2 (a_Line_ticks v0_1) v3_1))))), some (.int (J v3_1))]) dX5_tickBefore_25 (by decide) rfl rfl ?_
        refine r_iinc g0 (a := v3_1) (lv' := [some (.ref (E.1 v0_1)), some (.int (J v1_1)), some (.int (J (wr (v2_2 + (rd s_2 (a_Line_ticks v0_1) v3_1))))), some (.int (J (wr (v3_1 + 1))))]) dX5_tickBefore_26 (by decide) rfl rfl rfl ?_
        refine r_goto g0 4 dX5_tickBefore_29 (by decide) ?_
        exact ih (wr (v2_2 + (rd s_2 (a_Line_ticks v0_1) v3_1))) (wr (v3_1 + 1)) s_2 (InR_wr _) (InR_wr _) h
set_option maxHeartbeats 4000000 in
set_option maxRecDepth 100000 in
theorem c_X5_tickBefore {E : u_E} {l : Launch} {o : u_O} {p1 : Int} (ho : is_Line o) (i_p1 : InR p1) {s s' : u_S} {r : Int} (h : f_X5_tickBefore o p1 s = some (r, s')) : Con l (XE E) yX5_tickBefore cX5_tickBefore 4 (some .int) 0 0 0 0 [.ref (E.1 o), .int (J p1)] (Wd E s) (RI E r s') := by
  refine Con.of [some (.ref (E.1 o)), some (.int (J p1)), none, none] (by decide +kernel) rfl rfl (Nat.le_of_ble_eq_true rfl) (fun K g => ?_)
  have g0 := g.wk
  unfold f_X5_tickBefore at h
  refine r_iconst g0 dX5_tickBefore_0 ?_
  refine r_istore_n g0 (lv' := [some (.ref (E.1 o)), some (.int (J p1)), some (.int (J 0)), none]) dX5_tickBefore_1 (by decide) rfl rfl ?_
  refine r_iconst g0 dX5_tickBefore_2 ?_
  refine r_istore_n g0 (lv' := [some (.ref (E.1 o)), some (.int (J p1)), some (.int (J 0)), some (.int (J 0))]) dX5_tickBefore_3 (by decide) rfl rfl ?_
  refine t_X5_tickBefore_L4 g ho i_p1 ?_ FU 0 0 s (B01.inR B01_0) (B01.inR B01_0) h
  · intro v2_1 s_1 i_v2_1 h
    refine r_iload_n g0 dX5_tickBefore_32 rfl ?_
    exact z_I g dX5_tickBefore_33 i_v2_1 h
theorem dX5_length_0 : decode cX5_length 0 = .ok (.aload_n 0, 1) := by decide +kernel
theorem dX5_length_1 : decode cX5_length 1 = .ok (.aload_n 0, 1) := by decide +kernel
theorem dX5_length_2 : decode cX5_length 2 = .ok (.getfield 18, 3) := by decide +kernel
theorem dX5_length_5 : decode cX5_length 5 = .ok (.invokevirtual 30, 3) := by decide +kernel
theorem dX5_length_8 : decode cX5_length 8 = .ok (.ireturn, 1) := by decide +kernel
set_option maxHeartbeats 4000000 in
set_option maxRecDepth 100000 in
theorem c_X5_length {E : u_E} {l : Launch} {o : u_O} (ho : is_Line o) {s s' : u_S} {r : Int} (h : f_X5_length o s = some (r, s')) : Con l (XE E) yX5_length cX5_length 1 (some .int) 1 23 0 0 [.ref (E.1 o)] (Wd E s) (RI E r s') := by
  refine Con.of [some (.ref (E.1 o))] (by decide +kernel) rfl rfl (Nat.le_of_ble_eq_true rfl) (fun K g => ?_)
  have g0 := g.wk
  unfold f_X5_length at h
  refine r_aload_n g0 dX5_length_0 rfl ?_
  refine r_aload_n g0 dX5_length_1 rfl ?_
  refine g_Line_count g0 ho qX5_18 dX5_length_2 ?_
  obtain ⟨r_1, s_1, hr_1, h⟩ := bd_some h
  refine r_cVI g0 (rest := []) (c_X5_tickBefore ho (InR_rd _ _ _) hr_1) ok_X5_tickBefore mX5_30 (recv_Line ho) dX5_length_5 ⟨Nat.le_of_ble_eq_true rfl, Nat.le_of_ble_eq_true rfl⟩ ⟨Nat.zero_le _, Nat.zero_le _⟩ rfl (Nat.le_of_ble_eq_true rfl) rfl (fun i_r_1 => ?_)
  exact z_I g dX5_length_8 i_r_1 h
theorem dX5_leastStep_0 : decode cX5_leastStep 0 = .ok (.aload_n 0, 1) := by decide +kernel
theorem dX5_leastStep_1 : decode cX5_leastStep 1 = .ok (.invokevirtual 34, 3) := by decide +kernel
theorem dX5_leastStep_4 : decode cX5_leastStep 4 = .ok (.ifCond .eq 7, 3) := by decide +kernel
theorem dX5_leastStep_7 : decode cX5_leastStep 7 = .ok (.iconst (-1), 1) := by decide +kernel
theorem dX5_leastStep_8 : decode cX5_leastStep 8 = .ok (.goto 8, 3) := by decide +kernel
theorem dX5_leastStep_11 : decode cX5_leastStep 11 = .ok (.aload_n 0, 1) := by decide +kernel
theorem dX5_leastStep_12 : decode cX5_leastStep 12 = .ok (.iconst 0, 1) := by decide +kernel
theorem dX5_leastStep_13 : decode cX5_leastStep 13 = .ok (.invokevirtual 37, 3) := by decide +kernel
theorem dX5_leastStep_16 : decode cX5_leastStep 16 = .ok (.istore_n 1, 1) := by decide +kernel
theorem dX5_leastStep_17 : decode cX5_leastStep 17 = .ok (.iconst 1, 1) := by decide +kernel
theorem dX5_leastStep_18 : decode cX5_leastStep 18 = .ok (.istore_n 2, 1) := by decide +kernel
theorem dX5_leastStep_19 : decode cX5_leastStep 19 = .ok (.iload_n 2, 1) := by decide +kernel
theorem dX5_leastStep_20 : decode cX5_leastStep 20 = .ok (.aload_n 0, 1) := by decide +kernel
theorem dX5_leastStep_21 : decode cX5_leastStep 21 = .ok (.getfield 18, 3) := by decide +kernel
theorem dX5_leastStep_24 : decode cX5_leastStep 24 = .ok (.if_icmp .ge 20, 3) := by decide +kernel
theorem dX5_leastStep_27 : decode cX5_leastStep 27 = .ok (.iload_n 1, 1) := by decide +kernel
theorem dX5_leastStep_28 : decode cX5_leastStep 28 = .ok (.aload_n 0, 1) := by decide +kernel
theorem dX5_leastStep_29 : decode cX5_leastStep 29 = .ok (.getfield 9, 3) := by decide +kernel
theorem dX5_leastStep_32 : decode cX5_leastStep 32 = .ok (.iload_n 2, 1) := by decide +kernel
theorem dX5_leastStep_33 : decode cX5_leastStep 33 = .ok (.iaload, 1) := by decide +kernel
theorem dX5_leastStep_34 : decode cX5_leastStep 34 = .ok (.invokestatic 40, 3) := by decide +kernel
theorem dX5_leastStep_37 : decode cX5_leastStep 37 = .ok (.istore_n 1, 1) := by decide +kernel
theorem dX5_leastStep_38 : decode cX5_leastStep 38 = .ok (.iinc 2 1, 3) := by decide +kernel
theorem dX5_leastStep_41 : decode cX5_leastStep 41 = .ok (.goto (-22), 3) := by decide +kernel
theorem dX5_leastStep_44 : decode cX5_leastStep 44 = .ok (.iload_n 1, 1) := by decide +kernel
theorem dX5_leastStep_45 : decode cX5_leastStep 45 = .ok (.ireturn, 1) := by decide +kernel
set_option maxHeartbeats 4000000 in
set_option maxRecDepth 100000 in
theorem t_X5_leastStep_L19 {l : Launch} {E : u_E} {K : u_K} {r : Int} {s' : u_S} (g : Wk l (XE E) { frames := 2, cells := 0, slots := 0, locals := 42 } cX5_leastStep 3 yX5_leastStep.cls yX5_leastStep.name (some .int) (RI E r s') K) {v0_1 : u_O} (i_v0_1 : is_Line v0_1) {kx44 : Int → u_S → Option (Int × u_S)} (hkx44 : ∀ (v1_3 : Int) (s_6 : u_S), InR v1_3 → kx44 v1_3 s_6 = some (r, s') → K 0 0 44 [none, some (.int (J v1_3)), none] [] (Wd E s_6)) : ∀ (m : Nat) (v1_2 : Int) (v2_1 : Int) (s_4 : u_S), InR v1_2 → InR v2_1 → f_X5_leastStep_L19 m kx44 v0_1 v1_2 v2_1 s_4 = some (r, s') → K 0 0 19 [some (.ref (E.1 v0_1)), some (.int (J v1_2)), some (.int (J v2_1))] [] (Wd E s_4) := by
  have g0 := g.wk
  intro m
  induction m with
  | zero =>
    intro v1_2 v2_1 s_4 i_v1_2 i_v2_1 h
    exact absurd (show (none : Option (Int × u_S)) = some (r, s') from h) (by intro z; cases z)
  | succ m ih =>
    intro v1_2 v2_1 s_4 i_v1_2 i_v2_1 h
    rw [f_X5_leastStep_L19] at h
    refine r_iload_n g0 dX5_leastStep_19 rfl ?_
    refine r_aload_n g0 dX5_leastStep_20 rfl ?_
    refine g_Line_count g0 i_v0_1 qX5_18 dX5_leastStep_21 ?_
    refine r_icmp_ge g0 44 dX5_leastStep_24 (by decide) i_v2_1 (InR_rd _ _ _) (fun hc => ?_) (fun hc => ?_)
    · replace h := if_f hc h
      refine r_mask g0 (lv' := [none, some (.int (J v1_2)), none]) [false, true, false] rfl ?_
      exact hkx44 v1_2 s_4 i_v1_2 h
    · replace h := if_t hc h
      refine r_iload_n g0 dX5_leastStep_27 rfl ?_
      refine r_aload_n g0 dX5_leastStep_28 rfl ?_
      refine g_Line_steps g0 i_v0_1 qX5_9 dX5_leastStep_29 ?_
      refine r_iload_n g0 dX5_leastStep_32 rfl ?_
      obtain ⟨hb, h⟩ := gd_some h
      refine r_iaload g0 (is_a_Line_steps i_v0_1) (n := 10) rfl i_v2_1 hb dX5_leastStep_33 ?_
      obtain ⟨r_2, s_5, hr_2, h⟩ := bd_some h
      refine r_cSI g0 (rest := []) (c_J9_min_7cf53 i_v1_2 (InR_rd _ _ _) hr_2) ok_J9_min_7cf53 mX5_40 dX5_leastStep_34 ⟨Nat.le_of_ble_eq_true rfl, Nat.le_of_ble_eq_true rfl⟩ ⟨Nat.zero_le _, Nat.zero_le _⟩ rfl (Nat.le_of_ble_eq_true rfl) rfl (fun i_r_2 => ?_)
      refine r_istore_n g0 (lv' := [some (.ref (E.1 v0_1)), some (.int (J r_2)), some (.int (J v2_1))]) dX5_leastStep_37 (by decide) rfl rfl ?_
      refine r_iinc g0 (a := v2_1) (lv' := [some (.ref (E.1 v0_1)), some (.int (J r_2)), some (.int (J (wr (v2_1 + 1))))]) dX5_leastStep_38 (by decide) rfl rfl rfl ?_
      refine r_goto g0 19 dX5_leastStep_41 (by decide) ?_
      exact ih r_2 (wr (v2_1 + 1)) s_5 i_r_2 (InR_wr _) h
set_option maxHeartbeats 4000000 in
set_option maxRecDepth 100000 in
theorem c_X5_leastStep {E : u_E} {l : Launch} {o : u_O} (ho : is_Line o) {s s' : u_S} {r : Int} (h : f_X5_leastStep o s = some (r, s')) : Con l (XE E) yX5_leastStep cX5_leastStep 3 (some .int) 2 42 0 0 [.ref (E.1 o)] (Wd E s) (RI E r s') := by
  refine Con.of [some (.ref (E.1 o)), none, none] (by decide +kernel) rfl rfl (Nat.le_of_ble_eq_true rfl) (fun K g => ?_)
  have g0 := g.wk
  unfold f_X5_leastStep at h
  refine r_aload_n g0 dX5_leastStep_0 rfl ?_
  obtain ⟨r_1, s_1, hr_1, h⟩ := bd_some h
  refine r_cVZ g0 (rest := []) (c_X5_isEmpty ho hr_1) ok_X5_isEmpty mX5_34 (recv_Line ho) dX5_leastStep_1 ⟨Nat.le_of_ble_eq_true rfl, Nat.le_of_ble_eq_true rfl⟩ ⟨Nat.zero_le _, Nat.zero_le _⟩ rfl (Nat.le_of_ble_eq_true rfl) rfl (fun i_r_1 => ?_)
  obtain ⟨jp_1, hdjp_1, h⟩ := jn_some h
  have hjp_1 : ∀ (vt_1 : Int) (s_2 : u_S), InR vt_1 → jp_1 vt_1 s_2 = some (r, s') → K 0 0 16 [some (.ref (E.1 o)), none, none] [.int (J vt_1)] (Wd E s_2) := by
    intro vt_1 s_2 i_vt_1 h
    subst hdjp_1
    refine r_istore_n g0 (lv' := [some (.ref (E.1 o)), some (.int (J vt_1)), none]) dX5_leastStep_16 (by decide) rfl rfl ?_
    refine r_iconst g0 dX5_leastStep_17 ?_
    refine r_istore_n g0 (lv' := [some (.ref (E.1 o)), some (.int (J vt_1)), some (.int (J 1))]) dX5_leastStep_18 (by decide) rfl rfl ?_
    refine t_X5_leastStep_L19 g ho ?_ FU vt_1 1 s_2 i_vt_1 (B01.inR B01_1) h
    · intro v1_1 s_3 i_v1_1 h
      refine r_iload_n g0 dX5_leastStep_44 rfl ?_
      exact z_I g dX5_leastStep_45 i_v1_1 h
  clear hdjp_1
  refine r_if_eq g0 11 dX5_leastStep_4 (by decide) (B01.inR i_r_1) (fun hc => ?_) (fun hc => ?_)
  · replace h := if_t hc h
    refine r_aload_n g0 dX5_leastStep_11 rfl ?_
    refine r_iconst g0 dX5_leastStep_12 ?_
    obtain ⟨r_3, s_7, hr_3, h⟩ := bd_some h
    refine r_cVI g0 (rest := []) (c_X5_stepOf ho (B01.inR B01_0) hr_3) ok_X5_stepOf mX5_37 (recv_Line ho) dX5_leastStep_13 ⟨Nat.le_of_ble_eq_true rfl, Nat.le_of_ble_eq_true rfl⟩ ⟨Nat.zero_le _, Nat.zero_le _⟩ rfl (Nat.le_of_ble_eq_true rfl) rfl (fun i_r_3 => ?_)
    exact hjp_1 r_3 s_7 i_r_3 h
  · replace h := if_f hc h
    refine r_iconst g0 dX5_leastStep_7 ?_
    refine r_goto g0 16 dX5_leastStep_8 (by decide) ?_
    exact hjp_1 (-1) s_1 (InR_lit rfl) h
theorem dX5_greatestStep_0 : decode cX5_greatestStep 0 = .ok (.aload_n 0, 1) := by decide +kernel
theorem dX5_greatestStep_1 : decode cX5_greatestStep 1 = .ok (.invokevirtual 34, 3) := by decide +kernel
theorem dX5_greatestStep_4 : decode cX5_greatestStep 4 = .ok (.ifCond .eq 7, 3) := by decide +kernel
theorem dX5_greatestStep_7 : decode cX5_greatestStep 7 = .ok (.iconst (-1), 1) := by decide +kernel
theorem dX5_greatestStep_8 : decode cX5_greatestStep 8 = .ok (.goto 8, 3) := by decide +kernel
theorem dX5_greatestStep_11 : decode cX5_greatestStep 11 = .ok (.aload_n 0, 1) := by decide +kernel
theorem dX5_greatestStep_12 : decode cX5_greatestStep 12 = .ok (.iconst 0, 1) := by decide +kernel
theorem dX5_greatestStep_13 : decode cX5_greatestStep 13 = .ok (.invokevirtual 37, 3) := by decide +kernel
theorem dX5_greatestStep_16 : decode cX5_greatestStep 16 = .ok (.istore_n 1, 1) := by decide +kernel
theorem dX5_greatestStep_17 : decode cX5_greatestStep 17 = .ok (.iconst 1, 1) := by decide +kernel
theorem dX5_greatestStep_18 : decode cX5_greatestStep 18 = .ok (.istore_n 2, 1) := by decide +kernel
theorem dX5_greatestStep_19 : decode cX5_greatestStep 19 = .ok (.iload_n 2, 1) := by decide +kernel
theorem dX5_greatestStep_20 : decode cX5_greatestStep 20 = .ok (.aload_n 0, 1) := by decide +kernel
theorem dX5_greatestStep_21 : decode cX5_greatestStep 21 = .ok (.getfield 18, 3) := by decide +kernel
theorem dX5_greatestStep_24 : decode cX5_greatestStep 24 = .ok (.if_icmp .ge 20, 3) := by decide +kernel
theorem dX5_greatestStep_27 : decode cX5_greatestStep 27 = .ok (.iload_n 1, 1) := by decide +kernel
theorem dX5_greatestStep_28 : decode cX5_greatestStep 28 = .ok (.aload_n 0, 1) := by decide +kernel
theorem dX5_greatestStep_29 : decode cX5_greatestStep 29 = .ok (.getfield 9, 3) := by decide +kernel
theorem dX5_greatestStep_32 : decode cX5_greatestStep 32 = .ok (.iload_n 2, 1) := by decide +kernel
theorem dX5_greatestStep_33 : decode cX5_greatestStep 33 = .ok (.iaload, 1) := by decide +kernel
theorem dX5_greatestStep_34 : decode cX5_greatestStep 34 = .ok (.invokestatic 46, 3) := by decide +kernel
theorem dX5_greatestStep_37 : decode cX5_greatestStep 37 = .ok (.istore_n 1, 1) := by decide +kernel
theorem dX5_greatestStep_38 : decode cX5_greatestStep 38 = .ok (.iinc 2 1, 3) := by decide +kernel
theorem dX5_greatestStep_41 : decode cX5_greatestStep 41 = .ok (.goto (-22), 3) := by decide +kernel
theorem dX5_greatestStep_44 : decode cX5_greatestStep 44 = .ok (.iload_n 1, 1) := by decide +kernel
theorem dX5_greatestStep_45 : decode cX5_greatestStep 45 = .ok (.ireturn, 1) := by decide +kernel
set_option maxHeartbeats 4000000 in
set_option maxRecDepth 100000 in
theorem t_X5_greatestStep_L19 {l : Launch} {E : u_E} {K : u_K} {r : Int} {s' : u_S} (g : Wk l (XE E) { frames := 2, cells := 0, slots := 0, locals := 42 } cX5_greatestStep 3 yX5_greatestStep.cls yX5_greatestStep.name (some .int) (RI E r s') K) {v0_1 : u_O} (i_v0_1 : is_Line v0_1) {kx44 : Int → u_S → Option (Int × u_S)} (hkx44 : ∀ (v1_3 : Int) (s_6 : u_S), InR v1_3 → kx44 v1_3 s_6 = some (r, s') → K 0 0 44 [none, some (.int (J v1_3)), none] [] (Wd E s_6)) : ∀ (m : Nat) (v1_2 : Int) (v2_1 : Int) (s_4 : u_S), InR v1_2 → InR v2_1 → f_X5_greatestStep_L19 m kx44 v0_1 v1_2 v2_1 s_4 = some (r, s') → K 0 0 19 [some (.ref (E.1 v0_1)), some (.int (J v1_2)), some (.int (J v2_1))] [] (Wd E s_4) := by
  have g0 := g.wk
  intro m
  induction m with
  | zero =>
    intro v1_2 v2_1 s_4 i_v1_2 i_v2_1 h
    exact absurd (show (none : Option (Int × u_S)) = some (r, s') from h) (by intro z; cases z)
  | succ m ih =>
    intro v1_2 v2_1 s_4 i_v1_2 i_v2_1 h
    rw [f_X5_greatestStep_L19] at h
    refine r_iload_n g0 dX5_greatestStep_19 rfl ?_
    refine r_aload_n g0 dX5_greatestStep_20 rfl ?_
    refine g_Line_count g0 i_v0_1 qX5_18 dX5_greatestStep_21 ?_
    refine r_icmp_ge g0 44 dX5_greatestStep_24 (by decide) i_v2_1 (InR_rd _ _ _) (fun hc => ?_) (fun hc => ?_)
    · replace h := if_f hc h
      refine r_mask g0 (lv' := [none, some (.int (J v1_2)), none]) [false, true, false] rfl ?_
      exact hkx44 v1_2 s_4 i_v1_2 h
    · replace h := if_t hc h
      refine r_iload_n g0 dX5_greatestStep_27 rfl ?_
      refine r_aload_n g0 dX5_greatestStep_28 rfl ?_
      refine g_Line_steps g0 i_v0_1 qX5_9 dX5_greatestStep_29 ?_
      refine r_iload_n g0 dX5_greatestStep_32 rfl ?_
      obtain ⟨hb, h⟩ := gd_some h
      refine r_iaload g0 (is_a_Line_steps i_v0_1) (n := 10) rfl i_v2_1 hb dX5_greatestStep_33 ?_
      obtain ⟨r_2, s_5, hr_2, h⟩ := bd_some h
      refine r_cSI g0 (rest := []) (c_J9_max_7cf53 i_v1_2 (InR_rd _ _ _) hr_2) ok_J9_max_7cf53 mX5_46 dX5_greatestStep_34 ⟨Nat.le_of_ble_eq_true rfl, Nat.le_of_ble_eq_true rfl⟩ ⟨Nat.zero_le _, Nat.zero_le _⟩ rfl (Nat.le_of_ble_eq_true rfl) rfl (fun i_r_2 => ?_)
      refine r_istore_n g0 (lv' := [some (.ref (E.1 v0_1)), some (.int (J r_2)), some (.int (J v2_1))]) dX5_greatestStep_37 (by decide) rfl rfl ?_
      refine r_iinc g0 (a := v2_1) (lv' := [some (.ref (E.1 v0_1)), some (.int (J r_2)), some (.int (J (wr (v2_1 + 1))))]) dX5_greatestStep_38 (by decide) rfl rfl rfl ?_
      refine r_goto g0 19 dX5_greatestStep_41 (by decide) ?_
      exact ih r_2 (wr (v2_1 + 1)) s_5 i_r_2 (InR_wr _) h
set_option maxHeartbeats 4000000 in
set_option maxRecDepth 100000 in
theorem c_X5_greatestStep {E : u_E} {l : Launch} {o : u_O} (ho : is_Line o) {s s' : u_S} {r : Int} (h : f_X5_greatestStep o s = some (r, s')) : Con l (XE E) yX5_greatestStep cX5_greatestStep 3 (some .int) 2 42 0 0 [.ref (E.1 o)] (Wd E s) (RI E r s') := by
  refine Con.of [some (.ref (E.1 o)), none, none] (by decide +kernel) rfl rfl (Nat.le_of_ble_eq_true rfl) (fun K g => ?_)
  have g0 := g.wk
  unfold f_X5_greatestStep at h
  refine r_aload_n g0 dX5_greatestStep_0 rfl ?_
  obtain ⟨r_1, s_1, hr_1, h⟩ := bd_some h
  refine r_cVZ g0 (rest := []) (c_X5_isEmpty ho hr_1) ok_X5_isEmpty mX5_34 (recv_Line ho) dX5_greatestStep_1 ⟨Nat.le_of_ble_eq_true rfl, Nat.le_of_ble_eq_true rfl⟩ ⟨Nat.zero_le _, Nat.zero_le _⟩ rfl (Nat.le_of_ble_eq_true rfl) rfl (fun i_r_1 => ?_)
  obtain ⟨jp_1, hdjp_1, h⟩ := jn_some h
  have hjp_1 : ∀ (vt_1 : Int) (s_2 : u_S), InR vt_1 → jp_1 vt_1 s_2 = some (r, s') → K 0 0 16 [some (.ref (E.1 o)), none, none] [.int (J vt_1)] (Wd E s_2) := by
    intro vt_1 s_2 i_vt_1 h
    subst hdjp_1
    refine r_istore_n g0 (lv' := [some (.ref (E.1 o)), some (.int (J vt_1)), none]) dX5_greatestStep_16 (by decide) rfl rfl ?_
    refine r_iconst g0 dX5_greatestStep_17 ?_
    refine r_istore_n g0 (lv' := [some (.ref (E.1 o)), some (.int (J vt_1)), some (.int (J 1))]) dX5_greatestStep_18 (by decide) rfl rfl ?_
    refine t_X5_greatestStep_L19 g ho ?_ FU vt_1 1 s_2 i_vt_1 (B01.inR B01_1) h
    · intro v1_1 s_3 i_v1_1 h
      refine r_iload_n g0 dX5_greatestStep_44 rfl ?_
      exact z_I g dX5_greatestStep_45 i_v1_1 h
  clear hdjp_1
  refine r_if_eq g0 11 dX5_greatestStep_4 (by decide) (B01.inR i_r_1) (fun hc => ?_) (fun hc => ?_)
  · replace h := if_t hc h
    refine r_aload_n g0 dX5_greatestStep_11 rfl ?_
    refine r_iconst g0 dX5_greatestStep_12 ?_
    obtain ⟨r_3, s_7, hr_3, h⟩ := bd_some h
    refine r_cVI g0 (rest := []) (c_X5_stepOf ho (B01.inR B01_0) hr_3) ok_X5_stepOf mX5_37 (recv_Line ho) dX5_greatestStep_13 ⟨Nat.le_of_ble_eq_true rfl, Nat.le_of_ble_eq_true rfl⟩ ⟨Nat.zero_le _, Nat.zero_le _⟩ rfl (Nat.le_of_ble_eq_true rfl) rfl (fun i_r_3 => ?_)
    exact hjp_1 r_3 s_7 i_r_3 h
  · replace h := if_f hc h
    refine r_iconst g0 dX5_greatestStep_7 ?_
    refine r_goto g0 16 dX5_greatestStep_8 (by decide) ?_
    exact hjp_1 (-1) s_1 (InR_lit rfl) h
end
