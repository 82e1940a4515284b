/-! LINES: what of the row A (in the model's order) a line object holds; a line's functions -/
def cntA (A : Int → Int) (l : Int) : Int := A (21 * l)
def stpA (A : Int → Int) (l i : Int) : Int := A (21 * l + 1 + 2 * i)
def tckA (A : Int → Int) (l i : Int) : Int := A (21 * l + 2 + 2 * i)
def lenA (A : Int → Int) (l : Int) : Int := sm (tckA A l) (cntA A l).toNat
def answA (A : Int → Int) (l i : Int) : Int := stpA A l i + (if i < A 135 ∧ (stpA A l i - A 136) % 7 = 4 then 3 else 4)
def fstA (A : Int → Int) (l f i : Int) : Int := if f = 3 then stpA A l (cntA A l - 1 - i) else if f = 2 then 2 * stpA A l 0 - stpA A l i else if f = 1 then answA A l i else stpA A l i
def ftkA (A : Int → Int) (l f i : Int) : Int := if f = 3 then tckA A l (cntA A l - 1 - i) else if f = 4 then 2 * tckA A l i else tckA A l i
def lastA (A : Int → Int) (l f : Int) : Int := if f = 4 then 2 * lenA A l else lenA A l
/-- a line is as told -/
def WL (A : Int → Int) (l : Int) : Prop := (0 ≤ cntA A l ∧ cntA A l ≤ 10) ∧ ∀ i, 0 ≤ i → i < cntA A l → (0 ≤ stpA A l i ∧ stpA A l i ≤ 27) ∧ 1 ≤ tckA A l i ∧ tckA A l i ≤ 4
/-- a line object holds line l of A -/
def LR (s : u_S) (o : u_O) (A : Int → Int) (l : Int) : Prop := rd s o 2 = cntA A l ∧ ∀ i, 0 ≤ i → i < cntA A l → rd s (a_Line_steps o) i = stpA A l i ∧ rd s (a_Line_ticks o) i = tckA A l i
theorem WL.lenb {A : Int → Int} {l : Int} (h : WL A l) : 0 ≤ lenA A l ∧ lenA A l ≤ 40 := by
  have h1 := sm_ge (f := tckA A l) (b := 0) (n := (cntA A l).toNat) (fun i h1 h2 => by have := h.2 i h1 (by omega); omega)
  have h2 := sm_le (f := tckA A l) (b := 4) (n := (cntA A l).toNat) (fun i h1 h2 => by have := h.2 i h1 (by omega); omega)
  have h3 := h.1
  unfold lenA
  omega
section LINE
variable {s : u_S} {o : u_O} {A : Int → Int} {l : Int}
theorem e_has (hr : LR s o A l) (hw : WL A l) (i : Int) : f_X5_has o i s = some ((if 0 ≤ i ∧ i < cntA A l then 1 else 0), s) := by
  unfold f_X5_has
  rw [hr.1]
  have h := hw.1
  by_cases h1 : i < 0
  · rw [if_pos h1, if_neg (by omega)]
  · rw [if_neg h1]
    by_cases h2 : i < cntA A l
    · rw [if_pos h2, if_pos h.2, if_pos (by omega)]
    · rw [if_neg h2, if_neg (by omega)]
theorem e_has1 (hr : LR s o A l) (hw : WL A l) {i : Int} (h0 : 0 ≤ i) (h1 : i < cntA A l) : f_X5_has o i s = some (1, s) := by rw [e_has hr hw, if_pos ⟨h0, h1⟩]
theorem e_isEmpty (hr : LR s o A l) : f_X5_isEmpty o s = some ((if cntA A l ≤ 0 then 1 else 0), s) := by
  unfold f_X5_isEmpty
  rw [hr.1, if_some]
theorem e_isFull (hr : LR s o A l) : f_X5_isFull o s = some ((if cntA A l < 10 then 0 else 1), s) := by
  unfold f_X5_isFull
  rw [hr.1, if_some]
theorem e_stepOf (hr : LR s o A l) (hw : WL A l) {i : Int} (h0 : 0 ≤ i) (h1 : i < cntA A l) : f_X5_stepOf o i s = some (stpA A l i, s) := by
  unfold f_X5_stepOf
  have h := hw.1
  rw [e_has1 hr hw h0 h1, bd_eq, if10, gd_of h0 (by omega), (hr.2 i h0 h1).1]
theorem e_ticksOf (hr : LR s o A l) (hw : WL A l) {i : Int} (h0 : 0 ≤ i) (h1 : i < cntA A l) : f_X5_ticksOf o i s = some (tckA A l i, s) := by
  unfold f_X5_ticksOf
  have h := hw.1
  rw [e_has1 hr hw h0 h1, bd_eq, if10, gd_of h0 (by omega), (hr.2 i h0 h1).2]
theorem sm_tck (hw : WL A l) {n : Nat} (hn : (n : Int) ≤ cntA A l) : 0 ≤ sm (tckA A l) n ∧ sm (tckA A l) n ≤ 40 := by
  have h1 := sm_ge (f := tckA A l) (b := 0) (n := n) (fun i h1 h2 => by have := hw.2 i h1 (by omega); omega)
  have h2 := sm_le (f := tckA A l) (b := 4) (n := n) (fun i h1 h2 => by have := hw.2 i h1 (by omega); omega)
  have h3 := hw.1
  omega
theorem e_tickBefore (hr : LR s o A l) (hw : WL A l) {p : Int} (hp : 0 ≤ p) : f_X5_tickBefore o p s = some (sm (tckA A l) (min p (cntA A l)).toNat, s) := by
  unfold f_X5_tickBefore
  have hc := hw.1
  refine loop_fu (fun m (b : Int × Int) => f_X5_tickBefore_L4 m _ o p b.1 b.2 s) (fun j => (sm (tckA A l) j, (j : Int))) _ (min p (cntA A l)).toNat (by omega) ?_ ?_
  · intro j m hj
    show f_X5_tickBefore_L4 (m + 1) _ o p (sm (tckA A l) j) (j : Int) s = f_X5_tickBefore_L4 m _ o p (sm (tckA A l) j + tckA A l j) ((j + 1 : Nat) : Int) s
    rw [f_X5_tickBefore_L4, if_pos (by omega), hr.1, if_pos (by omega), gd_of (by omega) (by omega), (hr.2 j (by omega) (by omega)).2]
    have h1 := sm_tck hw (n := j) (by omega)
    have h2 := hw.2 j (by omega) (by omega)
    rw [wr_of (by omega) (by omega), wr_of (by omega) (by omega)]
    rfl
  · intro m
    show f_X5_tickBefore_L4 (m + 1) _ o p _ _ s = _
    rw [f_X5_tickBefore_L4, hr.1]
    by_cases h1 : ((min p (cntA A l)).toNat : Int) < p
    · rw [if_pos h1, if_neg (by omega)]
    · rw [if_neg h1]
theorem e_length (hr : LR s o A l) (hw : WL A l) : f_X5_length o s = some (lenA A l, s) := by
  unfold f_X5_length
  have hc := hw.1
  rw [hr.1, e_tickBefore hr hw hc.1, bd_eq]
  rw [show min (cntA A l) (cntA A l) = cntA A l by omega]
  rfl
/-- least and greatest -/
def minA (A : Int → Int) (l : Int) : Nat → Int
  | 0 => stpA A l 0
  | n + 1 => min (minA A l n) (stpA A l (n + 1 : Nat))
def maxA (A : Int → Int) (l : Int) : Nat → Int
  | 0 => stpA A l 0
  | n + 1 => max (maxA A l n) (stpA A l (n + 1 : Nat))
theorem e_leastStep (hr : LR s o A l) (hw : WL A l) : f_X5_leastStep o s = some ((if cntA A l ≤ 0 then -1 else minA A l (cntA A l - 1).toNat), s) := by
  unfold f_X5_leastStep
  have hc := hw.1
  rw [e_isEmpty hr, bd_eq, jn_eq]
  by_cases h0 : cntA A l ≤ 0
  · rw [if_pos h0, if_neg (by omega), if_pos h0]
    show f_X5_leastStep_L19 (99999 + 1) _ o (-1) 1 s = _
    rw [f_X5_leastStep_L19, hr.1, if_neg (by omega)]
  · rw [if_neg h0, if_pos rfl, if_neg h0, e_stepOf hr hw (by omega) (by omega), bd_eq]
    refine loop_fu (fun m (b : Int × Int) => f_X5_leastStep_L19 m _ o b.1 b.2 s) (fun j => (minA A l j, (j : Int) + 1)) _ (cntA A l - 1).toNat (by omega) ?_ ?_
    · intro j m hj
      show f_X5_leastStep_L19 (m + 1) _ o (minA A l j) ((j : Int) + 1) s = f_X5_leastStep_L19 m _ o (min (minA A l j) (stpA A l (j + 1 : Nat))) (((j + 1 : Nat) : Int) + 1) s
      rw [f_X5_leastStep_L19, hr.1, if_pos (by omega), e_stepOf (i := (j : Int) + 1) hr hw (by omega) (by omega), bd_eq, e_min, bd_eq, wr_of (by omega) (by omega)]
      rfl
    · intro m
      show f_X5_leastStep_L19 (m + 1) _ o _ ((((cntA A l - 1).toNat : Nat) : Int) + 1) s = _
      rw [f_X5_leastStep_L19, hr.1, if_neg (by omega)]
theorem e_greatestStep (hr : LR s o A l) (hw : WL A l) : f_X5_greatestStep o s = some ((if cntA A l ≤ 0 then -1 else maxA A l (cntA A l - 1).toNat), s) := by
  unfold f_X5_greatestStep
  have hc := hw.1
  rw [e_isEmpty hr, bd_eq, jn_eq]
  by_cases h0 : cntA A l ≤ 0
  · rw [if_pos h0, if_neg (by omega), if_pos h0]
    show f_X5_greatestStep_L19 (99999 + 1) _ o (-1) 1 s = _
    rw [f_X5_greatestStep_L19, hr.1, if_neg (by omega)]
  · rw [if_neg h0, if_pos rfl, if_neg h0, e_stepOf hr hw (by omega) (by omega), bd_eq]
    refine loop_fu (fun m (b : Int × Int) => f_X5_greatestStep_L19 m _ o b.1 b.2 s) (fun j => (maxA A l j, (j : Int) + 1)) _ (cntA A l - 1).toNat (by omega) ?_ ?_
    · intro j m hj
      show f_X5_greatestStep_L19 (m + 1) _ o (maxA A l j) ((j : Int) + 1) s = f_X5_greatestStep_L19 m _ o (max (maxA A l j) (stpA A l (j + 1 : Nat))) (((j + 1 : Nat) : Int) + 1) s
      rw [f_X5_greatestStep_L19, hr.1, if_pos (by omega), e_stepOf (i := (j : Int) + 1) hr hw (by omega) (by omega), bd_eq, e_max, bd_eq, wr_of (by omega) (by omega)]
      rfl
    · intro m
      show f_X5_greatestStep_L19 (m + 1) _ o _ ((((cntA A l - 1).toNat : Nat) : Int) + 1) s = _
      rw [f_X5_greatestStep_L19, hr.1, if_neg (by omega)]
theorem e_formedStep (hr : LR s o A l) (hw : WL A l) {f i : Int} (h0 : 0 ≤ i) (h1 : i < cntA A l) (ht : 0 ≤ A 136 ∧ A 136 ≤ 6) : f_X5_formedStep o f i (A 135) (A 136) s = some (fstA A l f i, s) := by
  unfold f_X5_formedStep fstA
  have hc := hw.1
  have hi := hw.2 i h0 h1
  rw [e_has1 hr hw h0 h1, bd_eq, if10, hr.1]
  have hk := hr.2 i h0 h1
  by_cases f3 : f = 3
  · rw [if_pos f3, if_pos f3, wr_of (x := cntA A l - 1) (by omega) (by omega), wr_of (by omega) (by omega), gd_of (by omega) (by omega), (hr.2 (cntA A l - 1 - i) (by omega) (by omega)).1]
  rw [if_neg f3, if_neg f3]
  by_cases f2 : f = 2
  · have h00 := hw.2 0 (by omega) (by omega)
    rw [if_pos f2, if_pos f2, gd_of (by omega) (by omega), gd_of (by omega) (by omega), (hr.2 0 (by omega) (by omega)).1, hk.1, wr_of (x := 2 * stpA A l 0) (by omega) (by omega), wr_of (by omega) (by omega)]
  rw [if_neg f2, if_neg f2]
  by_cases f1 : f = 1
  · rw [if_pos f1, if_pos f1]
    unfold answA
    simp only [jn_eq]
    by_cases hh : i < A 135
    · rw [if_pos hh, gd_of (by omega) (by omega), hk.1, wr_of (x := stpA A l i - A 136) (by omega) (by omega), e_floorMod (InR_iff.mpr ⟨by omega, by omega⟩) (by omega) (InR_lit rfl), bd_eq]
      by_cases h4 : (stpA A l i - A 136) % 7 = 4
      · rw [if_pos h4, if_neg (by omega), if_pos ⟨hh, h4⟩, gd_of (by omega) (by omega), hk.1, wr_of (by omega) (by omega)]
      · rw [if_neg h4, if_pos trivial, if_neg (fun z => h4 z.2), gd_of (by omega) (by omega), hk.1, wr_of (by omega) (by omega)]
    · rw [if_neg hh, if_pos trivial, if_neg (fun z => hh z.1), gd_of (by omega) (by omega), hk.1, wr_of (by omega) (by omega)]
  · rw [if_neg f1, if_neg f1, gd_of (by omega) (by omega), hk.1]
theorem e_formedTicks (hr : LR s o A l) (hw : WL A l) {f i : Int} (h0 : 0 ≤ i) (h1 : i < cntA A l) : f_X5_formedTicks o f i s = some (ftkA A l f i, s) := by
  unfold f_X5_formedTicks ftkA
  have hc := hw.1
  have hi := hw.2 i h0 h1
  rw [e_has1 hr hw h0 h1, bd_eq, if10, hr.1]
  have hk := hr.2 i h0 h1
  by_cases f3 : f = 3
  · rw [if_pos f3, if_pos f3, wr_of (x := cntA A l - 1) (by omega) (by omega), wr_of (by omega) (by omega), gd_of (by omega) (by omega), (hr.2 (cntA A l - 1 - i) (by omega) (by omega)).2]
  rw [if_neg f3, if_neg f3]
  by_cases f4 : f = 4
  · rw [if_pos f4, if_pos f4, gd_of (by omega) (by omega), hk.2, wr_of (by omega) (by omega)]
  · rw [if_neg f4, if_neg f4, gd_of (by omega) (by omega), hk.2]
end LINE
