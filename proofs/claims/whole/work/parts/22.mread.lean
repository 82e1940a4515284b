/-! THE MODEL's reads: its row is A -/
def MR (s : u_S) (A : Int → Int) : Prop := ∀ i : Int, 0 ≤ i → i < 145 → rd s (24, 0, 0) i = A i
def entA (A : Int → Int) (e k : Int) : Int := A (85 + 5 * e + k)
/-- how many of the first n entries have line l -/
def nenA (A : Int → Int) (l : Int) (n : Nat) : Int := sm (fun e => if entA A e 0 = l then 1 else 0) n
/-- what sounds at a tick: the first note whose end lies behind it -/
def sndR (st tk : Int → Int) (t : Int) : Nat → Int → Int → Int
  | 0, _, _ => -1000
  | n + 1, k, sum => if t < sum + tk k then st k else sndR st tk t n (k + 1) (sum + tk k)
def SND (A : Int → Int) (l f t : Int) : Int := sndR (fstA A l f) (ftkA A l f) t (cntA A l).toNat 0 0
section MREAD
variable {s : u_S} {o : u_O} {A : Int → Int} {l : Int}
theorem m_rd (hm : MR s A) (o : u_O) {i : Int} (h0 : 0 ≤ i) (h1 : i < 145) : rd s (a_Mo_all o) i = A i := hm i h0 h1
theorem e_left {a b : Int} (ha : InR a) (hb : 0 < b) (hbr : b < 2147483648) (s : u_S) : f_X11_left a b s = some (a % b, s) := by
  unfold f_X11_left
  rw [nz_of (by omega)]
  have b1 := InR_iff.mp ha
  by_cases h0 : 0 ≤ a
  · have e : Int.tmod a b = a % b := Int.tmod_eq_emod_of_nonneg h0
    have := Int.emod_nonneg a (show b ≠ 0 by omega)
    rw [e, if_neg (by omega)]
  · have e : Int.tmod a b = -((-a) % b) := by
      rw [show a = -(-a) by omega, Int.neg_tmod, Int.tmod_eq_emod_of_nonneg (by omega)]
      simp
    have q1 := Int.emod_nonneg (-a) (show b ≠ 0 by omega)
    have q2 := Int.emod_lt_of_pos (-a) hb
    by_cases hz : (-a) % b = 0
    · rw [if_neg (by rw [e]; omega), e, hz]
      have : a % b = 0 := Int.emod_eq_zero_of_dvd ((Int.dvd_neg).mp (Int.dvd_of_emod_eq_zero hz))
      rw [this]; rfl
    · rw [if_pos (by rw [e]; omega), e, wr_of (by omega) (by omega)]
      congr 2
      have h4 : a = b * (-((-a) / b) - 1) + (b - (-a) % b) := by
        have := Int.mul_ediv_add_emod (-a) b
        rw [Int.mul_sub, Int.mul_neg]
        omega
      have h5 : a % b = b - (-a) % b := by
        conv => lhs; rw [h4]
        rw [Int.mul_add_emod_self_left]
        exact Int.emod_eq_of_lt (by omega) (by omega)
      omega
theorem e_misLine (p : Int) (s : u_S) : f_X11_isLine p s = some ((if 0 ≤ p ∧ p ≤ 3 then 1 else 0), s) := by
  unfold f_X11_isLine
  rw [e_in, bd_eq]
theorem e_misKey (p : Int) (s : u_S) : f_X11_isKey p s = some ((if 0 ≤ p ∧ p ≤ 23 then 1 else 0), s) := by
  unfold f_X11_isKey
  rw [e_in, bd_eq]
theorem e_misMoved (l f m : Int) (s : u_S) : f_X11_isMoved l f m s = some ((if (0 ≤ l ∧ l ≤ 3) ∧ (0 ≤ f ∧ f ≤ 4) ∧ (-21 ≤ m ∧ m ≤ 21) then 1 else 0), s) := by
  unfold f_X11_isMoved
  simp only [e_misLine, bd_eq, e_in, b10_0, if_not', if_and2, if_some]
theorem e_notes (hm : MR s A) (o : u_O) (h0 : 0 ≤ l) (h1 : l ≤ 3) : f_X11_notes o l s = some (cntA A l, s) := by
  unfold f_X11_notes
  rw [wr_of (by omega) (by omega), gd_of (by omega) (by omega), m_rd hm _ (by omega) (by omega)]
  rfl
theorem e_plain (hm : MR s A) (o : u_O) (h0 : 0 ≤ l) (h1 : l ≤ 3) {i : Int} (i0 : 0 ≤ i) (i1 : i < 10) : f_X11_plain o l i s = some (stpA A l i, s) := by
  unfold f_X11_plain
  rw [wr_of (x := 21 * l) (by omega) (by omega), wr_of (x := 21 * l + 1) (by omega) (by omega), wr_of (x := 2 * i) (by omega) (by omega), wr_of (by omega) (by omega), gd_of (by omega) (by omega), m_rd hm _ (by omega) (by omega)]
  rfl
theorem e_ticks (hm : MR s A) (o : u_O) (h0 : 0 ≤ l) (h1 : l ≤ 3) {i : Int} (i0 : 0 ≤ i) (i1 : i < 10) : f_X11_ticks o l i s = some (tckA A l i, s) := by
  unfold f_X11_ticks
  rw [wr_of (x := 21 * l) (by omega) (by omega), wr_of (x := 21 * l + 2) (by omega) (by omega), wr_of (x := 2 * i) (by omega) (by omega), wr_of (by omega) (by omega), gd_of (by omega) (by omega), m_rd hm _ (by omega) (by omega)]
  rfl
theorem e_of (hm : MR s A) (o : u_O) {e k : Int} (h0 : 0 ≤ e) (h1 : e < 10) (k0 : 0 ≤ k) (k1 : k < 5) : f_X11_of o e k s = some (entA A e k, s) := by
  unfold f_X11_of
  rw [wr_of (x := 5 * e) (by omega) (by omega), wr_of (x := 85 + 5 * e) (by omega) (by omega), wr_of (by omega) (by omega), gd_of (by omega) (by omega), m_rd hm _ (by omega) (by omega)]
  rfl
theorem e_begin (hm : MR s A) (hw : WL A l) (o : u_O) (h0 : 0 ≤ l) (h1 : l ≤ 3) {p : Int} (p0 : 0 ≤ p) (p1 : p ≤ cntA A l) : f_X11_begin o l p s = some (sm (tckA A l) p.toNat, s) := by
  unfold f_X11_begin
  have hc := hw.1
  refine loop_fu (fun m (b : Int × Int) => f_X11_begin_L5 m _ o l p b.1 b.2 s) (fun j => (sm (tckA A l) j, (j : Int))) _ p.toNat (by omega) ?_ ?_
  · intro j m hj
    show f_X11_begin_L5 (m + 1) _ o l p (sm (tckA A l) j) (j : Int) s = f_X11_begin_L5 m _ o l p (sm (tckA A l) j + tckA A l j) ((j + 1 : Nat) : Int) s
    have q1 := sm_tck hw (n := j) (by omega)
    have q2 := hw.2 j (by omega) (by omega)
    rw [f_X11_begin_L5, if_pos (by omega), e_ticks hm o h0 h1 (by omega) (by omega), bd_eq, wr_of (by omega) (by omega), wr_of (by omega) (by omega)]
    rfl
  · intro m
    show f_X11_begin_L5 (m + 1) _ o l p _ _ s = _
    rw [f_X11_begin_L5, if_neg (by omega)]
theorem e_mlength (hm : MR s A) (hw : WL A l) (o : u_O) (h0 : 0 ≤ l) (h1 : l ≤ 3) : f_X11_length o l s = some (lenA A l, s) := by
  unfold f_X11_length
  have hc := hw.1
  refine loop_fu (fun m (b : Int × Int) => f_X11_length_L4 m _ o l b.1 b.2 s) (fun j => (sm (tckA A l) j, (j : Int))) _ (cntA A l).toNat (by omega) ?_ ?_
  · intro j m hj
    show f_X11_length_L4 (m + 1) _ o l (sm (tckA A l) j) (j : Int) s = f_X11_length_L4 m _ o l (sm (tckA A l) j + tckA A l j) ((j + 1 : Nat) : Int) s
    have q1 := sm_tck hw (n := j) (by omega)
    have q2 := hw.2 j (by omega) (by omega)
    rw [f_X11_length_L4, e_notes hm o h0 h1, bd_eq, if_pos (by omega), e_ticks hm o h0 h1 (by omega) (by omega), bd_eq, wr_of (by omega) (by omega), wr_of (by omega) (by omega)]
    rfl
  · intro m
    show f_X11_length_L4 (m + 1) _ o l _ _ s = _
    rw [f_X11_length_L4, e_notes hm o h0 h1, bd_eq, if_neg (by omega)]
    rfl
theorem e_lasts (hm : MR s A) (hw : WL A l) (o : u_O) (h0 : 0 ≤ l) (h1 : l ≤ 3) (f : Int) : f_X11_lasts o l f s = some (lastA A l f, s) := by
  unfold f_X11_lasts lastA
  have := hw.lenb
  by_cases h4 : f = 4
  · rw [if_pos h4, if_pos h4, e_mlength hm hw o h0 h1, bd_eq, wr_of (by omega) (by omega)]
  · rw [if_neg h4, if_neg h4, e_mlength hm hw o h0 h1, bd_eq]
theorem nen_b (A : Int → Int) (l : Int) (n : Nat) : 0 ≤ nenA A l n ∧ nenA A l n ≤ n := by
  have h1 := sm_ge (f := fun e => if entA A e 0 = l then 1 else 0) (b := 0) (n := n) (fun i _ _ => by split <;> omega)
  have h2 := sm_le (f := fun e => if entA A e 0 = l then 1 else 0) (b := 1) (n := n) (fun i _ _ => by split <;> omega)
  unfold nenA
  omega
theorem e_entered (hm : MR s A) (o : u_O) (hn : 0 ≤ A 84 ∧ A 84 ≤ 10) (l : Int) : f_X11_entered o l s = some (nenA A l (A 84).toNat, s) := by
  unfold f_X11_entered
  refine loop_fu (fun m (b : Int × Int) => f_X11_entered_L4 m _ o l b.1 b.2 s) (fun j => (nenA A l j, (j : Int))) _ (A 84).toNat (by omega) ?_ ?_
  · intro j m hj
    show f_X11_entered_L4 (m + 1) _ o l (nenA A l j) (j : Int) s = f_X11_entered_L4 m _ o l (nenA A l j + (if entA A j 0 = l then 1 else 0)) ((j + 1 : Nat) : Int) s
    have hb := nen_b A l j
    rw [f_X11_entered_L4, gd_of (by omega) (by omega), m_rd hm _ (by omega) (by omega), if_pos (by omega), e_of hm o (by omega) (by omega) (by omega) (by omega), bd_eq, jn_eq, wr_of (x := (j : Int) + 1) (by omega) (by omega)]
    by_cases h : entA A j 0 = l
    · rw [if_pos h, if_pos h]
      dsimp only
      rw [wr_of (by omega) (by omega)]
      rfl
    · rw [if_neg h, if_neg h]
      dsimp only
      rw [wr_of (by omega) (by omega)]
      rfl
  · intro m
    show f_X11_entered_L4 (m + 1) _ o l _ _ s = _
    rw [f_X11_entered_L4, gd_of (by omega) (by omega), m_rd hm _ (by omega) (by omega), if_neg (by omega)]
theorem e_left2 {a b : Int} (h1 : -2147483648 ≤ a) (h2 : a < 2147483648) (hb : 0 < b) (hbr : b < 2147483648) (s : u_S) : f_X11_left a b s = some (a % b, s) := e_left (InR_iff.mpr ⟨h1, h2⟩) hb hbr s
theorem e_manswered (hm : MR s A) (hw : WL A l) (o : u_O) (h0 : 0 ≤ l) (h1 : l ≤ 3) {i : Int} (i0 : 0 ≤ i) (i1 : i < cntA A l) (ht : 0 ≤ A 136 ∧ A 136 ≤ 6) : f_X11_answered o l i s = some (answA A l i, s) := by
  unfold f_X11_answered answA
  have hc := hw.1
  have hi := hw.2 i i0 i1
  by_cases hh : i < A 135 <;> by_cases h4 : (stpA A l i - A 136) % 7 = 4 <;> simp (disch := omega) [jn_eq, bd_eq, gd_of, m_rd hm, e_plain hm, e_left2, wr_of, hh, h4]
/-- sums told in the order of a form -/
theorem ftk_b (hw : WL A l) {f i : Int} (i0 : 0 ≤ i) (i1 : i < cntA A l) : 1 ≤ ftkA A l f i ∧ ftkA A l f i ≤ 8 := by
  unfold ftkA
  have h1 := hw.2 i i0 i1
  have h2 := hw.2 (cntA A l - 1 - i) (by omega) (by omega)
  split
  · omega
  · split <;> omega
theorem fst_b (hw : WL A l) {f i : Int} (i0 : 0 ≤ i) (i1 : i < cntA A l) : -27 ≤ fstA A l f i ∧ fstA A l f i ≤ 54 := by
  unfold fstA answA
  have h1 := hw.2 i i0 i1
  have h2 := hw.2 (cntA A l - 1 - i) (by omega) (by omega)
  have h3 := hw.2 0 (by omega) (by omega)
  split
  · omega
  · split
    · omega
    · split
      · split <;> omega
      · omega
theorem snd_b (hw : WL A l) (f t : Int) : SND A l f t = -1000 ∨ (-27 ≤ SND A l f t ∧ SND A l f t ≤ 54) := by
  unfold SND
  have : ∀ (n : Nat) (k sum : Int), 0 ≤ k → k + n ≤ cntA A l → sndR (fstA A l f) (ftkA A l f) t n k sum = -1000 ∨ (-27 ≤ sndR (fstA A l f) (ftkA A l f) t n k sum ∧ sndR (fstA A l f) (ftkA A l f) t n k sum ≤ 54) := by
    intro n
    induction n with
    | zero => intro k sum _ _; left; rfl
    | succ n ih =>
      intro k sum h1 h2
      rw [sndR]
      split
      · right; exact fst_b hw h1 (by omega)
      · exact ih _ _ (by omega) (by omega)
  have hc := hw.1
  exact this _ 0 0 (by omega) (by omega)
theorem e_formed (hm : MR s A) (hw : WL A l) (o : u_O) (h0 : 0 ≤ l) (h1 : l ≤ 3) (ht : 0 ≤ A 136 ∧ A 136 ≤ 6) (f t : Int) : f_X11_formed o l f t s = some (SND A l f t, s) := by
  unfold f_X11_formed SND
  have hc := hw.1
  have key : ∀ (n : Nat) (k sum : Int) (m : Nat), 0 ≤ k → k + n = cntA A l → 0 ≤ sum → sum ≤ 8 * k → n < m → f_X11_formed_L6 m (fun s_1 => some ((-1000), s_1)) o l f t sum k s = some (sndR (fstA A l f) (ftkA A l f) t n k sum, s) := by
    intro n
    induction n with
    | zero =>
      intro k sum m q1 q2 q3 q4 q5
      cases m with
      | zero => omega
      | succ m =>
        rw [f_X11_formed_L6, e_notes hm o h0 h1, bd_eq, if_neg (by omega)]
        rfl
    | succ n ih =>
      intro k sum m q1 q2 q3 q4 q5
      cases m with
      | zero => omega
      | succ m =>
        have hk := ftk_b hw (f := f) q1 (show k < cntA A l by omega)
        have hs := fst_b hw (f := f) q1 (show k < cntA A l by omega)
        have ih' := ih (k + 1) (sum + ftkA A l f k) m (by omega) (by omega) (by omega) (by omega) (by omega)
        have w1 := hw.2 k q1 (by omega)
        have w2 := hw.2 (cntA A l - 1 - k) (by omega) (by omega)
        have w3 := hw.2 0 (by omega) (by omega)
        rw [sndR, f_X11_formed_L6, e_notes hm o h0 h1, bd_eq, if_pos (by omega)]
        simp only [jn_eq]
        unfold ftkA at *
        unfold fstA at *
        by_cases f3 : f = 3
        · subst f3
          simp only [if_true, e_notes hm o h0 h1, bd_eq, wr_of (x := cntA A l - 1) (show _ by omega) (show _ by omega), wr_of (x := cntA A l - 1 - k) (show _ by omega) (show _ by omega), e_ticks hm o h0 h1 (show 0 ≤ cntA A l - 1 - k by omega) (show cntA A l - 1 - k < 10 by omega), e_plain hm o h0 h1 (show 0 ≤ cntA A l - 1 - k by omega) (show cntA A l - 1 - k < 10 by omega)] at ih' hk ⊢
          rw [if_neg (by omega), wr_of (x := sum + _) (by omega) (by omega), wr_of (x := k + 1) (by omega) (by omega)]
          split
          · rw [if_neg (by omega), if_neg (by omega)]
          · exact ih'
        · by_cases f4 : f = 4
          · subst f4
            simp only [if_neg f3, if_true, bd_eq, e_ticks hm o h0 h1 q1 (show k < 10 by omega), e_plain hm o h0 h1 q1 (show k < 10 by omega)] at ih' hk ⊢
            rw [wr_of (x := 2 * tckA A l k) (by omega) (by omega), wr_of (x := sum + _) (by omega) (by omega), wr_of (x := k + 1) (by omega) (by omega)]
            split
            · rw [if_neg (by omega), if_neg (by omega), if_neg (by omega), if_neg (by omega)]
            · exact ih'
          · simp only [if_neg f3, if_neg f4, bd_eq, e_ticks hm o h0 h1 q1 (show k < 10 by omega), e_plain hm o h0 h1 q1 (show k < 10 by omega), e_plain hm o h0 h1 (show (0 : Int) ≤ 0 by omega) (show (0 : Int) < 10 by omega), e_manswered hm hw o h0 h1 q1 (show k < cntA A l by omega) ht] at ih' hk ⊢
            rw [wr_of (x := sum + _) (by omega) (by omega), wr_of (x := k + 1) (by omega) (by omega)]
            split
            · by_cases f1 : f = 1
              · rw [if_pos f1, if_neg (by omega), if_pos f1]
              · rw [if_neg f1]
                by_cases f2 : f = 2
                · rw [if_pos f2, if_pos f2, wr_of (x := 2 * _) (by omega) (by omega), wr_of (by omega) (by omega)]
                · rw [if_neg f2, if_neg f2, if_neg f1]
            · exact ih'
  exact key _ 0 0 FU (by omega) (by omega) (by omega) (by omega) (FU_gt (by omega))
theorem e_bound (hm : MR s A) (hw : WL A l) (o : u_O) (h0 : 0 ≤ l) (h1 : l ≤ 3) : f_X11_bound o l 0 s = some ((if cntA A l ≤ 0 then -1 else minA A l (cntA A l - 1).toNat), s) := by
  unfold f_X11_bound
  have hc := hw.1
  have hb : ∀ j : Nat, (j : Int) < cntA A l → 0 ≤ minA A l j ∧ minA A l j ≤ 27 := by
    intro j
    induction j with
    | zero => intro h; have := hw.2 0 (by omega) (by omega); exact this.1
    | succ j ih => intro h; have := hw.2 ((j + 1 : Nat) : Int) (by omega) (by omega); have := ih (by omega); rw [minA]; omega
  refine loop_fu (fun m (b : Int × Int) => f_X11_bound_L5 m _ o l 0 b.1 b.2 s) (fun j => ((if (j : Int) ≤ 0 then -1 else minA A l (j - 1)), (j : Int))) _ (cntA A l).toNat (by omega) ?_ ?_
  · intro j m hj
    dsimp only
    rw [f_X11_bound_L5, e_notes hm o h0 h1, bd_eq, if_pos (by omega)]
    simp only [jn_eq, e_plain hm o h0 h1 (show (0 : Int) ≤ j by omega) (show (j : Int) < 10 by omega), bd_eq]
    rw [wr_of (x := (j : Int) + 1) (by omega) (by omega)]
    cases j with
    | zero =>
      simp
      rfl
    | succ j =>
      have hj1 := hb j (by omega)
      rw [if_neg (show ¬ (((j + 1 : Nat) : Int) ≤ 0) by omega), if_neg (show ¬ (((j + 1 + 1 : Nat) : Int) ≤ 0) by omega)]
      show _ = f_X11_bound_L5 m _ o l 0 (min (minA A l j) (stpA A l (j + 1 : Nat))) _ s
      have e1 : minA A l (j + 1 - 1) = minA A l j := rfl
      rw [e1, if_neg (by omega), if_pos trivial]
      by_cases hlt : stpA A l ((j + 1 : Nat) : Int) < minA A l j
      · rw [if_pos hlt, if_neg (by omega), show min (minA A l j) (stpA A l (j + 1 : Nat)) = stpA A l (j + 1 : Nat) by omega]
        rfl
      · rw [if_neg hlt, if_pos trivial, show min (minA A l j) (stpA A l (j + 1 : Nat)) = minA A l j by omega]
        rfl
  · intro m
    dsimp only
    rw [f_X11_bound_L5, e_notes hm o h0 h1, bd_eq, if_neg (by omega)]
    by_cases hz : cntA A l ≤ 0
    · rw [if_pos hz, if_pos (by omega)]
    · rw [if_neg hz, if_neg (by omega), show (cntA A l).toNat - 1 = (cntA A l - 1).toNat by omega]
theorem e_boundM (hm : MR s A) (hw : WL A l) (o : u_O) (h0 : 0 ≤ l) (h1 : l ≤ 3) : f_X11_bound o l 1 s = some ((if cntA A l ≤ 0 then -1 else maxA A l (cntA A l - 1).toNat), s) := by
  unfold f_X11_bound
  have hc := hw.1
  have hb : ∀ j : Nat, (j : Int) < cntA A l → 0 ≤ maxA A l j ∧ maxA A l j ≤ 27 := by
    intro j
    induction j with
    | zero => intro h; have := hw.2 0 (by omega) (by omega); exact this.1
    | succ j ih => intro h; have := hw.2 ((j + 1 : Nat) : Int) (by omega) (by omega); have := ih (by omega); rw [maxA]; omega
  refine loop_fu (fun m (b : Int × Int) => f_X11_bound_L5 m _ o l 1 b.1 b.2 s) (fun j => ((if (j : Int) ≤ 0 then -1 else maxA A l (j - 1)), (j : Int))) _ (cntA A l).toNat (by omega) ?_ ?_
  · intro j m hj
    dsimp only
    rw [f_X11_bound_L5, e_notes hm o h0 h1, bd_eq, if_pos (by omega)]
    simp only [jn_eq, e_plain hm o h0 h1 (show (0 : Int) ≤ j by omega) (show (j : Int) < 10 by omega), bd_eq]
    rw [wr_of (x := (j : Int) + 1) (by omega) (by omega)]
    cases j with
    | zero =>
      simp
      rfl
    | succ j =>
      have hj1 := hb j (by omega)
      rw [if_neg (show ¬ (((j + 1 : Nat) : Int) ≤ 0) by omega), if_neg (show ¬ (((j + 1 + 1 : Nat) : Int) ≤ 0) by omega)]
      show _ = f_X11_bound_L5 m _ o l 1 (max (maxA A l j) (stpA A l (j + 1 : Nat))) _ s
      have e1 : maxA A l (j + 1 - 1) = maxA A l j := rfl
      rw [e1, if_neg (by omega), if_neg (by omega)]
      by_cases hlt : stpA A l ((j + 1 : Nat) : Int) ≤ maxA A l j
      · rw [if_pos hlt, if_pos trivial, show max (maxA A l j) (stpA A l (j + 1 : Nat)) = maxA A l j by omega]
        rfl
      · rw [if_neg hlt, if_neg (by omega), show max (maxA A l j) (stpA A l (j + 1 : Nat)) = stpA A l (j + 1 : Nat) by omega]
        rfl
  · intro m
    dsimp only
    rw [f_X11_bound_L5, e_notes hm o h0 h1, bd_eq, if_neg (by omega)]
    by_cases hz : cntA A l ≤ 0
    · rw [if_pos hz, if_pos (by omega)]
    · rw [if_neg hz, if_neg (by omega), show (cntA A l).toNat - 1 = (cntA A l - 1).toNat by omega]
end MREAD
