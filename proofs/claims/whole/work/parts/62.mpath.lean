/-! the best path: the model; path -/
def kyA (A : Int → Int) (i : Int) : Int := if i = 5 then A 138 else A (140 + i)
def bto (o : u_O) : Prop := fro o ∨ o = (24, 12, 0)
def bpt (o : u_O) : Prop := o = (24, 13, 0) ∨ o = (24, 14, 0)
def bpo (o : u_O) : Prop := bto o ∨ bpt o
theorem bpo_msc (o : u_O) (h : bpo o) : msc o := by rcases h with (h | h) | (h | h) <;> cases h <;> simp [msc]
def BTW (A : Int → Int) (s : u_S) : Prop := ∀ i j : Int, 0 ≤ i → i ≤ 5 → 0 ≤ j → j ≤ 5 → rd s (24, 12, 0) (6 * i + j) = wayA (kyA A i) (kyA A j)
section MPATH
variable {s : u_S} {A : Int → Int} {n : Nat}
theorem ky_b (hw : WF A) {i : Int} (i0 : 0 ≤ i) (i1 : i ≤ 5) : 0 ≤ kyA A i ∧ kyA A i ≤ 23 := by
  unfold kyA
  split
  · exact hw.2.2.2.2.2.2.1
  · exact hw.2.2.2.2.2.2.2.2.1 i i0 (by omega)
theorem e_keyAt (hm : MR s A) {i : Int} (i0 : 0 ≤ i) (i1 : i ≤ 5) : f_X11_keyAt oM i s = some (kyA A i, s) := by
  unfold f_X11_keyAt kyA
  by_cases h : i = 5
  · rw [if_pos h, if_pos h, gd_of (by omega) (by omega), m_rd hm _ (by omega) (by omega)]
  · rw [if_neg h, if_neg h, wr_of (x := 140 + i) (by omega) (by omega), gd_of (by omega) (by omega), m_rd hm _ (by omega) (by omega)]
theorem e_lbIn (hm : MR s A) (hw : WF A) {j : Int} (j0 : 0 ≤ j) (j1 : j ≤ 5) (hf : ∀ k, 0 ≤ k → k ≤ 23 → rd s (24, 11, 0) k = wayA k (kyA A j)) (kx : u_S → Option (Int × u_S)) : ∃ s', f_X11_laysBetween_L21 FU kx oM j 0 s = kx s' ∧ Only (fun o => o = (24, 12, 0)) s s' ∧ (∀ i : Int, 0 ≤ i → i ≤ 5 → rd s' (24, 12, 0) (6 * i + j) = wayA (kyA A i) (kyA A j)) ∧ ∀ i k : Int, 0 ≤ i → i ≤ 5 → 0 ≤ k → k < j → rd s' (24, 12, 0) (6 * i + k) = rd s (24, 12, 0) (6 * i + k) := by
  obtain ⟨b, q, e1, e2, e3, e4⟩ := loop_relfu (fun m (b : Int × u_S) => f_X11_laysBetween_L21 m kx oM j b.1 b.2) (fun i b => b.1 = (i : Int) ∧ Only (fun o => o = (24, 12, 0)) s b.2 ∧ (∀ t : Int, 0 ≤ t → t < i → rd b.2 (24, 12, 0) (6 * t + j) = wayA (kyA A t) (kyA A j)) ∧ ∀ t k : Int, 0 ≤ t → t ≤ 5 → 0 ≤ k → k < j → rd b.2 (24, 12, 0) (6 * t + k) = rd s (24, 12, 0) (6 * t + k)) (fun b => kx b.2) 6 (by omega) (by
    intro i b m hi ⟨e1, e2, e3, e4⟩
    obtain ⟨b1, s1⟩ := b
    dsimp only at e1 e2 e3 e4
    subst e1
    have hk := ky_b hw (show (0 : Int) ≤ i by omega) (by omega)
    have hkj := ky_b hw j0 j1
    have wb := way_b hk.1 hk.2 hkj.1 hkj.2
    have hfar : rd s1 (24, 11, 0) (kyA A i) = wayA (kyA A i) (kyA A j) := by rw [e2.rd (by simp)]; exact hf _ hk.1 hk.2
    refine ⟨(wr ((i : Int) + 1), wt s1 (24, 12, 0) (6 * i + j) (wayA (kyA A i) (kyA A j))), ?_, by dsimp only; rw [wr_of (by omega) (by omega)]; omega, e2.wt rfl _ _, fun t a b => ?_, fun t k a b c d => ?_⟩
    · dsimp only
      rw [f_X11_laysBetween_L21, if_pos (by omega), e_keyAt (hm.keep e2 (by simp)) (by omega) (by omega), bd_eq, Int.tmod_eq_emod_of_nonneg hk.1, show kyA A i % 24 = kyA A i by omega, gd_of hk.1 (by omega), wr_of (x := 6 * (i : Int)) (by omega) (by omega), wr_of (x := 6 * (i : Int) + j) (by omega) (by omega), gd_of (by omega) (by omega), show a_Mo_far oM = (24, 11, 0) from rfl, hfar]
      rfl
    · dsimp only
      by_cases ht : t = i
      · rw [ht, rd_wt_same, wr_of (by omega) (by omega)]
      · rw [rd_wt_k (by omega)]
        exact e3 t a (by omega)
    · dsimp only
      rw [rd_wt_k (by omega)]
      exact e4 t k a b c d) (by
    intro b m ⟨e1, e2, e3, e4⟩
    rw [f_X11_laysBetween_L21, if_neg (by omega)]) (0, s) ⟨rfl, Only.refl _ _, fun t a b => by omega, fun t k _ _ _ _ => rfl⟩
  exact ⟨b.2, q, e2, fun i a b => e3 i a (by omega), e4⟩
theorem e_laysBetween (hm : MR s A) (hw : WF A) : ∃ s', f_X11_laysBetween oM s = some (0, s') ∧ Only bto s s' ∧ BTW A s' := by
  unfold f_X11_laysBetween
  obtain ⟨b, q, e1, e2, e3⟩ := loop_relfu (fun m (b : Int × u_S) => f_X11_laysBetween_L2 m (fun s_1 => some (0, s_1)) oM b.1 b.2) (fun j b => b.1 = (j : Int) ∧ Only bto s b.2 ∧ ∀ i k : Int, 0 ≤ i → i ≤ 5 → 0 ≤ k → k < j → rd b.2 (24, 12, 0) (6 * i + k) = wayA (kyA A i) (kyA A k)) (fun b => some (0, b.2)) 6 (by omega) (by
    intro j b m hj ⟨e1, e2, e3⟩
    obtain ⟨b1, s1⟩ := b
    dsimp only at e1 e2 e3
    subst e1
    have hkj := ky_b hw (show (0 : Int) ≤ j by omega) (by omega)
    have m1 : MR s1 A := hm.keep e2 (by simp [bto, fro])
    obtain ⟨s2, x1, x2, x3⟩ := e_laysWays hkj.1 hkj.2 s1
    obtain ⟨s3, y1, y2, y3, y4⟩ := e_lbIn (j := (j : Int)) (m1.keep x2 (by simp [fro])) hw (by omega) (by omega) x3 (fun s_5 => f_X11_laysBetween_L2 m (fun s_1 => some (0, s_1)) oM (wr ((j : Int) + 1)) s_5)
    refine ⟨(wr ((j : Int) + 1), s3), ?_, by dsimp only; rw [wr_of (by omega) (by omega)]; omega, e2.trans ((x2.mono (fun o h => Or.inl h)).trans (y2.mono (fun o h => Or.inr h))), fun i k a b c d => ?_⟩
    · dsimp only
      rw [f_X11_laysBetween_L2, if_pos (by omega), e_keyAt m1 (by omega) (by omega), bd_eq, Int.tmod_eq_emod_of_nonneg hkj.1, show kyA A j % 24 = kyA A j by omega, x1, bd_eq, y1]
    · dsimp only
      by_cases hk : k = j
      · subst hk
        exact y3 i a b
      · rw [y4 i k a b c (by omega), x2.rd (by simp [fro])]
        exact e3 i k a b c (by omega)) (by
    intro b m ⟨e1, e2, e3⟩
    rw [f_X11_laysBetween_L2, if_neg (by omega)]) (0, s) ⟨rfl, Only.refl _ _, fun i k a b c d => by omega⟩
  exact ⟨b.2, q, e2, fun i j a b c d => e3 i j a b c (by omega)⟩
theorem setR_b (c : Nat) : ∀ t, setR c t < 2 ^ 10
  | 0 => by rw [setR]; omega
  | t + 1 => by
    rw [setR]
    exact Nat.or_lt_two_pow (setR_b c t) (shl_lt (by omega))
theorem e_isRow (hm : MR s A) (h5 : n ≤ 5) (hn : (n : Int) = A 139) {c : Nat} (hc : c < 3125) : ∃ s', f_X11_isRow oM (c : Int) s = some ((if okR n c then 1 else 0), s') ∧ Only (fun o => o = (24, 14, 0)) s s' ∧ ∀ i : Int, 0 ≤ i → i < n → rd s' (24, 14, 0) i = vo 5 n c i := by
  unfold f_X11_isRow
  rw [gd_of (by omega) (by omega), m_rd hm _ (by omega) (by omega), ← hn, wr_of (x := (n : Int) - 1) (by omega) (by omega)]
  obtain ⟨b, q, e1, e2, e3⟩ := loop_relfu (fun m (b : Int × Int × Int × u_S) => f_X11_isRow_L16 m (fun v3_1 s_1 => gd 139 145 (if v3_1 = (wr ((ishl 1 (rd s_1 (a_Mo_all oM) 139)) - 1)) then (some (1, s_1)) else (some (0, s_1)))) oM b.1 b.2.1 b.2.2.1 b.2.2.2) (fun t b => (b.1 = ((c / 5 ^ t : Nat) : Int) ∧ b.2.1 = (setR c t : Int) ∧ b.2.2.1 = (n : Int) - 1 - t) ∧ Only (fun o => o = (24, 14, 0)) s b.2.2.2 ∧ ∀ i : Int, (n : Int) - 1 - t < i → i < n → rd b.2.2.2 (24, 14, 0) i = vo 5 n c i) (fun b => gd 139 145 (if b.2.1 = (wr ((ishl 1 (rd b.2.2.2 (a_Mo_all oM) 139)) - 1)) then (some (1, b.2.2.2)) else (some (0, b.2.2.2)))) n (by omega) (by
    intro t b m ht ⟨⟨e1, e2, e3⟩, e4, e5⟩
    obtain ⟨b1, b2, b3, s1⟩ := b
    dsimp only at e1 e2 e3 e4 e5
    subst e1 e2 e3
    have hd : c / 5 ^ t ≤ c := Nat.div_le_self _ _
    have hs := setR_b c t
    have hvo : vo 5 n c ((n : Int) - 1 - t) = ((c / 5 ^ t % 5 : Nat) : Int) := by
      unfold vo
      rw [show n - 1 - ((n : Int) - 1 - t).toNat = t by omega]
    have hst : setR c (t + 1) = setR c t ||| 1 <<< (c / 5 ^ t % 5) := rfl
    have hdt : c / 5 ^ (t + 1) = c / 5 ^ t / 5 := by rw [Nat.pow_succ, Nat.div_div_eq_div_mul]
    rw [hst, hdt]
    generalize c / 5 ^ t = D at hd hvo
    have e6 : Int.tmod (D : Int) 5 = ((D % 5 : Nat) : Int) := by
      rw [Int.tmod_eq_emod_of_nonneg (by omega)]; rfl
    have e7 : wr (Int.tdiv (D : Int) 5) = ((D / 5 : Nat) : Int) := by
      rw [Int.tdiv_eq_ediv_of_nonneg (by omega), wr_of (by omega) (by omega)]; rfl
    refine ⟨(((D / 5 : Nat) : Int), ((setR c t ||| 1 <<< (D % 5) : Nat) : Int), (n : Int) - 1 - t + -1, wt s1 (24, 14, 0) ((n : Int) - 1 - t) ((D % 5 : Nat) : Int)), ?_, ⟨rfl, rfl, by dsimp only; omega⟩, e4.wt rfl _ _, fun i a b => ?_⟩
    · dsimp only
      rw [f_X11_isRow_L16, if_neg (by omega), gd_of (by omega) (by omega), gd_of (by omega) (by omega), e6, e7, show a_Mo_tried oM = (24, 14, 0) from rfl, rd_wt_same, wr_of (x := ((D % 5 : Nat) : Int)) (by omega) (by omega), ishl_nat (d := D % 5) (by omega), ior_nat (by omega) (Nat.lt_of_lt_of_le (shl_lt (show D % 5 < 5 by omega)) (by omega)), wr_of (x := (n : Int) - 1 - t + -1) (by omega) (by omega)]
    · dsimp only
      by_cases hi : i = (n : Int) - 1 - t
      · rw [hi, rd_wt_same, wr_of (by omega) (by omega), hvo]
      · rw [rd_wt_k hi]
        exact e5 i (by omega) b) (by
    intro b m ⟨⟨e1, e2, e3⟩, e4, e5⟩
    rw [f_X11_isRow_L16, if_pos (by omega)]) ((c : Int), 0, (n : Int) - 1, s) ⟨⟨by dsimp only; rw [Nat.pow_zero, Nat.div_one], rfl, by dsimp only; omega⟩, Only.refl _ _, fun i a b => by omega⟩
  refine ⟨b.2.2.2, ?_, e2, fun i a b => e3 i (by omega) b⟩
  refine q.trans ?_
  rw [gd_of (by omega) (by omega), m_rd (hm.keep e2 (by simp)) _ (by omega) (by omega), ← hn, e1.2.1]
  have e : wr (ishl 1 (n : Int) - 1) = ((2 ^ n - 1 : Nat) : Int) := by
    rw [ishl_nat (by omega), Nat.one_shiftLeft]
    have : 2 ^ n ≤ 2 ^ 5 := Nat.pow_le_pow_right (by omega) (by omega)
    have : 0 < 2 ^ n := Nat.pow_pos (by omega)
    rw [wr_of (by omega) (by omega)]
    omega
  rw [e]
  unfold okR
  by_cases hq : setR c n = 2 ^ n - 1
  · rw [if_pos (by omega), if_pos (by rw [hq]; exact Nat.beq_refl _)]
  · rw [if_neg (by omega), if_neg (fun z => hq (Nat.eq_of_beq_eq_true z))]
theorem e_sumLoop (hb : BTW A s) (hw : WF A) (h5 : n ≤ 5) {r : Int → Int} (hr : ∀ i : Int, 0 ≤ i → i < n → 0 ≤ r i ∧ r i < 5) (ht : ∀ i : Int, 0 ≤ i → i < n → rd s (24, 14, 0) i = r i) (x y : Int) (kx : Int → Int → u_S → Option (Int × u_S)) : ∃ at' : Int, f_X11_bestPath_L41 FU kx oM x (n : Int) y 0 5 0 s = kx (plS (A 138) (fun i => A (140 + r i)) n).1 at' s ∧ 0 ≤ at' ∧ at' ≤ 5 ∧ kyA A at' = (plS (A 138) (fun i => A (140 + r i)) n).2 := by
  have hh := hw.2.2.2.2.2.2.1
  have hv := hw.2.2.2.2.2.2.2
  have hK : ∀ j : Nat, j ≤ n → KB (fun i => A (140 + r i)) j := fun j hj i a b => hv.2.1 _ (hr i a (by omega)).1 (hr i a (by omega)).2
  obtain ⟨b, q, e1, e2, e3, e4, e5⟩ := loop_relfu (fun m (b : Int × Int × Int) => f_X11_bestPath_L41 m kx oM x (n : Int) y b.1 b.2.1 b.2.2 s) (fun i b => b.1 = (plS (A 138) (fun i => A (140 + r i)) i).1 ∧ b.2.2 = (i : Int) ∧ 0 ≤ b.2.1 ∧ b.2.1 ≤ 5 ∧ kyA A b.2.1 = (plS (A 138) (fun i => A (140 + r i)) i).2) (fun b => kx b.1 b.2.1 s) n (by omega) (by
    intro i b m hi ⟨e1, e2, e3, e4, e5⟩
    obtain ⟨b1, b2, b3⟩ := b
    dsimp only at e1 e2 e3 e4 e5
    subst e1 e2
    have hp := pl_b hh.1 hh.2 (hK i (by omega))
    have hri := hr i (by omega) (by omega)
    have hk := ky_b hw hri.1 (show r i ≤ 5 by omega)
    have hkk : kyA A (r i) = A (140 + r i) := if_neg (by omega)
    have hwb := way_b hp.2.1 hp.2.2 hk.1 hk.2
    refine ⟨((plS (A 138) (fun i => A (140 + r i)) (i + 1)).1, r i, (i : Int) + 1), ?_, rfl, by dsimp only; omega, hri.1, by dsimp only; omega, hkk⟩
    dsimp only
    rw [f_X11_bestPath_L41, if_pos (by omega), gd_of (by omega) (by omega), show a_Mo_tried oM = (24, 14, 0) from rfl, show a_Mo_between oM = (24, 12, 0) from rfl, ht i (by omega) (by omega), wr_of (x := 6 * b2) (by omega) (by omega), wr_of (x := 6 * b2 + r i) (by omega) (by omega), gd_of (by omega) (by omega), gd_of (by omega) (by omega), hb b2 (r i) e3 e4 hri.1 (by omega), e5, wr_of (x := (plS (A 138) (fun i => A (140 + r i)) i).1 + _) (by omega) (by omega), wr_of (x := (i : Int) + 1) (by omega) (by omega), hkk]
    rfl) (by
    intro b m ⟨e1, e2, _, _, _⟩
    rw [f_X11_bestPath_L41, if_neg (by omega)]) (0, 5, 0) ⟨rfl, rfl, by dsimp only; omega, by dsimp only; omega, rfl⟩
  rw [e1] at q
  exact ⟨b.2.1, q, e3, e4, e5⟩
theorem e_isLess (hm : MR s A) (hw : WF A) (h5 : n ≤ 5) (hn : (n : Int) = A 139) {r r' : Int → Int} (hr : ∀ i : Int, 0 ≤ i → i < n → 0 ≤ r i ∧ r i < 5) (hr' : ∀ i : Int, 0 ≤ i → i < n → 0 ≤ r' i ∧ r' i < 5) (ht : ∀ i : Int, 0 ≤ i → i < n → rd s (24, 14, 0) i = r i) (ht' : ∀ i : Int, 0 ≤ i → i < n → rd s (24, 13, 0) i = r' i) : f_X11_isLess oM s = some ((if ek (fun i => A (140 + r i)) n < ek (fun i => A (140 + r' i)) n then 1 else 0), s) := by
  have hv := hw.2.2.2.2.2.2.2
  have hK : KB (fun i => A (140 + r i)) n := fun i a b => hv.2.1 _ (hr i a b).1 (hr i a b).2
  have hK' : KB (fun i => A (140 + r' i)) n := fun i a b => hv.2.1 _ (hr' i a b).1 (hr' i a b).2
  have key : ∀ (d i m : Nat), i + d = n → d < m → (∀ j : Nat, j < i → A (140 + r j) = A (140 + r' j)) → f_X11_isLess_L2 m (fun s_1 => some (0, s_1)) oM (i : Int) s = some ((if ek (fun i => A (140 + r i)) n < ek (fun i => A (140 + r' i)) n then 1 else 0), s) := by
    intro d
    induction d with
    | zero =>
      intro i m h1 h2 h3
      cases m with
      | zero => omega
      | succ m =>
        have : i = n := by omega
        subst this
        rw [f_X11_isLess_L2, gd_of (by omega) (by omega), m_rd hm _ (by omega) (by omega), if_neg (by omega), ek_congr (K := fun i => A (140 + r i)) (L := fun i => A (140 + r' i)) h3, if_neg (by omega)]
    | succ d ih =>
      intro i m h1 h2 h3
      cases m with
      | zero => omega
      | succ m =>
        have hi := hr i (by omega) (by omega)
        have hi' := hr' i (by omega) (by omega)
        have k1 : kyA A (r i) = A (140 + r i) := if_neg (by omega)
        have k2 : kyA A (r' i) = A (140 + r' i) := if_neg (by omega)
        have eq1 := e_keyAt hm hi.1 (show r i ≤ 5 by omega)
        have eq2 := e_keyAt hm hi'.1 (show r' i ≤ 5 by omega)
        rw [k1] at eq1
        rw [k2] at eq2
        rw [f_X11_isLess_L2, gd_of (by omega) (by omega), m_rd hm _ (by omega) (by omega), if_pos (by omega), gd_of (by omega) (by omega), show a_Mo_tried oM = (24, 14, 0) from rfl, show a_Mo_bestRow oM = (24, 13, 0) from rfl, ht i (by omega) (by omega), eq1, bd_eq, gd_of (by omega) (by omega), ht' i (by omega) (by omega), eq2, bd_eq]
        by_cases he : A (140 + r i) = A (140 + r' i)
        · rw [if_pos he, wr_of (x := (i : Int) + 1) (by omega) (by omega)]
          refine ih (i + 1) m (by omega) (by omega) (fun j hj => ?_)
          by_cases ej : j = i
          · subst ej; exact he
          · exact h3 j (by omega)
        · rw [if_neg he, gd_of (by omega) (by omega), ht i (by omega) (by omega), eq1, bd_eq, gd_of (by omega) (by omega), ht' i (by omega) (by omega), eq2, bd_eq]
          by_cases hlt : A (140 + r i) < A (140 + r' i)
          · rw [if_pos hlt, if_pos (ek_lt hK hK' ⟨i, by omega, hlt, h3⟩)]
          · rw [if_neg hlt, if_neg]
            have := ek_lt hK' hK ⟨i, by omega, show A (140 + r' i) < A (140 + r i) by omega, fun j hj => (h3 j hj).symm⟩
            omega
  exact key n 0 FU (by omega) (FU_gt (by omega)) (fun j hj => by omega)
theorem e_copyRow (h5 : n ≤ 5) (x y : Int) (kx : u_S → Option (Int × u_S)) : ∃ s', f_X11_bestPath_L132 FU kx oM x (n : Int) y 0 s = kx s' ∧ Only (fun o => o = (24, 13, 0)) s s' ∧ ∀ i : Int, 0 ≤ i → i < n → rd s' (24, 13, 0) i = rd s (24, 14, 0) i := by
  obtain ⟨b, q, i1, i2, i3⟩ := loop_relfu (fun m (b : Int × u_S) => f_X11_bestPath_L132 m kx oM x (n : Int) y b.1 b.2) (fun i b => b.1 = (i : Int) ∧ Only (fun o => o = (24, 13, 0)) s b.2 ∧ ∀ t : Int, 0 ≤ t → t < i → rd b.2 (24, 13, 0) t = rd s (24, 14, 0) t) (fun b => kx b.2) n (by omega) (by
    intro i b m hi ⟨e1, e2, e3⟩
    obtain ⟨b1, s1⟩ := b
    dsimp only at e1 e2 e3
    subst e1
    refine ⟨(wr ((i : Int) + 1), wt s1 (24, 13, 0) i (rd s1 (24, 14, 0) i)), ?_, by dsimp only; rw [wr_of (by omega) (by omega)]; omega, e2.wt rfl _ _, fun t a b => ?_⟩
    · dsimp only
      rw [f_X11_bestPath_L132, if_pos (by omega), gd_of (by omega) (by omega), gd_of (by omega) (by omega)]
      rfl
    · dsimp only
      by_cases ht : t = i
      · rw [ht, rd_wt_same, wr_in (InR_rd _ _ _), e2.rd (by simp)]
      · rw [rd_wt_k ht]
        exact e3 t a (by omega)) (by
    intro b m ⟨e1, e2, e3⟩
    rw [f_X11_bestPath_L132, if_neg (by omega)]) (0, s) ⟨rfl, Only.refl _ _, fun t a b => by omega⟩
  exact ⟨b.2, q, i2, i3⟩
abbrev KM (A : Int → Int) (n c : Nat) : Int → Int := Kq (fun i => A (140 + i)) n c
def BPI (A : Int → Int) (n : Nat) (s0 : u_S) (j : Nat) (b : Int × Int × u_S) : Prop := b.2.1 = (j : Int) ∧ Only bpt s0 b.2.2 ∧ ((b.1 = -1 ∧ ∀ x, x < j → okR n x = false) ∨ ∃ x : Nat, x < j ∧ x < 3125 ∧ okR n x = true ∧ b.1 = plP (A 138) (KM A n x) n ∧ (∀ i : Int, 0 ≤ i → i < n → rd b.2.2 (24, 13, 0) i = vo 5 n x i) ∧ ∀ y, y < j → okR n y = true → vlP (A 138) (KM A n x) n ≤ vlP (A 138) (KM A n y) n)
theorem vo5_b (n c : Nat) (i : Int) : 0 ≤ vo 5 n c i ∧ vo 5 n c i < 5 := by unfold vo; omega
theorem KM_b (hw : WF A) (n c : Nat) : KB (KM A n c) n := fun i a b => hw.2.2.2.2.2.2.2.2.1 _ (vo5_b n c i).1 (vo5_b n c i).2
theorem e_bpStep (hm : MR s A) (hw : WF A) (hn : (n : Int) = A 139) (hb : BTW A s) {j m : Nat} (hj : j < 3125) {b : Int × Int × u_S} (h : BPI A n s j b) : ∃ b' : Int × Int × u_S, f_X11_bestPath_L17 (m + 1) (fun v1_1 s_2 => some (v1_1, s_2)) oM (n : Int) b.1 b.2.1 b.2.2 = f_X11_bestPath_L17 m (fun v1_1 s_2 => some (v1_1, s_2)) oM (n : Int) b'.1 b'.2.1 b'.2.2 ∧ BPI A n s (j + 1) b' := by
  have hv := hw.2.2.2.2.2.2.2
  have hh := hw.2.2.2.2.2.2.1
  have h5 : n ≤ 5 := by have := hv.1; omega
  obtain ⟨b1, b2, s1⟩ := b
  obtain ⟨e1, e2, e3⟩ := h
  dsimp only at e1 e2 e3
  subst e1
  have m1 : MR s1 A := hm.keep e2 (by simp [bpt])
  obtain ⟨s2, x1, x2, x3⟩ := e_isRow m1 h5 hn hj
  have o2 : Only bpt s s2 := e2.trans (x2.mono (fun o h => Or.inr h))
  have r13 : ∀ i, rd s2 (24, 13, 0) i = rd s1 (24, 13, 0) i := fun i => x2.rd (by simp) i
  dsimp only
  rw [f_X11_bestPath_L17, if_pos (by omega), x1, bd_eq, wr_of (x := (j : Int) + 1) (by omega) (by omega)]
  simp only [jn_eq]
  by_cases ho : okR n j = true
  · rw [if_pos ho, if_neg (by omega)]
    have hb2 : BTW A s2 := fun i k a b c d => by rw [o2.rd (by simp [bpt])]; exact hb i k a b c d
    have m2 : MR s2 A := hm.keep o2 (by simp [bpt])
    obtain ⟨p, y1, y2, y3, y4⟩ := e_sumLoop (x := b1) (y := (j : Int)) hb2 hw h5 (r := vo 5 n j) (fun i _ _ => vo5_b n j i) x3 (fun v4_1 v5_1 s_6 => gd (wr ((wr (6 * v5_1)) + 5)) 36 (if b1 = (-1) then (f_X11_bestPath_L132 FU (fun s_8 => f_X11_bestPath_L17 m (fun v1_1 s_2 => some (v1_1, s_2)) oM (n : Int) (wr (v4_1 + (rd s_6 (a_Mo_between oM) (wr ((wr (6 * v5_1)) + 5))))) ((j : Int) + 1) s_8) oM (wr (v4_1 + (rd s_6 (a_Mo_between oM) (wr ((wr (6 * v5_1)) + 5))))) (n : Int) (j : Int) 0 s_6) else (if (wr (v4_1 + (rd s_6 (a_Mo_between oM) (wr ((wr (6 * v5_1)) + 5))))) < b1 then (f_X11_bestPath_L132 FU (fun s_8 => f_X11_bestPath_L17 m (fun v1_1 s_2 => some (v1_1, s_2)) oM (n : Int) (wr (v4_1 + (rd s_6 (a_Mo_between oM) (wr ((wr (6 * v5_1)) + 5))))) ((j : Int) + 1) s_8) oM (wr (v4_1 + (rd s_6 (a_Mo_between oM) (wr ((wr (6 * v5_1)) + 5))))) (n : Int) (j : Int) 0 s_6) else (if (wr (v4_1 + (rd s_6 (a_Mo_between oM) (wr ((wr (6 * v5_1)) + 5))))) = b1 then (bd (f_X11_isLess oM s_6) (fun r_3 s_11 => if r_3 = 0 then (f_X11_bestPath_L17 m (fun v1_1 s_2 => some (v1_1, s_2)) oM (n : Int) b1 ((j : Int) + 1) s_11) else (f_X11_bestPath_L132 FU (fun s_8 => f_X11_bestPath_L17 m (fun v1_1 s_2 => some (v1_1, s_2)) oM (n : Int) (wr (v4_1 + (rd s_6 (a_Mo_between oM) (wr ((wr (6 * v5_1)) + 5))))) ((j : Int) + 1) s_8) oM (wr (v4_1 + (rd s_6 (a_Mo_between oM) (wr ((wr (6 * v5_1)) + 5))))) (n : Int) (j : Int) 0 s_11))) else (f_X11_bestPath_L17 m (fun v1_1 s_2 => some (v1_1, s_2)) oM (n : Int) b1 ((j : Int) + 1) s_6)))))
    refine (show ∃ b' : Int × Int × u_S, f_X11_bestPath_L41 FU _ oM b1 (n : Int) (j : Int) 0 5 0 s2 = _ ∧ _ from ?_)
    rw [y1]
    have hKM : (fun i => A (140 + vo 5 n j i)) = KM A n j := rfl
    have hpl := pl_b hh.1 hh.2 (KM_b hw n j)
    have hwb := way_b hpl.2.1 hpl.2.2 hh.1 hh.2
    have hpb := plP_b hh.1 hh.2 h5 (KM_b hw n j)
    have k5 : kyA A 5 = A 138 := if_pos rfl
    have hsum : wr ((plS (A 138) (KM A n j) n).1 + rd s2 (a_Mo_between oM) (wr (wr (6 * p) + 5))) = plP (A 138) (KM A n j) n := by
      rw [wr_of (x := 6 * p) (by omega) (by omega), wr_of (x := 6 * p + 5) (by omega) (by omega), show a_Mo_between oM = (24, 12, 0) from rfl, hb2 p 5 y2 y3 (by omega) (by omega), y4, k5, hKM]
      exact wr_of (x := plP (A 138) (KM A n j) n) (by omega) (by omega)
    try dsimp only
    rw [gd_of (by rw [wr_of (x := 6 * p) (by omega) (by omega), wr_of (x := 6 * p + 5) (by omega) (by omega)]; omega) (by rw [wr_of (x := 6 * p) (by omega) (by omega), wr_of (x := 6 * p + 5) (by omega) (by omega)]; omega), hKM, hsum]
    have vj : vlP (A 138) (KM A n j) n = plP (A 138) (KM A n j) n * 7962624 + ek (KM A n j) n := rfl
    have bj := ek_b5 h5 (KM_b hw n j)
    have upd : (∀ y, y < j → okR n y = true → vlP (A 138) (KM A n j) n ≤ vlP (A 138) (KM A n y) n) → ∃ b' : Int × Int × u_S, f_X11_bestPath_L132 FU (fun s_8 => f_X11_bestPath_L17 m (fun v1_1 s_2 => some (v1_1, s_2)) oM (n : Int) (plP (A 138) (KM A n j) n) ((j : Int) + 1) s_8) oM (plP (A 138) (KM A n j) n) (n : Int) (j : Int) 0 s2 = f_X11_bestPath_L17 m (fun v1_1 s_2 => some (v1_1, s_2)) oM (n : Int) b'.1 b'.2.1 b'.2.2 ∧ BPI A n s (j + 1) b' := by
      intro hmin
      obtain ⟨s3, z1, z2, z3⟩ := e_copyRow (s := s2) h5 (plP (A 138) (KM A n j) n) (j : Int) (fun s_8 => f_X11_bestPath_L17 m (fun v1_1 s_2 => some (v1_1, s_2)) oM (n : Int) (plP (A 138) (KM A n j) n) ((j : Int) + 1) s_8)
      rw [z1]
      refine ⟨(plP (A 138) (KM A n j) n, (j : Int) + 1, s3), rfl, by dsimp only; omega, o2.trans (z2.mono (fun o h => Or.inl h)), Or.inr ⟨j, by omega, hj, ho, rfl, fun i a b => by dsimp only; rw [z3 i a b]; exact x3 i a b, fun y hy hoy => ?_⟩⟩
      by_cases ey : y = j
      · subst ey; exact Int.le_refl _
      · exact hmin y (by omega) hoy
    rcases e3 with ⟨g1, g2⟩ | ⟨x, g1, g2, g3, g4, g5, g6⟩
    · rw [if_pos g1]
      exact upd (fun y hy hoy => by rw [g2 y hy] at hoy; cases hoy)
    · have bx := ek_b5 h5 (KM_b hw n x)
      have pxb := plP_b hh.1 hh.2 h5 (KM_b hw n x)
      have vx : vlP (A 138) (KM A n x) n = plP (A 138) (KM A n x) n * 7962624 + ek (KM A n x) n := rfl
      have keepx : vlP (A 138) (KM A n x) n ≤ vlP (A 138) (KM A n j) n → ∃ b' : Int × Int × u_S, f_X11_bestPath_L17 m (fun v1_1 s_2 => some (v1_1, s_2)) oM (n : Int) b1 ((j : Int) + 1) s2 = f_X11_bestPath_L17 m (fun v1_1 s_2 => some (v1_1, s_2)) oM (n : Int) b'.1 b'.2.1 b'.2.2 ∧ BPI A n s (j + 1) b' := by
        intro hle
        refine ⟨(b1, (j : Int) + 1, s2), rfl, by dsimp only; omega, o2, Or.inr ⟨x, by omega, g2, g3, g4, fun i a b => by dsimp only; rw [r13]; exact g5 i a b, fun y hy hoy => ?_⟩⟩
        by_cases ey : y = j
        · subst ey; exact hle
        · exact g6 y (by omega) hoy
      rw [if_neg (by omega)]
      by_cases hlt : plP (A 138) (KM A n j) n < b1
      · rw [if_pos hlt]
        refine upd (fun y hy hoy => ?_)
        have := g6 y hy hoy
        omega
      · rw [if_neg hlt]
        by_cases heq : plP (A 138) (KM A n j) n = b1
        · rw [if_pos heq, e_isLess m2 hw h5 hn (r := vo 5 n j) (r' := vo 5 n x) (fun i _ _ => vo5_b n j i) (fun i _ _ => vo5_b n x i) x3 (fun i a b => by rw [r13]; exact g5 i a b), bd_eq]
          by_cases hek : ek (fun i => A (140 + vo 5 n j i)) n < ek (fun i => A (140 + vo 5 n x i)) n
          · rw [if_pos hek, if_neg (by omega)]
            have hek' : ek (KM A n j) n < ek (KM A n x) n := hek
            refine upd (fun y hy hoy => ?_)
            have := g6 y hy hoy
            omega
          · rw [if_neg hek, if_pos rfl]
            have hek' : ¬ ek (KM A n j) n < ek (KM A n x) n := hek
            exact keepx (by omega)
        · rw [if_neg heq]
          exact keepx (by omega)
  · rw [if_neg ho, if_pos rfl]
    refine ⟨(b1, (j : Int) + 1, s2), rfl, by dsimp only; omega, o2, ?_⟩
    have hof : okR n j = false := by cases h : okR n j with
      | true => exact absurd h ho
      | false => rfl
    rcases e3 with ⟨g1, g2⟩ | ⟨x, g1, g2, g3, g4, g5, g6⟩
    · refine Or.inl ⟨g1, fun y hy => ?_⟩
      by_cases ey : y = j
      · subst ey; exact hof
      · exact g2 y (by omega)
    · refine Or.inr ⟨x, by omega, g2, g3, g4, fun i a b => by dsimp only; rw [r13]; exact g5 i a b, fun y hy hoy => ?_⟩
      by_cases ey : y = j
      · subst ey; exact absurd hoy ho
      · exact g6 y (by omega) hoy
theorem e_bestPath (hm : MR s A) (hw : WF A) (hn : (n : Int) = A 139) : ∃ s' K, f_X11_bestPath oM s = some (plP (A 138) K n, s') ∧ Only bpo s s' ∧ LeastK A n K ∧ ∀ i : Int, 0 ≤ i → i < n → (0 ≤ rd s' (24, 13, 0) i ∧ rd s' (24, 13, 0) i < 5) ∧ A (140 + rd s' (24, 13, 0) i) = K i := by
  have hv := hw.2.2.2.2.2.2.2
  have h5 : n ≤ 5 := by have := hv.1; omega
  obtain ⟨s1, x1, x2, x3⟩ := e_laysBetween hm hw
  have m1 : MR s1 A := hm.keep x2 (by simp [bto, fro])
  unfold f_X11_bestPath
  rw [gd_of (by omega) (by omega), x1, bd_eq, m_rd hm _ (by omega) (by omega), ← hn]
  obtain ⟨b, q, i1, i2, i3⟩ := loop_relfu (fun m (b : Int × Int × u_S) => f_X11_bestPath_L17 m (fun v1_1 s_2 => some (v1_1, s_2)) oM (n : Int) b.1 b.2.1 b.2.2) (BPI A n s1) (fun b => some (b.1, b.2.2)) 3125 (by omega) (fun j b m hj h => e_bpStep m1 hw hn x3 hj h) (by
    intro b m ⟨e1, e2, e3⟩
    rw [f_X11_bestPath_L17, if_neg (by omega)]) (-1, 0, s1) ⟨rfl, Only.refl _ _, Or.inl ⟨rfl, fun x hx => by omega⟩⟩
  rcases i3 with ⟨g1, g2⟩ | ⟨x, g1, g2, g3, g4, g5, g6⟩
  · have hl := (p5_len ⟨n, by omega⟩).1
    have hp := p5_fact h5 (get_mem (P := P5 n) (i := 0) (by dsimp only at hl; omega))
    rw [g2 _ hp.2.1] at hp
    exact absurd hp.2.2 (by decide)
  · refine ⟨b.2.2, KM A n x, by rw [← g4]; exact q, (x2.mono (fun o h => Or.inl h)).trans (i2.mono (fun o h => Or.inr h)), ⟨kx_seq h5 (enum_A hv hn) g2 g3, fun L hL => ?_⟩, fun i a b => ?_⟩
    · obtain ⟨c, c1, c2, c3, c4, c5⟩ := seq_kx h5 (enum_A hv hn) hL
      rw [← vl_congr c5]
      exact g6 c c2 c3
    · rw [g5 i a b]
      exact ⟨vo5_b n x i, rfl⟩
theorem call_path (p : Int) : Call (f_X10_path oF p) (f_X11_path oM p) := by
  intro A H k T tl c hw
  have hv := hw.1.2.2.2.2.2.2.2
  have hh := hw.1.2.2.2.2.2.2.1
  by_cases h1 : p < -1
  · refine at_bad (-10) hw (fun s hs => ?_) (fun s hs => ?_)
    · unfold f_X10_path
      rw [if_pos h1]
    · unfold f_X11_path
      rw [if_pos h1]
  · obtain ⟨n, hn⟩ : ∃ n : Nat, (n : Int) = A 139 := ⟨(A 139).toNat, by have := hv.1; omega⟩
    have h5 : n ≤ 5 := by have := hv.1; omega
    obtain ⟨K, hK⟩ := least_ex hv hn
    refine at_ask (if p = -1 then plP (A 138) K n else if p < n then K p else -5) hw (fun s hs => ?_) (fun s hs => ?_)
    · unfold f_X10_path
      rw [if_neg h1, show a_FP_plan oF = (1, 0, 0) from rfl, hs.1.2.2.2.1, ← hn]
      by_cases h2 : p < (n : Int)
      · obtain ⟨s1, x1, x2, L, x3, x4, x5⟩ := e_find hs.1 hw.1 hn
        have hu := least_un hv hn hh hK x3
        rw [if_pos h2, if_pos (show p < 5 by omega), show a_FP_tour oF = (20, 0, 0) from rfl, x1, bd_eq]
        refine ⟨s1, ?_, x2.mono tro_csc⟩
        by_cases h3 : p = -1
        · rw [if_pos h3, if_pos h3, x4, hu.1]
        · rw [if_neg h3, if_neg h3, if_pos h2, gd_of (by omega) (by omega), show a_Tour_best (20, 0, 0) = (21, 0, 0) from rfl, x5 p (by omega) h2]
          have := hu.2 p.toNat (by omega)
          rw [show ((p.toNat : Nat) : Int) = p by omega] at this
          rw [this]
      · rw [if_neg h2, if_neg (by omega), if_neg h2]
        exact ⟨s, rfl, Only.refl _ _⟩
    · obtain ⟨s1, L, x1, x2, x3, x4⟩ := e_bestPath hs.1 hw.1 hn
      have hu := least_un hv hn hh hK x3
      have m1 : MR s1 A := hs.1.keep x2 (by simp [bpo, bto, fro, bpt])
      unfold f_X11_path
      rw [if_neg h1, x1, bd_eq]
      refine ⟨s1, ?_, x2.mono bpo_msc⟩
      by_cases h3 : p = -1
      · rw [if_pos h3, if_pos h3, hu.1]
      · rw [if_neg h3, if_neg h3, gd_of (by omega) (by omega), m_rd m1 _ (by omega) (by omega), ← hn]
        by_cases h2 : p < (n : Int)
        · have x5 := x4 p (by omega) h2
          have := hu.2 p.toNat (by omega)
          rw [show ((p.toNat : Nat) : Int) = p by omega] at this
          rw [if_pos h2, if_pos h2, gd_of (by omega) (by omega), show a_Mo_bestRow oM = (24, 13, 0) from rfl, e_keyAt m1 x5.1.1 (by omega), bd_eq, show kyA A (rd s1 (24, 13, 0) p) = A (140 + rd s1 (24, 13, 0) p) from if_neg (by omega), x5.2, this]
        · rw [if_neg h2, if_neg h2]
end MPATH
