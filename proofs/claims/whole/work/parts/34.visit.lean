/-! visits and skips -/
theorem ff_snoc {C : Nat → Bool} : ∀ (k j : Nat), ff C j (k + 1) = (match ff C j k with | some i => some i | none => if C (j + k) then some (j + k) else none)
  | 0, j => by simp [ff]
  | k + 1, j => by
    show (if C j = true then some j else ff C (j + 1) (k + 1)) = (match (if C j = true then some j else ff C (j + 1) k) with | some i => some i | none => if C (j + (k + 1)) = true then some (j + (k + 1)) else none)
    by_cases h : C j = true
    · rw [if_pos h, if_pos h]
    · rw [if_neg h, if_neg h, ff_snoc k (j + 1), show j + 1 + k = j + (k + 1) by omega]
def viC (A : Int → Int) (k : Int) (i : Nat) : Bool := decide (A (140 + i) = k)
/-- where a key stands among the visits -/
def viA (A : Int → Int) (k : Int) : Int := match ff (viC A k) 0 (A 139).toNat with
  | some i => i
  | none => -1
theorem vi_b (A : Int → Int) (k : Int) (h : 0 ≤ A 139) : -1 ≤ viA A k ∧ viA A k < max (A 139) 0 := by
  unfold viA
  cases e : ff (viC A k) 0 (A 139).toNat with
  | none => dsimp only; omega
  | some i => have := ff_some e; dsimp only; omega
theorem WF.vis {A A' : Int → Int} (h : WF A) (hA : ∀ k, (k < 139 ∨ 144 < k) → A' k = A k) (hv : WV A') : WF A' := by
  obtain ⟨w1, w2, w3, w4, w5, w6, w7, w8⟩ := h
  have w84 := w2.1
  have e84 : A' 84 = A 84 := hA _ (by omega)
  have blk : ∀ l, l ≤ 3 → ∀ k, 21 * l ≤ k → k ≤ 21 * l + 20 → A' k = A k := fun l h k a b => hA k (by omega)
  have en : ∀ e k, 0 ≤ e → e < 10 → 0 ≤ k → k < 5 → entA A' e k = entA A e k := fun e k a b c d => hA _ (by omega)
  have hen : ∀ e, 0 ≤ e → e < A 84 → endA A' e = endA A e := by
    intro e a b
    have q := (w2.2 e a b).1
    unfold endA lastA
    rw [en e 3 a (by omega) (by omega) (by omega), en e 0 a (by omega) (by omega) (by omega), en e 1 a (by omega) (by omega) (by omega), len_congr (blk _ q.2) (w1 _ q.1 q.2)]
  refine ⟨fun l a b => (w1 l a b).congr (blk l b), ⟨by rw [e84]; exact w2.1, fun e a b => ?_⟩, fun e g a b c d => ?_, by rw [hA 135 (by omega)]; exact w4, by rw [hA 136 (by omega)]; exact w5, by rw [hA 137 (by omega)]; exact w6, by rw [hA 138 (by omega)]; exact w7, hv⟩
  · rw [e84] at b
    rw [en e 0 a (by omega) (by omega) (by omega), en e 1 a (by omega) (by omega) (by omega), en e 2 a (by omega) (by omega) (by omega), en e 3 a (by omega) (by omega) (by omega), en e 4 a (by omega) (by omega) (by omega)]
    exact w2.2 e a b
  · rw [e84] at c
    rw [en e 4 a (by omega) (by omega) (by omega), en g 4 (by omega) (by omega) (by omega) (by omega)] at d
    rw [hen e a (by omega), hen g (by omega) c, en e 3 a (by omega) (by omega) (by omega), en g 3 (by omega) (by omega) (by omega) (by omega)]
    exact w3 e g a b c d
def vob2 (p : Nat) (o : u_O) : Prop := o = (9, p, 0) ∨ o = (1, p, 0)
theorem CP.vis {s s' : u_S} {p : Nat} {A A' : Int → Int} (hc : CP s p A) (hw : WF A) (hA : ∀ k, (k < 139 ∨ 144 < k) → A' k = A k) (ho : Only (vob2 p) s s') (h1 : ∀ k, 4 ≤ k → k ≤ 7 → rd s' (1, p, 0) k = rd s (1, p, 0) k) (h2 : rd s' (1, p, 0) 3 = A' 139) (h3 : ∀ i, 0 ≤ i → i < A' 139 → rd s' (9, p, 0) i = A' (140 + i)) : CP s' p A' := by
  obtain ⟨c1, c2, c3, c4, c5⟩ := hc
  have w84 := hw.2.1.1
  have blk : ∀ l, l ≤ 3 → ∀ k, 21 * l ≤ k → k ≤ 21 * l + 20 → A' k = A k := fun l h k a b => hA k (by omega)
  refine ⟨fun l a b => ?_, ⟨by rw [ho.rd (by simp [vob2]), hA 84 (by omega)]; exact c2.1, fun i k a b c d => ?_⟩, ⟨by rw [h1 4 (by omega) (by omega), hA 135 (by omega)]; exact c3.1, by rw [h1 5 (by omega) (by omega), hA 136 (by omega)]; exact c3.2.1, by rw [h1 6 (by omega) (by omega), hA 137 (by omega)]; exact c3.2.2.1, by rw [h1 7 (by omega) (by omega), hA 138 (by omega)]; exact c3.2.2.2⟩, h2, h3⟩
  · have r := LR.congr (blk l b) (hw.1 l a b) (c1 l a b)
    refine ⟨by rw [ho.rd (by simp [vob2])]; exact r.1, fun i c d => ?_⟩
    rw [o_steps, o_ticks, ho.rd (by simp [vob2]), ho.rd (by simp [vob2])]
    exact r.2 i c d
  · rw [hA 84 (by omega)] at b
    rw [ho.rd (by simp [vob2]), show entA A' i k = entA A i k from hA _ (by omega)]
    exact c2.2 i k a b c d
theorem vob2_pob {p : Nat} (o : u_O) (h : vob2 p o) : pob p o := by rcases h with h | h <;> subst h <;> simp [pob]
def canViA (A : Int → Int) (k : Int) : Int := if ¬ (0 ≤ k ∧ k ≤ 23) then -2 else if ¬ viA A k = -1 then -3 else if A 139 = 5 then -4 else 0
def visA (A : Int → Int) (k : Int) : Int → Int := upA (upA A (140 + A 139) k) 139 (A 139 + 1)
def skiI (A : Int → Int) (a j : Int) : Int → Int := fun k => if 140 + a ≤ k ∧ k < 140 + j then A (k + 1) else A k
def skiA (A : Int → Int) (a : Int) : Int → Int := upA (skiI A a (A 139 - 1)) 139 (A 139 - 1)
def canSkA (A : Int → Int) (k : Int) : Int := if ¬ (0 ≤ k ∧ k ≤ 23) then -2 else if viA A k = -1 then -3 else 0
section VISIT
variable {s : u_S} {A : Int → Int} {k : Int} {p : Nat}
theorem canVi_cases (A : Int → Int) (k : Int) : canViA A k = -2 ∨ canViA A k = -3 ∨ canViA A k = -4 ∨ canViA A k = 0 := by
  unfold canViA
  repeat' split
  all_goals omega
theorem canSk_cases (A : Int → Int) (k : Int) : canSkA A k = -2 ∨ canSkA A k = -3 ∨ canSkA A k = -4 ∨ canSkA A k = 0 := by
  unfold canSkA
  repeat' split
  all_goals omega
theorem canVi_0 (hw : WV A) (h : canViA A k = 0) : (0 ≤ k ∧ k ≤ 23) ∧ (∀ i, 0 ≤ i → i < A 139 → A (140 + i) ≠ k) ∧ A 139 < 5 := by
  unfold canViA at h
  split at h
  · omega
  · rename_i g
    have g := Classical.byContradiction g
    split at h
    · omega
    · rename_i g2
      split at h
      · omega
      · have hb := hw.1
        refine ⟨g, fun i a b e => g2 ?_, by omega⟩
        unfold viA
        intro z
        cases q : ff (viC A k) 0 (A 139).toNat with
        | none =>
          have := ff_none q i.toNat (by omega) (by omega)
          unfold viC at this
          rw [Int.toNat_of_nonneg a] at this
          simp [e] at this
        | some j => rw [q] at z; dsimp only at z; omega
theorem canSk_0 (hw : WV A) (h : canSkA A k = 0) : 0 ≤ viA A k ∧ viA A k < A 139 := by
  unfold canSkA at h
  split at h
  · omega
  · split at h
    · omega
    · have := vi_b A k hw.1.1
      have := hw.1
      omega
theorem e_visitOf (hc : CP s p A) (hw : WV A) : f_X6_visitOf (1, p, 0) k s = some (viA A k, s) := by
  unfold f_X6_visitOf viA
  have hb := hw.1
  have h := loop_fffu (fun m j => f_X6_visitOf_L2 m (fun s_1 => some ((-1), s_1)) (1, p, 0) k (j : Int) s) (viC A k) (fun i => some ((i : Int), s)) (some (-1, s)) (A 139).toNat (by omega) (by
      intro j m hj
      rw [f_X6_visitOf_L2, hc.2.2.2.1, if_pos (by omega), gd_of (by omega) (by omega), o_visit, hc.2.2.2.2 j (by omega) (by omega), wr_of (by omega) (by omega)]
      unfold viC
      simp only [decide_eq_true_eq]
      rfl) (by
      intro m
      rw [f_X6_visitOf_L2, hc.2.2.2.1, if_neg (by omega)])
  rw [show (0 : Int) = ((0 : Nat) : Int) from rfl, h]
  cases ff (viC A k) 0 (A 139).toNat <;> rfl
theorem vis_WV (hw : WV A) (h : canViA A k = 0) : WV (visA A k) := by
  obtain ⟨g1, g2, g3⟩ := canVi_0 hw h
  have hb := hw.1
  have e139 : visA A k 139 = A 139 + 1 := upA_same _ _ _
  have ei : ∀ i, 0 ≤ i → i < A 139 → visA A k (140 + i) = A (140 + i) := fun i a b => by unfold visA; rw [upA_ne (by omega), upA_ne (by omega)]
  have el : visA A k (140 + A 139) = k := by unfold visA; rw [upA_ne (by omega), upA_same]
  refine ⟨by rw [e139]; omega, fun i a b => ?_, fun i j a b c => ?_⟩
  · by_cases e : i = A 139
    · rw [e, el]; exact g1
    · rw [show visA A k (140 + i) = A (140 + i) by unfold visA; rw [upA_ne (by omega), upA_ne (by omega)]]; exact hw.2.1 i a b
  · rw [e139] at c
    by_cases e : j = A 139
    · rw [e, el, ei i a (by omega)]; exact g2 i a (by omega)
    · rw [ei i a (by omega), ei j (by omega) (by omega)]; exact hw.2.2 i j a b (by omega)
theorem e_addVisit (hc : CP s p A) (hw : WF A) : ∃ s', f_X6_addVisit (1, p, 0) k s = some ((if canViA A k < 0 then canViA A k else A 139 + 1), s') ∧ CP s' p (if canViA A k < 0 then A else visA A k) ∧ Only (pob p) s s' := by
  unfold f_X6_addVisit
  have wv := hw.2.2.2.2.2.2.2
  have hb := wv.1
  by_cases g1 : ¬ (0 ≤ k ∧ k ≤ 23)
  · have e : canViA A k = -2 := by unfold canViA; rw [if_pos g1]
    rw [e, e_isKey, bd_eq, if_neg g1, if00]
    exact ⟨s, rfl, hc, Only.refl _ _⟩
  have g1 : 0 ≤ k ∧ k ≤ 23 := Classical.byContradiction g1
  rw [e_isKey, bd_eq, if_pos g1, if10, e_visitOf hc wv, bd_eq, hc.2.2.2.1]
  by_cases g2 : ¬ viA A k = -1
  · have e : canViA A k = -3 := by unfold canViA; rw [if_neg (fun z => z g1), if_pos g2]
    rw [e, if_neg g2]
    exact ⟨s, rfl, hc, Only.refl _ _⟩
  have g2 : viA A k = -1 := Classical.byContradiction g2
  rw [if_pos g2]
  by_cases g3 : A 139 = 5
  · have e : canViA A k = -4 := by unfold canViA; rw [if_neg (fun z => z g1), if_neg (fun z => z g2), if_pos g3]
    rw [e, if_neg (by omega)]
    exact ⟨s, rfl, hc, Only.refl _ _⟩
  have e : canViA A k = 0 := by unfold canViA; rw [if_neg (fun z => z g1), if_neg (fun z => z g2), if_neg g3]
  have k0 : ¬ (0 : Int) < 0 := by omega
  have o1 : Only (vob2 p) s (wt (wt s (9, p, 0) (A 139) k) (1, p, 0) 3 (A 139 + 1)) := ((Only.refl (vob2 p) s).wt (Or.inl rfl) _ _).wt (Or.inr rfl) _ _
  rw [e, if_neg k0, if_neg k0, if_pos (by omega), gd_of (by omega) (by omega), o_visit, rd_wt_o (o := (9, p, 0)) (o' := (1, p, 0)) (by simp), hc.2.2.2.1, rd_wt_same, wr_of (x := A 139 + 1) (by omega) (by omega), wr_of (x := A 139 + 1) (by omega) (by omega)]
  refine ⟨_, rfl, hc.vis hw (fun j hj => ?_) o1 (fun j a b => by rw [rd_wt_k (by omega), rd_wt_o (by simp)]) (by rw [rd_wt_same, wr_of (by omega) (by omega)]; exact (upA_same _ _ _).symm) (fun i a b => ?_), o1.mono (fun o h => vob2_pob o h)⟩
  · unfold visA; rw [upA_ne (by omega), upA_ne (by omega)]
  · have e139 : visA A k 139 = A 139 + 1 := upA_same _ _ _
    rw [e139] at b
    rw [rd_wt_o (by simp)]
    unfold visA
    rw [upA_ne (by omega)]
    by_cases e : i = A 139
    · rw [e, rd_wt_same, upA_same, wr_of (by omega) (by omega)]
    · rw [rd_wt_k e, upA_ne (by omega)]
      exact hc.2.2.2.2 i a (by omega)
theorem e_visited (hm : MR s A) (hw : WV A) (o : u_O) : f_X11_visited o k s = some (viA A k, s) := by
  unfold f_X11_visited
  have hb := hw.1
  have key := loop_fu (fun m (b : Int × Int) => f_X11_visited_L4 m (fun v2_1 s_1 => some (v2_1, s_1)) o k b.1 b.2 s) (fun j => ((match ff (viC A k) 0 j with | some i => (i : Int) | none => -1), (j : Int))) (some (viA A k, s)) (A 139).toNat (by omega) (by
      intro j m hj
      dsimp only
      rw [f_X11_visited_L4, gd_of (by omega) (by omega), m_rd hm _ (by omega) (by omega), if_pos (by omega), wr_of (x := 140 + (j : Int)) (by omega) (by omega), gd_of (by omega) (by omega), m_rd hm _ (by omega) (by omega), jn_eq, wr_of (x := (j : Int) + 1) (by omega) (by omega), ff_snoc j 0, Nat.zero_add]
      cases e : ff (viC A k) 0 j with
      | none =>
        dsimp only
        by_cases hc : A (140 + (j : Int)) = k
        · rw [if_pos hc, if_pos (show viC A k j = true from decide_eq_true hc)]
          rfl
        · rw [if_neg hc, if_neg (show ¬ viC A k j = true from fun z => hc (of_decide_eq_true z))]
          rfl
      | some i =>
        dsimp only
        obtain ⟨a, b, c, d⟩ := ff_some e
        have c := of_decide_eq_true c
        have : A (140 + (j : Int)) ≠ k := by rw [← c]; exact (hw.2.2 i j (by omega) (by omega) (by omega)).symm
        rw [if_neg this]
        rfl) (by
      intro m
      dsimp only
      rw [f_X11_visited_L4, gd_of (by omega) (by omega), m_rd hm _ (by omega) (by omega), if_neg (by omega)]
      rfl)
  exact key
theorem e_canVisit (hm : MR s A) (hw : WV A) (o : u_O) : f_X11_canVisit o k s = some (canViA A k, s) := by
  unfold f_X11_canVisit canViA
  by_cases g1 : 0 ≤ k ∧ k ≤ 23
  · simp only [e_misKey, bd_eq, g1, and_self, if_true, if10, not_true_eq_false, if_false, e_visited hm hw o]
    by_cases g2 : viA A k = -1
    · rw [if_pos g2, if_neg (show ¬ ¬ viA A k = -1 from fun z => z g2), gd_of (by omega) (by omega), m_rd hm _ (by omega) (by omega), if_some]
    · rw [if_neg g2, if_pos g2]
  · simp only [e_misKey, bd_eq, g1, if_false, if00, not_false_eq_true, if_true]
theorem e_visitNow (hm : MR s A) (hw : WV A) (h : canViA A k = 0) (o : u_O) : ∃ s', f_X11_visitNow o k s = some (A 139 + 1, s') ∧ MR s' (visA A k) ∧ Only mal s s' := by
  obtain ⟨g1, g2, g3⟩ := canVi_0 hw h
  have hb := hw.1
  unfold f_X11_visitNow
  rw [m_rd hm _ (by omega) (by omega), wr_of (x := 140 + A 139) (by omega) (by omega)]
  have m1 : MR (wt s (a_Mo_all o) (140 + A 139) k) (upA A (140 + A 139) k) := MR.wt hm (InR_iff.mpr ⟨by omega, by omega⟩)
  rw [m_rd m1 _ (by omega) (by omega), upA_ne (by omega), wr_of (x := A 139 + 1) (by omega) (by omega)]
  have m2 : MR (wt (wt s (a_Mo_all o) (140 + A 139) k) (a_Mo_all o) 139 (A 139 + 1)) (visA A k) := MR.wt m1 (InR_iff.mpr ⟨by omega, by omega⟩)
  rw [m_rd m2 _ (by omega) (by omega), gd_of (by omega) (by omega), gd_of (by omega) (by omega), gd_of (by omega) (by omega), gd_of (by omega) (by omega), gd_of (by omega) (by omega), show visA A k 139 = A 139 + 1 from upA_same _ _ _]
  exact ⟨_, rfl, m2, ((Only.refl mal s).wt (o := a_Mo_all o) rfl _ _).wt (o := a_Mo_all o) rfl _ _⟩
theorem call_visits (k : Int) : Call (f_X10_visits oF k) (f_X11_visits oM k) := by
  refine call_op (op := f_X6_addVisit (1, 0, 0) k) (now := f_X11_visitNow oM k) (fun s => rfl) (fun A hw => ⟨canViA A k, A 139 + 1, visA A k, canVi_cases A k, fun h => ?_, fun s1 h1 => e_addVisit h1 hw, fun s hs => by unfold f_X11_visits; rw [e_canVisit hs hw.2.2.2.2.2.2.2 oM, bd_eq], fun h s1 h1 => e_visitNow h1 hw.2.2.2.2.2.2.2 h oM⟩)
  have wv := hw.2.2.2.2.2.2.2
  have g := canVi_0 wv h
  have hb := wv.1
  exact ⟨by omega, hw.vis (fun j hj => by unfold visA; rw [upA_ne (by omega), upA_ne (by omega)]) (vis_WV wv h)⟩
/-- skips -/
theorem ski_i {a i : Int} (ha : 0 ≤ a) (hi : 0 ≤ i) (hb : A 139 ≤ 5) : skiA A a (140 + i) = if a ≤ i ∧ i < A 139 - 1 then A (140 + (i + 1)) else A (140 + i) := by
  unfold skiA skiI
  rw [upA_ne (by omega)]
  by_cases h : a ≤ i ∧ i < A 139 - 1
  · rw [if_pos h, if_pos (by omega)]
    exact congrArg A (by omega)
  · rw [if_neg h, if_neg (by omega)]
theorem ski_WV (hw : WV A) {a : Int} (h0 : 0 ≤ a) (h1 : a < A 139) : WV (skiA A a) := by
  have hb := hw.1
  have e139 : skiA A a 139 = A 139 - 1 := upA_same _ _ _
  refine ⟨by rw [e139]; omega, fun i b c => ?_, fun i j b c d => ?_⟩
  · rw [ski_i h0 b hb.2]
    split
    · exact hw.2.1 _ (by omega) (by omega)
    · exact hw.2.1 _ (by omega) (by omega)
  · rw [e139] at d
    rw [ski_i h0 b hb.2, ski_i h0 (by omega) hb.2]
    split
    · rw [if_pos (by omega)]
      exact hw.2.2 _ _ (by omega) (by omega) (by omega)
    · split
      · exact hw.2.2 _ _ (by omega) (by omega) (by omega)
      · exact hw.2.2 _ _ (by omega) (by omega) (by omega)
theorem e_removeVisit (hc : CP s p A) (hw : WF A) : ∃ s', f_X6_removeVisit (1, p, 0) k s = some ((if canSkA A k < 0 then canSkA A k else A 139 - 1), s') ∧ CP s' p (if canSkA A k < 0 then A else skiA A (viA A k)) ∧ Only (pob p) s s' := by
  unfold f_X6_removeVisit
  have wv := hw.2.2.2.2.2.2.2
  have hb := wv.1
  by_cases g1 : ¬ (0 ≤ k ∧ k ≤ 23)
  · have e : canSkA A k = -2 := by unfold canSkA; rw [if_pos g1]
    rw [e, e_isKey, bd_eq, if_neg g1, if00]
    exact ⟨s, rfl, hc, Only.refl _ _⟩
  have g1 : 0 ≤ k ∧ k ≤ 23 := Classical.byContradiction g1
  rw [e_isKey, bd_eq, if_pos g1, if10, e_visitOf hc wv, bd_eq]
  by_cases g2 : viA A k = -1
  · have e : canSkA A k = -3 := by unfold canSkA; rw [if_neg (fun z => z g1), if_pos g2]
    rw [e, if_pos g2]
    exact ⟨s, rfl, hc, Only.refl _ _⟩
  have e : canSkA A k = 0 := by unfold canSkA; rw [if_neg (fun z => z g1), if_neg g2]
  have k0 : ¬ (0 : Int) < 0 := by omega
  have hv := canSk_0 wv e
  rw [e, if_neg k0, if_neg k0, if_neg g2]
  generalize viA A k = a at *
  rw [wr_of (x := a + 1) (by omega) (by omega)]
  obtain ⟨b, q, i1, i2, i3, i4⟩ := loop_relfu (fun m (b : Int × u_S) => f_X6_removeVisit_L28 m (fun s_3 => some ((rd (wt s_3 (1, p, 0) 3 (wr ((rd s_3 (1, p, 0) 3) - 1))) (1, p, 0) 3), (wt s_3 (1, p, 0) 3 (wr ((rd s_3 (1, p, 0) 3) - 1))))) (1, p, 0) b.1 b.2) (fun j b => b.1 = a + 1 + j ∧ Only (vob p) s b.2 ∧ rd b.2 (1, p, 0) 3 = A 139 ∧ ∀ i : Int, rd b.2 (9, p, 0) i = if a ≤ i ∧ i < a + j then rd s (9, p, 0) (i + 1) else rd s (9, p, 0) i) (fun b => some ((rd (wt b.2 (1, p, 0) 3 (wr ((rd b.2 (1, p, 0) 3) - 1))) (1, p, 0) 3), (wt b.2 (1, p, 0) 3 (wr ((rd b.2 (1, p, 0) 3) - 1))))) (A 139 - 1 - a).toNat (by omega) (by
      intro j b m hj ⟨e1, e2, e3, e4⟩
      obtain ⟨b1, s1⟩ := b
      dsimp only at e1 e2 e3 e4
      subst e1
      refine ⟨(wr (a + 1 + j + 1), wt s1 (9, p, 0) (a + j) (rd s (9, p, 0) (a + 1 + j))), ?_, by dsimp only; rw [wr_of (by omega) (by omega)]; omega, e2.wt rfl _ _, by dsimp only; rw [rd_wt_o (by simp)]; exact e3, ?_⟩
      · dsimp only
        rw [f_X6_removeVisit_L28, e3, if_pos (by omega), gd_of (by omega) (by omega), wr_of (x := a + 1 + j - 1) (by omega) (by omega), gd_of (by omega) (by omega), o_visit, e4, if_neg (by omega), show a + 1 + (j : Int) - 1 = a + j by omega]
      · intro i
        dsimp only
        by_cases hk : i = a + j
        · rw [hk, rd_wt_same, if_pos (by omega), wr_in (InR_rd _ _ _), show a + (j : Int) + 1 = a + 1 + j by omega]
        · rw [rd_wt_k hk, e4]
          by_cases h9 : a ≤ i ∧ i < a + j
          · rw [if_pos h9, if_pos (by omega)]
          · rw [if_neg h9, if_neg (by omega)]) (by
      intro b m ⟨e1, e2, e3, e4⟩
      rw [f_X6_removeVisit_L28, e3, if_neg (by omega)]) (a + 1, s) ⟨by simp, Only.refl _ _, hc.2.2.2.1, fun i => by rw [if_neg (by omega)]⟩
  obtain ⟨b1, s1⟩ := b
  dsimp only at i1 i2 i3 i4 q
  have o1 : Only (vob2 p) s (wt s1 (1, p, 0) 3 (A 139 - 1)) := (show Only (vob2 p) s s1 from i2.mono (fun o h => Or.inl h)).wt (Or.inr rfl) _ _
  rw [i3, rd_wt_same, wr_of (x := A 139 - 1) (by omega) (by omega), wr_of (x := A 139 - 1) (by omega) (by omega)] at q
  have e139 : skiA A a 139 = A 139 - 1 := upA_same _ _ _
  refine ⟨_, q, hc.vis hw (fun j hj => ?_) o1 (fun j x y => by rw [rd_wt_k (by omega), i2.rd (by simp [vob])]) (by rw [rd_wt_same, e139, wr_of (by omega) (by omega)]) (fun i x y => ?_), o1.mono (fun o h => vob2_pob o h)⟩
  · unfold skiA skiI; rw [upA_ne (by omega), if_neg (by omega)]
  · rw [e139] at y
    rw [rd_wt_o (by simp), i4, ski_i hv.1 x hb.2, show a + (((A 139 - 1 - a).toNat : Nat) : Int) = A 139 - 1 by omega]
    by_cases h9 : a ≤ i ∧ i < A 139 - 1
    · rw [if_pos h9, if_pos h9]; exact hc.2.2.2.2 (i + 1) (by omega) (by omega)
    · rw [if_neg h9, if_neg h9]; exact hc.2.2.2.2 i x (by omega)
theorem e_skipLoop (hm : MR s A) (hw : WV A) {a : Int} (h0 : 0 ≤ a) (h1 : a < A 139) (o : u_O) : ∃ s', f_X11_skips_L38 FU (fun s_4 => gd 139 145 (gd 139 145 (gd 139 145 (some ((rd (wt s_4 (a_Mo_all o) 139 (wr ((rd s_4 (a_Mo_all o) 139) - 1))) (a_Mo_all o) 139), (wt s_4 (a_Mo_all o) 139 (wr ((rd s_4 (a_Mo_all o) 139) - 1)))))))) o a s = some (A 139 - 1, s') ∧ MR s' (skiA A a) ∧ Only mal s s' := by
  have hb := hw.1
  obtain ⟨b, q, i1, i2, i3⟩ := loop_relfu (fun m (b : Int × u_S) => f_X11_skips_L38 m (fun s_4 => gd 139 145 (gd 139 145 (gd 139 145 (some ((rd (wt s_4 (a_Mo_all o) 139 (wr ((rd s_4 (a_Mo_all o) 139) - 1))) (a_Mo_all o) 139), (wt s_4 (a_Mo_all o) 139 (wr ((rd s_4 (a_Mo_all o) 139) - 1)))))))) o b.1 b.2) (fun j b => b.1 = a + j ∧ Only mal s b.2 ∧ MR b.2 (skiI A a (a + j))) (fun b => gd 139 145 (gd 139 145 (gd 139 145 (some ((rd (wt b.2 (a_Mo_all o) 139 (wr ((rd b.2 (a_Mo_all o) 139) - 1))) (a_Mo_all o) 139), (wt b.2 (a_Mo_all o) 139 (wr ((rd b.2 (a_Mo_all o) 139) - 1)))))))) (A 139 - 1 - a).toNat (by omega) (by
      intro j b m hj ⟨e1, e2, e3⟩
      obtain ⟨b1, s1⟩ := b
      dsimp only at e1 e2 e3
      subst e1
      have q1 : skiI A a (a + j) 139 = A 139 := if_neg (by omega)
      have q2 : skiI A a (a + j) (140 + (a + j) + 1) = A (140 + (a + j) + 1) := if_neg (by omega)
      have w := hw.2.1 (a + j + 1) (by omega) (by omega)
      rw [show 140 + (a + (j : Int) + 1) = 140 + (a + j) + 1 by omega] at w
      have m1 : MR (wt s1 (a_Mo_all o) (140 + (a + j)) (A (140 + (a + j) + 1))) (upA (skiI A a (a + j)) (140 + (a + j)) (A (140 + (a + j) + 1))) := MR.wt e3 (InR_iff.mpr ⟨by omega, by omega⟩)
      refine ⟨(wr (a + j + 1), wt s1 (a_Mo_all o) (140 + (a + j)) (A (140 + (a + j) + 1))), ?_, by dsimp only; rw [wr_of (by omega) (by omega)]; omega, e2.wt (o := a_Mo_all o) rfl _ _, ?_⟩
      · dsimp only
        rw [f_X11_skips_L38, gd_of (by omega) (by omega), m_rd e3 _ (by omega) (by omega), q1, wr_of (x := A 139 - 1) (by omega) (by omega), if_pos (by omega), wr_of (x := 140 + (a + j)) (by omega) (by omega), wr_of (x := 140 + (a + j) + 1) (by omega) (by omega), gd_of (by omega) (by omega), gd_of (by omega) (by omega), m_rd e3 _ (by omega) (by omega), q2]
      · dsimp only
        have e : upA (skiI A a (a + j)) (140 + (a + j)) (A (140 + (a + j) + 1)) = skiI A a (a + (j + 1 : Nat)) := by
          funext x
          unfold upA skiI
          by_cases k1 : x = 140 + (a + j)
          · rw [if_pos k1, if_pos (by omega), k1]
          · rw [if_neg k1]
            by_cases k3 : 140 + a ≤ x ∧ x < 140 + (a + j)
            · rw [if_pos k3, if_pos (by omega)]
            · rw [if_neg k3, if_neg (by omega)]
        rw [← e]
        exact m1) (by
      intro b m ⟨e1, e2, e3⟩
      have q1 : skiI A a (a + (((A 139 - 1 - a).toNat : Nat) : Int)) 139 = A 139 := if_neg (by omega)
      rw [f_X11_skips_L38, gd_of (by omega) (by omega), m_rd e3 _ (by omega) (by omega), q1, wr_of (x := A 139 - 1) (by omega) (by omega), if_neg (by omega)]) (a, s) ⟨by simp, Only.refl _ _, by
        have : skiI A a (a + (0 : Nat)) = A := by funext x; unfold skiI; rw [if_neg (by omega)]
        rw [this]; exact hm⟩
  obtain ⟨b1, s1⟩ := b
  dsimp only at i1 i2 i3 q
  rw [show a + (((A 139 - 1 - a).toNat : Nat) : Int) = A 139 - 1 by omega] at i3
  have q1 : skiI A a (A 139 - 1) 139 = A 139 := if_neg (by omega)
  have m2 : MR (wt s1 (a_Mo_all o) 139 (A 139 - 1)) (skiA A a) := MR.wt i3 (InR_iff.mpr ⟨by omega, by omega⟩)
  rw [m_rd i3 _ (by omega) (by omega), q1, wr_of (x := A 139 - 1) (by omega) (by omega), m_rd m2 _ (by omega) (by omega), gd_of (by omega) (by omega), gd_of (by omega) (by omega), gd_of (by omega) (by omega), show skiA A a 139 = A 139 - 1 from upA_same _ _ _] at q
  exact ⟨_, q, m2, i2.wt (o := a_Mo_all o) rfl _ _⟩
theorem call_skips (k : Int) : Call (f_X10_skips oF k) (f_X11_skips oM k) := by
  refine call_op2 (op := f_X6_removeVisit (1, 0, 0) k) (fun s => rfl) (fun A hw => ⟨canSkA A k, A 139 - 1, skiA A (viA A k), fun s_3 => f_X11_skips_L38 FU (fun s_4 => gd 139 145 (gd 139 145 (gd 139 145 (some ((rd (wt s_4 (a_Mo_all oM) 139 (wr ((rd s_4 (a_Mo_all oM) 139) - 1))) (a_Mo_all oM) 139), (wt s_4 (a_Mo_all oM) 139 (wr ((rd s_4 (a_Mo_all oM) 139) - 1)))))))) oM (viA A k) s_3, canSk_cases A k, fun h => ?_, fun s1 h1 => e_removeVisit h1 hw, fun s hs => ?_, fun h s1 h1 => ?_⟩)
  · have wv := hw.2.2.2.2.2.2.2
    have g := canSk_0 wv h
    have hb := wv.1
    exact ⟨by omega, hw.vis (fun j hj => by unfold skiA skiI; rw [upA_ne (by omega), if_neg (by omega)]) (ski_WV wv g.1 g.2)⟩
  · have wv := hw.2.2.2.2.2.2.2
    unfold f_X11_skips canSkA
    simp only [bd_id]
    by_cases g1 : 0 ≤ k ∧ k ≤ 23
    · simp only [e_misKey, bd_eq, g1, and_self, if_true, if10, not_true_eq_false, if_false, e_visited hs wv oM]
      by_cases g2 : viA A k = -1
      · rw [if_pos g2, if_pos g2]
        rfl
      · rw [if_neg g2, if_neg g2, if_neg (by omega)]
    · simp only [e_misKey, bd_eq, g1, if_false, if00, not_false_eq_true, if_true]
      rfl
  · have wv := hw.2.2.2.2.2.2.2
    have g := canSk_0 wv h
    obtain ⟨s2, a1, a2, a3⟩ := e_skipLoop h1 wv g.1 g.2 oM
    exact ⟨s2, a1, a2, a3⟩
end VISIT
