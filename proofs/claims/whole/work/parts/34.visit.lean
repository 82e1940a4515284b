/-! visits and skips -/
theorem ff_snoc {C : Nat → Bool} : ∀ (k j : Nat), ff C j (k + 1) = (match ff C j k with | some i => some i | none => if C (j + k) then some (j + k) else none)
  | 0, j => by simp [ff]
  | k + 1, j => by
    rw [ff, ff]
    by_cases h : C j = true
    · rw [if_pos h, if_pos h]
    · rw [if_neg h, if_neg h, ff_snoc k (j + 1), show j + 1 + k = j + (k + 1) by omega]
def viC (A : Int → Int) (k : Int) (i : Nat) : Bool := decide (A (140 + i) = k)
/-- where a key stands among the visits -/
def viA (A : Int → Int) (k : Int) : Int := match ff (viC A k) 0 (A 139).toNat with
  | some i => i
  | none => -1
theorem vi_b (A : Int → Int) (k : Int) (h : 0 ≤ A 139) : -1 ≤ viA A k ∧ viA A k < max (A 139) 0 := by
  unfold viA
  cases e : ff (viC A k) 0 (A 139).toNat with
  | none => dsimp only; omega
  | some i => have := ff_some e; dsimp only; omega
theorem WF.vis {A A' : Int → Int} (h : WF A) (hA : ∀ k, (k < 139 ∨ 144 < k) → A' k = A k) (hv : WV A') : WF A' := by
  obtain ⟨w1, w2, w3, w4, w5, w6, w7, w8⟩ := h
  have w84 := w2.1
  have e84 : A' 84 = A 84 := hA _ (by omega)
  have blk : ∀ l, l ≤ 3 → ∀ k, 21 * l ≤ k → k ≤ 21 * l + 20 → A' k = A k := fun l h k a b => hA k (by omega)
  have en : ∀ e k, 0 ≤ e → e < 10 → 0 ≤ k → k < 5 → entA A' e k = entA A e k := fun e k a b c d => hA _ (by omega)
  have hen : ∀ e, 0 ≤ e → e < A 84 → endA A' e = endA A e := by
    intro e a b
    have q := (w2.2 e a b).1
    unfold endA lastA
    rw [en e 3 a (by omega) (by omega) (by omega), en e 0 a (by omega) (by omega) (by omega), en e 1 a (by omega) (by omega) (by omega), len_congr (blk _ q.2) (w1 _ q.1 q.2)]
  refine ⟨fun l a b => (w1 l a b).congr (blk l b), ⟨by rw [e84]; exact w2.1, fun e a b => ?_⟩, fun e g a b c d => ?_, by rw [hA 135 (by omega)]; exact w4, by rw [hA 136 (by omega)]; exact w5, by rw [hA 137 (by omega)]; exact w6, by rw [hA 138 (by omega)]; exact w7, hv⟩
  · rw [e84] at b
    rw [en e 0 a (by omega) (by omega) (by omega), en e 1 a (by omega) (by omega) (by omega), en e 2 a (by omega) (by omega) (by omega), en e 3 a (by omega) (by omega) (by omega), en e 4 a (by omega) (by omega) (by omega)]
    exact w2.2 e a b
  · rw [e84] at c
    rw [en e 4 a (by omega) (by omega) (by omega), en g 4 (by omega) (by omega) (by omega) (by omega)] at d
    rw [hen e a (by omega), hen g (by omega) c, en e 3 a (by omega) (by omega) (by omega), en g 3 (by omega) (by omega) (by omega) (by omega)]
    exact w3 e g a b c d
def vob2 (p : Nat) (o : u_O) : Prop := o = (9, p, 0) ∨ o = (1, p, 0)
theorem CP.vis {s s' : u_S} {p : Nat} {A A' : Int → Int} (hc : CP s p A) (hw : WF A) (hA : ∀ k, (k < 139 ∨ 144 < k) → A' k = A k) (ho : Only (vob2 p) s s') (h1 : ∀ k, 4 ≤ k → k ≤ 7 → rd s' (1, p, 0) k = rd s (1, p, 0) k) (h2 : rd s' (1, p, 0) 3 = A' 139) (h3 : ∀ i, 0 ≤ i → i < A' 139 → rd s' (9, p, 0) i = A' (140 + i)) : CP s' p A' := by
  obtain ⟨c1, c2, c3, c4, c5⟩ := hc
  have w84 := hw.2.1.1
  have blk : ∀ l, l ≤ 3 → ∀ k, 21 * l ≤ k → k ≤ 21 * l + 20 → A' k = A k := fun l h k a b => hA k (by omega)
  refine ⟨fun l a b => ?_, ⟨by rw [ho.rd (by simp [vob2]), hA 84 (by omega)]; exact c2.1, fun i k a b c d => ?_⟩, ⟨by rw [h1 4 (by omega) (by omega), hA 135 (by omega)]; exact c3.1, by rw [h1 5 (by omega) (by omega), hA 136 (by omega)]; exact c3.2.1, by rw [h1 6 (by omega) (by omega), hA 137 (by omega)]; exact c3.2.2.1, by rw [h1 7 (by omega) (by omega), hA 138 (by omega)]; exact c3.2.2.2⟩, h2, h3⟩
  · have r := LR.congr (blk l b) (hw.1 l a b) (c1 l a b)
    refine ⟨by rw [ho.rd (by simp [vob2])]; exact r.1, fun i c d => ?_⟩
    rw [o_steps, o_ticks, ho.rd (by simp [vob2]), ho.rd (by simp [vob2])]
    exact r.2 i c d
  · rw [hA 84 (by omega)] at b
    rw [ho.rd (by simp [vob2]), show entA A' i k = entA A i k from hA _ (by omega)]
    exact c2.2 i k a b c d
theorem vob2_pob {p : Nat} (o : u_O) (h : vob2 p o) : pob p o := by rcases h with h | h <;> subst h <;> simp [pob]
def canViA (A : Int → Int) (k : Int) : Int := if ¬ (0 ≤ k ∧ k ≤ 23) then -2 else if ¬ viA A k = -1 then -3 else if A 139 = 5 then -4 else 0
def visA (A : Int → Int) (k : Int) : Int → Int := upA (upA A (140 + A 139) k) 139 (A 139 + 1)
def skiI (A : Int → Int) (a j : Int) : Int → Int := fun k => if 140 + a ≤ k ∧ k < 140 + j then A (k + 1) else A k
def skiA (A : Int → Int) (a : Int) : Int → Int := upA (skiI A a (A 139 - 1)) 139 (A 139 - 1)
def canSkA (A : Int → Int) (k : Int) : Int := if ¬ (0 ≤ k ∧ k ≤ 23) then -2 else if viA A k = -1 then -3 else 0
section VISIT
variable {s : u_S} {A : Int → Int} {k : Int} {p : Nat}
theorem canVi_cases (A : Int → Int) (k : Int) : canViA A k = -2 ∨ canViA A k = -3 ∨ canViA A k = -4 ∨ canViA A k = 0 := by
  unfold canViA
  repeat' split
  all_goals omega
theorem canSk_cases (A : Int → Int) (k : Int) : canSkA A k = -2 ∨ canSkA A k = -3 ∨ canSkA A k = -4 ∨ canSkA A k = 0 := by
  unfold canSkA
  repeat' split
  all_goals omega
theorem canVi_0 (hw : WV A) (h : canViA A k = 0) : (0 ≤ k ∧ k ≤ 23) ∧ (∀ i, 0 ≤ i → i < A 139 → A (140 + i) ≠ k) ∧ A 139 < 5 := by
  unfold canViA at h
  split at h
  · omega
  · rename_i g
    have g := Classical.byContradiction g
    split at h
    · omega
    · rename_i g2
      split at h
      · omega
      · have hb := hw.1
        refine ⟨g, fun i a b e => g2 ?_, by omega⟩
        unfold viA
        intro z
        cases q : ff (viC A k) 0 (A 139).toNat with
        | none =>
          have := ff_none q i.toNat (by omega) (by omega)
          unfold viC at this
          rw [Int.toNat_of_nonneg a] at this
          simp [e] at this
        | some j => rw [q] at z; dsimp only at z; omega
theorem canSk_0 (hw : WV A) (h : canSkA A k = 0) : 0 ≤ viA A k ∧ viA A k < A 139 := by
  unfold canSkA at h
  split at h
  · omega
  · split at h
    · omega
    · have := vi_b A k hw.1.1
      have := hw.1
      omega
theorem e_visitOf (hc : CP s p A) (hw : WV A) : f_X6_visitOf (1, p, 0) k s = some (viA A k, s) := by
  unfold f_X6_visitOf viA
  have hb := hw.1
  have h := loop_fffu (fun m j => f_X6_visitOf_L2 m (fun s_1 => some ((-1), s_1)) (1, p, 0) k (j : Int) s) (viC A k) (fun i => some ((i : Int), s)) (some (-1, s)) (A 139).toNat (by omega) (by
      intro j m hj
      rw [f_X6_visitOf_L2, hc.2.2.2.1, if_pos (by omega), gd_of (by omega) (by omega), o_visit, hc.2.2.2.2 j (by omega) (by omega), wr_of (by omega) (by omega)]
      unfold viC
      simp only [decide_eq_true_eq]
      rfl) (by
      intro m
      rw [f_X6_visitOf_L2, hc.2.2.2.1, if_neg (by omega)])
  rw [show (0 : Int) = ((0 : Nat) : Int) from rfl, h]
  cases ff (viC A k) 0 (A 139).toNat <;> rfl
theorem vis_WV (hw : WV A) (h : canViA A k = 0) : WV (visA A k) := by
  obtain ⟨g1, g2, g3⟩ := canVi_0 hw h
  have hb := hw.1
  have e139 : visA A k 139 = A 139 + 1 := upA_same _ _ _
  have ei : ∀ i, 0 ≤ i → i < A 139 → visA A k (140 + i) = A (140 + i) := fun i a b => by unfold visA; rw [upA_ne (by omega), upA_ne (by omega)]
  have el : visA A k (140 + A 139) = k := by unfold visA; rw [upA_ne (by omega), upA_same]
  refine ⟨by rw [e139]; omega, fun i a b => ?_, fun i j a b c => ?_⟩
  · rw [e139] at b
    by_cases e : i = A 139
    · rw [e, el]; exact g1
    · rw [ei i a (by omega)]; exact hw.2.1 i a (by omega)
  · rw [e139] at c
    by_cases e : j = A 139
    · rw [e, el, ei i a (by omega)]; exact g2 i a (by omega)
    · rw [ei i a (by omega), ei j (by omega) (by omega)]; exact hw.2.2 i j a b (by omega)
theorem e_addVisit (hc : CP s p A) (hw : WF A) : ∃ s', f_X6_addVisit (1, p, 0) k s = some ((if canViA A k < 0 then canViA A k else A 139 + 1), s') ∧ CP s' p (if canViA A k < 0 then A else visA A k) ∧ Only (pob p) s s' := by
  unfold f_X6_addVisit
  have wv := hw.2.2.2.2.2.2.2
  have hb := wv.1
  by_cases g1 : ¬ (0 ≤ k ∧ k ≤ 23)
  · have e : canViA A k = -2 := by unfold canViA; rw [if_pos g1]
    rw [e, e_isKey, bd_eq, if_neg g1, if00]
    exact ⟨s, rfl, hc, Only.refl _ _⟩
  have g1 : 0 ≤ k ∧ k ≤ 23 := Classical.byContradiction g1
  rw [e_isKey, bd_eq, if_pos g1, if10, e_visitOf hc wv, bd_eq, hc.2.2.2.1]
  by_cases g2 : ¬ viA A k = -1
  · have e : canViA A k = -3 := by unfold canViA; rw [if_neg (fun z => z g1), if_pos g2]
    rw [e, if_neg g2]
    exact ⟨s, rfl, hc, Only.refl _ _⟩
  have g2 : viA A k = -1 := Classical.byContradiction g2
  rw [if_pos g2]
  by_cases g3 : A 139 = 5
  · have e : canViA A k = -4 := by unfold canViA; rw [if_neg (fun z => z g1), if_neg (fun z => z g2), if_pos g3]
    rw [e, if_neg (by omega)]
    exact ⟨s, rfl, hc, Only.refl _ _⟩
  have e : canViA A k = 0 := by unfold canViA; rw [if_neg (fun z => z g1), if_neg (fun z => z g2), if_neg g3]
  have k0 : ¬ (0 : Int) < 0 := by omega
  have o1 : Only (vob2 p) s (wt (wt s (9, p, 0) (A 139) k) (1, p, 0) 3 (A 139 + 1)) := ((Only.refl (vob2 p) s).wt (Or.inl rfl) _ _).wt (Or.inr rfl) _ _
  rw [e, if_neg k0, if_neg k0, if_pos (by omega), gd_of (by omega) (by omega), o_visit, rd_wt_o (o := (9, p, 0)) (o' := (1, p, 0)) (by simp), hc.2.2.2.1, rd_wt_same, wr_of (x := A 139 + 1) (by omega) (by omega), wr_of (x := A 139 + 1) (by omega) (by omega)]
  refine ⟨_, rfl, hc.vis hw (fun j hj => ?_) o1 (fun j a b => by rw [rd_wt_k (by omega), rd_wt_o (by simp)]) (by rw [rd_wt_same, wr_of (by omega) (by omega)]; exact (upA_same _ _ _).symm) (fun i a b => ?_), o1.mono (fun o h => vob2_pob o h)⟩
  · unfold visA; rw [upA_ne (by omega), upA_ne (by omega)]
  · have e139 : visA A k 139 = A 139 + 1 := upA_same _ _ _
    rw [e139] at b
    rw [rd_wt_o (by simp)]
    unfold visA
    rw [upA_ne (by omega)]
    by_cases e : i = A 139
    · rw [e, rd_wt_same, upA_same, wr_of (by omega) (by omega)]
    · rw [rd_wt_k e, upA_ne (by omega)]
      exact hc.2.2.2.2 i a (by omega)
end VISIT
