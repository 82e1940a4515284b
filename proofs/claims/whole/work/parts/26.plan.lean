/-! A PLAN in the class, and what is as told -/
/-- the first of k from j on that is so -/
def ff (C : Nat → Bool) : Nat → Nat → Option Nat
  | _, 0 => none
  | j, k + 1 => if C j then some j else ff C (j + 1) k
theorem ff_some {C : Nat → Bool} {i : Nat} : ∀ {k j : Nat}, ff C j k = some i → j ≤ i ∧ i < j + k ∧ C i = true ∧ ∀ x, j ≤ x → x < i → C x = false
  | 0, j, h => by cases h
  | k + 1, j, h => by
    rw [ff] at h
    split at h
    · cases h
      exact ⟨Nat.le_refl _, by omega, ‹_›, fun x a b => by omega⟩
    · obtain ⟨a, b, c, d⟩ := ff_some h
      refine ⟨by omega, by omega, c, fun x e f => ?_⟩
      by_cases hx : x = j
      · subst hx; simpa using ‹¬ C x = true›
      · exact d x (by omega) f
theorem ff_none {C : Nat → Bool} : ∀ {k j : Nat}, ff C j k = none → ∀ x, j ≤ x → x < j + k → C x = false
  | 0, j, _, x, a, b => by omega
  | k + 1, j, h, x, a, b => by
    rw [ff] at h
    split at h
    · cases h
    · by_cases hx : x = j
      · subst hx; simpa using ‹¬ C x = true›
      · exact ff_none h x (by omega) (by omega)
theorem ff_eq {C : Nat → Bool} {k i : Nat} (h1 : i < k) (h2 : C i = true) (h3 : ∀ x, x < i → C x = false) : ff C 0 k = some i := by
  cases h : ff C 0 k with
  | none => have := ff_none h i (by omega) (by omega); rw [h2] at this; cases this
  | some q =>
    obtain ⟨a, b, c, d⟩ := ff_some h
    rcases Nat.lt_trichotomy q i with e | e | e
    · have := h3 q e; rw [c] at this; cases this
    · rw [e]
    · have := d i (by omega) e; rw [h2] at this; cases this
theorem ff_no {C : Nat → Bool} {k : Nat} (h : ∀ x, x < k → C x = false) : ff C 0 k = none := by
  cases e : ff C 0 k with
  | none => rfl
  | some q => obtain ⟨a, b, c, d⟩ := ff_some e; have := h q (by omega); rw [c] at this; cases this
theorem ff_congr {C D : Nat → Bool} : ∀ {k j : Nat}, (∀ x, j ≤ x → x < j + k → C x = D x) → ff C j k = ff D j k
  | 0, _, _ => rfl
  | k + 1, j, h => by
    rw [ff, ff, h j (by omega) (by omega), ff_congr (fun x a b => h x (by omega) (by omega))]
theorem loop_ff {α : Type} (L : Nat → Nat → Option α) (C : Nat → Bool) (X : Nat → Option α) (Y : Option α) (n : Nat) (hs : ∀ j m, j < n → L (m + 1) j = if C j then X j else L m (j + 1)) (he : ∀ m, L (m + 1) n = Y) : ∀ (k j m : Nat), j + k = n → k < m → L m j = (match ff C j k with | some i => X i | none => Y)
  | 0, j, m, h1, h2 => by
    cases m with
    | zero => omega
    | succ m =>
      have : j = n := by omega
      subst this
      exact he m
  | k + 1, j, m, h1, h2 => by
    cases m with
    | zero => omega
    | succ m =>
      rw [hs j m (by omega), ff]
      split
      · rfl
      · exact loop_ff L C X Y n hs he k (j + 1) m (by omega) (by omega)
theorem loop_fffu {α : Type} (L : Nat → Nat → Option α) (C : Nat → Bool) (X : Nat → Option α) (Y : Option α) (n : Nat) (hn : n < 100000) (hs : ∀ j m, j < n → L (m + 1) j = if C j then X j else L m (j + 1)) (he : ∀ m, L (m + 1) n = Y) : L FU 0 = (match ff C 0 n with | some i => X i | none => Y) :=
  loop_ff L C X Y n hs he n 0 FU (by omega) (FU_gt hn)
def ER (s : u_S) (e : Nat) (A : Int → Int) : Prop := rd s (6, e, 0) 1 = A 84 ∧ ∀ i k, 0 ≤ i → i < A 84 → 0 ≤ k → k < 5 → rd s (8, e, i.toNat) k = entA A i k
def CP (s : u_S) (p : Nat) (A : Int → Int) : Prop := (∀ l, 0 ≤ l → l ≤ 3 → LR s (3, p, l.toNat) A l) ∧ ER s p A ∧ (rd s (1, p, 0) 4 = A 135 ∧ rd s (1, p, 0) 5 = A 136 ∧ rd s (1, p, 0) 6 = A 137 ∧ rd s (1, p, 0) 7 = A 138) ∧ rd s (1, p, 0) 3 = A 139 ∧ ∀ i, 0 ≤ i → i < A 139 → rd s (9, p, 0) i = A (140 + i)
/-- all is as told -/
def WE (A : Int → Int) : Prop := (0 ≤ A 84 ∧ A 84 ≤ 10) ∧ ∀ e, 0 ≤ e → e < A 84 → (0 ≤ entA A e 0 ∧ entA A e 0 ≤ 3) ∧ (0 ≤ entA A e 1 ∧ entA A e 1 ≤ 4) ∧ (-21 ≤ entA A e 2 ∧ entA A e 2 ≤ 21) ∧ (0 ≤ entA A e 3 ∧ entA A e 3 ≤ 199) ∧ (0 ≤ entA A e 4 ∧ entA A e 4 ≤ 3)
def endA (A : Int → Int) (e : Int) : Int := entA A e 3 + lastA A (entA A e 0) (entA A e 1)
def WO (A : Int → Int) : Prop := ∀ e g, 0 ≤ e → e < g → g < A 84 → entA A e 4 = entA A g 4 → endA A e ≤ entA A g 3 ∨ endA A g ≤ entA A e 3
def WV (A : Int → Int) : Prop := (0 ≤ A 139 ∧ A 139 ≤ 5) ∧ (∀ i, 0 ≤ i → i < 5 → 0 ≤ A (140 + i) ∧ A (140 + i) ≤ 23) ∧ ∀ i j, 0 ≤ i → i < j → j < A 139 → A (140 + i) ≠ A (140 + j)
def WF (A : Int → Int) : Prop := (∀ l, 0 ≤ l → l ≤ 3 → WL A l) ∧ WE A ∧ WO A ∧ (0 ≤ A 135 ∧ A 135 ≤ 10) ∧ (0 ≤ A 136 ∧ A 136 ≤ 6) ∧ (1 ≤ A 137 ∧ A 137 ≤ 8) ∧ (0 ≤ A 138 ∧ A 138 ≤ 23) ∧ WV A
/-- the objects of a plan -/
def pob (p : Nat) (o : u_O) : Prop := o.2.1 = p ∧ (o.1 = 1 ∨ o.1 = 3 ∨ o.1 = 4 ∨ o.1 = 5 ∨ o.1 = 6 ∨ o.1 = 8 ∨ o.1 = 9)
theorem CP.keep {s s' : u_S} {p : Nat} {A : Int → Int} (h : CP s p A) {P : u_O → Prop} (ho : Only P s s') (hp : ∀ o, pob p o → ¬ P o) : CP s' p A := by
  obtain ⟨h1, h2, h3, h4, h5⟩ := h
  have r : ∀ o k, pob p o → rd s' o k = rd s o k := fun o k h => ho.rd (hp o h) k
  refine ⟨fun l a b => ⟨by rw [r _ _ (by simp [pob])]; exact (h1 l a b).1, fun i c d => ?_⟩, ⟨by rw [r _ _ (by simp [pob])]; exact h2.1, fun i k a b c d => by rw [r _ _ (by simp [pob])]; exact h2.2 i k a b c d⟩, ⟨by rw [r _ _ (by simp [pob])]; exact h3.1, by rw [r _ _ (by simp [pob])]; exact h3.2.1, by rw [r _ _ (by simp [pob])]; exact h3.2.2.1, by rw [r _ _ (by simp [pob])]; exact h3.2.2.2⟩, by rw [r _ _ (by simp [pob])]; exact h4, fun i a b => by rw [r _ _ (by simp [pob])]; exact h5 i a b⟩
  rw [r _ _ (by simp [pob, a_Line_steps]), r _ _ (by simp [pob, a_Line_ticks])]
  exact (h1 l a b).2 i c d
theorem ER.keep {s s' : u_S} {e : Nat} {A : Int → Int} (h : ER s e A) {P : u_O → Prop} (ho : Only P s s') (h6 : ¬ P (6, e, 0)) (h8 : ∀ i, ¬ P (8, e, i)) : ER s' e A := ⟨by rw [ho.rd h6]; exact h.1, fun i k a b c d => by rw [ho.rd (h8 _)]; exact h.2 i k a b c d⟩
theorem o_line (p : Nat) (l : Int) : e_Line (a_Plan_lines (1, p, 0)) l = (3, p, l.toNat) := rfl
theorem o_entries (p : Nat) : a_Plan_entries (1, p, 0) = (6, p, 0) := rfl
theorem o_entry (p : Nat) (i : Int) : e_Entry (a_Entries_items (6, p, 0)) i = (8, p, i.toNat) := rfl
theorem o_visit (p : Nat) : a_Plan_toVisit (1, p, 0) = (9, p, 0) := rfl
theorem o_steps (p l : Nat) : a_Line_steps (3, p, l) = (4, p, l) := rfl
theorem o_ticks (p l : Nat) : a_Line_ticks (3, p, l) = (5, p, l) := rfl
section PLAN
variable {s : u_S} {A : Int → Int} {l : Int} {p : Nat}
theorem e_having {e : Nat} (h : ER s e A) (hn : 0 ≤ A 84 ∧ A 84 ≤ 10) (l : Int) : f_X1_having (6, e, 0) l s = some (nenA A l (A 84).toNat, s) := by
  unfold f_X1_having
  refine loop_fu (fun m (b : Int × Int) => f_X1_having_L4 m _ (6, e, 0) l b.1 b.2 s) (fun j => (nenA A l j, (j : Int))) _ (A 84).toNat (by omega) ?_ ?_
  · intro j m hj
    show f_X1_having_L4 (m + 1) _ (6, e, 0) l (nenA A l j) (j : Int) s = f_X1_having_L4 m _ (6, e, 0) l (nenA A l j + (if entA A j 0 = l then 1 else 0)) ((j + 1 : Nat) : Int) s
    have hb := nen_b A l j
    rw [f_X1_having_L4, h.1, if_pos (by omega), gd_of (by omega) (by omega), jn_eq, o_entry, h.2 j 0 (by omega) (by omega) (by omega) (by omega)]
    by_cases hq : entA A j 0 = l
    · rw [if_pos hq, if_pos hq, wr_of (x := nenA A l j + 1) (by omega) (by omega)]
      dsimp only
      rw [wr_of (by omega) (by omega)]
      rfl
    · rw [if_neg hq, if_neg hq]
      dsimp only
      rw [wr_of (by omega) (by omega), Int.add_zero]
      rfl
  · intro m
    show f_X1_having_L4 (m + 1) _ (6, e, 0) l _ _ s = _
    rw [f_X1_having_L4, h.1, if_neg (by omega)]
theorem e_lengthOf (hl : ∀ l, 0 ≤ l → l ≤ 3 → LR s (3, p, l.toNat) A l) (hw : ∀ l, 0 ≤ l → l ≤ 3 → WL A l) (h0 : 0 ≤ l) (h1 : l ≤ 3) (f : Int) : f_X6_lengthOf (1, p, 0) l f s = some (lastA A l f, s) := by
  unfold f_X6_lengthOf lastA
  have hb := (hw l h0 h1).lenb
  rw [e_isLine, bd_eq, if_pos (show 0 ≤ l ∧ l ≤ 3 by omega), if10, gd_of (by omega) (by omega), o_line, e_length (hl l h0 h1) (hw l h0 h1), bd_eq, bd_eq]
  by_cases h4 : f = 4
  · rw [if_pos h4, if_pos h4, wr_of (by omega) (by omega)]
  · rw [if_neg h4, if_neg h4, gd_of (by omega) (by omega)]
def bzA (A : Int → Int) (v a b : Int) (e : Nat) : Bool := decide (entA A e 4 = v ∧ a < endA A e ∧ entA A e 3 < b)
theorem end_b (hl : ∀ l, 0 ≤ l → l ≤ 3 → WL A l) (he : WE A) {e : Int} (h0 : 0 ≤ e) (h1 : e < A 84) : entA A e 3 ≤ endA A e ∧ endA A e ≤ 279 := by
  have h := he.2 e h0 h1
  have hb := (hl (entA A e 0) h.1.1 h.1.2).lenb
  unfold endA lastA
  split <;> omega
theorem e_isFree (hc : CP s p A) (hl : ∀ l, 0 ≤ l → l ≤ 3 → WL A l) (he : WE A) (v a b : Int) : f_X6_isFree (1, p, 0) v a b s = some ((if (ff (bzA A v a b) 0 (A 84).toNat).isSome then 0 else 1), s) := by
  unfold f_X6_isFree
  have hn := he.1
  have h := loop_fffu (fun m j => f_X6_isFree_L3 m (fun s_1 => some (1, s_1)) (1, p, 0) v a b (j : Int) s) (bzA A v a b) (fun _ => some (0, s)) (some (1, s)) (A 84).toNat (by omega) (by
      intro j m hj
      have q := he.2 j (by omega) (by omega)
      have q2 := end_b hl he (e := (j : Int)) (by omega) (by omega)
      have q3 : endA A j = entA A j 3 + lastA A (entA A j 0) (entA A j 1) := rfl
      rw [f_X6_isFree_L3, o_entries, hc.2.1.1, if_pos (by omega), gd_of (by omega) (by omega), o_entry, hc.2.1.2 j 0 (by omega) (by omega) (by omega) (by omega), hc.2.1.2 j 1 (by omega) (by omega) (by omega) (by omega), e_lengthOf hc.1 hl q.1.1 q.1.2, bd_eq, hc.2.1.2 j 3 (by omega) (by omega) (by omega) (by omega), hc.2.1.2 j 4 (by omega) (by omega) (by omega) (by omega), wr_of (x := entA A j 3 + _) (by omega) (by omega), ← q3, wr_of (x := (j : Int) + 1) (by omega) (by omega)]
      unfold bzA
      simp only [jn_eq, decide_eq_true_eq]
      repeat' split
      all_goals first | rfl | omega) (by
      intro m
      rw [f_X6_isFree_L3, o_entries, hc.2.1.1, if_neg (by omega)])
  rw [show (0 : Int) = ((0 : Nat) : Int) from rfl, h]
  cases ff (bzA A v a b) 0 (A 84).toNat <;> rfl
end PLAN
