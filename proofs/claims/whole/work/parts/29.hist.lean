/-! STATES to go back to, refusals: class and model -/
def push (A : Int → Int) (H : Int → Int → Int) : Int → Int → Int := fun j => if j = 0 then A else H (j - 1)
def pull (H : Int → Int → Int) : Int → Int → Int := fun j => H (j + 1)
def refC (c : Int → Int) (why : Int) : Int → Int := fun k => if k = -2 - why then wr (c k + 1) else c k
/-- the class's other things -/
def CR (s : u_S) (H : Int → Int → Int) (n : Int) (T : Int → Int) (tl : Int) (c : Int → Int) : Prop := (rd s (12, 0, 0) 4 = tl ∧ ∀ i : Int, 0 ≤ i → i < tl → rd s (13, 0, 0) i = T i) ∧ (∀ k : Int, 0 ≤ k → k ≤ 2 → rd s (0, 0, 0) (4 + k) = c k) ∧ rd s (10, 0, 0) 2 = n ∧ (0 ≤ rd s (10, 0, 0) 1 ∧ rd s (10, 0, 0) 1 < 5) ∧ ∀ j : Int, 0 ≤ j → j < n → CP s (2 + ((rd s (10, 0, 0) 1 - j) % 5).toNat) (H j)
theorem CR.keep {s s' : u_S} {H : Int → Int → Int} {n : Int} {T : Int → Int} {tl : Int} {c : Int → Int} (h : CR s H n T tl c) {P : u_O → Prop} (ho : Only P s s') (hP : ∀ o, P o → 14 ≤ o.1 ∨ pob 0 o ∨ pob 1 o ∨ pob 7 o) : CR s' H n T tl c := by
  obtain ⟨h1, h2, h3, h4, h5⟩ := h
  have n0 : ∀ k a b, (k = 12 ∨ k = 13 ∨ k = 0 ∨ k = 10) → ¬ P (k, a, b) := by
    intro k a b hk hp
    rcases hP _ hp with h | h | h | h
    · dsimp only at h; omega
    · rcases hk with rfl | rfl | rfl | rfl <;> simp [pob] at h
    · rcases hk with rfl | rfl | rfl | rfl <;> simp [pob] at h
    · rcases hk with rfl | rfl | rfl | rfl <;> simp [pob] at h
  refine ⟨⟨by rw [ho.rd (n0 _ _ _ (by simp))]; exact h1.1, fun i a b => by rw [ho.rd (n0 _ _ _ (by simp))]; exact h1.2 i a b⟩, fun k a b => by rw [ho.rd (n0 _ _ _ (by simp))]; exact h2 k a b, by rw [ho.rd (n0 _ _ _ (by simp))]; exact h3, by rw [ho.rd (n0 _ _ _ (by simp))]; exact h4, fun j a b => ?_⟩
  rw [ho.rd (n0 _ _ _ (by simp))]
  refine (h5 j a b).keep ho (fun o h hp => ?_)
  have q : ((rd s (10, 0, 0) 1 - j) % 5).toNat < 5 := by omega
  obtain ⟨e1, e2⟩ := h
  rcases hP _ hp with h | h | h | h
  · omega
  · have := h.1; omega
  · have := h.1; omega
  · have := h.1; omega
section HIST
variable {s : u_S} {A : Int → Int} {H : Int → Int → Int} {n : Int} {T : Int → Int} {tl : Int} {c : Int → Int}
def hob (o : u_O) : Prop := o = (10, 0, 0) ∨ ∃ q, 2 ≤ q ∧ q ≤ 6 ∧ pob q o
theorem e_keep (hc : CP s 1 A) (hw : WF A) (hr : CR s H n T tl c) (hn : 0 ≤ n ∧ n ≤ 5) : ∃ s', f_X4_keep (10, 0, 0) (1, 1, 0) s = some (0, s') ∧ Only hob s s' ∧ CR s' (push A H) (min (n + 1) 5) T tl c := by
  unfold f_X4_keep
  obtain ⟨h1, h2, h3, h4, h5⟩ := hr
  have hw0 : ∃ w, w = rd s (10, 0, 0) 1 := ⟨_, rfl⟩
  obtain ⟨w, ew⟩ := hw0
  rw [← ew] at h4 h5
  have e1 : Int.tmod (wr (w + 1)) 5 = (w + 1) % 5 := by rw [wr_of (by omega) (by omega), Int.tmod_eq_emod_of_nonneg (by omega)]
  rw [← ew, e1, rd_wt_same, wr_of (x := (w + 1) % 5) (by omega) (by omega), gd_of (by omega) (by omega), show e_Plan (a_History_kept (10, 0, 0)) ((w + 1) % 5) = (1, 2 + ((w + 1) % 5).toNat, 0) from rfl]
  have o1 : Only hob s (wt s (10, 0, 0) 1 ((w + 1) % 5)) := (Only.refl hob s).wt (Or.inl rfl) _ _
  have o1' : Only (fun o => o = (10, 0, 0)) s (wt s (10, 0, 0) 1 ((w + 1) % 5)) := (Only.refl (fun o => o = (10, 0, 0)) s).wt rfl _ _
  have nb : ∀ o, pob 1 o → ¬ hob o := by
    intro o h z
    rcases z with z | ⟨q, a, b, z⟩
    · subst z; simp [pob] at h
    · have := h.1; have := z.1; omega
  obtain ⟨s1, a1, a2, a3⟩ := e_planCopy (p := 2 + ((w + 1) % 5).toNat) (q := 1) (by omega) (hc.keep o1 nb) hw
  have a2' : Only hob s s1 := o1.trans (a2.mono (fun o h => Or.inr ⟨_, by omega, by omega, h⟩))
  have r2 : rd s1 (10, 0, 0) 2 = n := by rw [a2.rd (by simp [pob]), rd_wt_k (by decide)]; exact h3
  have r1 : rd s1 (10, 0, 0) 1 = (w + 1) % 5 := by rw [a2.rd (by simp [pob]), rd_wt_same, wr_of (by omega) (by omega)]
  have nz : ∀ k a b, (k = 12 ∨ k = 13 ∨ k = 0) → ¬ hob (k, a, b) := by
    intro k a b hk hp
    rcases hp with h | ⟨q, _, _, h⟩
    · rcases hk with rfl | rfl | rfl <;> simp at h
    · rcases hk with rfl | rfl | rfl <;> simp [pob] at h
  -- what holds in any state that differs from s1 in slot 2 of the history alone
  have fin : ∀ s2, Only hob s s2 → rd s2 (10, 0, 0) 2 = min (n + 1) 5 → rd s2 (10, 0, 0) 1 = (w + 1) % 5 → Only (fun o => o = (10, 0, 0)) s1 s2 → CR s2 (push A H) (min (n + 1) 5) T tl c := by
    intro s2 ho g2 g1 go
    refine ⟨⟨by rw [ho.rd (nz _ _ _ (by simp))]; exact h1.1, fun i a b => by rw [ho.rd (nz _ _ _ (by simp))]; exact h1.2 i a b⟩, fun k a b => by rw [ho.rd (nz _ _ _ (by simp))]; exact h2 k a b, g2, by rw [g1]; omega, fun j j0 j1 => ?_⟩
    rw [g1]
    have pk : ∀ q o, pob q o → ¬ (o = ((10, 0, 0) : u_O)) := by intro q o h e; subst e; simp [pob] at h
    by_cases hj : j = 0
    · subst hj
      rw [show ((w + 1) % 5 - 0) % 5 = (w + 1) % 5 by omega, show push A H 0 = A from rfl]
      exact a3.keep go (pk _)
    · rw [show ((w + 1) % 5 - j) % 5 = (w - (j - 1)) % 5 by omega, show push A H j = H (j - 1) from if_neg hj]
      exact (((h5 (j - 1) (by omega) (by omega)).keep o1' (pk _)).keep a2 (fun o h z => by have := h.1; have := z.1; omega)).keep go (pk _)
  rw [a1, bd_eq, r2]
  by_cases h5n : n < 5
  · rw [if_pos h5n]
    refine ⟨_, rfl, a2'.wt (Or.inl rfl) _ _, fin _ (a2'.wt (Or.inl rfl) _ _) ?_ ?_ ((Only.refl (fun o => o = (10, 0, 0)) s1).wt rfl _ _)⟩
    · rw [rd_wt_same, wr_of (x := n + 1) (by omega) (by omega), wr_of (by omega) (by omega)]; omega
    · rw [rd_wt_k (by decide)]; exact r1
  · rw [if_neg h5n]
    exact ⟨_, rfl, a2', fin _ a2' (by rw [r2]; omega) r1 (Only.refl _ _)⟩
theorem e_refused {why : Int} (hy : why = -2 ∨ why = -3 ∨ why = -4) (hr : CR s H n T tl c) : ∃ s', f_X10_refused (0, 0, 0) why s = some (why, s') ∧ Only (fun o => o = (0, 0, 0)) s s' ∧ CR s' H n T tl (refC c why) := by
  obtain ⟨h1, h2, h3, h4, h5⟩ := hr
  have b : 0 ≤ -2 - why ∧ -2 - why ≤ 2 := by omega
  have o1 : Only (fun o => o = ((0, 0, 0) : u_O)) s (wt s (0, 0, 0) (4 + (-2 - why)) (wr (c (-2 - why) + 1))) := (Only.refl (fun o => o = ((0, 0, 0) : u_O)) s).wt rfl _ _
  refine ⟨wt s (0, 0, 0) (4 + (-2 - why)) (wr (c (-2 - why) + 1)), ?_, o1, ⟨by rw [o1.rd (by simp)]; exact h1.1, fun i a b => by rw [o1.rd (by simp)]; exact h1.2 i a b⟩, fun k k0 k1 => ?_, by rw [o1.rd (by simp)]; exact h3, by rw [o1.rd (by simp)]; exact h4, fun j a b => ?_⟩
  · unfold f_X10_refused
    have e := h2 (-2 - why) b.1 b.2
    rcases hy with rfl | rfl | rfl <;> simp [jn_eq] at e ⊢ <;> rw [e]
  · unfold refC
    by_cases hk : k = -2 - why
    · rw [if_pos hk, hk, rd_wt_same, wr_in (InR_wr _)]
    · rw [if_neg hk, rd_wt_k (by omega)]
      exact h2 k k0 k1
  · rw [o1.rd (by simp)]
    exact (h5 j a b).keep o1 (fun o h e => by subst e; simp [pob] at h)
theorem e_giveBack (hr : CR s H n T tl c) (hH : ∀ j : Int, 0 ≤ j → j < n → WF (H j)) (hn : 0 < n ∧ n ≤ 5) : ∃ s', f_X4_giveBack (10, 0, 0) (1, 0, 0) s = some (1, s') ∧ Only (fun o => o = (10, 0, 0) ∨ pob 0 o) s s' ∧ CP s' 0 (H 0) ∧ CR s' (pull H) (n - 1) T tl c := by
  unfold f_X4_giveBack
  obtain ⟨h1, h2, h3, h4, h5⟩ := hr
  have hw0 : ∃ w, w = rd s (10, 0, 0) 1 := ⟨_, rfl⟩
  obtain ⟨w, ew⟩ := hw0
  rw [← ew] at h4 h5
  have hz := h5 0 (by omega) hn.1
  rw [show (w - 0) % 5 = w by omega] at hz
  rw [h3, if_neg (by omega), ← ew, gd_of (by omega) (by omega), show e_Plan (a_History_kept (10, 0, 0)) w = (1, 2 + w.toNat, 0) from rfl]
  obtain ⟨s1, a1, a2, a3⟩ := e_planCopy (p := 0) (q := 2 + w.toNat) (by omega) hz (hH 0 (by omega) hn.1)
  have r1 : rd s1 (10, 0, 0) 1 = w := by rw [a2.rd (by simp [pob])]; exact ew.symm
  have r2 : rd s1 (10, 0, 0) 2 = n := by rw [a2.rd (by simp [pob])]; exact h3
  have e1 : Int.tmod (wr (wr (w + 5) - 1)) 5 = (w + 4) % 5 := by rw [wr_of (x := w + 5) (by omega) (by omega), wr_of (by omega) (by omega), Int.tmod_eq_emod_of_nonneg (by omega), show w + 5 - 1 = w + 4 by omega]
  rw [a1, bd_eq, r1, e1, rd_wt_k (by decide), r2, wr_of (x := n - 1) (by omega) (by omega)]
  have o2 : Only (fun o => o = (10, 0, 0)) s1 (wt (wt s1 (10, 0, 0) 1 ((w + 4) % 5)) (10, 0, 0) 2 (n - 1)) := ((Only.refl (fun o => o = (10, 0, 0)) s1).wt rfl _ _).wt rfl _ _
  have oo : Only (fun o => o = (10, 0, 0) ∨ pob 0 o) s (wt (wt s1 (10, 0, 0) 1 ((w + 4) % 5)) (10, 0, 0) 2 (n - 1)) := (a2.mono (fun o h => Or.inr h)).trans (o2.mono (fun o h => Or.inl h))
  have pk : ∀ q o, pob q o → ¬ (o = ((10, 0, 0) : u_O)) := by intro q o h e; subst e; simp [pob] at h
  refine ⟨_, rfl, oo, a3.keep o2 (pk _), ⟨by rw [oo.rd (by simp [pob])]; exact h1.1, fun i a b => by rw [oo.rd (by simp [pob])]; exact h1.2 i a b⟩, fun k a b => by rw [oo.rd (by simp [pob])]; exact h2 k a b, by rw [rd_wt_same, wr_of (by omega) (by omega)], ?_, fun j j0 j1 => ?_⟩
  · rw [rd_wt_k (by decide), rd_wt_same, wr_of (by omega) (by omega)]; omega
  · rw [rd_wt_k (by decide), rd_wt_same, wr_of (by omega) (by omega), show ((w + 4) % 5 - j) % 5 = (w - (j + 1)) % 5 by omega]
    exact ((h5 (j + 1) (by omega) (by omega)).keep a2 (fun o h z => by have := h.1; have := z.1; omega)).keep o2 (pk _)
/-- the model's other things -/
def MZ (s : u_S) (H : Int → Int → Int) (n : Int) (T : Int → Int) (tl : Int) (c : Int → Int) : Prop := (rd s (23, 0, 0) 16 = tl ∧ ∀ i : Int, 0 ≤ i → i < tl → rd s (24, 15, 0) i = T i) ∧ (∀ k : Int, 0 ≤ k → k ≤ 2 → rd s (24, 4, 0) k = c k) ∧ rd s (23, 0, 0) 3 = n ∧ ∀ j i : Int, 0 ≤ j → j < n → 0 ≤ i → i < 145 → rd s (24, 1, 0) (145 * (n - 1 - j) + i) = H j i
theorem MZ.keep {s s' : u_S} (h : MZ s H n T tl c) {P : u_O → Prop} (ho : Only P s s') (h1 : ¬ P (23, 0, 0)) (h2 : ¬ P (24, 15, 0)) (h3 : ¬ P (24, 4, 0)) (h4 : ¬ P (24, 1, 0)) : MZ s' H n T tl c := ⟨⟨by rw [ho.rd h1]; exact h.1.1, fun i a b => by rw [ho.rd h2]; exact h.1.2 i a b⟩, fun k a b => by rw [ho.rd h3]; exact h.2.1 k a b, by rw [ho.rd h1]; exact h.2.2.1, fun j i a b c d => by rw [ho.rd h4]; exact h.2.2.2 j i a b c d⟩
def kob (o : u_O) : Prop := o = (23, 0, 0) ∨ o = (24, 1, 0)
theorem e_mkeep (hm : MR s A) (hq : MZ s H n T tl c) (hn : 0 ≤ n ∧ n ≤ 5) : ∃ s', f_X11_keep (23, 0, 0) s = some (0, s') ∧ Only kob s s' ∧ MZ s' (push A H) (min (n + 1) 5) T tl c := by
  obtain ⟨h1, h2, h3, h4⟩ := hq
  -- the copy behind the last
  have cp : ∀ (s0 : u_S) (n0 : Int), Only kob s s0 → 0 ≤ n0 → n0 ≤ 4 → rd s0 (23, 0, 0) 3 = n0 → rd s0 (23, 0, 0) 16 = tl → ∃ s', f_X11_keep_L51 FU (fun s_2 => some (0, (wt s_2 (23, 0, 0) 3 (wr ((rd s_2 (23, 0, 0) 3) + 1))))) (23, 0, 0) 0 s0 = some (0, s') ∧ Only kob s s' ∧ rd s' (23, 0, 0) 3 = n0 + 1 ∧ rd s' (23, 0, 0) 16 = tl ∧ ∀ k : Int, rd s' (24, 1, 0) k = if 145 * n0 ≤ k ∧ k < 145 * n0 + 145 then A (k - 145 * n0) else rd s0 (24, 1, 0) k := by
    intro s0 n0 o0 q0 q1 q2 q3
    obtain ⟨b, e, i1, i2, i3⟩ := loop_relfu (fun m (b : Int × u_S) => f_X11_keep_L51 m (fun s_2 => some (0, (wt s_2 (23, 0, 0) 3 (wr ((rd s_2 (23, 0, 0) 3) + 1))))) (23, 0, 0) b.1 b.2) (fun i b => b.1 = i ∧ Only (fun o => o = (24, 1, 0)) s0 b.2 ∧ ∀ k : Int, rd b.2 (24, 1, 0) k = if 145 * n0 ≤ k ∧ k < 145 * n0 + i then A (k - 145 * n0) else rd s0 (24, 1, 0) k) (fun b => some (0, (wt b.2 (23, 0, 0) 3 (wr ((rd b.2 (23, 0, 0) 3) + 1))))) 145 (by omega) (by
        intro i b m hi ⟨e1, e2, e3⟩
        obtain ⟨b1, s1⟩ := b
        dsimp only at e1 e2 e3
        subst e1
        have hA : rd s1 (24, 0, 0) i = A i := by rw [e2.rd (by simp), o0.rd (by simp [kob])]; exact hm i (by omega) (by omega)
        refine ⟨(wr ((i : Int) + 1), wt s1 (24, 1, 0) (145 * n0 + i) (A i)), ?_, by dsimp only; rw [wr_of (by omega) (by omega)]; omega, e2.wt rfl _ _, ?_⟩
        · dsimp only
          rw [f_X11_keep_L51, if_pos (by omega), gd_of (by omega) (by omega), e2.rd (by simp), q2, show a_Mo_all (23, 0, 0) = (24, 0, 0) from rfl, show a_Mo_past (23, 0, 0) = (24, 1, 0) from rfl, wr_of (x := 145 * n0) (by omega) (by omega), wr_of (x := 145 * n0 + i) (by omega) (by omega), gd_of (by omega) (by omega), hA]
        · intro k
          dsimp only
          by_cases hk : k = 145 * n0 + i
          · rw [hk, rd_wt_same, if_pos (by omega), ← hA, wr_in (InR_rd _ _ _), hA]
            congr 1
            omega
          · rw [rd_wt_k hk, e3]
            by_cases h9 : 145 * n0 ≤ k ∧ k < 145 * n0 + i
            · rw [if_pos h9, if_pos (by omega)]
            · rw [if_neg h9, if_neg (by omega)]) (by
        intro b m ⟨e1, e2, e3⟩
        rw [f_X11_keep_L51, if_neg (by omega)]) (0, s0) ⟨rfl, Only.refl _ _, fun k => by rw [if_neg (by omega)]⟩
    obtain ⟨b1, s1⟩ := b
    dsimp only at i1 i2 i3 e
    have r3 : rd s1 (23, 0, 0) 3 = n0 := by rw [i2.rd (by simp)]; exact q2
    rw [r3, wr_of (x := n0 + 1) (by omega) (by omega)] at e
    refine ⟨_, e, (o0.trans (i2.mono (fun o h => Or.inr h))).wt (Or.inl rfl) _ _, by rw [rd_wt_same, wr_of (by omega) (by omega)], by rw [rd_wt_k (by decide), i2.rd (by simp)]; exact q3, fun k => ?_⟩
    rw [rd_wt_o (by simp), i3]
    rfl
  have fin : ∀ s', Only kob s s' → rd s' (23, 0, 0) 3 = min (n + 1) 5 → rd s' (23, 0, 0) 16 = tl → (∀ j i : Int, 0 ≤ j → j < min (n + 1) 5 → 0 ≤ i → i < 145 → rd s' (24, 1, 0) (145 * (min (n + 1) 5 - 1 - j) + i) = push A H j i) → MZ s' (push A H) (min (n + 1) 5) T tl c := fun s' ho g1 g2 g3 => ⟨⟨g2, fun i a b => by rw [ho.rd (by simp [kob])]; exact h1.2 i a b⟩, fun k a b => by rw [ho.rd (by simp [kob])]; exact h2 k a b, g1, g3⟩
  unfold f_X11_keep
  rw [jn_eq, h3]
  by_cases h5 : n = 5
  · rw [if_pos h5]
    subst h5
    obtain ⟨b, e, i1, i2, i3⟩ := loop_relfu (fun m (b : Int × u_S) => f_X11_keep_L10 m (fun s_5 => f_X11_keep_L51 FU (fun s_2 => some (0, (wt s_2 (23, 0, 0) 3 (wr ((rd s_2 (23, 0, 0) 3) + 1))))) (23, 0, 0) 0 (wt s_5 (23, 0, 0) 3 (wr ((rd s_5 (23, 0, 0) 3) - 1)))) (23, 0, 0) b.1 b.2) (fun i b => b.1 = i ∧ Only (fun o => o = (24, 1, 0)) s b.2 ∧ ∀ k : Int, rd b.2 (24, 1, 0) k = if 0 ≤ k ∧ k < i then rd s (24, 1, 0) (k + 145) else rd s (24, 1, 0) k) (fun b => f_X11_keep_L51 FU (fun s_2 => some (0, (wt s_2 (23, 0, 0) 3 (wr ((rd s_2 (23, 0, 0) 3) + 1))))) (23, 0, 0) 0 (wt b.2 (23, 0, 0) 3 (wr ((rd b.2 (23, 0, 0) 3) - 1)))) 580 (by omega) (by
        intro i b m hi ⟨e1, e2, e3⟩
        obtain ⟨b1, s1⟩ := b
        dsimp only at e1 e2 e3
        subst e1
        refine ⟨(wr ((i : Int) + 1), wt s1 (24, 1, 0) i (rd s (24, 1, 0) (i + 145))), ?_, by dsimp only; rw [wr_of (by omega) (by omega)]; omega, e2.wt rfl _ _, ?_⟩
        · dsimp only
          rw [f_X11_keep_L10, if_pos (by omega), show a_Mo_past (23, 0, 0) = (24, 1, 0) from rfl, wr_of (x := (i : Int) + 145) (by omega) (by omega), gd_of (by omega) (by omega), gd_of (by omega) (by omega), e3, if_neg (by omega)]
        · intro k
          dsimp only
          by_cases hk : k = i
          · rw [hk, rd_wt_same, if_pos (by omega), wr_in (InR_rd _ _ _)]
          · rw [rd_wt_k hk, e3]
            by_cases h9 : 0 ≤ k ∧ k < i
            · rw [if_pos h9, if_pos (by omega)]
            · rw [if_neg h9, if_neg (by omega)]) (by
        intro b m ⟨e1, e2, e3⟩
        rw [f_X11_keep_L10, if_neg (by omega)]) (0, s) ⟨rfl, Only.refl _ _, fun k => by rw [if_neg (by omega)]⟩
    obtain ⟨b1, s1⟩ := b
    dsimp only at i1 i2 i3 e
    rw [e, i2.rd (o := (23, 0, 0)) (by simp), h3, wr_of (x := 5 - 1) (by omega) (by omega)]
    obtain ⟨s', a1, a2, a3, a4, a5⟩ := cp (wt s1 (23, 0, 0) 3 (5 - 1)) 4 ((show Only kob s s1 from i2.mono (fun o h => Or.inr h)).wt (Or.inl rfl) _ _) (by omega) (by omega) (by rw [rd_wt_same, wr_of (by omega) (by omega)]; rfl) (by rw [rd_wt_k (by decide), i2.rd (by simp)]; exact h1.1)
    refine ⟨s', a1, a2, fin s' a2 (by rw [a3]; omega) a4 (fun j i j0 j1 i0 i1 => ?_)⟩
    rw [a5]
    by_cases hj : j = 0
    · subst hj
      rw [if_pos (by omega), show push A H 0 = A from rfl]
      exact congrArg A (by omega)
    · rw [if_neg (by omega), rd_wt_o (by simp), i3, if_pos (by omega), show push A H j = H (j - 1) from if_neg hj, ← h4 (j - 1) i (by omega) (by omega) i0 i1]
      exact congrArg (rd s (24, 1, 0)) (by omega)
  · rw [if_neg h5]
    obtain ⟨s', a1, a2, a3, a4, a5⟩ := cp s n (Only.refl _ _) hn.1 (by omega) h3 h1.1
    refine ⟨s', a1, a2, fin s' a2 (by rw [a3]; omega) a4 (fun j i j0 j1 i0 i1 => ?_)⟩
    rw [a5]
    by_cases hj : j = 0
    · subst hj
      rw [if_pos (by omega), show push A H 0 = A from rfl]
      exact congrArg A (by omega)
    · rw [if_neg (by omega), show push A H j = H (j - 1) from if_neg hj, ← h4 (j - 1) i (by omega) (by omega) i0 i1]
      exact congrArg (rd s (24, 1, 0)) (by omega)
theorem e_refuses {why : Int} (hy : why = -2 ∨ why = -3 ∨ why = -4) (o : u_O) (hq : MZ s H n T tl c) : ∃ s', f_X11_refuses o why s = some (why, s') ∧ Only (fun o => o = (24, 4, 0)) s s' ∧ MZ s' H n T tl (refC c why) := by
  obtain ⟨h1, h2, h3, h4⟩ := hq
  have b : 0 ≤ -2 - why ∧ -2 - why ≤ 2 := by omega
  have o1 : Only (fun o => o = ((24, 4, 0) : u_O)) s (wt s (24, 4, 0) (-2 - why) (wr (c (-2 - why) + 1))) := (Only.refl (fun o => o = ((24, 4, 0) : u_O)) s).wt rfl _ _
  refine ⟨_, ?_, o1, ⟨by rw [o1.rd (by simp)]; exact h1.1, fun i a b => by rw [o1.rd (by simp)]; exact h1.2 i a b⟩, fun k k0 k1 => ?_, by rw [o1.rd (by simp)]; exact h3, fun j i a b c d => by rw [o1.rd (by simp)]; exact h4 j i a b c d⟩
  · unfold f_X11_refuses
    rw [wr_of (x := -2 - why) (by omega) (by omega), gd_of (by omega) (by omega), gd_of (by omega) (by omega), show a_Mo_refused o = (24, 4, 0) from rfl, h2 _ b.1 b.2]
  · unfold refC
    by_cases hk : k = -2 - why
    · rw [if_pos hk, hk, rd_wt_same, wr_in (InR_wr _)]
    · rw [if_neg hk, rd_wt_k hk]
      exact h2 k k0 k1
end HIST
