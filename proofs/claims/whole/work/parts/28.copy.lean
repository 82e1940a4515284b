/-! COPIES of plans -/
theorem rd_eq {s s' : u_S} {o : u_O} (h : s' o = s o) (k : Int) : rd s' o k = rd s o k := by unfold rd; rw [h]
section COPY
variable {s : u_S} {A : Int → Int} {p q : Nat}
theorem e_lineCopy (hpq : p ≠ q) {l : Nat} : ∃ s', f_X5_copyFrom (3, p, l) (3, q, l) s = some (0, s') ∧ Only (lob p l) s s' ∧ rd s' (3, p, l) 2 = rd s (3, q, l) 2 ∧ ∀ k, 0 ≤ k → k < 10 → rd s' (4, p, l) k = rd s (4, q, l) k ∧ rd s' (5, p, l) k = rd s (5, q, l) k := by
  unfold f_X5_copyFrom
  have sq : ∀ s1, Only (lob p l) s s1 → ∀ k, rd s1 (3, q, l) k = rd s (3, q, l) k ∧ rd s1 (4, q, l) k = rd s (4, q, l) k ∧ rd s1 (5, q, l) k = rd s (5, q, l) k := fun s1 h k => ⟨h.rd (by simp [lob]; exact fun e => hpq e.symm) k, h.rd (by simp [lob]; exact fun e => hpq e.symm) k, h.rd (by simp [lob]; exact fun e => hpq e.symm) k⟩
  obtain ⟨b, e, i1, i2, i3⟩ := loop_relfu (fun n (b : Int × u_S) => f_X5_copyFrom_L2 n (fun s_1 => some (0, (wt s_1 (3, p, l) 2 (rd s_1 (3, q, l) 2)))) (3, p, l) (3, q, l) b.1 b.2) (fun i b => b.1 = i ∧ Only (lob p l) s b.2 ∧ ∀ k : Int, 0 ≤ k → k < i → rd b.2 (4, p, l) k = rd s (4, q, l) k ∧ rd b.2 (5, p, l) k = rd s (5, q, l) k) (fun b => some (0, (wt b.2 (3, p, l) 2 (rd b.2 (3, q, l) 2)))) 10 (by omega) (by
      intro i b n hi ⟨e1, e2, e3⟩
      obtain ⟨b1, s1⟩ := b
      dsimp only at e1 e2 e3
      subst e1
      have q1 := sq s1 e2 i
      refine ⟨(wr ((i : Int) + 1), wt (wt s1 (4, p, l) i (rd s (4, q, l) i)) (5, p, l) i (rd s (5, q, l) i)), ?_, by dsimp only; rw [wr_of (by omega) (by omega)]; omega, (e2.wt (Or.inr (Or.inl rfl)) _ _).wt (Or.inr (Or.inr rfl)) _ _, ?_⟩
      · dsimp only
        rw [f_X5_copyFrom_L2, if_pos (by omega), gd_of (by omega) (by omega), gd_of (by omega) (by omega), gd_of (by omega) (by omega), gd_of (by omega) (by omega), o_steps, o_steps, o_ticks, o_ticks, rd_wt_o (by simp), q1.2.1, q1.2.2]
      · intro k k0 k1
        dsimp only
        by_cases hk : k = i
        · rw [hk, rd_wt_o (by simp), rd_wt_same, rd_wt_same, wr_in (InR_rd _ _ _), wr_in (InR_rd _ _ _)]
          exact ⟨rfl, rfl⟩
        · rw [rd_wt_o (by simp), rd_wt_k hk, rd_wt_k hk, rd_wt_o (by simp)]
          exact e3 k k0 (by omega)) (by
      intro b n ⟨e1, e2, e3⟩
      rw [f_X5_copyFrom_L2, if_neg (by omega)]) (0, s) ⟨rfl, Only.refl _ _, fun k a b => by simp at b; omega⟩
  refine ⟨_, e, i2.wt (Or.inl rfl) _ _, ?_, fun k k0 k1 => ?_⟩
  · rw [rd_wt_same, wr_in (InR_rd _ _ _), (sq b.2 i2 2).1]
  · rw [rd_wt_o (by simp), rd_wt_o (by simp)]
    exact i3 k k0 (by omega)
theorem LR.copy {s s' : u_S} {l : Int} (hr : LR s (3, q, l.toNat) A l) (hw : WL A l) (h1 : rd s' (3, p, l.toNat) 2 = rd s (3, q, l.toNat) 2) (h2 : ∀ k, 0 ≤ k → k < 10 → rd s' (4, p, l.toNat) k = rd s (4, q, l.toNat) k ∧ rd s' (5, p, l.toNat) k = rd s (5, q, l.toNat) k) : LR s' (3, p, l.toNat) A l := by
  have hb := hw.1
  refine ⟨h1.trans hr.1, fun i a b => ?_⟩
  rw [o_steps, o_ticks, (h2 i a (by omega)).1, (h2 i a (by omega)).2]
  exact hr.2 i a b
def eob (p : Nat) (o : u_O) : Prop := o.2.1 = p ∧ (o.1 = 6 ∨ o.1 = 8)
theorem e_entriesCopy (hpq : p ≠ q) : ∃ s', f_X1_copyFrom (6, p, 0) (6, q, 0) s = some (0, s') ∧ Only (eob p) s s' ∧ rd s' (6, p, 0) 1 = rd s (6, q, 0) 1 ∧ ∀ (i : Nat) (k : Int), i < 10 → 0 ≤ k → k < 5 → rd s' (8, p, i) k = rd s (8, q, i) k := by
  unfold f_X1_copyFrom
  have sq : ∀ s1, Only (eob p) s s1 → (∀ k, rd s1 (6, q, 0) k = rd s (6, q, 0) k) ∧ ∀ i k, rd s1 (8, q, i) k = rd s (8, q, i) k := fun s1 h => ⟨fun k => h.rd (by simp [eob]; exact fun e => hpq e.symm) k, fun i k => h.rd (by simp [eob]; exact fun e => hpq e.symm) k⟩
  obtain ⟨b, e, i1, i2, i3⟩ := loop_relfu (fun n (b : Int × u_S) => f_X1_copyFrom_L2 n (fun s_1 => some (0, (wt s_1 (6, p, 0) 1 (rd s_1 (6, q, 0) 1)))) (6, p, 0) (6, q, 0) b.1 b.2) (fun i b => b.1 = i ∧ Only (eob p) s b.2 ∧ ∀ (x : Nat) (k : Int), x < i → 0 ≤ k → k < 5 → rd b.2 (8, p, x) k = rd s (8, q, x) k) (fun b => some (0, (wt b.2 (6, p, 0) 1 (rd b.2 (6, q, 0) 1)))) 10 (by omega) (by
      intro i b n hi ⟨e1, e2, e3⟩
      obtain ⟨b1, s1⟩ := b
      dsimp only at e1 e2 e3
      subst e1
      have q1 := (sq s1 e2).2 i
      refine ⟨(wr ((i : Int) + 1), wt (wt (wt (wt (wt s1 (8, p, i) 0 (rd s (8, q, i) 0)) (8, p, i) 1 (rd s (8, q, i) 1)) (8, p, i) 2 (rd s (8, q, i) 2)) (8, p, i) 3 (rd s (8, q, i) 3)) (8, p, i) 4 (rd s (8, q, i) 4)), ?_, by dsimp only; rw [wr_of (by omega) (by omega)]; omega, ?_, ?_⟩
      · dsimp only
        rw [f_X1_copyFrom_L2, if_pos (by omega), gd_of (by omega) (by omega), gd_of (by omega) (by omega), o_entry, o_entry, Int.toNat_natCast, f_X2_copyFrom, f_X2_be, bd_eq, bd_eq, q1, q1, q1, q1, q1]
      · exact ((((e2.wt (by simp [eob]) _ _).wt (by simp [eob]) _ _).wt (by simp [eob]) _ _).wt (by simp [eob]) _ _).wt (by simp [eob]) _ _
      · intro x k k0 k1 k2
        dsimp only
        by_cases hx : x = i
        · subst hx
          rcases (show k = 0 ∨ k = 1 ∨ k = 2 ∨ k = 3 ∨ k = 4 by omega) with rfl | rfl | rfl | rfl | rfl <;> simp [rd_wt, wr_in (InR_rd _ _ _)]
        · have ne : ((8, p, x) : u_O) ≠ (8, p, i) := by simp; exact hx
          rw [rd_wt_o ne, rd_wt_o ne, rd_wt_o ne, rd_wt_o ne, rd_wt_o ne]
          exact e3 x k (by omega) k1 k2) (by
      intro b n ⟨e1, e2, e3⟩
      rw [f_X1_copyFrom_L2, if_neg (by omega)]) (0, s) ⟨rfl, Only.refl _ _, fun x k a b => by omega⟩
  refine ⟨_, e, i2.wt (by simp [eob]) _ _, ?_, fun x k k0 k1 k2 => ?_⟩
  · rw [rd_wt_same, wr_in (InR_rd _ _ _), (sq b.2 i2).1]
  · rw [rd_wt_o (by simp)]
    exact i3 x k k0 k1 k2
theorem ER.copy {s s' : u_S} (hr : ER s q A) (hn : 0 ≤ A 84 ∧ A 84 ≤ 10) (h1 : rd s' (6, p, 0) 1 = rd s (6, q, 0) 1) (h2 : ∀ (i : Nat) (k : Int), i < 10 → 0 ≤ k → k < 5 → rd s' (8, p, i) k = rd s (8, q, i) k) : ER s' p A := by
  refine ⟨h1.trans hr.1, fun i k a b c d => ?_⟩
  rw [h2 i.toNat k (by omega) c d]
  exact hr.2 i k a b c d
def vob (p : Nat) (o : u_O) : Prop := o = (9, p, 0)
theorem e_planCopy (hpq : p ≠ q) (hc : CP s q A) (hw : WF A) : ∃ s', f_X6_copyFrom (1, p, 0) (1, q, 0) s = some (0, s') ∧ Only (pob p) s s' ∧ CP s' p A := by
  unfold f_X6_copyFrom
  have np : ∀ o, pob q o → ¬ pob p o := fun o h1 h2 => hpq (h2.1.symm.trans h1.1)
  obtain ⟨b, e, i1, i2, i3⟩ := loop_relfu (fun n (b : Int × u_S) => f_X6_copyFrom_L2 n (fun s_1 => bd (f_X1_copyFrom (a_Plan_entries (1, p, 0)) (a_Plan_entries (1, q, 0)) s_1) (fun r_1 s_2 => f_X6_copyFrom_L41 FU (fun s_3 => some (0, (wt (wt (wt (wt (wt s_3 (1, p, 0) 3 (rd s_3 (1, q, 0) 3)) (1, p, 0) 4 (rd (wt s_3 (1, p, 0) 3 (rd s_3 (1, q, 0) 3)) (1, q, 0) 4)) (1, p, 0) 5 (rd (wt (wt s_3 (1, p, 0) 3 (rd s_3 (1, q, 0) 3)) (1, p, 0) 4 (rd (wt s_3 (1, p, 0) 3 (rd s_3 (1, q, 0) 3)) (1, q, 0) 4)) (1, q, 0) 5)) (1, p, 0) 6 (rd (wt (wt (wt s_3 (1, p, 0) 3 (rd s_3 (1, q, 0) 3)) (1, p, 0) 4 (rd (wt s_3 (1, p, 0) 3 (rd s_3 (1, q, 0) 3)) (1, q, 0) 4)) (1, p, 0) 5 (rd (wt (wt s_3 (1, p, 0) 3 (rd s_3 (1, q, 0) 3)) (1, p, 0) 4 (rd (wt s_3 (1, p, 0) 3 (rd s_3 (1, q, 0) 3)) (1, q, 0) 4)) (1, q, 0) 5)) (1, q, 0) 6)) (1, p, 0) 7 (rd (wt (wt (wt (wt s_3 (1, p, 0) 3 (rd s_3 (1, q, 0) 3)) (1, p, 0) 4 (rd (wt s_3 (1, p, 0) 3 (rd s_3 (1, q, 0) 3)) (1, q, 0) 4)) (1, p, 0) 5 (rd (wt (wt s_3 (1, p, 0) 3 (rd s_3 (1, q, 0) 3)) (1, p, 0) 4 (rd (wt s_3 (1, p, 0) 3 (rd s_3 (1, q, 0) 3)) (1, q, 0) 4)) (1, q, 0) 5)) (1, p, 0) 6 (rd (wt (wt (wt s_3 (1, p, 0) 3 (rd s_3 (1, q, 0) 3)) (1, p, 0) 4 (rd (wt s_3 (1, p, 0) 3 (rd s_3 (1, q, 0) 3)) (1, q, 0) 4)) (1, p, 0) 5 (rd (wt (wt s_3 (1, p, 0) 3 (rd s_3 (1, q, 0) 3)) (1, p, 0) 4 (rd (wt s_3 (1, p, 0) 3 (rd s_3 (1, q, 0) 3)) (1, q, 0) 4)) (1, q, 0) 5)) (1, q, 0) 6)) (1, q, 0) 7)))) (1, p, 0) (1, q, 0) 0 s_2)) (1, p, 0) (1, q, 0) b.1 b.2) (fun i b => b.1 = i ∧ Only (pob p) s b.2 ∧ ∀ l : Int, 0 ≤ l → l < i → LR b.2 (3, p, l.toNat) A l) (fun b => bd (f_X1_copyFrom (6, p, 0) (6, q, 0) b.2) (fun r_1 s_2 => f_X6_copyFrom_L41 FU (fun s_3 => some (0, (wt (wt (wt (wt (wt s_3 (1, p, 0) 3 (rd s_3 (1, q, 0) 3)) (1, p, 0) 4 (rd s_3 (1, q, 0) 4)) (1, p, 0) 5 (rd s_3 (1, q, 0) 5)) (1, p, 0) 6 (rd s_3 (1, q, 0) 6)) (1, p, 0) 7 (rd s_3 (1, q, 0) 7)))) (1, p, 0) (1, q, 0) 0 s_2)) 4 (by omega) (by
      intro i b n hi ⟨e1, e2, e3⟩
      obtain ⟨b1, s1⟩ := b
      dsimp only at e1 e2 e3
      subst e1
      obtain ⟨s2, a1, a2, a3, a4⟩ := e_lineCopy (s := s1) hpq (l := i)
      have c1 := (hc.keep e2 np).1 i (by omega) (by omega)
      rw [Int.toNat_natCast] at c1
      refine ⟨(wr ((i : Int) + 1), s2), ?_, by dsimp only; rw [wr_of (by omega) (by omega)]; omega, e2.trans (a2.mono (fun o h => lob_pob o h)), ?_⟩
      · dsimp only
        rw [f_X6_copyFrom_L2, if_pos (by omega), gd_of (by omega) (by omega), gd_of (by omega) (by omega), o_line, o_line, Int.toNat_natCast, a1, bd_eq]
      · intro l l0 l1
        dsimp only
        by_cases hl : l = i
        · subst hl
          have := LR.copy (p := p) (q := q) (l := (i : Int)) (s := s1) (s' := s2) (by rw [Int.toNat_natCast]; exact c1) (hw.1 i (by omega) (by omega)) (by rw [Int.toNat_natCast]; exact a3) (by rw [Int.toNat_natCast]; exact a4)
          exact this
        · have r := e3 l l0 (by omega)
          have nl : ∀ k, k = 3 ∨ k = 4 ∨ k = 5 → ¬ lob p i (k, p, l.toNat) := by
            intro k hk h
            rcases hk with rfl | rfl | rfl <;> simp [lob] at h <;> omega
          refine ⟨by rw [a2.rd (nl 3 (by simp))]; exact r.1, fun x x0 x1 => ?_⟩
          rw [o_steps, o_ticks, a2.rd (nl 4 (by simp)), a2.rd (nl 5 (by simp))]
          exact r.2 x x0 x1) (by
      intro b n ⟨e1, e2, e3⟩
      rw [f_X6_copyFrom_L2, if_neg (by omega)]
      simp only [o_entries, rd_wt_o (show ((1, q, 0) : u_O) ≠ (1, p, 0) by simp; exact fun e => hpq e.symm)]) (0, s) ⟨rfl, Only.refl _ _, fun l a b => by simp at b; omega⟩
  obtain ⟨b1, s1⟩ := b
  dsimp only at i1 i2 i3 e
  obtain ⟨s2, a1, a2, a3, a4⟩ := e_entriesCopy (s := s1) hpq
  have c1 := hc.keep i2 np
  have eo : Only (pob p) s s2 := i2.trans (a2.mono (fun o h => ⟨h.1, by rcases h.2 with h | h <;> simp [h]⟩))
  have c2 := hc.keep eo np
  obtain ⟨b, e', j1, j2, j3⟩ := loop_relfu (fun n (b : Int × u_S) => f_X6_copyFrom_L41 n (fun s_3 => some (0, (wt (wt (wt (wt (wt s_3 (1, p, 0) 3 (rd s_3 (1, q, 0) 3)) (1, p, 0) 4 (rd s_3 (1, q, 0) 4)) (1, p, 0) 5 (rd s_3 (1, q, 0) 5)) (1, p, 0) 6 (rd s_3 (1, q, 0) 6)) (1, p, 0) 7 (rd s_3 (1, q, 0) 7)))) (1, p, 0) (1, q, 0) b.1 b.2) (fun i b => b.1 = i ∧ Only (vob p) s2 b.2 ∧ ∀ k : Int, 0 ≤ k → k < i → rd b.2 (9, p, 0) k = rd s2 (9, q, 0) k) (fun b => some (0, (wt (wt (wt (wt (wt b.2 (1, p, 0) 3 (rd b.2 (1, q, 0) 3)) (1, p, 0) 4 (rd b.2 (1, q, 0) 4)) (1, p, 0) 5 (rd b.2 (1, q, 0) 5)) (1, p, 0) 6 (rd b.2 (1, q, 0) 6)) (1, p, 0) 7 (rd b.2 (1, q, 0) 7)))) 5 (by omega) (by
      intro i b n hi ⟨e1, e2, e3⟩
      obtain ⟨b1, s1⟩ := b
      dsimp only at e1 e2 e3
      subst e1
      refine ⟨(wr ((i : Int) + 1), wt s1 (9, p, 0) i (rd s2 (9, q, 0) i)), ?_, by dsimp only; rw [wr_of (by omega) (by omega)]; omega, e2.wt rfl _ _, ?_⟩
      · dsimp only
        rw [f_X6_copyFrom_L41, if_pos (by omega), gd_of (by omega) (by omega), gd_of (by omega) (by omega), o_visit, o_visit, e2.rd (by simp [vob]; exact fun e => hpq e.symm)]
      · intro k k0 k1
        dsimp only
        by_cases hk : k = i
        · rw [hk, rd_wt_same, wr_in (InR_rd _ _ _)]
        · rw [rd_wt_k hk]
          exact e3 k k0 (by omega)) (by
      intro b n ⟨e1, e2, e3⟩
      rw [f_X6_copyFrom_L41, if_neg (by omega)]) (0, s2) ⟨rfl, Only.refl _ _, fun k a b => by simp at b; omega⟩
  obtain ⟨b2, s3⟩ := b
  dsimp only at j1 j2 j3 e'
  have eo3 : Only (pob p) s s3 := eo.trans (j2.mono (fun o h => by rw [h]; simp [pob]))
  have c3 := hc.keep eo3 np
  obtain ⟨d1, d2, d3, d4, d5⟩ := c3
  rw [d3.1, d3.2.1, d3.2.2.1, d3.2.2.2, d4] at e'
  have hv := hw.2.2.2
  have ne1 : ∀ {o : u_O}, o.1 ≠ 1 → o ≠ (1, p, 0) := fun h e => h (by rw [e])
  refine ⟨_, by rw [e, a1, bd_eq]; exact e', ((((eo3.wt (by simp [pob]) _ _).wt (by simp [pob]) _ _).wt (by simp [pob]) _ _).wt (by simp [pob]) _ _).wt (by simp [pob]) _ _, ?_⟩
  have rw5 : ∀ (o : u_O) (k a b c d e : Int), o.1 ≠ 1 → rd (wt (wt (wt (wt (wt s3 (1, p, 0) 3 a) (1, p, 0) 4 b) (1, p, 0) 5 c) (1, p, 0) 6 d) (1, p, 0) 7 e) o k = rd s3 o k := fun o k a b c d e h => by rw [rd_wt_o (ne1 h), rd_wt_o (ne1 h), rd_wt_o (ne1 h), rd_wt_o (ne1 h), rd_wt_o (ne1 h)]
  refine ⟨fun l l0 l1 => ?_, ?_, ⟨?_, ?_, ?_, ?_⟩, ?_, fun i i0 i1' => ?_⟩
  · have r := i3 l l0 (by omega)
    refine ⟨?_, fun x x0 x1 => ?_⟩
    · rw [rw5 _ _ _ _ _ _ _ (by simp), j2.rd (by simp [vob]), a2.rd (by simp [eob])]
      exact r.1
    · rw [o_steps, o_ticks, rw5 _ _ _ _ _ _ _ (by simp), rw5 _ _ _ _ _ _ _ (by simp), j2.rd (by simp [vob]), j2.rd (by simp [vob]), a2.rd (by simp [eob]), a2.rd (by simp [eob])]
      exact r.2 x x0 x1
  · have r := ER.copy (p := p) c1.2.1 hw.2.1.1 a3 a4
    refine ⟨?_, fun i k a b c d => ?_⟩
    · rw [rw5 _ _ _ _ _ _ _ (by simp), j2.rd (by simp [vob])]; exact r.1
    · rw [rw5 _ _ _ _ _ _ _ (by simp), j2.rd (by simp [vob])]; exact r.2 i k a b c d
  · rw [rd_wt_k (by decide), rd_wt_k (by decide), rd_wt_k (by decide), rd_wt_same, wr_of (by omega) (by omega)]
  · rw [rd_wt_k (by decide), rd_wt_k (by decide), rd_wt_same, wr_of (by omega) (by omega)]
  · rw [rd_wt_k (by decide), rd_wt_same, wr_of (by omega) (by omega)]
  · rw [rd_wt_same, wr_of (by omega) (by omega)]
  · have := hv.2.2.2.2.1
    rw [rd_wt_k (by decide), rd_wt_k (by decide), rd_wt_k (by decide), rd_wt_k (by decide), rd_wt_same, wr_of (by omega) (by omega)]
  · have := hv.2.2.2.2.1
    rw [rw5 _ _ _ _ _ _ _ (by simp), j3 i i0 (by omega), ← d5 i i0 i1', j2.rd (by simp [vob]; exact fun e => hpq e.symm)]
end COPY
