/-! drop and draw -/
def dropI (A : Int → Int) (l i j : Int) : Int → Int := fun k => if 21 * l + 1 + 2 * i ≤ k ∧ k < 21 * l + 1 + 2 * j then A (k + 2) else A k
def dropA (A : Int → Int) (l i : Int) : Int → Int := upA (dropI A l i (cntA A l - 1)) (21 * l) (cntA A l - 1)
theorem drop_out {A : Int → Int} {l i : Int} (hi : 0 ≤ i) (hc : cntA A l ≤ 10) (k : Int) (h : k < 21 * l ∨ 21 * l + 20 < k) : dropA A l i k = A k := by
  unfold dropA dropI
  rw [upA_ne (by omega), if_neg (by omega)]
theorem drop_cnt {A : Int → Int} {l i : Int} : cntA (dropA A l i) l = cntA A l - 1 := upA_same _ _ _
theorem drop_stp {A : Int → Int} {l i j : Int} (hi : 0 ≤ i) (hj : 0 ≤ j) : stpA (dropA A l i) l j = if i ≤ j ∧ j < cntA A l - 1 then stpA A l (j + 1) else stpA A l j := by
  unfold stpA dropA dropI
  rw [upA_ne (by omega)]
  by_cases h : i ≤ j ∧ j < cntA A l - 1
  · rw [if_pos h, if_pos (by omega)]
    exact congrArg A (by omega)
  · rw [if_neg h, if_neg (by omega)]
theorem drop_tck {A : Int → Int} {l i j : Int} (hi : 0 ≤ i) (hj : 0 ≤ j) : tckA (dropA A l i) l j = if i ≤ j ∧ j < cntA A l - 1 then tckA A l (j + 1) else tckA A l j := by
  unfold tckA dropA dropI
  rw [upA_ne (by omega)]
  by_cases h : i ≤ j ∧ j < cntA A l - 1
  · rw [if_pos h, if_pos (by omega)]
    exact congrArg A (by omega)
  · rw [if_neg h, if_neg (by omega)]
theorem drop_WL {A : Int → Int} {l i : Int} (hw : WL A l) (hi : 0 ≤ i) (h1 : i < cntA A l) : WL (dropA A l i) l := by
  have hb := hw.1
  refine ⟨by rw [drop_cnt]; omega, fun j a b => ?_⟩
  rw [drop_cnt] at b
  rw [drop_stp hi a, drop_tck hi a]
  by_cases h : i ≤ j ∧ j < cntA A l - 1
  · rw [if_pos h, if_pos h]; exact hw.2 (j + 1) (by omega) (by omega)
  · rw [if_neg h, if_neg h]; exact hw.2 j a (by omega)
def canDrA (A : Int → Int) (l i : Int) : Int := if ¬ ((0 ≤ l ∧ l ≤ 3) ∧ 0 ≤ i ∧ i < cntA A l) then -2 else if 0 < nenA A l (A 84).toNat then -3 else 0
section DROP
variable {s : u_S} {A : Int → Int} {l i : Int} {p : Nat}
theorem canDr_0 (h : canDrA A l i = 0) : ((0 ≤ l ∧ l ≤ 3) ∧ 0 ≤ i ∧ i < cntA A l) ∧ nenA A l (A 84).toNat ≤ 0 := by
  unfold canDrA at h
  split at h
  · omega
  · rename_i g
    have g := Classical.byContradiction g
    split at h
    · omega
    · exact ⟨g, by omega⟩
theorem canDr_cases (A : Int → Int) (l i : Int) : canDrA A l i = -2 ∨ canDrA A l i = -3 ∨ canDrA A l i = -4 ∨ canDrA A l i = 0 := by
  unfold canDrA
  repeat' split
  all_goals omega
theorem e_lineRemove (hr : LR s (3, p, l.toNat) A l) (hw : WL A l) (h0 : 0 ≤ i) (h1 : i < cntA A l) : ∃ s', f_X5_remove (3, p, l.toNat) i s = some (0, s') ∧ Only (lob p l.toNat) s s' ∧ LR s' (3, p, l.toNat) (dropA A l i) l := by
  have hb := hw.1
  unfold f_X5_remove
  rw [e_has1 hr hw h0 h1, bd_eq, if10, wr_of (by omega) (by omega)]
  obtain ⟨b, e, i1, i2, i3, i4⟩ := loop_relfu (fun m (b : Int × u_S) => f_X5_remove_L13 m (fun s_2 => some (0, (wt s_2 (3, p, l.toNat) 2 (wr ((rd s_2 (3, p, l.toNat) 2) - 1))))) (3, p, l.toNat) b.1 b.2) (fun j b => b.1 = i + 1 + j ∧ Only (lob p l.toNat) s b.2 ∧ rd b.2 (3, p, l.toNat) 2 = cntA A l ∧ ∀ k : Int, rd b.2 (4, p, l.toNat) k = (if i ≤ k ∧ k < i + j then rd s (4, p, l.toNat) (k + 1) else rd s (4, p, l.toNat) k) ∧ rd b.2 (5, p, l.toNat) k = (if i ≤ k ∧ k < i + j then rd s (5, p, l.toNat) (k + 1) else rd s (5, p, l.toNat) k)) (fun b => some (0, (wt b.2 (3, p, l.toNat) 2 (wr ((rd b.2 (3, p, l.toNat) 2) - 1))))) (cntA A l - 1 - i).toNat (by omega) (by
      intro j b m hj ⟨e1, e2, e3, e4⟩
      obtain ⟨b1, s1⟩ := b
      dsimp only at e1 e2 e3 e4
      subst e1
      refine ⟨(wr (i + 1 + j + 1), wt (wt s1 (4, p, l.toNat) (i + j) (rd s (4, p, l.toNat) (i + 1 + j))) (5, p, l.toNat) (i + j) (rd s (5, p, l.toNat) (i + 1 + j))), ?_, by dsimp only; rw [wr_of (by omega) (by omega)]; omega, (e2.wt (Or.inr (Or.inl rfl)) _ _).wt (Or.inr (Or.inr rfl)) _ _, ?_, ?_⟩
      · dsimp only
        rw [f_X5_remove_L13, e3, if_pos (by omega), gd_of (by omega) (by omega), wr_of (x := i + 1 + j - 1) (by omega) (by omega), gd_of (by omega) (by omega), gd_of (by omega) (by omega), gd_of (by omega) (by omega), o_steps, o_ticks, rd_wt_o (by simp), (e4 _).1, (e4 _).2, if_neg (by omega), if_neg (by omega), show i + 1 + (j : Int) - 1 = i + j by omega]
      · dsimp only
        rw [rd_wt_o (by simp), rd_wt_o (by simp)]
        exact e3
      · intro k
        dsimp only
        by_cases hk : k = i + j
        · rw [hk, rd_wt_o (by simp), rd_wt_same, rd_wt_same, if_pos (by omega), if_pos (by omega), wr_in (InR_rd _ _ _), wr_in (InR_rd _ _ _), show i + (j : Int) + 1 = i + 1 + j by omega]
          exact ⟨rfl, rfl⟩
        · rw [rd_wt_o (by simp), rd_wt_k hk, rd_wt_k hk, rd_wt_o (by simp), (e4 k).1, (e4 k).2]
          by_cases h9 : i ≤ k ∧ k < i + j
          · rw [if_pos h9, if_pos h9, if_pos (by omega), if_pos (by omega)]
            exact ⟨rfl, rfl⟩
          · rw [if_neg h9, if_neg h9, if_neg (by omega), if_neg (by omega)]
            exact ⟨rfl, rfl⟩) (by
      intro b m ⟨e1, e2, e3, e4⟩
      rw [f_X5_remove_L13, e3, if_neg (by omega)]) (i + 1, s) ⟨by simp, Only.refl _ _, hr.1, fun k => by rw [if_neg (by omega), if_neg (by omega)]; exact ⟨rfl, rfl⟩⟩
  obtain ⟨b1, s1⟩ := b
  dsimp only at i1 i2 i3 i4 e
  rw [i3, wr_of (by omega) (by omega)] at e
  simp only [show (i + (((cntA A l - 1 - i).toNat : Nat) : Int)) = cntA A l - 1 by omega] at i4
  refine ⟨_, e, i2.wt (Or.inl rfl) _ _, by rw [rd_wt_same, drop_cnt, wr_of (by omega) (by omega)], fun j a c => ?_⟩
  rw [drop_cnt] at c
  rw [o_steps, o_ticks, rd_wt_o (by simp), rd_wt_o (by simp), (i4 j).1, (i4 j).2, drop_stp h0 a, drop_tck h0 a]
  have q1 := hr.2 j a (by omega)
  have q2 := hr.2 (j + 1) (by omega) (by omega)
  rw [o_steps, o_ticks] at q1 q2
  by_cases h9 : i ≤ j ∧ j < cntA A l - 1
  · simp only [if_pos h9]
    exact q2
  · simp only [if_neg h9]
    exact q1
theorem e_dropNote (hc : CP s p A) (hw : WF A) : ∃ s', f_X6_dropNote (1, p, 0) l i s = some ((if canDrA A l i < 0 then canDrA A l i else cntA A l - 1), s') ∧ CP s' p (if canDrA A l i < 0 then A else dropA A l i) ∧ Only (pob p) s s' := by
  unfold f_X6_dropNote
  have hn := hw.2.1.1
  by_cases g1 : ¬ (0 ≤ l ∧ l ≤ 3)
  · have e : canDrA A l i = -2 := by unfold canDrA; rw [if_pos (fun z => g1 z.1)]
    rw [e, e_isLine, bd_eq, if_neg g1, if00]
    exact ⟨s, rfl, hc, Only.refl _ _⟩
  have g1 : 0 ≤ l ∧ l ≤ 3 := Classical.byContradiction g1
  have hl := hw.1 l g1.1 g1.2
  have hlr := hc.1 l g1.1 g1.2
  have hb := hl.1
  rw [e_isLine, bd_eq, if_pos g1, if10, gd_of (by omega) (by omega), o_line, e_has hlr hl, bd_eq]
  by_cases g2 : ¬ (0 ≤ i ∧ i < cntA A l)
  · have e : canDrA A l i = -2 := by unfold canDrA; rw [if_pos (fun z => g2 z.2)]
    rw [e, if_neg g2, if00]
    exact ⟨s, rfl, hc, Only.refl _ _⟩
  have g2 : 0 ≤ i ∧ i < cntA A l := Classical.byContradiction g2
  rw [if_pos g2, if10, o_entries, e_having hc.2.1 hn, bd_eq]
  by_cases g4 : 0 < nenA A l (A 84).toNat
  · have e : canDrA A l i = -3 := by unfold canDrA; rw [if_neg (fun z => z ⟨g1, g2⟩), if_pos g4]
    rw [e, if_neg (by omega)]
    exact ⟨s, rfl, hc, Only.refl _ _⟩
  have e : canDrA A l i = 0 := by unfold canDrA; rw [if_neg (fun z => z ⟨g1, g2⟩), if_neg g4]
  obtain ⟨s', a1, a2, a3⟩ := e_lineRemove hlr hl g2.1 g2.2
  rw [e, if_pos (by omega), gd_of (by omega) (by omega), a1, bd_eq, gd_of (by omega) (by omega), a3.1, drop_cnt]
  exact ⟨s', rfl, hc.line hw.1 g1.1 g1.2 a2 (fun k hk => drop_out g2.1 (by omega) k hk) a3, a2.mono (fun o h => lob_pob o h)⟩
theorem e_dropLoop (hm : MR s A) (hw : WL A l) (g : 0 ≤ l ∧ l ≤ 3) (h0 : 0 ≤ i) (h1 : i < cntA A l) (o : u_O) : ∃ s', f_X11_drop_L61 FU (fun s_4 => gd (wr (21 * l)) 145 (gd (wr (21 * l)) 145 (bd (f_X11_notes o l (wt s_4 (a_Mo_all o) (wr (21 * l)) (wr ((rd s_4 (a_Mo_all o) (wr (21 * l))) - 1)))) (fun r_3 s_5 => some (r_3, s_5))))) o l i s = some (cntA A l - 1, s') ∧ MR s' (dropA A l i) ∧ Only mal s s' := by
  have hb := hw.1
  have d0 : ∀ j, cntA (dropI A l i j) l = cntA A l := fun j => if_neg (by omega)
  have key : ∀ s1, MR s1 (dropI A l i (cntA A l - 1)) → Only mal s s1 → ∃ s', gd (wr (21 * l)) 145 (gd (wr (21 * l)) 145 (bd (f_X11_notes o l (wt s1 (a_Mo_all o) (wr (21 * l)) (wr ((rd s1 (a_Mo_all o) (wr (21 * l))) - 1)))) (fun r_3 s_5 => some (r_3, s_5)))) = some (cntA A l - 1, s') ∧ MR s' (dropA A l i) ∧ Only mal s s' := by
    intro s1 hm1 ho
    rw [wr_of (x := 21 * l) (by omega) (by omega), gd_of (by omega) (by omega), gd_of (by omega) (by omega), m_rd hm1 _ (by omega) (by omega), show dropI A l i (cntA A l - 1) (21 * l) = cntA A l from d0 _, wr_of (x := cntA A l - 1) (by omega) (by omega)]
    have m2 : MR (wt s1 (a_Mo_all o) (21 * l) (cntA A l - 1)) (dropA A l i) := MR.wt hm1 (InR_iff.mpr ⟨by omega, by omega⟩)
    rw [e_notes m2 o g.1 g.2, bd_eq, drop_cnt]
    exact ⟨_, rfl, m2, ho.wt rfl _ _⟩
  obtain ⟨b, e, i1, i2, i3⟩ := loop_relfu (fun m (b : Int × u_S) => f_X11_drop_L61 m (fun s_4 => gd (wr (21 * l)) 145 (gd (wr (21 * l)) 145 (bd (f_X11_notes o l (wt s_4 (a_Mo_all o) (wr (21 * l)) (wr ((rd s_4 (a_Mo_all o) (wr (21 * l))) - 1)))) (fun r_3 s_5 => some (r_3, s_5))))) o l b.1 b.2) (fun j b => b.1 = i + j ∧ Only mal s b.2 ∧ MR b.2 (dropI A l i (i + j))) (fun b => gd (wr (21 * l)) 145 (gd (wr (21 * l)) 145 (bd (f_X11_notes o l (wt b.2 (a_Mo_all o) (wr (21 * l)) (wr ((rd b.2 (a_Mo_all o) (wr (21 * l))) - 1)))) (fun r_3 s_5 => some (r_3, s_5))))) (cntA A l - 1 - i).toNat (by omega) (by
      intro j b m hj ⟨e1, e2, e3⟩
      obtain ⟨b1, s1⟩ := b
      dsimp only at e1 e2 e3
      subst e1
      have q1 : stpA (dropI A l i (i + j)) l (i + j + 1) = stpA A l (i + j + 1) := if_neg (by omega)
      have q2 : tckA (dropI A l i (i + j)) l (i + j + 1) = tckA A l (i + j + 1) := if_neg (by omega)
      have w := hw.2 (i + j + 1) (by omega) (by omega)
      have m1 : MR (wt s1 (a_Mo_all o) (21 * l + 1 + 2 * (i + j)) (stpA A l (i + j + 1))) (upA (dropI A l i (i + j)) (21 * l + 1 + 2 * (i + j)) (stpA A l (i + j + 1))) := MR.wt e3 (InR_iff.mpr ⟨by omega, by omega⟩)
      have q3 : tckA (upA (dropI A l i (i + j)) (21 * l + 1 + 2 * (i + j)) (stpA A l (i + j + 1))) l (i + j + 1) = tckA A l (i + j + 1) := by rw [← q2]; exact upA_ne (by omega)
      have m2 : MR (wt (wt s1 (a_Mo_all o) (21 * l + 1 + 2 * (i + j)) (stpA A l (i + j + 1))) (a_Mo_all o) (21 * l + 2 + 2 * (i + j)) (tckA A l (i + j + 1))) (upA (upA (dropI A l i (i + j)) (21 * l + 1 + 2 * (i + j)) (stpA A l (i + j + 1))) (21 * l + 2 + 2 * (i + j)) (tckA A l (i + j + 1))) := MR.wt m1 (InR_iff.mpr ⟨by omega, by omega⟩)
      refine ⟨(wr (i + j + 1), wt (wt s1 (a_Mo_all o) (21 * l + 1 + 2 * (i + j)) (stpA A l (i + j + 1))) (a_Mo_all o) (21 * l + 2 + 2 * (i + j)) (tckA A l (i + j + 1))), ?_, by dsimp only; rw [wr_of (by omega) (by omega)]; omega, (e2.wt (o := a_Mo_all o) rfl _ _).wt (o := a_Mo_all o) rfl _ _, ?_⟩
      rotate_left
      · dsimp only
        have e : upA (upA (dropI A l i (i + j)) (21 * l + 1 + 2 * (i + j)) (stpA A l (i + j + 1))) (21 * l + 2 + 2 * (i + j)) (tckA A l (i + j + 1)) = dropI A l i (i + (j + 1 : Nat)) := by
          funext k
          unfold upA dropI
          by_cases k1 : k = 21 * l + 2 + 2 * (i + j)
          · rw [if_pos k1, if_pos (by omega)]; exact congrArg A (by omega)
          · rw [if_neg k1]
            by_cases k2 : k = 21 * l + 1 + 2 * (i + j)
            · rw [if_pos k2, if_pos (by omega)]; exact congrArg A (by omega)
            · rw [if_neg k2]
              by_cases k3 : 21 * l + 1 + 2 * i ≤ k ∧ k < 21 * l + 1 + 2 * (i + j)
              · rw [if_pos k3, if_pos (by omega)]
              · rw [if_neg k3, if_neg (by omega)]
        rw [← e]
        exact m2
      · dsimp only
        rw [f_X11_drop_L61, e_notes e3 o g.1 g.2, bd_eq, d0, wr_of (x := cntA A l - 1) (by omega) (by omega), if_pos (by omega), wr_of (x := i + j + 1) (by omega) (by omega), e_plain e3 o g.1 g.2 (by omega) (by omega), bd_eq, q1]
        simp only [wr_of (x := 21 * l) (show _ by omega) (show _ by omega), wr_of (x := 2 * (i + j)) (show _ by omega) (show _ by omega), wr_of (x := 21 * l + 1) (show _ by omega) (show _ by omega), wr_of (x := 21 * l + 2) (show _ by omega) (show _ by omega), wr_of (x := 21 * l + 1 + 2 * (i + j)) (show _ by omega) (show _ by omega), wr_of (x := 21 * l + 2 + 2 * (i + j)) (show _ by omega) (show _ by omega)]
        rw [gd_of (by omega) (by omega), e_ticks m1 o g.1 g.2 (by omega) (by omega), bd_eq, q3, gd_of (by omega) (by omega)]) (by
      intro b m ⟨e1, e2, e3⟩
      rw [f_X11_drop_L61, e_notes e3 o g.1 g.2, bd_eq, d0, wr_of (x := cntA A l - 1) (by omega) (by omega), if_neg (by omega)]) (i, s) ⟨by simp, Only.refl _ _, by
        have : dropI A l i (i + (0 : Nat)) = A := by funext k; unfold dropI; rw [if_neg (by omega)]
        rw [this]; exact hm⟩
  obtain ⟨b1, s1⟩ := b
  dsimp only at i1 i2 i3 e
  rw [show i + (((cntA A l - 1 - i).toNat : Nat) : Int) = cntA A l - 1 by omega] at i3
  obtain ⟨s', z1, z2, z3⟩ := key s1 i3 i2
  exact ⟨s', e.trans z1, z2, z3⟩
theorem call_drop (l i : Int) (hi : InR i) : Call (f_X10_drop oF l i) (f_X11_drop oM l i) := by
  refine call_op (op := f_X6_dropNote (1, 0, 0) l i) (now := fun s => f_X11_drop_L61 FU (fun s_4 => gd (wr (21 * l)) 145 (gd (wr (21 * l)) 145 (bd (f_X11_notes oM l (wt s_4 (a_Mo_all oM) (wr (21 * l)) (wr ((rd s_4 (a_Mo_all oM) (wr (21 * l))) - 1)))) (fun r_3 s_5 => some (r_3, s_5))))) oM l i s) (fun s => rfl) (fun A hw => ⟨canDrA A l i, cntA A l - 1, dropA A l i, canDr_cases A l i, fun h => ?_, fun s1 h1 => e_dropNote h1 hw, fun s hs => ?_, fun h s1 h1 => ?_⟩)
  · have g := canDr_0 h
    have hb := (hw.1 l g.1.1.1 g.1.1.2).1
    exact ⟨by omega, hw.line g.2 g.1.1.1 g.1.1.2 (fun k hk => drop_out g.1.2.1 (by omega) k hk) (drop_WL (hw.1 l g.1.1.1 g.1.1.2) g.1.2.1 g.1.2.2)⟩
  · unfold f_X11_drop
    simp only [bd_id]
    have hn := hw.2.1.1
    by_cases g1 : 0 ≤ l ∧ l ≤ 3
    · have hb := (hw.1 l g1.1 g1.2).1
      simp only [e_misLine, bd_eq, jn_eq, g1, and_self, if_true, if10, e_notes hs oM g1.1 g1.2, wr_of (x := cntA A l - 1) (show _ by omega) (show _ by omega), e_in, e_entered hs oM hn]
      by_cases g2 : 0 ≤ i ∧ i < cntA A l
      · rw [if_pos (show 0 ≤ i ∧ i ≤ cntA A l - 1 by omega), if10]
        by_cases g4 : 0 < nenA A l (A 84).toNat
        · have e : canDrA A l i = -3 := by unfold canDrA; rw [if_neg (fun z => z ⟨g1, g2⟩), if_pos g4]
          rw [e, if_neg (show ¬ nenA A l (A 84).toNat ≤ 0 by omega)]
        · have e : canDrA A l i = 0 := by unfold canDrA; rw [if_neg (fun z => z ⟨g1, g2⟩), if_neg g4]
          rw [e, if_pos (show nenA A l (A 84).toNat ≤ 0 by omega)]
      · have e : canDrA A l i = -2 := by unfold canDrA; rw [if_pos (fun z => g2 z.2)]
        rw [e, if_neg (show ¬ (0 ≤ i ∧ i ≤ cntA A l - 1) by omega), if00]
    · have e : canDrA A l i = -2 := by unfold canDrA; rw [if_pos (fun z => g1 z.1)]
      rw [e]
      simp only [e_misLine, bd_eq, jn_eq, g1, if_false, if00, if_true]
  · have g := canDr_0 h
    exact e_dropLoop h1 (hw.1 l g.1.1.1 g.1.1.2) g.1.1 g.1.2.1 g.1.2.2 oM
end DROP
