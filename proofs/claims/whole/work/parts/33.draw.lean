/-! draw -/
def nxX (x : Int) : Int := (x * 1103515245 + 12345) % 2147483648
def tkX (y : Int) : Int := y / 1024 % 4 + 1
def stX (i st y : Int) : Int := if i ≤ 0 then st else max 0 (min 27 (st + (y / 65536 % 7 - 3)))
/-- after i notes: the number, the step, the row -/
def drw (A : Int → Int) (l seed : Int) : Nat → Int × Int × (Int → Int)
  | 0 => (seed, 14, emptA A l)
  | i + 1 => (nxX (drw A l seed i).1, stX i (drw A l seed i).2.1 (nxX (drw A l seed i).1), noteA (drw A l seed i).2.2 l (stX i (drw A l seed i).2.1 (nxX (drw A l seed i).1)) (tkX (nxX (drw A l seed i).1)))
theorem nx_b (x : Int) : 0 ≤ nxX x ∧ nxX x < 2147483648 := by unfold nxX; omega
theorem tk_b (y : Int) : 1 ≤ tkX y ∧ tkX y ≤ 4 := by unfold tkX; omega
theorem st_b {i st : Int} (y : Int) (h : 0 ≤ st ∧ st ≤ 27) : 0 ≤ stX i st y ∧ stX i st y ≤ 27 := by unfold stX; split <;> omega
theorem x_1 {x : Int} (h : 0 ≤ x ∧ x < 2147483648) : Int.tmod (wl ((wl (x * 1103515245)) + 12345)) 2147483648 = nxX x := by
  rw [wl_of (x := x * 1103515245) (by omega) (by omega), wl_of (by omega) (by omega), Int.tmod_eq_emod_of_nonneg (by omega)]
  rfl
theorem x_2 {y : Int} (h : 0 ≤ y ∧ y < 2147483648) : wr (Int.tmod (wl (Int.tdiv y 1024)) 4) = y / 1024 % 4 := by
  rw [Int.tdiv_eq_ediv_of_nonneg h.1, wl_of (by omega) (by omega), Int.tmod_eq_emod_of_nonneg (by omega), wr_of (by omega) (by omega)]
theorem x_3 {y : Int} (h : 0 ≤ y ∧ y < 2147483648) : wr (Int.tmod (wl (Int.tdiv y 65536)) 7) = y / 65536 % 7 := by
  rw [Int.tdiv_eq_ediv_of_nonneg h.1, wl_of (by omega) (by omega), Int.tmod_eq_emod_of_nonneg (by omega), wr_of (by omega) (by omega)]
def canDwA (A : Int → Int) (l seed n : Int) : Int := if ¬ ((0 ≤ l ∧ l ≤ 3) ∧ (0 ≤ seed ∧ seed ≤ 999999) ∧ (1 ≤ n ∧ n ≤ 10)) then -2 else if 0 < nenA A l (A 84).toNat then -3 else 0
section DRAW
variable {s : u_S} {A : Int → Int} {l seed n : Int} {p : Nat}
theorem drw_ok (hs : 0 ≤ seed ∧ seed ≤ 999999) : ∀ i : Nat, i ≤ 10 → (0 ≤ (drw A l seed i).1 ∧ (drw A l seed i).1 < 2147483648) ∧ (0 ≤ (drw A l seed i).2.1 ∧ (drw A l seed i).2.1 ≤ 27) ∧ cntA (drw A l seed i).2.2 l = i ∧ WL (drw A l seed i).2.2 l ∧ ∀ k, (k < 21 * l ∨ 21 * l + 20 < k) → (drw A l seed i).2.2 k = A k
  | 0, _ => ⟨⟨hs.1, by show seed < _; omega⟩, ⟨by show (0 : Int) ≤ 14; omega, by show (14 : Int) ≤ 27; omega⟩, empt_cnt, empt_WL, fun k h => empt_out k h⟩
  | i + 1, h => by
    obtain ⟨h1, h2, h3, h4, h5⟩ := drw_ok hs i (by omega)
    have b := st_b (i := (i : Int)) (nxX (drw A l seed i).1) h2
    have t := tk_b (nxX (drw A l seed i).1)
    refine ⟨nx_b _, b, ?_, note_WL h4 (by omega) b t, fun k hk => ?_⟩
    · show cntA (noteA _ l _ _) l = _
      rw [note_cnt, h3]
      omega
    · show noteA _ l _ _ k = A k
      rw [note_out ⟨h4.1.1, by omega⟩ k hk, h5 k hk]
theorem canDw_cases (A : Int → Int) (l seed n : Int) : canDwA A l seed n = -2 ∨ canDwA A l seed n = -3 ∨ canDwA A l seed n = -4 ∨ canDwA A l seed n = 0 := by
  unfold canDwA
  repeat' split
  all_goals omega
theorem canDw_0 (h : canDwA A l seed n = 0) : ((0 ≤ l ∧ l ≤ 3) ∧ (0 ≤ seed ∧ seed ≤ 999999) ∧ (1 ≤ n ∧ n ≤ 10)) ∧ nenA A l (A 84).toNat ≤ 0 := by
  unfold canDwA at h
  split at h
  · omega
  · rename_i g
    have g := Classical.byContradiction g
    split at h
    · omega
    · exact ⟨g, by omega⟩
theorem e_drawLine (hc : CP s p A) (hw : WF A) : ∃ s', f_X6_drawLine (1, p, 0) l seed n s = some ((if canDwA A l seed n < 0 then canDwA A l seed n else lenA (drw A l seed n.toNat).2.2 l), s') ∧ CP s' p (if canDwA A l seed n < 0 then A else (drw A l seed n.toNat).2.2) ∧ Only (pob p) s s' := by
  unfold f_X6_drawLine
  have hn := hw.2.1.1
  by_cases g1 : ¬ (0 ≤ l ∧ l ≤ 3)
  · have e : canDwA A l seed n = -2 := by unfold canDwA; rw [if_pos (fun z => g1 z.1)]
    rw [e, e_isLine, bd_eq, if_neg g1, if00]
    exact ⟨s, rfl, hc, Only.refl _ _⟩
  have g1 : 0 ≤ l ∧ l ≤ 3 := Classical.byContradiction g1
  rw [e_isLine, bd_eq, if_pos g1, if10, e_within, bd_eq]
  by_cases g2 : ¬ (0 ≤ seed ∧ seed ≤ 999999)
  · have e : canDwA A l seed n = -2 := by unfold canDwA; rw [if_pos (fun z => g2 z.2.1)]
    rw [e, if_neg g2, if00]
    exact ⟨s, rfl, hc, Only.refl _ _⟩
  have g2 : 0 ≤ seed ∧ seed ≤ 999999 := Classical.byContradiction g2
  rw [if_pos g2, if10, e_within, bd_eq]
  by_cases g3 : ¬ (1 ≤ n ∧ n ≤ 10)
  · have e : canDwA A l seed n = -2 := by unfold canDwA; rw [if_pos (fun z => g3 z.2.2)]
    rw [e, if_neg g3, if00]
    exact ⟨s, rfl, hc, Only.refl _ _⟩
  have g3 : 1 ≤ n ∧ n ≤ 10 := Classical.byContradiction g3
  rw [if_pos g3, if10, o_entries, e_having hc.2.1 hn, bd_eq]
  by_cases g4 : 0 < nenA A l (A 84).toNat
  · have e : canDwA A l seed n = -3 := by unfold canDwA; rw [if_neg (fun z => z ⟨g1, g2, g3⟩), if_pos g4]
    rw [e, if_neg (by omega)]
    exact ⟨s, rfl, hc, Only.refl _ _⟩
  have e : canDwA A l seed n = 0 := by unfold canDwA; rw [if_neg (fun z => z ⟨g1, g2, g3⟩), if_neg g4]
  have k0 : ¬ (0 : Int) < 0 := by omega
  rw [e, if_neg k0, if_neg k0, if_pos (by omega), gd_of (by omega) (by omega), o_line]
  obtain ⟨b, q, i1, i2, i3⟩ := loop_relfu (fun m (b : (Int × Int × Int) × u_S) => f_X6_drawLine_L69 m (fun s_5 => bd (f_X5_length (3, p, l.toNat) s_5) (fun r_5 s_6 => some (r_5, s_6))) n (3, p, l.toNat) b.1.1 b.1.2.1 b.1.2.2 b.2) (fun i b => b.1 = ((drw A l seed i).1, (drw A l seed i).2.1, (i : Int)) ∧ Only (lob p l.toNat) s b.2 ∧ LR b.2 (3, p, l.toNat) (drw A l seed i).2.2 l) (fun b => bd (f_X5_length (3, p, l.toNat) b.2) (fun r_5 s_6 => some (r_5, s_6))) n.toNat (by omega) (by
      intro i b m hi ⟨e1, e2, e3⟩
      obtain ⟨b1, s1⟩ := b
      dsimp only at e1 e2 e3
      subst e1
      obtain ⟨h1, h2, h3, h4, h5⟩ := drw_ok (A := A) (l := l) g2 i (by omega)
      have b1 := st_b (i := (i : Int)) (nxX (drw A l seed i).1) h2
      have t := tk_b (nxX (drw A l seed i).1)
      have nb := nx_b (drw A l seed i).1
      obtain ⟨s2, a1, a2, a3⟩ := e_lineAppend (st := stX i (drw A l seed i).2.1 (nxX (drw A l seed i).1)) (tk := tkX (nxX (drw A l seed i).1)) e3 h4 (by omega) b1 t
      refine ⟨((nxX (drw A l seed i).1, stX i (drw A l seed i).2.1 (nxX (drw A l seed i).1), (i : Int) + 1), s2), ?_, by rfl, e2.trans a2, a3⟩
      dsimp only
      rw [f_X6_drawLine_L69, if_pos (by omega)]
      simp only [jn_eq, x_1 h1, x_2 nb, x_3 nb, wr_of (x := (i : Int) + 1) (show _ by omega) (show _ by omega), wr_of (x := nxX (drw A l seed i).1 / 1024 % 4 + 1) (show _ by omega) (show _ by omega), wr_of (x := nxX (drw A l seed i).1 / 65536 % 7 - 3) (show _ by omega) (show _ by omega), wr_of (x := (drw A l seed i).2.1 + (nxX (drw A l seed i).1 / 65536 % 7 - 3)) (show _ by omega) (show _ by omega), e_min, e_max, bd_eq]
      unfold stX at a1 ⊢
      unfold tkX at a1
      by_cases hi0 : (i : Int) ≤ 0
      · rw [if_pos hi0] at a1 ⊢
        rw [if_pos hi0, a1, bd_eq]
      · rw [if_neg hi0] at a1 ⊢
        rw [if_neg hi0, show min 27 ((drw A l seed i).2.1 + (nxX (drw A l seed i).1 / 65536 % 7 - 3)) = min 27 ((drw A l seed i).2.1 + (nxX (drw A l seed i).1 / 65536 % 7 - 3)) from rfl, a1, bd_eq]) (by
      intro b m ⟨e1, e2, e3⟩
      obtain ⟨b1, s1⟩ := b
      dsimp only at e1 ⊢
      subst e1
      rw [f_X6_drawLine_L69, if_neg (by dsimp only; omega)]) ((seed, 14, 0), wt s (3, p, l.toNat) 2 0) ⟨rfl, (Only.refl (lob p l.toNat) s).wt (Or.inl rfl) _ _, by
        have : (drw A l seed 0).2.2 = emptA A l := rfl
        rw [this]
        exact ⟨by rw [rd_wt_same, empt_cnt]; rfl, fun i a b => by rw [empt_cnt] at b; omega⟩⟩
  obtain ⟨h1, h2, h3, h4, h5⟩ := drw_ok (A := A) (l := l) g2 n.toNat (by omega)
  rw [e_length i3 h4, bd_eq] at q
  exact ⟨b.2, q, hc.line hw.1 g1.1 g1.2 i2 h5 i3, i2.mono (fun o h => lob_pob o h)⟩
theorem e_drawLoop (hm : MR s (emptA A l)) (g : 0 ≤ l ∧ l ≤ 3) (g2 : 0 ≤ seed ∧ seed ≤ 999999) (g3 : 1 ≤ n ∧ n ≤ 10) (o : u_O) : ∃ s', f_X11_draw_L77 FU (fun s_5 => f_X11_length o l s_5) o l n seed 14 0 s = some (lenA (drw A l seed n.toNat).2.2 l, s') ∧ MR s' (drw A l seed n.toNat).2.2 ∧ Only mal s s' := by
  obtain ⟨b, q, i1, i2, i3⟩ := loop_relfu (fun m (b : (Int × Int × Int) × u_S) => f_X11_draw_L77 m (fun s_5 => f_X11_length o l s_5) o l n b.1.1 b.1.2.1 b.1.2.2 b.2) (fun i b => b.1 = ((drw A l seed i).1, (drw A l seed i).2.1, (i : Int)) ∧ Only mal s b.2 ∧ MR b.2 (drw A l seed i).2.2) (fun b => f_X11_length o l b.2) n.toNat (by omega) (by
      intro i b m hi ⟨e1, e2, e3⟩
      obtain ⟨b1, s1⟩ := b
      dsimp only at e1 e2 e3
      subst e1
      obtain ⟨h1, h2, h3, h4, h5⟩ := drw_ok (A := A) (l := l) g2 i (by omega)
      have b1 := st_b (i := (i : Int)) (nxX (drw A l seed i).1) h2
      have t := tk_b (nxX (drw A l seed i).1)
      have nb := nx_b (drw A l seed i).1
      have z0 : (i : Int) ≤ 0 → (drw A l seed i).2.1 = 14 := fun h => by
        have : i = 0 := by omega
        subst this; rfl
      obtain ⟨s2, a1, a2, a3⟩ := e_noteNow e3 h4 g.1 g.2 (by omega) o b1 t
      refine ⟨((nxX (drw A l seed i).1, stX i (drw A l seed i).2.1 (nxX (drw A l seed i).1), (i : Int) + 1), s2), ?_, by rfl, e2.trans a3, a2⟩
      dsimp only
      rw [f_X11_draw_L77, if_pos (by omega)]
      simp only [jn_eq, x_1 h1, x_2 nb, x_3 nb, wr_of (x := (i : Int) + 1) (show _ by omega) (show _ by omega), wr_of (x := 1 + nxX (drw A l seed i).1 / 1024 % 4) (show _ by omega) (show _ by omega), wr_of (x := (drw A l seed i).2.1 + nxX (drw A l seed i).1 / 65536 % 7) (show _ by omega) (show _ by omega), wr_of (x := (drw A l seed i).2.1 + nxX (drw A l seed i).1 / 65536 % 7 - 3) (show _ by omega) (show _ by omega)]
      have et : 1 + nxX (drw A l seed i).1 / 1024 % 4 = tkX (nxX (drw A l seed i).1) := by unfold tkX; omega
      rw [et]
      by_cases hi0 : (i : Int) ≤ 0
      · have es : stX i (drw A l seed i).2.1 (nxX (drw A l seed i).1) = 14 := by unfold stX; rw [if_pos hi0, z0 hi0]
        rw [es] at a1 ⊢
        rw [if_pos (by omega), if_neg (by omega), if_pos (by omega), a1, bd_eq]
      · have es : stX i (drw A l seed i).2.1 (nxX (drw A l seed i).1) = max 0 (min 27 ((drw A l seed i).2.1 + (nxX (drw A l seed i).1 / 65536 % 7 - 3))) := by unfold stX; rw [if_neg hi0]
        rw [if_neg (by omega)]
        by_cases c1 : (drw A l seed i).2.1 + nxX (drw A l seed i).1 / 65536 % 7 - 3 < 0
        · rw [show stX i (drw A l seed i).2.1 (nxX (drw A l seed i).1) = 0 by omega] at a1 ⊢
          rw [if_pos c1, a1, bd_eq]
        · rw [if_neg c1]
          by_cases c2 : (drw A l seed i).2.1 + nxX (drw A l seed i).1 / 65536 % 7 - 3 ≤ 27
          · rw [show stX i (drw A l seed i).2.1 (nxX (drw A l seed i).1) = (drw A l seed i).2.1 + nxX (drw A l seed i).1 / 65536 % 7 - 3 by omega] at a1 ⊢
            rw [if_pos c2, a1, bd_eq]
          · rw [show stX i (drw A l seed i).2.1 (nxX (drw A l seed i).1) = 27 by omega] at a1 ⊢
            rw [if_neg c2, a1, bd_eq]) (by
      intro b m ⟨e1, e2, e3⟩
      obtain ⟨b1, s1⟩ := b
      dsimp only at e1 ⊢
      subst e1
      rw [f_X11_draw_L77, if_neg (by dsimp only; omega)]) ((seed, 14, 0), s) ⟨rfl, Only.refl _ _, hm⟩
  obtain ⟨h1, h2, h3, h4, h5⟩ := drw_ok (A := A) (l := l) g2 n.toNat (by omega)
  rw [e_mlength i3 h4 o g.1 g.2] at q
  exact ⟨b.2, q, i3, i2⟩
theorem call_draw (l seed n : Int) : Call (f_X10_draw oF l seed n) (f_X11_draw oM l seed n) := by
  refine call_op (op := f_X6_drawLine (1, 0, 0) l seed n) (now := fun s => bd (f_X11_emptyNow oM l s) (fun r_3 s_4 => f_X11_draw_L77 FU (fun s_5 => bd (f_X11_length oM l s_5) (fun r_4 s_6 => some (r_4, s_6))) oM l n seed 14 0 s_4)) (fun s => rfl) (fun A hw => ⟨canDwA A l seed n, lenA (drw A l seed n.toNat).2.2 l, (drw A l seed n.toNat).2.2, canDw_cases A l seed n, fun h => ?_, fun s1 h1 => e_drawLine h1 hw, fun s hs => ?_, fun h s1 h1 => ?_⟩)
  · have g := canDw_0 h
    obtain ⟨h1, h2, h3, h4, h5⟩ := drw_ok (A := A) (l := l) g.1.2.1 n.toNat (by omega)
    exact ⟨h4.lenb.1, hw.line g.2 g.1.1.1 g.1.1.2 h5 h4⟩
  · unfold f_X11_draw
    simp only [bd_id]
    have hn := hw.2.1.1
    by_cases g1 : 0 ≤ l ∧ l ≤ 3
    · by_cases g2 : 0 ≤ seed ∧ seed ≤ 999999
      · by_cases g3 : 1 ≤ n ∧ n ≤ 10
        · have e : canDwA A l seed n = canEmA A l := by unfold canDwA canEmA; rw [if_neg (fun z => z ⟨g1, g2, g3⟩), if_neg (show ¬ ¬ (0 ≤ l ∧ l ≤ 3) from fun z => z g1)]
          rw [e]
          simp only [e_misLine, bd_eq, jn_eq, e_in, g1, g2, g3, and_self, if_true, if10, e_canEmpty hs hw oM]
        · have e : canDwA A l seed n = -2 := by unfold canDwA; rw [if_pos (fun z => g3 z.2.2)]
          rw [e]
          simp only [e_misLine, bd_eq, jn_eq, e_in, g1, g2, g3, and_self, if_true, if10, if_false, if00]
      · have e : canDwA A l seed n = -2 := by unfold canDwA; rw [if_pos (fun z => g2 z.2.1)]
        rw [e]
        simp only [e_misLine, bd_eq, jn_eq, e_in, g1, g2, and_self, if_true, if10, if_false, if00]
    · have e : canDwA A l seed n = -2 := by unfold canDwA; rw [if_pos (fun z => g1 z.1)]
      rw [e]
      simp only [e_misLine, bd_eq, jn_eq, g1, if_true, if_false, if00]
  · have g := canDw_0 h
    obtain ⟨s2, a1, a2, a3⟩ := e_emptyNow h1 hw g.1.1 oM
    obtain ⟨s3, b1, b2, b3⟩ := e_drawLoop (seed := seed) (n := n) a2 g.1.1 g.1.2.1 g.1.2.2 oM
    refine ⟨s3, ?_, b2, a3.trans b3⟩
    simp only [bd_id]
    rw [a1, bd_eq, b1]
end DRAW
