/-! CHANGES of A, and what stays -/
def upA (A : Int → Int) (i v : Int) : Int → Int := fun k => if k = i then v else A k
theorem upA_same (A : Int → Int) (i v : Int) : upA A i v i = v := if_pos rfl
theorem upA_ne {A : Int → Int} {i v k : Int} (h : k ≠ i) : upA A i v k = A k := if_neg h
theorem nen_zero {A : Int → Int} {l : Int} : ∀ {n : Nat}, nenA A l n ≤ 0 → ∀ e : Int, 0 ≤ e → e < n → entA A e 0 ≠ l
  | 0, _, e, a, b => by omega
  | n + 1, h, e, a, b => by
    have h1 : nenA A l (n + 1) = nenA A l n + (if entA A n 0 = l then 1 else 0) := rfl
    have h2 := nen_b A l n
    by_cases hn : entA A n 0 = l
    · rw [if_pos hn] at h1; omega
    · rw [if_neg hn] at h1
      by_cases he : e = n
      · rw [he]; exact hn
      · exact nen_zero (n := n) (by omega) e a (by omega)
theorem cnt_congr {A A' : Int → Int} {l : Int} (h : ∀ k, 21 * l ≤ k → k ≤ 21 * l + 20 → A' k = A k) : cntA A' l = cntA A l := h _ (by omega) (by omega)
theorem stp_congr {A A' : Int → Int} {l : Int} (h : ∀ k, 21 * l ≤ k → k ≤ 21 * l + 20 → A' k = A k) {i : Int} (h0 : 0 ≤ i) (h1 : i < 10) : stpA A' l i = stpA A l i := h _ (by omega) (by omega)
theorem tck_congr {A A' : Int → Int} {l : Int} (h : ∀ k, 21 * l ≤ k → k ≤ 21 * l + 20 → A' k = A k) {i : Int} (h0 : 0 ≤ i) (h1 : i < 10) : tckA A' l i = tckA A l i := h _ (by omega) (by omega)
theorem WL.congr {A A' : Int → Int} {l : Int} (h : ∀ k, 21 * l ≤ k → k ≤ 21 * l + 20 → A' k = A k) (hw : WL A l) : WL A' l := by
  have hc := hw.1
  refine ⟨by rw [cnt_congr h]; exact hc, fun i a b => ?_⟩
  rw [cnt_congr h] at b
  rw [stp_congr h a (by omega), tck_congr h a (by omega)]
  exact hw.2 i a b
theorem len_congr {A A' : Int → Int} {l : Int} (h : ∀ k, 21 * l ≤ k → k ≤ 21 * l + 20 → A' k = A k) (hw : WL A l) : lenA A' l = lenA A l := by
  have hc := hw.1
  unfold lenA
  rw [cnt_congr h]
  exact sm_congr (fun i a b => tck_congr h a (by omega))
theorem LR.congr {s : u_S} {o : u_O} {A A' : Int → Int} {l : Int} (h : ∀ k, 21 * l ≤ k → k ≤ 21 * l + 20 → A' k = A k) (hw : WL A l) (hr : LR s o A l) : LR s o A' l := by
  have hc := hw.1
  refine ⟨by rw [cnt_congr h]; exact hr.1, fun i a b => ?_⟩
  rw [cnt_congr h] at b
  rw [stp_congr h a (by omega), tck_congr h a (by omega)]
  exact hr.2 i a b
/-- a line that no entry has may change -/
theorem WF.line {A A' : Int → Int} {l : Int} (h : WF A) (hn : nenA A l (A 84).toNat ≤ 0) (h0 : 0 ≤ l) (h1 : l ≤ 3) (hA : ∀ k, (k < 21 * l ∨ 21 * l + 20 < k) → A' k = A k) (hw : WL A' l) : WF A' := by
  obtain ⟨w1, w2, w3, w4, w5, w6, w7, w8⟩ := h
  have e84 : A' 84 = A 84 := hA _ (by omega)
  have ee : ∀ e k, 0 ≤ e → 0 ≤ k → k < 5 → entA A' e k = entA A e k := fun e k a b c => hA _ (by omega)
  have ne := nen_zero hn
  have hen : ∀ e, 0 ≤ e → e < A 84 → endA A' e = endA A e := by
    intro e a b
    have q := (w2.2 e a b).1
    have hb : ∀ k, 21 * (entA A e 0) ≤ k → k ≤ 21 * (entA A e 0) + 20 → A' k = A k := fun k c d => hA k (by have := ne e a (by omega); omega)
    unfold endA lastA
    rw [ee e 3 a (by omega) (by omega), ee e 0 a (by omega) (by omega), ee e 1 a (by omega) (by omega), len_congr hb (w1 _ q.1 q.2)]
  refine ⟨fun l' a b => ?_, ⟨by rw [e84]; exact w2.1, fun e a b => ?_⟩, fun e g a b c d => ?_, by rw [hA 135 (by omega)]; exact w4, by rw [hA 136 (by omega)]; exact w5, by rw [hA 137 (by omega)]; exact w6, by rw [hA 138 (by omega)]; exact w7, ⟨by rw [hA 139 (by omega)]; exact w8.1, fun i a b => ?_, fun i j a b c => ?_⟩⟩
  · by_cases e : l' = l
    · rw [e]; exact hw
    · exact (w1 l' a b).congr (fun k c d => hA k (by omega))
  · rw [e84] at b
    rw [ee e 0 a (by omega) (by omega), ee e 1 a (by omega) (by omega), ee e 2 a (by omega) (by omega), ee e 3 a (by omega) (by omega), ee e 4 a (by omega) (by omega)]
    exact w2.2 e a b
  · rw [e84] at c
    rw [ee e 4 a (by omega) (by omega), ee g 4 (by omega) (by omega) (by omega)] at d
    rw [hen e a (by omega), hen g (by omega) c, ee e 3 a (by omega) (by omega), ee g 3 (by omega) (by omega) (by omega)]
    exact w3 e g a b c d
  · rw [hA (140 + i) (by omega)]
    exact w8.2.1 i a b
  · rw [hA 139 (by omega)] at c
    rw [hA (140 + i) (by omega), hA (140 + j) (by omega)]
    exact w8.2.2 i j a b c
def lob (p : Nat) (l : Nat) (o : u_O) : Prop := o = (3, p, l) ∨ o = (4, p, l) ∨ o = (5, p, l)
theorem CP.line {s s' : u_S} {p : Nat} {A A' : Int → Int} {l : Int} (hc : CP s p A) (hw : ∀ l, 0 ≤ l → l ≤ 3 → WL A l) (h0 : 0 ≤ l) (h1 : l ≤ 3) (ho : Only (lob p l.toNat) s s') (hA : ∀ k, (k < 21 * l ∨ 21 * l + 20 < k) → A' k = A k) (hl : LR s' (3, p, l.toNat) A' l) : CP s' p A' := by
  obtain ⟨c1, c2, c3, c4, c5⟩ := hc
  refine ⟨fun l' a b => ?_, ⟨by rw [ho.rd (by simp [lob]), hA 84 (by omega)]; exact c2.1, fun i k a b c d => ?_⟩, ⟨by rw [ho.rd (by simp [lob]), hA 135 (by omega)]; exact c3.1, by rw [ho.rd (by simp [lob]), hA 136 (by omega)]; exact c3.2.1, by rw [ho.rd (by simp [lob]), hA 137 (by omega)]; exact c3.2.2.1, by rw [ho.rd (by simp [lob]), hA 138 (by omega)]; exact c3.2.2.2⟩, by rw [ho.rd (by simp [lob]), hA 139 (by omega)]; exact c4, fun i a b => ?_⟩
  · by_cases e : l' = l
    · rw [e]; exact hl
    · have hb : ∀ k, 21 * l' ≤ k → k ≤ 21 * l' + 20 → A' k = A k := fun k c d => hA k (by omega)
      have r := LR.congr hb (hw l' a b) (c1 l' a b)
      refine ⟨by rw [ho.rd (by simp [lob]; omega)]; exact r.1, fun i c d => ?_⟩
      rw [o_steps, o_ticks, ho.rd (by simp [lob]; omega), ho.rd (by simp [lob]; omega)]
      exact r.2 i c d
  · rw [hA 84 (by omega)] at b
    rw [ho.rd (by simp [lob]), show entA A' i k = entA A i k from hA _ (by omega)]
    exact c2.2 i k a b c d
  · rw [hA 139 (by omega)] at b
    rw [ho.rd (by simp [lob]), hA (140 + i) (by omega)]
    exact c5 i a b
theorem lob_pob {p l : Nat} (o : u_O) (h : lob p l o) : pob p o := by
  rcases h with h | h | h <;> subst h <;> simp [pob]
/-- notes -/
def canNoteA (A : Int → Int) (l st tk : Int) : Int := if ¬ ((0 ≤ l ∧ l ≤ 3) ∧ (0 ≤ st ∧ st ≤ 27) ∧ (1 ≤ tk ∧ tk ≤ 4)) then -2 else if 0 < nenA A l (A 84).toNat then -3 else if cntA A l = 10 then -4 else 0
def noteA (A : Int → Int) (l st tk : Int) : Int → Int := upA (upA (upA A (21 * l + 1 + 2 * cntA A l) st) (21 * l + 2 + 2 * cntA A l) tk) (21 * l) (cntA A l + 1)
theorem note_out {A : Int → Int} {l st tk : Int} (hc : 0 ≤ cntA A l ∧ cntA A l < 10) (k : Int) (h : k < 21 * l ∨ 21 * l + 20 < k) : noteA A l st tk k = A k := by
  unfold noteA
  rw [upA_ne (by omega), upA_ne (by omega), upA_ne (by omega)]
theorem note_cnt {A : Int → Int} {l st tk : Int} : cntA (noteA A l st tk) l = cntA A l + 1 := upA_same _ _ _
theorem note_stp {A : Int → Int} {l st tk i : Int} (hc : 0 ≤ cntA A l ∧ cntA A l < 10) (h0 : 0 ≤ i) (h1 : i ≤ cntA A l) : stpA (noteA A l st tk) l i = if i = cntA A l then st else stpA A l i := by
  unfold stpA noteA
  rw [upA_ne (by omega), upA_ne (by omega)]
  by_cases h : i = cntA A l
  · rw [if_pos h, h, upA_same]
  · rw [if_neg h, upA_ne (by omega)]
theorem note_tck {A : Int → Int} {l st tk i : Int} (hc : 0 ≤ cntA A l ∧ cntA A l < 10) (h0 : 0 ≤ i) (h1 : i ≤ cntA A l) : tckA (noteA A l st tk) l i = if i = cntA A l then tk else tckA A l i := by
  unfold tckA noteA
  rw [upA_ne (by omega)]
  by_cases h : i = cntA A l
  · rw [if_pos h, h, upA_same]
  · rw [if_neg h, upA_ne (by omega), upA_ne (by omega)]
theorem note_WL {A : Int → Int} {l st tk : Int} (hw : WL A l) (hc : cntA A l < 10) (h1 : 0 ≤ st ∧ st ≤ 27) (h2 : 1 ≤ tk ∧ tk ≤ 4) : WL (noteA A l st tk) l := by
  have h0 := hw.1
  refine ⟨by rw [note_cnt]; omega, fun i a b => ?_⟩
  rw [note_cnt] at b
  rw [note_stp ⟨h0.1, hc⟩ a (by omega), note_tck ⟨h0.1, hc⟩ a (by omega)]
  by_cases h : i = cntA A l
  · rw [if_pos h, if_pos h]; exact ⟨h1, h2⟩
  · rw [if_neg h, if_neg h]; exact hw.2 i a (by omega)
section UPD
variable {s : u_S} {A : Int → Int} {l : Int} {p : Nat}
theorem e_lineAppend (hr : LR s (3, p, l.toNat) A l) (hw : WL A l) (hc : cntA A l < 10) {st tk : Int} (h1 : 0 ≤ st ∧ st ≤ 27) (h2 : 1 ≤ tk ∧ tk ≤ 4) : ∃ s', f_X5_append (3, p, l.toNat) st tk s = some (0, s') ∧ Only (lob p l.toNat) s s' ∧ LR s' (3, p, l.toNat) (noteA A l st tk) l := by
  have h0 := hw.1
  refine ⟨wt (wt (wt s (4, p, l.toNat) (cntA A l) st) (5, p, l.toNat) (cntA A l) tk) (3, p, l.toNat) 2 (cntA A l + 1), ?_, (((Only.refl _ s).wt (Or.inr (Or.inl rfl)) _ _).wt (Or.inr (Or.inr rfl)) _ _).wt (Or.inl rfl) _ _, ?_⟩
  · unfold f_X5_append
    rw [e_isFull hr, bd_eq, if_pos hc, if00, o_steps, o_ticks, hr.1]
    simp only [rd_wt_o (show ((3, p, l.toNat) : u_O) ≠ (4, p, l.toNat) by simp), rd_wt_o (show ((3, p, l.toNat) : u_O) ≠ (5, p, l.toNat) by simp), hr.1]
    rw [gd_of (by omega) (by omega), gd_of (by omega) (by omega), wr_of (by omega) (by omega)]
  · refine ⟨by rw [rd_wt_same, note_cnt, wr_of (by omega) (by omega)], fun i a b => ?_⟩
    rw [note_cnt] at b
    rw [o_steps, o_ticks, note_stp ⟨h0.1, hc⟩ a (by omega), note_tck ⟨h0.1, hc⟩ a (by omega), rd_wt_o (by simp), rd_wt_o (by simp), rd_wt_o (o := (3, p, l.toNat)) (by simp)]
    by_cases h : i = cntA A l
    · rw [if_pos h, if_pos h, h, rd_wt_same, rd_wt_same, wr_of (by omega) (by omega), wr_of (by omega) (by omega)]
      exact ⟨rfl, rfl⟩
    · rw [if_neg h, if_neg h, rd_wt_k h, rd_wt_k h, rd_wt_o (by simp)]
      exact hr.2 i a (by omega)
theorem e_addNote (hc : CP s p A) (hw : WF A) (st tk : Int) : ∃ s', f_X6_addNote (1, p, 0) l st tk s = some ((if canNoteA A l st tk < 0 then canNoteA A l st tk else cntA A l), s') ∧ CP s' p (if canNoteA A l st tk < 0 then A else noteA A l st tk) ∧ Only (pob p) s s' := by
  unfold f_X6_addNote
  have hn := hw.2.1.1
  by_cases g1 : ¬ (0 ≤ l ∧ l ≤ 3)
  · have e : canNoteA A l st tk = -2 := by unfold canNoteA; rw [if_pos (fun z => g1 z.1)]
    rw [e, e_isLine, bd_eq, if_neg g1, if00]
    exact ⟨s, rfl, hc, Only.refl _ _⟩
  have g1 : 0 ≤ l ∧ l ≤ 3 := Classical.byContradiction g1
  rw [e_isLine, bd_eq, if_pos g1, if10, e_within, bd_eq]
  by_cases g2 : ¬ (0 ≤ st ∧ st ≤ 27)
  · have e : canNoteA A l st tk = -2 := by unfold canNoteA; rw [if_pos (fun z => g2 z.2.1)]
    rw [e, if_neg g2, if00]
    exact ⟨s, rfl, hc, Only.refl _ _⟩
  have g2 : 0 ≤ st ∧ st ≤ 27 := Classical.byContradiction g2
  rw [if_pos g2, if10, e_within, bd_eq]
  by_cases g3 : ¬ (1 ≤ tk ∧ tk ≤ 4)
  · have e : canNoteA A l st tk = -2 := by unfold canNoteA; rw [if_pos (fun z => g3 z.2.2)]
    rw [e, if_neg g3, if00]
    exact ⟨s, rfl, hc, Only.refl _ _⟩
  have g3 : 1 ≤ tk ∧ tk ≤ 4 := Classical.byContradiction g3
  rw [if_pos g3, if10, o_entries, e_having hc.2.1 hn, bd_eq]
  have hl := hw.1 l g1.1 g1.2
  have hlr := hc.1 l g1.1 g1.2
  by_cases g4 : 0 < nenA A l (A 84).toNat
  · have e : canNoteA A l st tk = -3 := by unfold canNoteA; rw [if_neg (fun z => z ⟨g1, g2, g3⟩), if_pos g4]
    rw [e, if_neg (by omega)]
    exact ⟨s, rfl, hc, Only.refl _ _⟩
  rw [if_pos (by omega), gd_of (by omega) (by omega), o_line, e_isFull hlr, bd_eq]
  have hb := hl.1
  by_cases g5 : cntA A l = 10
  · have e : canNoteA A l st tk = -4 := by unfold canNoteA; rw [if_neg (fun z => z ⟨g1, g2, g3⟩), if_neg g4, if_pos g5]
    rw [e, if_neg (by omega)]
    exact ⟨s, rfl, hc, Only.refl _ _⟩
  have e : canNoteA A l st tk = 0 := by unfold canNoteA; rw [if_neg (fun z => z ⟨g1, g2, g3⟩), if_neg g4, if_neg g5]
  obtain ⟨s', a1, a2, a3⟩ := e_lineAppend hlr hl (by omega) g2 g3
  rw [e, if_pos (by omega), gd_of (by omega) (by omega), a1, bd_eq, gd_of (by omega) (by omega), a3.1, note_cnt]
  refine ⟨s', ?_, hc.line hw.1 g1.1 g1.2 a2 (fun k hk => note_out ⟨hb.1, by omega⟩ k hk) a3, a2.mono (fun o h => lob_pob o h)⟩
  rw [wr_of (by omega) (by omega), show cntA A l + 1 - 1 = cntA A l by omega]
  rfl
theorem note_WF (hw : WF A) {st tk : Int} (h : canNoteA A l st tk = 0) : WF (noteA A l st tk) := by
  unfold canNoteA at h
  split at h
  · omega
  · rename_i g
    have g : (0 ≤ l ∧ l ≤ 3) ∧ (0 ≤ st ∧ st ≤ 27) ∧ (1 ≤ tk ∧ tk ≤ 4) := Classical.byContradiction g
    split at h
    · omega
    · split at h
      · omega
      · have hl := hw.1 l g.1.1 g.1.2
        have hb := hl.1
        exact hw.line (l := l) (by omega) g.1.1 g.1.2 (fun k hk => note_out ⟨hb.1, by omega⟩ k hk) (note_WL hl (by omega) g.2.1 g.2.2)
theorem canNote_cases (A : Int → Int) (l st tk : Int) : canNoteA A l st tk = -2 ∨ canNoteA A l st tk = -3 ∨ canNoteA A l st tk = -4 ∨ canNoteA A l st tk = 0 := by
  unfold canNoteA
  repeat' split
  all_goals omega
/-- the model -/
def mal (o : u_O) : Prop := o = (24, 0, 0)
theorem MR.wt (hm : MR s A) {i v : Int} (hv : InR v) : MR (wt s (24, 0, 0) i v) (upA A i v) := by
  intro k h0 h1
  by_cases h : k = i
  · rw [h, rd_wt_same, upA_same, wr_in hv]
  · rw [rd_wt_k h, upA_ne h]
    exact hm k h0 h1
theorem e_canNote (hm : MR s A) (hw : WF A) (o : u_O) (st tk : Int) : f_X11_canNote o l st tk s = some (canNoteA A l st tk, s) := by
  unfold f_X11_canNote canNoteA
  have hn := hw.2.1.1
  by_cases g1 : 0 ≤ l ∧ l ≤ 3
  · have hb := (hw.1 l g1.1 g1.2).1
    by_cases g2 : 0 ≤ st ∧ st ≤ 27 <;> by_cases g3 : 1 ≤ tk ∧ tk ≤ 4 <;> simp only [e_misLine, bd_eq, jn_eq, e_in, g1, g2, g3, e_entered hm o hn, e_notes hm o g1.1 g1.2, b10_0, if_true, if_false, not_true_eq_false, not_false_eq_true, and_true, and_false, true_and, false_and, if00, if10]
    by_cases g4 : 0 < nenA A l (A 84).toNat
    · rw [if_neg (by omega), if_pos g4]
    · rw [if_pos (by omega), if_neg g4, if_some]
  · simp only [e_misLine, bd_eq, jn_eq, g1, if_false, if00, false_and, not_false_eq_true, if_true]
theorem e_noteNow (hm : MR s A) (hw : WL A l) (h0 : 0 ≤ l) (h1 : l ≤ 3) (hc : cntA A l < 10) (o : u_O) {st tk : Int} (g2 : 0 ≤ st ∧ st ≤ 27) (g3 : 1 ≤ tk ∧ tk ≤ 4) : ∃ s', f_X11_noteNow o l st tk s = some (cntA A l, s') ∧ MR s' (noteA A l st tk) ∧ Only mal s s' := by
  have hb := hw.1
  unfold f_X11_noteNow
  rw [e_notes hm o h0 h1, bd_eq]
  simp only [show a_Mo_all o = (24, 0, 0) from rfl, wr_of (x := 21 * l) (show _ by omega) (show _ by omega), wr_of (x := 2 * cntA A l) (show _ by omega) (show _ by omega), wr_of (x := 21 * l + 1) (show _ by omega) (show _ by omega), wr_of (x := 21 * l + 2) (show _ by omega) (show _ by omega), wr_of (x := 21 * l + 1 + 2 * cntA A l) (show _ by omega) (show _ by omega), wr_of (x := 21 * l + 2 + 2 * cntA A l) (show _ by omega) (show _ by omega)]
  rw [gd_of (by omega) (by omega), gd_of (by omega) (by omega), gd_of (by omega) (by omega), gd_of (by omega) (by omega), rd_wt_k (by omega), rd_wt_k (by omega), hm (21 * l) (by omega) (by omega), show A (21 * l) = cntA A l from rfl, wr_of (by omega) (by omega)]
  exact ⟨_, rfl, ((hm.wt (InR_iff.mpr ⟨by omega, by omega⟩)).wt (InR_iff.mpr ⟨by omega, by omega⟩)).wt (InR_iff.mpr ⟨by omega, by omega⟩), (((Only.refl mal s).wt rfl _ _).wt rfl _ _).wt rfl _ _⟩
end UPD
