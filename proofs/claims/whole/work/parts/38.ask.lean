/-! calls that ask: noteOf, line, step, entry -/
abbrev CallAt (f g : u_S → Option (Int × u_S)) (A : Int → Int) (H : Int → Int → Int) (n : Int) (T : Int → Int) (tl : Int) (c : Int → Int) : Prop := ∃ (r : Int) (A' : Int → Int) (H' : Int → Int → Int) (n' : Int) (T' : Int → Int) (tl' : Int) (c' : Int → Int), WS A' H' n' T' tl' c' ∧ (∀ s, CS s A H n T tl c → ∃ s', f s = some (r, s') ∧ CS s' A' H' n' T' tl' c' ∧ Only clo s s') ∧ ∀ s, MT s A H n T tl c → ∃ s', g s = some (r, s') ∧ MT s' A' H' n' T' tl' c' ∧ Only mdo s s'
section ASK
variable {s : u_S} {A : Int → Int} {H : Int → Int → Int} {n : Int} {T : Int → Int} {tl : Int} {c : Int → Int} {f g : u_S → Option (Int × u_S)}
theorem at_ask (r : Int) (hw : WS A H n T tl c) (h1 : ∀ s, CS s A H n T tl c → ∃ s', f s = some (r, s') ∧ Only csc s s') (h2 : ∀ s, MT s A H n T tl c → ∃ s', g s = some (r, s') ∧ Only msc s s') : CallAt f g A H n T tl c := by
  refine ⟨r, A, H, n, T, tl, c, hw, fun s hs => ?_, fun s hs => ?_⟩
  · obtain ⟨s', a, b⟩ := h1 s hs
    exact ⟨s', a, hs.keep b, b.mono csc_clo⟩
  · obtain ⟨s', a, b⟩ := h2 s hs
    exact ⟨s', a, hs.keep b, b.mono msc_mdo⟩
theorem at_no {r : Int} (hr : r = -2 ∨ r = -3 ∨ r = -4) (hw : WS A H n T tl c) (h1 : ∀ s, CS s A H n T tl c → f s = bd (f_X10_refused oF r s) (fun r_1 s_1 => some (r_1, s_1))) (h2 : ∀ s, MT s A H n T tl c → g s = bd (f_X11_refuses oM r s) (fun r_1 s_1 => some (r_1, s_1))) : CallAt f g A H n T tl c := by
  refine ⟨r, A, H, n, T, tl, refC c r, hw.ref _, fun s hs => ?_, fun s hs => ?_⟩
  · obtain ⟨s', a, b, d⟩ := c_ref hr hs
    rw [h1 s hs, a, bd_eq]
    exact ⟨s', rfl, b, d⟩
  · obtain ⟨s', a, b, d⟩ := m_ref hr oM hs
    rw [h2 s hs, a, bd_eq]
    exact ⟨s', rfl, b, d⟩
theorem m_bad (v : Int) (h : MT s A H n T tl c) : ∃ s', f_X11_bad oM v s = some (v, s') ∧ MT s' A H n T tl (refC c (-2)) ∧ Only mdo s s' := by
  obtain ⟨s', a, b, d⟩ := m_ref (r := -2) (by omega) oM h
  refine ⟨s', ?_, b, d⟩
  unfold f_X11_refuses at a
  rw [wr_of (x := -2 - -2) (by omega) (by omega), gd_of (by omega) (by omega), gd_of (by omega) (by omega)] at a
  unfold f_X11_bad
  rw [gd_of (by omega) (by omega), gd_of (by omega) (by omega)]
  have e := congrArg Prod.snd (Option.some.inj a)
  dsimp only at e
  rw [← e]; rfl
theorem at_bad (v : Int) (hw : WS A H n T tl c) (h1 : ∀ s, CS s A H n T tl c → f s = bd (f_X10_refused oF (-2) s) (fun r_1 s_1 => some (v, s_1))) (h2 : ∀ s, MT s A H n T tl c → g s = bd (f_X11_bad oM v s) (fun r_1 s_1 => some (r_1, s_1))) : CallAt f g A H n T tl c := by
  refine ⟨v, A, H, n, T, tl, refC c (-2), hw.ref _, fun s hs => ?_, fun s hs => ?_⟩
  · obtain ⟨s', a, b, d⟩ := c_ref (r := -2) (by omega) hs
    rw [h1 s hs, a, bd_eq]
    exact ⟨s', rfl, b, d⟩
  · obtain ⟨s', a, b, d⟩ := m_bad v hs
    rw [h2 s hs, a, bd_eq]
    exact ⟨s', rfl, b, d⟩
theorem o_pline (l : Int) : e_Line (a_Plan_lines (a_FP_plan oF)) l = (3, 0, l.toNat) := rfl
theorem call_noteOf (l i w : Int) : Call (f_X10_noteOf oF l i w) (f_X11_noteOf oM l i w) := by
  intro A H n T tl c hw
  by_cases h1 : 0 ≤ l ∧ l ≤ 3
  · have hl := hw.1.1 l h1.1 h1.2
    by_cases h2 : 0 ≤ i ∧ i < cntA A l
    · by_cases h3 : 0 ≤ w ∧ w ≤ 3
      · refine at_ask (if w = 0 then stpA A l i else if w = 1 then tckA A l i else if w = 2 then sm (tckA A l) i.toNat else answA A l i) hw (fun s hs => ⟨s, ?_, Only.refl _ _⟩) (fun s hs => ⟨s, ?_, Only.refl _ _⟩)
        · have hr := hs.1.1 l h1.1 h1.2
          unfold f_X10_noteOf
          rw [e_isLine, bd_eq, if_pos h1, jn_eq, if10, gd_of (by omega) (by omega), o_pline, e_has1 hr hl h2.1 h2.2, bd_eq, if10, e_within, bd_eq, if_pos h3, if10, gd_of (by omega) (by omega)]
          by_cases w0 : w = 0
          · rw [if_pos w0, if_pos w0, e_stepOf hr hl h2.1 h2.2, bd_eq]
          rw [if_neg w0, if_neg w0]
          by_cases w1 : w = 1
          · rw [if_pos w1, if_pos w1, e_ticksOf hr hl h2.1 h2.2, bd_eq]
          rw [if_neg w1, if_neg w1]
          by_cases w2 : w = 2
          · rw [if_pos w2, if_pos w2, e_tickBefore hr hl h2.1, bd_eq, show min i (cntA A l) = i by omega]
          rw [if_neg w2, if_neg w2, show rd s (a_FP_plan oF) 4 = A 135 from hs.1.2.2.1.1, show rd s (a_FP_plan oF) 5 = A 136 from hs.1.2.2.1.2.1, e_formedStep hr hl h2.1 h2.2 hw.1.2.2.2.2.1, bd_eq]
          rfl
        · unfold f_X11_noteOf
          rw [e_misLine, bd_eq, if_pos h1, jn_eq, if10, e_notes hs.1 oM h1.1 h1.2, bd_eq, wr_of (by omega) (by have := hl.1; omega), e_in, bd_eq, if_pos (show 0 ≤ i ∧ i ≤ cntA A l - 1 by omega), if10, e_in, bd_eq, if_pos h3, if10, f_X11_noteNow4]
          have hi : i < 10 := by have := hl.1; omega
          by_cases w0 : w = 0
          · rw [if_pos w0, if_pos w0, e_plain hs.1 oM h1.1 h1.2 h2.1 hi, bd_eq, bd_eq]
          rw [if_neg w0, if_neg w0]
          by_cases w1 : w = 1
          · rw [if_pos w1, if_pos w1, e_ticks hs.1 oM h1.1 h1.2 h2.1 hi, bd_eq, bd_eq]
          rw [if_neg w1, if_neg w1]
          by_cases w2 : w = 2
          · rw [if_pos w2, if_pos w2, e_begin hs.1 hl oM h1.1 h1.2 h2.1 (by omega), bd_eq, bd_eq]
          rw [if_neg w2, if_neg w2, e_manswered hs.1 hl oM h1.1 h1.2 h2.1 h2.2 hw.1.2.2.2.2.1, bd_eq, bd_eq]
      · refine at_no (r := -2) (by omega) hw (fun s hs => ?_) (fun s hs => ?_)
        · unfold f_X10_noteOf
          rw [e_isLine, bd_eq, if_pos h1, jn_eq, if10, gd_of (by omega) (by omega), o_pline, e_has1 (hs.1.1 l h1.1 h1.2) hl h2.1 h2.2, bd_eq, if10, e_within, bd_eq, if_neg h3, if00]
        · unfold f_X11_noteOf
          rw [e_misLine, bd_eq, if_pos h1, jn_eq, if10, e_notes hs.1 oM h1.1 h1.2, bd_eq, wr_of (by omega) (by have := hl.1; omega), e_in, bd_eq, if_pos (show 0 ≤ i ∧ i ≤ cntA A l - 1 by omega), if10, e_in, bd_eq, if_neg h3, if00]
    · refine at_no (r := -2) (by omega) hw (fun s hs => ?_) (fun s hs => ?_)
      · unfold f_X10_noteOf
        rw [e_isLine, bd_eq, if_pos h1, jn_eq, if10, gd_of (by omega) (by omega), o_pline, e_has (hs.1.1 l h1.1 h1.2) hl, bd_eq, if_neg h2, if00]
      · unfold f_X11_noteOf
        rw [e_misLine, bd_eq, if_pos h1, jn_eq, if10, e_notes hs.1 oM h1.1 h1.2, bd_eq, wr_of (by have := hl.1; omega) (by have := hl.1; omega), e_in, bd_eq, if_neg (show ¬ (0 ≤ i ∧ i ≤ cntA A l - 1) by omega), if00]
  · refine at_no (r := -2) (by omega) hw (fun s hs => ?_) (fun s hs => ?_)
    · unfold f_X10_noteOf
      rw [e_isLine, bd_eq, if_neg h1, jn_eq, if00]
    · unfold f_X11_noteOf
      rw [e_misLine, bd_eq, if_neg h1, jn_eq, if00]
theorem call_line (l w : Int) : Call (f_X10_line oF l w) (f_X11_line oM l w) := by
  intro A H n T tl c hw
  by_cases h1 : 0 ≤ l ∧ l ≤ 3
  · have hl := hw.1.1 l h1.1 h1.2
    by_cases h3 : 0 ≤ w ∧ w ≤ 4
    · refine at_ask (if w = 0 then lenA A l else if w = 1 then cntA A l else if w = 2 then (if cntA A l ≤ 0 then -1 else minA A l (cntA A l - 1).toNat) else if w = 3 then (if cntA A l ≤ 0 then -1 else maxA A l (cntA A l - 1).toNat) else nenA A l (A 84).toNat) hw (fun s hs => ⟨s, ?_, Only.refl _ _⟩) (fun s hs => ⟨s, ?_, Only.refl _ _⟩)
      · have hr := hs.1.1 l h1.1 h1.2
        unfold f_X10_line
        rw [e_isLine, bd_eq, if_pos h1, jn_eq, if10, e_within, bd_eq, if_pos h3, if10, gd_of (by omega) (by omega), o_pline]
        by_cases w0 : w = 0
        · rw [if_pos w0, if_pos w0, e_length hr hl, bd_eq]
        rw [if_neg w0, if_neg w0]
        by_cases w1 : w = 1
        · rw [if_pos w1, if_pos w1, hr.1]
        rw [if_neg w1, if_neg w1]
        by_cases w2 : w = 2
        · rw [if_pos w2, if_pos w2, e_leastStep hr hl, bd_eq]
        rw [if_neg w2, if_neg w2]
        by_cases w3 : w = 3
        · rw [if_pos w3, if_pos w3, e_greatestStep hr hl, bd_eq]
        rw [if_neg w3, if_neg w3, show a_Plan_entries (a_FP_plan oF) = (6, 0, 0) from rfl, e_having hs.1.2.1 hw.1.2.1.1, bd_eq]
      · unfold f_X11_line
        rw [e_misLine, bd_eq, if_pos h1, jn_eq, if10, e_in, bd_eq, if_pos h3, if10, f_X11_lineNow]
        by_cases w0 : w = 0
        · rw [if_pos w0, if_pos w0, e_mlength hs.1 hl oM h1.1 h1.2, bd_eq, bd_eq]
        rw [if_neg w0, if_neg w0]
        by_cases w1 : w = 1
        · rw [if_pos w1, if_pos w1, e_notes hs.1 oM h1.1 h1.2, bd_eq, bd_eq]
        rw [if_neg w1, if_neg w1]
        by_cases w2 : w = 2
        · rw [if_pos w2, if_pos w2, e_bound hs.1 hl oM h1.1 h1.2, bd_eq, bd_eq]
        rw [if_neg w2, if_neg w2]
        by_cases w3 : w = 3
        · rw [if_pos w3, if_pos w3, e_boundM hs.1 hl oM h1.1 h1.2, bd_eq, bd_eq]
        rw [if_neg w3, if_neg w3, e_entered hs.1 oM hw.1.2.1.1, bd_eq, bd_eq]
    · refine at_no (r := -2) (by omega) hw (fun s hs => ?_) (fun s hs => ?_)
      · unfold f_X10_line
        rw [e_isLine, bd_eq, if_pos h1, jn_eq, if10, e_within, bd_eq, if_neg h3, if00]
      · unfold f_X11_line
        rw [e_misLine, bd_eq, if_pos h1, jn_eq, if10, e_in, bd_eq, if_neg h3, if00]
  · refine at_no (r := -2) (by omega) hw (fun s hs => ?_) (fun s hs => ?_)
    · unfold f_X10_line
      rw [e_isLine, bd_eq, if_neg h1, jn_eq, if00]
    · unfold f_X11_line
      rw [e_misLine, bd_eq, if_neg h1, jn_eq, if00]
theorem call_entry (e w : Int) : Call (f_X10_entry oF e w) (f_X11_entry oM e w) := by
  intro A H n T tl c hw
  have hn := hw.1.2.1.1
  have oE : a_Plan_entries (a_FP_plan oF) = (6, 0, 0) := rfl
  have oI : e_Entry (a_Entries_items (a_Plan_entries (a_FP_plan oF))) e = (8, 0, e.toNat) := rfl
  by_cases h1 : 0 ≤ e ∧ e < A 84
  · have hb := hw.1.2.1.2 e h1.1 h1.2
    by_cases h3 : 0 ≤ w ∧ w ≤ 5
    · refine at_ask (if w = 0 then entA A e 0 else if w = 1 then entA A e 1 else if w = 2 then entA A e 3 else if w = 3 then entA A e 4 else if w = 4 then lastA A (entA A e 0) (entA A e 1) else entA A e 2 + 21) hw (fun s hs => ⟨s, ?_, Only.refl _ _⟩) (fun s hs => ⟨s, ?_, Only.refl _ _⟩)
      · have hr := fun k a b => hs.1.2.1.2 e k h1.1 h1.2 a b
        unfold f_X10_entry
        rw [oI, oE, e_chas hs.1.2.1 hn, bd_eq, if_pos h1, jn_eq, if10, e_within, bd_eq, if_pos h3, if10, gd_of (by omega) (by omega), hr 0 (by omega) (by omega), hr 1 (by omega) (by omega), hr 2 (by omega) (by omega), hr 3 (by omega) (by omega), hr 4 (by omega) (by omega)]
        by_cases w0 : w = 0
        · rw [if_pos w0, if_pos w0]
        rw [if_neg w0, if_neg w0]
        by_cases w1 : w = 1
        · rw [if_pos w1, if_pos w1]
        rw [if_neg w1, if_neg w1]
        by_cases w2 : w = 2
        · rw [if_pos w2, if_pos w2]
        rw [if_neg w2, if_neg w2]
        by_cases w3 : w = 3
        · rw [if_pos w3, if_pos w3]
        rw [if_neg w3, if_neg w3]
        by_cases w4 : w = 4
        · rw [if_pos w4, if_pos w4, show a_FP_plan oF = (1, 0, 0) from rfl, e_lengthOf hs.1.1 hw.1.1 hb.1.1 hb.1.2, bd_eq]
        rw [if_neg w4, if_neg w4, wr_of (by omega) (by omega)]
      · unfold f_X11_entry
        rw [e_isEntry hs.1 hn, bd_eq, if_pos h1, jn_eq, if10, e_in, bd_eq, if_pos h3, if10, f_X11_entryNow]
        have hr := fun k a b => e_of hs.1 oM h1.1 (show e < 10 by omega) (k := k) a b
        by_cases w0 : w = 0
        · rw [if_pos (by omega), if_pos w0, w0, hr 0 (by omega) (by omega), bd_eq, bd_eq]
        by_cases w1 : w = 1
        · rw [if_pos (by omega), if_neg w0, if_pos w1, w1, hr 1 (by omega) (by omega), bd_eq, bd_eq]
        rw [if_neg (by omega), if_neg w0, if_neg w1]
        by_cases w2 : w = 2
        · rw [if_pos w2, if_pos w2, hr 3 (by omega) (by omega), bd_eq, bd_eq]
        rw [if_neg w2, if_neg w2]
        by_cases w3 : w = 3
        · rw [if_pos w3, if_pos w3, hr 4 (by omega) (by omega), bd_eq, bd_eq]
        rw [if_neg w3, if_neg w3]
        by_cases w4 : w = 4
        · rw [if_pos w4, if_pos w4, hr 0 (by omega) (by omega), bd_eq, hr 1 (by omega) (by omega), bd_eq, e_lasts hs.1 (hw.1.1 _ hb.1.1 hb.1.2) oM hb.1.1 hb.1.2, bd_eq, bd_eq]
        rw [if_neg w4, if_neg w4, hr 2 (by omega) (by omega), bd_eq, wr_of (by omega) (by omega), bd_eq]
    · refine at_no (r := -2) (by omega) hw (fun s hs => ?_) (fun s hs => ?_)
      · unfold f_X10_entry
        rw [oE, e_chas hs.1.2.1 hn, bd_eq, if_pos h1, jn_eq, if10, e_within, bd_eq, if_neg h3, if00]
      · unfold f_X11_entry
        rw [e_isEntry hs.1 hn, bd_eq, if_pos h1, jn_eq, if10, e_in, bd_eq, if_neg h3, if00]
  · refine at_no (r := -2) (by omega) hw (fun s hs => ?_) (fun s hs => ?_)
    · unfold f_X10_entry
      rw [oE, e_chas hs.1.2.1 hn, bd_eq, if_neg h1, jn_eq, if00]
    · unfold f_X11_entry
      rw [e_isEntry hs.1 hn, bd_eq, if_neg h1, jn_eq, if00]
theorem snd_csc (j : Nat) (o : u_O) (h : sndo j o) : csc o := by rcases h with h | h <;> subst h <;> exact Or.inl (by simp)
/-- a sound laid by form, placed -/
theorem e_lay (hs : CP s 0 A) (hw : WF A) {l : Int} (h0 : 0 ≤ l) (h1 : l ≤ 3) {m : Int} (hm : -40 ≤ m ∧ m ≤ 40) (f : Int) (j : Nat) {st v : Int} (hst : InR st) (hv : InR v) : ∃ s1 s2, f_X6_form (1, 0, 0) (14, j, 0) l f m s = some (0, s1) ∧ Only (sndo j) s s1 ∧ f_X8_place (14, j, 0) st v s1 = some (0, s2) ∧ Only (sndo j) s s2 ∧ SR s2 j A l f m st v := by
  obtain ⟨s1, a1, a2, a3⟩ := e_form (s := s) (j := j) (hs.1 l h0 h1) (hw.1 l h0 h1) h0 h1 hw.2.2.2.2.1 hs.2.2.1.1 hs.2.2.1.2.1 hm f
  refine ⟨s1, wt (wt s1 (14, j, 0) 2 st) (14, j, 0) 3 v, a1, a2, rfl, (a2.wt (Or.inl rfl) _ _).wt (Or.inl rfl) _ _, ⟨by rw [rd_wt_k (by decide), rd_wt_k (by decide)]; exact a3.1, fun t a b => by rw [rd_wt_o (by simp), rd_wt_o (by simp)]; exact a3.2 t a b⟩, by rw [rd_wt_k (by decide), rd_wt_same, wr_in hst], by rw [rd_wt_same, wr_in hv]⟩
theorem call_step (l f m t : Int) (ht : InR t) : Call (f_X10_step oF l f m t) (f_X11_step oM l f m t) := by
  intro A H n T tl c hw
  have hto := hw.1.2.2.2.2.1
  by_cases h1 : (0 ≤ l ∧ l ≤ 3) ∧ (0 ≤ f ∧ f ≤ 4) ∧ (-21 ≤ m ∧ m ≤ 21)
  · have hl := hw.1.1 l h1.1.1 h1.1.2
    by_cases h2 : t < 0
    · refine at_bad (-2000) hw (fun s hs => ?_) (fun s hs => ?_)
      · unfold f_X10_step
        rw [e_isFormed, bd_eq, if_pos h1, jn_eq, if10, if_pos h2]
      · unfold f_X11_step
        rw [e_misLine, bd_eq, if_pos h1.1, jn_eq, if10, e_in, bd_eq, if_pos h1.2.1, if10, e_in, bd_eq, if_pos h1.2.2, if10, if_pos h2]
    · have tr := InR_iff.mp ht
      have hb := snd_b hl f t
      have hh : HRD A l f m 0 t = if SND A l f t = -1000 then -1000 else SND A l f t + m := by
        unfold HRD
        rw [if_neg h2, Int.sub_zero]
      refine at_ask (HRD A l f m 0 t) hw (fun s hs => ?_) (fun s hs => ⟨s, ?_, Only.refl _ _⟩)
      · obtain ⟨s1, s2, a1, a2, a3, a4, a5⟩ := e_lay hs.1 hw.1 h1.1.1 h1.1.2 (m := m) (by omega) f 0 (st := 0) (v := 0) (InR_iff.mpr ⟨by omega, by omega⟩) (InR_iff.mpr ⟨by omega, by omega⟩)
        unfold f_X10_step
        rw [e_isFormed, bd_eq, if_pos h1, jn_eq, if10, if_neg h2, show a_FP_plan oF = (1, 0, 0) from rfl, show a_FP_upper oF = (14, 0, 0) from rfl, a1, bd_eq, a3, bd_eq, e_stepAt a5 hl (by omega) (by omega) (by omega) tr.2, bd_eq]
        exact ⟨s2, rfl, a4.mono (snd_csc 0)⟩
      · unfold f_X11_step
        rw [e_misLine, bd_eq, if_pos h1.1, jn_eq, if10, e_in, bd_eq, if_pos h1.2.1, if10, e_in, bd_eq, if_pos h1.2.2, if10, if_neg h2, e_formed hs.1 hl oM h1.1.1 h1.1.2 hto, bd_eq, hh]
        by_cases h3 : SND A l f t = -1000
        · rw [if_pos h3, if_pos h3]
        · rw [if_neg h3, if_neg h3, wr_of (by omega) (by omega)]
  · refine at_bad (-2000) hw (fun s hs => ?_) (fun s hs => ?_)
    · unfold f_X10_step
      rw [e_isFormed, bd_eq, if_neg h1, jn_eq, if00]
    · unfold f_X11_step
      rw [e_misLine, bd_eq, jn_eq]
      by_cases g1 : 0 ≤ l ∧ l ≤ 3
      · rw [if_pos g1, if10, e_in, bd_eq]
        by_cases g2 : 0 ≤ f ∧ f ≤ 4
        · rw [if_pos g2, if10, e_in, bd_eq, if_neg (fun g3 => h1 ⟨g1, g2, g3⟩), if00]
        · rw [if_neg g2, if00]
      · rw [if_neg g1, if00]
end ASK
