/-! inversions -/
def icn (A : Int → Int) (a b n k : Int) : Int := cnk (flt (A 137) (HRD A b 0 n 0) (HRD A a 0 0 0)) (max 0 0) k (min (0 + totA A b 0) (0 + totA A a 0) - max 0 0).toNat
def invA (A : Int → Int) (a b n : Int) : Prop := icn A a b n 0 + icn A a b n 1 + icn A a b n 2 = 0
def upo (o : u_O) : Prop := sndo 0 o ∨ sndo 1 o ∨ flo o
theorem upo_csc (o : u_O) (h : upo o) : csc o := by
  rcases h with h | h | h
  · exact snd_csc 0 o h
  · exact snd_csc 1 o h
  · exact flo_csc o h
section INV
variable {s : u_S} {A : Int → Int} {a b n : Int}
theorem icn_b (hl : WL A b) {k : Int} (k0 : 0 ≤ k) (k1 : k ≤ 2) : 0 ≤ icn A a b n k ∧ icn A a b n k ≤ 80 := by
  have h := cnk_b (x := flt (A 137) (HRD A b 0 n 0) (HRD A a 0 0 0)) (fun t => flt_b _ _ _ t) (a := max 0 0) k0 k1 (min (0 + totA A b 0) (0 + totA A a 0) - max 0 0).toNat
  have ht := tot_b hl 0
  unfold icn
  omega
theorem upo_pob {p : Nat} (o : u_O) (h : pob p o) : ¬ upo o := by
  intro z
  have h2 := h.2
  rcases z with z | z | z
  · have := sndo_k z; omega
  · have := sndo_k z; omega
  · subst z; simp [pob] at h
theorem e_num3 {c0 c1 c2 : Int} (hc : FC s c0 c1 c2) (d0 : 0 ≤ c0 ∧ c0 ≤ 1000000) (d1 : 0 ≤ c1 ∧ c1 ≤ 1000000) (d2 : 0 ≤ c2 ∧ c2 ≤ 1000000) : f_X3_number (16, 0, 0) 3 s = some (c0 + c1 + c2, s) := (e_number hc d0 d1 d2 (w := 3) (by omega) (by omega)).trans rfl
theorem e_invW (hs : CP s 0 A) (hw : WF A) (a0 : 0 ≤ a) (a1 : a ≤ 3) (b0 : 0 ≤ b) (b1 : b ≤ 3) (hn : 0 ≤ n ∧ n ≤ 20) : ∃ s', f_X10_invertsWell oF a b n s = some ((if icn A a b n 0 + icn A a b n 1 + icn A a b n 2 = 0 then 1 else 0), s') ∧ Only upo s s' ∧ FC s' (icn A a b n 0) (icn A a b n 1) (icn A a b n 2) := by
  have iz : InR 0 := InR_iff.mpr ⟨by omega, by omega⟩
  have i1 : InR 1 := InR_iff.mpr ⟨by omega, by omega⟩
  have la := hw.1 a a0 a1
  have lb := hw.1 b b0 b1
  obtain ⟨s1, s2, x1, x2, x3, x4, x5⟩ := e_lay hs hw b0 b1 (m := n) (by omega) 0 0 (st := 0) (v := 0) iz iz
  have c2 : CP s2 0 A := hs.keep x4 (fun o h z => upo_pob o h (Or.inl z))
  obtain ⟨s3, s4, y1, y2, y3, y4, y5⟩ := e_lay c2 hw a0 a1 (m := 0) (by omega) 0 1 (st := 0) (v := 1) iz i1
  have c4 : CP s4 0 A := c2.keep y4 (fun o h z => upo_pob o h (Or.inr (Or.inl z)))
  obtain ⟨s5, z1, z2, z3⟩ := e_forget (s := s4)
  have c5 : CP s5 0 A := c4.keep z2 (fun o h z => upo_pob o h (Or.inr (Or.inr z)))
  have u5 := (x5.keep y4 (by simp [sndo]) (by simp [sndo])).keep z2 (by simp [flo]) (by simp [flo])
  have v5 := y5.keep z2 (by simp [flo]) (by simp [flo])
  obtain ⟨s6, p1, p2, p3⟩ := e_addPair u5 v5 lb la (by omega) (by omega) (by omega) (by omega) hw.2.2.2.2.2.1.1 z3 (by omega) (by omega) (by omega)
  rw [kda01] at p3
  have p3' : FC s6 (0 + icn A a b n 0) (0 + icn A a b n 1) (0 + icn A a b n 2) := p3
  rw [Int.zero_add, Int.zero_add, Int.zero_add] at p3'
  have q0 := icn_b (a := a) (n := n) lb (k := 0) (by omega) (by omega)
  have q1 := icn_b (a := a) (n := n) lb (k := 1) (by omega) (by omega)
  have q2 := icn_b (a := a) (n := n) lb (k := 2) (by omega) (by omega)
  refine ⟨s6, ?_, (x4.mono (fun o h => Or.inl h)).trans ((y4.mono (fun o h => Or.inr (Or.inl h))).trans ((z2.trans p2).mono (fun o h => Or.inr (Or.inr h)))), p3'⟩
  unfold f_X10_invertsWell
  rw [show a_FP_plan oF = (1, 0, 0) from rfl, show a_FP_upper oF = (14, 0, 0) from rfl, show a_FP_lower oF = (14, 1, 0) from rfl, show a_FP_faults oF = (16, 0, 0) from rfl, x1, bd_eq, x3, bd_eq, y1, bd_eq, y3, bd_eq, z1, bd_eq, c5.2.2.1.2.2.1, p1, bd_eq, e_num3 p3' (by omega) (by omega) (by omega), bd_eq]
  split <;> rfl
theorem e_inverts (hm : MR s A) (hw : WF A) (a0 : 0 ≤ a) (a1 : a ≤ 3) (b0 : 0 ≤ b) (b1 : b ≤ 3) (hn : 0 ≤ n ∧ n ≤ 20) : ∃ s', f_X11_inverts oM a b n s = some (0, s') ∧ Only mst s s' ∧ ∀ k, 0 ≤ k → k ≤ 2 → rd s' (24, 7, 0) k = icn A a b n k := by
  have iz : InR 0 := InR_iff.mpr ⟨by omega, by omega⟩
  obtain ⟨s1, x1, x2, x3⟩ := e_puts (s := s) (r := (24, 5, 0)) (l := b) (m := n) rfl (InR_iff.mpr ⟨by omega, by omega⟩) iz (InR_iff.mpr ⟨by omega, by omega⟩) iz
  obtain ⟨s2, y1, y2, y3⟩ := e_puts (s := s1) (r := (24, 6, 0)) (l := a) rfl (InR_iff.mpr ⟨by omega, by omega⟩) iz iz iz
  obtain ⟨s3, z1, z2, z3⟩ := e_countsAll (o := oM) ((hm.keep x2 (by simp)).keep y2 (by simp)) (hw.1 b b0 b1) b0 b1 (hw.1 a a0 a1) a0 a1 hw.2.2.2.2.1 hw.2.2.2.2.2.1.1 (x3.keep y2 (by simp)) y3 (by omega) (by omega) (by omega) (by omega)
  refine ⟨s3, ?_, ((x2.mono (fun o h => Or.inl (Or.inl h))).trans (y2.mono (fun o h => Or.inl (Or.inr h)))).trans (z2.mono (fun o h => Or.inr h)), z3⟩
  unfold f_X11_inverts
  rw [show a_Mo_upper oM = (24, 5, 0) from rfl, show a_Mo_lower oM = (24, 6, 0) from rfl, x1, bd_eq, y1, bd_eq, z1, bd_eq]
theorem call_inverted (a b n w : Int) : Call (f_X10_inverted oF a b n w) (f_X11_inverted oM a b n w) := by
  intro A H k T tl c hw
  by_cases h1 : 0 ≤ a ∧ a ≤ 3
  · by_cases h2 : 0 ≤ b ∧ b ≤ 3
    · by_cases h3 : a = b
      · refine at_no (r := -2) (by omega) hw (fun s hs => ?_) (fun s hs => ?_)
        · unfold f_X10_inverted
          rw [e_areTwoLines, bd_eq, if_neg (fun z => z.2.2 h3), jn_eq, if00]
        · unfold f_X11_inverted
          rw [e_misLine, bd_eq, if_pos h1, jn_eq, if10, e_misLine, bd_eq, if_pos h2, if10, if_pos h3]
      · by_cases h4 : 0 ≤ n ∧ n ≤ 20
        · by_cases h5 : 0 ≤ w ∧ w ≤ 3
          · have hl := hw.1.1 b h2.1 h2.2
            have q0 := icn_b (a := a) (n := n) hl (k := 0) (by omega) (by omega)
            have q1 := icn_b (a := a) (n := n) hl (k := 1) (by omega) (by omega)
            have q2 := icn_b (a := a) (n := n) hl (k := 2) (by omega) (by omega)
            refine at_ask (if w < 3 then icn A a b n w else if icn A a b n 0 + icn A a b n 1 + icn A a b n 2 = 0 then 1 else 0) hw (fun s hs => ?_) (fun s hs => ?_)
            · obtain ⟨s1, x1, x2, x3⟩ := e_invW hs.1 hw.1 h1.1 h1.2 h2.1 h2.2 h4
              unfold f_X10_inverted
              rw [e_areTwoLines, bd_eq, if_pos ⟨h1, h2, h3⟩, jn_eq, if10, e_within, bd_eq, if_pos h4, if10, e_within, bd_eq, if_pos h5, if10, x1, bd_eq]
              refine ⟨s1, ?_, x2.mono upo_csc⟩
              by_cases w3 : w = 3
              · rw [if_pos w3, if_neg (show ¬ w < 3 by omega)]
                by_cases hx : icn A a b n 0 + icn A a b n 1 + icn A a b n 2 = 0
                · rw [if_pos hx, if10]
                · rw [if_neg hx, if00]
              · rw [if_neg w3, if_pos (by omega), show a_FP_faults oF = (16, 0, 0) from rfl, e_number x3 (by omega) (by omega) (by omega) h5.1 h5.2, bd_eq]
                rcases (show w = 0 ∨ w = 1 ∨ w = 2 by omega) with rfl | rfl | rfl
                · rw [if_pos rfl]
                · rw [if_neg (by omega), if_pos rfl]
                · rw [if_neg (by omega), if_neg (by omega), if_pos rfl]
            · obtain ⟨s1, x1, x2, x3⟩ := e_inverts hs.1 hw.1 h1.1 h1.2 h2.1 h2.2 h4
              unfold f_X11_inverted
              rw [e_misLine, bd_eq, if_pos h1, jn_eq, if10, e_misLine, bd_eq, if_pos h2, if10, if_neg h3, e_in, bd_eq, if_pos h4, if10, e_in, bd_eq, if_pos h5, if10, x1, bd_eq, show a_Mo_counted oM = (24, 7, 0) from rfl]
              refine ⟨s1, ?_, x2.mono mst_msc⟩
              by_cases w3 : w < 3
              · rw [if_pos w3, if_pos w3, gd_of (by omega) (by omega), x3 w h5.1 (by omega)]
              · rw [if_neg w3, if_neg w3, gd_of (by omega) (by omega), gd_of (by omega) (by omega), gd_of (by omega) (by omega), x3 0 (by omega) (by omega), x3 1 (by omega) (by omega), x3 2 (by omega) (by omega), wr_of (x := icn A a b n 0 + icn A a b n 1) (by omega) (by omega), wr_of (by omega) (by omega)]
                split <;> rfl
          · refine at_no (r := -2) (by omega) hw (fun s hs => ?_) (fun s hs => ?_)
            · unfold f_X10_inverted
              rw [e_areTwoLines, bd_eq, if_pos ⟨h1, h2, h3⟩, jn_eq, if10, e_within, bd_eq, if_pos h4, if10, e_within, bd_eq, if_neg h5, if00]
            · unfold f_X11_inverted
              rw [e_misLine, bd_eq, if_pos h1, jn_eq, if10, e_misLine, bd_eq, if_pos h2, if10, if_neg h3, e_in, bd_eq, if_pos h4, if10, e_in, bd_eq, if_neg h5, if00]
        · refine at_no (r := -2) (by omega) hw (fun s hs => ?_) (fun s hs => ?_)
          · unfold f_X10_inverted
            rw [e_areTwoLines, bd_eq, if_pos ⟨h1, h2, h3⟩, jn_eq, if10, e_within, bd_eq, if_neg h4, if00]
          · unfold f_X11_inverted
            rw [e_misLine, bd_eq, if_pos h1, jn_eq, if10, e_misLine, bd_eq, if_pos h2, if10, if_neg h3, e_in, bd_eq, if_neg h4, if00]
    · refine at_no (r := -2) (by omega) hw (fun s hs => ?_) (fun s hs => ?_)
      · unfold f_X10_inverted
        rw [e_areTwoLines, bd_eq, if_neg (fun z => h2 z.2.1), jn_eq, if00]
      · unfold f_X11_inverted
        rw [e_misLine, bd_eq, if_pos h1, jn_eq, if10, e_misLine, bd_eq, if_neg h2, if00]
  · refine at_no (r := -2) (by omega) hw (fun s hs => ?_) (fun s hs => ?_)
    · unfold f_X10_inverted
      rw [e_areTwoLines, bd_eq, if_neg (fun z => h1 z.1), jn_eq, if00]
    · unfold f_X11_inverted
      rw [e_misLine, bd_eq, if_neg h1, jn_eq, if00]
/-- those that are well, as bits -/
def invv (A : Int → Int) (a b : Int) : Nat → Int
  | 0 => 0
  | j + 1 => if icn A a b j 0 + icn A a b j 1 + icn A a b j 2 = 0 then ior (invv A a b j) (ishl 1 (j : Int)) else invv A a b j
theorem invv_in (A : Int → Int) (a b : Int) : ∀ j, InR (invv A a b j)
  | 0 => InR_lit rfl
  | j + 1 => by
    rw [invv]
    split
    · exact InR_ior _ _
    · exact invv_in A a b j
theorem e_invs (hs : CP s 0 A) (hw : WF A) (a0 : 0 ≤ a) (a1 : a ≤ 3) (b0 : 0 ≤ b) (b1 : b ≤ 3) : ∃ s', f_X10_inversions_L20 FU (fun v3_1 s_2 => some (v3_1, s_2)) oF a b 0 0 s = some (invv A a b 21, s') ∧ Only upo s s' := by
  obtain ⟨x, q, i1, i2, i3⟩ := loop_relfu (fun k (x : Int × Int × u_S) => f_X10_inversions_L20 k (fun v3_1 s_2 => some (v3_1, s_2)) oF a b x.1 x.2.1 x.2.2) (fun j x => x.1 = invv A a b j ∧ x.2.1 = (j : Int) ∧ Only upo s x.2.2) (fun x => some (x.1, x.2.2)) 21 (by omega) (by
    intro j x k hj ⟨e1, e2, e3⟩
    obtain ⟨x1, x2, s1⟩ := x
    dsimp only at e1 e2 e3
    subst e1 e2
    obtain ⟨s2, y1, y2, y3⟩ := e_invW (n := (j : Int)) (hs.keep e3 (fun o h => upo_pob o h)) hw a0 a1 b0 b1 (by omega)
    refine ⟨(invv A a b (j + 1), wr ((j : Int) + 1), s2), ?_, rfl, by dsimp only; rw [wr_of (by omega) (by omega)]; omega, e3.trans y2⟩
    try dsimp only
    rw [f_X10_inversions_L20, if_pos (by omega), y1, bd_eq, jn_eq, invv]
    by_cases hx : icn A a b j 0 + icn A a b j 1 + icn A a b j 2 = 0
    · rw [if_pos hx, if_neg (by omega), if_pos hx]
    · rw [if_neg hx, if_pos rfl, if_neg hx]) (by
    intro x k ⟨e1, e2, e3⟩
    rw [f_X10_inversions_L20, if_neg (by omega)]) (0, 0, s) ⟨rfl, rfl, Only.refl _ _⟩
  refine ⟨x.2.2, ?_, i3⟩
  rw [i1] at q
  exact q
theorem e_minvs (hm : MR s A) (hw : WF A) (a0 : 0 ≤ a) (a1 : a ≤ 3) (b0 : 0 ≤ b) (b1 : b ≤ 3) : ∃ s', f_X11_inversions_L31 FU (fun v3_1 s_5 => some (v3_1, s_5)) oM a b 0 0 s = some (invv A a b 21, s') ∧ Only mst s s' := by
  obtain ⟨x, q, i1, i2, i3⟩ := loop_relfu (fun k (x : Int × Int × u_S) => f_X11_inversions_L31 k (fun v3_1 s_5 => some (v3_1, s_5)) oM a b x.1 x.2.1 x.2.2) (fun j x => x.1 = invv A a b j ∧ x.2.1 = (j : Int) ∧ Only mst s x.2.2) (fun x => some (x.1, x.2.2)) 21 (by omega) (by
    intro j x k hj ⟨e1, e2, e3⟩
    obtain ⟨x1, x2, s1⟩ := x
    dsimp only at e1 e2 e3
    subst e1 e2
    obtain ⟨s2, y1, y2, y3⟩ := e_inverts (n := (j : Int)) (hm.keep e3 (by simp [mst, mso])) hw a0 a1 b0 b1 (by omega)
    have hl := hw.1 b b0 b1
    have q0 := icn_b (a := a) (n := (j : Int)) hl (k := 0) (by omega) (by omega)
    have q1 := icn_b (a := a) (n := (j : Int)) hl (k := 1) (by omega) (by omega)
    have q2 := icn_b (a := a) (n := (j : Int)) hl (k := 2) (by omega) (by omega)
    refine ⟨(invv A a b (j + 1), wr ((j : Int) + 1), s2), ?_, rfl, by dsimp only; rw [wr_of (by omega) (by omega)]; omega, e3.trans y2⟩
    try dsimp only
    rw [f_X11_inversions_L31, if_pos (by omega), y1, bd_eq, gd_of (by omega) (by omega), gd_of (by omega) (by omega), gd_of (by omega) (by omega), jn_eq, show a_Mo_counted oM = (24, 7, 0) from rfl, y3 0 (by omega) (by omega), y3 1 (by omega) (by omega), y3 2 (by omega) (by omega), wr_of (x := icn A a b j 0 + icn A a b j 1) (by omega) (by omega), wr_of (x := icn A a b j 0 + icn A a b j 1 + icn A a b j 2) (by omega) (by omega), invv]
    by_cases hx : icn A a b j 0 + icn A a b j 1 + icn A a b j 2 = 0
    · rw [if_pos hx, if_pos hx]
    · rw [if_neg hx, if_neg hx]
      dsimp only
      rw [ior_z (invv_in _ _ _ _)]) (by
    intro x k ⟨e1, e2, e3⟩
    rw [f_X11_inversions_L31, if_neg (by omega)]) (0, 0, s) ⟨rfl, rfl, Only.refl _ _⟩
  refine ⟨x.2.2, ?_, i3⟩
  rw [i1] at q
  exact q
theorem call_inversions (a b : Int) : Call (f_X10_inversions oF a b) (f_X11_inversions oM a b) := by
  intro A H k T tl c hw
  by_cases h1 : 0 ≤ a ∧ a ≤ 3
  · by_cases h2 : 0 ≤ b ∧ b ≤ 3
    · by_cases h3 : a = b
      · refine at_no (r := -2) (by omega) hw (fun s hs => ?_) (fun s hs => ?_)
        · unfold f_X10_inversions
          rw [e_areTwoLines, bd_eq, if_neg (show ¬ ((0 ≤ a ∧ a ≤ 3) ∧ (0 ≤ b ∧ b ≤ 3) ∧ ¬ a = b) from fun z => z.2.2 h3), if00]
        · unfold f_X11_inversions
          rw [e_misLine, bd_eq, if_pos h1, jn_eq, if10, e_misLine, bd_eq, if_pos h2, if10, if_pos h3]
      · refine at_ask (invv A a b 21) hw (fun s hs => ?_) (fun s hs => ?_)
        · obtain ⟨s1, x1, x2⟩ := e_invs hs.1 hw.1 h1.1 h1.2 h2.1 h2.2
          unfold f_X10_inversions
          rw [e_areTwoLines, bd_eq, if_pos (show ((0 ≤ a ∧ a ≤ 3) ∧ (0 ≤ b ∧ b ≤ 3) ∧ ¬ a = b) from ⟨h1, h2, h3⟩), if10, x1]
          exact ⟨s1, rfl, x2.mono upo_csc⟩
        · obtain ⟨s1, x1, x2⟩ := e_minvs hs.1 hw.1 h1.1 h1.2 h2.1 h2.2
          unfold f_X11_inversions
          rw [e_misLine, bd_eq, if_pos h1, jn_eq, if10, e_misLine, bd_eq, if_pos h2, if10, if_neg h3, x1]
          exact ⟨s1, rfl, x2.mono mst_msc⟩
    · refine at_no (r := -2) (by omega) hw (fun s hs => ?_) (fun s hs => ?_)
      · unfold f_X10_inversions
        rw [e_areTwoLines, bd_eq, if_neg (show ¬ ((0 ≤ a ∧ a ≤ 3) ∧ (0 ≤ b ∧ b ≤ 3) ∧ ¬ a = b) from fun z => h2 z.2.1), if00]
      · unfold f_X11_inversions
        rw [e_misLine, bd_eq, if_pos h1, jn_eq, if10, e_misLine, bd_eq, if_neg h2, if00]
  · refine at_no (r := -2) (by omega) hw (fun s hs => ?_) (fun s hs => ?_)
    · unfold f_X10_inversions
      rw [e_areTwoLines, bd_eq, if_neg (show ¬ ((0 ≤ a ∧ a ≤ 3) ∧ (0 ≤ b ∧ b ≤ 3) ∧ ¬ a = b) from fun z => h1 z.1), if00]
    · unfold f_X11_inversions
      rw [e_misLine, bd_eq, if_neg h1, jn_eq, if00]
end INV
