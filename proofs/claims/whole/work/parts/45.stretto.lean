/-! stretto -/
def scn (A : Int → Int) (l f m d k : Int) : Int := cnk (flt (A 137) (HRD A l 0 0 0) (HRD A l f m d)) (max 0 d) k (min (0 + totA A l 0) (d + totA A l f) - max 0 d).toNat
def lwo (o : u_O) : Prop := o = (14, 1, 0) ∨ o = (16, 0, 0)
section STRETTO
variable {s : u_S} {A : Int → Int} {l f m d : Int}
theorem scn_b (hl : WL A l) {k : Int} (k0 : 0 ≤ k) (k1 : k ≤ 2) : 0 ≤ scn A l f m d k ∧ scn A l f m d k ≤ 80 := by
  have h := cnk_b (x := flt (A 137) (HRD A l 0 0 0) (HRD A l f m d)) (fun t => flt_b _ _ _ t) (a := max 0 d) k0 k1 (min (0 + totA A l 0) (d + totA A l f) - max 0 d).toNat
  have ht := tot_b hl 0
  unfold scn
  omega
theorem lwo_csc (o : u_O) (h : lwo o) : csc o := by rcases h with h | h <;> subst h <;> exact Or.inl (by simp)
theorem kda01 (mt : Int) (u w : Int → Int) : kda mt 0 1 u w = flt mt u w := by
  funext t
  unfold kda
  rw [if_neg (by omega), if_pos (by omega)]
theorem e_formStretto (hs : CP s 0 A) (hw : WF A) (h0 : 0 ≤ l) (h1 : l ≤ 3) (hm : -40 ≤ m ∧ m ≤ 40) : ∃ s', f_X10_formStretto oF l f m s = some (0, s') ∧ Only csc s s' ∧ SR s' 0 A l 0 0 0 0 ∧ SF s' 1 A l f m := by
  obtain ⟨s1, s2, a1, a2, a3, a4, a5⟩ := e_lay hs hw h0 h1 (m := 0) (by omega) 0 0 (st := 0) (v := 0) (InR_iff.mpr ⟨by omega, by omega⟩) (InR_iff.mpr ⟨by omega, by omega⟩)
  have hs2 : CP s2 0 A := hs.keep a4 (fun o h z => by have := sndo_k z; have := h.2; omega)
  obtain ⟨s3, b1, b2, b3⟩ := e_form (s := s2) (j := 1) (hs2.1 l h0 h1) (hw.1 l h0 h1) h0 h1 hw.2.2.2.2.1 hs2.2.2.1.1 hs2.2.2.1.2.1 hm f
  refine ⟨s3, ?_, (a4.mono (snd_csc 0)).trans (b2.mono (snd_csc 1)), a5.keep b2 (by simp [sndo]) (by simp [sndo]), b3⟩
  unfold f_X10_formStretto
  rw [show a_FP_plan oF = (1, 0, 0) from rfl, show a_FP_upper oF = (14, 0, 0) from rfl, show a_FP_lower oF = (14, 1, 0) from rfl, a1, bd_eq, a3, bd_eq, b1, bd_eq]
theorem e_num0 {c0 c1 c2 : Int} (hc : FC s c0 c1 c2) (d0 : 0 ≤ c0 ∧ c0 ≤ 1000000) (d1 : 0 ≤ c1 ∧ c1 ≤ 1000000) (d2 : 0 ≤ c2 ∧ c2 ≤ 1000000) : f_X3_number (16, 0, 0) 0 s = some (c0, s) := (e_number hc d0 d1 d2 (w := 0) (by omega) (by omega)).trans rfl
theorem e_num2 {c0 c1 c2 : Int} (hc : FC s c0 c1 c2) (d0 : 0 ≤ c0 ∧ c0 ≤ 1000000) (d1 : 0 ≤ c1 ∧ c1 ≤ 1000000) (d2 : 0 ≤ c2 ∧ c2 ≤ 1000000) : f_X3_number (16, 0, 0) 2 s = some (c2, s) := (e_number hc d0 d1 d2 (w := 2) (by omega) (by omega)).trans rfl
theorem e_strettoFits (hl : WL A l) (hmt : 1 ≤ A 137) (r6 : rd s (1, 0, 0) 6 = A 137) (hu : SR s 0 A l 0 0 0 0) (hv : SF s 1 A l f m) (hm : -40 ≤ m ∧ m ≤ 40) (hd : 0 ≤ d ∧ d ≤ 1000) : ∃ s', f_X10_strettoFits oF d s = some ((if scn A l f m d 0 = 0 ∧ scn A l f m d 2 = 0 then 1 else 0), s') ∧ Only lwo s s' ∧ FC s' (scn A l f m d 0) (scn A l f m d 1) (scn A l f m d 2) := by
  have p1 : f_X8_place (14, 1, 0) d 1 s = some (0, wt (wt s (14, 1, 0) 2 d) (14, 1, 0) 3 1) := rfl
  generalize hs1 : wt (wt s (14, 1, 0) 2 d) (14, 1, 0) 3 1 = s1 at p1
  have o1 : Only lwo s s1 := by rw [← hs1]; exact ((Only.refl lwo s).wt (Or.inl rfl) _ _).wt (Or.inl rfl) _ _
  have v1 : SR s1 1 A l f m d 1 := by
    rw [← hs1]
    exact ⟨⟨by rw [rd_wt_k (by decide), rd_wt_k (by decide)]; exact hv.1, fun t a b => by rw [rd_wt_o (by simp), rd_wt_o (by simp)]; exact hv.2 t a b⟩, by rw [rd_wt_k (by decide), rd_wt_same, wr_of (by omega) (by omega)], by rw [rd_wt_same, wr_of (by omega) (by omega)]⟩
  have u1 : SR s1 0 A l 0 0 0 0 := hu.keep o1 (by simp [lwo]) (by simp [lwo])
  obtain ⟨s2, b1, b2, b3⟩ := e_forget (s := s1)
  obtain ⟨s3, c1, c2, c3⟩ := e_addPair (u1.keep b2 (by simp [flo]) (by simp [flo])) (v1.keep b2 (by simp [flo]) (by simp [flo])) hl hl (by omega) hd (by omega) hm hmt b3 (by omega) (by omega) (by omega)
  rw [kda01] at c3
  have c3' : FC s3 (0 + scn A l f m d 0) (0 + scn A l f m d 1) (0 + scn A l f m d 2) := c3
  rw [Int.zero_add, Int.zero_add, Int.zero_add] at c3'
  have q0 := scn_b (f := f) (m := m) (d := d) hl (k := 0) (by omega) (by omega)
  have q1 := scn_b (f := f) (m := m) (d := d) hl (k := 1) (by omega) (by omega)
  have q2 := scn_b (f := f) (m := m) (d := d) hl (k := 2) (by omega) (by omega)
  refine ⟨s3, ?_, o1.trans ((b2.trans c2).mono (fun o h => Or.inr h)), c3'⟩
  have r6' : rd s2 (a_FP_plan oF) 6 = A 137 := by rw [show a_FP_plan oF = (1, 0, 0) from rfl, b2.rd (by simp [flo]), o1.rd (by simp [lwo])]; exact r6
  unfold f_X10_strettoFits
  rw [show a_FP_lower oF = (14, 1, 0) from rfl, show a_FP_upper oF = (14, 0, 0) from rfl, show a_FP_faults oF = (16, 0, 0) from rfl, p1, bd_eq, b1, bd_eq, r6', c1, bd_eq, e_num0 c3' (by omega) (by omega) (by omega), bd_eq]
  by_cases h0 : scn A l f m d 0 = 0
  · rw [if_pos h0, e_num2 c3' (by omega) (by omega) (by omega), bd_eq]
    by_cases h2 : scn A l f m d 2 = 0
    · rw [if_pos h2, if_pos ⟨h0, h2⟩]
    · rw [if_neg h2, if_neg (fun z => h2 z.2)]
  · rw [if_neg h0, if_neg (fun z => h0 z.1)]
theorem e_stretches (hm : MR s A) (hl : WL A l) (h0 : 0 ≤ l) (h1 : l ≤ 3) (hf : InR f) (hto : 0 ≤ A 136 ∧ A 136 ≤ 6) (hmt : 1 ≤ A 137) (hmm : -40 ≤ m ∧ m ≤ 40) (hd : 0 ≤ d ∧ d ≤ 1000) : ∃ s1 s2, f_X11_stretches oM l f m d s = some (0, s1) ∧ f_X11_countsAll oM s1 = some (0, s2) ∧ Only mst s s2 ∧ ∀ k, 0 ≤ k → k ≤ 2 → rd s2 (24, 7, 0) k = scn A l f m d k := by
  have iz : InR 0 := InR_iff.mpr ⟨by omega, by omega⟩
  have il : InR l := InR_iff.mpr ⟨by omega, by omega⟩
  obtain ⟨s1, a1, a2, a3⟩ := e_puts (s := s) (r := (24, 5, 0)) rfl il iz iz iz
  obtain ⟨s2, b1, b2, b3⟩ := e_puts (s := s1) (r := (24, 6, 0)) rfl il hf (InR_iff.mpr ⟨by omega, by omega⟩ : InR m) (InR_iff.mpr ⟨by omega, by omega⟩ : InR d)
  obtain ⟨s3, c1, c2, c3⟩ := e_countsAll (o := oM) ((hm.keep a2 (by simp)).keep b2 (by simp)) hl h0 h1 hl h0 h1 hto hmt (a3.keep b2 (by simp)) b3 (by omega) (by omega) hd hmm
  refine ⟨s2, s3, ?_, c1, ((a2.mono (fun o h => Or.inl (Or.inl h))).trans (b2.mono (fun o h => Or.inl (Or.inr h)))).trans (c2.mono (fun o h => Or.inr h)), c3⟩
  unfold f_X11_stretches
  rw [show a_Mo_upper oM = (24, 5, 0) from rfl, show a_Mo_lower oM = (24, 6, 0) from rfl, a1, bd_eq, b1, bd_eq]
theorem call_stretto (l f m d w : Int) : Call (f_X10_stretto oF l f m d w) (f_X11_stretto oM l f m d w) := by
  intro A H n T tl c hw
  have hto := hw.1.2.2.2.2.1
  have hmt := hw.1.2.2.2.2.2.1.1
  by_cases h1 : (0 ≤ l ∧ l ≤ 3) ∧ (0 ≤ f ∧ f ≤ 4) ∧ (-21 ≤ m ∧ m ≤ 21)
  · have hl := hw.1.1 l h1.1.1 h1.1.2
    have hlen := hl.lenb
    by_cases h2 : 1 ≤ d ∧ d ≤ lenA A l - 1
    · by_cases h3 : 0 ≤ w ∧ w ≤ 3
      · have q0 := scn_b (f := f) (m := m) (d := d) hl (k := 0) (by omega) (by omega)
        have q1 := scn_b (f := f) (m := m) (d := d) hl (k := 1) (by omega) (by omega)
        have q2 := scn_b (f := f) (m := m) (d := d) hl (k := 2) (by omega) (by omega)
        refine at_ask (if w < 3 then scn A l f m d w else if scn A l f m d 0 = 0 ∧ scn A l f m d 2 = 0 then 1 else 0) hw (fun s hs => ?_) (fun s hs => ?_)
        · obtain ⟨s1, a1, a2, a3, a4⟩ := e_formStretto (f := f) (m := m) hs.1 hw.1 h1.1.1 h1.1.2 (by omega)
          have k1 := hs.keep a2
          obtain ⟨s2, b1, b2, b3⟩ := e_strettoFits (d := d) hl hmt k1.1.2.2.1.2.2.1 a3 a4 (by omega) (by omega)
          unfold f_X10_stretto
          rw [e_isFormed, bd_eq, if_pos h1, jn_eq, if10, gd_of (by omega) (by omega), o_pline, e_length (hs.1.1 l h1.1.1 h1.1.2) hl, bd_eq, wr_of (by omega) (by omega), e_within, bd_eq, if_pos h2, if10, e_within, bd_eq, if_pos h3, if10, a1, bd_eq, b1, bd_eq]
          refine ⟨s2, ?_, a2.trans (b2.mono lwo_csc)⟩
          by_cases w3 : w = 3
          · rw [if_pos w3, if_neg (show ¬ w < 3 by omega)]
            by_cases hx : scn A l f m d 0 = 0 ∧ scn A l f m d 2 = 0
            · rw [if_pos hx, if10]
            · rw [if_neg hx, if00]
          · rw [if_neg w3, if_pos (by omega), show a_FP_faults oF = (16, 0, 0) from rfl, e_number b3 (by omega) (by omega) (by omega) h3.1 h3.2, bd_eq]
            rcases (show w = 0 ∨ w = 1 ∨ w = 2 by omega) with rfl | rfl | rfl
            · rw [if_pos rfl]
            · rw [if_neg (by omega), if_pos rfl]
            · rw [if_neg (by omega), if_neg (by omega), if_pos rfl]
        · obtain ⟨s1, s2, a1, a2, a3, a4⟩ := e_stretches (f := f) (m := m) (d := d) hs.1 hl h1.1.1 h1.1.2 (InR_iff.mpr ⟨by omega, by omega⟩) hto hmt (by omega) (by omega)
          unfold f_X11_stretto
          rw [e_misMoved, bd_eq, if_pos h1, jn_eq, if10, e_mlength hs.1 hl oM h1.1.1 h1.1.2, bd_eq, wr_of (by omega) (by omega), e_in, bd_eq, if_pos h2, if10, e_in, bd_eq, if_pos h3, if10, a1, bd_eq, a2, bd_eq, show a_Mo_counted oM = (24, 7, 0) from rfl]
          refine ⟨s2, ?_, a3.mono mst_msc⟩
          by_cases w3 : w < 3
          · rw [if_pos w3, if_pos w3, gd_of (by omega) (by omega), a4 w h3.1 (by omega)]
          · rw [if_neg w3, if_neg w3, gd_of (by omega) (by omega), gd_of (by omega) (by omega), a4 0 (by omega) (by omega), a4 2 (by omega) (by omega), wr_of (by omega) (by omega)]
            by_cases hx : scn A l f m d 0 = 0 ∧ scn A l f m d 2 = 0
            · rw [if_pos hx, if_pos (by omega)]
            · rw [if_neg hx, if_neg (by omega)]
      · refine at_no (r := -2) (by omega) hw (fun s hs => ?_) (fun s hs => ?_)
        · unfold f_X10_stretto
          rw [e_isFormed, bd_eq, if_pos h1, jn_eq, if10, gd_of (by omega) (by omega), o_pline, e_length (hs.1.1 l h1.1.1 h1.1.2) hl, bd_eq, wr_of (by omega) (by omega), e_within, bd_eq, if_pos h2, if10, e_within, bd_eq, if_neg h3, if00]
        · unfold f_X11_stretto
          rw [e_misMoved, bd_eq, if_pos h1, jn_eq, if10, e_mlength hs.1 hl oM h1.1.1 h1.1.2, bd_eq, wr_of (by omega) (by omega), e_in, bd_eq, if_pos h2, if10, e_in, bd_eq, if_neg h3, if00]
    · refine at_no (r := -2) (by omega) hw (fun s hs => ?_) (fun s hs => ?_)
      · unfold f_X10_stretto
        rw [e_isFormed, bd_eq, if_pos h1, jn_eq, if10, gd_of (by omega) (by omega), o_pline, e_length (hs.1.1 l h1.1.1 h1.1.2) hl, bd_eq, wr_of (by omega) (by omega), e_within, bd_eq, if_neg h2, if00]
      · unfold f_X11_stretto
        rw [e_misMoved, bd_eq, if_pos h1, jn_eq, if10, e_mlength hs.1 hl oM h1.1.1 h1.1.2, bd_eq, wr_of (by omega) (by omega), e_in, bd_eq, if_neg h2, if00]
  · refine at_no (r := -2) (by omega) hw (fun s hs => ?_) (fun s hs => ?_)
    · unfold f_X10_stretto
      rw [e_isFormed, bd_eq, if_neg h1, jn_eq, if00]
    · unfold f_X11_stretto
      rw [e_misMoved, bd_eq, if_neg h1, jn_eq, if00]
end STRETTO
