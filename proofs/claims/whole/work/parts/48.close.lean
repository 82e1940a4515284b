/-! strettos -/
theorem sm_term {f : Int → Int} {n : Nat} (h : ∀ i : Int, 0 ≤ i → i < n → 0 ≤ f i) {k : Nat} (hk : k < n) : f k ≤ sm f n := by
  have h1 := sm_mono h (k := k + 1) (by omega)
  have h2 := sm_ge (f := f) (b := 0) (n := k) (fun i a b => h i a (by omega))
  have h3 : sm f (k + 1) = sm f k + f k := rfl
  rw [Int.zero_mul] at h2
  omega
theorem cnk_zero {x : Int → Int} (hx : ∀ t, 0 ≤ x t ∧ x t ≤ 7) {a k : Int} (k0 : 0 ≤ k) (k1 : k ≤ 2) (n : Nat) : cnk x a k n = 0 ↔ ∀ i : Nat, i < n → bitk (x (a + i)) k ≠ 1 := by
  have hb : ∀ i : Int, 0 ≤ bitk (x (a + i)) k ∧ bitk (x (a + i)) k ≤ 1 := fun i => bit_b (hx _).1 (hx _).2 k0 k1
  constructor
  · intro h i hi h1
    have h2 := sm_term (f := fun i => bitk (x (a + i)) k) (n := n) (fun i _ _ => (hb i).1) hi
    unfold cnk at h
    rw [h] at h2
    omega
  · intro h
    refine sm_zero (fun i h0 h1 => ?_)
    have := hb i
    have h2 := h i.toNat (by omega)
    rw [show ((i.toNat : Nat) : Int) = i by omega] at h2
    omega
theorem lor_0 {v : Int} (h : InL v) : lor v 0 = v := by
  unfold lor
  rw [JL_0, Int64.or_zero]
  exact h
theorem ior_z {v : Int} (h : InR v) : ior v 0 = v := by
  unfold ior
  rw [J_0, Int32.or_zero]
  exact h
theorem InL_lor (a b : Int) : InL (lor a b) := InL_to _
theorem InR_ior (a b : Int) : InR (ior a b) := InR_to _
/-- delays that fit, as bits -/
def strv (C : Nat → Bool) : Nat → Int
  | 0 => 0
  | j + 1 => if C (j + 1) then lor (strv C j) (lshl 1 ((j + 1 : Nat) : Int)) else strv C j
theorem strv_in (C : Nat → Bool) : ∀ j, InL (strv C j)
  | 0 => InL_lit rfl
  | j + 1 => by
    rw [strv]
    split
    · exact InL_lor _ _
    · exact strv_in C j
def fitA (A : Int → Int) (l f m d : Int) : Bool := decide (scn A l f m d 0 = 0 ∧ scn A l f m d 2 = 0)
section FIT3
variable {s : u_S} {A : Int → Int} {l f m d t : Int}
theorem scn_n (hl : WL A l) (hd : 0 ≤ d) (k : Int) : scn A l f m d k = cnk (flt (A 137) (HRD A l 0 0 0) (HRD A l f m d)) d k (lenA A l - d).toNat := by
  have t0 : totA A l 0 = lenA A l := by rw [tot_last A l 0 hl.1.1]; rfl
  have tf : lenA A l ≤ totA A l f := by
    rw [tot_last A l f hl.1.1]
    have := hl.lenb
    unfold lastA
    split <;> omega
  unfold scn
  rw [show max 0 d = d by omega, show (min (0 + totA A l 0) (d + totA A l f) - d) = (lenA A l - d) by omega]
theorem e_isFit (hm : MR s A) (hl : WL A l) (h0 : 0 ≤ l) (h1 : l ≤ 3) (hr : RWS s A l f) (hmt : 1 ≤ A 137 ∧ A 137 ≤ 8) (hd : 0 ≤ d) (hmm : -40 ≤ m ∧ m ≤ 40) : f_X11_isFit oM l m d s = some ((if fitA A l f m d then 1 else 0), s) := by
  have hlen := hl.lenb
  have hz0 := cnk_zero (x := flt (A 137) (HRD A l 0 0 0) (HRD A l f m d)) (fun t => flt_b _ _ _ t) (a := d) (k := 0) (by omega) (by omega) (lenA A l - d).toNat
  have hz2 := cnk_zero (x := flt (A 137) (HRD A l 0 0 0) (HRD A l f m d)) (fun t => flt_b _ _ _ t) (a := d) (k := 2) (by omega) (by omega) (lenA A l - d).toNat
  rw [← scn_n hl hd] at hz0 hz2
  unfold f_X11_isFit
  rw [e_mlength hm hl oM h0 h1, bd_eq]
  have key : f_X11_isFit_L10 FU (fun s_2 => some (1, s_2)) oM m d (lenA A l) (d + ((0 : Nat) : Int)) s = _ := loop_fffu (fun k (j : Nat) => f_X11_isFit_L10 k (fun s_2 => some (1, s_2)) oM m d (lenA A l) (d + (j : Int)) s) (fun j => decide (badA A l f m d (d + (j : Int)))) (fun _ => some (0, s)) (some (1, s)) (lenA A l - d).toNat (by omega) (by
    intro j k hj
    rw [e_fitStep hm hl hr hmt hd (by omega) (by omega) hmm, show d + (j : Int) + 1 = d + ((j + 1 : Nat) : Int) by omega]
    by_cases hb : badA A l f m d (d + (j : Int))
    · rw [if_pos hb, if_pos (decide_eq_true hb)]
    · rw [if_neg hb, if_neg (fun z => hb (of_decide_eq_true z))]) (by
    intro k
    rw [f_X11_isFit_L10, if_neg (by omega)])
  rw [show d + ((0 : Nat) : Int) = d by omega] at key
  rw [key]
  unfold fitA
  cases hff : ff (fun j : Nat => decide (badA A l f m d (d + (j : Int)))) 0 (lenA A l - d).toNat with
  | none =>
    have hn := ff_none hff
    have h3 : scn A l f m d 0 = 0 ∧ scn A l f m d 2 = 0 := by
      refine ⟨hz0.mpr (fun i hi z => ?_), hz2.mpr (fun i hi z => ?_)⟩
      · exact of_decide_eq_false (hn i (by omega) (by omega)) (Or.inl z)
      · exact of_decide_eq_false (hn i (by omega) (by omega)) (Or.inr z)
    rw [if_pos (decide_eq_true h3)]
  | some i =>
    have hs := ff_some hff
    have hb := of_decide_eq_true hs.2.2.1
    have h3 : ¬ (scn A l f m d 0 = 0 ∧ scn A l f m d 2 = 0) := by
      rintro ⟨z0, z2⟩
      rcases hb with hb | hb
      · exact hz0.mp z0 i (by omega) hb
      · exact hz2.mp z2 i (by omega) hb
    rw [if_neg (fun z => h3 (of_decide_eq_true z))]
theorem e_strettoFits2 (hl : WL A l) (hmt : 1 ≤ A 137) (r6 : rd s (1, 0, 0) 6 = A 137) (hu : SR s 0 A l 0 0 0 0) (hv : SF s 1 A l f m) (hm : -40 ≤ m ∧ m ≤ 40) (hd : 0 ≤ d ∧ d ≤ 1000) : ∃ s', f_X10_strettoFits oF d s = some ((if scn A l f m d 0 = 0 ∧ scn A l f m d 2 = 0 then 1 else 0), s') ∧ Only lwo s s' ∧ FC s' (scn A l f m d 0) (scn A l f m d 1) (scn A l f m d 2) ∧ SF s' 1 A l f m := by
  have p1 : f_X8_place (14, 1, 0) d 1 s = some (0, wt (wt s (14, 1, 0) 2 d) (14, 1, 0) 3 1) := rfl
  generalize hs1 : wt (wt s (14, 1, 0) 2 d) (14, 1, 0) 3 1 = s1 at p1
  have o1 : Only lwo s s1 := by rw [← hs1]; exact ((Only.refl lwo s).wt (Or.inl rfl) _ _).wt (Or.inl rfl) _ _
  have v1 : SR s1 1 A l f m d 1 := by
    rw [← hs1]
    exact ⟨⟨by rw [rd_wt_k (by decide), rd_wt_k (by decide)]; exact hv.1, fun t a b => by rw [rd_wt_o (by simp), rd_wt_o (by simp)]; exact hv.2 t a b⟩, by rw [rd_wt_k (by decide), rd_wt_same, wr_of (by omega) (by omega)], by rw [rd_wt_same, wr_of (by omega) (by omega)]⟩
  have u1 : SR s1 0 A l 0 0 0 0 := hu.keep o1 (by simp [lwo]) (by simp [lwo])
  obtain ⟨s2, b1, b2, b3⟩ := e_forget (s := s1)
  obtain ⟨s3, c1, c2, c3⟩ := e_addPair (u1.keep b2 (by simp [flo]) (by simp [flo])) (v1.keep b2 (by simp [flo]) (by simp [flo])) hl hl (by omega) hd (by omega) hm hmt b3 (by omega) (by omega) (by omega)
  rw [kda01] at c3
  have c3' : FC s3 (0 + scn A l f m d 0) (0 + scn A l f m d 1) (0 + scn A l f m d 2) := c3
  rw [Int.zero_add, Int.zero_add, Int.zero_add] at c3'
  have q0 := scn_b (f := f) (m := m) (d := d) hl (k := 0) (by omega) (by omega)
  have q1 := scn_b (f := f) (m := m) (d := d) hl (k := 1) (by omega) (by omega)
  have q2 := scn_b (f := f) (m := m) (d := d) hl (k := 2) (by omega) (by omega)
  refine ⟨s3, ?_, o1.trans ((b2.trans c2).mono (fun o h => Or.inr h)), c3', ((v1.keep b2 (by simp [flo]) (by simp [flo])).keep c2 (by simp [flo]) (by simp [flo])).1⟩
  have r6' : rd s2 (a_FP_plan oF) 6 = A 137 := by rw [show a_FP_plan oF = (1, 0, 0) from rfl, b2.rd (by simp [flo]), o1.rd (by simp [lwo])]; exact r6
  unfold f_X10_strettoFits
  rw [show a_FP_lower oF = (14, 1, 0) from rfl, show a_FP_upper oF = (14, 0, 0) from rfl, show a_FP_faults oF = (16, 0, 0) from rfl, p1, bd_eq, b1, bd_eq, r6', c1, bd_eq, e_num0 c3' (by omega) (by omega) (by omega), bd_eq]
  by_cases h0 : scn A l f m d 0 = 0
  · rw [if_pos h0, e_num2 c3' (by omega) (by omega) (by omega), bd_eq]
    by_cases h2 : scn A l f m d 2 = 0
    · rw [if_pos h2, if_pos ⟨h0, h2⟩]
    · rw [if_neg h2, if_neg (fun z => h2 z.2)]
  · rw [if_neg h0, if_neg (fun z => h0 z.1)]
theorem e_strettos (hs : CP s 0 A) (hw : WF A) (h0 : 0 ≤ l) (h1 : l ≤ 3) (hu : SR s 0 A l 0 0 0 0) (hv : SF s 1 A l f m) (hm : -40 ≤ m ∧ m ≤ 40) (hmt : 1 ≤ A 137) : ∃ s', f_X10_strettos_L44 FU (fun v5_1 s_4 => some (v5_1, s_4)) oF (lenA A l) 0 1 s = some (strv (fun d => fitA A l f m d) (lenA A l - 1).toNat, s') ∧ Only lwo s s' := by
  have hl := hw.1 l h0 h1
  have hlen := hl.lenb
  obtain ⟨b, q, i1, i2, i3, i4⟩ := loop_relfu (fun k (b : Int × Int × u_S) => f_X10_strettos_L44 k (fun v5_1 s_4 => some (v5_1, s_4)) oF (lenA A l) b.1 b.2.1 b.2.2) (fun j b => b.1 = strv (fun d => fitA A l f m d) j ∧ b.2.1 = (j : Int) + 1 ∧ Only lwo s b.2.2 ∧ SF b.2.2 1 A l f m) (fun b => some (b.1, b.2.2)) (lenA A l - 1).toNat (by omega) (by
    intro j b k hj ⟨e1, e2, e3, e4⟩
    obtain ⟨b1, b2, s1⟩ := b
    dsimp only at e1 e2 e3
    subst e1 e2
    have u1 : SR s1 0 A l 0 0 0 0 := hu.keep e3 (by simp [lwo]) (by simp [lwo])
    obtain ⟨s2, a1, a2, a3, a4⟩ := e_strettoFits2 (d := (j : Int) + 1) hl hmt (by rw [e3.rd (by simp [lwo])]; exact hs.2.2.1.2.2.1) u1 e4 hm (by omega)
    refine ⟨(strv (fun d => fitA A l f m d) (j + 1), wr ((j : Int) + 1 + 1), s2), ?_, rfl, by dsimp only; rw [wr_of (by omega) (by omega)]; omega, e3.trans a2, a4⟩
    dsimp only
    rw [f_X10_strettos_L44, if_pos (by omega), a1, bd_eq, jn_eq, strv]
    unfold fitA
    rw [show ((j + 1 : Nat) : Int) = (j : Int) + 1 by omega]
    by_cases hx : scn A l f m ((j : Int) + 1) 0 = 0 ∧ scn A l f m ((j : Int) + 1) 2 = 0
    · rw [if_pos hx, if_neg (by omega), if_pos (decide_eq_true hx)]
    · rw [if_neg hx, if_pos rfl, if_neg (fun z => hx (of_decide_eq_true z))]) (by
    intro b k ⟨e1, e2, e3, e4⟩
    rw [f_X10_strettos_L44, if_neg (by omega)]) (0, 1, s) ⟨rfl, rfl, Only.refl _ _, hv⟩
  refine ⟨b.2.2, ?_, i3⟩
  rw [i1] at q
  exact q
theorem e_mstrettos (hm : MR s A) (hl : WL A l) (h0 : 0 ≤ l) (h1 : l ≤ 3) (hr : RWS s A l f) (hmt : 1 ≤ A 137 ∧ A 137 ≤ 8) (hmm : -40 ≤ m ∧ m ≤ 40) : f_X11_strettos_L36 FU (fun v4_1 s_4 => some (v4_1, s_4)) oM l m (lenA A l) 0 1 s = some (strv (fun d => fitA A l f m d) (lenA A l - 1).toNat, s) := by
  have hlen := hl.lenb
  refine loop_fu (fun k (b : Int × Int) => f_X11_strettos_L36 k (fun v4_1 s_4 => some (v4_1, s_4)) oM l m (lenA A l) b.1 b.2 s) (fun j => (strv (fun d => fitA A l f m d) j, (j : Int) + 1)) _ (lenA A l - 1).toNat (by omega) ?_ ?_
  · intro j k hj
    dsimp only
    rw [f_X11_strettos_L36, if_pos (by omega), e_isFit hm hl h0 h1 hr hmt (by omega) hmm, bd_eq, jn_eq, strv, show ((j + 1 : Nat) : Int) = (j : Int) + 1 by omega, wr_of (x := (j : Int) + 1 + 1) (by omega) (by omega)]
    by_cases hx : fitA A l f m ((j : Int) + 1) = true
    · rw [if_pos hx, if_neg (by omega), if_pos hx]
    · rw [if_neg hx, if_pos rfl, if_neg hx]
      dsimp only
      rw [lor_0 (strv_in _ _)]
  · intro k
    dsimp only
    rw [f_X11_strettos_L36, if_neg (by omega)]
theorem call_strettos (l f m : Int) : Call (f_X10_strettos oF l f m) (f_X11_strettos oM l f m) := by
  intro A H n T tl c hw
  have hto := hw.1.2.2.2.2.1
  have hmt := hw.1.2.2.2.2.2.1
  by_cases h1 : (0 ≤ l ∧ l ≤ 3) ∧ (0 ≤ f ∧ f ≤ 4) ∧ (-21 ≤ m ∧ m ≤ 21)
  · have hl := hw.1.1 l h1.1.1 h1.1.2
    have hlen := hl.lenb
    refine at_ask (strv (fun d => fitA A l f m d) (lenA A l - 1).toNat) hw (fun s hs => ?_) (fun s hs => ?_)
    · obtain ⟨s1, a1, a2, a3, a4⟩ := e_formStretto (f := f) (m := m) hs.1 hw.1 h1.1.1 h1.1.2 (by omega)
      have k1 := hs.keep a2
      obtain ⟨s2, b1, b2⟩ := e_strettos k1.1 hw.1 h1.1.1 h1.1.2 a3 a4 (by omega) hmt.1
      unfold f_X10_strettos
      rw [e_isFormed, bd_eq, if_pos h1, if10, a1, bd_eq, gd_of (by omega) (by omega), o_pline, e_length (k1.1.1 l h1.1.1 h1.1.2) hl, bd_eq, b1]
      exact ⟨s2, rfl, a2.trans (b2.mono lwo_csc)⟩
    · obtain ⟨s1, a1, a2, a3⟩ := e_laysRows hs.1 hl h1.1.1 h1.1.2 hto f
      unfold f_X11_strettos
      rw [e_misMoved, bd_eq, if_pos h1, if10, e_mlength hs.1 hl oM h1.1.1 h1.1.2, bd_eq, a1, bd_eq, e_mstrettos (hs.1.keep a2 (by simp [rwo])) hl h1.1.1 h1.1.2 a3 hmt (by omega)]
      exact ⟨s1, rfl, a2.mono rwo_msc⟩
  · refine at_no (r := -2) (by omega) hw (fun s hs => ?_) (fun s hs => ?_)
    · unfold f_X10_strettos
      rw [e_isFormed, bd_eq, if_neg h1, if00]
    · unfold f_X11_strettos
      rw [e_misMoved, bd_eq, if_neg h1, if00]
end FIT3
