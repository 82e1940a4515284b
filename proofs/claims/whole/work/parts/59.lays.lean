/-! lays -/
def lso (o : u_O) : Prop := mal o ∨ mso o
section LAYS
variable {s s' : u_S} {A : Int → Int} {H : Int → Int → Int} {n : Int} {T : Int → Int} {tl : Int} {c : Int → Int}
theorem e_mlays (hm : MR s A) (hw : WF A) {v x : Nat} (h2 : 2 ≤ v) (h4 : v ≤ 4) (hx : x < 10 ^ 4) (hV : VB (vo 10 v x) v) (kx : u_S → Option (Int × u_S)) : ∃ s', f_X11_lays_L56 FU kx oM (v : Int) (x : Int) 0 (wt s (24, 0, 0) 84 0) = kx s' ∧ MR s' (layJ A (vo 10 v x) v (2 * v)) ∧ Only lso s s' := by
  obtain ⟨b, q, i1, i2, i3⟩ := loop_relfu (fun m (b : Int × u_S) => f_X11_lays_L56 m kx oM (v : Int) (x : Int) b.1 b.2) (fun j b => b.1 = (j : Int) ∧ MR b.2 (layJ A (vo 10 v x) v j) ∧ Only lso s b.2) (fun b => kx b.2) (2 * v) (by omega) (by
    intro j b m hj ⟨e1, e2, e3⟩
    obtain ⟨b1, s1⟩ := b
    dsimp only at e1 e2 e3
    subst e1
    obtain ⟨f1, f2, f3⟩ := lay_fact (A := A) (V := vo 10 v x) (v := (v : Int)) (by omega) (by omega) j (by omega)
    have hn : 0 ≤ nJ A v (j : Int) ∧ nJ A v (j : Int) ≤ 7 := by unfold nJ; split <;> omega
    have hcg : ∀ l : Int, 0 ≤ l → l ≤ 3 → ∀ k : Int, 21 * l ≤ k → k ≤ 21 * l + 20 → layJ A (vo 10 v x) v j k = A k := fun l a b k y z => f3 k (Or.inl (by omega))
    have hl' : ∀ l, 0 ≤ l → l ≤ 3 → WL (layJ A (vo 10 v x) v j) l := fun l a b => (hw.1 l a b).congr (hcg l a b)
    have hlen : lenA (layJ A (vo 10 v x) v j) 0 = lenA A 0 := len_congr (hcg 0 (by omega) (by omega)) (hw.1 0 (by omega) (by omega))
    have hcn : cntA (layJ A (vo 10 v x) v j) 1 = cntA A 1 := cnt_congr (hcg 1 (by omega) (by omega))
    have hSB : SB (layJ A (vo 10 v x) v j) (vo 10 v x) j = SB A (vo 10 v x) j := by unfold SB; rw [hlen]
    have hex : exJ (layJ A (vo 10 v x) v j) v j ↔ exJ A v j := by show (_ ∨ (_ ∧ 0 < cntA (layJ A (vo 10 v x) v j) 1)) ↔ _; rw [hcn]
    obtain ⟨s2, x1, x2, x3⟩ := e_sound (to := (24, 5, 0)) (j := (j : Int)) e2 hl' h2 h4 hx hV rfl (by decide) (by omega) (by omega)
    rw [hSB] at x3
    have sb := SB_b (V := vo 10 v x) (hw.1 0 (by omega) (by omega)) (show (v : Int) ≤ 4 by omega) hV (show (0 : Int) ≤ j by omega) (by omega)
    have m2 : MR s2 (layJ A (vo 10 v x) v j) := e2.keep x2 (by simp)
    have o2 : Only lso s s2 := e3.trans (x2.mono (fun o h => Or.inr (Or.inl h)))
    by_cases hj2 : exJ A v j
    · obtain ⟨s3, y1, y2, y3⟩ := e_enterNow m2 (l := SB A (vo 10 v x) j 0) (f := SB A (vo 10 v x) j 1) (m := SB A (vo 10 v x) j 2) (st := SB A (vo 10 v x) j 3) (v := SB A (vo 10 v x) j 4) (by rw [f1]; omega) (by omega) (by omega) (by omega) (by omega) (by omega) oM
      refine ⟨((j + 1 : Nat), s3), ?_, rfl, ?_, o2.trans (y3.mono (fun o h => Or.inl h))⟩
      · dsimp only
        rw [f_X11_lays_L56, wr_of (x := 2 * (v : Int)) (by omega) (by omega), if_pos (by omega), show a_Mo_upper oM = (24, 5, 0) from rfl, x1, bd_eq, jn_eq, if_pos (hex.mpr hj2), if_neg (by omega), gd_of (by omega) (by omega), gd_of (by omega) (by omega), gd_of (by omega) (by omega), gd_of (by omega) (by omega), Int.tdiv_eq_ediv_of_nonneg (by omega), wr_of (x := (j : Int) / 2) (by omega) (by omega), e_voice hx h4 (by omega) (by omega), bd_eq, x3.1, x3.2.1, x3.2.2.1, x3.2.2.2, ← SB_4 A (vo 10 v x) (j : Int), y1, bd_eq, wr_of (x := (j : Int) + 1) (by omega) (by omega)]
        rfl
      · dsimp only
        rw [layJ, if_pos hj2]
        exact y2
    · refine ⟨((j + 1 : Nat), s2), ?_, rfl, ?_, o2⟩
      · dsimp only
        rw [f_X11_lays_L56, wr_of (x := 2 * (v : Int)) (by omega) (by omega), if_pos (by omega), show a_Mo_upper oM = (24, 5, 0) from rfl, x1, bd_eq, jn_eq, if_neg (fun z => hj2 (hex.mp z)), if_pos rfl, wr_of (x := (j : Int) + 1) (by omega) (by omega)]
        rfl
      · dsimp only
        rw [layJ, if_neg hj2]
        exact m2) (by
    intro b m ⟨e1, e2, e3⟩
    rw [f_X11_lays_L56, wr_of (x := 2 * (v : Int)) (by omega) (by omega), if_neg (by omega)]) (0, wt s (24, 0, 0) 84 0) ⟨rfl, hm.wt (InR_iff.mpr ⟨by omega, by omega⟩), (Only.refl lso s).wt (Or.inl rfl) _ _⟩
  exact ⟨b.2, q, i2, i3⟩
theorem call_lays (v : Int) : Call (f_X10_lays oF v) (f_X11_lays oM v) := by
  refine call_S (fun A H n T tl c hw => ?_)
  have hn := hw.2.1
  by_cases h1 : 2 ≤ v ∧ v ≤ 4
  · obtain ⟨k, rfl⟩ : ∃ k : Nat, v = k := ⟨v.toNat, by omega⟩
    have h2 : 2 ≤ k := by omega
    have h4 : k ≤ 4 := by omega
    by_cases h0 : cntA A 0 ≤ 0
    · refine ⟨-3, A, fun z => by omega, fun s hs => ?_, fun s hs => ?_⟩
      · have ee : f_X5_isEmpty (3, 0, 0) s = some ((if cntA A 0 ≤ 0 then 1 else 0), s) := e_isEmpty (hs.1.1 0 (by omega) (by omega))
        obtain ⟨s1, a1, a2, a3⟩ := c_ref (r := -3) (by omega) hs
        refine ⟨s1, ?_, a3, fun _ => a2, fun z => by omega⟩
        unfold f_X10_lays
        rw [e_areRowVoices, bd_eq, if_pos h1, if10, gd_of (by omega) (by omega), show e_Line (a_Plan_lines (a_FP_plan oF)) 0 = (3, 0, 0) from rfl, ee, bd_eq, if_pos h0, if10, a1, bd_eq]
      · obtain ⟨s1, a1, a2, a3⟩ := m_ref (r := -3) (by omega) oM hs
        refine ⟨s1, ?_, a3, fun _ => a2, fun z => by omega⟩
        unfold f_X11_lays
        rw [e_in, bd_eq, if_pos h1, if10, e_notes hs.1 oM (by omega) (by omega), bd_eq, if_pos (by have := (hw.1.1 0 (by omega) (by omega)).1; omega), a1, bd_eq]
    · obtain ⟨x, g1, g2⟩ := lst_least hw.1 h2 h4
      have hv := val_b hw.1 h2 h4 g1.1
      have hf := p10_fact h2 h4 g1.1
      have hb : 10 ^ k ≤ 10 ^ 4 := Nat.pow_le_pow_right (by omega) h4
      have hWF := lay_WF (V := vo 10 k x) hw.1 (show (2 : Int) ≤ k by omega) (by omega) hf.2.1 hf.2.2
      obtain ⟨f1, f2, f3⟩ := lay_fact (A := A) (V := vo 10 k x) (v := (k : Int)) (by omega) (by omega) (2 * (k : Int)).toNat (by omega)
      have hnj : 0 ≤ nJ A k ((2 * (k : Int)).toNat : Int) ∧ nJ A k ((2 * (k : Int)).toNat : Int) ≤ 7 := by unfold nJ; split <;> omega
      refine ⟨nJ A k ((2 * (k : Int)).toNat : Int), layJ A (vo 10 k x) k (2 * (k : Int)).toNat, fun _ => hWF, fun s hs => ?_, fun s hs => ?_⟩
      · obtain ⟨hc, hr⟩ := hs
        have ee : f_X5_isEmpty (3, 0, 0) s = some ((if cntA A 0 ≤ 0 then 1 else 0), s) := e_isEmpty (hc.1 0 (by omega) (by omega))
        have dpq : ∀ p q : Nat, p ≠ q → ∀ o, pob p o → ¬ pob q o := fun p q hpq o a b => hpq (a.1.symm.trans b.1)
        obtain ⟨s3, a1, a2, a3⟩ := e_planCopy (p := 1) (q := 0) (by decide) hc hw.1
        have c3 := hc.keep a2 (dpq 0 1 (by decide))
        have r3 := hr.keep a2 (fun o h => Or.inr (Or.inr (Or.inl h)))
        obtain ⟨s4, b1, b2⟩ := e_bestRow c3 hw.1 h2 h4
        rw [g2] at b1
        have e4 : valO A k x = orF A (vo 10 k x) k * 10000 + x := rfl
        have hdec : Decidable (isOr k (x : Int)) := Classical.propDecidable _
        have hio : isOr k (x : Int) := ⟨by omega, by have := hf.1; omega, by rw [Int.toNat_natCast]; exact (ok_mem h2 h4 hf.1).mpr g1.1⟩
        obtain ⟨s5, d1, d2, d3⟩ := e_takesRow h2 h4 (p := (x : Int)) (InR_iff.mpr ⟨by omega, by omega⟩) s4
        rw [if_pos hio] at d1
        have o5 : Only csc s3 s5 := (b2.mono bro_csc).trans (d2.mono (fun o h => bro_csc o (Or.inr h)))
        have c5 := c3.keep o5 (csc_pob (by decide))
        have d3' := d3 hio
        rw [Int.toNat_natCast] at d3'
        obtain ⟨s6, y1, y2, y3⟩ := e_layRow (V := vo 10 k x) c5 hw.1 (show (2 : Int) ≤ k by omega) (by omega) hf.2.1 d3'
        have c6 := c5.keep y2 (fun o h => ne_eob (by decide) o h)
        obtain ⟨s7, z1, z2, z3, z4⟩ := e_entriesCopy (s := s6) (p := 0) (q := 7) (by decide)
        have er7 : ER s7 0 (layJ A (vo 10 k x) k (2 * (k : Int)).toNat) := y3.copy (by rw [f1]; omega) z3 z4
        have c7 : CP s7 0 (layJ A (vo 10 k x) k (2 * (k : Int)).toNat) := c6.ent hw.1.1 f3 z2 er7
        have o6 : Only csc s3 s6 := o5.trans (y2.mono (fun o h => Or.inr (eob_pob o h)))
        have c71 : CP s7 1 A := (a3.keep o6 (csc_pob (by decide))).keep z2 (fun o h => ne_eob (by decide) o h)
        have r7 := (r3.keep o6 (fun o h => by
          rcases h with h | h
          · exact Or.inl h.1
          · exact Or.inr (Or.inr (Or.inr h)))).keep z2 (fun o h => Or.inr (Or.inl (eob_pob o h)))
        obtain ⟨s8, k1, k2, k3⟩ := e_keep c71 hw.1 r7 hn
        have hob_clo : ∀ o, hob o → clo o := by
          intro o h
          rcases h with h | ⟨q, _, _, h⟩
          · subst h; simp [clo]
          · exact pob_clo o h
        refine ⟨s8, ?_, ((a2.mono (fun o h => pob_clo o h)).trans (o6.mono csc_clo)).trans ((z2.mono (fun o h => pob_clo o (eob_pob o h))).trans (k2.mono hob_clo)), fun z => by omega, fun _ => ⟨c7.keep k2 (fun o h z => ?_), k3⟩⟩
        · unfold f_X10_lays
          rw [e_areRowVoices, bd_eq, if_pos h1, if10, gd_of (by omega) (by omega), show e_Line (a_Plan_lines (a_FP_plan oF)) 0 = (3, 0, 0) from rfl, ee, bd_eq, if_neg h0, if00, show a_FP_before oF = (1, 1, 0) from rfl, show a_FP_plan oF = (1, 0, 0) from rfl, a1, bd_eq, b1, bd_eq, Int.tmod_eq_emod_of_nonneg (by omega), show valO A k x % 10000 = x by omega, d1, bd_eq, y1, bd_eq, show a_Plan_entries (1, 0, 0) = (6, 0, 0) from rfl, show a_FP_rowEntries oF = (6, 7, 0) from rfl, z1, bd_eq, er7.1, f1, f_X10_settled, if_neg (by omega), show a_FP_history oF = (10, 0, 0) from rfl, show a_FP_before oF = (1, 1, 0) from rfl, k1, bd_eq, bd_eq]
        · rcases z with z | ⟨q, e1, e2, z⟩
          · subst z; simp [pob] at h
          · have := h.1; have := z.1; omega
      · obtain ⟨y, s1, x1, x2, x3, x4, x5⟩ := e_bestOf hs.1 hw.1 h2 h4
        have exy : x = y := least_eq hw.1 h2 h4 g1 x2
        subst exy
        obtain ⟨s2, b1, b2, b3⟩ := m_keep (hs.bs x4 x5) hn
        obtain ⟨s3, d1, d2, d3⟩ := e_mlays (v := k) (x := x) b2.1 hw.1 h2 h4 (by have := hf.1; omega) hf.2.1 (fun s_5 => gd 84 145 (some ((rd s_5 (24, 0, 0) 84), s_5)))
        have e2k : (2 * (k : Int)).toNat = 2 * k := by omega
        rw [e2k]
        rw [e2k] at f1
        refine ⟨s3, ?_, (x4.mono bso_mdo).trans (b3.trans (d3.mono (fun o h => by
          rcases h with h | h
          · exact mal_mdo o h
          · exact msc_mdo o (mst_msc o (Or.inl h))))), fun z => by rw [← e2k] at z; omega, fun _ => ⟨d2, b2.2.keep d3 (by simp [lso, mal, mso]) (by simp [lso, mal, mso]) (by simp [lso, mal, mso]) (by simp [lso, mal, mso])⟩⟩
        unfold f_X11_lays
        rw [e_in, bd_eq, if_pos h1, if10, e_notes hs.1 oM (by omega) (by omega), bd_eq, if_neg (by omega), x1, bd_eq, b1, bd_eq, gd_of (by omega) (by omega), show a_Mo_all oM = (24, 0, 0) from rfl, d1, gd_of (by omega) (by omega), d2 84 (by omega) (by omega), f1]
  · refine ⟨-2, A, fun z => by omega, fun s hs => ?_, fun s hs => ?_⟩
    · obtain ⟨s1, a1, a2, a3⟩ := c_ref (r := -2) (by omega) hs
      refine ⟨s1, ?_, a3, fun _ => a2, fun z => by omega⟩
      unfold f_X10_lays
      rw [e_areRowVoices, bd_eq, if_neg h1, if00, a1, bd_eq]
    · obtain ⟨s1, a1, a2, a3⟩ := m_ref (r := -2) (by omega) oM hs
      refine ⟨s1, ?_, a3, fun _ => a2, fun z => by omega⟩
      unfold f_X11_lays
      rw [e_in, bd_eq, if_neg h1, if00, a1, bd_eq]
end LAYS
