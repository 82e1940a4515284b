/-! the best order: the model; the calls -/
def bso (o : u_O) : Prop := mst o ∨ o = (23, 0, 0)
section MBEST
variable {s s' : u_S} {A A' : Int → Int} {H : Int → Int → Int} {n : Int} {T : Int → Int} {tl : Int} {c : Int → Int} {f g : u_S → Option (Int × u_S)}
theorem MT.bs (h : MT s A H n T tl c) (ho : Only bso s s') (hk : ∀ k, k ≠ 10 → rd s' (23, 0, 0) k = rd s (23, 0, 0) k) : MT s' A H n T tl c :=
  ⟨h.1.keep ho (by simp [bso, mst, mso]), ⟨by rw [hk 16 (by omega)]; exact h.2.1.1, fun i a b => by rw [ho.rd (by simp [bso, mst, mso])]; exact h.2.1.2 i a b⟩, fun k a b => by rw [ho.rd (by simp [bso, mst, mso])]; exact h.2.2.1 k a b, by rw [hk 3 (by omega)]; exact h.2.2.2.1, fun j i a b x y => by rw [ho.rd (by simp [bso, mst, mso])]; exact h.2.2.2.2 j i a b x y⟩
theorem bso_mdo (o : u_O) (h : bso o) : mdo o := by
  rcases h with h | h
  · exact msc_mdo o (mst_msc o h)
  · subst h; simp [mdo]
theorem at_ask2 (r : Int) (hw : WS A H n T tl c) (h1 : ∀ s, CS s A H n T tl c → ∃ s', f s = some (r, s') ∧ Only csc s s') (h2 : ∀ s, MT s A H n T tl c → ∃ s', g s = some (r, s') ∧ MT s' A H n T tl c ∧ Only mdo s s') : CallAt f g A H n T tl c := by
  refine ⟨r, A, H, n, T, tl, c, hw, fun s hs => ?_, h2⟩
  obtain ⟨s', a, b⟩ := h1 s hs
  exact ⟨s', a, hs.keep b, b.mono csc_clo⟩
theorem at_no2 {r : Int} (hr : r = -2 ∨ r = -3 ∨ r = -4) (hw : WS A H n T tl c) (h1 : ∀ s, CS s A H n T tl c → ∃ s1, Only csc s s1 ∧ f s = bd (f_X10_refused oF r s1) (fun r_1 s_1 => some (r_1, s_1))) (h2 : ∀ s, MT s A H n T tl c → g s = bd (f_X11_refuses oM r s) (fun r_1 s_1 => some (r_1, s_1))) : CallAt f g A H n T tl c := by
  refine ⟨r, A, H, n, T, tl, refC c r, hw.ref _, fun s hs => ?_, fun s hs => ?_⟩
  · obtain ⟨s1, p1, p2⟩ := h1 s hs
    obtain ⟨s', a, b, d⟩ := c_ref hr (hs.keep p1)
    rw [p2, a, bd_eq]
    exact ⟨s', rfl, b, (p1.mono csc_clo).trans d⟩
  · obtain ⟨s', a, b, d⟩ := m_ref hr oM hs
    rw [h2 s hs, a, bd_eq]
    exact ⟨s', rfl, b, d⟩
/-- as far as gone through -/
def BOI (A : Int → Int) (s0 : u_S) (v : Nat) (j : Nat) (b : Int × Int × u_S) : Prop := b.2.1 = (j : Int) ∧ Only bso s0 b.2.2 ∧ (∀ k, k ≠ 10 → rd b.2.2 (23, 0, 0) k = rd s0 (23, 0, 0) k) ∧ ((b.1 = -1 ∧ ∀ x, x ∈ P10 v → ¬ x < j) ∨ ∃ x : Nat, b.1 = x ∧ x ∈ P10 v ∧ x < j ∧ rd b.2.2 (23, 0, 0) 10 = orF A (vo 10 v x) v ∧ ∀ y, y ∈ P10 v → y < j → valO A v x ≤ valO A v y)
theorem e_bestOf (hm : MR s A) (hw : WF A) {v : Nat} (h2 : 2 ≤ v) (h4 : v ≤ 4) : ∃ (x : Nat) (s' : u_S), f_X11_bestOf oM (v : Int) s = some ((x : Int), s') ∧ LeastO A v x ∧ rd s' (23, 0, 0) 10 = orF A (vo 10 v x) v ∧ Only bso s s' ∧ ∀ k, k ≠ 10 → rd s' (23, 0, 0) k = rd s (23, 0, 0) k := by
  have hb : 10 ^ v ≤ 10 ^ 4 := Nat.pow_le_pow_right (by omega) h4
  unfold f_X11_bestOf
  obtain ⟨b, q, i1, i2, i3, i4⟩ := loop_relfu (fun m (b : Int × Int × u_S) => f_X11_bestOf_L9 m (fun v2_1 s_1 => some (v2_1, s_1)) oM (v : Int) b.1 b.2.1 b.2.2) (BOI A s v) (fun b => some (b.1, b.2.2)) (10 ^ v) (by omega) (by
    intro j b m hj ⟨e1, e2, e3, e4⟩
    obtain ⟨b1, b2, s1⟩ := b
    dsimp only at e1 e2 e3 e4
    subst e1
    have m1 : MR s1 A := hm.keep e2 (by simp [bso, mst, mso])
    have hdec : Decidable (isOr v (j : Int)) := Classical.propDecidable _
    have hok := ok_mem h2 h4 hj
    have hio : isOr v (j : Int) ↔ j ∈ P10 v := by
      unfold isOr
      rw [Int.toNat_natCast, hok]
      exact ⟨fun z => z.2.2, fun z => ⟨by omega, by omega, z⟩⟩
    have e0 : f_X11_bestOf_L9 (m + 1) (fun v2_1 s_1 => some (v2_1, s_1)) oM (v : Int) b1 (j : Int) s1 = bd (f_X11_isOrder (v : Int) (j : Int) s1) (fun r_2 s_4 => jn (fun (v2_3 : Int) (s_5 : u_S) => f_X11_bestOf_L9 m (fun v2_1 s_1 => some (v2_1, s_1)) oM (v : Int) v2_3 (wr ((j : Int) + 1)) s_5) (fun jp_1 => if r_2 = 0 then (jp_1 b1 s_4) else (bd (f_X11_orderFaults oM (v : Int) (j : Int) s_4) (fun r_3 s_6 => jn (fun (s_7 : u_S) => jp_1 (j : Int) (wt s_7 oM 10 r_3)) (fun jp_2 => if b1 = (-1) then (jp_2 s_6) else (if r_3 < (rd s_6 oM 10) then (jp_2 s_6) else (jp_1 b1 s_6))))))) := by
      rw [f_X11_bestOf_L9, e_power h4, bd_eq, if_pos (by omega)]
    dsimp only
    rw [e0, e_isOrder h2 h4 (InR_iff.mpr ⟨by omega, by omega⟩), bd_eq, wr_of (x := (j : Int) + 1) (by omega) (by omega)]
    simp only [jn_eq]
    by_cases ho : j ∈ P10 v
    · rw [if_pos (hio.mpr ho), if_neg (by omega)]
      have hf := p10_fact h2 h4 ho
      obtain ⟨s2, x1, x2⟩ := e_orderFaults m1 hw h2 h4 (by omega) hf.2.1
      have rk : ∀ k, rd s2 (23, 0, 0) k = rd s1 (23, 0, 0) k := fun k => x2.rd (by simp [mst, mso]) k
      have hv := val_b hw h2 h4 ho
      rw [x1, bd_eq, rk 10]
      have o2 : Only bso s s2 := e2.trans (x2.mono (fun o h => Or.inl h))
      have upd : ∀ (hmin : ∀ y, y ∈ P10 v → y < j → valO A v j ≤ valO A v y), ∃ b' : Int × Int × u_S, f_X11_bestOf_L9 m (fun v2_1 s_1 => some (v2_1, s_1)) oM (v : Int) (j : Int) ((j : Int) + 1) (wt s2 oM 10 (orF A (vo 10 v j) v)) = f_X11_bestOf_L9 m (fun v2_1 s_1 => some (v2_1, s_1)) oM (v : Int) b'.1 b'.2.1 b'.2.2 ∧ BOI A s v (j + 1) b' := by
        intro hmin
        refine ⟨((j : Int), (j : Int) + 1, wt s2 oM 10 (orF A (vo 10 v j) v)), rfl, by dsimp only; omega, o2.wt (Or.inr rfl) _ _, fun k hk => ?_, Or.inr ⟨j, rfl, ho, by omega, ?_, fun y hy hlt => ?_⟩⟩
        · dsimp only
          rw [rd_wt_k hk, rk k]
          exact e3 k hk
        · dsimp only
          rw [rd_wt_same, wr_of (by omega) (by omega)]
        · by_cases ey : y = j
          · subst ey; exact Int.le_refl _
          · exact hmin y hy (by omega)
      rcases e4 with ⟨g1, g2⟩ | ⟨x, g1, g2, g3, g4, g5⟩
      · rw [if_pos g1]
        exact upd (fun y hy hlt => absurd hlt (g2 y hy))
      · rw [if_neg (by omega), g4]
        have hvx := val_b hw h2 h4 g2
        by_cases hlt : orF A (vo 10 v j) v < orF A (vo 10 v x) v
        · rw [if_pos hlt]
          refine upd (fun y hy hl => ?_)
          have := g5 y hy hl
          have e1 : valO A v j = orF A (vo 10 v j) v * 10000 + j := rfl
          have e2 : valO A v x = orF A (vo 10 v x) v * 10000 + x := rfl
          omega
        · rw [if_neg hlt]
          refine ⟨(b1, (j : Int) + 1, s2), rfl, by dsimp only; omega, o2, fun k hk => by dsimp only; rw [rk k]; exact e3 k hk, Or.inr ⟨x, g1, g2, by omega, by dsimp only; rw [rk 10]; exact g4, fun y hy hl => ?_⟩⟩
          by_cases ey : y = j
          · subst ey
            have e1 : valO A v y = orF A (vo 10 v y) v * 10000 + y := rfl
            have e2 : valO A v x = orF A (vo 10 v x) v * 10000 + x := rfl
            omega
          · exact g5 y hy (by omega)
    · rw [if_neg (fun z => ho (hio.mp z)), if_pos rfl]
      refine ⟨(b1, (j : Int) + 1, s1), rfl, by dsimp only; omega, e2, e3, ?_⟩
      have hne : ∀ y, y ∈ P10 v → y < j + 1 → y < j := fun y hy hl => by
        by_cases ey : y = j
        · subst ey; exact absurd hy ho
        · omega
      rcases e4 with ⟨g1, g2⟩ | ⟨x, g1, g2, g3, g4, g5⟩
      · exact Or.inl ⟨g1, fun y hy hl => g2 y hy (hne y hy hl)⟩
      · exact Or.inr ⟨x, g1, g2, by omega, g4, fun y hy hl => g5 y hy (hne y hy hl)⟩) (by
    intro b m ⟨e1, e2, e3, e4⟩
    rw [f_X11_bestOf_L9, e_power h4, bd_eq, if_neg (by omega)]) (-1, 0, wt s oM 10 0) ⟨rfl, (Only.refl bso s).wt (Or.inr rfl) _ _, fun k hk => by dsimp only; rw [rd_wt_k hk], Or.inl ⟨rfl, fun x _ => by omega⟩⟩
  have hp := get_mem (P := P10 v) (i := 0) (by have := p10_len h2 h4; omega)
  rcases i4 with ⟨g1, g2⟩ | ⟨x, g1, g2, g3, g4, g5⟩
  · exact absurd (p10_fact h2 h4 hp).1 (g2 _ hp)
  · refine ⟨x, b.2.2, ?_, ⟨g2, fun y hy => g5 y hy (p10_fact h2 h4 hy).1⟩, g4, i2, i3⟩
    rw [← g1]
    exact q
theorem call_order (v p : Int) (hp : InR p) : Call (f_X10_order oF v p) (f_X11_order oM v p) := by
  intro A H n T tl c hw
  by_cases h1 : 2 ≤ v ∧ v ≤ 4
  · obtain ⟨k, rfl⟩ : ∃ k : Nat, v = k := ⟨v.toNat, by omega⟩
    have h2 : 2 ≤ k := by omega
    have h4 : k ≤ 4 := by omega
    have hdec : Decidable (isOr k p) := Classical.propDecidable _
    by_cases ho : isOr k p
    · have hc : p.toNat < 10 ^ k := by have := ho.1; have := ho.2.1; omega
      have hmem := (ok_mem h2 h4 hc).mp ho.2.2
      have hf := p10_fact h2 h4 hmem
      have hb : 10 ^ k ≤ 10 ^ 4 := Nat.pow_le_pow_right (by omega) h4
      by_cases h0 : cntA A 0 ≤ 0
      · refine at_no2 (r := -3) (by omega) hw (fun s hs => ?_) (fun s hs => ?_)
        · obtain ⟨s1, x1, x2, x3⟩ := e_takesRow h2 h4 hp s
          have ee : f_X5_isEmpty (3, 0, 0) s1 = some ((if cntA A 0 ≤ 0 then 1 else 0), s1) := e_isEmpty ((hs.keep (x2.mono (fun o h => bro_csc o (Or.inr h)))).1.1 0 (by omega) (by omega))
          refine ⟨s1, x2.mono (fun o h => bro_csc o (Or.inr h)), ?_⟩
          unfold f_X10_order
          rw [x1, bd_eq, if_pos ho, if10, gd_of (by omega) (by omega), show e_Line (a_Plan_lines (a_FP_plan oF)) 0 = (3, 0, 0) from rfl, ee, bd_eq, if_pos h0, if10]
        · unfold f_X11_order
          rw [e_isOrder h2 h4 hp, bd_eq, if_pos ho, if10, e_notes hs.1 oM (by omega) (by omega), bd_eq, if_pos (by have := (hw.1.1 0 (by omega) (by omega)).1; omega)]
      · refine at_ask (orF A (vo 10 k p.toNat) k) hw (fun s hs => ?_) (fun s hs => ?_)
        · obtain ⟨s1, x1, x2, x3⟩ := e_takesRow h2 h4 hp s
          have k1 := hs.keep (x2.mono (fun o h => bro_csc o (Or.inr h)))
          have ee : f_X5_isEmpty (3, 0, 0) s1 = some ((if cntA A 0 ≤ 0 then 1 else 0), s1) := e_isEmpty (k1.1.1 0 (by omega) (by omega))
          obtain ⟨s2, y1, y2⟩ := e_rowFaults (V := vo 10 k p.toNat) k1.1 hw.1 (show (2 : Int) ≤ k by omega) (by omega) hf.2.1 (x3 ho)
          unfold f_X10_order
          rw [x1, bd_eq, if_pos ho, if10, gd_of (by omega) (by omega), show e_Line (a_Plan_lines (a_FP_plan oF)) 0 = (3, 0, 0) from rfl, ee, bd_eq, if_neg h0, if00, y1, bd_eq]
          exact ⟨s2, rfl, (x2.mono (fun o h => bro_csc o (Or.inr h))).trans (y2.mono rfo_csc)⟩
        · obtain ⟨s1, x1, x2⟩ := e_orderFaults hs.1 hw.1 h2 h4 (show p.toNat < 10 ^ 4 by omega) hf.2.1
          rw [show ((p.toNat : Nat) : Int) = p by have := ho.1; omega] at x1
          unfold f_X11_order
          rw [e_isOrder h2 h4 hp, bd_eq, if_pos ho, if10, e_notes hs.1 oM (by omega) (by omega), bd_eq, if_neg (by omega), x1, bd_eq]
          exact ⟨s1, rfl, x2.mono mst_msc⟩
    · refine at_no2 (r := -2) (by omega) hw (fun s hs => ?_) (fun s hs => ?_)
      · obtain ⟨s1, x1, x2, x3⟩ := e_takesRow h2 h4 hp s
        refine ⟨s1, x2.mono (fun o h => bro_csc o (Or.inr h)), ?_⟩
        unfold f_X10_order
        rw [x1, bd_eq, if_neg ho, if00]
      · unfold f_X11_order
        rw [e_isOrder h2 h4 hp, bd_eq, if_neg ho, if00]
  · refine at_no (r := -2) (by omega) hw (fun s hs => ?_) (fun s hs => ?_)
    · unfold f_X10_order f_X10_takesRow
      rw [e_areRowVoices, bd_eq, if_neg h1, if00, bd_eq, if00]
    · unfold f_X11_order f_X11_isOrder
      rw [e_in, bd_eq, if_neg h1, if00, bd_eq, if00]
theorem call_best (v w : Int) : Call (f_X10_best oF v w) (f_X11_best oM v w) := by
  intro A H n T tl c hw
  by_cases h1 : 2 ≤ v ∧ v ≤ 4
  · obtain ⟨k, rfl⟩ : ∃ k : Nat, v = k := ⟨v.toNat, by omega⟩
    have h2 : 2 ≤ k := by omega
    have h4 : k ≤ 4 := by omega
    by_cases h3 : 0 ≤ w ∧ w ≤ 1
    · by_cases h0 : cntA A 0 ≤ 0
      · refine at_no (r := -3) (by omega) hw (fun s hs => ?_) (fun s hs => ?_)
        · have ee : f_X5_isEmpty (3, 0, 0) s = some ((if cntA A 0 ≤ 0 then 1 else 0), s) := e_isEmpty (hs.1.1 0 (by omega) (by omega))
          unfold f_X10_best
          rw [e_areRowVoices, bd_eq, if_pos h1, jn_eq, if10, e_within, bd_eq, if_pos h3, if10, gd_of (by omega) (by omega), show e_Line (a_Plan_lines (a_FP_plan oF)) 0 = (3, 0, 0) from rfl, ee, bd_eq, if_pos h0, if10]
        · unfold f_X11_best
          rw [e_in, bd_eq, if_pos h1, jn_eq, if10, e_in, bd_eq, if_pos h3, if10, e_notes hs.1 oM (by omega) (by omega), bd_eq, if_pos (by have := (hw.1.1 0 (by omega) (by omega)).1; omega)]
      · obtain ⟨x, g1, g2⟩ := lst_least hw.1 h2 h4
        have hv := val_b hw.1 h2 h4 g1.1
        refine at_ask2 (if w = 0 then (x : Int) else orF A (vo 10 k x) k) hw (fun s hs => ?_) (fun s hs => ?_)
        · have ee : f_X5_isEmpty (3, 0, 0) s = some ((if cntA A 0 ≤ 0 then 1 else 0), s) := e_isEmpty (hs.1.1 0 (by omega) (by omega))
          obtain ⟨s1, x1, x2⟩ := e_bestRow hs.1 hw.1 h2 h4
          rw [g2] at x1
          unfold valO at x1
          unfold f_X10_best
          rw [e_areRowVoices, bd_eq, if_pos h1, jn_eq, if10, e_within, bd_eq, if_pos h3, if10, gd_of (by omega) (by omega), show e_Line (a_Plan_lines (a_FP_plan oF)) 0 = (3, 0, 0) from rfl, ee, bd_eq, if_neg h0, if00, x1, bd_eq, Int.tmod_eq_emod_of_nonneg (by omega), Int.tdiv_eq_ediv_of_nonneg (by omega), wr_of (by omega) (by omega)]
          refine ⟨s1, ?_, x2.mono bro_csc⟩
          by_cases w0 : w = 0
          · rw [if_pos w0, if_pos w0]
            congr 2
            omega
          · rw [if_neg w0, if_neg w0]
            congr 2
            omega
        · obtain ⟨y, s1, x1, x2, x3, x4, x5⟩ := e_bestOf hs.1 hw.1 h2 h4
          have exy : x = y := least_eq hw.1 h2 h4 g1 x2
          subst exy
          unfold f_X11_best
          rw [e_in, bd_eq, if_pos h1, jn_eq, if10, e_in, bd_eq, if_pos h3, if10, e_notes hs.1 oM (by omega) (by omega), bd_eq, if_neg (by omega), x1, bd_eq, x3]
          refine ⟨s1, ?_, hs.bs x4 x5, x4.mono bso_mdo⟩
          split <;> rfl
    · refine at_no (r := -2) (by omega) hw (fun s hs => ?_) (fun s hs => ?_)
      · unfold f_X10_best
        rw [e_areRowVoices, bd_eq, if_pos h1, jn_eq, if10, e_within, bd_eq, if_neg h3, if00]
      · unfold f_X11_best
        rw [e_in, bd_eq, if_pos h1, jn_eq, if10, e_in, bd_eq, if_neg h3, if00]
  · refine at_no (r := -2) (by omega) hw (fun s hs => ?_) (fun s hs => ?_)
    · unfold f_X10_best
      rw [e_areRowVoices, bd_eq, if_neg h1, jn_eq, if00]
    · unfold f_X11_best
      rw [e_in, bd_eq, if_neg h1, jn_eq, if00]
end MBEST
