/-! enters and leaves -/
theorem WF.ent {A A' : Int → Int} (h : WF A) (hA : ∀ k, (k < 84 ∨ 134 < k) → A' k = A k) (he : WE A') (ho : WO A') : WF A' := by
  obtain ⟨w1, w2, w3, w4, w5, w6, w7, w8⟩ := h
  refine ⟨fun l a b => (w1 l a b).congr (fun k c d => hA k (by omega)), he, ho, by rw [hA 135 (by omega)]; exact w4, by rw [hA 136 (by omega)]; exact w5, by rw [hA 137 (by omega)]; exact w6, by rw [hA 138 (by omega)]; exact w7, ⟨by rw [hA 139 (by omega)]; exact w8.1, fun i a b => ?_, fun i j a b c => ?_⟩⟩
  · skip
    rw [hA (140 + i) (by omega)]
    exact w8.2.1 i a b
  · rw [hA 139 (by omega)] at c
    rw [hA (140 + i) (by omega), hA (140 + j) (by omega)]
    exact w8.2.2 i j a b c
theorem CP.ent {s s' : u_S} {p : Nat} {A A' : Int → Int} (hc : CP s p A) (hw : ∀ l, 0 ≤ l → l ≤ 3 → WL A l) (hA : ∀ k, (k < 84 ∨ 134 < k) → A' k = A k) (ho : Only (eob p) s s') (he : ER s' p A') : CP s' p A' := by
  obtain ⟨c1, c2, c3, c4, c5⟩ := hc
  refine ⟨fun l a b => ?_, he, ⟨by rw [ho.rd (by simp [eob]), hA 135 (by omega)]; exact c3.1, by rw [ho.rd (by simp [eob]), hA 136 (by omega)]; exact c3.2.1, by rw [ho.rd (by simp [eob]), hA 137 (by omega)]; exact c3.2.2.1, by rw [ho.rd (by simp [eob]), hA 138 (by omega)]; exact c3.2.2.2⟩, by rw [ho.rd (by simp [eob]), hA 139 (by omega)]; exact c4, fun i a b => ?_⟩
  · have r := LR.congr (fun k c d => hA k (by omega)) (hw l a b) (c1 l a b)
    refine ⟨by rw [ho.rd (by simp [eob])]; exact r.1, fun i c d => ?_⟩
    rw [o_steps, o_ticks, ho.rd (by simp [eob]), ho.rd (by simp [eob])]
    exact r.2 i c d
  · rw [hA 139 (by omega)] at b
    rw [ho.rd (by simp [eob]), hA (140 + i) (by omega)]
    exact c5 i a b
theorem eob_pob {p : Nat} (o : u_O) (h : eob p o) : pob p o := ⟨h.1, by rcases h.2 with h | h <;> simp [h]⟩
def canEnA (A : Int → Int) (l f m st v : Int) : Int := if ¬ ((0 ≤ l ∧ l ≤ 3) ∧ (0 ≤ f ∧ f ≤ 4) ∧ (-21 ≤ m ∧ m ≤ 21) ∧ (0 ≤ st ∧ st ≤ 199) ∧ (0 ≤ v ∧ v ≤ 3)) then -2 else if cntA A l = 0 ∨ (ff (bzA A v st (st + lastA A l f)) 0 (A 84).toNat).isSome then -3 else if A 84 = 10 then -4 else 0
def entsA (A : Int → Int) (l f m st v : Int) : Int → Int := upA (upA (upA (upA (upA (upA A (85 + 5 * A 84) l) (85 + 5 * A 84 + 1) f) (85 + 5 * A 84 + 2) m) (85 + 5 * A 84 + 3) st) (85 + 5 * A 84 + 4) v) 84 (A 84 + 1)
def pick5 (l f m st v k : Int) : Int := if k = 0 then l else if k = 1 then f else if k = 2 then m else if k = 3 then st else v
theorem ents_out {A : Int → Int} {l f m st v : Int} (hn : 0 ≤ A 84 ∧ A 84 < 10) (k : Int) (h : k < 84 ∨ 134 < k) : entsA A l f m st v k = A k := by
  unfold entsA
  rw [upA_ne (by omega), upA_ne (by omega), upA_ne (by omega), upA_ne (by omega), upA_ne (by omega), upA_ne (by omega)]
theorem ents_84 {A : Int → Int} {l f m st v : Int} : entsA A l f m st v 84 = A 84 + 1 := upA_same _ _ _
theorem ents_e {A : Int → Int} {l f m st v e k : Int} (hn : 0 ≤ A 84) (h0 : 0 ≤ e) (h1 : e ≤ A 84) (k0 : 0 ≤ k) (k1 : k < 5) : entA (entsA A l f m st v) e k = if e = A 84 then pick5 l f m st v k else entA A e k := by
  unfold entA entsA pick5
  rw [upA_ne (by omega)]
  by_cases h : e = A 84
  · subst h
    rw [if_pos rfl]
    rcases (show k = 0 ∨ k = 1 ∨ k = 2 ∨ k = 3 ∨ k = 4 by omega) with rfl | rfl | rfl | rfl | rfl
    · rw [upA_ne (by omega), upA_ne (by omega), upA_ne (by omega), upA_ne (by omega), Int.add_zero, upA_same]; rfl
    · rw [upA_ne (by omega), upA_ne (by omega), upA_ne (by omega), upA_same]; rfl
    · rw [upA_ne (by omega), upA_ne (by omega), upA_same]; rfl
    · rw [upA_ne (by omega), upA_same]; rfl
    · rw [upA_same]; rfl
  · rw [if_neg h, upA_ne (by omega), upA_ne (by omega), upA_ne (by omega), upA_ne (by omega), upA_ne (by omega)]
section ENTRY
variable {s : u_S} {A : Int → Int} {l f m st v : Int} {p : Nat}
theorem canEn_cases (A : Int → Int) (l f m st v : Int) : canEnA A l f m st v = -2 ∨ canEnA A l f m st v = -3 ∨ canEnA A l f m st v = -4 ∨ canEnA A l f m st v = 0 := by
  unfold canEnA
  repeat' split
  all_goals omega
theorem canEn_0 (hw : WF A) (h : canEnA A l f m st v = 0) : ((0 ≤ l ∧ l ≤ 3) ∧ (0 ≤ f ∧ f ≤ 4) ∧ (-21 ≤ m ∧ m ≤ 21) ∧ (0 ≤ st ∧ st ≤ 199) ∧ (0 ≤ v ∧ v ≤ 3)) ∧ ff (bzA A v st (st + lastA A l f)) 0 (A 84).toNat = none ∧ 0 ≤ A 84 ∧ A 84 < 10 := by
  unfold canEnA at h
  have hn := hw.2.1.1
  split at h
  · omega
  · rename_i g
    have g := Classical.byContradiction g
    split at h
    · omega
    · rename_i g2
      split at h
      · omega
      · refine ⟨g, ?_, hn.1, by omega⟩
        cases e : ff (bzA A v st (st + lastA A l f)) 0 (A 84).toNat with
        | none => rfl
        | some i => rw [e] at g2; exact absurd (Or.inr rfl) g2
theorem ents_end (hw : WF A) (hn : 0 ≤ A 84 ∧ A 84 < 10) (hl : 0 ≤ l ∧ l ≤ 3) {e : Int} (h0 : 0 ≤ e) (h1 : e ≤ A 84) : endA (entsA A l f m st v) e = if e = A 84 then st + lastA A l f else endA A e := by
  have len : ∀ x, 0 ≤ x → x ≤ 3 → lenA (entsA A l f m st v) x = lenA A x := fun x a b => len_congr (fun k c d => ents_out hn k (by omega)) (hw.1 x a b)
  unfold endA lastA
  rw [ents_e hn.1 h0 h1 (by omega) (by omega), ents_e hn.1 h0 h1 (by omega) (by omega), ents_e hn.1 h0 h1 (by omega) (by omega)]
  by_cases h : e = A 84
  · simp only [if_pos h]
    show st + (if f = 4 then 2 * lenA _ l else lenA _ l) = _
    rw [len l hl.1 hl.2]
  · simp only [if_neg h]
    have q := (hw.2.1.2 e h0 (by omega)).1
    rw [len _ q.1 q.2]
theorem ents_WF (hw : WF A) (h : canEnA A l f m st v = 0) : WF (entsA A l f m st v) := by
  obtain ⟨g, g2, g3⟩ := canEn_0 hw h
  have hb := hw.2.1
  refine hw.ent (fun k hk => ents_out g3 k hk) ⟨by rw [ents_84]; omega, fun e a b => ?_⟩ (fun e x a b c d => ?_)
  · rw [ents_84] at b
    rw [ents_e g3.1 a (by omega) (by omega) (by omega), ents_e g3.1 a (by omega) (by omega) (by omega), ents_e g3.1 a (by omega) (by omega) (by omega), ents_e g3.1 a (by omega) (by omega) (by omega), ents_e g3.1 a (by omega) (by omega) (by omega)]
    by_cases he : e = A 84
    · simp only [if_pos he]; exact g
    · simp only [if_neg he]; exact hb.2 e a (by omega)
  · rw [ents_84] at c
    rw [ents_e (e := e) (k := 4) g3.1 a (by omega) (by omega) (by omega), ents_e (e := x) (k := 4) g3.1 (by omega) (by omega) (by omega) (by omega), if_neg (show ¬ e = A 84 by omega)] at d
    rw [ents_end (e := e) hw g3 g.1 a (by omega), ents_end (e := x) hw g3 g.1 (by omega) (by omega), ents_e (e := e) (k := 3) g3.1 a (by omega) (by omega) (by omega), ents_e (e := x) (k := 3) g3.1 (by omega) (by omega) (by omega) (by omega), if_neg (show ¬ e = A 84 by omega), if_neg (show ¬ e = A 84 by omega)]
    by_cases hx : x = A 84
    · rw [if_pos hx] at d
      rw [if_pos hx, if_pos hx]
      have z := ff_none g2 e.toNat (by omega) (by omega)
      unfold bzA at z
      rw [Int.toNat_of_nonneg a] at z
      have z := of_decide_eq_false z
      have d' : entA A e 4 = v := d
      show endA A e ≤ st ∨ st + lastA A l f ≤ entA A e 3
      omega
    · rw [if_neg hx] at d
      rw [if_neg hx, if_neg hx]
      exact hw.2.2.1 e x a b (by omega) d
theorem e_entAppend (he : ER s p A) (hn : 0 ≤ A 84 ∧ A 84 < 10) (hl : -21 ≤ l ∧ l ≤ 199) (hf : -21 ≤ f ∧ f ≤ 199) (hm : -40 ≤ m ∧ m ≤ 199) (hs : -21 ≤ st ∧ st ≤ 1000) (hv : -21 ≤ v ∧ v ≤ 199) : ∃ s', f_X1_append (6, p, 0) l f m st v s = some (0, s') ∧ Only (eob p) s s' ∧ ER s' p (entsA A l f m st v) := by
  refine ⟨wt (wt (wt (wt (wt (wt s (8, p, (A 84).toNat) 0 l) (8, p, (A 84).toNat) 1 f) (8, p, (A 84).toNat) 2 m) (8, p, (A 84).toNat) 3 st) (8, p, (A 84).toNat) 4 v) (6, p, 0) 1 (A 84 + 1), ?_, ?_, ?_⟩
  · have r1 : f_X1_isFull (6, p, 0) s = some (0, s) := by unfold f_X1_isFull; rw [he.1, if_pos hn.2]
    unfold f_X1_append
    rw [r1, bd_eq, if00, he.1, gd_of (by omega) (by omega), o_entry, f_X2_be, bd_eq]
    simp only [rd_wt_o (show ((6, p, 0) : u_O) ≠ (8, p, (A 84).toNat) by simp), he.1]
    rw [wr_of (by omega) (by omega)]
  · exact ((((((Only.refl (eob p) s).wt (by simp [eob]) _ _).wt (by simp [eob]) _ _).wt (by simp [eob]) _ _).wt (by simp [eob]) _ _).wt (by simp [eob]) _ _).wt (by simp [eob]) _ _
  · refine ⟨by rw [rd_wt_same, ents_84, wr_of (by omega) (by omega)], fun i k a b c d => ?_⟩
    rw [ents_84] at b
    rw [ents_e hn.1 a (by omega) c d, rd_wt_o (by simp)]
    by_cases h : i = A 84
    · rw [if_pos h, h]
      unfold pick5
      rcases (show k = 0 ∨ k = 1 ∨ k = 2 ∨ k = 3 ∨ k = 4 by omega) with rfl | rfl | rfl | rfl | rfl
      · rw [rd_wt_k (by omega), rd_wt_k (by omega), rd_wt_k (by omega), rd_wt_k (by omega), rd_wt_same, wr_of (by omega) (by omega)]; rfl
      · rw [rd_wt_k (by omega), rd_wt_k (by omega), rd_wt_k (by omega), rd_wt_same, wr_of (by omega) (by omega)]; rfl
      · rw [rd_wt_k (by omega), rd_wt_k (by omega), rd_wt_same, wr_of (by omega) (by omega)]; rfl
      · rw [rd_wt_k (by omega), rd_wt_same, wr_of (by omega) (by omega)]; rfl
      · rw [rd_wt_same, wr_of (by omega) (by omega)]; rfl
    · rw [if_neg h]
      have ne : ((8, p, i.toNat) : u_O) ≠ (8, p, (A 84).toNat) := by simp; omega
      rw [rd_wt_o ne, rd_wt_o ne, rd_wt_o ne, rd_wt_o ne, rd_wt_o ne]
      exact he.2 i k a (by omega) c d
theorem e_addEntry (hc : CP s p A) (hw : WF A) : ∃ s', f_X6_addEntry (1, p, 0) l f m st v s = some ((if canEnA A l f m st v < 0 then canEnA A l f m st v else A 84), s') ∧ CP s' p (if canEnA A l f m st v < 0 then A else entsA A l f m st v) ∧ Only (pob p) s s' := by
  unfold f_X6_addEntry
  have hn := hw.2.1.1
  rw [e_isFormed, bd_eq]
  by_cases g1 : ¬ ((0 ≤ l ∧ l ≤ 3) ∧ (0 ≤ f ∧ f ≤ 4) ∧ (-21 ≤ m ∧ m ≤ 21))
  · have e : canEnA A l f m st v = -2 := by unfold canEnA; rw [if_pos (fun z => g1 ⟨z.1, z.2.1, z.2.2.1⟩)]
    rw [e, if_neg g1, if00]
    exact ⟨s, rfl, hc, Only.refl _ _⟩
  have g1 := Classical.byContradiction g1
  rw [if_pos g1, if10, e_within, bd_eq]
  by_cases g2 : ¬ (0 ≤ st ∧ st ≤ 199)
  · have e : canEnA A l f m st v = -2 := by unfold canEnA; rw [if_pos (fun z => g2 z.2.2.2.1)]
    rw [e, if_neg g2, if00]
    exact ⟨s, rfl, hc, Only.refl _ _⟩
  have g2 := Classical.byContradiction g2
  rw [if_pos g2, if10, e_within, bd_eq]
  by_cases g3 : ¬ (0 ≤ v ∧ v ≤ 3)
  · have e : canEnA A l f m st v = -2 := by unfold canEnA; rw [if_pos (fun z => g3 z.2.2.2.2)]
    rw [e, if_neg g3, if00]
    exact ⟨s, rfl, hc, Only.refl _ _⟩
  have g3 := Classical.byContradiction g3
  have gg : (0 ≤ l ∧ l ≤ 3) ∧ (0 ≤ f ∧ f ≤ 4) ∧ (-21 ≤ m ∧ m ≤ 21) ∧ (0 ≤ st ∧ st ≤ 199) ∧ (0 ≤ v ∧ v ≤ 3) := ⟨g1.1, g1.2.1, g1.2.2, g2, g3⟩
  have hl := hw.1 l g1.1.1 g1.1.2
  have hlr := hc.1 l g1.1.1 g1.1.2
  have hb := hl.1
  have hlen := hl.lenb
  rw [if_pos g3, if10, gd_of (by omega) (by omega), o_line, e_isEmpty hlr, bd_eq]
  by_cases g4 : cntA A l = 0
  · have e : canEnA A l f m st v = -3 := by unfold canEnA; rw [if_neg (fun z => z gg), if_pos (Or.inl g4)]
    rw [e, if_pos (show cntA A l ≤ 0 by omega), if10]
    exact ⟨s, rfl, hc, Only.refl _ _⟩
  have hlast : 0 ≤ lastA A l f ∧ lastA A l f ≤ 80 := by unfold lastA; split <;> omega
  rw [if_neg (show ¬ cntA A l ≤ 0 by omega), if00, e_lengthOf hc.1 hw.1 g1.1.1 g1.1.2, bd_eq, wr_of (by omega) (by omega), e_isFree hc hw.1 hw.2.1, bd_eq]
  by_cases g5 : (ff (bzA A v st (st + lastA A l f)) 0 (A 84).toNat).isSome
  · have e : canEnA A l f m st v = -3 := by unfold canEnA; rw [if_neg (fun z => z gg), if_pos (Or.inr g5)]
    rw [e, if_pos g5, if00]
    exact ⟨s, rfl, hc, Only.refl _ _⟩
  rw [if_neg g5, if10, o_entries]
  have r1 : f_X1_isFull (6, p, 0) s = some ((if A 84 < 10 then 0 else 1), s) := by unfold f_X1_isFull; rw [hc.2.1.1, if_some]
  rw [r1, bd_eq]
  by_cases g6 : A 84 = 10
  · have e : canEnA A l f m st v = -4 := by unfold canEnA; rw [if_neg (fun z => z gg), if_neg (fun z => z.elim g4 g5), if_pos g6]
    rw [e, if_neg (by omega)]
    exact ⟨s, rfl, hc, Only.refl _ _⟩
  have e : canEnA A l f m st v = 0 := by unfold canEnA; rw [if_neg (fun z => z gg), if_neg (fun z => z.elim g4 g5), if_neg g6]
  have k0 : ¬ (0 : Int) < 0 := by omega
  obtain ⟨s', a1, a2, a3⟩ := e_entAppend (l := l) (f := f) (m := m) (st := st) (v := v) hc.2.1 ⟨hn.1, by omega⟩ (by omega) (by omega) (by omega) (by omega) (by omega)
  rw [e, if_neg k0, if_neg k0, if_pos (by omega), a1, bd_eq, a3.1, ents_84, wr_of (by omega) (by omega), show A 84 + 1 - 1 = A 84 by omega]
  exact ⟨s', rfl, hc.ent hw.1 (fun k hk => ents_out ⟨hn.1, by omega⟩ k hk) a2 a3, a2.mono (fun o h => eob_pob o h)⟩
theorem e_canEnter (hm : MR s A) (hw : WF A) (o : u_O) : f_X11_canEnter o l f m st v s = some (canEnA A l f m st v, s) := by
  unfold f_X11_canEnter
  have hn := hw.2.1.1
  by_cases gg : (0 ≤ l ∧ l ≤ 3) ∧ (0 ≤ f ∧ f ≤ 4) ∧ (-21 ≤ m ∧ m ≤ 21) ∧ (0 ≤ st ∧ st ≤ 199) ∧ (0 ≤ v ∧ v ≤ 3)
  · obtain ⟨g1, g2, g3, g4, g5⟩ := gg
    have hl := hw.1 l g1.1 g1.2
    have hb := hl.1
    have hlen := hl.lenb
    have hlast : 0 ≤ lastA A l f ∧ lastA A l f ≤ 80 := by unfold lastA; split <;> omega
    rw [e_misLine, bd_eq, if_pos g1, if10, e_in, bd_eq, if_pos g2, if10, e_in, bd_eq, if_pos g3, if10, e_in, bd_eq, if_pos g4, if10, e_in, bd_eq, if_pos g5, if10, e_notes hm o g1.1 g1.2, bd_eq]
    unfold canEnA
    rw [if_neg (show ¬ ¬ _ from fun z => z ⟨g1, g2, g3, g4, g5⟩)]
    by_cases c0 : cntA A l = 0
    · rw [if_pos c0, if_pos (Or.inl c0)]
    rw [if_neg c0, e_lasts hm hl o g1.1 g1.2, bd_eq, wr_of (by omega) (by omega)]
    have key := loop_fffu (fun n j => f_X11_canEnter_L87 n (fun s_8 => gd 84 145 (if (rd s_8 (a_Mo_all o) 84) = 10 then (some ((-4), s_8)) else (some (0, s_8)))) o st v (st + lastA A l f) (j : Int) s) (bzA A v st (st + lastA A l f)) (fun _ => some (-3, s)) (some ((if A 84 = 10 then -4 else 0), s)) (A 84).toNat (by omega) (by
        intro j n hj
        have q := hw.2.1.2 j (by omega) (by omega)
        have q2 := end_b hw.1 hw.2.1 (e := (j : Int)) (by omega) (by omega)
        have q3 : endA A j = entA A j 3 + lastA A (entA A j 0) (entA A j 1) := rfl
        rw [f_X11_canEnter_L87, gd_of (by omega) (by omega), m_rd hm _ (by omega) (by omega), if_pos (by omega)]
        simp only [e_of hm o (e := (j : Int)) (show _ by omega) (show _ by omega) (show (0 : Int) ≤ 4 by omega) (show (4 : Int) < 5 by omega), e_of hm o (e := (j : Int)) (show _ by omega) (show _ by omega) (show (0 : Int) ≤ 3 by omega) (show (3 : Int) < 5 by omega), e_of hm o (e := (j : Int)) (show _ by omega) (show _ by omega) (show (0 : Int) ≤ 0 by omega) (show (0 : Int) < 5 by omega), e_of hm o (e := (j : Int)) (show _ by omega) (show _ by omega) (show (0 : Int) ≤ 1 by omega) (show (1 : Int) < 5 by omega), bd_eq, jn_eq, e_lasts hm (hw.1 _ q.1.1 q.1.2) o q.1.1 q.1.2, ← q3, wr_of (x := endA A j) (show _ by omega) (show _ by omega), wr_of (x := (j : Int) + 1) (show _ by omega) (show _ by omega)]
        unfold bzA
        simp only [decide_eq_true_eq]
        repeat' split
        all_goals first | rfl | omega) (by
        intro n
        rw [f_X11_canEnter_L87, gd_of (by omega) (by omega), m_rd hm _ (by omega) (by omega), if_neg (by omega), gd_of (by omega) (by omega), if_some])
    refine Eq.trans key ?_
    cases h : ff (bzA A v st (st + lastA A l f)) 0 (A 84).toNat with
    | none => simp [c0]
    | some i => simp
  · have e : canEnA A l f m st v = -2 := by unfold canEnA; rw [if_pos gg]
    rw [e]
    simp only [e_misLine, e_in, bd_eq, b10_0, if_not']
    repeat' split
    all_goals first | rfl | (exfalso; omega)
theorem e_enterNow (hm : MR s A) (hn : 0 ≤ A 84 ∧ A 84 < 10) (hl : -21 ≤ l ∧ l ≤ 199) (hf : -21 ≤ f ∧ f ≤ 199) (hmm : -40 ≤ m ∧ m ≤ 199) (hs : -21 ≤ st ∧ st ≤ 1000) (hv : -21 ≤ v ∧ v ≤ 199) (o : u_O) : ∃ s', f_X11_enterNow o l f m st v s = some (A 84, s') ∧ MR s' (entsA A l f m st v) ∧ Only mal s s' := by
  unfold f_X11_enterNow
  rw [m_rd hm _ (by omega) (by omega), wr_of (x := 5 * A 84) (by omega) (by omega), wr_of (x := 85 + 5 * A 84) (by omega) (by omega), wr_of (x := 85 + 5 * A 84 + 1) (by omega) (by omega), wr_of (x := 85 + 5 * A 84 + 2) (by omega) (by omega), wr_of (x := 85 + 5 * A 84 + 3) (by omega) (by omega), wr_of (x := 85 + 5 * A 84 + 4) (by omega) (by omega)]
  have ir : ∀ x : Int, -40 ≤ x → x ≤ 1000 → InR x := fun x a b => InR_iff.mpr ⟨by omega, by omega⟩
  have m5 : MR (wt (wt (wt (wt (wt s (a_Mo_all o) (85 + 5 * A 84) l) (a_Mo_all o) (85 + 5 * A 84 + 1) f) (a_Mo_all o) (85 + 5 * A 84 + 2) m) (a_Mo_all o) (85 + 5 * A 84 + 3) st) (a_Mo_all o) (85 + 5 * A 84 + 4) v) _ := MR.wt (MR.wt (MR.wt (MR.wt (MR.wt hm (ir l (by omega) (by omega))) (ir f (by omega) (by omega))) (ir m (by omega) (by omega))) (ir st (by omega) (by omega))) (ir v (by omega) (by omega))
  have r84 := m_rd m5 o (i := 84) (by omega) (by omega)
  rw [upA_ne (by omega), upA_ne (by omega), upA_ne (by omega), upA_ne (by omega), upA_ne (by omega)] at r84
  rw [r84, wr_of (x := A 84 + 1) (by omega) (by omega), gd_of (by omega) (by omega), gd_of (by omega) (by omega), gd_of (by omega) (by omega), gd_of (by omega) (by omega), gd_of (by omega) (by omega), gd_of (by omega) (by omega), gd_of (by omega) (by omega), gd_of (by omega) (by omega)]
  have oo : ∀ {s1 : u_S} (k x : Int), Only mal s s1 → Only mal s (wt s1 (a_Mo_all o) k x) := fun k x h => h.wt (o := a_Mo_all o) rfl k x
  exact ⟨_, rfl, MR.wt m5 (ir _ (by omega) (by omega)), oo _ _ (oo _ _ (oo _ _ (oo _ _ (oo _ _ (oo _ _ (Only.refl _ _))))))⟩
theorem call_enters (l f m st v : Int) : Call (f_X10_enters oF l f m st v) (f_X11_enters oM l f m st v) := by
  refine call_op (op := f_X6_addEntry (1, 0, 0) l f m st v) (now := f_X11_enterNow oM l f m st v) (fun s => rfl) (fun A hw => ⟨canEnA A l f m st v, A 84, entsA A l f m st v, canEn_cases A l f m st v, fun h => ⟨hw.2.1.1.1, ents_WF hw h⟩, fun s1 h1 => e_addEntry h1 hw, fun s hs => by unfold f_X11_enters; rw [e_canEnter hs hw oM, bd_eq], fun h s1 h1 => ?_⟩)
  obtain ⟨g, g2, g3⟩ := canEn_0 hw h
  exact e_enterNow h1 g3 (by omega) (by omega) (by omega) (by omega) (by omega) oM
end ENTRY
