/-! leaves, back, type, clear, told -/
def leaI (A : Int → Int) (e j : Int) : Int → Int := fun k => if 85 + 5 * e ≤ k ∧ k < 85 + j then A (k + 5) else A k
def leaA (A : Int → Int) (e : Int) : Int → Int := upA (leaI A e (5 * (A 84 - 1))) 84 (A 84 - 1)
theorem lea_out {A : Int → Int} {e : Int} (h0 : 0 ≤ e) (hn : A 84 ≤ 10) (k : Int) (h : k < 84 ∨ 134 < k) : leaA A e k = A k := by
  unfold leaA leaI
  rw [upA_ne (by omega), if_neg (by omega)]
theorem lea_84 {A : Int → Int} {e : Int} : leaA A e 84 = A 84 - 1 := upA_same _ _ _
theorem lea_e {A : Int → Int} {e i k : Int} (h0 : 0 ≤ e) (i0 : 0 ≤ i) (k0 : 0 ≤ k) (k1 : k < 5) : entA (leaA A e) i k = if e ≤ i ∧ i < A 84 - 1 then entA A (i + 1) k else entA A i k := by
  unfold entA leaA leaI
  rw [upA_ne (by omega)]
  by_cases h : e ≤ i ∧ i < A 84 - 1
  · rw [if_pos h, if_pos (by omega)]
    exact congrArg A (by omega)
  · rw [if_neg h, if_neg (by omega)]
section LEAVE
variable {s : u_S} {A : Int → Int} {e : Int} {p : Nat}
theorem lea_end (hw : WF A) (h0 : 0 ≤ e) {i : Int} (i0 : 0 ≤ i) (i1 : i < A 84 - 1) : endA (leaA A e) i = if e ≤ i ∧ i < A 84 - 1 then endA A (i + 1) else endA A i := by
  have hn := hw.2.1.1
  have len : ∀ x, 0 ≤ x → x ≤ 3 → lenA (leaA A e) x = lenA A x := fun x a b => len_congr (fun k c d => lea_out h0 hn.2 k (by omega)) (hw.1 x a b)
  unfold endA lastA
  rw [lea_e h0 i0 (by omega) (by omega), lea_e h0 i0 (by omega) (by omega), lea_e h0 i0 (by omega) (by omega)]
  by_cases h : e ≤ i ∧ i < A 84 - 1
  · simp only [if_pos h]
    have q := (hw.2.1.2 (i + 1) (by omega) (by omega)).1
    rw [len _ q.1 q.2]
  · simp only [if_neg h]
    have q := (hw.2.1.2 i i0 (by omega)).1
    rw [len _ q.1 q.2]
theorem lea_WF (hw : WF A) (h0 : 0 ≤ e) (h1 : e < A 84) : WF (leaA A e) := by
  have hb := hw.2.1
  have hb1 := hb.1
  refine hw.ent (fun k hk => lea_out h0 hb1.2 k hk) ⟨by rw [lea_84]; omega, fun i a b => ?_⟩ (fun i x a b c d => ?_)
  · rw [lea_84] at b
    rw [lea_e h0 a (by omega) (by omega), lea_e h0 a (by omega) (by omega), lea_e h0 a (by omega) (by omega), lea_e h0 a (by omega) (by omega), lea_e h0 a (by omega) (by omega)]
    by_cases h : e ≤ i ∧ i < A 84 - 1
    · simp only [if_pos h]; exact hb.2 (i + 1) (by omega) (by omega)
    · simp only [if_neg h]; exact hb.2 i a (by omega)
  · rw [lea_84] at c
    rw [lea_e (i := i) (k := 4) h0 a (by omega) (by omega), lea_e (i := x) (k := 4) h0 (by omega) (by omega) (by omega)] at d
    rw [lea_end (i := i) hw h0 a (by omega), lea_end (i := x) hw h0 (by omega) (by omega), lea_e (i := i) (k := 3) h0 a (by omega) (by omega), lea_e (i := x) (k := 3) h0 (by omega) (by omega) (by omega)]
    by_cases h : e ≤ i ∧ i < A 84 - 1
    · have h2 : e ≤ x ∧ x < A 84 - 1 := ⟨by omega, c⟩
      simp only [if_pos h, if_pos h2] at d ⊢
      exact hw.2.2.1 (i + 1) (x + 1) (by omega) (by omega) (by omega) d
    · by_cases h2 : e ≤ x ∧ x < A 84 - 1
      · simp only [if_neg h, if_pos h2] at d ⊢
        exact hw.2.2.1 i (x + 1) a (by omega) (by omega) d
      · simp only [if_neg h, if_neg h2] at d ⊢
        exact hw.2.2.1 i x a b (by omega) d
theorem e_entRemove (he : ER s p A) (hn : 0 ≤ A 84 ∧ A 84 ≤ 10) (h0 : 0 ≤ e) (h1 : e < A 84) : ∃ s', f_X1_remove (6, p, 0) e s = some (0, s') ∧ Only (eob p) s s' ∧ ER s' p (leaA A e) := by
  have r1 : f_X1_has (6, p, 0) e s = some (1, s) := by
    unfold f_X1_has
    rw [he.1, if_neg (by omega), if_pos h1, if_pos hn.2]
  unfold f_X1_remove
  rw [r1, bd_eq, if10, wr_of (by omega) (by omega)]
  obtain ⟨b, q, i1, i2, i3, i4⟩ := loop_relfu (fun m (b : Int × u_S) => f_X1_remove_L13 m (fun s_2 => some (0, (wt s_2 (6, p, 0) 1 (wr ((rd s_2 (6, p, 0) 1) - 1))))) (6, p, 0) b.1 b.2) (fun j b => b.1 = e + 1 + j ∧ Only (eob p) s b.2 ∧ rd b.2 (6, p, 0) 1 = A 84 ∧ ∀ (i : Nat) (k : Int), 0 ≤ k → k < 5 → rd b.2 (8, p, i) k = if e ≤ (i : Int) ∧ (i : Int) < e + j then rd s (8, p, i + 1) k else rd s (8, p, i) k) (fun b => some (0, (wt b.2 (6, p, 0) 1 (wr ((rd b.2 (6, p, 0) 1) - 1))))) (A 84 - 1 - e).toNat (by omega) (by
      intro j b m hj ⟨e1, e2, e3, e4⟩
      obtain ⟨b1, s1⟩ := b
      dsimp only at e1 e2 e3 e4
      subst e1
      have tn : (e + 1 + (j : Int)).toNat = (e + j).toNat + 1 := by omega
      have rv : ∀ k, 0 ≤ k → k < 5 → rd s1 (8, p, (e + j).toNat + 1) k = rd s (8, p, (e + j).toNat + 1) k := fun k a b => by rw [e4 _ k a b, if_neg (by omega)]
      refine ⟨(wr (e + 1 + j + 1), wt (wt (wt (wt (wt s1 (8, p, (e + j).toNat) 0 (rd s (8, p, (e + j).toNat + 1) 0)) (8, p, (e + j).toNat) 1 (rd s (8, p, (e + j).toNat + 1) 1)) (8, p, (e + j).toNat) 2 (rd s (8, p, (e + j).toNat + 1) 2)) (8, p, (e + j).toNat) 3 (rd s (8, p, (e + j).toNat + 1) 3)) (8, p, (e + j).toNat) 4 (rd s (8, p, (e + j).toNat + 1) 4)), ?_, by dsimp only; rw [wr_of (by omega) (by omega)]; omega, ((((e2.wt (by simp [eob]) _ _).wt (by simp [eob]) _ _).wt (by simp [eob]) _ _).wt (by simp [eob]) _ _).wt (by simp [eob]) _ _, ?_, ?_⟩
      · dsimp only
        rw [f_X1_remove_L13, e3, if_pos (by omega), wr_of (x := e + 1 + j - 1) (by omega) (by omega), gd_of (by omega) (by omega), gd_of (by omega) (by omega), o_entry, o_entry, show e + 1 + (j : Int) - 1 = e + j by omega, tn, f_X2_copyFrom, f_X2_be, bd_eq, bd_eq, rv 0 (by omega) (by omega), rv 1 (by omega) (by omega), rv 2 (by omega) (by omega), rv 3 (by omega) (by omega), rv 4 (by omega) (by omega)]
      · dsimp only
        have ne : ((6, p, 0) : u_O) ≠ (8, p, (e + j).toNat) := by simp
        rw [rd_wt_o ne, rd_wt_o ne, rd_wt_o ne, rd_wt_o ne, rd_wt_o ne]
        exact e3
      · intro i k k0 k1
        dsimp only
        by_cases hi : i = (e + j).toNat
        · subst hi
          rw [if_pos (by omega)]
          rcases (show k = 0 ∨ k = 1 ∨ k = 2 ∨ k = 3 ∨ k = 4 by omega) with rfl | rfl | rfl | rfl | rfl <;> simp [rd_wt, wr_in (InR_rd _ _ _)]
        · have ne : ((8, p, i) : u_O) ≠ (8, p, (e + j).toNat) := by simp; exact hi
          rw [rd_wt_o ne, rd_wt_o ne, rd_wt_o ne, rd_wt_o ne, rd_wt_o ne, e4 i k k0 k1]
          by_cases h9 : e ≤ (i : Int) ∧ (i : Int) < e + j
          · rw [if_pos h9, if_pos (by omega)]
          · rw [if_neg h9, if_neg (by omega)]) (by
      intro b m ⟨e1, e2, e3, e4⟩
      rw [f_X1_remove_L13, e3, if_neg (by omega)]) (e + 1, s) ⟨by simp, Only.refl _ _, he.1, fun i k a b => by rw [if_neg (by omega)]⟩
  obtain ⟨b1, s1⟩ := b
  dsimp only at i1 i2 i3 i4 q
  rw [i3, wr_of (by omega) (by omega)] at q
  refine ⟨_, q, i2.wt (by simp [eob]) _ _, by rw [rd_wt_same, lea_84, wr_of (by omega) (by omega)], fun i k a b c d => ?_⟩
  rw [lea_84] at b
  rw [rd_wt_o (by simp), i4 _ k c d, lea_e h0 a c d, Int.toNat_of_nonneg a, show e + (((A 84 - 1 - e).toNat : Nat) : Int) = A 84 - 1 by omega]
  by_cases h9 : e ≤ i ∧ i < A 84 - 1
  · rw [if_pos h9, if_pos h9, ← he.2 (i + 1) k (by omega) (by omega) c d, show (i + 1).toNat = i.toNat + 1 by omega]
  · rw [if_neg h9, if_neg h9]; exact he.2 i k a (by omega) c d
theorem e_leaveLoop (hm : MR s A) (hw : WF A) (h0 : 0 ≤ e) (h1 : e < A 84) (o : u_O) : ∃ s', f_X11_leaves_L23 FU (fun s_3 => gd 84 145 (gd 84 145 (gd 84 145 (some ((rd (wt s_3 (a_Mo_all o) 84 (wr ((rd s_3 (a_Mo_all o) 84) - 1))) (a_Mo_all o) 84), (wt s_3 (a_Mo_all o) 84 (wr ((rd s_3 (a_Mo_all o) 84) - 1)))))))) o (5 * e) s = some (A 84 - 1, s') ∧ MR s' (leaA A e) ∧ Only mal s s' := by
  have hb := hw.2.1.1
  have hin : ∀ k : Int, 0 ≤ k → k < 145 → InR (A k) := fun k a b => by rw [← hm k a b]; exact InR_rd _ _ _
  obtain ⟨b, q, i1, i2, i3⟩ := loop_relfu (fun m (b : Int × u_S) => f_X11_leaves_L23 m (fun s_3 => gd 84 145 (gd 84 145 (gd 84 145 (some ((rd (wt s_3 (a_Mo_all o) 84 (wr ((rd s_3 (a_Mo_all o) 84) - 1))) (a_Mo_all o) 84), (wt s_3 (a_Mo_all o) 84 (wr ((rd s_3 (a_Mo_all o) 84) - 1)))))))) o b.1 b.2) (fun j b => b.1 = 5 * e + j ∧ Only mal s b.2 ∧ MR b.2 (leaI A e (5 * e + j))) (fun b => gd 84 145 (gd 84 145 (gd 84 145 (some ((rd (wt b.2 (a_Mo_all o) 84 (wr ((rd b.2 (a_Mo_all o) 84) - 1))) (a_Mo_all o) 84), (wt b.2 (a_Mo_all o) 84 (wr ((rd b.2 (a_Mo_all o) 84) - 1)))))))) (5 * (A 84 - 1) - 5 * e).toNat (by omega) (by
      intro j b m hj ⟨e1, e2, e3⟩
      obtain ⟨b1, s1⟩ := b
      dsimp only at e1 e2 e3
      subst e1
      have q1 : leaI A e (5 * e + j) 84 = A 84 := if_neg (by omega)
      have q2 : leaI A e (5 * e + j) (85 + (5 * e + j) + 5) = A (85 + (5 * e + j) + 5) := if_neg (by omega)
      have m1 : MR (wt s1 (a_Mo_all o) (85 + (5 * e + j)) (A (85 + (5 * e + j) + 5))) (upA (leaI A e (5 * e + j)) (85 + (5 * e + j)) (A (85 + (5 * e + j) + 5))) := MR.wt e3 (hin _ (by omega) (by omega))
      refine ⟨(wr (5 * e + j + 1), wt s1 (a_Mo_all o) (85 + (5 * e + j)) (A (85 + (5 * e + j) + 5))), ?_, by dsimp only; rw [wr_of (by omega) (by omega)]; omega, e2.wt (o := a_Mo_all o) rfl _ _, ?_⟩
      · dsimp only
        rw [f_X11_leaves_L23, gd_of (by omega) (by omega), m_rd e3 _ (by omega) (by omega), q1, wr_of (x := A 84 - 1) (by omega) (by omega), wr_of (x := 5 * (A 84 - 1)) (by omega) (by omega), if_pos (by omega), wr_of (x := 85 + (5 * e + j)) (by omega) (by omega), wr_of (x := 85 + (5 * e + j) + 5) (by omega) (by omega), gd_of (by omega) (by omega), gd_of (by omega) (by omega), m_rd e3 _ (by omega) (by omega), q2]
      · dsimp only
        have e' : upA (leaI A e (5 * e + j)) (85 + (5 * e + j)) (A (85 + (5 * e + j) + 5)) = leaI A e (5 * e + (j + 1 : Nat)) := by
          funext x
          unfold upA leaI
          by_cases k1 : x = 85 + (5 * e + j)
          · rw [if_pos k1, if_pos (by omega), k1]
          · rw [if_neg k1]
            by_cases k3 : 85 + 5 * e ≤ x ∧ x < 85 + (5 * e + j)
            · rw [if_pos k3, if_pos (by omega)]
            · rw [if_neg k3, if_neg (by omega)]
        rw [← e']
        exact m1) (by
      intro b m ⟨e1, e2, e3⟩
      have q1 : leaI A e (5 * e + (((5 * (A 84 - 1) - 5 * e).toNat : Nat) : Int)) 84 = A 84 := if_neg (by omega)
      rw [f_X11_leaves_L23, gd_of (by omega) (by omega), m_rd e3 _ (by omega) (by omega), q1, wr_of (x := A 84 - 1) (by omega) (by omega), wr_of (x := 5 * (A 84 - 1)) (by omega) (by omega), if_neg (by omega)]) (5 * e, s) ⟨by simp, Only.refl _ _, by
        have : leaI A e (5 * e + (0 : Nat)) = A := by funext x; unfold leaI; rw [if_neg (by omega)]
        rw [this]; exact hm⟩
  obtain ⟨b1, s1⟩ := b
  dsimp only at i1 i2 i3 q
  rw [show 5 * e + (((5 * (A 84 - 1) - 5 * e).toNat : Nat) : Int) = 5 * (A 84 - 1) by omega] at i3
  have q1 : leaI A e (5 * (A 84 - 1)) 84 = A 84 := if_neg (by omega)
  have m2 : MR (wt s1 (a_Mo_all o) 84 (A 84 - 1)) (leaA A e) := MR.wt i3 (InR_iff.mpr ⟨by omega, by omega⟩)
  rw [m_rd i3 _ (by omega) (by omega), q1, wr_of (x := A 84 - 1) (by omega) (by omega), m_rd m2 _ (by omega) (by omega), gd_of (by omega) (by omega), gd_of (by omega) (by omega), gd_of (by omega) (by omega), lea_84] at q
  exact ⟨_, q, m2, i2.wt (o := a_Mo_all o) rfl _ _⟩
theorem e_isEntry (hm : MR s A) (hn : 0 ≤ A 84 ∧ A 84 ≤ 10) (o : u_O) : f_X11_isEntry o e s = some ((if 0 ≤ e ∧ e < A 84 then 1 else 0), s) := by
  unfold f_X11_isEntry
  rw [gd_of (by omega) (by omega), m_rd hm _ (by omega) (by omega), wr_of (by omega) (by omega), e_in, bd_eq]
  by_cases h : 0 ≤ e ∧ e < A 84
  · rw [if_pos h, if_pos (by omega)]
  · rw [if_neg h, if_neg (by omega)]
theorem e_chas (he : ER s p A) (hn : 0 ≤ A 84 ∧ A 84 ≤ 10) : f_X1_has (6, p, 0) e s = some ((if 0 ≤ e ∧ e < A 84 then 1 else 0), s) := by
  unfold f_X1_has
  rw [he.1]
  by_cases h1 : e < 0
  · rw [if_pos h1, if_neg (by omega)]
  · rw [if_neg h1]
    by_cases h2 : e < A 84
    · rw [if_pos h2, if_pos hn.2, if_pos (by omega)]
    · rw [if_neg h2, if_neg (by omega)]
theorem call_leaves (e : Int) : Call (f_X10_leaves oF e) (f_X11_leaves oM e) := by
  refine call_op (op := f_X6_removeEntry (1, 0, 0) e) (now := fun s_2 => f_X11_leaves_L23 FU (fun s_3 => gd 84 145 (gd 84 145 (gd 84 145 (some ((rd (wt s_3 (a_Mo_all oM) 84 (wr ((rd s_3 (a_Mo_all oM) 84) - 1))) (a_Mo_all oM) 84), (wt s_3 (a_Mo_all oM) 84 (wr ((rd s_3 (a_Mo_all oM) 84) - 1)))))))) oM (wr (5 * e)) s_2) (fun s => rfl) (fun A hw => ?_)
  have hn := hw.2.1.1
  have k0 : ¬ (0 : Int) < 0 := by omega
  by_cases h : 0 ≤ e ∧ e < A 84
  · refine ⟨0, A 84 - 1, leaA A e, by omega, fun _ => ⟨by omega, lea_WF hw h.1 h.2⟩, fun s1 h1 => ?_, fun s hs => ?_, fun _ s1 h1 => ?_⟩
    · obtain ⟨s', a1, a2, a3⟩ := e_entRemove h1.2.1 hn h.1 h.2
      rw [if_neg k0, if_neg k0]
      unfold f_X6_removeEntry
      rw [o_entries, e_chas h1.2.1 hn, if_pos h, bd_eq, if10, a1, bd_eq, a3.1, lea_84]
      exact ⟨s', rfl, h1.ent hw.1 (fun k hk => lea_out h.1 hn.2 k hk) a2 a3, a2.mono (fun o h => eob_pob o h)⟩
    · unfold f_X11_leaves
      rw [e_isEntry hs hn, if_pos h, bd_eq, if10, if_neg k0]
      simp only [bd_id]
    · rw [wr_of (by omega) (by omega)]
      exact e_leaveLoop h1 hw h.1 h.2 oM
  · refine ⟨-2, 0, A, by omega, fun z => by omega, fun s1 h1 => ?_, fun s hs => ?_, fun z => by omega⟩
    · rw [if_pos (by omega), if_pos (by omega)]
      unfold f_X6_removeEntry
      rw [o_entries, e_chas h1.2.1 hn, if_neg h, bd_eq, if00]
      exact ⟨s1, rfl, h1, Only.refl _ _⟩
    · unfold f_X11_leaves
      rw [e_isEntry hs hn, if_neg h, bd_eq, if00, if_pos (by omega)]
end LEAVE
