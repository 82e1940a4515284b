/-! back, type, clear, told -/
section BACK
variable {s : u_S} {A : Int → Int} {H : Int → Int → Int} {n : Int} {T : Int → Int} {tl : Int} {c : Int → Int}
theorem WS.pull (h : WS A H n T tl c) (hn : 0 < n) : WS (H 0) (pull H) (n - 1) T tl c := ⟨h.2.2.1 0 (by omega) hn, by have := h.2.1; omega, fun j a b => h.2.2.1 (j + 1) (by omega) (by omega), h.2.2.2.1, h.2.2.2.2.1, h.2.2.2.2.2⟩
def bob (o : u_O) : Prop := o = (23, 0, 0) ∨ o = (24, 0, 0)
theorem e_mback (h : MT s A H n T tl c) (hn : 0 < n ∧ n ≤ 5) : ∃ s', f_X11_back_L26 FU (fun s_1 => some ((rd s_1 oM 3), s_1)) oM 0 (wt s oM 3 (n - 1)) = some (n - 1, s') ∧ MT s' (H 0) (pull H) (n - 1) T tl c ∧ Only mdo s s' := by
  obtain ⟨hm, h1, h2, h3, h4⟩ := h
  have o0 : Only (fun o => o = oM) s (wt s oM 3 (n - 1)) := (Only.refl (fun o => o = oM) s).wt rfl _ _
  have r3 : rd (wt s oM 3 (n - 1)) oM 3 = n - 1 := by rw [rd_wt_same, wr_of (by omega) (by omega)]
  have r16 : rd (wt s oM 3 (n - 1)) oM 16 = tl := by rw [rd_wt_k (by decide)]; exact h1.1
  have g : ∀ k : Int, 0 ≤ k → k < 145 → rd (wt s oM 3 (n - 1)) (24, 1, 0) (145 * (n - 1) + k) = H 0 k := fun k a b => by
    rw [o0.rd (by simp), ← h4 0 k (by omega) hn.1 a b]; exact congrArg _ (by omega)
  obtain ⟨b, e, i1, i2, i3⟩ := loop_relfu (fun m (b : Int × u_S) => f_X11_back_L26 m (fun s_1 => some ((rd s_1 oM 3), s_1)) oM b.1 b.2) (fun i b => b.1 = i ∧ Only mal (wt s oM 3 (n - 1)) b.2 ∧ ∀ k : Int, 0 ≤ k → k < i → rd b.2 (24, 0, 0) k = H 0 k) (fun b => some ((rd b.2 oM 3), b.2)) 145 (by omega) (by
    intro i b m hi ⟨e1, e2, e3⟩
    obtain ⟨b1, s1⟩ := b
    dsimp only at e1 e2 e3
    subst e1
    refine ⟨(wr ((i : Int) + 1), wt s1 (24, 0, 0) i (H 0 i)), ?_, by dsimp only; rw [wr_of (by omega) (by omega)]; omega, e2.wt rfl _ _, ?_⟩
    · dsimp only
      rw [f_X11_back_L26, if_pos (by omega), e2.rd (by simp [mal]), r3, wr_of (x := 145 * (n - 1)) (by omega) (by omega), wr_of (x := 145 * (n - 1) + i) (by omega) (by omega), gd_of (by omega) (by omega), gd_of (by omega) (by omega), show a_Mo_all oM = (24, 0, 0) from rfl, show a_Mo_past oM = (24, 1, 0) from rfl, e2.rd (by simp [mal]), g i (by omega) (by omega)]
    · intro k a b
      dsimp only
      by_cases hk : k = i
      · rw [hk, rd_wt_same, ← g i (by omega) (by omega), wr_in (InR_rd _ _ _)]
      · rw [rd_wt_k hk]; exact e3 k a (by omega)) (by
    intro b m ⟨e1, e2, e3⟩
    rw [f_X11_back_L26, if_neg (by omega)]) (0, wt s oM 3 (n - 1)) ⟨rfl, Only.refl _ _, fun k a b => by omega⟩
  obtain ⟨b1, s1⟩ := b
  dsimp only at i1 i2 i3 e
  have oo : Only bob s s1 := (o0.mono (fun o h => Or.inl h)).trans (i2.mono (fun o h => Or.inr h))
  have r3' : rd s1 (23, 0, 0) 3 = n - 1 := by rw [i2.rd (by simp [mal])]; exact r3
  rw [r3'] at e
  refine ⟨s1, e, ⟨fun k a b => i3 k a (by omega), ⟨by rw [i2.rd (by simp [mal])]; exact r16, fun i a b => by rw [oo.rd (by simp [bob])]; exact h1.2 i a b⟩, fun k a b => by rw [oo.rd (by simp [bob])]; exact h2 k a b, r3', fun j i a b d f => ?_⟩, oo.mono (fun o h => by rcases h with h | h <;> subst h <;> simp [mdo])⟩
  rw [oo.rd (by simp [bob]), show pull H j i = H (j + 1) i from rfl, ← h4 (j + 1) i (by omega) (by omega) d f]
  exact congrArg _ (by omega)
theorem call_back : Call (f_X10_back oF) (f_X11_back oM) := by
  intro A H n T tl c hw
  have hn := hw.2.1
  by_cases h : n = 0
  · refine ⟨-3, A, H, n, T, tl, refC c (-3), hw.ref _, fun s hs => ?_, fun s hs => ?_⟩
    · have e : f_X4_giveBack (10, 0, 0) (1, 0, 0) s = some (0, s) := by
        unfold f_X4_giveBack
        rw [hs.2.2.2.1, if_pos (by omega)]
      obtain ⟨s', a, b, d⟩ := c_ref (r := -3) (by omega) hs
      unfold f_X10_back
      rw [show a_FP_history oF = (10, 0, 0) from rfl, show a_FP_plan oF = (1, 0, 0) from rfl, e, bd_eq, if00, a, bd_eq]
      exact ⟨s', rfl, b, d⟩
    · obtain ⟨s', a, b, d⟩ := m_ref (r := -3) (by omega) oM hs
      unfold f_X11_back
      rw [hs.2.2.2.1, if_pos h, a, bd_eq]
      exact ⟨s', rfl, b, d⟩
  · refine ⟨n - 1, H 0, pull H, n - 1, T, tl, c, hw.pull (by omega), fun s hs => ?_, fun s hs => ?_⟩
    · obtain ⟨s', a1, a2, a3, a4⟩ := e_giveBack hs.2 hw.2.2.1 (by omega)
      unfold f_X10_back
      rw [show a_FP_history oF = (10, 0, 0) from rfl, show a_FP_plan oF = (1, 0, 0) from rfl, a1, bd_eq, if10, a4.2.2.1]
      exact ⟨s', rfl, ⟨a3, a4⟩, a2.mono (fun o h => by
        rcases h with h | h
        · subst h; simp [clo]
        · exact pob_clo o h)⟩
    · unfold f_X11_back
      rw [hs.2.2.2.1, if_neg h, wr_of (by omega) (by omega)]
      exact e_mback hs (by omega)
theorem CS.text {T' : Int → Int} {tl' : Int} {s' : u_S} (h : CS s A H n T tl c) (ho : Only (fun o => o = (12, 0, 0) ∨ o = (13, 0, 0)) s s') (h1 : rd s' (12, 0, 0) 4 = tl') (h2 : ∀ i : Int, 0 ≤ i → i < tl' → rd s' (13, 0, 0) i = T' i) : CS s' A H n T' tl' c := by
  obtain ⟨h0, _, h3, h4, h5, h6⟩ := h
  have np : ∀ q o, pob q o → ¬ (o = ((12, 0, 0) : u_O) ∨ o = (13, 0, 0)) := by
    intro q o h e
    rcases e with e | e <;> subst e <;> simp [pob] at h
  refine ⟨h0.keep ho (np 0), ⟨h1, h2⟩, fun k a b => by rw [ho.rd (by simp)]; exact h3 k a b, by rw [ho.rd (by simp)]; exact h4, by rw [ho.rd (by simp)]; exact h5, fun j a b => ?_⟩
  rw [ho.rd (by simp)]
  exact (h6 j a b).keep ho (np _)
theorem MT.text {T' : Int → Int} {tl' : Int} {s' : u_S} (h : MT s A H n T tl c) (ho : Only (fun o => o = (23, 0, 0) ∨ o = (24, 15, 0)) s s') (h3 : rd s' (23, 0, 0) 3 = rd s (23, 0, 0) 3) (h1 : rd s' (23, 0, 0) 16 = tl') (h2 : ∀ i : Int, 0 ≤ i → i < tl' → rd s' (24, 15, 0) i = T' i) : MT s' A H n T' tl' c := ⟨h.1.keep ho (by simp), ⟨h1, h2⟩, fun k a b => by rw [ho.rd (by simp)]; exact h.2.2.1 k a b, by rw [h3]; exact h.2.2.2.1, fun j i a b d e => by rw [ho.rd (by simp)]; exact h.2.2.2.2 j i a b d e⟩
theorem tx_clo {s s' : u_S} (h : Only (fun o => o = ((12, 0, 0) : u_O) ∨ o = (13, 0, 0)) s s') : Only clo s s' := h.mono (fun o h => by rcases h with h | h <;> subst h <;> simp [clo])
theorem tx_mdo {s s' : u_S} (h : Only (fun o => o = ((23, 0, 0) : u_O) ∨ o = (24, 15, 0)) s s') : Only mdo s s' := h.mono (fun o h => by rcases h with h | h <;> subst h <;> simp [mdo])
theorem call_type (b : Int) : Call (f_X10_type oF b) (f_X11_type oM b) := by
  intro A H n T tl c hw
  have ht := hw.2.2.2.1
  by_cases h : 0 ≤ b ∧ b ≤ 127
  · by_cases h2 : tl = 120
    · refine ⟨-4, A, H, n, T, tl, refC c (-4), hw.ref _, fun s hs => ?_, fun s hs => ?_⟩
      · obtain ⟨s', a, b, d⟩ := c_ref (r := -4) (by omega) hs
        unfold f_X10_type
        rw [e_within, bd_eq, if_pos h, if10, show a_FP_text oF = (12, 0, 0) from rfl, hs.2.1.1, if_neg (by omega), a, bd_eq]
        exact ⟨s', rfl, b, d⟩
      · obtain ⟨s', a, b, d⟩ := m_ref (r := -4) (by omega) oM hs
        unfold f_X11_type
        rw [e_in, bd_eq, if_pos h, if10, hs.2.1.1, if_pos h2, a, bd_eq]
        exact ⟨s', rfl, b, d⟩
    · refine ⟨tl + 1, A, H, n, fun i => if i = tl then b else T i, tl + 1, c, ⟨hw.1, hw.2.1, hw.2.2.1, by omega, fun i a b' => ?_, hw.2.2.2.2.2⟩, fun s hs => ?_, fun s hs => ?_⟩
      · dsimp only
        split
        · exact h
        · exact hw.2.2.2.2.1 i a (by omega)
      · have o1 : Only (fun o => o = ((12, 0, 0) : u_O) ∨ o = (13, 0, 0)) s (wt (wt s (13, 0, 0) tl b) (12, 0, 0) 4 (tl + 1)) := ((Only.refl (fun o => o = ((12, 0, 0) : u_O) ∨ o = (13, 0, 0)) s).wt (Or.inr rfl) _ _).wt (Or.inl rfl) _ _
        have e4 : rd (wt (wt s (13, 0, 0) tl b) (12, 0, 0) 4 (tl + 1)) (12, 0, 0) 4 = tl + 1 := by rw [rd_wt_same, wr_of (by omega) (by omega)]
        unfold f_X10_type
        rw [e_within, bd_eq, if_pos h, if10, show a_FP_text oF = (12, 0, 0) from rfl, hs.2.1.1, if_pos (by omega), f_X7_append, jn_eq, hs.2.1.1, if_pos (by omega), gd_of (by omega) (by omega), show a_Reader_bytes (12, 0, 0) = (13, 0, 0) from rfl, rd_wt_o (by decide), hs.2.1.1, wr_of (x := tl + 1) (by omega) (by omega)]
        dsimp only
        rw [e4, bd_eq]
        refine ⟨_, rfl, CS.text hs o1 e4 (fun i a b' => ?_), tx_clo o1⟩
        rw [rd_wt_o (by decide)]
        by_cases hi : i = tl
        · rw [hi, rd_wt_same, if_pos rfl, wr_of (by omega) (by omega)]
        · rw [rd_wt_k hi, if_neg hi]; exact hs.2.1.2 i a (by omega)
      · have o1 : Only (fun o => o = ((23, 0, 0) : u_O) ∨ o = (24, 15, 0)) s (wt (wt s (24, 15, 0) tl b) (23, 0, 0) 16 (tl + 1)) := ((Only.refl (fun o => o = ((23, 0, 0) : u_O) ∨ o = (24, 15, 0)) s).wt (Or.inr rfl) _ _).wt (Or.inl rfl) _ _
        have e4 : rd (wt (wt s (24, 15, 0) tl b) (23, 0, 0) 16 (tl + 1)) (23, 0, 0) 16 = tl + 1 := by rw [rd_wt_same, wr_of (by omega) (by omega)]
        unfold f_X11_type
        rw [e_in, bd_eq, if_pos h, if10, hs.2.1.1, if_neg h2, gd_of (by omega) (by omega), show a_Mo_text oM = (24, 15, 0) from rfl, rd_wt_o (o := (24, 15, 0)) (o' := oM) (by decide), hs.2.1.1, wr_of (x := tl + 1) (by omega) (by omega), e4]
        refine ⟨_, rfl, MT.text hs o1 (by rw [rd_wt_k (by decide), rd_wt_o (by decide)]) e4 (fun i a b' => ?_), tx_mdo o1⟩
        rw [rd_wt_o (by decide)]
        by_cases hi : i = tl
        · rw [hi, rd_wt_same, if_pos rfl, wr_of (by omega) (by omega)]
        · rw [rd_wt_k hi, if_neg hi]; exact hs.2.1.2 i a (by omega)
  · refine ⟨-2, A, H, n, T, tl, refC c (-2), hw.ref _, fun s hs => ?_, fun s hs => ?_⟩
    · obtain ⟨s', a, b, d⟩ := c_ref (r := -2) (by omega) hs
      unfold f_X10_type
      rw [e_within, bd_eq, if_neg h, if00, a, bd_eq]
      exact ⟨s', rfl, b, d⟩
    · obtain ⟨s', a, b, d⟩ := m_ref (r := -2) (by omega) oM hs
      unfold f_X11_type
      rw [e_in, bd_eq, if_neg h, if00, a, bd_eq]
      exact ⟨s', rfl, b, d⟩
theorem call_clear : Call (f_X10_clear oF) (f_X11_clear oM) := by
  intro A H n T tl c hw
  refine ⟨tl, A, H, n, T, 0, c, ⟨hw.1, hw.2.1, hw.2.2.1, by omega, fun i a b => by omega, hw.2.2.2.2.2⟩, fun s hs => ?_, fun s hs => ?_⟩
  · have o1 : Only (fun o => o = ((12, 0, 0) : u_O) ∨ o = (13, 0, 0)) s (wt s (12, 0, 0) 4 0) := (Only.refl (fun o => o = ((12, 0, 0) : u_O) ∨ o = (13, 0, 0)) s).wt (Or.inl rfl) _ _
    unfold f_X10_clear
    rw [show a_FP_text oF = (12, 0, 0) from rfl, hs.2.1.1]
    exact ⟨_, rfl, CS.text hs o1 (by rw [rd_wt_same, wr_of (by omega) (by omega)]) (fun i a b => by omega), tx_clo o1⟩
  · have o1 : Only (fun o => o = ((23, 0, 0) : u_O) ∨ o = (24, 15, 0)) s (wt s (23, 0, 0) 16 0) := (Only.refl (fun o => o = ((23, 0, 0) : u_O) ∨ o = (24, 15, 0)) s).wt (Or.inl rfl) _ _
    unfold f_X11_clear
    rw [hs.2.1.1]
    exact ⟨_, rfl, MT.text hs o1 (by rw [rd_wt_k (by decide)]) (by rw [rd_wt_same, wr_of (by omega) (by omega)]) (fun i a b => by omega), tx_mdo o1⟩
/-- a call that asks and does nothing -/
theorem call_ask {f g : u_S → Option (Int × u_S)} (h : ∀ A H n T tl c, WS A H n T tl c → ∃ r : Int, (∀ s, CS s A H n T tl c → f s = some (r, s)) ∧ ∀ s, MT s A H n T tl c → g s = some (r, s)) : Call f g := by
  intro A H n T tl c hw
  obtain ⟨r, h1, h2⟩ := h A H n T tl c hw
  exact ⟨r, A, H, n, T, tl, c, hw, fun s hs => ⟨s, h1 s hs, hs, Only.refl _ _⟩, fun s hs => ⟨s, h2 s hs, hs, Only.refl _ _⟩⟩
/-- a call that is refused -/
theorem call_no {f g : u_S → Option (Int × u_S)} {r : Int} (hr : r = -2 ∨ r = -3 ∨ r = -4) (h1 : ∀ s, f s = bd (f_X10_refused oF r s) (fun r_1 s_1 => some (r_1, s_1))) (h2 : ∀ s, g s = bd (f_X11_refuses oM r s) (fun r_1 s_1 => some (r_1, s_1))) : Call f g := by
  intro A H n T tl c hw
  refine ⟨r, A, H, n, T, tl, refC c r, hw.ref _, fun s hs => ?_, fun s hs => ?_⟩
  · obtain ⟨s', a, b, d⟩ := c_ref hr hs
    rw [h1, a, bd_eq]
    exact ⟨s', rfl, b, d⟩
  · obtain ⟨s', a, b, d⟩ := m_ref hr oM hs
    rw [h2, a, bd_eq]
    exact ⟨s', rfl, b, d⟩
theorem call_told (w : Int) : Call (f_X10_told oF w) (f_X11_told oM w) := by
  by_cases h : 0 ≤ w ∧ w ≤ 10
  · refine call_ask (fun A H n T tl c hw => ?_)
    have md : ∀ s, f_X11_told oM w s = bd (f_X11_toldOf oM w s) (fun r_3 s_3 => some (r_3, s_3)) := fun s => by
      unfold f_X11_told
      rw [e_in, bd_eq, if_pos h, if10]
    have c0 : ∀ s, CS s A H n T tl c → ∀ k : Int, 0 ≤ k → k ≤ 2 → rd s oF (4 + k) = c k := fun s hs => hs.2.2.1
    rcases (show w = 0 ∨ w = 1 ∨ w = 2 ∨ w = 3 ∨ w = 4 ∨ w = 5 ∨ w = 6 ∨ w = 7 ∨ w = 8 ∨ w = 9 ∨ w = 10 by omega) with rfl | rfl | rfl | rfl | rfl | rfl | rfl | rfl | rfl | rfl | rfl
    · refine ⟨c 0, fun s hs => ?_, fun s hs => ?_⟩
      · unfold f_X10_told; rw [if_pos rfl, ← c0 s hs 0 (by omega) (by omega)]; rfl
      · rw [md]; unfold f_X11_toldOf; rw [if_pos (by omega), gd_of (by omega) (by omega), bd_eq, ← hs.2.2.1 0 (by omega) (by omega)]; rfl
    · refine ⟨c 1, fun s hs => ?_, fun s hs => ?_⟩
      · unfold f_X10_told; rw [← c0 s hs 1 (by omega) (by omega)]; rfl
      · rw [md]; unfold f_X11_toldOf; rw [if_pos (by omega), gd_of (by omega) (by omega), bd_eq, ← hs.2.2.1 1 (by omega) (by omega)]; rfl
    · refine ⟨c 2, fun s hs => ?_, fun s hs => ?_⟩
      · unfold f_X10_told; rw [← c0 s hs 2 (by omega) (by omega)]; rfl
      · rw [md]; unfold f_X11_toldOf; rw [if_pos (by omega), gd_of (by omega) (by omega), bd_eq, ← hs.2.2.1 2 (by omega) (by omega)]; rfl
    · refine ⟨tl, fun s hs => ?_, fun s hs => ?_⟩
      · unfold f_X10_told; rw [← hs.2.1.1]; rfl
      · rw [md]; unfold f_X11_toldOf; rw [if_neg (by omega), if_pos rfl, bd_eq, hs.2.1.1]
    · refine ⟨A 84, fun s hs => ?_, fun s hs => ?_⟩
      · unfold f_X10_told; rw [← hs.1.2.1.1]; rfl
      · rw [md]; unfold f_X11_toldOf; rw [if_neg (by omega), if_neg (by omega), if_pos rfl, gd_of (by omega) (by omega), bd_eq, m_rd hs.1 _ (by omega) (by omega)]
    · refine ⟨A 135, fun s hs => ?_, fun s hs => ?_⟩
      · unfold f_X10_told; rw [← hs.1.2.2.1.1]; rfl
      · rw [md]; unfold f_X11_toldOf; rw [if_neg (by omega), if_neg (by omega), if_neg (by omega), if_pos (by omega), wr_of (x := 135 + 5) (by omega) (by omega), wr_of (by omega) (by omega), gd_of (by omega) (by omega), bd_eq, m_rd hs.1 _ (by omega) (by omega)]; rfl
    · refine ⟨A 136, fun s hs => ?_, fun s hs => ?_⟩
      · unfold f_X10_told; rw [← hs.1.2.2.1.2.1]; rfl
      · rw [md]; unfold f_X11_toldOf; rw [if_neg (by omega), if_neg (by omega), if_neg (by omega), if_pos (by omega), wr_of (x := 135 + 6) (by omega) (by omega), wr_of (by omega) (by omega), gd_of (by omega) (by omega), bd_eq, m_rd hs.1 _ (by omega) (by omega)]; rfl
    · refine ⟨A 137, fun s hs => ?_, fun s hs => ?_⟩
      · unfold f_X10_told; rw [← hs.1.2.2.1.2.2.1]; rfl
      · rw [md]; unfold f_X11_toldOf; rw [if_neg (by omega), if_neg (by omega), if_neg (by omega), if_pos (by omega), wr_of (x := 135 + 7) (by omega) (by omega), wr_of (by omega) (by omega), gd_of (by omega) (by omega), bd_eq, m_rd hs.1 _ (by omega) (by omega)]; rfl
    · refine ⟨A 138, fun s hs => ?_, fun s hs => ?_⟩
      · unfold f_X10_told; rw [← hs.1.2.2.1.2.2.2]; rfl
      · rw [md]; unfold f_X11_toldOf; rw [if_neg (by omega), if_neg (by omega), if_neg (by omega), if_pos (by omega), wr_of (x := 135 + 8) (by omega) (by omega), wr_of (by omega) (by omega), gd_of (by omega) (by omega), bd_eq, m_rd hs.1 _ (by omega) (by omega)]; rfl
    · refine ⟨A 139, fun s hs => ?_, fun s hs => ?_⟩
      · unfold f_X10_told; rw [← hs.1.2.2.2.1]; rfl
      · rw [md]; unfold f_X11_toldOf; rw [if_neg (by omega), if_neg (by omega), if_neg (by omega), if_neg (by omega), if_pos rfl, gd_of (by omega) (by omega), bd_eq, m_rd hs.1 _ (by omega) (by omega)]
    · refine ⟨n, fun s hs => ?_, fun s hs => ?_⟩
      · unfold f_X10_told; rw [← hs.2.2.2.1]; rfl
      · rw [md]; unfold f_X11_toldOf; rw [if_neg (by omega), if_neg (by omega), if_neg (by omega), if_neg (by omega), if_neg (by omega), bd_eq, hs.2.2.2.1]
  · refine call_no (r := -2) (by omega) (fun s => ?_) (fun s => ?_)
    · unfold f_X10_told
      rw [if_neg (by omega), if_neg (by omega), if_neg (by omega), if_neg (by omega), if_neg (by omega), if_neg (by omega), if_neg (by omega), if_neg (by omega), if_neg (by omega), if_neg (by omega), if_neg (by omega)]
    · unfold f_X11_told
      rw [e_in, bd_eq, if_neg h, if00]
end BACK
