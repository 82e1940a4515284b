/-! CALLS: what is to be shown of each -/
abbrev oF : u_O := (0, 0, 0)
abbrev oM : u_O := (23, 0, 0)
def CS (s : u_S) (A : Int → Int) (H : Int → Int → Int) (n : Int) (T : Int → Int) (tl : Int) (c : Int → Int) : Prop := CP s 0 A ∧ CR s H n T tl c
def MT (s : u_S) (A : Int → Int) (H : Int → Int → Int) (n : Int) (T : Int → Int) (tl : Int) (c : Int → Int) : Prop := MR s A ∧ MZ s H n T tl c
def WS (A : Int → Int) (H : Int → Int → Int) (n : Int) (T : Int → Int) (tl : Int) (c : Int → Int) : Prop := WF A ∧ (0 ≤ n ∧ n ≤ 5) ∧ (∀ j : Int, 0 ≤ j → j < n → WF (H j)) ∧ (0 ≤ tl ∧ tl ≤ 120) ∧ (∀ i : Int, 0 ≤ i → i < tl → 0 ≤ T i ∧ T i ≤ 127) ∧ ∀ k, InR (c k)
def clo (o : u_O) : Prop := o.1 < 23
def mdo (o : u_O) : Prop := 23 ≤ o.1
/-- class and model answer alike, and hold the same afterwards -/
def Call (f g : u_S → Option (Int × u_S)) : Prop := ∀ A H n T tl c, WS A H n T tl c → ∃ (r : Int) (A' : Int → Int) (H' : Int → Int → Int) (n' : Int) (T' : Int → Int) (tl' : Int) (c' : Int → Int), WS A' H' n' T' tl' c' ∧ (∀ s, CS s A H n T tl c → ∃ s', f s = some (r, s') ∧ CS s' A' H' n' T' tl' c' ∧ Only clo s s') ∧ ∀ s, MT s A H n T tl c → ∃ s', g s = some (r, s') ∧ MT s' A' H' n' T' tl' c' ∧ Only mdo s s'
/-- rooms to work in -/
def csc (o : u_O) : Prop := (14 ≤ o.1 ∧ o.1 < 23) ∨ pob 7 o
def msc (o : u_O) : Prop := o.1 = 24 ∧ o.2.1 ≠ 0 ∧ o.2.1 ≠ 1 ∧ o.2.1 ≠ 4 ∧ o.2.1 ≠ 15
section CALL
variable {s s' : u_S} {A A' : Int → Int} {H : Int → Int → Int} {n : Int} {T : Int → Int} {tl : Int} {c : Int → Int}
theorem CS.keep (h : CS s A H n T tl c) (ho : Only csc s s') : CS s' A H n T tl c := by
  refine ⟨h.1.keep ho (fun o h1 h2 => ?_), h.2.keep ho (fun o h1 => ?_)⟩
  · rcases h2 with h2 | h2
    · have := h1.2; omega
    · have := h1.1; have := h2.1; omega
  · rcases h1 with h1 | h1
    · exact Or.inl h1.1
    · exact Or.inr (Or.inr (Or.inr h1))
theorem MT.keep (h : MT s A H n T tl c) (ho : Only msc s s') : MT s' A H n T tl c := ⟨h.1.keep ho (by simp [msc]), h.2.keep ho (by simp [msc]) (by simp [msc]) (by simp [msc]) (by simp [msc])⟩
theorem csc_clo (o : u_O) (h : csc o) : clo o := by
  rcases h with h | h
  · exact h.2
  · have := h.2; unfold clo; omega
theorem msc_mdo (o : u_O) (h : msc o) : mdo o := by have := h.1; unfold mdo; omega
theorem pob_clo {p : Nat} (o : u_O) (h : pob p o) : clo o := by have := h.2; unfold clo; omega
theorem refC_in (hc : ∀ k, InR (c k)) (r : Int) : ∀ k, InR (refC c r k) := by
  intro k
  unfold refC
  split
  · exact InR_wr _
  · exact hc k
theorem WS.ref (h : WS A H n T tl c) (r : Int) : WS A H n T tl (refC c r) := ⟨h.1, h.2.1, h.2.2.1, h.2.2.2.1, h.2.2.2.2.1, refC_in h.2.2.2.2.2 r⟩
theorem push_WF (h : WF A) (hH : ∀ j : Int, 0 ≤ j → j < n → WF (H j)) : ∀ j : Int, 0 ≤ j → j < min (n + 1) 5 → WF (push A H j) := by
  intro j a b
  unfold push
  split
  · exact h
  · exact hH _ (by omega) (by omega)
theorem WS.push (h : WS A H n T tl c) (h' : WF A') : WS A' (push A H) (min (n + 1) 5) T tl c := ⟨h', by have := h.2.1; omega, push_WF h.1 h.2.2.1, h.2.2.2.1, h.2.2.2.2.1, h.2.2.2.2.2⟩
/-- the class: refused -/
theorem c_ref {r : Int} (hr : r = -2 ∨ r = -3 ∨ r = -4) (h : CS s A H n T tl c) : ∃ s', f_X10_refused oF r s = some (r, s') ∧ CS s' A H n T tl (refC c r) ∧ Only clo s s' := by
  obtain ⟨s', a1, a2, a3⟩ := e_refused hr h.2
  exact ⟨s', a1, ⟨h.1.keep a2 (fun o h e => by subst e; simp [pob] at h), a3⟩, a2.mono (fun o h => by subst h; simp [clo])⟩
theorem m_ref {r : Int} (hr : r = -2 ∨ r = -3 ∨ r = -4) (o : u_O) (h : MT s A H n T tl c) : ∃ s', f_X11_refuses o r s = some (r, s') ∧ MT s' A H n T tl (refC c r) ∧ Only mdo s s' := by
  obtain ⟨s', a1, a2, a3⟩ := e_refuses hr o h.2
  exact ⟨s', a1, ⟨h.1.keep a2 (by simp), a3⟩, a2.mono (fun o h => by subst h; simp [mdo])⟩
/-- the class: a call told S -/
theorem c_S (op : u_S → Option (Int × u_S)) {r : Int} (hr : r = -2 ∨ r = -3 ∨ r = -4 ∨ 0 ≤ r) (hop : ∀ s1, CP s1 0 A → ∃ s2, op s1 = some (r, s2) ∧ CP s2 0 (if r < 0 then A else A') ∧ Only (pob 0) s1 s2) (hw : WF A) (hn : 0 ≤ n ∧ n ≤ 5) (h : CS s A H n T tl c) : ∃ s', bd (f_X6_copyFrom (1, 1, 0) (1, 0, 0) s) (fun r_1 s_1 => bd (op s_1) (fun r_2 s_2 => bd (f_X10_settled oF r_2 s_2) (fun r_3 s_3 => some (r_3, s_3)))) = some (r, s') ∧ Only clo s s' ∧ (r < 0 → CS s' A H n T tl (refC c r)) ∧ (0 ≤ r → CS s' A' (push A H) (min (n + 1) 5) T tl c) := by
  obtain ⟨h1, h2⟩ := h
  have d01 : ∀ p q : Nat, p ≠ q → ∀ o, pob p o → ¬ pob q o := fun p q hpq o a b => hpq (a.1.symm.trans b.1)
  obtain ⟨s1, a1, a2, a3⟩ := e_planCopy (p := 1) (q := 0) (by decide) h1 hw
  have c1 := h1.keep a2 (d01 0 1 (by decide))
  have r1 := h2.keep a2 (fun o h => Or.inr (Or.inr (Or.inl h)))
  obtain ⟨s2, b1, b2, b3⟩ := hop s1 c1
  have c2 := a3.keep b3 (d01 1 0 (by decide))
  have r2 := r1.keep b3 (fun o h => Or.inr (Or.inl h))
  have o2 : Only clo s s2 := (a2.mono (fun o h => pob_clo o h)).trans (b3.mono (fun o h => pob_clo o h))
  rw [a1, bd_eq, b1, bd_eq, f_X10_settled]
  by_cases hneg : r < 0
  · rw [if_pos hneg] at b2
    obtain ⟨s3, g1, g2, g3⟩ := c_ref (r := r) (by omega) ⟨b2, r2⟩
    rw [if_pos hneg, g1, bd_eq, bd_eq]
    exact ⟨s3, rfl, o2.trans g3, fun _ => g2, fun z => by omega⟩
  · rw [if_neg hneg] at b2
    obtain ⟨s3, g1, g2, g3⟩ := e_keep c2 hw r2 hn
    rw [if_neg hneg, show a_FP_history oF = (10, 0, 0) from rfl, show a_FP_before oF = (1, 1, 0) from rfl, g1, bd_eq, bd_eq]
    have ho : ∀ o, hob o → clo o := by
      intro o h
      rcases h with h | ⟨q, _, _, h⟩
      · subst h; simp [clo]
      · exact pob_clo o h
    refine ⟨s3, rfl, o2.trans (g2.mono ho), fun z => absurd z hneg, fun _ => ⟨b2.keep g2 (fun o h z => ?_), g3⟩⟩
    rcases z with z | ⟨q, e1, e2, z⟩
    · subst z; simp [pob] at h
    · have := h.1; have := z.1; omega
theorem m_keep (h : MT s A H n T tl c) (hn : 0 ≤ n ∧ n ≤ 5) : ∃ s', f_X11_keep oM s = some (0, s') ∧ MT s' A (push A H) (min (n + 1) 5) T tl c ∧ Only mdo s s' := by
  obtain ⟨s', a1, a2, a3⟩ := e_mkeep h.1 h.2 hn
  exact ⟨s', a1, ⟨h.1.keep a2 (by simp [kob]), a3⟩, a2.mono (fun o h => by rcases h with h | h <;> subst h <;> simp [mdo])⟩
theorem mal_def (o : u_O) : mal o = (o = (24, 0, 0)) := rfl
theorem MT.mal (h : MT s A H n T tl c) (ho : Only mal s s') (hm : MR s' A') : MT s' A' H n T tl c := ⟨hm, h.2.keep ho (by simp [mal_def]) (by simp [mal_def]) (by simp [mal_def]) (by simp [mal_def])⟩
theorem mal_mdo (o : u_O) (h : mal o) : mdo o := by subst h; simp [mdo]
/-- the model: what may be, then what is done -/
theorem m_S {r v : Int} (nw : u_S → Option (Int × u_S)) (hr : r = -2 ∨ r = -3 ∨ r = -4 ∨ 0 ≤ r) (hnow : 0 ≤ r → ∀ s1, MR s1 A → ∃ s2, nw s1 = some (v, s2) ∧ MR s2 A' ∧ Only mal s1 s2) (hn : 0 ≤ n ∧ n ≤ 5) (h : MT s A H n T tl c) : ∃ s', (if r < 0 then bd (f_X11_refuses oM r s) (fun r_4 s_4 => some (r_4, s_4)) else bd (f_X11_keep oM s) (fun r_2 s_2 => bd (nw s_2) (fun r_3 s_3 => some (r_3, s_3)))) = some ((if r < 0 then r else v), s') ∧ Only mdo s s' ∧ (r < 0 → MT s' A H n T tl (refC c r)) ∧ (0 ≤ r → MT s' A' (push A H) (min (n + 1) 5) T tl c) := by
  by_cases hneg : r < 0
  · obtain ⟨s1, a1, a2, a3⟩ := m_ref (r := r) (by omega) oM h
    rw [if_pos hneg, if_pos hneg, a1, bd_eq]
    exact ⟨s1, rfl, a3, fun _ => a2, fun z => by omega⟩
  · obtain ⟨s1, a1, a2, a3⟩ := m_keep h hn
    obtain ⟨s2, b1, b2, b3⟩ := hnow (by omega) s1 a2.1
    rw [if_neg hneg, if_neg hneg, a1, bd_eq, b1, bd_eq]
    exact ⟨s2, rfl, a3.trans (b3.mono (fun o h => mal_mdo o h)), fun z => absurd z hneg, fun _ => a2.mal b3 b2⟩
theorem call_S {f g : u_S → Option (Int × u_S)} (h : ∀ A H n T tl c, WS A H n T tl c → ∃ (r : Int) (A' : Int → Int), (0 ≤ r → WF A') ∧ (∀ s, CS s A H n T tl c → ∃ s', f s = some (r, s') ∧ Only clo s s' ∧ (r < 0 → CS s' A H n T tl (refC c r)) ∧ (0 ≤ r → CS s' A' (push A H) (min (n + 1) 5) T tl c)) ∧ ∀ s, MT s A H n T tl c → ∃ s', g s = some (r, s') ∧ Only mdo s s' ∧ (r < 0 → MT s' A H n T tl (refC c r)) ∧ (0 ≤ r → MT s' A' (push A H) (min (n + 1) 5) T tl c)) : Call f g := by
  intro A H n T tl c hw
  obtain ⟨r, A', h1, h2, h3⟩ := h A H n T tl c hw
  by_cases hneg : r < 0
  · refine ⟨r, A, H, n, T, tl, refC c r, hw.ref r, fun s hs => ?_, fun s hs => ?_⟩
    · obtain ⟨s', a, b, d, e⟩ := h2 s hs; exact ⟨s', a, d hneg, b⟩
    · obtain ⟨s', a, b, d, e⟩ := h3 s hs; exact ⟨s', a, d hneg, b⟩
  · have hp : 0 ≤ r := by omega
    refine ⟨r, A', push A H, min (n + 1) 5, T, tl, c, hw.push (h1 hp), fun s hs => ?_, fun s hs => ?_⟩
    · obtain ⟨s', a, b, d, e⟩ := h2 s hs; exact ⟨s', a, e hp, b⟩
    · obtain ⟨s', a, b, d, e⟩ := h3 s hs; exact ⟨s', a, e hp, b⟩
/-- a call told S, of a plan's operation and the model's: k says why not (or 0), v answers, A' is what is then -/
theorem call_op2 {f g op : u_S → Option (Int × u_S)} (hf : ∀ s, f s = bd (f_X6_copyFrom (1, 1, 0) (1, 0, 0) s) (fun r_1 s_1 => bd (op s_1) (fun r_2 s_2 => bd (f_X10_settled oF r_2 s_2) (fun r_3 s_3 => some (r_3, s_3))))) (h : ∀ A, WF A → ∃ (k v : Int) (A' : Int → Int) (now : u_S → Option (Int × u_S)), (k = -2 ∨ k = -3 ∨ k = -4 ∨ k = 0) ∧ (k = 0 → 0 ≤ v ∧ WF A') ∧ (∀ s1, CP s1 0 A → ∃ s2, op s1 = some ((if k < 0 then k else v), s2) ∧ CP s2 0 (if k < 0 then A else A') ∧ Only (pob 0) s1 s2) ∧ (∀ s, MR s A → g s = if k < 0 then bd (f_X11_refuses oM k s) (fun r_4 s_4 => some (r_4, s_4)) else bd (f_X11_keep oM s) (fun r_2 s_2 => bd (now s_2) (fun r_3 s_3 => some (r_3, s_3)))) ∧ (k = 0 → ∀ s1, MR s1 A → ∃ s2, now s1 = some (v, s2) ∧ MR s2 A' ∧ Only mal s1 s2)) : Call f g := by
  refine call_S (fun A H n T tl c hw => ?_)
  obtain ⟨k, v, A', now, hk, h0, hop, hg, hnow⟩ := h A hw.1
  have hn := hw.2.1
  by_cases hneg : k < 0
  · refine ⟨k, A, fun z => by omega, fun s hs => ?_, fun s hs => ?_⟩
    · rw [hf]
      refine c_S (A' := A) op (by omega) (fun s1 h1 => ?_) hw.1 hn hs
      have := hop s1 h1
      rw [if_pos hneg, if_pos hneg] at this
      rw [if_pos hneg]
      exact this
    · rw [hg s hs.1, if_pos hneg]
      obtain ⟨s1, a1, a2, a3⟩ := m_ref (r := k) (by omega) oM hs
      rw [a1, bd_eq]
      exact ⟨s1, rfl, a3, fun _ => a2, fun z => by omega⟩
  · obtain ⟨v0, w'⟩ := h0 (by omega)
    refine ⟨v, A', fun _ => w', fun s hs => ?_, fun s hs => ?_⟩
    · rw [hf]
      refine c_S (A' := A') op (by omega) (fun s1 h1 => ?_) hw.1 hn hs
      have := hop s1 h1
      rw [if_neg hneg, if_neg hneg] at this
      rw [if_neg (by omega)]
      exact this
    · rw [hg s hs.1, if_neg hneg]
      obtain ⟨s1, a1, a2, a3⟩ := m_keep hs hn
      obtain ⟨s2, b1, b2, b3⟩ := hnow (by omega) s1 a2.1
      rw [a1, bd_eq, b1, bd_eq]
      exact ⟨s2, rfl, a3.trans (b3.mono (fun o h => mal_mdo o h)), fun z => by omega, fun _ => a2.mal b3 b2⟩
theorem call_op {f g op now : u_S → Option (Int × u_S)} (hf : ∀ s, f s = bd (f_X6_copyFrom (1, 1, 0) (1, 0, 0) s) (fun r_1 s_1 => bd (op s_1) (fun r_2 s_2 => bd (f_X10_settled oF r_2 s_2) (fun r_3 s_3 => some (r_3, s_3))))) (h : ∀ A, WF A → ∃ (k v : Int) (A' : Int → Int), (k = -2 ∨ k = -3 ∨ k = -4 ∨ k = 0) ∧ (k = 0 → 0 ≤ v ∧ WF A') ∧ (∀ s1, CP s1 0 A → ∃ s2, op s1 = some ((if k < 0 then k else v), s2) ∧ CP s2 0 (if k < 0 then A else A') ∧ Only (pob 0) s1 s2) ∧ (∀ s, MR s A → g s = if k < 0 then bd (f_X11_refuses oM k s) (fun r_4 s_4 => some (r_4, s_4)) else bd (f_X11_keep oM s) (fun r_2 s_2 => bd (now s_2) (fun r_3 s_3 => some (r_3, s_3)))) ∧ (k = 0 → ∀ s1, MR s1 A → ∃ s2, now s1 = some (v, s2) ∧ MR s2 A' ∧ Only mal s1 s2)) : Call f g := call_op2 hf (fun A hw => by
  obtain ⟨k, v, A', hr⟩ := h A hw
  exact ⟨k, v, A', now, hr⟩)
theorem canNote_0 {l st tk : Int} (hw : WF A) (h : canNoteA A l st tk = 0) : (0 ≤ l ∧ l ≤ 3) ∧ (0 ≤ st ∧ st ≤ 27) ∧ (1 ≤ tk ∧ tk ≤ 4) ∧ cntA A l < 10 ∧ 0 ≤ cntA A l := by
  unfold canNoteA at h
  split at h
  · omega
  · rename_i g
    have g : (0 ≤ l ∧ l ≤ 3) ∧ (0 ≤ st ∧ st ≤ 27) ∧ (1 ≤ tk ∧ tk ≤ 4) := Classical.byContradiction g
    have hb := (hw.1 l g.1.1 g.1.2).1
    split at h
    · omega
    · split at h
      · omega
      · exact ⟨g.1, g.2.1, g.2.2, by omega, hb.1⟩
theorem call_note (l st tk : Int) : Call (f_X10_note oF l st tk) (f_X11_note oM l st tk) := by
  refine call_op (op := f_X6_addNote (1, 0, 0) l st tk) (now := f_X11_noteNow oM l st tk) (fun s => rfl) (fun A hw => ⟨canNoteA A l st tk, cntA A l, noteA A l st tk, canNote_cases A l st tk, fun h => ⟨(canNote_0 hw h).2.2.2.2, note_WF hw h⟩, fun s1 h1 => e_addNote h1 hw st tk, fun s hs => by unfold f_X11_note; rw [e_canNote hs hw oM, bd_eq], fun h s1 h1 => ?_⟩)
  have g := canNote_0 hw h
  exact e_noteNow h1 (hw.1 l g.1.1 g.1.2) g.1.1 g.1.2 g.2.2.2.1 oM g.2.1 g.2.2.1
end CALL
