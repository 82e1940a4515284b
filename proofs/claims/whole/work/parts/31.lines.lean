/-! empties, sets, drop: calls that change a line or a setting -/
theorem bd_id (x : Option (Int × u_S)) : bd x (fun r s => some (r, s)) = x := by cases x <;> rfl
def canEmA (A : Int → Int) (l : Int) : Int := if ¬ (0 ≤ l ∧ l ≤ 3) then -2 else if 0 < nenA A l (A 84).toNat then -3 else 0
def emptA (A : Int → Int) (l : Int) : Int → Int := upA A (21 * l) 0
section LINES
variable {s : u_S} {A : Int → Int} {l : Int} {p : Nat}
theorem canEm_cases (A : Int → Int) (l : Int) : canEmA A l = -2 ∨ canEmA A l = -3 ∨ canEmA A l = -4 ∨ canEmA A l = 0 := by
  unfold canEmA
  repeat' split
  all_goals omega
theorem canEm_0 (h : canEmA A l = 0) : (0 ≤ l ∧ l ≤ 3) ∧ nenA A l (A 84).toNat ≤ 0 := by
  unfold canEmA at h
  split at h
  · omega
  · rename_i g
    have g : 0 ≤ l ∧ l ≤ 3 := Classical.byContradiction g
    split at h
    · omega
    · exact ⟨g, by omega⟩
theorem empt_out (k : Int) (h : k < 21 * l ∨ 21 * l + 20 < k) : emptA A l k = A k := upA_ne (by omega)
theorem empt_cnt : cntA (emptA A l) l = 0 := upA_same _ _ _
theorem empt_WL : WL (emptA A l) l := ⟨by rw [empt_cnt]; omega, fun i a b => by rw [empt_cnt] at b; omega⟩
theorem empt_WF (hw : WF A) (h : canEmA A l = 0) : WF (emptA A l) := hw.line (canEm_0 h).2 (canEm_0 h).1.1 (canEm_0 h).1.2 (fun k hk => empt_out k hk) empt_WL
theorem e_emptyLine (hc : CP s p A) (hw : WF A) : ∃ s', f_X6_emptyLine (1, p, 0) l s = some ((if canEmA A l < 0 then canEmA A l else cntA A l), s') ∧ CP s' p (if canEmA A l < 0 then A else emptA A l) ∧ Only (pob p) s s' := by
  unfold f_X6_emptyLine
  have hn := hw.2.1.1
  by_cases g1 : ¬ (0 ≤ l ∧ l ≤ 3)
  · have e : canEmA A l = -2 := by unfold canEmA; rw [if_pos g1]
    rw [e, e_isLine, bd_eq, if_neg g1, if00]
    exact ⟨s, rfl, hc, Only.refl _ _⟩
  have g1 : 0 ≤ l ∧ l ≤ 3 := Classical.byContradiction g1
  rw [e_isLine, bd_eq, if_pos g1, if10, o_entries, e_having hc.2.1 hn, bd_eq]
  by_cases g4 : 0 < nenA A l (A 84).toNat
  · have e : canEmA A l = -3 := by unfold canEmA; rw [if_neg (fun z => z g1), if_pos g4]
    rw [e, if_neg (by omega)]
    exact ⟨s, rfl, hc, Only.refl _ _⟩
  have e : canEmA A l = 0 := by unfold canEmA; rw [if_neg (fun z => z g1), if_neg g4]
  have hb := (hw.1 l g1.1 g1.2).1
  have o1 : Only (lob p l.toNat) s (wt s (3, p, l.toNat) 2 0) := (Only.refl (lob p l.toNat) s).wt (Or.inl rfl) _ _
  rw [e, if_pos (by omega), gd_of (by omega) (by omega), gd_of (by omega) (by omega), o_line, (hc.1 l g1.1 g1.2).1]
  have k0 : ¬ (0 : Int) < 0 := by omega
  rw [if_neg k0, if_neg k0]
  exact ⟨_, rfl, hc.line hw.1 g1.1 g1.2 o1 (fun k hk => empt_out k hk) ⟨by rw [rd_wt_same, empt_cnt]; rfl, fun i a b => by rw [empt_cnt] at b; omega⟩, o1.mono (fun o h => lob_pob o h)⟩
theorem e_canEmpty (hm : MR s A) (hw : WF A) (o : u_O) : f_X11_canEmpty o l s = some (canEmA A l, s) := by
  unfold f_X11_canEmpty canEmA
  have hn := hw.2.1.1
  by_cases g1 : 0 ≤ l ∧ l ≤ 3
  · simp only [e_misLine, bd_eq, g1, e_entered hm o hn, and_self, if_true, if10, not_true_eq_false, if_false]
    by_cases g4 : 0 < nenA A l (A 84).toNat
    · rw [if_neg (by omega), if_pos g4]
    · rw [if_pos (by omega), if_neg g4]
  · simp only [e_misLine, bd_eq, g1, if_false, if00, not_false_eq_true, if_true]
theorem e_emptyNow (hm : MR s A) (hw : WF A) (g : 0 ≤ l ∧ l ≤ 3) (o : u_O) : ∃ s', f_X11_emptyNow o l s = some (cntA A l, s') ∧ MR s' (emptA A l) ∧ Only mal s s' := by
  unfold f_X11_emptyNow
  rw [e_notes hm o g.1 g.2, bd_eq, wr_of (by omega) (by omega), gd_of (by omega) (by omega), show a_Mo_all o = (24, 0, 0) from rfl]
  exact ⟨_, rfl, hm.wt InR_0, (Only.refl mal s).wt rfl _ _⟩
theorem call_empties (l : Int) : Call (f_X10_empties oF l) (f_X11_empties oM l) := by
  refine call_op (op := f_X6_emptyLine (1, 0, 0) l) (now := f_X11_emptyNow oM l) (fun s => rfl) (fun A hw => ⟨canEmA A l, cntA A l, emptA A l, canEm_cases A l, fun h => ⟨(hw.1 l (canEm_0 h).1.1 (canEm_0 h).1.2).1.1, empt_WF hw h⟩, fun s1 h1 => e_emptyLine h1 hw, fun s hs => by unfold f_X11_empties; rw [e_canEmpty hs hw oM, bd_eq], fun h s1 h1 => e_emptyNow h1 hw (canEm_0 h).1 oM⟩)
/-- settings -/
def isSet (w v : Int) : Prop := (w = 0 ∧ 0 ≤ v ∧ v ≤ 10) ∨ (w = 1 ∧ 0 ≤ v ∧ v ≤ 6) ∨ (w = 2 ∧ 1 ≤ v ∧ v ≤ 8) ∨ (w = 3 ∧ 0 ≤ v ∧ v ≤ 23)
def setA (A : Int → Int) (w v : Int) : Int → Int := upA A (135 + w) v
theorem set_WF (hw : WF A) {w v : Int} (h : isSet w v) : WF (setA A w v) := by
  have hb : 0 ≤ w ∧ w ≤ 3 := by unfold isSet at h; omega
  have ho : ∀ k, k < 135 ∨ 138 < k → setA A w v k = A k := fun k hk => upA_ne (by omega)
  have hs : setA A w v (135 + w) = v := upA_same _ _ _
  have hne : ∀ k, k ≠ 135 + w → setA A w v k = A k := fun k hk => upA_ne hk
  obtain ⟨w1, w2, w3, w4, w5, w6, w7, w8⟩ := hw
  have w84 := w2.1
  have blk : ∀ l, l ≤ 3 → ∀ k, 21 * l ≤ k → k ≤ 21 * l + 20 → setA A w v k = A k := fun l h k a b => ho k (by omega)
  have en : ∀ e k, 0 ≤ e → e < 10 → 0 ≤ k → k < 5 → entA (setA A w v) e k = entA A e k := fun e k a b c d => ho _ (by omega)
  have e84 : setA A w v 84 = A 84 := ho _ (by omega)
  have hen : ∀ e, 0 ≤ e → e < A 84 → endA (setA A w v) e = endA A e := by
    intro e a b
    have q := (w2.2 e a b).1
    unfold endA lastA
    rw [en e 3 a (by omega) (by omega) (by omega), en e 0 a (by omega) (by omega) (by omega), en e 1 a (by omega) (by omega) (by omega), len_congr (blk _ q.2) (w1 _ q.1 q.2)]
  refine ⟨fun l a b => (w1 l a b).congr (blk l b), ⟨by rw [e84]; exact w2.1, fun e a b => ?_⟩, fun e g a b c d => ?_, ?_, ?_, ?_, ?_, ?_⟩
  · rw [e84] at b
    rw [en e 0 a (by omega) (by omega) (by omega), en e 1 a (by omega) (by omega) (by omega), en e 2 a (by omega) (by omega) (by omega), en e 3 a (by omega) (by omega) (by omega), en e 4 a (by omega) (by omega) (by omega)]
    exact w2.2 e a b
  · rw [e84] at c
    rw [en e 4 a (by omega) (by omega) (by omega), en g 4 (by omega) (by omega) (by omega) (by omega)] at d
    rw [hen e a (by omega), hen g (by omega) c, en e 3 a (by omega) (by omega) (by omega), en g 3 (by omega) (by omega) (by omega) (by omega)]
    exact w3 e g a b c d
  · by_cases e : w = 0
    · subst e; rw [show (135 : Int) = 135 + 0 by omega, hs]; unfold isSet at h; omega
    · rw [hne _ (by omega)]; exact w4
  · by_cases e : w = 1
    · subst e; rw [show (136 : Int) = 135 + 1 by omega, hs]; unfold isSet at h; omega
    · rw [hne _ (by omega)]; exact w5
  · by_cases e : w = 2
    · subst e; rw [show (137 : Int) = 135 + 2 by omega, hs]; unfold isSet at h; omega
    · rw [hne _ (by omega)]; exact w6
  · by_cases e : w = 3
    · subst e; rw [show (138 : Int) = 135 + 3 by omega, hs]; unfold isSet at h; omega
    · rw [hne _ (by omega)]; exact w7
  · refine ⟨by rw [ho 139 (by omega)]; exact w8.1, fun i a b => ?_, fun i j a b c => ?_⟩
    · skip
      rw [ho (140 + i) (by omega)]
      exact w8.2.1 i a b
    · rw [ho 139 (by omega)] at c
      rw [ho (140 + i) (by omega), ho (140 + j) (by omega)]
      exact w8.2.2 i j a b c
theorem CP.set (hc : CP s p A) (hw : WF A) {w v : Int} (h : isSet w v) : CP (wt s (1, p, 0) (4 + w) v) p (setA A w v) := by
  have hb : 0 ≤ w ∧ w ≤ 3 := by unfold isSet at h; omega
  have hv : 0 ≤ v ∧ v ≤ 23 := by unfold isSet at h; omega
  have ho : ∀ k, k < 135 ∨ 138 < k → setA A w v k = A k := fun k hk => upA_ne (by omega)
  have blk : ∀ l, l ≤ 3 → ∀ k, 21 * l ≤ k → k ≤ 21 * l + 20 → setA A w v k = A k := fun l h k a b => ho k (by omega)
  have r1 : ∀ (o : u_O) k, o.1 ≠ 1 → rd (wt s (1, p, 0) (4 + w) v) o k = rd s o k := fun o k h => rd_wt_o (fun e => h (by rw [e]))
  obtain ⟨c1, c2, c3, c4, c5⟩ := hc
  have val : ∀ k, 0 ≤ k → k ≤ 3 → rd s (1, p, 0) (4 + k) = A (135 + k) → rd (wt s (1, p, 0) (4 + w) v) (1, p, 0) (4 + k) = setA A w v (135 + k) := by
    intro k k0 k1 hk
    by_cases e : k = w
    · subst e; rw [rd_wt_same, show setA A k v (135 + k) = v from upA_same _ _ _, wr_of (by omega) (by omega)]
    · rw [rd_wt_k (by omega), show setA A w v (135 + k) = A (135 + k) from upA_ne (by omega)]; exact hk
  refine ⟨fun l a b => ?_, ⟨by rw [r1 _ _ (by simp), ho 84 (by omega)]; exact c2.1, fun i k a b c d => ?_⟩, ⟨val 0 (by omega) (by omega) c3.1, val 1 (by omega) (by omega) c3.2.1, val 2 (by omega) (by omega) c3.2.2.1, val 3 (by omega) (by omega) c3.2.2.2⟩, by rw [rd_wt_k (by omega), ho 139 (by omega)]; exact c4, fun i a b => ?_⟩
  · have r := LR.congr (blk l b) (hw.1 l a b) (c1 l a b)
    refine ⟨by rw [r1 _ _ (by simp)]; exact r.1, fun i c d => ?_⟩
    rw [o_steps, o_ticks, r1 _ _ (by simp), r1 _ _ (by simp)]
    exact r.2 i c d
  · rw [ho 84 (by omega)] at b
    have := hw.2.1.1
    rw [r1 _ _ (by simp), show entA (setA A w v) i k = entA A i k from ho _ (by omega)]
    exact c2.2 i k a b c d
  · rw [ho 139 (by omega)] at b
    rw [r1 _ _ (by simp), ho (140 + i) (by omega)]
    exact c5 i a b
theorem e_setValue (hc : CP s p A) (hw : WF A) {w v : Int} : (isSet w v → ∃ s', f_X6_setValue (1, p, 0) w v s = some (A (135 + w), s') ∧ CP s' p (setA A w v) ∧ Only (pob p) s s') ∧ (¬ isSet w v → f_X6_setValue (1, p, 0) w v s = some (-2, s)) := by
  constructor
  · intro h
    refine ⟨wt s (1, p, 0) (4 + w) v, ?_, hc.set hw h, (Only.refl (pob p) s).wt (by simp [pob]) _ _⟩
    have c3 := hc.2.2.1
    unfold f_X6_setValue
    rcases h with ⟨rfl, h⟩ | ⟨rfl, h⟩ | ⟨rfl, h⟩ | ⟨rfl, h⟩
    · simp [jn_eq, bd_eq, e_within, h, c3.1]
    · simp [jn_eq, bd_eq, e_within, h, c3.2.1]
    · simp [jn_eq, bd_eq, e_within, h, c3.2.2.1]
    · simp [jn_eq, bd_eq, e_isKey, h, c3.2.2.2]
  · intro h
    unfold f_X6_setValue
    simp only [jn_eq, bd_eq, e_within, e_isKey, b10_0, if_not']
    unfold isSet at h
    repeat' split
    all_goals first | rfl | omega
theorem e_isSetting (w v : Int) (s : u_S) : ∃ b, f_X11_isSetting w v s = some (b, s) ∧ (isSet w v → b = 1) ∧ (¬ isSet w v → b = 0) := by
  unfold f_X11_isSetting
  simp only [e_in, bd_eq, if_some]
  refine ⟨_, rfl, fun h => ?_, fun h => ?_⟩ <;> unfold isSet at h <;> (repeat' split) <;> omega
theorem e_setNow (hm : MR s A) {w v : Int} (h : isSet w v) (o : u_O) : ∃ s', f_X11_setNow o w v s = some (A (135 + w), s') ∧ MR s' (setA A w v) ∧ Only mal s s' := by
  have hb : (0 ≤ w ∧ w ≤ 3) ∧ 0 ≤ v ∧ v ≤ 23 := by unfold isSet at h; omega
  unfold f_X11_setNow
  rw [wr_of (by omega) (by omega), gd_of (by omega) (by omega), gd_of (by omega) (by omega), m_rd hm _ (by omega) (by omega), show a_Mo_all o = (24, 0, 0) from rfl]
  exact ⟨_, rfl, hm.wt (InR_iff.mpr ⟨by omega, by omega⟩), (Only.refl mal s).wt rfl _ _⟩
theorem call_sets (w v : Int) : Call (f_X10_sets oF w v) (f_X11_sets oM w v) := by
  refine call_op (op := f_X6_setValue (1, 0, 0) w v) (now := f_X11_setNow oM w v) (fun s => rfl) (fun A hw => ?_)
  by_cases h : isSet w v
  · refine ⟨0, A (135 + w), setA A w v, by omega, fun _ => ⟨?_, set_WF hw h⟩, fun s1 h1 => ?_, fun s hs => ?_, fun _ s1 h1 => e_setNow h1 h oM⟩
    · obtain ⟨w1, w2, w3, w4, w5, w6, w7, w8⟩ := hw
      rcases h with ⟨rfl, _⟩ | ⟨rfl, _⟩ | ⟨rfl, _⟩ | ⟨rfl, _⟩
      · exact w4.1
      · exact w5.1
      · have : (0 : Int) ≤ A 137 := by omega
        exact this
      · exact w7.1
    · exact (e_setValue h1 hw).1 h
    · obtain ⟨b, e1, e2, e3⟩ := e_isSetting w v s
      unfold f_X11_sets
      rw [e1, bd_eq, e2 h]
      rfl
  · refine ⟨-2, 0, A, by omega, fun z => by omega, fun s1 h1 => by rw [if_pos (by omega), if_pos (by omega)]; exact ⟨s1, (e_setValue h1 hw).2 h, h1, Only.refl _ _⟩, fun s hs => ?_, fun z => by omega⟩
    obtain ⟨b, e1, e2, e3⟩ := e_isSetting w v s
    unfold f_X11_sets
    rw [e1, bd_eq, e3 h]
    rfl
end LINES
