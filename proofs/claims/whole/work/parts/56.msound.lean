/-! the model: an order's sounds and faults -/
section MSOUND
variable {s : u_S} {A : Int → Int} {n c : Nat} {j : Int} {to : u_O}
theorem vo_VB (n c : Nat) (h : ∀ k : Int, 0 ≤ k → k < n → vo 10 n c k ≤ 3) : VB (vo 10 n c) n := fun k a b => ⟨(vo_b n c k).1, h k a b⟩
theorem e_sound (hm : MR s A) (hw : ∀ l, 0 ≤ l → l ≤ 3 → WL A l) (h2 : 2 ≤ n) (h4 : n ≤ 4) (hc : c < 10 ^ 4) (hV : VB (vo 10 n c) n) (hl : alen to = 4) (hto : to ≠ (24, 0, 0)) (j0 : 0 ≤ j) (j1 : j < 2 * (n : Int)) : ∃ s', f_X11_sound oM to (n : Int) (c : Int) j s = some ((if exJ A n j then 1 else 0), s') ∧ Only (fun o => o = to) s s' ∧ MS s' to (SB A (vo 10 n c) j 0) (SB A (vo 10 n c) j 1) (SB A (vo 10 n c) j 2) (SB A (vo 10 n c) j 3) := by
  have hl0 := hw 0 (by omega) (by omega)
  have hlen := hl0.lenb
  have hv := hV (j / 2) (by omega) (by omega)
  have hmul : ∀ k : Int, 0 ≤ k → k ≤ 4 → 0 ≤ k * lenA A 0 ∧ k * lenA A 0 ≤ 160 := by
    intro k k0 k1
    rcases (show k = 0 ∨ k = 1 ∨ k = 2 ∨ k = 3 ∨ k = 4 by omega) with rfl | rfl | rfl | rfl | rfl <;> omega
  have hm0 := hmul (j / 2) (by omega) (by omega)
  have hm1 := hmul (j / 2 + 1) (by omega) (by omega)
  have evo : f_X11_voice (n : Int) (c : Int) (j / 2) s = some (vo 10 n c (j / 2), s) := e_voice hc h4 (by omega) (by omega) s
  have elen : f_X11_length oM 0 s = some (lenA A 0, s) := e_mlength hm hl0 oM (by omega) (by omega)
  generalize hV2 : vo 10 n c (j / 2) = v at *
  have sb : SB A (vo 10 n c) j = if j % 2 = 0 then pick5 0 (if j / 2 % 2 = 0 then 0 else 1) (-7 * v) (j / 2 * lenA A 0) v else pick5 1 0 (if j / 2 % 2 = 0 then -7 * v + 4 else -7 * v) ((j / 2 + 1) * lenA A 0) v := by
    unfold SB
    rw [hV2]
  rw [sb]
  have i0 : ∀ x : Int, -1000 ≤ x → x ≤ 1000 → InR x := fun x a b => InR_iff.mpr ⟨by omega, by omega⟩
  unfold f_X11_sound
  rw [Int.tdiv_eq_ediv_of_nonneg j0, wr_of (x := j / 2) (by omega) (by omega), evo, bd_eq, Int.tmod_eq_emod_of_nonneg j0, Int.tmod_eq_emod_of_nonneg (show 0 ≤ j / 2 by omega), wr_of (x := (n : Int) - 1) (by omega) (by omega), wr_of (x := -7 * v) (by omega) (by omega), wr_of (x := -7 * v + 4) (by omega) (by omega), wr_of (x := j / 2 + 1) (by omega) (by omega)]
  simp only [jn_eq]
  by_cases hp : j % 2 = 0
  · obtain ⟨s1, x1, x2, x3⟩ := e_puts (s := s) (r := to) (l := 0) (f := if j / 2 % 2 = 0 then 0 else 1) (m := -7 * v) (st := j / 2 * lenA A 0) hl (i0 _ (by omega) (by omega)) (i0 _ (by split <;> omega) (by split <;> omega)) (i0 _ (by omega) (by omega)) (i0 _ (by omega) (by omega))
    refine ⟨s1, ?_, x2, by rw [if_pos hp]; exact x3⟩
    rw [if_neg (show ¬ j % 2 = 1 by omega), elen, bd_eq, if_pos trivial, wr_of (x := j / 2 * lenA A 0) (by omega) (by omega), if_pos (show exJ A n j from Or.inl hp)]
    by_cases hq : j / 2 % 2 = 0
    · rw [if_pos hq] at x1 ⊢
      rw [x1, bd_eq, if_pos trivial]
    · rw [if_neg hq] at x1 ⊢
      rw [x1, bd_eq, if_pos trivial]
  · obtain ⟨s1, x1, x2, x3⟩ := e_puts (s := s) (r := to) (l := 1) (f := 0) (m := if j / 2 % 2 = 0 then -7 * v + 4 else -7 * v) (st := (j / 2 + 1) * lenA A 0) hl (i0 _ (by omega) (by omega)) (i0 _ (by omega) (by omega)) (i0 _ (by split <;> omega) (by split <;> omega)) (i0 _ (by omega) (by omega))
    have en : f_X11_notes oM 1 s1 = some (cntA A 1, s1) := e_notes (hm.keep x2 (fun z => hto z.symm)) oM (by omega) (by omega)
    refine ⟨s1, ?_, x2, by rw [if_neg hp]; exact x3⟩
    rw [if_pos (show j % 2 = 1 by omega), elen, bd_eq, if_neg (by omega), wr_of (x := (j / 2 + 1) * lenA A 0) (by omega) (by omega)]
    have fin : (if (1 : Int) = 0 then some ((1 : Int), s1) else if j / 2 < (n : Int) - 1 then bd (f_X11_notes oM 1 s1) (fun r_3 s_6 => if r_3 ≤ 0 then some (0, s_6) else some (1, s_6)) else some (0, s1)) = some ((if exJ A n j then 1 else 0), s1) := by
      rw [if_neg (by omega), en, bd_eq]
      by_cases h1 : j / 2 < (n : Int) - 1
      · rw [if_pos h1]
        by_cases h2 : cntA A 1 ≤ 0
        · rw [if_pos h2, if_neg (fun z => by
            rcases z with z | z
            · omega
            · have := z.2; omega)]
        · rw [if_neg h2, if_pos (Or.inr ⟨h1, by omega⟩)]
      · rw [if_neg h1, if_neg (fun z => by
          rcases z with z | z
          · omega
          · exact h1 z.1)]
    by_cases hq : j / 2 % 2 = 0
    · rw [if_pos hq] at x1 ⊢
      rw [x1, bd_eq]
      exact fin
    · rw [if_neg hq] at x1 ⊢
      rw [x1, bd_eq]
      exact fin
theorem tF_b (hw : WF A) {v : Int} {V : Int → Int} (h4 : v ≤ 4) (hV : VB V v) {i : Int} (i0 : 0 ≤ i) (i1 : i < 2 * v) (j : Int) : 0 ≤ tF A V v i j ∧ tF A V v i j ≤ 240 := by
  have hs := SB_b (V := V) (hw.1 0 (by omega) (by omega)) h4 hV i0 i1
  have := cnW_b (A := A) (B := SB A V) (e := i) (g := j) (hw.1 (SB A V i 0) (by omega) (by omega)) (w := 3) (by omega)
  unfold tF
  split
  · split <;> omega
  · omega
/-- of one pair -/
theorem e_pairF (hm : MR s A) (hw : WF A) (h2 : 2 ≤ n) (h4 : n ≤ 4) (hc : c < 10 ^ 4) (hV : VB (vo 10 n c) n) {i : Int} (i0 : 0 ≤ i) (i1 : i < 2 * (n : Int)) (j0 : 0 ≤ j) (j1 : j < 2 * (n : Int)) {P : Int} (p0 : 0 ≤ P ∧ P ≤ 1000000) (m : Nat) (kx : Int → u_S → Option (Int × u_S)) : ∃ s', f_X11_orderFaults_L16 (m + 1) kx oM (n : Int) (c : Int) i P j s = f_X11_orderFaults_L16 m kx oM (n : Int) (c : Int) i (P + tF A (vo 10 n c) n i j) (j + 1) s' ∧ Only mst s s' := by
  have hto := hw.2.2.2.2.1
  have hmt := hw.2.2.2.2.2.1.1
  have bi := SB_b (V := vo 10 n c) (hw.1 0 (by omega) (by omega)) (show (n : Int) ≤ 4 by omega) hV i0 i1
  have bj := SB_b (V := vo 10 n c) (hw.1 0 (by omega) (by omega)) (show (n : Int) ≤ 4 by omega) hV j0 j1
  have tb := tF_b (V := vo 10 n c) hw (show (n : Int) ≤ 4 by omega) hV i0 i1 j
  rw [f_X11_orderFaults_L16, wr_of (x := 2 * (n : Int)) (by omega) (by omega), if_pos j1, Int.tdiv_eq_ediv_of_nonneg i0, Int.tdiv_eq_ediv_of_nonneg j0, wr_of (x := i / 2) (by omega) (by omega), wr_of (x := j / 2) (by omega) (by omega), e_voice hc h4 (by omega) (by omega), bd_eq, e_voice hc h4 (by omega) (by omega), bd_eq, wr_of (x := j + 1) (by omega) (by omega)]
  simp only [jn_eq]
  unfold tF at tb ⊢
  by_cases hlt : vo 10 n c (i / 2) < vo 10 n c (j / 2)
  · rw [if_pos hlt] at tb
    rw [if_pos hlt, if_pos hlt, if_neg (by omega)]
    obtain ⟨s1, x1, x2, x3⟩ := e_sound (to := (24, 5, 0)) hm hw.1 h2 h4 hc hV rfl (by decide) i0 i1
    rw [show a_Mo_upper oM = (24, 5, 0) from rfl, show a_Mo_lower oM = (24, 6, 0) from rfl, x1, bd_eq]
    have m1 : MR s1 A := hm.keep x2 (by simp)
    have o1 : Only mst s s1 := x2.mono (fun o h => Or.inl (Or.inl h))
    by_cases ei : exJ A n i
    · rw [if_pos ei, if_neg (by omega)]
      obtain ⟨s2, y1, y2, y3⟩ := e_sound (to := (24, 6, 0)) m1 hw.1 h2 h4 hc hV rfl (by decide) j0 j1
      rw [y1, bd_eq]
      have o2 : Only mst s s2 := o1.trans (y2.mono (fun o h => Or.inl (Or.inr h)))
      by_cases ej : exJ A n j
      · rw [if_pos ⟨ei, ej⟩] at tb
        rw [if_pos ej, if_neg (by omega), if_pos ⟨ei, ej⟩]
        have m2 : MR s2 A := m1.keep y2 (by simp)
        have hkd : kdB A (SB A (vo 10 n c)) i j = flt (A 137) (hrB A (SB A (vo 10 n c)) i) (hrB A (SB A (vo 10 n c)) j) := by
          funext t
          unfold kdB kda
          rw [SB_4, SB_4, if_neg (by omega), if_pos hlt]
        obtain ⟨s3, z1, z2⟩ := e_faultsOf m2 (hw.1 _ (by omega) (by omega)) (show 0 ≤ SB A (vo 10 n c) i 0 by omega) (by omega) (hw.1 _ (by omega) (by omega)) (show 0 ≤ SB A (vo 10 n c) j 0 by omega) (by omega) hto hmt (x3.keep y2 (by simp)) y3 (by omega) (by omega) (by omega) (by omega) (w := 3) (by omega) (by omega) (C := fun k => cnB A (SB A (vo 10 n c)) i j k) (fun k a b => by
          unfold cnB
          rw [hkd]
          rfl) (fun k a b => cnB_b (hw.1 _ (by omega) (by omega)) a b)
        refine ⟨s3, ?_, o2.trans (z2.mono (fun o h => Or.inr h))⟩
        have e3 : f_X11_faultsOf oM 3 s2 = some (cnW A (SB A (vo 10 n c)) i j 3, s3) := z1
        rw [e3, bd_eq, wr_of (by omega) (by omega)]
      · rw [if_neg ej, if_pos rfl, if_neg (fun z => ej z.2), Int.add_zero]
        exact ⟨s2, rfl, o2⟩
    · rw [if_neg ei, if_pos rfl, if_neg (fun z => ei z.1), Int.add_zero]
      exact ⟨s1, rfl, o1⟩
  · rw [if_neg hlt, if_neg hlt, if_pos trivial, Int.add_zero]
    exact ⟨s, rfl, Only.refl _ _⟩
theorem e_orderRow (hm : MR s A) (hw : WF A) (h2 : 2 ≤ n) (h4 : n ≤ 4) (hc : c < 10 ^ 4) (hV : VB (vo 10 n c) n) {i : Int} (i0 : 0 ≤ i) (i1 : i < 2 * (n : Int)) {P : Int} (p0 : 0 ≤ P ∧ P ≤ 500000) (kx : Int → u_S → Option (Int × u_S)) : ∃ s', f_X11_orderFaults_L16 FU kx oM (n : Int) (c : Int) i P 0 s = kx (P + sm (fun j => tF A (vo 10 n c) n i j) (2 * n)) s' ∧ Only mst s s' := by
  have hb : ∀ j : Nat, j ≤ 2 * n → 0 ≤ sm (fun j => tF A (vo 10 n c) n i j) j ∧ sm (fun j => tF A (vo 10 n c) n i j) j ≤ 1920 := by
    intro j hj
    have h1 := sm_ge (f := fun j => tF A (vo 10 n c) n i j) (b := 0) (n := j) (fun k _ _ => (tF_b hw (by omega) hV i0 i1 k).1)
    have h2 := sm_le (f := fun j => tF A (vo 10 n c) n i j) (b := 240) (n := j) (fun k _ _ => (tF_b hw (by omega) hV i0 i1 k).2)
    omega
  obtain ⟨b, q, e1, e2, e3⟩ := loop_relfu (fun m (b : Int × Int × u_S) => f_X11_orderFaults_L16 m kx oM (n : Int) (c : Int) i b.1 b.2.1 b.2.2) (fun j b => b.1 = P + sm (fun j => tF A (vo 10 n c) n i j) j ∧ b.2.1 = (j : Int) ∧ Only mst s b.2.2) (fun b => kx b.1 b.2.2) (2 * n) (by omega) (by
    intro j b m hj ⟨e1, e2, e3⟩
    obtain ⟨b1, b2, s1⟩ := b
    dsimp only at e1 e2 e3
    subst e1 e2
    have := hb j (by omega)
    obtain ⟨s2, x1, x2⟩ := e_pairF (j := (j : Int)) (P := P + sm (fun j => tF A (vo 10 n c) n i j) j) (hm.keep e3 (by simp [mst, mso])) hw h2 h4 hc hV i0 i1 (by omega) (by omega) (by omega) m kx
    refine ⟨(P + sm (fun j => tF A (vo 10 n c) n i j) j + tF A (vo 10 n c) n i j, (j : Int) + 1, s2), x1, ?_, by dsimp only; omega, e3.trans x2⟩
    dsimp only
    rw [sm]
    omega) (by
    intro b m ⟨e1, e2, e3⟩
    rw [f_X11_orderFaults_L16, wr_of (x := 2 * (n : Int)) (by omega) (by omega), if_neg (by omega)]) (P, 0, s) ⟨by show P = P + 0; omega, rfl, Only.refl _ _⟩
  refine ⟨b.2.2, ?_, e3⟩
  rw [e1] at q
  exact q
theorem e_orderFaults (hm : MR s A) (hw : WF A) (h2 : 2 ≤ n) (h4 : n ≤ 4) (hc : c < 10 ^ 4) (hV : VB (vo 10 n c) n) : ∃ s', f_X11_orderFaults oM (n : Int) (c : Int) s = some (orF A (vo 10 n c) n, s') ∧ Only mst s s' := by
  have hr : ∀ i : Int, 0 ≤ i → i < 2 * n → 0 ≤ sm (fun j => tF A (vo 10 n c) n i j) (2 * n) ∧ sm (fun j => tF A (vo 10 n c) n i j) (2 * n) ≤ 1920 := by
    intro i i0 i1
    have h1 := sm_ge (f := fun j => tF A (vo 10 n c) n i j) (b := 0) (n := 2 * n) (fun k _ _ => (tF_b hw (by omega) hV i0 i1 k).1)
    have h2 := sm_le (f := fun j => tF A (vo 10 n c) n i j) (b := 240) (n := 2 * n) (fun k _ _ => (tF_b hw (by omega) hV i0 i1 k).2)
    omega
  have hb : ∀ i : Nat, i ≤ 2 * n → 0 ≤ sm (fun i => sm (fun j => tF A (vo 10 n c) n i j) (2 * n)) i ∧ sm (fun i => sm (fun j => tF A (vo 10 n c) n i j) (2 * n)) i ≤ 15360 := by
    intro i hi
    have h1 := sm_ge (f := fun i => sm (fun j => tF A (vo 10 n c) n i j) (2 * n)) (b := 0) (n := i) (fun k a b => (hr k a (by omega)).1)
    have h2 := sm_le (f := fun i => sm (fun j => tF A (vo 10 n c) n i j) (2 * n)) (b := 1920) (n := i) (fun k a b => (hr k a (by omega)).2)
    omega
  have hmd := md_or (A := A) (V := vo 10 n c) (v := (n : Int)) (by omega) (by omega)
  unfold mdF at hmd
  rw [show (2 * (n : Int)).toNat = 2 * n by omega] at hmd
  unfold f_X11_orderFaults
  obtain ⟨b, q, e1, e2, e3⟩ := loop_relfu (fun m (b : Int × Int × u_S) => f_X11_orderFaults_L5 m (fun v3_1 s_1 => some (v3_1, s_1)) oM (n : Int) (c : Int) b.1 b.2.1 b.2.2) (fun i b => b.1 = sm (fun i => sm (fun j => tF A (vo 10 n c) n i j) (2 * n)) i ∧ b.2.1 = (i : Int) ∧ Only mst s b.2.2) (fun b => some (b.1, b.2.2)) (2 * n) (by omega) (by
    intro i b m hi ⟨e1, e2, e3⟩
    obtain ⟨b1, b2, s1⟩ := b
    dsimp only at e1 e2 e3
    subst e1 e2
    have := hb i (by omega)
    obtain ⟨s2, x1, x2⟩ := e_orderRow (i := (i : Int)) (P := sm (fun i => sm (fun j => tF A (vo 10 n c) n i j) (2 * n)) i) (hm.keep e3 (by simp [mst, mso])) hw h2 h4 hc hV (by omega) (by omega) (by omega) (fun v3_3 s_3 => f_X11_orderFaults_L5 m (fun v3_1 s_1 => some (v3_1, s_1)) oM (n : Int) (c : Int) v3_3 (wr ((i : Int) + 1)) s_3)
    refine ⟨(sm (fun i => sm (fun j => tF A (vo 10 n c) n i j) (2 * n)) (i + 1), wr ((i : Int) + 1), s2), ?_, rfl, by dsimp only; rw [wr_of (by omega) (by omega)]; omega, e3.trans x2⟩
    dsimp only
    rw [f_X11_orderFaults_L5, wr_of (x := 2 * (n : Int)) (by omega) (by omega), if_pos (by omega), x1]
    rfl) (by
    intro b m ⟨e1, e2, e3⟩
    rw [f_X11_orderFaults_L5, wr_of (x := 2 * (n : Int)) (by omega) (by omega), if_neg (by omega)]) (0, 0, s) ⟨rfl, rfl, Only.refl _ _⟩
  refine ⟨b.2.2, ?_, e3⟩
  rw [e1, hmd] at q
  exact q
end MSOUND
