/-! an order laid as entries -/
def SB (A V : Int → Int) (j : Int) : Int → Int := if j % 2 = 0 then pick5 0 (if j / 2 % 2 = 0 then 0 else 1) (-7 * V (j / 2)) (j / 2 * lenA A 0) (V (j / 2)) else pick5 1 0 (if j / 2 % 2 = 0 then -7 * V (j / 2) + 4 else -7 * V (j / 2)) ((j / 2 + 1) * lenA A 0) (V (j / 2))
abbrev exJ (A : Int → Int) (v j : Int) : Prop := j % 2 = 0 ∨ (j / 2 < v - 1 ∧ 0 < cntA A 1)
def layJ (A V : Int → Int) (v : Int) : Nat → Int → Int
  | 0 => upA A 84 0
  | j + 1 => if exJ A v j then entsA (layJ A V v j) (SB A V j 0) (SB A V j 1) (SB A V j 2) (SB A V j 3) (SB A V j 4) else layJ A V v j
def nJ (A : Int → Int) (v j : Int) : Int := if 0 < cntA A 1 then min j (2 * v - 1) else (j + 1) / 2
def ixO (A : Int → Int) (e : Int) : Int := if 0 < cntA A 1 then e else 2 * e
def VB (V : Int → Int) (v : Int) : Prop := ∀ k, 0 ≤ k → k < v → 0 ≤ V k ∧ V k ≤ 3
theorem pick5_self (g : Int → Int) {k : Int} (h0 : 0 ≤ k) (h1 : k < 5) : pick5 (g 0) (g 1) (g 2) (g 3) (g 4) k = g k := by
  rcases (show k = 0 ∨ k = 1 ∨ k = 2 ∨ k = 3 ∨ k = 4 by omega) with rfl | rfl | rfl | rfl | rfl <;> rfl
section LAY
variable {s : u_S} {A V : Int → Int} {v : Int}
theorem SB_even (k : Int) : SB A V (2 * k) = pick5 0 (if k % 2 = 0 then 0 else 1) (-7 * V k) (k * lenA A 0) (V k) := by
  unfold SB
  rw [if_pos (by omega), show 2 * k / 2 = k by omega]
theorem SB_odd (k : Int) : SB A V (2 * k + 1) = pick5 1 0 (if k % 2 = 0 then -7 * V k + 4 else -7 * V k) ((k + 1) * lenA A 0) (V k) := by
  unfold SB
  rw [if_neg (by omega), show (2 * k + 1) / 2 = k by omega]
theorem lay_fact (h2 : 2 ≤ v) (h4 : v ≤ 4) : ∀ j : Nat, (j : Int) ≤ 2 * v → layJ A V v j 84 = nJ A v j ∧ (∀ e i : Int, 0 ≤ e → e < nJ A v j → 0 ≤ i → i < 5 → entA (layJ A V v j) e i = SB A V (ixO A e) i) ∧ ∀ k : Int, k < 84 ∨ 134 < k → layJ A V v j k = A k
  | 0, _ => by
    have e : nJ A v ((0 : Nat) : Int) = 0 := by unfold nJ; split <;> omega
    refine ⟨?_, fun e' i a b => absurd b (by omega), fun k hk => ?_⟩
    · rw [e]; exact upA_same _ _ _
    · exact upA_ne (by omega)
  | j + 1, hj => by
    obtain ⟨i1, i2, i3⟩ := lay_fact h2 h4 j (by omega)
    have hb : 0 ≤ nJ A v j ∧ nJ A v j ≤ 7 := by unfold nJ; split <;> omega
    by_cases hx : exJ A v j
    · have en : nJ A v ((j + 1 : Nat) : Int) = nJ A v j + 1 := by unfold nJ; split <;> omega
      have ex : ixO A (nJ A v j) = j := by unfold nJ ixO; split <;> omega
      rw [layJ, if_pos hx]
      refine ⟨by rw [ents_84, i1, en], fun e i a b c d => ?_, fun k hk => ?_⟩
      · rw [ents_e (by rw [i1]; omega) a (by rw [i1]; omega) c d, i1]
        by_cases he : e = nJ A v j
        · rw [if_pos he, pick5_self _ c d, he, ex]
        · rw [if_neg he]
          exact i2 e i a (by omega) c d
      · rw [ents_out (by rw [i1]; omega) k hk]
        exact i3 k hk
    · have en : nJ A v ((j + 1 : Nat) : Int) = nJ A v j := by unfold nJ; split <;> omega
      rw [layJ, if_neg hx, en]
      exact ⟨i1, i2, i3⟩
theorem SB_b (hl : WL A 0) (h4 : v ≤ 4) (hV : VB V v) {j : Int} (h0 : 0 ≤ j) (h1 : j < 2 * v) : (0 ≤ SB A V j 0 ∧ SB A V j 0 ≤ 1) ∧ (0 ≤ SB A V j 1 ∧ SB A V j 1 ≤ 1) ∧ (-21 ≤ SB A V j 2 ∧ SB A V j 2 ≤ 4) ∧ (0 ≤ SB A V j 3 ∧ SB A V j 3 ≤ 160) ∧ 0 ≤ SB A V j 4 ∧ SB A V j 4 ≤ 3 := by
  have hlen := hl.lenb
  have hv := hV (j / 2) (by omega) (by omega)
  have hm : ∀ k : Int, 0 ≤ k → k ≤ 4 → 0 ≤ k * lenA A 0 ∧ k * lenA A 0 ≤ 160 := by
    intro k k0 k1
    rcases (show k = 0 ∨ k = 1 ∨ k = 2 ∨ k = 3 ∨ k = 4 by omega) with rfl | rfl | rfl | rfl | rfl <;> omega
  rcases (show j = 2 * (j / 2) ∨ j = 2 * (j / 2) + 1 by omega) with e | e
  · have h3 := hm (j / 2) (by omega) (by omega)
    rw [e, SB_even]
    refine ⟨⟨?_, ?_⟩, ⟨?_, ?_⟩, ⟨?_, ?_⟩, ⟨?_, ?_⟩, ?_, ?_⟩
    · show (0 : Int) ≤ 0; omega
    · show (0 : Int) ≤ 1; omega
    · show 0 ≤ if j / 2 % 2 = 0 then (0 : Int) else 1; split <;> omega
    · show (if j / 2 % 2 = 0 then (0 : Int) else 1) ≤ 1; split <;> omega
    · show -21 ≤ -7 * V (j / 2); omega
    · show -7 * V (j / 2) ≤ 4; omega
    · exact h3.1
    · exact h3.2
    · exact hv.1
    · exact hv.2
  · have h3 := hm (j / 2 + 1) (by omega) (by omega)
    rw [e, SB_odd]
    refine ⟨⟨?_, ?_⟩, ⟨?_, ?_⟩, ⟨?_, ?_⟩, ⟨?_, ?_⟩, ?_, ?_⟩
    · show (0 : Int) ≤ 1; omega
    · show (1 : Int) ≤ 1; omega
    · show (0 : Int) ≤ 0; omega
    · show (0 : Int) ≤ 1; omega
    · show -21 ≤ if j / 2 % 2 = 0 then -7 * V (j / 2) + 4 else -7 * V (j / 2); split <;> omega
    · show (if j / 2 % 2 = 0 then -7 * V (j / 2) + 4 else -7 * V (j / 2)) ≤ 4; split <;> omega
    · exact h3.1
    · exact h3.2
    · exact hv.1
    · exact hv.2
/-- the entries of an order are as told -/
theorem lay_WF (hw : WF A) (h2 : 2 ≤ v) (h4 : v ≤ 4) (hV : VB V v) (hne : ∀ k k', 0 ≤ k → k < k' → k' < v → V k ≠ V k') : WF (layJ A V v (2 * v).toNat) := by
  obtain ⟨f1, f2, f3⟩ := lay_fact (A := A) (V := V) h2 h4 (2 * v).toNat (by omega)
  have hl0 := hw.1 0 (by omega) (by omega)
  have hn : nJ A v ((2 * v).toNat : Int) = if 0 < cntA A 1 then 2 * v - 1 else v := by unfold nJ; split <;> omega
  have hnb : 0 ≤ nJ A v ((2 * v).toNat : Int) ∧ nJ A v ((2 * v).toNat : Int) ≤ 7 := by rw [hn]; split <;> omega
  have hix : ∀ e, 0 ≤ e → e < nJ A v ((2 * v).toNat : Int) → 0 ≤ ixO A e ∧ ixO A e < 2 * v := by
    intro e a b
    rw [hn] at b
    unfold ixO
    split <;> split at b <;> omega
  have hln : ∀ l, 0 ≤ l → l ≤ 3 → ∀ f, lastA (layJ A V v (2 * v).toNat) l f = lastA A l f := by
    intro l a b f
    unfold lastA
    rw [len_congr (fun k x y => f3 k (Or.inl (by omega))) (hw.1 l a b)]
  refine hw.ent f3 ⟨by rw [f1]; omega, fun e a b => ?_⟩ (fun e g a b c d => ?_)
  · rw [f1] at b
    have hi := hix e a b
    have hs := SB_b (V := V) hl0 h4 hV hi.1 hi.2
    rw [f2 e 0 a b (by omega) (by omega), f2 e 1 a b (by omega) (by omega), f2 e 2 a b (by omega) (by omega), f2 e 3 a b (by omega) (by omega), f2 e 4 a b (by omega) (by omega)]
    omega
  · rw [f1] at c
    have hie := hix e a (by omega)
    have hig := hix g (by omega) c
    rw [f2 e 4 a (by omega) (by omega) (by omega), f2 g 4 (by omega) c (by omega) (by omega)] at d
    left
    have hse := SB_b (V := V) hl0 h4 hV hie.1 hie.2
    unfold endA
    rw [f2 e 0 a (by omega) (by omega) (by omega), f2 e 1 a (by omega) (by omega) (by omega), f2 e 3 a (by omega) (by omega) (by omega), f2 g 3 (by omega) c (by omega) (by omega), hln _ (by omega) (by omega)]
    have v4 : ∀ j, SB A V j 4 = V (j / 2) := by
      intro j
      rcases (show j = 2 * (j / 2) ∨ j = 2 * (j / 2) + 1 by omega) with x | x
      · rw [x, SB_even, show 2 * (j / 2) / 2 = j / 2 by omega]; rfl
      · rw [x, SB_odd, show (2 * (j / 2) + 1) / 2 = j / 2 by omega]; rfl
    rw [v4, v4] at d
    have hlt : ixO A e < ixO A g := by unfold ixO; split <;> omega
    have hk : ixO A e / 2 = ixO A g / 2 := by
      rcases (show ixO A e / 2 = ixO A g / 2 ∨ ixO A e / 2 < ixO A g / 2 by omega) with x | x
      · exact x
      · exact absurd d (hne _ _ (by omega) x (by omega))
    obtain ⟨q, hq⟩ : ∃ q, q = ixO A e / 2 := ⟨_, rfl⟩
    have ee : ixO A e = 2 * q := by omega
    have eg : ixO A g = 2 * q + 1 := by omega
    rw [ee, eg, SB_even, SB_odd]
    show q * lenA A 0 + lastA A 0 (if q % 2 = 0 then 0 else 1) ≤ (q + 1) * lenA A 0
    have : lastA A 0 (if q % 2 = 0 then 0 else 1) = lenA A 0 := by
      unfold lastA
      rw [if_neg (by split <;> omega)]
    rw [this, Int.add_mul]
    omega
theorem ne_eob {p q : Nat} (h : p ≠ q) (o : u_O) (h1 : pob p o) : ¬ eob q o := fun z => h (h1.1.symm.trans z.1)
theorem e_layStep (hs : CP s 0 A) (hw : WF A) (h2 : 2 ≤ v) (h4 : v ≤ 4) (hV : VB V v) (hrow : ∀ k, 0 ≤ k → k < v → rd s (19, 0, 0) k = V k) {k : Nat} (hk : (k : Int) < v) (he : ER s 7 (layJ A V v (2 * k))) (m : Nat) (kx : u_S → Option (Int × u_S)) : ∃ s', f_X10_layRow_L23 (m + 1) kx oF v (lenA A 0) (k : Int) s = f_X10_layRow_L23 m kx oF v (lenA A 0) ((k + 1 : Nat) : Int) s' ∧ Only (eob 7) s s' ∧ ER s' 7 (layJ A V v (2 * (k + 1))) := by
  have hl0 := hw.1 0 (by omega) (by omega)
  have hlen := hl0.lenb
  have hv := hV k (by omega) hk
  have hm : ∀ k : Int, 0 ≤ k → k ≤ 4 → 0 ≤ k * lenA A 0 ∧ k * lenA A 0 ≤ 160 := by
    intro k k0 k1
    rcases (show k = 0 ∨ k = 1 ∨ k = 2 ∨ k = 3 ∨ k = 4 by omega) with rfl | rfl | rfl | rfl | rfl <;> omega
  have hm0 := hm k (by omega) (by omega)
  have hm1 := hm ((k : Int) + 1) (by omega) (by omega)
  have f0 := lay_fact (A := A) (V := V) h2 h4 (2 * k) (by omega)
  have f1 := lay_fact (A := A) (V := V) h2 h4 (2 * k + 1) (by omega)
  have n0 : 0 ≤ nJ A v ((2 * k : Nat) : Int) ∧ nJ A v ((2 * k : Nat) : Int) < 10 := by unfold nJ; split <;> omega
  have n1 : 0 ≤ nJ A v ((2 * k + 1 : Nat) : Int) ∧ nJ A v ((2 * k + 1 : Nat) : Int) < 10 := by unfold nJ; split <;> omega
  have E0 : layJ A V v (2 * k + 1) = entsA (layJ A V v (2 * k)) 0 (if (k : Int) % 2 = 0 then 0 else 1) (-7 * V k) (k * lenA A 0) (V k) := by
    rw [layJ, if_pos (Or.inl (by omega)), show ((2 * k : Nat) : Int) = 2 * (k : Int) by omega, SB_even]
    rfl
  have E1 : layJ A V v (2 * (k + 1)) = if (k : Int) < v - 1 ∧ 0 < cntA A 1 then entsA (layJ A V v (2 * k + 1)) 1 0 (if (k : Int) % 2 = 0 then -7 * V k + 4 else -7 * V k) (((k : Int) + 1) * lenA A 0) (V k) else layJ A V v (2 * k + 1) := by
    rw [show 2 * (k + 1) = (2 * k + 1) + 1 by omega, layJ, show ((2 * k + 1 : Nat) : Int) = 2 * (k : Int) + 1 by omega, SB_odd]
    by_cases hx : (k : Int) < v - 1 ∧ 0 < cntA A 1
    · rw [if_pos hx, if_pos (Or.inr ⟨by omega, hx.2⟩)]
      rfl
    · rw [if_neg hx, if_neg (fun z => by
        rcases z with z | z
        · omega
        · exact hx ⟨by omega, z.2⟩)]
  obtain ⟨s1, x1, x2, x3⟩ := e_entAppend (s := s) (p := 7) (A := layJ A V v (2 * k)) (l := 0) (f := if (k : Int) % 2 = 0 then 0 else 1) (m := -7 * V k) (st := k * lenA A 0) (v := V k) he (by rw [f0.1]; exact n0) (by omega) (by split <;> omega) (by omega) (by omega) (by omega)
  rw [← E0] at x3
  have hr0 : rd s (19, 0, 0) (k : Int) = V k := hrow k (by omega) hk
  have hr1 : rd s1 (19, 0, 0) (k : Int) = V k := by rw [x2.rd (by simp [eob])]; exact hr0
  have emp : f_X5_isEmpty (3, 0, 1) s1 = some ((if cntA A 1 ≤ 0 then 1 else 0), s1) := e_isEmpty ((hs.keep x2 (fun o h => ne_eob (by decide) o h)).1 1 (by omega) (by omega))
  have ej1 : ∀ (K : Int → u_S → Option (Int × u_S)), jn K (fun jp_1 => if (Int.tmod (k : Int) 2) = 0 then (jp_1 1 s) else (jp_1 0 s)) = K (if (k : Int) % 2 = 0 then 1 else 0) s := by
    intro K
    rw [jn_eq, Int.tmod_eq_emod_of_nonneg (by omega)]
    split <;> rfl
  have ej2 : ∀ (K : u_O → Int → Int → u_S → Option (Int × u_S)), jn K (fun jp_2 => if (if (k : Int) % 2 = 0 then (1 : Int) else 0) = 0 then (jp_2 (a_FP_rowEntries oF) 0 1 s) else (jp_2 (a_FP_rowEntries oF) 0 0 s)) = K (6, 7, 0) 0 (if (k : Int) % 2 = 0 then 0 else 1) s := by
    intro K
    rw [jn_eq]
    by_cases h : (k : Int) % 2 = 0
    · rw [if_pos h, if_neg (by omega), if_pos h]; rfl
    · rw [if_neg h, if_pos rfl, if_neg h]; rfl
  have ej3 : ∀ (K : u_O → Int → Int → Int → u_S → Option (Int × u_S)), jn K (fun jp_4 => if (if (k : Int) % 2 = 0 then (1 : Int) else 0) = 0 then (jp_4 (a_FP_rowEntries oF) 1 0 (-7 * V k) s1) else (jp_4 (a_FP_rowEntries oF) 1 0 (-7 * V k + 4) s1)) = K (6, 7, 0) 1 0 (if (k : Int) % 2 = 0 then -7 * V k + 4 else -7 * V k) s1 := by
    intro K
    rw [jn_eq]
    by_cases h : (k : Int) % 2 = 0
    · rw [if_pos h, if_neg (by omega), if_pos h]; rfl
    · rw [if_neg h, if_pos rfl, if_neg h]; rfl
  rw [f_X10_layRow_L23, if_pos hk, ej1]
  try dsimp only
  rw [gd_of (by omega) (by omega), show a_FP_row oF = (19, 0, 0) from rfl, ej2]
  try dsimp only
  rw [gd_of (by omega) (by omega), hr0, wr_of (x := -7 * V k) (by omega) (by omega), wr_of (x := (k : Int) * lenA A 0) (by omega) (by omega), x1, bd_eq, jn_eq, wr_of (x := v - 1) (by omega) (by omega)]
  by_cases hx : (k : Int) < v - 1 ∧ 0 < cntA A 1
  · obtain ⟨s2, y1, y2, y3⟩ := e_entAppend (s := s1) (p := 7) (A := layJ A V v (2 * k + 1)) (l := 1) (f := 0) (m := if (k : Int) % 2 = 0 then -7 * V k + 4 else -7 * V k) (st := ((k : Int) + 1) * lenA A 0) (v := V k) x3 (by rw [f1.1]; exact n1) (by omega) (by omega) (by split <;> omega) (by omega) (by omega)
    rw [if_pos hx] at E1
    rw [← E1] at y3
    refine ⟨s2, ?_, x2.trans y2, y3⟩
    rw [if_pos hx.1, gd_of (by omega) (by omega), show e_Line (a_Plan_lines (a_FP_plan oF)) 1 = (3, 0, 1) from rfl, emp, bd_eq, if_neg (show ¬ cntA A 1 ≤ 0 by omega), if_pos rfl, wr_of (x := -7 * V k + 4) (by omega) (by omega), ej3]
    dsimp only
    rw [gd_of (by omega) (by omega), hr1, wr_of (x := (k : Int) + 1) (by omega) (by omega), wr_of (x := ((k : Int) + 1) * lenA A 0) (by omega) (by omega), y1, bd_eq]
    rfl
  · rw [if_neg hx] at E1
    refine ⟨s1, ?_, x2, by rw [E1]; exact x3⟩
    by_cases hk1 : (k : Int) < v - 1
    · rw [if_pos hk1, gd_of (by omega) (by omega), show e_Line (a_Plan_lines (a_FP_plan oF)) 1 = (3, 0, 1) from rfl, emp, bd_eq, if_pos (show cntA A 1 ≤ 0 by omega), if_neg (by omega), wr_of (x := (k : Int) + 1) (by omega) (by omega)]
      rfl
    · rw [if_neg hk1, wr_of (x := (k : Int) + 1) (by omega) (by omega)]
      rfl
theorem e_layRow (hs : CP s 0 A) (hw : WF A) (h2 : 2 ≤ v) (h4 : v ≤ 4) (hV : VB V v) (hrow : ∀ k, 0 ≤ k → k < v → rd s (19, 0, 0) k = V k) : ∃ s', f_X10_layRow oF v s = some (0, s') ∧ Only (eob 7) s s' ∧ ER s' 7 (layJ A V v (2 * v).toNat) := by
  have hl0 := hw.1 0 (by omega) (by omega)
  unfold f_X10_layRow
  rw [gd_of (by omega) (by omega), show e_Line (a_Plan_lines (a_FP_plan oF)) 0 = (3, 0, 0) from rfl, show f_X5_length (3, 0, 0) s = some (lenA A 0, s) from e_length (hs.1 0 (by omega) (by omega)) hl0, bd_eq, show a_FP_rowEntries oF = (6, 7, 0) from rfl]
  obtain ⟨b, q, i1, i2, i3⟩ := loop_relfu (fun m (b : Int × u_S) => f_X10_layRow_L23 m (fun s_2 => some (0, s_2)) oF v (lenA A 0) b.1 b.2) (fun k b => b.1 = (k : Int) ∧ Only (eob 7) s b.2 ∧ ER b.2 7 (layJ A V v (2 * k))) (fun b => some (0, b.2)) v.toNat (by omega) (by
    intro k b m hk ⟨e1, e2, e3⟩
    obtain ⟨b1, s1⟩ := b
    dsimp only at e1 e2 e3
    subst e1
    obtain ⟨s2, x1, x2, x3⟩ := e_layStep (hs.keep e2 (fun o h => ne_eob (by decide) o h)) hw h2 h4 hV (fun k a b => by rw [e2.rd (by simp [eob])]; exact hrow k a b) (k := k) (by omega) e3 m (fun s_2 => some (0, s_2))
    exact ⟨(((k + 1 : Nat) : Int), s2), x1, rfl, e2.trans x2, x3⟩) (by
    intro b m ⟨e1, e2, e3⟩
    rw [f_X10_layRow_L23, if_neg (by omega)]) (0, wt s (6, 7, 0) 1 0) ⟨rfl, (Only.refl (eob 7) s).wt (by simp [eob]) _ _, by rw [rd_wt_same]; exact (upA_same A 84 0).symm, fun i k a b => absurd b (by rw [show layJ A V v (2 * 0) 84 = 0 from upA_same A 84 0]; omega)⟩
  exact ⟨b.2, q, i2, by rw [show (2 * v).toNat = 2 * v.toNat by omega]; exact i3⟩
end LAY
