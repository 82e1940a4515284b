/-! the best order: the class -/
def dsOK (n : Nat) : Bool := (P10 n).all fun c => decide (c < 10 ^ n) && (List.range n).all fun k => (List.range n).all fun k' => decide (k = k') || decide (vo 10 n c k ≠ vo 10 n c k')
theorem ds_all : dsOK 2 = true ∧ dsOK 3 = true ∧ dsOK 4 = true := by decide +kernel
theorem p10_0 : (∀ k : Fin 2, vo 10 2 ((P10 2).getD 0 0) k.val = k.val) ∧ (∀ k : Fin 3, vo 10 3 ((P10 3).getD 0 0) k.val = k.val) ∧ ∀ k : Fin 4, vo 10 4 ((P10 4).getD 0 0) k.val = k.val := by decide +kernel
section BEST
variable {s : u_S} {A : Int → Int} {n : Nat}
theorem nx_10 (h2 : 2 ≤ n) (h4 : n ≤ 4) : nxOK 10 n (P10 n) = true := by
  rcases (show n = 2 ∨ n = 3 ∨ n = 4 by omega) with rfl | rfl | rfl
  · exact nx_2
  · exact nx_3
  · exact nx_4
theorem ds_10 (h2 : 2 ≤ n) (h4 : n ≤ 4) : dsOK n = true := by
  rcases (show n = 2 ∨ n = 3 ∨ n = 4 by omega) with rfl | rfl | rfl
  · exact ds_all.1
  · exact ds_all.2.1
  · exact ds_all.2.2
theorem p10_len (h2 : 2 ≤ n) (h4 : n ≤ 4) : 2 ≤ (P10 n).length ∧ (P10 n).length ≤ 24 := by
  rcases (show n = 2 ∨ n = 3 ∨ n = 4 by omega) with rfl | rfl | rfl <;> decide
theorem p10_id (h2 : 2 ≤ n) (h4 : n ≤ 4) {k : Int} (k0 : 0 ≤ k) (k1 : k < n) : vo 10 n ((P10 n).getD 0 0) k = k := by
  obtain ⟨q, rfl⟩ : ∃ q : Nat, k = q := ⟨k.toNat, by omega⟩
  rcases (show n = 2 ∨ n = 3 ∨ n = 4 by omega) with rfl | rfl | rfl
  · exact p10_0.1 ⟨q, by omega⟩
  · exact p10_0.2.1 ⟨q, by omega⟩
  · exact p10_0.2.2 ⟨q, by omega⟩
theorem nx_get {B n : Nat} {P : List Nat} (h : nxOK B n P = true) {i : Nat} (hi : i < P.length) : (∀ k : Int, 0 ≤ k → k < n → 0 ≤ vo B n (P.getD i 0) k ∧ vo B n (P.getD i 0) k < n) ∧ (i + 1 < P.length → 0 ≤ dnI (vo B n (P.getD i 0)) (n - 1) ∧ ∀ k : Int, 0 ≤ k → k < n → nxR (vo B n (P.getD i 0)) n k = vo B n (P.getD (i + 1) 0) k) ∧ (¬ i + 1 < P.length → dnI (vo B n (P.getD i 0)) (n - 1) < 0) := by
  unfold nxOK at h
  have h1 := List.all_eq_true.mp h i (List.mem_range.mpr hi)
  rw [Bool.and_eq_true] at h1
  obtain ⟨h1, h2⟩ := h1
  refine ⟨fun k k0 k1 => ?_, fun hl => ?_, fun hl => ?_⟩
  · have h3 := List.all_eq_true.mp h1 k.toNat (List.mem_range.mpr (by omega))
    have h4 := of_decide_eq_true h3
    rwa [show ((k.toNat : Nat) : Int) = k by omega] at h4
  · rw [if_pos hl, Bool.and_eq_true] at h2
    refine ⟨of_decide_eq_true h2.1, fun k k0 k1 => ?_⟩
    have h3 := List.all_eq_true.mp h2.2 k.toNat (List.mem_range.mpr (by omega))
    have h4 := of_decide_eq_true h3
    rwa [show ((k.toNat : Nat) : Int) = k by omega] at h4
  · rw [if_neg hl] at h2
    exact of_decide_eq_true h2
theorem mem_get {P : List Nat} {c : Nat} (h : c ∈ P) : ∃ i, i < P.length ∧ P.getD i 0 = c := by
  obtain ⟨i, hi, he⟩ := List.mem_iff_getElem.mp h
  refine ⟨i, hi, ?_⟩
  rw [List.getD_eq_getElem?_getD, List.getElem?_eq_getElem hi]
  exact he
theorem get_mem {P : List Nat} {i : Nat} (hi : i < P.length) : P.getD i 0 ∈ P := by
  rw [List.getD_eq_getElem?_getD, List.getElem?_eq_getElem hi]
  exact List.getElem_mem hi
theorem p10_fact (h2 : 2 ≤ n) (h4 : n ≤ 4) {c : Nat} (hm : c ∈ P10 n) : c < 10 ^ n ∧ VB (vo 10 n c) n ∧ ∀ k k' : Int, 0 ≤ k → k < k' → k' < n → vo 10 n c k ≠ vo 10 n c k' := by
  have h := List.all_eq_true.mp (ds_10 h2 h4) c hm
  rw [Bool.and_eq_true] at h
  refine ⟨of_decide_eq_true h.1, fun k k0 k1 => ?_, fun k k' k0 k1 k2 => ?_⟩
  · obtain ⟨i, hi, rfl⟩ := mem_get hm
    have := (nx_get (nx_10 h2 h4) hi).1 k k0 k1
    omega
  · have h3 := List.all_eq_true.mp h.2 k.toNat (List.mem_range.mpr (by omega))
    have h4 := List.all_eq_true.mp h3 k'.toNat (List.mem_range.mpr (by omega))
    rw [Bool.or_eq_true] at h4
    rcases h4 with h4 | h4
    · have := of_decide_eq_true h4; omega
    · have := of_decide_eq_true h4
      rwa [show ((k.toNat : Nat) : Int) = k by omega, show ((k'.toNat : Nat) : Int) = k' by omega] at this
theorem ok_mem (h2 : 2 ≤ n) (h4 : n ≤ 4) {c : Nat} (hc : c < 10 ^ n) : okO n c = true ↔ c ∈ P10 n := by
  have h := ok_n h2 h4 hc
  unfold okT at h
  rw [Bool.and_eq_true] at h
  have h1 := eq_of_beq h.1
  rw [h1, List.contains_iff_mem]
theorem e_rowNumber {c : Nat} (h4 : n ≤ 4) (hc : c < 10 ^ n) (hrow : ∀ k, 0 ≤ k → k < (n : Int) → rd s (19, 0, 0) k = vo 10 n c k) : f_X10_rowNumber oF (n : Int) s = some ((c : Int), s) := by
  unfold f_X10_rowNumber
  have hb : 10 ^ n ≤ 10 ^ 4 := Nat.pow_le_pow_right (by omega) h4
  have q := loop_fu (fun m (b : Int × Int) => f_X10_rowNumber_L4 m (fun v2_1 s_1 => some (v2_1, s_1)) oF (n : Int) b.1 b.2 s) (fun j => (((c / 10 ^ (n - j) : Nat) : Int), (j : Int))) (some ((c : Int), s)) n (by omega) (by
    intro j m hj
    show f_X10_rowNumber_L4 (m + 1) _ oF (n : Int) ((c / 10 ^ (n - j) : Nat) : Int) (j : Int) s = f_X10_rowNumber_L4 m _ oF (n : Int) ((c / 10 ^ (n - (j + 1)) : Nat) : Int) ((j + 1 : Nat) : Int) s
    have e2 : c / 10 ^ (n - j) = c / 10 ^ (n - (j + 1)) / 10 := by
      rw [Nat.div_div_eq_div_mul, show n - j = n - (j + 1) + 1 by omega, Nat.pow_succ]
    have hv : vo 10 n c (j : Int) = ((c / 10 ^ (n - (j + 1)) % 10 : Nat) : Int) := by
      unfold vo
      rw [Int.toNat_natCast, show n - 1 - j = n - (j + 1) by omega]
    have hd : c / 10 ^ (n - (j + 1)) ≤ c := Nat.div_le_self _ _
    rw [e2]
    rw [f_X10_rowNumber_L4, if_pos (by omega), gd_of (by omega) (by omega), show a_FP_row oF = (19, 0, 0) from rfl, hrow j (by omega) (by omega), hv]
    generalize c / 10 ^ (n - (j + 1)) = D at hd
    rw [wr_of (x := (j : Int) + 1) (by omega) (by omega), wr_of (x := 10 * ((D / 10 : Nat) : Int)) (by omega) (by omega), wr_of (by omega) (by omega), show 10 * ((D / 10 : Nat) : Int) + ((D % 10 : Nat) : Int) = D by omega]
    rfl) (by
    intro m
    show f_X10_rowNumber_L4 (m + 1) _ oF (n : Int) ((c / 10 ^ (n - n) : Nat) : Int) (n : Int) s = _
    rw [f_X10_rowNumber_L4, if_neg (by omega), Nat.sub_self, Nat.pow_zero, Nat.div_one])
  rw [← q]
  show f_X10_rowNumber_L4 FU _ oF (n : Int) 0 0 s = f_X10_rowNumber_L4 FU _ oF (n : Int) ((c / 10 ^ (n - 0) : Nat) : Int) 0 s
  rw [Nat.sub_zero, Nat.div_eq_of_lt hc]
  rfl
def valO (A : Int → Int) (n c : Nat) : Int := orF A (vo 10 n c) n * 10000 + c
def lstO (A : Int → Int) (n : Nat) : Nat → Int
  | 0 => valO A n ((P10 n).getD 0 0)
  | i + 1 => min (lstO A n i) (valO A n ((P10 n).getD (i + 1) 0))
theorem val_b (hw : WF A) (h2 : 2 ≤ n) (h4 : n ≤ 4) {c : Nat} (hm : c ∈ P10 n) : 0 ≤ orF A (vo 10 n c) n ∧ orF A (vo 10 n c) n ≤ 24000 ∧ (c : Int) < 10000 := by
  have hf := p10_fact h2 h4 hm
  have hb : 10 ^ n ≤ 10 ^ 4 := Nat.pow_le_pow_right (by omega) h4
  have := (orF_b (A := A) (V := vo 10 n c) (v := (n : Int)) hw (by omega) (by omega) hf.2.1).2
  omega
theorem lst_fact (hw : WF A) (h2 : 2 ≤ n) (h4 : n ≤ 4) : ∀ i, i < (P10 n).length → (∃ c, c ∈ P10 n ∧ lstO A n i = valO A n c) ∧ ∀ j, j ≤ i → lstO A n i ≤ valO A n ((P10 n).getD j 0)
  | 0, hi => ⟨⟨_, get_mem hi, rfl⟩, fun j hj => by
    have : j = 0 := by omega
    subst this
    exact Int.le_refl _⟩
  | i + 1, hi => by
    obtain ⟨⟨c, c1, c2⟩, h⟩ := lst_fact hw h2 h4 i (by omega)
    rw [lstO]
    refine ⟨?_, fun j hj => ?_⟩
    · rcases (show min (lstO A n i) (valO A n ((P10 n).getD (i + 1) 0)) = lstO A n i ∨ min (lstO A n i) (valO A n ((P10 n).getD (i + 1) 0)) = valO A n ((P10 n).getD (i + 1) 0) by omega) with e | e
      · exact ⟨c, c1, by rw [e, c2]⟩
      · exact ⟨_, get_mem hi, e⟩
    · by_cases e : j = i + 1
      · subst e; omega
      · have := h j (by omega)
        omega
def bro (o : u_O) : Prop := rfo o ∨ rwo2 o
theorem bro_csc (o : u_O) (h : bro o) : csc o := by
  rcases h with h | h
  · exact rfo_csc o h
  · subst h; exact Or.inl (by simp)
theorem csc_pob {p : Nat} (hp : p ≠ 7) (o : u_O) (h : pob p o) : ¬ csc o := by
  intro z
  rcases z with z | z
  · have := h.2; omega
  · exact hp (h.1.symm.trans z.1)
theorem rfo_row : ¬ rfo (19, 0, 0) := by
  intro z
  rcases z with z | z | z
  · simp [eob] at z
  · rcases z with z | ⟨j, _, _, z⟩
    · simp at z
    · have := sndo_k z; simp at this
  · simp [flo] at z
theorem e_bestRow (hs : CP s 0 A) (hw : WF A) (h2 : 2 ≤ n) (h4 : n ≤ 4) : ∃ s', f_X10_bestRow oF (n : Int) s = some (lstO A n ((P10 n).length - 1), s') ∧ Only bro s s' := by
  have hlen := p10_len h2 h4
  have hnx := nx_10 h2 h4
  unfold f_X10_bestRow
  obtain ⟨b, q, e1, e2, e3⟩ := loop_relfu (fun m (b : Int × u_S) => f_X10_bestRow_L2 m (fun s_1 => bd (f_X10_rowFaults oF (n : Int) s_1) (fun r_1 s_2 => bd (f_X10_rowNumber oF (n : Int) s_2) (fun r_2 s_3 => f_X10_bestRow_L38 FU (fun v2_1 s_4 => some (v2_1, s_4)) oF (n : Int) (wr ((wr (r_1 * 10000)) + r_2)) 1 s_3))) oF (n : Int) b.1 b.2) (fun j b => b.1 = (j : Int) ∧ Only bro s b.2 ∧ ∀ k : Int, 0 ≤ k → k < j → rd b.2 (19, 0, 0) k = k) (fun b => bd (f_X10_rowFaults oF (n : Int) b.2) (fun r_1 s_2 => bd (f_X10_rowNumber oF (n : Int) s_2) (fun r_2 s_3 => f_X10_bestRow_L38 FU (fun v2_1 s_4 => some (v2_1, s_4)) oF (n : Int) (wr ((wr (r_1 * 10000)) + r_2)) 1 s_3))) n (by omega) (by
    intro j b m hj ⟨e1, e2, e3⟩
    obtain ⟨b1, s1⟩ := b
    dsimp only at e1 e2 e3
    subst e1
    refine ⟨(wr ((j : Int) + 1), wt s1 (19, 0, 0) j j), ?_, by dsimp only; rw [wr_of (by omega) (by omega)]; omega, e2.wt (Or.inr rfl) _ _, fun k k0 k1 => ?_⟩
    · dsimp only
      rw [f_X10_bestRow_L2, if_pos (by omega), gd_of (by omega) (by omega)]
      rfl
    · dsimp only
      by_cases ek : k = j
      · rw [ek, rd_wt_same, wr_of (by omega) (by omega)]
      · rw [rd_wt_k ek]
        exact e3 k k0 (by omega)) (by
    intro b m ⟨e1, e2, e3⟩
    rw [f_X10_bestRow_L2, if_neg (by omega)]) (0, s) ⟨rfl, Only.refl _ _, fun k a b => absurd b (by omega)⟩
  have d0 := get_mem (P := P10 n) (i := 0) (by omega)
  have r0 : ∀ k : Int, 0 ≤ k → k < n → rd b.2 (19, 0, 0) k = vo 10 n ((P10 n).getD 0 0) k := fun k a c => by rw [p10_id h2 h4 a c]; exact e3 k a c
  have cpk : ∀ s', Only bro s s' → CP s' 0 A := fun s' ho => hs.keep ho (fun o h z => csc_pob (by decide) o h (bro_csc o z))
  have f0 := p10_fact h2 h4 d0
  have v0 := val_b hw h2 h4 d0
  obtain ⟨s1, x1, x2⟩ := e_rowFaults (V := vo 10 n ((P10 n).getD 0 0)) (cpk _ e2) hw (show (2 : Int) ≤ n by omega) (by omega) f0.2.1 r0
  have r1 : ∀ k : Int, 0 ≤ k → k < n → rd s1 (19, 0, 0) k = vo 10 n ((P10 n).getD 0 0) k := fun k a c => by rw [x2.rd rfo_row]; exact r0 k a c
  rw [q, x1, bd_eq, e_rowNumber h4 f0.1 r1, bd_eq, wr_of (x := orF A (vo 10 n ((P10 n).getD 0 0)) n * 10000) (by omega) (by omega), wr_of (by omega) (by omega)]
  obtain ⟨b', q', i1, i2, i3, i4⟩ := loop_relfu (fun m (b : Int × Int × u_S) => f_X10_bestRow_L38 m (fun v2_1 s_4 => some (v2_1, s_4)) oF (n : Int) b.1 b.2.1 b.2.2) (fun j b => b.1 = lstO A n j ∧ b.2.1 = (j : Int) + 1 ∧ Only bro s b.2.2 ∧ ∀ k : Int, 0 ≤ k → k < n → rd b.2.2 (19, 0, 0) k = vo 10 n ((P10 n).getD j 0) k) (fun b => some (b.1, b.2.2)) ((P10 n).length - 1) (by omega) (by
    intro j b m hj ⟨i1, i2, i3, i4⟩
    obtain ⟨b1, b2, s2⟩ := b
    dsimp only at i1 i2 i3 i4
    subst i1 i2
    have g := nx_get hnx (i := j) (by omega)
    have g2 := g.2.1 (by omega)
    obtain ⟨s3, y1, y2, y3⟩ := (e_toNextRow (p := (19, 0, 0)) (f := fun x => x) (K := n) (s := s2) (show n ≤ 4 by omega) (by omega) (by omega) g.1 (fun x y _ _ _ _ => Iff.rfl) i4).2 g2.1
    have o3 : Only bro s s3 := i3.trans (y2.mono (fun o h => Or.inr h))
    have r3 : ∀ k : Int, 0 ≤ k → k < n → rd s3 (19, 0, 0) k = vo 10 n ((P10 n).getD (j + 1) 0) k := fun k a c => by rw [y3 k a c, g2.2 k a c]
    have d1 := get_mem (P := P10 n) (i := j + 1) (by omega)
    have f1 := p10_fact h2 h4 d1
    have v1 := val_b hw h2 h4 d1
    obtain ⟨s4, z1, z2⟩ := e_rowFaults (V := vo 10 n ((P10 n).getD (j + 1) 0)) (cpk _ o3) hw (show (2 : Int) ≤ n by omega) (by omega) f1.2.1 r3
    have r4 : ∀ k : Int, 0 ≤ k → k < n → rd s4 (19, 0, 0) k = vo 10 n ((P10 n).getD (j + 1) 0) k := fun k a c => by rw [z2.rd rfo_row]; exact r3 k a c
    refine ⟨(lstO A n (j + 1), wr ((j : Int) + 1 + 1), s4), ?_, rfl, by dsimp only; rw [wr_of (by omega) (by omega)]; omega, o3.trans (z2.mono (fun o h => Or.inl h)), r4⟩
    dsimp only
    rw [f_X10_bestRow_L38, if_pos (by omega), show a_FP_row oF = (19, 0, 0) from rfl, y1, bd_eq, if_neg (by omega), z1, bd_eq, e_rowNumber h4 f1.1 r4, bd_eq, e_min, bd_eq, wr_of (x := orF A (vo 10 n ((P10 n).getD (j + 1) 0)) n * 10000) (by omega) (by omega), wr_of (x := orF A (vo 10 n ((P10 n).getD (j + 1) 0)) n * 10000 + _) (by omega) (by omega)]
    rfl) (by
    intro b m ⟨i1, i2, i3, i4⟩
    have g := nx_get hnx (i := (P10 n).length - 1) (by omega)
    have g2 := g.2.2 (by omega)
    have y := (e_toNextRow (p := (19, 0, 0)) (f := fun x => x) (K := n) (s := b.2.2) (show n ≤ 4 by omega) (by omega) (by omega) g.1 (fun x y _ _ _ _ => Iff.rfl) i4).1 g2
    rw [f_X10_bestRow_L38]
    by_cases h24 : b.2.1 < 24
    · rw [if_pos h24, show a_FP_row oF = (19, 0, 0) from rfl, y, bd_eq, if_pos rfl]
    · rw [if_neg h24]) (lstO A n 0, 1, s1) ⟨rfl, rfl, e2.trans (x2.mono (fun o h => Or.inl h)), r1⟩
  refine ⟨b'.2.2, ?_, i3⟩
  rw [i1] at q'
  exact q'
/-- the least one -/
def LeastO (A : Int → Int) (n c : Nat) : Prop := c ∈ P10 n ∧ ∀ c', c' ∈ P10 n → valO A n c ≤ valO A n c'
theorem lst_least (hw : WF A) (h2 : 2 ≤ n) (h4 : n ≤ 4) : ∃ c, LeastO A n c ∧ lstO A n ((P10 n).length - 1) = valO A n c := by
  have hlen := p10_len h2 h4
  obtain ⟨⟨c, c1, c2⟩, h⟩ := lst_fact hw h2 h4 ((P10 n).length - 1) (by omega)
  refine ⟨c, ⟨c1, fun c' hc' => ?_⟩, c2⟩
  obtain ⟨i, hi, rfl⟩ := mem_get hc'
  rw [← c2]
  exact h i (by omega)
theorem least_eq (hw : WF A) (h2 : 2 ≤ n) (h4 : n ≤ 4) {c c' : Nat} (h : LeastO A n c) (h' : LeastO A n c') : c = c' := by
  have h1 := h.2 c' h'.1
  have h3 := h'.2 c h.1
  have b1 := val_b hw h2 h4 h.1
  have b2 := val_b hw h2 h4 h'.1
  unfold valO at h1 h3
  omega
end BEST
