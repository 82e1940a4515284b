/-! THE TEXT read by the class: all -/
def flN (L : List (Int × List Int)) : List Int := L.flatMap (fun o => o.2)
def stN (L : List (Int × List Int)) (i : Nat) : Nat := (flN (L.take i)).length
def SO (s : u_S) (L : List (Int × List Int)) : Prop := rd s oR 5 = (L.length : Int) ∧ ∀ i : Nat, i < L.length → rd s (13, 1, 0) i = (L.getD i (0, [])).1 ∧ rd s (13, 2, 0) i = (stN L i : Int)
def rdo (o : u_O) : Prop := o = (12, 0, 0) ∨ o = (13, 1, 0) ∨ o = (13, 2, 0) ∨ o = (13, 3, 0)
theorem ltr6 {α : Type} (c : Int) (X Y : α) : (if c = 108 then X else if c = 101 then X else if c = 104 then X else if c = 116 then X else if c = 109 then X else if c = 107 then X else Y) = if c = 108 ∨ c = 101 ∨ c = 104 ∨ c = 116 ∨ c = 109 ∨ c = 107 then X else Y := by
  by_cases h1 : c = 108
  · rw [if_pos h1, if_pos (Or.inl h1)]
  rw [if_neg h1]
  by_cases h2 : c = 101
  · rw [if_pos h2, if_pos (Or.inr (Or.inl h2))]
  rw [if_neg h2]
  by_cases h3 : c = 104
  · rw [if_pos h3, if_pos (Or.inr (Or.inr (Or.inl h3)))]
  rw [if_neg h3]
  by_cases h4 : c = 116
  · rw [if_pos h4, if_pos (Or.inr (Or.inr (Or.inr (Or.inl h4))))]
  rw [if_neg h4]
  by_cases h5 : c = 109
  · rw [if_pos h5, if_pos (Or.inr (Or.inr (Or.inr (Or.inr (Or.inl h5)))))]
  rw [if_neg h5]
  by_cases h6 : c = 107
  · rw [if_pos h6, if_pos (Or.inr (Or.inr (Or.inr (Or.inr (Or.inr h6)))))]
  rw [if_neg h6, if_neg (by omega)]
theorem fl_app (L : List (Int × List Int)) (x : Int × List Int) : flN (L ++ [x]) = flN L ++ x.2 := by
  unfold flN
  rw [List.flatMap_append, List.flatMap_singleton]
theorem st_app {L : List (Int × List Int)} (x : Int × List Int) {i : Nat} (hi : i ≤ L.length) : stN (L ++ [x]) i = stN L i := by
  unfold stN
  rw [List.take_append_of_le_length hi]
theorem st_len (L : List (Int × List Int)) : stN L L.length = (flN L).length := by
  unfold stN
  rw [List.take_length]
theorem getD_app_lt {α : Type} {L : List α} (x d : α) {i : Nat} (hi : i < L.length) : (L ++ [x]).getD i d = L.getD i d := by
  rw [List.getD_eq_getElem?_getD, List.getD_eq_getElem?_getD, List.getElem?_append_left hi]
theorem getD_app_eq {α : Type} {L : List α} (x d : α) : (L ++ [x]).getD L.length d = x := by
  rw [List.getD_eq_getElem?_getD, List.getElem?_append_right (Nat.le_refl _), Nat.sub_self]
  rfl
section CPARSE3
variable {T : Int → Int} {tl : Int} {s : u_S}
theorem e_cbod (htl : 0 ≤ tl ∧ tl ≤ 120) (c : Int) {r : Rs} (h : RP T tl s r) (J : u_S → Option (Int × u_S)) : ∃ s', (if c = 108 then (bd (f_X7_parseLine oR s) (fun _ s_9 => J s_9)) else (if c = 101 then (bd (f_X7_parseEntry oR s) (fun _ s_8 => J s_8)) else (if c = 107 then (bd (f_X7_parseKeys oR s) (fun _ s_7 => J s_7)) else (bd (f_X7_parseNumber oR 0 s) (fun _ s_6 => J s_6))))) = J s' ∧ RP T tl s' (sq r (bodP T tl c)) ∧ NK s s' := by
  by_cases h1 : c = 108
  · obtain ⟨s1, a1, a2, a3⟩ := e_cline (T := T) htl s r h
    refine ⟨s1, by rw [if_pos h1, a1, bd_eq], ?_, a3⟩
    rw [show bodP T tl c = linP T tl from funext fun p => if_pos h1]
    exact a2
  by_cases h2 : c = 101
  · obtain ⟨s1, a1, a2, a3⟩ := e_centry (T := T) htl s r h
    refine ⟨s1, by rw [if_neg h1, if_pos h2, a1, bd_eq], ?_, a3⟩
    rw [show bodP T tl c = entP T tl from funext fun p => by unfold bodP; rw [if_neg h1, if_pos h2]]
    exact a2
  by_cases h3 : c = 107
  · have hpl : r.1 = -1 → 0 ≤ r.2.1 ∧ r.2.1 ≤ tl := fun z => (h.ok z).2.2.1
    obtain ⟨s1, a1, a2, a3⟩ := e_ckeys (T := T) htl (fun s_1 => some (0, s_1)) 122 FU 0 s r (FU_gt (by omega)) h (fun z => by have := hpl z; omega) (by omega) (by omega)
    refine ⟨s1, by rw [if_neg h1, if_neg h2, if_pos h3, f_X7_parseKeys, a1, bd_eq], ?_, a3⟩
    rw [show bodP T tl c = keyP T tl 122 from funext fun p => by unfold bodP; rw [if_neg h1, if_neg h2, if_pos h3]]
    exact a2
  · obtain ⟨s1, a1, a2, a3⟩ := e_cnumber (T := T) htl 0 s r h
    refine ⟨s1, by rw [if_neg h1, if_neg h2, if_neg h3, a1, bd_eq], ?_, a3⟩
    rw [show bodP T tl c = numP T tl 0 from funext fun p => by unfold bodP; rw [if_neg h1, if_neg h2, if_neg h3]]
    exact a2
theorem e_corder (htl : 0 ≤ tl ∧ tl ≤ 120) (hT : ∀ i : Int, 0 ≤ i → i < tl → 0 ≤ T i ∧ T i ≤ 127) {r : Rs} (h : RP T tl s r) (hr1 : r.1 = -1) (hlt : r.2.1 < tl) (hsk : sk T tl r.2.1 = r.2.1) {L : List (Int × List Int)} (hL : SO s L) (hfl : r.2.2 = flN L) (hlen : (L.length : Int) ≤ r.2.1) : ∃ s', f_X7_parseOrder oR s = some (0, s') ∧ RP T tl s' (sq r (ordP T tl)) ∧ Only rdo s s' ∧ ((ordP T tl r.2.1).1 = -1 → SO s' (L ++ [(hr T tl r.2.1, (ordP T tl r.2.1).2.2)])) := by
  have ho := h.ok hr1
  have hbh := e_byteHere htl.2 h.1 ho.2.1 ho.2.2.1.1
  have hhr : hr T tl r.2.1 = T r.2.1 := if_pos hlt
  have hTp := hT r.2.1 ho.2.2.1.1 hlt
  unfold f_X7_parseOrder
  rw [hbh, bd_eq]
  simp only [jn_eq]
  rw [ltr6]
  by_cases hc : hr T tl r.2.1 = 108 ∨ hr T tl r.2.1 = 101 ∨ hr T tl r.2.1 = 104 ∨ hr T tl r.2.1 = 116 ∨ hr T tl r.2.1 = 109 ∨ hr T tl r.2.1 = 107
  · rw [if_pos hc]
    generalize hce : hr T tl r.2.1 = c at hc hhr
    have e5 : rd s oR 5 = (L.length : Int) := hL.1
    have e6 : rd s oR 6 = (r.2.2.length : Int) := ho.2.2.2.1
    have hop : f_X7_open oR c s = some (0, wt (wt (wt s (13, 1, 0) (L.length : Int) c) (13, 2, 0) (L.length : Int) (r.2.2.length : Int)) oR 5 ((L.length : Int) + 1)) := by
      unfold f_X7_open
      rw [e5, if_pos (by omega), gd_of (by omega) (by omega), show a_Reader_letters oR = (13, 1, 0) from rfl, show a_Reader_starts oR = (13, 2, 0) from rfl]
      rw [rd_wt_o (o := (13, 1, 0)) (o' := oR) (by simp), e5, gd_of (by omega) (by omega), rd_wt_o (o := (13, 1, 0)) (o' := oR) (by simp), e6, rd_wt_o (o := (13, 2, 0)) (o' := oR) (by simp), rd_wt_o (o := (13, 1, 0)) (o' := oR) (by simp), e5, wr_of (by omega) (by omega)]
    rw [hop, bd_eq]
    generalize hs3 : wt (wt (wt s (13, 1, 0) (L.length : Int) c) (13, 2, 0) (L.length : Int) (r.2.2.length : Int)) oR 5 ((L.length : Int) + 1) = s3
    have k12 : ∀ k, k ≠ 5 → rd s3 oR k = rd s oR k := fun k hk => by rw [← hs3, rd_wt_k hk, rd_wt_o (by simp), rd_wt_o (by simp)]
    have k5 : rd s3 oR 5 = (L.length : Int) + 1 := by rw [← hs3, rd_wt_same, wr_of (by omega) (by omega)]
    have k13 : ∀ q, q ≠ 1 → q ≠ 2 → ∀ k, rd s3 (13, q, 0) k = rd s (13, q, 0) k := fun q h1 h2 k => by rw [← hs3, rd_wt_o (by simp), rd_wt_o (by simp; exact h2), rd_wt_o (by simp; exact h1)]
    have o3 : Only rdo s s3 := by
      rw [← hs3]
      exact (((Only.refl rdo s).wt (Or.inr (Or.inl rfl)) _ _).wt (Or.inr (Or.inr (Or.inl rfl))) _ _).wt (Or.inl rfl) _ _
    have l3 : ∀ i : Nat, i < L.length + 1 → rd s3 (13, 1, 0) i = if i = L.length then c else rd s (13, 1, 0) i := fun i hi => by
      rw [← hs3, rd_wt_o (by simp), rd_wt_o (by simp)]
      by_cases e : i = L.length
      · subst e; rw [if_pos rfl, rd_wt_same, wr_of (by omega) (by omega)]
      · rw [if_neg e, rd_wt_k (by omega)]
    have t3 : ∀ i : Nat, i < L.length + 1 → rd s3 (13, 2, 0) i = if i = L.length then (r.2.2.length : Int) else rd s (13, 2, 0) i := fun i hi => by
      rw [← hs3, rd_wt_o (by simp)]
      by_cases e : i = L.length
      · subst e; rw [if_pos rfl, rd_wt_same, wr_of (by omega) (by omega)]
      · rw [if_neg e, rd_wt_k (by omega), rd_wt_o (by simp)]
    have h3 : RP T tl s3 r := ⟨⟨by rw [k12 4 (by omega)]; exact h.1.1, fun i a b => by rw [k13 0 (by omega) (by omega)]; exact h.1.2 i a b⟩, by rw [k12 7 (by omega)]; exact h.2.1, by rw [k12 8 (by omega)]; exact h.2.2.1, fun z => by
      have := h.2.2.2 z
      exact ⟨by rw [k12 7 (by omega)]; exact this.1, by rw [k12 6 (by omega)]; exact this.2.1, this.2.2.1, fun i hi => by rw [k13 3 (by omega) (by omega)]; exact this.2.2.2 i hi⟩⟩
    obtain ⟨y1, y2⟩ := rp_bump htl h3 hr1 hlt
    obtain ⟨s4, z1, z2, z3⟩ := e_cbod (T := T) htl c y1 (fun s_4 => bd (f_X7_parseEnd oR s_4) (fun r_3 s_5 => some (0, s_5)))
    obtain ⟨s5, w1, w2, w3⟩ := e_cpend (T := T) htl s4 _ z2
    have nk := y2.trans (z3.trans w3)
    have ndr : ∀ o, ndo o → rdo o := fun o h => by
      rcases h with h | h
      · exact Or.inl h
      · exact Or.inr (Or.inr (Or.inr h))
    refine ⟨s5, ?_, ?_, o3.trans (nk.1.mono ndr), fun hok => ⟨?_, fun i hi => ?_⟩⟩
    · refine Eq.trans z1 ?_
      try dsimp only
      rw [w1, bd_eq]
    · rw [sq_assoc] at w2
      rw [sq_move (p := r.2.1 + 1) (h := fun p => sq (bodP T tl c p) (endP T tl)) hr1 (by unfold ordP; rw [hsk, hce, if_pos hc])]
      exact w2
    · rw [nk.2, k5, List.length_append, List.length_singleton]
      omega
    · rw [List.length_append, List.length_singleton] at hi
      rw [nk.1.rd (by simp [ndo]), nk.1.rd (by simp [ndo]), l3 i hi, t3 i hi]
      by_cases e : i = L.length
      · subst e
        rw [if_pos rfl, if_pos rfl, getD_app_eq, st_app _ (Nat.le_refl _), st_len, hfl]
        exact ⟨rfl, rfl⟩
      · rw [if_neg e, if_neg e, getD_app_lt _ _ (by omega), st_app _ (by omega)]
        exact hL.2 i (by omega)
  · rw [if_neg hc]
    have hord : ordP T tl r.2.1 = (r.2.1, r.2.1, []) := by unfold ordP; rw [hsk, if_neg hc]
    obtain ⟨q1, q2⟩ := RP.flt (g := ordP T tl) h hr1 (PK.self ho.2.1) (by omega) (by omega) (f := r.2.1) (by omega) htl.2 (by rw [hord])
    refine ⟨wt s oR 8 r.2.1, ?_, q1, (Only.refl rdo s).wt (Or.inl rfl) _ _, fun z => ?_⟩
    · unfold f_X7_fail
      rw [if_pos ho.1, bd_eq, ho.2.1]
    · rw [hord] at z
      dsimp only at z
      omega
/-- blanks behind an order, with or without a fault -/
theorem rp_skip2 (htl : 0 ≤ tl ∧ tl ≤ 120) {r : Rs} (h : RP T tl s r) : ∃ s', f_X7_skipBlanks oR s = some (0, s') ∧ (r.1 = -1 → RP T tl s' (-1, sk T tl r.2.1, r.2.2)) ∧ rd s' oR 8 = r.1 ∧ Only (fun o => o = (12, 0, 0)) s s' ∧ rd s' oR 4 = tl ∧ rd s' oR 5 = rd s oR 5 := by
  obtain ⟨s1, x1, x2⟩ := e_skip htl.2 h.1 rfl h.2.1.1 h.2.1.2
  refine ⟨s1, x1, fun hr1 => ?_, by rw [x2.2.2 8 (by omega)]; exact h.2.2.1, x2.1, by rw [x2.2.2 4 (by omega)]; exact h.1.1, x2.2.2 5 (by omega)⟩
  have ho := h.ok hr1
  rw [ho.2.1] at x2
  have hb := sk_b (T := T) htl.2 ho.2.2.1.1 ho.2.2.1.2
  exact h.move hr1 x2 hb.1 hb.2.1
theorem e_cloop (htl : 0 ≤ tl ∧ tl ≤ 120) (hT : ∀ i : Int, 0 ≤ i → i < tl → 0 ≤ T i ∧ T i ≤ 127) (kx : u_S → Option (Int × u_S)) : ∀ (k m : Nat) (n : Int) (s : u_S) (p : Int) (L : List (Int × List Int)), k + 1 < m → RP T tl s (-1, p, flN L) → SO s L → p < tl → sk T tl p = p → (tl - p).toNat < k → 0 ≤ n → n ≤ p → (L.length : Int) ≤ p → ∃ s', f_X7_parse_L42 m kx oR n s = kx s' ∧ rd s' oR 8 = (allP T tl k p).1 ∧ rd s' oR 4 = tl ∧ Only rdo s s' ∧ ((allP T tl k p).1 = -1 → ∃ q, RP T tl s' (-1, q, flN (L ++ (allP T tl k p).2)) ∧ SO s' (L ++ (allP T tl k p).2))
  | 0, m, n, s, p, L, h1, h2, h3, h4, h5, h6, h7, h8, h9 => by omega
  | k + 1, m, n, s, p, L, h1, h2, h3, h4, h5, h6, h7, h8, h9 => by
    cases m with
    | zero => omega
    | succ m =>
      have ho := h2.ok rfl
      dsimp only at ho
      obtain ⟨s1, x1, x2, x3, x4⟩ := e_corder htl hT h2 rfl h4 h5 h3 rfl h9
      dsimp only at x4
      obtain ⟨s2, y1, y2, y3, y4, y5, y6⟩ := rp_skip2 htl x2
      have oo : Only rdo s s2 := x3.trans (y4.mono (fun o h => Or.inl h))
      have hgo := ord_go (T := T) htl.2 ho.2.2.1.1 ho.2.2.1.2
      rw [f_X7_parse_L42, if_pos (by omega), ho.1, if_pos rfl, ho.2.1, h2.1.1, if_pos h4, x1, bd_eq, y1, bd_eq, wr_of (x := n + 1) (by omega) (by omega)]
      rw [sq_ok (r := (-1, p, flN L)) rfl] at y2 y3
      dsimp only at y2 y3
      rw [allP]
      by_cases hok : (ordP T tl p).1 = -1
      · rw [if_pos hok]
        have g1 := hgo.1 hok
        have y2' := y2 hok
        have so1 := x4 hok
        have so2 : SO s2 (L ++ [(hr T tl p, (ordP T tl p).2.2)]) := ⟨by rw [y6]; exact so1.1, fun i hi => by rw [y4.rd (by simp), y4.rd (by simp)]; exact so1.2 i hi⟩
        have hsb := sk_b (T := T) htl.2 (p := (ordP T tl p).2.1) (by omega) g1.2.1
        have efl : flN L ++ (ordP T tl p).2.2 = flN (L ++ [(hr T tl p, (ordP T tl p).2.2)]) := (fl_app L (hr T tl p, (ordP T tl p).2.2)).symm
        rw [efl] at y2'
        by_cases hq : sk T tl (ordP T tl p).2.1 < tl
        · rw [if_pos hq]
          obtain ⟨s3, z1, z2, z3, z4, z5⟩ := e_cloop htl hT kx k m (n + 1) s2 (sk T tl (ordP T tl p).2.1) (L ++ [(hr T tl p, (ordP T tl p).2.2)]) (by omega) y2' so2 hq (sk_id htl.2 (by omega) g1.2.1) (by omega) (by omega) (by omega) (by rw [List.length_append, List.length_singleton]; omega)
          rw [h5]
          refine ⟨s3, z1, z2, z3, oo.trans z4, fun z => ?_⟩
          have := z5 z
          rw [List.append_assoc] at this
          exact this
        · rw [if_neg hq]
          have ho2 := y2'.ok rfl
          dsimp only at ho2
          refine ⟨s2, ?_, by rw [y3]; exact hok, y5, oo, fun _ => ⟨_, by rw [h5]; exact y2', by rw [h5]; exact so2⟩⟩
          cases m with
          | zero => omega
          | succ m =>
            rw [f_X7_parse_L42, ho2.1, ho2.2.1, y5, if_pos rfl, if_neg hq, ite_self]
      · rw [if_neg hok]
        have g1 := hgo.2 hok
        refine ⟨s2, ?_, y3, y5, oo, fun z => absurd z hok⟩
        cases m with
        | zero => omega
        | succ m =>
          rw [f_X7_parse_L42, y3, if_neg hok, ite_self]
theorem e_cparse (htl : 0 ≤ tl ∧ tl ≤ 120) (hT : ∀ i : Int, 0 ≤ i → i < tl → 0 ≤ T i ∧ T i ≤ 127) (hb : RB T tl s) : ∃ s', f_X7_parse oR s = some ((allP T tl 122 0).1, s') ∧ rd s' oR 4 = tl ∧ Only rdo s s' ∧ ((allP T tl 122 0).1 = -1 → ∃ q, RP T tl s' (-1, q, flN (allP T tl 122 0).2) ∧ SO s' (allP T tl 122 0).2) := by
  unfold f_X7_parse
  have r0 : RP T tl (wt (wt (wt (wt s oR 5 0) oR 6 0) oR 7 0) oR 8 (-1)) (-1, 0, []) := by
    refine ⟨⟨?_, fun i a b => ?_⟩, ?_, ?_, fun _ => ⟨?_, ?_, ?_, fun i hi => ?_⟩⟩
    · rw [rd_wt_k (by omega), rd_wt_k (by omega), rd_wt_k (by omega), rd_wt_k (by omega)]; exact hb.1
    · rw [rd_wt_o (by simp), rd_wt_o (by simp), rd_wt_o (by simp), rd_wt_o (by simp)]; exact hb.2 i a b
    · rw [rd_wt_k (by omega), rd_wt_same, wr_of (by omega) (by omega)]; omega
    · rw [rd_wt_same, wr_of (by omega) (by omega)]
    · rw [rd_wt_k (by omega), rd_wt_same, wr_of (by omega) (by omega)]
    · rw [rd_wt_k (by omega), rd_wt_k (by omega), rd_wt_same, wr_of (by omega) (by omega)]; rfl
    · dsimp only [List.length]; omega
    · exact absurd hi (by simp)
  have s5 : rd (wt (wt (wt (wt s oR 5 0) oR 6 0) oR 7 0) oR 8 (-1)) oR 5 = 0 := by rw [rd_wt_k (by omega), rd_wt_k (by omega), rd_wt_k (by omega), rd_wt_same, wr_of (by omega) (by omega)]
  have o0 : Only rdo s (wt (wt (wt (wt s oR 5 0) oR 6 0) oR 7 0) oR 8 (-1)) := ((((Only.refl rdo s).wt (Or.inl rfl) _ _).wt (Or.inl rfl) _ _).wt (Or.inl rfl) _ _).wt (Or.inl rfl) _ _
  generalize wt (wt (wt (wt s oR 5 0) oR 6 0) oR 7 0) oR 8 (-1) = s0 at r0 s5 o0
  obtain ⟨s1, x1, x2, x3⟩ := rp_sk htl r0 rfl
  rw [sq_sk rfl] at x2
  dsimp only at x2 x3
  have hsb := sk_b (T := T) htl.2 (p := 0) (by omega) htl.1
  have ho := x2.ok rfl
  dsimp only at ho
  rw [x1, bd_eq, ho.2.1, x2.1.1]
  have o1 : Only rdo s s1 := o0.trans (x3.1.mono (fun o h => Or.inl h))
  have eall : ∀ k, allP T tl k 0 = allP T tl k (sk T tl 0) := by
    intro k
    cases k with
    | zero => rfl
    | succ k =>
      have e : ordP T tl 0 = ordP T tl (sk T tl 0) := by unfold ordP; rw [sk_id htl.2 (by omega) htl.1]
      rw [allP, allP, e, sk_id htl.2 (by omega) htl.1]
  by_cases hlt : sk T tl 0 < tl
  · rw [if_pos hlt, eall]
    have so : SO s1 [] := ⟨by rw [x3.2.2 5 (by omega), s5]; rfl, fun i hi => absurd hi (by simp)⟩
    obtain ⟨s2, z1, z2, z3, z4, z5⟩ := e_cloop htl hT (fun s_2 => some ((rd s_2 oR 8), s_2)) 122 FU 0 s1 (sk T tl 0) [] (FU_gt (by omega)) x2 so hlt (sk_id htl.2 (by omega) htl.1) (by omega) (by omega) (by omega) (by simp; omega)
    refine ⟨s2, ?_, z3, o1.trans z4, z5⟩
    rw [z1, z2]
  · rw [if_neg hlt]
    have hord : ordP T tl 0 = (sk T tl 0, sk T tl 0, []) := by
      unfold ordP
      rw [show hr T tl (sk T tl 0) = -1 from if_neg hlt, if_neg (by omega)]
    have : allP T tl 122 0 = (tl, []) := by
      rw [allP, hord, if_neg (by dsimp only; omega)]
      dsimp only
      rw [show sk T tl 0 = tl by omega]
    rw [this]
    exact ⟨s1, rfl, x2.1.1, o1, fun z => by dsimp only at z; omega⟩
end CPARSE3
