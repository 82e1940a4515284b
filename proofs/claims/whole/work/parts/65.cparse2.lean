/-! THE TEXT read by the class: orders -/
section CPARSE2
variable {T : Int → Int} {tl : Int} {s : u_S}
theorem sq_sk {r : Rs} (h : r.1 = -1) : sq r (skP T tl) = (-1, sk T tl r.2.1, r.2.2) := by
  rw [sq_ok h]
  unfold skP
  dsimp only
  rw [List.append_nil]
theorem rp_sk (htl : 0 ≤ tl ∧ tl ≤ 120) {r : Rs} (h : RP T tl s r) (hr1 : r.1 = -1) : ∃ s', f_X7_skipBlanks oR s = some (0, s') ∧ RP T tl s' (sq r (skP T tl)) ∧ PK (sk T tl r.2.1) s s' := by
  have ho := h.ok hr1
  obtain ⟨s1, x1, x2⟩ := e_skip htl.2 h.1 ho.2.1 ho.2.2.1.1 ho.2.2.1.2
  have hb := sk_b (T := T) htl.2 ho.2.2.1.1 ho.2.2.1.2
  exact ⟨s1, x1, by rw [sq_sk hr1]; exact h.move hr1 x2 hb.1 hb.2.1, x2⟩
theorem e_isNext (htl : 0 ≤ tl ∧ tl ≤ 120) (c : Int) {r : Rs} (h : RP T tl s r) : ∃ s', f_X7_isNext oR c s = some ((if r.1 = -1 ∧ hr T tl (sk T tl r.2.1) = c then 1 else 0), s') ∧ RP T tl s' (sq r (skP T tl)) ∧ NK s s' := by
  unfold f_X7_isNext
  rw [h.2.2.1]
  by_cases hr1 : r.1 = -1
  · obtain ⟨s1, x1, x2, x3⟩ := rp_sk htl h hr1
    have hb := sk_b (T := T) htl.2 (h.ok hr1).2.2.1.1 (h.ok hr1).2.2.1.2
    have ho := h.ok hr1
    refine ⟨s1, ?_, x2, x3.nk⟩
    rw [if_pos hr1, x1, bd_eq, e_byteHere htl.2 x2.1 x3.2.1 (by omega), bd_eq]
    by_cases hc : hr T tl (sk T tl r.2.1) = c
    · rw [if_pos hc, if_pos ⟨hr1, hc⟩]
    · rw [if_neg hc, if_neg (fun z => hc z.2)]
  · rw [if_neg hr1, if_neg (fun z => hr1 z.1), sq_no hr1]
    exact ⟨s, rfl, h, NK.refl s⟩
theorem rp_bump (htl : 0 ≤ tl ∧ tl ≤ 120) {r : Rs} (h : RP T tl s r) (hr1 : r.1 = -1) (hlt : r.2.1 < tl) : RP T tl (wt s oR 7 (wr (rd s oR 7 + 1))) (-1, r.2.1 + 1, r.2.2) ∧ NK s (wt s oR 7 (wr (rd s oR 7 + 1))) := by
  have ho := h.ok hr1
  rw [ho.2.1, wr_of (x := r.2.1 + 1) (by omega) (by omega)]
  have hp : PK (r.2.1 + 1) s (wt s oR 7 (r.2.1 + 1)) := PK.wt (InR_iff.mpr ⟨by omega, by omega⟩)
  exact ⟨h.move hr1 hp (by omega) (by omega), hp.nk⟩
theorem bd_z {x : Option (Int × u_S)} {s' : u_S} (h : x = some (0, s')) : bd x (fun _ s_2 => some ((0 : Int), s_2)) = some (0, s') := by rw [h, bd_eq]
theorem e_cnote (htl : 0 ≤ tl ∧ tl ≤ 120) : OPL T tl (f_X7_parseNote oR) (notP T tl) := by
  intro s r h
  obtain ⟨s1, a1, a2, a3⟩ := (e_cnumber (T := T) htl 0).comp (e_cnumber htl 0) s r h
  refine ⟨s1, ?_, a2, a3⟩
  dsimp only at a1
  unfold f_X7_parseNote
  obtain ⟨s2, b1, b2, b3⟩ := e_cnumber (T := T) htl 0 s r h
  rw [b1, bd_eq] at a1 ⊢
  rw [a1, bd_eq]
theorem e_cnts (htl : 0 ≤ tl ∧ tl ≤ 120) (kx : u_S → Option (Int × u_S)) : ∀ (k m : Nat) (n : Int) (s : u_S) (r : Rs), k < m → RP T tl s r → (r.1 = -1 → (tl - r.2.1).toNat < k ∧ n ≤ r.2.1) → 0 ≤ n → n ≤ 120 → ∃ s', f_X7_parseLine_L31 m kx oR n s = kx s' ∧ RP T tl s' (sq r (ntsP T tl k)) ∧ NK s s'
  | k, 0, _, _, _, h1, _, _, _, _ => by omega
  | k, m + 1, n, s, r, h1, h2, h3, h4, h5 => by
    rw [f_X7_parseLine_L31]
    by_cases hn : n < 120
    · rw [if_pos hn]
      obtain ⟨s1, x1, x2, x3⟩ := e_isNext (T := T) htl 44 h2
      rw [x1, bd_eq]
      by_cases hc : r.1 = -1 ∧ hr T tl (sk T tl r.2.1) = 44
      · rw [if_pos hc, if_neg (by omega)]
        have ho := h2.ok hc.1
        have h3' := h3 hc.1
        have hb := sk_b (T := T) htl.2 ho.2.2.1.1 ho.2.2.1.2
        have hlt := (hr_lt (by omega) hc.2).1
        rw [sq_sk hc.1] at x2
        obtain ⟨y1, y2⟩ := rp_bump htl x2 rfl hlt
        dsimp only at y1
        obtain ⟨s2, z1, z2, z3⟩ := e_cnote (T := T) htl _ _ y1
        rw [z1, bd_eq, wr_of (x := n + 1) (by omega) (by omega)]
        cases k with
        | zero => omega
        | succ k =>
          have go := (go_not (T := T) htl.2) (sk T tl r.2.1 + 1) (by omega) (by omega)
          obtain ⟨s3, w1, w2, w3⟩ := e_cnts htl kx k m (n + 1) s2 _ (by omega) z2 (fun z => by
            rw [sq_ok (r := (-1, sk T tl r.2.1 + 1, r.2.2)) rfl] at z ⊢
            dsimp only at z ⊢
            have := go.1 z
            omega) (by omega) (by omega)
          refine ⟨s3, w1, ?_, x3.trans (y2.trans (z3.trans w3))⟩
          rw [sq_assoc] at w2
          rw [sq_move (p := sk T tl r.2.1 + 1) (h := fun p => sq (notP T tl p) (ntsP T tl k)) hc.1 (by rw [ntsP, if_pos hc.2])]
          exact w2
      · rw [if_neg hc, if_pos rfl]
        refine ⟨s1, rfl, ?_, x3⟩
        by_cases hr1 : r.1 = -1
        · have h3' := h3 hr1
          cases k with
          | zero => omega
          | succ k =>
            have : sq r (ntsP T tl (k + 1)) = sq r (skP T tl) := by
              rw [sq_ok hr1, sq_ok hr1, ntsP, if_neg (fun z => hc ⟨hr1, z⟩)]
              rfl
            rw [this]
            exact x2
        · rw [sq_no hr1] at x2 ⊢
          exact x2
    · rw [if_neg hn]
      refine ⟨s, rfl, ?_, NK.refl s⟩
      by_cases hr1 : r.1 = -1
      · have h3' := h3 hr1
        have ho := h2.ok hr1
        cases k with
        | zero => omega
        | succ k =>
          have hb := sk_b (T := T) htl.2 ho.2.2.1.1 ho.2.2.1.2
          have e1 : sk T tl r.2.1 = r.2.1 := by omega
          have e2 : hr T tl r.2.1 = -1 := if_neg (by omega)
          have : sq r (ntsP T tl (k + 1)) = r := by
            rw [sq_ok hr1, ntsP, e1, e2, if_neg (by omega)]
            dsimp only
            rw [List.append_nil, ← hr1]
          rw [this]
          exact h2
      · rw [sq_no hr1]
        exact h2
theorem e_cline (htl : 0 ≤ tl ∧ tl ≤ 120) : OPL T tl (f_X7_parseLine oR) (linP T tl) := by
  intro s r h
  obtain ⟨s1, a1, a2, a3⟩ := e_cnumber (T := T) htl 0 s r h
  obtain ⟨s2, b1, b2, b3⟩ := e_isNext (T := T) htl 58 a2
  unfold f_X7_parseLine
  rw [a1, bd_eq, b1, bd_eq]
  have e : sq r (linP T tl) = sq (sq r (numP T tl 0)) (fun q => if hr T tl (sk T tl q) = 58 then sq (notP T tl (sk T tl q + 1)) (ntsP T tl 122) else (-1, sk T tl q, [])) := (sq_assoc r _ _).symm
  rw [e]
  generalize sq r (numP T tl 0) = q at a2 b2 b1
  by_cases hc : q.1 = -1 ∧ hr T tl (sk T tl q.2.1) = 58
  · rw [if_pos hc, if_neg (by omega)]
    have ho := a2.ok hc.1
    have hb := sk_b (T := T) htl.2 ho.2.2.1.1 ho.2.2.1.2
    have hlt := (hr_lt (by omega) hc.2).1
    rw [sq_sk hc.1] at b2
    obtain ⟨y1, y2⟩ := rp_bump htl b2 rfl hlt
    dsimp only at y1
    obtain ⟨s3, z1, z2, z3⟩ := e_cnote (T := T) htl _ _ y1
    have go := (go_not (T := T) htl.2) (sk T tl q.2.1 + 1) (by omega) (by omega)
    obtain ⟨s4, w1, w2, w3⟩ := e_cnts htl (fun s_4 => some (0, s_4)) 122 FU 0 s3 _ (FU_gt (by omega)) z2 (fun z => by
      rw [sq_ok (r := (-1, sk T tl q.2.1 + 1, q.2.2)) rfl] at z ⊢
      dsimp only at z ⊢
      have := go.1 z
      omega) (by omega) (by omega)
    refine ⟨s4, by rw [z1, bd_eq, w1], ?_, a3.trans (b3.trans (y2.trans (z3.trans w3)))⟩
    rw [sq_assoc] at w2
    rw [sq_move (p := sk T tl q.2.1 + 1) (h := fun p => sq (notP T tl p) (ntsP T tl 122)) hc.1 (by rw [if_pos hc.2])]
    exact w2
  · rw [if_neg hc, if_pos rfl]
    refine ⟨s2, rfl, ?_, a3.trans b3⟩
    by_cases hr1 : q.1 = -1
    · have : sq q (fun q => if hr T tl (sk T tl q) = 58 then sq (notP T tl (sk T tl q + 1)) (ntsP T tl 122) else (-1, sk T tl q, [])) = sq q (skP T tl) := by
        rw [sq_ok hr1, sq_ok hr1]
        try dsimp only
        rw [if_neg (fun z => hc ⟨hr1, z⟩)]
        rfl
      rw [this]
      exact b2
    · rw [sq_no hr1] at b2 ⊢
      exact b2
theorem e_centry (htl : 0 ≤ tl ∧ tl ≤ 120) : OPL T tl (f_X7_parseEntry oR) (entP T tl) := by
  intro s r h
  obtain ⟨s1, a1, a2, a3⟩ := e_cnumber (T := T) htl 0 s r h
  obtain ⟨s2, b1, b2, b3⟩ := e_cnumber (T := T) htl 0 s1 _ a2
  obtain ⟨s3, c1, c2, c3⟩ := e_cnumber (T := T) htl 1 s2 _ b2
  obtain ⟨s4, d1, d2, d3⟩ := e_cnumber (T := T) htl 0 s3 _ c2
  obtain ⟨s5, f1, f2, f3⟩ := e_cnumber (T := T) htl 0 s4 _ d2
  refine ⟨s5, ?_, ?_, a3.trans (b3.trans (c3.trans (d3.trans f3)))⟩
  · unfold f_X7_parseEntry
    rw [a1, bd_eq, b1, bd_eq, c1, bd_eq, d1, bd_eq, f1, bd_eq]
  · rw [sq_assoc, sq_assoc, sq_assoc, sq_assoc] at f2
    have : (entP T tl) = fun p => sq (numP T tl 0 p) (fun p => sq (numP T tl 0 p) (fun p => sq (numP T tl 1 p) (fun p => sq (numP T tl 0 p) (numP T tl 0)))) := by
      funext p
      unfold entP
      rw [sq_assoc, sq_assoc, sq_assoc]
    rw [this]
    exact f2
theorem e_figNext (htl : 0 ≤ tl ∧ tl ≤ 120) {r : Rs} (h : RP T tl s r) : ∃ s', f_X7_isFigureNext oR s = some ((if r.1 = -1 ∧ 48 ≤ hr T tl (sk T tl r.2.1) ∧ hr T tl (sk T tl r.2.1) ≤ 57 then 1 else 0), s') ∧ RP T tl s' (sq r (skP T tl)) ∧ NK s s' := by
  unfold f_X7_isFigureNext
  rw [h.2.2.1]
  by_cases hr1 : r.1 = -1
  · obtain ⟨s1, x1, x2, x3⟩ := rp_sk htl h hr1
    have hb := sk_b (T := T) htl.2 (h.ok hr1).2.2.1.1 (h.ok hr1).2.2.1.2
    have ho := h.ok hr1
    refine ⟨s1, ?_, x2, x3.nk⟩
    rw [if_pos hr1, x1, bd_eq, e_byteHere htl.2 x2.1 x3.2.1 (by omega), bd_eq, e_cisF, bd_eq]
    by_cases hc : 48 ≤ hr T tl (sk T tl r.2.1) ∧ hr T tl (sk T tl r.2.1) ≤ 57
    · rw [if_pos hc, if_pos ⟨hr1, hc⟩]
    · rw [if_neg hc, if_neg (fun z => hc z.2)]
  · rw [if_neg hr1, if_neg (fun z => hr1 z.1), sq_no hr1]
    exact ⟨s, rfl, h, NK.refl s⟩
theorem e_ckeys (htl : 0 ≤ tl ∧ tl ≤ 120) (kx : u_S → Option (Int × u_S)) : ∀ (k m : Nat) (n : Int) (s : u_S) (r : Rs), k < m → RP T tl s r → (r.1 = -1 → (tl - r.2.1).toNat < k ∧ n ≤ r.2.1) → 0 ≤ n → n ≤ 120 → ∃ s', f_X7_parseKeys_L2 m kx oR n s = kx s' ∧ RP T tl s' (sq r (keyP T tl k)) ∧ NK s s'
  | k, 0, _, _, _, h1, _, _, _, _ => by omega
  | k, m + 1, n, s, r, h1, h2, h3, h4, h5 => by
    rw [f_X7_parseKeys_L2]
    by_cases hn : n < 120
    · rw [if_pos hn]
      obtain ⟨s1, x1, x2, x3⟩ := e_figNext (T := T) htl h2
      rw [x1, bd_eq]
      by_cases hc : r.1 = -1 ∧ 48 ≤ hr T tl (sk T tl r.2.1) ∧ hr T tl (sk T tl r.2.1) ≤ 57
      · rw [if_pos hc, if_neg (by omega)]
        have ho := h2.ok hc.1
        have h3' := h3 hc.1
        have hb := sk_b (T := T) htl.2 ho.2.2.1.1 ho.2.2.1.2
        rw [sq_sk hc.1] at x2
        obtain ⟨s2, z1, z2, z3⟩ := e_cnumber (T := T) htl 0 _ _ x2
        rw [z1, bd_eq, wr_of (x := n + 1) (by omega) (by omega)]
        cases k with
        | zero => omega
        | succ k =>
          obtain ⟨s3, w1, w2, w3⟩ := e_ckeys htl kx k m (n + 1) s2 _ (by omega) z2 (fun z => by
            rw [sq_ok (r := (-1, sk T tl r.2.1, r.2.2)) rfl] at z ⊢
            dsimp only at z ⊢
            have := num_ok (T := T) htl.2 (p := sk T tl r.2.1) (by omega) (by omega) z
            rw [this.2.1]
            dsimp only
            omega) (by omega) (by omega)
          refine ⟨s3, w1, ?_, x3.trans (z3.trans w3)⟩
          rw [sq_assoc] at w2
          rw [sq_move (p := sk T tl r.2.1) (h := fun p => sq (numP T tl 0 p) (keyP T tl k)) hc.1 (by rw [keyP, if_pos hc.2])]
          exact w2
      · rw [if_neg hc, if_pos rfl]
        refine ⟨s1, rfl, ?_, x3⟩
        by_cases hr1 : r.1 = -1
        · have h3' := h3 hr1
          cases k with
          | zero => omega
          | succ k =>
            have : sq r (keyP T tl (k + 1)) = sq r (skP T tl) := by
              rw [sq_ok hr1, sq_ok hr1, keyP, if_neg (fun z => hc ⟨hr1, z⟩)]
              rfl
            rw [this]
            exact x2
        · rw [sq_no hr1] at x2 ⊢
          exact x2
    · rw [if_neg hn]
      refine ⟨s, rfl, ?_, NK.refl s⟩
      by_cases hr1 : r.1 = -1
      · have h3' := h3 hr1
        have ho := h2.ok hr1
        cases k with
        | zero => omega
        | succ k =>
          have hb := sk_b (T := T) htl.2 ho.2.2.1.1 ho.2.2.1.2
          have e1 : sk T tl r.2.1 = r.2.1 := by omega
          have e2 : hr T tl r.2.1 = -1 := if_neg (by omega)
          have : sq r (keyP T tl (k + 1)) = r := by
            rw [sq_ok hr1, keyP, e1, e2, if_neg (by omega)]
            dsimp only
            rw [List.append_nil, ← hr1]
          rw [this]
          exact h2
      · rw [sq_no hr1]
        exact h2
theorem e_cpend (htl : 0 ≤ tl ∧ tl ≤ 120) : OPL T tl (f_X7_parseEnd oR) (endP T tl) := by
  intro s r h
  unfold f_X7_parseEnd
  by_cases hr1 : r.1 = -1
  · have ho := h.ok hr1
    have hb := sk_b (T := T) htl.2 ho.2.2.1.1 ho.2.2.1.2
    obtain ⟨s1, x1, x2, x3⟩ := e_isNext (T := T) htl 59 h
    obtain ⟨s1', y1, y2, y3⟩ := rp_sk (T := T) htl h hr1
    rw [ho.1, if_pos rfl, x1, bd_eq]
    by_cases hc : hr T tl (sk T tl r.2.1) = 59
    · have hlt := (hr_lt (by omega) hc).1
      rw [if_pos (show r.1 = -1 ∧ hr T tl (sk T tl r.2.1) = 59 from ⟨hr1, hc⟩), if_neg (by omega)]
      rw [sq_sk hr1] at x2
      obtain ⟨w1, w2⟩ := rp_bump htl x2 rfl hlt
      refine ⟨_, rfl, ?_, x3.trans w2⟩
      rw [sq_ok hr1]
      unfold endP
      rw [if_pos hc]
      dsimp only
      rw [List.append_nil]
      exact w1
    · rw [if_neg (show ¬ (r.1 = -1 ∧ hr T tl (sk T tl r.2.1) = 59) from fun z => hc z.2), if_pos rfl]
      rw [sq_sk hr1] at x2
      have o1 := x2.ok rfl
      obtain ⟨q1, q2⟩ := RP.flt (g := fun p => (sk T tl r.2.1, p, [])) x2 rfl (PK.self o1.2.1) (by dsimp only; omega) (by dsimp only; omega) (f := sk T tl r.2.1) (by omega) htl.2 rfl
      refine ⟨wt s1 oR 8 (sk T tl r.2.1), ?_, ?_, x3.trans q2⟩
      · unfold f_X7_fail
        rw [if_pos o1.1, bd_eq, o1.2.1]
      · rw [sq_ok hr1]
        unfold endP
        rw [if_neg hc]
        dsimp only
        rw [List.append_nil]
        rw [sq_ok rfl] at q1
        dsimp only at q1
        rw [List.append_nil] at q1
        exact q1
  · rw [h.2.2.1, if_neg hr1, sq_no hr1]
    exact ⟨s, rfl, h, NK.refl s⟩
end CPARSE2
