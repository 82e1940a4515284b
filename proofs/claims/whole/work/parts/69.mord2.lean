/-! ORDERS OF WORK: read (and done) by the model -/
section MORD2
variable {T : Int → Int} {tl : Int} {s : u_S}
theorem XS.z {d : Int} {s0 : u_S} {E E' : Option (Int → Int)} (h : XS d s0 s E) (hd : d = 0) : XS d s0 s E' := ⟨h.1, fun z => absurd hd z⟩
theorem e_doEmpty {d l : Int} {s0 : u_S} {A : Int → Int} (h : XS d s0 s (some A)) (hl : rd s (24, 20, 0) 0 = l) : ∃ s', (∀ J : u_S → Option (Int × u_S), jn J (fun jp_1 => if d = 0 then (jp_1 s) else (bd (f_X11_canEmpty oM (rd s (a_Mo_numbers oM) 0) s) (fun r_4 s_6 => jn (fun (vt_1 : Int) (s_7 : u_S) => jp_1 s_7) (fun jp_3 => if (rd (wt s_6 oM 19 r_4) oM 19) = 0 then (bd (f_X11_emptyNow oM (rd s (a_Mo_numbers oM) 0) (wt s_6 oM 19 r_4)) (fun r_5 s_8 => jp_3 r_5 s_8)) else (jp_3 0 (wt s_6 oM 19 r_4)))))) = J s') ∧ XS d s0 s' (if canEmA A l < 0 then none else some (emptA A l)) ∧ XT s s' := by
  by_cases hd : d = 0
  · exact ⟨s, fun J => by rw [jn_eq, if_pos hd], h.z hd, XT.refl s⟩
  obtain ⟨_, _, c1, _⟩ := h.2 hd
  obtain ⟨hm, hw, h19⟩ := c1 A rfl
  have hcs := canEm_cases A l
  have e0 : ∀ J : u_S → Option (Int × u_S), jn J (fun jp_1 => if d = 0 then (jp_1 s) else (bd (f_X11_canEmpty oM (rd s (a_Mo_numbers oM) 0) s) (fun r_4 s_6 => jn (fun (vt_1 : Int) (s_7 : u_S) => jp_1 s_7) (fun jp_3 => if (rd (wt s_6 oM 19 r_4) oM 19) = 0 then (bd (f_X11_emptyNow oM (rd s (a_Mo_numbers oM) 0) (wt s_6 oM 19 r_4)) (fun r_5 s_8 => jp_3 r_5 s_8)) else (jp_3 0 (wt s_6 oM 19 r_4)))))) = if canEmA A l = 0 then bd (f_X11_emptyNow oM l (wt s oM 19 (canEmA A l))) (fun r_5 s_8 => J s_8) else J (wt s oM 19 (canEmA A l)) := by
    intro J
    rw [jn_eq, if_neg hd, show a_Mo_numbers oM = (24, 20, 0) from rfl, hl, e_canEmpty hm hw oM, bd_eq]
    simp only [jn_eq]
    rw [rd_wt_same, wr_of (x := canEmA A l) (by omega) (by omega)]
  by_cases hz : canEmA A l = 0
  · obtain ⟨s2, x1, x2, x3⟩ := e_emptyNow (w19_MR hm (canEmA A l)) hw (canEm_0 hz).1 oM
    have hx : XT s s2 := (XT.wt s (canEmA A l)).trans (XT.mal x3)
    refine ⟨s2, fun J => by rw [e0, if_pos hz, x1, bd_eq], h.xt hd hx (fun B hB => ?_) (fun hB => ?_), hx⟩
    · rw [if_neg (by omega)] at hB
      cases hB
      exact ⟨x2, empt_WF hw hz, by rw [x3.rd (by simp [mal]), rd_wt_same, wr_of (by omega) (by omega), hz]⟩
    · rw [if_neg (by omega)] at hB
      cases hB
  · have hx : XT s (wt s oM 19 (canEmA A l)) := XT.wt s _
    refine ⟨wt s oM 19 (canEmA A l), fun J => by rw [e0, if_neg hz], h.xt hd hx (fun B hB => ?_) (fun hB => ?_), hx⟩
    · rw [if_pos (by omega)] at hB
      cases hB
    · rw [rd_wt_same, wr_of (by omega) (by omega)]; omega
theorem e_mline (htl : 0 ≤ tl ∧ tl ≤ 120) (d : Int) {s0 : u_S} {A : Int → Int} {p : Int} (h : MPl T tl s p) (h0 : 0 ≤ p) (h1 : p ≤ tl) (hx : XS d s0 s (some A)) : ∃ s', f_X11_readsLine oM d s = some ((if (linP T tl p).1 = -1 then 1 else 0), s') ∧ MPl T tl s' (outP (linP T tl p)) ∧ ((linP T tl p).1 = -1 ∨ d = 0 → XS d s0 s' (exL A (linP T tl p).2.2)) := by
  obtain ⟨s1, a1, a2, a3, a4⟩ := e_t1 htl h h0 h1
  unfold f_X11_readsLine
  rw [a1, bd_eq]
  have x1 := hx.rq a3
  by_cases hok : (numP T tl 0 p).1 = -1
  · have hno := num_ok (T := T) htl.2 h0 h1 hok
    have ho : outP (numP T tl 0 p) = bgP T tl 0 p + dg T tl (bgP T tl 0 p) := by rw [show outP (numP T tl 0 p) = (numP T tl 0 p).2.1 from if_pos hok, hno.2.1]
    rw [ho] at a2
    have elin : ∀ g, linP T tl p = sq (numP T tl 0 p) g → True := fun _ _ => trivial
    have hq : ∃ q, q = bgP T tl 0 p + dg T tl (bgP T tl 0 p) := ⟨_, rfl⟩
    obtain ⟨q, hq⟩ := hq
    rw [← hq] at a2
    have el : linP T tl p = (if hr T tl (sk T tl q) = 58 then ((sq (notP T tl (sk T tl q + 1)) (ntsP T tl 122)).1, (sq (notP T tl (sk T tl q + 1)) (ntsP T tl 122)).2.1, nvP T tl 0 p :: (sq (notP T tl (sk T tl q + 1)) (ntsP T tl 122)).2.2) else (-1, sk T tl q, [nvP T tl 0 p])) := by
      unfold linP
      rw [sq_ok hok]
      have e1 : (numP T tl 0 p).2.1 = q := by rw [hno.2.1, hq]
      have e2 : (numP T tl 0 p).2.2 = [nvP T tl 0 p] := by rw [hno.2.1]
      rw [e1, e2]
      by_cases h58 : hr T tl (sk T tl q) = 58
      · rw [if_pos h58, if_pos h58]; rfl
      · rw [if_neg h58, if_neg h58]; rfl
    rw [if_pos hok, if_neg (by omega), gd_of (by omega) (by omega)]
    obtain ⟨s2, b1, b2, b3⟩ := e_doEmpty x1 (a4 hok)
    rw [b1]
    have m2 := a2.xt b3
    obtain ⟨s3, c1, c2, c3⟩ := e_here htl.2 m2 (by omega) (by omega)
    have hsk := sk_b (T := T) htl.2 (p := q) (by omega) (by omega)
    have x3 := b2.rq c3.rq
    rw [c1, bd_eq, jn_eq, el, show a_Mo_numbers oM = (24, 20, 0) from rfl, a4 hok]
    by_cases h58 : hr T tl (sk T tl q) = 58
    · have hlt := (hr_lt (by omega) h58).1
      rw [if_pos h58, if_pos h58, f_X11_readsNotes]
      obtain ⟨s4, d1, d2, d3⟩ := e_mnts htl d (nvP T tl 0 p) (fun s_1 => some (1, s_1)) 122 FU s3 (sk T tl q) _ (FU_gt (by omega)) c2 (by omega) hlt (by omega) x3
      rw [d1]
      refine ⟨s4, ?_, d2, fun z => d3 z⟩
      dsimp only
      by_cases hf : (sq (notP T tl (sk T tl q + 1)) (ntsP T tl 122)).1 = -1
      · rw [if_pos hf, if_pos hf, bd_eq, if_neg (by omega)]
      · rw [if_neg hf, if_neg hf, bd_eq, if_pos rfl]
    · rw [if_neg h58, if_neg h58]
      exact ⟨s3, rfl, c2, fun _ => x3⟩
  · have el : linP T tl p = numP T tl 0 p := sq_no hok _
    rw [el, if_neg hok, if_pos rfl]
    refine ⟨s1, rfl, a2, fun z => ?_⟩
    rcases z with z | z
    · exact absurd z hok
    · exact x1.z z
theorem e_mkeys0 (htl : 0 ≤ tl ∧ tl ≤ 120) (d : Int) {s0 : u_S} (kx : u_S → Option (Int × u_S)) : ∀ (k m : Nat) (s : u_S) (p : Int) (E : Option (Int → Int)), k < m → MPl T tl s p → 0 ≤ p → p ≤ tl → (tl - p).toNat < k → XS d s0 s E → ∃ s', f_X11_readsKeys_L13 m kx oM d s = (if (keyP T tl k p).1 = -1 then kx s' else some (0, s')) ∧ MPl T tl s' (outP (keyP T tl k p)) ∧ ((keyP T tl k p).1 = -1 ∨ d = 0 → XS d s0 s' (exV E (keyP T tl k p).2.2))
  | 0, m, s, p, E, h1, h2, h3, h4, h5, h6 => by omega
  | k + 1, 0, s, p, E, h1, h2, h3, h4, h5, h6 => by omega
  | k + 1, m + 1, s, p, E, h1, h2, h3, h4, h5, h6 => by
    obtain ⟨s1, a1, a2, a3⟩ := e_here htl.2 h2 h3 h4
    have hsk := sk_b (T := T) htl.2 h3 h4
    have x1 := h6.rq a3.rq
    rw [f_X11_readsKeys_L13, a1, bd_eq, e_in, bd_eq, keyP]
    by_cases hf : 48 ≤ hr T tl (sk T tl p) ∧ hr T tl (sk T tl p) ≤ 57
    · rw [if_pos hf, if_neg (show ¬ (1 : Int) = 0 by omega), if_pos hf]
      obtain ⟨s2, b1, b2, b3, b4⟩ := e_t1 htl a2 (by omega) (by omega)
      have x2 := x1.rq b3
      rw [b1, bd_eq]
      by_cases hok : (numP T tl 0 (sk T tl p)).1 = -1
      · have hno := num_ok (T := T) htl.2 (p := sk T tl p) (by omega) (by omega) hok
        have e1 : (numP T tl 0 (sk T tl p)).2.1 = bgP T tl 0 (sk T tl p) + dg T tl (bgP T tl 0 (sk T tl p)) := by rw [hno.2.1]
        have e2 : (numP T tl 0 (sk T tl p)).2.2 = [nvP T tl 0 (sk T tl p)] := by rw [hno.2.1]
        rw [show outP (numP T tl 0 (sk T tl p)) = (numP T tl 0 (sk T tl p)).2.1 from if_pos hok] at b2
        rw [if_pos hok, if_neg (by omega), sq_ok hok, e2]
        obtain ⟨s3, c1, c2, c3⟩ := e_doVisit x2 (b4 hok)
        obtain ⟨s4, d1, d2, d3⟩ := e_mkeys0 htl d kx k m s3 (numP T tl 0 (sk T tl p)).2.1 (E.bind (vstA (nvP T tl 0 (sk T tl p)))) (by omega) (b2.xt c3) (by rw [e1]; omega) (by rw [e1]; omega) (by rw [e1]; omega) c2
        refine ⟨s4, ?_, d2, fun z => d3 z⟩
        exact (c1 (fun s => f_X11_readsKeys_L13 m kx oM d s)).trans d1
      · rw [if_neg hok, if_pos rfl, sq_no hok]
        refine ⟨s2, by rw [if_neg hok], b2, fun z => ?_⟩
        rcases z with z | z
        · exact absurd z hok
        · exact x2.z z
    · rw [if_neg hf, if_pos (show (0 : Int) = 0 from rfl), if_neg hf]
      exact ⟨s1, by rw [if_pos rfl], a2, fun _ => x1⟩
theorem e_mkeys (htl : 0 ≤ tl ∧ tl ≤ 120) (d : Int) {s0 : u_S} {A : Int → Int} {p : Int} (h : MPl T tl s p) (h0 : 0 ≤ p) (h1 : p ≤ tl) (hx : XS d s0 s (some A)) : ∃ s', f_X11_readsKeys oM d s = some ((if (keyP T tl 122 p).1 = -1 then 1 else 0), s') ∧ MPl T tl s' (outP (keyP T tl 122 p)) ∧ ((keyP T tl 122 p).1 = -1 ∨ d = 0 → XS d s0 s' (exV (some (upA A 139 0)) (keyP T tl 122 p).2.2)) := by
  unfold f_X11_readsKeys
  rw [jn_eq]
  obtain ⟨s1, e1, x1, m1⟩ : ∃ s1, (if d = 0 then f_X11_readsKeys_L13 FU (fun s_2 => some (1, s_2)) oM d s else gd 139 145 (f_X11_readsKeys_L13 FU (fun s_2 => some (1, s_2)) oM d (wt s (a_Mo_all oM) 139 0))) = f_X11_readsKeys_L13 FU (fun s_2 => some (1, s_2)) oM d s1 ∧ XS d s0 s1 (some (upA A 139 0)) ∧ MPl T tl s1 p := by
    by_cases hd : d = 0
    · exact ⟨s, by rw [if_pos hd], hx.z hd, h⟩
    · obtain ⟨_, _, c1, _⟩ := hx.2 hd
      obtain ⟨hm, hw, h19⟩ := c1 A rfl
      have om : Only mal s (wt s (24, 0, 0) 139 0) := (Only.refl mal s).wt rfl _ _
      refine ⟨wt s (24, 0, 0) 139 0, by rw [if_neg hd, gd_of (by omega) (by omega)]; rfl, hx.xt hd (XT.mal om) (fun B hB => ?_) (fun hB => by cases hB), h.xt (XT.mal om)⟩
      cases hB
      exact ⟨hm.wt (InR_iff.mpr ⟨by omega, by omega⟩), vis0_WF hw, by rw [rd_wt_o (by simp)]; exact h19⟩
  obtain ⟨s2, a1, a2, a3⟩ := e_mkeys0 htl d (fun s_2 => some (1, s_2)) 122 FU s1 p _ (FU_gt (by omega)) m1 h0 h1 (by omega) x1
  refine ⟨s2, ?_, a2, a3⟩
  refine e1.trans (a1.trans ?_)
  split <;> rfl
theorem e_mentry (htl : 0 ≤ tl ∧ tl ≤ 120) (d : Int) {s0 : u_S} {A : Int → Int} {p : Int} (h : MPl T tl s p) (h0 : 0 ≤ p) (h1 : p ≤ tl) (hx : XS d s0 s (some A)) : ∃ s', f_X11_readsEntry oM d s = some ((if (entP T tl p).1 = -1 then 1 else 0), s') ∧ MPl T tl s' (outP (entP T tl p)) ∧ ((entP T tl p).1 = -1 ∨ d = 0 → XS d s0 s' (exE A (entP T tl p).2.2)) := by
  obtain ⟨s1, a1, a2, a3, a4⟩ := e_tA htl 5 2 (by omega) [0, 0, 1, 0, 0] rfl (fun i hi => by
    have : i = 0 ∨ i = 1 ∨ i = 2 ∨ i = 3 ∨ i = 4 := by simp at hi; omega
    rcases this with rfl | rfl | rfl | rfl | rfl <;> rfl) h h0 h1
  rw [mn_5] at a1 a2 a4
  have x1 := hx.rq a3
  unfold f_X11_readsEntry
  rw [a1, bd_eq]
  by_cases hok : (entP T tl p).1 = -1
  · rw [if_pos hok, if_neg (by omega)]
    by_cases hd : d = 0
    · rw [if_pos hd]
      exact ⟨s1, rfl, a2, fun _ => x1.z hd⟩
    · obtain ⟨_, _, c1, _⟩ := x1.2 hd
      obtain ⟨hm, hw, h19⟩ := c1 A rfl
      have q := (a4 hok).2
      have q0 : rd s1 (24, 20, 0) 0 = (entP T tl p).2.2.getD 0 0 := q 0 (by simp)
      have q1 : rd s1 (24, 20, 0) 1 = (entP T tl p).2.2.getD 1 0 := q 1 (by simp)
      have q2 : rd s1 (24, 20, 0) 2 = (entP T tl p).2.2.getD 2 0 := q 2 (by simp)
      have q3 : rd s1 (24, 20, 0) 3 = (entP T tl p).2.2.getD 3 0 := q 3 (by simp)
      have q4 : rd s1 (24, 20, 0) 4 = (entP T tl p).2.2.getD 4 0 := q 4 (by simp)
      unfold exE
      rw [if_neg hd, gd_of (by omega) (by omega), gd_of (by omega) (by omega), gd_of (by omega) (by omega), gd_of (by omega) (by omega), gd_of (by omega) (by omega), show a_Mo_numbers oM = (24, 20, 0) from rfl, q0, q1, q2, q3, q4]
      generalize (entP T tl p).2.2.getD 0 0 = n0 at q0 ⊢
      generalize (entP T tl p).2.2.getD 1 0 = n1 at q1 ⊢
      generalize (entP T tl p).2.2.getD 2 0 = n2 at q2 ⊢
      generalize (entP T tl p).2.2.getD 3 0 = n3 at q3 ⊢
      generalize (entP T tl p).2.2.getD 4 0 = n4 at q4 ⊢
      rw [e_canEnter hm hw oM, bd_eq]
      simp only [jn_eq]
      have hcs := canEn_cases A n0 n1 n2 n3 n4
      rw [rd_wt_same, wr_of (x := canEnA A n0 n1 n2 n3 n4) (by omega) (by omega), rd_wt_o (by simp), rd_wt_o (by simp), rd_wt_o (by simp), rd_wt_o (by simp), rd_wt_o (by simp), q0, q1, q2, q3, q4]
      by_cases hz : canEnA A n0 n1 n2 n3 n4 = 0
      · have g := canEn_0 hw hz
        obtain ⟨s2, y1, y2, y3⟩ := e_enterNow (w19_MR hm (canEnA A n0 n1 n2 n3 n4)) (l := n0) (f := n1) (m := n2) (st := n3) (v := n4) (by omega) (by omega) (by omega) (by omega) (by omega) (by omega) oM
        have hxt : XT s1 s2 := (XT.wt s1 (canEnA A n0 n1 n2 n3 n4)).trans (XT.mal y3)
        rw [if_pos hz, gd_of (by omega) (by omega), gd_of (by omega) (by omega), gd_of (by omega) (by omega), gd_of (by omega) (by omega), gd_of (by omega) (by omega), y1, bd_eq]
        refine ⟨s2, rfl, a2.xt hxt, fun _ => x1.xt hd hxt (fun B hB => ?_) (fun hB => ?_)⟩
        · rw [if_neg (by omega)] at hB
          cases hB
          exact ⟨y2, ents_WF hw hz, by rw [y3.rd (by simp [mal]), rd_wt_same, wr_of (by omega) (by omega), hz]⟩
        · rw [if_neg (by omega)] at hB
          cases hB
      · have hxt : XT s1 (wt s1 oM 19 (canEnA A n0 n1 n2 n3 n4)) := XT.wt s1 _
        rw [if_neg hz]
        refine ⟨wt s1 oM 19 (canEnA A n0 n1 n2 n3 n4), rfl, a2.xt hxt, fun _ => x1.xt hd hxt (fun B hB => ?_) (fun hB => ?_)⟩
        · rw [if_pos (by omega)] at hB
          cases hB
        · rw [rd_wt_same, wr_of (by omega) (by omega)]; omega
  · rw [if_neg hok, if_pos rfl]
    refine ⟨s1, rfl, a2, fun z => ?_⟩
    rcases z with z | z
    · exact absurd z hok
    · exact x1.z z
theorem e_mset (htl : 0 ≤ tl ∧ tl ≤ 120) (c d : Int) {s0 : u_S} {A : Int → Int} {p : Int} (h : MPl T tl s p) (h0 : 0 ≤ p) (h1 : p ≤ tl) (hx : XS d s0 s (some A)) : ∃ s', f_X11_readsSetting oM c d s = some ((if (numP T tl 0 p).1 = -1 then 1 else 0), s') ∧ MPl T tl s' (outP (numP T tl 0 p)) ∧ ((numP T tl 0 p).1 = -1 ∨ d = 0 → XS d s0 s' (exS (wOf c) A (numP T tl 0 p).2.2)) := by
  obtain ⟨s1, a1, a2, a3, a4⟩ := e_t1 htl h h0 h1
  have x1 := hx.rq a3
  unfold f_X11_readsSetting
  rw [a1, bd_eq]
  by_cases hok : (numP T tl 0 p).1 = -1
  · rw [if_pos hok, if_neg (by omega)]
    have ew : ∀ K : Int → u_S → Option (Int × u_S), jn K (fun jp_1 => if c = 104 then (jp_1 0 s1) else (if c = 116 then (jp_1 1 s1) else (jp_1 2 s1))) = K (wOf c) s1 := by
      intro K
      rw [jn_eq]
      unfold wOf
      by_cases h1 : c = 104
      · rw [if_pos h1, if_pos h1]
      · rw [if_neg h1, if_neg h1]
        by_cases h2 : c = 116
        · rw [if_pos h2, if_pos h2]
        · rw [if_neg h2, if_neg h2]
    rw [ew]
    try dsimp only
    by_cases hd : d = 0
    · rw [if_pos hd]
      exact ⟨s1, rfl, a2, fun _ => x1.z hd⟩
    · obtain ⟨_, _, c1, _⟩ := x1.2 hd
      obtain ⟨hm, hw, h19⟩ := c1 A rfl
      have q0 : rd s1 (24, 20, 0) 0 = nvP T tl 0 p := a4 hok
      have eg : (numP T tl 0 p).2.2.getD 0 0 = nvP T tl 0 p := by rw [(num_ok (T := T) htl.2 h0 h1 hok).2.1]; rfl
      unfold exS
      rw [eg]
      generalize nvP T tl 0 p = v at q0 ⊢
      obtain ⟨b, b1, b2, b3⟩ := e_isSetting (wOf c) v s1
      rw [if_neg hd, gd_of (by omega) (by omega), show a_Mo_numbers oM = (24, 20, 0) from rfl, q0, b1, bd_eq]
      simp only [jn_eq]
      by_cases hz : isSet (wOf c) v
      · have hb := b2 hz
        have hB1 : setB (wOf c) v = true := (setB_iff _ _).mpr hz
        obtain ⟨s2, y1, y2, y3⟩ := e_setNow (w19_MR hm 0) hz oM
        have hxt : XT s1 s2 := (XT.wt s1 0).trans (XT.mal y3)
        rw [if_neg (by omega), rd_wt_same, show wr 0 = 0 from rfl, if_pos rfl, gd_of (by omega) (by omega), rd_wt_o (by simp), q0, y1, bd_eq]
        refine ⟨s2, rfl, a2.xt hxt, fun _ => x1.xt hd hxt (fun B hB => ?_) (fun hB => ?_)⟩
        · rw [if_pos hB1] at hB
          cases hB
          exact ⟨y2, set_WF hw hz, by rw [y3.rd (by simp [mal]), rd_wt_same]; rfl⟩
        · rw [if_pos hB1] at hB
          cases hB
      · have hb := b3 hz
        have hB1 : ¬ setB (wOf c) v = true := fun z => hz ((setB_iff _ _).mp z)
        have hxt : XT s1 (wt s1 oM 19 (-2)) := XT.wt s1 _
        rw [if_pos hb, rd_wt_same, show wr (-2) = -2 from rfl, if_neg (by omega)]
        refine ⟨wt s1 oM 19 (-2), rfl, a2.xt hxt, fun _ => x1.xt hd hxt (fun B hB => ?_) (fun hB => ?_)⟩
        · rw [if_neg hB1] at hB
          cases hB
        · rw [rd_wt_same, show wr (-2) = -2 from rfl]; omega
  · rw [if_neg hok, if_pos rfl]
    refine ⟨s1, rfl, a2, fun z => ?_⟩
    rcases z with z | z
    · exact absurd z hok
    · exact x1.z z
theorem e_mbod (htl : 0 ≤ tl ∧ tl ≤ 120) (c d : Int) {s0 : u_S} {A : Int → Int} {p : Int} (h : MPl T tl s p) (h0 : 0 ≤ p) (h1 : p ≤ tl) (hx : XS d s0 s (some A)) : ∃ s', (∀ J : Int → u_S → Option (Int × u_S), (if c = 108 then (bd (f_X11_readsLine oM d s) (fun r_6 s_8 => J r_6 s_8)) else (if c = 101 then (bd (f_X11_readsEntry oM d s) (fun r_5 s_7 => J r_5 s_7)) else (if c = 107 then (bd (f_X11_readsKeys oM d s) (fun r_4 s_6 => J r_4 s_6)) else (bd (f_X11_readsSetting oM c d s) (fun r_3 s_5 => J r_3 s_5))))) = J (if (bodP T tl c p).1 = -1 then 1 else 0) s') ∧ MPl T tl s' (outP (bodP T tl c p)) ∧ ((bodP T tl c p).1 = -1 ∨ d = 0 → XS d s0 s' (exO A c (bodP T tl c p).2.2)) := by
  unfold bodP exO
  by_cases c1 : c = 108
  · obtain ⟨s1, a1, a2, a3⟩ := e_mline htl d h h0 h1 hx
    rw [if_pos c1, if_pos c1]
    exact ⟨s1, fun J => by rw [if_pos c1, a1, bd_eq], a2, a3⟩
  rw [if_neg c1, if_neg c1]
  by_cases c2 : c = 101
  · obtain ⟨s1, a1, a2, a3⟩ := e_mentry htl d h h0 h1 hx
    rw [if_pos c2, if_pos c2]
    exact ⟨s1, fun J => by rw [if_neg c1, if_pos c2, a1, bd_eq], a2, a3⟩
  rw [if_neg c2, if_neg c2]
  by_cases c3 : c = 107
  · obtain ⟨s1, a1, a2, a3⟩ := e_mkeys htl d h h0 h1 hx
    rw [if_pos c3, if_pos c3]
    exact ⟨s1, fun J => by rw [if_neg c1, if_neg c2, if_pos c3, a1, bd_eq], a2, a3⟩
  · obtain ⟨s1, a1, a2, a3⟩ := e_mset htl c d h h0 h1 hx
    rw [if_neg c3, if_neg c3]
    exact ⟨s1, fun J => by rw [if_neg c1, if_neg c2, if_neg c3, a1, bd_eq], a2, a3⟩
theorem e_morder (htl : 0 ≤ tl ∧ tl ≤ 120) (d : Int) {s0 : u_S} {A : Int → Int} {p : Int} (h : MPl T tl s p) (h0 : 0 ≤ p) (h1 : p ≤ tl) (hx : XS d s0 s (some A)) : ∃ s', f_X11_readsOrder oM d s = some ((if (ordP T tl p).1 = -1 then 1 else 0), s') ∧ MPl T tl s' (outP (ordP T tl p)) ∧ ((ordP T tl p).1 = -1 ∨ d = 0 → XS d s0 s' (exO A (hr T tl (sk T tl p)) (ordP T tl p).2.2)) := by
  obtain ⟨s1, a1, a2, a3⟩ := e_here htl.2 h h0 h1
  have hsk := sk_b (T := T) htl.2 h0 h1
  have x1 := hx.rq a3.rq
  unfold f_X11_readsOrder ordP
  rw [a1, bd_eq]
  generalize hc0 : hr T tl (sk T tl p) = c
  rw [jn_eq, ltr6]
  by_cases hc : c = 108 ∨ c = 101 ∨ c = 104 ∨ c = 116 ∨ c = 109 ∨ c = 107
  · have hlt := (hr_lt (T := T) (tl := tl) (p := sk T tl p) (c := c) (by omega) hc0).1
    rw [if_pos hc, if_pos hc]
    dsimp only
    have m2 : MPl T tl (wt s1 oM 17 (wr (rd s1 oM 17 + 1))) (sk T tl p + 1) := by
      rw [a2.2, wr_of (x := sk T tl p + 1) (by omega) (by omega)]
      exact ⟨a2.1.rq (RQm.wt17 s1 _).rq, by rw [rd_wt_same, wr_of (by omega) (by omega)]⟩
    have x2 : XS d s0 (wt s1 oM 17 (wr (rd s1 oM 17 + 1))) (some A) := x1.rq (RQm.wt17 s1 _).rq
    obtain ⟨s2, b1, b2, b3⟩ := e_mbod htl c d m2 (by omega) (by omega) x2
    rw [jn_eq, b1]
    try dsimp only
    have go := go_bod (T := T) htl.2 c (sk T tl p + 1) (by omega) (by omega)
    by_cases hok : (bodP T tl c (sk T tl p + 1)).1 = -1
    · have g1 := go.1 hok
      rw [show outP (bodP T tl c (sk T tl p + 1)) = (bodP T tl c (sk T tl p + 1)).2.1 from if_pos hok] at b2
      have x3 := b3 (Or.inl hok)
      obtain ⟨s3, c1, c2, c3⟩ := e_here htl.2 b2 (by omega) g1.2.1
      have hsk2 := sk_b (T := T) htl.2 (p := (bodP T tl c (sk T tl p + 1)).2.1) (by omega) g1.2.1
      have x4 := x3.rq c3.rq
      rw [if_pos hok, if_neg (by omega), c1, bd_eq, sq_ok hok]
      unfold endP
      by_cases h59 : hr T tl (sk T tl (bodP T tl c (sk T tl p + 1)).2.1) = 59
      · have hlt2 := (hr_lt (by omega) h59).1
        rw [if_pos h59, if_pos h59]
        dsimp only
        rw [List.append_nil, if_pos rfl]
        refine ⟨_, rfl, ⟨c2.1.rq (RQm.wt17 s3 _).rq, ?_⟩, fun _ => x4.rq (RQm.wt17 s3 _).rq⟩
        rw [rd_wt_same, wr_in (InR_wr _), c2.2, wr_of (by omega) (by omega)]
        exact (if_pos rfl).symm
      · rw [if_neg h59, if_neg h59]
        dsimp only
        have hneg : ¬ sk T tl (bodP T tl c (sk T tl p + 1)).2.1 = -1 := by omega
        rw [List.append_nil, if_neg hneg]
        refine ⟨s3, rfl, ⟨c2.1, by rw [c2.2]; exact (if_neg hneg).symm⟩, fun z => ?_⟩
        rcases z with z | z
        · exact absurd z hneg
        · exact x4.z z
    · rw [if_neg hok, if_pos rfl, sq_no hok, if_neg hok]
      refine ⟨s2, rfl, b2, fun z => ?_⟩
      rcases z with z | z
      · exact absurd z hok
      · exact (b3 (Or.inr z)).z z
  · rw [if_neg hc, if_neg hc]
    dsimp only
    have hneg : ¬ sk T tl p = -1 := by omega
    rw [if_neg hneg]
    refine ⟨s1, rfl, ⟨a2.1, by rw [a2.2]; exact (if_neg hneg).symm⟩, fun z => ?_⟩
    rcases z with z | z
    · exact absurd z hneg
    · exact x1.z z
end MORD2
