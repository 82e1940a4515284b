/-! THE TEXT read by the model: numbers -/
def MB (T : Int → Int) (tl : Int) (s : u_S) : Prop := rd s oM 16 = tl ∧ ∀ i : Int, 0 ≤ i → i < tl → rd s (24, 15, 0) i = T i
def MPl (T : Int → Int) (tl : Int) (s : u_S) (p : Int) : Prop := MB T tl s ∧ rd s oM 17 = p
def mdn (o : u_O) : Prop := o = (23, 0, 0) ∨ o = (24, 20, 0)
def RQ (s s' : u_S) : Prop := Only mdn s s' ∧ ∀ k, k ≠ 17 → k ≠ 18 → rd s' oM k = rd s oM k
def RQm (s s' : u_S) : Prop := Only (fun o => o = (23, 0, 0)) s s' ∧ ∀ k, k ≠ 17 → k ≠ 18 → rd s' oM k = rd s oM k
def outP (r : Rs) : Int := if r.1 = -1 then r.2.1 else r.1
def mnP (T : Int → Int) (tl : Int) : List Int → Int → Rs
  | [], p => (-1, p, [])
  | sg :: L, p => sq (numP T tl sg p) (mnP T tl L)
theorem RQ.refl (s : u_S) : RQ s s := ⟨Only.refl _ _, fun _ _ _ => rfl⟩
theorem RQ.trans {s s1 s2 : u_S} (h : RQ s s1) (h2 : RQ s1 s2) : RQ s s2 := ⟨h.1.trans h2.1, fun k a b => (h2.2 k a b).trans (h.2 k a b)⟩
theorem RQm.refl (s : u_S) : RQm s s := ⟨Only.refl _ _, fun _ _ _ => rfl⟩
theorem RQm.trans {s s1 s2 : u_S} (h : RQm s s1) (h2 : RQm s1 s2) : RQm s s2 := ⟨h.1.trans h2.1, fun k a b => (h2.2 k a b).trans (h.2 k a b)⟩
theorem RQm.rq {s s' : u_S} (h : RQm s s') : RQ s s' := ⟨h.1.mono (fun _ z => Or.inl z), h.2⟩
theorem RQm.wt17 (s : u_S) (v : Int) : RQm s (wt s oM 17 v) := ⟨(Only.refl (fun o => o = ((23, 0, 0) : u_O)) s).wt rfl _ _, fun k a _ => rd_wt_k a⟩
theorem RQm.wt18 (s : u_S) (v : Int) : RQm s (wt s oM 18 v) := ⟨(Only.refl (fun o => o = ((23, 0, 0) : u_O)) s).wt rfl _ _, fun k _ b => rd_wt_k b⟩
theorem MB.rq {T : Int → Int} {tl : Int} {s s' : u_S} (h : MB T tl s) (hq : RQ s s') : MB T tl s' := ⟨by rw [hq.2 16 (by omega) (by omega)]; exact h.1, fun i a b => by rw [hq.1.rd (by simp [mdn])]; exact h.2 i a b⟩
theorem sq_nil (r : Rs) : sq r (fun p => (-1, p, [])) = r := by
  by_cases h : r.1 = -1
  · rw [sq_ok h]
    dsimp only
    rw [List.append_nil, ← h]
  · exact sq_no h _
section MPARSE
variable {T : Int → Int} {tl : Int} {s : u_S}
theorem mn_1 (p : Int) : mnP T tl [0] p = numP T tl 0 p := sq_nil _
theorem mn_2 (p : Int) : mnP T tl [0, 0] p = notP T tl p := by
  show sq (numP T tl 0 p) (mnP T tl [0]) = sq (numP T tl 0 p) (numP T tl 0)
  rw [show mnP T tl [0] = numP T tl 0 from funext mn_1]
theorem mn_5 (p : Int) : mnP T tl [0, 0, 1, 0, 0] p = entP T tl p := by
  unfold entP
  rw [sq_assoc, sq_assoc, sq_assoc]
  show sq (numP T tl 0 p) (mnP T tl [0, 1, 0, 0]) = _
  have e : mnP T tl [0, 1, 0, 0] = fun p => sq (numP T tl 0 p) (fun p => sq (numP T tl 1 p) (fun p => sq (numP T tl 0 p) (numP T tl 0))) := by
    funext p
    show sq (numP T tl 0 p) (fun p => sq (numP T tl 1 p) (fun p => sq (numP T tl 0 p) (mnP T tl [0]))) = _
    rw [show mnP T tl [0] = numP T tl 0 from funext mn_1]
  rw [e]
theorem e_here0 (htl : tl ≤ 120) (kx : u_S → Option (Int × u_S)) : ∀ (k m : Nat) (s : u_S) (p : Int), k < m → (tl - p).toNat ≤ k → MB T tl s → rd s oM 17 = p → 0 ≤ p → p ≤ tl → ∃ s', f_X11_here_L0 m kx oM s = kx s' ∧ rd s' oM 17 = skF T tl k p ∧ (RQm s s' ∧ rd s' oM 18 = rd s oM 18)
  | 0, m, s, p, h1, h2, h3, h4, h5, h6 => by
    cases m with
    | zero => omega
    | succ m =>
      refine ⟨s, ?_, h4, RQm.refl s, rfl⟩
      rw [f_X11_here_L0, h4, h3.1, if_neg (by omega)]
  | k + 1, m, s, p, h1, h2, h3, h4, h5, h6 => by
    cases m with
    | zero => omega
    | succ m =>
      rw [f_X11_here_L0, h4, h3.1, skF]
      by_cases hlt : p < tl
      · rw [if_pos hlt, gd_of h5 (by omega), show a_Mo_text oM = (24, 15, 0) from rfl, h3.2 p h5 hlt]
        by_cases hb : T p = 32
        · rw [if_pos hb, if_pos ⟨hlt, hb⟩, wr_of (x := p + 1) (by omega) (by omega)]
          obtain ⟨s', x1, x2, x3, x4⟩ := e_here0 htl kx k m (wt s oM 17 (p + 1)) (p + 1) (by omega) (by omega) (h3.rq (RQm.wt17 s _).rq) (by rw [rd_wt_same, wr_of (by omega) (by omega)]) (by omega) (by omega)
          exact ⟨s', x1, x2, (RQm.wt17 s _).trans x3, by rw [x4, rd_wt_k (by omega)]⟩
        · rw [if_neg hb, if_neg (fun z => hb z.2)]
          exact ⟨s, rfl, h4, RQm.refl s, rfl⟩
      · rw [if_neg hlt, if_neg (fun z => hlt z.1)]
        exact ⟨s, rfl, h4, RQm.refl s, rfl⟩
theorem e_here (htl : tl ≤ 120) {p : Int} (h : MPl T tl s p) (h0 : 0 ≤ p) (h1 : p ≤ tl) : ∃ s', f_X11_here oM s = some (hr T tl (sk T tl p), s') ∧ MPl T tl s' (sk T tl p) ∧ RQm s s' := by
  have hb := sk_b (T := T) htl h0 h1
  obtain ⟨s1, x1, x2, x3, _⟩ := e_here0 htl (fun s_1 => if (rd s_1 oM 17) < (rd s_1 oM 16) then (gd (rd s_1 oM 17) 120 (some ((rd s_1 (a_Mo_text oM) (rd s_1 oM 17)), s_1))) else (some ((-1), s_1))) 121 FU s p (FU_gt (by omega)) (by omega) h.1 h.2 h0 h1
  have m1 := h.1.rq x3.rq
  have e17 : rd s1 oM 17 = sk T tl p := x2
  refine ⟨s1, ?_, ⟨m1, x2⟩, x3⟩
  unfold f_X11_here
  rw [x1, e17, m1.1]
  unfold hr
  by_cases hlt : sk T tl p < tl
  · rw [if_pos hlt, if_pos hlt, gd_of (by omega) (by omega), show a_Mo_text oM = (24, 15, 0) from rfl, m1.2 _ (by omega) hlt]
  · rw [if_neg hlt, if_neg hlt]
theorem e_misF (htl : tl ≤ 120) (h : MB T tl s) {x : Int} (h0 : 0 ≤ x) : f_X11_isFigure oM x s = some ((if x < tl ∧ 48 ≤ T x ∧ T x ≤ 57 then 1 else 0), s) := by
  unfold f_X11_isFigure
  rw [h.1]
  by_cases hlt : x < tl
  · rw [if_pos hlt, gd_of h0 (by omega), show a_Mo_text oM = (24, 15, 0) from rfl, h.2 x h0 hlt, e_in, bd_eq]
    by_cases hf : 48 ≤ T x ∧ T x ≤ 57
    · rw [if_pos hf, if_neg (by omega), if_pos ⟨hlt, hf⟩]
    · rw [if_neg hf, if_pos rfl, if_neg (fun z => hf z.2)]
  · rw [if_neg hlt, if_neg (fun z => hlt z.1)]
theorem e_mfigs (htl : tl ≤ 120) (a c b : Int) (hb0 : 0 ≤ b) (kx : Int → u_S → Option (Int × u_S)) : ∀ (k j m : Nat) (s : u_S) (x v : Int), k < m → (tl - x).toNat ≤ k → MB T tl s → rd s oM 18 = v → b ≤ x → x - b = 4 - j → x ≤ tl → j ≤ 4 → (0 ≤ v ∧ v ≤ 9999 ∧ (1 ≤ j → v ≤ 999) ∧ (2 ≤ j → v ≤ 99) ∧ (3 ≤ j → v ≤ 9) ∧ (4 ≤ j → v = 0)) → ∃ s', f_X11_takes_L52 m kx oM a c b x s = kx (x + (min (dgF T tl k x) j : Nat)) s' ∧ rd s' oM 18 = vlF T (min (dgF T tl k x) j) x v ∧ RQm s s' ∧ rd s' oM 17 = rd s oM 17
  | 0, j, m, s, x, v, h1, h2, h3, h4, h5, h6, h7, h8, h9 => by
    cases m with
    | zero => omega
    | succ m =>
      refine ⟨s, ?_, by rw [dgF, Nat.zero_min, vlF]; exact h4, RQm.refl s, rfl⟩
      rw [f_X11_takes_L52, e_misF htl h3 (by omega), bd_eq, if_neg (show ¬ (x < tl ∧ 48 ≤ T x ∧ T x ≤ 57) by omega), if_pos rfl, dgF, Nat.zero_min, show x + ((0 : Nat) : Int) = x by omega]
  | k + 1, j, m, s, x, v, h1, h2, h3, h4, h5, h6, h7, h8, h9 => by
    cases m with
    | zero => omega
    | succ m =>
      rw [f_X11_takes_L52, e_misF htl h3 (by omega), bd_eq, dgF, wr_of (x := x - b) (by omega) (by omega)]
      by_cases hf : x < tl ∧ 48 ≤ T x ∧ T x ≤ 57
      · rw [if_pos hf, if_neg (show ¬ (1 : Int) = 0 by omega), if_pos hf]
        cases j with
        | zero =>
          rw [if_neg (by omega), Nat.min_zero, show x + ((0 : Nat) : Int) = x by omega, vlF]
          exact ⟨s, rfl, h4, RQm.refl s, rfl⟩
        | succ j =>
          rw [if_pos (by omega), gd_of (by omega) (by omega), h4, show a_Mo_text oM = (24, 15, 0) from rfl, h3.2 x (by omega) hf.1, wr_of (x := x + 1) (by omega) (by omega), wr_of (x := 10 * v) (by omega) (by omega), wr_of (x := 10 * v + T x) (by omega) (by omega), wr_of (x := 10 * v + T x - 48) (by omega) (by omega)]
          obtain ⟨s', x1, x2, x3, x4⟩ := e_mfigs htl a c b hb0 kx k j m (wt s oM 18 (10 * v + T x - 48)) (x + 1) (10 * v + T x - 48) (by omega) (by omega) (h3.rq (RQm.wt18 s _).rq) (by rw [rd_wt_same, wr_of (by omega) (by omega)]) (by omega) (by omega) (by omega) (by omega) (by omega)
          rw [Nat.succ_min_succ, show x + ((Nat.succ (min (dgF T tl k (x + 1)) j) : Nat) : Int) = x + 1 + ((min (dgF T tl k (x + 1)) j : Nat) : Int) by omega, vlF]
          exact ⟨s', x1, x2, (RQm.wt18 s _).trans x3, by rw [x4, rd_wt_k (by omega)]⟩
      · rw [if_neg hf, if_pos rfl, if_neg hf, Nat.zero_min, show x + ((0 : Nat) : Int) = x by omega, vlF]
        exact ⟨s, rfl, h4, RQm.refl s, rfl⟩
theorem e_takes (htl : 0 ≤ tl ∧ tl ≤ 120) (sg : Int) {p : Int} (h : MPl T tl s p) (h0 : 0 ≤ p) (h1 : p ≤ tl) : ∃ s', f_X11_takes oM sg s = some ((if (numP T tl sg p).1 = -1 then 1 else 0), s') ∧ MPl T tl s' (outP (numP T tl sg p)) ∧ RQm s s' ∧ ((numP T tl sg p).1 = -1 → rd s' oM 18 = nvP T tl sg p) := by
  have hsk := sk_b (T := T) htl.2 h0 h1
  have hbg := bg_b (T := T) htl.2 h0 h1 sg
  have hdg := dg_b (T := T) htl.2 (p := bgP T tl sg p) (by omega) (by omega)
  obtain ⟨vt, s2, y1, y2, y3, y4⟩ : ∃ (vt : Int) (s2 : u_S), (∀ K : Int → Int → u_S → Option (Int × u_S), jn (fun (vt_1 : Int) (s_1 : u_S) => bd (f_X11_here oM s_1) (fun r_1 s_2 => K vt_1 r_1 s_2)) (fun jp_1 => jn (fun (s_10 : u_S) => jp_1 0 s_10) (fun jp_5 => if sg = 0 then (jp_5 s) else (bd (f_X11_here oM s) (fun r_3 s_11 => if r_3 = 45 then (jp_1 1 s_11) else (jp_5 s_11))))) = K vt (hr T tl (sk T tl p)) s2) ∧ MPl T tl s2 (sk T tl p) ∧ RQm s s2 ∧ vt = (if sg ≠ 0 ∧ hr T tl (sk T tl p) = 45 then 1 else 0) := by
    obtain ⟨s1, a1, a2, a3⟩ := e_here htl.2 h h0 h1
    obtain ⟨s2, b1, b2, b3⟩ := e_here htl.2 a2 (by omega) (by omega)
    rw [sk_id htl.2 h0 h1] at b1 b2
    by_cases hs : sg = 0
    · refine ⟨0, s1, fun K => ?_, a2, a3, by rw [if_neg (fun z => z.1 hs)]⟩
      simp only [jn_eq]
      rw [if_pos hs, a1, bd_eq]
    · by_cases hm : hr T tl (sk T tl p) = 45
      · refine ⟨1, s2, fun K => ?_, b2, a3.trans b3, by rw [if_pos ⟨hs, hm⟩]⟩
        simp only [jn_eq]
        rw [if_neg hs, a1, bd_eq, if_pos hm, b1, bd_eq]
      · refine ⟨0, s2, fun K => ?_, b2, a3.trans b3, by rw [if_neg (fun z => hm z.2)]⟩
        simp only [jn_eq]
        rw [if_neg hs, a1, bd_eq, if_neg hm, b1, bd_eq]
  have ebg : (if vt = 0 then sk T tl p else sk T tl p + 1) = bgP T tl sg p := by
    unfold bgP
    by_cases hm : sg ≠ 0 ∧ hr T tl (sk T tl p) = 45
    · rw [y4, if_pos hm, if_pos hm, if_neg (by omega)]
    · rw [y4, if_neg hm, if_neg hm, if_pos rfl]
  have hr1 : hr T tl (sk T tl p) = -1 → dg T tl (bgP T tl sg p) = 0 := by
    intro z
    have hm : ¬ (sg ≠ 0 ∧ hr T tl (sk T tl p) = 45) := fun w => by have := w.2; omega
    have e : bgP T tl sg p = sk T tl p := if_neg hm
    by_cases hlt : sk T tl p < tl
    · have hT : T (sk T tl p) = -1 := by unfold hr at z; rwa [if_pos hlt] at z
      rw [e] at hdg ⊢
      by_cases hd : dg T tl (sk T tl p) = 0
      · exact hd
      · have := hdg.2.1 0 (by omega)
        rw [show sk T tl p + ((0 : Nat) : Int) = sk T tl p by omega] at this
        omega
    · rw [e] at hdg ⊢
      omega
  obtain ⟨s3, z1, z2, z3, z4⟩ := e_mfigs (T := T) htl.2 vt (hr T tl (sk T tl p)) (bgP T tl sg p) (by omega) (fun v5_1 s_4 => jn (fun (s_5 : u_S) => some (0, (wt s_5 oM 17 (bgP T tl sg p)))) (fun jp_3 => if hr T tl (sk T tl p) = (-1) then (jp_3 s_4) else (if v5_1 = bgP T tl sg p then (jp_3 s_4) else (if (wr (v5_1 - bgP T tl sg p)) ≤ 3 then (jn (fun (vt_3 : u_O) (vt_4 : Int) (s_6 : u_S) => some (1, (wt (wt s_6 vt_3 18 vt_4) oM 17 v5_1))) (fun jp_4 => if vt = 0 then (jp_4 oM (rd s_4 oM 18) s_4) else (jp_4 oM (wr (- (rd s_4 oM 18))) s_4))) else (some (0, s_4)))))) 121 4 FU (wt s2 oM 18 0) (bgP T tl sg p) 0 (FU_gt (by omega)) (by omega) (y2.1.rq (RQm.wt18 s2 _).rq) (by rw [rd_wt_same]; rfl) (by omega) (by omega) (by omega) (by omega) (by omega)
  have e0 : f_X11_takes oM sg s = jn (fun (s_5 : u_S) => some (0, (wt s_5 oM 17 (bgP T tl sg p)))) (fun jp_3 => if hr T tl (sk T tl p) = (-1) then (jp_3 s3) else (if bgP T tl sg p + (min (dg T tl (bgP T tl sg p)) 4 : Nat) = bgP T tl sg p then (jp_3 s3) else (if (wr (bgP T tl sg p + (min (dg T tl (bgP T tl sg p)) 4 : Nat) - bgP T tl sg p)) ≤ 3 then (jn (fun (vt_3 : u_O) (vt_4 : Int) (s_6 : u_S) => some (1, (wt (wt s_6 vt_3 18 vt_4) oM 17 (bgP T tl sg p + (min (dg T tl (bgP T tl sg p)) 4 : Nat))))) (fun jp_4 => if vt = 0 then (jp_4 oM (rd s3 oM 18) s3) else (jp_4 oM (wr (- (rd s3 oM 18))) s3))) else (some (0, s3))))) := by
    unfold f_X11_takes
    have := y1 (fun vt_1 r_1 s_2 => jn (fun (vt_2 : Int) (s_3 : u_S) => f_X11_takes_L52 FU (fun v5_1 s_4 => jn (fun (s_5 : u_S) => some (0, (wt s_5 oM 17 vt_2))) (fun jp_3 => if r_1 = (-1) then (jp_3 s_4) else (if v5_1 = vt_2 then (jp_3 s_4) else (if (wr (v5_1 - vt_2)) ≤ 3 then (jn (fun (vt_3 : u_O) (vt_4 : Int) (s_6 : u_S) => some (1, (wt (wt s_6 vt_3 18 vt_4) oM 17 v5_1))) (fun jp_4 => if vt_1 = 0 then (jp_4 oM (rd s_4 oM 18) s_4) else (jp_4 oM (wr (- (rd s_4 oM 18))) s_4))) else (some (0, s_4)))))) oM vt_1 r_1 vt_2 vt_2 (wt s_3 oM 18 0)) (fun jp_2 => if vt_1 = 0 then (jp_2 (rd s_2 oM 17) s_2) else (jp_2 (wr ((rd s_2 oM 17) + 1)) s_2)))
    refine this.trans ?_
    rw [← ebg] at z1 ⊢
    rw [jn_eq, y2.2, wr_of (x := sk T tl p + 1) (by omega) (by omega)]
    by_cases hvt : vt = 0
    · simp only [if_pos hvt] at z1 ⊢
      exact z1
    · simp only [if_neg hvt] at z1 ⊢
      exact z1
  have b3 : MB T tl s3 := (y2.1.rq (RQm.wt18 s2 _).rq).rq z3.rq
  have q3 : RQm s s3 := y3.trans ((RQm.wt18 s2 _).trans z3)
  have p3 : rd s3 oM 17 = sk T tl p := by rw [z4, rd_wt_k (by omega)]; exact y2.2
  rw [e0, jn_eq]
  by_cases hd0 : dg T tl (bgP T tl sg p) = 0
  · have hn : numP T tl sg p = (bgP T tl sg p, bgP T tl sg p, []) := if_pos hd0
    have hneg : ¬ bgP T tl sg p = -1 := by omega
    rw [hn]
    refine ⟨wt s3 oM 17 (bgP T tl sg p), ?_, ⟨b3.rq (RQm.wt17 _ _).rq, by rw [rd_wt_same, wr_of (by omega) (by omega)]; exact (if_neg hneg).symm⟩, q3.trans (RQm.wt17 _ _), fun z => absurd z hneg⟩
    rw [if_neg hneg, if_pos (show bgP T tl sg p + ((min (dg T tl (bgP T tl sg p)) 4 : Nat) : Int) = bgP T tl sg p by rw [hd0]; simp), ite_self]
  · rw [if_neg (fun z => hd0 (hr1 z)), if_neg (by omega), wr_of (by omega) (by omega)]
    by_cases hd3 : 3 < dg T tl (bgP T tl sg p)
    · have hn : numP T tl sg p = (sk T tl p, sk T tl p, []) := by unfold numP; rw [if_neg hd0, if_pos hd3]
      have hneg : ¬ sk T tl p = -1 := by omega
      rw [hn, if_neg (by omega)]
      refine ⟨s3, by rw [if_neg hneg], ⟨b3, by rw [p3]; exact (if_neg hneg).symm⟩, q3, fun z => absurd z hneg⟩
    · have hn : numP T tl sg p = (-1, bgP T tl sg p + dg T tl (bgP T tl sg p), [nvP T tl sg p]) := by unfold numP; rw [if_neg hd0, if_neg hd3]
      have hv3 := vl_b3 (T := T) (d := dg T tl (bgP T tl sg p)) (p := bgP T tl sg p) (by omega) hdg.2.1
      have hmin : min (dg T tl (bgP T tl sg p)) 4 = dg T tl (bgP T tl sg p) := by omega
      have z2' : rd s3 oM 18 = vlF T (min (dg T tl (bgP T tl sg p)) 4) (bgP T tl sg p) 0 := z2
      rw [hmin] at z2' ⊢
      have hnv : nvP T tl sg p = if vt = 0 then vlF T (dg T tl (bgP T tl sg p)) (bgP T tl sg p) 0 else -(vlF T (dg T tl (bgP T tl sg p)) (bgP T tl sg p) 0) := by
        unfold nvP
        by_cases hm : sg ≠ 0 ∧ hr T tl (sk T tl p) = 45
        · rw [if_pos hm, y4, if_pos hm, if_neg (by omega)]
        · rw [if_neg hm, y4, if_neg hm, if_pos rfl]
      rw [hn, if_pos (by omega), jn_eq, z2', wr_of (x := - vlF T (dg T tl (bgP T tl sg p)) (bgP T tl sg p) 0) (by omega) (by omega)]
      have hres : (if vt = 0 then (fun (vt_3 : u_O) (vt_4 : Int) (s_6 : u_S) => (some ((1 : Int), wt (wt s_6 vt_3 18 vt_4) oM 17 (bgP T tl sg p + (dg T tl (bgP T tl sg p) : Int))))) oM (vlF T (dg T tl (bgP T tl sg p)) (bgP T tl sg p) 0) s3 else (fun (vt_3 : u_O) (vt_4 : Int) (s_6 : u_S) => (some ((1 : Int), wt (wt s_6 vt_3 18 vt_4) oM 17 (bgP T tl sg p + (dg T tl (bgP T tl sg p) : Int))))) oM (- vlF T (dg T tl (bgP T tl sg p)) (bgP T tl sg p) 0) s3) = some (1, wt (wt s3 oM 18 (nvP T tl sg p)) oM 17 (bgP T tl sg p + (dg T tl (bgP T tl sg p) : Int))) := by
        rw [hnv]
        split <;> rfl
      refine ⟨wt (wt s3 oM 18 (nvP T tl sg p)) oM 17 (bgP T tl sg p + (dg T tl (bgP T tl sg p) : Int)), hres.trans rfl, ⟨b3.rq ((RQm.wt18 _ _).trans (RQm.wt17 _ _)).rq, ?_⟩, q3.trans ((RQm.wt18 _ _).trans (RQm.wt17 _ _)), fun _ => ?_⟩
      · rw [rd_wt_same, wr_of (by omega) (by omega)]
        exact (if_pos rfl).symm
      · rw [rd_wt_k (by omega), rd_wt_same, wr_of]
        · rw [hnv]; split <;> omega
        · rw [hnv]; split <;> omega
/-- several numbers -/
theorem e_tall (htl : 0 ≤ tl ∧ tl ≤ 120) (n sg : Int) (hn : n ≤ 5) (kx : u_S → Option (Int × u_S)) : ∀ (L : List Int) (k m : Nat) (s : u_S) (p : Int), L.length < m → (k : Int) + L.length = n → (∀ i : Nat, i < L.length → L.getD i 0 = if ((k + i : Nat) : Int) = sg then 1 else 0) → MPl T tl s p → 0 ≤ p → p ≤ tl → ∃ s', f_X11_takesAll_L2 m kx oM n sg (k : Int) s = (if (mnP T tl L p).1 = -1 then kx s' else some (0, s')) ∧ MPl T tl s' (outP (mnP T tl L p)) ∧ RQ s s' ∧ (∀ i : Int, i < k → rd s' (24, 20, 0) i = rd s (24, 20, 0) i) ∧ ((mnP T tl L p).1 = -1 → (mnP T tl L p).2.2.length = L.length ∧ ∀ i : Nat, i < L.length → rd s' (24, 20, 0) ((k + i : Nat) : Int) = (mnP T tl L p).2.2.getD i 0)
  | [], k, m, s, p, h1, h2, h3, h4, h5, h6 => by
    cases m with
    | zero => simp at h1
    | succ m =>
      rw [List.length_nil] at h2
      refine ⟨s, ?_, by rw [mnP]; exact h4, RQ.refl s, fun _ _ => rfl, fun _ => ⟨rfl, fun i hi => by simp at hi⟩⟩
      rw [f_X11_takesAll_L2, if_neg (by omega), mnP, if_pos rfl]
  | g :: L, k, m, s, p, h1, h2, h3, h4, h5, h6 => by
    cases m with
    | zero => simp at h1
    | succ m =>
      rw [List.length_cons] at h1 h2
      have hg := h3 0 (by simp)
      rw [Nat.add_zero] at hg
      have hg' : g = if (k : Int) = sg then 1 else 0 := hg
      obtain ⟨s1, x1, x2, x3, x4⟩ := e_takes htl g h4 h5 h6
      have e1 : ∀ K : u_O → Int → u_S → Option (Int × u_S), jn K (fun jp_1 => if (k : Int) = sg then (jp_1 oM 1 s) else (jp_1 oM 0 s)) = K oM g s := by
        intro K
        rw [jn_eq, hg']
        split <;> rfl
      rw [f_X11_takesAll_L2, if_pos (by omega), e1]
      try dsimp only
      rw [x1, bd_eq]
      by_cases hok : (numP T tl g p).1 = -1
      · have hno := num_ok (T := T) htl.2 h5 h6 hok
        rw [if_pos hok, if_neg (by omega), gd_of (by omega) (by omega), wr_of (x := (k : Int) + 1) (by omega) (by omega), x4 hok, show a_Mo_numbers oM = (24, 20, 0) from rfl]
        have ho : outP (numP T tl g p) = (numP T tl g p).2.1 := if_pos hok
        rw [ho] at x2
        have rq1 : RQ s1 (wt s1 (24, 20, 0) (k : Int) (nvP T tl g p)) := ⟨(Only.refl mdn s1).wt (Or.inr rfl) _ _, fun k _ _ => rd_wt_o (by simp)⟩
        obtain ⟨s2, y1, y2, y3, y4, y5⟩ := e_tall htl n sg hn kx L (k + 1) m (wt s1 (24, 20, 0) (k : Int) (nvP T tl g p)) (numP T tl g p).2.1 (by omega) (by omega) (fun i hi => by
          have := h3 (i + 1) (by simp; omega)
          rw [show k + (i + 1) = k + 1 + i by omega] at this
          exact this) ⟨x2.1.rq rq1, by rw [rd_wt_o (by simp)]; exact x2.2⟩ (by rw [hno.2.1]; dsimp only; omega) (by rw [hno.2.1]; dsimp only; omega)
        have em : mnP T tl (g :: L) p = ((mnP T tl L (numP T tl g p).2.1).1, (mnP T tl L (numP T tl g p).2.1).2.1, nvP T tl g p :: (mnP T tl L (numP T tl g p).2.1).2.2) := by
          have hl : (numP T tl g p).2.2 = [nvP T tl g p] := by rw [hno.2.1]
          rw [mnP, sq_ok hok, hl]
          rfl
        rw [em]
        refine ⟨s2, y1, ?_, x3.rq.trans (rq1.trans y3), fun i hi => ?_, fun z => ?_⟩
        · exact y2
        · rw [y4 i (by omega), rd_wt_k (by omega), x3.1.rd (by simp)]
        · obtain ⟨l1, l2⟩ := y5 z
          refine ⟨by simp only [List.length_cons]; omega, fun i hi => ?_⟩
          cases i with
          | zero =>
            rw [Nat.add_zero, y4 (k : Int) (by omega), rd_wt_same, wr_of (by omega) (by omega)]
            rfl
          | succ i =>
            rw [List.length_cons] at hi
            rw [show k + (i + 1) = k + 1 + i by omega, l2 i (by omega)]
            rfl
      · rw [if_neg hok, if_pos rfl]
        have em : mnP T tl (g :: L) p = numP T tl g p := by rw [mnP, sq_no hok]
        rw [em]
        exact ⟨s1, by rw [if_neg hok], x2, x3.rq, fun i hi => x3.1.rd (by simp) i, fun z => absurd z hok⟩
end MPARSE
