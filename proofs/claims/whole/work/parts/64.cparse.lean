/-! THE TEXT read by the class -/
abbrev oR : u_O := (12, 0, 0)
def RB (T : Int → Int) (tl : Int) (s : u_S) : Prop := rd s oR 4 = tl ∧ ∀ i : Int, 0 ≤ i → i < tl → rd s (13, 0, 0) i = T i
def RP (T : Int → Int) (tl : Int) (s : u_S) (r : Rs) : Prop := RB T tl s ∧ (0 ≤ rd s oR 7 ∧ rd s oR 7 ≤ tl) ∧ rd s oR 8 = r.1 ∧ (r.1 = -1 → rd s oR 7 = r.2.1 ∧ rd s oR 6 = (r.2.2.length : Int) ∧ (r.2.2.length : Int) ≤ r.2.1 ∧ ∀ i : Nat, i < r.2.2.length → rd s (13, 3, 0) i = r.2.2.getD i 0)
def ndo (o : u_O) : Prop := o = (12, 0, 0) ∨ o = (13, 3, 0)
def NK (s s' : u_S) : Prop := Only ndo s s' ∧ rd s' oR 5 = rd s oR 5
/-- the place moves, all else stays -/
def PK (p : Int) (s s' : u_S) : Prop := Only (fun o => o = (12, 0, 0)) s s' ∧ rd s' oR 7 = p ∧ ∀ k, k ≠ 7 → rd s' oR k = rd s oR k
def OPL (T : Int → Int) (tl : Int) (op : u_S → Option (Int × u_S)) (g : Int → Rs) : Prop := ∀ s r, RP T tl s r → ∃ s', op s = some (0, s') ∧ RP T tl s' (sq r g) ∧ NK s s'
theorem NK.trans {s s1 s2 : u_S} (h : NK s s1) (h2 : NK s1 s2) : NK s s2 := ⟨h.1.trans h2.1, h2.2.trans h.2⟩
theorem NK.refl (s : u_S) : NK s s := ⟨Only.refl _ _, rfl⟩
theorem PK.trans {s s1 s2 : u_S} {p q : Int} (h : PK p s s1) (h2 : PK q s1 s2) : PK q s s2 := ⟨h.1.trans h2.1, h2.2.1, fun k hk => (h2.2.2 k hk).trans (h.2.2 k hk)⟩
theorem PK.nk {s s1 : u_S} {p : Int} (h : PK p s s1) : NK s s1 := ⟨h.1.mono (fun o z => Or.inl z), h.2.2 5 (by omega)⟩
theorem PK.self {s : u_S} {p : Int} (h : rd s oR 7 = p) : PK p s s := ⟨Only.refl _ _, h, fun _ _ => rfl⟩
theorem PK.wt {s : u_S} {p : Int} (h : InR p) : PK p s (wt s oR 7 p) := ⟨(Only.refl (fun o => o = ((12, 0, 0) : u_O)) s).wt rfl _ _, by rw [rd_wt_same, wr_in h], fun k hk => rd_wt_k hk⟩
theorem RB.pk {T : Int → Int} {tl : Int} {s s' : u_S} {p : Int} (h : RB T tl s) (hp : PK p s s') : RB T tl s' := ⟨by rw [hp.2.2 4 (by omega)]; exact h.1, fun i a b => by rw [hp.1.rd (by simp)]; exact h.2 i a b⟩
theorem OPL.comp {T : Int → Int} {tl : Int} {op1 op2 : u_S → Option (Int × u_S)} {g1 g2 : Int → Rs} (h1 : OPL T tl op1 g1) (h2 : OPL T tl op2 g2) : OPL T tl (fun s => bd (op1 s) (fun _ s_1 => op2 s_1)) (fun p => sq (g1 p) g2) := by
  intro s r hr
  obtain ⟨s1, a1, a2, a3⟩ := h1 s r hr
  obtain ⟨s2, b1, b2, b3⟩ := h2 s1 _ a2
  refine ⟨s2, ?_, by rw [← sq_assoc]; exact b2, a3.trans b3⟩
  dsimp only
  rw [a1, bd_eq, b1]
theorem sq_move {r : Rs} {g h : Int → Rs} {p : Int} (hr : r.1 = -1) (e : g r.2.1 = h p) : sq r g = sq (-1, p, r.2.2) h := by
  rw [sq_ok hr, sq_ok rfl, e]
section CPARSE
variable {T : Int → Int} {tl : Int} {s : u_S}
theorem e_byteHere (htl : tl ≤ 120) (hb : RB T tl s) {p : Int} (hp : rd s oR 7 = p) (h0 : 0 ≤ p) : f_X7_byteHere oR s = some (hr T tl p, s) := by
  unfold f_X7_byteHere hr
  rw [hp, hb.1, if_neg (by omega)]
  by_cases h : p < tl
  · rw [if_pos h, if_pos h, if_pos htl, gd_of h0 (by omega), show a_Reader_bytes oR = (13, 0, 0) from rfl, hb.2 p h0 h]
  · rw [if_neg h, if_neg h]
theorem e_skip0 (htl : tl ≤ 120) (kx : u_S → Option (Int × u_S)) : ∀ (k m : Nat) (s : u_S) (p : Int), k < m → (tl - p).toNat ≤ k → RB T tl s → rd s oR 7 = p → 0 ≤ p → p ≤ tl → ∃ s', f_X7_skipBlanks_L0 m kx oR s = kx s' ∧ PK (skF T tl k p) s s'
  | 0, m, s, p, h1, h2, h3, h4, h5, h6 => by
    cases m with
    | zero => omega
    | succ m =>
      refine ⟨s, ?_, PK.self h4⟩
      rw [f_X7_skipBlanks_L0, h4, h3.1, if_neg (by omega)]
  | k + 1, m, s, p, h1, h2, h3, h4, h5, h6 => by
    cases m with
    | zero => omega
    | succ m =>
      rw [f_X7_skipBlanks_L0, h4, h3.1, skF]
      by_cases hlt : p < tl
      · rw [if_pos hlt, e_byteHere htl h3 h4 h5, bd_eq, show hr T tl p = T p from if_pos hlt, h4]
        by_cases hb : T p = 32
        · rw [if_pos hb, if_pos ⟨hlt, hb⟩, wr_of (x := p + 1) (by omega) (by omega)]
          have hp : PK (p + 1) s (wt s oR 7 (p + 1)) := PK.wt (InR_iff.mpr ⟨by omega, by omega⟩)
          obtain ⟨s', x1, x2⟩ := e_skip0 htl kx k m (wt s oR 7 (p + 1)) (p + 1) (by omega) (by omega) (h3.pk hp) hp.2.1 (by omega) (by omega)
          exact ⟨s', x1, hp.trans x2⟩
        · rw [if_neg hb, if_neg (fun z => hb z.2)]
          exact ⟨s, rfl, PK.self h4⟩
      · rw [if_neg hlt, if_neg (fun z => hlt z.1)]
        exact ⟨s, rfl, PK.self h4⟩
theorem e_skip (htl : tl ≤ 120) (hb : RB T tl s) {p : Int} (hp : rd s oR 7 = p) (h0 : 0 ≤ p) (h1 : p ≤ tl) : ∃ s', f_X7_skipBlanks oR s = some (0, s') ∧ PK (sk T tl p) s s' :=
  e_skip0 htl (fun s_1 => some (0, s_1)) 121 FU s p (FU_gt (by omega)) (by omega) hb hp h0 h1
theorem e_cisF (x : Int) (s : u_S) : f_X7_isFigure x s = some ((if 48 ≤ x ∧ x ≤ 57 then 1 else 0), s) := by
  unfold f_X7_isFigure
  by_cases h : x < 48
  · rw [if_pos h, if_neg (by omega)]
  · rw [if_neg h]
    by_cases h2 : x ≤ 57
    · rw [if_pos h2, if_pos (by omega)]
    · rw [if_neg h2, if_neg (by omega)]
theorem e_figs (htl : tl ≤ 120) (a b : Int) (kx : Int → Int → u_S → Option (Int × u_S)) : ∀ (k m : Nat) (s : u_S) (p i v : Int), k < m → (tl - p).toNat ≤ k → RB T tl s → rd s oR 7 = p → 0 ≤ p → p ≤ tl → (0 ≤ i ∧ i ≤ p) → (0 ≤ v ∧ v ≤ 999 ∧ (i ≤ 2 → v ≤ 99) ∧ (i ≤ 1 → v ≤ 9) ∧ (i ≤ 0 → v = 0)) → ∃ s', f_X7_parseNumber_L57 m kx oR a b i v s = kx (i + dgF T tl k p) (vcF T (dgF T tl k p) i p v) s' ∧ PK (p + dgF T tl k p) s s'
  | 0, m, s, p, i, v, h1, h2, h3, h4, h5, h6, h7, h8 => by
    cases m with
    | zero => omega
    | succ m =>
      refine ⟨s, ?_, PK.self (by rw [h4, dgF]; omega)⟩
      rw [f_X7_parseNumber_L57, h4, h3.1, if_neg (by omega), dgF, vcF, show i + ((0 : Nat) : Int) = i by omega]
  | k + 1, m, s, p, i, v, h1, h2, h3, h4, h5, h6, h7, h8 => by
    cases m with
    | zero => omega
    | succ m =>
      rw [f_X7_parseNumber_L57, h4, h3.1, dgF]
      by_cases hlt : p < tl
      · have hbh := e_byteHere htl h3 h4 h5
        have hh : hr T tl p = T p := if_pos hlt
        rw [if_pos hlt, hbh, bd_eq, hh, e_cisF, bd_eq]
        by_cases hf : 48 ≤ T p ∧ T p ≤ 57
        · rw [if_pos hf, if_neg (show ¬ (1 : Int) = 0 by omega), if_pos (show p < tl ∧ 48 ≤ T p ∧ T p ≤ 57 from ⟨hlt, hf⟩), jn_eq, hbh, bd_eq, hh]
          dsimp only
          rw [h4, wr_of (x := i + 1) (by omega) (by omega), wr_of (x := p + 1) (by omega) (by omega), wr_of (x := 10 * v) (by omega) (by omega), wr_of (x := 10 * v + T p) (by omega) (by omega), wr_of (x := 10 * v + T p - 48) (by omega) (by omega), vcF]
          have hp : PK (p + 1) s (wt s oR 7 (p + 1)) := PK.wt (InR_iff.mpr ⟨by omega, by omega⟩)
          have hv : (if i < 3 then f_X7_parseNumber_L57 m kx oR a b (i + 1) (10 * v + T p - 48) (wt s oR 7 (p + 1)) else f_X7_parseNumber_L57 m kx oR a b (i + 1) v (wt s oR 7 (p + 1))) = f_X7_parseNumber_L57 m kx oR a b (i + 1) (if i < 3 then 10 * v + T p - 48 else v) (wt s oR 7 (p + 1)) := by split <;> rfl
          obtain ⟨s', x1, x2⟩ := e_figs htl a b kx k m (wt s oR 7 (p + 1)) (p + 1) (i + 1) (if i < 3 then 10 * v + T p - 48 else v) (by omega) (by omega) (h3.pk hp) hp.2.1 (by omega) (by omega) (by omega) (by split <;> omega)
          refine ⟨s', ?_, by rw [show p + ((dgF T tl k (p + 1) + 1 : Nat) : Int) = p + 1 + dgF T tl k (p + 1) by omega]; exact hp.trans x2⟩
          rw [show i + ((dgF T tl k (p + 1) + 1 : Nat) : Int) = i + 1 + dgF T tl k (p + 1) by omega]
          exact hv.trans x1
        · rw [if_neg hf, if_pos (show (0 : Int) = 0 from rfl), if_neg (show ¬ (p < tl ∧ 48 ≤ T p ∧ T p ≤ 57) from fun z => hf z.2), vcF, show i + ((0 : Nat) : Int) = i by omega]
          exact ⟨s, rfl, PK.self (by omega)⟩
      · rw [if_neg hlt, if_neg (fun z => hlt z.1), vcF, show i + ((0 : Nat) : Int) = i by omega]
        exact ⟨s, rfl, PK.self (by omega)⟩
theorem RP.ok {r : Rs} (h : RP T tl s r) (hr : r.1 = -1) : rd s oR 8 = -1 ∧ rd s oR 7 = r.2.1 ∧ (0 ≤ r.2.1 ∧ r.2.1 ≤ tl) ∧ rd s oR 6 = (r.2.2.length : Int) ∧ (r.2.2.length : Int) ≤ r.2.1 := by
  obtain ⟨h1, h2, h3, h4⟩ := h
  obtain ⟨a, b, c, d⟩ := h4 hr
  exact ⟨by rw [h3, hr], a, by rw [← a]; exact h2, b, c⟩
/-- the place moves on in what is read without fault -/
theorem RP.move {r : Rs} {s' : u_S} {p : Int} (h : RP T tl s r) (hr : r.1 = -1) (hp : PK p s s') (h0 : r.2.1 ≤ p) (h1 : p ≤ tl) : RP T tl s' (-1, p, r.2.2) := by
  obtain ⟨a1, a2, a3, a4⟩ := h
  have ho := RP.ok ⟨a1, a2, a3, a4⟩ hr
  obtain ⟨b1, b2, b3, b4⟩ := a4 hr
  refine ⟨a1.pk hp, by rw [hp.2.1]; omega, by rw [hp.2.2 8 (by omega)]; exact ho.1, fun _ => ⟨hp.2.1, by rw [hp.2.2 6 (by omega)]; exact b2, by dsimp only; omega, fun i hi => by rw [hp.1.rd (by simp)]; exact b4 i hi⟩⟩
theorem RP.flt {r : Rs} {s' : u_S} {p f : Int} {g : Int → Rs} (h : RP T tl s r) (hr : r.1 = -1) (hp : PK p s s') (h0 : 0 ≤ p) (h1 : p ≤ tl) (hf : 0 ≤ f ∧ f ≤ tl) (htl : tl ≤ 120) (hg : (g r.2.1).1 = f) : RP T tl (wt s' oR 8 f) (sq r g) ∧ NK s (wt s' oR 8 f) := by
  have hb := h.1.pk hp
  refine ⟨⟨⟨by rw [rd_wt_k (by omega)]; exact hb.1, fun i a b => by rw [rd_wt_o (by simp)]; exact hb.2 i a b⟩, by rw [rd_wt_k (by omega), hp.2.1]; omega, ?_, fun z => ?_⟩, hp.nk.1.wt (Or.inl rfl) _ _, by rw [rd_wt_k (by omega)]; exact hp.nk.2⟩
  · rw [rd_wt_same, wr_of (by omega) (by omega), sq_ok hr]
    exact hg.symm
  · rw [sq_ok hr] at z
    dsimp only at z
    omega
theorem e_cnumber (htl : 0 ≤ tl ∧ tl ≤ 120) (sg : Int) : OPL T tl (f_X7_parseNumber oR sg) (numP T tl sg) := by
  intro s r h
  by_cases hr1 : r.1 = -1
  · have ho := h.ok hr1
    obtain ⟨hb, _, _, h4⟩ := h
    obtain ⟨_, _, _, hnum⟩ := h4 hr1
    have h : RP T tl s r := ⟨hb, ‹_›, ‹_›, h4⟩
    obtain ⟨s1, x1, x2⟩ := e_skip htl.2 hb ho.2.1 ho.2.2.1.1 ho.2.2.1.2
    have hsk := sk_b (T := T) htl.2 ho.2.2.1.1 ho.2.2.1.2
    have hbg := bg_b (T := T) htl.2 ho.2.2.1.1 ho.2.2.1.2 sg
    have hdg := dg_b (T := T) htl.2 (p := bgP T tl sg r.2.1) (by omega) (by omega)
    have hb1 := hb.pk x2
    have e7 : rd s1 oR 7 = sk T tl r.2.1 := x2.2.1
    obtain ⟨vt, s2, y1, y2, y3⟩ : ∃ (vt : Int) (s2 : u_S), (∀ K : Int → u_S → Option (Int × u_S), jn (fun (vt_1 : Int) (s_2 : u_S) => jn (fun (s_3 : u_S) => K vt_1 s_3) (fun jp_2 => if vt_1 = 0 then (jp_2 s_2) else (jp_2 (wt s_2 oR 7 (wr ((rd s_2 oR 7) + 1)))))) (fun jp_1 => jn (fun (s_15 : u_S) => jp_1 0 s_15) (fun jp_5 => if sg = 0 then (jp_5 s1) else (bd (f_X7_byteHere oR s1) (fun r_8 s_16 => if r_8 = 45 then (jp_1 1 s_16) else (jp_5 s_16))))) = K vt s2) ∧ PK (bgP T tl sg r.2.1) s s2 ∧ vt = (if sg ≠ 0 ∧ hr T tl (sk T tl r.2.1) = 45 then 1 else 0) := by
      by_cases hm : sg ≠ 0 ∧ hr T tl (sk T tl r.2.1) = 45
      · refine ⟨1, wt s1 oR 7 (sk T tl r.2.1 + 1), fun K => ?_, ?_, by rw [if_pos hm]⟩
        · simp only [jn_eq]
          rw [if_neg hm.1, e_byteHere htl.2 hb1 e7 (by omega), bd_eq, if_pos hm.2, if_neg (by omega), e7, wr_of (by omega) (by omega)]
        · have : bgP T tl sg r.2.1 = sk T tl r.2.1 + 1 := if_pos hm
          rw [this]
          exact x2.trans (PK.wt (InR_iff.mpr ⟨by omega, by omega⟩))
      · refine ⟨0, s1, fun K => ?_, by rw [show bgP T tl sg r.2.1 = sk T tl r.2.1 from if_neg hm]; exact x2, by rw [if_neg hm]⟩
        simp only [jn_eq]
        by_cases h0 : sg = 0
        · rw [if_pos h0, if_pos trivial]
        · rw [if_neg h0, e_byteHere htl.2 hb1 e7 (by omega), bd_eq, if_neg (fun z => hm ⟨h0, z⟩), if_pos trivial]
    obtain ⟨s3, z1, z2⟩ := e_figs htl.2 (sk T tl r.2.1) vt (fun v4_1 v5_1 s_4 => if v4_1 = 0 then (bd (f_X7_fail oR (rd s_4 oR 7) s_4) (fun r_4 s_8 => some (0, s_8))) else (if v4_1 ≤ 3 then (jn (fun (vt_2 : u_O) (vt_3 : Int) (s_5 : u_S) => bd (f_X7_take vt_2 vt_3 s_5) (fun r_2 s_6 => some (0, s_6))) (fun jp_3 => if vt = 0 then (jp_3 oR v5_1 s_4) else (jp_3 oR (wr (- v5_1)) s_4))) else (bd (f_X7_fail oR (sk T tl r.2.1) s_4) (fun r_3 s_7 => some (0, s_7))))) 121 FU s2 (bgP T tl sg r.2.1) 0 0 (FU_gt (by omega)) (by omega) (hb.pk y2) y2.2.1 (by omega) (by omega) (by omega) (by omega)
    have hd : dgF T tl 121 (bgP T tl sg r.2.1) = dg T tl (bgP T tl sg r.2.1) := rfl
    rw [hd] at z1 z2
    have pk := y2.trans z2
    have e8 : rd s3 oR 8 = -1 := by rw [pk.2.2 8 (by omega)]; exact ho.1
    have e0 : f_X7_parseNumber oR sg s = (if (0 : Int) + dg T tl (bgP T tl sg r.2.1) = 0 then (bd (f_X7_fail oR (rd s3 oR 7) s3) (fun r_4 s_8 => some (0, s_8))) else (if (0 : Int) + dg T tl (bgP T tl sg r.2.1) ≤ 3 then (jn (fun (vt_2 : u_O) (vt_3 : Int) (s_5 : u_S) => bd (f_X7_take vt_2 vt_3 s_5) (fun r_2 s_6 => some (0, s_6))) (fun jp_3 => if vt = 0 then (jp_3 oR (vcF T (dg T tl (bgP T tl sg r.2.1)) 0 (bgP T tl sg r.2.1) 0) s3) else (jp_3 oR (wr (- (vcF T (dg T tl (bgP T tl sg r.2.1)) 0 (bgP T tl sg r.2.1) 0))) s3))) else (bd (f_X7_fail oR (sk T tl r.2.1) s3) (fun r_3 s_7 => some (0, s_7))))) := by
      unfold f_X7_parseNumber
      rw [if_pos ho.1, x1, bd_eq]
      have := y1 (fun vt_1 s_3 => f_X7_parseNumber_L57 FU (fun v4_1 v5_1 s_4 => if v4_1 = 0 then (bd (f_X7_fail oR (rd s_4 oR 7) s_4) (fun r_4 s_8 => some (0, s_8))) else (if v4_1 ≤ 3 then (jn (fun (vt_2 : u_O) (vt_3 : Int) (s_5 : u_S) => bd (f_X7_take vt_2 vt_3 s_5) (fun r_2 s_6 => some (0, s_6))) (fun jp_3 => if vt_1 = 0 then (jp_3 oR v5_1 s_4) else (jp_3 oR (wr (- v5_1)) s_4))) else (bd (f_X7_fail oR (rd s1 oR 7) s_4) (fun r_3 s_7 => some (0, s_7))))) oR (rd s1 oR 7) vt_1 0 0 s_3)
      rw [e7] at this ⊢
      exact this.trans z1
    rw [e0]
    by_cases hd0 : dg T tl (bgP T tl sg r.2.1) = 0
    · have hn : numP T tl sg r.2.1 = (bgP T tl sg r.2.1, bgP T tl sg r.2.1, []) := if_pos hd0
      have e7' : rd s3 oR 7 = bgP T tl sg r.2.1 := by rw [pk.2.1]; omega
      obtain ⟨q1, q2⟩ := RP.flt (g := numP T tl sg) h hr1 pk (by omega) (by omega) (f := bgP T tl sg r.2.1) (by omega) htl.2 (by rw [hn])
      refine ⟨_, ?_, q1, q2⟩
      rw [if_pos (by omega), f_X7_fail, if_pos e8, bd_eq, e7']
    · rw [if_neg (by omega)]
      by_cases hd3 : 3 < dg T tl (bgP T tl sg r.2.1)
      · have hn : numP T tl sg r.2.1 = (sk T tl r.2.1, sk T tl r.2.1, []) := by unfold numP; rw [if_neg hd0, if_pos hd3]
        obtain ⟨q1, q2⟩ := RP.flt (g := numP T tl sg) h hr1 pk (by omega) (by omega) (f := sk T tl r.2.1) (by omega) htl.2 (by rw [hn])
        refine ⟨_, ?_, q1, q2⟩
        rw [if_neg (by omega), f_X7_fail, if_pos e8, bd_eq]
      · have hn : numP T tl sg r.2.1 = (-1, bgP T tl sg r.2.1 + dg T tl (bgP T tl sg r.2.1), [nvP T tl sg r.2.1]) := by unfold numP; rw [if_neg hd0, if_neg hd3]
        have hv3 := vl_b3 (T := T) (d := dg T tl (bgP T tl sg r.2.1)) (p := bgP T tl sg r.2.1) (by omega) hdg.2.1
        have hnv : nvP T tl sg r.2.1 = if vt = 0 then vlF T (dg T tl (bgP T tl sg r.2.1)) (bgP T tl sg r.2.1) 0 else -(vlF T (dg T tl (bgP T tl sg r.2.1)) (bgP T tl sg r.2.1) 0) := by
          unfold nvP
          by_cases hm : sg ≠ 0 ∧ hr T tl (sk T tl r.2.1) = 45
          · rw [if_pos hm, y3, if_pos hm, if_neg (by omega)]
          · rw [if_neg hm, y3, if_neg hm, if_pos rfl]
        have e6 : rd s3 oR 6 = (r.2.2.length : Int) := by rw [pk.2.2 6 (by omega)]; exact ho.2.2.2.1
        have htake : ∀ v : Int, InR v → f_X7_take oR v s3 = some (0, wt (wt s3 (13, 3, 0) (r.2.2.length : Int) v) oR 6 ((r.2.2.length : Int) + 1)) := by
          intro v hv
          unfold f_X7_take
          rw [e6, if_pos (by omega), gd_of (by omega) (by omega), show a_Reader_numbers oR = (13, 3, 0) from rfl, rd_wt_o (by simp), e6, wr_of (by omega) (by omega)]
        have hres : (jn (fun (vt_2 : u_O) (vt_3 : Int) (s_5 : u_S) => bd (f_X7_take vt_2 vt_3 s_5) (fun r_2 s_6 => some ((0 : Int), s_6))) (fun jp_3 => if vt = 0 then (jp_3 oR (vcF T (dg T tl (bgP T tl sg r.2.1)) 0 (bgP T tl sg r.2.1) 0) s3) else (jp_3 oR (wr (- (vcF T (dg T tl (bgP T tl sg r.2.1)) 0 (bgP T tl sg r.2.1) 0))) s3))) = some (0, wt (wt s3 (13, 3, 0) (r.2.2.length : Int) (nvP T tl sg r.2.1)) oR 6 ((r.2.2.length : Int) + 1)) := by
          rw [jn_eq, vc_vl _ _ _ _ (by omega), wr_of (x := - vlF T (dg T tl (bgP T tl sg r.2.1)) (bgP T tl sg r.2.1) 0) (by omega) (by omega), hnv]
          by_cases hvt : vt = 0
          · rw [if_pos hvt, if_pos hvt]
            dsimp only
            rw [htake _ (InR_iff.mpr ⟨by omega, by omega⟩), bd_eq]
          · rw [if_neg hvt, if_neg hvt]
            dsimp only
            rw [htake _ (InR_iff.mpr ⟨by omega, by omega⟩), bd_eq]
        have hnr := num_ok (T := T) htl.2 ho.2.2.1.1 ho.2.2.1.2 (sg := sg) (by rw [hn])
        refine ⟨_, by rw [if_pos (by omega)]; exact hres, ⟨⟨?_, fun i a b => ?_⟩, ?_, ?_, fun _ => ?_⟩, ?_, ?_⟩
        · rw [rd_wt_k (by omega), rd_wt_o (by simp)]; exact (hb.pk pk).1
        · rw [rd_wt_o (by simp), rd_wt_o (by simp)]; exact (hb.pk pk).2 i a b
        · rw [rd_wt_k (by omega), rd_wt_o (by simp), pk.2.1]; omega
        · rw [rd_wt_k (by omega), rd_wt_o (by simp), sq_ok hr1, hn]; exact e8
        · rw [sq_ok hr1, hn]
          refine ⟨by rw [rd_wt_k (by omega), rd_wt_o (by simp)]; exact pk.2.1, ?_, ?_, fun i hi => ?_⟩
          · rw [rd_wt_same, wr_of (by omega) (by omega)]
            dsimp only
            rw [List.length_append, List.length_singleton]
            omega
          · dsimp only
            rw [List.length_append, List.length_singleton]
            omega
          · dsimp only at hi ⊢
            rw [List.length_append, List.length_singleton] at hi
            rw [rd_wt_o (by simp)]
            by_cases hi2 : i = r.2.2.length
            · subst hi2
              rw [rd_wt_same, wr_of (by omega) (by omega)]
              simp
            · rw [rd_wt_k (by omega), pk.1.rd (by simp), hnum i (by omega), List.getD_eq_getElem?_getD, List.getD_eq_getElem?_getD, List.getElem?_append_left (by omega)]
        · exact ((pk.nk.1).wt (Or.inr rfl) _ _).wt (Or.inl rfl) _ _
        · rw [rd_wt_k (by omega), rd_wt_o (by simp)]; exact pk.nk.2
  · refine ⟨s, ?_, by rw [sq_no hr1]; exact h, NK.refl s⟩
    unfold f_X7_parseNumber
    rw [h.2.2.1, if_neg hr1]
end CPARSE
