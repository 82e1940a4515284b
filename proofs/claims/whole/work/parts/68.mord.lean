/-! ORDERS OF WORK: what they do; read (and done) by the model -/
def nstA (l st tk : Int) (A : Int → Int) : Option (Int → Int) := if canNoteA A l st tk < 0 then none else some (noteA A l st tk)
def exN (l : Int) : Option (Int → Int) → List Int → Option (Int → Int)
  | E, a :: b :: t => exN l (E.bind (nstA l a b)) t
  | E, _ => E
def vstA (k : Int) (A : Int → Int) : Option (Int → Int) := if canViA A k < 0 then none else some (visA A k)
def exV : Option (Int → Int) → List Int → Option (Int → Int)
  | E, [] => E
  | E, k :: t => exV (E.bind (vstA k)) t
def exL (A : Int → Int) : List Int → Option (Int → Int)
  | l :: t => exN l (if canEmA A l < 0 then none else some (emptA A l)) t
  | [] => none
def exE (A : Int → Int) (ns : List Int) : Option (Int → Int) := if canEnA A (ns.getD 0 0) (ns.getD 1 0) (ns.getD 2 0) (ns.getD 3 0) (ns.getD 4 0) < 0 then none else some (entsA A (ns.getD 0 0) (ns.getD 1 0) (ns.getD 2 0) (ns.getD 3 0) (ns.getD 4 0))
def setB (w v : Int) : Bool := decide ((w = 0 ∧ 0 ≤ v ∧ v ≤ 10) ∨ (w = 1 ∧ 0 ≤ v ∧ v ≤ 6) ∨ (w = 2 ∧ 1 ≤ v ∧ v ≤ 8) ∨ (w = 3 ∧ 0 ≤ v ∧ v ≤ 23))
def wOf (c : Int) : Int := if c = 104 then 0 else if c = 116 then 1 else 2
def exS (w : Int) (A : Int → Int) (ns : List Int) : Option (Int → Int) := if setB w (ns.getD 0 0) then some (setA A w (ns.getD 0 0)) else none
def exO (A : Int → Int) (c : Int) (ns : List Int) : Option (Int → Int) := if c = 108 then exL A ns else if c = 101 then exE A ns else if c = 107 then exV (some (upA A 139 0)) ns else exS (wOf c) A ns
theorem setB_iff (w v : Int) : setB w v = true ↔ isSet w v := decide_eq_true_iff
theorem nst_WF {A A' : Int → Int} {l st tk : Int} (hw : WF A) (h : nstA l st tk A = some A') : WF A' := by
  unfold nstA at h
  split at h
  · cases h
  · rename_i g
    cases h
    exact note_WF hw (by have := canNote_cases A l st tk; omega)
theorem vst_WF {A A' : Int → Int} {k : Int} (hw : WF A) (h : vstA k A = some A') : WF A' := by
  unfold vstA at h
  split at h
  · cases h
  · rename_i g
    cases h
    have wv := hw.2.2.2.2.2.2.2
    have hz : canViA A k = 0 := by have := canVi_cases A k; omega
    have gg := canVi_0 wv hz
    have hb := wv.1
    exact hw.vis (fun j hj => by unfold visA; rw [upA_ne (by omega), upA_ne (by omega)]) (vis_WV wv hz)
theorem vis0_WF {A : Int → Int} (hw : WF A) : WF (upA A 139 0) := by
  refine hw.vis (fun j hj => upA_ne (by omega)) ⟨by rw [upA_same]; omega, fun i a b => ?_, fun i j a b c => ?_⟩
  · rw [upA_ne (by omega)]; exact hw.2.2.2.2.2.2.2.2.1 i a b
  · rw [upA_same] at c; omega
theorem exN_WF {l : Int} : ∀ (ns : List Int) {E : Option (Int → Int)} {A' : Int → Int}, (∀ A, E = some A → WF A) → exN l E ns = some A' → WF A'
  | [], E, A', hE, h => hE A' h
  | [_], E, A', hE, h => hE A' h
  | a :: b :: t, E, A', hE, h => by
    rw [exN] at h
    refine exN_WF t (fun A hA => ?_) h
    cases E with
    | none => cases hA
    | some A0 => exact nst_WF (hE A0 rfl) hA
theorem exV_WF : ∀ (ns : List Int) {E : Option (Int → Int)} {A' : Int → Int}, (∀ A, E = some A → WF A) → exV E ns = some A' → WF A'
  | [], E, A', hE, h => hE A' h
  | k :: t, E, A', hE, h => by
    rw [exV] at h
    refine exV_WF t (fun A hA => ?_) h
    cases E with
    | none => cases hA
    | some A0 => exact vst_WF (hE A0 rfl) hA
theorem exO_WF {A A' : Int → Int} {c : Int} {ns : List Int} (hw : WF A) (h : exO A c ns = some A') : WF A' := by
  unfold exO at h
  split at h
  · cases ns with
    | nil => cases h
    | cons l t =>
      rw [exL] at h
      refine exN_WF t (fun B hB => ?_) h
      split at hB
      · cases hB
      · cases hB
        exact empt_WF hw (by have := canEm_cases A l; omega)
  · split at h
    · unfold exE at h
      split at h
      · cases h
      · cases h
        exact ents_WF hw (by have := canEn_cases A (ns.getD 0 0) (ns.getD 1 0) (ns.getD 2 0) (ns.getD 3 0) (ns.getD 4 0); omega)
    · split at h
      · exact exV_WF ns (fun B hB => by cases hB; exact vis0_WF hw) h
      · unfold exS at h
        split at h
        · rename_i g
          cases h
          exact set_WF hw ((setB_iff _ _).mp g)
        · cases h
def mdx (o : u_O) : Prop := mdn o ∨ mal o
/-- how it stands while an order is read, and done if d is not 0 -/
def XS (d : Int) (s0 s : u_S) (E : Option (Int → Int)) : Prop := (d = 0 → RQ s0 s) ∧ (d ≠ 0 → Only mdx s0 s ∧ (∀ k, k ≠ 17 → k ≠ 18 → k ≠ 19 → rd s oM k = rd s0 oM k) ∧ (∀ A, E = some A → MR s A ∧ WF A ∧ rd s oM 19 = 0) ∧ (E = none → rd s oM 19 < 0))
theorem XS.rq {d : Int} {s0 s s' : u_S} {E : Option (Int → Int)} (h : XS d s0 s E) (hq : RQ s s') : XS d s0 s' E := ⟨fun z => (h.1 z).trans hq, fun z => by
  obtain ⟨a, b, c, e⟩ := h.2 z
  exact ⟨a.trans (hq.1.mono (fun o h => Or.inl h)), fun k k1 k2 k3 => by rw [hq.2 k k1 k2]; exact b k k1 k2 k3, fun A hA => ⟨(c A hA).1.keep hq.1 (by simp [mdn]), (c A hA).2.1, by rw [hq.2 19 (by omega) (by omega)]; exact (c A hA).2.2⟩, fun hE => by rw [hq.2 19 (by omega) (by omega)]; exact e hE⟩⟩
/-- only `not` and what is entered change -/
def XT (s s' : u_S) : Prop := Only mdx s s' ∧ ∀ k, k ≠ 19 → rd s' oM k = rd s oM k
theorem XT.refl (s : u_S) : XT s s := ⟨Only.refl _ _, fun _ _ => rfl⟩
theorem XT.trans {s s1 s2 : u_S} (h : XT s s1) (h2 : XT s1 s2) : XT s s2 := ⟨h.1.trans h2.1, fun k hk => (h2.2 k hk).trans (h.2 k hk)⟩
theorem XT.wt (s : u_S) (v : Int) : XT s (wt s oM 19 v) := ⟨(Only.refl mdx s).wt (Or.inl (Or.inl rfl)) _ _, fun k hk => rd_wt_k hk⟩
theorem XT.mal {s s' : u_S} (h : Only mal s s') : XT s s' := ⟨h.mono (fun o z => Or.inr z), fun k _ => h.rd (by simp [mal_def]) k⟩
theorem MPl.xt {T : Int → Int} {tl p : Int} {s s' : u_S} (h : MPl T tl s p) (hx : XT s s') : MPl T tl s' p := ⟨⟨by rw [hx.2 16 (by omega)]; exact h.1.1, fun i a b => by rw [hx.1.rd (by simp [mdx, mdn, mal_def])]; exact h.1.2 i a b⟩, by rw [hx.2 17 (by omega)]; exact h.2⟩
theorem w19_MR {s : u_S} {A : Int → Int} (h : MR s A) (v : Int) : MR (wt s oM 19 v) A := fun i a b => by rw [rd_wt_o (by simp)]; exact h i a b
theorem XS.xt {d : Int} {s0 s s' : u_S} {E E' : Option (Int → Int)} (h : XS d s0 s E) (hd : d ≠ 0) (hx : XT s s') (h1 : ∀ A, E' = some A → MR s' A ∧ WF A ∧ rd s' oM 19 = 0) (h2 : E' = none → rd s' oM 19 < 0) : XS d s0 s' E' := ⟨fun z => absurd z hd, fun _ => by
  obtain ⟨a, b, _, _⟩ := h.2 hd
  exact ⟨a.trans hx.1, fun k k1 k2 k3 => by rw [hx.2 k k3]; exact b k k1 k2 k3, h1, h2⟩⟩
section MORD
variable {T : Int → Int} {tl : Int} {s : u_S}
theorem e_tA (htl : 0 ≤ tl ∧ tl ≤ 120) (n sg : Int) (hn : n ≤ 5) (L : List Int) (hL : (L.length : Int) = n) (hs : ∀ i : Nat, i < L.length → L.getD i 0 = if (i : Int) = sg then 1 else 0) {p : Int} (h : MPl T tl s p) (h0 : 0 ≤ p) (h1 : p ≤ tl) : ∃ s', f_X11_takesAll oM n sg s = some ((if (mnP T tl L p).1 = -1 then 1 else 0), s') ∧ MPl T tl s' (outP (mnP T tl L p)) ∧ RQ s s' ∧ ((mnP T tl L p).1 = -1 → (mnP T tl L p).2.2.length = L.length ∧ ∀ i : Nat, i < L.length → rd s' (24, 20, 0) (i : Int) = (mnP T tl L p).2.2.getD i 0) := by
  obtain ⟨s1, a1, a2, a3, _, a5⟩ := e_tall htl n sg hn (fun s_1 => some (1, s_1)) L 0 FU s p (FU_gt (by omega)) (by omega) (fun i hi => by rw [Nat.zero_add]; exact hs i hi) h h0 h1
  refine ⟨s1, ?_, a2, a3, fun z => ⟨(a5 z).1, fun i hi => by have := (a5 z).2 i hi; rwa [Nat.zero_add] at this⟩⟩
  refine Eq.trans a1 ?_
  split <;> rfl
theorem e_t1 (htl : 0 ≤ tl ∧ tl ≤ 120) {p : Int} (h : MPl T tl s p) (h0 : 0 ≤ p) (h1 : p ≤ tl) : ∃ s', f_X11_takesAll oM 1 (-1) s = some ((if (numP T tl 0 p).1 = -1 then 1 else 0), s') ∧ MPl T tl s' (outP (numP T tl 0 p)) ∧ RQ s s' ∧ ((numP T tl 0 p).1 = -1 → rd s' (24, 20, 0) 0 = nvP T tl 0 p) := by
  obtain ⟨s1, a1, a2, a3, a4⟩ := e_tA htl 1 (-1) (by omega) [0] rfl (fun i hi => by
    have : i = 0 := by simp at hi; exact hi
    subst this; rfl) h h0 h1
  rw [mn_1] at a1 a2 a4
  refine ⟨s1, a1, a2, a3, fun z => ?_⟩
  have := (a4 z).2 0 (by simp)
  rw [(num_ok (T := T) htl.2 h0 h1 z).2.1] at this
  exact this
theorem not_ok (htl : 0 ≤ tl ∧ tl ≤ 120) {p : Int} (h0 : 0 ≤ p) (h1 : p ≤ tl) (h : (notP T tl p).1 = -1) : ∃ a b, (notP T tl p).2.2 = [a, b] ∧ p ≤ (notP T tl p).2.1 ∧ (notP T tl p).2.1 ≤ tl := by
  have go := (go_not (T := T) htl.2 p h0 h1).1 h
  unfold notP at h ⊢
  by_cases h2 : (numP T tl 0 p).1 = -1
  · have n1 := num_ok (T := T) htl.2 h0 h1 h2
    rw [sq_ok h2] at h ⊢
    dsimp only at h ⊢
    have q1 : (numP T tl 0 p).2.1 = bgP T tl 0 p + dg T tl (bgP T tl 0 p) := by rw [n1.2.1]
    have n2 := num_ok (T := T) htl.2 (p := (numP T tl 0 p).2.1) (by rw [q1]; omega) (by rw [q1]; omega) h
    refine ⟨nvP T tl 0 p, nvP T tl 0 (numP T tl 0 p).2.1, ?_, ?_⟩
    · rw [n2.2.1]
      dsimp only
      rw [n1.2.1]
      rfl
    · unfold notP at go
      rw [sq_ok h2] at go
      exact ⟨go.1, go.2.1⟩
  · rw [sq_no h2] at h
    exact absurd h h2
theorem e_t2 (htl : 0 ≤ tl ∧ tl ≤ 120) {p : Int} (h : MPl T tl s p) (h0 : 0 ≤ p) (h1 : p ≤ tl) : ∃ s', f_X11_takesAll oM 2 (-1) s = some ((if (notP T tl p).1 = -1 then 1 else 0), s') ∧ MPl T tl s' (outP (notP T tl p)) ∧ RQ s s' ∧ ((notP T tl p).1 = -1 → ∃ a b, (notP T tl p).2.2 = [a, b] ∧ rd s' (24, 20, 0) 0 = a ∧ rd s' (24, 20, 0) 1 = b) := by
  obtain ⟨s1, a1, a2, a3, a4⟩ := e_tA htl 2 (-1) (by omega) [0, 0] rfl (fun i hi => by
    have : i = 0 ∨ i = 1 := by simp at hi; omega
    rcases this with rfl | rfl <;> rfl) h h0 h1
  rw [mn_2] at a1 a2 a4
  refine ⟨s1, a1, a2, a3, fun z => ?_⟩
  obtain ⟨a, b, e, _⟩ := not_ok htl h0 h1 z
  have q0 := (a4 z).2 0 (by simp)
  have q1 := (a4 z).2 1 (by simp)
  rw [e] at q0 q1
  exact ⟨a, b, e, q0, q1⟩
theorem e_doNote {d l a b : Int} {s0 : u_S} {E : Option (Int → Int)} (h : XS d s0 s E) (ha : rd s (24, 20, 0) 0 = a) (hb : rd s (24, 20, 0) 1 = b) : ∃ s', (∀ J : u_S → Option (Int × u_S), jn J (fun jp_1 => if d = 0 then (jp_1 s) else (if (rd s oM 19) = 0 then (gd 0 5 (gd 1 5 (bd (f_X11_canNote oM l (rd s (a_Mo_numbers oM) 0) (rd s (a_Mo_numbers oM) 1) s) (fun r_3 s_7 => jn (fun (vt_2 : Int) (s_8 : u_S) => jp_1 s_8) (fun jp_3 => if (rd (wt s_7 oM 19 r_3) oM 19) = 0 then (gd 0 5 (gd 1 5 (bd (f_X11_noteNow oM l (rd (wt s_7 oM 19 r_3) (a_Mo_numbers oM) 0) (rd (wt s_7 oM 19 r_3) (a_Mo_numbers oM) 1) (wt s_7 oM 19 r_3)) (fun r_4 s_9 => jp_3 r_4 s_9)))) else (jp_3 0 (wt s_7 oM 19 r_3))))))) else (jp_1 s))) = J s') ∧ XS d s0 s' (E.bind (nstA l a b)) ∧ XT s s' := by
  by_cases hd : d = 0
  · exact ⟨s, fun J => by rw [jn_eq, if_pos hd], ⟨h.1, fun z => absurd hd z⟩, XT.refl s⟩
  obtain ⟨_, _, c1, c2⟩ := h.2 hd
  cases E with
  | none =>
    have := c2 rfl
    exact ⟨s, fun J => by rw [jn_eq, if_neg hd, if_neg (by omega)], h, XT.refl s⟩
  | some A =>
    obtain ⟨hm, hw, h19⟩ := c1 A rfl
    have hcs := canNote_cases A l a b
    have e0 : ∀ J : u_S → Option (Int × u_S), jn J (fun jp_1 => if d = 0 then (jp_1 s) else (if (rd s oM 19) = 0 then (gd 0 5 (gd 1 5 (bd (f_X11_canNote oM l (rd s (a_Mo_numbers oM) 0) (rd s (a_Mo_numbers oM) 1) s) (fun r_3 s_7 => jn (fun (vt_2 : Int) (s_8 : u_S) => jp_1 s_8) (fun jp_3 => if (rd (wt s_7 oM 19 r_3) oM 19) = 0 then (gd 0 5 (gd 1 5 (bd (f_X11_noteNow oM l (rd (wt s_7 oM 19 r_3) (a_Mo_numbers oM) 0) (rd (wt s_7 oM 19 r_3) (a_Mo_numbers oM) 1) (wt s_7 oM 19 r_3)) (fun r_4 s_9 => jp_3 r_4 s_9)))) else (jp_3 0 (wt s_7 oM 19 r_3))))))) else (jp_1 s))) = if canNoteA A l a b = 0 then bd (f_X11_noteNow oM l a b (wt s oM 19 (canNoteA A l a b))) (fun r_4 s_9 => J s_9) else J (wt s oM 19 (canNoteA A l a b)) := by
      intro J
      rw [jn_eq, if_neg hd, if_pos h19, gd_of (by omega) (by omega), gd_of (by omega) (by omega), show a_Mo_numbers oM = (24, 20, 0) from rfl, ha, hb, e_canNote hm hw oM a b, bd_eq]
      simp only [jn_eq]
      rw [rd_wt_same, wr_of (x := canNoteA A l a b) (by omega) (by omega), rd_wt_o (by simp), rd_wt_o (by simp), ha, hb, gd_of (by omega) (by omega), gd_of (by omega) (by omega)]
    by_cases hz : canNoteA A l a b = 0
    · have g := canNote_0 hw hz
      obtain ⟨s2, x1, x2, x3⟩ := e_noteNow (w19_MR hm (canNoteA A l a b)) (hw.1 l g.1.1 g.1.2) g.1.1 g.1.2 g.2.2.2.1 oM g.2.1 g.2.2.1
      have hx : XT s s2 := (XT.wt s (canNoteA A l a b)).trans (XT.mal x3)
      refine ⟨s2, fun J => by rw [e0, if_pos hz, x1, bd_eq], h.xt hd hx (fun B hB => ?_) (fun hB => ?_), hx⟩
      · have hB' : nstA l a b A = some B := hB
        refine ⟨?_, nst_WF hw hB', by rw [x3.rd (by simp [mal]), rd_wt_same, wr_of (by omega) (by omega), hz]⟩
        unfold nstA at hB'
        rw [if_neg (by omega)] at hB'
        cases hB'
        exact x2
      · have hB' : nstA l a b A = none := hB
        unfold nstA at hB'
        rw [if_neg (by omega)] at hB'
        cases hB'
    · have hx : XT s (wt s oM 19 (canNoteA A l a b)) := XT.wt s _
      refine ⟨wt s oM 19 (canNoteA A l a b), fun J => by rw [e0, if_neg hz], h.xt hd hx (fun B hB => ?_) (fun hB => ?_), hx⟩
      · have hB' : nstA l a b A = some B := hB
        unfold nstA at hB'
        rw [if_pos (by omega)] at hB'
        cases hB'
      · rw [rd_wt_same, wr_of (by omega) (by omega)]; omega
theorem e_doVisit {d k : Int} {s0 : u_S} {E : Option (Int → Int)} (h : XS d s0 s E) (hk : rd s (24, 20, 0) 0 = k) : ∃ s', (∀ J : u_S → Option (Int × u_S), (if d = 0 then (J s) else (if (rd s oM 19) = 0 then (gd 0 5 (bd (f_X11_canVisit oM (rd s (a_Mo_numbers oM) 0) s) (fun r_4 s_7 => jn (fun (vt_1 : Int) (s_8 : u_S) => J s_8) (fun jp_2 => if (rd (wt s_7 oM 19 r_4) oM 19) = 0 then (gd 0 5 (bd (f_X11_visitNow oM (rd (wt s_7 oM 19 r_4) (a_Mo_numbers oM) 0) (wt s_7 oM 19 r_4)) (fun r_5 s_9 => jp_2 r_5 s_9))) else (jp_2 0 (wt s_7 oM 19 r_4)))))) else (J s))) = J s') ∧ XS d s0 s' (E.bind (vstA k)) ∧ XT s s' := by
  by_cases hd : d = 0
  · exact ⟨s, fun J => by rw [if_pos hd], ⟨h.1, fun z => absurd hd z⟩, XT.refl s⟩
  obtain ⟨_, _, c1, c2⟩ := h.2 hd
  cases E with
  | none =>
    have := c2 rfl
    exact ⟨s, fun J => by rw [if_neg hd, if_neg (by omega)], h, XT.refl s⟩
  | some A =>
    obtain ⟨hm, hw, h19⟩ := c1 A rfl
    have wv := hw.2.2.2.2.2.2.2
    have hcs := canVi_cases A k
    have e0 : ∀ J : u_S → Option (Int × u_S), (if d = 0 then (J s) else (if (rd s oM 19) = 0 then (gd 0 5 (bd (f_X11_canVisit oM (rd s (a_Mo_numbers oM) 0) s) (fun r_4 s_7 => jn (fun (vt_1 : Int) (s_8 : u_S) => J s_8) (fun jp_2 => if (rd (wt s_7 oM 19 r_4) oM 19) = 0 then (gd 0 5 (bd (f_X11_visitNow oM (rd (wt s_7 oM 19 r_4) (a_Mo_numbers oM) 0) (wt s_7 oM 19 r_4)) (fun r_5 s_9 => jp_2 r_5 s_9))) else (jp_2 0 (wt s_7 oM 19 r_4)))))) else (J s))) = if canViA A k = 0 then bd (f_X11_visitNow oM k (wt s oM 19 (canViA A k))) (fun r_5 s_9 => J s_9) else J (wt s oM 19 (canViA A k)) := by
      intro J
      rw [if_neg hd, if_pos h19, gd_of (by omega) (by omega), show a_Mo_numbers oM = (24, 20, 0) from rfl, hk, e_canVisit hm wv oM, bd_eq]
      simp only [jn_eq]
      rw [rd_wt_same, wr_of (x := canViA A k) (by omega) (by omega), rd_wt_o (by simp), hk, gd_of (by omega) (by omega)]
    by_cases hz : canViA A k = 0
    · obtain ⟨s2, x1, x2, x3⟩ := e_visitNow (w19_MR hm (canViA A k)) wv hz oM
      have hx : XT s s2 := (XT.wt s (canViA A k)).trans (XT.mal x3)
      refine ⟨s2, fun J => by rw [e0, if_pos hz, x1, bd_eq], h.xt hd hx (fun B hB => ?_) (fun hB => ?_), hx⟩
      · have hB' : vstA k A = some B := hB
        refine ⟨?_, vst_WF hw hB', by rw [x3.rd (by simp [mal]), rd_wt_same, wr_of (by omega) (by omega), hz]⟩
        unfold vstA at hB'
        rw [if_neg (by omega)] at hB'
        cases hB'
        exact x2
      · have hB' : vstA k A = none := hB
        unfold vstA at hB'
        rw [if_neg (by omega)] at hB'
        cases hB'
    · have hx : XT s (wt s oM 19 (canViA A k)) := XT.wt s _
      refine ⟨wt s oM 19 (canViA A k), fun J => by rw [e0, if_neg hz], h.xt hd hx (fun B hB => ?_) (fun hB => ?_), hx⟩
      · have hB' : vstA k A = some B := hB
        unfold vstA at hB'
        rw [if_pos (by omega)] at hB'
        cases hB'
      · rw [rd_wt_same, wr_of (by omega) (by omega)]; omega
/-- notes behind a colon or a comma -/
theorem e_mnts (htl : 0 ≤ tl ∧ tl ≤ 120) (d l : Int) {s0 : u_S} (kx : u_S → Option (Int × u_S)) : ∀ (k m : Nat) (s : u_S) (p : Int) (E : Option (Int → Int)), k + 1 < m → MPl T tl s p → 0 ≤ p → p < tl → (tl - p).toNat ≤ k → XS d s0 s E → ∃ s', f_X11_readsNotes_L2 m kx oM l d 1 s = (if (sq (notP T tl (p + 1)) (ntsP T tl k)).1 = -1 then kx s' else some (0, s')) ∧ MPl T tl s' (outP (sq (notP T tl (p + 1)) (ntsP T tl k))) ∧ ((sq (notP T tl (p + 1)) (ntsP T tl k)).1 = -1 ∨ d = 0 → XS d s0 s' (exN l E (sq (notP T tl (p + 1)) (ntsP T tl k)).2.2))
  | k, 0, s, p, E, h1, _, _, _, _, _ => by omega
  | k, m + 1, s, p, E, h1, h2, h3, h4, h5, h6 => by
    have m1 : MPl T tl (wt s oM 17 (wr (rd s oM 17 + 1))) (p + 1) := by
      rw [h2.2, wr_of (x := p + 1) (by omega) (by omega)]
      exact ⟨h2.1.rq (RQm.wt17 s _).rq, by rw [rd_wt_same, wr_of (by omega) (by omega)]⟩
    have x1 : XS d s0 (wt s oM 17 (wr (rd s oM 17 + 1))) E := h6.rq (RQm.wt17 s _).rq
    obtain ⟨s1, a1, a2, a3, a4⟩ := e_t2 htl m1 (by omega) (by omega)
    rw [f_X11_readsNotes_L2, if_neg (by omega), a1, bd_eq]
    by_cases hok : (notP T tl (p + 1)).1 = -1
    · obtain ⟨a, b, e1, e2, e3⟩ := a4 hok
      have go := (go_not (T := T) htl.2 (p + 1) (by omega) (by omega)).1 hok
      have ho : outP (notP T tl (p + 1)) = (notP T tl (p + 1)).2.1 := if_pos hok
      rw [ho] at a2
      rw [if_pos hok, if_neg (by omega)]
      have x2 := x1.rq a3
      obtain ⟨s2, b1, b2, b3⟩ := e_doNote (l := l) x2 e2 e3
      rw [b1]
      have m2 : MPl T tl s2 (notP T tl (p + 1)).2.1 := a2.xt b3
      obtain ⟨s3, w1, w2, w3⟩ := e_here htl.2 m2 (by omega) go.2.1
      have hsk := sk_b (T := T) htl.2 (p := (notP T tl (p + 1)).2.1) (by omega) go.2.1
      rw [w1, bd_eq]
      have x3 := b2.rq w3.rq
      have esq : sq (notP T tl (p + 1)) (ntsP T tl k) = ((ntsP T tl k (notP T tl (p + 1)).2.1).1, (ntsP T tl k (notP T tl (p + 1)).2.1).2.1, a :: b :: (ntsP T tl k (notP T tl (p + 1)).2.1).2.2) := by
        rw [sq_ok hok, e1]
        rfl
      rw [esq]
      cases k with
      | zero => omega
      | succ k =>
        rw [jn_eq, ntsP]
        by_cases h44 : hr T tl (sk T tl (notP T tl (p + 1)).2.1) = 44
        · have hlt := (hr_lt (by omega) h44).1
          rw [if_pos h44, if_pos h44]
          obtain ⟨s4, y1, y2, y3⟩ := e_mnts htl d l kx k m s3 (sk T tl (notP T tl (p + 1)).2.1) (E.bind (nstA l a b)) (by omega) w2 (by omega) hlt (by omega) x3
          exact ⟨s4, y1, y2, fun z => y3 z⟩
        · rw [if_neg h44, if_neg h44]
          refine ⟨s3, ?_, w2, fun _ => x3⟩
          cases m with
          | zero => omega
          | succ m =>
            show f_X11_readsNotes_L2 (m + 1) kx oM l d 0 s3 = _
            rw [f_X11_readsNotes_L2, if_pos rfl, if_pos rfl]
    · rw [if_neg hok, if_pos rfl]
      have esq : sq (notP T tl (p + 1)) (ntsP T tl k) = notP T tl (p + 1) := sq_no hok _
      rw [esq]
      refine ⟨s1, by rw [if_neg hok], a2, fun z => ?_⟩
      rcases z with z | z
      · exact absurd z hok
      · exact ⟨fun _ => (x1.rq a3).1 z, fun w => absurd z w⟩
end MORD
