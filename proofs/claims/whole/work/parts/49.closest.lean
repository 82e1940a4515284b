/-! closest -/
def fm {β : Type} (g : Nat → Option β) : Nat → Nat → Option β
  | _, 0 => none
  | j, k + 1 => (g j).elim (fm g (j + 1) k) some
theorem fm_some {β : Type} {g : Nat → Option β} {b : β} : ∀ {k j : Nat}, fm g j k = some b → ∃ i, j ≤ i ∧ i < j + k ∧ g i = some b
  | 0, j, h => by cases h
  | k + 1, j, h => by
    rw [fm] at h
    cases hg : g j with
    | some b' =>
      rw [hg] at h
      exact ⟨j, by omega, by omega, by rw [hg]; exact h⟩
    | none =>
      rw [hg] at h
      obtain ⟨i, h1, h2, h3⟩ := fm_some (k := k) (j := j + 1) h
      exact ⟨i, by omega, by omega, h3⟩
theorem loop_fm {α σ β : Type} (L : Nat → Nat → σ → Option α) (I : σ → Prop) (g : Nat → Option β) (X : β → σ → Option α) (Y : σ → Option α) (n : Nat) (hs : ∀ j m s, j < n → I s → ∃ s', I s' ∧ L (m + 1) j s = (g j).elim (L m (j + 1) s') (fun b => X b s')) (he : ∀ m s, I s → L (m + 1) n s = Y s) : ∀ (k j m : Nat) (s : σ), j + k = n → k < m → I s → ∃ s', I s' ∧ L m j s = (fm g j k).elim (Y s') (fun b => X b s')
  | 0, j, m, s, h1, h2, h3 => by
    cases m with
    | zero => omega
    | succ m =>
      have : j = n := by omega
      subst this
      exact ⟨s, h3, he m s h3⟩
  | k + 1, j, m, s, h1, h2, h3 => by
    cases m with
    | zero => omega
    | succ m =>
      obtain ⟨s', i1, i2⟩ := hs j m s (by omega) h3
      rw [i2, fm]
      cases hg : g j with
      | some b => exact ⟨s', i1, rfl⟩
      | none => exact loop_fm L I g X Y n hs he k (j + 1) m s' (by omega) (by omega) i1
theorem loop_fmfu {α σ β : Type} (L : Nat → Nat → σ → Option α) (I : σ → Prop) (g : Nat → Option β) (X : β → σ → Option α) (Y : σ → Option α) (n : Nat) (hn : n < 100000) (hs : ∀ j m s, j < n → I s → ∃ s', I s' ∧ L (m + 1) j s = (g j).elim (L m (j + 1) s') (fun b => X b s')) (he : ∀ m s, I s → L (m + 1) n s = Y s) (s : σ) (hI : I s) : ∃ s', I s' ∧ L FU 0 s = (fm g 0 n).elim (Y s') (fun b => X b s') :=
  loop_fm L I g X Y n hs he n 0 FU s (by omega) (FU_gt hn) hI
def mvN (k : Nat) : Int := if (k : Int) % 2 = 1 then -(((k : Int) + 1) / 2) else ((k : Int) + 1) / 2
theorem mvN_b {k : Nat} (h : k < 43) : -21 ≤ mvN k ∧ mvN k ≤ 21 := by
  unfold mvN
  split <;> omega
theorem e_near {k : Nat} (h : k < 43) (s : u_S) : f_X10_nearMove (k : Int) s = some (mvN k, s) := by
  unfold f_X10_nearMove mvN
  rw [wr_of (x := (k : Int) + 1) (by omega) (by omega), Int.tmod_eq_emod_of_nonneg (by omega), Int.tdiv_eq_ediv_of_nonneg (by omega), wr_of (x := ((k : Int) + 1) / 2) (by omega) (by omega), wr_of (x := - (((k : Int) + 1) / 2)) (by omega) (by omega)]
  split <;> rfl
def clo3 (A : Int → Int) (l d f : Int) : Option (Int × Int × Int) := fm (fun k => if fitA A l f (mvN k) d then some (d, f, mvN k) else none) 0 43
def clo2 (A : Int → Int) (l d : Int) : Option (Int × Int × Int) := fm (fun f => clo3 A l d (f : Int)) 0 5
def clo1 (A : Int → Int) (l : Int) : Option (Int × Int × Int) := fm (fun j => clo2 A l ((j : Int) + 1)) 0 (lenA A l - 1).toNat
theorem clo_in {A : Int → Int} {l : Int} {b : Int × Int × Int} (hl : WL A l) (h : clo1 A l = some b) : (1 ≤ b.1 ∧ b.1 ≤ 39) ∧ (0 ≤ b.2.1 ∧ b.2.1 ≤ 4) ∧ (-21 ≤ b.2.2 ∧ b.2.2 ≤ 21) := by
  have hlen := hl.lenb
  obtain ⟨j, h1, h2, h3⟩ := fm_some h
  obtain ⟨f, g1, g2, g3⟩ := fm_some h3
  obtain ⟨k, k1, k2, k3⟩ := fm_some g3
  have hm := mvN_b (k := k) (by omega)
  try dsimp only at k3
  split at k3
  · have e := Option.some.inj k3
    subst e
    exact ⟨⟨by dsimp only; omega, by dsimp only; omega⟩, ⟨by dsimp only; omega, by dsimp only; omega⟩, hm⟩
  · cases k3
def lwp (o : u_O) : Prop := sndo 1 o ∨ flo o
theorem lwp_csc (o : u_O) (h : lwp o) : csc o := by
  rcases h with h | h
  · exact snd_csc 1 o h
  · subst h; exact Or.inl (by simp)
section CLO
variable {s : u_S} {A : Int → Int} {l f m d t : Int}
def CLI (A : Int → Int) (l : Int) (s0 s : u_S) : Prop := CP s 0 A ∧ SR s 0 A l 0 0 0 0 ∧ Only lwp s0 s
theorem CLI.keep {s0 s s' : u_S} (h : CLI A l s0 s) (ho : Only lwp s s') : CLI A l s0 s' := ⟨h.1.keep ho (fun o a b => by
    rcases b with b | b
    · have := sndo_k b; have := a.2; omega
    · subst b; simp [pob] at a), h.2.1.keep ho (by simp [lwp, sndo, flo]) (by simp [lwp, sndo, flo]), h.2.2.trans ho⟩
theorem e_cl3 {s0 : u_S} (hw : WF A) (h0 : 0 ≤ l) (h1 : l ≤ 3) (hd : 0 ≤ d ∧ d ≤ 100) (hf : 0 ≤ f ∧ f ≤ 4) (kx : u_S → Option (Int × u_S)) (s : u_S) (hI : CLI A l s0 s) : ∃ s', CLI A l s0 s' ∧ f_X10_closestStretto_L52 FU kx oF l (lenA A l) d f 0 s = (clo3 A l d f).elim (kx s') (fun b => some ((b.1 * 5 + b.2.1) * 43 + b.2.2 + 21, s')) := by
  have hl := hw.1 l h0 h1
  exact loop_fmfu (fun k (j : Nat) s => f_X10_closestStretto_L52 k kx oF l (lenA A l) d f (j : Int) s) (CLI A l s0) (fun k => if fitA A l f (mvN k) d then some (d, f, mvN k) else none) (fun b s' => some ((b.1 * 5 + b.2.1) * 43 + b.2.2 + 21, s')) kx 43 (by omega) (by
    intro j k s1 hj hI
    have hm := mvN_b hj
    obtain ⟨s2, a1, a2, a3⟩ := e_form (s := s1) (j := 1) (m := mvN j) (hI.1.1 l h0 h1) hl h0 h1 hw.2.2.2.2.1 hI.1.2.2.1.1 hI.1.2.2.1.2.1 (by omega) f
    have I2 := hI.keep (a2.mono (fun o h => Or.inl h))
    obtain ⟨s3, b1, b2, b3, b4⟩ := e_strettoFits2 (d := d) hl hw.2.2.2.2.2.1.1 I2.1.2.2.1.2.2.1 I2.2.1 a3 (by omega) (by omega)
    have I3 := I2.keep (b2.mono (fun o h => by
      rcases h with h | h
      · exact Or.inl (Or.inl h)
      · exact Or.inr h))
    refine ⟨s3, I3, ?_⟩
    try dsimp only
    rw [f_X10_closestStretto_L52, if_pos (by omega), e_near hj, bd_eq, show a_FP_plan oF = (1, 0, 0) from rfl, show a_FP_lower oF = (14, 1, 0) from rfl, a1, bd_eq, b1, bd_eq, wr_of (x := (j : Int) + 1) (by omega) (by omega), wr_of (x := d * 5) (by omega) (by omega), wr_of (x := d * 5 + f) (by omega) (by omega), wr_of (x := (d * 5 + f) * 43) (by omega) (by omega), wr_of (x := (d * 5 + f) * 43 + mvN j) (by omega) (by omega), wr_of (x := (d * 5 + f) * 43 + mvN j + 21) (by omega) (by omega)]
    unfold fitA
    by_cases hx : scn A l f (mvN j) d 0 = 0 ∧ scn A l f (mvN j) d 2 = 0
    · rw [if_pos hx, if_neg (by omega), if_pos (decide_eq_true hx)]
      rfl
    · rw [if_neg hx, if_pos rfl, if_neg (fun z => hx (of_decide_eq_true z))]
      rfl) (by
    intro k s1 hI
    try dsimp only
    rw [f_X10_closestStretto_L52, if_neg (by omega)]) s hI
theorem e_cl2 {s0 : u_S} (hw : WF A) (h0 : 0 ≤ l) (h1 : l ≤ 3) (hd : 0 ≤ d ∧ d ≤ 100) (kx : u_S → Option (Int × u_S)) (s : u_S) (hI : CLI A l s0 s) : ∃ s', CLI A l s0 s' ∧ f_X10_closestStretto_L43 FU kx oF l (lenA A l) d 0 s = (clo2 A l d).elim (kx s') (fun b => some ((b.1 * 5 + b.2.1) * 43 + b.2.2 + 21, s')) := by
  exact loop_fmfu (fun k (j : Nat) s => f_X10_closestStretto_L43 k kx oF l (lenA A l) d (j : Int) s) (CLI A l s0) (fun j => clo3 A l d (j : Int)) (fun b s' => some ((b.1 * 5 + b.2.1) * 43 + b.2.2 + 21, s')) kx 5 (by omega) (by
    intro j k s1 hj hI
    obtain ⟨s2, a1, a2⟩ := e_cl3 (d := d) (f := (j : Int)) hw h0 h1 hd (by omega) (fun s_8 => f_X10_closestStretto_L43 k kx oF l (lenA A l) d (wr ((j : Int) + 1)) s_8) s1 hI
    refine ⟨s2, a1, ?_⟩
    try dsimp only
    rw [f_X10_closestStretto_L43, if_pos (by omega), a2, wr_of (x := (j : Int) + 1) (by omega) (by omega)]
    rfl) (by
    intro k s1 hI
    try dsimp only
    rw [f_X10_closestStretto_L43, if_neg (by omega)]) s hI
theorem e_cl1 {s0 : u_S} (hw : WF A) (h0 : 0 ≤ l) (h1 : l ≤ 3) (kx : u_S → Option (Int × u_S)) (s : u_S) (hI : CLI A l s0 s) : ∃ s', CLI A l s0 s' ∧ f_X10_closestStretto_L35 FU kx oF l (lenA A l) 1 s = (clo1 A l).elim (kx s') (fun b => some ((b.1 * 5 + b.2.1) * 43 + b.2.2 + 21, s')) := by
  have hlen := (hw.1 l h0 h1).lenb
  exact loop_fmfu (fun k (j : Nat) s => f_X10_closestStretto_L35 k kx oF l (lenA A l) ((j : Int) + 1) s) (CLI A l s0) (fun j => clo2 A l ((j : Int) + 1)) (fun b s' => some ((b.1 * 5 + b.2.1) * 43 + b.2.2 + 21, s')) kx (lenA A l - 1).toNat (by omega) (by
    intro j k s1 hj hI
    obtain ⟨s2, a1, a2⟩ := e_cl2 (d := (j : Int) + 1) hw h0 h1 (by omega) (fun s_6 => f_X10_closestStretto_L35 k kx oF l (lenA A l) (wr ((j : Int) + 1 + 1)) s_6) s1 hI
    refine ⟨s2, a1, ?_⟩
    try dsimp only
    rw [f_X10_closestStretto_L35, if_pos (by omega), a2, wr_of (x := (j : Int) + 1 + 1) (by omega) (by omega)]
    rfl) (by
    intro k s1 hI
    try dsimp only
    rw [f_X10_closestStretto_L35, if_neg (by omega)]) s hI
/-- the model -/
theorem e_mcl3 (hm : MR s A) (hl : WL A l) (h0 : 0 ≤ l) (h1 : l ≤ 3) (hr : RWS s A l f) (hmt : 1 ≤ A 137 ∧ A 137 ≤ 8) (hd : 0 ≤ d ∧ d ≤ 100) (hf : 0 ≤ f ∧ f ≤ 4) (n : Int) (kx : u_S → Option (Int × u_S)) : f_X11_closestOf_L32 FU kx oM l n d f 0 s = (clo3 A l d f).elim (kx s) (fun b => some (1000 * b.1 + 100 * b.2.1 + b.2.2 + 21, s)) := by
  obtain ⟨s', i1, i2⟩ := loop_fmfu (fun k (j : Nat) s => f_X11_closestOf_L32 k kx oM l n d f (j : Int) s) (fun s' => s' = s) (fun k => if fitA A l f (mvN k) d then some (d, f, mvN k) else none) (fun b s' => some (1000 * b.1 + 100 * b.2.1 + b.2.2 + 21, s')) kx 43 (by omega) (by
    intro j k s1 hj hI
    subst hI
    have hmv := mvN_b hj
    refine ⟨s1, rfl, ?_⟩
    try dsimp only
    have e : (if Int.tmod (j : Int) 2 = 0 then wr (Int.tdiv (j : Int) 2) else wr (Int.tdiv (wr (- (wr ((j : Int) + 1)))) 2)) = mvN j := by
      unfold mvN
      rw [wr_of (x := (j : Int) + 1) (by omega) (by omega), wr_of (x := -((j : Int) + 1)) (by omega) (by omega), Int.neg_tdiv, Int.tmod_eq_emod_of_nonneg (by omega), Int.tdiv_eq_ediv_of_nonneg (by omega), Int.tdiv_eq_ediv_of_nonneg (by omega), wr_of (x := (j : Int) / 2) (by omega) (by omega), wr_of (x := - (((j : Int) + 1) / 2)) (by omega) (by omega)]
      split
      · rw [if_neg (by omega)]; omega
      · rw [if_pos (by omega)]
    have e2 : ∀ (K : Int → u_S → Option (Int × u_S)) (a b : Int) (c : Prop) [Decidable c], jn K (fun jp_1 => if c then jp_1 a s1 else jp_1 b s1) = K (if c then a else b) s1 := by
      intro K a b c _
      rw [jn_eq]
      split <;> rfl
    rw [f_X11_closestOf_L32, if_pos (by omega), e2, e, e_isFit hm hl h0 h1 hr hmt hd.1 (by omega), bd_eq, wr_of (x := (j : Int) + 1) (by omega) (by omega), wr_of (x := 1000 * d) (by omega) (by omega), wr_of (x := 100 * f) (by omega) (by omega), wr_of (x := 1000 * d + 100 * f) (by omega) (by omega), wr_of (x := 1000 * d + 100 * f + mvN j) (by omega) (by omega), wr_of (x := 1000 * d + 100 * f + mvN j + 21) (by omega) (by omega)]
    by_cases hx : fitA A l f (mvN j) d = true
    · rw [if_pos hx, if_neg (by omega), if_pos hx]
      rfl
    · rw [if_neg hx, if_pos rfl, if_neg hx]
      rfl) (by
    intro k s1 hI
    try dsimp only
    rw [f_X11_closestOf_L32, if_neg (by omega)]) s rfl
  subst i1
  exact i2
def MLI (A : Int → Int) (s0 s : u_S) : Prop := MR s A ∧ Only rwo s0 s
theorem e_mcl2 {s0 : u_S} (hl : WL A l) (h0 : 0 ≤ l) (h1 : l ≤ 3) (hto : 0 ≤ A 136 ∧ A 136 ≤ 6) (hmt : 1 ≤ A 137 ∧ A 137 ≤ 8) (hd : 0 ≤ d ∧ d ≤ 100) (n : Int) (kx : u_S → Option (Int × u_S)) (s : u_S) (hI : MLI A s0 s) : ∃ s', MLI A s0 s' ∧ f_X11_closestOf_L16 FU kx oM l n d 0 s = (clo2 A l d).elim (kx s') (fun b => some (1000 * b.1 + 100 * b.2.1 + b.2.2 + 21, s')) := by
  exact loop_fmfu (fun k (j : Nat) s => f_X11_closestOf_L16 k kx oM l n d (j : Int) s) (MLI A s0) (fun j => clo3 A l d (j : Int)) (fun b s' => some (1000 * b.1 + 100 * b.2.1 + b.2.2 + 21, s')) kx 5 (by omega) (by
    intro j k s1 hj hI
    obtain ⟨s2, a1, a2, a3⟩ := e_laysRows hI.1 hl h0 h1 hto (j : Int)
    have m2 := hI.1.keep a2 (by simp [rwo])
    refine ⟨s2, ⟨m2, hI.2.trans a2⟩, ?_⟩
    try dsimp only
    rw [f_X11_closestOf_L16, if_pos (by omega), a1, bd_eq, e_mcl3 m2 hl h0 h1 a3 hmt hd (by omega), wr_of (x := (j : Int) + 1) (by omega) (by omega)]
    rfl) (by
    intro k s1 hI
    try dsimp only
    rw [f_X11_closestOf_L16, if_neg (by omega)]) s hI
theorem e_mcl1 {s0 : u_S} (hl : WL A l) (h0 : 0 ≤ l) (h1 : l ≤ 3) (hto : 0 ≤ A 136 ∧ A 136 ≤ 6) (hmt : 1 ≤ A 137 ∧ A 137 ≤ 8) (kx : u_S → Option (Int × u_S)) (s : u_S) (hI : MLI A s0 s) : ∃ s', MLI A s0 s' ∧ f_X11_closestOf_L8 FU kx oM l (lenA A l) 1 s = (clo1 A l).elim (kx s') (fun b => some (1000 * b.1 + 100 * b.2.1 + b.2.2 + 21, s')) := by
  have hlen := hl.lenb
  exact loop_fmfu (fun k (j : Nat) s => f_X11_closestOf_L8 k kx oM l (lenA A l) ((j : Int) + 1) s) (MLI A s0) (fun j => clo2 A l ((j : Int) + 1)) (fun b s' => some (1000 * b.1 + 100 * b.2.1 + b.2.2 + 21, s')) kx (lenA A l - 1).toNat (by omega) (by
    intro j k s1 hj hI
    obtain ⟨s2, a1, a2⟩ := e_mcl2 (d := (j : Int) + 1) hl h0 h1 hto hmt (by omega) (lenA A l) (fun s_4 => f_X11_closestOf_L8 k kx oM l (lenA A l) (wr ((j : Int) + 1 + 1)) s_4) s1 hI
    refine ⟨s2, a1, ?_⟩
    try dsimp only
    rw [f_X11_closestOf_L8, if_pos (by omega), a2, wr_of (x := (j : Int) + 1 + 1) (by omega) (by omega)]
    rfl) (by
    intro k s1 hI
    try dsimp only
    rw [f_X11_closestOf_L8, if_neg (by omega)]) s hI
theorem call_closest (l w : Int) : Call (f_X10_closest oF l w) (f_X11_closest oM l w) := by
  intro A H n T tl c hw
  have hto := hw.1.2.2.2.2.1
  have hmt := hw.1.2.2.2.2.2.1
  by_cases h1 : 0 ≤ l ∧ l ≤ 3
  · have hl := hw.1.1 l h1.1 h1.2
    have hlen := hl.lenb
    by_cases h3 : 0 ≤ w ∧ w ≤ 2
    · refine at_ask ((clo1 A l).elim (-1) (fun b => if w = 0 then b.1 else if w = 1 then b.2.1 else b.2.2 + 21)) hw (fun s hs => ?_) (fun s hs => ?_)
      · obtain ⟨s1, s2, a1, a2, a3, a4, a5⟩ := e_lay hs.1 hw.1 h1.1 h1.2 (m := 0) (by omega) 0 0 (st := 0) (v := 0) (InR_iff.mpr ⟨by omega, by omega⟩) (InR_iff.mpr ⟨by omega, by omega⟩)
        have k2 := hs.keep (a4.mono (snd_csc 0))
        obtain ⟨s3, b1, b2⟩ := e_cl1 (s0 := s2) hw.1 h1.1 h1.2 (fun s_4 => some ((-1), s_4)) s2 ⟨k2.1, a5, Only.refl _ _⟩
        unfold f_X10_closest f_X10_closestStretto
        rw [e_isLine, bd_eq, if_pos h1, jn_eq, if10, e_within, bd_eq, if_pos h3, if10, show a_FP_plan oF = (1, 0, 0) from rfl, show a_FP_upper oF = (14, 0, 0) from rfl, a1, bd_eq, a3, bd_eq, e_lengthOf k2.1.1 hw.1.1 h1.1 h1.2, bd_eq, show lastA A l 0 = lenA A l from if_neg (by omega), b2]
        refine ⟨s3, ?_, (a4.mono (snd_csc 0)).trans (b1.2.2.mono lwp_csc)⟩
        cases hc : clo1 A l with
        | none => rfl
        | some b =>
          have hb := clo_in hl hc
          dsimp only [Option.elim]
          rw [bd_eq, if_neg (by omega), Int.tdiv_eq_ediv_of_nonneg (by omega), Int.tdiv_eq_ediv_of_nonneg (by omega), wr_of (x := _ / 215) (by omega) (by omega), wr_of (x := _ / 43) (by omega) (by omega), Int.tmod_eq_emod_of_nonneg (by omega), Int.tmod_eq_emod_of_nonneg (by omega)]
          by_cases w0 : w = 0
          · rw [if_pos w0, if_pos w0]
            congr 2
            omega
          rw [if_neg w0, if_neg w0]
          by_cases w1 : w = 1
          · rw [if_pos w1, if_pos w1]
            congr 2
            omega
          rw [if_neg w1, if_neg w1]
          congr 2
          omega
      · obtain ⟨s3, b1, b2⟩ := e_mcl1 (s0 := s) hl h1.1 h1.2 hto hmt (fun s_2 => some ((-1), s_2)) s ⟨hs.1, Only.refl _ _⟩
        unfold f_X11_closest f_X11_closestOf
        rw [e_misLine, bd_eq, if_pos h1, jn_eq, if10, e_in, bd_eq, if_pos h3, if10, e_mlength hs.1 hl oM h1.1 h1.2, bd_eq, b2]
        refine ⟨s3, ?_, b1.2.mono rwo_msc⟩
        cases hc : clo1 A l with
        | none => rfl
        | some b =>
          have hb := clo_in hl hc
          dsimp only [Option.elim]
          rw [bd_eq, if_neg (by omega), Int.tdiv_eq_ediv_of_nonneg (by omega), Int.tdiv_eq_ediv_of_nonneg (by omega), wr_of (x := _ / 1000) (by omega) (by omega), wr_of (x := _ / 100) (by omega) (by omega), Int.tmod_eq_emod_of_nonneg (by omega), Int.tmod_eq_emod_of_nonneg (by omega)]
          by_cases w0 : w = 0
          · rw [if_pos w0, if_pos w0]
            congr 2
            omega
          rw [if_neg w0, if_neg w0]
          by_cases w1 : w = 1
          · rw [if_pos w1, if_pos w1]
            congr 2
            omega
          rw [if_neg w1, if_neg w1]
          congr 2
          omega
    · refine at_no (r := -2) (by omega) hw (fun s hs => ?_) (fun s hs => ?_)
      · unfold f_X10_closest
        rw [e_isLine, bd_eq, if_pos h1, jn_eq, if10, e_within, bd_eq, if_neg h3, if00]
      · unfold f_X11_closest
        rw [e_misLine, bd_eq, if_pos h1, jn_eq, if10, e_in, bd_eq, if_neg h3, if00]
  · refine at_no (r := -2) (by omega) hw (fun s hs => ?_) (fun s hs => ?_)
    · unfold f_X10_closest
      rw [e_isLine, bd_eq, if_neg h1, jn_eq, if00]
    · unfold f_X11_closest
      rw [e_misLine, bd_eq, if_neg h1, jn_eq, if00]
end CLO
