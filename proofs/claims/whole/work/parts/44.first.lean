/-! first -/
/-- a search, in states that keep something -/
theorem loop_ffs {α σ : Type} (L : Nat → Nat → σ → Option α) (I : σ → Prop) (C : Nat → Bool) (X : Nat → σ → Option α) (Y : σ → Option α) (n : Nat) (hs : ∀ j m s, j < n → I s → ∃ s', I s' ∧ L (m + 1) j s = if C j then X j s' else L m (j + 1) s') (he : ∀ m s, I s → L (m + 1) n s = Y s) : ∀ (k j m : Nat) (s : σ), j + k = n → k < m → I s → ∃ s', I s' ∧ L m j s = (match ff C j k with | some i => X i s' | none => Y s')
  | 0, j, m, s, h1, h2, h3 => by
    cases m with
    | zero => omega
    | succ m =>
      have : j = n := by omega
      subst this
      exact ⟨s, h3, he m s h3⟩
  | k + 1, j, m, s, h1, h2, h3 => by
    cases m with
    | zero => omega
    | succ m =>
      obtain ⟨s', i1, i2⟩ := hs j m s (by omega) h3
      rw [i2, ff]
      by_cases h : C j = true
      · rw [if_pos h, if_pos h]; exact ⟨s', i1, rfl⟩
      · rw [if_neg h, if_neg h]
        exact loop_ffs L I C X Y n hs he k (j + 1) m s' (by omega) (by omega) i1
theorem loop_ffsfu {α σ : Type} (L : Nat → Nat → σ → Option α) (I : σ → Prop) (C : Nat → Bool) (X : Nat → σ → Option α) (Y : σ → Option α) (n : Nat) (hn : n < 100000) (hs : ∀ j m s, j < n → I s → ∃ s', I s' ∧ L (m + 1) j s = if C j then X j s' else L m (j + 1) s') (he : ∀ m s, I s → L (m + 1) n s = Y s) (s : σ) (hI : I s) : ∃ s', I s' ∧ L FU 0 s = (match ff C 0 n with | some i => X i s' | none => Y s') :=
  loop_ffs L I C X Y n hs he n 0 FU s (by omega) (FU_gt hn) hI
def rwF (A : Int → Int) (B : Int → Int → Int) (N t k : Int) (e : Nat) : Option Nat := ff (fun j => decide (bitk (kdB A B e ((e : Int) + 1 + j) t) k = 1)) 0 (N - 1 - e).toNat
def prF (A : Int → Int) (B : Int → Int → Int) (N t k : Int) : Option Nat := ff (fun e => (rwF A B N t k e).isSome) 0 N.toNat
def rwV (A : Int → Int) (B : Int → Int → Int) (N t k : Int) (e : Nat) : Int := match rwF A B N t k e with | some j => 10 * e + ((e : Int) + 1 + j) | none => -1
def prV (A : Int → Int) (B : Int → Int → Int) (N t k : Int) : Int := match prF A B N t k with | some e => rwV A B N t k e | none => -1
def kdF (A : Int → Int) (B : Int → Int → Int) (N t : Int) : Option Nat := ff (fun k => decide (prV A B N t (k : Int) ≠ -1)) 0 3
def kdV (A : Int → Int) (B : Int → Int → Int) (N t : Int) : Int := match kdF A B N t with | some k => k | none => -1
def tkF (A : Int → Int) (B : Int → Int → Int) (N : Int) (E : Nat) : Option Nat := ff (fun t => (kdF A B N (t : Int)).isSome) 0 E
def tkV (A : Int → Int) (B : Int → Int → Int) (N : Int) (E : Nat) : Int := match tkF A B N E with | some t => t | none => -1
section FIRST2
variable {s : u_S} {A : Int → Int} {B : Int → Int → Int} {N t k : Int}
theorem e_cpair (hg : GR s A B N) (he : EB A B N) (hl : ∀ l, 0 ≤ l → l ≤ 3 → WL A l) (hmt : 1 ≤ A 137) (t0 : 0 ≤ t) (t1 : t < 2147483648) : f_X0_firstPairAt (17, 0, 0) t k (A 137) s = some (prV A B N t k, s) := by
  have hN := he.1
  unfold f_X0_firstPairAt
  refine Eq.trans (loop_fffu (fun m (e : Nat) => f_X0_firstPairAt_L3 m (fun s_1 => some ((-1), s_1)) (17, 0, 0) t k (A 137) (e : Int) s) (fun e => (rwF A B N t k e).isSome) (fun e => some (rwV A B N t k e, s)) (some ((-1), s)) N.toNat (by omega) (by
    intro e m hi
    have h1 := hg.nat (i := e) (by omega)
    have hb := he.2 e (by omega) (by omega)
    have q := loop_fffu (fun m' (j : Nat) => f_X0_firstPairAt_L18 m' (fun s_3 => f_X0_firstPairAt_L3 m (fun s_1 => some ((-1), s_1)) (17, 0, 0) t k (A 137) (wr ((e : Int) + 1)) s_3) (17, 0, 0) t k (A 137) e ((e : Int) + 1 + j) s) (fun j => decide (bitk (kdB A B e ((e : Int) + 1 + j) t) k = 1)) (fun j => some (10 * (e : Int) + ((e : Int) + 1 + j), s)) (f_X0_firstPairAt_L3 m (fun s_1 => some ((-1), s_1)) (17, 0, 0) t k (A 137) (wr ((e : Int) + 1)) s) (N - 1 - e).toNat (by omega) (by
      intro j m' hj
      have h2 := hg.nat (i := e + 1 + j) (by omega)
      have hb2 := he.2 ((e + 1 + j : Nat) : Int) (by omega) (by omega)
      have hc : ((e : Int) + 1 + j) = ((e + 1 + j : Nat) : Int) := by omega
      rw [hc]
      rw [f_X0_firstPairAt_L18, hg.1, if_pos (by omega), gd_of (by omega) (by omega), gd_of (by omega) (by omega), show e_Sound (a_Chorus_items (17, 0, 0)) (e : Int) = (14, 2 + e, 0) from rfl, show e_Sound (a_Chorus_items (17, 0, 0)) ((e + 1 + j : Nat) : Int) = (14, 2 + (e + 1 + j), 0) from rfl, e_kindsAt h1 h2 (hl _ hb.1.1 hb.1.2) (hl _ hb2.1.1 hb2.1.2) hb.2.2 hb2.2.2 hb.2.1 hb2.2.1 hmt t0 t1, bd_eq, wr_of (x := 10 * (e : Int)) (by omega) (by omega), wr_of (x := 10 * (e : Int) + ((e + 1 + j : Nat) : Int)) (by omega) (by omega), wr_of (x := ((e + 1 + j : Nat) : Int) + 1) (by omega) (by omega)]
      show (if bitk (kdB A B e ((e + 1 + j : Nat) : Int) t) k = 1 then _ else _) = _
      by_cases hx : bitk (kdB A B e ((e + 1 + j : Nat) : Int) t) k = 1
      · rw [if_pos hx, if_pos (decide_eq_true hx)]
      · rw [if_neg hx, if_neg (by rw [decide_eq_true_iff]; exact hx), show (e : Int) + 1 + ((j + 1 : Nat) : Int) = ((e + 1 + j : Nat) : Int) + 1 by omega]) (by
      intro m'
      rw [f_X0_firstPairAt_L18, hg.1, if_neg (by omega)])
    rw [f_X0_firstPairAt_L3, hg.1, if_pos (by omega)]
    rw [wr_of (x := (e : Int) + 1) (by omega) (by omega)] at q ⊢
    refine Eq.trans (Eq.trans (by rw [show (e : Int) + 1 + ((0 : Nat) : Int) = (e : Int) + 1 by omega]) q) ?_
    show (match rwF A B N t k e with | some i => _ | none => _) = _
    unfold rwV
    cases rwF A B N t k e <;> rfl) (by
    intro m
    rw [f_X0_firstPairAt_L3, hg.1, if_neg (by omega)])) ?_
  show (match prF A B N t k with | some i => _ | none => _) = _
  unfold prV
  cases prF A B N t k <;> rfl
theorem e_ckind (hg : GR s A B N) (he : EB A B N) (hl : ∀ l, 0 ≤ l → l ≤ 3 → WL A l) (hmt : 1 ≤ A 137) (t0 : 0 ≤ t) (t1 : t < 2147483648) : f_X0_leastKindAt (17, 0, 0) t (A 137) s = some (kdV A B N t, s) := by
  unfold f_X0_leastKindAt
  refine Eq.trans (loop_fffu (fun m (e : Nat) => f_X0_leastKindAt_L2 m (fun s_1 => some ((-1), s_1)) (17, 0, 0) t (A 137) (e : Int) s) (fun k => decide (prV A B N t (k : Int) ≠ -1)) (fun e => some ((e : Int), s)) (some ((-1), s)) 3 (by omega) (by
    intro e m hi
    rw [f_X0_leastKindAt_L2, if_pos (by omega), e_cpair hg he hl hmt t0 t1, bd_eq, wr_of (x := (e : Int) + 1) (by omega) (by omega)]
    by_cases hx : prV A B N t (e : Int) = -1
    · rw [if_pos hx, if_neg (by rw [decide_eq_true_iff]; exact fun z => z hx)]; rfl
    · rw [if_neg hx, if_pos (decide_eq_true hx)]) (by
    intro m
    rw [f_X0_leastKindAt_L2, if_neg (by omega)])) ?_
  show (match kdF A B N t with | some i => _ | none => _) = _
  unfold kdV
  cases kdF A B N t <;> rfl
theorem kdV_iff : kdV A B N t = -1 ↔ (kdF A B N t).isSome = false := by
  unfold kdV
  cases kdF A B N t with
  | none => simp
  | some k => simp
theorem e_ctick (hg : GR s A B N) (he : EB A B N) (hl : ∀ l, 0 ≤ l → l ≤ 3 → WL A l) (hmt : 1 ≤ A 137) : f_X0_firstFaultTick (17, 0, 0) (A 137) s = some (tkV A B N (mxE A B N.toNat).toNat, s) := by
  have hN := he.1
  have hE := mxE_b he hl N.toNat (by omega)
  unfold f_X0_firstFaultTick
  rw [e_cend hg he hl, bd_eq]
  generalize hEE : mxE A B N.toNat = E at hE ⊢
  refine Eq.trans (loop_fffu (fun m (e : Nat) => f_X0_firstFaultTick_L7 m (fun s_2 => some ((-1), s_2)) (17, 0, 0) (A 137) E (e : Int) s) (fun t => (kdF A B N (t : Int)).isSome) (fun e => some ((e : Int), s)) (some ((-1), s)) E.toNat (by omega) (by
    intro e m hi
    rw [f_X0_firstFaultTick_L7, if_pos (by omega), e_ckind hg he hl hmt (by omega) (by omega), bd_eq, wr_of (x := (e : Int) + 1) (by omega) (by omega)]
    by_cases hx : kdV A B N (e : Int) = -1
    · rw [if_pos hx, kdV_iff.mp hx]; rfl
    · rw [if_neg hx, if_pos (by rw [← Bool.not_eq_false]; exact fun z => hx (kdV_iff.mpr z))]) (by
    intro m
    rw [f_X0_firstFaultTick_L7, if_neg (by omega)])) ?_
  show (match tkF A B N E.toNat with | some i => _ | none => _) = _
  unfold tkV
  cases tkF A B N E.toNat <;> rfl
theorem kdB_same {e g : Int} (h : B e 4 = B g 4) (t : Int) : kdB A B e g t = 0 := by unfold kdB kda; rw [if_pos h]
theorem bit0 {k : Int} (k0 : 0 ≤ k) (k1 : k ≤ 2) : bitk 0 k = 0 := by
  rcases (show k = 0 ∨ k = 1 ∨ k = 2 by omega) with rfl | rfl | rfl <;> decide +kernel
theorem e_mpair (hm : MR s A) (hw : WF A) (t0 : 0 ≤ t) (t1 : t < 2147483648) (k0 : 0 ≤ k) (k1 : k ≤ 2) : ∃ s', f_X11_pairAt oM t k s = some (prV A (entA A) (A 84) t k, s') ∧ Only mso s s' := by
  have hN := hw.2.1.1
  unfold f_X11_pairAt
  obtain ⟨s', i1, i2⟩ := loop_ffsfu (fun m (e : Nat) s => f_X11_pairAt_L2 m (fun s_1 => some ((-1), s_1)) oM t k (e : Int) s) (fun s' => Only mso s s') (fun e => (rwF A (entA A) (A 84) t k e).isSome) (fun e s' => some (rwV A (entA A) (A 84) t k e, s')) (fun s' => some ((-1), s')) (A 84).toNat (by omega) (by
    intro e m s1 hi ho
    have m1 : MR s1 A := hm.keep ho (by simp [mso])
    obtain ⟨s2, j1, j2⟩ := loop_ffsfu (fun m' (j : Nat) s => f_X11_pairAt_L18 m' (fun s_3 => f_X11_pairAt_L2 m (fun s_1 => some ((-1), s_1)) oM t k (wr ((e : Int) + 1)) s_3) oM t k e ((e : Int) + 1 + j) s) (fun s' => Only mso s s') (fun j => decide (bitk (kdB A (entA A) e ((e : Int) + 1 + j) t) k = 1)) (fun j s' => some (10 * (e : Int) + ((e : Int) + 1 + j), s')) (fun s' => f_X11_pairAt_L2 m (fun s_1 => some ((-1), s_1)) oM t k (wr ((e : Int) + 1)) s') (A 84 - 1 - e).toNat (by omega) (by
      intro j m' s3 hj ho3
      have m3 : MR s3 A := hm.keep ho3 (by simp [mso])
      obtain ⟨b, s4, a1, a2, a3⟩ := e_two (e := e) (g := (e : Int) + 1 + j) m3 hw (by omega) (by omega) (by omega) (by omega) (by omega)
      refine ⟨s4, ho3.trans a2, ?_⟩
      rw [f_X11_pairAt_L18, gd_of (by omega) (by omega), m_rd m3 _ (by omega) (by omega), if_pos (by omega), a1, bd_eq, jn_eq, wr_of (x := 10 * (e : Int)) (by omega) (by omega), wr_of (x := 10 * (e : Int) + ((e : Int) + 1 + j)) (by omega) (by omega), wr_of (x := (e : Int) + 1 + j + 1) (by omega) (by omega), show (e : Int) + 1 + ((j + 1 : Nat) : Int) = (e : Int) + 1 + j + 1 by omega]
      rcases a3 with ⟨a3, a4⟩ | ⟨a3, _, a4⟩
      · rw [if_pos a3, if_neg (by rw [decide_eq_true_iff, kdB_same a4, bit0 k0 k1]; omega)]
      · rw [if_neg (by omega), a4 t t0 t1, bd_eq]
        show (if bitk (kdB A (entA A) e ((e : Int) + 1 + j) t) k = 1 then _ else _) = _
        by_cases hx : bitk (kdB A (entA A) e ((e : Int) + 1 + j) t) k = 1
        · rw [if_pos hx, if_pos (decide_eq_true hx)]
        · rw [if_neg hx, if_neg (by rw [decide_eq_true_iff]; exact hx)]) (by
      intro m' s3 ho3
      rw [f_X11_pairAt_L18, gd_of (by omega) (by omega), m_rd (hm.keep ho3 (by simp [mso])) _ (by omega) (by omega), if_neg (by omega)]) s1 ho
    refine ⟨s2, j1, ?_⟩
    rw [f_X11_pairAt_L2, gd_of (by omega) (by omega), m_rd m1 _ (by omega) (by omega), if_pos (by omega)]
    rw [wr_of (x := (e : Int) + 1) (by omega) (by omega)] at j2 ⊢
    refine Eq.trans (Eq.trans (by rw [show (e : Int) + 1 + ((0 : Nat) : Int) = (e : Int) + 1 by omega]) j2) ?_
    show (match rwF A (entA A) (A 84) t k e with | some i => _ | none => _) = _
    unfold rwV
    cases rwF A (entA A) (A 84) t k e <;> rfl) (by
    intro m s1 ho
    rw [f_X11_pairAt_L2, gd_of (by omega) (by omega), m_rd (hm.keep ho (by simp [mso])) _ (by omega) (by omega), if_neg (by omega)]) s (Only.refl _ _)
  refine ⟨s', ?_, i1⟩
  refine Eq.trans i2 ?_
  show (match prF A (entA A) (A 84) t k with | some i => _ | none => _) = _
  unfold prV
  cases prF A (entA A) (A 84) t k <;> rfl
def fsV (A : Int → Int) (B : Int → Int → Int) (N w : Int) (E : Nat) : Int := match tkF A B N E with | some t => (if w = 0 then (t : Int) else if w = 1 then kdV A B N t else prV A B N t (kdV A B N t)) | none => -1
theorem e_mfirst (hm : MR s A) (hw : WF A) (w : Int) : ∃ s', f_X11_first_L21 FU (fun s_2 => some ((-1), s_2)) oM w 0 s = some (fsV A (entA A) (A 84) w (mxE A (entA A) (A 84).toNat).toNat, s') ∧ Only mso s s' := by
  have hN := hw.2.1.1
  have hE := mxE_b hw.EB hw.1 (A 84).toNat (by omega)
  have hend : ∀ s1, Only mso s s1 → f_X11_end oM s1 = some (mxE A (entA A) (A 84).toNat, s1) := fun s1 ho => e_mend (hm.keep ho (by simp [mso])) hw
  generalize hEE : mxE A (entA A) (A 84).toNat = E at hE hend ⊢
  obtain ⟨s', i1, i2⟩ := loop_ffsfu (fun m (t : Nat) s => f_X11_first_L21 m (fun s_2 => some ((-1), s_2)) oM w (t : Int) s) (fun s' => Only mso s s') (fun t => (kdF A (entA A) (A 84) (t : Int)).isSome) (fun t s' => some ((if w = 0 then (t : Int) else if w = 1 then kdV A (entA A) (A 84) t else prV A (entA A) (A 84) t (kdV A (entA A) (A 84) t)), s')) (fun s' => some ((-1), s')) E.toNat (by omega) (by
    intro t m s1 hi ho
    obtain ⟨s2, j1, j2⟩ := loop_ffsfu (fun m' (k : Nat) s => f_X11_first_L31 m' (fun s_5 => f_X11_first_L21 m (fun s_2 => some ((-1), s_2)) oM w (wr ((t : Int) + 1)) s_5) oM w t (k : Int) s) (fun s' => Only mso s s') (fun k => decide (prV A (entA A) (A 84) t (k : Int) ≠ -1)) (fun k s' => some ((if w = 0 then (t : Int) else if w = 1 then (k : Int) else prV A (entA A) (A 84) t k), s')) (fun s' => f_X11_first_L21 m (fun s_2 => some ((-1), s_2)) oM w (wr ((t : Int) + 1)) s') 3 (by omega) (by
      intro k m' s3 hk ho3
      obtain ⟨s4, a1, a2⟩ := e_mpair (t := t) (k := k) (hm.keep ho3 (by simp [mso])) hw (by omega) (by omega) (by omega) (by omega)
      refine ⟨s4, ho3.trans a2, ?_⟩
      rw [f_X11_first_L31, if_pos (by omega), a1, bd_eq, wr_of (x := (k : Int) + 1) (by omega) (by omega)]
      by_cases hx : prV A (entA A) (A 84) t (k : Int) = -1
      · rw [if_pos hx, if_neg (by rw [decide_eq_true_iff]; exact fun z => z hx)]; rfl
      · rw [if_neg hx, if_pos (decide_eq_true hx)]
        by_cases w0 : w = 0
        · rw [if_pos w0, if_pos w0]
        · rw [if_neg w0, if_neg w0]
          by_cases w1 : w = 1
          · rw [if_pos w1, if_pos w1]
          · rw [if_neg w1, if_neg w1]) (by
      intro m' s3 ho3
      rw [f_X11_first_L31, if_neg (by omega)]) s1 ho
    refine ⟨s2, j1, ?_⟩
    rw [f_X11_first_L21, hend s1 ho, bd_eq, if_pos (by omega)]
    rw [wr_of (x := (t : Int) + 1) (by omega) (by omega)] at j2
    refine Eq.trans (Eq.trans (by rw [wr_of (x := (t : Int) + 1) (by omega) (by omega)]; rfl) j2) ?_
    show (match kdF A (entA A) (A 84) t with | some i => _ | none => _) = _
    unfold kdV
    cases kdF A (entA A) (A 84) t <;> rfl) (by
    intro m s1 ho
    rw [f_X11_first_L21, hend s1 ho, bd_eq, if_neg (by omega)]) s (Only.refl _ _)
  refine ⟨s', ?_, i1⟩
  refine Eq.trans i2 ?_
  show (match tkF A (entA A) (A 84) E.toNat with | some i => _ | none => _) = _
  unfold fsV
  cases tkF A (entA A) (A 84) E.toNat <;> rfl
theorem call_first (w : Int) : Call (f_X10_first oF w) (f_X11_first oM w) := by
  intro A H n T tl c hw
  have hE := hw.1.EB
  have hN := hw.1.2.1.1
  have hmt := hw.1.2.2.2.2.2.1.1
  have hX := mxE_b hE hw.1.1 (A 84).toNat (by omega)
  by_cases h1 : 0 ≤ w ∧ w ≤ 2
  · refine at_ask (fsV A (entA A) (A 84) w (mxE A (entA A) (A 84).toNat).toNat) hw (fun s hs => ?_) (fun s hs => ?_)
    · obtain ⟨s1, a1, a2, a3⟩ := e_gatherA hs.1 hw.1
      have hg : GR s1 A (entA A) (A 84) := a3
      have r6 : rd s1 (a_FP_plan oF) 6 = A 137 := by
        rw [show a_FP_plan oF = (1, 0, 0) from rfl, a2.rd (by simp [gob, sndo])]
        exact hs.1.2.2.1.2.2.1
      refine ⟨s1, ?_, a2.mono gob_csc⟩
      unfold f_X10_first
      rw [e_within, bd_eq, if_pos h1, if10, a1, bd_eq, show a_FP_chorus oF = (17, 0, 0) from rfl, r6, e_ctick hg hE hw.1.1 hmt, bd_eq]
      unfold tkV fsV
      cases hf : tkF A (entA A) (A 84) (mxE A (entA A) (A 84).toNat).toNat with
      | none => dsimp only; rw [if_pos rfl]
      | some t =>
        have ht := (ff_some hf).2.1
        dsimp only
        rw [if_neg (by omega)]
        by_cases w0 : w = 0
        · rw [if_pos w0, if_pos w0]
        · rw [if_neg w0, if_neg w0, r6, e_ckind hg hE hw.1.1 hmt (by omega) (by omega), bd_eq]
          by_cases w1 : w = 1
          · rw [if_pos w1, if_pos w1]
          · rw [if_neg w1, if_neg w1, r6, e_cpair hg hE hw.1.1 hmt (by omega) (by omega), bd_eq]
    · obtain ⟨s1, a1, a2⟩ := e_mfirst hs.1 hw.1 w
      unfold f_X11_first
      rw [e_in, bd_eq, if_pos h1, if10, a1]
      exact ⟨s1, rfl, a2.mono (fun o h => mst_msc o (Or.inl h))⟩
  · refine at_no (r := -2) (by omega) hw (fun s hs => ?_) (fun s hs => ?_)
    · unfold f_X10_first
      rw [e_within, bd_eq, if_neg h1, if00]
    · unfold f_X11_first
      rw [e_in, bd_eq, if_neg h1, if00]
end FIRST2
