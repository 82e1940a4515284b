/-! gather; sounds, faults -/
def gob (o : u_O) : Prop := o = (17, 0, 0) ∨ ∃ j, 2 ≤ j ∧ j < 12 ∧ sndo j o
theorem gob_csc (o : u_O) (h : gob o) : csc o := by
  rcases h with h | ⟨j, _, _, h⟩
  · subst h; exact Or.inl (by simp)
  · exact snd_csc j o h
theorem sndo_k {j : Nat} {o : u_O} (h : sndo j o) : o.1 = 14 ∨ o.1 = 15 := by rcases h with h | h <;> subst h <;> simp
section GATHER
variable {s : u_S} {A : Int → Int} {q : Nat} {B : Int → Int → Int} {N : Int}
theorem e_gather (hc : CP s 0 A) (hw : WF A) (hN : 0 ≤ N ∧ N ≤ 10) (hr : rd s (6, q, 0) 1 = N) (hB : ∀ e k : Int, 0 ≤ e → e < N → 0 ≤ k → k < 5 → rd s (8, q, e.toNat) k = B e k) (hb : ∀ e : Int, 0 ≤ e → e < N → (0 ≤ B e 0 ∧ B e 0 ≤ 3) ∧ (-40 ≤ B e 2 ∧ B e 2 ≤ 40)) : ∃ s', f_X0_gather (17, 0, 0) (1, 0, 0) (6, q, 0) s = some (0, s') ∧ Only gob s s' ∧ rd s' (17, 0, 0) 1 = N ∧ ∀ e : Int, 0 ≤ e → e < N → SR s' (2 + e.toNat) A (B e 0) (B e 1) (B e 2) (B e 3) (B e 4) := by
  unfold f_X0_gather
  rw [hr, e_min, bd_eq, show min N (10 : Int) = N from by omega]
  have o0 : Only gob s (wt s (17, 0, 0) 1 N) := (Only.refl gob s).wt (Or.inl rfl) _ _
  have np : ∀ o, pob 0 o → ¬ gob o := by
    intro o h z
    rcases z with z | ⟨j, _, _, z⟩
    · subst z; simp [pob] at h
    · have := sndo_k z; have := h.2; omega
  obtain ⟨b, e, i1, i2, i3, i4⟩ := loop_relfu (fun m (b : Int × u_S) => f_X0_gather_L15 m (fun s_1 => some (0, s_1)) (17, 0, 0) (1, 0, 0) (6, q, 0) b.1 b.2) (fun i b => b.1 = i ∧ Only gob s b.2 ∧ rd b.2 (17, 0, 0) 1 = N ∧ ∀ e : Int, 0 ≤ e → e < i → SR b.2 (2 + e.toNat) A (B e 0) (B e 1) (B e 2) (B e 3) (B e 4)) (fun b => some (0, b.2)) N.toNat (by omega) (by
    intro i b m hi ⟨e1, e2, e3, e4⟩
    obtain ⟨b1, s1⟩ := b
    dsimp only at e1 e2 e3 e4
    subst e1
    have hb' := hb i (by omega) (by omega)
    have ne8 : ∀ x, ¬ gob (8, q, x) := by
      intro x z
      rcases z with z | ⟨j, _, _, z⟩
      · simp at z
      · have := sndo_k z; simp at this
    have rB : ∀ k, 0 ≤ k → k < 5 → rd s1 (8, q, i) k = B i k := fun k a b => by
      rw [e2.rd (ne8 _), ← hB i k (by omega) (by omega) a b, Int.toNat_natCast]
    obtain ⟨s2, s3, a1, a2, a3, a4, a5⟩ := e_lay (hc.keep e2 np) hw hb'.1.1 hb'.1.2 hb'.2 (B i 1) (2 + i) (st := B i 3) (v := B i 4) (by rw [← rB 3 (by omega) (by omega)]; exact InR_rd _ _ _) (by rw [← rB 4 (by omega) (by omega)]; exact InR_rd _ _ _)
    have og : Only gob s1 s3 := a4.mono (fun o h => Or.inr ⟨2 + i, by omega, by omega, h⟩)
    refine ⟨(wr ((i : Int) + 1), s3), ?_, by dsimp only; rw [wr_of (by omega) (by omega)]; omega, e2.trans og, by dsimp only; rw [a4.rd (by simp [sndo])]; exact e3, ?_⟩
    · dsimp only
      have nb : ¬ sndo (2 + i) (8, q, i) := by simp [sndo]
      rw [f_X0_gather_L15, e3, if_pos (by omega), gd_of (by omega) (by omega), gd_of (by omega) (by omega), show e_Sound (a_Chorus_items (17, 0, 0)) (i : Int) = (14, 2 + i, 0) from rfl, show e_Entry (a_Entries_items (6, q, 0)) (i : Int) = (8, q, i) from rfl, rB 0 (by omega) (by omega), rB 1 (by omega) (by omega), rB 2 (by omega) (by omega), a1, bd_eq, gd_of (by omega) (by omega), a2.rd nb, a2.rd nb, rB 3 (by omega) (by omega), rB 4 (by omega) (by omega), a3, bd_eq]
    · intro x x0 x1
      dsimp only
      by_cases hx : x = i
      · subst hx
        exact a5
      · refine (e4 x x0 (by omega)).keep a4 ?_ ?_
        · intro z; rcases z with z | z
          · have := congrArg (fun o : u_O => o.2.1) z; dsimp only at this; omega
          · simp at z
        · intro z; rcases z with z | z
          · simp at z
          · have := congrArg (fun o : u_O => o.2.1) z; dsimp only at this; omega) (by
    intro b m ⟨e1, e2, e3, e4⟩
    rw [f_X0_gather_L15, e3, if_neg (by omega)]) (0, wt s (17, 0, 0) 1 N) ⟨rfl, o0, by rw [rd_wt_same, wr_of (by omega) (by omega)], fun e a b => by omega⟩
  exact ⟨b.2, e, i2, i3, fun x a b => i4 x a (by omega)⟩
/-- the plan's own -/
theorem e_gatherA (hc : CP s 0 A) (hw : WF A) : ∃ s', f_X0_gather (a_FP_chorus oF) (a_FP_plan oF) (a_Plan_entries (a_FP_plan oF)) s = some (0, s') ∧ Only gob s s' ∧ rd s' (17, 0, 0) 1 = A 84 ∧ ∀ e : Int, 0 ≤ e → e < A 84 → SR s' (2 + e.toNat) A (entA A e 0) (entA A e 1) (entA A e 2) (entA A e 3) (entA A e 4) :=
  e_gather (q := 0) (B := entA A) hc hw hw.2.1.1 hc.2.1.1 (fun e k a b c d => hc.2.1.2 e k a b c d) (fun e a b => by have := hw.2.1.2 e a b; omega)
def hitB (A : Int → Int) (B : Int → Int → Int) (v t : Int) (e : Nat) : Bool := decide (B e 4 = v ∧ B e 3 ≤ t ∧ t < B e 3 + totA A (B e 0) (B e 1))
def hrB (A : Int → Int) (B : Int → Int → Int) (e : Int) : Int → Int := HRD A (B e 0) (B e 1) (B e 2) (B e 3)
theorem e_stepOf' (hN : 0 ≤ N ∧ N ≤ 10) (hr : rd s (17, 0, 0) 1 = N) (hg : ∀ e : Int, 0 ≤ e → e < N → SR s (2 + e.toNat) A (B e 0) (B e 1) (B e 2) (B e 3) (B e 4)) (hl : ∀ l, 0 ≤ l → l ≤ 3 → WL A l) (hb : ∀ e : Int, 0 ≤ e → e < N → (0 ≤ B e 0 ∧ B e 0 ≤ 3) ∧ (0 ≤ B e 3 ∧ B e 3 ≤ 1000)) (v : Int) {t : Int} (t1 : 0 ≤ t) (t2 : t < 2147483648) : f_X0_stepOf (17, 0, 0) v t s = some ((match ff (hitB A B v t) 0 N.toNat with | some i => hrB A B i t | none => -1000), s) := by
  unfold f_X0_stepOf
  refine Eq.trans (loop_fffu (fun m (i : Nat) => f_X0_stepOf_L2 m (fun s_1 => some ((-1000), s_1)) (17, 0, 0) v t (i : Int) s) (hitB A B v t) (fun i => some (hrB A B i t, s)) (some ((-1000), s)) N.toNat (by omega) (by
    intro i m hi
    have h1 := hg i (by omega) (by omega)
    rw [Int.toNat_natCast] at h1
    have h2 := hb i (by omega) (by omega)
    have h3 := hl _ h2.1.1 h2.1.2
    rw [f_X0_stepOf_L2, hr, if_pos (by omega), gd_of (by omega) (by omega), jn_eq, show e_Sound (a_Chorus_items (17, 0, 0)) (i : Int) = (14, 2 + i, 0) from rfl, h1.2.2]
    by_cases hv : B i 4 = v
    · rw [if_pos hv, gd_of (by omega) (by omega), e_isHeardAt h1 h3 (by omega) (by omega) (by omega) t2, bd_eq]
      by_cases hh : B i 3 ≤ t ∧ t < B i 3 + totA A (B i 0) (B i 1)
      · rw [if_pos hh, if10, gd_of (by omega) (by omega), e_stepAt h1 h3 (by omega) (by omega) (by omega) t2, bd_eq, if_pos (by unfold hitB; exact decide_eq_true ⟨hv, hh⟩)]
        rfl
      · rw [if_neg hh, if00, wr_of (by omega) (by omega), if_neg (by unfold hitB; simp only [decide_eq_true_eq]; exact fun z => hh z.2)]
        rfl
    · rw [if_neg hv, wr_of (by omega) (by omega), if_neg (by unfold hitB; simp only [decide_eq_true_eq]; exact fun z => hv z.1)]
      rfl) (by
    intro m
    rw [f_X0_stepOf_L2, hr, if_neg (by omega)])) ?_
  cases ff (hitB A B v t) 0 N.toNat <;> rfl
theorem e_puts {r : u_O} (hl : alen r = 4) {l f m st : Int} (h0 : InR l) (h1 : InR f) (h2 : InR m) (h3 : InR st) : ∃ s', f_X11_puts r l f m st s = some (0, s') ∧ Only (fun o => o = r) s s' ∧ MS s' r l f m st := by
  refine ⟨wt (wt (wt (wt s r 0 l) r 1 f) r 2 m) r 3 st, ?_, ((((Only.refl (fun o => o = r) s).wt rfl _ _).wt rfl _ _).wt rfl _ _).wt rfl _ _, ?_, ?_, ?_, ?_⟩
  · unfold f_X11_puts
    rw [hl, gd_of (by omega) (by omega), gd_of (by omega) (by omega), gd_of (by omega) (by omega), gd_of (by omega) (by omega)]
  · rw [rd_wt_k (by decide), rd_wt_k (by decide), rd_wt_k (by decide), rd_wt_same, wr_in h0]
  · rw [rd_wt_k (by decide), rd_wt_k (by decide), rd_wt_same, wr_in h1]
  · rw [rd_wt_k (by decide), rd_wt_same, wr_in h2]
  · rw [rd_wt_same, wr_in h3]
end GATHER
