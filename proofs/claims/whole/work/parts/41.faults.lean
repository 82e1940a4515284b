/-! two entries' faults: both sides -/
def kdB (A : Int → Int) (B : Int → Int → Int) (e g : Int) : Int → Int := kda (A 137) (B e 4) (B g 4) (hrB A B e) (hrB A B g)
def loB (B : Int → Int → Int) (e g : Int) : Int := max (B e 3) (B g 3)
def upB (A : Int → Int) (B : Int → Int → Int) (e g : Int) : Int := min (B e 3 + totA A (B e 0) (B e 1)) (B g 3 + totA A (B g 0) (B g 1))
def cnB (A : Int → Int) (B : Int → Int → Int) (e g k : Int) : Int := cnk (kdB A B e g) (loB B e g) k (upB A B e g - loB B e g).toNat
def cnW (A : Int → Int) (B : Int → Int → Int) (e g w : Int) : Int := if w < 3 then cnB A B e g w else cnB A B e g 0 + cnB A B e g 1 + cnB A B e g 2
def mso (o : u_O) : Prop := o = (24, 5, 0) ∨ o = (24, 6, 0)
def mst (o : u_O) : Prop := mso o ∨ o = (24, 7, 0)
theorem mst_msc (o : u_O) (h : mst o) : msc o := by rcases h with (h | h) | h <;> subst h <;> simp [msc]
section TWO
variable {s : u_S} {A : Int → Int} {B : Int → Int → Int} {e g t : Int}
theorem cnB_b (hl : WL A (B e 0)) {k : Int} (k0 : 0 ≤ k) (k1 : k ≤ 2) : 0 ≤ cnB A B e g k ∧ cnB A B e g k ≤ 80 := by
  have h := cnk_b (x := kdB A B e g) (fun t => kda_b _ _ _ _ _ t) (a := loB B e g) k0 k1 (upB A B e g - loB B e g).toNat
  have ht := tot_b hl (B e 1)
  unfold cnB
  have : upB A B e g - loB B e g ≤ 80 := by unfold upB loB; omega
  omega
theorem cnB_same (h : B e 4 = B g 4) {k : Int} (k0 : 0 ≤ k) (k1 : k ≤ 2) : cnB A B e g k = 0 := by
  unfold cnB cnk
  refine sm_zero (fun i _ _ => ?_)
  have : ∀ t, kdB A B e g t = 0 := fun t => by unfold kdB kda; rw [if_pos h]
  rw [this]
  rcases (show k = 0 ∨ k = 1 ∨ k = 2 by omega) with rfl | rfl | rfl <;> decide +kernel
theorem cnW_same (h : B e 4 = B g 4) {w : Int} (k0 : 0 ≤ w) : cnW A B e g w = 0 := by
  unfold cnW
  split
  · exact cnB_same h k0 (by omega)
  · rw [cnB_same h (by omega) (by omega), cnB_same h (by omega) (by omega), cnB_same h (by omega) (by omega)]; rfl
theorem cnW_b (hl : WL A (B e 0)) {w : Int} (k0 : 0 ≤ w) : 0 ≤ cnW A B e g w ∧ cnW A B e g w ≤ 240 := by
  unfold cnW
  have h0 := cnB_b (e := e) (g := g) hl (k := 0) (by omega) (by omega)
  have h1 := cnB_b (e := e) (g := g) hl (k := 1) (by omega) (by omega)
  have h2 := cnB_b (e := e) (g := g) hl (k := 2) (by omega) (by omega)
  split
  · have := cnB_b (e := e) (g := g) hl k0 (by omega); omega
  · omega
theorem e_faultsOf (hr : MR s A) {l f m st l2 f2 m2 st2 : Int} (hw : WL A l) (h0 : 0 ≤ l) (h1 : l ≤ 3) (hw2 : WL A l2) (h20 : 0 ≤ l2) (h21 : l2 ≤ 3) (hto : 0 ≤ A 136 ∧ A 136 ≤ 6) (hmt : 1 ≤ A 137) (h : MS s (24, 5, 0) l f m st) (h2 : MS s (24, 6, 0) l2 f2 m2 st2) (hs : 0 ≤ st ∧ st ≤ 1000) (hm : -40 ≤ m ∧ m ≤ 40) (hs2 : 0 ≤ st2 ∧ st2 ≤ 1000) (hm2 : -40 ≤ m2 ∧ m2 ≤ 40) {w : Int} (w0 : 0 ≤ w) (w1 : w ≤ 3) {C : Int → Int} (hC : ∀ k, 0 ≤ k → k ≤ 2 → cnk (flt (A 137) (HRD A l f m st) (HRD A l2 f2 m2 st2)) (max st st2) k (min (st + totA A l f) (st2 + totA A l2 f2) - max st st2).toNat = C k) (hb : ∀ k, 0 ≤ k → k ≤ 2 → 0 ≤ C k ∧ C k ≤ 80) : ∃ s', f_X11_faultsOf oM w s = some ((if w < 3 then C w else C 0 + C 1 + C 2), s') ∧ Only cto s s' := by
  obtain ⟨s', a1, a2, a3⟩ := e_countsAll hr hw h0 h1 hw2 h20 h21 hto hmt (o := oM) h h2 hs hm hs2 hm2
  refine ⟨s', ?_, a2⟩
  have hk : ∀ k, 0 ≤ k → k ≤ 2 → rd s' (a_Mo_counted oM) k = C k := fun k a b => (a3 k a b).trans (hC k a b)
  have b0 := hb 0 (by omega) (by omega)
  have b1 := hb 1 (by omega) (by omega)
  have b2 := hb 2 (by omega) (by omega)
  unfold f_X11_faultsOf
  rw [a1, bd_eq]
  by_cases h3 : w < 3
  · rw [if_pos h3, if_pos h3, gd_of (by omega) (by omega), hk w w0 (by omega)]
  · rw [if_neg h3, if_neg h3, gd_of (by omega) (by omega), gd_of (by omega) (by omega), gd_of (by omega) (by omega), hk 0 (by omega) (by omega), hk 1 (by omega) (by omega), hk 2 (by omega) (by omega), wr_of (x := C 0 + C 1) (by omega) (by omega), wr_of (by omega) (by omega)]
theorem e_areTwo (hm : MR s A) (hw : WF A) (e0 : 0 ≤ e) (e1 : e < A 84) (g0 : 0 ≤ g) (g1 : g < A 84) (hne : e ≠ g) {u w : Int} (huw : (entA A e 4 < entA A g 4 ∧ u = e ∧ w = g) ∨ (¬ entA A e 4 < entA A g 4 ∧ u = g ∧ w = e)) : ∃ s', f_X11_areTwo oM e g s = some ((if entA A e 4 = entA A g 4 then 0 else 1), s') ∧ Only mso s s' ∧ MS s' (24, 5, 0) (entA A u 0) (entA A u 1) (entA A u 2) (entA A u 3) ∧ MS s' (24, 6, 0) (entA A w 0) (entA A w 1) (entA A w 2) (entA A w 3) := by
  have hn := hw.2.1.1
  have hr : ∀ s, MR s A → ∀ x, 0 ≤ x → x < 10 → ∀ k, 0 ≤ k → k < 5 → f_X11_of oM x k s = some (entA A x k, s) := fun s hm x a b k c d => e_of hm oM a b c d
  have u0 : 0 ≤ u ∧ u < 10 := by omega
  have w0 : 0 ≤ w ∧ w < 10 := by omega
  obtain ⟨s1, a1, a2, a3⟩ := e_puts (s := s) (r := (24, 5, 0)) rfl (ent_in hm u0.1 u0.2 (k := 0) (by omega) (by omega)) (ent_in hm u0.1 u0.2 (k := 1) (by omega) (by omega)) (ent_in hm u0.1 u0.2 (k := 2) (by omega) (by omega)) (ent_in hm u0.1 u0.2 (k := 3) (by omega) (by omega))
  have m1 : MR s1 A := hm.keep a2 (by simp)
  obtain ⟨s2, b1, b2, b3⟩ := e_puts (s := s1) (r := (24, 6, 0)) rfl (ent_in hm w0.1 w0.2 (k := 0) (by omega) (by omega)) (ent_in hm w0.1 w0.2 (k := 1) (by omega) (by omega)) (ent_in hm w0.1 w0.2 (k := 2) (by omega) (by omega)) (ent_in hm w0.1 w0.2 (k := 3) (by omega) (by omega))
  have m2 : MR s2 A := m1.keep b2 (by simp)
  refine ⟨s2, ?_, (a2.mono (fun o h => Or.inl h)).trans (b2.mono (fun o h => Or.inr h)), a3.keep b2 (by simp), b3⟩
  have he := hr s hm e e0 (by omega)
  have hg := hr s hm g g0 (by omega)
  have hu := hr s hm u u0.1 u0.2
  have hw' := hr s1 m1 w w0.1 w0.2
  have core : bd (f_X11_of oM u 0 s) (fun r_3 s_5 => bd (f_X11_of oM u 1 s_5) (fun r_4 s_6 => bd (f_X11_of oM u 2 s_6) (fun r_5 s_7 => bd (f_X11_of oM u 3 s_7) (fun r_6 s_8 => bd (f_X11_puts (a_Mo_upper oM) r_3 r_4 r_5 r_6 s_8) (fun r_7 s_9 => bd (f_X11_of oM w 0 s_9) (fun r_8 s_10 => bd (f_X11_of oM w 1 s_10) (fun r_9 s_11 => bd (f_X11_of oM w 2 s_11) (fun r_10 s_12 => bd (f_X11_of oM w 3 s_12) (fun r_11 s_13 => bd (f_X11_puts (a_Mo_lower oM) r_8 r_9 r_10 r_11 s_13) (fun r_12 s_14 => bd (f_X11_of oM e 4 s_14) (fun r_13 s_15 => bd (f_X11_of oM g 4 s_15) (fun r_14 s_16 => if r_13 = r_14 then (some ((0 : Int), s_16)) else (some (1, s_16)))))))))))))) = some ((if entA A e 4 = entA A g 4 then 0 else 1), s2) := by
    rw [hu 0 (by omega) (by omega), bd_eq, hu 1 (by omega) (by omega), bd_eq, hu 2 (by omega) (by omega), bd_eq, hu 3 (by omega) (by omega), bd_eq, show a_Mo_upper oM = (24, 5, 0) from rfl, a1, bd_eq, hw' 0 (by omega) (by omega), bd_eq, hw' 1 (by omega) (by omega), bd_eq, hw' 2 (by omega) (by omega), bd_eq, hw' 3 (by omega) (by omega), bd_eq, show a_Mo_lower oM = (24, 6, 0) from rfl, b1, bd_eq, hr s2 m2 e e0 (by omega) 4 (by omega) (by omega), bd_eq, hr s2 m2 g g0 (by omega) 4 (by omega) (by omega), bd_eq, if_some]
  unfold f_X11_areTwo
  rw [he 4 (by omega) (by omega), bd_eq, hg 4 (by omega) (by omega), bd_eq]
  simp only [jn_eq]
  rcases huw with ⟨h, hu', hw''⟩ | ⟨h, hu', hw''⟩
  · subst hu'; subst hw''
    rw [if_pos h, if_pos trivial]
    exact core
  · subst hu'; subst hw''
    rw [if_neg h, if_neg (fun z => hne z.symm)]
    exact core
theorem e_two (hm : MR s A) (hw : WF A) (e0 : 0 ≤ e) (e1 : e < A 84) (g0 : 0 ≤ g) (g1 : g < A 84) (hne : e ≠ g) : ∃ b s', f_X11_areTwo oM e g s = some (b, s') ∧ Only mso s s' ∧ ((b = 0 ∧ entA A e 4 = entA A g 4) ∨ (b = 1 ∧ (∀ w, 0 ≤ w → w ≤ 3 → ∃ s2, f_X11_faultsOf oM w s' = some (cnW A (entA A) e g w, s2) ∧ Only cto s' s2) ∧ ∀ t, 0 ≤ t → t < 2147483648 → f_X11_faultsAt oM t s' = some (kdB A (entA A) e g t, s'))) := by
  have be := hw.2.1.2 e e0 e1
  have bg := hw.2.1.2 g g0 g1
  have le := hw.1 _ be.1.1 be.1.2
  have lg := hw.1 _ bg.1.1 bg.1.2
  have hto := hw.2.2.2.2.1
  have hmt := hw.2.2.2.2.2.1.1
  have cb : ∀ k, 0 ≤ k → k ≤ 2 → 0 ≤ cnB A (entA A) e g k ∧ cnB A (entA A) e g k ≤ 80 := fun k a b => cnB_b le a b
  by_cases hv : entA A e 4 = entA A g 4
  · obtain ⟨s1, a1, a2, _, _⟩ := e_areTwo hm hw e0 e1 g0 g1 hne (u := g) (w := e) (Or.inr ⟨by omega, rfl, rfl⟩)
    rw [if_pos hv] at a1
    exact ⟨0, s1, a1, a2, Or.inl ⟨rfl, hv⟩⟩
  · by_cases hlt : entA A e 4 < entA A g 4
    · obtain ⟨s1, a1, a2, a3, a4⟩ := e_areTwo hm hw e0 e1 g0 g1 hne (u := e) (w := g) (Or.inl ⟨hlt, rfl, rfl⟩)
      rw [if_neg hv] at a1
      have m1 : MR s1 A := hm.keep a2 (by simp [mso])
      have hk : ∀ t, kdB A (entA A) e g t = flt (A 137) (hrB A (entA A) e) (hrB A (entA A) g) t := fun t => by unfold kdB kda; rw [if_neg hv, if_pos hlt]
      refine ⟨1, s1, a1, a2, Or.inr ⟨rfl, fun w w0 w1 => ?_, fun t t0 t1 => ?_⟩⟩
      · refine e_faultsOf m1 le be.1.1 be.1.2 lg bg.1.1 bg.1.2 hto hmt a3 a4 (by omega) (by omega) (by omega) (by omega) w0 w1 (C := cnB A (entA A) e g) (fun k _ _ => ?_) cb
        unfold cnB loB upB
        rw [show kdB A (entA A) e g = flt (A 137) (hrB A (entA A) e) (hrB A (entA A) g) from funext hk]
        rfl
      · rw [hk]
        exact e_faultsAt m1 le be.1.1 be.1.2 lg bg.1.1 bg.1.2 hto hmt a3 a4 (by omega) (by omega) (by omega) (by omega) t0 t1
    · obtain ⟨s1, a1, a2, a3, a4⟩ := e_areTwo hm hw e0 e1 g0 g1 hne (u := g) (w := e) (Or.inr ⟨hlt, rfl, rfl⟩)
      rw [if_neg hv] at a1
      have m1 : MR s1 A := hm.keep a2 (by simp [mso])
      have hk : ∀ t, kdB A (entA A) e g t = flt (A 137) (hrB A (entA A) g) (hrB A (entA A) e) t := fun t => by unfold kdB kda; rw [if_neg hv, if_neg hlt]
      refine ⟨1, s1, a1, a2, Or.inr ⟨rfl, fun w w0 w1 => ?_, fun t t0 t1 => ?_⟩⟩
      · refine e_faultsOf m1 lg bg.1.1 bg.1.2 le be.1.1 be.1.2 hto hmt a3 a4 (by omega) (by omega) (by omega) (by omega) w0 w1 (C := cnB A (entA A) e g) (fun k _ _ => ?_) cb
        unfold cnB loB upB
        rw [show kdB A (entA A) e g = flt (A 137) (hrB A (entA A) g) (hrB A (entA A) e) from funext hk, Int.max_comm (entA A e 3), Int.min_comm (entA A e 3 + totA A (entA A e 0) (entA A e 1))]
        rfl
      · rw [hk]
        exact e_faultsAt m1 lg bg.1.1 bg.1.2 le be.1.1 be.1.2 hto hmt a3 a4 (by omega) (by omega) (by omega) (by omega) t0 t1
theorem e_addB {i j : Nat} (h1 : SR s (2 + i) A (B i 0) (B i 1) (B i 2) (B i 3) (B i 4)) (h2 : SR s (2 + j) A (B j 0) (B j 1) (B j 2) (B j 3) (B j 4)) (hl : WL A (B i 0)) (hl2 : WL A (B j 0)) (b1 : (0 ≤ B i 3 ∧ B i 3 ≤ 1000) ∧ (-40 ≤ B i 2 ∧ B i 2 ≤ 40)) (b2 : (0 ≤ B j 3 ∧ B j 3 ≤ 1000) ∧ (-40 ≤ B j 2 ∧ B j 2 ≤ 40)) (hmt : 1 ≤ A 137) {c0 c1 c2 : Int} (hc : FC s c0 c1 c2) (d0 : 0 ≤ c0 ∧ c0 ≤ 1000000) (d1 : 0 ≤ c1 ∧ c1 ≤ 1000000) (d2 : 0 ≤ c2 ∧ c2 ≤ 1000000) : ∃ s', f_X3_addPair (16, 0, 0) (14, 2 + i, 0) (14, 2 + j, 0) (A 137) s = some (0, s') ∧ Only flo s s' ∧ FC s' (c0 + cnB A B i j 0) (c1 + cnB A B i j 1) (c2 + cnB A B i j 2) :=
  e_addPair h1 h2 hl hl2 b1.1 b2.1 b1.2 b2.2 hmt hc d0 d1 d2
theorem e_number {c0 c1 c2 w : Int} (hc : FC s c0 c1 c2) (d0 : 0 ≤ c0 ∧ c0 ≤ 1000000) (d1 : 0 ≤ c1 ∧ c1 ≤ 1000000) (d2 : 0 ≤ c2 ∧ c2 ≤ 1000000) (w0 : 0 ≤ w) (w1 : w ≤ 3) : f_X3_number (16, 0, 0) w s = some ((if w = 0 then c0 else if w = 1 then c1 else if w = 2 then c2 else c0 + c1 + c2), s) := by
  obtain ⟨h0, h1, h2⟩ := hc
  unfold f_X3_number
  rw [h0, h1, h2, wr_of (x := c0 + c1) (by omega) (by omega), wr_of (by omega) (by omega)]
  rcases (show w = 0 ∨ w = 1 ∨ w = 2 ∨ w = 3 by omega) with rfl | rfl | rfl | rfl <;> rfl
theorem e_forget : ∃ s', f_X3_forget (16, 0, 0) s = some (0, s') ∧ Only flo s s' ∧ FC s' 0 0 0 := by
  refine ⟨_, rfl, (((Only.refl flo s).wt rfl _ _).wt rfl _ _).wt rfl _ _, ?_, ?_, ?_⟩
  · rw [rd_wt_k (by decide), rd_wt_k (by decide), rd_wt_same]; rfl
  · rw [rd_wt_k (by decide), rd_wt_same]; rfl
  · rw [rd_wt_same]; rfl
theorem flo_csc (o : u_O) (h : flo o) : csc o := by subst h; exact Or.inl (by simp)
theorem cnW_of {w : Int} (w0 : 0 ≤ w) (w1 : w ≤ 3) : cnW A B e g w = if w = 0 then cnB A B e g 0 else if w = 1 then cnB A B e g 1 else if w = 2 then cnB A B e g 2 else cnB A B e g 0 + cnB A B e g 1 + cnB A B e g 2 := by
  unfold cnW
  rcases (show w = 0 ∨ w = 1 ∨ w = 2 ∨ w = 3 by omega) with rfl | rfl | rfl | rfl
  · rw [if_pos (by omega), if_pos rfl]
  · rw [if_pos (by omega), if_neg (by omega), if_pos rfl]
  · rw [if_pos (by omega), if_neg (by omega), if_neg (by omega), if_pos rfl]
  · rw [if_neg (by omega), if_neg (by omega), if_neg (by omega), if_neg (by omega)]
theorem call_faults (e g w : Int) : Call (f_X10_faults oF e g w) (f_X11_faults oM e g w) := by
  intro A H n T tl c hw
  have hn := hw.1.2.1.1
  have oE : a_Plan_entries (a_FP_plan oF) = (6, 0, 0) := rfl
  by_cases h1 : 0 ≤ e ∧ e < A 84
  · by_cases h2 : 0 ≤ g ∧ g < A 84
    · by_cases h3 : e = g
      · refine at_no (r := -2) (by omega) hw (fun s hs => ?_) (fun s hs => ?_)
        · unfold f_X10_faults
          rw [oE, e_chas hs.1.2.1 hn, bd_eq, if_pos h1, jn_eq, if10, e_chas hs.1.2.1 hn, bd_eq, if_pos h2, if10, if_pos h3]
        · unfold f_X11_faults
          rw [e_isEntry hs.1 hn, bd_eq, if_pos h1, jn_eq, if10, e_isEntry hs.1 hn, bd_eq, if_pos h2, if10, if_pos h3]
      · by_cases h4 : 0 ≤ w ∧ w ≤ 3
        · have be := hw.1.2.1.2 e h1.1 h1.2
          have bg := hw.1.2.1.2 g h2.1 h2.2
          have le := hw.1.1 _ be.1.1 be.1.2
          have lg := hw.1.1 _ bg.1.1 bg.1.2
          have hmt := hw.1.2.2.2.2.2.1.1
          refine at_ask (cnW A (entA A) e g w) hw (fun s hs => ?_) (fun s hs => ?_)
          · obtain ⟨s1, a1, a2, a3, a4⟩ := e_gatherA hs.1 hw.1
            obtain ⟨s2, b1, b2, b3⟩ := e_forget (s := s1)
            have r6 : rd s2 (a_FP_plan oF) 6 = A 137 := by
              rw [show a_FP_plan oF = (1, 0, 0) from rfl, b2.rd (by simp [flo]), a2.rd (by simp [gob, sndo])]
              exact hs.1.2.2.1.2.2.1
            have ei : (e.toNat : Int) = e := Int.toNat_of_nonneg h1.1
            have gi : (g.toNat : Int) = g := Int.toNat_of_nonneg h2.1
            obtain ⟨s3, d1, d2, d3⟩ := e_addB (s := s2) (A := A) (B := entA A) (i := e.toNat) (j := g.toNat) (by rw [ei]; exact (a4 e h1.1 h1.2).keep b2 (by simp [flo]) (by simp [flo])) (by rw [gi]; exact (a4 g h2.1 h2.2).keep b2 (by simp [flo]) (by simp [flo])) (by rw [ei]; exact le) (by rw [gi]; exact lg) (by rw [ei]; omega) (by rw [gi]; omega) hmt b3 (by omega) (by omega) (by omega)
            rw [ei, gi, Int.zero_add, Int.zero_add, Int.zero_add] at d3
            unfold f_X10_faults
            have c0 := cnB_b (e := e) (g := g) (B := entA A) le (k := 0) (by omega) (by omega)
            have c1 := cnB_b (e := e) (g := g) (B := entA A) le (k := 1) (by omega) (by omega)
            have c2 := cnB_b (e := e) (g := g) (B := entA A) le (k := 2) (by omega) (by omega)
            rw [oE] at a1
            rw [oE, e_chas hs.1.2.1 hn, bd_eq, if_pos h1, jn_eq, if10, e_chas hs.1.2.1 hn, bd_eq, if_pos h2, if10, if_neg h3, e_within, bd_eq, if_pos h4, if10, a1, bd_eq, show a_FP_faults oF = (16, 0, 0) from rfl, b1, bd_eq, gd_of (by omega) (by omega), gd_of (by omega) (by omega), r6, show e_Sound (a_Chorus_items (a_FP_chorus oF)) e = (14, 2 + e.toNat, 0) from rfl, show e_Sound (a_Chorus_items (a_FP_chorus oF)) g = (14, 2 + g.toNat, 0) from rfl, d1, bd_eq, e_number d3 (by omega) (by omega) (by omega) h4.1 h4.2, bd_eq, cnW_of h4.1 h4.2]
            exact ⟨s3, rfl, (a2.mono gob_csc).trans ((b2.trans d2).mono flo_csc)⟩
          · obtain ⟨b, s1, a1, a2, a3⟩ := e_two hs.1 hw.1 h1.1 h1.2 h2.1 h2.2 h3
            unfold f_X11_faults
            rw [e_isEntry hs.1 hn, bd_eq, if_pos h1, jn_eq, if10, e_isEntry hs.1 hn, bd_eq, if_pos h2, if10, if_neg h3, e_in, bd_eq, if_pos h4, if10, a1, bd_eq]
            rcases a3 with ⟨a3, a4⟩ | ⟨a3, a4, _⟩
            · rw [if_pos a3, cnW_same a4 h4.1]
              exact ⟨s1, rfl, a2.mono (fun o h => mst_msc o (Or.inl h))⟩
            · obtain ⟨s2, b1, b2⟩ := a4 w h4.1 h4.2
              rw [if_neg (by omega), b1, bd_eq]
              exact ⟨s2, rfl, (a2.mono (fun o h => mst_msc o (Or.inl h))).trans (b2.mono (fun o h => mst_msc o (Or.inr h)))⟩
        · refine at_no (r := -2) (by omega) hw (fun s hs => ?_) (fun s hs => ?_)
          · unfold f_X10_faults
            rw [oE, e_chas hs.1.2.1 hn, bd_eq, if_pos h1, jn_eq, if10, e_chas hs.1.2.1 hn, bd_eq, if_pos h2, if10, if_neg h3, e_within, bd_eq, if_neg h4, if00]
          · unfold f_X11_faults
            rw [e_isEntry hs.1 hn, bd_eq, if_pos h1, jn_eq, if10, e_isEntry hs.1 hn, bd_eq, if_pos h2, if10, if_neg h3, e_in, bd_eq, if_neg h4, if00]
    · refine at_no (r := -2) (by omega) hw (fun s hs => ?_) (fun s hs => ?_)
      · unfold f_X10_faults
        rw [oE, e_chas hs.1.2.1 hn, bd_eq, if_pos h1, jn_eq, if10, e_chas hs.1.2.1 hn, bd_eq, if_neg h2, if00]
      · unfold f_X11_faults
        rw [e_isEntry hs.1 hn, bd_eq, if_pos h1, jn_eq, if10, e_isEntry hs.1 hn, bd_eq, if_neg h2, if00]
  · refine at_no (r := -2) (by omega) hw (fun s hs => ?_) (fun s hs => ?_)
    · unfold f_X10_faults
      rw [oE, e_chas hs.1.2.1 hn, bd_eq, if_neg h1, jn_eq, if00]
    · unfold f_X11_faults
      rw [e_isEntry hs.1 hn, bd_eq, if_neg h1, jn_eq, if00]
end TWO
