/-! COUNTS of faults: the class's addPair, the model's countsAll -/
def FC (s : u_S) (c0 c1 c2 : Int) : Prop := rd s (16, 0, 0) 0 = c0 ∧ rd s (16, 0, 0) 1 = c1 ∧ rd s (16, 0, 0) 2 = c2
/-- how many ticks of n from one on have bit k -/
def cnk (x : Int → Int) (a k : Int) (n : Nat) : Int := sm (fun i => bitk (x (a + i)) k) n
theorem cnk_b {x : Int → Int} (hx : ∀ t, 0 ≤ x t ∧ x t ≤ 7) {a k : Int} (k0 : 0 ≤ k) (k1 : k ≤ 2) (n : Nat) : 0 ≤ cnk x a k n ∧ cnk x a k n ≤ n := by
  have h1 := sm_ge (f := fun i => bitk (x (a + i)) k) (b := 0) (n := n) (fun i _ _ => (bit_b (hx _).1 (hx _).2 k0 k1).1)
  have h2 := sm_le (f := fun i => bitk (x (a + i)) k) (b := 1) (n := n) (fun i _ _ => (bit_b (hx _).1 (hx _).2 k0 k1).2)
  unfold cnk
  omega
theorem cnk_succ (x : Int → Int) (a k : Int) (n : Nat) : cnk x a k (n + 1) = cnk x a k n + bitk (x (a + n)) k := rfl
theorem j_harsh (K : Int → u_S → Option (Int × u_S)) (T c : Int) (s : u_S) : jn K (fun jp_1 => jn (fun (s_18 : u_S) => jp_1 0 s_18) (fun jp_12 => if T = 0 then (jn (fun (s_19 : u_S) => jp_1 1 s_19) (fun jp_13 => if c = 1 then (jp_13 s) else (if c = 3 then (jp_13 s) else (if c = 6 then (jp_13 s) else (jp_12 s))))) else (jp_12 s))) = K (if T = 0 ∧ harsh7 c then 1 else 0) s := by
  simp only [jn_eq]
  repeat' split
  all_goals first | rfl | omega
theorem j_cross (K : Int → Int → u_S → Option (Int × u_S)) (v u w : Int) (s : u_S) : jn K (fun jp_2 => if u < w then (jp_2 v 2 s) else (jp_2 v 0 s)) = K v (if u < w then 2 else 0) s := by
  simp only [jn_eq]
  split <;> rfl
theorem j_alike (K : Int → u_S → Option (Int × u_S)) (u u' w w' : Int) (s : u_S) : jn K (fun jp_5 => jn (fun (s_13 : u_S) => jp_5 1 s_13) (fun jp_9 => jn (fun (s_14 : u_S) => jn (fun (s_15 : u_S) => jp_5 0 s_15) (fun jp_11 => if u < u' then (if w < w' then (jp_9 s_14) else (jp_11 s_14)) else (jp_11 s_14))) (fun jp_10 => if u ≤ u' then (jp_10 s) else (if w ≤ w' then (jp_10 s) else (jp_9 s))))) = K (if (u' < u ∧ w' < w) ∨ (u < u' ∧ w < w') then 1 else 0) s := by
  simp only [jn_eq]
  repeat' split
  all_goals first | rfl | omega
theorem j_ahead (K : Int → u_S → Option (Int × u_S)) {t u' : Int} {x : Option (Int × u_S)} {s : u_S} (h : x = some (u', s)) (z : t = 0 → u' = -1000) : jn K (fun jp_3 => if t = 0 then (jp_3 (-1000) s) else (bd x (fun r_6 s_17 => jp_3 r_6 s_17))) = K u' s := by
  simp only [jn_eq]
  split
  · rw [z ‹_›]
  · rw [h, bd_eq]
section COUNT
variable {s : u_S} {A : Int → Int} {l f m st v l2 f2 m2 st2 v2 mt t : Int} {j j2 : Nat}
def flo (o : u_O) : Prop := o = (16, 0, 0)
theorem SR.keep {s s' : u_S} (h : SR s j A l f m st v) {P : u_O → Prop} (ho : Only P s s') (h1 : ¬ P (14, j, 0)) (h2 : ¬ P (15, j, 0)) : SR s' j A l f m st v := ⟨⟨by rw [ho.rd h1]; exact h.1.1, fun t a b => by rw [ho.rd h2]; exact h.1.2 t a b⟩, by rw [ho.rd h1]; exact h.2.1, by rw [ho.rd h1]; exact h.2.2⟩
theorem e_end (h : SR s j A l f m st v) (hw : WL A l) (hs : 0 ≤ st ∧ st ≤ 1000) : f_X8_end (14, j, 0) s = some (st + totA A l f, s) := by
  unfold f_X8_end
  have := tot_b hw f
  rw [h.2.1, h.1.1, wr_of (by omega) (by omega)]
theorem e_addPair (h : SR s j A l f m st v) (h2 : SR s j2 A l2 f2 m2 st2 v2) (hw : WL A l) (hw2 : WL A l2) (hs : 0 ≤ st ∧ st ≤ 1000) (hs2 : 0 ≤ st2 ∧ st2 ≤ 1000) (hm : -40 ≤ m ∧ m ≤ 40) (hm2 : -40 ≤ m2 ∧ m2 ≤ 40) (hmt : 1 ≤ mt) {c0 c1 c2 : Int} (hc : FC s c0 c1 c2) (b0 : 0 ≤ c0 ∧ c0 ≤ 1000000) (b1 : 0 ≤ c1 ∧ c1 ≤ 1000000) (b2 : 0 ≤ c2 ∧ c2 ≤ 1000000) :
    ∃ s', f_X3_addPair (16, 0, 0) (14, j, 0) (14, j2, 0) mt s = some (0, s') ∧ Only flo s s' ∧ FC s' (c0 + cnk (kda mt v v2 (HRD A l f m st) (HRD A l2 f2 m2 st2)) (max st st2) 0 (min (st + totA A l f) (st2 + totA A l2 f2) - max st st2).toNat) (c1 + cnk (kda mt v v2 (HRD A l f m st) (HRD A l2 f2 m2 st2)) (max st st2) 1 (min (st + totA A l f) (st2 + totA A l2 f2) - max st st2).toNat) (c2 + cnk (kda mt v v2 (HRD A l f m st) (HRD A l2 f2 m2 st2)) (max st st2) 2 (min (st + totA A l f) (st2 + totA A l2 f2) - max st st2).toNat) := by
  unfold f_X3_addPair
  have ht1 := tot_b hw f
  have ht2 := tot_b hw2 f2
  rw [e_end h hw hs, bd_eq, e_end h2 hw2 hs2, bd_eq, e_min, bd_eq, h.2.1, h2.2.1, e_max, bd_eq]
  have hk : ∀ t, 0 ≤ kda mt v v2 (HRD A l f m st) (HRD A l2 f2 m2 st2) t ∧ kda mt v v2 (HRD A l f m st) (HRD A l2 f2 m2 st2) t ≤ 7 := fun t => kda_b mt v v2 _ _ t
  generalize hx : kda mt v v2 (HRD A l f m st) (HRD A l2 f2 m2 st2) = x at hk ⊢
  generalize ha : max st st2 = a
  generalize he : min (st + totA A l f) (st2 + totA A l2 f2) = e
  have ha0 : 0 ≤ a ∧ a ≤ 1000 := by omega
  have he0 : e ≤ 1080 := by omega
  obtain ⟨b, q, i1, i2, i3⟩ := loop_relfu (fun n (b : Int × u_S) => f_X3_addPair_L26 n (fun s_5 => some (0, s_5)) (16, 0, 0) (14, j, 0) (14, j2, 0) mt e b.1 b.2) (fun i b => b.1 = a + i ∧ Only flo s b.2 ∧ FC b.2 (c0 + cnk x a 0 i) (c1 + cnk x a 1 i) (c2 + cnk x a 2 i)) (fun b => some (0, b.2)) (e - a).toNat (by omega) (by
      intro i b n hi ⟨e1, e2, e3, e4, e5⟩
      obtain ⟨p, s1⟩ := b
      dsimp only at e1 e2 e3 e4 e5
      subst e1
      have g1 := h.keep e2 (by simp [flo]) (by simp [flo])
      have g2 := h2.keep e2 (by simp [flo]) (by simp [flo])
      have d0 := cnk_b hk (a := a) (k := 0) (by omega) (by omega) i
      have d1 := cnk_b hk (a := a) (k := 1) (by omega) (by omega) i
      have d2 := cnk_b hk (a := a) (k := 2) (by omega) (by omega) i
      have w0 := bit_b (hk (a + i)).1 (hk (a + i)).2 (k := 0) (by omega) (by omega)
      have w1 := bit_b (hk (a + i)).1 (hk (a + i)).2 (k := 1) (by omega) (by omega)
      have w2 := bit_b (hk (a + i)).1 (hk (a + i)).2 (k := 2) (by omega) (by omega)
      refine ⟨(wr (a + i + 1), _), by dsimp only; rw [f_X3_addPair_L26, if_pos (by omega), e_kindsAt g1 g2 hw hw2 hs hs2 hm hm2 hmt (by omega) (by omega), hx, bd_eq], by dsimp only; rw [wr_of (by omega) (by omega)]; omega, ?_, ?_⟩
      · exact ((e2.wt rfl _ _).wt rfl _ _).wt rfl _ _
      · rw [bit_0 (hk _).1 (hk _).2, show iand (ishr (x (a + i)) 1) 1 = bitk (x (a + i)) 1 from rfl, show iand (ishr (x (a + i)) 2) 1 = bitk (x (a + i)) 2 from rfl]
        dsimp only
        refine ⟨?_, ?_, ?_⟩
        · rw [rd_wt_k (by decide), rd_wt_k (by decide), rd_wt_same, e3, cnk_succ, wr_of (x := c0 + _ + _) (by omega) (by omega), wr_of (by omega) (by omega)]
          omega
        · rw [rd_wt_k (by decide), rd_wt_same, rd_wt_k (by decide), e4, cnk_succ, wr_of (x := c1 + _ + _) (by omega) (by omega), wr_of (by omega) (by omega)]
          omega
        · rw [rd_wt_same, rd_wt_k (by decide), rd_wt_k (by decide), e5, cnk_succ, wr_of (x := c2 + _ + _) (by omega) (by omega), wr_of (by omega) (by omega)]
          omega) (by
      intro b n ⟨e1, e2, e3⟩
      obtain ⟨p, s1⟩ := b
      dsimp only at e1 e2 ⊢
      subst e1
      rw [f_X3_addPair_L26, if_neg (by omega)]) (a, s) ⟨by simp, Only.refl _ _, by simpa [cnk, sm] using hc⟩
  exact ⟨b.2, q, i2, i3⟩
/-- a model's row of a sound -/
def MS (s : u_S) (o : u_O) (l f m st : Int) : Prop := rd s o 0 = l ∧ rd s o 1 = f ∧ rd s o 2 = m ∧ rd s o 3 = st
theorem e_heard (hr : MR s A) (hw : WL A l) (h0 : 0 ≤ l) (h1 : l ≤ 3) (hto : 0 ≤ A 136 ∧ A 136 ≤ 6) {o r : u_O} (hl : alen r = 4) (h : MS s r l f m st) (hs : 0 ≤ st ∧ st ≤ 1000) (hm : -40 ≤ m ∧ m ≤ 40) (t1 : -1 ≤ t) (t2 : t < 2147483648) : f_X11_heard o r t s = some (HRD A l f m st t, s) := by
  unfold f_X11_heard HRD
  obtain ⟨e0, e1, e2, e3⟩ := h
  rw [hl, gd_of (by omega) (by omega)]
  simp only [jn_eq]
  rw [e0, e1, e2, e3]
  by_cases c : t < st
  · rw [if_pos c, if_pos c, if_pos trivial]
  · rw [if_neg c, if_neg c, gd_of (by omega) (by omega), gd_of (by omega) (by omega), gd_of (by omega) (by omega), wr_of (x := t - st) (by omega) (by omega), e_formed hr hw o h0 h1 hto, bd_eq]
    by_cases c2 : SND A l f (t - st) = -1000
    · rw [if_pos c2, if_pos c2]
    · have := snd_b hw f (t - st)
      rw [if_neg c2, if_neg c2, gd_of (by omega) (by omega), wr_of (by omega) (by omega), e2]
theorem hrd_b {A : Int → Int} {l f m st t : Int} (hw : WL A l) (hm : -40 ≤ m ∧ m ≤ 40) : HRD A l f m st t = -1000 ∨ (-100 ≤ HRD A l f m st t ∧ HRD A l f m st t ≤ 100) := by
  by_cases z : st ≤ t ∧ t < st + totA A l f
  · have := hrd_in (m := m) hw z.1 z.2; right; omega
  · left; exact hrd_out hw z
theorem e_faultsAt (hr : MR s A) (hw : WL A l) (h0 : 0 ≤ l) (h1 : l ≤ 3) (hw2 : WL A l2) (h20 : 0 ≤ l2) (h21 : l2 ≤ 3) (hto : 0 ≤ A 136 ∧ A 136 ≤ 6) (hmt : 1 ≤ A 137) {o : u_O} (h : MS s (24, 5, 0) l f m st) (h2 : MS s (24, 6, 0) l2 f2 m2 st2) (hs : 0 ≤ st ∧ st ≤ 1000) (hm : -40 ≤ m ∧ m ≤ 40) (hs2 : 0 ≤ st2 ∧ st2 ≤ 1000) (hm2 : -40 ≤ m2 ∧ m2 ≤ 40) (t1 : 0 ≤ t) (t2 : t < 2147483648) : f_X11_faultsAt o t s = some (flt (A 137) (HRD A l f m st) (HRD A l2 f2 m2 st2) t, s) := by
  unfold f_X11_faultsAt flt
  have g1 : ∀ t, -1 ≤ t → t < 2147483648 → f_X11_heard o (a_Mo_upper o) t s = some (HRD A l f m st t, s) := fun t a b => e_heard (r := (24, 5, 0)) hr hw h0 h1 hto rfl h hs hm a b
  have g2 : ∀ t, -1 ≤ t → t < 2147483648 → f_X11_heard o (a_Mo_lower o) t s = some (HRD A l2 f2 m2 st2 t, s) := fun t a b => e_heard (r := (24, 6, 0)) hr hw2 h20 h21 hto rfl h2 hs2 hm2 a b
  have bu := hrd_b (f := f) (st := st) (t := t) hw hm
  have bw := hrd_b (f := f2) (st := st2) (t := t) hw2 hm2
  have bu' := hrd_b (f := f) (st := st) (t := t - 1) hw hm
  have bw' := hrd_b (f := f2) (st := st2) (t := t - 1) hw2 hm2
  have z1 : t = 0 → HRD A l f m st (t - 1) = -1000 := fun e => hrd_out hw (by omega)
  have z2 : t = 0 → HRD A l2 f2 m2 st2 (t - 1) = -1000 := fun e => hrd_out hw2 (by omega)
  rw [g1 t (by omega) t2, bd_eq, g2 t (by omega) t2, bd_eq]
  generalize HRD A l f m st t = u at *
  generalize HRD A l2 f2 m2 st2 t = w at *
  have y1 := g1 (t - 1) (by omega) (by omega)
  have y2 := g2 (t - 1) (by omega) (by omega)
  generalize HRD A l f m st (t - 1) = u' at *
  generalize HRD A l2 f2 m2 st2 (t - 1) = w' at *
  by_cases cu : u = -1000
  · rw [if_pos cu, if_pos (Or.inl cu)]
  by_cases cw : w = -1000
  · rw [if_neg cu, if_pos cw, if_pos (Or.inr cw)]
  have hmod : Int.tmod t (A 137) = t % A 137 := Int.tmod_eq_emod_of_nonneg t1
  rw [if_neg cu, if_neg cw, if_neg (by omega)]
  rw [wr_of (x := u - w) (by omega) (by omega), e_left2 (a := u - w) (b := 7) (by omega) (by omega) (by omega) (by omega), bd_eq, gd_of (i := 137) (n := 145) (by omega) (by omega), m_rd hr _ (i := 137) (by omega) (by omega), nz_of (show A 137 ≠ 0 by omega), j_harsh, j_cross, wr_of (x := t - 1) (by omega) (by omega), j_ahead _ y1 z1, j_ahead _ y2 z2, hmod]
  have hl2 : ¬ u' = -1000 → ¬ w' = -1000 → ∀ s, f_X11_left (wr (u' - w')) 7 s = some ((u' - w') % 7, s) := fun a b s => by rw [wr_of (by omega) (by omega), e_left2 (by omega) (by omega) (by omega) (by omega)]
  have i1 : ∀ P Q : Prop, [Decidable P] → [Decidable Q] → ior (if P then 1 else 0) (if Q then 2 else 0) = (if P then 1 else 0) + (if Q then 2 else 0) := by
    intro P Q _ _
    split <;> split <;> first | exact ior_00 | exact ior_02 | exact ior_10 | exact ior_12
  rw [i1]
  generalize hF : (if t % A 137 = 0 ∧ harsh7 ((u - w) % 7) then (1 : Int) else 0) + (if u < w then 2 else 0) = F
  have hF4 : ior F 4 = F + 4 ∧ ior F 0 = F := by
    rw [← hF]
    split <;> split <;> first | exact ⟨ior_04, ior_00⟩ | exact ⟨ior_14, ior_10⟩ | exact ⟨ior_24, ior_20⟩ | exact ⟨ior_34, ior_30⟩
  by_cases c4 : u' = -1000
  · rw [if_pos c4, if_neg (fun z => z.1 c4), Int.add_zero]
  by_cases c5 : w' = -1000
  · rw [if_neg c4, if_pos c5, if_neg (fun z => z.2.1 c5), Int.add_zero]
  rw [if_neg c4, if_neg c5, j_alike]
  simp only [jn_eq, hl2 c4 c5, bd_eq, hF4.1, hF4.2]
  repeat' split
  all_goals first | rfl | omega | (congr 2; omega)
def cto (o : u_O) : Prop := o = (24, 7, 0)
def w3 (s : u_S) (a b c : Int) : u_S := wt (wt (wt s (24, 7, 0) 0 a) (24, 7, 0) 1 b) (24, 7, 0) 2 c
theorem w3_only {s0 s : u_S} (h : Only cto s0 s) (a b c : Int) : Only cto s0 (w3 s a b c) := ((h.wt rfl _ _).wt rfl _ _).wt rfl _ _
theorem w3_0 (s : u_S) (a b c : Int) : rd (w3 s a b c) (24, 7, 0) 0 = wr a := by unfold w3; rw [rd_wt_k (by decide), rd_wt_k (by decide), rd_wt_same]
theorem w3_1 (s : u_S) (a b c : Int) : rd (w3 s a b c) (24, 7, 0) 1 = wr b := by unfold w3; rw [rd_wt_k (by decide), rd_wt_same]
theorem w3_2 (s : u_S) (a b c : Int) : rd (w3 s a b c) (24, 7, 0) 2 = wr c := by unfold w3; rw [rd_wt_same]
theorem L94 (m : Nat) (kx : u_S → Option (Int × u_S)) (o : u_O) (a b : Int) (s : u_S) : f_X11_countsAll_L94 (m + 4) kx o a b 0 s = kx (w3 s 0 0 0) := by
  simp (disch := omega) [f_X11_countsAll_L94, gd_of, wr_of, a_Mo_counted, w3]
theorem L135 (m : Nat) (kx : u_S → Option (Int × u_S)) (o : u_O) (a b x : Int) (s : u_S) : f_X11_countsAll_L135 (m + 4) kx o a b x 0 s = kx (w3 s (wr (rd s (24, 7, 0) 0 + bitk x 0)) (wr (rd s (24, 7, 0) 1 + bitk x 1)) (wr (rd s (24, 7, 0) 2 + bitk x 2))) := by
  simp (disch := omega) [f_X11_countsAll_L135, gd_of, wr_of, a_Mo_counted, rd_wt, bitk, w3]
theorem MS.keep {s s' : u_S} {o : u_O} {l f m st : Int} (h : MS s o l f m st) {P : u_O → Prop} (ho : Only P s s') (h1 : ¬ P o) : MS s' o l f m st := ⟨by rw [ho.rd h1]; exact h.1, by rw [ho.rd h1]; exact h.2.1, by rw [ho.rd h1]; exact h.2.2.1, by rw [ho.rd h1]; exact h.2.2.2⟩
theorem MR.keep {s s' : u_S} (h : MR s A) {P : u_O → Prop} (ho : Only P s s') (h1 : ¬ P (24, 0, 0)) : MR s' A := fun i a b => by rw [ho.rd h1]; exact h i a b
theorem e_countsAll (hr : MR s A) (hw : WL A l) (h0 : 0 ≤ l) (h1 : l ≤ 3) (hw2 : WL A l2) (h20 : 0 ≤ l2) (h21 : l2 ≤ 3) (hto : 0 ≤ A 136 ∧ A 136 ≤ 6) (hmt : 1 ≤ A 137) {o : u_O} (h : MS s (24, 5, 0) l f m st) (h2 : MS s (24, 6, 0) l2 f2 m2 st2) (hs : 0 ≤ st ∧ st ≤ 1000) (hm : -40 ≤ m ∧ m ≤ 40) (hs2 : 0 ≤ st2 ∧ st2 ≤ 1000) (hm2 : -40 ≤ m2 ∧ m2 ≤ 40) :
    ∃ s', f_X11_countsAll o s = some (0, s') ∧ Only cto s s' ∧ ∀ k, 0 ≤ k → k ≤ 2 → rd s' (24, 7, 0) k = cnk (flt (A 137) (HRD A l f m st) (HRD A l2 f2 m2 st2)) (max st st2) k (min (st + totA A l f) (st2 + totA A l2 f2) - max st st2).toNat := by
  unfold f_X11_countsAll
  have ht1 := tot_b hw f
  have ht2 := tot_b hw2 f2
  have hk : ∀ t, 0 ≤ flt (A 137) (HRD A l f m st) (HRD A l2 f2 m2 st2) t ∧ flt (A 137) (HRD A l f m st) (HRD A l2 f2 m2 st2) t ≤ 7 := fun t => flt_b _ _ _ t
  have hflt : ∀ s1, Only cto s s1 → ∀ t, 0 ≤ t → t < 2147483648 → f_X11_faultsAt o t s1 = some (flt (A 137) (HRD A l f m st) (HRD A l2 f2 m2 st2) t, s1) := fun s1 ho t a b => e_faultsAt (hr.keep ho (by simp [cto])) hw h0 h1 hw2 h20 h21 hto hmt (h.keep ho (by simp [cto])) (h2.keep ho (by simp [cto])) hs hm hs2 hm2 a b
  generalize flt (A 137) (HRD A l f m st) (HRD A l2 f2 m2 st2) = x at *
  have main : ∀ a e : Int, a = max st st2 → e = min (st + totA A l f) (st2 + totA A l2 f2) → ∃ s', f_X11_countsAll_L94 FU (fun s_5 => f_X11_countsAll_L117 FU (fun s_6 => some (0, s_6)) o e a s_5) o a e 0 s = some (0, s') ∧ Only cto s s' ∧ ∀ k, 0 ≤ k → k ≤ 2 → rd s' (24, 7, 0) k = cnk x (max st st2) k (min (st + totA A l f) (st2 + totA A l2 f2) - max st st2).toNat := by
    intro a e ha he
    rw [← ha, ← he]
    have ha0 : 0 ≤ a ∧ a ≤ 1000 := by omega
    have he0 : e ≤ 1080 := by omega
    rw [show FU = 99996 + 4 from rfl, L94]
    obtain ⟨b, q, i1, i2, i3⟩ := loop_relfu (fun n (b : Int × u_S) => f_X11_countsAll_L117 n (fun s_6 => some (0, s_6)) o e b.1 b.2) (fun i b => b.1 = a + i ∧ Only cto s b.2 ∧ ∀ k, 0 ≤ k → k ≤ 2 → rd b.2 (24, 7, 0) k = cnk x a k i) (fun b => some (0, b.2)) (e - a).toNat (by omega) (by
        intro i b n hi ⟨e1, e2, e3⟩
        obtain ⟨p, s1⟩ := b
        dsimp only at e1 e2 e3
        subst e1
        refine ⟨(wr (a + i + 1), w3 s1 (wr (rd s1 (24, 7, 0) 0 + bitk (x (a + i)) 0)) (wr (rd s1 (24, 7, 0) 1 + bitk (x (a + i)) 1)) (wr (rd s1 (24, 7, 0) 2 + bitk (x (a + i)) 2))), by dsimp only; rw [f_X11_countsAll_L117, if_pos (by omega), hflt s1 e2 _ (by omega) (by omega), bd_eq, show FU = 99996 + 4 from rfl, L135], by dsimp only; rw [wr_of (by omega) (by omega)]; omega, w3_only e2 _ _ _, ?_⟩
        intro k k0 k1
        have w := bit_b (hk (a + i)).1 (hk (a + i)).2 k0 k1
        have d := cnk_b hk (a := a) k0 k1 i
        have r := e3 k k0 k1
        dsimp only
        rw [cnk_succ]
        rcases (show k = 0 ∨ k = 1 ∨ k = 2 by omega) with rfl | rfl | rfl
        · rw [w3_0, r, wr_of (x := cnk x a 0 i + _) (by omega) (by omega), wr_of (by omega) (by omega)]
        · rw [w3_1, r, wr_of (x := cnk x a 1 i + _) (by omega) (by omega), wr_of (by omega) (by omega)]
        · rw [w3_2, r, wr_of (x := cnk x a 2 i + _) (by omega) (by omega), wr_of (by omega) (by omega)]) (by
        intro b n ⟨e1, e2, e3⟩
        obtain ⟨p, s1⟩ := b
        dsimp only at e1 e2 ⊢
        subst e1
        rw [f_X11_countsAll_L117, if_neg (by omega)]) (a, w3 s 0 0 0) ⟨by simp, w3_only (Only.refl _ s) _ _ _, by
          intro k k0 k1
          rcases (show k = 0 ∨ k = 1 ∨ k = 2 by omega) with rfl | rfl | rfl
          · dsimp only; rw [w3_0]; rfl
          · dsimp only; rw [w3_1]; rfl
          · dsimp only; rw [w3_2]; rfl⟩
    exact ⟨b.2, q, i2, i3⟩
  simp only [jn_eq, gd_of (i := 3) (n := 4) (show _ by omega) (show _ by omega), gd_of (i := 0) (n := 4) (show _ by omega) (show _ by omega), gd_of (i := 1) (n := 4) (show _ by omega) (show _ by omega), show a_Mo_upper o = (24, 5, 0) from rfl, show a_Mo_lower o = (24, 6, 0) from rfl, h.1, h.2.1, h.2.2.2, h2.1, h2.2.1, h2.2.2.2, e_lasts hr hw o h0 h1, e_lasts hr hw2 o h20 h21, bd_eq, ← tot_last A l f hw.1.1, ← tot_last A l2 f2 hw2.1.1, wr_of (x := st + totA A l f) (show _ by omega) (show _ by omega), wr_of (x := st2 + totA A l2 f2) (show _ by omega) (show _ by omega)]
  split <;> split <;> exact main _ _ (by omega) (by omega)
end COUNT
