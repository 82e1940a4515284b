/-! all (end, most), first -/
section FIRST
variable {s : u_S} {A : Int → Int} {B : Int → Int → Int} {N : Int}
theorem mxE_b (he : EB A B N) (hl : ∀ l, 0 ≤ l → l ≤ 3 → WL A l) : ∀ n : Nat, (n : Int) ≤ N → 0 ≤ mxE A B n ∧ mxE A B n ≤ 1080
  | 0, _ => by simp [mxE]
  | n + 1, h => by
    have h1 := mxE_b he hl n (by omega)
    have hb := he.2 n (by omega) (by omega)
    have ht := tot_b (hl _ hb.1.1 hb.1.2) (B n 1)
    show 0 ≤ max (mxE A B n) (B n 3 + totA A (B n 0) (B n 1)) ∧ max (mxE A B n) (B n 3 + totA A (B n 0) (B n 1)) ≤ 1080
    omega
theorem e_cend (hg : GR s A B N) (he : EB A B N) (hl : ∀ l, 0 ≤ l → l ≤ 3 → WL A l) : f_X0_end (17, 0, 0) s = some (mxE A B N.toNat, s) := by
  have hN := he.1
  unfold f_X0_end
  refine loop_fu (fun m (b : Int × Int) => f_X0_end_L4 m (fun v1_1 s_1 => some (v1_1, s_1)) (17, 0, 0) b.1 b.2 s) (fun j => (mxE A B j, (j : Int))) _ N.toNat (by omega) (fun j m hj => ?_) (fun m => ?_)
  · have h1 := hg.nat (i := j) (by omega)
    have hb := he.2 j (by omega) (by omega)
    dsimp only
    rw [f_X0_end_L4, hg.1, if_pos (by omega), gd_of (by omega) (by omega), show e_Sound (a_Chorus_items (17, 0, 0)) (j : Int) = (14, 2 + j, 0) from rfl, e_end h1 (hl _ hb.1.1 hb.1.2) hb.2.2, bd_eq, e_max, bd_eq, wr_of (by omega) (by omega)]
    rfl
  · dsimp only
    rw [f_X0_end_L4, hg.1, if_neg (by omega)]
theorem e_mend (hm : MR s A) (hw : WF A) : f_X11_end oM s = some (mxE A (entA A) (A 84).toNat, s) := by
  have hN := hw.2.1.1
  unfold f_X11_end
  refine loop_fu (fun m (b : Int × Int) => f_X11_end_L4 m (fun v1_1 s_1 => some (v1_1, s_1)) oM b.1 b.2 s) (fun j => (mxE A (entA A) j, (j : Int))) _ (A 84).toNat (by omega) (fun j m hj => ?_) (fun m => ?_)
  · have hb := hw.2.1.2 j (by omega) (by omega)
    have hl := hw.1 _ hb.1.1 hb.1.2
    have hr := fun k a b => e_of hm oM (e := j) (by omega) (by omega) (k := k) a b
    have ht := tot_b hl (entA A j 1)
    have hx := mxE_b hw.EB hw.1 j (by omega)
    have hlast := tot_last A (entA A j 0) (entA A j 1) hl.1.1
    dsimp only
    rw [f_X11_end_L4, gd_of (by omega) (by omega), m_rd hm _ (by omega) (by omega), if_pos (by omega), hr 3 (by omega) (by omega), bd_eq, hr 0 (by omega) (by omega), bd_eq, hr 1 (by omega) (by omega), bd_eq, e_lasts hm hl oM hb.1.1 hb.1.2, bd_eq, jn_eq, wr_of (x := entA A j 3 + lastA A (entA A j 0) (entA A j 1)) (by omega) (by omega), wr_of (x := (j : Int) + 1) (by omega) (by omega), ← hlast]
    show _ = f_X11_end_L4 m (fun v1_1 s_1 => some (v1_1, s_1)) oM (max (mxE A (entA A) j) (entA A j 3 + totA A (entA A j 0) (entA A j 1))) ((j + 1 : Nat) : Int) s
    by_cases h : entA A j 3 + totA A (entA A j 0) (entA A j 1) ≤ mxE A (entA A) j
    · rw [if_pos h, show max (mxE A (entA A) j) (entA A j 3 + totA A (entA A j 0) (entA A j 1)) = mxE A (entA A) j by omega]; rfl
    · rw [if_neg h, show max (mxE A (entA A) j) (entA A j 3 + totA A (entA A j 0) (entA A j 1)) = entA A j 3 + totA A (entA A j 0) (entA A j 1) by omega]; rfl
  · dsimp only
    rw [f_X11_end_L4, gd_of (by omega) (by omega), m_rd hm _ (by omega) (by omega), if_neg (by omega)]
theorem hc_b (t : Int) (n : Nat) : 0 ≤ sm (hcA A B t) n ∧ sm (hcA A B t) n ≤ n := by
  have h1 := sm_ge (f := hcA A B t) (b := 0) (n := n) (fun i _ _ => by unfold hcA; split <;> omega)
  have h2 := sm_le (f := hcA A B t) (b := 1) (n := n) (fun i _ _ => by unfold hcA; split <;> omega)
  omega
theorem mxH_b (hN : 0 ≤ N ∧ N ≤ 10) : ∀ n : Nat, 0 ≤ mxH A B N n ∧ mxH A B N n ≤ 10
  | 0 => by simp [mxH]
  | n + 1 => by
    have h1 := mxH_b hN n
    have h2 := hc_b (A := A) (B := B) n N.toNat
    show 0 ≤ max (mxH A B N n) (sm (hcA A B n) N.toNat) ∧ max (mxH A B N n) (sm (hcA A B n) N.toNat) ≤ 10
    omega
theorem e_cmost (hg : GR s A B N) (he : EB A B N) (hl : ∀ l, 0 ≤ l → l ≤ 3 → WL A l) : f_X0_mostAtOnce (17, 0, 0) s = some (mxH A B N (mxE A B N.toNat).toNat, s) := by
  have hN := he.1
  have hE := mxE_b he hl N.toNat (by omega)
  unfold f_X0_mostAtOnce
  rw [e_cend hg he hl, bd_eq]
  generalize hEE : mxE A B N.toNat = E at hE ⊢
  refine loop_fu (fun m (b : Int × Int) => f_X0_mostAtOnce_L9 m (fun v2_1 s_2 => some (v2_1, s_2)) (17, 0, 0) E b.1 b.2 s) (fun j => (mxH A B N j, (j : Int))) _ E.toNat (by omega) (fun t m ht => ?_) (fun m => ?_)
  · dsimp only
    rw [f_X0_mostAtOnce_L9, if_pos (by omega)]
    have q : f_X0_mostAtOnce_L20 FU (fun v4_1 s_4 => bd (f_J9_max_7cf53 (mxH A B N t) v4_1 s_4) (fun r_2 s_5 => f_X0_mostAtOnce_L9 m (fun v2_1 s_2 => some (v2_1, s_2)) (17, 0, 0) E r_2 (wr ((t : Int) + 1)) s_5)) (17, 0, 0) E (mxH A B N t) t 0 0 s = bd (f_J9_max_7cf53 (mxH A B N t) (sm (hcA A B t) N.toNat) s) (fun r_2 s_5 => f_X0_mostAtOnce_L9 m (fun v2_1 s_2 => some (v2_1, s_2)) (17, 0, 0) E r_2 (wr ((t : Int) + 1)) s_5) := by
      refine loop_fu (fun m' (b : Int × Int) => f_X0_mostAtOnce_L20 m' (fun v4_1 s_4 => bd (f_J9_max_7cf53 (mxH A B N t) v4_1 s_4) (fun r_2 s_5 => f_X0_mostAtOnce_L9 m (fun v2_1 s_2 => some (v2_1, s_2)) (17, 0, 0) E r_2 (wr ((t : Int) + 1)) s_5)) (17, 0, 0) E (mxH A B N t) t b.1 b.2 s) (fun j => (sm (hcA A B t) j, (j : Int))) _ N.toNat (by omega) (fun j m' hj => ?_) (fun m' => ?_)
      · have h1 := hg.nat (i := j) (by omega)
        have hb := he.2 j (by omega) (by omega)
        have h2 := hc_b (A := A) (B := B) t j
        dsimp only
        rw [f_X0_mostAtOnce_L20, hg.1, if_pos (by omega), gd_of (by omega) (by omega), show e_Sound (a_Chorus_items (17, 0, 0)) (j : Int) = (14, 2 + j, 0) from rfl, e_isHeardAt h1 (hl _ hb.1.1 hb.1.2) hb.2.2.1 hb.2.2.2 (by omega) (by omega), bd_eq, jn_eq, wr_of (x := (j : Int) + 1) (by omega) (by omega)]
        show _ = f_X0_mostAtOnce_L20 m' _ (17, 0, 0) E (mxH A B N t) t (sm (hcA A B t) j + hcA A B t j) ((j + 1 : Nat) : Int) s
        by_cases h : B j 3 ≤ (t : Int) ∧ (t : Int) < B j 3 + totA A (B j 0) (B j 1)
        · rw [if_pos h, if10, show hcA A B t j = 1 from if_pos h]
          dsimp only
          rw [wr_of (x := sm (hcA A B t) j + 1) (by omega) (by omega)]; rfl
        · rw [if_neg h, if00, show hcA A B t j = 0 from if_neg h, Int.add_zero]; rfl
      · dsimp only
        rw [f_X0_mostAtOnce_L20, hg.1, if_neg (by omega)]
    rw [q, e_max, bd_eq, wr_of (by omega) (by omega)]
    rfl
  · dsimp only
    rw [f_X0_mostAtOnce_L9, if_neg (by omega)]
theorem e_mmost (hm : MR s A) (hw : WF A) : f_X11_most oM s = some (mxH A (entA A) (A 84) (mxE A (entA A) (A 84).toNat).toNat, s) := by
  have hN := hw.2.1.1
  have hE := mxE_b hw.EB hw.1 (A 84).toNat (by omega)
  have hend := e_mend hm hw
  unfold f_X11_most
  generalize hEE : mxE A (entA A) (A 84).toNat = E at hE hend ⊢
  refine loop_fu (fun m (b : Int × Int) => f_X11_most_L4 m (fun v1_1 s_1 => some (v1_1, s_1)) oM b.1 b.2 s) (fun j => (mxH A (entA A) (A 84) j, (j : Int))) _ E.toNat (by omega) (fun t m ht => ?_) (fun m => ?_)
  · dsimp only
    rw [f_X11_most_L4, hend, bd_eq, if_pos (by omega)]
    have q : ∀ kx : Int → u_S → Option (Int × u_S), f_X11_most_L17 FU kx oM (mxH A (entA A) (A 84) t) t 0 0 s = kx (sm (hcA A (entA A) t) (A 84).toNat) s := by
      intro kx
      refine loop_fu (fun m' (b : Int × Int) => f_X11_most_L17 m' kx oM (mxH A (entA A) (A 84) t) t b.1 b.2 s) (fun j => (sm (hcA A (entA A) t) j, (j : Int))) _ (A 84).toNat (by omega) (fun j m' hj => ?_) (fun m' => ?_)
      · have hb := hw.2.1.2 j (by omega) (by omega)
        have hl := hw.1 _ hb.1.1 hb.1.2
        have hr := fun k a b => e_of hm oM (e := j) (by omega) (by omega) (k := k) a b
        have htt := tot_b hl (entA A j 1)
        have hlast := tot_last A (entA A j 0) (entA A j 1) hl.1.1
        have h2 := hc_b (A := A) (B := entA A) t j
        dsimp only
        rw [f_X11_most_L17, gd_of (by omega) (by omega), m_rd hm _ (by omega) (by omega), if_pos (by omega), hr 3 (by omega) (by omega), bd_eq]
        simp only [jn_eq]
        rw [hr 3 (by omega) (by omega), bd_eq, hr 0 (by omega) (by omega), bd_eq, hr 1 (by omega) (by omega), bd_eq, e_lasts hm hl oM hb.1.1 hb.1.2, bd_eq, wr_of (x := entA A j 3 + lastA A (entA A j 0) (entA A j 1)) (by omega) (by omega), wr_of (x := (j : Int) + 1) (by omega) (by omega), ← hlast, wr_of (x := sm (hcA A (entA A) t) j + 1) (by omega) (by omega), wr_of (x := sm (hcA A (entA A) t) j + 0) (by omega) (by omega)]
        show _ = f_X11_most_L17 m' kx oM (mxH A (entA A) (A 84) t) t (sm (hcA A (entA A) t) j + hcA A (entA A) t j) ((j + 1 : Nat) : Int) s
        by_cases h1 : (t : Int) < entA A j 3
        · rw [if_pos h1, show hcA A (entA A) t j = 0 from if_neg (by omega)]; rfl
        · rw [if_neg h1]
          by_cases h3 : (t : Int) < entA A j 3 + totA A (entA A j 0) (entA A j 1)
          · rw [if_pos h3, show hcA A (entA A) t j = 1 from if_pos (by omega)]; rfl
          · rw [if_neg h3, show hcA A (entA A) t j = 0 from if_neg (by omega)]; rfl
      · dsimp only
        rw [f_X11_most_L17, gd_of (by omega) (by omega), m_rd hm _ (by omega) (by omega), if_neg (by omega)]
    rw [q, jn_eq, wr_of (x := (t : Int) + 1) (by omega) (by omega)]
    show _ = f_X11_most_L4 m (fun v1_1 s_1 => some (v1_1, s_1)) oM (max (mxH A (entA A) (A 84) t) (sm (hcA A (entA A) t) (A 84).toNat)) ((t + 1 : Nat) : Int) s
    by_cases h : sm (hcA A (entA A) t) (A 84).toNat ≤ mxH A (entA A) (A 84) t
    · rw [if_pos h, show max (mxH A (entA A) (A 84) t) (sm (hcA A (entA A) t) (A 84).toNat) = mxH A (entA A) (A 84) t by omega]; rfl
    · rw [if_neg h, show max (mxH A (entA A) (A 84) t) (sm (hcA A (entA A) t) (A 84).toNat) = sm (hcA A (entA A) t) (A 84).toNat by omega]; rfl
  · dsimp only
    rw [f_X11_most_L4, hend, bd_eq, if_neg (by omega)]
theorem call_all (w : Int) : Call (f_X10_all oF w) (f_X11_all oM w) := by
  intro A H n T tl c hw
  have hn := hw.1.2.1.1
  have hE := hw.1.EB
  have hmt := hw.1.2.2.2.2.2.1.1
  by_cases h1 : 0 ≤ w ∧ w ≤ 5
  · refine at_ask (if w = 4 then mxE A (entA A) (A 84).toNat else if w = 5 then mxH A (entA A) (A 84) (mxE A (entA A) (A 84).toNat).toNat else allW A (entA A) (A 84) w (A 84).toNat) hw (fun s hs => ?_) (fun s hs => ?_)
    · obtain ⟨s1, a1, a2, a3⟩ := e_gatherA hs.1 hw.1
      have hg : GR s1 A (entA A) (A 84) := a3
      unfold f_X10_all
      rw [e_within, bd_eq, if_pos h1, if10, a1, bd_eq, show a_FP_chorus oF = (17, 0, 0) from rfl, show a_FP_faults oF = (16, 0, 0) from rfl]
      by_cases w4 : w = 4
      · rw [if_pos w4, if_pos w4, e_cend hg hE hw.1.1, bd_eq]
        exact ⟨s1, rfl, a2.mono gob_csc⟩
      · rw [if_neg w4, if_neg w4]
        by_cases w5 : w = 5
        · rw [if_pos w5, if_pos w5, e_cmost hg hE hw.1.1, bd_eq]
          exact ⟨s1, rfl, a2.mono gob_csc⟩
        · have r6 : rd s1 (a_FP_plan oF) 6 = A 137 := by
            rw [show a_FP_plan oF = (1, 0, 0) from rfl, a2.rd (by simp [gob, sndo])]
            exact hs.1.2.2.1.2.2.1
          obtain ⟨s2, b1, b2, b3⟩ := e_countFaults hg hE hw.1.1 hmt
          have q0 := allS_b (k := 0) (n := (A 84).toNat) hE hw.1.1 (by omega) (by omega) (by omega)
          have q1 := allS_b (k := 1) (n := (A 84).toNat) hE hw.1.1 (by omega) (by omega) (by omega)
          have q2 := allS_b (k := 2) (n := (A 84).toNat) hE hw.1.1 (by omega) (by omega) (by omega)
          rw [if_neg w5, if_neg w5, r6, b1, bd_eq, e_number b3 (by omega) (by omega) (by omega) h1.1 (by omega), bd_eq, allW_of h1.1 (by omega)]
          exact ⟨s2, rfl, (a2.mono gob_csc).trans (b2.mono flo_csc)⟩
    · unfold f_X11_all f_X11_allNow
      rw [e_in, bd_eq, if_pos h1, if10]
      by_cases w3 : w ≤ 3
      · obtain ⟨s1, a1, a2⟩ := e_mAll hs.1 hw.1 h1.1 w3
        rw [if_pos w3, a1, bd_eq, if_neg (by omega), if_neg (by omega)]
        exact ⟨s1, rfl, a2.mono mst_msc⟩
      · rw [if_neg w3]
        by_cases w4 : w = 4
        · rw [if_pos w4, if_pos w4, e_mend hs.1 hw.1, bd_eq, bd_eq]
          exact ⟨s, rfl, Only.refl _ _⟩
        · rw [if_neg w4, if_neg w4, if_pos (by omega), e_mmost hs.1 hw.1, bd_eq, bd_eq]
          exact ⟨s, rfl, Only.refl _ _⟩
  · refine at_no (r := -2) (by omega) hw (fun s hs => ?_) (fun s hs => ?_)
    · unfold f_X10_all
      rw [e_within, bd_eq, if_neg h1, if00]
    · unfold f_X11_all
      rw [e_in, bd_eq, if_neg h1, if00]
end FIRST
