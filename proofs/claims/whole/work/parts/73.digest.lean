/-! digest -/
def dst (h v : Int) : Int := wl ((wl (31 * h)) + v)
def dF (f : Nat → Int) : Nat → Int → Int
  | 0, h => h
  | i + 1, h => dst (dF f i h) (f i)
def tdV (A : Int → Int) (n tl : Int) (c : Int → Int) (w : Int) : Int := if w = 0 then c 0 else if w = 1 then c 1 else if w = 2 then c 2 else if w = 3 then tl else if w = 4 then A 84 else if w = 5 then A 135 else if w = 6 then A 136 else if w = 7 then A 137 else if w = 8 then A 138 else if w = 9 then A 139 else n
def ntV (A : Int → Int) (l i w : Int) : Int := if w = 0 then stpA A l i else if w = 1 then tckA A l i else if w = 2 then sm (tckA A l) i.toNat else answA A l i
def enV (A : Int → Int) (e w : Int) : Int := if w = 0 then entA A e 0 else if w = 1 then entA A e 1 else if w = 2 then entA A e 3 else if w = 3 then entA A e 4 else if w = 4 then lastA A (entA A e 0) (entA A e 1) else entA A e 2 + 21
def alV (A : Int → Int) (w : Int) : Int := if w = 4 then mxE A (entA A) (A 84).toNat else if w = 5 then mxH A (entA A) (A 84) (mxE A (entA A) (A 84).toNat).toNat else allW A (entA A) (A 84) w (A 84).toNat
def dgL (A : Int → Int) (l h : Int) : Int := dF (fun k => ntV A l ((k / 4 : Nat) : Int) ((k % 4 : Nat) : Int)) (4 * (cntA A l).toNat) (dst (dst h (lenA A l)) (cntA A l))
def dgLs (A : Int → Int) : Nat → Int → Int
  | 0, h => h
  | j + 1, h => dgL A j (dgLs A j h)
section DIGEST
variable {s : u_S} {A : Int → Int} {H : Int → Int → Int} {n : Int} {T : Int → Int} {tl : Int} {c : Int → Int}
theorem e_ctold (hs : CS s A H n T tl c) {w : Int} (w0 : 0 ≤ w) (w1 : w ≤ 10) : f_X10_told oF w s = some (tdV A n tl c w, s) := by
  have c0 : ∀ k : Int, 0 ≤ k → k ≤ 2 → rd s oF (4 + k) = c k := hs.2.2.1
  rcases (show w = 0 ∨ w = 1 ∨ w = 2 ∨ w = 3 ∨ w = 4 ∨ w = 5 ∨ w = 6 ∨ w = 7 ∨ w = 8 ∨ w = 9 ∨ w = 10 by omega) with rfl | rfl | rfl | rfl | rfl | rfl | rfl | rfl | rfl | rfl | rfl
  · show some (rd s oF (4 + 0), s) = some (c 0, s); rw [c0 0 (by omega) (by omega)]
  · show some (rd s oF (4 + 1), s) = some (c 1, s); rw [c0 1 (by omega) (by omega)]
  · show some (rd s oF (4 + 2), s) = some (c 2, s); rw [c0 2 (by omega) (by omega)]
  · show some (rd s (12, 0, 0) 4, s) = some (tl, s); rw [hs.2.1.1]
  · show some (rd s (6, 0, 0) 1, s) = some (A 84, s); rw [hs.1.2.1.1]
  · show some (rd s (1, 0, 0) 4, s) = some (A 135, s); rw [hs.1.2.2.1.1]
  · show some (rd s (1, 0, 0) 5, s) = some (A 136, s); rw [hs.1.2.2.1.2.1]
  · show some (rd s (1, 0, 0) 6, s) = some (A 137, s); rw [hs.1.2.2.1.2.2.1]
  · show some (rd s (1, 0, 0) 7, s) = some (A 138, s); rw [hs.1.2.2.1.2.2.2]
  · show some (rd s (1, 0, 0) 3, s) = some (A 139, s); rw [hs.1.2.2.2.1]
  · show some (rd s (10, 0, 0) 2, s) = some (n, s); rw [hs.2.2.2.1]
theorem e_mtold (hs : MT s A H n T tl c) {w : Int} (w0 : 0 ≤ w) (w1 : w ≤ 10) : f_X11_toldOf oM w s = some (tdV A n tl c w, s) := by
  unfold f_X11_toldOf
  rcases (show w = 0 ∨ w = 1 ∨ w = 2 ∨ w = 3 ∨ w = 4 ∨ w = 5 ∨ w = 6 ∨ w = 7 ∨ w = 8 ∨ w = 9 ∨ w = 10 by omega) with rfl | rfl | rfl | rfl | rfl | rfl | rfl | rfl | rfl | rfl | rfl
  · rw [if_pos (by omega), gd_of (by omega) (by omega), show a_Mo_refused oM = (24, 4, 0) from rfl, hs.2.2.1 0 (by omega) (by omega)]; rfl
  · rw [if_pos (by omega), gd_of (by omega) (by omega), show a_Mo_refused oM = (24, 4, 0) from rfl, hs.2.2.1 1 (by omega) (by omega)]; rfl
  · rw [if_pos (by omega), gd_of (by omega) (by omega), show a_Mo_refused oM = (24, 4, 0) from rfl, hs.2.2.1 2 (by omega) (by omega)]; rfl
  · rw [if_neg (by omega), if_pos rfl, hs.2.1.1]; rfl
  · rw [if_neg (by omega), if_neg (by omega), if_pos rfl, gd_of (by omega) (by omega), m_rd hs.1 _ (by omega) (by omega)]; rfl
  · rw [if_neg (by omega), if_neg (by omega), if_neg (by omega), if_pos (by omega), wr_of (x := 135 + 5) (by omega) (by omega), wr_of (by omega) (by omega), gd_of (by omega) (by omega), m_rd hs.1 _ (by omega) (by omega)]; rfl
  · rw [if_neg (by omega), if_neg (by omega), if_neg (by omega), if_pos (by omega), wr_of (x := 135 + 6) (by omega) (by omega), wr_of (by omega) (by omega), gd_of (by omega) (by omega), m_rd hs.1 _ (by omega) (by omega)]; rfl
  · rw [if_neg (by omega), if_neg (by omega), if_neg (by omega), if_pos (by omega), wr_of (x := 135 + 7) (by omega) (by omega), wr_of (by omega) (by omega), gd_of (by omega) (by omega), m_rd hs.1 _ (by omega) (by omega)]; rfl
  · rw [if_neg (by omega), if_neg (by omega), if_neg (by omega), if_pos (by omega), wr_of (x := 135 + 8) (by omega) (by omega), wr_of (by omega) (by omega), gd_of (by omega) (by omega), m_rd hs.1 _ (by omega) (by omega)]; rfl
  · rw [if_neg (by omega), if_neg (by omega), if_neg (by omega), if_neg (by omega), if_pos rfl, gd_of (by omega) (by omega), m_rd hs.1 _ (by omega) (by omega)]; rfl
  · rw [if_neg (by omega), if_neg (by omega), if_neg (by omega), if_neg (by omega), if_neg (by omega), hs.2.2.2.1]; rfl
theorem e_cnoteOf (hs : CP s 0 A) (hw : WF A) {l i w : Int} (h1 : 0 ≤ l ∧ l ≤ 3) (h2 : 0 ≤ i ∧ i < cntA A l) (h3 : 0 ≤ w ∧ w ≤ 3) : f_X10_noteOf oF l i w s = some (ntV A l i w, s) := by
  have hl := hw.1 l h1.1 h1.2
  have hr := hs.1 l h1.1 h1.2
  unfold f_X10_noteOf ntV
  rw [e_isLine, bd_eq, if_pos h1, jn_eq, if10, gd_of (by omega) (by omega), o_pline, e_has1 hr hl h2.1 h2.2, bd_eq, if10, e_within, bd_eq, if_pos h3, if10, gd_of (by omega) (by omega)]
  by_cases w0 : w = 0
  · rw [if_pos w0, if_pos w0, e_stepOf hr hl h2.1 h2.2, bd_eq]
  rw [if_neg w0, if_neg w0]
  by_cases w1 : w = 1
  · rw [if_pos w1, if_pos w1, e_ticksOf hr hl h2.1 h2.2, bd_eq]
  rw [if_neg w1, if_neg w1]
  by_cases w2 : w = 2
  · rw [if_pos w2, if_pos w2, e_tickBefore hr hl h2.1, bd_eq, show min i (cntA A l) = i by omega]
  rw [if_neg w2, if_neg w2, show rd s (a_FP_plan oF) 4 = A 135 from hs.2.2.1.1, show rd s (a_FP_plan oF) 5 = A 136 from hs.2.2.1.2.1, e_formedStep hr hl h2.1 h2.2 hw.2.2.2.2.1, bd_eq]
  rfl
theorem e_mnoteOf (hs : MR s A) (hw : WF A) {l i w : Int} (h1 : 0 ≤ l ∧ l ≤ 3) (h2 : 0 ≤ i ∧ i < cntA A l) : f_X11_noteNow4 oM l i w s = some (ntV A l i w, s) := by
  have hl := hw.1 l h1.1 h1.2
  have hi : i < 10 := by have := hl.1; omega
  unfold f_X11_noteNow4 ntV
  by_cases w0 : w = 0
  · rw [if_pos w0, if_pos w0, e_plain hs oM h1.1 h1.2 h2.1 hi, bd_eq]
  rw [if_neg w0, if_neg w0]
  by_cases w1 : w = 1
  · rw [if_pos w1, if_pos w1, e_ticks hs oM h1.1 h1.2 h2.1 hi, bd_eq]
  rw [if_neg w1, if_neg w1]
  by_cases w2 : w = 2
  · rw [if_pos w2, if_pos w2, e_begin hs hl oM h1.1 h1.2 h2.1 (by omega), bd_eq]
  rw [if_neg w2, if_neg w2, e_manswered hs hl oM h1.1 h1.2 h2.1 h2.2 hw.2.2.2.2.1, bd_eq]
theorem e_centryV (hs : CP s 0 A) (hw : WF A) {e w : Int} (h1 : 0 ≤ e ∧ e < A 84) (h3 : 0 ≤ w ∧ w ≤ 5) : f_X10_entry oF e w s = some (enV A e w, s) := by
  have hn := hw.2.1.1
  have oE : a_Plan_entries (a_FP_plan oF) = (6, 0, 0) := rfl
  have oI : e_Entry (a_Entries_items (a_Plan_entries (a_FP_plan oF))) e = (8, 0, e.toNat) := rfl
  have hb := hw.2.1.2 e h1.1 h1.2
  have hr := fun k a b => hs.2.1.2 e k h1.1 h1.2 a b
  unfold f_X10_entry enV
  rw [oI, oE, e_chas hs.2.1 hn, bd_eq, if_pos h1, jn_eq, if10, e_within, bd_eq, if_pos h3, if10, gd_of (by omega) (by omega), hr 0 (by omega) (by omega), hr 1 (by omega) (by omega), hr 2 (by omega) (by omega), hr 3 (by omega) (by omega), hr 4 (by omega) (by omega)]
  by_cases w0 : w = 0
  · rw [if_pos w0, if_pos w0]
  rw [if_neg w0, if_neg w0]
  by_cases w1 : w = 1
  · rw [if_pos w1, if_pos w1]
  rw [if_neg w1, if_neg w1]
  by_cases w2 : w = 2
  · rw [if_pos w2, if_pos w2]
  rw [if_neg w2, if_neg w2]
  by_cases w3 : w = 3
  · rw [if_pos w3, if_pos w3]
  rw [if_neg w3, if_neg w3]
  by_cases w4 : w = 4
  · rw [if_pos w4, if_pos w4, show a_FP_plan oF = (1, 0, 0) from rfl, e_lengthOf hs.1 hw.1 hb.1.1 hb.1.2, bd_eq]
  rw [if_neg w4, if_neg w4, wr_of (by omega) (by omega)]
theorem e_mentryV (hs : MR s A) (hw : WF A) {e w : Int} (h1 : 0 ≤ e ∧ e < A 84) (h3 : 0 ≤ w ∧ w ≤ 5) : f_X11_entryNow oM e w s = some (enV A e w, s) := by
  have hn := hw.2.1.1
  have hb := hw.2.1.2 e h1.1 h1.2
  have hr := fun k a b => e_of hs oM h1.1 (show e < 10 by omega) (k := k) a b
  unfold f_X11_entryNow enV
  by_cases w0 : w = 0
  · rw [if_pos (by omega), if_pos w0, w0, hr 0 (by omega) (by omega), bd_eq]
  by_cases w1 : w = 1
  · rw [if_pos (by omega), if_neg w0, if_pos w1, w1, hr 1 (by omega) (by omega), bd_eq]
  rw [if_neg (by omega), if_neg w0, if_neg w1]
  by_cases w2 : w = 2
  · rw [if_pos w2, if_pos w2, hr 3 (by omega) (by omega), bd_eq]
  rw [if_neg w2, if_neg w2]
  by_cases w3 : w = 3
  · rw [if_pos w3, if_pos w3, hr 4 (by omega) (by omega), bd_eq]
  rw [if_neg w3, if_neg w3]
  by_cases w4 : w = 4
  · rw [if_pos w4, if_pos w4, hr 0 (by omega) (by omega), bd_eq, hr 1 (by omega) (by omega), bd_eq, e_lasts hs (hw.1 _ hb.1.1 hb.1.2) oM hb.1.1 hb.1.2, bd_eq]
  rw [if_neg w4, if_neg w4, hr 2 (by omega) (by omega), bd_eq, wr_of (by omega) (by omega)]
theorem e_callV (hs : CP s 0 A) (hw : WF A) {w : Int} (h1 : 0 ≤ w ∧ w ≤ 5) : ∃ s', f_X10_all oF w s = some (alV A w, s') ∧ Only csc s s' := by
  have hn := hw.2.1.1
  have hE := hw.EB
  have hmt := hw.2.2.2.2.2.1.1
  obtain ⟨s1, a1, a2, a3⟩ := e_gatherA hs hw
  have hg : GR s1 A (entA A) (A 84) := a3
  unfold f_X10_all alV
  rw [e_within, bd_eq, if_pos h1, if10, a1, bd_eq, show a_FP_chorus oF = (17, 0, 0) from rfl, show a_FP_faults oF = (16, 0, 0) from rfl]
  by_cases w4 : w = 4
  · rw [if_pos w4, if_pos w4, e_cend hg hE hw.1, bd_eq]
    exact ⟨s1, rfl, a2.mono gob_csc⟩
  · rw [if_neg w4, if_neg w4]
    by_cases w5 : w = 5
    · rw [if_pos w5, if_pos w5, e_cmost hg hE hw.1, bd_eq]
      exact ⟨s1, rfl, a2.mono gob_csc⟩
    · have r6 : rd s1 (a_FP_plan oF) 6 = A 137 := by
        rw [show a_FP_plan oF = (1, 0, 0) from rfl, a2.rd (by simp [gob, sndo])]
        exact hs.2.2.1.2.2.1
      obtain ⟨s2, b1, b2, b3⟩ := e_countFaults hg hE hw.1 hmt
      have q0 := allS_b (k := 0) (n := (A 84).toNat) hE hw.1 (by omega) (by omega) (by omega)
      have q1 := allS_b (k := 1) (n := (A 84).toNat) hE hw.1 (by omega) (by omega) (by omega)
      have q2 := allS_b (k := 2) (n := (A 84).toNat) hE hw.1 (by omega) (by omega) (by omega)
      rw [if_neg w5, if_neg w5, r6, b1, bd_eq, e_number b3 (by omega) (by omega) (by omega) h1.1 (by omega), bd_eq, allW_of h1.1 (by omega)]
      exact ⟨s2, rfl, (a2.mono gob_csc).trans (b2.mono flo_csc)⟩
theorem e_mallV (hs : MR s A) (hw : WF A) {w : Int} (h1 : 0 ≤ w ∧ w ≤ 5) : ∃ s', f_X11_allNow oM w s = some (alV A w, s') ∧ Only mst s s' := by
  unfold f_X11_allNow alV
  by_cases w3 : w ≤ 3
  · obtain ⟨s1, a1, a2⟩ := e_mAll hs hw h1.1 w3
    rw [if_pos w3, a1, if_neg (by omega), if_neg (by omega)]
    exact ⟨s1, rfl, a2⟩
  · rw [if_neg w3]
    by_cases w4 : w = 4
    · rw [if_pos w4, if_pos w4, e_mend hs hw, bd_eq]
      exact ⟨s, rfl, Only.refl _ _⟩
    · rw [if_neg w4, if_neg w4, if_pos (by omega), e_mmost hs hw, bd_eq]
      exact ⟨s, rfl, Only.refl _ _⟩
/-- the class: parts of the digest -/
theorem d_told (hs : CS s A H n T tl c) (kx : Int → u_S → Option (Int × u_S)) (h : Int) : f_X10_digest_L6 FU kx oF h 0 s = kx (dF (fun k => tdV A n tl c (k : Int)) 11 h) s := by
  refine loop_fu (fun m (b : Int × Int) => f_X10_digest_L6 m kx oF b.1 b.2 s) (fun j => (dF (fun k => tdV A n tl c (k : Int)) j h, (j : Int))) _ 11 (by omega) ?_ ?_
  · intro j m hj
    dsimp only
    rw [f_X10_digest_L6, if_pos (by omega), e_ctold hs (by omega) (by omega), bd_eq, wr_of (x := (j : Int) + 1) (by omega) (by omega)]
    rfl
  · intro m
    dsimp only
    rw [f_X10_digest_L6, if_neg (by omega)]
theorem d_mtold (hs : MT s A H n T tl c) (kx : Int → u_S → Option (Int × u_S)) (h : Int) : f_X11_digest_L6 FU kx oM h 0 s = kx (dF (fun k => tdV A n tl c (k : Int)) 11 h) s := by
  refine loop_fu (fun m (b : Int × Int) => f_X11_digest_L6 m kx oM b.1 b.2 s) (fun j => (dF (fun k => tdV A n tl c (k : Int)) j h, (j : Int))) _ 11 (by omega) ?_ ?_
  · intro j m hj
    dsimp only
    rw [f_X11_digest_L6, if_pos (by omega), e_mtold hs (by omega) (by omega), bd_eq, wr_of (x := (j : Int) + 1) (by omega) (by omega)]
    rfl
  · intro m
    dsimp only
    rw [f_X11_digest_L6, if_neg (by omega)]
theorem d_note (hs : CP s 0 A) (hw : WF A) {l : Int} (h1 : 0 ≤ l ∧ l ≤ 3) {i : Nat} (hi : (i : Int) < cntA A l) (kx : Int → u_S → Option (Int × u_S)) (h : Int) : f_X10_lineDigest_L54 FU kx oF l (i : Int) (dF (fun k => ntV A l ((k / 4 : Nat) : Int) ((k % 4 : Nat) : Int)) (4 * i) h) 0 s = kx (dF (fun k => ntV A l ((k / 4 : Nat) : Int) ((k % 4 : Nat) : Int)) (4 * (i + 1)) h) s := by
  refine loop_fu (fun m (b : Int × Int) => f_X10_lineDigest_L54 m kx oF l (i : Int) b.1 b.2 s) (fun j => (dF (fun k => ntV A l ((k / 4 : Nat) : Int) ((k % 4 : Nat) : Int)) (4 * i + j) h, (j : Int))) _ 4 (by omega) ?_ ?_
  · intro j m hj
    dsimp only
    rw [f_X10_lineDigest_L54, if_pos (by omega), e_cnoteOf hs hw h1 ⟨by omega, hi⟩ (by omega), bd_eq, wr_of (x := (j : Int) + 1) (by omega) (by omega), show 4 * i + (j + 1) = 4 * i + j + 1 by omega, dF, show (4 * i + j) / 4 = i by omega, show (4 * i + j) % 4 = j by omega]
    rfl
  · intro m
    dsimp only
    rw [f_X10_lineDigest_L54, if_neg (by omega), show 4 * i + 4 = 4 * (i + 1) by omega]
theorem d_cline (hs : CP s 0 A) (hw : WF A) {l : Int} (h1 : 0 ≤ l ∧ l ≤ 3) (h : Int) : f_X10_lineDigest oF h l s = some (dgL A l h, s) := by
  have hl := hw.1 l h1.1 h1.2
  have hr := hs.1 l h1.1 h1.2
  have l0 : f_X10_line oF l 0 s = some (lenA A l, s) := by
    unfold f_X10_line
    rw [e_isLine, bd_eq, if_pos h1, jn_eq, if10, e_within, bd_eq, if_pos (show (0 : Int) ≤ 0 ∧ (0 : Int) ≤ 4 by omega), if10, gd_of (by omega) (by omega), o_pline, if_pos rfl, e_length hr hl, bd_eq]
  have l1 : f_X10_line oF l 1 s = some (cntA A l, s) := by
    unfold f_X10_line
    rw [e_isLine, bd_eq, if_pos h1, jn_eq, if10, e_within, bd_eq, if_pos (show (0 : Int) ≤ 1 ∧ (1 : Int) ≤ 4 by omega), if10, gd_of (by omega) (by omega), o_pline, if_neg (by omega), if_pos rfl, hr.1]
  unfold f_X10_lineDigest
  rw [l0, bd_eq, l1, bd_eq]
  have hc := hl.1
  have q := loop_fu (fun m (b : Int × Int) => f_X10_lineDigest_L34 m (fun v4_1 s_3 => some (v4_1, s_3)) oF l b.1 b.2 s) (fun j => (dF (fun k => ntV A l ((k / 4 : Nat) : Int) ((k % 4 : Nat) : Int)) (4 * j) (dst (dst h (lenA A l)) (cntA A l)), (j : Int))) (some (dgL A l h, s)) (cntA A l).toNat (by omega) (by
    intro j m hj
    dsimp only
    rw [f_X10_lineDigest_L34, gd_of (by omega) (by omega), o_pline, hr.1, if_pos (by omega), d_note hs hw h1 (by omega), wr_of (x := (j : Int) + 1) (by omega) (by omega)]
    rfl) (by
    intro m
    dsimp only
    rw [f_X10_lineDigest_L34, gd_of (by omega) (by omega), o_pline, hr.1, if_neg (by omega)]
    rfl)
  exact q
theorem d_clines (hs : CP s 0 A) (hw : WF A) (kx : Int → u_S → Option (Int × u_S)) (h : Int) : f_X10_digest_L33 FU kx oF h 0 s = kx (dgLs A 4 h) s := by
  refine loop_fu (fun m (b : Int × Int) => f_X10_digest_L33 m kx oF b.1 b.2 s) (fun j => (dgLs A j h, (j : Int))) _ 4 (by omega) ?_ ?_
  · intro j m hj
    dsimp only
    rw [f_X10_digest_L33, if_pos (by omega), d_cline hs hw (by omega), bd_eq, wr_of (x := (j : Int) + 1) (by omega) (by omega)]
    rfl
  · intro m
    dsimp only
    rw [f_X10_digest_L33, if_neg (by omega)]
theorem d_mnotes (hs : MR s A) (hw : WF A) {l : Int} (h1 : 0 ≤ l ∧ l ≤ 3) (kx : Int → u_S → Option (Int × u_S)) (h : Int) : f_X11_digest_L65 FU kx oM l h 0 s = kx (dF (fun k => ntV A l ((k / 4 : Nat) : Int) ((k % 4 : Nat) : Int)) (4 * (cntA A l).toNat) h) s := by
  have hc := (hw.1 l h1.1 h1.2).1
  refine loop_fu (fun m (b : Int × Int) => f_X11_digest_L65 m kx oM l b.1 b.2 s) (fun j => (dF (fun k => ntV A l ((k / 4 : Nat) : Int) ((k % 4 : Nat) : Int)) j h, (j : Int))) _ (4 * (cntA A l).toNat) (by omega) ?_ ?_
  · intro j m hj
    dsimp only
    rw [f_X11_digest_L65, e_notes hs oM h1.1 h1.2, bd_eq, wr_of (x := 4 * cntA A l) (by omega) (by omega), if_pos (by omega), Int.tdiv_eq_ediv_of_nonneg (by omega), Int.tmod_eq_emod_of_nonneg (by omega), wr_of (x := (j : Int) / 4) (by omega) (by omega), e_mnoteOf hs hw h1 ⟨by omega, by omega⟩, bd_eq, wr_of (x := (j : Int) + 1) (by omega) (by omega)]
    rfl
  · intro m
    dsimp only
    rw [f_X11_digest_L65, e_notes hs oM h1.1 h1.2, bd_eq, wr_of (x := 4 * cntA A l) (by omega) (by omega), if_neg (by omega)]
theorem d_mlines (hs : MR s A) (hw : WF A) (kx : Int → u_S → Option (Int × u_S)) (h : Int) : f_X11_digest_L33 FU kx oM h 0 s = kx (dgLs A 4 h) s := by
  refine loop_fu (fun m (b : Int × Int) => f_X11_digest_L33 m kx oM b.1 b.2 s) (fun j => (dgLs A j h, (j : Int))) _ 4 (by omega) ?_ ?_
  · intro j m hj
    dsimp only
    rw [f_X11_digest_L33, if_pos (by omega), e_mlength hs (hw.1 j (by omega) (by omega)) oM (by omega) (by omega), bd_eq, e_notes hs oM (by omega) (by omega), bd_eq, d_mnotes hs hw (by omega), wr_of (x := (j : Int) + 1) (by omega) (by omega)]
    rfl
  · intro m
    dsimp only
    rw [f_X11_digest_L33, if_neg (by omega)]
theorem d_entry (hs : CP s 0 A) (hw : WF A) {e : Nat} (he : (e : Int) < A 84) (kx : Int → u_S → Option (Int × u_S)) (h : Int) : f_X10_digest_L70 FU kx oF (e : Int) (dF (fun k => enV A ((k / 6 : Nat) : Int) ((k % 6 : Nat) : Int)) (6 * e) h) 0 s = kx (dF (fun k => enV A ((k / 6 : Nat) : Int) ((k % 6 : Nat) : Int)) (6 * (e + 1)) h) s := by
  refine loop_fu (fun m (b : Int × Int) => f_X10_digest_L70 m kx oF (e : Int) b.1 b.2 s) (fun j => (dF (fun k => enV A ((k / 6 : Nat) : Int) ((k % 6 : Nat) : Int)) (6 * e + j) h, (j : Int))) _ 6 (by omega) ?_ ?_
  · intro j m hj
    dsimp only
    rw [f_X10_digest_L70, if_pos (by omega), e_centryV hs hw ⟨by omega, he⟩ (by omega), bd_eq, wr_of (x := (j : Int) + 1) (by omega) (by omega), show 6 * e + (j + 1) = 6 * e + j + 1 by omega, dF, show (6 * e + j) / 6 = e by omega, show (6 * e + j) % 6 = j by omega]
    rfl
  · intro m
    dsimp only
    rw [f_X10_digest_L70, if_neg (by omega), show 6 * e + 6 = 6 * (e + 1) by omega]
theorem d_centries (hs : CP s 0 A) (hw : WF A) (kx : Int → u_S → Option (Int × u_S)) (h : Int) : f_X10_digest_L53 FU kx oF h 0 s = kx (dF (fun k => enV A ((k / 6 : Nat) : Int) ((k % 6 : Nat) : Int)) (6 * (A 84).toNat) h) s := by
  have hn := hw.2.1.1
  refine loop_fu (fun m (b : Int × Int) => f_X10_digest_L53 m kx oF b.1 b.2 s) (fun j => (dF (fun k => enV A ((k / 6 : Nat) : Int) ((k % 6 : Nat) : Int)) (6 * j) h, (j : Int))) _ (A 84).toNat (by omega) ?_ ?_
  · intro j m hj
    dsimp only
    rw [f_X10_digest_L53, show a_Plan_entries (a_FP_plan oF) = (6, 0, 0) from rfl, hs.2.1.1, if_pos (by omega), d_entry hs hw (by omega), wr_of (x := (j : Int) + 1) (by omega) (by omega)]
    rfl
  · intro m
    dsimp only
    rw [f_X10_digest_L53, show a_Plan_entries (a_FP_plan oF) = (6, 0, 0) from rfl, hs.2.1.1, if_neg (by omega)]
theorem d_mentries (hs : MR s A) (hw : WF A) (kx : Int → u_S → Option (Int × u_S)) (h : Int) : f_X11_digest_L112 FU kx oM h 0 s = kx (dF (fun k => enV A ((k / 6 : Nat) : Int) ((k % 6 : Nat) : Int)) (6 * (A 84).toNat) h) s := by
  have hn := hw.2.1.1
  refine loop_fu (fun m (b : Int × Int) => f_X11_digest_L112 m kx oM b.1 b.2 s) (fun j => (dF (fun k => enV A ((k / 6 : Nat) : Int) ((k % 6 : Nat) : Int)) j h, (j : Int))) _ (6 * (A 84).toNat) (by omega) ?_ ?_
  · intro j m hj
    dsimp only
    rw [f_X11_digest_L112, gd_of (by omega) (by omega), m_rd hs _ (by omega) (by omega), wr_of (x := 6 * A 84) (by omega) (by omega), if_pos (by omega), Int.tdiv_eq_ediv_of_nonneg (by omega), Int.tmod_eq_emod_of_nonneg (by omega), wr_of (x := (j : Int) / 6) (by omega) (by omega), e_mentryV hs hw ⟨by omega, by omega⟩ (by omega), bd_eq, wr_of (x := (j : Int) + 1) (by omega) (by omega)]
    rfl
  · intro m
    dsimp only
    rw [f_X11_digest_L112, gd_of (by omega) (by omega), m_rd hs _ (by omega) (by omega), wr_of (x := 6 * A 84) (by omega) (by omega), if_neg (by omega)]
theorem d_call (hs : CP s 0 A) (hw : WF A) (kx : Int → u_S → Option (Int × u_S)) (h : Int) : ∃ s', f_X10_digest_L105 FU kx oF h 0 s = kx (dF (fun k => alV A (k : Int)) 6 h) s' ∧ Only csc s s' := by
  obtain ⟨b, q, i1, i2, i3⟩ := loop_relfu (fun m (b : Int × Int × u_S) => f_X10_digest_L105 m kx oF b.1 b.2.1 b.2.2) (fun j b => b.1 = dF (fun k => alV A (k : Int)) j h ∧ b.2.1 = (j : Int) ∧ Only csc s b.2.2) (fun b => kx b.1 b.2.2) 6 (by omega) (by
    intro j b m hj ⟨e1, e2, e3⟩
    obtain ⟨b1, b2, s1⟩ := b
    dsimp only at e1 e2 e3
    subst e1 e2
    obtain ⟨s2, x1, x2⟩ := e_callV (w := (j : Int)) (hs.keep e3 (fun o h => csc_pob (by decide) o h)) hw (by omega)
    refine ⟨(dF (fun k => alV A (k : Int)) (j + 1) h, wr ((j : Int) + 1), s2), ?_, rfl, by dsimp only; rw [wr_of (by omega) (by omega)]; omega, e3.trans x2⟩
    dsimp only
    rw [f_X10_digest_L105, if_pos (by omega), x1, bd_eq]
    rfl) (by
    intro b m ⟨e1, e2, e3⟩
    rw [f_X10_digest_L105, if_neg (by omega)]) (h, 0, s) ⟨rfl, rfl, Only.refl _ _⟩
  refine ⟨b.2.2, ?_, i3⟩
  rw [i1] at q
  exact q
theorem d_mall (hs : MR s A) (hw : WF A) (kx : Int → u_S → Option (Int × u_S)) (h : Int) : ∃ s', f_X11_digest_L154 FU kx oM h 0 s = kx (dF (fun k => alV A (k : Int)) 6 h) s' ∧ Only mst s s' := by
  obtain ⟨b, q, i1, i2, i3⟩ := loop_relfu (fun m (b : Int × Int × u_S) => f_X11_digest_L154 m kx oM b.1 b.2.1 b.2.2) (fun j b => b.1 = dF (fun k => alV A (k : Int)) j h ∧ b.2.1 = (j : Int) ∧ Only mst s b.2.2) (fun b => kx b.1 b.2.2) 6 (by omega) (by
    intro j b m hj ⟨e1, e2, e3⟩
    obtain ⟨b1, b2, s1⟩ := b
    dsimp only at e1 e2 e3
    subst e1 e2
    obtain ⟨s2, x1, x2⟩ := e_mallV (w := (j : Int)) (hs.keep e3 (by simp [mst, mso])) hw (by omega)
    refine ⟨(dF (fun k => alV A (k : Int)) (j + 1) h, wr ((j : Int) + 1), s2), ?_, rfl, by dsimp only; rw [wr_of (by omega) (by omega)]; omega, e3.trans x2⟩
    dsimp only
    rw [f_X11_digest_L154, if_pos (by omega), x1, bd_eq]
    rfl) (by
    intro b m ⟨e1, e2, e3⟩
    rw [f_X11_digest_L154, if_neg (by omega)]) (h, 0, s) ⟨rfl, rfl, Only.refl _ _⟩
  refine ⟨b.2.2, ?_, i3⟩
  rw [i1] at q
  exact q
theorem call_digest : Call (f_X10_digest oF) (f_X11_digest oM) := by
  intro A H n T tl c hw
  have hv := hw.1.2.2.2.2.2.2.2
  have hh := hw.1.2.2.2.2.2.2.1
  obtain ⟨k, hk⟩ : ∃ k : Nat, (k : Int) = A 139 := ⟨(A 139).toNat, by have := hv.1; omega⟩
  obtain ⟨K, hK⟩ := least_ex hv hk
  refine at_ask (dst (dF (fun k => alV A (k : Int)) 6 (dF (fun k => enV A ((k / 6 : Nat) : Int) ((k % 6 : Nat) : Int)) (6 * (A 84).toNat) (dgLs A 4 (dF (fun k => tdV A n tl c (k : Int)) 11 2267)))) (plP (A 138) K k)) hw (fun s hs => ?_) (fun s hs => ?_)
  · unfold f_X10_digest
    rw [d_told hs, d_clines hs.1 hw.1, d_centries hs.1 hw.1]
    obtain ⟨s1, x1, x2⟩ := d_call hs.1 hw.1 (fun v1_4 s_4 => bd (f_X10_path oF (-1) s_4) (fun r_1 s_5 => some ((wl ((wl (31 * v1_4)) + r_1)), s_5))) (dF (fun k => enV A ((k / 6 : Nat) : Int) ((k % 6 : Nat) : Int)) (6 * (A 84).toNat) (dgLs A 4 (dF (fun k => tdV A n tl c (k : Int)) 11 2267)))
    have c1 := (hs.keep x2).1
    obtain ⟨s2, y1, y2, L, y3, y4, y5⟩ := e_find c1 hw.1 hk
    have hu := least_un hv hk hh hK y3
    rw [x1]
    refine ⟨s2, ?_, x2.trans (y2.mono tro_csc)⟩
    have ep : f_X10_path oF (-1) s1 = some (plP (A 138) K k, s2) := by
      unfold f_X10_path
      rw [if_neg (by omega), show a_FP_plan oF = (1, 0, 0) from rfl, c1.2.2.2.1, ← hk, if_pos (by omega), if_pos (show (-1 : Int) < 5 by omega), show a_FP_tour oF = (20, 0, 0) from rfl, y1, bd_eq, if_pos rfl, y4, hu.1]
    rw [ep, bd_eq]
    rfl
  · unfold f_X11_digest
    rw [d_mtold hs, d_mlines hs.1 hw.1, d_mentries hs.1 hw.1]
    obtain ⟨s1, x1, x2⟩ := d_mall hs.1 hw.1 (fun v1_4 s_4 => bd (f_X11_bestPath oM s_4) (fun r_1 s_5 => some ((wl ((wl (31 * v1_4)) + r_1)), s_5))) (dF (fun k => enV A ((k / 6 : Nat) : Int) ((k % 6 : Nat) : Int)) (6 * (A 84).toNat) (dgLs A 4 (dF (fun k => tdV A n tl c (k : Int)) 11 2267)))
    obtain ⟨s2, L, y1, y2, y3, y4⟩ := e_bestPath (hs.1.keep x2 (by simp [mst, mso])) hw.1 hk
    have hu := least_un hv hk hh hK y3
    rw [x1, y1, bd_eq, hu.1]
    exact ⟨s2, rfl, (x2.mono mst_msc).trans (y2.mono bpo_msc)⟩
end DIGEST
