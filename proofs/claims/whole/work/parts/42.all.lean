/-! all: sums over pairs, the end, the most at once -/
theorem sm_add3 (f g h : Int → Int) : ∀ n : Nat, sm (fun i => f i + g i + h i) n = sm f n + sm g n + sm h n
  | 0 => rfl
  | n + 1 => by
    show sm (fun i => f i + g i + h i) n + (f n + g n + h n) = (sm f n + f n) + (sm g n + g n) + (sm h n + h n)
    rw [sm_add3 f g h n]; omega
def rowS (A : Int → Int) (B : Int → Int → Int) (k e : Int) (n : Nat) : Int := sm (fun i => cnB A B e (e + 1 + i) k) n
def allS (A : Int → Int) (B : Int → Int → Int) (N k : Int) (n : Nat) : Int := sm (fun e => rowS A B k e (N - 1 - e).toNat) n
def rowW (A : Int → Int) (B : Int → Int → Int) (w e : Int) (n : Nat) : Int := sm (fun i => cnW A B e (e + 1 + i) w) n
def allW (A : Int → Int) (B : Int → Int → Int) (N w : Int) (n : Nat) : Int := sm (fun e => rowW A B w e (N - 1 - e).toNat) n
def mxE (A : Int → Int) (B : Int → Int → Int) : Nat → Int
  | 0 => 0
  | n + 1 => max (mxE A B n) (B n 3 + totA A (B n 0) (B n 1))
def hcA (A : Int → Int) (B : Int → Int → Int) (t e : Int) : Int := if B e 3 ≤ t ∧ t < B e 3 + totA A (B e 0) (B e 1) then 1 else 0
def mxH (A : Int → Int) (B : Int → Int → Int) (N : Int) : Nat → Int
  | 0 => 0
  | n + 1 => max (mxH A B N n) (sm (hcA A B n) N.toNat)
/-- what is said of a set of entries -/
def EB (A : Int → Int) (B : Int → Int → Int) (N : Int) : Prop := (0 ≤ N ∧ N ≤ 10) ∧ ∀ e : Int, 0 ≤ e → e < N → (0 ≤ B e 0 ∧ B e 0 ≤ 3) ∧ (-40 ≤ B e 2 ∧ B e 2 ≤ 40) ∧ (0 ≤ B e 3 ∧ B e 3 ≤ 1000)
/-- the sounds gathered -/
def GR (s : u_S) (A : Int → Int) (B : Int → Int → Int) (N : Int) : Prop := rd s (17, 0, 0) 1 = N ∧ ∀ e : Int, 0 ≤ e → e < N → SR s (2 + e.toNat) A (B e 0) (B e 1) (B e 2) (B e 3) (B e 4)
theorem GR.nat {s : u_S} {A : Int → Int} {B : Int → Int → Int} {N : Int} (h : GR s A B N) {i : Nat} (hi : (i : Int) < N) : SR s (2 + i) A (B i 0) (B i 1) (B i 2) (B i 3) (B i 4) := h.2 i (by omega) hi
theorem GR.keep {s s' : u_S} {A : Int → Int} {B : Int → Int → Int} {N : Int} (h : GR s A B N) (ho : Only flo s s') : GR s' A B N := ⟨by rw [ho.rd (by simp [flo])]; exact h.1, fun e a b => (h.2 e a b).keep ho (by simp [flo]) (by simp [flo])⟩
theorem WF.EB {A : Int → Int} (h : WF A) : EB A (entA A) (A 84) := ⟨h.2.1.1, fun e a b => by have := h.2.1.2 e a b; omega⟩
section ALL
variable {s : u_S} {A : Int → Int} {B : Int → Int → Int} {N : Int}
theorem rowS_b (he : EB A B N) (hl : ∀ l, 0 ≤ l → l ≤ 3 → WL A l) {e k : Int} (e0 : 0 ≤ e) (e1 : e < N) (k0 : 0 ≤ k) (k1 : k ≤ 2) {n : Nat} (hn : n ≤ 10) : 0 ≤ rowS A B k e n ∧ rowS A B k e n ≤ 800 := by
  have hb := he.2 e e0 e1
  have h := fun g => cnB_b (B := B) (e := e) (g := g) (hl _ hb.1.1 hb.1.2) k0 k1
  have h1 := sm_ge (f := fun i => cnB A B e (e + 1 + i) k) (b := 0) (n := n) (fun i _ _ => (h _).1)
  have h2 := sm_le (f := fun i => cnB A B e (e + 1 + i) k) (b := 80) (n := n) (fun i _ _ => (h _).2)
  unfold rowS
  omega
theorem allS_b (he : EB A B N) (hl : ∀ l, 0 ≤ l → l ≤ 3 → WL A l) {k : Int} (k0 : 0 ≤ k) (k1 : k ≤ 2) {n : Nat} (hn : (n : Int) ≤ N) : 0 ≤ allS A B N k n ∧ allS A B N k n ≤ 8000 := by
  have hN := he.1
  have h : ∀ e : Int, 0 ≤ e → e < n → 0 ≤ rowS A B k e (N - 1 - e).toNat ∧ rowS A B k e (N - 1 - e).toNat ≤ 800 := fun e a b => rowS_b he hl a (by omega) k0 k1 (by omega)
  have h1 := sm_ge (f := fun e => rowS A B k e (N - 1 - e).toNat) (b := 0) (n := n) (fun i a b => (h i a b).1)
  have h2 := sm_le (f := fun e => rowS A B k e (N - 1 - e).toNat) (b := 800) (n := n) (fun i a b => (h i a b).2)
  unfold allS
  omega
theorem rowW_of {w e : Int} (w0 : 0 ≤ w) (w1 : w ≤ 3) (n : Nat) : rowW A B w e n = if w = 0 then rowS A B 0 e n else if w = 1 then rowS A B 1 e n else if w = 2 then rowS A B 2 e n else rowS A B 0 e n + rowS A B 1 e n + rowS A B 2 e n := by
  unfold rowW rowS
  rcases (show w = 0 ∨ w = 1 ∨ w = 2 ∨ w = 3 by omega) with rfl | rfl | rfl | rfl
  · rw [if_pos rfl]; exact sm_congr (fun i _ _ => by rw [cnW_of (by omega) (by omega), if_pos rfl])
  · rw [if_neg (by omega), if_pos rfl]; exact sm_congr (fun i _ _ => by rw [cnW_of (by omega) (by omega), if_neg (by omega), if_pos rfl])
  · rw [if_neg (by omega), if_neg (by omega), if_pos rfl]; exact sm_congr (fun i _ _ => by rw [cnW_of (by omega) (by omega), if_neg (by omega), if_neg (by omega), if_pos rfl])
  · rw [if_neg (by omega), if_neg (by omega), if_neg (by omega), ← sm_add3]; exact sm_congr (fun i _ _ => by rw [cnW_of (by omega) (by omega), if_neg (by omega), if_neg (by omega), if_neg (by omega)])
theorem allW_of {w : Int} (w0 : 0 ≤ w) (w1 : w ≤ 3) (n : Nat) : allW A B N w n = if w = 0 then allS A B N 0 n else if w = 1 then allS A B N 1 n else if w = 2 then allS A B N 2 n else allS A B N 0 n + allS A B N 1 n + allS A B N 2 n := by
  unfold allW allS
  rcases (show w = 0 ∨ w = 1 ∨ w = 2 ∨ w = 3 by omega) with rfl | rfl | rfl | rfl
  · rw [if_pos rfl]; exact sm_congr (fun i _ _ => by rw [rowW_of (by omega) (by omega), if_pos rfl])
  · rw [if_neg (by omega), if_pos rfl]; exact sm_congr (fun i _ _ => by rw [rowW_of (by omega) (by omega), if_neg (by omega), if_pos rfl])
  · rw [if_neg (by omega), if_neg (by omega), if_pos rfl]; exact sm_congr (fun i _ _ => by rw [rowW_of (by omega) (by omega), if_neg (by omega), if_neg (by omega), if_pos rfl])
  · rw [if_neg (by omega), if_neg (by omega), if_neg (by omega), ← sm_add3]; exact sm_congr (fun i _ _ => by rw [rowW_of (by omega) (by omega), if_neg (by omega), if_neg (by omega), if_neg (by omega)])
theorem rowW_b (he : EB A B N) (hl : ∀ l, 0 ≤ l → l ≤ 3 → WL A l) {e w : Int} (e0 : 0 ≤ e) (e1 : e < N) (w0 : 0 ≤ w) (w1 : w ≤ 3) {n : Nat} (hn : n ≤ 10) : 0 ≤ rowW A B w e n ∧ rowW A B w e n ≤ 2400 := by
  have a0 := rowS_b (k := 0) he hl e0 e1 (by omega) (by omega) hn
  have a1 := rowS_b (k := 1) he hl e0 e1 (by omega) (by omega) hn
  have a2 := rowS_b (k := 2) he hl e0 e1 (by omega) (by omega) hn
  rw [rowW_of w0 w1]
  split
  · omega
  · split
    · omega
    · split <;> omega
theorem allW_b (he : EB A B N) (hl : ∀ l, 0 ≤ l → l ≤ 3 → WL A l) {w : Int} (w0 : 0 ≤ w) (w1 : w ≤ 3) {n : Nat} (hn : (n : Int) ≤ N) : 0 ≤ allW A B N w n ∧ allW A B N w n ≤ 24000 := by
  have a0 := allS_b (k := 0) he hl (by omega) (by omega) hn
  have a1 := allS_b (k := 1) he hl (by omega) (by omega) hn
  have a2 := allS_b (k := 2) he hl (by omega) (by omega) hn
  rw [allW_of w0 w1]
  split
  · omega
  · split
    · omega
    · split <;> omega
theorem e_cfRow (hg : GR s A B N) (he : EB A B N) (hl : ∀ l, 0 ≤ l → l ≤ 3 → WL A l) (hmt : 1 ≤ A 137) (kx : u_S → Option (Int × u_S)) {i : Nat} (hi : (i : Int) < N) {c0 c1 c2 : Int} (hc : FC s c0 c1 c2) (d0 : 0 ≤ c0 ∧ c0 ≤ 900000) (d1 : 0 ≤ c1 ∧ c1 ≤ 900000) (d2 : 0 ≤ c2 ∧ c2 ≤ 900000) : ∃ s', f_X0_countFaults_L19 FU kx (17, 0, 0) (16, 0, 0) (A 137) i ((i : Int) + 1) s = kx s' ∧ Only flo s s' ∧ FC s' (c0 + rowS A B 0 i (N - 1 - i).toNat) (c1 + rowS A B 1 i (N - 1 - i).toNat) (c2 + rowS A B 2 i (N - 1 - i).toNat) := by
  have hN := he.1
  have hbi := he.2 i (by omega) hi
  have rb : ∀ k : Int, 0 ≤ k → k ≤ 2 → ∀ j : Nat, j < 10 → 0 ≤ rowS A B k i j ∧ rowS A B k i j ≤ 800 := fun k a b j hj => rowS_b he hl (by omega) hi a b (by omega)
  obtain ⟨b, q, i1, i2, i3⟩ := loop_relfu (fun m (b : Int × u_S) => f_X0_countFaults_L19 m kx (17, 0, 0) (16, 0, 0) (A 137) i b.1 b.2) (fun j b => b.1 = (i : Int) + 1 + j ∧ Only flo s b.2 ∧ FC b.2 (c0 + rowS A B 0 i j) (c1 + rowS A B 1 i j) (c2 + rowS A B 2 i j)) (fun b => kx b.2) (N - 1 - i).toNat (by omega) (by
    intro j b m hj ⟨e1, e2, e3⟩
    obtain ⟨b1, s1⟩ := b
    dsimp only at e1 e2 e3
    subst e1
    have hbj := he.2 (i + 1 + j : Int) (by omega) (by omega)
    have g1 := hg.keep e2
    have q0 := rb 0 (by omega) (by omega) j (by omega)
    have q1 := rb 1 (by omega) (by omega) j (by omega)
    have q2 := rb 2 (by omega) (by omega) j (by omega)
    have hcast : ((i : Int) + 1 + j) = ((i + 1 + j : Nat) : Int) := by omega
    rw [hcast] at hbj ⊢
    obtain ⟨s2, a1, a2, a3⟩ := e_addB (A := A) (B := B) (i := i) (j := i + 1 + j) (g1.nat hi) (g1.nat (by omega)) (hl _ hbi.1.1 hbi.1.2) (hl _ hbj.1.1 hbj.1.2) ⟨hbi.2.2, hbi.2.1⟩ ⟨hbj.2.2, hbj.2.1⟩ hmt e3 (by omega) (by omega) (by omega)
    refine ⟨(wr (((i + 1 + j : Nat) : Int) + 1), s2), ?_, by dsimp only; rw [wr_of (by omega) (by omega)]; omega, e2.trans a2, ?_⟩
    · dsimp only
      rw [f_X0_countFaults_L19, g1.1, if_pos (by omega), gd_of (by omega) (by omega), gd_of (by omega) (by omega), show e_Sound (a_Chorus_items (17, 0, 0)) (i : Int) = (14, 2 + i, 0) from rfl, show e_Sound (a_Chorus_items (17, 0, 0)) ((i + 1 + j : Nat) : Int) = (14, 2 + (i + 1 + j), 0) from rfl, a1, bd_eq]
    · dsimp only
      rw [← hcast, Int.add_assoc c0, Int.add_assoc c1, Int.add_assoc c2] at a3
      exact a3) (by
    intro b m ⟨e1, e2, e3⟩
    rw [f_X0_countFaults_L19, (hg.keep e2).1, if_neg (by omega)]) ((i : Int) + 1, s) ⟨by simp, Only.refl _ _, by rw [show rowS A B 0 i 0 = 0 from rfl, show rowS A B 1 i 0 = 0 from rfl, show rowS A B 2 i 0 = 0 from rfl, Int.add_zero, Int.add_zero, Int.add_zero]; exact hc⟩
  exact ⟨b.2, q, i2, i3⟩
theorem e_countFaults (hg : GR s A B N) (he : EB A B N) (hl : ∀ l, 0 ≤ l → l ≤ 3 → WL A l) (hmt : 1 ≤ A 137) : ∃ s', f_X0_countFaults (17, 0, 0) (16, 0, 0) (A 137) s = some (0, s') ∧ Only flo s s' ∧ FC s' (allS A B N 0 N.toNat) (allS A B N 1 N.toNat) (allS A B N 2 N.toNat) := by
  have hN := he.1
  unfold f_X0_countFaults
  obtain ⟨s0, z1, z2, z3⟩ := e_forget (s := s)
  rw [z1, bd_eq]
  obtain ⟨b, q, i1, i2, i3⟩ := loop_relfu (fun m (b : Int × u_S) => f_X0_countFaults_L6 m (fun s_2 => some (0, s_2)) (17, 0, 0) (16, 0, 0) (A 137) b.1 b.2) (fun i b => b.1 = i ∧ Only flo s b.2 ∧ FC b.2 (allS A B N 0 i) (allS A B N 1 i) (allS A B N 2 i)) (fun b => some (0, b.2)) N.toNat (by omega) (by
    intro i b m hi ⟨e1, e2, e3⟩
    obtain ⟨b1, s1⟩ := b
    dsimp only at e1 e2 e3
    subst e1
    have g1 := hg.keep e2
    have q0 := allS_b (k := 0) (n := i) he hl (by omega) (by omega) (by omega)
    have q1 := allS_b (k := 1) (n := i) he hl (by omega) (by omega) (by omega)
    have q2 := allS_b (k := 2) (n := i) he hl (by omega) (by omega) (by omega)
    obtain ⟨s2, a1, a2, a3⟩ := e_cfRow g1 he hl hmt (fun s_4 => f_X0_countFaults_L6 m (fun s_2 => some (0, s_2)) (17, 0, 0) (16, 0, 0) (A 137) (wr ((i : Int) + 1)) s_4) (i := i) (by omega) e3 (by omega) (by omega) (by omega)
    refine ⟨(wr ((i : Int) + 1), s2), ?_, by dsimp only; rw [wr_of (by omega) (by omega)]; omega, e2.trans a2, a3⟩
    dsimp only
    rw [f_X0_countFaults_L6, g1.1, if_pos (by omega), ← a1, wr_of (by omega) (by omega)]) (by
    intro b m ⟨e1, e2, e3⟩
    rw [f_X0_countFaults_L6, (hg.keep e2).1, if_neg (by omega)]) (0, s0) ⟨rfl, z2, z3⟩
  exact ⟨b.2, q, i2, i3⟩
theorem e_mRow (hm : MR s A) (hw : WF A) {w : Int} (w0 : 0 ≤ w) (w1 : w ≤ 3) (kx : Int → u_S → Option (Int × u_S)) {i : Nat} (hi : (i : Int) < A 84) {c : Int} (d0 : 0 ≤ c ∧ c ≤ 900000) : ∃ s', f_X11_allNow_L42 FU kx oM w i c ((i : Int) + 1) s = kx (c + rowW A (entA A) w i (A 84 - 1 - i).toNat) s' ∧ Only mst s s' := by
  have hN := hw.2.1.1
  obtain ⟨b, q, i1, i2, i3⟩ := loop_relfu (fun m (b : Int × Int × u_S) => f_X11_allNow_L42 m kx oM w i b.1 b.2.1 b.2.2) (fun j b => b.2.1 = (i : Int) + 1 + j ∧ Only mst s b.2.2 ∧ b.1 = c + rowW A (entA A) w i j) (fun b => kx b.1 b.2.2) (A 84 - 1 - i).toNat (by omega) (by
    intro j b m hj ⟨e1, e2, e3⟩
    obtain ⟨b1, b2, s1⟩ := b
    dsimp only at e1 e2 e3
    subst e1; subst e3
    have m1 : MR s1 A := hm.keep e2 (by simp [mst, mso])
    have q0 := rowW_b (e := i) (w := w) (n := j) hw.EB hw.1 (by omega) hi w0 w1 (by omega)
    have q1 := rowW_b (e := i) (w := w) (n := j + 1) hw.EB hw.1 (by omega) hi w0 w1 (by omega)
    have hrow : rowW A (entA A) w i (j + 1) = rowW A (entA A) w i j + cnW A (entA A) i (i + 1 + j) w := rfl
    obtain ⟨b, s2, a1, a2, a3⟩ := e_two (e := i) (g := i + 1 + j) m1 hw (by omega) hi (by omega) (by omega) (by omega)
    rcases a3 with ⟨a3, a4⟩ | ⟨a3, a4, _⟩
    · have hz : cnW A (entA A) i (i + 1 + j) w = 0 := cnW_same a4 w0
      refine ⟨(wr (c + rowW A (entA A) w i j + 0), wr ((i : Int) + 1 + j + 1), s2), ?_, by dsimp only; rw [wr_of (by omega) (by omega)]; omega, e2.trans (a2.mono (fun o h => Or.inl h)), by dsimp only; rw [hrow, hz, wr_of (by omega) (by omega)]; omega⟩
      dsimp only
      rw [f_X11_allNow_L42, gd_of (by omega) (by omega), m_rd m1 _ (by omega) (by omega), if_pos (by omega), a1, bd_eq, jn_eq, if_pos a3]
    · obtain ⟨s3, b1, b2⟩ := a4 w w0 w1
      refine ⟨(wr (c + rowW A (entA A) w i j + cnW A (entA A) i (i + 1 + j) w), wr ((i : Int) + 1 + j + 1), s3), ?_, by dsimp only; rw [wr_of (by omega) (by omega)]; omega, (e2.trans (a2.mono (fun o h => Or.inl h))).trans (b2.mono (fun o h => Or.inr h)), by dsimp only; rw [hrow, wr_of (by omega) (by omega)]; omega⟩
      dsimp only
      rw [f_X11_allNow_L42, gd_of (by omega) (by omega), m_rd m1 _ (by omega) (by omega), if_pos (by omega), a1, bd_eq, jn_eq, if_neg (by omega), b1, bd_eq]) (by
    intro b m ⟨e1, e2, e3⟩
    rw [f_X11_allNow_L42, gd_of (by omega) (by omega), m_rd (hm.keep e2 (by simp [mst, mso])) _ (by omega) (by omega), if_neg (by omega)]) (c, (i : Int) + 1, s) ⟨by simp, Only.refl _ _, by rw [show rowW A (entA A) w i 0 = 0 from rfl]; omega⟩
  exact ⟨b.2.2, by rw [← i3]; exact q, i2⟩
theorem e_mAll (hm : MR s A) (hw : WF A) {w : Int} (w0 : 0 ≤ w) (w1 : w ≤ 3) : ∃ s', f_X11_allNow_L26 FU (fun v2_1 s_1 => some (v2_1, s_1)) oM w 0 0 s = some (allW A (entA A) (A 84) w (A 84).toNat, s') ∧ Only mst s s' := by
  have hN := hw.2.1.1
  obtain ⟨b, q, i1, i2, i3⟩ := loop_relfu (fun m (b : Int × Int × u_S) => f_X11_allNow_L26 m (fun v2_1 s_1 => some (v2_1, s_1)) oM w b.1 b.2.1 b.2.2) (fun i b => b.2.1 = i ∧ Only mst s b.2.2 ∧ b.1 = allW A (entA A) (A 84) w i) (fun b => some (b.1, b.2.2)) (A 84).toNat (by omega) (by
    intro i b m hi ⟨e1, e2, e3⟩
    obtain ⟨b1, b2, s1⟩ := b
    dsimp only at e1 e2 e3
    subst e1; subst e3
    have m1 : MR s1 A := hm.keep e2 (by simp [mst, mso])
    have q0 := allW_b (w := w) (n := i) hw.EB hw.1 w0 w1 (by omega)
    obtain ⟨s2, a1, a2⟩ := e_mRow m1 hw w0 w1 (fun v2_3 s_3 => f_X11_allNow_L26 m (fun v2_1 s_1 => some (v2_1, s_1)) oM w v2_3 (wr ((i : Int) + 1)) s_3) (i := i) (by omega) (c := allW A (entA A) (A 84) w i) (by omega)
    refine ⟨(allW A (entA A) (A 84) w (i + 1), wr ((i : Int) + 1), s2), ?_, by dsimp only; rw [wr_of (by omega) (by omega)]; omega, e2.trans a2, rfl⟩
    dsimp only
    rw [f_X11_allNow_L26, gd_of (by omega) (by omega), m_rd m1 _ (by omega) (by omega), if_pos (by omega)]
    refine Eq.trans (Eq.trans ?_ a1) rfl
    rw [wr_of (x := (i : Int) + 1) (by omega) (by omega)]) (by
    intro b m ⟨e1, e2, e3⟩
    rw [f_X11_allNow_L26, gd_of (by omega) (by omega), m_rd (hm.keep e2 (by simp [mst, mso])) _ (by omega) (by omega), if_neg (by omega)]) (0, 0, s) ⟨rfl, Only.refl _ _, rfl⟩
  exact ⟨b.2.2, by rw [← i3]; exact q, i2⟩
end ALL
