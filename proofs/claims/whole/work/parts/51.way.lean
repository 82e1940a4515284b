/-! keys: ways -/
def trnA (x y : Int) : Int := min ((y - x) % 12) (12 - (y - x) % 12)
def wayA (a b : Int) : Int := if a / 12 = b / 12 then trnA a b else min (1 + trnA (min a b) (max a b)) (2 + trnA (min a b + 9) (max a b))
/-- a road as the class tells it: 0, none -/
def rdbA (a b : Int) : Int := if a / 12 = b / 12 then (if trnA a b = 1 then 1 else 0) else if trnA (min a b) (max a b) = 0 then 1 else if trnA (min a b + 9) (max a b) = 0 then 2 else 0
/-- a road as the model tells it: -1, none -/
def roaA (a b : Int) : Int := if (if a < b then a else b) / 12 = (if a < b then b else a) / 12 then (if (if a < b then b else a) - (if a < b then a else b) = 1 then 1 else if (if a < b then b else a) - (if a < b then a else b) = 11 then 1 else -1) else if (if a < b then b else a) - 12 = (if a < b then a else b) then 1 else if (if a < b then b else a) - 12 = ((if a < b then a else b) + 9) % 12 then 2 else -1
theorem way_tab1 : ∀ a b : Fin 24, (0 ≤ wayA (a.val : Int) b.val ∧ wayA (a.val : Int) b.val ≤ 20) ∧ (wayA (a.val : Int) b.val = 0 ↔ a = b) ∧ (0 ≤ rdbA (a.val : Int) b.val ∧ rdbA (a.val : Int) b.val ≤ 2) ∧ roaA (a.val : Int) b.val = if rdbA (a.val : Int) b.val = 0 then -1 else rdbA (a.val : Int) b.val := by decide +kernel
theorem way_tab2 : ∀ a b k : Fin 24, roaA (a.val : Int) k.val = -1 ∨ wayA (a.val : Int) b.val ≤ roaA (a.val : Int) k.val + wayA (k.val : Int) b.val := by decide +kernel
theorem way_tab3 : ∀ a b : Fin 24, a = b ∨ (List.range 24).any (fun k => decide (roaA (a.val : Int) (k : Int) ≠ -1) && decide (wayA (a.val : Int) b.val = roaA (a.val : Int) (k : Int) + wayA (k : Int) b.val)) = true := by decide +kernel
theorem fin24 {a : Int} (h0 : 0 ≤ a) (h1 : a ≤ 23) : ∃ x : Fin 24, (x.val : Int) = a := ⟨⟨a.toNat, by omega⟩, by dsimp only; omega⟩
theorem way_b {a b : Int} (a0 : 0 ≤ a) (a1 : a ≤ 23) (b0 : 0 ≤ b) (b1 : b ≤ 23) : 0 ≤ wayA a b ∧ wayA a b ≤ 20 := by
  obtain ⟨x, rfl⟩ := fin24 a0 a1
  obtain ⟨y, rfl⟩ := fin24 b0 b1
  exact (way_tab1 x y).1
theorem way_0 {a b : Int} (a0 : 0 ≤ a) (a1 : a ≤ 23) (b0 : 0 ≤ b) (b1 : b ≤ 23) : wayA a b = 0 ↔ a = b := by
  obtain ⟨x, rfl⟩ := fin24 a0 a1
  obtain ⟨y, rfl⟩ := fin24 b0 b1
  rw [(way_tab1 x y).2.1]
  constructor
  · intro h; rw [h]
  · intro h; exact Fin.ext (by omega)
theorem rdb_b {a b : Int} (a0 : 0 ≤ a) (a1 : a ≤ 23) (b0 : 0 ≤ b) (b1 : b ≤ 23) : 0 ≤ rdbA a b ∧ rdbA a b ≤ 2 := by
  obtain ⟨x, rfl⟩ := fin24 a0 a1
  obtain ⟨y, rfl⟩ := fin24 b0 b1
  exact (way_tab1 x y).2.2.1
theorem roa_rdb {a b : Int} (a0 : 0 ≤ a) (a1 : a ≤ 23) (b0 : 0 ≤ b) (b1 : b ≤ 23) : roaA a b = if rdbA a b = 0 then -1 else rdbA a b := by
  obtain ⟨x, rfl⟩ := fin24 a0 a1
  obtain ⟨y, rfl⟩ := fin24 b0 b1
  exact (way_tab1 x y).2.2.2
theorem way_tri {a b k : Int} (a0 : 0 ≤ a) (a1 : a ≤ 23) (b0 : 0 ≤ b) (b1 : b ≤ 23) (k0 : 0 ≤ k) (k1 : k ≤ 23) : roaA a k = -1 ∨ wayA a b ≤ roaA a k + wayA k b := by
  obtain ⟨x, rfl⟩ := fin24 a0 a1
  obtain ⟨y, rfl⟩ := fin24 b0 b1
  obtain ⟨z, rfl⟩ := fin24 k0 k1
  exact way_tab2 x y z
theorem way_hop {a b : Int} (a0 : 0 ≤ a) (a1 : a ≤ 23) (b0 : 0 ≤ b) (b1 : b ≤ 23) (h : a ≠ b) : ∃ k : Int, 0 ≤ k ∧ k ≤ 23 ∧ roaA a k ≠ -1 ∧ wayA a b = roaA a k + wayA k b := by
  obtain ⟨x, rfl⟩ := fin24 a0 a1
  obtain ⟨y, rfl⟩ := fin24 b0 b1
  rcases way_tab3 x y with e | e
  · exact absurd (by rw [e]) h
  · obtain ⟨k, h1, h2⟩ := List.any_eq_true.mp e
    have h3 := List.mem_range.mp h1
    rw [Bool.and_eq_true, decide_eq_true_iff, decide_eq_true_iff] at h2
    exact ⟨k, by omega, by omega, h2.1, h2.2⟩
section WAY
variable {s : u_S} {A : Int → Int} {a b : Int}
theorem e_turns {x y : Int} (h1 : -1000 ≤ x ∧ x ≤ 1000) (h2 : -1000 ≤ y ∧ y ≤ 1000) (s : u_S) : f_X10_turns x y s = some (trnA x y, s) := by
  have h := Int.emod_nonneg (y - x) (show (12 : Int) ≠ 0 by omega)
  have h' := Int.emod_lt_of_pos (y - x) (show (0 : Int) < 12 by omega)
  unfold f_X10_turns trnA
  rw [wr_of (x := y - x) (by omega) (by omega), e_floorMod2 (by omega) (by omega) (by omega) (by omega), bd_eq, wr_of (x := 12 - _) (by omega) (by omega), e_min, bd_eq]
theorem e_mode {a : Int} (a0 : 0 ≤ a) (a1 : a ≤ 23) (s : u_S) : f_X10_modeOf a s = some (a / 12, s) := by
  unfold f_X10_modeOf
  rw [Int.tdiv_eq_ediv_of_nonneg a0, wr_of (by omega) (by omega)]
theorem trn_b (x y : Int) : 0 ≤ trnA x y ∧ trnA x y ≤ 6 := by
  unfold trnA
  have h := Int.emod_nonneg (y - x) (show (12 : Int) ≠ 0 by omega)
  have h' := Int.emod_lt_of_pos (y - x) (show (0 : Int) < 12 by omega)
  omega
theorem e_way (a0 : 0 ≤ a) (a1 : a ≤ 23) (b0 : 0 ≤ b) (b1 : b ≤ 23) (s : u_S) : f_X10_wayBetween a b s = some (wayA a b, s) := by
  have t1 := trn_b (min a b) (max a b)
  have t2 := trn_b (min a b + 9) (max a b)
  unfold f_X10_wayBetween wayA
  rw [e_mode a0 a1, bd_eq, e_mode b0 b1, bd_eq]
  by_cases h : a / 12 = b / 12
  · rw [if_pos h, if_pos h, e_turns (by omega) (by omega), bd_eq]
  · rw [if_neg h, if_neg h, e_min, bd_eq, e_max, bd_eq, e_turns (by omega) (by omega), bd_eq, wr_of (x := min a b + 9) (by omega) (by omega), e_turns (by omega) (by omega), bd_eq, wr_of (by omega) (by omega), wr_of (by omega) (by omega), e_min, bd_eq]
theorem e_road (a0 : 0 ≤ a) (a1 : a ≤ 23) (b0 : 0 ≤ b) (b1 : b ≤ 23) (s : u_S) : f_X10_roadBetween a b s = some (rdbA a b, s) := by
  unfold f_X10_roadBetween rdbA
  rw [e_mode a0 a1, bd_eq, e_mode b0 b1, bd_eq]
  by_cases h : a / 12 = b / 12
  · rw [if_pos h, if_pos h, e_turns (by omega) (by omega), bd_eq]
    split <;> rfl
  · rw [if_neg h, if_neg h, e_min, bd_eq, e_max, bd_eq, e_turns (by omega) (by omega), bd_eq]
    by_cases h1 : trnA (min a b) (max a b) = 0
    · rw [if_pos h1, if_pos h1]
    · rw [if_neg h1, if_neg h1, wr_of (x := min a b + 9) (by omega) (by omega), e_turns (by omega) (by omega), bd_eq]
      split <;> rfl
theorem e_mroad (a0 : 0 ≤ a) (a1 : a ≤ 23) (b0 : 0 ≤ b) (b1 : b ≤ 23) (s : u_S) : f_X11_road a b s = some (roaA a b, s) := by
  unfold f_X11_road roaA
  simp only [jn_eq]
  have key : ∀ x y : Int, 0 ≤ x → x ≤ 23 → 0 ≤ y → y ≤ 23 → (if (wr (Int.tdiv x 12)) = (wr (Int.tdiv y 12)) then (if (1 : Int) = 0 then (if (wr (y - 12)) = x then (some ((1 : Int), s)) else (if (wr (y - 12)) = (Int.tmod (wr (x + 9)) 12) then (some (2, s)) else (some ((-1), s)))) else (if (wr (y - x)) = 1 then some (1, s) else (if (wr (y - x)) = 11 then some (1, s) else (some ((-1), s))))) else (if (0 : Int) = 0 then (if (wr (y - 12)) = x then (some (1, s)) else (if (wr (y - 12)) = (Int.tmod (wr (x + 9)) 12) then (some (2, s)) else (some ((-1), s)))) else (if (wr (y - x)) = 1 then some (1, s) else (if (wr (y - x)) = 11 then some (1, s) else (some ((-1), s)))))) = some ((if x / 12 = y / 12 then (if y - x = 1 then 1 else if y - x = 11 then 1 else -1) else if y - 12 = x then 1 else if y - 12 = (x + 9) % 12 then 2 else -1), s) := by
    intro x y x0 x1 y0 y1
    rw [Int.tdiv_eq_ediv_of_nonneg x0, Int.tdiv_eq_ediv_of_nonneg y0, wr_of (x := x / 12) (by omega) (by omega), wr_of (x := y / 12) (by omega) (by omega), wr_of (x := y - x) (by omega) (by omega), wr_of (x := y - 12) (by omega) (by omega), wr_of (x := x + 9) (by omega) (by omega), Int.tmod_eq_emod_of_nonneg (by omega), if10, if00]
    split
    · split
      · rfl
      · split <;> rfl
    · split
      · rfl
      · split <;> rfl
  by_cases h : a < b
  · simp only [if_pos h]
    exact key a b a0 a1 b0 b1
  · simp only [if_neg h]
    exact key b a b0 b1 a0 a1
/-- sums that are less -/
theorem sm_mono2 {f g : Int → Int} : ∀ {n : Nat}, (∀ i : Int, 0 ≤ i → i < n → g i ≤ f i) → sm g n ≤ sm f n
  | 0, _ => Int.le_refl _
  | n + 1, h => by
    have h1 := sm_mono2 (n := n) (fun i h1 h2 => h i h1 (by omega))
    have h2 := h n (by omega) (by omega)
    show sm g n + g n ≤ sm f n + f n
    omega
theorem sm_lt {f g : Int → Int} {x : Int} (x0 : 0 ≤ x) : ∀ {n : Nat}, (∀ i : Int, 0 ≤ i → i < n → g i ≤ f i) → x < n → g x < f x → sm g n < sm f n
  | 0, _, h, _ => by omega
  | n + 1, h, hx, hl => by
    show sm g n + g n < sm f n + f n
    by_cases e : x = n
    · subst e
      have h1 := sm_mono2 (n := n) (fun i h1 h2 => h i h1 (by omega))
      omega
    · have h1 := sm_lt x0 (n := n) (fun i h1 h2 => h i h1 (by omega)) (by omega) hl
      have h2 := h n (by omega) (by omega)
      omega
def fro (o : u_O) : Prop := o = (24, 11, 0)
theorem fro_msc (o : u_O) (h : fro o) : msc o := by subst h; simp [msc]
def farS (s : u_S) (k : Int) : Int := rd s (24, 11, 0) k
/-- while a pass goes on: v, what is gone through -/
def PSI (b : Int) (s0 : u_S) (D : Int → Int → Prop) (v : Int) (s : u_S) : Prop := Only fro s0 s ∧ (∀ k, 0 ≤ k → k ≤ 23 → wayA k b ≤ farS s k ∧ farS s k ≤ farS s0 k) ∧ ((v = 0 ∧ (∀ k, 0 ≤ k → k ≤ 23 → farS s k = farS s0 k) ∧ ∀ a k, D a k → roaA a k ≠ -1 → farS s0 a ≤ roaA a k + farS s0 k) ∨ (v = 1 ∧ sm (farS s) 24 < sm (farS s0) 24))
theorem e_pass1 (b0 : 0 ≤ b) (b1 : b ≤ 23) {s0 : u_S} (hup : ∀ k, 0 ≤ k → k ≤ 23 → farS s0 k ≤ 999) (a0 : 0 ≤ a) (a1 : a ≤ 23) {D : Int → Int → Prop} {v : Int} (h : PSI b s0 D v s) (kx : Int → u_S → Option (Int × u_S)) : ∃ v' s', f_X11_laysWays_L51 FU kx oM a v 0 s = kx v' s' ∧ PSI b s0 (fun x y => D x y ∨ (x = a ∧ 0 ≤ y ∧ y ≤ 23)) v' s' := by
  obtain ⟨q, e, h1, h2⟩ := loop_relfu (fun m (q : Int × Int × u_S) => f_X11_laysWays_L51 m kx oM a q.1 q.2.1 q.2.2) (fun j q => q.2.1 = (j : Int) ∧ PSI b s0 (fun x y => D x y ∨ (x = a ∧ 0 ≤ y ∧ y < (j : Int))) q.1 q.2.2) (fun q => kx q.1 q.2.2) 24 (by omega) (by
    intro j q m hj ⟨e1, e2⟩
    obtain ⟨v, q2, s1⟩ := q
    dsimp only at e1 e2
    subst e1
    obtain ⟨i1, i2, i3⟩ := e2
    have wa := i2 a a0 a1
    have wj := i2 (j : Int) (by omega) (by omega)
    have ua := hup a a0 a1
    have uj := hup (j : Int) (by omega) (by omega)
    have ba := way_b a0 a1 b0 b1
    have bj := way_b (show (0 : Int) ≤ j by omega) (by omega) b0 b1
    have hr := roa_rdb a0 a1 (show (0 : Int) ≤ j by omega) (by omega)
    have hrb := rdb_b a0 a1 (show (0 : Int) ≤ j by omega) (by omega)
    have ht := way_tri a0 a1 b0 b1 (show (0 : Int) ≤ j by omega) (by omega)
    have noch : (roaA a j ≠ -1 → farS s1 a ≤ roaA a j + farS s1 j) → ∃ q' : Int × Int × u_S, (f_X11_laysWays_L51 m kx oM a v (wr ((j : Int) + 1)) s1 = f_X11_laysWays_L51 m kx oM a q'.1 q'.2.1 q'.2.2) ∧ q'.2.1 = ((j + 1 : Nat) : Int) ∧ PSI b s0 (fun x y => D x y ∨ (x = a ∧ 0 ≤ y ∧ y < ((j + 1 : Nat) : Int))) q'.1 q'.2.2 := by
      intro hn
      refine ⟨(v, wr ((j : Int) + 1), s1), rfl, by dsimp only; rw [wr_of (by omega) (by omega)]; omega, i1, i2, ?_⟩
      rcases i3 with ⟨p1, p2, p3⟩ | p
      · refine Or.inl ⟨p1, p2, fun x y hd hro => ?_⟩
        rcases hd with hd | ⟨hd1, hd2, hd3⟩
        · exact p3 x y (Or.inl hd) hro
        · by_cases ey : y = j
          · subst hd1 ey
            rw [← p2 x a0 a1, ← p2 (j : Int) (by omega) (by omega)]
            exact hn hro
          · exact p3 x y (Or.inr ⟨hd1, hd2, by omega⟩) hro
      · exact Or.inr p
    show ∃ q' : Int × Int × u_S, f_X11_laysWays_L51 (m + 1) kx oM a v (j : Int) s1 = f_X11_laysWays_L51 m kx oM a q'.1 q'.2.1 q'.2.2 ∧ _
    rw [f_X11_laysWays_L51, if_pos (by omega), e_mroad a0 a1 (by omega) (by omega), bd_eq, jn_eq]
    by_cases hro : roaA a j = -1
    · rw [if_pos hro]
      exact noch (fun z => absurd hro z)
    · have hg : 1 ≤ roaA a j ∧ roaA a j ≤ 2 := by
        rw [hr] at hro ⊢
        split at hro
        · omega
        · rename_i hz
          rw [if_neg hz]
          omega
      have ht' : wayA a b ≤ roaA a j + wayA j b := by
        rcases ht with ht | ht
        · exact absurd ht hro
        · exact ht
      rw [if_neg hro, gd_of (by omega) (by omega), gd_of (by omega) (by omega), show a_Mo_far oM = (24, 11, 0) from rfl]
      show ∃ q' : Int × Int × u_S, (if wr (roaA a j + farS s1 j) < farS s1 a then _ else _) = _ ∧ _
      rw [wr_of (x := roaA a j + farS s1 j) (by omega) (by omega)]
      by_cases hlt : roaA a j + farS s1 j < farS s1 a
      · rw [if_pos hlt, gd_of (by omega) (by omega), gd_of (by omega) (by omega)]
        have hw : ∀ k, farS (wt s1 (24, 11, 0) a (wr (roaA a j + rd s1 (24, 11, 0) j))) k = if k = a then roaA a j + farS s1 j else farS s1 k := by
          intro k
          unfold farS
          by_cases e : k = a
          · subst e
            rw [if_pos rfl, rd_wt_same, wr_in (InR_wr _)]
            exact wr_of (x := roaA k j + farS s1 j) (by omega) (by omega)
          · rw [if_neg e, rd_wt_k e]
        refine ⟨(1, wr ((j : Int) + 1), wt s1 (24, 11, 0) a (wr (roaA a j + rd s1 (24, 11, 0) j))), rfl, by dsimp only; rw [wr_of (by omega) (by omega)]; omega, i1.wt rfl _ _, fun k k0 k1 => ?_, Or.inr ⟨rfl, ?_⟩⟩
        · dsimp only
          rw [hw]
          have := i2 k k0 k1
          split
          · rename_i e; subst e; omega
          · exact this
        · have l1 : sm (farS (wt s1 (24, 11, 0) a (wr (roaA a j + rd s1 (24, 11, 0) j)))) 24 < sm (farS s1) 24 := sm_lt a0 (fun i _ _ => by
            rw [hw]
            split
            · rename_i e; subst e; omega
            · exact Int.le_refl _) (by omega) (by rw [hw, if_pos rfl]; exact hlt)
          have l2 : sm (farS s1) 24 ≤ sm (farS s0) 24 := sm_mono2 (fun i x y => (i2 i x (by omega)).2)
          exact Int.lt_of_lt_of_le l1 l2
      · rw [if_neg hlt]
        exact noch (fun _ => by omega)) (by
    intro q m ⟨e1, e2⟩
    rw [f_X11_laysWays_L51, if_neg (by omega)]) (v, 0, s) ⟨rfl, h.1, h.2.1, by
      rcases h.2.2 with ⟨p1, p2, p3⟩ | p
      · refine Or.inl ⟨p1, p2, fun x y hd hro => ?_⟩
        rcases hd with hd | ⟨_, h3, h4⟩
        · exact p3 x y hd hro
        · exact absurd h4 (by omega)
      · exact Or.inr p⟩
  refine ⟨q.1, q.2.2, e, h2.1, h2.2.1, ?_⟩
  rcases h2.2.2 with ⟨p1, p2, p3⟩ | p
  · refine Or.inl ⟨p1, p2, fun x y hd hro => p3 x y ?_ hro⟩
    rcases hd with hd | ⟨h3, h4, h5⟩
    · exact Or.inl hd
    · exact Or.inr ⟨h3, h4, by omega⟩
  · exact Or.inr p
theorem e_pass (b0 : 0 ≤ b) (b1 : b ≤ 23) (hlo : ∀ k, 0 ≤ k → k ≤ 23 → wayA k b ≤ farS s k) (hup : ∀ k, 0 ≤ k → k ≤ 23 → farS s k ≤ 999) (kx : Int → u_S → Option (Int × u_S)) : ∃ v' s', f_X11_laysWays_L42 FU kx oM 0 0 s = kx v' s' ∧ PSI b s (fun x y => (0 ≤ x ∧ x ≤ 23) ∧ 0 ≤ y ∧ y ≤ 23) v' s' := by
  obtain ⟨q, e, h1, h2⟩ := loop_relfu (fun m (q : Int × Int × u_S) => f_X11_laysWays_L42 m kx oM q.1 q.2.1 q.2.2) (fun j q => q.2.1 = (j : Int) ∧ PSI b s (fun x y => (0 ≤ x ∧ x < (j : Int)) ∧ 0 ≤ y ∧ y ≤ 23) q.1 q.2.2) (fun q => kx q.1 q.2.2) 24 (by omega) (by
    intro j q m hj ⟨e1, e2⟩
    obtain ⟨v, q2, s1⟩ := q
    dsimp only at e1 e2
    subst e1
    obtain ⟨v', s', p1, p2⟩ := e_pass1 (a := (j : Int)) b0 b1 hup (by omega) (by omega) e2 (fun v2_4 s_6 => f_X11_laysWays_L42 m kx oM v2_4 (wr ((j : Int) + 1)) s_6)
    refine ⟨(v', wr ((j : Int) + 1), s'), ?_, by dsimp only; rw [wr_of (by omega) (by omega)]; omega, p2.1, p2.2.1, ?_⟩
    · dsimp only
      rw [f_X11_laysWays_L42, if_pos (by omega), p1]
    · rcases p2.2.2 with ⟨g1, g2, g3⟩ | g
      · refine Or.inl ⟨g1, g2, fun x y hd hro => g3 x y ?_ hro⟩
        by_cases ex : x = j
        · exact Or.inr ⟨ex, hd.2⟩
        · exact Or.inl ⟨⟨hd.1.1, by have := hd.1.2; omega⟩, hd.2⟩
      · exact Or.inr g) (by
    intro q m ⟨e1, e2⟩
    rw [f_X11_laysWays_L42, if_neg (by omega)]) (0, 0, s) ⟨rfl, Only.refl _ _, fun k k0 k1 => ⟨hlo k k0 k1, Int.le_refl _⟩, Or.inl ⟨rfl, fun _ _ _ => rfl, fun x y hd => absurd hd.1.2 (by omega)⟩⟩
  refine ⟨q.1, q.2.2, e, h2.1, h2.2.1, ?_⟩
  rcases h2.2.2 with ⟨p1, p2, p3⟩ | p
  · exact Or.inl ⟨p1, p2, fun x y hd hro => p3 x y ⟨⟨hd.1.1, by omega⟩, hd.2⟩ hro⟩
  · exact Or.inr p
/-- when nothing is less through others, all are ways -/
theorem way_done (b0 : 0 ≤ b) (b1 : b ≤ 23) {F : Int → Int} (hlo : ∀ k, 0 ≤ k → k ≤ 23 → wayA k b ≤ F k) (hb : F b ≤ 0) (hno : ∀ a k, (0 ≤ a ∧ a ≤ 23) ∧ 0 ≤ k ∧ k ≤ 23 → roaA a k ≠ -1 → F a ≤ roaA a k + F k) : ∀ a, 0 ≤ a → a ≤ 23 → F a = wayA a b := by
  have key : ∀ (N : Nat) (a : Int), 0 ≤ a → a ≤ 23 → wayA a b ≤ N → F a ≤ wayA a b := by
    intro N
    induction N with
    | zero =>
      intro a a0 a1 h
      have h1 := way_b a0 a1 b0 b1
      have h2 := (way_0 a0 a1 b0 b1).mp (by omega)
      subst h2
      omega
    | succ N ih =>
      intro a a0 a1 h
      by_cases e : a = b
      · subst e
        have h1 := way_b a0 a1 b0 b1
        omega
      · obtain ⟨k, k0, k1, k2, k3⟩ := way_hop a0 a1 b0 b1 e
        have hr := roa_rdb a0 a1 k0 k1
        have hrb := rdb_b a0 a1 k0 k1
        have hg : 1 ≤ roaA a k := by
          rw [hr] at k2 ⊢
          split at k2
          · omega
          · rename_i hz
            rw [if_neg hz]
            omega
        have h2 := ih k k0 k1 (by omega)
        have h3 := hno a k ⟨⟨a0, a1⟩, k0, k1⟩ k2
        omega
  intro a a0 a1
  have h1 := hlo a a0 a1
  have h2 := key (wayA a b).toNat a a0 a1 (by omega)
  omega
theorem e_while (b0 : 0 ≤ b) (b1 : b ≤ 23) (kx : u_S → Option (Int × u_S)) : ∀ (N : Nat) (m : Nat) (s : u_S), sm (farS s) 24 ≤ N → N + 1 < m → (∀ k, 0 ≤ k → k ≤ 23 → wayA k b ≤ farS s k ∧ farS s k ≤ 999) → farS s b ≤ 0 → ∃ s', f_X11_laysWays_L34 m kx oM 1 s = kx s' ∧ Only fro s s' ∧ ∀ k, 0 ≤ k → k ≤ 23 → farS s' k = wayA k b := by
  intro N
  induction N with
  | zero =>
    intro m s hN hm hF hb
    cases m with
    | zero => omega
    | succ m =>
      obtain ⟨v, s1, p1, p2, p3, p4⟩ := e_pass b0 b1 (fun k x y => (hF k x y).1) (fun k x y => (hF k x y).2) (fun v2_2 s_4 => f_X11_laysWays_L34 m kx oM v2_2 s_4)
      rcases p4 with ⟨rfl, g2, g3⟩ | ⟨rfl, g2⟩
      · cases m with
        | zero => omega
        | succ m =>
          refine ⟨s1, ?_, p2, fun k x y => ?_⟩
          · rw [f_X11_laysWays_L34, if_neg (by omega), p1, f_X11_laysWays_L34, if_pos rfl]
          · rw [g2 k x y]
            exact way_done b0 b1 (fun k x y => (hF k x y).1) hb g3 k x y
      · have h0 := sm_ge (f := farS s1) (b := 0) (n := 24) (fun i x y => by
          have := (p3 i x (by omega)).1
          have := way_b x (show i ≤ 23 by omega) b0 b1
          omega)
        omega
  | succ N ih =>
    intro m s hN hm hF hb
    cases m with
    | zero => omega
    | succ m =>
      obtain ⟨v, s1, p1, p2, p3, p4⟩ := e_pass b0 b1 (fun k x y => (hF k x y).1) (fun k x y => (hF k x y).2) (fun v2_2 s_4 => f_X11_laysWays_L34 m kx oM v2_2 s_4)
      rcases p4 with ⟨rfl, g2, g3⟩ | ⟨rfl, g2⟩
      · cases m with
        | zero => omega
        | succ m =>
          refine ⟨s1, ?_, p2, fun k x y => ?_⟩
          · rw [f_X11_laysWays_L34, if_neg (by omega), p1, f_X11_laysWays_L34, if_pos rfl]
          · rw [g2 k x y]
            exact way_done b0 b1 (fun k x y => (hF k x y).1) hb g3 k x y
      · obtain ⟨s2, q1, q2, q3⟩ := ih m s1 (by omega) (by omega) (fun k x y => ⟨(p3 k x y).1, Int.le_trans (p3 k x y).2 (hF k x y).2⟩) (Int.le_trans (p3 b b0 b1).2 hb)
        refine ⟨s2, ?_, p2.trans q2, q3⟩
        rw [f_X11_laysWays_L34, if_neg (by omega), p1, q1]
theorem e_laysWays (b0 : 0 ≤ b) (b1 : b ≤ 23) (s : u_S) : ∃ s', f_X11_laysWays oM b s = some (0, s') ∧ Only fro s s' ∧ ∀ k, 0 ≤ k → k ≤ 23 → rd s' (24, 11, 0) k = wayA k b := by
  unfold f_X11_laysWays
  obtain ⟨q, e, h1, h2, h3⟩ := loop_relfu (fun m (q : Int × u_S) => f_X11_laysWays_L4 m (fun s_1 => f_X11_laysWays_L34 FU (fun s_2 => some (0, s_2)) oM 1 s_1) oM b 1 q.1 q.2) (fun j q => q.1 = (j : Int) ∧ Only fro s q.2 ∧ ∀ k, 0 ≤ k → k < (j : Int) → farS q.2 k = if k = b then 0 else 999) (fun q => f_X11_laysWays_L34 FU (fun s_2 => some (0, s_2)) oM 1 q.2) 24 (by omega) (by
    intro j q m hj ⟨e1, e2, e3⟩
    obtain ⟨q1, s1⟩ := q
    dsimp only at e1 e2 e3
    subst e1
    refine ⟨(wr ((j : Int) + 1), wt s1 (24, 11, 0) j (if (j : Int) = b then 0 else 999)), ?_, by dsimp only; rw [wr_of (by omega) (by omega)]; omega, e2.wt rfl _ _, fun k k0 k1 => ?_⟩
    · dsimp only
      rw [f_X11_laysWays_L4, if_pos (by omega)]
      simp only [jn_eq]
      rw [show a_Mo_far oM = (24, 11, 0) from rfl]
      by_cases hb : (j : Int) = b
      · rw [if_pos hb, if_pos hb, gd_of (by omega) (by show (j : Int) < 24; omega)]
      · rw [if_neg hb, if_neg hb, gd_of (by omega) (by show (j : Int) < 24; omega)]
    · dsimp only
      unfold farS
      by_cases ek : k = j
      · subst ek
        rw [rd_wt_same]
        split <;> rfl
      · rw [rd_wt_k ek]
        exact e3 k k0 (by omega)) (by
    intro q m ⟨e1, e2, e3⟩
    rw [f_X11_laysWays_L4, if_neg (by omega)]) (0, s) ⟨rfl, Only.refl _ _, fun k k0 k1 => absurd k1 (by omega)⟩
  have hF : ∀ k, 0 ≤ k → k ≤ 23 → wayA k b ≤ farS q.2 k ∧ farS q.2 k ≤ 999 := by
    intro k k0 k1
    rw [h3 k k0 (by omega)]
    have hw := way_b k0 k1 b0 b1
    split
    · rename_i ek
      have := (way_0 k0 k1 b0 b1).mpr ek
      omega
    · omega
  have hs := sm_le (f := farS q.2) (b := 999) (n := 24) (fun i x y => (hF i x (by omega)).2)
  obtain ⟨s2, q1, q2, q3⟩ := e_while b0 b1 (fun s_2 => some (0, s_2)) 23976 FU q.2 (by omega) (by unfold FU; omega) hF (by rw [h3 b b0 (by omega), if_pos rfl]; omega)
  refine ⟨s2, ?_, h2.trans q2, q3⟩
  exact e.trans q1
theorem call_way (a b : Int) : Call (f_X10_way oF a b) (f_X11_way oM a b) := by
  intro A H k T tl c hw
  by_cases h1 : 0 ≤ a ∧ a ≤ 23
  · by_cases h2 : 0 ≤ b ∧ b ≤ 23
    · refine at_ask (wayA a b) hw (fun s hs => ⟨s, ?_, Only.refl _ _⟩) (fun s hs => ?_)
      · unfold f_X10_way
        rw [e_isKey, bd_eq, if_pos h1, jn_eq, if10, e_isKey, bd_eq, if_pos h2, if10, e_way h1.1 h1.2 h2.1 h2.2, bd_eq]
      · obtain ⟨s1, x1, x2, x3⟩ := e_laysWays h2.1 h2.2 s
        unfold f_X11_way f_X11_wayOf
        rw [e_misKey, bd_eq, if_pos h1, jn_eq, if10, e_misKey, bd_eq, if_pos h2, if10, x1, bd_eq, gd_of (by omega) (by omega), bd_eq, show a_Mo_far oM = (24, 11, 0) from rfl, x3 a h1.1 h1.2]
        exact ⟨s1, rfl, x2.mono fro_msc⟩
    · refine at_no (r := -2) (by omega) hw (fun s hs => ?_) (fun s hs => ?_)
      · unfold f_X10_way
        rw [e_isKey, bd_eq, if_pos h1, jn_eq, if10, e_isKey, bd_eq, if_neg h2, if00]
      · unfold f_X11_way
        rw [e_misKey, bd_eq, if_pos h1, jn_eq, if10, e_misKey, bd_eq, if_neg h2, if00]
  · refine at_no (r := -2) (by omega) hw (fun s hs => ?_) (fun s hs => ?_)
    · unfold f_X10_way
      rw [e_isKey, bd_eq, if_neg h1, jn_eq, if00]
    · unfold f_X11_way
      rw [e_misKey, bd_eq, if_neg h1, jn_eq, if00]
def nxtC (a b : Int) (k : Nat) : Bool := decide (0 < rdbA a k ∧ rdbA a k + wayA k b = wayA a b)
def nxtA (a b : Int) : Int := match ff (nxtC a b) 0 24 with
  | some k => (k : Int)
  | none => -1
theorem e_next (a0 : 0 ≤ a) (a1 : a ≤ 23) (b0 : 0 ≤ b) (b1 : b ≤ 23) (s : u_S) : f_X10_next_L23 FU (fun s_5 => some ((-1), s_5)) a b 0 s = some (nxtA a b, s) := by
  have q := loop_fffu (fun m (k : Nat) => f_X10_next_L23 m (fun s_5 => some ((-1), s_5)) a b (k : Int) s) (nxtC a b) (fun k => some ((k : Int), s)) (some ((-1), s)) 24 (by omega) (by
    intro j m hj
    have b2 := way_b (show (0 : Int) ≤ j by omega) (by omega) b0 b1
    have b3 := rdb_b a0 a1 (show (0 : Int) ≤ j by omega) (by omega)
    try dsimp only
    rw [f_X10_next_L23, if_pos (by omega), e_road a0 a1 (by omega) (by omega), bd_eq, jn_eq, e_way (by omega) (by omega) b0 b1, bd_eq, e_way a0 a1 b0 b1, bd_eq, wr_of (x := (j : Int) + 1) (by omega) (by omega), wr_of (x := rdbA a j + wayA j b) (by omega) (by omega)]
    unfold nxtC
    by_cases h1 : rdbA a j ≤ 0
    · rw [if_pos h1, if_neg (fun z => by have := (of_decide_eq_true z).1; omega)]
      rfl
    · rw [if_neg h1]
      by_cases h2 : rdbA a j + wayA j b = wayA a b
      · rw [if_pos h2, if_pos (decide_eq_true ⟨by omega, h2⟩)]
      · rw [if_neg h2, if_neg (fun z => h2 (of_decide_eq_true z).2)]
        rfl) (by
    intro m
    try dsimp only
    rw [f_X10_next_L23, if_neg (by omega)])
  refine q.trans ?_
  unfold nxtA
  cases ff (nxtC a b) 0 24 <;> rfl
theorem nxt_same (a0 : 0 ≤ a) (a1 : a ≤ 23) : nxtA a a = -1 := by
  unfold nxtA
  rw [ff_no (fun x hx => ?_)]
  refine decide_eq_false (fun z => ?_)
  have b2 := way_b (show (0 : Int) ≤ x by omega) (by omega) a0 a1
  have b3 := (way_0 a0 a1 a0 a1).mpr rfl
  omega
theorem e_mnext (a0 : 0 ≤ a) (a1 : a ≤ 23) (b0 : 0 ≤ b) (b1 : b ≤ 23) {s : u_S} (hf : ∀ k, 0 ≤ k → k ≤ 23 → rd s (24, 11, 0) k = wayA k b) : f_X11_next_L28 FU (fun s_6 => some ((-1), s_6)) oM a b 0 s = some (nxtA a b, s) := by
  by_cases hab : a = b
  · subst hab
    rw [nxt_same a0 a1]
    show f_X11_next_L28 (99999 + 1) _ oM a a 0 s = _
    rw [f_X11_next_L28, if_pos (by omega), if_pos rfl]
  have q := loop_fffu (fun m (k : Nat) => f_X11_next_L28 m (fun s_6 => some ((-1), s_6)) oM a b (k : Int) s) (nxtC a b) (fun k => some ((k : Int), s)) (some ((-1), s)) 24 (by omega) (by
    intro j m hj
    have b2 := way_b (show (0 : Int) ≤ j by omega) (by omega) b0 b1
    have b3 := rdb_b a0 a1 (show (0 : Int) ≤ j by omega) (by omega)
    have hr := roa_rdb a0 a1 (show (0 : Int) ≤ j by omega) (by omega)
    try dsimp only
    rw [f_X11_next_L28, if_pos (by omega), if_neg hab, e_mroad a0 a1 (by omega) (by omega), bd_eq, jn_eq, e_mroad a0 a1 (by omega) (by omega), bd_eq, gd_of (by omega) (by omega), gd_of (by omega) (by omega), show a_Mo_far oM = (24, 11, 0) from rfl, hf j (by omega) (by omega), hf a a0 a1, wr_of (x := (j : Int) + 1) (by omega) (by omega)]
    unfold nxtC
    by_cases h1 : rdbA a j = 0
    · rw [hr, if_pos h1, if_pos rfl, if_neg (fun z => by have := (of_decide_eq_true z).1; omega)]
      rfl
    · rw [hr, if_neg h1, if_neg (by omega), wr_of (x := rdbA a j + wayA j b) (by omega) (by omega)]
      by_cases h2 : rdbA a j + wayA j b = wayA a b
      · rw [if_pos h2, if_pos (decide_eq_true ⟨by omega, h2⟩)]
      · rw [if_neg h2, if_neg (fun z => h2 (of_decide_eq_true z).2)]
        rfl) (by
    intro m
    try dsimp only
    rw [f_X11_next_L28, if_neg (by omega)])
  refine q.trans ?_
  unfold nxtA
  cases ff (nxtC a b) 0 24 <;> rfl
theorem call_next (a b : Int) : Call (f_X10_next oF a b) (f_X11_next oM a b) := by
  intro A H k T tl c hw
  by_cases h1 : 0 ≤ a ∧ a ≤ 23
  · by_cases h2 : 0 ≤ b ∧ b ≤ 23
    · refine at_ask (nxtA a b) hw (fun s hs => ⟨s, ?_, Only.refl _ _⟩) (fun s hs => ?_)
      · unfold f_X10_next
        rw [e_isKey, bd_eq, if_pos h1, jn_eq, if10, e_isKey, bd_eq, if_pos h2, if10, e_next h1.1 h1.2 h2.1 h2.2]
      · obtain ⟨s1, x1, x2, x3⟩ := e_laysWays h2.1 h2.2 s
        unfold f_X11_next
        rw [e_misKey, bd_eq, if_pos h1, jn_eq, if10, e_misKey, bd_eq, if_pos h2, if10, x1, bd_eq, e_mnext h1.1 h1.2 h2.1 h2.2 x3]
        exact ⟨s1, rfl, x2.mono fro_msc⟩
    · refine at_no (r := -2) (by omega) hw (fun s hs => ?_) (fun s hs => ?_)
      · unfold f_X10_next
        rw [e_isKey, bd_eq, if_pos h1, jn_eq, if10, e_isKey, bd_eq, if_neg h2, if00]
      · unfold f_X11_next
        rw [e_misKey, bd_eq, if_pos h1, jn_eq, if10, e_misKey, bd_eq, if_neg h2, if00]
  · refine at_no (r := -2) (by omega) hw (fun s hs => ?_) (fun s hs => ?_)
    · unfold f_X10_next
      rw [e_isKey, bd_eq, if_neg h1, jn_eq, if00]
    · unfold f_X11_next
      rw [e_misKey, bd_eq, if_neg h1, jn_eq, if00]
end WAY
