/-! THE PURE LEVEL: loops, sums, states that agree -/
theorem FU_gt {n : Nat} (h : n < 100000) : n < FU := h
theorem loop_up {β α : Type} (L : Nat → β → Option α) (F : Nat → β) (X : Option α) (n : Nat) (hs : ∀ j m, j < n → L (m + 1) (F j) = L m (F (j + 1))) (he : ∀ m, L (m + 1) (F n) = X) : ∀ (k j m : Nat), j + k = n → k < m → L m (F j) = X
  | 0, j, m, h1, h2 => by
    cases m with
    | zero => omega
    | succ m =>
      have : j = n := by omega
      subst this
      exact he m
  | k + 1, j, m, h1, h2 => by
    cases m with
    | zero => omega
    | succ m =>
      rw [hs j m (by omega)]
      exact loop_up L F X n hs he k (j + 1) m (by omega) (by omega)
theorem loop_fu {β α : Type} (L : Nat → β → Option α) (F : Nat → β) (X : Option α) (n : Nat) (hn : n < 100000) (hs : ∀ j m, j < n → L (m + 1) (F j) = L m (F (j + 1))) (he : ∀ m, L (m + 1) (F n) = X) : L FU (F 0) = X :=
  loop_up L F X n hs he n 0 FU (by omega) (FU_gt hn)
theorem gd_of {α : Type} {i : Int} {n : Nat} {k : Option α} (h0 : 0 ≤ i) (h1 : i < (n : Int)) : gd i n k = k := if_pos ⟨h0, h1⟩
theorem nz_of {α : Type} {b : Int} {k : Option α} (h : b ≠ 0) : nz b k = k := if_neg h
theorem jn_eq {α β : Type} (k : α) (b : α → β) : jn k b = b k := rfl
theorem b10_0 {c : Prop} [Decidable c] : ((if c then (1 : Int) else 0) = 0) = ¬ c := by by_cases h : c <;> simp [h]
theorem b10_1 {c : Prop} [Decidable c] : ((if c then (1 : Int) else 0) = 1) = c := by by_cases h : c <;> simp [h]
theorem if10 {α : Type} {a b : α} : (if (1 : Int) = 0 then a else b) = b := rfl
theorem if00 {α : Type} {a b : α} : (if (0 : Int) = 0 then a else b) = a := rfl
theorem if_not' {α : Type} {c : Prop} [Decidable c] (a b : α) : (if ¬ c then a else b) = if c then b else a := by by_cases h : c <;> simp [h]
theorem if_and2 {α : Type} {c d : Prop} [Decidable c] [Decidable d] (a b : α) : (if c then (if d then a else b) else b) = if c ∧ d then a else b := by by_cases h : c <;> by_cases h2 : d <;> simp [h, h2]
theorem if_some {c : Prop} [Decidable c] (a b : Int) (s : u_S) : (if c then some (a, s) else some (b, s)) = some ((if c then a else b), s) := by split <;> rfl
theorem rd_wt (s : u_S) (o o' : u_O) (k k' v : Int) : rd (wt s o k v) o' k' = if o' = o ∧ k' = k then wr v else rd s o' k' := by
  unfold rd wt
  split <;> rfl
theorem rd_wt_same (s : u_S) (o : u_O) (k v : Int) : rd (wt s o k v) o k = wr v := by rw [rd_wt, if_pos ⟨rfl, rfl⟩]
theorem rd_wt_o {s : u_S} {o o' : u_O} {k k' v : Int} (h : o' ≠ o) : rd (wt s o k v) o' k' = rd s o' k' := by rw [rd_wt, if_neg (fun z => h z.1)]
theorem rd_wt_k {s : u_S} {o o' : u_O} {k k' v : Int} (h : k' ≠ k) : rd (wt s o k v) o' k' = rd s o' k' := by rw [rd_wt, if_neg (fun z => h z.2)]
theorem rd_lo (s : u_S) (o : u_O) (k : Int) : -2147483648 ≤ rd s o k := (InR_iff.mp (InR_rd s o k)).1
theorem rd_hi (s : u_S) (o : u_O) (k : Int) : rd s o k < 2147483648 := (InR_iff.mp (InR_rd s o k)).2
theorem J_inj {a b : Int} (ha : InR a) (hb : InR b) (h : J a = J b) : a = b := (J_eq ha hb).mp h
/-- sums -/
def sm (f : Int → Int) : Nat → Int
  | 0 => 0
  | n + 1 => sm f n + f n
theorem sm_congr {f g : Int → Int} : ∀ {n : Nat}, (∀ i : Int, 0 ≤ i → i < n → f i = g i) → sm f n = sm g n
  | 0, _ => rfl
  | n + 1, h => by
    show sm f n + f n = sm g n + g n
    rw [sm_congr (n := n) (fun i h1 h2 => h i h1 (by omega)), h n (by omega) (by omega)]
theorem sm_le {f : Int → Int} {b : Int} : ∀ {n : Nat}, (∀ i : Int, 0 ≤ i → i < n → f i ≤ b) → sm f n ≤ b * n
  | 0, _ => by simp [sm]
  | n + 1, h => by
    have h1 := sm_le (n := n) (fun i h1 h2 => h i h1 (by omega))
    have h2 := h n (by omega) (by omega)
    show sm f n + f n ≤ b * ((n + 1 : Nat) : Int)
    rw [Int.natCast_add, Int.mul_add]
    omega
theorem sm_ge {f : Int → Int} {b : Int} : ∀ {n : Nat}, (∀ i : Int, 0 ≤ i → i < n → b ≤ f i) → b * n ≤ sm f n
  | 0, _ => by simp [sm]
  | n + 1, h => by
    have h1 := sm_ge (n := n) (fun i h1 h2 => h i h1 (by omega))
    have h2 := h n (by omega) (by omega)
    show b * ((n + 1 : Nat) : Int) ≤ sm f n + f n
    rw [Int.natCast_add, Int.mul_add]
    omega
theorem sm_mono {f : Int → Int} {n : Nat} (h : ∀ i : Int, 0 ≤ i → i < n → 0 ≤ f i) : ∀ {k : Nat}, k ≤ n → sm f k ≤ sm f n := by
  induction n with
  | zero => intro k hk; have : k = 0 := by omega
            subst this; exact Int.le_refl _
  | succ n ih =>
    intro k hk
    by_cases e : k = n + 1
    · subst e; exact Int.le_refl _
    · have h1 := ih (fun i h1 h2 => h i h1 (by omega)) (k := k) (by omega)
      have h2 := h n (by omega) (by omega)
      show sm f k ≤ sm f n + f n
      omega
theorem sm_zero {f : Int → Int} {n : Nat} (h : ∀ i : Int, 0 ≤ i → i < n → f i = 0) : sm f n = 0 := by
  rw [sm_congr (g := fun _ => 0) h]
  clear h
  induction n with
  | zero => rfl
  | succ n ih => show sm (fun _ => 0) n + 0 = 0; rw [ih]; rfl
/-- the JDK's own -/
theorem ixor_neg {a b : Int} (ha : InR a) (hb : InR b) : ixor a b < 0 ↔ ¬ (a < 0 ↔ b < 0) := by
  unfold ixor
  have key : ∀ x : Int32, x.toInt < 0 ↔ x.toBitVec.msb = true := by
    intro x
    rw [BitVec.msb_eq_toInt, decide_eq_true_iff]
    exact Iff.rfl
  rw [key, Int32.toBitVec_xor, BitVec.msb_xor]
  have h1 := key (J a)
  have h2 := key (J b)
  rw [J_int ha] at h1
  rw [J_int hb] at h2
  rw [h1, h2]
  cases (J a).toBitVec.msb <;> cases (J b).toBitVec.msb <;> simp
theorem e_floorMod {p1 p2 : Int} (h1 : InR p1) (h2 : 0 < p2) (h3 : InR p2) (s : u_S) : f_J9_floorMod_7cf53 p1 p2 s = some (p1 % p2, s) := by
  unfold f_J9_floorMod_7cf53
  rw [nz_of (by omega)]
  have hx := ixor_neg h1 h3
  have b1 := InR_iff.mp h1
  have b3 := InR_iff.mp h3
  by_cases h0 : 0 ≤ p1
  · have e : Int.tmod p1 p2 = p1 % p2 := Int.tmod_eq_emod_of_nonneg h0
    rw [if_neg (by rw [hx]; simp; omega), e]
  · rw [if_pos (by rw [hx]; omega)]
    have e : Int.tmod p1 p2 = -((-p1) % p2) := by
      rw [show p1 = -(-p1) by omega, Int.neg_tmod, Int.tmod_eq_emod_of_nonneg (by omega)]
      simp
    have q1 := Int.emod_nonneg (-p1) (show p2 ≠ 0 by omega)
    have q2 := Int.emod_lt_of_pos (-p1) h2
    by_cases hz : (-p1) % p2 = 0
    · rw [if_pos (by rw [e, hz]; rfl), e, hz]
      have : p1 % p2 = 0 := Int.emod_eq_zero_of_dvd ((Int.dvd_neg).mp (Int.dvd_of_emod_eq_zero hz))
      rw [this]; rfl
    · rw [if_neg (by rw [e]; omega), e, wr_of (by omega) (by omega)]
      congr 2
      have h4 : p1 = p2 * (-((-p1) / p2) - 1) + (p2 - (-p1) % p2) := by
        have := Int.mul_ediv_add_emod (-p1) p2
        rw [Int.mul_sub, Int.mul_neg]
        omega
      have h5 : p1 % p2 = p2 - (-p1) % p2 := by
        conv => lhs; rw [h4]
        rw [Int.mul_add_emod_self_left]
        exact Int.emod_eq_of_lt (by omega) (by omega)
      omega
theorem e_max (p1 p2 : Int) (s : u_S) : f_J9_max_7cf53 p1 p2 s = some (max p1 p2, s) := by
  unfold f_J9_max_7cf53
  split <;> (congr 2; omega)
theorem e_min (p1 p2 : Int) (s : u_S) : f_J9_min_7cf53 p1 p2 s = some (min p1 p2, s) := by
  unfold f_J9_min_7cf53
  split <;> (congr 2; omega)
theorem e_within (p a b : Int) (s : u_S) : f_X10_within p a b s = some ((if a ≤ p ∧ p ≤ b then 1 else 0), s) := by
  unfold f_X10_within
  by_cases h1 : p < a
  · rw [if_pos h1, if_neg (by omega)]
  · rw [if_neg h1]
    by_cases h2 : p ≤ b
    · rw [if_pos h2, if_pos (by omega)]
    · rw [if_neg h2, if_neg (by omega)]
theorem e_isLine (p : Int) (s : u_S) : f_X10_isLine p s = some ((if 0 ≤ p ∧ p ≤ 3 then 1 else 0), s) := by
  unfold f_X10_isLine
  rw [e_within, bd_eq]
theorem e_isKey (p : Int) (s : u_S) : f_X10_isKey p s = some ((if 0 ≤ p ∧ p ≤ 23 then 1 else 0), s) := by
  unfold f_X10_isKey
  rw [e_within, bd_eq]
theorem e_areRowVoices (p : Int) (s : u_S) : f_X10_areRowVoices p s = some ((if 2 ≤ p ∧ p ≤ 4 then 1 else 0), s) := by
  unfold f_X10_areRowVoices
  rw [e_within, bd_eq]
theorem e_isFormed (l f m : Int) (s : u_S) : f_X10_isFormed l f m s = some ((if (0 ≤ l ∧ l ≤ 3) ∧ (0 ≤ f ∧ f ≤ 4) ∧ (-21 ≤ m ∧ m ≤ 21) then 1 else 0), s) := by
  unfold f_X10_isFormed
  simp only [e_isLine, bd_eq, e_within, b10_0, if_not', if_and2, if_some]
theorem e_areTwoLines (a b : Int) (s : u_S) : f_X10_areTwoLines a b s = some ((if (0 ≤ a ∧ a ≤ 3) ∧ (0 ≤ b ∧ b ≤ 3) ∧ ¬ a = b then 1 else 0), s) := by
  unfold f_X10_areTwoLines
  simp only [e_isLine, bd_eq, b10_0, if_not']
  by_cases h1 : 0 ≤ a ∧ a ≤ 3 <;> by_cases h2 : 0 ≤ b ∧ b ≤ 3 <;> by_cases h3 : a = b <;> simp [h1, h2, h3]
/-- a number's class by 7 -/
def harsh (c : Int) : Prop := c = 1 ∨ c = 3 ∨ c = 6
theorem lcm3_neg {a b : Int} : lcm3 a b < 0 ↔ a < b := by
  unfold lcm3
  split
  · omega
  · split <;> omega
theorem lcm3_le {a b : Int} : lcm3 a b ≤ 0 ↔ a ≤ b := by
  unfold lcm3
  split
  · omega
  · split <;> omega
theorem e_in (v lo hi : Int) (s : u_S) : f_X11_in v lo hi s = some ((if lo ≤ v ∧ v ≤ hi then 1 else 0), s) := by
  unfold f_X11_in
  simp only [lcm3_neg, lcm3_le]
  by_cases h1 : v < lo
  · rw [if_pos h1, if_neg (by omega)]
  · rw [if_neg h1]
    by_cases h2 : v ≤ hi
    · rw [if_pos h2, if_pos (by omega)]
    · rw [if_neg h2, if_neg (by omega)]
