/-! is it an order: both sides -/
def isOr (n : Nat) (p : Int) : Prop := 0 ≤ p ∧ p < ((10 ^ n : Nat) : Int) ∧ okO n p.toNat = true
def rwo2 (o : u_O) : Prop := o = (19, 0, 0)
section ORD
variable {s : u_S} {n : Nat} {p : Int}
theorem e_power (h : n ≤ 4) (s : u_S) : f_X11_power (n : Int) s = some (((10 ^ n : Nat) : Int), s) := by
  unfold f_X11_power
  refine loop_fu (fun m (b : Int × Int) => f_X11_power_L4 m (fun v1_1 s_1 => some (v1_1, s_1)) (n : Int) b.1 b.2 s) (fun j => (((10 ^ j : Nat) : Int), (j : Int))) _ n (by omega) ?_ ?_
  · intro j m hj
    have hb : 10 ^ j ≤ 10 ^ 4 := Nat.pow_le_pow_right (by omega) (by omega)
    show f_X11_power_L4 (m + 1) _ (n : Int) ((10 ^ j : Nat) : Int) (j : Int) s = f_X11_power_L4 m _ (n : Int) ((10 ^ (j + 1) : Nat) : Int) ((j + 1 : Nat) : Int) s
    rw [Nat.pow_succ]
    generalize 10 ^ j = P at hb
    rw [f_X11_power_L4, if_pos (by omega), wr_of (x := (j : Int) + 1) (by omega) (by omega), wr_of (by omega) (by omega)]
    rfl
  · intro m
    show f_X11_power_L4 (m + 1) _ (n : Int) ((10 ^ n : Nat) : Int) (n : Int) s = _
    rw [f_X11_power_L4, if_neg (by omega)]
theorem e_voice {c : Nat} (hc : c < 10 ^ 4) (h : n ≤ 4) {k : Int} (k0 : 0 ≤ k) (k1 : k < n) (s : u_S) : f_X11_voice (n : Int) (c : Int) k s = some (vo 10 n c k, s) := by
  have hp : 0 < 10 ^ (n - 1 - k.toNat) := Nat.pow_pos (by omega)
  unfold f_X11_voice vo
  rw [wr_of (x := (n : Int) - 1) (by omega) (by omega), wr_of (x := (n : Int) - 1 - k) (by omega) (by omega), show (n : Int) - 1 - k = ((n - 1 - k.toNat : Nat) : Int) by omega, e_power (by omega), bd_eq, nz_of (by omega), Int.tdiv_eq_ediv_of_nonneg (by omega), ← Int.natCast_ediv]
  have hd : c / 10 ^ (n - 1 - k.toNat) ≤ c := Nat.div_le_self _ _
  generalize c / 10 ^ (n - 1 - k.toNat) = D at hd
  rw [wr_of (by omega) (by omega), Int.tmod_eq_emod_of_nonneg (by omega)]
  rfl
theorem vo_b (n c : Nat) (k : Int) : 0 ≤ vo 10 n c k ∧ vo 10 n c k ≤ 9 := by
  unfold vo
  omega
theorem setO_b (n c : Nat) : ∀ k, setO n c k < 2 ^ 10
  | 0 => by rw [setO]; omega
  | k + 1 => by
    rw [setO]
    exact Nat.or_lt_two_pow (setO_b n c k) (shl_lt (by omega))
theorem ok_n (h2 : 2 ≤ n) (h4 : n ≤ 4) {c : Nat} (hc : c < 10 ^ n) : okT n c = true := by
  rcases (show n = 2 ∨ n = 3 ∨ n = 4 by omega) with rfl | rfl | rfl
  · have := okT_2 ⟨c / 10, by omega⟩ ⟨c % 10, by omega⟩
    dsimp only at this
    rwa [show c / 10 * 10 + c % 10 = c by omega] at this
  · have := okT_3 ⟨c / 100, by omega⟩ ⟨c / 10 % 10, by omega⟩ ⟨c % 10, by omega⟩
    dsimp only at this
    rwa [show c / 100 * 100 + c / 10 % 10 * 10 + c % 10 = c by omega] at this
  · have := okT_4 ⟨c / 1000, by omega⟩ ⟨c / 100 % 10, by omega⟩ ⟨c / 10 % 10, by omega⟩ ⟨c % 10, by omega⟩
    dsimp only at this
    rwa [show c / 1000 * 1000 + c / 100 % 10 * 100 + c / 10 % 10 * 10 + c % 10 = c by omega] at this
theorem e_isOrder (h2 : 2 ≤ n) (h4 : n ≤ 4) (hp : InR p) [Decidable (isOr n p)] (s : u_S) : f_X11_isOrder (n : Int) p s = some ((if isOr n p then 1 else 0), s) := by
  have pr := InR_iff.mp hp
  have hb : 10 ^ n ≤ 10 ^ 4 := Nat.pow_le_pow_right (by omega) (by omega)
  have hp0 : 0 < 10 ^ n := Nat.pow_pos (by omega)
  unfold f_X11_isOrder
  rw [e_in, bd_eq, if_pos (show (2 : Int) ≤ n ∧ (n : Int) ≤ 4 by omega), if10, e_power h4, bd_eq, wr_of (by omega) (by omega), e_in, bd_eq]
  by_cases hr : 0 ≤ p ∧ p ≤ ((10 ^ n : Nat) : Int) - 1
  · rw [if_pos hr, if10]
    obtain ⟨c, rfl⟩ : ∃ c : Nat, p = c := ⟨p.toNat, by omega⟩
    have hc : c < 10 ^ 4 := by omega
    have q := loop_fu (fun m (b : Int × Int) => f_X11_isOrder_L36 m (fun v2_1 s_4 => if v2_1 = (wr ((ishl 1 (n : Int)) - 1)) then (some (1, s_4)) else (some (0, s_4))) (n : Int) (c : Int) b.1 b.2 s) (fun j => ((setO n c j : Int), (j : Int))) (if okO n c then some (1, s) else some (0, s)) n (by omega) (by
      intro j m hj
      have hd : c / 10 ^ (n - 1 - j) % 10 < 10 := Nat.mod_lt _ (by omega)
      have hs := setO_b n c j
      show f_X11_isOrder_L36 (m + 1) _ (n : Int) (c : Int) (setO n c j : Int) (j : Int) s = f_X11_isOrder_L36 m _ (n : Int) (c : Int) (setO n c (j + 1) : Int) ((j + 1 : Nat) : Int) s
      rw [f_X11_isOrder_L36, if_pos (by omega), e_voice hc h4 (by omega) (by omega), bd_eq, wr_of (x := (j : Int) + 1) (by omega) (by omega)]
      unfold vo
      rw [Int.toNat_natCast, ishl_nat (d := c / 10 ^ (n - 1 - j) % 10) (by omega), ior_nat (by omega) (Nat.lt_of_lt_of_le (shl_lt hd) (by omega)), setO]
      rfl) (by
      intro m
      show f_X11_isOrder_L36 (m + 1) _ (n : Int) (c : Int) (setO n c n : Int) (n : Int) s = _
      have e : wr (ishl 1 (n : Int) - 1) = ((2 ^ n - 1 : Nat) : Int) := by
        rw [ishl_nat (by omega), Nat.one_shiftLeft]
        have : 2 ^ n ≤ 2 ^ 4 := Nat.pow_le_pow_right (by omega) (by omega)
        have : 0 < 2 ^ n := Nat.pow_pos (by omega)
        rw [wr_of (by omega) (by omega)]
        omega
      rw [f_X11_isOrder_L36, if_neg (by omega), e]
      unfold okO
      by_cases hq : setO n c n = 2 ^ n - 1
      · rw [if_pos (by omega), if_pos (by rw [hq]; exact Nat.beq_refl _)]
      · rw [if_neg (by omega), if_neg (fun z => hq (Nat.eq_of_beq_eq_true z))])
    refine q.trans ?_
    by_cases ho : okO n c = true
    · rw [if_pos ho, if_pos ⟨hr.1, by omega, by rw [Int.toNat_natCast]; exact ho⟩]
    · rw [if_neg ho, if_neg (fun z => ho (by have := z.2.2; rwa [Int.toNat_natCast] at this))]
  · rw [if_neg hr, if00, if_neg (fun z => hr ⟨z.1, by have := z.2.1; omega⟩)]
/-- taken apart by the class -/
theorem tkR_div {v : Nat} : ∀ {k l e x : Nat}, tkR v k l e = some x → x = l / 10 ^ k
  | 0, l, e, x, h => by
    rw [tkR] at h
    rw [Nat.pow_zero, Nat.div_one]
    exact (Option.some.inj h).symm
  | k + 1, l, e, x, h => by
    rw [tkR] at h
    split at h
    · split at h
      · cases h
      · rw [tkR_div h, Nat.div_div_eq_div_mul, Nat.pow_succ, Nat.mul_comm]
    · cases h
theorem e_tk (h4 : n ≤ 4) {c : Nat} (hc : c < 2 ^ 31) (kx : Int → u_S → Option (Int × u_S)) : ∀ (k : Nat) (e : Nat) (s : u_S) (m : Nat), k < m → k ≤ n → e < 2 ^ n → (∀ i : Int, (k : Int) ≤ i → i < n → rd s (19, 0, 0) i = vo 10 n c i) → ∃ s', f_X10_takesRow_L23 m kx oF (n : Int) ((c / 10 ^ (n - k) : Nat) : Int) (e : Int) ((k : Int) - 1) s = (match tkR n k (c / 10 ^ (n - k)) e with | some x => kx (x : Int) s' | none => some (0, s')) ∧ Only rwo2 s s' ∧ ((tkR n k (c / 10 ^ (n - k)) e).isSome = true → ∀ i : Int, 0 ≤ i → i < n → rd s' (19, 0, 0) i = vo 10 n c i)
  | 0, e, s, m, h1, h2, h3, hi => by
    cases m with
    | zero => omega
    | succ m =>
      refine ⟨s, ?_, Only.refl _ _, fun _ i i0 i1 => hi i (by omega) i1⟩
      rw [f_X10_takesRow_L23, if_pos (by omega), tkR]
  | k + 1, e, s, m, h1, h2, h3, hi => by
    cases m with
    | zero => omega
    | succ m =>
      have hd : c / 10 ^ (n - (k + 1)) ≤ c := Nat.div_le_self _ _
      have hv : vo 10 n c (k : Int) = ((c / 10 ^ (n - (k + 1)) % 10 : Nat) : Int) := by
        unfold vo
        rw [Int.toNat_natCast, show n - 1 - k = n - (k + 1) by omega]
      have e2 : c / 10 ^ (n - k) = c / 10 ^ (n - (k + 1)) / 10 := by
        rw [Nat.div_div_eq_div_mul, show n - k = n - (k + 1) + 1 by omega, Nat.pow_succ]
      have ih := fun e s => e_tk h4 hc kx k e s m
      rw [e2] at ih
      generalize c / 10 ^ (n - (k + 1)) = D at *
      have e1 : Int.tmod (D : Int) 10 = ((D % 10 : Nat) : Int) := by
        rw [Int.tmod_eq_emod_of_nonneg (by omega)]; rfl
      have e3 : wr (Int.tdiv (D : Int) 10) = ((D / 10 : Nat) : Int) := by
        rw [Int.tdiv_eq_ediv_of_nonneg (by omega), wr_of (by omega) (by omega)]; rfl
      rw [f_X10_takesRow_L23, if_neg (by omega), e1, e3, tkR]
      generalize D % 10 = d at *
      by_cases hlt : d < n
      · have he : e < 32 := Nat.lt_of_lt_of_le h3 (Nat.pow_le_pow_right (by omega) (show n ≤ 5 by omega))
        have hs := seen_tab ⟨e, he⟩ ⟨d, by omega⟩
        dsimp only at hs
        rw [if_pos (by omega), hs, if_pos (show Nat.blt d n = true from Nat.ble_eq_true_of_le hlt)]
        by_cases hb : (e >>> d) % 2 = 1
        · rw [if_pos (by omega), if_pos (show Nat.beq ((e >>> d) % 2) 1 = true by rw [hb]; rfl)]
          exact ⟨s, rfl, Only.refl _ _, fun z => by cases z⟩
        · rw [if_neg (by omega), if_neg (fun z => hb (Nat.eq_of_beq_eq_true z)), gd_of (by omega) (by omega), ishl_nat (by omega), ior_nat (by omega) (Nat.lt_of_lt_of_le (shl_lt hlt) (Nat.pow_le_pow_right (by omega) (by omega))), wr_of (x := ((k + 1 : Nat) : Int) - 1 + -1) (by omega) (by omega), show ((k + 1 : Nat) : Int) - 1 + -1 = (k : Int) - 1 by omega]
          obtain ⟨s', x1, x2, x3⟩ := ih (e ||| 1 <<< d) (wt s (19, 0, 0) (((k + 1 : Nat) : Int) - 1) (d : Int)) (by omega) (by omega) (Nat.or_lt_two_pow h3 (shl_lt hlt)) (fun i i0 i1 => by
            by_cases ei : i = k
            · rw [ei, show ((k + 1 : Nat) : Int) - 1 = k by omega, rd_wt_same, wr_of (by omega) (by omega), hv]
            · rw [rd_wt_k (by omega)]
              exact hi i (by omega) i1)
          exact ⟨s', x1, ((Only.refl rwo2 s).wt rfl _ _).trans x2, x3⟩
      · rw [if_neg (by omega), if_neg (show ¬ Nat.blt d n = true from fun z => hlt (Nat.le_of_ble_eq_true z))]
        exact ⟨s, rfl, Only.refl _ _, fun z => by cases z⟩
theorem e_takesRow (h2 : 2 ≤ n) (h4 : n ≤ 4) (hp : InR p) [Decidable (isOr n p)] (s : u_S) : ∃ s', f_X10_takesRow oF (n : Int) p s = some ((if isOr n p then 1 else 0), s') ∧ Only rwo2 s s' ∧ (isOr n p → ∀ i : Int, 0 ≤ i → i < n → rd s' (19, 0, 0) i = vo 10 n p.toNat i) := by
  have pr := InR_iff.mp hp
  unfold f_X10_takesRow
  rw [e_areRowVoices, bd_eq, if_pos (show (2 : Int) ≤ (n : Int) ∧ (n : Int) ≤ 4 by omega), if10]
  by_cases hneg : p < 0
  · rw [if_pos hneg, if_neg (fun z => by have := z.1; omega)]
    exact ⟨s, rfl, Only.refl _ _, fun z => by have := z.1; omega⟩
  rw [if_neg hneg]
  obtain ⟨c, rfl⟩ : ∃ c : Nat, p = c := ⟨p.toNat, by omega⟩
  obtain ⟨s', x1, x2, x3⟩ := e_tk h4 (c := c) (by omega) (fun v3_1 s_1 => if v3_1 = 0 then (some (1, s_1)) else (some (0, s_1))) n 0 s FU (FU_gt (by omega)) (by omega) (Nat.pow_pos (by omega)) (fun i i0 i1 => absurd i1 (by omega))
  rw [Nat.sub_self, Nat.pow_zero, Nat.div_one] at x1 x3
  refine ⟨s', ?_, x2, fun z => ?_⟩
  · rw [wr_of (by omega) (by omega)]
    refine x1.trans ?_
    cases hk : tkR n n c 0 with
    | none =>
      dsimp only
      rw [if_neg]
      intro z
      have hc : c < 10 ^ n := by have := z.2.1; omega
      have h5 := ok_n h2 h4 hc
      have h6 := z.2.2
      rw [Int.toNat_natCast] at h6
      unfold okT at h5
      rw [hk, h6] at h5
      simp at h5
    | some x =>
      dsimp only
      have hx := tkR_div hk
      by_cases hc : c < 10 ^ n
      · have h5 := ok_n h2 h4 hc
        unfold okT at h5
        rw [hk] at h5
        rw [Nat.div_eq_of_lt hc] at hx
        subst hx
        rw [if_pos (show ((0 : Nat) : Int) = 0 from rfl), if_pos]
        refine ⟨by omega, by omega, ?_⟩
        rw [Int.toNat_natCast]
        cases ho : okO n c with
        | true => rfl
        | false => rw [ho] at h5; simp at h5
      · have hx1 : 1 ≤ x := by
          rw [hx]
          exact Nat.div_pos (Nat.le_of_not_lt hc) (Nat.pow_pos (by omega))
        rw [if_neg (by omega), if_neg (fun z => hc (by have := z.2.1; omega))]
  · have hc : c < 10 ^ n := by have := z.2.1; omega
    have h5 := ok_n h2 h4 hc
    have h6 := z.2.2
    rw [Int.toNat_natCast] at h6 ⊢
    unfold okT at h5
    rw [h6] at h5
    refine x3 ?_
    cases hk : tkR n n c 0 with
    | some x => rfl
    | none => rw [hk] at h5; simp at h5
end ORD
