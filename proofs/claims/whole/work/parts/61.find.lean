/-! the best path: the class -/
def tro (o : u_O) : Prop := o = (20, 0, 0) ∨ o = (21, 0, 0) ∨ o = (22, 0, 0)
theorem tro_csc (o : u_O) (h : tro o) : csc o := by rcases h with h | h | h <;> subst h <;> exact Or.inl (by simp)
def InsI (R : Int → Int) (i x : Int) (s : u_S) (j : Int) : Prop := (∀ t : Int, 0 ≤ t → t < j → rd s (22, 0, 0) t = R t) ∧ (∀ t : Int, j < t → t ≤ i → rd s (22, 0, 0) t = R (t - 1)) ∧ ∀ t : Int, j ≤ t → t < i → x < R t
section FIND
variable {s : u_S} {A : Int → Int} {n : Nat}
theorem e_ins {R : Int → Int} {i x : Int} (i0 : 0 ≤ i) (i1 : i < 5) (hR : ∀ t u : Int, 0 ≤ t → t < u → u < i → R t < R u) (hne : ∀ t : Int, 0 ≤ t → t < i → R t ≠ x) (N : Int) (kx : Int → u_S → Option (Int × u_S)) : ∀ (j m : Nat) (s : u_S), j < m → (j : Int) ≤ i → rd s (9, 0, 0) i = x → InsI R i x s j → ∃ (j' : Int) (s' : u_S), f_X9_sortVisits_L10 m kx (20, 0, 0) (9, 0, 0) N i (j : Int) s = kx j' s' ∧ Only (pto (22, 0, 0)) s s' ∧ 0 ≤ j' ∧ j' ≤ i ∧ InsI R i x s' j' ∧ ∀ t : Int, 0 ≤ t → t < j' → R t < x
  | 0, m, s, h1, h2, h3, h4 => by
    cases m with
    | zero => omega
    | succ m =>
      refine ⟨0, s, ?_, Only.refl _ _, by omega, i0, h4, fun t a b => by omega⟩
      rw [f_X9_sortVisits_L10, if_pos (by omega)]
      rfl
  | j + 1, m, s, h1, h2, h3, h4 => by
    cases m with
    | zero => omega
    | succ m =>
      have hj : rd s (22, 0, 0) (j : Int) = R j := h4.1 j (by omega) (by omega)
      have e0 : f_X9_sortVisits_L10 (m + 1) kx (20, 0, 0) (9, 0, 0) N i ((j + 1 : Nat) : Int) s = if R j ≤ x then kx ((j + 1 : Nat) : Int) s else f_X9_sortVisits_L10 m kx (20, 0, 0) (9, 0, 0) N i (j : Int) (wt s (22, 0, 0) ((j + 1 : Nat) : Int) (R j)) := by
        rw [f_X9_sortVisits_L10, if_neg (by omega), wr_of (x := ((j + 1 : Nat) : Int) - 1) (by omega) (by omega), show ((j + 1 : Nat) : Int) - 1 = j by omega, gd_of (by omega) (by omega), gd_of (by omega) (show i < ((alen (9, 0, 0) : Nat) : Int) from i1), show a_Tour_tried (20, 0, 0) = (22, 0, 0) from rfl, hj, h3, gd_of (by omega) (by omega), gd_of (by omega) (by omega), wr_of (by omega) (by omega), show ((j + 1 : Nat) : Int) + -1 = j by omega]
      rw [e0]
      by_cases hle : R j ≤ x
      · rw [if_pos hle]
        refine ⟨_, s, rfl, Only.refl _ _, by omega, h2, h4, fun t a b => ?_⟩
        have hn := hne j (by omega) (by omega)
        by_cases ht : t = j
        · subst ht; omega
        · have := hR t j a (by omega) (by omega)
          omega
      · rw [if_neg hle]
        obtain ⟨j', s', x1, x2, x3, x4, x5, x6⟩ := e_ins i0 i1 hR hne N kx j m (wt s (22, 0, 0) ((j + 1 : Nat) : Int) (R j)) (by omega) (by omega) (by rw [rd_wt_o (by simp)]; exact h3) ⟨fun t a b => by rw [rd_wt_k (by omega)]; exact h4.1 t a (by omega), fun t a b => by
          by_cases ht : t = ((j + 1 : Nat) : Int)
          · rw [ht, rd_wt_same, ← hj, wr_in (InR_rd _ _ _), show ((j + 1 : Nat) : Int) - 1 = j by omega]
            exact hj
          · rw [rd_wt_k ht]
            exact h4.2.1 t (by omega) b, fun t a b => by
          by_cases ht : t = j
          · subst ht; omega
          · exact h4.2.2 t (by omega) b⟩
        exact ⟨j', s', x1, ((Only.refl (pto (22, 0, 0)) s).wt rfl _ _).trans x2, x3, x4, x5, x6⟩
def SrtI (A : Int → Int) (s : u_S) (i : Int) : Prop := (∀ t u : Int, 0 ≤ t → t < u → u < i → rd s (22, 0, 0) t < rd s (22, 0, 0) u) ∧ (∀ t : Int, 0 ≤ t → t < i → ∃ q : Int, 0 ≤ q ∧ q < i ∧ rd s (22, 0, 0) t = A (140 + q)) ∧ ∀ q : Int, 0 ≤ q → q < i → ∃ t : Int, 0 ≤ t ∧ t < i ∧ rd s (22, 0, 0) t = A (140 + q)
theorem e_sort (hv : WV A) (hn : (n : Int) = A 139) (hV : ∀ i : Int, 0 ≤ i → i < n → rd s (9, 0, 0) i = A (140 + i)) : ∃ s', f_X9_sortVisits (20, 0, 0) (9, 0, 0) (n : Int) s = some (0, s') ∧ Only (pto (22, 0, 0)) s s' ∧ SrtI A s' n := by
  have h5 : n ≤ 5 := by have := hv.1; omega
  unfold f_X9_sortVisits
  obtain ⟨b, q, i1, i2, i3⟩ := loop_relfu (fun m (b : Int × u_S) => f_X9_sortVisits_L2 m (fun s_1 => some (0, s_1)) (20, 0, 0) (9, 0, 0) (n : Int) b.1 b.2) (fun i b => b.1 = (i : Int) ∧ Only (pto (22, 0, 0)) s b.2 ∧ SrtI A b.2 i) (fun b => some (0, b.2)) n (by omega) (by
    intro i b m hi ⟨e1, e2, e3⟩
    obtain ⟨b1, s1⟩ := b
    dsimp only at e1 e2 e3
    subst e1
    have hx : rd s1 (9, 0, 0) (i : Int) = A (140 + i) := by rw [e2.rd (by simp [pto])]; exact hV i (by omega) (by omega)
    have hxi : InR (A (140 + i)) := by rw [← hx]; exact InR_rd _ _ _
    have hRe : ∃ R : Int → Int, ∀ t, R t = rd s1 (22, 0, 0) t := ⟨fun t => rd s1 (22, 0, 0) t, fun t => rfl⟩
    obtain ⟨R, hR⟩ := hRe
    have hRs : ∀ t u : Int, 0 ≤ t → t < u → u < (i : Int) → R t < R u := fun t u a b c => by rw [hR, hR]; exact e3.1 t u a b c
    have hRv : ∀ t : Int, 0 ≤ t → t < (i : Int) → ∃ q : Int, 0 ≤ q ∧ q < i ∧ R t = A (140 + q) := fun t a b => by rw [hR]; exact e3.2.1 t a b
    have hRe2 : ∀ q : Int, 0 ≤ q → q < (i : Int) → ∃ t : Int, 0 ≤ t ∧ t < i ∧ R t = A (140 + q) := fun q a b => by
      obtain ⟨t, t0, t1, t2⟩ := e3.2.2 q a b
      exact ⟨t, t0, t1, by rw [hR]; exact t2⟩
    have hne : ∀ t : Int, 0 ≤ t → t < (i : Int) → R t ≠ A (140 + i) := fun t a b => by
      obtain ⟨q, q0, q1, q2⟩ := hRv t a b
      rw [q2]
      exact hv.2.2 q i q0 q1 (by omega)
    obtain ⟨j', s2, x1, x2, x3, x4, x5, x6⟩ := e_ins (R := R) (i := (i : Int)) (by omega) (by omega) hRs hne (n : Int) (fun v4_1 s_3 => gd (i : Int) (alen (9, 0, 0)) (gd v4_1 5 (f_X9_sortVisits_L2 m (fun s_1 => some (0, s_1)) (20, 0, 0) (9, 0, 0) (n : Int) (wr ((i : Int) + 1)) (wt s_3 (a_Tour_tried (20, 0, 0)) v4_1 (rd s_3 (9, 0, 0) (i : Int)))))) i FU s1 (FU_gt (by omega)) (by omega) hx ⟨fun t a b => (hR t).symm, fun t a b => by omega, fun t a b => by omega⟩
    have hx2 : rd s2 (9, 0, 0) (i : Int) = A (140 + i) := by rw [x2.rd (by simp [pto])]; exact hx
    have hc : ∀ t : Int, 0 ≤ t → t ≤ i → rd (wt s2 (22, 0, 0) j' (A (140 + i))) (22, 0, 0) t = if t < j' then R t else if t = j' then A (140 + i) else R (t - 1) := by
      intro t a b
      by_cases h1 : t < j'
      · rw [if_pos h1, rd_wt_k (by omega)]
        exact x5.1 t a h1
      · rw [if_neg h1]
        by_cases h2 : t = j'
        · rw [if_pos h2, h2, rd_wt_same, wr_in hxi]
        · rw [if_neg h2, rd_wt_k h2]
          exact x5.2.1 t (by omega) b
    refine ⟨(wr ((i : Int) + 1), wt s2 (22, 0, 0) j' (A (140 + i))), ?_, by dsimp only; rw [wr_of (by omega) (by omega)]; omega, e2.trans (x2.wt rfl _ _), ?_, ?_, ?_⟩
    · dsimp only
      rw [f_X9_sortVisits_L2, if_pos (by omega), x1, show alen (9, 0, 0) = 5 from rfl, gd_of (by omega) (by omega), gd_of x3 (by omega), hx2]
      rfl
    · intro t u a b c
      dsimp only
      rw [hc t a (by omega), hc u (by omega) (by omega)]
      by_cases h1 : u < j'
      · rw [if_pos (by omega), if_pos h1]
        exact hRs t u a b (by omega)
      · rw [if_neg h1]
        by_cases h2 : u = j'
        · rw [if_pos h2, if_pos (by omega)]
          exact x6 t a (by omega)
        · rw [if_neg h2]
          by_cases h3 : t < j'
          · rw [if_pos h3]
            have hu := x5.2.2 (u - 1) (by omega) (by omega)
            have ht := x6 t a h3
            omega
          · rw [if_neg h3]
            by_cases h4 : t = j'
            · rw [if_pos h4]
              exact x5.2.2 (u - 1) (by omega) (by omega)
            · rw [if_neg h4]
              exact hRs (t - 1) (u - 1) (by omega) (by omega) (by omega)
    · intro t a b
      dsimp only
      rw [hc t a (by omega)]
      by_cases h1 : t < j'
      · rw [if_pos h1]
        obtain ⟨q, q0, q1, q2⟩ := hRv t a (by omega)
        exact ⟨q, q0, by omega, q2⟩
      · rw [if_neg h1]
        by_cases h2 : t = j'
        · rw [if_pos h2]
          exact ⟨i, by omega, by omega, rfl⟩
        · rw [if_neg h2]
          obtain ⟨q, q0, q1, q2⟩ := hRv (t - 1) (by omega) (by omega)
          exact ⟨q, q0, by omega, q2⟩
    · intro q a b
      dsimp only
      by_cases h0 : q = i
      · refine ⟨j', x3, by omega, ?_⟩
        rw [hc j' x3 x4, if_neg (by omega), if_pos rfl, h0]
      · obtain ⟨t, t0, t1, t2⟩ := hRe2 q a (by omega)
        by_cases h1 : t < j'
        · refine ⟨t, t0, by omega, ?_⟩
          rw [hc t t0 (by omega), if_pos h1]
          exact t2
        · refine ⟨t + 1, by omega, by omega, ?_⟩
          rw [hc (t + 1) (by omega) (by omega), if_neg (by omega), if_neg (by omega), show t + 1 - 1 = t by omega]
          exact t2) (by
    intro b m ⟨e1, e2, e3⟩
    rw [f_X9_sortVisits_L2, if_neg (by omega)]) (0, s) ⟨rfl, Only.refl _ _, fun t u a b c => by omega, fun t a b => by omega, fun t a b => by omega⟩
  exact ⟨b.2, q, i2, i3⟩
theorem srt_enum (h : SrtI A s n) : Enum A n (rd s (22, 0, 0)) := ⟨h.2.1, h.2.2, fun t u a b c => by have := h.1 t u a b c; omega⟩
theorem srt_le (h : SrtI A s n) : ∀ x y : Int, 0 ≤ x → x < n → 0 ≤ y → y < n → (rd s (22, 0, 0) x ≤ rd s (22, 0, 0) y ↔ x ≤ y) := by
  intro x y a b c d
  constructor
  · intro hle
    rcases (show x ≤ y ∨ y < x by omega) with e | e
    · exact e
    · have := h.1 y x c e b; omega
  · intro hle
    by_cases e : x = y
    · subst e; exact Int.le_refl _
    · have := h.1 x y a (by omega) d; omega
theorem e_lengthFrom {h : Int} {K : Int → Int} (h0 : 0 ≤ h) (h1 : h ≤ 23) (h5 : n ≤ 5) (hK : KB K n) (hc : ∀ i : Int, 0 ≤ i → i < n → rd s (22, 0, 0) i = K i) : f_X9_lengthFrom (20, 0, 0) h (n : Int) s = some (plP h K n, s) := by
  have hKB : ∀ j : Nat, j ≤ n → KB K j := fun j hj i a b => hK i a (by omega)
  unfold f_X9_lengthFrom
  refine loop_fu (fun m (b : Int × Int × Int) => f_X9_lengthFrom_L8 m (fun v3_1 v4_1 s_1 => bd (f_X10_wayBetween v4_1 h s_1) (fun r_1 s_2 => some ((wr (v3_1 + r_1)), s_2))) (20, 0, 0) h (n : Int) b.1 b.2.1 b.2.2 s) (fun j => ((plS h K j).1, (plS h K j).2, (j : Int))) _ n (by omega) ?_ ?_
  · intro j m hj
    have hb := pl_b h0 h1 (hKB j (by omega))
    have hk := hK j (by omega) (by omega)
    have hw := way_b hb.2.1 hb.2.2 hk.1 hk.2
    dsimp only
    rw [f_X9_lengthFrom_L8, if_pos (by omega), gd_of (by omega) (by omega), show a_Tour_tried (20, 0, 0) = (22, 0, 0) from rfl, hc j (by omega) (by omega), e_way hb.2.1 hb.2.2 hk.1 hk.2, bd_eq, gd_of (by omega) (by omega), hc j (by omega) (by omega), wr_of (x := (j : Int) + 1) (by omega) (by omega), wr_of (by omega) (by omega)]
    rfl
  · intro m
    have hb := pl_b h0 h1 hK
    have hw := way_b hb.2.1 hb.2.2 h0 h1
    dsimp only
    rw [f_X9_lengthFrom_L8, if_neg (by omega), e_way hb.2.1 hb.2.2 h0 h1, bd_eq, wr_of (by omega) (by omega)]
    rfl
theorem e_copyBest (h5 : n ≤ 5) (p : u_O) (N : Int) (kx : u_S → Option (Int × u_S)) : ∃ s', f_X9_find_L69 FU kx (20, 0, 0) p (n : Int) N 0 s = kx s' ∧ Only (pto (21, 0, 0)) s s' ∧ ∀ i : Int, 0 ≤ i → i < n → rd s' (21, 0, 0) i = rd s (22, 0, 0) i := by
  obtain ⟨b, q, i1, i2, i3⟩ := loop_relfu (fun m (b : Int × u_S) => f_X9_find_L69 m kx (20, 0, 0) p (n : Int) N b.1 b.2) (fun i b => b.1 = (i : Int) ∧ Only (pto (21, 0, 0)) s b.2 ∧ ∀ t : Int, 0 ≤ t → t < i → rd b.2 (21, 0, 0) t = rd s (22, 0, 0) t) (fun b => kx b.2) n (by omega) (by
    intro i b m hi ⟨e1, e2, e3⟩
    obtain ⟨b1, s1⟩ := b
    dsimp only at e1 e2 e3
    subst e1
    refine ⟨(wr ((i : Int) + 1), wt s1 (21, 0, 0) i (rd s1 (22, 0, 0) i)), ?_, by dsimp only; rw [wr_of (by omega) (by omega)]; omega, e2.wt rfl _ _, fun t a b => ?_⟩
    · dsimp only
      rw [f_X9_find_L69, if_pos (by omega), gd_of (by omega) (by omega), gd_of (by omega) (by omega)]
      rfl
    · dsimp only
      by_cases ht : t = i
      · rw [ht, rd_wt_same, wr_in (InR_rd _ _ _), e2.rd (by simp [pto])]
      · rw [rd_wt_k ht]
        exact e3 t a (by omega)) (by
    intro b m ⟨e1, e2, e3⟩
    rw [f_X9_find_L69, if_neg (by omega)]) (0, s) ⟨rfl, Only.refl _ _, fun t a b => by omega⟩
  exact ⟨b.2, q, i2, i3⟩
theorem e_next0 (p : u_O) (s : u_S) : f_X10_toNextRow p ((0 : Nat) : Int) s = some (0, s) := by
  unfold f_X10_toNextRow
  rw [if_pos (show ((0 : Nat) : Int) ≤ (alen p : Int) by omega), show wr (((0 : Nat) : Int) - 2) = -2 from rfl]
  show f_X10_toNextRow_L12 (99999 + 1) _ p _ (-2) s = _
  rw [f_X10_toNextRow_L12, if_pos (by omega), if_pos (by omega)]
/-- as far as tried -/
def FndI (h : Int) (f : Int → Int) (n : Nat) (s0 : u_S) (j : Nat) (b : Int × Int × u_S) : Prop := b.2.1 = (j : Int) ∧ b.1 = (if j < (P5 n).length then 1 else 0) ∧ Only tro s0 b.2.2 ∧ (j < (P5 n).length → ∀ i : Int, 0 ≤ i → i < n → rd b.2.2 (22, 0, 0) i = Kq f n ((P5 n).getD j 0) i) ∧ ((j = 0 ∧ rd b.2.2 (20, 0, 0) 2 = 1000000) ∨ ∃ x : Nat, x < j ∧ rd b.2.2 (20, 0, 0) 2 = plP h (Kq f n ((P5 n).getD x 0)) n ∧ (∀ i : Int, 0 ≤ i → i < n → rd b.2.2 (21, 0, 0) i = Kq f n ((P5 n).getD x 0) i) ∧ ∀ y : Nat, y < j → vlP h (Kq f n ((P5 n).getD x 0)) n ≤ vlP h (Kq f n ((P5 n).getD y 0)) n)
theorem p5_nx {n : Nat} (h5 : n ≤ 5) : nxOK 5 n (P5 n) = true := List.all_eq_true.mp nx_5 n (List.mem_range.mpr (by omega))
theorem ek_mono {f : Int → Int} (h5 : n ≤ 5) (hf : ∀ x y : Int, 0 ≤ x → x < n → 0 ≤ y → y < n → (f x ≤ f y ↔ x ≤ y)) (hK : ∀ i, i < (P5 n).length → KB (Kq f n ((P5 n).getD i 0)) n) {i : Nat} : ∀ d : Nat, i + 1 + d < (P5 n).length → ek (Kq f n ((P5 n).getD i 0)) n < ek (Kq f n ((P5 n).getD (i + 1 + d) 0)) n := by
  have adj : ∀ i, i + 1 < (P5 n).length → ek (Kq f n ((P5 n).getD i 0)) n < ek (Kq f n ((P5 n).getD (i + 1) 0)) n := by
    intro i hi
    obtain ⟨p, p1, p2, p3⟩ := p5_lx h5 hi
    have g1 := (nx_get (p5_nx h5) (i := i) (by omega)).1 p (by omega) (by omega)
    have g2 := (nx_get (p5_nx h5) (i := i + 1) hi).1 p (by omega) (by omega)
    refine ek_lt (hK i (by omega)) (hK (i + 1) hi) ⟨p, p1, ?_, fun j hj => ?_⟩
    · unfold Kq
      have h1 := hf _ _ g2.1 g2.2 g1.1 g1.2
      omega
    · unfold Kq
      rw [p3 j hj]
  intro d
  induction d with
  | zero => intro h; exact adj i h
  | succ d ih => intro h; exact Int.lt_trans (ih (by omega)) (adj (i + 1 + d) h)
theorem e_find (hc : CP s 0 A) (hw : WF A) (hn : (n : Int) = A 139) : ∃ s', f_X9_find (20, 0, 0) (1, 0, 0) s = some (0, s') ∧ Only tro s s' ∧ ∃ K, LeastK A n K ∧ rd s' (20, 0, 0) 2 = plP (A 138) K n ∧ ∀ i : Int, 0 ≤ i → i < n → rd s' (21, 0, 0) i = K i := by
  have hv := hw.2.2.2.2.2.2.2
  have hh := hw.2.2.2.2.2.2.1
  have h5 : n ≤ 5 := by have := hv.1; omega
  have hlen := p5_len ⟨n, by omega⟩
  dsimp only at hlen
  obtain ⟨s1, x1, x2, x3⟩ := e_sort hv hn (fun i a b => hc.2.2.2.2 i a (by omega))
  have hf := srt_le x3
  have hq := srt_enum x3
  generalize hfe : rd s1 (22, 0, 0) = f at hf hq
  have hmem : ∀ i, i < (P5 n).length → okR n ((P5 n).getD i 0) = true ∧ (P5 n).getD i 0 < 3125 := fun i hi => ⟨(p5_fact h5 (get_mem hi)).2.2, (p5_fact h5 (get_mem hi)).2.1⟩
  have hsq : ∀ i, i < (P5 n).length → SeqK A n (Kq f n ((P5 n).getD i 0)) := fun i hi => kx_seq h5 hq (hmem i hi).2 (hmem i hi).1
  have hKB : ∀ i, i < (P5 n).length → KB (Kq f n ((P5 n).getD i 0)) n := fun i hi => seq_KB hv hn (hsq i hi)
  have c1 : CP s1 0 A := hc.keep x2 (fun o h z => by cases z; simp [pob] at h)
  unfold f_X9_find
  rw [show a_Plan_toVisit (1, 0, 0) = (9, 0, 0) from rfl, hc.2.2.2.1, ← hn, e_min, bd_eq, show min (n : Int) 5 = n by omega, x1, bd_eq]
  obtain ⟨b, q, i1, i2, i3, i4, i5⟩ := loop_relfu (fun m (b : Int × Int × u_S) => f_X9_find_L29 m (fun s_2 => some (0, s_2)) (20, 0, 0) (1, 0, 0) (n : Int) b.1 b.2.1 b.2.2) (FndI (A 138) f n s) (fun b => some (0, b.2.2)) (P5 n).length (by omega) (by
    intro j b m hj ⟨e1, e2, e3, e4, e5⟩
    obtain ⟨b1, b2, s2⟩ := b
    dsimp only at e1 e2 e3 e4 e5
    rw [if_pos hj] at e2
    subst e1 e2
    have ht := e4 hj
    have hl := plP_b hh.1 hh.2 h5 (hKB j hj)
    have h7 : rd s2 (1, 0, 0) 7 = A 138 := by rw [e3.rd (by simp [tro])]; exact hc.2.2.1.2.2.2
    have step : ∀ s3 : u_S, Only tro s s3 → (∀ i : Int, 0 ≤ i → i < n → rd s3 (22, 0, 0) i = Kq f n ((P5 n).getD j 0) i) → ((∃ x : Nat, x < j + 1 ∧ rd s3 (20, 0, 0) 2 = plP (A 138) (Kq f n ((P5 n).getD x 0)) n ∧ (∀ i : Int, 0 ≤ i → i < n → rd s3 (21, 0, 0) i = Kq f n ((P5 n).getD x 0) i) ∧ ∀ y : Nat, y < j + 1 → vlP (A 138) (Kq f n ((P5 n).getD x 0)) n ≤ vlP (A 138) (Kq f n ((P5 n).getD y 0)) n)) → ∃ b' : Int × Int × u_S, bd (f_X10_toNextRow (22, 0, 0) (n : Int) s3) (fun r_3 s_6 => f_X9_find_L29 m (fun s_2 => some (0, s_2)) (20, 0, 0) (1, 0, 0) (n : Int) r_3 (wr ((j : Int) + 1)) s_6) = f_X9_find_L29 m (fun s_2 => some (0, s_2)) (20, 0, 0) (1, 0, 0) (n : Int) b'.1 b'.2.1 b'.2.2 ∧ FndI (A 138) f n s (j + 1) b' := by
      intro s3 o3 t3 ⟨x, y1, y2, y3, y4⟩
      rw [wr_of (x := (j : Int) + 1) (by omega) (by omega)]
      by_cases hn0 : n = 0
      · subst hn0
        have hl0 : (P5 0).length = 1 := rfl
        rw [e_next0, bd_eq]
        exact ⟨(0, (j : Int) + 1, s3), rfl, by dsimp only; omega, by dsimp only; rw [if_neg (by omega)], o3, fun h => by omega, Or.inr ⟨x, y1, y2, y3, y4⟩⟩
      have g := nx_get (p5_nx h5) hj
      have nx := e_toNextRow (p := (22, 0, 0)) (f := f) (r := vo 5 n ((P5 n).getD j 0)) (K := n) (s := s3) (show n ≤ 5 from h5) h5 (by omega) g.1 hf t3
      by_cases hj1 : j + 1 < (P5 n).length
      · have g2 := g.2.1 hj1
        obtain ⟨s4, z1, z2, z3⟩ := nx.2 g2.1
        rw [z1, bd_eq]
        refine ⟨(1, (j : Int) + 1, s4), rfl, by dsimp only; omega, by dsimp only; rw [if_pos hj1], o3.trans (z2.mono (fun o h => Or.inr (Or.inr h))), fun _ i a b => ?_, Or.inr ⟨x, y1, ?_, fun i a b => ?_, y4⟩⟩
        · dsimp only
          rw [z3 i a b, g2.2 i a b]
          rfl
        · dsimp only
          rw [z2.rd (by simp [pto])]; exact y2
        · dsimp only
          rw [z2.rd (by simp [pto])]; exact y3 i a b
      · rw [nx.1 (g.2.2 hj1), bd_eq]
        exact ⟨(0, (j : Int) + 1, s3), rfl, by dsimp only; omega, by dsimp only; rw [if_neg hj1], o3, fun h => absurd h hj1, Or.inr ⟨x, y1, y2, y3, y4⟩⟩
    dsimp only
    rw [f_X9_find_L29, if_pos (by omega), if_neg (by omega), h7, e_lengthFrom hh.1 hh.2 h5 (hKB j hj) ht, bd_eq, show a_Tour_tried (20, 0, 0) = (22, 0, 0) from rfl]
    simp only [jn_eq]
    have upd : (∀ y : Nat, y < j → vlP (A 138) (Kq f n ((P5 n).getD j 0)) n ≤ vlP (A 138) (Kq f n ((P5 n).getD y 0)) n) → ∃ b' : Int × Int × u_S, f_X9_find_L69 FU (fun s_7 => bd (f_X10_toNextRow (22, 0, 0) (n : Int) s_7) (fun r_3 s_6 => f_X9_find_L29 m (fun s_2 => some (0, s_2)) (20, 0, 0) (1, 0, 0) (n : Int) r_3 (wr ((j : Int) + 1)) s_6)) (20, 0, 0) (1, 0, 0) (n : Int) (j : Int) 0 (wt s2 (20, 0, 0) 2 (plP (A 138) (Kq f n ((P5 n).getD j 0)) n)) = f_X9_find_L29 m (fun s_2 => some (0, s_2)) (20, 0, 0) (1, 0, 0) (n : Int) b'.1 b'.2.1 b'.2.2 ∧ FndI (A 138) f n s (j + 1) b' := by
      intro hmin
      obtain ⟨s3, z1, z2, z3⟩ := e_copyBest (s := wt s2 (20, 0, 0) 2 (plP (A 138) (Kq f n ((P5 n).getD j 0)) n)) h5 (1, 0, 0) (j : Int) (fun s_7 => bd (f_X10_toNextRow (22, 0, 0) (n : Int) s_7) (fun r_3 s_6 => f_X9_find_L29 m (fun s_2 => some (0, s_2)) (20, 0, 0) (1, 0, 0) (n : Int) r_3 (wr ((j : Int) + 1)) s_6))
      rw [z1]
      refine step s3 ((e3.wt (Or.inl rfl) _ _).trans (z2.mono (fun o h => Or.inr (Or.inl h)))) (fun i a b => by rw [z2.rd (by simp [pto]), rd_wt_o (by simp)]; exact ht i a b) ⟨j, by omega, by rw [z2.rd (by simp [pto]), rd_wt_same, wr_of (by omega) (by omega)], fun i a b => by rw [z3 i a b, rd_wt_o (by simp)]; exact ht i a b, fun y hy => ?_⟩
      by_cases ey : y = j
      · subst ey; exact Int.le_refl _
      · exact hmin y (by omega)
    rcases e5 with ⟨g1, g2⟩ | ⟨x, g1, g2, g3, g4⟩
    · rw [g2, if_pos (by omega)]
      exact upd (fun y hy => by omega)
    · rw [g2]
      have bj := ek_b5 h5 (hKB j hj)
      have bx := ek_b5 h5 (hKB x (by omega))
      have hmo := ek_mono h5 hf hKB (i := x) (j - x - 1) (by omega)
      rw [show x + 1 + (j - x - 1) = j by omega] at hmo
      have vj : vlP (A 138) (Kq f n ((P5 n).getD j 0)) n = plP (A 138) (Kq f n ((P5 n).getD j 0)) n * 7962624 + ek (Kq f n ((P5 n).getD j 0)) n := rfl
      have vx : vlP (A 138) (Kq f n ((P5 n).getD x 0)) n = plP (A 138) (Kq f n ((P5 n).getD x 0)) n * 7962624 + ek (Kq f n ((P5 n).getD x 0)) n := rfl
      by_cases hlt : plP (A 138) (Kq f n ((P5 n).getD j 0)) n < plP (A 138) (Kq f n ((P5 n).getD x 0)) n
      · rw [if_pos hlt]
        refine upd (fun y hy => ?_)
        have := g4 y hy
        omega
      · rw [if_neg hlt]
        refine step s2 e3 ht ⟨x, by omega, g2, g3, fun y hy => ?_⟩
        by_cases ey : y = j
        · subst ey; omega
        · exact g4 y (by omega)) (by
    intro b m ⟨e1, e2, e3, e4, e5⟩
    rw [if_neg (by omega)] at e2
    rw [f_X9_find_L29, e2]
    by_cases h120 : b.2.1 < 120
    · rw [if_pos h120, if_pos rfl]
    · rw [if_neg h120]) (1, 0, wt s1 (20, 0, 0) 2 1000000) ⟨rfl, by dsimp only; rw [if_pos (by omega)], Only.wt (P := tro) (x2.mono (fun o h => Or.inr (Or.inr h))) (Or.inl rfl) _ _, fun h i a b => by
      dsimp only
      rw [rd_wt_o (by simp)]
      unfold Kq
      obtain ⟨k, rfl⟩ : ∃ k : Nat, i = k := ⟨i.toNat, by omega⟩
      have := p5_id ⟨n, by omega⟩ ⟨k, by omega⟩ (by dsimp only; omega)
      dsimp only at this
      rw [vo_dg, this, hfe], Or.inl ⟨rfl, by dsimp only; rw [rd_wt_same]; rfl⟩⟩
  refine ⟨b.2.2, q, i3, ?_⟩
  rcases i5 with ⟨g1, g2⟩ | ⟨x, g1, g2, g3, g4⟩
  · omega
  · refine ⟨Kq f n ((P5 n).getD x 0), ⟨hsq x g1, fun L hL => ?_⟩, g2, g3⟩
    obtain ⟨c, c1, c2, c3, c4, c5⟩ := seq_kx h5 hq hL
    obtain ⟨y, y1, y2⟩ := mem_get c4
    rw [← vl_congr c5, ← y2]
    exact g4 y y1
end FIND
