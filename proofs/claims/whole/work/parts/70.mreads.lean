/-! reads: the model -/
def exAll : (Int → Int) → Int → List (Int × List Int) → Int × Option (Int → Int)
  | A, n, [] => (n, some A)
  | A, n, o :: L => match exO A o.1 o.2 with
    | some A' => exAll A' (n + 1) L
    | none => (n, none)
theorem exAll_WF : ∀ (L : List (Int × List Int)) {A A' : Int → Int} {n n' : Int}, WF A → exAll A n L = (n', some A') → WF A'
  | [], A, A', n, n', hw, h => by
    rw [exAll] at h
    have := congrArg Prod.snd h
    cases this
    exact hw
  | o :: L, A, A', n, n', hw, h => by
    rw [exAll] at h
    cases he : exO A o.1 o.2 with
    | none => rw [he] at h; have := congrArg Prod.snd h; cases this
    | some B => rw [he] at h; exact exAll_WF L (exO_WF hw he) h
theorem exAll_n : ∀ (L : List (Int × List Int)) {A : Int → Int} {n : Int}, n ≤ (exAll A n L).1 ∧ (exAll A n L).1 ≤ n + L.length
  | [], A, n => by rw [exAll]; exact ⟨Int.le_refl _, by simp⟩
  | o :: L, A, n => by
    rw [exAll, List.length_cons]
    cases he : exO A o.1 o.2 with
    | none => dsimp only; omega
    | some B => have := exAll_n L (A := B) (n := n + 1); dsimp only; omega
theorem exAll_len : ∀ (L : List (Int × List Int)) {A A' : Int → Int} {n n' : Int}, exAll A n L = (n', some A') → n' = n + L.length
  | [], A, A', n, n', h => by
    rw [exAll] at h
    have := congrArg Prod.fst h
    dsimp only at this
    simp; omega
  | o :: L, A, A', n, n', h => by
    rw [exAll] at h
    cases he : exO A o.1 o.2 with
    | none => rw [he] at h; have := congrArg Prod.snd h; cases this
    | some B =>
      rw [he] at h
      have := exAll_len L h
      rw [List.length_cons]
      omega
section MREADS
variable {T : Int → Int} {tl : Int} {s : u_S}
theorem all_len (htl : tl ≤ 120) : ∀ (k : Nat) (p : Int), 0 ≤ p → p ≤ tl → ((allP T tl k p).2.length : Int) ≤ tl - p
  | 0, p, h0, h1 => by rw [allP]; simp; omega
  | k + 1, p, h0, h1 => by
    have go := ord_go (T := T) htl h0 h1
    rw [allP]
    by_cases hok : (ordP T tl p).1 = -1
    · have g1 := go.1 hok
      have hsk := sk_b (T := T) htl (p := (ordP T tl p).2.1) (by omega) g1.2.1
      rw [if_pos hok]
      by_cases hq : sk T tl (ordP T tl p).2.1 < tl
      · rw [if_pos hq]
        have := all_len htl k (sk T tl (ordP T tl p).2.1) (by omega) (by omega)
        dsimp only
        rw [List.length_cons]
        omega
      · rw [if_neg hq]
        simp
        omega
    · rw [if_neg hok]
      simp
      omega
theorem ord_sk (htl : tl ≤ 120) {p : Int} (h0 : 0 ≤ p) (h1 : p ≤ tl) : ordP T tl (sk T tl p) = ordP T tl p := by
  unfold ordP
  rw [sk_id htl h0 h1]
theorem all_sk (htl : tl ≤ 120) {p : Int} (h0 : 0 ≤ p) (h1 : p ≤ tl) (k : Nat) : allP T tl k (sk T tl p) = allP T tl k p := by
  cases k with
  | zero => rfl
  | succ k => rw [allP, allP, ord_sk htl h0 h1, sk_id htl h0 h1]
theorem e_mpass1 (htl : 0 ≤ tl ∧ tl ≤ 120) (hT : ∀ i : Int, 0 ≤ i → i < tl → 0 ≤ T i ∧ T i ≤ 127) {s0 : u_S} (kx : Int → u_S → Option (Int × u_S)) : ∀ (k m : Nat) (s : u_S) (p : Int), k < m → MPl T tl s p → 0 ≤ p → p ≤ tl → (tl - p).toNat < k → RQ s0 s → ∃ s', bd (f_X11_readsOrder oM 0 s) (fun r_1 s_1 => f_X11_reads_L11 m kx oM r_1 s_1) = kx (if (allP T tl k p).1 = -1 then 1 else 0) s' ∧ RQ s0 s' ∧ ((allP T tl k p).1 ≠ -1 → rd s' oM 17 = (allP T tl k p).1)
  | 0, m, s, p, h1, h2, h3, h4, h5, h6 => by omega
  | k + 1, 0, s, p, h1, h2, h3, h4, h5, h6 => by omega
  | k + 1, m + 1, s, p, h1, h2, h3, h4, h5, h6 => by
    obtain ⟨s1, a1, a2, a3⟩ := e_morder htl 0 (A := fun _ => 0) h2 h3 h4 ⟨fun _ => h6, fun z => absurd rfl z⟩
    have rq1 := (a3 (Or.inr rfl)).1 rfl
    have go := ord_go (T := T) htl.2 h3 h4
    rw [a1, bd_eq, allP, f_X11_reads_L11]
    by_cases hok : (ordP T tl p).1 = -1
    · have g1 := go.1 hok
      rw [show outP (ordP T tl p) = (ordP T tl p).2.1 from if_pos hok] at a2
      obtain ⟨s2, b1, b2, b3⟩ := e_here htl.2 a2 (by omega) g1.2.1
      have hsk := sk_b (T := T) htl.2 (p := (ordP T tl p).2.1) (by omega) g1.2.1
      have rq2 := rq1.trans b3.rq
      rw [if_pos hok, if_pos hok, if_neg (by omega), b1, bd_eq]
      by_cases hq : sk T tl (ordP T tl p).2.1 < tl
      · have hh : hr T tl (sk T tl (ordP T tl p).2.1) = T (sk T tl (ordP T tl p).2.1) := if_pos hq
        have hTp := hT (sk T tl (ordP T tl p).2.1) (by omega) hq
        rw [if_neg (by omega), if_pos hq]
        exact e_mpass1 htl hT kx k m s2 (sk T tl (ordP T tl p).2.1) (by omega) b2 (by omega) (by omega) (by omega) rq2
      · have hh : hr T tl (sk T tl (ordP T tl p).2.1) = -1 := if_neg hq
        rw [if_pos hh, if_neg hq]
        exact ⟨s2, by rw [if_pos rfl], rq2, fun z => absurd rfl z⟩
    · rw [if_neg hok, if_pos rfl, if_neg hok]
      refine ⟨s1, by rw [if_neg hok], rq1, fun _ => ?_⟩
      rw [a2.2]
      exact if_neg hok
theorem e_cp46 (a : Int) (kx : u_S → Option (Int × u_S)) : ∃ s', f_X11_reads_L46 FU kx oM 0 s = kx s' ∧ Only (fun o => o = (24, 2, 0)) s s' ∧ ∀ i : Int, 0 ≤ i → i < 145 → rd s' (24, 2, 0) i = rd s (24, 0, 0) i := by
  obtain ⟨b, q, i1, i2, i3⟩ := loop_relfu (fun m (b : Int × u_S) => f_X11_reads_L46 m kx oM b.1 b.2) (fun i b => b.1 = (i : Int) ∧ Only (fun o => o = (24, 2, 0)) s b.2 ∧ ∀ t : Int, 0 ≤ t → t < i → rd b.2 (24, 2, 0) t = rd s (24, 0, 0) t) (fun b => kx b.2) 145 (by omega) (by
    intro i b m hi ⟨e1, e2, e3⟩
    obtain ⟨b1, s1⟩ := b
    dsimp only at e1 e2 e3
    subst e1
    refine ⟨(wr ((i : Int) + 1), wt s1 (24, 2, 0) i (rd s1 (24, 0, 0) i)), ?_, by dsimp only; rw [wr_of (by omega) (by omega)]; omega, e2.wt rfl _ _, fun t a b => ?_⟩
    · dsimp only
      rw [f_X11_reads_L46, if_pos (by omega), gd_of (by omega) (by omega), gd_of (by omega) (by omega)]
      rfl
    · dsimp only
      by_cases ht : t = i
      · rw [ht, rd_wt_same, wr_in (InR_rd _ _ _), e2.rd (by simp)]
      · rw [rd_wt_k ht]
        exact e3 t a (by omega)) (by
    intro b m ⟨e1, e2, e3⟩
    rw [f_X11_reads_L46, if_neg (by omega)]) (0, s) ⟨rfl, Only.refl _ _, fun t a b => by omega⟩
  exact ⟨b.2, q, i2, fun i a b => i3 i a (by omega)⟩
theorem e_cp106 (n : Int) (kx : u_S → Option (Int × u_S)) : ∃ s', f_X11_reads_L106 FU kx oM n 0 s = kx s' ∧ Only mal s s' ∧ ∀ i : Int, 0 ≤ i → i < 145 → rd s' (24, 0, 0) i = rd s (24, 2, 0) i := by
  obtain ⟨b, q, i1, i2, i3⟩ := loop_relfu (fun m (b : Int × u_S) => f_X11_reads_L106 m kx oM n b.1 b.2) (fun i b => b.1 = (i : Int) ∧ Only mal s b.2 ∧ ∀ t : Int, 0 ≤ t → t < i → rd b.2 (24, 0, 0) t = rd s (24, 2, 0) t) (fun b => kx b.2) 145 (by omega) (by
    intro i b m hi ⟨e1, e2, e3⟩
    obtain ⟨b1, s1⟩ := b
    dsimp only at e1 e2 e3
    subst e1
    refine ⟨(wr ((i : Int) + 1), wt s1 (24, 0, 0) i (rd s1 (24, 2, 0) i)), ?_, by dsimp only; rw [wr_of (by omega) (by omega)]; omega, e2.wt rfl _ _, fun t a b => ?_⟩
    · dsimp only
      rw [f_X11_reads_L106, if_pos (by omega), gd_of (by omega) (by omega), gd_of (by omega) (by omega)]
      rfl
    · dsimp only
      by_cases ht : t = i
      · rw [ht, rd_wt_same, wr_in (InR_rd _ _ _), e2.rd (by simp [mal])]
      · rw [rd_wt_k ht]
        exact e3 t a (by omega)) (by
    intro b m ⟨e1, e2, e3⟩
    rw [f_X11_reads_L106, if_neg (by omega)]) (0, s) ⟨rfl, Only.refl _ _, fun t a b => by omega⟩
  exact ⟨b.2, q, i2, fun i a b => i3 i a (by omega)⟩
theorem e_cp47 (kx : u_S → Option (Int × u_S)) : ∃ s', f_X11_keepsAside_L47 FU kx oM 0 s = kx s' ∧ Only mal s s' ∧ ∀ i : Int, 0 ≤ i → i < 145 → rd s' (24, 0, 0) i = rd s (24, 2, 0) i := by
  obtain ⟨b, q, i1, i2, i3⟩ := loop_relfu (fun m (b : Int × u_S) => f_X11_keepsAside_L47 m kx oM b.1 b.2) (fun i b => b.1 = (i : Int) ∧ Only mal s b.2 ∧ ∀ t : Int, 0 ≤ t → t < i → rd b.2 (24, 0, 0) t = rd s (24, 2, 0) t) (fun b => kx b.2) 145 (by omega) (by
    intro i b m hi ⟨e1, e2, e3⟩
    obtain ⟨b1, s1⟩ := b
    dsimp only at e1 e2 e3
    subst e1
    refine ⟨(wr ((i : Int) + 1), wt s1 (24, 0, 0) i (rd s1 (24, 2, 0) i)), ?_, by dsimp only; rw [wr_of (by omega) (by omega)]; omega, e2.wt rfl _ _, fun t a b => ?_⟩
    · dsimp only
      rw [f_X11_keepsAside_L47, if_pos (by omega), gd_of (by omega) (by omega), gd_of (by omega) (by omega)]
      rfl
    · dsimp only
      by_cases ht : t = i
      · rw [ht, rd_wt_same, wr_in (InR_rd _ _ _), e2.rd (by simp [mal])]
      · rw [rd_wt_k ht]
        exact e3 t a (by omega)) (by
    intro b m ⟨e1, e2, e3⟩
    rw [f_X11_keepsAside_L47, if_neg (by omega)]) (0, s) ⟨rfl, Only.refl _ _, fun t a b => by omega⟩
  exact ⟨b.2, q, i2, fun i a b => i3 i a (by omega)⟩
def swo (o : u_O) : Prop := o = (24, 0, 0) ∨ o = (24, 2, 0)
theorem e_swap (kx : u_S → Option (Int × u_S)) : ∃ s', f_X11_keepsAside_L2 FU kx oM 0 s = kx s' ∧ Only swo s s' ∧ ∀ i : Int, 0 ≤ i → i < 145 → rd s' (24, 0, 0) i = rd s (24, 2, 0) i ∧ rd s' (24, 2, 0) i = rd s (24, 0, 0) i := by
  obtain ⟨b, q, i1, i2, i3, i4⟩ := loop_relfu (fun m (b : Int × u_S) => f_X11_keepsAside_L2 m kx oM b.1 b.2) (fun i b => b.1 = (i : Int) ∧ Only swo s b.2 ∧ (∀ t : Int, 0 ≤ t → t < i → rd b.2 (24, 0, 0) t = rd s (24, 2, 0) t ∧ rd b.2 (24, 2, 0) t = rd s (24, 0, 0) t) ∧ ∀ t : Int, (i : Int) ≤ t → rd b.2 (24, 0, 0) t = rd s (24, 0, 0) t ∧ rd b.2 (24, 2, 0) t = rd s (24, 2, 0) t) (fun b => kx b.2) 145 (by omega) (by
    intro i b m hi ⟨e1, e2, e3, e4⟩
    obtain ⟨b1, s1⟩ := b
    dsimp only at e1 e2 e3 e4
    subst e1
    refine ⟨(wr ((i : Int) + 1), wt (wt s1 (24, 0, 0) i (rd s1 (24, 2, 0) i)) (24, 2, 0) i (rd s1 (24, 0, 0) i)), ?_, by dsimp only; rw [wr_of (by omega) (by omega)]; omega, (e2.wt (Or.inl rfl) _ _).wt (Or.inr rfl) _ _, fun t a b => ?_, fun t a => ?_⟩
    · dsimp only
      rw [f_X11_keepsAside_L2, if_pos (by omega), gd_of (by omega) (by omega), gd_of (by omega) (by omega), gd_of (by omega) (by omega), gd_of (by omega) (by omega)]
      rfl
    · dsimp only
      by_cases ht : t = i
      · subst ht
        have := e4 i (Int.le_refl _)
        rw [rd_wt_o (by simp), rd_wt_same, rd_wt_same, wr_in (InR_rd _ _ _), wr_in (InR_rd _ _ _), this.1, this.2]
        exact ⟨rfl, rfl⟩
      · rw [rd_wt_o (by simp), rd_wt_k ht, rd_wt_k ht, rd_wt_o (by simp)]
        exact e3 t a (by omega)
    · dsimp only
      rw [rd_wt_o (by simp), rd_wt_k (by omega), rd_wt_k (by omega), rd_wt_o (by simp)]
      exact e4 t (by omega)) (by
    intro b m ⟨e1, e2, e3, e4⟩
    rw [f_X11_keepsAside_L2, if_neg (by omega)]) (0, s) ⟨rfl, Only.refl _ _, fun t a b => by omega, fun t _ => ⟨rfl, rfl⟩⟩
  exact ⟨b.2, q, i2, fun i a b => i3 i a (by omega)⟩
theorem e_mpass2 (htl : 0 ≤ tl ∧ tl ≤ 120) (hT : ∀ i : Int, 0 ≤ i → i < tl → 0 ≤ T i ∧ T i ≤ 127) {s0 : u_S} (kx : Int → u_S → Option (Int × u_S)) : ∀ (k m : Nat) (s : u_S) (p0 : Int) (n : Int) (A : Int → Int), k + 1 < m → MPl T tl s p0 → 0 ≤ p0 → p0 ≤ tl → (tl - p0).toNat < k → sk T tl p0 < tl → (allP T tl k p0).1 = -1 → XS 1 s0 s (some A) → 0 ≤ n → n ≤ p0 → ∃ s', XS 1 s0 s' (exAll A n (allP T tl k p0).2).2 ∧ ((exAll A n (allP T tl k p0).2).2.isSome = true → f_X11_reads_L83 m kx oM n s = kx (exAll A n (allP T tl k p0).2).1 s') ∧ ((exAll A n (allP T tl k p0).2).2 = none → f_X11_reads_L83 m kx oM n s = f_X11_reads_L106 FU (fun s_9 => some ((wr ((-1000) - (exAll A n (allP T tl k p0).2).1)), s_9)) oM (exAll A n (allP T tl k p0).2).1 0 s')
  | 0, m, s, p0, n, A, h1, h2, h3, h4, h5, _, _, _, _, _ => by omega
  | k + 1, 0, s, p0, n, A, h1, h2, h3, h4, h5, _, _, _, _, _ => by omega
  | k + 1, m + 1, s, p0, n, A, h1, h2, h3, h4, h5, h6, h7, h8, h9, h10 => by
    obtain ⟨s1, a1, a2, a3⟩ := e_here htl.2 h2 h3 h4
    have hsk := sk_b (T := T) htl.2 h3 h4
    have x1 := h8.rq a3.rq
    have hh : hr T tl (sk T tl p0) = T (sk T tl p0) := if_pos h6
    have hTp := hT (sk T tl p0) (by omega) h6
    obtain ⟨s2, b1, b2, b3⟩ := e_morder htl 1 a2 (by omega) (by omega) x1
    rw [ord_sk htl.2 h3 h4, sk_id htl.2 h3 h4] at b3
    rw [ord_sk htl.2 h3 h4] at b1 b2
    have go := ord_go (T := T) htl.2 h3 h4
    rw [allP] at h7 ⊢
    rw [f_X11_reads_L83, a1, bd_eq, if_neg (show ¬ hr T tl (sk T tl p0) = -1 by omega), b1, bd_eq]
    by_cases hok : (ordP T tl p0).1 = -1
    · have g1 := go.1 hok
      have x2 := b3 (Or.inl hok)
      rw [show outP (ordP T tl p0) = (ordP T tl p0).2.1 from if_pos hok] at b2
      have hsk2 := sk_b (T := T) htl.2 (p := (ordP T tl p0).2.1) (by omega) g1.2.1
      obtain ⟨_, _, c1, c2⟩ := x2.2 (by omega)
      rw [if_pos hok] at h7 ⊢
      cases he : exO A (hr T tl (sk T tl p0)) (ordP T tl p0).2.2 with
      | none =>
        have h19 := c2 he
        rw [he] at x2
        by_cases hq : sk T tl (ordP T tl p0).2.1 < tl
        · rw [if_pos hq]
          dsimp only
          rw [exAll, he]
          dsimp only
          refine ⟨s2, x2, fun z => ?_, fun _ => ?_⟩
          · cases z
          · rw [if_pos h19]
        · rw [if_neg hq]
          dsimp only
          rw [exAll, he]
          dsimp only
          refine ⟨s2, x2, fun z => ?_, fun _ => ?_⟩
          · cases z
          · rw [if_pos h19]
      | some A' =>
        have h19 := (c1 A' he).2.2
        rw [he] at x2
        rw [if_neg (show ¬ rd s2 oM 19 < 0 by omega), wr_of (x := n + 1) (by omega) (by omega)]
        by_cases hq : sk T tl (ordP T tl p0).2.1 < tl
        · rw [if_pos hq] at h7 ⊢
          dsimp only at h7 ⊢
          rw [all_sk htl.2 (by omega) g1.2.1] at h7 ⊢
          obtain ⟨s3, d1, d2, d3⟩ := e_mpass2 htl hT kx k m s2 (ordP T tl p0).2.1 (n + 1) A' (by omega) b2 (by omega) g1.2.1 (by omega) hq h7 x2 (by omega) (by omega)
          rw [exAll, he]
          exact ⟨s3, d1, d2, d3⟩
        · rw [if_neg hq]
          dsimp only
          rw [exAll, he]
          dsimp only
          rw [exAll]
          obtain ⟨s3, d1, d2, d3⟩ := e_here htl.2 b2 (by omega) g1.2.1
          refine ⟨s3, x2.rq d3.rq, fun _ => ?_, fun z => by cases z⟩
          cases m with
          | zero => omega
          | succ m =>
            rw [f_X11_reads_L83, d1, bd_eq, if_pos (show hr T tl (sk T tl (ordP T tl p0).2.1) = -1 from if_neg hq)]
    · rw [if_neg hok] at h7
      exact absurd h7 hok
end MREADS
