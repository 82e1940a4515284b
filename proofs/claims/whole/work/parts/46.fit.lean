/-! rows; does it fit -/
def rwo (o : u_O) : Prop := o = (24, 8, 0) ∨ o = (24, 9, 0)
theorem rwo_msc (o : u_O) (h : rwo o) : msc o := by rcases h with h | h <;> subst h <;> simp [msc]
def RWS (s : u_S) (A : Int → Int) (l f : Int) : Prop := (∀ t : Int, 0 ≤ t → t < lenA A l → rd s (24, 8, 0) t = SND A l 0 t) ∧ ∀ t : Int, 0 ≤ t → t < lastA A l f → rd s (24, 9, 0) t = SND A l f t
theorem bit_p0 (p q r : Prop) [Decidable p] [Decidable q] [Decidable r] : bitk ((if p then 1 else 0) + (if q then 2 else 0) + (if r then 4 else 0)) 0 = 1 ↔ p := by
  by_cases hp : p <;> by_cases hq : q <;> by_cases hr : r <;> simp only [hp, hq, hr, if_true, if_false] <;> decide +kernel
theorem bit_p2 (p q r : Prop) [Decidable p] [Decidable q] [Decidable r] : bitk ((if p then 1 else 0) + (if q then 2 else 0) + (if r then 4 else 0)) 2 = 1 ↔ r := by
  by_cases hp : p <;> by_cases hq : q <;> by_cases hr : r <;> simp only [hp, hq, hr, if_true, if_false] <;> decide +kernel
abbrev badA (A : Int → Int) (l f m d t : Int) : Prop := bitk (flt (A 137) (HRD A l 0 0 0) (HRD A l f m d) t) 0 = 1 ∨ bitk (flt (A 137) (HRD A l 0 0 0) (HRD A l f m d) t) 2 = 1
section FIT
variable {s : u_S} {A : Int → Int} {l f m d t : Int}
theorem e_laysRows (hm : MR s A) (hl : WL A l) (h0 : 0 ≤ l) (h1 : l ≤ 3) (hto : 0 ≤ A 136 ∧ A 136 ≤ 6) (f : Int) : ∃ s', f_X11_laysRows oM l f s = some (0, s') ∧ Only rwo s s' ∧ RWS s' A l f := by
  have hlen := hl.lenb
  have hlast : 0 ≤ lastA A l f ∧ lastA A l f ≤ 80 := by unfold lastA; split <;> omega
  have isnd : ∀ f t, InR (SND A l f t) := fun f t => by
    have := snd_b hl f t
    exact InR_iff.mpr ⟨by omega, by omega⟩
  unfold f_X11_laysRows
  obtain ⟨b, q, i1, i2, i3⟩ := loop_relfu (fun k (b : Int × u_S) => f_X11_laysRows_L2 k (fun s_1 => f_X11_laysRows_L32 FU (fun s_2 => some (0, s_2)) oM l f 0 s_1) oM l f b.1 b.2) (fun j b => b.1 = j ∧ Only rwo s b.2 ∧ ∀ t : Int, 0 ≤ t → t < j → rd b.2 (24, 8, 0) t = SND A l 0 t) (fun b => f_X11_laysRows_L32 FU (fun s_2 => some (0, s_2)) oM l f 0 b.2) (lenA A l).toNat (by omega) (by
    intro j b k hj ⟨e1, e2, e3⟩
    obtain ⟨b1, s1⟩ := b
    dsimp only at e1 e2 e3
    subst e1
    have m1 : MR s1 A := hm.keep e2 (by simp [rwo])
    refine ⟨(wr ((j : Int) + 1), wt s1 (24, 8, 0) j (SND A l 0 j)), ?_, by dsimp only; rw [wr_of (by omega) (by omega)]; omega, e2.wt (Or.inl rfl) _ _, fun t a b => ?_⟩
    · dsimp only
      rw [f_X11_laysRows_L2, e_mlength m1 hl oM h0 h1, bd_eq, if_pos (by omega), e_formed m1 hl oM h0 h1 hto, bd_eq, gd_of (by omega) (by omega)]
      rfl
    · dsimp only
      by_cases ht : t = j
      · rw [ht, rd_wt_same, wr_in (isnd _ _)]
      · rw [rd_wt_k ht]; exact e3 t a (by omega)) (by
    intro b k ⟨e1, e2, e3⟩
    rw [f_X11_laysRows_L2, e_mlength (hm.keep e2 (by simp [rwo])) hl oM h0 h1, bd_eq, if_neg (by omega)]) (0, s) ⟨rfl, Only.refl _ _, fun t a b => by omega⟩
  obtain ⟨b1, s1⟩ := b
  dsimp only at q i1 i2 i3
  obtain ⟨b, q', j1, j2, j3⟩ := loop_relfu (fun k (b : Int × u_S) => f_X11_laysRows_L32 k (fun s_2 => some (0, s_2)) oM l f b.1 b.2) (fun j b => b.1 = j ∧ Only (fun o => o = (24, 9, 0)) s1 b.2 ∧ ∀ t : Int, 0 ≤ t → t < j → rd b.2 (24, 9, 0) t = SND A l f t) (fun b => some (0, b.2)) (lastA A l f).toNat (by omega) (by
    intro j b k hj ⟨e1, e2, e3⟩
    obtain ⟨b1, s2⟩ := b
    dsimp only at e1 e2 e3
    subst e1
    have m1 : MR s2 A := (hm.keep i2 (by simp [rwo])).keep e2 (by simp)
    refine ⟨(wr ((j : Int) + 1), wt s2 (24, 9, 0) j (SND A l f j)), ?_, by dsimp only; rw [wr_of (by omega) (by omega)]; omega, e2.wt rfl _ _, fun t a b => ?_⟩
    · dsimp only
      rw [f_X11_laysRows_L32, e_lasts m1 hl oM h0 h1, bd_eq, if_pos (by omega), e_formed m1 hl oM h0 h1 hto, bd_eq, gd_of (by omega) (by omega)]
      rfl
    · dsimp only
      by_cases ht : t = j
      · rw [ht, rd_wt_same, wr_in (isnd _ _)]
      · rw [rd_wt_k ht]; exact e3 t a (by omega)) (by
    intro b k ⟨e1, e2, e3⟩
    rw [f_X11_laysRows_L32, e_lasts ((hm.keep i2 (by simp [rwo])).keep e2 (by simp)) hl oM h0 h1, bd_eq, if_neg (by omega)]) (0, s1) ⟨rfl, Only.refl _ _, fun t a b => by omega⟩
  refine ⟨b.2, by rw [q]; exact q', i2.trans (j2.mono (fun o h => Or.inr h)), fun t a b => ?_, fun t a b => j3 t a (by omega)⟩
  rw [j2.rd (by simp)]
  exact i3 t a (by omega)
/-- what is bad at a tick, in the rows' words -/
theorem bad_iff (hl : WL A l) (hd : 0 ≤ d) (h1 : d ≤ t) (h2 : t < lenA A l) (hmm : -40 ≤ m ∧ m ≤ 40) : badA A l f m d t ↔ (t % A 137 = 0 ∧ harsh7 ((SND A l 0 t - SND A l f (t - d) - m) % 7)) ∨ (d < t ∧ ((0 < SND A l 0 t - SND A l 0 (t - 1) ∧ 0 < SND A l f (t - d) - SND A l f (t - 1 - d)) ∨ (SND A l 0 t - SND A l 0 (t - 1) < 0 ∧ SND A l f (t - d) - SND A l f (t - 1 - d) < 0)) ∧ ((SND A l 0 t - SND A l f (t - d) - m) % 7 = 0 ∨ (SND A l 0 t - SND A l f (t - d) - m) % 7 = 4) ∧ (SND A l 0 (t - 1) - SND A l f (t - 1 - d) - m) % 7 = (SND A l 0 t - SND A l f (t - d) - m) % 7) := by
  have t0 : totA A l 0 = lenA A l := by rw [tot_last A l 0 hl.1.1]; rfl
  have tf : lenA A l ≤ totA A l f := by
    rw [tot_last A l f hl.1.1]
    have := hl.lenb
    unfold lastA
    split <;> omega
  have u1 := hrd_in (A := A) (l := l) (f := 0) (m := 0) (st := 0) (t := t) hl (by omega) (by omega)
  have w1 := hrd_in (A := A) (l := l) (f := f) (m := m) (st := d) (t := t) hl (by omega) (by omega)
  rw [Int.sub_zero, Int.add_zero] at u1
  unfold badA flt
  rw [if_neg (by omega), bit_p0, bit_p2, u1.1, w1.1]
  by_cases hdt : d < t
  · have u2 := hrd_in (A := A) (l := l) (f := 0) (m := 0) (st := 0) (t := t - 1) hl (by omega) (by omega)
    have w2 := hrd_in (A := A) (l := l) (f := f) (m := m) (st := d) (t := t - 1) hl (by omega) (by omega)
    rw [Int.sub_zero, Int.add_zero] at u2
    rw [u2.1, w2.1]
    unfold par7 harsh7
    omega
  · have w2 := hrd_out (A := A) (f := f) (m := m) (st := d) (t := t - 1) hl (by omega)
    rw [w2]
    unfold harsh7
    omega
end FIT
