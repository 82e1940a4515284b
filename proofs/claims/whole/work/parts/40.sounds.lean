/-! sounds; two entries' faults -/
section SOUNDS
variable {s : u_S} {A : Int → Int} {e g t : Int}
theorem ent_in (hm : MR s A) {k : Int} (h0 : 0 ≤ e) (h1 : e < 10) (k0 : 0 ≤ k) (k1 : k < 5) : InR (entA A e k) := by
  unfold entA
  rw [← hm _ (by omega) (by omega)]
  exact InR_rd _ _ _
theorem e_heardOf (hm : MR s A) (hw : WF A) (h0 : 0 ≤ e) (h1 : e < A 84) (t1 : -1 ≤ t) (t2 : t < 2147483648) : ∃ s', f_X11_heardOf oM e t s = some (hrB A (entA A) e t, s') ∧ Only (fun o => o = (24, 5, 0)) s s' := by
  have hn := hw.2.1.1
  have hb := hw.2.1.2 e h0 h1
  have he : e < 10 := by omega
  have hr := fun k a b => e_of hm oM h0 he (k := k) a b
  obtain ⟨s', a1, a2, a3⟩ := e_puts (s := s) (r := (24, 5, 0)) rfl (ent_in hm h0 he (k := 0) (by omega) (by omega)) (ent_in hm h0 he (k := 1) (by omega) (by omega)) (ent_in hm h0 he (k := 2) (by omega) (by omega)) (ent_in hm h0 he (k := 3) (by omega) (by omega))
  refine ⟨s', ?_, a2⟩
  unfold f_X11_heardOf
  rw [hr 0 (by omega) (by omega), bd_eq, hr 1 (by omega) (by omega), bd_eq, hr 2 (by omega) (by omega), bd_eq, hr 3 (by omega) (by omega), bd_eq, show a_Mo_upper oM = (24, 5, 0) from rfl, a1, bd_eq, e_heard (hm.keep a2 (by simp)) (hw.1 _ hb.1.1 hb.1.2) hb.1.1 hb.1.2 hw.2.2.2.2.1 rfl a3 (by omega) (by omega) t1 t2, bd_eq]
  rfl
theorem hit_end (hw : WF A) {v : Int} {e : Nat} : hitB A (entA A) v t e = true ↔ (entA A e 4 = v ∧ entA A e 3 ≤ t ∧ t < entA A e 3 + totA A (entA A e 0) (entA A e 1)) := by
  unfold hitB
  rw [decide_eq_true_iff]
theorem hit_one (hw : WF A) {v : Int} {e g : Nat} (h1 : (e : Int) < g) (h2 : (g : Int) < A 84) (h3 : hitB A (entA A) v t e = true) (h4 : hitB A (entA A) v t g = true) : False := by
  rw [hit_end hw] at h3 h4
  have q := hw.2.2.1 e g (by omega) h1 h2 (by omega)
  unfold endA at q
  have b1 := hw.2.1.2 e (by omega) (by omega)
  have b2 := hw.2.1.2 g (by omega) (by omega)
  have e1 := tot_last A (entA A e 0) (entA A e 1) (hw.1 _ b1.1.1 b1.1.2).1.1
  have e2 := tot_last A (entA A g 0) (entA A g 1) (hw.1 _ b2.1.1 b2.1.2).1.1
  omega
theorem hr_hit (hw : WF A) {v : Int} {e : Nat} (h1 : (e : Int) < A 84) (hv : entA A e 4 = v) : hrB A (entA A) e t = -1000 ↔ hitB A (entA A) v t e = false := by
  have hb := hw.2.1.2 e (by omega) h1
  have hl := hw.1 _ hb.1.1 hb.1.2
  by_cases h : entA A e 3 ≤ t ∧ t < entA A e 3 + totA A (entA A e 0) (entA A e 1)
  · have q := hrd_in (m := entA A e 2) hl h.1 h.2
    have h2 : hitB A (entA A) v t e = true := (hit_end hw).mpr ⟨hv, h⟩
    rw [h2]
    unfold hrB
    simp only [Bool.true_eq_false, iff_false]
    omega
  · have q := hrd_out (f := entA A e 1) (m := entA A e 2) (st := entA A e 3) (t := t) hl h
    have h2 : hitB A (entA A) v t e = false := by
      rw [← Bool.not_eq_true]
      exact fun z => h ((hit_end hw).mp z).2
    rw [h2]
    unfold hrB
    simp only [iff_true]
    exact q
theorem e_msounds (hm : MR s A) (hw : WF A) (v : Int) (t1 : 0 ≤ t) (t2 : t < 2147483648) : ∃ s', f_X11_sounds_L31 FU (fun v3_1 s_4 => some (v3_1, s_4)) oM v t (-1000) 0 s = some ((match ff (hitB A (entA A) v t) 0 (A 84).toNat with | some i => hrB A (entA A) i t | none => -1000), s') ∧ Only (fun o => o = (24, 5, 0)) s s' := by
  have hn := hw.2.1.1
  obtain ⟨b, q, i1, i2, i3, i4⟩ := loop_relfu (fun m (b : Int × Int × u_S) => f_X11_sounds_L31 m (fun v3_1 s_4 => some (v3_1, s_4)) oM v t b.1 b.2.1 b.2.2) (fun i b => b.2.1 = i ∧ Only (fun o => o = (24, 5, 0)) s b.2.2 ∧ (∀ x : Nat, x < i → hitB A (entA A) v t x = true → b.1 = hrB A (entA A) x t) ∧ ((∀ x : Nat, x < i → hitB A (entA A) v t x = false) → b.1 = -1000)) (fun b => some (b.1, b.2.2)) (A 84).toNat (by omega) (by
    intro i b m hi ⟨e1, e2, e3, e4⟩
    obtain ⟨b1, b2, s1⟩ := b
    dsimp only at e1 e2 e3 e4
    subst e1
    have m1 : MR s1 A := hm.keep e2 (by simp)
    have hst : ∀ (x : Int) (s2 : u_S), Only (fun o => o = (24, 5, 0)) s1 s2 → (hitB A (entA A) v t i = true → x = hrB A (entA A) i t) → (hitB A (entA A) v t i = false → x = b1) → ((wr ((i : Int) + 1) = ((i + 1 : Nat) : Int)) ∧ Only (fun o => o = (24, 5, 0)) s s2 ∧ (∀ y : Nat, y < i + 1 → hitB A (entA A) v t y = true → x = hrB A (entA A) y t) ∧ ((∀ y : Nat, y < i + 1 → hitB A (entA A) v t y = false) → x = -1000)) := by
      intro x s2 o2 hx1 hx2
      refine ⟨by rw [wr_of (by omega) (by omega)]; omega, e2.trans o2, fun y hy hh => ?_, fun hno => ?_⟩
      · by_cases hyi : y = i
        · subst hyi; exact hx1 hh
        · have hf : hitB A (entA A) v t i = false := by
            rw [← Bool.not_eq_true]
            exact fun z => hit_one hw (e := y) (g := i) (by omega) (by omega) hh z
          rw [hx2 hf]
          exact e3 y (by omega) hh
      · rw [hx2 (hno i (by omega))]
        exact e4 (fun y hy => hno y (by omega))
    by_cases hv : entA A i 4 = v
    · obtain ⟨s2, a1, a2⟩ := e_heardOf (e := i) (t := t) m1 hw (by omega) (by omega) (by omega) t2
      have hh := hr_hit (t := t) hw (e := i) (by omega) hv
      by_cases hx : hrB A (entA A) i t = -1000
      · refine ⟨(b1, wr ((i : Int) + 1), s2), ?_, hst b1 s2 a2 (fun z => by rw [hh.mp hx] at z; cases z) (fun _ => rfl)⟩
        dsimp only
        rw [f_X11_sounds_L31, gd_of (by omega) (by omega), m_rd m1 _ (by omega) (by omega), if_pos (by omega), e_of m1 oM (by omega) (by omega) (by omega) (by omega), bd_eq, jn_eq, if_pos hv, a1, bd_eq]
        dsimp only
        rw [jn_eq, hx, if_pos rfl]
      · refine ⟨(hrB A (entA A) i t, wr ((i : Int) + 1), s2), ?_, hst _ s2 a2 (fun _ => rfl) (fun z => absurd (hh.mpr z) hx)⟩
        dsimp only
        rw [f_X11_sounds_L31, gd_of (by omega) (by omega), m_rd m1 _ (by omega) (by omega), if_pos (by omega), e_of m1 oM (by omega) (by omega) (by omega) (by omega), bd_eq, jn_eq, if_pos hv, a1, bd_eq]
        dsimp only
        rw [jn_eq, if_neg hx]
    · refine ⟨(b1, wr ((i : Int) + 1), s1), ?_, hst b1 s1 (Only.refl _ _) (fun z => absurd ((hit_end hw).mp z).1 hv) (fun _ => rfl)⟩
      dsimp only
      rw [f_X11_sounds_L31, gd_of (by omega) (by omega), m_rd m1 _ (by omega) (by omega), if_pos (by omega), e_of m1 oM (by omega) (by omega) (by omega) (by omega), bd_eq, jn_eq, if_neg hv]
      dsimp only
      rw [jn_eq, if_pos rfl]) (by
    intro b m ⟨e1, e2, e3, e4⟩
    rw [f_X11_sounds_L31, gd_of (by omega) (by omega), m_rd (hm.keep e2 (by simp)) _ (by omega) (by omega), if_neg (by omega)]) (-1000, 0, s) ⟨rfl, Only.refl _ _, fun x hx => by omega, fun _ => rfl⟩
  refine ⟨b.2.2, ?_, i2⟩
  rw [q]
  congr 2
  cases hf : ff (hitB A (entA A) v t) 0 (A 84).toNat with
  | none => exact i4 (fun x hx => ff_none hf x (by omega) (by omega))
  | some i =>
    have := ff_some hf
    exact i3 i (by omega) this.2.2.1
theorem call_sounds (v t : Int) (ht : InR t) : Call (f_X10_sounds oF v t) (f_X11_sounds oM v t) := by
  intro A H n T tl c hw
  have tr := InR_iff.mp ht
  by_cases h1 : 0 ≤ v ∧ v ≤ 3
  · by_cases h2 : t < 0
    · refine at_bad (-2000) hw (fun s hs => ?_) (fun s hs => ?_)
      · unfold f_X10_sounds
        rw [e_within, bd_eq, if_pos h1, jn_eq, if10, if_pos h2]
      · unfold f_X11_sounds
        rw [e_in, bd_eq, if_pos h1, jn_eq, if10, if_pos h2]
    · refine at_ask (match ff (hitB A (entA A) v t) 0 (A 84).toNat with | some i => hrB A (entA A) i t | none => -1000) hw (fun s hs => ?_) (fun s hs => ?_)
      · obtain ⟨s', a1, a2, a3, a4⟩ := e_gatherA hs.1 hw.1
        unfold f_X10_sounds
        rw [e_within, bd_eq, if_pos h1, jn_eq, if10, if_neg h2, a1, bd_eq, show a_FP_chorus oF = (17, 0, 0) from rfl, e_stepOf' hw.1.2.1.1 a3 a4 hw.1.1 (fun e a b => by have := hw.1.2.1.2 e a b; omega) v (by omega) tr.2, bd_eq]
        exact ⟨s', rfl, a2.mono gob_csc⟩
      · obtain ⟨s', a1, a2⟩ := e_msounds hs.1 hw.1 v (t := t) (by omega) tr.2
        unfold f_X11_sounds
        rw [e_in, bd_eq, if_pos h1, jn_eq, if10, if_neg h2, a1]
        exact ⟨s', rfl, a2.mono (fun o h => by subst h; simp [msc])⟩
  · refine at_bad (-2000) hw (fun s hs => ?_) (fun s hs => ?_)
    · unfold f_X10_sounds
      rw [e_within, bd_eq, if_neg h1, jn_eq, if00]
    · unfold f_X11_sounds
      rw [e_in, bd_eq, if_neg h1, jn_eq, if00]
end SOUNDS
