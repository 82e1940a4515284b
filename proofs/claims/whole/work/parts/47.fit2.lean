/-! does it fit: a step -/
theorem fit_mot {α : Type} (K N : α) (x y : Int) : (if x ≤ 0 then (if x < 0 then (if y < 0 then K else N) else N) else (if y ≤ 0 then (if x < 0 then (if y < 0 then K else N) else N) else K)) = if (0 < x ∧ 0 < y) ∨ (x < 0 ∧ y < 0) then K else N := by
  by_cases h1 : x ≤ 0
  · rw [if_pos h1]
    by_cases h2 : x < 0
    · rw [if_pos h2]
      by_cases h3 : y < 0
      · rw [if_pos h3, if_pos (Or.inr ⟨h2, h3⟩)]
      · rw [if_neg h3, if_neg (by omega)]
    · rw [if_neg h2, if_neg (by omega)]
  · rw [if_neg h1]
    by_cases h3 : y ≤ 0
    · rw [if_pos h3, if_neg (show ¬ x < 0 by omega), if_neg (by omega)]
    · rw [if_neg h3, if_pos (by omega)]
theorem fit_and {α : Type} (K N : α) (P Q : Prop) [Decidable P] [Decidable Q] : (if P then (if Q then K else N) else N) = if P ∧ Q then K else N := by
  by_cases h : P <;> by_cases h2 : Q <;> simp [h, h2]
theorem fit_or {α : Type} (K N : α) (P Q : Prop) [Decidable P] [Decidable Q] : (if P then K else (if Q then K else N)) = if P ∨ Q then K else N := by
  by_cases h : P <;> by_cases h2 : Q <;> simp [h, h2]
theorem fit_04 {α : Type} (X N : α) (r : Int) : (if r = 0 then X else (if r = 4 then X else N)) = if r = 0 ∨ r = 4 then X else N := fit_or X N _ _
theorem fit_136 {α : Type} (K J : α) (z r : Int) : (if z = 0 then (if r = 1 then K else (if r = 3 then K else (if r = 6 then K else J))) else J) = if z = 0 ∧ harsh7 r then K else J := by
  unfold harsh7
  by_cases h : z = 0
  · by_cases h2 : r = 1 <;> by_cases h3 : r = 3 <;> by_cases h4 : r = 6 <;> simp [h, h2, h3, h4]
  · simp [h]
section FIT2
variable {s : u_S} {A : Int → Int} {l f m d t : Int}
theorem e_fitStep (hm : MR s A) (hl : WL A l) (hr : RWS s A l f) (hmt : 1 ≤ A 137 ∧ A 137 ≤ 8) (hd : 0 ≤ d) (h1 : d ≤ t) (h2 : t < lenA A l) (hmm : -40 ≤ m ∧ m ≤ 40) (k : Nat) (kx : u_S → Option (Int × u_S)) : f_X11_isFit_L10 (k + 1) kx oM m d (lenA A l) t s = if badA A l f m d t then some (0, s) else f_X11_isFit_L10 k kx oM m d (lenA A l) (t + 1) s := by
  have hlen := hl.lenb
  have hlast : lenA A l ≤ lastA A l f := by unfold lastA; split <;> omega
  have ra := hr.1 t (by omega) h2
  have rb := hr.2 (t - d) (by omega) (by omega)
  have ba := snd_b hl 0 t
  have bb := snd_b hl f (t - d)
  have hi := bad_iff (f := f) hl hd h1 h2 hmm
  rw [f_X11_isFit_L10, if_pos h2, gd_of (by omega) (by omega), wr_of (x := t - d) (by omega) (by omega), gd_of (by omega) (by omega), show a_Mo_plainRow oM = (24, 8, 0) from rfl, show a_Mo_formRow oM = (24, 9, 0) from rfl, ra, rb]
  have ra' : d < t → rd s (24, 8, 0) (t - 1) = SND A l 0 (t - 1) := fun z => hr.1 (t - 1) (by omega) (by omega)
  have rb' : d < t → rd s (24, 9, 0) (t - 1 - d) = SND A l f (t - 1 - d) := fun z => hr.2 (t - 1 - d) (by omega) (by omega)
  have ba' := snd_b hl 0 (t - 1)
  have bb' := snd_b hl f (t - 1 - d)
  obtain ⟨R, hR⟩ : ∃ R, R = (SND A l 0 t - SND A l f (t - d) - m) % 7 := ⟨_, rfl⟩
  rw [wr_of (x := SND A l 0 t - SND A l f (t - d)) (by omega) (by omega), wr_of (x := SND A l 0 t - SND A l f (t - d) - m) (by omega) (by omega), e_left2 (by omega) (by omega) (by omega) (by omega), bd_eq, gd_of (by omega) (by omega), m_rd hm _ (by omega) (by omega), nz_of (by omega), Int.tmod_eq_emod_of_nonneg (show 0 ≤ t by omega), ← hR]
  rw [← hR] at hi
  by_cases hdt : t ≤ d
  · simp only [jn_eq, if_pos hdt]
    rw [fit_136, wr_of (x := t + 1) (by omega) (by omega)]
    by_cases hc : t % A 137 = 0 ∧ harsh7 R
    · rw [if_pos hc, if_pos (hi.mpr (Or.inl hc))]
    · rw [if_neg hc, if_neg (fun z => by
        rcases hi.mp z with z | z
        · exact hc z
        · omega)]
  · obtain ⟨R', hR'⟩ : ∃ R', R' = (SND A l 0 (t - 1) - SND A l f (t - 1 - d) - m) % 7 := ⟨_, rfl⟩
    rw [← hR'] at hi
    have ra2 := ra' (by omega)
    have rb2 := rb' (by omega)
    simp only [jn_eq, if_neg hdt]
    rw [wr_of (x := t - 1) (by omega) (by omega), wr_of (x := t - 1 - d) (by omega) (by omega), gd_of (by omega) (by omega), gd_of (by omega) (by omega), ra2, rb2, wr_of (x := SND A l 0 (t - 1) - SND A l f (t - 1 - d)) (by omega) (by omega), wr_of (x := SND A l 0 (t - 1) - SND A l f (t - 1 - d) - m) (by omega) (by omega), e_left2 (by omega) (by omega) (by omega) (by omega), bd_eq, ← hR', gd_of (by omega) (by omega), gd_of (by omega) (by omega), gd_of (by omega) (by omega), gd_of (by omega) (by omega), ra, ra2, rb, rb2, wr_of (x := SND A l 0 t - SND A l 0 (t - 1)) (by omega) (by omega), wr_of (x := SND A l f (t - d) - SND A l f (t - 1 - d)) (by omega) (by omega), fit_mot, fit_and, fit_04, fit_and, fit_136, fit_or, wr_of (x := t + 1) (by omega) (by omega)]
    by_cases hb : badA A l f m d t
    · rw [if_pos hb, if_pos]
      rcases hi.mp hb with z | z
      · exact Or.inl z
      · exact Or.inr ⟨z.2.2.1, z.2.2.2, z.2.1⟩
    · rw [if_neg hb, if_neg]
      rintro (z | z)
      · exact hb (hi.mpr (Or.inl z))
      · exact hb (hi.mpr (Or.inr ⟨by omega, z.2.2, z.1, z.2.1⟩))
end FIT2
