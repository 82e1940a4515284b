/-! does it fit: a step -/
theorem ifc {α : Type} {P Q : Prop} [Decidable P] [Decidable Q] (h : P ↔ Q) (a b : α) : (if P then a else b) = if Q then a else b := by
  by_cases hp : P
  · rw [if_pos hp, if_pos (h.mp hp)]
  · rw [if_neg hp, if_neg (fun z => hp (h.mpr z))]
theorem fit_mot {α : Type} (K N : α) (x y : Int) : (if x ≤ 0 then (if x < 0 then (if y < 0 then K else N) else N) else (if y ≤ 0 then (if x < 0 then (if y < 0 then K else N) else N) else K)) = if (0 < x ∧ 0 < y) ∨ (x < 0 ∧ y < 0) then K else N := by
  by_cases h1 : x ≤ 0
  · rw [if_pos h1]
    by_cases h2 : x < 0
    · rw [if_pos h2]
      by_cases h3 : y < 0
      · rw [if_pos h3, if_pos (Or.inr ⟨h2, h3⟩)]
      · rw [if_neg h3, if_neg (by omega)]
    · rw [if_neg h2, if_neg (by omega)]
  · rw [if_neg h1]
    by_cases h3 : y ≤ 0
    · rw [if_pos h3, if_neg (show ¬ x < 0 by omega), if_neg (by omega)]
    · rw [if_neg h3, if_pos (by omega)]
theorem fit_and {α : Type} (K N : α) (P Q : Prop) [Decidable P] [Decidable Q] : (if P then (if Q then K else N) else N) = if P ∧ Q then K else N := by
  by_cases h : P <;> by_cases h2 : Q <;> simp [h, h2]
theorem fit_or {α : Type} (K N : α) (P Q : Prop) [Decidable P] [Decidable Q] : (if P then K else (if Q then K else N)) = if P ∨ Q then K else N := by
  by_cases h : P <;> by_cases h2 : Q <;> simp [h, h2]
theorem fit_04 {α : Type} (X N : α) (r : Int) : (if r = 0 then X else (if r = 4 then X else N)) = if r = 0 ∨ r = 4 then X else N := fit_or X N _ _
theorem fit_136 {α : Type} (K J : α) (z r : Int) : (if z = 0 then (if r = 1 then K else (if r = 3 then K else (if r = 6 then K else J))) else J) = if z = 0 ∧ harsh7 r then K else J := by
  unfold harsh7
  by_cases h : z = 0
  · by_cases h2 : r = 1 <;> by_cases h3 : r = 3 <;> by_cases h4 : r = 6 <;> simp [h, h2, h3, h4]
  · simp [h]
section FIT2
variable {s : u_S} {A : Int → Int} {l f m d t : Int}
theorem snd_b2 (hl : WL A l) (f t : Int) : -1000 ≤ SND A l f t ∧ SND A l f t ≤ 54 := by
  have := snd_b hl f t
  omega
theorem e_fitStep0 (hm : MR s A) (hl : WL A l) (hr : RWS s A l f) (hmt : 1 ≤ A 137 ∧ A 137 ≤ 8) (hd : 0 ≤ d) (h1 : d ≤ t) (h2 : t < lenA A l) (hmm : -40 ≤ m ∧ m ≤ 40) (k : Nat) (kx : u_S → Option (Int × u_S)) : f_X11_isFit_L10 (k + 1) kx oM m d (lenA A l) t s = if (t % A 137 = 0 ∧ harsh7 ((SND A l 0 t - SND A l f (t - d) - m) % 7)) ∨ (d < t ∧ ((SND A l 0 t - SND A l f (t - d) - m) % 7 = 0 ∨ (SND A l 0 t - SND A l f (t - d) - m) % 7 = 4) ∧ (SND A l 0 (t - 1) - SND A l f (t - 1 - d) - m) % 7 = (SND A l 0 t - SND A l f (t - d) - m) % 7 ∧ ((0 < SND A l 0 t - SND A l 0 (t - 1) ∧ 0 < SND A l f (t - d) - SND A l f (t - 1 - d)) ∨ (SND A l 0 t - SND A l 0 (t - 1) < 0 ∧ SND A l f (t - d) - SND A l f (t - 1 - d) < 0))) then some (0, s) else f_X11_isFit_L10 k kx oM m d (lenA A l) (t + 1) s := by
  have hlen := hl.lenb
  have hlast : lenA A l ≤ lastA A l f := by unfold lastA; split <;> omega
  have ra := hr.1 t (by omega) h2
  have rb := hr.2 (t - d) (by omega) (by omega)
  have ra' : d < t → rd s (24, 8, 0) (t - 1) = SND A l 0 (t - 1) := fun z => hr.1 (t - 1) (by omega) (by omega)
  have rb' : d < t → rd s (24, 9, 0) (t - 1 - d) = SND A l f (t - 1 - d) := fun z => hr.2 (t - 1 - d) (by omega) (by omega)
  clear hr
  have ba := snd_b2 hl 0 t
  have bb := snd_b2 hl f (t - d)
  have ba' := snd_b2 hl 0 (t - 1)
  have bb' := snd_b2 hl f (t - 1 - d)
  clear hlast
  rw [f_X11_isFit_L10, if_pos h2, gd_of (by omega) (by omega), wr_of (x := t - d) (by omega) (by omega), gd_of (by omega) (by omega), show a_Mo_plainRow oM = (24, 8, 0) from rfl, show a_Mo_formRow oM = (24, 9, 0) from rfl, ra, rb]
  rw [wr_of (x := SND A l 0 t - SND A l f (t - d)) (by omega) (by omega), wr_of (x := SND A l 0 t - SND A l f (t - d) - m) (by omega) (by omega), e_left2 (by omega) (by omega) (by omega) (by omega), bd_eq, gd_of (by omega) (by omega), m_rd hm _ (by omega) (by omega), nz_of (by omega), Int.tmod_eq_emod_of_nonneg (show 0 ≤ t by omega)]
  generalize (SND A l 0 t - SND A l f (t - d) - m) % 7 = R
  simp only [jn_eq]
  rw [fit_136, wr_of (x := t + 1) (by omega) (by omega)]
  by_cases hdt : t ≤ d
  · simp only [if_pos hdt]
    by_cases hc : t % A 137 = 0 ∧ harsh7 R
    · rw [if_pos hc, if_pos (Or.inl hc)]
    · rw [if_neg hc, if_neg (fun z => z.elim hc (fun z => absurd z.1 (by omega)))]
  · have ra2 := ra' (by omega)
    have rb2 := rb' (by omega)
    simp only [if_neg hdt]
    rw [wr_of (x := t - 1) (by omega) (by omega), wr_of (x := t - 1 - d) (by omega) (by omega), gd_of (by omega) (by omega), gd_of (by omega) (by omega)]
    rw [ra2, rb2, wr_of (x := SND A l 0 (t - 1) - SND A l f (t - 1 - d)) (by omega) (by omega), wr_of (x := SND A l 0 (t - 1) - SND A l f (t - 1 - d) - m) (by omega) (by omega), e_left2 (by omega) (by omega) (by omega) (by omega), bd_eq]
    generalize (SND A l 0 (t - 1) - SND A l f (t - 1 - d) - m) % 7 = R'
    simp only [gd_of (show 0 ≤ t by omega) (show t < ((40 : Nat) : Int) by omega), gd_of (show 0 ≤ t - 1 by omega) (show t - 1 < ((40 : Nat) : Int) by omega), gd_of (show 0 ≤ t - d by omega) (show t - d < ((80 : Nat) : Int) by omega), gd_of (show 0 ≤ t - 1 - d by omega) (show t - 1 - d < ((80 : Nat) : Int) by omega), ra, ra2, rb, rb2, wr_of (x := SND A l 0 t - SND A l 0 (t - 1)) (by omega) (by omega), wr_of (x := SND A l f (t - d) - SND A l f (t - 1 - d)) (by omega) (by omega)]
    rw [fit_mot]
    rw [fit_04, fit_and, fit_and, fit_or]
    refine ifc ⟨fun z => ?_, fun z => ?_⟩ _ _
    · rcases z with z | z
      · exact Or.inl z
      · exact Or.inr ⟨by omega, z.1.1, z.1.2, z.2⟩
    · rcases z with z | z
      · exact Or.inl z
      · exact Or.inr ⟨⟨z.2.1, z.2.2.1⟩, z.2.2.2⟩
theorem e_fitStep (hm : MR s A) (hl : WL A l) (hr : RWS s A l f) (hmt : 1 ≤ A 137 ∧ A 137 ≤ 8) (hd : 0 ≤ d) (h1 : d ≤ t) (h2 : t < lenA A l) (hmm : -40 ≤ m ∧ m ≤ 40) (k : Nat) (kx : u_S → Option (Int × u_S)) : f_X11_isFit_L10 (k + 1) kx oM m d (lenA A l) t s = if badA A l f m d t then some (0, s) else f_X11_isFit_L10 k kx oM m d (lenA A l) (t + 1) s := by
  rw [e_fitStep0 hm hl hr hmt hd h1 h2 hmm k kx]
  have hi := bad_iff (f := f) hl hd h1 h2 hmm
  refine ifc ⟨fun z => hi.mpr ?_, fun z => ?_⟩ _ _
  · rcases z with z | z
    · exact Or.inl z
    · exact Or.inr ⟨z.1, z.2.2.2, z.2.1, z.2.2.1⟩
  · rcases hi.mp z with z | z
    · exact Or.inl z
    · exact Or.inr ⟨z.1, z.2.2.1, z.2.2.2, z.2.1⟩
end FIT2
