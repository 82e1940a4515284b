/-! the start holds the invariant -/
def A00 (i : Int) : Int := if i = 135 then 3 else if i = 137 then 4 else 0
theorem A00_0 {i : Int} (h1 : i ≠ 135) (h2 : i ≠ 137) : A00 i = 0 := by
  unfold A00
  rw [if_neg h1, if_neg h2]
theorem rd00 {o : u_O} {k : Int} (h1 : ¬ (o.1 = 1 ∧ k = 4)) (h2 : ¬ (o.1 = 1 ∧ k = 6)) (h3 : o ≠ (24, 0, 0)) : rd s00 o k = 0 := by
  unfold rd s00
  rw [if_neg h1, if_neg h2, if_neg (fun h => h3 h.1), if_neg (fun h => h3 h.1)]
  rfl
theorem WF_00 : WF A00 := by
  have hc : ∀ l : Int, 0 ≤ l → l ≤ 3 → cntA A00 l = 0 := fun l h0 h1 => A00_0 (by omega) (by omega)
  have h84 : A00 84 = 0 := rfl
  have h139 : A00 139 = 0 := rfl
  refine ⟨fun l h0 h1 => ⟨by rw [hc l h0 h1]; exact ⟨by decide, by decide⟩, fun i a b => ?_⟩, ⟨by rw [h84]; exact ⟨by decide, by decide⟩, fun e a b => ?_⟩, fun e g a b c _ => ?_, ⟨by decide, by decide⟩, ⟨by decide, by decide⟩, ⟨by decide, by decide⟩, ⟨by decide, by decide⟩, ⟨by rw [h139]; exact ⟨by decide, by decide⟩, fun i a b => ?_, fun i j a b c => ?_⟩⟩
  · rw [hc l h0 h1] at b
    omega
  · rw [h84] at b
    omega
  · rw [h84] at c
    omega
  · rw [A00_0 (by omega) (by omega)]
    exact ⟨by decide, by decide⟩
  · rw [h139] at c
    omega
theorem Inv_0 : Inv s00 := by
  have h84 : A00 84 = 0 := rfl
  have h139 : A00 139 = 0 := rfl
  refine ⟨A00, fun _ _ => 0, 0, fun _ => 0, 0, fun _ => 0, ⟨WF_00, ⟨by decide, by decide⟩, fun j a b => absurd b (by omega), ⟨by decide, by decide⟩, fun i a b => absurd b (by omega), fun _ => InR_0⟩, ⟨⟨fun l h0 h1 => ⟨?_, fun i a b => ?_⟩, ⟨?_, fun i k a b => ?_⟩, ⟨rfl, rfl, rfl, rfl⟩, ?_, fun i a b => ?_⟩, ⟨?_, fun i a b => absurd b (by omega)⟩, fun k a b => ?_, ?_, ?_, fun j a b => absurd b (by omega)⟩, ⟨fun i a b => ?_, ⟨?_, fun i a b => absurd b (by omega)⟩, fun k a b => ?_, ?_, fun j i a b => absurd b (by omega)⟩⟩
  · rw [rd00 (by simp) (by simp) (by simp)]
    exact (A00_0 (by omega) (by omega)).symm
  · have e : cntA A00 l = 0 := A00_0 (by omega) (by omega)
    rw [e] at b
    omega
  · exact rd00 (by simp) (by simp) (by simp)
  · rw [h84] at b
    omega
  · exact rd00 (by simp) (by simp) (by simp)
  · rw [h139] at b
    omega
  · exact rd00 (by simp) (by simp) (by simp)
  · exact rd00 (by simp) (by simp) (by simp)
  · exact rd00 (by simp) (by simp) (by simp)
  · rw [rd00 (by simp) (by simp) (by simp)]
    exact ⟨by decide, by decide⟩
  · unfold rd s00 A00
    rw [if_neg (by simp), if_neg (by simp)]
    by_cases h1 : i = 135
    · rw [if_pos ⟨rfl, h1⟩, if_pos h1]
      rfl
    · rw [if_neg (fun h => h1 h.2), if_neg h1]
      by_cases h2 : i = 137
      · rw [if_pos ⟨rfl, h2⟩, if_pos h2]
        rfl
      · rw [if_neg (fun h => h2 h.2), if_neg h2]
        rfl
  · exact rd00 (by simp) (by simp) (by simp)
  · exact rd00 (by simp) (by simp) (by simp)
  · exact rd00 (by simp) (by simp) (by simp)
