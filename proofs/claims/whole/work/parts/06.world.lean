/-! THE OBJECTS: fixed once both constructors have run; what they hold of numbers is a state s of u_S -/
abbrev u_O : Type := Nat × Nat × Nat
abbrev u_S : Type := u_O → Int → Int32
def rd (s : u_S) (o : u_O) (k : Int) : Int := (s o k).toInt
def wt (s : u_S) (o : u_O) (k v : Int) : u_S := fun o' k' => if o' = o ∧ k' = k then J v else s o' k'
theorem InR_rd (s : u_S) (o : u_O) (k : Int) : InR (rd s o k) := InR_to _
theorem J_rd (s : u_S) (o : u_O) (k : Int) : J (rd s o k) = s o k := J_to _
def okinds : List (Nat × Nat × Nat) := [(0, 1, 1), (1, 7, 1), (2, 7, 1), (3, 7, 4), (4, 7, 4), (5, 7, 4), (6, 8, 1), (7, 8, 1), (8, 8, 10), (9, 7, 1), (10, 1, 1), (11, 1, 1), (12, 1, 1), (13, 4, 1), (14, 12, 1), (15, 12, 1), (16, 1, 1), (17, 1, 1), (18, 1, 1), (19, 1, 1), (20, 1, 1), (21, 1, 1), (22, 1, 1), (23, 1, 1)]
def omo : List Nat := [0, 1, 2, 4, 5, 6, 7, 8, 9, 11, 12, 13, 14, 15, 20]
def objs : List u_O := (okinds.flatMap fun q => (List.range q.2.1).flatMap fun p => (List.range q.2.2).map fun l => (q.1, p, l)) ++ omo.map fun k => (24, k, 0)
theorem objs_nodup : objs.Nodup := by decide +kernel
theorem objs_in {k P L : Nat} (h : (k, P, L) ∈ okinds) {p l : Nat} (hp : p < P) (hl : l < L) : ((k, p, l) : u_O) ∈ objs := List.mem_append_left _ (List.mem_flatMap.mpr ⟨_, h, List.mem_flatMap.mpr ⟨p, List.mem_range.mpr hp, List.mem_map.mpr ⟨l, List.mem_range.mpr hl, rfl⟩⟩⟩)
theorem objs_mo {k : Nat} (h : k ∈ omo) : ((24, k, 0) : u_O) ∈ objs := List.mem_append_right _ (List.mem_map.mpr ⟨k, h, rfl⟩)
def alenM (k : Nat) : Nat := match k with
  | 0 => 145
  | 1 => 725
  | 2 => 145
  | 4 => 3
  | 5 => 4
  | 6 => 4
  | 7 => 3
  | 8 => 40
  | 9 => 80
  | 11 => 24
  | 12 => 36
  | 13 => 5
  | 14 => 5
  | 15 => 120
  | 20 => 5
  | _ => 0
/-- how long a row of ints is -/
def alen (o : u_O) : Nat := match o.1 with
  | 4 => 10
  | 5 => 10
  | 9 => 5
  | 13 => 120
  | 15 => 80
  | 19 => 4
  | 21 => 5
  | 22 => 5
  | 24 => alenM o.2.1
  | _ => 0
def is_FP (o : u_O) : Prop := o.1 = 0 ∧ o.2.1 < 1 ∧ o.2.2 < 1
theorem is_FP.mem {o : u_O} (h : is_FP o) : o ∈ objs := by
  obtain ⟨k, p, l⟩ := o
  obtain ⟨h1, h2, h3⟩ := h
  cases h1
  exact objs_in (P := 1) (L := 1) (by decide) h2 h3
def is_Plan (o : u_O) : Prop := o.1 = 1 ∧ o.2.1 < 7 ∧ o.2.2 < 1
theorem is_Plan.mem {o : u_O} (h : is_Plan o) : o ∈ objs := by
  obtain ⟨k, p, l⟩ := o
  obtain ⟨h1, h2, h3⟩ := h
  cases h1
  exact objs_in (P := 7) (L := 1) (by decide) h2 h3
def is_Line (o : u_O) : Prop := o.1 = 3 ∧ o.2.1 < 7 ∧ o.2.2 < 4
theorem is_Line.mem {o : u_O} (h : is_Line o) : o ∈ objs := by
  obtain ⟨k, p, l⟩ := o
  obtain ⟨h1, h2, h3⟩ := h
  cases h1
  exact objs_in (P := 7) (L := 4) (by decide) h2 h3
def is_Entries (o : u_O) : Prop := o.1 = 6 ∧ o.2.1 < 8 ∧ o.2.2 < 1
theorem is_Entries.mem {o : u_O} (h : is_Entries o) : o ∈ objs := by
  obtain ⟨k, p, l⟩ := o
  obtain ⟨h1, h2, h3⟩ := h
  cases h1
  exact objs_in (P := 8) (L := 1) (by decide) h2 h3
def is_Entry (o : u_O) : Prop := o.1 = 8 ∧ o.2.1 < 8 ∧ o.2.2 < 10
theorem is_Entry.mem {o : u_O} (h : is_Entry o) : o ∈ objs := by
  obtain ⟨k, p, l⟩ := o
  obtain ⟨h1, h2, h3⟩ := h
  cases h1
  exact objs_in (P := 8) (L := 10) (by decide) h2 h3
def is_History (o : u_O) : Prop := o.1 = 10 ∧ o.2.1 < 1 ∧ o.2.2 < 1
theorem is_History.mem {o : u_O} (h : is_History o) : o ∈ objs := by
  obtain ⟨k, p, l⟩ := o
  obtain ⟨h1, h2, h3⟩ := h
  cases h1
  exact objs_in (P := 1) (L := 1) (by decide) h2 h3
def is_Reader (o : u_O) : Prop := o.1 = 12 ∧ o.2.1 < 1 ∧ o.2.2 < 1
theorem is_Reader.mem {o : u_O} (h : is_Reader o) : o ∈ objs := by
  obtain ⟨k, p, l⟩ := o
  obtain ⟨h1, h2, h3⟩ := h
  cases h1
  exact objs_in (P := 1) (L := 1) (by decide) h2 h3
def is_Sound (o : u_O) : Prop := o.1 = 14 ∧ o.2.1 < 12 ∧ o.2.2 < 1
theorem is_Sound.mem {o : u_O} (h : is_Sound o) : o ∈ objs := by
  obtain ⟨k, p, l⟩ := o
  obtain ⟨h1, h2, h3⟩ := h
  cases h1
  exact objs_in (P := 12) (L := 1) (by decide) h2 h3
def is_Faults (o : u_O) : Prop := o.1 = 16 ∧ o.2.1 < 1 ∧ o.2.2 < 1
theorem is_Faults.mem {o : u_O} (h : is_Faults o) : o ∈ objs := by
  obtain ⟨k, p, l⟩ := o
  obtain ⟨h1, h2, h3⟩ := h
  cases h1
  exact objs_in (P := 1) (L := 1) (by decide) h2 h3
def is_Chorus (o : u_O) : Prop := o.1 = 17 ∧ o.2.1 < 1 ∧ o.2.2 < 1
theorem is_Chorus.mem {o : u_O} (h : is_Chorus o) : o ∈ objs := by
  obtain ⟨k, p, l⟩ := o
  obtain ⟨h1, h2, h3⟩ := h
  cases h1
  exact objs_in (P := 1) (L := 1) (by decide) h2 h3
def is_Tour (o : u_O) : Prop := o.1 = 20 ∧ o.2.1 < 1 ∧ o.2.2 < 1
theorem is_Tour.mem {o : u_O} (h : is_Tour o) : o ∈ objs := by
  obtain ⟨k, p, l⟩ := o
  obtain ⟨h1, h2, h3⟩ := h
  cases h1
  exact objs_in (P := 1) (L := 1) (by decide) h2 h3
def is_Mo (o : u_O) : Prop := o.1 = 23 ∧ o.2.1 < 1 ∧ o.2.2 < 1
theorem is_Mo.mem {o : u_O} (h : is_Mo o) : o ∈ objs := by
  obtain ⟨k, p, l⟩ := o
  obtain ⟨h1, h2, h3⟩ := h
  cases h1
  exact objs_in (P := 1) (L := 1) (by decide) h2 h3
def is_A (o : u_O) : Prop := (o.1 = 4 ∧ o.2.1 < 7 ∧ o.2.2 < 4) ∨ (o.1 = 5 ∧ o.2.1 < 7 ∧ o.2.2 < 4) ∨ (o.1 = 9 ∧ o.2.1 < 7 ∧ o.2.2 < 1) ∨ (o.1 = 13 ∧ o.2.1 < 4 ∧ o.2.2 < 1) ∨ (o.1 = 15 ∧ o.2.1 < 12 ∧ o.2.2 < 1) ∨ (o.1 = 19 ∧ o.2.1 < 1 ∧ o.2.2 < 1) ∨ (o.1 = 21 ∧ o.2.1 < 1 ∧ o.2.2 < 1) ∨ (o.1 = 22 ∧ o.2.1 < 1 ∧ o.2.2 < 1) ∨ (o.1 = 24 ∧ o.2.1 ∈ omo ∧ o.2.2 = 0)
theorem is_A.mem {o : u_O} (h : is_A o) : o ∈ objs := by
  obtain ⟨k, p, l⟩ := o
  rcases h with ⟨h1, h2, h3⟩ | ⟨h1, h2, h3⟩ | ⟨h1, h2, h3⟩ | ⟨h1, h2, h3⟩ | ⟨h1, h2, h3⟩ | ⟨h1, h2, h3⟩ | ⟨h1, h2, h3⟩ | ⟨h1, h2, h3⟩ | ⟨h1, h2, h3⟩
  · cases h1; exact objs_in (P := 7) (L := 4) (by decide) h2 h3
  · cases h1; exact objs_in (P := 7) (L := 4) (by decide) h2 h3
  · cases h1; exact objs_in (P := 7) (L := 1) (by decide) h2 h3
  · cases h1; exact objs_in (P := 4) (L := 1) (by decide) h2 h3
  · cases h1; exact objs_in (P := 12) (L := 1) (by decide) h2 h3
  · cases h1; exact objs_in (P := 1) (L := 1) (by decide) h2 h3
  · cases h1; exact objs_in (P := 1) (L := 1) (by decide) h2 h3
  · cases h1; exact objs_in (P := 1) (L := 1) (by decide) h2 h3
  · cases h1; cases h3; exact objs_mo h2
def is_RLine (o : u_O) : Prop := o.1 = 2 ∧ o.2.1 < 7 ∧ o.2.2 < 1
theorem is_RLine.mem {o : u_O} (h : is_RLine o) : o ∈ objs := by
  obtain ⟨k, p, l⟩ := o
  obtain ⟨h1, h2, h3⟩ := h
  cases h1
  exact objs_in (P := 7) (L := 1) (by decide) h2 h3
def e_Line (o : u_O) (i : Int) : u_O := (3, o.2.1, i.toNat)
theorem is_e_Line {o : u_O} {i : Int} (h : is_RLine o) (hi : 0 ≤ i ∧ i < 4) : is_Line (e_Line o i) := by
  obtain ⟨h1, h2, h3⟩ := h
  exact ⟨rfl, by simp only [e_Line]; omega, by simp only [e_Line]; omega⟩
def is_REntry (o : u_O) : Prop := o.1 = 7 ∧ o.2.1 < 8 ∧ o.2.2 < 1
theorem is_REntry.mem {o : u_O} (h : is_REntry o) : o ∈ objs := by
  obtain ⟨k, p, l⟩ := o
  obtain ⟨h1, h2, h3⟩ := h
  cases h1
  exact objs_in (P := 8) (L := 1) (by decide) h2 h3
def e_Entry (o : u_O) (i : Int) : u_O := (8, o.2.1, i.toNat)
theorem is_e_Entry {o : u_O} {i : Int} (h : is_REntry o) (hi : 0 ≤ i ∧ i < 10) : is_Entry (e_Entry o i) := by
  obtain ⟨h1, h2, h3⟩ := h
  exact ⟨rfl, by simp only [e_Entry]; omega, by simp only [e_Entry]; omega⟩
def is_RPlan (o : u_O) : Prop := o.1 = 11 ∧ o.2.1 < 1 ∧ o.2.2 < 1
theorem is_RPlan.mem {o : u_O} (h : is_RPlan o) : o ∈ objs := by
  obtain ⟨k, p, l⟩ := o
  obtain ⟨h1, h2, h3⟩ := h
  cases h1
  exact objs_in (P := 1) (L := 1) (by decide) h2 h3
def e_Plan (o : u_O) (i : Int) : u_O := (1, 2 + i.toNat, 0)
theorem is_e_Plan {o : u_O} {i : Int} (h : is_RPlan o) (hi : 0 ≤ i ∧ i < 5) : is_Plan (e_Plan o i) := by
  obtain ⟨h1, h2, h3⟩ := h
  exact ⟨rfl, by simp only [e_Plan]; omega, by simp only [e_Plan]; omega⟩
def is_RSound (o : u_O) : Prop := o.1 = 18 ∧ o.2.1 < 1 ∧ o.2.2 < 1
theorem is_RSound.mem {o : u_O} (h : is_RSound o) : o ∈ objs := by
  obtain ⟨k, p, l⟩ := o
  obtain ⟨h1, h2, h3⟩ := h
  cases h1
  exact objs_in (P := 1) (L := 1) (by decide) h2 h3
def e_Sound (o : u_O) (i : Int) : u_O := (14, 2 + i.toNat, 0)
theorem is_e_Sound {o : u_O} {i : Int} (h : is_RSound o) (hi : 0 ≤ i ∧ i < 10) : is_Sound (e_Sound o i) := by
  obtain ⟨h1, h2, h3⟩ := h
  exact ⟨rfl, by simp only [e_Sound]; omega, by simp only [e_Sound]; omega⟩
def a_FP_plan (_ : u_O) : u_O := (1, 0, 0)
theorem is_a_FP_plan {o : u_O} (h : is_FP o) : is_Plan (a_FP_plan o) := by
  obtain ⟨h1, h2, h3⟩ := h
  exact ⟨rfl, by simp only [a_FP_plan]; omega, by simp only [a_FP_plan]; omega⟩
def a_FP_before (_ : u_O) : u_O := (1, 1, 0)
theorem is_a_FP_before {o : u_O} (h : is_FP o) : is_Plan (a_FP_before o) := by
  obtain ⟨h1, h2, h3⟩ := h
  exact ⟨rfl, by simp only [a_FP_before]; omega, by simp only [a_FP_before]; omega⟩
def a_FP_history (_ : u_O) : u_O := (10, 0, 0)
theorem is_a_FP_history {o : u_O} (h : is_FP o) : is_History (a_FP_history o) := by
  obtain ⟨h1, h2, h3⟩ := h
  exact ⟨rfl, by simp only [a_FP_history]; omega, by simp only [a_FP_history]; omega⟩
def a_FP_text (_ : u_O) : u_O := (12, 0, 0)
theorem is_a_FP_text {o : u_O} (h : is_FP o) : is_Reader (a_FP_text o) := by
  obtain ⟨h1, h2, h3⟩ := h
  exact ⟨rfl, by simp only [a_FP_text]; omega, by simp only [a_FP_text]; omega⟩
def a_FP_upper (_ : u_O) : u_O := (14, 0, 0)
theorem is_a_FP_upper {o : u_O} (h : is_FP o) : is_Sound (a_FP_upper o) := by
  obtain ⟨h1, h2, h3⟩ := h
  exact ⟨rfl, by simp only [a_FP_upper]; omega, by simp only [a_FP_upper]; omega⟩
def a_FP_lower (_ : u_O) : u_O := (14, 1, 0)
theorem is_a_FP_lower {o : u_O} (h : is_FP o) : is_Sound (a_FP_lower o) := by
  obtain ⟨h1, h2, h3⟩ := h
  exact ⟨rfl, by simp only [a_FP_lower]; omega, by simp only [a_FP_lower]; omega⟩
def a_FP_faults (_ : u_O) : u_O := (16, 0, 0)
theorem is_a_FP_faults {o : u_O} (h : is_FP o) : is_Faults (a_FP_faults o) := by
  obtain ⟨h1, h2, h3⟩ := h
  exact ⟨rfl, by simp only [a_FP_faults]; omega, by simp only [a_FP_faults]; omega⟩
def a_FP_chorus (_ : u_O) : u_O := (17, 0, 0)
theorem is_a_FP_chorus {o : u_O} (h : is_FP o) : is_Chorus (a_FP_chorus o) := by
  obtain ⟨h1, h2, h3⟩ := h
  exact ⟨rfl, by simp only [a_FP_chorus]; omega, by simp only [a_FP_chorus]; omega⟩
def a_FP_rowEntries (_ : u_O) : u_O := (6, 7, 0)
theorem is_a_FP_rowEntries {o : u_O} (h : is_FP o) : is_Entries (a_FP_rowEntries o) := by
  obtain ⟨h1, h2, h3⟩ := h
  exact ⟨rfl, by simp only [a_FP_rowEntries]; omega, by simp only [a_FP_rowEntries]; omega⟩
def a_FP_row (_ : u_O) : u_O := (19, 0, 0)
theorem is_a_FP_row {o : u_O} (h : is_FP o) : is_A (a_FP_row o) := by
  obtain ⟨h1, h2, h3⟩ := h
  simp [is_A, a_FP_row, omo]
def a_FP_tour (_ : u_O) : u_O := (20, 0, 0)
theorem is_a_FP_tour {o : u_O} (h : is_FP o) : is_Tour (a_FP_tour o) := by
  obtain ⟨h1, h2, h3⟩ := h
  exact ⟨rfl, by simp only [a_FP_tour]; omega, by simp only [a_FP_tour]; omega⟩
def a_Plan_lines (o : u_O) : u_O := (2, o.2.1, 0)
theorem is_a_Plan_lines {o : u_O} (h : is_Plan o) : is_RLine (a_Plan_lines o) := by
  obtain ⟨h1, h2, h3⟩ := h
  exact ⟨rfl, by simp only [a_Plan_lines]; omega, by simp only [a_Plan_lines]; omega⟩
def a_Plan_entries (o : u_O) : u_O := (6, o.2.1, 0)
theorem is_a_Plan_entries {o : u_O} (h : is_Plan o) : is_Entries (a_Plan_entries o) := by
  obtain ⟨h1, h2, h3⟩ := h
  exact ⟨rfl, by simp only [a_Plan_entries]; omega, by simp only [a_Plan_entries]; omega⟩
def a_Plan_toVisit (o : u_O) : u_O := (9, o.2.1, 0)
theorem is_a_Plan_toVisit {o : u_O} (h : is_Plan o) : is_A (a_Plan_toVisit o) := by
  obtain ⟨h1, h2, h3⟩ := h
  simp [is_A, a_Plan_toVisit, omo]; omega
def a_Line_steps (o : u_O) : u_O := (4, o.2.1, o.2.2)
theorem is_a_Line_steps {o : u_O} (h : is_Line o) : is_A (a_Line_steps o) := by
  obtain ⟨h1, h2, h3⟩ := h
  simp [is_A, a_Line_steps, omo]; omega
def a_Line_ticks (o : u_O) : u_O := (5, o.2.1, o.2.2)
theorem is_a_Line_ticks {o : u_O} (h : is_Line o) : is_A (a_Line_ticks o) := by
  obtain ⟨h1, h2, h3⟩ := h
  simp [is_A, a_Line_ticks, omo]; omega
def a_Entries_items (o : u_O) : u_O := (7, o.2.1, 0)
theorem is_a_Entries_items {o : u_O} (h : is_Entries o) : is_REntry (a_Entries_items o) := by
  obtain ⟨h1, h2, h3⟩ := h
  exact ⟨rfl, by simp only [a_Entries_items]; omega, by simp only [a_Entries_items]; omega⟩
def a_History_kept (_ : u_O) : u_O := (11, 0, 0)
theorem is_a_History_kept {o : u_O} (h : is_History o) : is_RPlan (a_History_kept o) := by
  obtain ⟨h1, h2, h3⟩ := h
  exact ⟨rfl, by simp only [a_History_kept]; omega, by simp only [a_History_kept]; omega⟩
def a_Reader_bytes (_ : u_O) : u_O := (13, 0, 0)
theorem is_a_Reader_bytes {o : u_O} (h : is_Reader o) : is_A (a_Reader_bytes o) := by
  obtain ⟨h1, h2, h3⟩ := h
  simp [is_A, a_Reader_bytes, omo]
def a_Reader_letters (_ : u_O) : u_O := (13, 1, 0)
theorem is_a_Reader_letters {o : u_O} (h : is_Reader o) : is_A (a_Reader_letters o) := by
  obtain ⟨h1, h2, h3⟩ := h
  simp [is_A, a_Reader_letters, omo]
def a_Reader_starts (_ : u_O) : u_O := (13, 2, 0)
theorem is_a_Reader_starts {o : u_O} (h : is_Reader o) : is_A (a_Reader_starts o) := by
  obtain ⟨h1, h2, h3⟩ := h
  simp [is_A, a_Reader_starts, omo]
def a_Reader_numbers (_ : u_O) : u_O := (13, 3, 0)
theorem is_a_Reader_numbers {o : u_O} (h : is_Reader o) : is_A (a_Reader_numbers o) := by
  obtain ⟨h1, h2, h3⟩ := h
  simp [is_A, a_Reader_numbers, omo]
def a_Sound_steps (o : u_O) : u_O := (15, o.2.1, 0)
theorem is_a_Sound_steps {o : u_O} (h : is_Sound o) : is_A (a_Sound_steps o) := by
  obtain ⟨h1, h2, h3⟩ := h
  simp [is_A, a_Sound_steps, omo]; omega
def a_Chorus_items (_ : u_O) : u_O := (18, 0, 0)
theorem is_a_Chorus_items {o : u_O} (h : is_Chorus o) : is_RSound (a_Chorus_items o) := by
  obtain ⟨h1, h2, h3⟩ := h
  exact ⟨rfl, by simp only [a_Chorus_items]; omega, by simp only [a_Chorus_items]; omega⟩
def a_Tour_best (_ : u_O) : u_O := (21, 0, 0)
theorem is_a_Tour_best {o : u_O} (h : is_Tour o) : is_A (a_Tour_best o) := by
  obtain ⟨h1, h2, h3⟩ := h
  simp [is_A, a_Tour_best, omo]
def a_Tour_tried (_ : u_O) : u_O := (22, 0, 0)
theorem is_a_Tour_tried {o : u_O} (h : is_Tour o) : is_A (a_Tour_tried o) := by
  obtain ⟨h1, h2, h3⟩ := h
  simp [is_A, a_Tour_tried, omo]
def a_Mo_all (_ : u_O) : u_O := (24, 0, 0)
theorem is_a_Mo_all {o : u_O} (h : is_Mo o) : is_A (a_Mo_all o) := by
  obtain ⟨h1, h2, h3⟩ := h
  simp [is_A, a_Mo_all, omo]
def a_Mo_past (_ : u_O) : u_O := (24, 1, 0)
theorem is_a_Mo_past {o : u_O} (h : is_Mo o) : is_A (a_Mo_past o) := by
  obtain ⟨h1, h2, h3⟩ := h
  simp [is_A, a_Mo_past, omo]
def a_Mo_aside (_ : u_O) : u_O := (24, 2, 0)
theorem is_a_Mo_aside {o : u_O} (h : is_Mo o) : is_A (a_Mo_aside o) := by
  obtain ⟨h1, h2, h3⟩ := h
  simp [is_A, a_Mo_aside, omo]
def a_Mo_refused (_ : u_O) : u_O := (24, 4, 0)
theorem is_a_Mo_refused {o : u_O} (h : is_Mo o) : is_A (a_Mo_refused o) := by
  obtain ⟨h1, h2, h3⟩ := h
  simp [is_A, a_Mo_refused, omo]
def a_Mo_upper (_ : u_O) : u_O := (24, 5, 0)
theorem is_a_Mo_upper {o : u_O} (h : is_Mo o) : is_A (a_Mo_upper o) := by
  obtain ⟨h1, h2, h3⟩ := h
  simp [is_A, a_Mo_upper, omo]
def a_Mo_lower (_ : u_O) : u_O := (24, 6, 0)
theorem is_a_Mo_lower {o : u_O} (h : is_Mo o) : is_A (a_Mo_lower o) := by
  obtain ⟨h1, h2, h3⟩ := h
  simp [is_A, a_Mo_lower, omo]
def a_Mo_counted (_ : u_O) : u_O := (24, 7, 0)
theorem is_a_Mo_counted {o : u_O} (h : is_Mo o) : is_A (a_Mo_counted o) := by
  obtain ⟨h1, h2, h3⟩ := h
  simp [is_A, a_Mo_counted, omo]
def a_Mo_plainRow (_ : u_O) : u_O := (24, 8, 0)
theorem is_a_Mo_plainRow {o : u_O} (h : is_Mo o) : is_A (a_Mo_plainRow o) := by
  obtain ⟨h1, h2, h3⟩ := h
  simp [is_A, a_Mo_plainRow, omo]
def a_Mo_formRow (_ : u_O) : u_O := (24, 9, 0)
theorem is_a_Mo_formRow {o : u_O} (h : is_Mo o) : is_A (a_Mo_formRow o) := by
  obtain ⟨h1, h2, h3⟩ := h
  simp [is_A, a_Mo_formRow, omo]
def a_Mo_far (_ : u_O) : u_O := (24, 11, 0)
theorem is_a_Mo_far {o : u_O} (h : is_Mo o) : is_A (a_Mo_far o) := by
  obtain ⟨h1, h2, h3⟩ := h
  simp [is_A, a_Mo_far, omo]
def a_Mo_between (_ : u_O) : u_O := (24, 12, 0)
theorem is_a_Mo_between {o : u_O} (h : is_Mo o) : is_A (a_Mo_between o) := by
  obtain ⟨h1, h2, h3⟩ := h
  simp [is_A, a_Mo_between, omo]
def a_Mo_bestRow (_ : u_O) : u_O := (24, 13, 0)
theorem is_a_Mo_bestRow {o : u_O} (h : is_Mo o) : is_A (a_Mo_bestRow o) := by
  obtain ⟨h1, h2, h3⟩ := h
  simp [is_A, a_Mo_bestRow, omo]
def a_Mo_tried (_ : u_O) : u_O := (24, 14, 0)
theorem is_a_Mo_tried {o : u_O} (h : is_Mo o) : is_A (a_Mo_tried o) := by
  obtain ⟨h1, h2, h3⟩ := h
  simp [is_A, a_Mo_tried, omo]
def a_Mo_text (_ : u_O) : u_O := (24, 15, 0)
theorem is_a_Mo_text {o : u_O} (h : is_Mo o) : is_A (a_Mo_text o) := by
  obtain ⟨h1, h2, h3⟩ := h
  simp [is_A, a_Mo_text, omo]
def a_Mo_numbers (_ : u_O) : u_O := (24, 20, 0)
theorem is_a_Mo_numbers {o : u_O} (h : is_Mo o) : is_A (a_Mo_numbers o) := by
  obtain ⟨h1, h2, h3⟩ := h
  simp [is_A, a_Mo_numbers, omo]
abbrev u_E : Type := (u_O → Nat) × va_G × (Nat → ClassId)
def XE (E : u_E) : u_X := (E.2.1, [(E.2.2 0, .int), (E.2.2 1, .object RX2), (E.2.2 2, .object RX5), (E.2.2 3, .object RX6), (E.2.2 4, .object RX8)])
def cell (E : u_E) (o : u_O) (f : Int → Int32) : va_E := match o.1 with
  | 0 => .inr (10, [.ref (E.1 (a_FP_plan o)), .ref (E.1 (a_FP_before o)), .ref (E.1 (a_FP_history o)), .ref (E.1 (a_FP_text o)), .int (f 4), .int (f 5), .int (f 6), .ref (E.1 (a_FP_upper o)), .ref (E.1 (a_FP_lower o)), .ref (E.1 (a_FP_faults o)), .ref (E.1 (a_FP_chorus o)), .ref (E.1 (a_FP_rowEntries o)), .ref (E.1 (a_FP_row o)), .ref (E.1 (a_FP_tour o))])
  | 1 => .inr (6, [.ref (E.1 (a_Plan_lines o)), .ref (E.1 (a_Plan_entries o)), .ref (E.1 (a_Plan_toVisit o)), .int (f 3), .int (f 4), .int (f 5), .int (f 6), .int (f 7)])
  | 2 => .inl (E.2.2 2, 4, .inr (.inr (.inr (.inr (fun j => some (E.1 (3, o.2.1, j)))))))
  | 3 => .inr (5, [.ref (E.1 (a_Line_steps o)), .ref (E.1 (a_Line_ticks o)), .int (f 2)])
  | 4 => .inl (E.2.2 0, 10, .inl (fun j => f (j : Int)))
  | 5 => .inl (E.2.2 0, 10, .inl (fun j => f (j : Int)))
  | 6 => .inr (1, [.ref (E.1 (a_Entries_items o)), .int (f 1)])
  | 7 => .inl (E.2.2 1, 10, .inr (.inr (.inr (.inr (fun j => some (E.1 (8, o.2.1, j)))))))
  | 8 => .inr (2, [.int (f 0), .int (f 1), .int (f 2), .int (f 3), .int (f 4)])
  | 9 => .inl (E.2.2 0, 5, .inl (fun j => f (j : Int)))
  | 10 => .inr (4, [.ref (E.1 (a_History_kept o)), .int (f 1), .int (f 2)])
  | 11 => .inl (E.2.2 3, 5, .inr (.inr (.inr (.inr (fun j => some (E.1 (1, 2 + j, 0)))))))
  | 12 => .inr (7, [.ref (E.1 (a_Reader_bytes o)), .ref (E.1 (a_Reader_letters o)), .ref (E.1 (a_Reader_starts o)), .ref (E.1 (a_Reader_numbers o)), .int (f 4), .int (f 5), .int (f 6), .int (f 7), .int (f 8)])
  | 13 => .inl (E.2.2 0, 120, .inl (fun j => f (j : Int)))
  | 14 => .inr (8, [.ref (E.1 (a_Sound_steps o)), .int (f 1), .int (f 2), .int (f 3)])
  | 15 => .inl (E.2.2 0, 80, .inl (fun j => f (j : Int)))
  | 16 => .inr (3, [.int (f 0), .int (f 1), .int (f 2)])
  | 17 => .inr (0, [.ref (E.1 (a_Chorus_items o)), .int (f 1)])
  | 18 => .inl (E.2.2 4, 10, .inr (.inr (.inr (.inr (fun j => some (E.1 (14, 2 + j, 0)))))))
  | 19 => .inl (E.2.2 0, 4, .inl (fun j => f (j : Int)))
  | 20 => .inr (9, [.ref (E.1 (a_Tour_best o)), .ref (E.1 (a_Tour_tried o)), .int (f 2)])
  | 21 => .inl (E.2.2 0, 5, .inl (fun j => f (j : Int)))
  | 22 => .inl (E.2.2 0, 5, .inl (fun j => f (j : Int)))
  | 23 => .inr (11, [.ref (E.1 (a_Mo_all o)), .ref (E.1 (a_Mo_past o)), .ref (E.1 (a_Mo_aside o)), .int (f 3), .ref (E.1 (a_Mo_refused o)), .ref (E.1 (a_Mo_upper o)), .ref (E.1 (a_Mo_lower o)), .ref (E.1 (a_Mo_counted o)), .ref (E.1 (a_Mo_plainRow o)), .ref (E.1 (a_Mo_formRow o)), .int (f 10), .ref (E.1 (a_Mo_far o)), .ref (E.1 (a_Mo_between o)), .ref (E.1 (a_Mo_bestRow o)), .ref (E.1 (a_Mo_tried o)), .ref (E.1 (a_Mo_text o)), .int (f 16), .int (f 17), .int (f 18), .int (f 19), .ref (E.1 (a_Mo_numbers o))])
  | _ => .inl (E.2.2 0, alenM o.2.1, .inl (fun j => f (j : Int)))
/-- the world of a state -/
def Wd (E : u_E) (s : u_S) : va_W := objs.map fun o => (E.1 o, cell E o (s o))
theorem Wd_at (E : u_E) (s : u_S) {o : u_O} (h : o ∈ objs) : ∃ q0 : Nat, objs[q0]? = some o ∧ (Wd E s)[q0]? = some (E.1 o, cell E o (s o)) := by
  obtain ⟨q0, hq⟩ := List.getElem?_of_mem h
  exact ⟨q0, hq, by simp [Wd, List.getElem?_map, hq]⟩
theorem Wd_set (E : u_E) {s s' : u_S} {o : u_O} {q0 : Nat} (h : objs[q0]? = some o) (hs : ∀ o', o' ≠ o → s' o' = s o') {c : va_E} (hc : c = cell E o (s' o)) : (Wd E s).set q0 (E.1 o, c) = Wd E s' := by
  subst hc
  apply List.ext_getElem?
  intro i
  unfold Wd
  rw [List.getElem?_set, List.getElem?_map, List.getElem?_map]
  by_cases hi : q0 = i
  · subst hi
    have hlt := (List.getElem?_eq_some_iff.mp h).1
    rw [if_pos rfl, h]
    simp [hlt]
  · rw [if_neg hi]
    cases hq : objs[i]? with
    | none => rfl
    | some o' =>
      have hne : o' ≠ o := by
        intro e
        subst e
        have h1 := (List.getElem?_eq_some_iff.mp h)
        have h2 := (List.getElem?_eq_some_iff.mp hq)
        obtain ⟨l1, e1⟩ := h1
        obtain ⟨l2, e2⟩ := h2
        have hp := List.pairwise_iff_getElem.mp objs_nodup
        rcases Nat.lt_or_gt_of_ne hi with hlt | hlt
        · exact hp q0 i l1 l2 hlt (e1.trans e2.symm)
        · exact hp i q0 l2 l1 hlt (e2.trans e1.symm)
      simp [hs o' hne]
theorem wt_ne {s : u_S} {o : u_O} {k v : Int} (o' : u_O) (h : o' ≠ o) : wt s o k v o' = s o' := by
  funext k'
  simp [wt, h]
def gd {α : Type} (i : Int) (n : Nat) (k : Option α) : Option α := if 0 ≤ i ∧ i < (n : Int) then k else none
theorem gd_some {α : Type} {i : Int} {n : Nat} {k : Option α} {r : α} (h : gd i n k = some r) : (0 ≤ i ∧ i < (n : Int)) ∧ k = some r := by
  unfold gd at h
  split at h
  · exact ⟨‹_›, h⟩
  · cases h
section HROWS
variable {l : Launch} {X : u_X} {R : Room} {cc : ByteArray} {nL : Nat} {own nm : String} {K : u_K} {nc ns pc : Nat} {lv : List (Option Value)} {st : List Value} {w : va_W}
theorem r_get (g : Wk0 l X R cc nL own nm K) {C : String} {T : u_T} {N ci : Nat} (hin : ∀ w ∈ u_ws C T N, w ∈ lw_G) (hc : vwCl[ci]? = some (C, T, N)) {a : Nat} {fs : List Value} (q0 : Nat) (he : w[q0]? = some (a, .inr (ci, fs))) (k : Nat) (hk : k < N) {v : Value} (hv : fs[k]? = some v) {idx : Nat} (hl0 : Cond.fieldLink own idx (T k).1 (T k).2.1 (T k).2.2.1 ∈ lw_G) (d : decode cc pc = .ok (.getfield idx, 3)) (kk : K nc ns (pc + 3) lv (v :: st) w) : K nc ns pc lv (.ref a :: st) w := by
  obtain ⟨p, e, s, m, args, below, meth, c, A, H0, Q, rfl, hx, hb, hml, hown, hts, hK, hA, hnm⟩ := g
  intro hln H locs ls hl hP hD hS
  exact va_get hx hb hts hin hown hK.1 hP q0 he hc k hk (hts _ hl0) (fun _ h => h) hv d (kk hln H locs ls hl hP hD hS)
theorem r_put (g : Wk0 l X R cc nL own nm K) {C : String} {T : u_T} {N ci : Nat} (hin : ∀ w ∈ u_ws C T N, w ∈ lw_G) (hc : vwCl[ci]? = some (C, T, N)) (ty0 : Nat → FieldType) (hty : ∀ k, k < N → parseFieldDescriptor (T k).2.2.1 = some (ty0 k)) (hnmm : ∀ a, a < N → ∀ b, b < N → a ≠ b → (T a).2.1 ≠ (T b).2.1) {a : Nat} {fs : List Value} (q0 : Nat) (he : w[q0]? = some (a, .inr (ci, fs))) (k : Nat) (hk : k < N) (hfin : (T k).2.2.2 = false) {x : Int32} (hti : parseFieldDescriptor (T k).2.2.1 = some .int) (hlen : k < fs.length) {idx : Nat} (hl0 : Cond.fieldLink own idx (T k).1 (T k).2.1 (T k).2.2.1 ∈ lw_G) (d : decode cc pc = .ok (.putfield idx, 3)) (kk : K nc ns (pc + 3) lv st (w.set q0 (a, .inr (ci, fs.set k (.int x))))) : K nc ns pc lv (.int x :: .ref a :: st) w := by
  obtain ⟨p, e, s, m, args, below, meth, c, A, H0, Q, rfl, hx, hb, hml, hown, hts, hK, hA, hnm⟩ := g
  intro hln H locs ls hl hP hD hS
  exact va_put hx hb hts hin ty0 hty hnmm hown hK.1 hP hD hS q0 he hc k hk (hts _ hl0) (fun _ h => h) hfin hti rfl rfl hlen d (fun H1 locs1 hP1 hD1 hS1 => kk hln H1 locs1 ls hl hP1 hD1 hS1)
theorem r_ald (g : Wk0 l X R cc nL own nm K) {a : Nat} (q0 t0 : Nat) {cA : ClassId} {n : Nat} {f : Nat → Int32} (ha : w[q0]? = some (a, .inl (cA, n, .inl f))) (ht : X.2[t0]? = some (cA, .int)) {i : Int} (hi : InR i) (hin : 0 ≤ i ∧ i < (n : Int)) (d : decode cc pc = .ok (.iaload, 1)) (kk : K nc ns (pc + 1) lv (.int (f i.toNat) :: st) w) : K nc ns pc lv (.int (J i) :: .ref a :: st) w := by
  obtain ⟨p, e, s, m, args, below, meth, c, A, H0, Q, rfl, hx, hb, hml, hown, hts, hK, hA, hnm⟩ := g
  intro hln H locs ls hl hP hD hS
  exact va_iald hx hb hK.1 hP q0 t0 ha ht (vp_in_J hi hin.1 hin.2) d (by rw [clamp_J hi]; exact kk hln H locs ls hl hP hD hS)
theorem r_ast (g : Wk0 l X R cc nL own nm K) {a : Nat} (q0 t0 : Nat) {cA : ClassId} {n : Nat} {f : Nat → Int32} (ha : w[q0]? = some (a, .inl (cA, n, .inl f))) (ht : X.2[t0]? = some (cA, .int)) {i : Int} {x : Int32} (hi : InR i) (hin : 0 ≤ i ∧ i < (n : Int)) (d : decode cc pc = .ok (.iastore, 1)) (kk : K nc ns (pc + 1) lv st (w.set q0 (a, .inl (cA, n, .inl (upd f i.toNat x))))) : K nc ns pc lv (.int x :: .int (J i) :: .ref a :: st) w := by
  obtain ⟨p, e, s, m, args, below, meth, c, A, H0, Q, rfl, hx, hb, hml, hown, hts, hK, hA, hnm⟩ := g
  intro hln H locs ls hl hP hD hS
  exact va_iast hx hb hK.1 hP hD hS q0 t0 ha ht (vp_in_J hi hin.1 hin.2) d (fun H1 locs1 hP1 hD1 hS1 => kk hln H1 locs1 ls hl (by rw [clamp_J hi] at hP1; exact hP1) (by rw [clamp_J hi] at hD1; exact hD1) hS1)
theorem r_aaldq (g : Wk0 l X R cc nL own nm K) {a : Nat} (q0 t0 : Nat) {cA : ClassId} {C : String} {n : Nat} {f : Nat → Option Nat} (ha : w[q0]? = some (a, .inl (cA, n, .inr (.inr (.inr (.inr f)))))) (ht : X.2[t0]? = some (cA, .object C)) {i : Int} (hi : InR i) (hin : 0 ≤ i ∧ i < (n : Int)) (d : decode cc pc = .ok (.aaload, 1)) (kk : K nc ns (pc + 1) lv (va_rf (f i.toNat) :: st) w) : K nc ns pc lv (.int (J i) :: .ref a :: st) w := by
  obtain ⟨p, e, s, m, args, below, meth, c, A, H0, Q, rfl, hx, hb, hml, hown, hts, hK, hA, hnm⟩ := g
  intro hln H locs ls hl hP hD hS
  exact va_aldq hx hb hK.1 hP q0 t0 ha ht (vp_in_J hi hin.1 hin.2) d (by rw [clamp_J hi]; exact kk hln H locs ls hl hP hD hS)
end HROWS
section TROWS
variable {l : Launch} {E : u_E} {R : Room} {cc : ByteArray} {nL : Nat} {own nm : String} {K : u_K} {nc ns pc : Nat} {lv : List (Option Value)} {st : List Value} {s : u_S}
theorem cell_A {o : u_O} (h : is_A o) (f : Int → Int32) : cell E o f = .inl (E.2.2 0, alen o, .inl (fun j => f (j : Int))) := by
  obtain ⟨k, p, l⟩ := o
  rcases h with ⟨h1, h2, h3⟩ | ⟨h1, h2, h3⟩ | ⟨h1, h2, h3⟩ | ⟨h1, h2, h3⟩ | ⟨h1, h2, h3⟩ | ⟨h1, h2, h3⟩ | ⟨h1, h2, h3⟩ | ⟨h1, h2, h3⟩ | ⟨h1, h2, h3⟩ <;> (cases h1; rfl)
theorem r_iaload (g : Wk0 l (XE E) R cc nL own nm K) {o : u_O} {n : Nat} (ho : is_A o) (hn : alen o = n) {i : Int} (hi : InR i) (hin : 0 ≤ i ∧ i < (n : Int)) (d : decode cc pc = .ok (.iaload, 1)) (kk : K nc ns (pc + 1) lv (.int (J (rd s o i)) :: st) (Wd E s)) : K nc ns pc lv (.int (J i) :: .ref (E.1 o) :: st) (Wd E s) := by
  obtain ⟨q0, h1, h2⟩ := Wd_at E s ho.mem
  rw [cell_A ho, hn] at h2
  refine r_ald g q0 0 h2 rfl hi hin d ?_
  rw [J_rd] at kk
  rw [show ((i.toNat : Nat) : Int) = i from Int.toNat_of_nonneg hin.1]
  exact kk
theorem r_iastore (g : Wk0 l (XE E) R cc nL own nm K) {o : u_O} {n : Nat} (ho : is_A o) (hn : alen o = n) {i v : Int} (hi : InR i) (hin : 0 ≤ i ∧ i < (n : Int)) (d : decode cc pc = .ok (.iastore, 1)) (kk : K nc ns (pc + 1) lv st (Wd E (wt s o i v))) : K nc ns pc lv (.int (J v) :: .int (J i) :: .ref (E.1 o) :: st) (Wd E s) := by
  obtain ⟨q0, h1, h2⟩ := Wd_at E s ho.mem
  rw [cell_A ho, hn] at h2
  refine r_ast g q0 0 h2 rfl hi hin d ?_
  rw [Wd_set E (s' := wt s o i v) h1 (fun o' h => wt_ne o' h)]
  · exact kk
  · rw [cell_A ho, hn]
    congr 4
    funext j
    simp only [wt, upd, true_and]
    by_cases hj : j = i.toNat
    · subst hj
      rw [if_pos rfl, if_pos (Int.toNat_of_nonneg hin.1)]
    · rw [if_neg hj, if_neg (by omega)]

theorem alen_le (o : u_O) : alen o ≤ 725 := by
  unfold alen
  split <;> try exact Nat.le_of_ble_eq_true rfl
  unfold alenM
  split <;> exact Nat.le_of_ble_eq_true rfl
theorem InR_alen (o : u_O) : InR (alen o : Int) := InR_iff.mpr ⟨by omega, by have := alen_le o; omega⟩
theorem r_alen (g : Wk0 l (XE E) R cc nL own nm K) {o : u_O} (ho : is_A o) (d : decode cc pc = .ok (.arraylength, 1)) (kk : K nc ns (pc + 1) lv (.int (J (alen o : Int)) :: st) (Wd E s)) : K nc ns pc lv (.ref (E.1 o) :: st) (Wd E s) := by
  obtain ⟨q0, h1, h2⟩ := Wd_at E s ho.mem
  rw [cell_A ho] at h2
  obtain ⟨p, e, s0, m, args, below, meth, c, A, H0, Q, rfl, hx, hb, hml, hown, hts, hK, hA, hnm⟩ := g
  intro hln H locs ls hl hP hD hS
  have e1 : Int32.ofNat (alen o) = J (alen o : Int) := Int32.ofInt_eq_ofNat.symm
  exact va_alen hx hb hK.1 hP q0 0 h2 rfl e1 d (kk hln H locs ls hl hP hD hS)

theorem r_aald_Line (g : Wk0 l (XE E) R cc nL own nm K) {o : u_O} (ho : is_RLine o) {i : Int} (hi : InR i) (hin : 0 ≤ i ∧ i < (4 : Int)) (d : decode cc pc = .ok (.aaload, 1)) (kk : K nc ns (pc + 1) lv (.ref (E.1 (e_Line o i)) :: st) (Wd E s)) : K nc ns pc lv (.int (J i) :: .ref (E.1 o) :: st) (Wd E s) := by
  obtain ⟨q0, h1, h2⟩ := Wd_at E s ho.mem
  obtain ⟨k, p, l⟩ := o
  obtain ⟨h3, h4, h5⟩ := ho
  cases h3
  exact r_aaldq g q0 2 h2 rfl hi hin d kk
theorem r_aald_Entry (g : Wk0 l (XE E) R cc nL own nm K) {o : u_O} (ho : is_REntry o) {i : Int} (hi : InR i) (hin : 0 ≤ i ∧ i < (10 : Int)) (d : decode cc pc = .ok (.aaload, 1)) (kk : K nc ns (pc + 1) lv (.ref (E.1 (e_Entry o i)) :: st) (Wd E s)) : K nc ns pc lv (.int (J i) :: .ref (E.1 o) :: st) (Wd E s) := by
  obtain ⟨q0, h1, h2⟩ := Wd_at E s ho.mem
  obtain ⟨k, p, l⟩ := o
  obtain ⟨h3, h4, h5⟩ := ho
  cases h3
  exact r_aaldq g q0 1 h2 rfl hi hin d kk
theorem r_aald_Plan (g : Wk0 l (XE E) R cc nL own nm K) {o : u_O} (ho : is_RPlan o) {i : Int} (hi : InR i) (hin : 0 ≤ i ∧ i < (5 : Int)) (d : decode cc pc = .ok (.aaload, 1)) (kk : K nc ns (pc + 1) lv (.ref (E.1 (e_Plan o i)) :: st) (Wd E s)) : K nc ns pc lv (.int (J i) :: .ref (E.1 o) :: st) (Wd E s) := by
  obtain ⟨q0, h1, h2⟩ := Wd_at E s ho.mem
  obtain ⟨k, p, l⟩ := o
  obtain ⟨h3, h4, h5⟩ := ho
  cases h3
  exact r_aaldq g q0 3 h2 rfl hi hin d kk
theorem r_aald_Sound (g : Wk0 l (XE E) R cc nL own nm K) {o : u_O} (ho : is_RSound o) {i : Int} (hi : InR i) (hin : 0 ≤ i ∧ i < (10 : Int)) (d : decode cc pc = .ok (.aaload, 1)) (kk : K nc ns (pc + 1) lv (.ref (E.1 (e_Sound o i)) :: st) (Wd E s)) : K nc ns pc lv (.int (J i) :: .ref (E.1 o) :: st) (Wd E s) := by
  obtain ⟨q0, h1, h2⟩ := Wd_at E s ho.mem
  obtain ⟨k, p, l⟩ := o
  obtain ⟨h3, h4, h5⟩ := ho
  cases h3
  exact r_aaldq g q0 4 h2 rfl hi hin d kk
theorem in_FP : ∀ w ∈ u_ws RX10 TX10 14, w ∈ lw_G := by decide +kernel
theorem recv_FP {o : u_O} (h : is_FP o) : Recv (Wd E s) (E.1 o) RX10 := by
  obtain ⟨q0, h1, h2⟩ := Wd_at E s h.mem
  obtain ⟨k, p, l⟩ := o
  obtain ⟨h3, h4, h5⟩ := h
  cases h3
  exact ⟨q0, 10, _, _, rfl, rfl, h2⟩
theorem g_FP_plan (g : Wk0 l (XE E) R cc nL own nm K) {o : u_O} (ho : is_FP o) {idx : Nat} (hl0 : Cond.fieldLink own idx (TX10 0).1 (TX10 0).2.1 (TX10 0).2.2.1 ∈ lw_G) (d : decode cc pc = .ok (.getfield idx, 3)) (kk : K nc ns (pc + 3) lv (.ref (E.1 (a_FP_plan o)) :: st) (Wd E s)) : K nc ns pc lv (.ref (E.1 o) :: st) (Wd E s) := by
  obtain ⟨q0, h1, h2⟩ := Wd_at E s ho.mem
  obtain ⟨k, p, l⟩ := o
  obtain ⟨h3, h4, h5⟩ := ho
  cases h3
  exact r_get g in_FP rfl q0 h2 0 (by decide) rfl hl0 d kk
theorem g_FP_before (g : Wk0 l (XE E) R cc nL own nm K) {o : u_O} (ho : is_FP o) {idx : Nat} (hl0 : Cond.fieldLink own idx (TX10 1).1 (TX10 1).2.1 (TX10 1).2.2.1 ∈ lw_G) (d : decode cc pc = .ok (.getfield idx, 3)) (kk : K nc ns (pc + 3) lv (.ref (E.1 (a_FP_before o)) :: st) (Wd E s)) : K nc ns pc lv (.ref (E.1 o) :: st) (Wd E s) := by
  obtain ⟨q0, h1, h2⟩ := Wd_at E s ho.mem
  obtain ⟨k, p, l⟩ := o
  obtain ⟨h3, h4, h5⟩ := ho
  cases h3
  exact r_get g in_FP rfl q0 h2 1 (by decide) rfl hl0 d kk
theorem g_FP_history (g : Wk0 l (XE E) R cc nL own nm K) {o : u_O} (ho : is_FP o) {idx : Nat} (hl0 : Cond.fieldLink own idx (TX10 2).1 (TX10 2).2.1 (TX10 2).2.2.1 ∈ lw_G) (d : decode cc pc = .ok (.getfield idx, 3)) (kk : K nc ns (pc + 3) lv (.ref (E.1 (a_FP_history o)) :: st) (Wd E s)) : K nc ns pc lv (.ref (E.1 o) :: st) (Wd E s) := by
  obtain ⟨q0, h1, h2⟩ := Wd_at E s ho.mem
  obtain ⟨k, p, l⟩ := o
  obtain ⟨h3, h4, h5⟩ := ho
  cases h3
  exact r_get g in_FP rfl q0 h2 2 (by decide) rfl hl0 d kk
theorem g_FP_text (g : Wk0 l (XE E) R cc nL own nm K) {o : u_O} (ho : is_FP o) {idx : Nat} (hl0 : Cond.fieldLink own idx (TX10 3).1 (TX10 3).2.1 (TX10 3).2.2.1 ∈ lw_G) (d : decode cc pc = .ok (.getfield idx, 3)) (kk : K nc ns (pc + 3) lv (.ref (E.1 (a_FP_text o)) :: st) (Wd E s)) : K nc ns pc lv (.ref (E.1 o) :: st) (Wd E s) := by
  obtain ⟨q0, h1, h2⟩ := Wd_at E s ho.mem
  obtain ⟨k, p, l⟩ := o
  obtain ⟨h3, h4, h5⟩ := ho
  cases h3
  exact r_get g in_FP rfl q0 h2 3 (by decide) rfl hl0 d kk
theorem g_FP_bads (g : Wk0 l (XE E) R cc nL own nm K) {o : u_O} (ho : is_FP o) {idx : Nat} (hl0 : Cond.fieldLink own idx (TX10 4).1 (TX10 4).2.1 (TX10 4).2.2.1 ∈ lw_G) (d : decode cc pc = .ok (.getfield idx, 3)) (kk : K nc ns (pc + 3) lv (.int (J (rd s o 4)) :: st) (Wd E s)) : K nc ns pc lv (.ref (E.1 o) :: st) (Wd E s) := by
  obtain ⟨q0, h1, h2⟩ := Wd_at E s ho.mem
  obtain ⟨k, p, l⟩ := o
  obtain ⟨h3, h4, h5⟩ := ho
  cases h3
  rw [J_rd] at kk
  exact r_get g in_FP rfl q0 h2 4 (by decide) rfl hl0 d kk
theorem p_FP_bads (g : Wk0 l (XE E) R cc nL own nm K) {o : u_O} (ho : is_FP o) {v : Int} {idx : Nat} (hl0 : Cond.fieldLink own idx (TX10 4).1 (TX10 4).2.1 (TX10 4).2.2.1 ∈ lw_G) (d : decode cc pc = .ok (.putfield idx, 3)) (kk : K nc ns (pc + 3) lv st (Wd E (wt s o 4 v))) : K nc ns pc lv (.int (J v) :: .ref (E.1 o) :: st) (Wd E s) := by
  obtain ⟨q0, h1, h2⟩ := Wd_at E s ho.mem
  obtain ⟨k, p, l⟩ := o
  obtain ⟨h3, h4, h5⟩ := ho
  cases h3
  refine r_put g in_FP rfl tyX10 tyX10_ok nmX10 q0 h2 4 (by decide) rfl (by decide +kernel) (Nat.le_of_ble_eq_true rfl) hl0 d ?_
  rw [Wd_set E (s' := wt s (0, p, l) 4 v) h1 (fun o' h => wt_ne o' h)]
  · exact kk
  · simp [cell, wt]
theorem g_FP_noes (g : Wk0 l (XE E) R cc nL own nm K) {o : u_O} (ho : is_FP o) {idx : Nat} (hl0 : Cond.fieldLink own idx (TX10 5).1 (TX10 5).2.1 (TX10 5).2.2.1 ∈ lw_G) (d : decode cc pc = .ok (.getfield idx, 3)) (kk : K nc ns (pc + 3) lv (.int (J (rd s o 5)) :: st) (Wd E s)) : K nc ns pc lv (.ref (E.1 o) :: st) (Wd E s) := by
  obtain ⟨q0, h1, h2⟩ := Wd_at E s ho.mem
  obtain ⟨k, p, l⟩ := o
  obtain ⟨h3, h4, h5⟩ := ho
  cases h3
  rw [J_rd] at kk
  exact r_get g in_FP rfl q0 h2 5 (by decide) rfl hl0 d kk
theorem p_FP_noes (g : Wk0 l (XE E) R cc nL own nm K) {o : u_O} (ho : is_FP o) {v : Int} {idx : Nat} (hl0 : Cond.fieldLink own idx (TX10 5).1 (TX10 5).2.1 (TX10 5).2.2.1 ∈ lw_G) (d : decode cc pc = .ok (.putfield idx, 3)) (kk : K nc ns (pc + 3) lv st (Wd E (wt s o 5 v))) : K nc ns pc lv (.int (J v) :: .ref (E.1 o) :: st) (Wd E s) := by
  obtain ⟨q0, h1, h2⟩ := Wd_at E s ho.mem
  obtain ⟨k, p, l⟩ := o
  obtain ⟨h3, h4, h5⟩ := ho
  cases h3
  refine r_put g in_FP rfl tyX10 tyX10_ok nmX10 q0 h2 5 (by decide) rfl (by decide +kernel) (Nat.le_of_ble_eq_true rfl) hl0 d ?_
  rw [Wd_set E (s' := wt s (0, p, l) 5 v) h1 (fun o' h => wt_ne o' h)]
  · exact kk
  · simp [cell, wt]
theorem g_FP_fulls (g : Wk0 l (XE E) R cc nL own nm K) {o : u_O} (ho : is_FP o) {idx : Nat} (hl0 : Cond.fieldLink own idx (TX10 6).1 (TX10 6).2.1 (TX10 6).2.2.1 ∈ lw_G) (d : decode cc pc = .ok (.getfield idx, 3)) (kk : K nc ns (pc + 3) lv (.int (J (rd s o 6)) :: st) (Wd E s)) : K nc ns pc lv (.ref (E.1 o) :: st) (Wd E s) := by
  obtain ⟨q0, h1, h2⟩ := Wd_at E s ho.mem
  obtain ⟨k, p, l⟩ := o
  obtain ⟨h3, h4, h5⟩ := ho
  cases h3
  rw [J_rd] at kk
  exact r_get g in_FP rfl q0 h2 6 (by decide) rfl hl0 d kk
theorem p_FP_fulls (g : Wk0 l (XE E) R cc nL own nm K) {o : u_O} (ho : is_FP o) {v : Int} {idx : Nat} (hl0 : Cond.fieldLink own idx (TX10 6).1 (TX10 6).2.1 (TX10 6).2.2.1 ∈ lw_G) (d : decode cc pc = .ok (.putfield idx, 3)) (kk : K nc ns (pc + 3) lv st (Wd E (wt s o 6 v))) : K nc ns pc lv (.int (J v) :: .ref (E.1 o) :: st) (Wd E s) := by
  obtain ⟨q0, h1, h2⟩ := Wd_at E s ho.mem
  obtain ⟨k, p, l⟩ := o
  obtain ⟨h3, h4, h5⟩ := ho
  cases h3
  refine r_put g in_FP rfl tyX10 tyX10_ok nmX10 q0 h2 6 (by decide) rfl (by decide +kernel) (Nat.le_of_ble_eq_true rfl) hl0 d ?_
  rw [Wd_set E (s' := wt s (0, p, l) 6 v) h1 (fun o' h => wt_ne o' h)]
  · exact kk
  · simp [cell, wt]
theorem g_FP_upper (g : Wk0 l (XE E) R cc nL own nm K) {o : u_O} (ho : is_FP o) {idx : Nat} (hl0 : Cond.fieldLink own idx (TX10 7).1 (TX10 7).2.1 (TX10 7).2.2.1 ∈ lw_G) (d : decode cc pc = .ok (.getfield idx, 3)) (kk : K nc ns (pc + 3) lv (.ref (E.1 (a_FP_upper o)) :: st) (Wd E s)) : K nc ns pc lv (.ref (E.1 o) :: st) (Wd E s) := by
  obtain ⟨q0, h1, h2⟩ := Wd_at E s ho.mem
  obtain ⟨k, p, l⟩ := o
  obtain ⟨h3, h4, h5⟩ := ho
  cases h3
  exact r_get g in_FP rfl q0 h2 7 (by decide) rfl hl0 d kk
theorem g_FP_lower (g : Wk0 l (XE E) R cc nL own nm K) {o : u_O} (ho : is_FP o) {idx : Nat} (hl0 : Cond.fieldLink own idx (TX10 8).1 (TX10 8).2.1 (TX10 8).2.2.1 ∈ lw_G) (d : decode cc pc = .ok (.getfield idx, 3)) (kk : K nc ns (pc + 3) lv (.ref (E.1 (a_FP_lower o)) :: st) (Wd E s)) : K nc ns pc lv (.ref (E.1 o) :: st) (Wd E s) := by
  obtain ⟨q0, h1, h2⟩ := Wd_at E s ho.mem
  obtain ⟨k, p, l⟩ := o
  obtain ⟨h3, h4, h5⟩ := ho
  cases h3
  exact r_get g in_FP rfl q0 h2 8 (by decide) rfl hl0 d kk
theorem g_FP_faults (g : Wk0 l (XE E) R cc nL own nm K) {o : u_O} (ho : is_FP o) {idx : Nat} (hl0 : Cond.fieldLink own idx (TX10 9).1 (TX10 9).2.1 (TX10 9).2.2.1 ∈ lw_G) (d : decode cc pc = .ok (.getfield idx, 3)) (kk : K nc ns (pc + 3) lv (.ref (E.1 (a_FP_faults o)) :: st) (Wd E s)) : K nc ns pc lv (.ref (E.1 o) :: st) (Wd E s) := by
  obtain ⟨q0, h1, h2⟩ := Wd_at E s ho.mem
  obtain ⟨k, p, l⟩ := o
  obtain ⟨h3, h4, h5⟩ := ho
  cases h3
  exact r_get g in_FP rfl q0 h2 9 (by decide) rfl hl0 d kk
theorem g_FP_chorus (g : Wk0 l (XE E) R cc nL own nm K) {o : u_O} (ho : is_FP o) {idx : Nat} (hl0 : Cond.fieldLink own idx (TX10 10).1 (TX10 10).2.1 (TX10 10).2.2.1 ∈ lw_G) (d : decode cc pc = .ok (.getfield idx, 3)) (kk : K nc ns (pc + 3) lv (.ref (E.1 (a_FP_chorus o)) :: st) (Wd E s)) : K nc ns pc lv (.ref (E.1 o) :: st) (Wd E s) := by
  obtain ⟨q0, h1, h2⟩ := Wd_at E s ho.mem
  obtain ⟨k, p, l⟩ := o
  obtain ⟨h3, h4, h5⟩ := ho
  cases h3
  exact r_get g in_FP rfl q0 h2 10 (by decide) rfl hl0 d kk
theorem g_FP_rowEntries (g : Wk0 l (XE E) R cc nL own nm K) {o : u_O} (ho : is_FP o) {idx : Nat} (hl0 : Cond.fieldLink own idx (TX10 11).1 (TX10 11).2.1 (TX10 11).2.2.1 ∈ lw_G) (d : decode cc pc = .ok (.getfield idx, 3)) (kk : K nc ns (pc + 3) lv (.ref (E.1 (a_FP_rowEntries o)) :: st) (Wd E s)) : K nc ns pc lv (.ref (E.1 o) :: st) (Wd E s) := by
  obtain ⟨q0, h1, h2⟩ := Wd_at E s ho.mem
  obtain ⟨k, p, l⟩ := o
  obtain ⟨h3, h4, h5⟩ := ho
  cases h3
  exact r_get g in_FP rfl q0 h2 11 (by decide) rfl hl0 d kk
theorem g_FP_row (g : Wk0 l (XE E) R cc nL own nm K) {o : u_O} (ho : is_FP o) {idx : Nat} (hl0 : Cond.fieldLink own idx (TX10 12).1 (TX10 12).2.1 (TX10 12).2.2.1 ∈ lw_G) (d : decode cc pc = .ok (.getfield idx, 3)) (kk : K nc ns (pc + 3) lv (.ref (E.1 (a_FP_row o)) :: st) (Wd E s)) : K nc ns pc lv (.ref (E.1 o) :: st) (Wd E s) := by
  obtain ⟨q0, h1, h2⟩ := Wd_at E s ho.mem
  obtain ⟨k, p, l⟩ := o
  obtain ⟨h3, h4, h5⟩ := ho
  cases h3
  exact r_get g in_FP rfl q0 h2 12 (by decide) rfl hl0 d kk
theorem g_FP_tour (g : Wk0 l (XE E) R cc nL own nm K) {o : u_O} (ho : is_FP o) {idx : Nat} (hl0 : Cond.fieldLink own idx (TX10 13).1 (TX10 13).2.1 (TX10 13).2.2.1 ∈ lw_G) (d : decode cc pc = .ok (.getfield idx, 3)) (kk : K nc ns (pc + 3) lv (.ref (E.1 (a_FP_tour o)) :: st) (Wd E s)) : K nc ns pc lv (.ref (E.1 o) :: st) (Wd E s) := by
  obtain ⟨q0, h1, h2⟩ := Wd_at E s ho.mem
  obtain ⟨k, p, l⟩ := o
  obtain ⟨h3, h4, h5⟩ := ho
  cases h3
  exact r_get g in_FP rfl q0 h2 13 (by decide) rfl hl0 d kk
theorem in_Plan : ∀ w ∈ u_ws RX6 TX6 8, w ∈ lw_G := by decide +kernel
theorem recv_Plan {o : u_O} (h : is_Plan o) : Recv (Wd E s) (E.1 o) RX6 := by
  obtain ⟨q0, h1, h2⟩ := Wd_at E s h.mem
  obtain ⟨k, p, l⟩ := o
  obtain ⟨h3, h4, h5⟩ := h
  cases h3
  exact ⟨q0, 6, _, _, rfl, rfl, h2⟩
theorem g_Plan_lines (g : Wk0 l (XE E) R cc nL own nm K) {o : u_O} (ho : is_Plan o) {idx : Nat} (hl0 : Cond.fieldLink own idx (TX6 0).1 (TX6 0).2.1 (TX6 0).2.2.1 ∈ lw_G) (d : decode cc pc = .ok (.getfield idx, 3)) (kk : K nc ns (pc + 3) lv (.ref (E.1 (a_Plan_lines o)) :: st) (Wd E s)) : K nc ns pc lv (.ref (E.1 o) :: st) (Wd E s) := by
  obtain ⟨q0, h1, h2⟩ := Wd_at E s ho.mem
  obtain ⟨k, p, l⟩ := o
  obtain ⟨h3, h4, h5⟩ := ho
  cases h3
  exact r_get g in_Plan rfl q0 h2 0 (by decide) rfl hl0 d kk
theorem g_Plan_entries (g : Wk0 l (XE E) R cc nL own nm K) {o : u_O} (ho : is_Plan o) {idx : Nat} (hl0 : Cond.fieldLink own idx (TX6 1).1 (TX6 1).2.1 (TX6 1).2.2.1 ∈ lw_G) (d : decode cc pc = .ok (.getfield idx, 3)) (kk : K nc ns (pc + 3) lv (.ref (E.1 (a_Plan_entries o)) :: st) (Wd E s)) : K nc ns pc lv (.ref (E.1 o) :: st) (Wd E s) := by
  obtain ⟨q0, h1, h2⟩ := Wd_at E s ho.mem
  obtain ⟨k, p, l⟩ := o
  obtain ⟨h3, h4, h5⟩ := ho
  cases h3
  exact r_get g in_Plan rfl q0 h2 1 (by decide) rfl hl0 d kk
theorem g_Plan_toVisit (g : Wk0 l (XE E) R cc nL own nm K) {o : u_O} (ho : is_Plan o) {idx : Nat} (hl0 : Cond.fieldLink own idx (TX6 2).1 (TX6 2).2.1 (TX6 2).2.2.1 ∈ lw_G) (d : decode cc pc = .ok (.getfield idx, 3)) (kk : K nc ns (pc + 3) lv (.ref (E.1 (a_Plan_toVisit o)) :: st) (Wd E s)) : K nc ns pc lv (.ref (E.1 o) :: st) (Wd E s) := by
  obtain ⟨q0, h1, h2⟩ := Wd_at E s ho.mem
  obtain ⟨k, p, l⟩ := o
  obtain ⟨h3, h4, h5⟩ := ho
  cases h3
  exact r_get g in_Plan rfl q0 h2 2 (by decide) rfl hl0 d kk
theorem g_Plan_visitCount (g : Wk0 l (XE E) R cc nL own nm K) {o : u_O} (ho : is_Plan o) {idx : Nat} (hl0 : Cond.fieldLink own idx (TX6 3).1 (TX6 3).2.1 (TX6 3).2.2.1 ∈ lw_G) (d : decode cc pc = .ok (.getfield idx, 3)) (kk : K nc ns (pc + 3) lv (.int (J (rd s o 3)) :: st) (Wd E s)) : K nc ns pc lv (.ref (E.1 o) :: st) (Wd E s) := by
  obtain ⟨q0, h1, h2⟩ := Wd_at E s ho.mem
  obtain ⟨k, p, l⟩ := o
  obtain ⟨h3, h4, h5⟩ := ho
  cases h3
  rw [J_rd] at kk
  exact r_get g in_Plan rfl q0 h2 3 (by decide) rfl hl0 d kk
theorem p_Plan_visitCount (g : Wk0 l (XE E) R cc nL own nm K) {o : u_O} (ho : is_Plan o) {v : Int} {idx : Nat} (hl0 : Cond.fieldLink own idx (TX6 3).1 (TX6 3).2.1 (TX6 3).2.2.1 ∈ lw_G) (d : decode cc pc = .ok (.putfield idx, 3)) (kk : K nc ns (pc + 3) lv st (Wd E (wt s o 3 v))) : K nc ns pc lv (.int (J v) :: .ref (E.1 o) :: st) (Wd E s) := by
  obtain ⟨q0, h1, h2⟩ := Wd_at E s ho.mem
  obtain ⟨k, p, l⟩ := o
  obtain ⟨h3, h4, h5⟩ := ho
  cases h3
  refine r_put g in_Plan rfl tyX6 tyX6_ok nmX6 q0 h2 3 (by decide) rfl (by decide +kernel) (Nat.le_of_ble_eq_true rfl) hl0 d ?_
  rw [Wd_set E (s' := wt s (1, p, l) 3 v) h1 (fun o' h => wt_ne o' h)]
  · exact kk
  · simp [cell, wt]
theorem g_Plan_head (g : Wk0 l (XE E) R cc nL own nm K) {o : u_O} (ho : is_Plan o) {idx : Nat} (hl0 : Cond.fieldLink own idx (TX6 4).1 (TX6 4).2.1 (TX6 4).2.2.1 ∈ lw_G) (d : decode cc pc = .ok (.getfield idx, 3)) (kk : K nc ns (pc + 3) lv (.int (J (rd s o 4)) :: st) (Wd E s)) : K nc ns pc lv (.ref (E.1 o) :: st) (Wd E s) := by
  obtain ⟨q0, h1, h2⟩ := Wd_at E s ho.mem
  obtain ⟨k, p, l⟩ := o
  obtain ⟨h3, h4, h5⟩ := ho
  cases h3
  rw [J_rd] at kk
  exact r_get g in_Plan rfl q0 h2 4 (by decide) rfl hl0 d kk
theorem p_Plan_head (g : Wk0 l (XE E) R cc nL own nm K) {o : u_O} (ho : is_Plan o) {v : Int} {idx : Nat} (hl0 : Cond.fieldLink own idx (TX6 4).1 (TX6 4).2.1 (TX6 4).2.2.1 ∈ lw_G) (d : decode cc pc = .ok (.putfield idx, 3)) (kk : K nc ns (pc + 3) lv st (Wd E (wt s o 4 v))) : K nc ns pc lv (.int (J v) :: .ref (E.1 o) :: st) (Wd E s) := by
  obtain ⟨q0, h1, h2⟩ := Wd_at E s ho.mem
  obtain ⟨k, p, l⟩ := o
  obtain ⟨h3, h4, h5⟩ := ho
  cases h3
  refine r_put g in_Plan rfl tyX6 tyX6_ok nmX6 q0 h2 4 (by decide) rfl (by decide +kernel) (Nat.le_of_ble_eq_true rfl) hl0 d ?_
  rw [Wd_set E (s' := wt s (1, p, l) 4 v) h1 (fun o' h => wt_ne o' h)]
  · exact kk
  · simp [cell, wt]
theorem g_Plan_tonic (g : Wk0 l (XE E) R cc nL own nm K) {o : u_O} (ho : is_Plan o) {idx : Nat} (hl0 : Cond.fieldLink own idx (TX6 5).1 (TX6 5).2.1 (TX6 5).2.2.1 ∈ lw_G) (d : decode cc pc = .ok (.getfield idx, 3)) (kk : K nc ns (pc + 3) lv (.int (J (rd s o 5)) :: st) (Wd E s)) : K nc ns pc lv (.ref (E.1 o) :: st) (Wd E s) := by
  obtain ⟨q0, h1, h2⟩ := Wd_at E s ho.mem
  obtain ⟨k, p, l⟩ := o
  obtain ⟨h3, h4, h5⟩ := ho
  cases h3
  rw [J_rd] at kk
  exact r_get g in_Plan rfl q0 h2 5 (by decide) rfl hl0 d kk
theorem p_Plan_tonic (g : Wk0 l (XE E) R cc nL own nm K) {o : u_O} (ho : is_Plan o) {v : Int} {idx : Nat} (hl0 : Cond.fieldLink own idx (TX6 5).1 (TX6 5).2.1 (TX6 5).2.2.1 ∈ lw_G) (d : decode cc pc = .ok (.putfield idx, 3)) (kk : K nc ns (pc + 3) lv st (Wd E (wt s o 5 v))) : K nc ns pc lv (.int (J v) :: .ref (E.1 o) :: st) (Wd E s) := by
  obtain ⟨q0, h1, h2⟩ := Wd_at E s ho.mem
  obtain ⟨k, p, l⟩ := o
  obtain ⟨h3, h4, h5⟩ := ho
  cases h3
  refine r_put g in_Plan rfl tyX6 tyX6_ok nmX6 q0 h2 5 (by decide) rfl (by decide +kernel) (Nat.le_of_ble_eq_true rfl) hl0 d ?_
  rw [Wd_set E (s' := wt s (1, p, l) 5 v) h1 (fun o' h => wt_ne o' h)]
  · exact kk
  · simp [cell, wt]
theorem g_Plan_meter (g : Wk0 l (XE E) R cc nL own nm K) {o : u_O} (ho : is_Plan o) {idx : Nat} (hl0 : Cond.fieldLink own idx (TX6 6).1 (TX6 6).2.1 (TX6 6).2.2.1 ∈ lw_G) (d : decode cc pc = .ok (.getfield idx, 3)) (kk : K nc ns (pc + 3) lv (.int (J (rd s o 6)) :: st) (Wd E s)) : K nc ns pc lv (.ref (E.1 o) :: st) (Wd E s) := by
  obtain ⟨q0, h1, h2⟩ := Wd_at E s ho.mem
  obtain ⟨k, p, l⟩ := o
  obtain ⟨h3, h4, h5⟩ := ho
  cases h3
  rw [J_rd] at kk
  exact r_get g in_Plan rfl q0 h2 6 (by decide) rfl hl0 d kk
theorem p_Plan_meter (g : Wk0 l (XE E) R cc nL own nm K) {o : u_O} (ho : is_Plan o) {v : Int} {idx : Nat} (hl0 : Cond.fieldLink own idx (TX6 6).1 (TX6 6).2.1 (TX6 6).2.2.1 ∈ lw_G) (d : decode cc pc = .ok (.putfield idx, 3)) (kk : K nc ns (pc + 3) lv st (Wd E (wt s o 6 v))) : K nc ns pc lv (.int (J v) :: .ref (E.1 o) :: st) (Wd E s) := by
  obtain ⟨q0, h1, h2⟩ := Wd_at E s ho.mem
  obtain ⟨k, p, l⟩ := o
  obtain ⟨h3, h4, h5⟩ := ho
  cases h3
  refine r_put g in_Plan rfl tyX6 tyX6_ok nmX6 q0 h2 6 (by decide) rfl (by decide +kernel) (Nat.le_of_ble_eq_true rfl) hl0 d ?_
  rw [Wd_set E (s' := wt s (1, p, l) 6 v) h1 (fun o' h => wt_ne o' h)]
  · exact kk
  · simp [cell, wt]
theorem g_Plan_home (g : Wk0 l (XE E) R cc nL own nm K) {o : u_O} (ho : is_Plan o) {idx : Nat} (hl0 : Cond.fieldLink own idx (TX6 7).1 (TX6 7).2.1 (TX6 7).2.2.1 ∈ lw_G) (d : decode cc pc = .ok (.getfield idx, 3)) (kk : K nc ns (pc + 3) lv (.int (J (rd s o 7)) :: st) (Wd E s)) : K nc ns pc lv (.ref (E.1 o) :: st) (Wd E s) := by
  obtain ⟨q0, h1, h2⟩ := Wd_at E s ho.mem
  obtain ⟨k, p, l⟩ := o
  obtain ⟨h3, h4, h5⟩ := ho
  cases h3
  rw [J_rd] at kk
  exact r_get g in_Plan rfl q0 h2 7 (by decide) rfl hl0 d kk
theorem p_Plan_home (g : Wk0 l (XE E) R cc nL own nm K) {o : u_O} (ho : is_Plan o) {v : Int} {idx : Nat} (hl0 : Cond.fieldLink own idx (TX6 7).1 (TX6 7).2.1 (TX6 7).2.2.1 ∈ lw_G) (d : decode cc pc = .ok (.putfield idx, 3)) (kk : K nc ns (pc + 3) lv st (Wd E (wt s o 7 v))) : K nc ns pc lv (.int (J v) :: .ref (E.1 o) :: st) (Wd E s) := by
  obtain ⟨q0, h1, h2⟩ := Wd_at E s ho.mem
  obtain ⟨k, p, l⟩ := o
  obtain ⟨h3, h4, h5⟩ := ho
  cases h3
  refine r_put g in_Plan rfl tyX6 tyX6_ok nmX6 q0 h2 7 (by decide) rfl (by decide +kernel) (Nat.le_of_ble_eq_true rfl) hl0 d ?_
  rw [Wd_set E (s' := wt s (1, p, l) 7 v) h1 (fun o' h => wt_ne o' h)]
  · exact kk
  · simp [cell, wt]
theorem in_Line : ∀ w ∈ u_ws RX5 TX5 3, w ∈ lw_G := by decide +kernel
theorem recv_Line {o : u_O} (h : is_Line o) : Recv (Wd E s) (E.1 o) RX5 := by
  obtain ⟨q0, h1, h2⟩ := Wd_at E s h.mem
  obtain ⟨k, p, l⟩ := o
  obtain ⟨h3, h4, h5⟩ := h
  cases h3
  exact ⟨q0, 5, _, _, rfl, rfl, h2⟩
theorem g_Line_steps (g : Wk0 l (XE E) R cc nL own nm K) {o : u_O} (ho : is_Line o) {idx : Nat} (hl0 : Cond.fieldLink own idx (TX5 0).1 (TX5 0).2.1 (TX5 0).2.2.1 ∈ lw_G) (d : decode cc pc = .ok (.getfield idx, 3)) (kk : K nc ns (pc + 3) lv (.ref (E.1 (a_Line_steps o)) :: st) (Wd E s)) : K nc ns pc lv (.ref (E.1 o) :: st) (Wd E s) := by
  obtain ⟨q0, h1, h2⟩ := Wd_at E s ho.mem
  obtain ⟨k, p, l⟩ := o
  obtain ⟨h3, h4, h5⟩ := ho
  cases h3
  exact r_get g in_Line rfl q0 h2 0 (by decide) rfl hl0 d kk
theorem g_Line_ticks (g : Wk0 l (XE E) R cc nL own nm K) {o : u_O} (ho : is_Line o) {idx : Nat} (hl0 : Cond.fieldLink own idx (TX5 1).1 (TX5 1).2.1 (TX5 1).2.2.1 ∈ lw_G) (d : decode cc pc = .ok (.getfield idx, 3)) (kk : K nc ns (pc + 3) lv (.ref (E.1 (a_Line_ticks o)) :: st) (Wd E s)) : K nc ns pc lv (.ref (E.1 o) :: st) (Wd E s) := by
  obtain ⟨q0, h1, h2⟩ := Wd_at E s ho.mem
  obtain ⟨k, p, l⟩ := o
  obtain ⟨h3, h4, h5⟩ := ho
  cases h3
  exact r_get g in_Line rfl q0 h2 1 (by decide) rfl hl0 d kk
theorem g_Line_count (g : Wk0 l (XE E) R cc nL own nm K) {o : u_O} (ho : is_Line o) {idx : Nat} (hl0 : Cond.fieldLink own idx (TX5 2).1 (TX5 2).2.1 (TX5 2).2.2.1 ∈ lw_G) (d : decode cc pc = .ok (.getfield idx, 3)) (kk : K nc ns (pc + 3) lv (.int (J (rd s o 2)) :: st) (Wd E s)) : K nc ns pc lv (.ref (E.1 o) :: st) (Wd E s) := by
  obtain ⟨q0, h1, h2⟩ := Wd_at E s ho.mem
  obtain ⟨k, p, l⟩ := o
  obtain ⟨h3, h4, h5⟩ := ho
  cases h3
  rw [J_rd] at kk
  exact r_get g in_Line rfl q0 h2 2 (by decide) rfl hl0 d kk
theorem p_Line_count (g : Wk0 l (XE E) R cc nL own nm K) {o : u_O} (ho : is_Line o) {v : Int} {idx : Nat} (hl0 : Cond.fieldLink own idx (TX5 2).1 (TX5 2).2.1 (TX5 2).2.2.1 ∈ lw_G) (d : decode cc pc = .ok (.putfield idx, 3)) (kk : K nc ns (pc + 3) lv st (Wd E (wt s o 2 v))) : K nc ns pc lv (.int (J v) :: .ref (E.1 o) :: st) (Wd E s) := by
  obtain ⟨q0, h1, h2⟩ := Wd_at E s ho.mem
  obtain ⟨k, p, l⟩ := o
  obtain ⟨h3, h4, h5⟩ := ho
  cases h3
  refine r_put g in_Line rfl tyX5 tyX5_ok nmX5 q0 h2 2 (by decide) rfl (by decide +kernel) (Nat.le_of_ble_eq_true rfl) hl0 d ?_
  rw [Wd_set E (s' := wt s (3, p, l) 2 v) h1 (fun o' h => wt_ne o' h)]
  · exact kk
  · simp [cell, wt]
theorem in_Entries : ∀ w ∈ u_ws RX1 TX1 2, w ∈ lw_G := by decide +kernel
theorem recv_Entries {o : u_O} (h : is_Entries o) : Recv (Wd E s) (E.1 o) RX1 := by
  obtain ⟨q0, h1, h2⟩ := Wd_at E s h.mem
  obtain ⟨k, p, l⟩ := o
  obtain ⟨h3, h4, h5⟩ := h
  cases h3
  exact ⟨q0, 1, _, _, rfl, rfl, h2⟩
theorem g_Entries_items (g : Wk0 l (XE E) R cc nL own nm K) {o : u_O} (ho : is_Entries o) {idx : Nat} (hl0 : Cond.fieldLink own idx (TX1 0).1 (TX1 0).2.1 (TX1 0).2.2.1 ∈ lw_G) (d : decode cc pc = .ok (.getfield idx, 3)) (kk : K nc ns (pc + 3) lv (.ref (E.1 (a_Entries_items o)) :: st) (Wd E s)) : K nc ns pc lv (.ref (E.1 o) :: st) (Wd E s) := by
  obtain ⟨q0, h1, h2⟩ := Wd_at E s ho.mem
  obtain ⟨k, p, l⟩ := o
  obtain ⟨h3, h4, h5⟩ := ho
  cases h3
  exact r_get g in_Entries rfl q0 h2 0 (by decide) rfl hl0 d kk
theorem g_Entries_count (g : Wk0 l (XE E) R cc nL own nm K) {o : u_O} (ho : is_Entries o) {idx : Nat} (hl0 : Cond.fieldLink own idx (TX1 1).1 (TX1 1).2.1 (TX1 1).2.2.1 ∈ lw_G) (d : decode cc pc = .ok (.getfield idx, 3)) (kk : K nc ns (pc + 3) lv (.int (J (rd s o 1)) :: st) (Wd E s)) : K nc ns pc lv (.ref (E.1 o) :: st) (Wd E s) := by
  obtain ⟨q0, h1, h2⟩ := Wd_at E s ho.mem
  obtain ⟨k, p, l⟩ := o
  obtain ⟨h3, h4, h5⟩ := ho
  cases h3
  rw [J_rd] at kk
  exact r_get g in_Entries rfl q0 h2 1 (by decide) rfl hl0 d kk
theorem p_Entries_count (g : Wk0 l (XE E) R cc nL own nm K) {o : u_O} (ho : is_Entries o) {v : Int} {idx : Nat} (hl0 : Cond.fieldLink own idx (TX1 1).1 (TX1 1).2.1 (TX1 1).2.2.1 ∈ lw_G) (d : decode cc pc = .ok (.putfield idx, 3)) (kk : K nc ns (pc + 3) lv st (Wd E (wt s o 1 v))) : K nc ns pc lv (.int (J v) :: .ref (E.1 o) :: st) (Wd E s) := by
  obtain ⟨q0, h1, h2⟩ := Wd_at E s ho.mem
  obtain ⟨k, p, l⟩ := o
  obtain ⟨h3, h4, h5⟩ := ho
  cases h3
  refine r_put g in_Entries rfl tyX1 tyX1_ok nmX1 q0 h2 1 (by decide) rfl (by decide +kernel) (Nat.le_of_ble_eq_true rfl) hl0 d ?_
  rw [Wd_set E (s' := wt s (6, p, l) 1 v) h1 (fun o' h => wt_ne o' h)]
  · exact kk
  · simp [cell, wt]
theorem in_Entry : ∀ w ∈ u_ws RX2 TX2 5, w ∈ lw_G := by decide +kernel
theorem recv_Entry {o : u_O} (h : is_Entry o) : Recv (Wd E s) (E.1 o) RX2 := by
  obtain ⟨q0, h1, h2⟩ := Wd_at E s h.mem
  obtain ⟨k, p, l⟩ := o
  obtain ⟨h3, h4, h5⟩ := h
  cases h3
  exact ⟨q0, 2, _, _, rfl, rfl, h2⟩
theorem g_Entry_line (g : Wk0 l (XE E) R cc nL own nm K) {o : u_O} (ho : is_Entry o) {idx : Nat} (hl0 : Cond.fieldLink own idx (TX2 0).1 (TX2 0).2.1 (TX2 0).2.2.1 ∈ lw_G) (d : decode cc pc = .ok (.getfield idx, 3)) (kk : K nc ns (pc + 3) lv (.int (J (rd s o 0)) :: st) (Wd E s)) : K nc ns pc lv (.ref (E.1 o) :: st) (Wd E s) := by
  obtain ⟨q0, h1, h2⟩ := Wd_at E s ho.mem
  obtain ⟨k, p, l⟩ := o
  obtain ⟨h3, h4, h5⟩ := ho
  cases h3
  rw [J_rd] at kk
  exact r_get g in_Entry rfl q0 h2 0 (by decide) rfl hl0 d kk
theorem p_Entry_line (g : Wk0 l (XE E) R cc nL own nm K) {o : u_O} (ho : is_Entry o) {v : Int} {idx : Nat} (hl0 : Cond.fieldLink own idx (TX2 0).1 (TX2 0).2.1 (TX2 0).2.2.1 ∈ lw_G) (d : decode cc pc = .ok (.putfield idx, 3)) (kk : K nc ns (pc + 3) lv st (Wd E (wt s o 0 v))) : K nc ns pc lv (.int (J v) :: .ref (E.1 o) :: st) (Wd E s) := by
  obtain ⟨q0, h1, h2⟩ := Wd_at E s ho.mem
  obtain ⟨k, p, l⟩ := o
  obtain ⟨h3, h4, h5⟩ := ho
  cases h3
  refine r_put g in_Entry rfl tyX2 tyX2_ok nmX2 q0 h2 0 (by decide) rfl (by decide +kernel) (Nat.le_of_ble_eq_true rfl) hl0 d ?_
  rw [Wd_set E (s' := wt s (8, p, l) 0 v) h1 (fun o' h => wt_ne o' h)]
  · exact kk
  · simp [cell, wt]
theorem g_Entry_form (g : Wk0 l (XE E) R cc nL own nm K) {o : u_O} (ho : is_Entry o) {idx : Nat} (hl0 : Cond.fieldLink own idx (TX2 1).1 (TX2 1).2.1 (TX2 1).2.2.1 ∈ lw_G) (d : decode cc pc = .ok (.getfield idx, 3)) (kk : K nc ns (pc + 3) lv (.int (J (rd s o 1)) :: st) (Wd E s)) : K nc ns pc lv (.ref (E.1 o) :: st) (Wd E s) := by
  obtain ⟨q0, h1, h2⟩ := Wd_at E s ho.mem
  obtain ⟨k, p, l⟩ := o
  obtain ⟨h3, h4, h5⟩ := ho
  cases h3
  rw [J_rd] at kk
  exact r_get g in_Entry rfl q0 h2 1 (by decide) rfl hl0 d kk
theorem p_Entry_form (g : Wk0 l (XE E) R cc nL own nm K) {o : u_O} (ho : is_Entry o) {v : Int} {idx : Nat} (hl0 : Cond.fieldLink own idx (TX2 1).1 (TX2 1).2.1 (TX2 1).2.2.1 ∈ lw_G) (d : decode cc pc = .ok (.putfield idx, 3)) (kk : K nc ns (pc + 3) lv st (Wd E (wt s o 1 v))) : K nc ns pc lv (.int (J v) :: .ref (E.1 o) :: st) (Wd E s) := by
  obtain ⟨q0, h1, h2⟩ := Wd_at E s ho.mem
  obtain ⟨k, p, l⟩ := o
  obtain ⟨h3, h4, h5⟩ := ho
  cases h3
  refine r_put g in_Entry rfl tyX2 tyX2_ok nmX2 q0 h2 1 (by decide) rfl (by decide +kernel) (Nat.le_of_ble_eq_true rfl) hl0 d ?_
  rw [Wd_set E (s' := wt s (8, p, l) 1 v) h1 (fun o' h => wt_ne o' h)]
  · exact kk
  · simp [cell, wt]
theorem g_Entry_move (g : Wk0 l (XE E) R cc nL own nm K) {o : u_O} (ho : is_Entry o) {idx : Nat} (hl0 : Cond.fieldLink own idx (TX2 2).1 (TX2 2).2.1 (TX2 2).2.2.1 ∈ lw_G) (d : decode cc pc = .ok (.getfield idx, 3)) (kk : K nc ns (pc + 3) lv (.int (J (rd s o 2)) :: st) (Wd E s)) : K nc ns pc lv (.ref (E.1 o) :: st) (Wd E s) := by
  obtain ⟨q0, h1, h2⟩ := Wd_at E s ho.mem
  obtain ⟨k, p, l⟩ := o
  obtain ⟨h3, h4, h5⟩ := ho
  cases h3
  rw [J_rd] at kk
  exact r_get g in_Entry rfl q0 h2 2 (by decide) rfl hl0 d kk
theorem p_Entry_move (g : Wk0 l (XE E) R cc nL own nm K) {o : u_O} (ho : is_Entry o) {v : Int} {idx : Nat} (hl0 : Cond.fieldLink own idx (TX2 2).1 (TX2 2).2.1 (TX2 2).2.2.1 ∈ lw_G) (d : decode cc pc = .ok (.putfield idx, 3)) (kk : K nc ns (pc + 3) lv st (Wd E (wt s o 2 v))) : K nc ns pc lv (.int (J v) :: .ref (E.1 o) :: st) (Wd E s) := by
  obtain ⟨q0, h1, h2⟩ := Wd_at E s ho.mem
  obtain ⟨k, p, l⟩ := o
  obtain ⟨h3, h4, h5⟩ := ho
  cases h3
  refine r_put g in_Entry rfl tyX2 tyX2_ok nmX2 q0 h2 2 (by decide) rfl (by decide +kernel) (Nat.le_of_ble_eq_true rfl) hl0 d ?_
  rw [Wd_set E (s' := wt s (8, p, l) 2 v) h1 (fun o' h => wt_ne o' h)]
  · exact kk
  · simp [cell, wt]
theorem g_Entry_start (g : Wk0 l (XE E) R cc nL own nm K) {o : u_O} (ho : is_Entry o) {idx : Nat} (hl0 : Cond.fieldLink own idx (TX2 3).1 (TX2 3).2.1 (TX2 3).2.2.1 ∈ lw_G) (d : decode cc pc = .ok (.getfield idx, 3)) (kk : K nc ns (pc + 3) lv (.int (J (rd s o 3)) :: st) (Wd E s)) : K nc ns pc lv (.ref (E.1 o) :: st) (Wd E s) := by
  obtain ⟨q0, h1, h2⟩ := Wd_at E s ho.mem
  obtain ⟨k, p, l⟩ := o
  obtain ⟨h3, h4, h5⟩ := ho
  cases h3
  rw [J_rd] at kk
  exact r_get g in_Entry rfl q0 h2 3 (by decide) rfl hl0 d kk
theorem p_Entry_start (g : Wk0 l (XE E) R cc nL own nm K) {o : u_O} (ho : is_Entry o) {v : Int} {idx : Nat} (hl0 : Cond.fieldLink own idx (TX2 3).1 (TX2 3).2.1 (TX2 3).2.2.1 ∈ lw_G) (d : decode cc pc = .ok (.putfield idx, 3)) (kk : K nc ns (pc + 3) lv st (Wd E (wt s o 3 v))) : K nc ns pc lv (.int (J v) :: .ref (E.1 o) :: st) (Wd E s) := by
  obtain ⟨q0, h1, h2⟩ := Wd_at E s ho.mem
  obtain ⟨k, p, l⟩ := o
  obtain ⟨h3, h4, h5⟩ := ho
  cases h3
  refine r_put g in_Entry rfl tyX2 tyX2_ok nmX2 q0 h2 3 (by decide) rfl (by decide +kernel) (Nat.le_of_ble_eq_true rfl) hl0 d ?_
  rw [Wd_set E (s' := wt s (8, p, l) 3 v) h1 (fun o' h => wt_ne o' h)]
  · exact kk
  · simp [cell, wt]
theorem g_Entry_voice (g : Wk0 l (XE E) R cc nL own nm K) {o : u_O} (ho : is_Entry o) {idx : Nat} (hl0 : Cond.fieldLink own idx (TX2 4).1 (TX2 4).2.1 (TX2 4).2.2.1 ∈ lw_G) (d : decode cc pc = .ok (.getfield idx, 3)) (kk : K nc ns (pc + 3) lv (.int (J (rd s o 4)) :: st) (Wd E s)) : K nc ns pc lv (.ref (E.1 o) :: st) (Wd E s) := by
  obtain ⟨q0, h1, h2⟩ := Wd_at E s ho.mem
  obtain ⟨k, p, l⟩ := o
  obtain ⟨h3, h4, h5⟩ := ho
  cases h3
  rw [J_rd] at kk
  exact r_get g in_Entry rfl q0 h2 4 (by decide) rfl hl0 d kk
theorem p_Entry_voice (g : Wk0 l (XE E) R cc nL own nm K) {o : u_O} (ho : is_Entry o) {v : Int} {idx : Nat} (hl0 : Cond.fieldLink own idx (TX2 4).1 (TX2 4).2.1 (TX2 4).2.2.1 ∈ lw_G) (d : decode cc pc = .ok (.putfield idx, 3)) (kk : K nc ns (pc + 3) lv st (Wd E (wt s o 4 v))) : K nc ns pc lv (.int (J v) :: .ref (E.1 o) :: st) (Wd E s) := by
  obtain ⟨q0, h1, h2⟩ := Wd_at E s ho.mem
  obtain ⟨k, p, l⟩ := o
  obtain ⟨h3, h4, h5⟩ := ho
  cases h3
  refine r_put g in_Entry rfl tyX2 tyX2_ok nmX2 q0 h2 4 (by decide) rfl (by decide +kernel) (Nat.le_of_ble_eq_true rfl) hl0 d ?_
  rw [Wd_set E (s' := wt s (8, p, l) 4 v) h1 (fun o' h => wt_ne o' h)]
  · exact kk
  · simp [cell, wt]
theorem in_History : ∀ w ∈ u_ws RX4 TX4 3, w ∈ lw_G := by decide +kernel
theorem recv_History {o : u_O} (h : is_History o) : Recv (Wd E s) (E.1 o) RX4 := by
  obtain ⟨q0, h1, h2⟩ := Wd_at E s h.mem
  obtain ⟨k, p, l⟩ := o
  obtain ⟨h3, h4, h5⟩ := h
  cases h3
  exact ⟨q0, 4, _, _, rfl, rfl, h2⟩
theorem g_History_kept (g : Wk0 l (XE E) R cc nL own nm K) {o : u_O} (ho : is_History o) {idx : Nat} (hl0 : Cond.fieldLink own idx (TX4 0).1 (TX4 0).2.1 (TX4 0).2.2.1 ∈ lw_G) (d : decode cc pc = .ok (.getfield idx, 3)) (kk : K nc ns (pc + 3) lv (.ref (E.1 (a_History_kept o)) :: st) (Wd E s)) : K nc ns pc lv (.ref (E.1 o) :: st) (Wd E s) := by
  obtain ⟨q0, h1, h2⟩ := Wd_at E s ho.mem
  obtain ⟨k, p, l⟩ := o
  obtain ⟨h3, h4, h5⟩ := ho
  cases h3
  exact r_get g in_History rfl q0 h2 0 (by decide) rfl hl0 d kk
theorem g_History_newest (g : Wk0 l (XE E) R cc nL own nm K) {o : u_O} (ho : is_History o) {idx : Nat} (hl0 : Cond.fieldLink own idx (TX4 1).1 (TX4 1).2.1 (TX4 1).2.2.1 ∈ lw_G) (d : decode cc pc = .ok (.getfield idx, 3)) (kk : K nc ns (pc + 3) lv (.int (J (rd s o 1)) :: st) (Wd E s)) : K nc ns pc lv (.ref (E.1 o) :: st) (Wd E s) := by
  obtain ⟨q0, h1, h2⟩ := Wd_at E s ho.mem
  obtain ⟨k, p, l⟩ := o
  obtain ⟨h3, h4, h5⟩ := ho
  cases h3
  rw [J_rd] at kk
  exact r_get g in_History rfl q0 h2 1 (by decide) rfl hl0 d kk
theorem p_History_newest (g : Wk0 l (XE E) R cc nL own nm K) {o : u_O} (ho : is_History o) {v : Int} {idx : Nat} (hl0 : Cond.fieldLink own idx (TX4 1).1 (TX4 1).2.1 (TX4 1).2.2.1 ∈ lw_G) (d : decode cc pc = .ok (.putfield idx, 3)) (kk : K nc ns (pc + 3) lv st (Wd E (wt s o 1 v))) : K nc ns pc lv (.int (J v) :: .ref (E.1 o) :: st) (Wd E s) := by
  obtain ⟨q0, h1, h2⟩ := Wd_at E s ho.mem
  obtain ⟨k, p, l⟩ := o
  obtain ⟨h3, h4, h5⟩ := ho
  cases h3
  refine r_put g in_History rfl tyX4 tyX4_ok nmX4 q0 h2 1 (by decide) rfl (by decide +kernel) (Nat.le_of_ble_eq_true rfl) hl0 d ?_
  rw [Wd_set E (s' := wt s (10, p, l) 1 v) h1 (fun o' h => wt_ne o' h)]
  · exact kk
  · simp [cell, wt]
theorem g_History_count (g : Wk0 l (XE E) R cc nL own nm K) {o : u_O} (ho : is_History o) {idx : Nat} (hl0 : Cond.fieldLink own idx (TX4 2).1 (TX4 2).2.1 (TX4 2).2.2.1 ∈ lw_G) (d : decode cc pc = .ok (.getfield idx, 3)) (kk : K nc ns (pc + 3) lv (.int (J (rd s o 2)) :: st) (Wd E s)) : K nc ns pc lv (.ref (E.1 o) :: st) (Wd E s) := by
  obtain ⟨q0, h1, h2⟩ := Wd_at E s ho.mem
  obtain ⟨k, p, l⟩ := o
  obtain ⟨h3, h4, h5⟩ := ho
  cases h3
  rw [J_rd] at kk
  exact r_get g in_History rfl q0 h2 2 (by decide) rfl hl0 d kk
theorem p_History_count (g : Wk0 l (XE E) R cc nL own nm K) {o : u_O} (ho : is_History o) {v : Int} {idx : Nat} (hl0 : Cond.fieldLink own idx (TX4 2).1 (TX4 2).2.1 (TX4 2).2.2.1 ∈ lw_G) (d : decode cc pc = .ok (.putfield idx, 3)) (kk : K nc ns (pc + 3) lv st (Wd E (wt s o 2 v))) : K nc ns pc lv (.int (J v) :: .ref (E.1 o) :: st) (Wd E s) := by
  obtain ⟨q0, h1, h2⟩ := Wd_at E s ho.mem
  obtain ⟨k, p, l⟩ := o
  obtain ⟨h3, h4, h5⟩ := ho
  cases h3
  refine r_put g in_History rfl tyX4 tyX4_ok nmX4 q0 h2 2 (by decide) rfl (by decide +kernel) (Nat.le_of_ble_eq_true rfl) hl0 d ?_
  rw [Wd_set E (s' := wt s (10, p, l) 2 v) h1 (fun o' h => wt_ne o' h)]
  · exact kk
  · simp [cell, wt]
theorem in_Reader : ∀ w ∈ u_ws RX7 TX7 9, w ∈ lw_G := by decide +kernel
theorem recv_Reader {o : u_O} (h : is_Reader o) : Recv (Wd E s) (E.1 o) RX7 := by
  obtain ⟨q0, h1, h2⟩ := Wd_at E s h.mem
  obtain ⟨k, p, l⟩ := o
  obtain ⟨h3, h4, h5⟩ := h
  cases h3
  exact ⟨q0, 7, _, _, rfl, rfl, h2⟩
theorem g_Reader_bytes (g : Wk0 l (XE E) R cc nL own nm K) {o : u_O} (ho : is_Reader o) {idx : Nat} (hl0 : Cond.fieldLink own idx (TX7 0).1 (TX7 0).2.1 (TX7 0).2.2.1 ∈ lw_G) (d : decode cc pc = .ok (.getfield idx, 3)) (kk : K nc ns (pc + 3) lv (.ref (E.1 (a_Reader_bytes o)) :: st) (Wd E s)) : K nc ns pc lv (.ref (E.1 o) :: st) (Wd E s) := by
  obtain ⟨q0, h1, h2⟩ := Wd_at E s ho.mem
  obtain ⟨k, p, l⟩ := o
  obtain ⟨h3, h4, h5⟩ := ho
  cases h3
  exact r_get g in_Reader rfl q0 h2 0 (by decide) rfl hl0 d kk
theorem g_Reader_letters (g : Wk0 l (XE E) R cc nL own nm K) {o : u_O} (ho : is_Reader o) {idx : Nat} (hl0 : Cond.fieldLink own idx (TX7 1).1 (TX7 1).2.1 (TX7 1).2.2.1 ∈ lw_G) (d : decode cc pc = .ok (.getfield idx, 3)) (kk : K nc ns (pc + 3) lv (.ref (E.1 (a_Reader_letters o)) :: st) (Wd E s)) : K nc ns pc lv (.ref (E.1 o) :: st) (Wd E s) := by
  obtain ⟨q0, h1, h2⟩ := Wd_at E s ho.mem
  obtain ⟨k, p, l⟩ := o
  obtain ⟨h3, h4, h5⟩ := ho
  cases h3
  exact r_get g in_Reader rfl q0 h2 1 (by decide) rfl hl0 d kk
theorem g_Reader_starts (g : Wk0 l (XE E) R cc nL own nm K) {o : u_O} (ho : is_Reader o) {idx : Nat} (hl0 : Cond.fieldLink own idx (TX7 2).1 (TX7 2).2.1 (TX7 2).2.2.1 ∈ lw_G) (d : decode cc pc = .ok (.getfield idx, 3)) (kk : K nc ns (pc + 3) lv (.ref (E.1 (a_Reader_starts o)) :: st) (Wd E s)) : K nc ns pc lv (.ref (E.1 o) :: st) (Wd E s) := by
  obtain ⟨q0, h1, h2⟩ := Wd_at E s ho.mem
  obtain ⟨k, p, l⟩ := o
  obtain ⟨h3, h4, h5⟩ := ho
  cases h3
  exact r_get g in_Reader rfl q0 h2 2 (by decide) rfl hl0 d kk
theorem g_Reader_numbers (g : Wk0 l (XE E) R cc nL own nm K) {o : u_O} (ho : is_Reader o) {idx : Nat} (hl0 : Cond.fieldLink own idx (TX7 3).1 (TX7 3).2.1 (TX7 3).2.2.1 ∈ lw_G) (d : decode cc pc = .ok (.getfield idx, 3)) (kk : K nc ns (pc + 3) lv (.ref (E.1 (a_Reader_numbers o)) :: st) (Wd E s)) : K nc ns pc lv (.ref (E.1 o) :: st) (Wd E s) := by
  obtain ⟨q0, h1, h2⟩ := Wd_at E s ho.mem
  obtain ⟨k, p, l⟩ := o
  obtain ⟨h3, h4, h5⟩ := ho
  cases h3
  exact r_get g in_Reader rfl q0 h2 3 (by decide) rfl hl0 d kk
theorem g_Reader_length (g : Wk0 l (XE E) R cc nL own nm K) {o : u_O} (ho : is_Reader o) {idx : Nat} (hl0 : Cond.fieldLink own idx (TX7 4).1 (TX7 4).2.1 (TX7 4).2.2.1 ∈ lw_G) (d : decode cc pc = .ok (.getfield idx, 3)) (kk : K nc ns (pc + 3) lv (.int (J (rd s o 4)) :: st) (Wd E s)) : K nc ns pc lv (.ref (E.1 o) :: st) (Wd E s) := by
  obtain ⟨q0, h1, h2⟩ := Wd_at E s ho.mem
  obtain ⟨k, p, l⟩ := o
  obtain ⟨h3, h4, h5⟩ := ho
  cases h3
  rw [J_rd] at kk
  exact r_get g in_Reader rfl q0 h2 4 (by decide) rfl hl0 d kk
theorem p_Reader_length (g : Wk0 l (XE E) R cc nL own nm K) {o : u_O} (ho : is_Reader o) {v : Int} {idx : Nat} (hl0 : Cond.fieldLink own idx (TX7 4).1 (TX7 4).2.1 (TX7 4).2.2.1 ∈ lw_G) (d : decode cc pc = .ok (.putfield idx, 3)) (kk : K nc ns (pc + 3) lv st (Wd E (wt s o 4 v))) : K nc ns pc lv (.int (J v) :: .ref (E.1 o) :: st) (Wd E s) := by
  obtain ⟨q0, h1, h2⟩ := Wd_at E s ho.mem
  obtain ⟨k, p, l⟩ := o
  obtain ⟨h3, h4, h5⟩ := ho
  cases h3
  refine r_put g in_Reader rfl tyX7 tyX7_ok nmX7 q0 h2 4 (by decide) rfl (by decide +kernel) (Nat.le_of_ble_eq_true rfl) hl0 d ?_
  rw [Wd_set E (s' := wt s (12, p, l) 4 v) h1 (fun o' h => wt_ne o' h)]
  · exact kk
  · simp [cell, wt]
theorem g_Reader_orders (g : Wk0 l (XE E) R cc nL own nm K) {o : u_O} (ho : is_Reader o) {idx : Nat} (hl0 : Cond.fieldLink own idx (TX7 5).1 (TX7 5).2.1 (TX7 5).2.2.1 ∈ lw_G) (d : decode cc pc = .ok (.getfield idx, 3)) (kk : K nc ns (pc + 3) lv (.int (J (rd s o 5)) :: st) (Wd E s)) : K nc ns pc lv (.ref (E.1 o) :: st) (Wd E s) := by
  obtain ⟨q0, h1, h2⟩ := Wd_at E s ho.mem
  obtain ⟨k, p, l⟩ := o
  obtain ⟨h3, h4, h5⟩ := ho
  cases h3
  rw [J_rd] at kk
  exact r_get g in_Reader rfl q0 h2 5 (by decide) rfl hl0 d kk
theorem p_Reader_orders (g : Wk0 l (XE E) R cc nL own nm K) {o : u_O} (ho : is_Reader o) {v : Int} {idx : Nat} (hl0 : Cond.fieldLink own idx (TX7 5).1 (TX7 5).2.1 (TX7 5).2.2.1 ∈ lw_G) (d : decode cc pc = .ok (.putfield idx, 3)) (kk : K nc ns (pc + 3) lv st (Wd E (wt s o 5 v))) : K nc ns pc lv (.int (J v) :: .ref (E.1 o) :: st) (Wd E s) := by
  obtain ⟨q0, h1, h2⟩ := Wd_at E s ho.mem
  obtain ⟨k, p, l⟩ := o
  obtain ⟨h3, h4, h5⟩ := ho
  cases h3
  refine r_put g in_Reader rfl tyX7 tyX7_ok nmX7 q0 h2 5 (by decide) rfl (by decide +kernel) (Nat.le_of_ble_eq_true rfl) hl0 d ?_
  rw [Wd_set E (s' := wt s (12, p, l) 5 v) h1 (fun o' h => wt_ne o' h)]
  · exact kk
  · simp [cell, wt]
theorem g_Reader_numberCount (g : Wk0 l (XE E) R cc nL own nm K) {o : u_O} (ho : is_Reader o) {idx : Nat} (hl0 : Cond.fieldLink own idx (TX7 6).1 (TX7 6).2.1 (TX7 6).2.2.1 ∈ lw_G) (d : decode cc pc = .ok (.getfield idx, 3)) (kk : K nc ns (pc + 3) lv (.int (J (rd s o 6)) :: st) (Wd E s)) : K nc ns pc lv (.ref (E.1 o) :: st) (Wd E s) := by
  obtain ⟨q0, h1, h2⟩ := Wd_at E s ho.mem
  obtain ⟨k, p, l⟩ := o
  obtain ⟨h3, h4, h5⟩ := ho
  cases h3
  rw [J_rd] at kk
  exact r_get g in_Reader rfl q0 h2 6 (by decide) rfl hl0 d kk
theorem p_Reader_numberCount (g : Wk0 l (XE E) R cc nL own nm K) {o : u_O} (ho : is_Reader o) {v : Int} {idx : Nat} (hl0 : Cond.fieldLink own idx (TX7 6).1 (TX7 6).2.1 (TX7 6).2.2.1 ∈ lw_G) (d : decode cc pc = .ok (.putfield idx, 3)) (kk : K nc ns (pc + 3) lv st (Wd E (wt s o 6 v))) : K nc ns pc lv (.int (J v) :: .ref (E.1 o) :: st) (Wd E s) := by
  obtain ⟨q0, h1, h2⟩ := Wd_at E s ho.mem
  obtain ⟨k, p, l⟩ := o
  obtain ⟨h3, h4, h5⟩ := ho
  cases h3
  refine r_put g in_Reader rfl tyX7 tyX7_ok nmX7 q0 h2 6 (by decide) rfl (by decide +kernel) (Nat.le_of_ble_eq_true rfl) hl0 d ?_
  rw [Wd_set E (s' := wt s (12, p, l) 6 v) h1 (fun o' h => wt_ne o' h)]
  · exact kk
  · simp [cell, wt]
theorem g_Reader_place (g : Wk0 l (XE E) R cc nL own nm K) {o : u_O} (ho : is_Reader o) {idx : Nat} (hl0 : Cond.fieldLink own idx (TX7 7).1 (TX7 7).2.1 (TX7 7).2.2.1 ∈ lw_G) (d : decode cc pc = .ok (.getfield idx, 3)) (kk : K nc ns (pc + 3) lv (.int (J (rd s o 7)) :: st) (Wd E s)) : K nc ns pc lv (.ref (E.1 o) :: st) (Wd E s) := by
  obtain ⟨q0, h1, h2⟩ := Wd_at E s ho.mem
  obtain ⟨k, p, l⟩ := o
  obtain ⟨h3, h4, h5⟩ := ho
  cases h3
  rw [J_rd] at kk
  exact r_get g in_Reader rfl q0 h2 7 (by decide) rfl hl0 d kk
theorem p_Reader_place (g : Wk0 l (XE E) R cc nL own nm K) {o : u_O} (ho : is_Reader o) {v : Int} {idx : Nat} (hl0 : Cond.fieldLink own idx (TX7 7).1 (TX7 7).2.1 (TX7 7).2.2.1 ∈ lw_G) (d : decode cc pc = .ok (.putfield idx, 3)) (kk : K nc ns (pc + 3) lv st (Wd E (wt s o 7 v))) : K nc ns pc lv (.int (J v) :: .ref (E.1 o) :: st) (Wd E s) := by
  obtain ⟨q0, h1, h2⟩ := Wd_at E s ho.mem
  obtain ⟨k, p, l⟩ := o
  obtain ⟨h3, h4, h5⟩ := ho
  cases h3
  refine r_put g in_Reader rfl tyX7 tyX7_ok nmX7 q0 h2 7 (by decide) rfl (by decide +kernel) (Nat.le_of_ble_eq_true rfl) hl0 d ?_
  rw [Wd_set E (s' := wt s (12, p, l) 7 v) h1 (fun o' h => wt_ne o' h)]
  · exact kk
  · simp [cell, wt]
theorem g_Reader_fault (g : Wk0 l (XE E) R cc nL own nm K) {o : u_O} (ho : is_Reader o) {idx : Nat} (hl0 : Cond.fieldLink own idx (TX7 8).1 (TX7 8).2.1 (TX7 8).2.2.1 ∈ lw_G) (d : decode cc pc = .ok (.getfield idx, 3)) (kk : K nc ns (pc + 3) lv (.int (J (rd s o 8)) :: st) (Wd E s)) : K nc ns pc lv (.ref (E.1 o) :: st) (Wd E s) := by
  obtain ⟨q0, h1, h2⟩ := Wd_at E s ho.mem
  obtain ⟨k, p, l⟩ := o
  obtain ⟨h3, h4, h5⟩ := ho
  cases h3
  rw [J_rd] at kk
  exact r_get g in_Reader rfl q0 h2 8 (by decide) rfl hl0 d kk
theorem p_Reader_fault (g : Wk0 l (XE E) R cc nL own nm K) {o : u_O} (ho : is_Reader o) {v : Int} {idx : Nat} (hl0 : Cond.fieldLink own idx (TX7 8).1 (TX7 8).2.1 (TX7 8).2.2.1 ∈ lw_G) (d : decode cc pc = .ok (.putfield idx, 3)) (kk : K nc ns (pc + 3) lv st (Wd E (wt s o 8 v))) : K nc ns pc lv (.int (J v) :: .ref (E.1 o) :: st) (Wd E s) := by
  obtain ⟨q0, h1, h2⟩ := Wd_at E s ho.mem
  obtain ⟨k, p, l⟩ := o
  obtain ⟨h3, h4, h5⟩ := ho
  cases h3
  refine r_put g in_Reader rfl tyX7 tyX7_ok nmX7 q0 h2 8 (by decide) rfl (by decide +kernel) (Nat.le_of_ble_eq_true rfl) hl0 d ?_
  rw [Wd_set E (s' := wt s (12, p, l) 8 v) h1 (fun o' h => wt_ne o' h)]
  · exact kk
  · simp [cell, wt]
theorem in_Sound : ∀ w ∈ u_ws RX8 TX8 4, w ∈ lw_G := by decide +kernel
theorem recv_Sound {o : u_O} (h : is_Sound o) : Recv (Wd E s) (E.1 o) RX8 := by
  obtain ⟨q0, h1, h2⟩ := Wd_at E s h.mem
  obtain ⟨k, p, l⟩ := o
  obtain ⟨h3, h4, h5⟩ := h
  cases h3
  exact ⟨q0, 8, _, _, rfl, rfl, h2⟩
theorem g_Sound_steps (g : Wk0 l (XE E) R cc nL own nm K) {o : u_O} (ho : is_Sound o) {idx : Nat} (hl0 : Cond.fieldLink own idx (TX8 0).1 (TX8 0).2.1 (TX8 0).2.2.1 ∈ lw_G) (d : decode cc pc = .ok (.getfield idx, 3)) (kk : K nc ns (pc + 3) lv (.ref (E.1 (a_Sound_steps o)) :: st) (Wd E s)) : K nc ns pc lv (.ref (E.1 o) :: st) (Wd E s) := by
  obtain ⟨q0, h1, h2⟩ := Wd_at E s ho.mem
  obtain ⟨k, p, l⟩ := o
  obtain ⟨h3, h4, h5⟩ := ho
  cases h3
  exact r_get g in_Sound rfl q0 h2 0 (by decide) rfl hl0 d kk
theorem g_Sound_length (g : Wk0 l (XE E) R cc nL own nm K) {o : u_O} (ho : is_Sound o) {idx : Nat} (hl0 : Cond.fieldLink own idx (TX8 1).1 (TX8 1).2.1 (TX8 1).2.2.1 ∈ lw_G) (d : decode cc pc = .ok (.getfield idx, 3)) (kk : K nc ns (pc + 3) lv (.int (J (rd s o 1)) :: st) (Wd E s)) : K nc ns pc lv (.ref (E.1 o) :: st) (Wd E s) := by
  obtain ⟨q0, h1, h2⟩ := Wd_at E s ho.mem
  obtain ⟨k, p, l⟩ := o
  obtain ⟨h3, h4, h5⟩ := ho
  cases h3
  rw [J_rd] at kk
  exact r_get g in_Sound rfl q0 h2 1 (by decide) rfl hl0 d kk
theorem p_Sound_length (g : Wk0 l (XE E) R cc nL own nm K) {o : u_O} (ho : is_Sound o) {v : Int} {idx : Nat} (hl0 : Cond.fieldLink own idx (TX8 1).1 (TX8 1).2.1 (TX8 1).2.2.1 ∈ lw_G) (d : decode cc pc = .ok (.putfield idx, 3)) (kk : K nc ns (pc + 3) lv st (Wd E (wt s o 1 v))) : K nc ns pc lv (.int (J v) :: .ref (E.1 o) :: st) (Wd E s) := by
  obtain ⟨q0, h1, h2⟩ := Wd_at E s ho.mem
  obtain ⟨k, p, l⟩ := o
  obtain ⟨h3, h4, h5⟩ := ho
  cases h3
  refine r_put g in_Sound rfl tyX8 tyX8_ok nmX8 q0 h2 1 (by decide) rfl (by decide +kernel) (Nat.le_of_ble_eq_true rfl) hl0 d ?_
  rw [Wd_set E (s' := wt s (14, p, l) 1 v) h1 (fun o' h => wt_ne o' h)]
  · exact kk
  · simp [cell, wt]
theorem g_Sound_start (g : Wk0 l (XE E) R cc nL own nm K) {o : u_O} (ho : is_Sound o) {idx : Nat} (hl0 : Cond.fieldLink own idx (TX8 2).1 (TX8 2).2.1 (TX8 2).2.2.1 ∈ lw_G) (d : decode cc pc = .ok (.getfield idx, 3)) (kk : K nc ns (pc + 3) lv (.int (J (rd s o 2)) :: st) (Wd E s)) : K nc ns pc lv (.ref (E.1 o) :: st) (Wd E s) := by
  obtain ⟨q0, h1, h2⟩ := Wd_at E s ho.mem
  obtain ⟨k, p, l⟩ := o
  obtain ⟨h3, h4, h5⟩ := ho
  cases h3
  rw [J_rd] at kk
  exact r_get g in_Sound rfl q0 h2 2 (by decide) rfl hl0 d kk
theorem p_Sound_start (g : Wk0 l (XE E) R cc nL own nm K) {o : u_O} (ho : is_Sound o) {v : Int} {idx : Nat} (hl0 : Cond.fieldLink own idx (TX8 2).1 (TX8 2).2.1 (TX8 2).2.2.1 ∈ lw_G) (d : decode cc pc = .ok (.putfield idx, 3)) (kk : K nc ns (pc + 3) lv st (Wd E (wt s o 2 v))) : K nc ns pc lv (.int (J v) :: .ref (E.1 o) :: st) (Wd E s) := by
  obtain ⟨q0, h1, h2⟩ := Wd_at E s ho.mem
  obtain ⟨k, p, l⟩ := o
  obtain ⟨h3, h4, h5⟩ := ho
  cases h3
  refine r_put g in_Sound rfl tyX8 tyX8_ok nmX8 q0 h2 2 (by decide) rfl (by decide +kernel) (Nat.le_of_ble_eq_true rfl) hl0 d ?_
  rw [Wd_set E (s' := wt s (14, p, l) 2 v) h1 (fun o' h => wt_ne o' h)]
  · exact kk
  · simp [cell, wt]
theorem g_Sound_voice (g : Wk0 l (XE E) R cc nL own nm K) {o : u_O} (ho : is_Sound o) {idx : Nat} (hl0 : Cond.fieldLink own idx (TX8 3).1 (TX8 3).2.1 (TX8 3).2.2.1 ∈ lw_G) (d : decode cc pc = .ok (.getfield idx, 3)) (kk : K nc ns (pc + 3) lv (.int (J (rd s o 3)) :: st) (Wd E s)) : K nc ns pc lv (.ref (E.1 o) :: st) (Wd E s) := by
  obtain ⟨q0, h1, h2⟩ := Wd_at E s ho.mem
  obtain ⟨k, p, l⟩ := o
  obtain ⟨h3, h4, h5⟩ := ho
  cases h3
  rw [J_rd] at kk
  exact r_get g in_Sound rfl q0 h2 3 (by decide) rfl hl0 d kk
theorem p_Sound_voice (g : Wk0 l (XE E) R cc nL own nm K) {o : u_O} (ho : is_Sound o) {v : Int} {idx : Nat} (hl0 : Cond.fieldLink own idx (TX8 3).1 (TX8 3).2.1 (TX8 3).2.2.1 ∈ lw_G) (d : decode cc pc = .ok (.putfield idx, 3)) (kk : K nc ns (pc + 3) lv st (Wd E (wt s o 3 v))) : K nc ns pc lv (.int (J v) :: .ref (E.1 o) :: st) (Wd E s) := by
  obtain ⟨q0, h1, h2⟩ := Wd_at E s ho.mem
  obtain ⟨k, p, l⟩ := o
  obtain ⟨h3, h4, h5⟩ := ho
  cases h3
  refine r_put g in_Sound rfl tyX8 tyX8_ok nmX8 q0 h2 3 (by decide) rfl (by decide +kernel) (Nat.le_of_ble_eq_true rfl) hl0 d ?_
  rw [Wd_set E (s' := wt s (14, p, l) 3 v) h1 (fun o' h => wt_ne o' h)]
  · exact kk
  · simp [cell, wt]
theorem in_Faults : ∀ w ∈ u_ws RX3 TX3 3, w ∈ lw_G := by decide +kernel
theorem recv_Faults {o : u_O} (h : is_Faults o) : Recv (Wd E s) (E.1 o) RX3 := by
  obtain ⟨q0, h1, h2⟩ := Wd_at E s h.mem
  obtain ⟨k, p, l⟩ := o
  obtain ⟨h3, h4, h5⟩ := h
  cases h3
  exact ⟨q0, 3, _, _, rfl, rfl, h2⟩
theorem g_Faults_clashes (g : Wk0 l (XE E) R cc nL own nm K) {o : u_O} (ho : is_Faults o) {idx : Nat} (hl0 : Cond.fieldLink own idx (TX3 0).1 (TX3 0).2.1 (TX3 0).2.2.1 ∈ lw_G) (d : decode cc pc = .ok (.getfield idx, 3)) (kk : K nc ns (pc + 3) lv (.int (J (rd s o 0)) :: st) (Wd E s)) : K nc ns pc lv (.ref (E.1 o) :: st) (Wd E s) := by
  obtain ⟨q0, h1, h2⟩ := Wd_at E s ho.mem
  obtain ⟨k, p, l⟩ := o
  obtain ⟨h3, h4, h5⟩ := ho
  cases h3
  rw [J_rd] at kk
  exact r_get g in_Faults rfl q0 h2 0 (by decide) rfl hl0 d kk
theorem p_Faults_clashes (g : Wk0 l (XE E) R cc nL own nm K) {o : u_O} (ho : is_Faults o) {v : Int} {idx : Nat} (hl0 : Cond.fieldLink own idx (TX3 0).1 (TX3 0).2.1 (TX3 0).2.2.1 ∈ lw_G) (d : decode cc pc = .ok (.putfield idx, 3)) (kk : K nc ns (pc + 3) lv st (Wd E (wt s o 0 v))) : K nc ns pc lv (.int (J v) :: .ref (E.1 o) :: st) (Wd E s) := by
  obtain ⟨q0, h1, h2⟩ := Wd_at E s ho.mem
  obtain ⟨k, p, l⟩ := o
  obtain ⟨h3, h4, h5⟩ := ho
  cases h3
  refine r_put g in_Faults rfl tyX3 tyX3_ok nmX3 q0 h2 0 (by decide) rfl (by decide +kernel) (Nat.le_of_ble_eq_true rfl) hl0 d ?_
  rw [Wd_set E (s' := wt s (16, p, l) 0 v) h1 (fun o' h => wt_ne o' h)]
  · exact kk
  · simp [cell, wt]
theorem g_Faults_crossings (g : Wk0 l (XE E) R cc nL own nm K) {o : u_O} (ho : is_Faults o) {idx : Nat} (hl0 : Cond.fieldLink own idx (TX3 1).1 (TX3 1).2.1 (TX3 1).2.2.1 ∈ lw_G) (d : decode cc pc = .ok (.getfield idx, 3)) (kk : K nc ns (pc + 3) lv (.int (J (rd s o 1)) :: st) (Wd E s)) : K nc ns pc lv (.ref (E.1 o) :: st) (Wd E s) := by
  obtain ⟨q0, h1, h2⟩ := Wd_at E s ho.mem
  obtain ⟨k, p, l⟩ := o
  obtain ⟨h3, h4, h5⟩ := ho
  cases h3
  rw [J_rd] at kk
  exact r_get g in_Faults rfl q0 h2 1 (by decide) rfl hl0 d kk
theorem p_Faults_crossings (g : Wk0 l (XE E) R cc nL own nm K) {o : u_O} (ho : is_Faults o) {v : Int} {idx : Nat} (hl0 : Cond.fieldLink own idx (TX3 1).1 (TX3 1).2.1 (TX3 1).2.2.1 ∈ lw_G) (d : decode cc pc = .ok (.putfield idx, 3)) (kk : K nc ns (pc + 3) lv st (Wd E (wt s o 1 v))) : K nc ns pc lv (.int (J v) :: .ref (E.1 o) :: st) (Wd E s) := by
  obtain ⟨q0, h1, h2⟩ := Wd_at E s ho.mem
  obtain ⟨k, p, l⟩ := o
  obtain ⟨h3, h4, h5⟩ := ho
  cases h3
  refine r_put g in_Faults rfl tyX3 tyX3_ok nmX3 q0 h2 1 (by decide) rfl (by decide +kernel) (Nat.le_of_ble_eq_true rfl) hl0 d ?_
  rw [Wd_set E (s' := wt s (16, p, l) 1 v) h1 (fun o' h => wt_ne o' h)]
  · exact kk
  · simp [cell, wt]
theorem g_Faults_parallels (g : Wk0 l (XE E) R cc nL own nm K) {o : u_O} (ho : is_Faults o) {idx : Nat} (hl0 : Cond.fieldLink own idx (TX3 2).1 (TX3 2).2.1 (TX3 2).2.2.1 ∈ lw_G) (d : decode cc pc = .ok (.getfield idx, 3)) (kk : K nc ns (pc + 3) lv (.int (J (rd s o 2)) :: st) (Wd E s)) : K nc ns pc lv (.ref (E.1 o) :: st) (Wd E s) := by
  obtain ⟨q0, h1, h2⟩ := Wd_at E s ho.mem
  obtain ⟨k, p, l⟩ := o
  obtain ⟨h3, h4, h5⟩ := ho
  cases h3
  rw [J_rd] at kk
  exact r_get g in_Faults rfl q0 h2 2 (by decide) rfl hl0 d kk
theorem p_Faults_parallels (g : Wk0 l (XE E) R cc nL own nm K) {o : u_O} (ho : is_Faults o) {v : Int} {idx : Nat} (hl0 : Cond.fieldLink own idx (TX3 2).1 (TX3 2).2.1 (TX3 2).2.2.1 ∈ lw_G) (d : decode cc pc = .ok (.putfield idx, 3)) (kk : K nc ns (pc + 3) lv st (Wd E (wt s o 2 v))) : K nc ns pc lv (.int (J v) :: .ref (E.1 o) :: st) (Wd E s) := by
  obtain ⟨q0, h1, h2⟩ := Wd_at E s ho.mem
  obtain ⟨k, p, l⟩ := o
  obtain ⟨h3, h4, h5⟩ := ho
  cases h3
  refine r_put g in_Faults rfl tyX3 tyX3_ok nmX3 q0 h2 2 (by decide) rfl (by decide +kernel) (Nat.le_of_ble_eq_true rfl) hl0 d ?_
  rw [Wd_set E (s' := wt s (16, p, l) 2 v) h1 (fun o' h => wt_ne o' h)]
  · exact kk
  · simp [cell, wt]
theorem in_Chorus : ∀ w ∈ u_ws RX0 TX0 2, w ∈ lw_G := by decide +kernel
theorem recv_Chorus {o : u_O} (h : is_Chorus o) : Recv (Wd E s) (E.1 o) RX0 := by
  obtain ⟨q0, h1, h2⟩ := Wd_at E s h.mem
  obtain ⟨k, p, l⟩ := o
  obtain ⟨h3, h4, h5⟩ := h
  cases h3
  exact ⟨q0, 0, _, _, rfl, rfl, h2⟩
theorem g_Chorus_items (g : Wk0 l (XE E) R cc nL own nm K) {o : u_O} (ho : is_Chorus o) {idx : Nat} (hl0 : Cond.fieldLink own idx (TX0 0).1 (TX0 0).2.1 (TX0 0).2.2.1 ∈ lw_G) (d : decode cc pc = .ok (.getfield idx, 3)) (kk : K nc ns (pc + 3) lv (.ref (E.1 (a_Chorus_items o)) :: st) (Wd E s)) : K nc ns pc lv (.ref (E.1 o) :: st) (Wd E s) := by
  obtain ⟨q0, h1, h2⟩ := Wd_at E s ho.mem
  obtain ⟨k, p, l⟩ := o
  obtain ⟨h3, h4, h5⟩ := ho
  cases h3
  exact r_get g in_Chorus rfl q0 h2 0 (by decide) rfl hl0 d kk
theorem g_Chorus_count (g : Wk0 l (XE E) R cc nL own nm K) {o : u_O} (ho : is_Chorus o) {idx : Nat} (hl0 : Cond.fieldLink own idx (TX0 1).1 (TX0 1).2.1 (TX0 1).2.2.1 ∈ lw_G) (d : decode cc pc = .ok (.getfield idx, 3)) (kk : K nc ns (pc + 3) lv (.int (J (rd s o 1)) :: st) (Wd E s)) : K nc ns pc lv (.ref (E.1 o) :: st) (Wd E s) := by
  obtain ⟨q0, h1, h2⟩ := Wd_at E s ho.mem
  obtain ⟨k, p, l⟩ := o
  obtain ⟨h3, h4, h5⟩ := ho
  cases h3
  rw [J_rd] at kk
  exact r_get g in_Chorus rfl q0 h2 1 (by decide) rfl hl0 d kk
theorem p_Chorus_count (g : Wk0 l (XE E) R cc nL own nm K) {o : u_O} (ho : is_Chorus o) {v : Int} {idx : Nat} (hl0 : Cond.fieldLink own idx (TX0 1).1 (TX0 1).2.1 (TX0 1).2.2.1 ∈ lw_G) (d : decode cc pc = .ok (.putfield idx, 3)) (kk : K nc ns (pc + 3) lv st (Wd E (wt s o 1 v))) : K nc ns pc lv (.int (J v) :: .ref (E.1 o) :: st) (Wd E s) := by
  obtain ⟨q0, h1, h2⟩ := Wd_at E s ho.mem
  obtain ⟨k, p, l⟩ := o
  obtain ⟨h3, h4, h5⟩ := ho
  cases h3
  refine r_put g in_Chorus rfl tyX0 tyX0_ok nmX0 q0 h2 1 (by decide) rfl (by decide +kernel) (Nat.le_of_ble_eq_true rfl) hl0 d ?_
  rw [Wd_set E (s' := wt s (17, p, l) 1 v) h1 (fun o' h => wt_ne o' h)]
  · exact kk
  · simp [cell, wt]
theorem in_Tour : ∀ w ∈ u_ws RX9 TX9 3, w ∈ lw_G := by decide +kernel
theorem recv_Tour {o : u_O} (h : is_Tour o) : Recv (Wd E s) (E.1 o) RX9 := by
  obtain ⟨q0, h1, h2⟩ := Wd_at E s h.mem
  obtain ⟨k, p, l⟩ := o
  obtain ⟨h3, h4, h5⟩ := h
  cases h3
  exact ⟨q0, 9, _, _, rfl, rfl, h2⟩
theorem g_Tour_best (g : Wk0 l (XE E) R cc nL own nm K) {o : u_O} (ho : is_Tour o) {idx : Nat} (hl0 : Cond.fieldLink own idx (TX9 0).1 (TX9 0).2.1 (TX9 0).2.2.1 ∈ lw_G) (d : decode cc pc = .ok (.getfield idx, 3)) (kk : K nc ns (pc + 3) lv (.ref (E.1 (a_Tour_best o)) :: st) (Wd E s)) : K nc ns pc lv (.ref (E.1 o) :: st) (Wd E s) := by
  obtain ⟨q0, h1, h2⟩ := Wd_at E s ho.mem
  obtain ⟨k, p, l⟩ := o
  obtain ⟨h3, h4, h5⟩ := ho
  cases h3
  exact r_get g in_Tour rfl q0 h2 0 (by decide) rfl hl0 d kk
theorem g_Tour_tried (g : Wk0 l (XE E) R cc nL own nm K) {o : u_O} (ho : is_Tour o) {idx : Nat} (hl0 : Cond.fieldLink own idx (TX9 1).1 (TX9 1).2.1 (TX9 1).2.2.1 ∈ lw_G) (d : decode cc pc = .ok (.getfield idx, 3)) (kk : K nc ns (pc + 3) lv (.ref (E.1 (a_Tour_tried o)) :: st) (Wd E s)) : K nc ns pc lv (.ref (E.1 o) :: st) (Wd E s) := by
  obtain ⟨q0, h1, h2⟩ := Wd_at E s ho.mem
  obtain ⟨k, p, l⟩ := o
  obtain ⟨h3, h4, h5⟩ := ho
  cases h3
  exact r_get g in_Tour rfl q0 h2 1 (by decide) rfl hl0 d kk
theorem g_Tour_length (g : Wk0 l (XE E) R cc nL own nm K) {o : u_O} (ho : is_Tour o) {idx : Nat} (hl0 : Cond.fieldLink own idx (TX9 2).1 (TX9 2).2.1 (TX9 2).2.2.1 ∈ lw_G) (d : decode cc pc = .ok (.getfield idx, 3)) (kk : K nc ns (pc + 3) lv (.int (J (rd s o 2)) :: st) (Wd E s)) : K nc ns pc lv (.ref (E.1 o) :: st) (Wd E s) := by
  obtain ⟨q0, h1, h2⟩ := Wd_at E s ho.mem
  obtain ⟨k, p, l⟩ := o
  obtain ⟨h3, h4, h5⟩ := ho
  cases h3
  rw [J_rd] at kk
  exact r_get g in_Tour rfl q0 h2 2 (by decide) rfl hl0 d kk
theorem p_Tour_length (g : Wk0 l (XE E) R cc nL own nm K) {o : u_O} (ho : is_Tour o) {v : Int} {idx : Nat} (hl0 : Cond.fieldLink own idx (TX9 2).1 (TX9 2).2.1 (TX9 2).2.2.1 ∈ lw_G) (d : decode cc pc = .ok (.putfield idx, 3)) (kk : K nc ns (pc + 3) lv st (Wd E (wt s o 2 v))) : K nc ns pc lv (.int (J v) :: .ref (E.1 o) :: st) (Wd E s) := by
  obtain ⟨q0, h1, h2⟩ := Wd_at E s ho.mem
  obtain ⟨k, p, l⟩ := o
  obtain ⟨h3, h4, h5⟩ := ho
  cases h3
  refine r_put g in_Tour rfl tyX9 tyX9_ok nmX9 q0 h2 2 (by decide) rfl (by decide +kernel) (Nat.le_of_ble_eq_true rfl) hl0 d ?_
  rw [Wd_set E (s' := wt s (20, p, l) 2 v) h1 (fun o' h => wt_ne o' h)]
  · exact kk
  · simp [cell, wt]
theorem in_Mo : ∀ w ∈ u_ws RX11 TX11 21, w ∈ lw_G := by decide +kernel
theorem recv_Mo {o : u_O} (h : is_Mo o) : Recv (Wd E s) (E.1 o) RX11 := by
  obtain ⟨q0, h1, h2⟩ := Wd_at E s h.mem
  obtain ⟨k, p, l⟩ := o
  obtain ⟨h3, h4, h5⟩ := h
  cases h3
  exact ⟨q0, 11, _, _, rfl, rfl, h2⟩
theorem g_Mo_all (g : Wk0 l (XE E) R cc nL own nm K) {o : u_O} (ho : is_Mo o) {idx : Nat} (hl0 : Cond.fieldLink own idx (TX11 0).1 (TX11 0).2.1 (TX11 0).2.2.1 ∈ lw_G) (d : decode cc pc = .ok (.getfield idx, 3)) (kk : K nc ns (pc + 3) lv (.ref (E.1 (a_Mo_all o)) :: st) (Wd E s)) : K nc ns pc lv (.ref (E.1 o) :: st) (Wd E s) := by
  obtain ⟨q0, h1, h2⟩ := Wd_at E s ho.mem
  obtain ⟨k, p, l⟩ := o
  obtain ⟨h3, h4, h5⟩ := ho
  cases h3
  exact r_get g in_Mo rfl q0 h2 0 (by decide) rfl hl0 d kk
theorem g_Mo_past (g : Wk0 l (XE E) R cc nL own nm K) {o : u_O} (ho : is_Mo o) {idx : Nat} (hl0 : Cond.fieldLink own idx (TX11 1).1 (TX11 1).2.1 (TX11 1).2.2.1 ∈ lw_G) (d : decode cc pc = .ok (.getfield idx, 3)) (kk : K nc ns (pc + 3) lv (.ref (E.1 (a_Mo_past o)) :: st) (Wd E s)) : K nc ns pc lv (.ref (E.1 o) :: st) (Wd E s) := by
  obtain ⟨q0, h1, h2⟩ := Wd_at E s ho.mem
  obtain ⟨k, p, l⟩ := o
  obtain ⟨h3, h4, h5⟩ := ho
  cases h3
  exact r_get g in_Mo rfl q0 h2 1 (by decide) rfl hl0 d kk
theorem g_Mo_aside (g : Wk0 l (XE E) R cc nL own nm K) {o : u_O} (ho : is_Mo o) {idx : Nat} (hl0 : Cond.fieldLink own idx (TX11 2).1 (TX11 2).2.1 (TX11 2).2.2.1 ∈ lw_G) (d : decode cc pc = .ok (.getfield idx, 3)) (kk : K nc ns (pc + 3) lv (.ref (E.1 (a_Mo_aside o)) :: st) (Wd E s)) : K nc ns pc lv (.ref (E.1 o) :: st) (Wd E s) := by
  obtain ⟨q0, h1, h2⟩ := Wd_at E s ho.mem
  obtain ⟨k, p, l⟩ := o
  obtain ⟨h3, h4, h5⟩ := ho
  cases h3
  exact r_get g in_Mo rfl q0 h2 2 (by decide) rfl hl0 d kk
theorem g_Mo_states (g : Wk0 l (XE E) R cc nL own nm K) {o : u_O} (ho : is_Mo o) {idx : Nat} (hl0 : Cond.fieldLink own idx (TX11 3).1 (TX11 3).2.1 (TX11 3).2.2.1 ∈ lw_G) (d : decode cc pc = .ok (.getfield idx, 3)) (kk : K nc ns (pc + 3) lv (.int (J (rd s o 3)) :: st) (Wd E s)) : K nc ns pc lv (.ref (E.1 o) :: st) (Wd E s) := by
  obtain ⟨q0, h1, h2⟩ := Wd_at E s ho.mem
  obtain ⟨k, p, l⟩ := o
  obtain ⟨h3, h4, h5⟩ := ho
  cases h3
  rw [J_rd] at kk
  exact r_get g in_Mo rfl q0 h2 3 (by decide) rfl hl0 d kk
theorem p_Mo_states (g : Wk0 l (XE E) R cc nL own nm K) {o : u_O} (ho : is_Mo o) {v : Int} {idx : Nat} (hl0 : Cond.fieldLink own idx (TX11 3).1 (TX11 3).2.1 (TX11 3).2.2.1 ∈ lw_G) (d : decode cc pc = .ok (.putfield idx, 3)) (kk : K nc ns (pc + 3) lv st (Wd E (wt s o 3 v))) : K nc ns pc lv (.int (J v) :: .ref (E.1 o) :: st) (Wd E s) := by
  obtain ⟨q0, h1, h2⟩ := Wd_at E s ho.mem
  obtain ⟨k, p, l⟩ := o
  obtain ⟨h3, h4, h5⟩ := ho
  cases h3
  refine r_put g in_Mo rfl tyX11 tyX11_ok nmX11 q0 h2 3 (by decide) rfl (by decide +kernel) (Nat.le_of_ble_eq_true rfl) hl0 d ?_
  rw [Wd_set E (s' := wt s (23, p, l) 3 v) h1 (fun o' h => wt_ne o' h)]
  · exact kk
  · simp [cell, wt]
theorem g_Mo_refused (g : Wk0 l (XE E) R cc nL own nm K) {o : u_O} (ho : is_Mo o) {idx : Nat} (hl0 : Cond.fieldLink own idx (TX11 4).1 (TX11 4).2.1 (TX11 4).2.2.1 ∈ lw_G) (d : decode cc pc = .ok (.getfield idx, 3)) (kk : K nc ns (pc + 3) lv (.ref (E.1 (a_Mo_refused o)) :: st) (Wd E s)) : K nc ns pc lv (.ref (E.1 o) :: st) (Wd E s) := by
  obtain ⟨q0, h1, h2⟩ := Wd_at E s ho.mem
  obtain ⟨k, p, l⟩ := o
  obtain ⟨h3, h4, h5⟩ := ho
  cases h3
  exact r_get g in_Mo rfl q0 h2 4 (by decide) rfl hl0 d kk
theorem g_Mo_upper (g : Wk0 l (XE E) R cc nL own nm K) {o : u_O} (ho : is_Mo o) {idx : Nat} (hl0 : Cond.fieldLink own idx (TX11 5).1 (TX11 5).2.1 (TX11 5).2.2.1 ∈ lw_G) (d : decode cc pc = .ok (.getfield idx, 3)) (kk : K nc ns (pc + 3) lv (.ref (E.1 (a_Mo_upper o)) :: st) (Wd E s)) : K nc ns pc lv (.ref (E.1 o) :: st) (Wd E s) := by
  obtain ⟨q0, h1, h2⟩ := Wd_at E s ho.mem
  obtain ⟨k, p, l⟩ := o
  obtain ⟨h3, h4, h5⟩ := ho
  cases h3
  exact r_get g in_Mo rfl q0 h2 5 (by decide) rfl hl0 d kk
theorem g_Mo_lower (g : Wk0 l (XE E) R cc nL own nm K) {o : u_O} (ho : is_Mo o) {idx : Nat} (hl0 : Cond.fieldLink own idx (TX11 6).1 (TX11 6).2.1 (TX11 6).2.2.1 ∈ lw_G) (d : decode cc pc = .ok (.getfield idx, 3)) (kk : K nc ns (pc + 3) lv (.ref (E.1 (a_Mo_lower o)) :: st) (Wd E s)) : K nc ns pc lv (.ref (E.1 o) :: st) (Wd E s) := by
  obtain ⟨q0, h1, h2⟩ := Wd_at E s ho.mem
  obtain ⟨k, p, l⟩ := o
  obtain ⟨h3, h4, h5⟩ := ho
  cases h3
  exact r_get g in_Mo rfl q0 h2 6 (by decide) rfl hl0 d kk
theorem g_Mo_counted (g : Wk0 l (XE E) R cc nL own nm K) {o : u_O} (ho : is_Mo o) {idx : Nat} (hl0 : Cond.fieldLink own idx (TX11 7).1 (TX11 7).2.1 (TX11 7).2.2.1 ∈ lw_G) (d : decode cc pc = .ok (.getfield idx, 3)) (kk : K nc ns (pc + 3) lv (.ref (E.1 (a_Mo_counted o)) :: st) (Wd E s)) : K nc ns pc lv (.ref (E.1 o) :: st) (Wd E s) := by
  obtain ⟨q0, h1, h2⟩ := Wd_at E s ho.mem
  obtain ⟨k, p, l⟩ := o
  obtain ⟨h3, h4, h5⟩ := ho
  cases h3
  exact r_get g in_Mo rfl q0 h2 7 (by decide) rfl hl0 d kk
theorem g_Mo_plainRow (g : Wk0 l (XE E) R cc nL own nm K) {o : u_O} (ho : is_Mo o) {idx : Nat} (hl0 : Cond.fieldLink own idx (TX11 8).1 (TX11 8).2.1 (TX11 8).2.2.1 ∈ lw_G) (d : decode cc pc = .ok (.getfield idx, 3)) (kk : K nc ns (pc + 3) lv (.ref (E.1 (a_Mo_plainRow o)) :: st) (Wd E s)) : K nc ns pc lv (.ref (E.1 o) :: st) (Wd E s) := by
  obtain ⟨q0, h1, h2⟩ := Wd_at E s ho.mem
  obtain ⟨k, p, l⟩ := o
  obtain ⟨h3, h4, h5⟩ := ho
  cases h3
  exact r_get g in_Mo rfl q0 h2 8 (by decide) rfl hl0 d kk
theorem g_Mo_formRow (g : Wk0 l (XE E) R cc nL own nm K) {o : u_O} (ho : is_Mo o) {idx : Nat} (hl0 : Cond.fieldLink own idx (TX11 9).1 (TX11 9).2.1 (TX11 9).2.2.1 ∈ lw_G) (d : decode cc pc = .ok (.getfield idx, 3)) (kk : K nc ns (pc + 3) lv (.ref (E.1 (a_Mo_formRow o)) :: st) (Wd E s)) : K nc ns pc lv (.ref (E.1 o) :: st) (Wd E s) := by
  obtain ⟨q0, h1, h2⟩ := Wd_at E s ho.mem
  obtain ⟨k, p, l⟩ := o
  obtain ⟨h3, h4, h5⟩ := ho
  cases h3
  exact r_get g in_Mo rfl q0 h2 9 (by decide) rfl hl0 d kk
theorem g_Mo_bestFaults (g : Wk0 l (XE E) R cc nL own nm K) {o : u_O} (ho : is_Mo o) {idx : Nat} (hl0 : Cond.fieldLink own idx (TX11 10).1 (TX11 10).2.1 (TX11 10).2.2.1 ∈ lw_G) (d : decode cc pc = .ok (.getfield idx, 3)) (kk : K nc ns (pc + 3) lv (.int (J (rd s o 10)) :: st) (Wd E s)) : K nc ns pc lv (.ref (E.1 o) :: st) (Wd E s) := by
  obtain ⟨q0, h1, h2⟩ := Wd_at E s ho.mem
  obtain ⟨k, p, l⟩ := o
  obtain ⟨h3, h4, h5⟩ := ho
  cases h3
  rw [J_rd] at kk
  exact r_get g in_Mo rfl q0 h2 10 (by decide) rfl hl0 d kk
theorem p_Mo_bestFaults (g : Wk0 l (XE E) R cc nL own nm K) {o : u_O} (ho : is_Mo o) {v : Int} {idx : Nat} (hl0 : Cond.fieldLink own idx (TX11 10).1 (TX11 10).2.1 (TX11 10).2.2.1 ∈ lw_G) (d : decode cc pc = .ok (.putfield idx, 3)) (kk : K nc ns (pc + 3) lv st (Wd E (wt s o 10 v))) : K nc ns pc lv (.int (J v) :: .ref (E.1 o) :: st) (Wd E s) := by
  obtain ⟨q0, h1, h2⟩ := Wd_at E s ho.mem
  obtain ⟨k, p, l⟩ := o
  obtain ⟨h3, h4, h5⟩ := ho
  cases h3
  refine r_put g in_Mo rfl tyX11 tyX11_ok nmX11 q0 h2 10 (by decide) rfl (by decide +kernel) (Nat.le_of_ble_eq_true rfl) hl0 d ?_
  rw [Wd_set E (s' := wt s (23, p, l) 10 v) h1 (fun o' h => wt_ne o' h)]
  · exact kk
  · simp [cell, wt]
theorem g_Mo_far (g : Wk0 l (XE E) R cc nL own nm K) {o : u_O} (ho : is_Mo o) {idx : Nat} (hl0 : Cond.fieldLink own idx (TX11 11).1 (TX11 11).2.1 (TX11 11).2.2.1 ∈ lw_G) (d : decode cc pc = .ok (.getfield idx, 3)) (kk : K nc ns (pc + 3) lv (.ref (E.1 (a_Mo_far o)) :: st) (Wd E s)) : K nc ns pc lv (.ref (E.1 o) :: st) (Wd E s) := by
  obtain ⟨q0, h1, h2⟩ := Wd_at E s ho.mem
  obtain ⟨k, p, l⟩ := o
  obtain ⟨h3, h4, h5⟩ := ho
  cases h3
  exact r_get g in_Mo rfl q0 h2 11 (by decide) rfl hl0 d kk
theorem g_Mo_between (g : Wk0 l (XE E) R cc nL own nm K) {o : u_O} (ho : is_Mo o) {idx : Nat} (hl0 : Cond.fieldLink own idx (TX11 12).1 (TX11 12).2.1 (TX11 12).2.2.1 ∈ lw_G) (d : decode cc pc = .ok (.getfield idx, 3)) (kk : K nc ns (pc + 3) lv (.ref (E.1 (a_Mo_between o)) :: st) (Wd E s)) : K nc ns pc lv (.ref (E.1 o) :: st) (Wd E s) := by
  obtain ⟨q0, h1, h2⟩ := Wd_at E s ho.mem
  obtain ⟨k, p, l⟩ := o
  obtain ⟨h3, h4, h5⟩ := ho
  cases h3
  exact r_get g in_Mo rfl q0 h2 12 (by decide) rfl hl0 d kk
theorem g_Mo_bestRow (g : Wk0 l (XE E) R cc nL own nm K) {o : u_O} (ho : is_Mo o) {idx : Nat} (hl0 : Cond.fieldLink own idx (TX11 13).1 (TX11 13).2.1 (TX11 13).2.2.1 ∈ lw_G) (d : decode cc pc = .ok (.getfield idx, 3)) (kk : K nc ns (pc + 3) lv (.ref (E.1 (a_Mo_bestRow o)) :: st) (Wd E s)) : K nc ns pc lv (.ref (E.1 o) :: st) (Wd E s) := by
  obtain ⟨q0, h1, h2⟩ := Wd_at E s ho.mem
  obtain ⟨k, p, l⟩ := o
  obtain ⟨h3, h4, h5⟩ := ho
  cases h3
  exact r_get g in_Mo rfl q0 h2 13 (by decide) rfl hl0 d kk
theorem g_Mo_tried (g : Wk0 l (XE E) R cc nL own nm K) {o : u_O} (ho : is_Mo o) {idx : Nat} (hl0 : Cond.fieldLink own idx (TX11 14).1 (TX11 14).2.1 (TX11 14).2.2.1 ∈ lw_G) (d : decode cc pc = .ok (.getfield idx, 3)) (kk : K nc ns (pc + 3) lv (.ref (E.1 (a_Mo_tried o)) :: st) (Wd E s)) : K nc ns pc lv (.ref (E.1 o) :: st) (Wd E s) := by
  obtain ⟨q0, h1, h2⟩ := Wd_at E s ho.mem
  obtain ⟨k, p, l⟩ := o
  obtain ⟨h3, h4, h5⟩ := ho
  cases h3
  exact r_get g in_Mo rfl q0 h2 14 (by decide) rfl hl0 d kk
theorem g_Mo_text (g : Wk0 l (XE E) R cc nL own nm K) {o : u_O} (ho : is_Mo o) {idx : Nat} (hl0 : Cond.fieldLink own idx (TX11 15).1 (TX11 15).2.1 (TX11 15).2.2.1 ∈ lw_G) (d : decode cc pc = .ok (.getfield idx, 3)) (kk : K nc ns (pc + 3) lv (.ref (E.1 (a_Mo_text o)) :: st) (Wd E s)) : K nc ns pc lv (.ref (E.1 o) :: st) (Wd E s) := by
  obtain ⟨q0, h1, h2⟩ := Wd_at E s ho.mem
  obtain ⟨k, p, l⟩ := o
  obtain ⟨h3, h4, h5⟩ := ho
  cases h3
  exact r_get g in_Mo rfl q0 h2 15 (by decide) rfl hl0 d kk
theorem g_Mo_textLong (g : Wk0 l (XE E) R cc nL own nm K) {o : u_O} (ho : is_Mo o) {idx : Nat} (hl0 : Cond.fieldLink own idx (TX11 16).1 (TX11 16).2.1 (TX11 16).2.2.1 ∈ lw_G) (d : decode cc pc = .ok (.getfield idx, 3)) (kk : K nc ns (pc + 3) lv (.int (J (rd s o 16)) :: st) (Wd E s)) : K nc ns pc lv (.ref (E.1 o) :: st) (Wd E s) := by
  obtain ⟨q0, h1, h2⟩ := Wd_at E s ho.mem
  obtain ⟨k, p, l⟩ := o
  obtain ⟨h3, h4, h5⟩ := ho
  cases h3
  rw [J_rd] at kk
  exact r_get g in_Mo rfl q0 h2 16 (by decide) rfl hl0 d kk
theorem p_Mo_textLong (g : Wk0 l (XE E) R cc nL own nm K) {o : u_O} (ho : is_Mo o) {v : Int} {idx : Nat} (hl0 : Cond.fieldLink own idx (TX11 16).1 (TX11 16).2.1 (TX11 16).2.2.1 ∈ lw_G) (d : decode cc pc = .ok (.putfield idx, 3)) (kk : K nc ns (pc + 3) lv st (Wd E (wt s o 16 v))) : K nc ns pc lv (.int (J v) :: .ref (E.1 o) :: st) (Wd E s) := by
  obtain ⟨q0, h1, h2⟩ := Wd_at E s ho.mem
  obtain ⟨k, p, l⟩ := o
  obtain ⟨h3, h4, h5⟩ := ho
  cases h3
  refine r_put g in_Mo rfl tyX11 tyX11_ok nmX11 q0 h2 16 (by decide) rfl (by decide +kernel) (Nat.le_of_ble_eq_true rfl) hl0 d ?_
  rw [Wd_set E (s' := wt s (23, p, l) 16 v) h1 (fun o' h => wt_ne o' h)]
  · exact kk
  · simp [cell, wt]
theorem g_Mo_place (g : Wk0 l (XE E) R cc nL own nm K) {o : u_O} (ho : is_Mo o) {idx : Nat} (hl0 : Cond.fieldLink own idx (TX11 17).1 (TX11 17).2.1 (TX11 17).2.2.1 ∈ lw_G) (d : decode cc pc = .ok (.getfield idx, 3)) (kk : K nc ns (pc + 3) lv (.int (J (rd s o 17)) :: st) (Wd E s)) : K nc ns pc lv (.ref (E.1 o) :: st) (Wd E s) := by
  obtain ⟨q0, h1, h2⟩ := Wd_at E s ho.mem
  obtain ⟨k, p, l⟩ := o
  obtain ⟨h3, h4, h5⟩ := ho
  cases h3
  rw [J_rd] at kk
  exact r_get g in_Mo rfl q0 h2 17 (by decide) rfl hl0 d kk
theorem p_Mo_place (g : Wk0 l (XE E) R cc nL own nm K) {o : u_O} (ho : is_Mo o) {v : Int} {idx : Nat} (hl0 : Cond.fieldLink own idx (TX11 17).1 (TX11 17).2.1 (TX11 17).2.2.1 ∈ lw_G) (d : decode cc pc = .ok (.putfield idx, 3)) (kk : K nc ns (pc + 3) lv st (Wd E (wt s o 17 v))) : K nc ns pc lv (.int (J v) :: .ref (E.1 o) :: st) (Wd E s) := by
  obtain ⟨q0, h1, h2⟩ := Wd_at E s ho.mem
  obtain ⟨k, p, l⟩ := o
  obtain ⟨h3, h4, h5⟩ := ho
  cases h3
  refine r_put g in_Mo rfl tyX11 tyX11_ok nmX11 q0 h2 17 (by decide) rfl (by decide +kernel) (Nat.le_of_ble_eq_true rfl) hl0 d ?_
  rw [Wd_set E (s' := wt s (23, p, l) 17 v) h1 (fun o' h => wt_ne o' h)]
  · exact kk
  · simp [cell, wt]
theorem g_Mo_value (g : Wk0 l (XE E) R cc nL own nm K) {o : u_O} (ho : is_Mo o) {idx : Nat} (hl0 : Cond.fieldLink own idx (TX11 18).1 (TX11 18).2.1 (TX11 18).2.2.1 ∈ lw_G) (d : decode cc pc = .ok (.getfield idx, 3)) (kk : K nc ns (pc + 3) lv (.int (J (rd s o 18)) :: st) (Wd E s)) : K nc ns pc lv (.ref (E.1 o) :: st) (Wd E s) := by
  obtain ⟨q0, h1, h2⟩ := Wd_at E s ho.mem
  obtain ⟨k, p, l⟩ := o
  obtain ⟨h3, h4, h5⟩ := ho
  cases h3
  rw [J_rd] at kk
  exact r_get g in_Mo rfl q0 h2 18 (by decide) rfl hl0 d kk
theorem p_Mo_value (g : Wk0 l (XE E) R cc nL own nm K) {o : u_O} (ho : is_Mo o) {v : Int} {idx : Nat} (hl0 : Cond.fieldLink own idx (TX11 18).1 (TX11 18).2.1 (TX11 18).2.2.1 ∈ lw_G) (d : decode cc pc = .ok (.putfield idx, 3)) (kk : K nc ns (pc + 3) lv st (Wd E (wt s o 18 v))) : K nc ns pc lv (.int (J v) :: .ref (E.1 o) :: st) (Wd E s) := by
  obtain ⟨q0, h1, h2⟩ := Wd_at E s ho.mem
  obtain ⟨k, p, l⟩ := o
  obtain ⟨h3, h4, h5⟩ := ho
  cases h3
  refine r_put g in_Mo rfl tyX11 tyX11_ok nmX11 q0 h2 18 (by decide) rfl (by decide +kernel) (Nat.le_of_ble_eq_true rfl) hl0 d ?_
  rw [Wd_set E (s' := wt s (23, p, l) 18 v) h1 (fun o' h => wt_ne o' h)]
  · exact kk
  · simp [cell, wt]
theorem g_Mo_not (g : Wk0 l (XE E) R cc nL own nm K) {o : u_O} (ho : is_Mo o) {idx : Nat} (hl0 : Cond.fieldLink own idx (TX11 19).1 (TX11 19).2.1 (TX11 19).2.2.1 ∈ lw_G) (d : decode cc pc = .ok (.getfield idx, 3)) (kk : K nc ns (pc + 3) lv (.int (J (rd s o 19)) :: st) (Wd E s)) : K nc ns pc lv (.ref (E.1 o) :: st) (Wd E s) := by
  obtain ⟨q0, h1, h2⟩ := Wd_at E s ho.mem
  obtain ⟨k, p, l⟩ := o
  obtain ⟨h3, h4, h5⟩ := ho
  cases h3
  rw [J_rd] at kk
  exact r_get g in_Mo rfl q0 h2 19 (by decide) rfl hl0 d kk
theorem p_Mo_not (g : Wk0 l (XE E) R cc nL own nm K) {o : u_O} (ho : is_Mo o) {v : Int} {idx : Nat} (hl0 : Cond.fieldLink own idx (TX11 19).1 (TX11 19).2.1 (TX11 19).2.2.1 ∈ lw_G) (d : decode cc pc = .ok (.putfield idx, 3)) (kk : K nc ns (pc + 3) lv st (Wd E (wt s o 19 v))) : K nc ns pc lv (.int (J v) :: .ref (E.1 o) :: st) (Wd E s) := by
  obtain ⟨q0, h1, h2⟩ := Wd_at E s ho.mem
  obtain ⟨k, p, l⟩ := o
  obtain ⟨h3, h4, h5⟩ := ho
  cases h3
  refine r_put g in_Mo rfl tyX11 tyX11_ok nmX11 q0 h2 19 (by decide) rfl (by decide +kernel) (Nat.le_of_ble_eq_true rfl) hl0 d ?_
  rw [Wd_set E (s' := wt s (23, p, l) 19 v) h1 (fun o' h => wt_ne o' h)]
  · exact kk
  · simp [cell, wt]
theorem g_Mo_numbers (g : Wk0 l (XE E) R cc nL own nm K) {o : u_O} (ho : is_Mo o) {idx : Nat} (hl0 : Cond.fieldLink own idx (TX11 20).1 (TX11 20).2.1 (TX11 20).2.2.1 ∈ lw_G) (d : decode cc pc = .ok (.getfield idx, 3)) (kk : K nc ns (pc + 3) lv (.ref (E.1 (a_Mo_numbers o)) :: st) (Wd E s)) : K nc ns pc lv (.ref (E.1 o) :: st) (Wd E s) := by
  obtain ⟨q0, h1, h2⟩ := Wd_at E s ho.mem
  obtain ⟨k, p, l⟩ := o
  obtain ⟨h3, h4, h5⟩ := ho
  cases h3
  exact r_get g in_Mo rfl q0 h2 20 (by decide) rfl hl0 d kk
end TROWS
