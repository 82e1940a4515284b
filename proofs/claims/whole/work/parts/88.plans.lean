/-! Plan and History made -/
def osLine (p i : Nat) : List u_O := [(3, p, i), (4, p, i), (5, p, i)]
def osPlan (p : Nat) : List u_O := (1, p, 0) :: (2, p, 0) :: (osEntries p ++ (9, p, 0) :: (List.range 4).flatMap (osLine p))
def osHistory : List u_O := (10, 0, 0) :: (11, 0, 0) :: (List.range 5).flatMap fun i => osPlan (2 + i)
theorem mem_Entries {o : u_O} {p : Nat} : o ∈ osEntries p ↔ o = (6, p, 0) ∨ o = (7, p, 0) ∨ ∃ i, i < 10 ∧ o = (8, p, i) := by
  rw [osEntries, List.mem_cons, List.mem_cons, List.mem_flatMap]
  refine or_congr Iff.rfl (or_congr Iff.rfl ⟨?_, ?_⟩)
  · rintro ⟨i, h1, h2⟩
    exact ⟨i, List.mem_range.mp h1, List.mem_singleton.mp h2⟩
  · rintro ⟨i, h1, h2⟩
    exact ⟨i, List.mem_range.mpr h1, List.mem_singleton.mpr h2⟩
theorem mem_Line {o : u_O} {p i : Nat} : o ∈ osLine p i ↔ o = (3, p, i) ∨ o = (4, p, i) ∨ o = (5, p, i) := by
  simp [osLine]
theorem mem_Plan {o : u_O} {p : Nat} : o ∈ osPlan p ↔ o = (1, p, 0) ∨ o = (2, p, 0) ∨ o ∈ osEntries p ∨ o = (9, p, 0) ∨ ∃ i, i < 4 ∧ o ∈ osLine p i := by
  rw [osPlan, List.mem_cons, List.mem_cons, List.mem_append, List.mem_cons, List.mem_flatMap]
  refine or_congr Iff.rfl (or_congr Iff.rfl (or_congr Iff.rfl (or_congr Iff.rfl ⟨?_, ?_⟩)))
  · rintro ⟨i, h1, h2⟩
    exact ⟨i, List.mem_range.mp h1, h2⟩
  · rintro ⟨i, h1, h2⟩
    exact ⟨i, List.mem_range.mpr h1, h2⟩
theorem ent_cl {p : Nat} {o o' : u_O} (ho : o ∈ osEntries p) (h : o' ∈ kids o) : o' ∈ osEntries p := by
  rw [mem_Entries] at ho ⊢
  rcases ho with rfl | rfl | ⟨i, hi, rfl⟩
  · exact Or.inr (Or.inl (List.mem_singleton.mp h))
  · right
    right
    simp only [kids, List.mem_cons, List.mem_nil_iff, or_false] at h
    rcases h with h | h | h | h | h | h | h | h | h | h
    · exact ⟨0, by decide, h⟩
    · exact ⟨1, by decide, h⟩
    · exact ⟨2, by decide, h⟩
    · exact ⟨3, by decide, h⟩
    · exact ⟨4, by decide, h⟩
    · exact ⟨5, by decide, h⟩
    · exact ⟨6, by decide, h⟩
    · exact ⟨7, by decide, h⟩
    · exact ⟨8, by decide, h⟩
    · exact ⟨9, by decide, h⟩
  · cases h
theorem ent_nf {p : Nat} {o : u_O} (ho : o ∈ osEntries p) : farO o = false := by
  rw [mem_Entries] at ho
  rcases ho with rfl | rfl | ⟨i, hi, rfl⟩
  · simp [farO]
  · simp [farO]
  · simp [farO]
    omega
theorem ent_p {p : Nat} {o : u_O} (ho : o ∈ osEntries p) : o.2.1 = p ∧ 6 ≤ o.1 ∧ o.1 ≤ 8 := by
  rw [mem_Entries] at ho
  rcases ho with rfl | rfl | ⟨i, hi, rfl⟩ <;> simp
theorem line_cl {p i : Nat} {o o' : u_O} (ho : o ∈ osLine p i) (h : o' ∈ kids o) : o' ∈ osLine p i := by
  rw [mem_Line] at ho
  rcases ho with rfl | rfl | rfl
  · exact List.mem_cons_of_mem _ h
  · cases h
  · cases h
theorem line_nf {p i : Nat} (hi : i < 4) {o : u_O} (ho : o ∈ osLine p i) : farO o = false := by
  rw [mem_Line] at ho
  rcases ho with rfl | rfl | rfl
  · simp [farO]
    omega
  · simp [farO]
  · simp [farO]
theorem line_p {p i : Nat} {o : u_O} (ho : o ∈ osLine p i) : o.2.1 = p ∧ o.2.2 = i ∧ 3 ≤ o.1 ∧ o.1 ≤ 5 := by
  rw [mem_Line] at ho
  rcases ho with rfl | rfl | rfl <;> simp
theorem plan_cl {p : Nat} {o o' : u_O} (ho : o ∈ osPlan p) (h : o' ∈ kids o) : o' ∈ osPlan p := by
  rw [mem_Plan] at ho ⊢
  rcases ho with rfl | rfl | ho | rfl | ⟨i, hi, ho⟩
  · simp only [kids, List.mem_cons, List.mem_nil_iff, or_false] at h
    rcases h with h | h | h
    · exact Or.inr (Or.inl h)
    · exact Or.inr (Or.inr (Or.inl (mem_Entries.mpr (Or.inl h))))
    · exact Or.inr (Or.inr (Or.inr (Or.inl h)))
  · simp only [kids, List.mem_cons, List.mem_nil_iff, or_false] at h
    refine Or.inr (Or.inr (Or.inr (Or.inr ?_)))
    rcases h with h | h | h | h
    · exact ⟨0, by decide, mem_Line.mpr (Or.inl h)⟩
    · exact ⟨1, by decide, mem_Line.mpr (Or.inl h)⟩
    · exact ⟨2, by decide, mem_Line.mpr (Or.inl h)⟩
    · exact ⟨3, by decide, mem_Line.mpr (Or.inl h)⟩
  · exact Or.inr (Or.inr (Or.inl (ent_cl ho h)))
  · cases h
  · exact Or.inr (Or.inr (Or.inr (Or.inr ⟨i, hi, line_cl ho h⟩)))
theorem plan_nf {p : Nat} (hp : p < 7) {o : u_O} (ho : o ∈ osPlan p) : farO o = false := by
  rw [mem_Plan] at ho
  rcases ho with rfl | rfl | ho | rfl | ⟨i, hi, ho⟩
  · simp [farO]
    omega
  · simp [farO]
  · exact ent_nf ho
  · simp [farO]
  · exact line_nf hi ho
theorem plan_p {p : Nat} {o : u_O} (ho : o ∈ osPlan p) : o.2.1 = p ∧ 1 ≤ o.1 ∧ o.1 ≤ 9 := by
  rw [mem_Plan] at ho
  rcases ho with rfl | rfl | ho | rfl | ⟨i, hi, ho⟩
  · simp
  · simp
  · have := ent_p ho
    omega
  · simp
  · have := line_p ho
    omega
section PLANS
variable {l : Launch} {G : va_G × (Nat → ClassId)} {a0 : u_O → Nat}
set_option maxHeartbeats 1000000 in
theorem n_Plan {p : Nat} (hp : p < 7) (a : u_O → Nat) (b : Nat) (w0 : va_W) : ConN l (XE (a0, G)) yX6_init cX6_init 2 3 62 26 163 [.ref b] (w0 ++ [(b, .inr (6, [.null, .null, .null, .int 0, .int 0, .int 0, .int 0, .int 0]))]) (PN a G (osPlan p) (1, p, 0) b w0) := by
  refine ConN.of [some (.ref b), none] (by decide +kernel) rfl rfl (Nat.le_of_ble_eq_true rfl) (fun K g gn => ?_)
  have g0 := g.wk
  refine r_aload_n g0 dX6_init_0 rfl ?_
  refine r_obj g0 obX6 ob_i ob_c ⟨Nat.le_of_ble_eq_true rfl, Nat.le_of_ble_eq_true rfl⟩ (Nat.le_of_ble_eq_true rfl) dX6_init_1 ?_
  refine r_aload_n g0 dX6_init_4 rfl ?_
  refine r_iconst g0 dX6_init_5 ?_
  refine r_newq gn 2 rfl (fun U h => h.2.1) clX6_9 (N := 4) rfl (InR_lit rfl) (Nat.le_of_ble_eq_true rfl) ⟨Nat.le_of_ble_eq_true rfl, Nat.le_of_ble_eq_true rfl⟩ dX6_init_6 (fun q => ?_)
  rw [List.append_assoc]
  refine n_putF g0 in_Plan rfl tyX6 tyX6_ok nmX6 0 rfl 0 (by decide) rfl rfl rfl rfl rfl (Nat.le_of_ble_eq_true rfl) qX6_11 dX6_init_9 ?_
  refine r_aload_n g0 dX6_init_12 rfl ?_
  refine r_new g0 (ci := 1) in_Entries rfl tyX1 tyX1_ok clX6_17 insX1 iniX1 (fs := [.null, .int 0]) (by decide) ⟨Nat.le_of_ble_eq_true rfl, Nat.le_of_ble_eq_true rfl⟩ dX6_init_13 (fun b1 => ?_)
  refine r_dup g0 dX6_init_16 rfl ?_
  refine r_callN gn (n_Entries (p := p) a b1 _) oiX1 miX6_19 dX6_init_17 ⟨Nat.le_of_ble_eq_true rfl, Nat.le_of_ble_eq_true rfl⟩ ⟨Nat.le_of_ble_eq_true rfl, Nat.le_of_ble_eq_true rfl⟩ rfl (Nat.le_of_ble_eq_true rfl) rfl (fun v w' hq => ?_)
  obtain ⟨rfl, a1, h1, h2, rfl⟩ := hq
  rw [List.append_assoc]
  generalize hZ : Wo a1 G (osEntries p) = Z
  refine n_putF g0 in_Plan rfl tyX6 tyX6_ok nmX6 0 rfl 1 (by decide) rfl rfl rfl rfl rfl (Nat.le_of_ble_eq_true rfl) qX6_20 dX6_init_20 ?_
  refine r_aload_n g0 dX6_init_23 rfl ?_
  refine r_iconst g0 dX6_init_24 ?_
  refine n_newa g0 0 rfl 5 rfl (InR_lit rfl) (Nat.le_of_ble_eq_true rfl) ⟨Nat.le_of_ble_eq_true rfl, Nat.le_of_ble_eq_true rfl⟩ dX6_init_25 (fun q2 => ?_)
  refine n_putF g0 in_Plan rfl tyX6 tyX6_ok nmX6 0 rfl 2 (by decide) rfl rfl rfl rfl rfl (Nat.le_of_ble_eq_true rfl) qX6_24 dX6_init_27 ?_
  refine r_aload_n g0 dX6_init_30 rfl ?_
  refine r_iconst g0 dX6_init_31 ?_
  refine n_putI g0 in_Plan rfl tyX6 tyX6_ok nmX6 0 rfl 4 (by decide) rfl (tyX6_ok 4 (by decide)) (Nat.le_of_ble_eq_true rfl) qX6_28 dX6_init_32 ?_
  refine r_aload_n g0 dX6_init_35 rfl ?_
  refine r_iconst g0 dX6_init_36 ?_
  refine n_putI g0 in_Plan rfl tyX6 tyX6_ok nmX6 0 rfl 6 (by decide) rfl (tyX6_ok 6 (by decide)) (Nat.le_of_ble_eq_true rfl) qX6_32 dX6_init_37 ?_
  refine r_iconst g0 dX6_init_40 ?_
  refine r_istore_n g0 (lv' := [some (.ref b), some (.int (J 0))]) dX6_init_41 (by decide) rfl rfl ?_
  show K _ _ _ _ _ (w0 ++ (b, .inr (6, [.ref q, .ref b1, .ref q2, .int 0, .int (J 3), .int 0, .int (J 4), .int 0])) :: (q, .inl (G.2 2, 4, .inr (.inr (.inr (.inr (fun _ => none)))))) :: (Z ++ [(q2, .inl (G.2 0, 5, .inl (fun _ => 0)))]))
  rw [split1]
  refine fill g0 (a0 := a0) (G := G) (pc1 := 44) (pcE := 66) (kA := w0.length) (kf := 0) (N := 4) (mc := 2) (ms := 20) (fs0 := [.null, .null, .int 0]) (cj := 5) (t0 := 2) (fun i => (3, p, i)) (osLine p) (by decide) (fun i => List.mem_cons_self) (fun j _ i hij o ho hm => ?_) (fun i _ o ho o' ho' => line_cl ho ho') (fun i hi o ho => line_nf hi ho) (lget (k := 0) rfl) in_Plan rfl (by decide) rfl qX6_11 rfl in_Line rfl tyX5 tyX5_ok clX6_9 insX5 iniX5 (by decide) (fun lv st w nc ns k => r_iconst g0 dX6_init_43 k) (fun a1 i b' w1 nc ns lv hi hroom k => ?_) (fun a1 i => ⟨_, _, rfl⟩) dX6_init_42 dX6_init_44 (by decide) dX6_init_47 dX6_init_48 dX6_init_51 dX6_init_52 dX6_init_55 dX6_init_59 dX6_init_60 dX6_init_63 (by decide) ⟨Nat.le_of_ble_eq_true rfl, Nat.le_of_ble_eq_true rfl⟩ (ua (ua (ua a1 (1, p, 0) b) (2, p, 0) q) (9, p, 0) q2) (fun a' ha' => ?_)
  · have e1 := line_p ho
    have e2 := line_p hm
    omega
  · exact r_callNN gn (n_Line (p := p) (i := i) a1 b' w1) oiX5 miX6_35 dX6_init_56 ⟨Nat.le_of_ble_eq_true rfl, Nat.le_of_ble_eq_true rfl⟩ hroom rfl (Nat.le_of_ble_eq_true rfl) rfl (fun v w' hq => by
      obtain ⟨rfl, a', h1, h2, rfl⟩ := hq
      exact k a' h1 h2)
  · have hb : a' (1, p, 0) = b := by
      rw [ha' _ (fun i _ hm => by have := line_p hm; simp at this)]
      simp [ua]
    have hq : a' (2, p, 0) = q := by
      rw [ha' _ (fun i _ hm => by have := line_p hm; simp at this)]
      simp [ua]
    have hq2 : a' (9, p, 0) = q2 := by
      rw [ha' _ (fun i _ hm => by have := line_p hm; simp at this)]
      simp [ua]
    have hoff : ∀ o : u_O, (∀ i, i < 4 → o ∉ osLine p i) → o ≠ (1, p, 0) → o ≠ (2, p, 0) → o ≠ (9, p, 0) → a' o = a1 o := by
      intro o z1 z2 z3 z4
      rw [ha' o z1]
      simp [ua, z2, z3, z4]
    have he : ∀ o ∈ osEntries p, a' o = a1 o := fun o ho => by
      have z := ent_p ho
      exact hoff o (fun i _ hm => by have := line_p hm; omega) (fun e => by rw [e] at z; simp at z) (fun e => by rw [e] at z; simp at z) (fun e => by rw [e] at z; simp at z)
    have hfar : ∀ o, farO o = true → a' o = a1 o := fun o ho => by
      refine hoff o (fun i hi hm => ?_) (fun e => ?_) (fun e => ?_) (fun e => ?_)
      · rw [line_nf hi hm] at ho
        cases ho
      · rw [e] at ho
        simp [farO] at ho
        omega
      · rw [e] at ho
        simp [farO] at ho
      · rw [e] at ho
        simp [farO] at ho
    have hZ' : Wo a' G (osEntries p) = Z := by
      rw [← hZ]
      exact Wo_closed (fun o ho o' ho' => ent_cl ho ho') hfar he
    have h6 : a' (6, p, 0) = b1 := by
      rw [he _ (mem_Entries.mpr (Or.inl rfl)), h2]
    refine r_refs g0 (f' := fun j => some (a' (3, p, j))) (fun j hj => if_pos hj) ?_
    refine r_vreturn g dX6_init_66 ⟨rfl, a', fun o ho => ?_, hb, ?_⟩
    · rw [mem_Plan] at ho
      rw [hoff o (fun i hi hm => ho (Or.inr (Or.inr (Or.inr (Or.inr ⟨i, hi, hm⟩))))) (fun e => ho (Or.inl e)) (fun e => ho (Or.inr (Or.inl e))) (fun e => ho (Or.inr (Or.inr (Or.inr (Or.inl e)))))]
      exact h1 o (fun hm => ho (Or.inr (Or.inr (Or.inl hm))))
    · rw [osPlan, Wo_cons, Wo_cons, Wo_app, Wo_cons, hZ', hb, hq, hq2]
      generalize Wo a' G _ = Y
      simp [cell, a_Plan_lines, a_Plan_entries, a_Plan_toVisit, hq, hq2, h6, s00, List.append_assoc]
      exact ⟨rfl, rfl⟩
theorem n_History (a : u_O → Nat) (b : Nat) (w0 : va_W) : ConN l (XE (a0, G)) yX4_init cX4_init 2 4 83 136 860 [.ref b] (w0 ++ [(b, .inr (4, [.null, .int 0, .int 0]))]) (PN a G osHistory (10, 0, 0) b w0) := by
  refine ConN.of [some (.ref b), none] (by decide +kernel) rfl rfl (Nat.le_of_ble_eq_true rfl) (fun K g gn => ?_)
  have g0 := g.wk
  refine r_aload_n g0 dX4_init_0 rfl ?_
  refine r_obj g0 obX4 ob_i ob_c ⟨Nat.le_of_ble_eq_true rfl, Nat.le_of_ble_eq_true rfl⟩ (Nat.le_of_ble_eq_true rfl) dX4_init_1 ?_
  refine r_aload_n g0 dX4_init_4 rfl ?_
  refine r_iconst g0 dX4_init_5 ?_
  refine r_newq gn 3 rfl (fun U h => h.2.2.1) clX4_9 (N := 5) rfl (InR_lit rfl) (Nat.le_of_ble_eq_true rfl) ⟨Nat.le_of_ble_eq_true rfl, Nat.le_of_ble_eq_true rfl⟩ dX4_init_6 (fun q => ?_)
  rw [List.append_assoc]
  refine n_putF g0 in_History rfl tyX4 tyX4_ok nmX4 0 rfl 0 (by decide) rfl rfl rfl rfl rfl (Nat.le_of_ble_eq_true rfl) qX4_11 dX4_init_9 ?_
  refine r_iconst g0 dX4_init_12 ?_
  refine r_istore_n g0 (lv' := [some (.ref b), some (.int (J 0))]) dX4_init_13 (by decide) rfl rfl ?_
  show K _ _ _ _ _ (w0 ++ (b, .inr (4, [.ref q, .int 0, .int 0])) :: [(q, .inl (G.2 3, 5, .inr (.inr (.inr (.inr (fun _ => none))))))])
  rw [split1]
  refine fill g0 (a0 := a0) (G := G) (pc1 := 16) (pcE := 38) (kA := w0.length) (kf := 0) (N := 5) (mc := 26) (ms := 163) (fs0 := [.null, .null, .null, .int 0, .int 0, .int 0, .int 0, .int 0]) (cj := 6) (t0 := 3) (fun i => (1, 2 + i, 0)) (fun i => osPlan (2 + i)) (by decide) (fun i => List.mem_cons_self) (fun j _ i hij o ho hm => ?_) (fun i _ o ho o' ho' => plan_cl ho ho') (fun i hi o ho => plan_nf (by omega) ho) (lget (k := 0) rfl) in_History rfl (by decide) rfl qX4_11 rfl in_Plan rfl tyX6 tyX6_ok clX4_9 insX6 iniX6 (by decide) (fun lv st w nc ns k => r_iconst g0 dX4_init_15 k) (fun a1 i b' w1 nc ns lv hi hroom k => ?_) (fun a1 i => ⟨_, _, rfl⟩) dX4_init_14 dX4_init_16 (by decide) dX4_init_19 dX4_init_20 dX4_init_23 dX4_init_24 dX4_init_27 dX4_init_31 dX4_init_32 dX4_init_35 (by decide) ⟨Nat.le_of_ble_eq_true rfl, Nat.le_of_ble_eq_true rfl⟩ (ua (ua a (10, 0, 0) b) (11, 0, 0) q) (fun a' ha' => ?_)
  · have e1 := plan_p ho
    have e2 := plan_p hm
    omega
  · exact r_callN gn (n_Plan (p := 2 + i) (by omega) a1 b' w1) oiX6 miX4_17 dX4_init_28 ⟨Nat.le_of_ble_eq_true rfl, Nat.le_of_ble_eq_true rfl⟩ hroom rfl (Nat.le_of_ble_eq_true rfl) rfl (fun v w' hq => by
      obtain ⟨rfl, a', h1, h2, rfl⟩ := hq
      exact k a' h1 h2)
  · have hb : a' (10, 0, 0) = b := by
      rw [ha' _ (fun i _ hm => by have := plan_p hm; simp at this)]
      simp [ua]
    have hq : a' (11, 0, 0) = q := by
      rw [ha' _ (fun i _ hm => by have := plan_p hm; simp at this)]
      simp [ua]
    refine r_refs g0 (f' := fun j => some (a' (1, 2 + j, 0))) (fun j hj => if_pos hj) ?_
    refine r_vreturn g dX4_init_38 ⟨rfl, a', fun o ho => ?_, hb, ?_⟩
    · have h1 : o ≠ (10, 0, 0) := fun e => ho (by rw [e]; exact List.mem_cons_self)
      have h2 : o ≠ (11, 0, 0) := fun e => ho (by rw [e]; exact List.mem_cons_of_mem _ List.mem_cons_self)
      rw [ha' o (fun i hi hm => ho (List.mem_cons_of_mem _ (List.mem_cons_of_mem _ (List.mem_flatMap.mpr ⟨i, List.mem_range.mpr hi, hm⟩))))]
      simp [ua, h1, h2]
    · rw [osHistory, Wo_cons, Wo_cons, hb, hq]
      generalize Wo a' G _ = Z
      simp [cell, a_History_kept, hq, s00]
end PLANS
