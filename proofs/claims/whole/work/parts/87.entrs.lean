/-! Entries and Chorus made -/
theorem split1 (w0 : va_W) (x : Nat × va_E) (t : va_W) : w0 ++ x :: t = (w0 ++ [x]) ++ t := by simp
def osEntries (p : Nat) : List u_O := (6, p, 0) :: (7, p, 0) :: (List.range 10).flatMap fun i => [(8, p, i)]
def osChorus : List u_O := (17, 0, 0) :: (18, 0, 0) :: (List.range 10).flatMap fun i => [(14, 2 + i, 0), (15, 2 + i, 0)]
theorem snd_dis {i j : Nat} (h : i < j) {o : u_O} (ho : o ∈ ([(14, 2 + i, 0), (15, 2 + i, 0)] : List u_O)) (hm : o ∈ ([(14, 2 + j, 0), (15, 2 + j, 0)] : List u_O)) : False := by
  simp only [List.mem_cons, List.mem_nil_iff, or_false] at ho hm
  rcases ho with rfl | rfl
  · simp at hm
    omega
  · simp at hm
    omega
theorem snd_cl {i : Nat} {o o' : u_O} (ho : o ∈ ([(14, i, 0), (15, i, 0)] : List u_O)) (h : o' ∈ kids o) : o' ∈ ([(14, i, 0), (15, i, 0)] : List u_O) := by
  simp only [List.mem_cons, List.mem_nil_iff, or_false] at ho
  rcases ho with rfl | rfl
  · exact List.mem_cons_of_mem _ h
  · cases h
theorem snd_nf {i : Nat} (h : i < 10) {o : u_O} (ho : o ∈ ([(14, 2 + i, 0), (15, 2 + i, 0)] : List u_O)) : farO o = false := by
  simp only [List.mem_cons, List.mem_nil_iff, or_false] at ho
  rcases ho with rfl | rfl
  · simp [farO]
    omega
  · simp [farO]
section ENTRS
variable {l : Launch} {G : va_G × (Nat → ClassId)} {a0 : u_O → Nat}
theorem n_Entries {p : Nat} (a : u_O → Nat) (b : Nat) (w0 : va_W) : ConN l (XE (a0, G)) yX1_init cX1_init 2 2 41 11 60 [.ref b] (w0 ++ [(b, .inr (1, [.null, .int 0]))]) (PN a G (osEntries p) (6, p, 0) b w0) := by
  refine ConN.of [some (.ref b), none] (by decide +kernel) rfl rfl (Nat.le_of_ble_eq_true rfl) (fun K g gn => ?_)
  have g0 := g.wk
  refine r_aload_n g0 dX1_init_0 rfl ?_
  refine r_obj g0 obX1 ob_i ob_c ⟨Nat.le_of_ble_eq_true rfl, Nat.le_of_ble_eq_true rfl⟩ (Nat.le_of_ble_eq_true rfl) dX1_init_1 ?_
  refine r_aload_n g0 dX1_init_4 rfl ?_
  refine r_bipush g0 dX1_init_5 rfl ?_
  refine r_newq gn 1 rfl (fun U h => h.1) clX1_9 (N := 10) rfl (InR_lit rfl) (Nat.le_of_ble_eq_true rfl) ⟨Nat.le_of_ble_eq_true rfl, Nat.le_of_ble_eq_true rfl⟩ dX1_init_7 (fun q => ?_)
  rw [List.append_assoc]
  refine n_putF g0 in_Entries rfl tyX1 tyX1_ok nmX1 0 rfl 0 (by decide) rfl rfl rfl rfl rfl (Nat.le_of_ble_eq_true rfl) qX1_11 dX1_init_10 ?_
  refine r_iconst g0 dX1_init_13 ?_
  refine r_istore_n g0 (lv' := [some (.ref b), some (.int (J 0))]) dX1_init_14 (by decide) rfl rfl ?_
  show K _ _ _ _ _ (w0 ++ (b, .inr (1, [.ref q, .int 0])) :: [(q, .inl (G.2 1, 10, .inr (.inr (.inr (.inr (fun _ => none))))))])
  rw [split1]
  refine fill g0 (a0 := a0) (G := G) (pc1 := 18) (pcE := 40) (kA := w0.length) (kf := 0) (N := 10) (mc := 0) (ms := 0) (fs0 := [.int 0, .int 0, .int 0, .int 0, .int 0]) (cj := 2) (t0 := 1) (fun i => (8, p, i)) (fun i => [(8, p, i)]) (by decide) (fun i => List.mem_singleton.mpr rfl) (fun j _ i hij o ho hm => ?_) (fun i _ o ho o' ho' => ?_) (fun i hi o ho => ?_) (lget (k := 0) rfl) in_Entries rfl (by decide) rfl qX1_11 rfl in_Entry rfl tyX2 tyX2_ok clX1_9 insX2 iniX2 (by decide) (fun lv st w nc ns k => r_bipush g0 dX1_init_16 rfl k) (fun a1 i b' w1 nc ns lv hi hroom k => ?_) (fun a1 i => ⟨_, _, rfl⟩) dX1_init_15 dX1_init_18 (by decide) dX1_init_21 dX1_init_22 dX1_init_25 dX1_init_26 dX1_init_29 dX1_init_33 dX1_init_34 dX1_init_37 (by decide) ⟨Nat.le_of_ble_eq_true rfl, Nat.le_of_ble_eq_true rfl⟩ (ua (ua a (6, p, 0) b) (7, p, 0) q) (fun a' ha' => ?_)
  · rw [List.mem_singleton] at ho hm
    rw [ho] at hm
    simp at hm
    omega
  · rw [List.mem_singleton] at ho
    subst ho
    cases ho'
  · rw [List.mem_singleton] at ho
    subst ho
    simp [farO]
    omega
  · exact r_callNN gn (n_Entry (p := p) (i := i) a1 b' w1) oiX2 miX1_17 dX1_init_30 ⟨Nat.le_of_ble_eq_true rfl, Nat.le_of_ble_eq_true rfl⟩ hroom rfl (Nat.le_of_ble_eq_true rfl) rfl (fun v w' hq => by
      obtain ⟨rfl, a', h1, h2, rfl⟩ := hq
      exact k a' h1 h2)
  · have hb : a' (6, p, 0) = b := by
      rw [ha' _ (fun i _ => by simp)]
      simp [ua]
    have hq : a' (7, p, 0) = q := by
      rw [ha' _ (fun i _ => by simp)]
      simp [ua]
    refine r_refs g0 (f' := fun j => some (a' (8, p, j))) (fun j hj => if_pos hj) ?_
    refine r_vreturn g dX1_init_40 ⟨rfl, a', fun o ho => ?_, hb, ?_⟩
    · have h1 : o ≠ (6, p, 0) := fun e => ho (by rw [e]; exact List.mem_cons_self)
      have h2 : o ≠ (7, p, 0) := fun e => ho (by rw [e]; exact List.mem_cons_of_mem _ List.mem_cons_self)
      rw [ha' o (fun i hi hm => ho (List.mem_cons_of_mem _ (List.mem_cons_of_mem _ (List.mem_flatMap.mpr ⟨i, List.mem_range.mpr hi, hm⟩))))]
      simp [ua, h1, h2]
    · rw [show osEntries p = (6, p, 0) :: (7, p, 0) :: ((List.range 10).flatMap fun i => [(8, p, i)]) from rfl, Wo_cons, Wo_cons, hb, hq]
      generalize Wo a' G _ = Z
      simp [cell, a_Entries_items, hq, s00]
theorem n_Chorus (a : u_O → Nat) (b : Nat) (w0 : va_W) : ConN l (XE (a0, G)) yX0_init cX0_init 2 2 41 21 850 [.ref b] (w0 ++ [(b, .inr (0, [.null, .int 0]))]) (PN a G osChorus (17, 0, 0) b w0) := by
  refine ConN.of [some (.ref b), none] (by decide +kernel) rfl rfl (Nat.le_of_ble_eq_true rfl) (fun K g gn => ?_)
  have g0 := g.wk
  refine r_aload_n g0 dX0_init_0 rfl ?_
  refine r_obj g0 obX0 ob_i ob_c ⟨Nat.le_of_ble_eq_true rfl, Nat.le_of_ble_eq_true rfl⟩ (Nat.le_of_ble_eq_true rfl) dX0_init_1 ?_
  refine r_aload_n g0 dX0_init_4 rfl ?_
  refine r_bipush g0 dX0_init_5 rfl ?_
  refine r_newq gn 4 rfl (fun U h => h.2.2.2) clX0_9 (N := 10) rfl (InR_lit rfl) (Nat.le_of_ble_eq_true rfl) ⟨Nat.le_of_ble_eq_true rfl, Nat.le_of_ble_eq_true rfl⟩ dX0_init_7 (fun q => ?_)
  rw [List.append_assoc]
  refine n_putF g0 in_Chorus rfl tyX0 tyX0_ok nmX0 0 rfl 0 (by decide) rfl rfl rfl rfl rfl (Nat.le_of_ble_eq_true rfl) qX0_11 dX0_init_10 ?_
  refine r_iconst g0 dX0_init_13 ?_
  refine r_istore_n g0 (lv' := [some (.ref b), some (.int (J 0))]) dX0_init_14 (by decide) rfl rfl ?_
  show K _ _ _ _ _ (w0 ++ (b, .inr (0, [.ref q, .int 0])) :: [(q, .inl (G.2 4, 10, .inr (.inr (.inr (.inr (fun _ => none))))))])
  rw [split1]
  refine fill g0 (a0 := a0) (G := G) (pc1 := 18) (pcE := 40) (kA := w0.length) (kf := 0) (N := 10) (mc := 1) (ms := 80) (fs0 := [.null, .int 0, .int 0, .int 0]) (cj := 8) (t0 := 4) (fun i => (14, 2 + i, 0)) (fun i => [(14, 2 + i, 0), (15, 2 + i, 0)]) (by decide) (fun i => List.mem_cons_self) (fun j _ i hij o ho hm => snd_dis hij ho hm) (fun i _ o ho o' ho' => snd_cl ho ho') (fun i hi o ho => snd_nf hi ho) (lget (k := 0) rfl) in_Chorus rfl (by decide) rfl qX0_11 rfl in_Sound rfl tyX8 tyX8_ok clX0_9 insX8 iniX8 (by decide) (fun lv st w nc ns k => r_bipush g0 dX0_init_16 rfl k) (fun a1 i b' w1 nc ns lv hi hroom k => ?_) (fun a1 i => ⟨_, _, rfl⟩) dX0_init_15 dX0_init_18 (by decide) dX0_init_21 dX0_init_22 dX0_init_25 dX0_init_26 dX0_init_29 dX0_init_33 dX0_init_34 dX0_init_37 (by decide) ⟨Nat.le_of_ble_eq_true rfl, Nat.le_of_ble_eq_true rfl⟩ (ua (ua a (17, 0, 0) b) (18, 0, 0) q) (fun a' ha' => ?_)
  · exact r_callNN gn (n_Sound (p := 2 + i) a1 b' w1) oiX8 miX0_17 dX0_init_30 ⟨Nat.le_of_ble_eq_true rfl, Nat.le_of_ble_eq_true rfl⟩ hroom rfl (Nat.le_of_ble_eq_true rfl) rfl (fun v w' hq => by
      obtain ⟨rfl, a', h1, h2, rfl⟩ := hq
      exact k a' h1 h2)
  · have hb : a' (17, 0, 0) = b := by
      rw [ha' _ (fun i _ => by simp)]
      simp [ua]
    have hq : a' (18, 0, 0) = q := by
      rw [ha' _ (fun i _ => by simp)]
      simp [ua]
    refine r_refs g0 (f' := fun j => some (a' (14, 2 + j, 0))) (fun j hj => if_pos hj) ?_
    refine r_vreturn g dX0_init_40 ⟨rfl, a', fun o ho => ?_, hb, ?_⟩
    · have h1 : o ≠ (17, 0, 0) := fun e => ho (by rw [e]; exact List.mem_cons_self)
      have h2 : o ≠ (18, 0, 0) := fun e => ho (by rw [e]; exact List.mem_cons_of_mem _ List.mem_cons_self)
      rw [ha' o (fun i hi hm => ho (List.mem_cons_of_mem _ (List.mem_cons_of_mem _ (List.mem_flatMap.mpr ⟨i, List.mem_range.mpr hi, hm⟩))))]
      simp [ua, h1, h2]
    · rw [show osChorus = (17, 0, 0) :: (18, 0, 0) :: ((List.range 10).flatMap fun i => [(14, 2 + i, 0), (15, 2 + i, 0)]) from rfl, Wo_cons, Wo_cons, hb, hq]
      generalize Wo a' G _ = Z
      simp [cell, a_Chorus_items, hq, s00]
end ENTRS
