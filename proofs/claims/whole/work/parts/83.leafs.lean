/-! the constructors that make rows of ints alone (by program, wip/whole/gen/leafs.py) -/
section LEAVES2
variable {l : Launch} {G : va_G × (Nat → ClassId)} {a0 : u_O → Nat}
theorem n_Faults (a : u_O → Nat) (b : Nat) (w0 : va_W) : ConN l (XE (a0, G)) yX3_init cX3_init 1 1 20 0 0 [.ref b] (w0 ++ [(b, .inr (3, [.int 0, .int 0, .int 0]))]) (PN a G [(16, 0, 0)] (16, 0, 0) b w0) := by
  refine ConN.of [some (.ref b)] (by decide +kernel) rfl rfl (Nat.le_of_ble_eq_true rfl) (fun K g gn => ?_)
  have g0 := g.wk
  refine r_aload_n g0 dX3_init_0 rfl ?_
  refine r_obj g0 obX3 ob_i ob_c ⟨Nat.le_refl _, Nat.le_refl _⟩ (Nat.le_of_ble_eq_true rfl) dX3_init_1 ?_
  refine r_vreturn g dX3_init_4 ⟨rfl, ua a (16, 0, 0) b, fun o ho => ?_, ?_, ?_⟩
  · simp at ho
    simp [ua, ho]
  · simp [ua]
  · simp [Wo, cell, ua, s00, a_Reader_bytes, a_Reader_letters, a_Reader_starts, a_Reader_numbers, a_Sound_steps, a_Tour_best, a_Tour_tried]
theorem n_Sound {p : Nat} (a : u_O → Nat) (b : Nat) (w0 : va_W) : ConN l (XE (a0, G)) yX8_init cX8_init 1 1 20 1 80 [.ref b] (w0 ++ [(b, .inr (8, [.null, .int 0, .int 0, .int 0]))]) (PN a G [(14, p, 0), (15, p, 0)] (14, p, 0) b w0) := by
  refine ConN.of [some (.ref b)] (by decide +kernel) rfl rfl (Nat.le_of_ble_eq_true rfl) (fun K g gn => ?_)
  have g0 := g.wk
  refine r_aload_n g0 dX8_init_0 rfl ?_
  refine r_obj g0 obX8 ob_i ob_c ⟨Nat.le_refl _, Nat.le_refl _⟩ (Nat.le_of_ble_eq_true rfl) dX8_init_1 ?_
  refine r_aload_n g0 dX8_init_4 rfl ?_
  refine r_bipush g0 dX8_init_5 rfl ?_
  refine n_newa g0 0 rfl 80 rfl (InR_lit rfl) (Nat.le_of_ble_eq_true rfl) ⟨Nat.le_of_ble_eq_true rfl, Nat.le_of_ble_eq_true rfl⟩ dX8_init_7 (fun q0 => ?_)
  refine n_putF g0 in_Sound rfl tyX8 tyX8_ok nmX8 0 rfl 0 (by decide) rfl rfl rfl rfl rfl (Nat.le_of_ble_eq_true rfl) qX8_9 dX8_init_9 ?_
  refine r_vreturn g dX8_init_12 ⟨rfl, ua (ua a (14, p, 0) b) (15, p, 0) q0, fun o ho => ?_, ?_, ?_⟩
  · simp at ho
    simp [ua, ho]
  · simp [ua]
  · simp [Wo, cell, ua, s00, a_Reader_bytes, a_Reader_letters, a_Reader_starts, a_Reader_numbers, a_Sound_steps, a_Tour_best, a_Tour_tried]
theorem n_Tour (a : u_O → Nat) (b : Nat) (w0 : va_W) : ConN l (XE (a0, G)) yX9_init cX9_init 1 1 20 2 10 [.ref b] (w0 ++ [(b, .inr (9, [.null, .null, .int 0]))]) (PN a G [(20, 0, 0), (21, 0, 0), (22, 0, 0)] (20, 0, 0) b w0) := by
  refine ConN.of [some (.ref b)] (by decide +kernel) rfl rfl (Nat.le_of_ble_eq_true rfl) (fun K g gn => ?_)
  have g0 := g.wk
  refine r_aload_n g0 dX9_init_0 rfl ?_
  refine r_obj g0 obX9 ob_i ob_c ⟨Nat.le_refl _, Nat.le_refl _⟩ (Nat.le_of_ble_eq_true rfl) dX9_init_1 ?_
  refine r_aload_n g0 dX9_init_4 rfl ?_
  refine r_iconst g0 dX9_init_5 ?_
  refine n_newa g0 0 rfl 5 rfl (InR_lit rfl) (Nat.le_of_ble_eq_true rfl) ⟨Nat.le_of_ble_eq_true rfl, Nat.le_of_ble_eq_true rfl⟩ dX9_init_6 (fun q0 => ?_)
  refine n_putF g0 in_Tour rfl tyX9 tyX9_ok nmX9 0 rfl 0 (by decide) rfl rfl rfl rfl rfl (Nat.le_of_ble_eq_true rfl) qX9_9 dX9_init_8 ?_
  refine r_aload_n g0 dX9_init_11 rfl ?_
  refine r_iconst g0 dX9_init_12 ?_
  refine n_newa g0 0 rfl 5 rfl (InR_lit rfl) (Nat.le_of_ble_eq_true rfl) ⟨Nat.le_of_ble_eq_true rfl, Nat.le_of_ble_eq_true rfl⟩ dX9_init_13 (fun q1 => ?_)
  refine n_putF g0 in_Tour rfl tyX9 tyX9_ok nmX9 0 rfl 1 (by decide) rfl rfl rfl rfl rfl (Nat.le_of_ble_eq_true rfl) qX9_15 dX9_init_15 ?_
  refine r_vreturn g dX9_init_18 ⟨rfl, ua (ua (ua a (20, 0, 0) b) (21, 0, 0) q0) (22, 0, 0) q1, fun o ho => ?_, ?_, ?_⟩
  · simp at ho
    simp [ua, ho]
  · simp [ua]
  · simp [Wo, cell, ua, s00, a_Reader_bytes, a_Reader_letters, a_Reader_starts, a_Reader_numbers, a_Sound_steps, a_Tour_best, a_Tour_tried]
theorem n_Reader (a : u_O → Nat) (b : Nat) (w0 : va_W) : ConN l (XE (a0, G)) yX7_init cX7_init 1 1 20 4 480 [.ref b] (w0 ++ [(b, .inr (7, [.null, .null, .null, .null, .int 0, .int 0, .int 0, .int 0, .int 0]))]) (PN a G [(12, 0, 0), (13, 0, 0), (13, 1, 0), (13, 2, 0), (13, 3, 0)] (12, 0, 0) b w0) := by
  refine ConN.of [some (.ref b)] (by decide +kernel) rfl rfl (Nat.le_of_ble_eq_true rfl) (fun K g gn => ?_)
  have g0 := g.wk
  refine r_aload_n g0 dX7_init_0 rfl ?_
  refine r_obj g0 obX7 ob_i ob_c ⟨Nat.le_refl _, Nat.le_refl _⟩ (Nat.le_of_ble_eq_true rfl) dX7_init_1 ?_
  refine r_aload_n g0 dX7_init_4 rfl ?_
  refine r_bipush g0 dX7_init_5 rfl ?_
  refine n_newa g0 0 rfl 120 rfl (InR_lit rfl) (Nat.le_of_ble_eq_true rfl) ⟨Nat.le_of_ble_eq_true rfl, Nat.le_of_ble_eq_true rfl⟩ dX7_init_7 (fun q0 => ?_)
  refine n_putF g0 in_Reader rfl tyX7 tyX7_ok nmX7 0 rfl 0 (by decide) rfl rfl rfl rfl rfl (Nat.le_of_ble_eq_true rfl) qX7_9 dX7_init_9 ?_
  refine r_aload_n g0 dX7_init_12 rfl ?_
  refine r_bipush g0 dX7_init_13 rfl ?_
  refine n_newa g0 0 rfl 120 rfl (InR_lit rfl) (Nat.le_of_ble_eq_true rfl) ⟨Nat.le_of_ble_eq_true rfl, Nat.le_of_ble_eq_true rfl⟩ dX7_init_15 (fun q1 => ?_)
  refine n_putF g0 in_Reader rfl tyX7 tyX7_ok nmX7 0 rfl 1 (by decide) rfl rfl rfl rfl rfl (Nat.le_of_ble_eq_true rfl) qX7_15 dX7_init_17 ?_
  refine r_aload_n g0 dX7_init_20 rfl ?_
  refine r_bipush g0 dX7_init_21 rfl ?_
  refine n_newa g0 0 rfl 120 rfl (InR_lit rfl) (Nat.le_of_ble_eq_true rfl) ⟨Nat.le_of_ble_eq_true rfl, Nat.le_of_ble_eq_true rfl⟩ dX7_init_23 (fun q2 => ?_)
  refine n_putF g0 in_Reader rfl tyX7 tyX7_ok nmX7 0 rfl 2 (by decide) rfl rfl rfl rfl rfl (Nat.le_of_ble_eq_true rfl) qX7_18 dX7_init_25 ?_
  refine r_aload_n g0 dX7_init_28 rfl ?_
  refine r_bipush g0 dX7_init_29 rfl ?_
  refine n_newa g0 0 rfl 120 rfl (InR_lit rfl) (Nat.le_of_ble_eq_true rfl) ⟨Nat.le_of_ble_eq_true rfl, Nat.le_of_ble_eq_true rfl⟩ dX7_init_31 (fun q3 => ?_)
  refine n_putF g0 in_Reader rfl tyX7 tyX7_ok nmX7 0 rfl 3 (by decide) rfl rfl rfl rfl rfl (Nat.le_of_ble_eq_true rfl) qX7_21 dX7_init_33 ?_
  refine r_vreturn g dX7_init_36 ⟨rfl, ua (ua (ua (ua (ua a (12, 0, 0) b) (13, 0, 0) q0) (13, 1, 0) q1) (13, 2, 0) q2) (13, 3, 0) q3, fun o ho => ?_, ?_, ?_⟩
  · simp at ho
    simp [ua, ho]
  · simp [ua]
  · simp [Wo, cell, ua, s00, a_Reader_bytes, a_Reader_letters, a_Reader_starts, a_Reader_numbers, a_Sound_steps, a_Tour_best, a_Tour_tried]
end LEAVES2
