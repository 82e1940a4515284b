/-! THE CONTRACTS: the bytecode does what the functions say (by program, wip/whole/gen) -/
theorem dX11_skips_0 : decode cX11_skips 0 = .ok (.iload_n 1, 1) := by decide +kernel
theorem dX11_skips_1 : decode cX11_skips 1 = .ok (.invokestatic 281, 3) := by decide +kernel
theorem dX11_skips_4 : decode cX11_skips 4 = .ok (.ifCond .ne 10, 3) := by decide +kernel
theorem dX11_skips_7 : decode cX11_skips 7 = .ok (.aload_n 0, 1) := by decide +kernel
theorem dX11_skips_8 : decode cX11_skips 8 = .ok (.bipush (-2), 2) := by decide +kernel
theorem dX11_skips_10 : decode cX11_skips 10 = .ok (.invokevirtual 97, 3) := by decide +kernel
theorem dX11_skips_13 : decode cX11_skips 13 = .ok (.ireturn, 1) := by decide +kernel
theorem dX11_skips_14 : decode cX11_skips 14 = .ok (.aload_n 0, 1) := by decide +kernel
theorem dX11_skips_15 : decode cX11_skips 15 = .ok (.iload_n 1, 1) := by decide +kernel
theorem dX11_skips_16 : decode cX11_skips 16 = .ok (.invokevirtual 287, 3) := by decide +kernel
theorem dX11_skips_19 : decode cX11_skips 19 = .ok (.istore_n 2, 1) := by decide +kernel
theorem dX11_skips_20 : decode cX11_skips 20 = .ok (.iload_n 2, 1) := by decide +kernel
theorem dX11_skips_21 : decode cX11_skips 21 = .ok (.iconst (-1), 1) := by decide +kernel
theorem dX11_skips_22 : decode cX11_skips 22 = .ok (.if_icmp .ne 10, 3) := by decide +kernel
theorem dX11_skips_25 : decode cX11_skips 25 = .ok (.aload_n 0, 1) := by decide +kernel
theorem dX11_skips_26 : decode cX11_skips 26 = .ok (.bipush (-3), 2) := by decide +kernel
theorem dX11_skips_28 : decode cX11_skips 28 = .ok (.invokevirtual 97, 3) := by decide +kernel
theorem dX11_skips_31 : decode cX11_skips 31 = .ok (.ireturn, 1) := by decide +kernel
theorem dX11_skips_32 : decode cX11_skips 32 = .ok (.aload_n 0, 1) := by decide +kernel
theorem dX11_skips_33 : decode cX11_skips 33 = .ok (.invokevirtual 100, 3) := by decide +kernel
theorem dX11_skips_36 : decode cX11_skips 36 = .ok (.iload_n 2, 1) := by decide +kernel
theorem dX11_skips_37 : decode cX11_skips 37 = .ok (.istore_n 3, 1) := by decide +kernel
theorem dX11_skips_38 : decode cX11_skips 38 = .ok (.iload_n 3, 1) := by decide +kernel
theorem dX11_skips_39 : decode cX11_skips 39 = .ok (.aload_n 0, 1) := by decide +kernel
theorem dX11_skips_40 : decode cX11_skips 40 = .ok (.getfield 7, 3) := by decide +kernel
theorem dX11_skips_43 : decode cX11_skips 43 = .ok (.sipush 139, 3) := by decide +kernel
theorem dX11_skips_46 : decode cX11_skips 46 = .ok (.iaload, 1) := by decide +kernel
theorem dX11_skips_47 : decode cX11_skips 47 = .ok (.iconst 1, 1) := by decide +kernel
theorem dX11_skips_48 : decode cX11_skips 48 = .ok (.isub, 1) := by decide +kernel
theorem dX11_skips_49 : decode cX11_skips 49 = .ok (.if_icmp .ge 31, 3) := by decide +kernel
theorem dX11_skips_52 : decode cX11_skips 52 = .ok (.aload_n 0, 1) := by decide +kernel
theorem dX11_skips_53 : decode cX11_skips 53 = .ok (.getfield 7, 3) := by decide +kernel
theorem dX11_skips_56 : decode cX11_skips 56 = .ok (.sipush 140, 3) := by decide +kernel
theorem dX11_skips_59 : decode cX11_skips 59 = .ok (.iload_n 3, 1) := by decide +kernel
theorem dX11_skips_60 : decode cX11_skips 60 = .ok (.iadd, 1) := by decide +kernel
theorem dX11_skips_61 : decode cX11_skips 61 = .ok (.aload_n 0, 1) := by decide +kernel
theorem dX11_skips_62 : decode cX11_skips 62 = .ok (.getfield 7, 3) := by decide +kernel
theorem dX11_skips_65 : decode cX11_skips 65 = .ok (.sipush 140, 3) := by decide +kernel
theorem dX11_skips_68 : decode cX11_skips 68 = .ok (.iload_n 3, 1) := by decide +kernel
theorem dX11_skips_69 : decode cX11_skips 69 = .ok (.iadd, 1) := by decide +kernel
theorem dX11_skips_70 : decode cX11_skips 70 = .ok (.iconst 1, 1) := by decide +kernel
theorem dX11_skips_71 : decode cX11_skips 71 = .ok (.iadd, 1) := by decide +kernel
theorem dX11_skips_72 : decode cX11_skips 72 = .ok (.iaload, 1) := by decide +kernel
theorem dX11_skips_73 : decode cX11_skips 73 = .ok (.iastore, 1) := by decide +kernel
theorem dX11_skips_74 : decode cX11_skips 74 = .ok (.iinc 3 1, 3) := by decide +kernel
theorem dX11_skips_77 : decode cX11_skips 77 = .ok (.goto (-39), 3) := by decide +kernel
theorem dX11_skips_80 : decode cX11_skips 80 = .ok (.aload_n 0, 1) := by decide +kernel
theorem dX11_skips_81 : decode cX11_skips 81 = .ok (.getfield 7, 3) := by decide +kernel
theorem dX11_skips_84 : decode cX11_skips 84 = .ok (.sipush 139, 3) := by decide +kernel
theorem dX11_skips_87 : decode cX11_skips 87 = .ok (.dup2, 1) := by decide +kernel
theorem dX11_skips_88 : decode cX11_skips 88 = .ok (.iaload, 1) := by decide +kernel
theorem dX11_skips_89 : decode cX11_skips 89 = .ok (.iconst 1, 1) := by decide +kernel
theorem dX11_skips_90 : decode cX11_skips 90 = .ok (.isub, 1) := by decide +kernel
theorem dX11_skips_91 : decode cX11_skips 91 = .ok (.iastore, 1) := by decide +kernel
theorem dX11_skips_92 : decode cX11_skips 92 = .ok (.aload_n 0, 1) := by decide +kernel
theorem dX11_skips_93 : decode cX11_skips 93 = .ok (.getfield 7, 3) := by decide +kernel
theorem dX11_skips_96 : decode cX11_skips 96 = .ok (.sipush 139, 3) := by decide +kernel
theorem dX11_skips_99 : decode cX11_skips 99 = .ok (.iaload, 1) := by decide +kernel
theorem dX11_skips_100 : decode cX11_skips 100 = .ok (.ireturn, 1) := by decide +kernel
set_option maxHeartbeats 4000000 in
set_option maxRecDepth 100000 in
theorem t_X11_skips_L38 {l : Launch} {E : u_E} {K : u_K} {r : Int} {s' : u_S} (g : Wk l (XE E) { frames := 2, cells := 0, slots := 0, locals := 45 } cX11_skips 4 yX11_skips.cls yX11_skips.name (some .int) (RI E r s') K) {v0_1 : u_O} (i_v0_1 : is_Mo v0_1) {kx80 : u_S → Option (Int × u_S)} (hkx80 : ∀ (s_6 : u_S), kx80 s_6 = some (r, s') → K 0 0 80 [some (.ref (E.1 v0_1)), none, none, none] [] (Wd E s_6)) : ∀ (m : Nat) (v3_1 : Int) (s_5 : u_S), InR v3_1 → f_X11_skips_L38 m kx80 v0_1 v3_1 s_5 = some (r, s') → K 0 0 38 [some (.ref (E.1 v0_1)), none, none, some (.int (J v3_1))] [] (Wd E s_5) := by
  have g0 := g.wk
  intro m
  induction m with
  | zero =>
    intro v3_1 s_5 i_v3_1 h
    exact absurd (show (none : Option (Int × u_S)) = some (r, s') from h) (by intro z; cases z)
  | succ m ih =>
    intro v3_1 s_5 i_v3_1 h
    rw [f_X11_skips_L38] at h
    refine r_iload_n g0 dX11_skips_38 rfl ?_
    refine r_aload_n g0 dX11_skips_39 rfl ?_
    refine g_Mo_all g0 i_v0_1 qX11_7 dX11_skips_40 ?_
    refine r_sipush g0 dX11_skips_43 rfl ?_
    obtain ⟨hb, h⟩ := gd_some h
    refine r_iaload g0 (is_a_Mo_all i_v0_1) (n := 145) rfl (InR_lit rfl) hb dX11_skips_46 ?_
    refine r_iconst g0 dX11_skips_47 ?_
    refine r_isub g0 dX11_skips_48 ?_
    refine r_icmp_ge g0 80 dX11_skips_49 (by decide) i_v3_1 (InR_wr _) (fun hc => ?_) (fun hc => ?_)
    · replace h := if_f hc h
      refine r_mask g0 (lv' := [some (.ref (E.1 v0_1)), none, none, none]) [true, false, false, false] rfl ?_
      exact hkx80 s_5 h
    · replace h := if_t hc h
      refine r_aload_n g0 dX11_skips_52 rfl ?_
      refine g_Mo_all g0 i_v0_1 qX11_7 dX11_skips_53 ?_
      refine r_sipush g0 dX11_skips_56 rfl ?_
      refine r_iload_n g0 dX11_skips_59 rfl ?_
      refine r_iadd g0 dX11_skips_60 ?_
      refine r_aload_n g0 dX11_skips_61 rfl ?_
      refine g_Mo_all g0 i_v0_1 qX11_7 dX11_skips_62 ?_
      refine r_sipush g0 dX11_skips_65 rfl ?_
      refine r_iload_n g0 dX11_skips_68 rfl ?_
      refine r_iadd g0 dX11_skips_69 ?_
      refine r_iconst g0 dX11_skips_70 ?_
      refine r_iadd g0 dX11_skips_71 ?_
      obtain ⟨hb, h⟩ := gd_some h
      refine r_iaload g0 (is_a_Mo_all i_v0_1) (n := 145) rfl (InR_wr _) hb dX11_skips_72 ?_
      obtain ⟨hb, h⟩ := gd_some h
      refine r_iastore g0 (is_a_Mo_all i_v0_1) (n := 145) rfl (InR_wr _) hb dX11_skips_73 ?_
      refine r_iinc g0 (a := v3_1) (lv' := [some (.ref (E.1 v0_1)), none, none, some (.int (J (wr (v3_1 + 1))))]) dX11_skips_74 (by decide) rfl rfl rfl ?_
      refine r_goto g0 38 dX11_skips_77 (by decide) ?_
      exact ih (wr (v3_1 + 1)) (wt s_5 (a_Mo_all v0_1) (wr (140 + v3_1)) (rd s_5 (a_Mo_all v0_1) (wr ((wr (140 + v3_1)) + 1)))) (InR_wr _) h
set_option maxHeartbeats 4000000 in
set_option maxRecDepth 100000 in
theorem c_X11_skips {E : u_E} {l : Launch} {o : u_O} {p1 : Int} (ho : is_Mo o) (i_p1 : InR p1) {s s' : u_S} {r : Int} (h : f_X11_skips o p1 s = some (r, s')) : Con l (XE E) yX11_skips cX11_skips 4 (some .int) 2 45 0 0 [.ref (E.1 o), .int (J p1)] (Wd E s) (RI E r s') := by
  refine Con.of [some (.ref (E.1 o)), some (.int (J p1)), none, none] (by decide +kernel) rfl rfl (Nat.le_of_ble_eq_true rfl) (fun K g => ?_)
  have g0 := g.wk
  unfold f_X11_skips at h
  refine r_iload_n g0 dX11_skips_0 rfl ?_
  obtain ⟨r_1, s_1, hr_1, h⟩ := bd_some h
  refine r_cSZ g0 (rest := []) (c_X11_isKey i_p1 hr_1) ok_X11_isKey mX11_281 dX11_skips_1 ⟨Nat.le_of_ble_eq_true rfl, Nat.le_of_ble_eq_true rfl⟩ ⟨Nat.zero_le _, Nat.zero_le _⟩ rfl (Nat.le_of_ble_eq_true rfl) rfl (fun i_r_1 => ?_)
  refine r_if_ne g0 14 dX11_skips_4 (by decide) (B01.inR i_r_1) (fun hc => ?_) (fun hc => ?_)
  · replace h := if_f hc h
    refine r_aload_n g0 dX11_skips_14 rfl ?_
    refine r_iload_n g0 dX11_skips_15 rfl ?_
    obtain ⟨r_2, s_2, hr_2, h⟩ := bd_some h
    refine r_cVI g0 (rest := []) (c_X11_visited ho i_p1 hr_2) ok_X11_visited mX11_287 (recv_Mo ho) dX11_skips_16 ⟨Nat.le_of_ble_eq_true rfl, Nat.le_of_ble_eq_true rfl⟩ ⟨Nat.zero_le _, Nat.zero_le _⟩ rfl (Nat.le_of_ble_eq_true rfl) rfl (fun i_r_2 => ?_)
    refine r_istore_n g0 (lv' := [some (.ref (E.1 o)), some (.int (J p1)), some (.int (J r_2)), none]) dX11_skips_19 (by decide) rfl rfl ?_
    refine r_iload_n g0 dX11_skips_20 rfl ?_
    refine r_iconst g0 dX11_skips_21 ?_
    refine r_icmp_ne g0 32 dX11_skips_22 (by decide) i_r_2 (InR_lit rfl) (fun hc => ?_) (fun hc => ?_)
    · replace h := if_f hc h
      refine r_aload_n g0 dX11_skips_32 rfl ?_
      obtain ⟨r_3, s_3, hr_3, h⟩ := bd_some h
      refine r_cVV g0 (rest := []) (c_X11_keep ho hr_3) ok_X11_keep mX11_100 (recv_Mo ho) dX11_skips_33 ⟨Nat.le_of_ble_eq_true rfl, Nat.le_of_ble_eq_true rfl⟩ ⟨Nat.zero_le _, Nat.zero_le _⟩ rfl (Nat.le_of_ble_eq_true rfl) rfl ?_
      refine r_iload_n g0 dX11_skips_36 rfl ?_
      refine r_istore_n g0 (lv' := [some (.ref (E.1 o)), some (.int (J p1)), some (.int (J r_2)), some (.int (J r_2))]) dX11_skips_37 (by decide) rfl rfl ?_
      refine r_mask g0 (lv' := [some (.ref (E.1 o)), none, none, some (.int (J r_2))]) [true, false, false, true] rfl ?_
      refine t_X11_skips_L38 g ho ?_ FU r_2 s_3 i_r_2 h
      · intro s_4 h
        refine r_aload_n g0 dX11_skips_80 rfl ?_
        refine g_Mo_all g0 ho qX11_7 dX11_skips_81 ?_
        refine r_sipush g0 dX11_skips_84 rfl ?_
        refine r_dup2 g0 dX11_skips_87 rfl rfl ?_
        obtain ⟨hb, h⟩ := gd_some h
        refine r_iaload g0 (is_a_Mo_all ho) (n := 145) rfl (InR_lit rfl) hb dX11_skips_88 ?_
        refine r_iconst g0 dX11_skips_89 ?_
        refine r_isub g0 dX11_skips_90 ?_
        obtain ⟨hb, h⟩ := gd_some h
        refine r_iastore g0 (is_a_Mo_all ho) (n := 145) rfl (InR_lit rfl) hb dX11_skips_91 ?_
        refine r_aload_n g0 dX11_skips_92 rfl ?_
        refine g_Mo_all g0 ho qX11_7 dX11_skips_93 ?_
        refine r_sipush g0 dX11_skips_96 rfl ?_
        obtain ⟨hb, h⟩ := gd_some h
        refine r_iaload g0 (is_a_Mo_all ho) (n := 145) rfl (InR_lit rfl) hb dX11_skips_99 ?_
        exact z_I g dX11_skips_100 (InR_rd _ _ _) h
    · replace h := if_t hc h
      refine r_aload_n g0 dX11_skips_25 rfl ?_
      refine r_bipush g0 dX11_skips_26 rfl ?_
      obtain ⟨r_4, s_7, hr_4, h⟩ := bd_some h
      refine r_cVI g0 (rest := []) (c_X11_refuses ho (InR_lit rfl) hr_4) ok_X11_refuses mX11_97 (recv_Mo ho) dX11_skips_28 ⟨Nat.le_of_ble_eq_true rfl, Nat.le_of_ble_eq_true rfl⟩ ⟨Nat.zero_le _, Nat.zero_le _⟩ rfl (Nat.le_of_ble_eq_true rfl) rfl (fun i_r_4 => ?_)
      exact z_I g dX11_skips_31 i_r_4 h
  · replace h := if_t hc h
    refine r_aload_n g0 dX11_skips_7 rfl ?_
    refine r_bipush g0 dX11_skips_8 rfl ?_
    obtain ⟨r_5, s_8, hr_5, h⟩ := bd_some h
    refine r_cVI g0 (rest := []) (c_X11_refuses ho (InR_lit rfl) hr_5) ok_X11_refuses mX11_97 (recv_Mo ho) dX11_skips_10 ⟨Nat.le_of_ble_eq_true rfl, Nat.le_of_ble_eq_true rfl⟩ ⟨Nat.zero_le _, Nat.zero_le _⟩ rfl (Nat.le_of_ble_eq_true rfl) rfl (fun i_r_5 => ?_)
    exact z_I g dX11_skips_13 i_r_5 h
theorem dX11_keyAt_0 : decode cX11_keyAt 0 = .ok (.iload_n 1, 1) := by decide +kernel
theorem dX11_keyAt_1 : decode cX11_keyAt 1 = .ok (.iconst 5, 1) := by decide +kernel
theorem dX11_keyAt_2 : decode cX11_keyAt 2 = .ok (.if_icmp .ne 14, 3) := by decide +kernel
theorem dX11_keyAt_5 : decode cX11_keyAt 5 = .ok (.aload_n 0, 1) := by decide +kernel
theorem dX11_keyAt_6 : decode cX11_keyAt 6 = .ok (.getfield 7, 3) := by decide +kernel
theorem dX11_keyAt_9 : decode cX11_keyAt 9 = .ok (.sipush 138, 3) := by decide +kernel
theorem dX11_keyAt_12 : decode cX11_keyAt 12 = .ok (.iaload, 1) := by decide +kernel
theorem dX11_keyAt_13 : decode cX11_keyAt 13 = .ok (.goto 13, 3) := by decide +kernel
theorem dX11_keyAt_16 : decode cX11_keyAt 16 = .ok (.aload_n 0, 1) := by decide +kernel
theorem dX11_keyAt_17 : decode cX11_keyAt 17 = .ok (.getfield 7, 3) := by decide +kernel
theorem dX11_keyAt_20 : decode cX11_keyAt 20 = .ok (.sipush 140, 3) := by decide +kernel
theorem dX11_keyAt_23 : decode cX11_keyAt 23 = .ok (.iload_n 1, 1) := by decide +kernel
theorem dX11_keyAt_24 : decode cX11_keyAt 24 = .ok (.iadd, 1) := by decide +kernel
theorem dX11_keyAt_25 : decode cX11_keyAt 25 = .ok (.iaload, 1) := by decide +kernel
theorem dX11_keyAt_26 : decode cX11_keyAt 26 = .ok (.ireturn, 1) := by decide +kernel
set_option maxHeartbeats 4000000 in
set_option maxRecDepth 100000 in
theorem c_X11_keyAt {E : u_E} {l : Launch} {o : u_O} {p1 : Int} (ho : is_Mo o) (i_p1 : InR p1) {s s' : u_S} {r : Int} (h : f_X11_keyAt o p1 s = some (r, s')) : Con l (XE E) yX11_keyAt cX11_keyAt 2 (some .int) 0 0 0 0 [.ref (E.1 o), .int (J p1)] (Wd E s) (RI E r s') := by
  refine Con.of [some (.ref (E.1 o)), some (.int (J p1))] (by decide +kernel) rfl rfl (Nat.le_of_ble_eq_true rfl) (fun K g => ?_)
  have g0 := g.wk
  unfold f_X11_keyAt at h
  refine r_iload_n g0 dX11_keyAt_0 rfl ?_
  refine r_iconst g0 dX11_keyAt_1 ?_
  refine r_icmp_ne g0 16 dX11_keyAt_2 (by decide) i_p1 (InR_lit rfl) (fun hc => ?_) (fun hc => ?_)
  · replace h := if_f hc h
    refine r_aload_n g0 dX11_keyAt_16 rfl ?_
    refine g_Mo_all g0 ho qX11_7 dX11_keyAt_17 ?_
    refine r_sipush g0 dX11_keyAt_20 rfl ?_
    refine r_iload_n g0 dX11_keyAt_23 rfl ?_
    refine r_iadd g0 dX11_keyAt_24 ?_
    obtain ⟨hb, h⟩ := gd_some h
    refine r_iaload g0 (is_a_Mo_all ho) (n := 145) rfl (InR_wr _) hb dX11_keyAt_25 ?_
    exact z_I g dX11_keyAt_26 (InR_rd _ _ _) h
  · replace h := if_t hc h
    refine r_aload_n g0 dX11_keyAt_5 rfl ?_
    refine g_Mo_all g0 ho qX11_7 dX11_keyAt_6 ?_
    refine r_sipush g0 dX11_keyAt_9 rfl ?_
    obtain ⟨hb, h⟩ := gd_some h
    refine r_iaload g0 (is_a_Mo_all ho) (n := 145) rfl (InR_lit rfl) hb dX11_keyAt_12 ?_
    refine r_goto g0 26 dX11_keyAt_13 (by decide) ?_
    exact z_I g dX11_keyAt_26 (InR_rd _ _ _) h
theorem dX11_laysBetween_0 : decode cX11_laysBetween 0 = .ok (.iconst 0, 1) := by decide +kernel
theorem dX11_laysBetween_1 : decode cX11_laysBetween 1 = .ok (.istore_n 1, 1) := by decide +kernel
theorem dX11_laysBetween_2 : decode cX11_laysBetween 2 = .ok (.iload_n 1, 1) := by decide +kernel
theorem dX11_laysBetween_3 : decode cX11_laysBetween 3 = .ok (.iconst 5, 1) := by decide +kernel
theorem dX11_laysBetween_4 : decode cX11_laysBetween 4 = .ok (.if_icmp .gt 58, 3) := by decide +kernel
theorem dX11_laysBetween_7 : decode cX11_laysBetween 7 = .ok (.aload_n 0, 1) := by decide +kernel
theorem dX11_laysBetween_8 : decode cX11_laysBetween 8 = .ok (.aload_n 0, 1) := by decide +kernel
theorem dX11_laysBetween_9 : decode cX11_laysBetween 9 = .ok (.iload_n 1, 1) := by decide +kernel
theorem dX11_laysBetween_10 : decode cX11_laysBetween 10 = .ok (.invokevirtual 296, 3) := by decide +kernel
theorem dX11_laysBetween_13 : decode cX11_laysBetween 13 = .ok (.bipush 24, 2) := by decide +kernel
theorem dX11_laysBetween_15 : decode cX11_laysBetween 15 = .ok (.irem, 1) := by decide +kernel
theorem dX11_laysBetween_16 : decode cX11_laysBetween 16 = .ok (.invokevirtual 277, 3) := by decide +kernel
theorem dX11_laysBetween_19 : decode cX11_laysBetween 19 = .ok (.iconst 0, 1) := by decide +kernel
theorem dX11_laysBetween_20 : decode cX11_laysBetween 20 = .ok (.istore_n 2, 1) := by decide +kernel
theorem dX11_laysBetween_21 : decode cX11_laysBetween 21 = .ok (.iload_n 2, 1) := by decide +kernel
theorem dX11_laysBetween_22 : decode cX11_laysBetween 22 = .ok (.iconst 5, 1) := by decide +kernel
theorem dX11_laysBetween_23 : decode cX11_laysBetween 23 = .ok (.if_icmp .gt 33, 3) := by decide +kernel
theorem dX11_laysBetween_26 : decode cX11_laysBetween 26 = .ok (.aload_n 0, 1) := by decide +kernel
theorem dX11_laysBetween_27 : decode cX11_laysBetween 27 = .ok (.getfield 40, 3) := by decide +kernel
theorem dX11_laysBetween_30 : decode cX11_laysBetween 30 = .ok (.bipush 6, 2) := by decide +kernel
theorem dX11_laysBetween_32 : decode cX11_laysBetween 32 = .ok (.iload_n 2, 1) := by decide +kernel
theorem dX11_laysBetween_33 : decode cX11_laysBetween 33 = .ok (.imul, 1) := by decide +kernel
theorem dX11_laysBetween_34 : decode cX11_laysBetween 34 = .ok (.iload_n 1, 1) := by decide +kernel
theorem dX11_laysBetween_35 : decode cX11_laysBetween 35 = .ok (.iadd, 1) := by decide +kernel
theorem dX11_laysBetween_36 : decode cX11_laysBetween 36 = .ok (.aload_n 0, 1) := by decide +kernel
theorem dX11_laysBetween_37 : decode cX11_laysBetween 37 = .ok (.getfield 37, 3) := by decide +kernel
theorem dX11_laysBetween_40 : decode cX11_laysBetween 40 = .ok (.aload_n 0, 1) := by decide +kernel
theorem dX11_laysBetween_41 : decode cX11_laysBetween 41 = .ok (.iload_n 2, 1) := by decide +kernel
theorem dX11_laysBetween_42 : decode cX11_laysBetween 42 = .ok (.invokevirtual 296, 3) := by decide +kernel
theorem dX11_laysBetween_45 : decode cX11_laysBetween 45 = .ok (.bipush 24, 2) := by decide +kernel
theorem dX11_laysBetween_47 : decode cX11_laysBetween 47 = .ok (.irem, 1) := by decide +kernel
theorem dX11_laysBetween_48 : decode cX11_laysBetween 48 = .ok (.iaload, 1) := by decide +kernel
theorem dX11_laysBetween_49 : decode cX11_laysBetween 49 = .ok (.iastore, 1) := by decide +kernel
theorem dX11_laysBetween_50 : decode cX11_laysBetween 50 = .ok (.iinc 2 1, 3) := by decide +kernel
theorem dX11_laysBetween_53 : decode cX11_laysBetween 53 = .ok (.goto (-32), 3) := by decide +kernel
theorem dX11_laysBetween_56 : decode cX11_laysBetween 56 = .ok (.iinc 1 1, 3) := by decide +kernel
theorem dX11_laysBetween_59 : decode cX11_laysBetween 59 = .ok (.goto (-57), 3) := by decide +kernel
theorem dX11_laysBetween_62 : decode cX11_laysBetween 62 = .ok (.return_, 1) := by decide +kernel
set_option maxHeartbeats 4000000 in
set_option maxRecDepth 100000 in
theorem t_X11_laysBetween_L21 {l : Launch} {E : u_E} {K : u_K} {r : Int} {s' : u_S} (g : Wk l (XE E) { frames := 2, cells := 0, slots := 0, locals := 49 } cX11_laysBetween 3 yX11_laysBetween.cls yX11_laysBetween.name none (RV E r s') K) {v0_2 : u_O} {v1_2 : Int} (i_v0_2 : is_Mo v0_2) (i_v1_2 : InR v1_2) {kx56 : u_S → Option (Int × u_S)} (hkx56 : ∀ (s_8 : u_S), kx56 s_8 = some (r, s') → K 0 0 56 [some (.ref (E.1 v0_2)), some (.int (J v1_2)), none] [] (Wd E s_8)) : ∀ (m : Nat) (v2_1 : Int) (s_6 : u_S), InR v2_1 → f_X11_laysBetween_L21 m kx56 v0_2 v1_2 v2_1 s_6 = some (r, s') → K 0 0 21 [some (.ref (E.1 v0_2)), some (.int (J v1_2)), some (.int (J v2_1))] [] (Wd E s_6) := by
  have g0 := g.wk
  intro m
  induction m with
  | zero =>
    intro v2_1 s_6 i_v2_1 h
    exact absurd (show (none : Option (Int × u_S)) = some (r, s') from h) (by intro z; cases z)
  | succ m ih =>
    intro v2_1 s_6 i_v2_1 h
    rw [f_X11_laysBetween_L21] at h
    refine r_iload_n g0 dX11_laysBetween_21 rfl ?_
    refine r_iconst g0 dX11_laysBetween_22 ?_
    refine r_icmp_gt g0 56 dX11_laysBetween_23 (by decide) i_v2_1 (InR_lit rfl) (fun hc => ?_) (fun hc => ?_)
    · replace h := if_f hc h
      refine r_mask g0 (lv' := [some (.ref (E.1 v0_2)), some (.int (J v1_2)), none]) [true, true, false] rfl ?_
      exact hkx56 s_6 h
    · replace h := if_t hc h
      refine r_aload_n g0 dX11_laysBetween_26 rfl ?_
      refine g_Mo_between g0 i_v0_2 qX11_40 dX11_laysBetween_27 ?_
      refine r_bipush g0 dX11_laysBetween_30 rfl ?_
      refine r_iload_n g0 dX11_laysBetween_32 rfl ?_
      refine r_imul g0 dX11_laysBetween_33 ?_
      refine r_iload_n g0 dX11_laysBetween_34 rfl ?_
      refine r_iadd g0 dX11_laysBetween_35 ?_
      refine r_aload_n g0 dX11_laysBetween_36 rfl ?_
      refine g_Mo_far g0 i_v0_2 qX11_37 dX11_laysBetween_37 ?_
      refine r_aload_n g0 dX11_laysBetween_40 rfl ?_
      refine r_iload_n g0 dX11_laysBetween_41 rfl ?_
      obtain ⟨r_3, s_7, hr_3, h⟩ := bd_some h
      refine r_cVI g0 (rest := [.ref (E.1 (a_Mo_far v0_2)), .int (J (wr ((wr (6 * v2_1)) + v1_2))), .ref (E.1 (a_Mo_between v0_2))]) (c_X11_keyAt i_v0_2 i_v2_1 hr_3) ok_X11_keyAt mX11_296 (recv_Mo i_v0_2) dX11_laysBetween_42 ⟨Nat.le_of_ble_eq_true rfl, Nat.le_of_ble_eq_true rfl⟩ ⟨Nat.zero_le _, Nat.zero_le _⟩ rfl (Nat.le_of_ble_eq_true rfl) rfl (fun i_r_3 => ?_)
      refine r_bipush g0 dX11_laysBetween_45 rfl ?_
      refine r_irem g0 dX11_laysBetween_47 i_r_3 (InR_lit rfl) (by decide) ?_
      obtain ⟨hb, h⟩ := gd_some h
      refine r_iaload g0 (is_a_Mo_far i_v0_2) (n := 24) rfl (InR_rem _ i_r_3) hb dX11_laysBetween_48 ?_
      obtain ⟨hb, h⟩ := gd_some h
      refine r_iastore g0 (is_a_Mo_between i_v0_2) (n := 36) rfl (InR_wr _) hb dX11_laysBetween_49 ?_
      refine r_iinc g0 (a := v2_1) (lv' := [some (.ref (E.1 v0_2)), some (.int (J v1_2)), some (.int (J (wr (v2_1 + 1))))]) dX11_laysBetween_50 (by decide) rfl rfl rfl ?_
      refine r_goto g0 21 dX11_laysBetween_53 (by decide) ?_
      exact ih (wr (v2_1 + 1)) (wt s_7 (a_Mo_between v0_2) (wr ((wr (6 * v2_1)) + v1_2)) (rd s_7 (a_Mo_far v0_2) (Int.tmod r_3 24))) (InR_wr _) h
set_option maxHeartbeats 4000000 in
set_option maxRecDepth 100000 in
theorem t_X11_laysBetween_L2 {l : Launch} {E : u_E} {K : u_K} {r : Int} {s' : u_S} (g : Wk l (XE E) { frames := 2, cells := 0, slots := 0, locals := 49 } cX11_laysBetween 3 yX11_laysBetween.cls yX11_laysBetween.name none (RV E r s') K) {v0_1 : u_O} (i_v0_1 : is_Mo v0_1) {kx62 : u_S → Option (Int × u_S)} (hkx62 : ∀ (s_9 : u_S), kx62 s_9 = some (r, s') → K 0 0 62 [none, none, none] [] (Wd E s_9)) : ∀ (m : Nat) (v1_1 : Int) (s_2 : u_S), InR v1_1 → f_X11_laysBetween_L2 m kx62 v0_1 v1_1 s_2 = some (r, s') → K 0 0 2 [some (.ref (E.1 v0_1)), some (.int (J v1_1)), none] [] (Wd E s_2) := by
  have g0 := g.wk
  intro m
  induction m with
  | zero =>
    intro v1_1 s_2 i_v1_1 h
    exact absurd (show (none : Option (Int × u_S)) = some (r, s') from h) (by intro z; cases z)
  | succ m ih =>
    intro v1_1 s_2 i_v1_1 h
    rw [f_X11_laysBetween_L2] at h
    refine r_iload_n g0 dX11_laysBetween_2 rfl ?_
    refine r_iconst g0 dX11_laysBetween_3 ?_
    refine r_icmp_gt g0 62 dX11_laysBetween_4 (by decide) i_v1_1 (InR_lit rfl) (fun hc => ?_) (fun hc => ?_)
    · replace h := if_f hc h
      refine r_mask g0 (lv' := [none, none, none]) [false, false, false] rfl ?_
      exact hkx62 s_2 h
    · replace h := if_t hc h
      refine r_aload_n g0 dX11_laysBetween_7 rfl ?_
      refine r_aload_n g0 dX11_laysBetween_8 rfl ?_
      refine r_iload_n g0 dX11_laysBetween_9 rfl ?_
      obtain ⟨r_1, s_3, hr_1, h⟩ := bd_some h
      refine r_cVI g0 (rest := [.ref (E.1 v0_1)]) (c_X11_keyAt i_v0_1 i_v1_1 hr_1) ok_X11_keyAt mX11_296 (recv_Mo i_v0_1) dX11_laysBetween_10 ⟨Nat.le_of_ble_eq_true rfl, Nat.le_of_ble_eq_true rfl⟩ ⟨Nat.zero_le _, Nat.zero_le _⟩ rfl (Nat.le_of_ble_eq_true rfl) rfl (fun i_r_1 => ?_)
      refine r_bipush g0 dX11_laysBetween_13 rfl ?_
      refine r_irem g0 dX11_laysBetween_15 i_r_1 (InR_lit rfl) (by decide) ?_
      obtain ⟨r_2, s_4, hr_2, h⟩ := bd_some h
      refine r_cVV g0 (rest := []) (c_X11_laysWays i_v0_1 (InR_rem _ i_r_1) hr_2) ok_X11_laysWays mX11_277 (recv_Mo i_v0_1) dX11_laysBetween_16 ⟨Nat.le_of_ble_eq_true rfl, Nat.le_of_ble_eq_true rfl⟩ ⟨Nat.zero_le _, Nat.zero_le _⟩ rfl (Nat.le_of_ble_eq_true rfl) rfl ?_
      refine r_iconst g0 dX11_laysBetween_19 ?_
      refine r_istore_n g0 (lv' := [some (.ref (E.1 v0_1)), some (.int (J v1_1)), some (.int (J 0))]) dX11_laysBetween_20 (by decide) rfl rfl ?_
      refine t_X11_laysBetween_L21 g i_v0_1 i_v1_1 ?_ FU 0 s_4 (B01.inR B01_0) h
      · intro s_5 h
        refine r_iinc g0 (a := v1_1) (lv' := [some (.ref (E.1 v0_1)), some (.int (J (wr (v1_1 + 1)))), none]) dX11_laysBetween_56 (by decide) rfl rfl rfl ?_
        refine r_goto g0 2 dX11_laysBetween_59 (by decide) ?_
        exact ih (wr (v1_1 + 1)) s_5 (InR_wr _) h
set_option maxHeartbeats 4000000 in
set_option maxRecDepth 100000 in
theorem c_X11_laysBetween {E : u_E} {l : Launch} {o : u_O} (ho : is_Mo o) {s s' : u_S} {r : Int} (h : f_X11_laysBetween o s = some (r, s')) : Con l (XE E) yX11_laysBetween cX11_laysBetween 3 none 2 49 0 0 [.ref (E.1 o)] (Wd E s) (RV E r s') := by
  refine Con.of [some (.ref (E.1 o)), none, none] (by decide +kernel) rfl rfl (Nat.le_of_ble_eq_true rfl) (fun K g => ?_)
  have g0 := g.wk
  unfold f_X11_laysBetween at h
  refine r_iconst g0 dX11_laysBetween_0 ?_
  refine r_istore_n g0 (lv' := [some (.ref (E.1 o)), some (.int (J 0)), none]) dX11_laysBetween_1 (by decide) rfl rfl ?_
  refine t_X11_laysBetween_L2 g ho ?_ FU 0 s (B01.inR B01_0) h
  · intro s_1 h
    exact z_V g dX11_laysBetween_62 h
theorem dX11_isRow_0 : decode cX11_isRow 0 = .ok (.iload_n 1, 1) := by decide +kernel
theorem dX11_isRow_1 : decode cX11_isRow 1 = .ok (.istore_n 2, 1) := by decide +kernel
theorem dX11_isRow_2 : decode cX11_isRow 2 = .ok (.iconst 0, 1) := by decide +kernel
theorem dX11_isRow_3 : decode cX11_isRow 3 = .ok (.istore_n 3, 1) := by decide +kernel
theorem dX11_isRow_4 : decode cX11_isRow 4 = .ok (.aload_n 0, 1) := by decide +kernel
theorem dX11_isRow_5 : decode cX11_isRow 5 = .ok (.getfield 7, 3) := by decide +kernel
theorem dX11_isRow_8 : decode cX11_isRow 8 = .ok (.sipush 139, 3) := by decide +kernel
theorem dX11_isRow_11 : decode cX11_isRow 11 = .ok (.iaload, 1) := by decide +kernel
theorem dX11_isRow_12 : decode cX11_isRow 12 = .ok (.iconst 1, 1) := by decide +kernel
theorem dX11_isRow_13 : decode cX11_isRow 13 = .ok (.isub, 1) := by decide +kernel
theorem dX11_isRow_14 : decode cX11_isRow 14 = .ok (.istore 4, 2) := by decide +kernel
theorem dX11_isRow_16 : decode cX11_isRow 16 = .ok (.iload 4, 2) := by decide +kernel
theorem dX11_isRow_18 : decode cX11_isRow 18 = .ok (.ifCond .lt 35, 3) := by decide +kernel
theorem dX11_isRow_21 : decode cX11_isRow 21 = .ok (.aload_n 0, 1) := by decide +kernel
theorem dX11_isRow_22 : decode cX11_isRow 22 = .ok (.getfield 46, 3) := by decide +kernel
theorem dX11_isRow_25 : decode cX11_isRow 25 = .ok (.iload 4, 2) := by decide +kernel
theorem dX11_isRow_27 : decode cX11_isRow 27 = .ok (.iload_n 2, 1) := by decide +kernel
theorem dX11_isRow_28 : decode cX11_isRow 28 = .ok (.iconst 5, 1) := by decide +kernel
theorem dX11_isRow_29 : decode cX11_isRow 29 = .ok (.irem, 1) := by decide +kernel
theorem dX11_isRow_30 : decode cX11_isRow 30 = .ok (.iastore, 1) := by decide +kernel
theorem dX11_isRow_31 : decode cX11_isRow 31 = .ok (.iload_n 3, 1) := by decide +kernel
theorem dX11_isRow_32 : decode cX11_isRow 32 = .ok (.iconst 1, 1) := by decide +kernel
theorem dX11_isRow_33 : decode cX11_isRow 33 = .ok (.aload_n 0, 1) := by decide +kernel
theorem dX11_isRow_34 : decode cX11_isRow 34 = .ok (.getfield 46, 3) := by decide +kernel
theorem dX11_isRow_37 : decode cX11_isRow 37 = .ok (.iload 4, 2) := by decide +kernel
theorem dX11_isRow_39 : decode cX11_isRow 39 = .ok (.iaload, 1) := by decide +kernel
theorem dX11_isRow_40 : decode cX11_isRow 40 = .ok (.ishl, 1) := by decide +kernel
theorem dX11_isRow_41 : decode cX11_isRow 41 = .ok (.ior, 1) := by decide +kernel
theorem dX11_isRow_42 : decode cX11_isRow 42 = .ok (.istore_n 3, 1) := by decide +kernel
theorem dX11_isRow_43 : decode cX11_isRow 43 = .ok (.iload_n 2, 1) := by decide +kernel
theorem dX11_isRow_44 : decode cX11_isRow 44 = .ok (.iconst 5, 1) := by decide +kernel
theorem dX11_isRow_45 : decode cX11_isRow 45 = .ok (.idiv, 1) := by decide +kernel
theorem dX11_isRow_46 : decode cX11_isRow 46 = .ok (.istore_n 2, 1) := by decide +kernel
theorem dX11_isRow_47 : decode cX11_isRow 47 = .ok (.iinc 4 (-1), 3) := by decide +kernel
theorem dX11_isRow_50 : decode cX11_isRow 50 = .ok (.goto (-34), 3) := by decide +kernel
theorem dX11_isRow_53 : decode cX11_isRow 53 = .ok (.iload_n 3, 1) := by decide +kernel
theorem dX11_isRow_54 : decode cX11_isRow 54 = .ok (.iconst 1, 1) := by decide +kernel
theorem dX11_isRow_55 : decode cX11_isRow 55 = .ok (.aload_n 0, 1) := by decide +kernel
theorem dX11_isRow_56 : decode cX11_isRow 56 = .ok (.getfield 7, 3) := by decide +kernel
theorem dX11_isRow_59 : decode cX11_isRow 59 = .ok (.sipush 139, 3) := by decide +kernel
theorem dX11_isRow_62 : decode cX11_isRow 62 = .ok (.iaload, 1) := by decide +kernel
theorem dX11_isRow_63 : decode cX11_isRow 63 = .ok (.ishl, 1) := by decide +kernel
theorem dX11_isRow_64 : decode cX11_isRow 64 = .ok (.iconst 1, 1) := by decide +kernel
theorem dX11_isRow_65 : decode cX11_isRow 65 = .ok (.isub, 1) := by decide +kernel
theorem dX11_isRow_66 : decode cX11_isRow 66 = .ok (.if_icmp .ne 7, 3) := by decide +kernel
theorem dX11_isRow_69 : decode cX11_isRow 69 = .ok (.iconst 1, 1) := by decide +kernel
theorem dX11_isRow_70 : decode cX11_isRow 70 = .ok (.goto 4, 3) := by decide +kernel
theorem dX11_isRow_73 : decode cX11_isRow 73 = .ok (.iconst 0, 1) := by decide +kernel
theorem dX11_isRow_74 : decode cX11_isRow 74 = .ok (.ireturn, 1) := by decide +kernel
set_option maxHeartbeats 4000000 in
set_option maxRecDepth 100000 in
theorem t_X11_isRow_L16 {l : Launch} {E : u_E} {K : u_K} {r : Int} {s' : u_S} (g : Wk l (XE E) { frames := 0, cells := 0, slots := 0, locals := 0 } cX11_isRow 5 yX11_isRow.cls yX11_isRow.name (some .boolean) (RZ E r s') K) {v0_1 : u_O} (i_v0_1 : is_Mo v0_1) {kx53 : Int → u_S → Option (Int × u_S)} (hkx53 : ∀ (v3_3 : Int) (s_3 : u_S), InR v3_3 → kx53 v3_3 s_3 = some (r, s') → K 0 0 53 [some (.ref (E.1 v0_1)), none, none, some (.int (J v3_3)), none] [] (Wd E s_3)) : ∀ (m : Nat) (v2_1 : Int) (v3_2 : Int) (v4_1 : Int) (s_2 : u_S), InR v2_1 → InR v3_2 → InR v4_1 → f_X11_isRow_L16 m kx53 v0_1 v2_1 v3_2 v4_1 s_2 = some (r, s') → K 0 0 16 [some (.ref (E.1 v0_1)), none, some (.int (J v2_1)), some (.int (J v3_2)), some (.int (J v4_1))] [] (Wd E s_2) := by
  have g0 := g.wk
  intro m
  induction m with
  | zero =>
    intro v2_1 v3_2 v4_1 s_2 i_v2_1 i_v3_2 i_v4_1 h
    exact absurd (show (none : Option (Int × u_S)) = some (r, s') from h) (by intro z; cases z)
  | succ m ih =>
    intro v2_1 v3_2 v4_1 s_2 i_v2_1 i_v3_2 i_v4_1 h
    rw [f_X11_isRow_L16] at h
    refine r_iload g0 dX11_isRow_16 rfl ?_
    refine r_if_lt g0 53 dX11_isRow_18 (by decide) i_v4_1 (fun hc => ?_) (fun hc => ?_)
    · replace h := if_t hc h
      refine r_mask g0 (lv' := [some (.ref (E.1 v0_1)), none, none, some (.int (J v3_2)), none]) [true, false, false, true, false] rfl ?_
      exact hkx53 v3_2 s_2 i_v3_2 h
    · replace h := if_f hc h
      refine r_aload_n g0 dX11_isRow_21 rfl ?_
      refine g_Mo_tried g0 i_v0_1 qX11_46 dX11_isRow_22 ?_
      refine r_iload g0 dX11_isRow_25 rfl ?_
      refine r_iload_n g0 dX11_isRow_27 rfl ?_
      refine r_iconst g0 dX11_isRow_28 ?_
      refine r_irem g0 dX11_isRow_29 i_v2_1 (InR_lit rfl) (by decide) ?_
      obtain ⟨hb, h⟩ := gd_some h
      refine r_iastore g0 (is_a_Mo_tried i_v0_1) (n := 5) rfl i_v4_1 hb dX11_isRow_30 ?_
      refine r_iload_n g0 dX11_isRow_31 rfl ?_
      refine r_iconst g0 dX11_isRow_32 ?_
      refine r_aload_n g0 dX11_isRow_33 rfl ?_
      refine g_Mo_tried g0 i_v0_1 qX11_46 dX11_isRow_34 ?_
      refine r_iload g0 dX11_isRow_37 rfl ?_
      obtain ⟨hb, h⟩ := gd_some h
      refine r_iaload g0 (is_a_Mo_tried i_v0_1) (n := 5) rfl i_v4_1 hb dX11_isRow_39 ?_
      refine r_ishl g0 dX11_isRow_40 ?_
      refine r_ior g0 dX11_isRow_41 ?_
      refine r_istore_n g0 (lv' := [some (.ref (E.1 v0_1)), none, some (.int (J v2_1)), some (.int (J (ior v3_2 (ishl 1 (rd (wt s_2 (a_Mo_tried v0_1) v4_1 (Int.tmod v2_1 5)) (a_Mo_tried v0_1) v4_1))))), some (.int (J v4_1))]) dX11_isRow_42 (by decide) rfl rfl ?_
      refine r_iload_n g0 dX11_isRow_43 rfl ?_
      refine r_iconst g0 dX11_isRow_44 ?_
      refine r_idiv g0 dX11_isRow_45 i_v2_1 (InR_lit rfl) (by decide) ?_
      refine r_istore_n g0 (lv' := [some (.ref (E.1 v0_1)), none, some (.int (J (wr (Int.tdiv v2_1 5)))), some (.int (J (ior v3_2 (ishl 1 (rd (wt s_2 (a_Mo_tried v0_1) v4_1 (Int.tmod v2_1 5)) (a_Mo_tried v0_1) v4_1))))), some (.int (J v4_1))]) dX11_isRow_46 (by decide) rfl rfl ?_
      refine r_iinc g0 (a := v4_1) (lv' := [some (.ref (E.1 v0_1)), none, some (.int (J (wr (Int.tdiv v2_1 5)))), some (.int (J (ior v3_2 (ishl 1 (rd (wt s_2 (a_Mo_tried v0_1) v4_1 (Int.tmod v2_1 5)) (a_Mo_tried v0_1) v4_1))))), some (.int (J (wr (v4_1 + (-1)))))]) dX11_isRow_47 (by decide) rfl rfl rfl ?_
      refine r_goto g0 16 dX11_isRow_50 (by decide) ?_
      exact ih (wr (Int.tdiv v2_1 5)) (ior v3_2 (ishl 1 (rd (wt s_2 (a_Mo_tried v0_1) v4_1 (Int.tmod v2_1 5)) (a_Mo_tried v0_1) v4_1))) (wr (v4_1 + (-1))) (wt s_2 (a_Mo_tried v0_1) v4_1 (Int.tmod v2_1 5)) (InR_wr _) (InR_to _) (InR_wr _) h
set_option maxHeartbeats 4000000 in
set_option maxRecDepth 100000 in
theorem c_X11_isRow {E : u_E} {l : Launch} {o : u_O} {p1 : Int} (ho : is_Mo o) (i_p1 : InR p1) {s s' : u_S} {r : Int} (h : f_X11_isRow o p1 s = some (r, s')) : Con l (XE E) yX11_isRow cX11_isRow 5 (some .boolean) 0 0 0 0 [.ref (E.1 o), .int (J p1)] (Wd E s) (RZ E r s') := by
  refine Con.of [some (.ref (E.1 o)), some (.int (J p1)), none, none, none] (by decide +kernel) rfl rfl (Nat.le_of_ble_eq_true rfl) (fun K g => ?_)
  have g0 := g.wk
  unfold f_X11_isRow at h
  refine r_iload_n g0 dX11_isRow_0 rfl ?_
  refine r_istore_n g0 (lv' := [some (.ref (E.1 o)), some (.int (J p1)), some (.int (J p1)), none, none]) dX11_isRow_1 (by decide) rfl rfl ?_
  refine r_iconst g0 dX11_isRow_2 ?_
  refine r_istore_n g0 (lv' := [some (.ref (E.1 o)), some (.int (J p1)), some (.int (J p1)), some (.int (J 0)), none]) dX11_isRow_3 (by decide) rfl rfl ?_
  refine r_aload_n g0 dX11_isRow_4 rfl ?_
  refine g_Mo_all g0 ho qX11_7 dX11_isRow_5 ?_
  refine r_sipush g0 dX11_isRow_8 rfl ?_
  obtain ⟨hb, h⟩ := gd_some h
  refine r_iaload g0 (is_a_Mo_all ho) (n := 145) rfl (InR_lit rfl) hb dX11_isRow_11 ?_
  refine r_iconst g0 dX11_isRow_12 ?_
  refine r_isub g0 dX11_isRow_13 ?_
  refine r_istore g0 (lv' := [some (.ref (E.1 o)), some (.int (J p1)), some (.int (J p1)), some (.int (J 0)), some (.int (J (wr ((rd s (a_Mo_all o) 139) - 1))))]) dX11_isRow_14 (by decide) rfl rfl ?_
  refine r_mask g0 (lv' := [some (.ref (E.1 o)), none, some (.int (J p1)), some (.int (J 0)), some (.int (J (wr ((rd s (a_Mo_all o) 139) - 1))))]) [true, false, true, true, true] rfl ?_
  refine t_X11_isRow_L16 g ho ?_ FU p1 0 (wr ((rd s (a_Mo_all o) 139) - 1)) s i_p1 (B01.inR B01_0) (InR_wr _) h
  · intro v3_1 s_1 i_v3_1 h
    refine r_iload_n g0 dX11_isRow_53 rfl ?_
    refine r_iconst g0 dX11_isRow_54 ?_
    refine r_aload_n g0 dX11_isRow_55 rfl ?_
    refine g_Mo_all g0 ho qX11_7 dX11_isRow_56 ?_
    refine r_sipush g0 dX11_isRow_59 rfl ?_
    obtain ⟨hb, h⟩ := gd_some h
    refine r_iaload g0 (is_a_Mo_all ho) (n := 145) rfl (InR_lit rfl) hb dX11_isRow_62 ?_
    refine r_ishl g0 dX11_isRow_63 ?_
    refine r_iconst g0 dX11_isRow_64 ?_
    refine r_isub g0 dX11_isRow_65 ?_
    refine r_icmp_ne g0 73 dX11_isRow_66 (by decide) i_v3_1 (InR_wr _) (fun hc => ?_) (fun hc => ?_)
    · replace h := if_f hc h
      refine r_iconst g0 dX11_isRow_73 ?_
      exact z_Z g dX11_isRow_74 B01_0 h
    · replace h := if_t hc h
      refine r_iconst g0 dX11_isRow_69 ?_
      refine r_goto g0 74 dX11_isRow_70 (by decide) ?_
      exact z_Z g dX11_isRow_74 B01_1 h
theorem dX11_isLess_0 : decode cX11_isLess 0 = .ok (.iconst 0, 1) := by decide +kernel
theorem dX11_isLess_1 : decode cX11_isLess 1 = .ok (.istore_n 1, 1) := by decide +kernel
theorem dX11_isLess_2 : decode cX11_isLess 2 = .ok (.iload_n 1, 1) := by decide +kernel
theorem dX11_isLess_3 : decode cX11_isLess 3 = .ok (.aload_n 0, 1) := by decide +kernel
theorem dX11_isLess_4 : decode cX11_isLess 4 = .ok (.getfield 7, 3) := by decide +kernel
theorem dX11_isLess_7 : decode cX11_isLess 7 = .ok (.sipush 139, 3) := by decide +kernel
theorem dX11_isLess_10 : decode cX11_isLess 10 = .ok (.iaload, 1) := by decide +kernel
theorem dX11_isLess_11 : decode cX11_isLess 11 = .ok (.if_icmp .ge 61, 3) := by decide +kernel
theorem dX11_isLess_14 : decode cX11_isLess 14 = .ok (.aload_n 0, 1) := by decide +kernel
theorem dX11_isLess_15 : decode cX11_isLess 15 = .ok (.aload_n 0, 1) := by decide +kernel
theorem dX11_isLess_16 : decode cX11_isLess 16 = .ok (.getfield 46, 3) := by decide +kernel
theorem dX11_isLess_19 : decode cX11_isLess 19 = .ok (.iload_n 1, 1) := by decide +kernel
theorem dX11_isLess_20 : decode cX11_isLess 20 = .ok (.iaload, 1) := by decide +kernel
theorem dX11_isLess_21 : decode cX11_isLess 21 = .ok (.invokevirtual 296, 3) := by decide +kernel
theorem dX11_isLess_24 : decode cX11_isLess 24 = .ok (.aload_n 0, 1) := by decide +kernel
theorem dX11_isLess_25 : decode cX11_isLess 25 = .ok (.aload_n 0, 1) := by decide +kernel
theorem dX11_isLess_26 : decode cX11_isLess 26 = .ok (.getfield 43, 3) := by decide +kernel
theorem dX11_isLess_29 : decode cX11_isLess 29 = .ok (.iload_n 1, 1) := by decide +kernel
theorem dX11_isLess_30 : decode cX11_isLess 30 = .ok (.iaload, 1) := by decide +kernel
theorem dX11_isLess_31 : decode cX11_isLess 31 = .ok (.invokevirtual 296, 3) := by decide +kernel
theorem dX11_isLess_34 : decode cX11_isLess 34 = .ok (.if_icmp .eq 32, 3) := by decide +kernel
theorem dX11_isLess_37 : decode cX11_isLess 37 = .ok (.aload_n 0, 1) := by decide +kernel
theorem dX11_isLess_38 : decode cX11_isLess 38 = .ok (.aload_n 0, 1) := by decide +kernel
theorem dX11_isLess_39 : decode cX11_isLess 39 = .ok (.getfield 46, 3) := by decide +kernel
theorem dX11_isLess_42 : decode cX11_isLess 42 = .ok (.iload_n 1, 1) := by decide +kernel
theorem dX11_isLess_43 : decode cX11_isLess 43 = .ok (.iaload, 1) := by decide +kernel
theorem dX11_isLess_44 : decode cX11_isLess 44 = .ok (.invokevirtual 296, 3) := by decide +kernel
theorem dX11_isLess_47 : decode cX11_isLess 47 = .ok (.aload_n 0, 1) := by decide +kernel
theorem dX11_isLess_48 : decode cX11_isLess 48 = .ok (.aload_n 0, 1) := by decide +kernel
theorem dX11_isLess_49 : decode cX11_isLess 49 = .ok (.getfield 43, 3) := by decide +kernel
theorem dX11_isLess_52 : decode cX11_isLess 52 = .ok (.iload_n 1, 1) := by decide +kernel
theorem dX11_isLess_53 : decode cX11_isLess 53 = .ok (.iaload, 1) := by decide +kernel
theorem dX11_isLess_54 : decode cX11_isLess 54 = .ok (.invokevirtual 296, 3) := by decide +kernel
theorem dX11_isLess_57 : decode cX11_isLess 57 = .ok (.if_icmp .ge 7, 3) := by decide +kernel
theorem dX11_isLess_60 : decode cX11_isLess 60 = .ok (.iconst 1, 1) := by decide +kernel
theorem dX11_isLess_61 : decode cX11_isLess 61 = .ok (.goto 4, 3) := by decide +kernel
theorem dX11_isLess_64 : decode cX11_isLess 64 = .ok (.iconst 0, 1) := by decide +kernel
theorem dX11_isLess_65 : decode cX11_isLess 65 = .ok (.ireturn, 1) := by decide +kernel
theorem dX11_isLess_66 : decode cX11_isLess 66 = .ok (.iinc 1 1, 3) := by decide +kernel
theorem dX11_isLess_69 : decode cX11_isLess 69 = .ok (.goto (-67), 3) := by decide +kernel
theorem dX11_isLess_72 : decode cX11_isLess 72 = .ok (.iconst 0, 1) := by decide +kernel
theorem dX11_isLess_73 : decode cX11_isLess 73 = .ok (.ireturn, 1) := by decide +kernel
set_option maxHeartbeats 4000000 in
set_option maxRecDepth 100000 in
theorem t_X11_isLess_L2 {l : Launch} {E : u_E} {K : u_K} {r : Int} {s' : u_S} (g : Wk l (XE E) { frames := 1, cells := 0, slots := 0, locals := 21 } cX11_isLess 2 yX11_isLess.cls yX11_isLess.name (some .boolean) (RZ E r s') K) {v0_1 : u_O} (i_v0_1 : is_Mo v0_1) {kx72 : u_S → Option (Int × u_S)} (hkx72 : ∀ (s_7 : u_S), kx72 s_7 = some (r, s') → K 0 0 72 [none, none] [] (Wd E s_7)) : ∀ (m : Nat) (v1_1 : Int) (s_2 : u_S), InR v1_1 → f_X11_isLess_L2 m kx72 v0_1 v1_1 s_2 = some (r, s') → K 0 0 2 [some (.ref (E.1 v0_1)), some (.int (J v1_1))] [] (Wd E s_2) := by
  have g0 := g.wk
  intro m
  induction m with
  | zero =>
    intro v1_1 s_2 i_v1_1 h
    exact absurd (show (none : Option (Int × u_S)) = some (r, s') from h) (by intro z; cases z)
  | succ m ih =>
    intro v1_1 s_2 i_v1_1 h
    rw [f_X11_isLess_L2] at h
    refine r_iload_n g0 dX11_isLess_2 rfl ?_
    refine r_aload_n g0 dX11_isLess_3 rfl ?_
    refine g_Mo_all g0 i_v0_1 qX11_7 dX11_isLess_4 ?_
    refine r_sipush g0 dX11_isLess_7 rfl ?_
    obtain ⟨hb, h⟩ := gd_some h
    refine r_iaload g0 (is_a_Mo_all i_v0_1) (n := 145) rfl (InR_lit rfl) hb dX11_isLess_10 ?_
    refine r_icmp_ge g0 72 dX11_isLess_11 (by decide) i_v1_1 (InR_rd _ _ _) (fun hc => ?_) (fun hc => ?_)
    · replace h := if_f hc h
      refine r_mask g0 (lv' := [none, none]) [false, false] rfl ?_
      exact hkx72 s_2 h
    · replace h := if_t hc h
      refine r_aload_n g0 dX11_isLess_14 rfl ?_
      refine r_aload_n g0 dX11_isLess_15 rfl ?_
      refine g_Mo_tried g0 i_v0_1 qX11_46 dX11_isLess_16 ?_
      refine r_iload_n g0 dX11_isLess_19 rfl ?_
      obtain ⟨hb, h⟩ := gd_some h
      refine r_iaload g0 (is_a_Mo_tried i_v0_1) (n := 5) rfl i_v1_1 hb dX11_isLess_20 ?_
      obtain ⟨r_1, s_3, hr_1, h⟩ := bd_some h
      refine r_cVI g0 (rest := []) (c_X11_keyAt i_v0_1 (InR_rd _ _ _) hr_1) ok_X11_keyAt mX11_296 (recv_Mo i_v0_1) dX11_isLess_21 ⟨Nat.le_of_ble_eq_true rfl, Nat.le_of_ble_eq_true rfl⟩ ⟨Nat.zero_le _, Nat.zero_le _⟩ rfl (Nat.le_of_ble_eq_true rfl) rfl (fun i_r_1 => ?_)
      refine r_aload_n g0 dX11_isLess_24 rfl ?_
      refine r_aload_n g0 dX11_isLess_25 rfl ?_
      refine g_Mo_bestRow g0 i_v0_1 qX11_43 dX11_isLess_26 ?_
      refine r_iload_n g0 dX11_isLess_29 rfl ?_
      obtain ⟨hb, h⟩ := gd_some h
      refine r_iaload g0 (is_a_Mo_bestRow i_v0_1) (n := 5) rfl i_v1_1 hb dX11_isLess_30 ?_
      obtain ⟨r_2, s_4, hr_2, h⟩ := bd_some h
      refine r_cVI g0 (rest := [.int (J r_1)]) (c_X11_keyAt i_v0_1 (InR_rd _ _ _) hr_2) ok_X11_keyAt mX11_296 (recv_Mo i_v0_1) dX11_isLess_31 ⟨Nat.le_of_ble_eq_true rfl, Nat.le_of_ble_eq_true rfl⟩ ⟨Nat.zero_le _, Nat.zero_le _⟩ rfl (Nat.le_of_ble_eq_true rfl) rfl (fun i_r_2 => ?_)
      refine r_icmp_eq g0 66 dX11_isLess_34 (by decide) i_r_1 i_r_2 (fun hc => ?_) (fun hc => ?_)
      · replace h := if_t hc h
        refine r_iinc g0 (a := v1_1) (lv' := [some (.ref (E.1 v0_1)), some (.int (J (wr (v1_1 + 1))))]) dX11_isLess_66 (by decide) rfl rfl rfl ?_
        refine r_goto g0 2 dX11_isLess_69 (by decide) ?_
        exact ih (wr (v1_1 + 1)) s_4 (InR_wr _) h
      · replace h := if_f hc h
        refine r_aload_n g0 dX11_isLess_37 rfl ?_
        refine r_aload_n g0 dX11_isLess_38 rfl ?_
        refine g_Mo_tried g0 i_v0_1 qX11_46 dX11_isLess_39 ?_
        refine r_iload_n g0 dX11_isLess_42 rfl ?_
        obtain ⟨hb, h⟩ := gd_some h
        refine r_iaload g0 (is_a_Mo_tried i_v0_1) (n := 5) rfl i_v1_1 hb dX11_isLess_43 ?_
        obtain ⟨r_3, s_5, hr_3, h⟩ := bd_some h
        refine r_cVI g0 (rest := []) (c_X11_keyAt i_v0_1 (InR_rd _ _ _) hr_3) ok_X11_keyAt mX11_296 (recv_Mo i_v0_1) dX11_isLess_44 ⟨Nat.le_of_ble_eq_true rfl, Nat.le_of_ble_eq_true rfl⟩ ⟨Nat.zero_le _, Nat.zero_le _⟩ rfl (Nat.le_of_ble_eq_true rfl) rfl (fun i_r_3 => ?_)
        refine r_aload_n g0 dX11_isLess_47 rfl ?_
        refine r_aload_n g0 dX11_isLess_48 rfl ?_
        refine g_Mo_bestRow g0 i_v0_1 qX11_43 dX11_isLess_49 ?_
        refine r_iload_n g0 dX11_isLess_52 rfl ?_
        obtain ⟨hb, h⟩ := gd_some h
        refine r_iaload g0 (is_a_Mo_bestRow i_v0_1) (n := 5) rfl i_v1_1 hb dX11_isLess_53 ?_
        obtain ⟨r_4, s_6, hr_4, h⟩ := bd_some h
        refine r_cVI g0 (rest := [.int (J r_3)]) (c_X11_keyAt i_v0_1 (InR_rd _ _ _) hr_4) ok_X11_keyAt mX11_296 (recv_Mo i_v0_1) dX11_isLess_54 ⟨Nat.le_of_ble_eq_true rfl, Nat.le_of_ble_eq_true rfl⟩ ⟨Nat.zero_le _, Nat.zero_le _⟩ rfl (Nat.le_of_ble_eq_true rfl) rfl (fun i_r_4 => ?_)
        refine r_icmp_ge g0 64 dX11_isLess_57 (by decide) i_r_3 i_r_4 (fun hc => ?_) (fun hc => ?_)
        · replace h := if_f hc h
          refine r_iconst g0 dX11_isLess_64 ?_
          exact z_Z g dX11_isLess_65 B01_0 h
        · replace h := if_t hc h
          refine r_iconst g0 dX11_isLess_60 ?_
          refine r_goto g0 65 dX11_isLess_61 (by decide) ?_
          exact z_Z g dX11_isLess_65 B01_1 h
set_option maxHeartbeats 4000000 in
set_option maxRecDepth 100000 in
theorem c_X11_isLess {E : u_E} {l : Launch} {o : u_O} (ho : is_Mo o) {s s' : u_S} {r : Int} (h : f_X11_isLess o s = some (r, s')) : Con l (XE E) yX11_isLess cX11_isLess 2 (some .boolean) 1 21 0 0 [.ref (E.1 o)] (Wd E s) (RZ E r s') := by
  refine Con.of [some (.ref (E.1 o)), none] (by decide +kernel) rfl rfl (Nat.le_of_ble_eq_true rfl) (fun K g => ?_)
  have g0 := g.wk
  unfold f_X11_isLess at h
  refine r_iconst g0 dX11_isLess_0 ?_
  refine r_istore_n g0 (lv' := [some (.ref (E.1 o)), some (.int (J 0))]) dX11_isLess_1 (by decide) rfl rfl ?_
  refine t_X11_isLess_L2 g ho ?_ FU 0 s (B01.inR B01_0) h
  · intro s_1 h
    refine r_iconst g0 dX11_isLess_72 ?_
    exact z_Z g dX11_isLess_73 B01_0 h
theorem dX11_bestPath_0 : decode cX11_bestPath 0 = .ok (.iconst (-1), 1) := by decide +kernel
theorem dX11_bestPath_1 : decode cX11_bestPath 1 = .ok (.istore_n 1, 1) := by decide +kernel
theorem dX11_bestPath_2 : decode cX11_bestPath 2 = .ok (.aload_n 0, 1) := by decide +kernel
theorem dX11_bestPath_3 : decode cX11_bestPath 3 = .ok (.getfield 7, 3) := by decide +kernel
theorem dX11_bestPath_6 : decode cX11_bestPath 6 = .ok (.sipush 139, 3) := by decide +kernel
theorem dX11_bestPath_9 : decode cX11_bestPath 9 = .ok (.iaload, 1) := by decide +kernel
theorem dX11_bestPath_10 : decode cX11_bestPath 10 = .ok (.istore_n 2, 1) := by decide +kernel
theorem dX11_bestPath_11 : decode cX11_bestPath 11 = .ok (.aload_n 0, 1) := by decide +kernel
theorem dX11_bestPath_12 : decode cX11_bestPath 12 = .ok (.invokevirtual 299, 3) := by decide +kernel
theorem dX11_bestPath_15 : decode cX11_bestPath 15 = .ok (.iconst 0, 1) := by decide +kernel
theorem dX11_bestPath_16 : decode cX11_bestPath 16 = .ok (.istore_n 3, 1) := by decide +kernel
theorem dX11_bestPath_17 : decode cX11_bestPath 17 = .ok (.iload_n 3, 1) := by decide +kernel
theorem dX11_bestPath_18 : decode cX11_bestPath 18 = .ok (.sipush 3125, 3) := by decide +kernel
theorem dX11_bestPath_21 : decode cX11_bestPath 21 = .ok (.if_icmp .ge 143, 3) := by decide +kernel
theorem dX11_bestPath_24 : decode cX11_bestPath 24 = .ok (.aload_n 0, 1) := by decide +kernel
theorem dX11_bestPath_25 : decode cX11_bestPath 25 = .ok (.iload_n 3, 1) := by decide +kernel
theorem dX11_bestPath_26 : decode cX11_bestPath 26 = .ok (.invokevirtual 302, 3) := by decide +kernel
theorem dX11_bestPath_29 : decode cX11_bestPath 29 = .ok (.ifCond .eq 129, 3) := by decide +kernel
theorem dX11_bestPath_32 : decode cX11_bestPath 32 = .ok (.iconst 0, 1) := by decide +kernel
theorem dX11_bestPath_33 : decode cX11_bestPath 33 = .ok (.istore 4, 2) := by decide +kernel
theorem dX11_bestPath_35 : decode cX11_bestPath 35 = .ok (.iconst 5, 1) := by decide +kernel
theorem dX11_bestPath_36 : decode cX11_bestPath 36 = .ok (.istore 5, 2) := by decide +kernel
theorem dX11_bestPath_38 : decode cX11_bestPath 38 = .ok (.iconst 0, 1) := by decide +kernel
theorem dX11_bestPath_39 : decode cX11_bestPath 39 = .ok (.istore 6, 2) := by decide +kernel
theorem dX11_bestPath_41 : decode cX11_bestPath 41 = .ok (.iload 6, 2) := by decide +kernel
theorem dX11_bestPath_43 : decode cX11_bestPath 43 = .ok (.iload_n 2, 1) := by decide +kernel
theorem dX11_bestPath_44 : decode cX11_bestPath 44 = .ok (.if_icmp .ge 41, 3) := by decide +kernel
theorem dX11_bestPath_47 : decode cX11_bestPath 47 = .ok (.iload 4, 2) := by decide +kernel
theorem dX11_bestPath_49 : decode cX11_bestPath 49 = .ok (.aload_n 0, 1) := by decide +kernel
theorem dX11_bestPath_50 : decode cX11_bestPath 50 = .ok (.getfield 40, 3) := by decide +kernel
theorem dX11_bestPath_53 : decode cX11_bestPath 53 = .ok (.bipush 6, 2) := by decide +kernel
theorem dX11_bestPath_55 : decode cX11_bestPath 55 = .ok (.iload 5, 2) := by decide +kernel
theorem dX11_bestPath_57 : decode cX11_bestPath 57 = .ok (.imul, 1) := by decide +kernel
theorem dX11_bestPath_58 : decode cX11_bestPath 58 = .ok (.aload_n 0, 1) := by decide +kernel
theorem dX11_bestPath_59 : decode cX11_bestPath 59 = .ok (.getfield 46, 3) := by decide +kernel
theorem dX11_bestPath_62 : decode cX11_bestPath 62 = .ok (.iload 6, 2) := by decide +kernel
theorem dX11_bestPath_64 : decode cX11_bestPath 64 = .ok (.iaload, 1) := by decide +kernel
theorem dX11_bestPath_65 : decode cX11_bestPath 65 = .ok (.iadd, 1) := by decide +kernel
theorem dX11_bestPath_66 : decode cX11_bestPath 66 = .ok (.iaload, 1) := by decide +kernel
theorem dX11_bestPath_67 : decode cX11_bestPath 67 = .ok (.iadd, 1) := by decide +kernel
theorem dX11_bestPath_68 : decode cX11_bestPath 68 = .ok (.istore 4, 2) := by decide +kernel
theorem dX11_bestPath_70 : decode cX11_bestPath 70 = .ok (.aload_n 0, 1) := by decide +kernel
theorem dX11_bestPath_71 : decode cX11_bestPath 71 = .ok (.getfield 46, 3) := by decide +kernel
theorem dX11_bestPath_74 : decode cX11_bestPath 74 = .ok (.iload 6, 2) := by decide +kernel
theorem dX11_bestPath_76 : decode cX11_bestPath 76 = .ok (.iaload, 1) := by decide +kernel
theorem dX11_bestPath_77 : decode cX11_bestPath 77 = .ok (.istore 5, 2) := by decide +kernel
theorem dX11_bestPath_79 : decode cX11_bestPath 79 = .ok (.iinc 6 1, 3) := by decide +kernel
theorem dX11_bestPath_82 : decode cX11_bestPath 82 = .ok (.goto (-41), 3) := by decide +kernel
theorem dX11_bestPath_85 : decode cX11_bestPath 85 = .ok (.iload 4, 2) := by decide +kernel
theorem dX11_bestPath_87 : decode cX11_bestPath 87 = .ok (.aload_n 0, 1) := by decide +kernel
theorem dX11_bestPath_88 : decode cX11_bestPath 88 = .ok (.getfield 40, 3) := by decide +kernel
theorem dX11_bestPath_91 : decode cX11_bestPath 91 = .ok (.bipush 6, 2) := by decide +kernel
theorem dX11_bestPath_93 : decode cX11_bestPath 93 = .ok (.iload 5, 2) := by decide +kernel
theorem dX11_bestPath_95 : decode cX11_bestPath 95 = .ok (.imul, 1) := by decide +kernel
theorem dX11_bestPath_96 : decode cX11_bestPath 96 = .ok (.iconst 5, 1) := by decide +kernel
theorem dX11_bestPath_97 : decode cX11_bestPath 97 = .ok (.iadd, 1) := by decide +kernel
theorem dX11_bestPath_98 : decode cX11_bestPath 98 = .ok (.iaload, 1) := by decide +kernel
theorem dX11_bestPath_99 : decode cX11_bestPath 99 = .ok (.iadd, 1) := by decide +kernel
theorem dX11_bestPath_100 : decode cX11_bestPath 100 = .ok (.istore 4, 2) := by decide +kernel
theorem dX11_bestPath_102 : decode cX11_bestPath 102 = .ok (.iload_n 1, 1) := by decide +kernel
theorem dX11_bestPath_103 : decode cX11_bestPath 103 = .ok (.iconst (-1), 1) := by decide +kernel
theorem dX11_bestPath_104 : decode cX11_bestPath 104 = .ok (.if_icmp .eq 22, 3) := by decide +kernel
theorem dX11_bestPath_107 : decode cX11_bestPath 107 = .ok (.iload 4, 2) := by decide +kernel
theorem dX11_bestPath_109 : decode cX11_bestPath 109 = .ok (.iload_n 1, 1) := by decide +kernel
theorem dX11_bestPath_110 : decode cX11_bestPath 110 = .ok (.if_icmp .lt 16, 3) := by decide +kernel
theorem dX11_bestPath_113 : decode cX11_bestPath 113 = .ok (.iload 4, 2) := by decide +kernel
theorem dX11_bestPath_115 : decode cX11_bestPath 115 = .ok (.iload_n 1, 1) := by decide +kernel
theorem dX11_bestPath_116 : decode cX11_bestPath 116 = .ok (.if_icmp .ne 42, 3) := by decide +kernel
theorem dX11_bestPath_119 : decode cX11_bestPath 119 = .ok (.aload_n 0, 1) := by decide +kernel
theorem dX11_bestPath_120 : decode cX11_bestPath 120 = .ok (.invokevirtual 305, 3) := by decide +kernel
theorem dX11_bestPath_123 : decode cX11_bestPath 123 = .ok (.ifCond .eq 35, 3) := by decide +kernel
theorem dX11_bestPath_126 : decode cX11_bestPath 126 = .ok (.iload 4, 2) := by decide +kernel
theorem dX11_bestPath_128 : decode cX11_bestPath 128 = .ok (.istore_n 1, 1) := by decide +kernel
theorem dX11_bestPath_129 : decode cX11_bestPath 129 = .ok (.iconst 0, 1) := by decide +kernel
theorem dX11_bestPath_130 : decode cX11_bestPath 130 = .ok (.istore 6, 2) := by decide +kernel
theorem dX11_bestPath_132 : decode cX11_bestPath 132 = .ok (.iload 6, 2) := by decide +kernel
theorem dX11_bestPath_134 : decode cX11_bestPath 134 = .ok (.iload_n 2, 1) := by decide +kernel
theorem dX11_bestPath_135 : decode cX11_bestPath 135 = .ok (.if_icmp .ge 23, 3) := by decide +kernel
theorem dX11_bestPath_138 : decode cX11_bestPath 138 = .ok (.aload_n 0, 1) := by decide +kernel
theorem dX11_bestPath_139 : decode cX11_bestPath 139 = .ok (.getfield 43, 3) := by decide +kernel
theorem dX11_bestPath_142 : decode cX11_bestPath 142 = .ok (.iload 6, 2) := by decide +kernel
theorem dX11_bestPath_144 : decode cX11_bestPath 144 = .ok (.aload_n 0, 1) := by decide +kernel
theorem dX11_bestPath_145 : decode cX11_bestPath 145 = .ok (.getfield 46, 3) := by decide +kernel
theorem dX11_bestPath_148 : decode cX11_bestPath 148 = .ok (.iload 6, 2) := by decide +kernel
theorem dX11_bestPath_150 : decode cX11_bestPath 150 = .ok (.iaload, 1) := by decide +kernel
theorem dX11_bestPath_151 : decode cX11_bestPath 151 = .ok (.iastore, 1) := by decide +kernel
theorem dX11_bestPath_152 : decode cX11_bestPath 152 = .ok (.iinc 6 1, 3) := by decide +kernel
theorem dX11_bestPath_155 : decode cX11_bestPath 155 = .ok (.goto (-23), 3) := by decide +kernel
theorem dX11_bestPath_158 : decode cX11_bestPath 158 = .ok (.iinc 3 1, 3) := by decide +kernel
theorem dX11_bestPath_161 : decode cX11_bestPath 161 = .ok (.goto (-144), 3) := by decide +kernel
theorem dX11_bestPath_164 : decode cX11_bestPath 164 = .ok (.iload_n 1, 1) := by decide +kernel
theorem dX11_bestPath_165 : decode cX11_bestPath 165 = .ok (.ireturn, 1) := by decide +kernel
set_option maxHeartbeats 4000000 in
set_option maxRecDepth 100000 in
theorem t_X11_bestPath_L132 {l : Launch} {E : u_E} {K : u_K} {r : Int} {s' : u_S} (g : Wk l (XE E) { frames := 3, cells := 0, slots := 0, locals := 71 } cX11_bestPath 7 yX11_bestPath.cls yX11_bestPath.name (some .int) (RI E r s') K) {v0_2 : u_O} {v1_4 : Int} {v2_2 : Int} {v3_2 : Int} (i_v0_2 : is_Mo v0_2) (i_v1_4 : InR v1_4) (i_v2_2 : InR v2_2) (i_v3_2 : InR v3_2) {kx158 : u_S → Option (Int × u_S)} (hkx158 : ∀ (s_10 : u_S), kx158 s_10 = some (r, s') → K 0 0 158 [some (.ref (E.1 v0_2)), some (.int (J v1_4)), some (.int (J v2_2)), some (.int (J v3_2)), none, none, none] [] (Wd E s_10)) : ∀ (m : Nat) (v6_1 : Int) (s_9 : u_S), InR v6_1 → f_X11_bestPath_L132 m kx158 v0_2 v1_4 v2_2 v3_2 v6_1 s_9 = some (r, s') → K 0 0 132 [some (.ref (E.1 v0_2)), some (.int (J v1_4)), some (.int (J v2_2)), some (.int (J v3_2)), none, none, some (.int (J v6_1))] [] (Wd E s_9) := by
  have g0 := g.wk
  intro m
  induction m with
  | zero =>
    intro v6_1 s_9 i_v6_1 h
    exact absurd (show (none : Option (Int × u_S)) = some (r, s') from h) (by intro z; cases z)
  | succ m ih =>
    intro v6_1 s_9 i_v6_1 h
    rw [f_X11_bestPath_L132] at h
    refine r_iload g0 dX11_bestPath_132 rfl ?_
    refine r_iload_n g0 dX11_bestPath_134 rfl ?_
    refine r_icmp_ge g0 158 dX11_bestPath_135 (by decide) i_v6_1 i_v2_2 (fun hc => ?_) (fun hc => ?_)
    · replace h := if_f hc h
      refine r_mask g0 (lv' := [some (.ref (E.1 v0_2)), some (.int (J v1_4)), some (.int (J v2_2)), some (.int (J v3_2)), none, none, none]) [true, true, true, true, false, false, false] rfl ?_
      exact hkx158 s_9 h
    · replace h := if_t hc h
      refine r_aload_n g0 dX11_bestPath_138 rfl ?_
      refine g_Mo_bestRow g0 i_v0_2 qX11_43 dX11_bestPath_139 ?_
      refine r_iload g0 dX11_bestPath_142 rfl ?_
      refine r_aload_n g0 dX11_bestPath_144 rfl ?_
      refine g_Mo_tried g0 i_v0_2 qX11_46 dX11_bestPath_145 ?_
      refine r_iload g0 dX11_bestPath_148 rfl ?_
      obtain ⟨hb, h⟩ := gd_some h
      refine r_iaload g0 (is_a_Mo_tried i_v0_2) (n := 5) rfl i_v6_1 hb dX11_bestPath_150 ?_
      obtain ⟨hb, h⟩ := gd_some h
      refine r_iastore g0 (is_a_Mo_bestRow i_v0_2) (n := 5) rfl i_v6_1 hb dX11_bestPath_151 ?_
      refine r_iinc g0 (a := v6_1) (lv' := [some (.ref (E.1 v0_2)), some (.int (J v1_4)), some (.int (J v2_2)), some (.int (J v3_2)), none, none, some (.int (J (wr (v6_1 + 1))))]) dX11_bestPath_152 (by decide) rfl rfl rfl ?_
      refine r_goto g0 132 dX11_bestPath_155 (by decide) ?_
      exact ih (wr (v6_1 + 1)) (wt s_9 (a_Mo_bestRow v0_2) v6_1 (rd s_9 (a_Mo_tried v0_2) v6_1)) (InR_wr _) h
set_option maxHeartbeats 4000000 in
set_option maxRecDepth 100000 in
theorem t_X11_bestPath_L41 {l : Launch} {E : u_E} {K : u_K} {r : Int} {s' : u_S} (g : Wk l (XE E) { frames := 3, cells := 0, slots := 0, locals := 71 } cX11_bestPath 7 yX11_bestPath.cls yX11_bestPath.name (some .int) (RI E r s') K) {v0_3 : u_O} {v1_5 : Int} {v2_3 : Int} {v3_3 : Int} (i_v0_3 : is_Mo v0_3) (i_v1_5 : InR v1_5) (i_v2_3 : InR v2_3) (i_v3_3 : InR v3_3) {kx85 : Int → Int → u_S → Option (Int × u_S)} (hkx85 : ∀ (v4_3 : Int) (v5_3 : Int) (s_13 : u_S), InR v4_3 → InR v5_3 → kx85 v4_3 v5_3 s_13 = some (r, s') → K 0 0 85 [some (.ref (E.1 v0_3)), some (.int (J v1_5)), some (.int (J v2_3)), some (.int (J v3_3)), some (.int (J v4_3)), some (.int (J v5_3)), none] [] (Wd E s_13)) : ∀ (m : Nat) (v4_2 : Int) (v5_2 : Int) (v6_2 : Int) (s_12 : u_S), InR v4_2 → InR v5_2 → InR v6_2 → f_X11_bestPath_L41 m kx85 v0_3 v1_5 v2_3 v3_3 v4_2 v5_2 v6_2 s_12 = some (r, s') → K 0 0 41 [some (.ref (E.1 v0_3)), some (.int (J v1_5)), some (.int (J v2_3)), some (.int (J v3_3)), some (.int (J v4_2)), some (.int (J v5_2)), some (.int (J v6_2))] [] (Wd E s_12) := by
  have g0 := g.wk
  intro m
  induction m with
  | zero =>
    intro v4_2 v5_2 v6_2 s_12 i_v4_2 i_v5_2 i_v6_2 h
    exact absurd (show (none : Option (Int × u_S)) = some (r, s') from h) (by intro z; cases z)
  | succ m ih =>
    intro v4_2 v5_2 v6_2 s_12 i_v4_2 i_v5_2 i_v6_2 h
    rw [f_X11_bestPath_L41] at h
    refine r_iload g0 dX11_bestPath_41 rfl ?_
    refine r_iload_n g0 dX11_bestPath_43 rfl ?_
    refine r_icmp_ge g0 85 dX11_bestPath_44 (by decide) i_v6_2 i_v2_3 (fun hc => ?_) (fun hc => ?_)
    · replace h := if_f hc h
      refine r_mask g0 (lv' := [some (.ref (E.1 v0_3)), some (.int (J v1_5)), some (.int (J v2_3)), some (.int (J v3_3)), some (.int (J v4_2)), some (.int (J v5_2)), none]) [true, true, true, true, true, true, false] rfl ?_
      exact hkx85 v4_2 v5_2 s_12 i_v4_2 i_v5_2 h
    · replace h := if_t hc h
      refine r_iload g0 dX11_bestPath_47 rfl ?_
      refine r_aload_n g0 dX11_bestPath_49 rfl ?_
      refine g_Mo_between g0 i_v0_3 qX11_40 dX11_bestPath_50 ?_
      refine r_bipush g0 dX11_bestPath_53 rfl ?_
      refine r_iload g0 dX11_bestPath_55 rfl ?_
      refine r_imul g0 dX11_bestPath_57 ?_
      refine r_aload_n g0 dX11_bestPath_58 rfl ?_
      refine g_Mo_tried g0 i_v0_3 qX11_46 dX11_bestPath_59 ?_
      refine r_iload g0 dX11_bestPath_62 rfl ?_
      obtain ⟨hb, h⟩ := gd_some h
      refine r_iaload g0 (is_a_Mo_tried i_v0_3) (n := 5) rfl i_v6_2 hb dX11_bestPath_64 ?_
      refine r_iadd g0 dX11_bestPath_65 ?_
      obtain ⟨hb, h⟩ := gd_some h
      refine r_iaload g0 (is_a_Mo_between i_v0_3) (n := 36) rfl (InR_wr _) hb dX11_bestPath_66 ?_
      refine r_iadd g0 dX11_bestPath_67 ?_
      refine r_istore g0 (lv' := [some (.ref (E.1 v0_3)), some (.int (J v1_5)), some (.int (J v2_3)), some (.int (J v3_3)), some (.int (J (wr (v4_2 + (rd s_12 (a_Mo_between v0_3) (wr ((wr (6 * v5_2)) + (rd s_12 (a_Mo_tried v0_3) v6_2)))))))), some (.int (J v5_2)), some (.int (J v6_2))]) dX11_bestPath_68 (by decide) rfl rfl ?_
      refine r_aload_n g0 dX11_bestPath_70 rfl ?_
      refine g_Mo_tried g0 i_v0_3 qX11_46 dX11_bestPath_71 ?_
      refine r_iload g0 dX11_bestPath_74 rfl ?_
      obtain ⟨hb, h⟩ := gd_some h
      refine r_iaload g0 (is_a_Mo_tried i_v0_3) (n := 5) rfl i_v6_2 hb dX11_bestPath_76 ?_
      refine r_istore g0 (lv' := [some (.ref (E.1 v0_3)), some (.int (J v1_5)), some (.int (J v2_3)), some (.int (J v3_3)), some (.int (J (wr (v4_2 + (rd s_12 (a_Mo_between v0_3) (wr ((wr (6 * v5_2)) + (rd s_12 (a_Mo_tried v0_3) v6_2)))))))), some (.int (J (rd s_12 (a_Mo_tried v0_3) v6_2))), some (.int (J v6_2))]) dX11_bestPath_77 (by decide) rfl rfl ?_
      refine r_iinc g0 (a := v6_2) (lv' := [some (.ref (E.1 v0_3)), some (.int (J v1_5)), some (.int (J v2_3)), some (.int (J v3_3)), some (.int (J (wr (v4_2 + (rd s_12 (a_Mo_between v0_3) (wr ((wr (6 * v5_2)) + (rd s_12 (a_Mo_tried v0_3) v6_2)))))))), some (.int (J (rd s_12 (a_Mo_tried v0_3) v6_2))), some (.int (J (wr (v6_2 + 1))))]) dX11_bestPath_79 (by decide) rfl rfl rfl ?_
      refine r_goto g0 41 dX11_bestPath_82 (by decide) ?_
      exact ih (wr (v4_2 + (rd s_12 (a_Mo_between v0_3) (wr ((wr (6 * v5_2)) + (rd s_12 (a_Mo_tried v0_3) v6_2)))))) (rd s_12 (a_Mo_tried v0_3) v6_2) (wr (v6_2 + 1)) s_12 (InR_wr _) (InR_rd _ _ _) (InR_wr _) h
set_option maxHeartbeats 4000000 in
set_option maxRecDepth 100000 in
theorem t_X11_bestPath_L17 {l : Launch} {E : u_E} {K : u_K} {r : Int} {s' : u_S} (g : Wk l (XE E) { frames := 3, cells := 0, slots := 0, locals := 71 } cX11_bestPath 7 yX11_bestPath.cls yX11_bestPath.name (some .int) (RI E r s') K) {v0_1 : u_O} {v2_1 : Int} (i_v0_1 : is_Mo v0_1) (i_v2_1 : InR v2_1) {kx164 : Int → u_S → Option (Int × u_S)} (hkx164 : ∀ (v1_6 : Int) (s_14 : u_S), InR v1_6 → kx164 v1_6 s_14 = some (r, s') → K 0 0 164 [none, some (.int (J v1_6)), none, none, none, none, none] [] (Wd E s_14)) : ∀ (m : Nat) (v1_2 : Int) (v3_1 : Int) (s_3 : u_S), InR v1_2 → InR v3_1 → f_X11_bestPath_L17 m kx164 v0_1 v2_1 v1_2 v3_1 s_3 = some (r, s') → K 0 0 17 [some (.ref (E.1 v0_1)), some (.int (J v1_2)), some (.int (J v2_1)), some (.int (J v3_1)), none, none, none] [] (Wd E s_3) := by
  have g0 := g.wk
  intro m
  induction m with
  | zero =>
    intro v1_2 v3_1 s_3 i_v1_2 i_v3_1 h
    exact absurd (show (none : Option (Int × u_S)) = some (r, s') from h) (by intro z; cases z)
  | succ m ih =>
    intro v1_2 v3_1 s_3 i_v1_2 i_v3_1 h
    rw [f_X11_bestPath_L17] at h
    refine r_iload_n g0 dX11_bestPath_17 rfl ?_
    refine r_sipush g0 dX11_bestPath_18 rfl ?_
    refine r_icmp_ge g0 164 dX11_bestPath_21 (by decide) i_v3_1 (InR_lit rfl) (fun hc => ?_) (fun hc => ?_)
    · replace h := if_f hc h
      refine r_mask g0 (lv' := [none, some (.int (J v1_2)), none, none, none, none, none]) [false, true, false, false, false, false, false] rfl ?_
      exact hkx164 v1_2 s_3 i_v1_2 h
    · replace h := if_t hc h
      refine r_aload_n g0 dX11_bestPath_24 rfl ?_
      refine r_iload_n g0 dX11_bestPath_25 rfl ?_
      obtain ⟨r_2, s_4, hr_2, h⟩ := bd_some h
      refine r_cVZ g0 (rest := []) (c_X11_isRow i_v0_1 i_v3_1 hr_2) ok_X11_isRow mX11_302 (recv_Mo i_v0_1) dX11_bestPath_26 ⟨Nat.le_of_ble_eq_true rfl, Nat.le_of_ble_eq_true rfl⟩ ⟨Nat.zero_le _, Nat.zero_le _⟩ rfl (Nat.le_of_ble_eq_true rfl) rfl (fun i_r_2 => ?_)
      obtain ⟨jp_1, hdjp_1, h⟩ := jn_some h
      have hjp_1 : ∀ (v1_3 : Int) (s_5 : u_S), InR v1_3 → jp_1 v1_3 s_5 = some (r, s') → K 0 0 158 [some (.ref (E.1 v0_1)), some (.int (J v1_3)), some (.int (J v2_1)), some (.int (J v3_1)), none, none, none] [] (Wd E s_5) := by
        intro v1_3 s_5 i_v1_3 h
        subst hdjp_1
        refine r_iinc g0 (a := v3_1) (lv' := [some (.ref (E.1 v0_1)), some (.int (J v1_3)), some (.int (J v2_1)), some (.int (J (wr (v3_1 + 1)))), none, none, none]) dX11_bestPath_158 (by decide) rfl rfl rfl ?_
        refine r_goto g0 17 dX11_bestPath_161 (by decide) ?_
        exact ih v1_3 (wr (v3_1 + 1)) s_5 i_v1_3 (InR_wr _) h
      clear hdjp_1
      refine r_if_eq g0 158 dX11_bestPath_29 (by decide) (B01.inR i_r_2) (fun hc => ?_) (fun hc => ?_)
      · replace h := if_t hc h
        exact hjp_1 v1_2 s_4 i_v1_2 h
      · replace h := if_f hc h
        refine r_iconst g0 dX11_bestPath_32 ?_
        refine r_istore g0 (lv' := [some (.ref (E.1 v0_1)), some (.int (J v1_2)), some (.int (J v2_1)), some (.int (J v3_1)), some (.int (J 0)), none, none]) dX11_bestPath_33 (by decide) rfl rfl ?_
        refine r_iconst g0 dX11_bestPath_35 ?_
        refine r_istore g0 (lv' := [some (.ref (E.1 v0_1)), some (.int (J v1_2)), some (.int (J v2_1)), some (.int (J v3_1)), some (.int (J 0)), some (.int (J 5)), none]) dX11_bestPath_36 (by decide) rfl rfl ?_
        refine r_iconst g0 dX11_bestPath_38 ?_
        refine r_istore g0 (lv' := [some (.ref (E.1 v0_1)), some (.int (J v1_2)), some (.int (J v2_1)), some (.int (J v3_1)), some (.int (J 0)), some (.int (J 5)), some (.int (J 0))]) dX11_bestPath_39 (by decide) rfl rfl ?_
        refine t_X11_bestPath_L41 g i_v0_1 i_v1_2 i_v2_1 i_v3_1 ?_ FU 0 5 0 s_4 (B01.inR B01_0) (InR_lit rfl) (B01.inR B01_0) h
        · intro v4_1 v5_1 s_6 i_v4_1 i_v5_1 h
          refine r_iload g0 dX11_bestPath_85 rfl ?_
          refine r_aload_n g0 dX11_bestPath_87 rfl ?_
          refine g_Mo_between g0 i_v0_1 qX11_40 dX11_bestPath_88 ?_
          refine r_bipush g0 dX11_bestPath_91 rfl ?_
          refine r_iload g0 dX11_bestPath_93 rfl ?_
          refine r_imul g0 dX11_bestPath_95 ?_
          refine r_iconst g0 dX11_bestPath_96 ?_
          refine r_iadd g0 dX11_bestPath_97 ?_
          obtain ⟨hb, h⟩ := gd_some h
          refine r_iaload g0 (is_a_Mo_between i_v0_1) (n := 36) rfl (InR_wr _) hb dX11_bestPath_98 ?_
          refine r_iadd g0 dX11_bestPath_99 ?_
          refine r_istore g0 (lv' := [some (.ref (E.1 v0_1)), some (.int (J v1_2)), some (.int (J v2_1)), some (.int (J v3_1)), some (.int (J (wr (v4_1 + (rd s_6 (a_Mo_between v0_1) (wr ((wr (6 * v5_1)) + 5))))))), some (.int (J v5_1)), none]) dX11_bestPath_100 (by decide) rfl rfl ?_
          refine r_iload_n g0 dX11_bestPath_102 rfl ?_
          refine r_iconst g0 dX11_bestPath_103 ?_
          obtain ⟨jp_2, hdjp_2, h⟩ := jn_some h
          have hjp_2 : ∀  (s_7 : u_S), jp_2 s_7 = some (r, s') → K 0 0 126 [some (.ref (E.1 v0_1)), none, some (.int (J v2_1)), some (.int (J v3_1)), some (.int (J (wr (v4_1 + (rd s_6 (a_Mo_between v0_1) (wr ((wr (6 * v5_1)) + 5))))))), none, none] [] (Wd E s_7) := by
            intro s_7 h
            subst hdjp_2
            refine r_iload g0 dX11_bestPath_126 rfl ?_
            refine r_istore_n g0 (lv' := [some (.ref (E.1 v0_1)), some (.int (J (wr (v4_1 + (rd s_6 (a_Mo_between v0_1) (wr ((wr (6 * v5_1)) + 5))))))), some (.int (J v2_1)), some (.int (J v3_1)), some (.int (J (wr (v4_1 + (rd s_6 (a_Mo_between v0_1) (wr ((wr (6 * v5_1)) + 5))))))), none, none]) dX11_bestPath_128 (by decide) rfl rfl ?_
            refine r_iconst g0 dX11_bestPath_129 ?_
            refine r_istore g0 (lv' := [some (.ref (E.1 v0_1)), some (.int (J (wr (v4_1 + (rd s_6 (a_Mo_between v0_1) (wr ((wr (6 * v5_1)) + 5))))))), some (.int (J v2_1)), some (.int (J v3_1)), some (.int (J (wr (v4_1 + (rd s_6 (a_Mo_between v0_1) (wr ((wr (6 * v5_1)) + 5))))))), none, some (.int (J 0))]) dX11_bestPath_130 (by decide) rfl rfl ?_
            refine r_mask g0 (lv' := [some (.ref (E.1 v0_1)), some (.int (J (wr (v4_1 + (rd s_6 (a_Mo_between v0_1) (wr ((wr (6 * v5_1)) + 5))))))), some (.int (J v2_1)), some (.int (J v3_1)), none, none, some (.int (J 0))]) [true, true, true, true, false, false, true] rfl ?_
            refine t_X11_bestPath_L132 g i_v0_1 (InR_wr _) i_v2_1 i_v3_1 ?_ FU 0 s_7 (B01.inR B01_0) h
            · intro s_8 h
              exact hjp_1 (wr (v4_1 + (rd s_6 (a_Mo_between v0_1) (wr ((wr (6 * v5_1)) + 5))))) s_8 (InR_wr _) h
          clear hdjp_2
          refine r_icmp_eq g0 126 dX11_bestPath_104 (by decide) i_v1_2 (InR_lit rfl) (fun hc => ?_) (fun hc => ?_)
          · replace h := if_t hc h
            refine r_mask g0 (lv' := [some (.ref (E.1 v0_1)), none, some (.int (J v2_1)), some (.int (J v3_1)), some (.int (J (wr (v4_1 + (rd s_6 (a_Mo_between v0_1) (wr ((wr (6 * v5_1)) + 5))))))), none, none]) [true, false, true, true, true, false, false] rfl ?_
            exact hjp_2 s_6 h
          · replace h := if_f hc h
            refine r_iload g0 dX11_bestPath_107 rfl ?_
            refine r_iload_n g0 dX11_bestPath_109 rfl ?_
            refine r_icmp_lt g0 126 dX11_bestPath_110 (by decide) (InR_wr _) i_v1_2 (fun hc => ?_) (fun hc => ?_)
            · replace h := if_t hc h
              refine r_mask g0 (lv' := [some (.ref (E.1 v0_1)), none, some (.int (J v2_1)), some (.int (J v3_1)), some (.int (J (wr (v4_1 + (rd s_6 (a_Mo_between v0_1) (wr ((wr (6 * v5_1)) + 5))))))), none, none]) [true, false, true, true, true, false, false] rfl ?_
              exact hjp_2 s_6 h
            · replace h := if_f hc h
              refine r_iload g0 dX11_bestPath_113 rfl ?_
              refine r_iload_n g0 dX11_bestPath_115 rfl ?_
              refine r_icmp_ne g0 158 dX11_bestPath_116 (by decide) (InR_wr _) i_v1_2 (fun hc => ?_) (fun hc => ?_)
              · replace h := if_f hc h
                refine r_mask g0 (lv' := [some (.ref (E.1 v0_1)), some (.int (J v1_2)), some (.int (J v2_1)), some (.int (J v3_1)), none, none, none]) [true, true, true, true, false, false, false] rfl ?_
                exact hjp_1 v1_2 s_6 i_v1_2 h
              · replace h := if_t hc h
                refine r_aload_n g0 dX11_bestPath_119 rfl ?_
                obtain ⟨r_3, s_11, hr_3, h⟩ := bd_some h
                refine r_cVZ g0 (rest := []) (c_X11_isLess i_v0_1 hr_3) ok_X11_isLess mX11_305 (recv_Mo i_v0_1) dX11_bestPath_120 ⟨Nat.le_of_ble_eq_true rfl, Nat.le_of_ble_eq_true rfl⟩ ⟨Nat.zero_le _, Nat.zero_le _⟩ rfl (Nat.le_of_ble_eq_true rfl) rfl (fun i_r_3 => ?_)
                refine r_if_eq g0 158 dX11_bestPath_123 (by decide) (B01.inR i_r_3) (fun hc => ?_) (fun hc => ?_)
                · replace h := if_t hc h
                  refine r_mask g0 (lv' := [some (.ref (E.1 v0_1)), some (.int (J v1_2)), some (.int (J v2_1)), some (.int (J v3_1)), none, none, none]) [true, true, true, true, false, false, false] rfl ?_
                  exact hjp_1 v1_2 s_11 i_v1_2 h
                · replace h := if_f hc h
                  refine r_mask g0 (lv' := [some (.ref (E.1 v0_1)), none, some (.int (J v2_1)), some (.int (J v3_1)), some (.int (J (wr (v4_1 + (rd s_6 (a_Mo_between v0_1) (wr ((wr (6 * v5_1)) + 5))))))), none, none]) [true, false, true, true, true, false, false] rfl ?_
                  exact hjp_2 s_11 h
set_option maxHeartbeats 4000000 in
set_option maxRecDepth 100000 in
theorem c_X11_bestPath {E : u_E} {l : Launch} {o : u_O} (ho : is_Mo o) {s s' : u_S} {r : Int} (h : f_X11_bestPath o s = some (r, s')) : Con l (XE E) yX11_bestPath cX11_bestPath 7 (some .int) 3 71 0 0 [.ref (E.1 o)] (Wd E s) (RI E r s') := by
  refine Con.of [some (.ref (E.1 o)), none, none, none, none, none, none] (by decide +kernel) rfl rfl (Nat.le_of_ble_eq_true rfl) (fun K g => ?_)
  have g0 := g.wk
  unfold f_X11_bestPath at h
  refine r_iconst g0 dX11_bestPath_0 ?_
  refine r_istore_n g0 (lv' := [some (.ref (E.1 o)), some (.int (J (-1))), none, none, none, none, none]) dX11_bestPath_1 (by decide) rfl rfl ?_
  refine r_aload_n g0 dX11_bestPath_2 rfl ?_
  refine g_Mo_all g0 ho qX11_7 dX11_bestPath_3 ?_
  refine r_sipush g0 dX11_bestPath_6 rfl ?_
  obtain ⟨hb, h⟩ := gd_some h
  refine r_iaload g0 (is_a_Mo_all ho) (n := 145) rfl (InR_lit rfl) hb dX11_bestPath_9 ?_
  refine r_istore_n g0 (lv' := [some (.ref (E.1 o)), some (.int (J (-1))), some (.int (J (rd s (a_Mo_all o) 139))), none, none, none, none]) dX11_bestPath_10 (by decide) rfl rfl ?_
  refine r_aload_n g0 dX11_bestPath_11 rfl ?_
  obtain ⟨r_1, s_1, hr_1, h⟩ := bd_some h
  refine r_cVV g0 (rest := []) (c_X11_laysBetween ho hr_1) ok_X11_laysBetween mX11_299 (recv_Mo ho) dX11_bestPath_12 ⟨Nat.le_of_ble_eq_true rfl, Nat.le_of_ble_eq_true rfl⟩ ⟨Nat.zero_le _, Nat.zero_le _⟩ rfl (Nat.le_of_ble_eq_true rfl) rfl ?_
  refine r_iconst g0 dX11_bestPath_15 ?_
  refine r_istore_n g0 (lv' := [some (.ref (E.1 o)), some (.int (J (-1))), some (.int (J (rd s (a_Mo_all o) 139))), some (.int (J 0)), none, none, none]) dX11_bestPath_16 (by decide) rfl rfl ?_
  refine t_X11_bestPath_L17 g ho (InR_rd _ _ _) ?_ FU (-1) 0 s_1 (InR_lit rfl) (B01.inR B01_0) h
  · intro v1_1 s_2 i_v1_1 h
    refine r_iload_n g0 dX11_bestPath_164 rfl ?_
    exact z_I g dX11_bestPath_165 i_v1_1 h
theorem dX11_path_0 : decode cX11_path 0 = .ok (.iload_n 1, 1) := by decide +kernel
theorem dX11_path_1 : decode cX11_path 1 = .ok (.iconst (-1), 1) := by decide +kernel
theorem dX11_path_2 : decode cX11_path 2 = .ok (.if_icmp .ge 10, 3) := by decide +kernel
theorem dX11_path_5 : decode cX11_path 5 = .ok (.aload_n 0, 1) := by decide +kernel
theorem dX11_path_6 : decode cX11_path 6 = .ok (.bipush (-10), 2) := by decide +kernel
theorem dX11_path_8 : decode cX11_path 8 = .ok (.invokevirtual 164, 3) := by decide +kernel
theorem dX11_path_11 : decode cX11_path 11 = .ok (.ireturn, 1) := by decide +kernel
theorem dX11_path_12 : decode cX11_path 12 = .ok (.aload_n 0, 1) := by decide +kernel
theorem dX11_path_13 : decode cX11_path 13 = .ok (.invokevirtual 309, 3) := by decide +kernel
theorem dX11_path_16 : decode cX11_path 16 = .ok (.istore_n 2, 1) := by decide +kernel
theorem dX11_path_17 : decode cX11_path 17 = .ok (.iload_n 1, 1) := by decide +kernel
theorem dX11_path_18 : decode cX11_path 18 = .ok (.iconst (-1), 1) := by decide +kernel
theorem dX11_path_19 : decode cX11_path 19 = .ok (.if_icmp .ne 7, 3) := by decide +kernel
theorem dX11_path_22 : decode cX11_path 22 = .ok (.iload_n 2, 1) := by decide +kernel
theorem dX11_path_23 : decode cX11_path 23 = .ok (.goto 30, 3) := by decide +kernel
theorem dX11_path_26 : decode cX11_path 26 = .ok (.iload_n 1, 1) := by decide +kernel
theorem dX11_path_27 : decode cX11_path 27 = .ok (.aload_n 0, 1) := by decide +kernel
theorem dX11_path_28 : decode cX11_path 28 = .ok (.getfield 7, 3) := by decide +kernel
theorem dX11_path_31 : decode cX11_path 31 = .ok (.sipush 139, 3) := by decide +kernel
theorem dX11_path_34 : decode cX11_path 34 = .ok (.iaload, 1) := by decide +kernel
theorem dX11_path_35 : decode cX11_path 35 = .ok (.if_icmp .ge 16, 3) := by decide +kernel
theorem dX11_path_38 : decode cX11_path 38 = .ok (.aload_n 0, 1) := by decide +kernel
theorem dX11_path_39 : decode cX11_path 39 = .ok (.aload_n 0, 1) := by decide +kernel
theorem dX11_path_40 : decode cX11_path 40 = .ok (.getfield 43, 3) := by decide +kernel
theorem dX11_path_43 : decode cX11_path 43 = .ok (.iload_n 1, 1) := by decide +kernel
theorem dX11_path_44 : decode cX11_path 44 = .ok (.iaload, 1) := by decide +kernel
theorem dX11_path_45 : decode cX11_path 45 = .ok (.invokevirtual 296, 3) := by decide +kernel
theorem dX11_path_48 : decode cX11_path 48 = .ok (.goto 5, 3) := by decide +kernel
theorem dX11_path_51 : decode cX11_path 51 = .ok (.bipush (-5), 2) := by decide +kernel
theorem dX11_path_53 : decode cX11_path 53 = .ok (.ireturn, 1) := by decide +kernel
set_option maxHeartbeats 4000000 in
set_option maxRecDepth 100000 in
theorem c_X11_path {E : u_E} {l : Launch} {o : u_O} {p1 : Int} (ho : is_Mo o) (i_p1 : InR p1) {s s' : u_S} {r : Int} (h : f_X11_path o p1 s = some (r, s')) : Con l (XE E) yX11_path cX11_path 3 (some .int) 4 97 0 0 [.ref (E.1 o), .int (J p1)] (Wd E s) (RI E r s') := by
  refine Con.of [some (.ref (E.1 o)), some (.int (J p1)), none] (by decide +kernel) rfl rfl (Nat.le_of_ble_eq_true rfl) (fun K g => ?_)
  have g0 := g.wk
  unfold f_X11_path at h
  refine r_iload_n g0 dX11_path_0 rfl ?_
  refine r_iconst g0 dX11_path_1 ?_
  refine r_icmp_ge g0 12 dX11_path_2 (by decide) i_p1 (InR_lit rfl) (fun hc => ?_) (fun hc => ?_)
  · replace h := if_f hc h
    refine r_aload_n g0 dX11_path_12 rfl ?_
    obtain ⟨r_1, s_1, hr_1, h⟩ := bd_some h
    refine r_cVI g0 (rest := []) (c_X11_bestPath ho hr_1) ok_X11_bestPath mX11_309 (recv_Mo ho) dX11_path_13 ⟨Nat.le_of_ble_eq_true rfl, Nat.le_of_ble_eq_true rfl⟩ ⟨Nat.zero_le _, Nat.zero_le _⟩ rfl (Nat.le_of_ble_eq_true rfl) rfl (fun i_r_1 => ?_)
    refine r_istore_n g0 (lv' := [some (.ref (E.1 o)), some (.int (J p1)), some (.int (J r_1))]) dX11_path_16 (by decide) rfl rfl ?_
    refine r_iload_n g0 dX11_path_17 rfl ?_
    refine r_iconst g0 dX11_path_18 ?_
    refine r_icmp_ne g0 26 dX11_path_19 (by decide) i_p1 (InR_lit rfl) (fun hc => ?_) (fun hc => ?_)
    · replace h := if_f hc h
      refine r_iload_n g0 dX11_path_26 rfl ?_
      refine r_aload_n g0 dX11_path_27 rfl ?_
      refine g_Mo_all g0 ho qX11_7 dX11_path_28 ?_
      refine r_sipush g0 dX11_path_31 rfl ?_
      obtain ⟨hb, h⟩ := gd_some h
      refine r_iaload g0 (is_a_Mo_all ho) (n := 145) rfl (InR_lit rfl) hb dX11_path_34 ?_
      refine r_icmp_ge g0 51 dX11_path_35 (by decide) i_p1 (InR_rd _ _ _) (fun hc => ?_) (fun hc => ?_)
      · replace h := if_f hc h
        refine r_bipush g0 dX11_path_51 rfl ?_
        exact z_I g dX11_path_53 (InR_lit rfl) h
      · replace h := if_t hc h
        refine r_aload_n g0 dX11_path_38 rfl ?_
        refine r_aload_n g0 dX11_path_39 rfl ?_
        refine g_Mo_bestRow g0 ho qX11_43 dX11_path_40 ?_
        refine r_iload_n g0 dX11_path_43 rfl ?_
        obtain ⟨hb, h⟩ := gd_some h
        refine r_iaload g0 (is_a_Mo_bestRow ho) (n := 5) rfl i_p1 hb dX11_path_44 ?_
        obtain ⟨r_2, s_2, hr_2, h⟩ := bd_some h
        refine r_cVI g0 (rest := []) (c_X11_keyAt ho (InR_rd _ _ _) hr_2) ok_X11_keyAt mX11_296 (recv_Mo ho) dX11_path_45 ⟨Nat.le_of_ble_eq_true rfl, Nat.le_of_ble_eq_true rfl⟩ ⟨Nat.zero_le _, Nat.zero_le _⟩ rfl (Nat.le_of_ble_eq_true rfl) rfl (fun i_r_2 => ?_)
        refine r_goto g0 53 dX11_path_48 (by decide) ?_
        exact z_I g dX11_path_53 i_r_2 h
    · replace h := if_t hc h
      refine r_iload_n g0 dX11_path_22 rfl ?_
      refine r_goto g0 53 dX11_path_23 (by decide) ?_
      exact z_I g dX11_path_53 i_r_1 h
  · replace h := if_t hc h
    refine r_aload_n g0 dX11_path_5 rfl ?_
    refine r_bipush g0 dX11_path_6 rfl ?_
    obtain ⟨r_3, s_3, hr_3, h⟩ := bd_some h
    refine r_cVI g0 (rest := []) (c_X11_bad ho (InR_lit rfl) hr_3) ok_X11_bad mX11_164 (recv_Mo ho) dX11_path_8 ⟨Nat.le_of_ble_eq_true rfl, Nat.le_of_ble_eq_true rfl⟩ ⟨Nat.zero_le _, Nat.zero_le _⟩ rfl (Nat.le_of_ble_eq_true rfl) rfl (fun i_r_3 => ?_)
    exact z_I g dX11_path_11 i_r_3 h
theorem dX11_type_0 : decode cX11_type 0 = .ok (.iload_n 1, 1) := by decide +kernel
theorem dX11_type_1 : decode cX11_type 1 = .ok (.i2l, 1) := by decide +kernel
theorem dX11_type_2 : decode cX11_type 2 = .ok (.lconst 0, 1) := by decide +kernel
theorem dX11_type_3 : decode cX11_type 3 = .ok (.ldc2_w 312, 3) := by decide +kernel
theorem dX11_type_6 : decode cX11_type 6 = .ok (.invokestatic 61, 3) := by decide +kernel
theorem dX11_type_9 : decode cX11_type 9 = .ok (.ifCond .ne 10, 3) := by decide +kernel
theorem dX11_type_12 : decode cX11_type 12 = .ok (.aload_n 0, 1) := by decide +kernel
theorem dX11_type_13 : decode cX11_type 13 = .ok (.bipush (-2), 2) := by decide +kernel
theorem dX11_type_15 : decode cX11_type 15 = .ok (.invokevirtual 97, 3) := by decide +kernel
theorem dX11_type_18 : decode cX11_type 18 = .ok (.ireturn, 1) := by decide +kernel
theorem dX11_type_19 : decode cX11_type 19 = .ok (.aload_n 0, 1) := by decide +kernel
theorem dX11_type_20 : decode cX11_type 20 = .ok (.getfield 314, 3) := by decide +kernel
theorem dX11_type_23 : decode cX11_type 23 = .ok (.bipush 120, 2) := by decide +kernel
theorem dX11_type_25 : decode cX11_type 25 = .ok (.if_icmp .ne 10, 3) := by decide +kernel
theorem dX11_type_28 : decode cX11_type 28 = .ok (.aload_n 0, 1) := by decide +kernel
theorem dX11_type_29 : decode cX11_type 29 = .ok (.bipush (-4), 2) := by decide +kernel
theorem dX11_type_31 : decode cX11_type 31 = .ok (.invokevirtual 97, 3) := by decide +kernel
theorem dX11_type_34 : decode cX11_type 34 = .ok (.ireturn, 1) := by decide +kernel
theorem dX11_type_35 : decode cX11_type 35 = .ok (.aload_n 0, 1) := by decide +kernel
theorem dX11_type_36 : decode cX11_type 36 = .ok (.getfield 49, 3) := by decide +kernel
theorem dX11_type_39 : decode cX11_type 39 = .ok (.aload_n 0, 1) := by decide +kernel
theorem dX11_type_40 : decode cX11_type 40 = .ok (.getfield 314, 3) := by decide +kernel
theorem dX11_type_43 : decode cX11_type 43 = .ok (.iload_n 1, 1) := by decide +kernel
theorem dX11_type_44 : decode cX11_type 44 = .ok (.iastore, 1) := by decide +kernel
theorem dX11_type_45 : decode cX11_type 45 = .ok (.aload_n 0, 1) := by decide +kernel
theorem dX11_type_46 : decode cX11_type 46 = .ok (.dup, 1) := by decide +kernel
theorem dX11_type_47 : decode cX11_type 47 = .ok (.getfield 314, 3) := by decide +kernel
theorem dX11_type_50 : decode cX11_type 50 = .ok (.iconst 1, 1) := by decide +kernel
theorem dX11_type_51 : decode cX11_type 51 = .ok (.iadd, 1) := by decide +kernel
theorem dX11_type_52 : decode cX11_type 52 = .ok (.putfield 314, 3) := by decide +kernel
theorem dX11_type_55 : decode cX11_type 55 = .ok (.aload_n 0, 1) := by decide +kernel
theorem dX11_type_56 : decode cX11_type 56 = .ok (.getfield 314, 3) := by decide +kernel
theorem dX11_type_59 : decode cX11_type 59 = .ok (.ireturn, 1) := by decide +kernel
set_option maxHeartbeats 4000000 in
set_option maxRecDepth 100000 in
theorem c_X11_type {E : u_E} {l : Launch} {o : u_O} {p1 : Int} (ho : is_Mo o) (i_p1 : InR p1) {s s' : u_S} {r : Int} (h : f_X11_type o p1 s = some (r, s')) : Con l (XE E) yX11_type cX11_type 2 (some .int) 1 25 0 0 [.ref (E.1 o), .int (J p1)] (Wd E s) (RI E r s') := by
  refine Con.of [some (.ref (E.1 o)), some (.int (J p1))] (by decide +kernel) rfl rfl (Nat.le_of_ble_eq_true rfl) (fun K g => ?_)
  have g0 := g.wk
  unfold f_X11_type at h
  refine r_iload_n g0 dX11_type_0 rfl ?_
  refine r_i2l g0 dX11_type_1 i_p1 ?_
  refine r_lconst g0 (v := 0) dX11_type_2 rfl ?_
  refine r_ldc2 g0 (v := 127) dX11_type_3 kX11_312 ?_
  obtain ⟨r_1, s_1, hr_1, h⟩ := bd_some h
  refine r_cSZ g0 (rest := []) (c_X11_in (InL_i i_p1) (InL_lit rfl) (InL_lit rfl) hr_1) ok_X11_in mX11_61 dX11_type_6 ⟨Nat.le_of_ble_eq_true rfl, Nat.le_of_ble_eq_true rfl⟩ ⟨Nat.zero_le _, Nat.zero_le _⟩ rfl (Nat.le_of_ble_eq_true rfl) rfl (fun i_r_1 => ?_)
  refine r_if_ne g0 19 dX11_type_9 (by decide) (B01.inR i_r_1) (fun hc => ?_) (fun hc => ?_)
  · replace h := if_f hc h
    refine r_aload_n g0 dX11_type_19 rfl ?_
    refine g_Mo_textLong g0 ho qX11_314 dX11_type_20 ?_
    refine r_bipush g0 dX11_type_23 rfl ?_
    refine r_icmp_ne g0 35 dX11_type_25 (by decide) (InR_rd _ _ _) (InR_lit rfl) (fun hc => ?_) (fun hc => ?_)
    · replace h := if_f hc h
      refine r_aload_n g0 dX11_type_35 rfl ?_
      refine g_Mo_text g0 ho qX11_49 dX11_type_36 ?_
      refine r_aload_n g0 dX11_type_39 rfl ?_
      refine g_Mo_textLong g0 ho qX11_314 dX11_type_40 ?_
      refine r_iload_n g0 dX11_type_43 rfl ?_
      obtain ⟨hb, h⟩ := gd_some h
      refine r_iastore g0 (is_a_Mo_text ho) (n := 120) rfl (InR_rd _ _ _) hb dX11_type_44 ?_
      refine r_aload_n g0 dX11_type_45 rfl ?_
      refine r_dup g0 dX11_type_46 rfl ?_
      refine g_Mo_textLong g0 ho qX11_314 dX11_type_47 ?_
      refine r_iconst g0 dX11_type_50 ?_
      refine r_iadd g0 dX11_type_51 ?_
      refine p_Mo_textLong g0 ho qX11_314 dX11_type_52 ?_
      refine r_aload_n g0 dX11_type_55 rfl ?_
      refine g_Mo_textLong g0 ho qX11_314 dX11_type_56 ?_
      exact z_I g dX11_type_59 (InR_rd _ _ _) h
    · replace h := if_t hc h
      refine r_aload_n g0 dX11_type_28 rfl ?_
      refine r_bipush g0 dX11_type_29 rfl ?_
      obtain ⟨r_2, s_2, hr_2, h⟩ := bd_some h
      refine r_cVI g0 (rest := []) (c_X11_refuses ho (InR_lit rfl) hr_2) ok_X11_refuses mX11_97 (recv_Mo ho) dX11_type_31 ⟨Nat.le_of_ble_eq_true rfl, Nat.le_of_ble_eq_true rfl⟩ ⟨Nat.zero_le _, Nat.zero_le _⟩ rfl (Nat.le_of_ble_eq_true rfl) rfl (fun i_r_2 => ?_)
      exact z_I g dX11_type_34 i_r_2 h
  · replace h := if_t hc h
    refine r_aload_n g0 dX11_type_12 rfl ?_
    refine r_bipush g0 dX11_type_13 rfl ?_
    obtain ⟨r_3, s_3, hr_3, h⟩ := bd_some h
    refine r_cVI g0 (rest := []) (c_X11_refuses ho (InR_lit rfl) hr_3) ok_X11_refuses mX11_97 (recv_Mo ho) dX11_type_15 ⟨Nat.le_of_ble_eq_true rfl, Nat.le_of_ble_eq_true rfl⟩ ⟨Nat.zero_le _, Nat.zero_le _⟩ rfl (Nat.le_of_ble_eq_true rfl) rfl (fun i_r_3 => ?_)
    exact z_I g dX11_type_18 i_r_3 h
theorem dX11_clear_0 : decode cX11_clear 0 = .ok (.aload_n 0, 1) := by decide +kernel
theorem dX11_clear_1 : decode cX11_clear 1 = .ok (.getfield 314, 3) := by decide +kernel
theorem dX11_clear_4 : decode cX11_clear 4 = .ok (.istore_n 1, 1) := by decide +kernel
theorem dX11_clear_5 : decode cX11_clear 5 = .ok (.aload_n 0, 1) := by decide +kernel
theorem dX11_clear_6 : decode cX11_clear 6 = .ok (.iconst 0, 1) := by decide +kernel
theorem dX11_clear_7 : decode cX11_clear 7 = .ok (.putfield 314, 3) := by decide +kernel
theorem dX11_clear_10 : decode cX11_clear 10 = .ok (.iload_n 1, 1) := by decide +kernel
theorem dX11_clear_11 : decode cX11_clear 11 = .ok (.ireturn, 1) := by decide +kernel
set_option maxHeartbeats 4000000 in
set_option maxRecDepth 100000 in
theorem c_X11_clear {E : u_E} {l : Launch} {o : u_O} (ho : is_Mo o) {s s' : u_S} {r : Int} (h : f_X11_clear o s = some (r, s')) : Con l (XE E) yX11_clear cX11_clear 2 (some .int) 0 0 0 0 [.ref (E.1 o)] (Wd E s) (RI E r s') := by
  refine Con.of [some (.ref (E.1 o)), none] (by decide +kernel) rfl rfl (Nat.le_of_ble_eq_true rfl) (fun K g => ?_)
  have g0 := g.wk
  unfold f_X11_clear at h
  refine r_aload_n g0 dX11_clear_0 rfl ?_
  refine g_Mo_textLong g0 ho qX11_314 dX11_clear_1 ?_
  refine r_istore_n g0 (lv' := [some (.ref (E.1 o)), some (.int (J (rd s o 16)))]) dX11_clear_4 (by decide) rfl rfl ?_
  refine r_aload_n g0 dX11_clear_5 rfl ?_
  refine r_iconst g0 dX11_clear_6 ?_
  refine p_Mo_textLong g0 ho qX11_314 dX11_clear_7 ?_
  refine r_iload_n g0 dX11_clear_10 rfl ?_
  exact z_I g dX11_clear_11 (InR_rd _ _ _) h
theorem dX11_here_0 : decode cX11_here 0 = .ok (.aload_n 0, 1) := by decide +kernel
theorem dX11_here_1 : decode cX11_here 1 = .ok (.getfield 317, 3) := by decide +kernel
theorem dX11_here_4 : decode cX11_here 4 = .ok (.aload_n 0, 1) := by decide +kernel
theorem dX11_here_5 : decode cX11_here 5 = .ok (.getfield 314, 3) := by decide +kernel
theorem dX11_here_8 : decode cX11_here 8 = .ok (.if_icmp .ge 30, 3) := by decide +kernel
theorem dX11_here_11 : decode cX11_here 11 = .ok (.aload_n 0, 1) := by decide +kernel
theorem dX11_here_12 : decode cX11_here 12 = .ok (.getfield 49, 3) := by decide +kernel
theorem dX11_here_15 : decode cX11_here 15 = .ok (.aload_n 0, 1) := by decide +kernel
theorem dX11_here_16 : decode cX11_here 16 = .ok (.getfield 317, 3) := by decide +kernel
theorem dX11_here_19 : decode cX11_here 19 = .ok (.iaload, 1) := by decide +kernel
theorem dX11_here_20 : decode cX11_here 20 = .ok (.bipush 32, 2) := by decide +kernel
theorem dX11_here_22 : decode cX11_here 22 = .ok (.if_icmp .ne 16, 3) := by decide +kernel
theorem dX11_here_25 : decode cX11_here 25 = .ok (.aload_n 0, 1) := by decide +kernel
theorem dX11_here_26 : decode cX11_here 26 = .ok (.dup, 1) := by decide +kernel
theorem dX11_here_27 : decode cX11_here 27 = .ok (.getfield 317, 3) := by decide +kernel
theorem dX11_here_30 : decode cX11_here 30 = .ok (.iconst 1, 1) := by decide +kernel
theorem dX11_here_31 : decode cX11_here 31 = .ok (.iadd, 1) := by decide +kernel
theorem dX11_here_32 : decode cX11_here 32 = .ok (.putfield 317, 3) := by decide +kernel
theorem dX11_here_35 : decode cX11_here 35 = .ok (.goto (-35), 3) := by decide +kernel
theorem dX11_here_38 : decode cX11_here 38 = .ok (.aload_n 0, 1) := by decide +kernel
theorem dX11_here_39 : decode cX11_here 39 = .ok (.getfield 317, 3) := by decide +kernel
theorem dX11_here_42 : decode cX11_here 42 = .ok (.aload_n 0, 1) := by decide +kernel
theorem dX11_here_43 : decode cX11_here 43 = .ok (.getfield 314, 3) := by decide +kernel
theorem dX11_here_46 : decode cX11_here 46 = .ok (.if_icmp .ge 15, 3) := by decide +kernel
theorem dX11_here_49 : decode cX11_here 49 = .ok (.aload_n 0, 1) := by decide +kernel
theorem dX11_here_50 : decode cX11_here 50 = .ok (.getfield 49, 3) := by decide +kernel
theorem dX11_here_53 : decode cX11_here 53 = .ok (.aload_n 0, 1) := by decide +kernel
theorem dX11_here_54 : decode cX11_here 54 = .ok (.getfield 317, 3) := by decide +kernel
theorem dX11_here_57 : decode cX11_here 57 = .ok (.iaload, 1) := by decide +kernel
theorem dX11_here_58 : decode cX11_here 58 = .ok (.goto 4, 3) := by decide +kernel
theorem dX11_here_61 : decode cX11_here 61 = .ok (.iconst (-1), 1) := by decide +kernel
theorem dX11_here_62 : decode cX11_here 62 = .ok (.ireturn, 1) := by decide +kernel
set_option maxHeartbeats 4000000 in
set_option maxRecDepth 100000 in
theorem t_X11_here_L0 {l : Launch} {E : u_E} {K : u_K} {r : Int} {s' : u_S} (g : Wk l (XE E) { frames := 0, cells := 0, slots := 0, locals := 0 } cX11_here 1 yX11_here.cls yX11_here.name (some .int) (RI E r s') K) {v0_1 : u_O} (i_v0_1 : is_Mo v0_1) {kx38 : u_S → Option (Int × u_S)} (hkx38 : ∀ (s_3 : u_S), kx38 s_3 = some (r, s') → K 0 0 38 [some (.ref (E.1 v0_1))] [] (Wd E s_3)) : ∀ (m : Nat) (s_2 : u_S), f_X11_here_L0 m kx38 v0_1 s_2 = some (r, s') → K 0 0 0 [some (.ref (E.1 v0_1))] [] (Wd E s_2) := by
  have g0 := g.wk
  intro m
  induction m with
  | zero =>
    intro s_2 h
    exact absurd (show (none : Option (Int × u_S)) = some (r, s') from h) (by intro z; cases z)
  | succ m ih =>
    intro s_2 h
    rw [f_X11_here_L0] at h
    refine r_aload_n g0 dX11_here_0 rfl ?_
    refine g_Mo_place g0 i_v0_1 qX11_317 dX11_here_1 ?_
    refine r_aload_n g0 dX11_here_4 rfl ?_
    refine g_Mo_textLong g0 i_v0_1 qX11_314 dX11_here_5 ?_
    refine r_icmp_ge g0 38 dX11_here_8 (by decide) (InR_rd _ _ _) (InR_rd _ _ _) (fun hc => ?_) (fun hc => ?_)
    · replace h := if_f hc h
      exact hkx38 s_2 h
    · replace h := if_t hc h
      refine r_aload_n g0 dX11_here_11 rfl ?_
      refine g_Mo_text g0 i_v0_1 qX11_49 dX11_here_12 ?_
      refine r_aload_n g0 dX11_here_15 rfl ?_
      refine g_Mo_place g0 i_v0_1 qX11_317 dX11_here_16 ?_
      obtain ⟨hb, h⟩ := gd_some h
      refine r_iaload g0 (is_a_Mo_text i_v0_1) (n := 120) rfl (InR_rd _ _ _) hb dX11_here_19 ?_
      refine r_bipush g0 dX11_here_20 rfl ?_
      refine r_icmp_ne g0 38 dX11_here_22 (by decide) (InR_rd _ _ _) (InR_lit rfl) (fun hc => ?_) (fun hc => ?_)
      · replace h := if_f hc h
        exact hkx38 s_2 h
      · replace h := if_t hc h
        refine r_aload_n g0 dX11_here_25 rfl ?_
        refine r_dup g0 dX11_here_26 rfl ?_
        refine g_Mo_place g0 i_v0_1 qX11_317 dX11_here_27 ?_
        refine r_iconst g0 dX11_here_30 ?_
        refine r_iadd g0 dX11_here_31 ?_
        refine p_Mo_place g0 i_v0_1 qX11_317 dX11_here_32 ?_
        refine r_goto g0 0 dX11_here_35 (by decide) ?_
        exact ih (wt s_2 v0_1 17 (wr ((rd s_2 v0_1 17) + 1))) h
set_option maxHeartbeats 4000000 in
set_option maxRecDepth 100000 in
theorem c_X11_here {E : u_E} {l : Launch} {o : u_O} (ho : is_Mo o) {s s' : u_S} {r : Int} (h : f_X11_here o s = some (r, s')) : Con l (XE E) yX11_here cX11_here 1 (some .int) 0 0 0 0 [.ref (E.1 o)] (Wd E s) (RI E r s') := by
  refine Con.of [some (.ref (E.1 o))] (by decide +kernel) rfl rfl (Nat.le_of_ble_eq_true rfl) (fun K g => ?_)
  have g0 := g.wk
  unfold f_X11_here at h
  refine t_X11_here_L0 g ho ?_ FU s h
  · intro s_1 h
    refine r_aload_n g0 dX11_here_38 rfl ?_
    refine g_Mo_place g0 ho qX11_317 dX11_here_39 ?_
    refine r_aload_n g0 dX11_here_42 rfl ?_
    refine g_Mo_textLong g0 ho qX11_314 dX11_here_43 ?_
    refine r_icmp_ge g0 61 dX11_here_46 (by decide) (InR_rd _ _ _) (InR_rd _ _ _) (fun hc => ?_) (fun hc => ?_)
    · replace h := if_f hc h
      refine r_iconst g0 dX11_here_61 ?_
      exact z_I g dX11_here_62 (InR_lit rfl) h
    · replace h := if_t hc h
      refine r_aload_n g0 dX11_here_49 rfl ?_
      refine g_Mo_text g0 ho qX11_49 dX11_here_50 ?_
      refine r_aload_n g0 dX11_here_53 rfl ?_
      refine g_Mo_place g0 ho qX11_317 dX11_here_54 ?_
      obtain ⟨hb, h⟩ := gd_some h
      refine r_iaload g0 (is_a_Mo_text ho) (n := 120) rfl (InR_rd _ _ _) hb dX11_here_57 ?_
      refine r_goto g0 62 dX11_here_58 (by decide) ?_
      exact z_I g dX11_here_62 (InR_rd _ _ _) h
theorem dX11_isFigure_0 : decode cX11_isFigure 0 = .ok (.iload_n 1, 1) := by decide +kernel
theorem dX11_isFigure_1 : decode cX11_isFigure 1 = .ok (.aload_n 0, 1) := by decide +kernel
theorem dX11_isFigure_2 : decode cX11_isFigure 2 = .ok (.getfield 314, 3) := by decide +kernel
theorem dX11_isFigure_5 : decode cX11_isFigure 5 = .ok (.if_icmp .ge 26, 3) := by decide +kernel
theorem dX11_isFigure_8 : decode cX11_isFigure 8 = .ok (.aload_n 0, 1) := by decide +kernel
theorem dX11_isFigure_9 : decode cX11_isFigure 9 = .ok (.getfield 49, 3) := by decide +kernel
theorem dX11_isFigure_12 : decode cX11_isFigure 12 = .ok (.iload_n 1, 1) := by decide +kernel
theorem dX11_isFigure_13 : decode cX11_isFigure 13 = .ok (.iaload, 1) := by decide +kernel
theorem dX11_isFigure_14 : decode cX11_isFigure 14 = .ok (.i2l, 1) := by decide +kernel
theorem dX11_isFigure_15 : decode cX11_isFigure 15 = .ok (.ldc2_w 320, 3) := by decide +kernel
theorem dX11_isFigure_18 : decode cX11_isFigure 18 = .ok (.ldc2_w 322, 3) := by decide +kernel
theorem dX11_isFigure_21 : decode cX11_isFigure 21 = .ok (.invokestatic 61, 3) := by decide +kernel
theorem dX11_isFigure_24 : decode cX11_isFigure 24 = .ok (.ifCond .eq 7, 3) := by decide +kernel
theorem dX11_isFigure_27 : decode cX11_isFigure 27 = .ok (.iconst 1, 1) := by decide +kernel
theorem dX11_isFigure_28 : decode cX11_isFigure 28 = .ok (.goto 4, 3) := by decide +kernel
theorem dX11_isFigure_31 : decode cX11_isFigure 31 = .ok (.iconst 0, 1) := by decide +kernel
theorem dX11_isFigure_32 : decode cX11_isFigure 32 = .ok (.ireturn, 1) := by decide +kernel
set_option maxHeartbeats 4000000 in
set_option maxRecDepth 100000 in
theorem c_X11_isFigure {E : u_E} {l : Launch} {o : u_O} {p1 : Int} (ho : is_Mo o) (i_p1 : InR p1) {s s' : u_S} {r : Int} (h : f_X11_isFigure o p1 s = some (r, s')) : Con l (XE E) yX11_isFigure cX11_isFigure 2 (some .boolean) 1 25 0 0 [.ref (E.1 o), .int (J p1)] (Wd E s) (RZ E r s') := by
  refine Con.of [some (.ref (E.1 o)), some (.int (J p1))] (by decide +kernel) rfl rfl (Nat.le_of_ble_eq_true rfl) (fun K g => ?_)
  have g0 := g.wk
  unfold f_X11_isFigure at h
  refine r_iload_n g0 dX11_isFigure_0 rfl ?_
  refine r_aload_n g0 dX11_isFigure_1 rfl ?_
  refine g_Mo_textLong g0 ho qX11_314 dX11_isFigure_2 ?_
  refine r_icmp_ge g0 31 dX11_isFigure_5 (by decide) i_p1 (InR_rd _ _ _) (fun hc => ?_) (fun hc => ?_)
  · replace h := if_f hc h
    refine r_iconst g0 dX11_isFigure_31 ?_
    exact z_Z g dX11_isFigure_32 B01_0 h
  · replace h := if_t hc h
    refine r_aload_n g0 dX11_isFigure_8 rfl ?_
    refine g_Mo_text g0 ho qX11_49 dX11_isFigure_9 ?_
    refine r_iload_n g0 dX11_isFigure_12 rfl ?_
    obtain ⟨hb, h⟩ := gd_some h
    refine r_iaload g0 (is_a_Mo_text ho) (n := 120) rfl i_p1 hb dX11_isFigure_13 ?_
    refine r_i2l g0 dX11_isFigure_14 (InR_rd _ _ _) ?_
    refine r_ldc2 g0 (v := 48) dX11_isFigure_15 kX11_320 ?_
    refine r_ldc2 g0 (v := 57) dX11_isFigure_18 kX11_322 ?_
    obtain ⟨r_1, s_1, hr_1, h⟩ := bd_some h
    refine r_cSZ g0 (rest := []) (c_X11_in (InL_i (InR_rd _ _ _)) (InL_lit rfl) (InL_lit rfl) hr_1) ok_X11_in mX11_61 dX11_isFigure_21 ⟨Nat.le_of_ble_eq_true rfl, Nat.le_of_ble_eq_true rfl⟩ ⟨Nat.zero_le _, Nat.zero_le _⟩ rfl (Nat.le_of_ble_eq_true rfl) rfl (fun i_r_1 => ?_)
    refine r_if_eq g0 31 dX11_isFigure_24 (by decide) (B01.inR i_r_1) (fun hc => ?_) (fun hc => ?_)
    · replace h := if_t hc h
      refine r_iconst g0 dX11_isFigure_31 ?_
      exact z_Z g dX11_isFigure_32 B01_0 h
    · replace h := if_f hc h
      refine r_iconst g0 dX11_isFigure_27 ?_
      refine r_goto g0 32 dX11_isFigure_28 (by decide) ?_
      exact z_Z g dX11_isFigure_32 B01_1 h
theorem dX11_takes_0 : decode cX11_takes 0 = .ok (.iload_n 1, 1) := by decide +kernel
theorem dX11_takes_1 : decode cX11_takes 1 = .ok (.ifCond .eq 16, 3) := by decide +kernel
theorem dX11_takes_4 : decode cX11_takes 4 = .ok (.aload_n 0, 1) := by decide +kernel
theorem dX11_takes_5 : decode cX11_takes 5 = .ok (.invokevirtual 324, 3) := by decide +kernel
theorem dX11_takes_8 : decode cX11_takes 8 = .ok (.bipush 45, 2) := by decide +kernel
theorem dX11_takes_10 : decode cX11_takes 10 = .ok (.if_icmp .ne 7, 3) := by decide +kernel
theorem dX11_takes_13 : decode cX11_takes 13 = .ok (.iconst 1, 1) := by decide +kernel
theorem dX11_takes_14 : decode cX11_takes 14 = .ok (.goto 4, 3) := by decide +kernel
theorem dX11_takes_17 : decode cX11_takes 17 = .ok (.iconst 0, 1) := by decide +kernel
theorem dX11_takes_18 : decode cX11_takes 18 = .ok (.istore_n 2, 1) := by decide +kernel
theorem dX11_takes_19 : decode cX11_takes 19 = .ok (.aload_n 0, 1) := by decide +kernel
theorem dX11_takes_20 : decode cX11_takes 20 = .ok (.invokevirtual 324, 3) := by decide +kernel
theorem dX11_takes_23 : decode cX11_takes 23 = .ok (.istore_n 3, 1) := by decide +kernel
theorem dX11_takes_24 : decode cX11_takes 24 = .ok (.iload_n 2, 1) := by decide +kernel
theorem dX11_takes_25 : decode cX11_takes 25 = .ok (.ifCond .eq 12, 3) := by decide +kernel
theorem dX11_takes_28 : decode cX11_takes 28 = .ok (.aload_n 0, 1) := by decide +kernel
theorem dX11_takes_29 : decode cX11_takes 29 = .ok (.getfield 317, 3) := by decide +kernel
theorem dX11_takes_32 : decode cX11_takes 32 = .ok (.iconst 1, 1) := by decide +kernel
theorem dX11_takes_33 : decode cX11_takes 33 = .ok (.iadd, 1) := by decide +kernel
theorem dX11_takes_34 : decode cX11_takes 34 = .ok (.goto 7, 3) := by decide +kernel
theorem dX11_takes_37 : decode cX11_takes 37 = .ok (.aload_n 0, 1) := by decide +kernel
theorem dX11_takes_38 : decode cX11_takes 38 = .ok (.getfield 317, 3) := by decide +kernel
theorem dX11_takes_41 : decode cX11_takes 41 = .ok (.istore 4, 2) := by decide +kernel
theorem dX11_takes_43 : decode cX11_takes 43 = .ok (.iload 4, 2) := by decide +kernel
theorem dX11_takes_45 : decode cX11_takes 45 = .ok (.istore 5, 2) := by decide +kernel
theorem dX11_takes_47 : decode cX11_takes 47 = .ok (.aload_n 0, 1) := by decide +kernel
theorem dX11_takes_48 : decode cX11_takes 48 = .ok (.iconst 0, 1) := by decide +kernel
theorem dX11_takes_49 : decode cX11_takes 49 = .ok (.putfield 327, 3) := by decide +kernel
theorem dX11_takes_52 : decode cX11_takes 52 = .ok (.aload_n 0, 1) := by decide +kernel
theorem dX11_takes_53 : decode cX11_takes 53 = .ok (.iload 5, 2) := by decide +kernel
theorem dX11_takes_55 : decode cX11_takes 55 = .ok (.invokevirtual 330, 3) := by decide +kernel
theorem dX11_takes_58 : decode cX11_takes 58 = .ok (.ifCond .eq 40, 3) := by decide +kernel
theorem dX11_takes_61 : decode cX11_takes 61 = .ok (.iload 5, 2) := by decide +kernel
theorem dX11_takes_63 : decode cX11_takes 63 = .ok (.iload 4, 2) := by decide +kernel
theorem dX11_takes_65 : decode cX11_takes 65 = .ok (.isub, 1) := by decide +kernel
theorem dX11_takes_66 : decode cX11_takes 66 = .ok (.iconst 4, 1) := by decide +kernel
theorem dX11_takes_67 : decode cX11_takes 67 = .ok (.if_icmp .ge 31, 3) := by decide +kernel
theorem dX11_takes_70 : decode cX11_takes 70 = .ok (.aload_n 0, 1) := by decide +kernel
theorem dX11_takes_71 : decode cX11_takes 71 = .ok (.bipush 10, 2) := by decide +kernel
theorem dX11_takes_73 : decode cX11_takes 73 = .ok (.aload_n 0, 1) := by decide +kernel
theorem dX11_takes_74 : decode cX11_takes 74 = .ok (.getfield 327, 3) := by decide +kernel
theorem dX11_takes_77 : decode cX11_takes 77 = .ok (.imul, 1) := by decide +kernel
theorem dX11_takes_78 : decode cX11_takes 78 = .ok (.aload_n 0, 1) := by decide +kernel
theorem dX11_takes_79 : decode cX11_takes 79 = .ok (.getfield 49, 3) := by decide +kernel
theorem dX11_takes_82 : decode cX11_takes 82 = .ok (.iload 5, 2) := by decide +kernel
theorem dX11_takes_84 : decode cX11_takes 84 = .ok (.iaload, 1) := by decide +kernel
theorem dX11_takes_85 : decode cX11_takes 85 = .ok (.iadd, 1) := by decide +kernel
theorem dX11_takes_86 : decode cX11_takes 86 = .ok (.bipush 48, 2) := by decide +kernel
theorem dX11_takes_88 : decode cX11_takes 88 = .ok (.isub, 1) := by decide +kernel
theorem dX11_takes_89 : decode cX11_takes 89 = .ok (.putfield 327, 3) := by decide +kernel
theorem dX11_takes_92 : decode cX11_takes 92 = .ok (.iinc 5 1, 3) := by decide +kernel
theorem dX11_takes_95 : decode cX11_takes 95 = .ok (.goto (-43), 3) := by decide +kernel
theorem dX11_takes_98 : decode cX11_takes 98 = .ok (.iload_n 3, 1) := by decide +kernel
theorem dX11_takes_99 : decode cX11_takes 99 = .ok (.iconst (-1), 1) := by decide +kernel
theorem dX11_takes_100 : decode cX11_takes 100 = .ok (.if_icmp .eq 10, 3) := by decide +kernel
theorem dX11_takes_103 : decode cX11_takes 103 = .ok (.iload 5, 2) := by decide +kernel
theorem dX11_takes_105 : decode cX11_takes 105 = .ok (.iload 4, 2) := by decide +kernel
theorem dX11_takes_107 : decode cX11_takes 107 = .ok (.if_icmp .ne 11, 3) := by decide +kernel
theorem dX11_takes_110 : decode cX11_takes 110 = .ok (.aload_n 0, 1) := by decide +kernel
theorem dX11_takes_111 : decode cX11_takes 111 = .ok (.iload 4, 2) := by decide +kernel
theorem dX11_takes_113 : decode cX11_takes 113 = .ok (.putfield 317, 3) := by decide +kernel
theorem dX11_takes_116 : decode cX11_takes 116 = .ok (.iconst 0, 1) := by decide +kernel
theorem dX11_takes_117 : decode cX11_takes 117 = .ok (.ireturn, 1) := by decide +kernel
theorem dX11_takes_118 : decode cX11_takes 118 = .ok (.iload 5, 2) := by decide +kernel
theorem dX11_takes_120 : decode cX11_takes 120 = .ok (.iload 4, 2) := by decide +kernel
theorem dX11_takes_122 : decode cX11_takes 122 = .ok (.isub, 1) := by decide +kernel
theorem dX11_takes_123 : decode cX11_takes 123 = .ok (.iconst 3, 1) := by decide +kernel
theorem dX11_takes_124 : decode cX11_takes 124 = .ok (.if_icmp .le 5, 3) := by decide +kernel
theorem dX11_takes_127 : decode cX11_takes 127 = .ok (.iconst 0, 1) := by decide +kernel
theorem dX11_takes_128 : decode cX11_takes 128 = .ok (.ireturn, 1) := by decide +kernel
theorem dX11_takes_129 : decode cX11_takes 129 = .ok (.aload_n 0, 1) := by decide +kernel
theorem dX11_takes_130 : decode cX11_takes 130 = .ok (.iload_n 2, 1) := by decide +kernel
theorem dX11_takes_131 : decode cX11_takes 131 = .ok (.ifCond .eq 11, 3) := by decide +kernel
theorem dX11_takes_134 : decode cX11_takes 134 = .ok (.aload_n 0, 1) := by decide +kernel
theorem dX11_takes_135 : decode cX11_takes 135 = .ok (.getfield 327, 3) := by decide +kernel
theorem dX11_takes_138 : decode cX11_takes 138 = .ok (.ineg, 1) := by decide +kernel
theorem dX11_takes_139 : decode cX11_takes 139 = .ok (.goto 7, 3) := by decide +kernel
theorem dX11_takes_142 : decode cX11_takes 142 = .ok (.aload_n 0, 1) := by decide +kernel
theorem dX11_takes_143 : decode cX11_takes 143 = .ok (.getfield 327, 3) := by decide +kernel
theorem dX11_takes_146 : decode cX11_takes 146 = .ok (.putfield 327, 3) := by decide +kernel
theorem dX11_takes_149 : decode cX11_takes 149 = .ok (.aload_n 0, 1) := by decide +kernel
theorem dX11_takes_150 : decode cX11_takes 150 = .ok (.iload 5, 2) := by decide +kernel
theorem dX11_takes_152 : decode cX11_takes 152 = .ok (.putfield 317, 3) := by decide +kernel
theorem dX11_takes_155 : decode cX11_takes 155 = .ok (.iconst 1, 1) := by decide +kernel
theorem dX11_takes_156 : decode cX11_takes 156 = .ok (.ireturn, 1) := by decide +kernel
set_option maxHeartbeats 4000000 in
set_option maxRecDepth 100000 in
theorem t_X11_takes_L52 {l : Launch} {E : u_E} {K : u_K} {r : Int} {s' : u_S} (g : Wk l (XE E) { frames := 2, cells := 0, slots := 0, locals := 46 } cX11_takes 6 yX11_takes.cls yX11_takes.name (some .boolean) (RZ E r s') K) {v0_1 : u_O} {v2_1 : Int} {v3_1 : Int} {v4_1 : Int} (i_v0_1 : is_Mo v0_1) (i_v2_1 : B01 v2_1) (i_v3_1 : InR v3_1) (i_v4_1 : InR v4_1) {kx98 : Int → u_S → Option (Int × u_S)} (hkx98 : ∀ (v5_3 : Int) (s_9 : u_S), InR v5_3 → kx98 v5_3 s_9 = some (r, s') → K 0 0 98 [some (.ref (E.1 v0_1)), none, some (.int (J v2_1)), some (.int (J v3_1)), some (.int (J v4_1)), some (.int (J v5_3))] [] (Wd E s_9)) : ∀ (m : Nat) (v5_2 : Int) (s_7 : u_S), InR v5_2 → f_X11_takes_L52 m kx98 v0_1 v2_1 v3_1 v4_1 v5_2 s_7 = some (r, s') → K 0 0 52 [some (.ref (E.1 v0_1)), none, some (.int (J v2_1)), some (.int (J v3_1)), some (.int (J v4_1)), some (.int (J v5_2))] [] (Wd E s_7) := by
  have g0 := g.wk
  intro m
  induction m with
  | zero =>
    intro v5_2 s_7 i_v5_2 h
    exact absurd (show (none : Option (Int × u_S)) = some (r, s') from h) (by intro z; cases z)
  | succ m ih =>
    intro v5_2 s_7 i_v5_2 h
    rw [f_X11_takes_L52] at h
    refine r_aload_n g0 dX11_takes_52 rfl ?_
    refine r_iload g0 dX11_takes_53 rfl ?_
    obtain ⟨r_2, s_8, hr_2, h⟩ := bd_some h
    refine r_cVZ g0 (rest := []) (c_X11_isFigure i_v0_1 i_v5_2 hr_2) ok_X11_isFigure mX11_330 (recv_Mo i_v0_1) dX11_takes_55 ⟨Nat.le_of_ble_eq_true rfl, Nat.le_of_ble_eq_true rfl⟩ ⟨Nat.zero_le _, Nat.zero_le _⟩ rfl (Nat.le_of_ble_eq_true rfl) rfl (fun i_r_2 => ?_)
    refine r_if_eq g0 98 dX11_takes_58 (by decide) (B01.inR i_r_2) (fun hc => ?_) (fun hc => ?_)
    · replace h := if_t hc h
      exact hkx98 v5_2 s_8 i_v5_2 h
    · replace h := if_f hc h
      refine r_iload g0 dX11_takes_61 rfl ?_
      refine r_iload g0 dX11_takes_63 rfl ?_
      refine r_isub g0 dX11_takes_65 ?_
      refine r_iconst g0 dX11_takes_66 ?_
      refine r_icmp_ge g0 98 dX11_takes_67 (by decide) (InR_wr _) (InR_lit rfl) (fun hc => ?_) (fun hc => ?_)
      · replace h := if_f hc h
        exact hkx98 v5_2 s_8 i_v5_2 h
      · replace h := if_t hc h
        refine r_aload_n g0 dX11_takes_70 rfl ?_
        refine r_bipush g0 dX11_takes_71 rfl ?_
        refine r_aload_n g0 dX11_takes_73 rfl ?_
        refine g_Mo_value g0 i_v0_1 qX11_327 dX11_takes_74 ?_
        refine r_imul g0 dX11_takes_77 ?_
        refine r_aload_n g0 dX11_takes_78 rfl ?_
        refine g_Mo_text g0 i_v0_1 qX11_49 dX11_takes_79 ?_
        refine r_iload g0 dX11_takes_82 rfl ?_
        obtain ⟨hb, h⟩ := gd_some h
        refine r_iaload g0 (is_a_Mo_text i_v0_1) (n := 120) rfl i_v5_2 hb dX11_takes_84 ?_
        refine r_iadd g0 dX11_takes_85 ?_
        refine r_bipush g0 dX11_takes_86 rfl ?_
        refine r_isub g0 dX11_takes_88 ?_
        refine p_Mo_value g0 i_v0_1 qX11_327 dX11_takes_89 ?_
        refine r_iinc g0 (a := v5_2) (lv' := [some (.ref (E.1 v0_1)), none, some (.int (J v2_1)), some (.int (J v3_1)), some (.int (J v4_1)), some (.int (J (wr (v5_2 + 1))))]) dX11_takes_92 (by decide) rfl rfl rfl ?_
        refine r_goto g0 52 dX11_takes_95 (by decide) ?_
        exact ih (wr (v5_2 + 1)) (wt s_8 v0_1 18 (wr ((wr ((wr (10 * (rd s_8 v0_1 18))) + (rd s_8 (a_Mo_text v0_1) v5_2))) - 48))) (InR_wr _) h
set_option maxHeartbeats 4000000 in
set_option maxRecDepth 100000 in
theorem c_X11_takes {E : u_E} {l : Launch} {o : u_O} {p1 : Int} (ho : is_Mo o) (i_p1 : B01 p1) {s s' : u_S} {r : Int} (h : f_X11_takes o p1 s = some (r, s')) : Con l (XE E) yX11_takes cX11_takes 6 (some .boolean) 2 46 0 0 [.ref (E.1 o), .int (J p1)] (Wd E s) (RZ E r s') := by
  refine Con.of [some (.ref (E.1 o)), some (.int (J p1)), none, none, none, none] (by decide +kernel) rfl rfl (Nat.le_of_ble_eq_true rfl) (fun K g => ?_)
  have g0 := g.wk
  unfold f_X11_takes at h
  refine r_iload_n g0 dX11_takes_0 rfl ?_
  obtain ⟨jp_1, hdjp_1, h⟩ := jn_some h
  have hjp_1 : ∀ (vt_1 : Int) (s_1 : u_S), B01 vt_1 → jp_1 vt_1 s_1 = some (r, s') → K 0 0 18 [some (.ref (E.1 o)), none, none, none, none, none] [.int (J vt_1)] (Wd E s_1) := by
    intro vt_1 s_1 i_vt_1 h
    subst hdjp_1
    refine r_istore_n g0 (lv' := [some (.ref (E.1 o)), none, some (.int (J vt_1)), none, none, none]) dX11_takes_18 (by decide) rfl rfl ?_
    refine r_aload_n g0 dX11_takes_19 rfl ?_
    obtain ⟨r_1, s_2, hr_1, h⟩ := bd_some h
    refine r_cVI g0 (rest := []) (c_X11_here ho hr_1) ok_X11_here mX11_324 (recv_Mo ho) dX11_takes_20 ⟨Nat.le_of_ble_eq_true rfl, Nat.le_of_ble_eq_true rfl⟩ ⟨Nat.zero_le _, Nat.zero_le _⟩ rfl (Nat.le_of_ble_eq_true rfl) rfl (fun i_r_1 => ?_)
    refine r_istore_n g0 (lv' := [some (.ref (E.1 o)), none, some (.int (J vt_1)), some (.int (J r_1)), none, none]) dX11_takes_23 (by decide) rfl rfl ?_
    refine r_iload_n g0 dX11_takes_24 rfl ?_
    obtain ⟨jp_2, hdjp_2, h⟩ := jn_some h
    have hjp_2 : ∀ (vt_2 : Int) (s_3 : u_S), InR vt_2 → jp_2 vt_2 s_3 = some (r, s') → K 0 0 41 [some (.ref (E.1 o)), none, some (.int (J vt_1)), some (.int (J r_1)), none, none] [.int (J vt_2)] (Wd E s_3) := by
      intro vt_2 s_3 i_vt_2 h
      subst hdjp_2
      refine r_istore g0 (lv' := [some (.ref (E.1 o)), none, some (.int (J vt_1)), some (.int (J r_1)), some (.int (J vt_2)), none]) dX11_takes_41 (by decide) rfl rfl ?_
      refine r_iload g0 dX11_takes_43 rfl ?_
      refine r_istore g0 (lv' := [some (.ref (E.1 o)), none, some (.int (J vt_1)), some (.int (J r_1)), some (.int (J vt_2)), some (.int (J vt_2))]) dX11_takes_45 (by decide) rfl rfl ?_
      refine r_aload_n g0 dX11_takes_47 rfl ?_
      refine r_iconst g0 dX11_takes_48 ?_
      refine p_Mo_value g0 ho qX11_327 dX11_takes_49 ?_
      refine t_X11_takes_L52 g ho i_vt_1 i_r_1 i_vt_2 ?_ FU vt_2 (wt s_3 o 18 0) i_vt_2 h
      · intro v5_1 s_4 i_v5_1 h
        refine r_iload_n g0 dX11_takes_98 rfl ?_
        refine r_iconst g0 dX11_takes_99 ?_
        obtain ⟨jp_3, hdjp_3, h⟩ := jn_some h
        have hjp_3 : ∀  (s_5 : u_S), jp_3 s_5 = some (r, s') → K 0 0 110 [some (.ref (E.1 o)), none, none, none, some (.int (J vt_2)), none] [] (Wd E s_5) := by
          intro s_5 h
          subst hdjp_3
          refine r_aload_n g0 dX11_takes_110 rfl ?_
          refine r_iload g0 dX11_takes_111 rfl ?_
          refine p_Mo_place g0 ho qX11_317 dX11_takes_113 ?_
          refine r_iconst g0 dX11_takes_116 ?_
          exact z_Z g dX11_takes_117 B01_0 h
        clear hdjp_3
        refine r_icmp_eq g0 110 dX11_takes_100 (by decide) i_r_1 (InR_lit rfl) (fun hc => ?_) (fun hc => ?_)
        · replace h := if_t hc h
          refine r_mask g0 (lv' := [some (.ref (E.1 o)), none, none, none, some (.int (J vt_2)), none]) [true, false, false, false, true, false] rfl ?_
          exact hjp_3 s_4 h
        · replace h := if_f hc h
          refine r_iload g0 dX11_takes_103 rfl ?_
          refine r_iload g0 dX11_takes_105 rfl ?_
          refine r_icmp_ne g0 118 dX11_takes_107 (by decide) i_v5_1 i_vt_2 (fun hc => ?_) (fun hc => ?_)
          · replace h := if_f hc h
            refine r_iload g0 dX11_takes_118 rfl ?_
            refine r_iload g0 dX11_takes_120 rfl ?_
            refine r_isub g0 dX11_takes_122 ?_
            refine r_iconst g0 dX11_takes_123 ?_
            refine r_icmp_le g0 129 dX11_takes_124 (by decide) (InR_wr _) (InR_lit rfl) (fun hc => ?_) (fun hc => ?_)
            · replace h := if_t hc h
              refine r_aload_n g0 dX11_takes_129 rfl ?_
              refine r_iload_n g0 dX11_takes_130 rfl ?_
              obtain ⟨jp_4, hdjp_4, h⟩ := jn_some h
              have hjp_4 : ∀ (vt_3 : u_O) (vt_4 : Int) (s_6 : u_S), is_Mo vt_3 → InR vt_4 → jp_4 vt_3 vt_4 s_6 = some (r, s') → K 0 0 146 [some (.ref (E.1 o)), none, none, none, none, some (.int (J v5_1))] [.int (J vt_4), .ref (E.1 vt_3)] (Wd E s_6) := by
                intro vt_3 vt_4 s_6 i_vt_3 i_vt_4 h
                subst hdjp_4
                refine p_Mo_value g0 i_vt_3 qX11_327 dX11_takes_146 ?_
                refine r_aload_n g0 dX11_takes_149 rfl ?_
                refine r_iload g0 dX11_takes_150 rfl ?_
                refine p_Mo_place g0 ho qX11_317 dX11_takes_152 ?_
                refine r_iconst g0 dX11_takes_155 ?_
                exact z_Z g dX11_takes_156 B01_1 h
              clear hdjp_4
              refine r_if_eq g0 142 dX11_takes_131 (by decide) (B01.inR i_vt_1) (fun hc => ?_) (fun hc => ?_)
              · replace h := if_t hc h
                refine r_aload_n g0 dX11_takes_142 rfl ?_
                refine g_Mo_value g0 ho qX11_327 dX11_takes_143 ?_
                refine r_mask g0 (lv' := [some (.ref (E.1 o)), none, none, none, none, some (.int (J v5_1))]) [true, false, false, false, false, true] rfl ?_
                exact hjp_4 o (rd s_4 o 18) s_4 ho (InR_rd _ _ _) h
              · replace h := if_f hc h
                refine r_aload_n g0 dX11_takes_134 rfl ?_
                refine g_Mo_value g0 ho qX11_327 dX11_takes_135 ?_
                refine r_ineg g0 dX11_takes_138 ?_
                refine r_goto g0 146 dX11_takes_139 (by decide) ?_
                refine r_mask g0 (lv' := [some (.ref (E.1 o)), none, none, none, none, some (.int (J v5_1))]) [true, false, false, false, false, true] rfl ?_
                exact hjp_4 o (wr (- (rd s_4 o 18))) s_4 ho (InR_wr _) h
            · replace h := if_f hc h
              refine r_iconst g0 dX11_takes_127 ?_
              exact z_Z g dX11_takes_128 B01_0 h
          · replace h := if_t hc h
            refine r_mask g0 (lv' := [some (.ref (E.1 o)), none, none, none, some (.int (J vt_2)), none]) [true, false, false, false, true, false] rfl ?_
            exact hjp_3 s_4 h
    clear hdjp_2
    refine r_if_eq g0 37 dX11_takes_25 (by decide) (B01.inR i_vt_1) (fun hc => ?_) (fun hc => ?_)
    · replace h := if_t hc h
      refine r_aload_n g0 dX11_takes_37 rfl ?_
      refine g_Mo_place g0 ho qX11_317 dX11_takes_38 ?_
      exact hjp_2 (rd s_2 o 17) s_2 (InR_rd _ _ _) h
    · replace h := if_f hc h
      refine r_aload_n g0 dX11_takes_28 rfl ?_
      refine g_Mo_place g0 ho qX11_317 dX11_takes_29 ?_
      refine r_iconst g0 dX11_takes_32 ?_
      refine r_iadd g0 dX11_takes_33 ?_
      refine r_goto g0 41 dX11_takes_34 (by decide) ?_
      exact hjp_2 (wr ((rd s_2 o 17) + 1)) s_2 (InR_wr _) h
  clear hdjp_1
  obtain ⟨jp_5, hdjp_5, h⟩ := jn_some h
  have hjp_5 : ∀  (s_10 : u_S), jp_5 s_10 = some (r, s') → K 0 0 17 [some (.ref (E.1 o)), none, none, none, none, none] [] (Wd E s_10) := by
    intro s_10 h
    subst hdjp_5
    refine r_iconst g0 dX11_takes_17 ?_
    exact hjp_1 0 s_10 B01_0 h
  clear hdjp_5
  refine r_if_eq g0 17 dX11_takes_1 (by decide) (B01.inR i_p1) (fun hc => ?_) (fun hc => ?_)
  · replace h := if_t hc h
    refine r_mask g0 (lv' := [some (.ref (E.1 o)), none, none, none, none, none]) [true, false, false, false, false, false] rfl ?_
    exact hjp_5 s h
  · replace h := if_f hc h
    refine r_aload_n g0 dX11_takes_4 rfl ?_
    obtain ⟨r_3, s_11, hr_3, h⟩ := bd_some h
    refine r_cVI g0 (rest := []) (c_X11_here ho hr_3) ok_X11_here mX11_324 (recv_Mo ho) dX11_takes_5 ⟨Nat.le_of_ble_eq_true rfl, Nat.le_of_ble_eq_true rfl⟩ ⟨Nat.zero_le _, Nat.zero_le _⟩ rfl (Nat.le_of_ble_eq_true rfl) rfl (fun i_r_3 => ?_)
    refine r_bipush g0 dX11_takes_8 rfl ?_
    refine r_icmp_ne g0 17 dX11_takes_10 (by decide) i_r_3 (InR_lit rfl) (fun hc => ?_) (fun hc => ?_)
    · replace h := if_f hc h
      refine r_mask g0 (lv' := [some (.ref (E.1 o)), none, none, none, none, none]) [true, false, false, false, false, false] rfl ?_
      exact hjp_5 s_11 h
    · replace h := if_t hc h
      refine r_iconst g0 dX11_takes_13 ?_
      refine r_goto g0 18 dX11_takes_14 (by decide) ?_
      refine r_mask g0 (lv' := [some (.ref (E.1 o)), none, none, none, none, none]) [true, false, false, false, false, false] rfl ?_
      exact hjp_1 1 s_11 B01_1 h
