/-! THE CONTRACTS: the bytecode does what the functions say (by program, wip/whole/gen) -/
theorem dX11_back_0 : decode cX11_back 0 = .ok (.aload_n 0, 1) := by decide +kernel
theorem dX11_back_1 : decode cX11_back 1 = .ok (.getfield 55, 3) := by decide +kernel
theorem dX11_back_4 : decode cX11_back 4 = .ok (.ifCond .ne 10, 3) := by decide +kernel
theorem dX11_back_7 : decode cX11_back 7 = .ok (.aload_n 0, 1) := by decide +kernel
theorem dX11_back_8 : decode cX11_back 8 = .ok (.bipush (-3), 2) := by decide +kernel
theorem dX11_back_10 : decode cX11_back 10 = .ok (.invokevirtual 97, 3) := by decide +kernel
theorem dX11_back_13 : decode cX11_back 13 = .ok (.ireturn, 1) := by decide +kernel
theorem dX11_back_14 : decode cX11_back 14 = .ok (.aload_n 0, 1) := by decide +kernel
theorem dX11_back_15 : decode cX11_back 15 = .ok (.dup, 1) := by decide +kernel
theorem dX11_back_16 : decode cX11_back 16 = .ok (.getfield 55, 3) := by decide +kernel
theorem dX11_back_19 : decode cX11_back 19 = .ok (.iconst 1, 1) := by decide +kernel
theorem dX11_back_20 : decode cX11_back 20 = .ok (.isub, 1) := by decide +kernel
theorem dX11_back_21 : decode cX11_back 21 = .ok (.putfield 55, 3) := by decide +kernel
theorem dX11_back_24 : decode cX11_back 24 = .ok (.iconst 0, 1) := by decide +kernel
theorem dX11_back_25 : decode cX11_back 25 = .ok (.istore_n 1, 1) := by decide +kernel
theorem dX11_back_26 : decode cX11_back 26 = .ok (.iload_n 1, 1) := by decide +kernel
theorem dX11_back_27 : decode cX11_back 27 = .ok (.sipush 145, 3) := by decide +kernel
theorem dX11_back_30 : decode cX11_back 30 = .ok (.if_icmp .ge 30, 3) := by decide +kernel
theorem dX11_back_33 : decode cX11_back 33 = .ok (.aload_n 0, 1) := by decide +kernel
theorem dX11_back_34 : decode cX11_back 34 = .ok (.getfield 7, 3) := by decide +kernel
theorem dX11_back_37 : decode cX11_back 37 = .ok (.iload_n 1, 1) := by decide +kernel
theorem dX11_back_38 : decode cX11_back 38 = .ok (.aload_n 0, 1) := by decide +kernel
theorem dX11_back_39 : decode cX11_back 39 = .ok (.getfield 13, 3) := by decide +kernel
theorem dX11_back_42 : decode cX11_back 42 = .ok (.sipush 145, 3) := by decide +kernel
theorem dX11_back_45 : decode cX11_back 45 = .ok (.aload_n 0, 1) := by decide +kernel
theorem dX11_back_46 : decode cX11_back 46 = .ok (.getfield 55, 3) := by decide +kernel
theorem dX11_back_49 : decode cX11_back 49 = .ok (.imul, 1) := by decide +kernel
theorem dX11_back_50 : decode cX11_back 50 = .ok (.iload_n 1, 1) := by decide +kernel
theorem dX11_back_51 : decode cX11_back 51 = .ok (.iadd, 1) := by decide +kernel
theorem dX11_back_52 : decode cX11_back 52 = .ok (.iaload, 1) := by decide +kernel
theorem dX11_back_53 : decode cX11_back 53 = .ok (.iastore, 1) := by decide +kernel
theorem dX11_back_54 : decode cX11_back 54 = .ok (.iinc 1 1, 3) := by decide +kernel
theorem dX11_back_57 : decode cX11_back 57 = .ok (.goto (-31), 3) := by decide +kernel
theorem dX11_back_60 : decode cX11_back 60 = .ok (.aload_n 0, 1) := by decide +kernel
theorem dX11_back_61 : decode cX11_back 61 = .ok (.getfield 55, 3) := by decide +kernel
theorem dX11_back_64 : decode cX11_back 64 = .ok (.ireturn, 1) := by decide +kernel
set_option maxHeartbeats 4000000 in
set_option maxRecDepth 100000 in
theorem t_X11_back_L26 {l : Launch} {E : u_E} {K : u_K} {r : Int} {s' : u_S} (g : Wk l (XE E) { frames := 1, cells := 0, slots := 0, locals := 21 } cX11_back 2 yX11_back.cls yX11_back.name (some .int) (RI E r s') K) {v0_1 : u_O} (i_v0_1 : is_Mo v0_1) {kx60 : u_S → Option (Int × u_S)} (hkx60 : ∀ (s_3 : u_S), kx60 s_3 = some (r, s') → K 0 0 60 [some (.ref (E.1 v0_1)), none] [] (Wd E s_3)) : ∀ (m : Nat) (v1_1 : Int) (s_2 : u_S), InR v1_1 → f_X11_back_L26 m kx60 v0_1 v1_1 s_2 = some (r, s') → K 0 0 26 [some (.ref (E.1 v0_1)), some (.int (J v1_1))] [] (Wd E s_2) := by
  have g0 := g.wk
  intro m
  induction m with
  | zero =>
    intro v1_1 s_2 i_v1_1 h
    exact absurd (show (none : Option (Int × u_S)) = some (r, s') from h) (by intro z; cases z)
  | succ m ih =>
    intro v1_1 s_2 i_v1_1 h
    rw [f_X11_back_L26] at h
    refine r_iload_n g0 dX11_back_26 rfl ?_
    refine r_sipush g0 dX11_back_27 rfl ?_
    refine r_icmp_ge g0 60 dX11_back_30 (by decide) i_v1_1 (InR_lit rfl) (fun hc => ?_) (fun hc => ?_)
    · replace h := if_f hc h
      refine r_mask g0 (lv' := [some (.ref (E.1 v0_1)), none]) [true, false] rfl ?_
      exact hkx60 s_2 h
    · replace h := if_t hc h
      refine r_aload_n g0 dX11_back_33 rfl ?_
      refine g_Mo_all g0 i_v0_1 qX11_7 dX11_back_34 ?_
      refine r_iload_n g0 dX11_back_37 rfl ?_
      refine r_aload_n g0 dX11_back_38 rfl ?_
      refine g_Mo_past g0 i_v0_1 qX11_13 dX11_back_39 ?_
      refine r_sipush g0 dX11_back_42 rfl ?_
      refine r_aload_n g0 dX11_back_45 rfl ?_
      refine g_Mo_states g0 i_v0_1 qX11_55 dX11_back_46 ?_
      refine r_imul g0 dX11_back_49 ?_
      refine r_iload_n g0 dX11_back_50 rfl ?_
      refine r_iadd g0 dX11_back_51 ?_
      obtain ⟨hb, h⟩ := gd_some h
      refine r_iaload g0 (is_a_Mo_past i_v0_1) (n := 725) rfl (InR_wr _) hb dX11_back_52 ?_
      obtain ⟨hb, h⟩ := gd_some h
      refine r_iastore g0 (is_a_Mo_all i_v0_1) (n := 145) rfl i_v1_1 hb dX11_back_53 ?_
      refine r_iinc g0 (a := v1_1) (lv' := [some (.ref (E.1 v0_1)), some (.int (J (wr (v1_1 + 1))))]) dX11_back_54 (by decide) rfl rfl rfl ?_
      refine r_goto g0 26 dX11_back_57 (by decide) ?_
      exact ih (wr (v1_1 + 1)) (wt s_2 (a_Mo_all v0_1) v1_1 (rd s_2 (a_Mo_past v0_1) (wr ((wr (145 * (rd s_2 v0_1 3))) + v1_1)))) (InR_wr _) h
set_option maxHeartbeats 4000000 in
set_option maxRecDepth 100000 in
theorem c_X11_back {E : u_E} {l : Launch} {o : u_O} (ho : is_Mo o) {s s' : u_S} {r : Int} (h : f_X11_back o s = some (r, s')) : Con l (XE E) yX11_back cX11_back 2 (some .int) 1 21 0 0 [.ref (E.1 o)] (Wd E s) (RI E r s') := by
  refine Con.of [some (.ref (E.1 o)), none] (by decide +kernel) rfl rfl (Nat.le_of_ble_eq_true rfl) (fun K g => ?_)
  have g0 := g.wk
  unfold f_X11_back at h
  refine r_aload_n g0 dX11_back_0 rfl ?_
  refine g_Mo_states g0 ho qX11_55 dX11_back_1 ?_
  refine r_if_ne g0 14 dX11_back_4 (by decide) (InR_rd _ _ _) (fun hc => ?_) (fun hc => ?_)
  · replace h := if_f hc h
    refine r_aload_n g0 dX11_back_14 rfl ?_
    refine r_dup g0 dX11_back_15 rfl ?_
    refine g_Mo_states g0 ho qX11_55 dX11_back_16 ?_
    refine r_iconst g0 dX11_back_19 ?_
    refine r_isub g0 dX11_back_20 ?_
    refine p_Mo_states g0 ho qX11_55 dX11_back_21 ?_
    refine r_iconst g0 dX11_back_24 ?_
    refine r_istore_n g0 (lv' := [some (.ref (E.1 o)), some (.int (J 0))]) dX11_back_25 (by decide) rfl rfl ?_
    refine t_X11_back_L26 g ho ?_ FU 0 (wt s o 3 (wr ((rd s o 3) - 1))) (B01.inR B01_0) h
    · intro s_1 h
      refine r_aload_n g0 dX11_back_60 rfl ?_
      refine g_Mo_states g0 ho qX11_55 dX11_back_61 ?_
      exact z_I g dX11_back_64 (InR_rd _ _ _) h
  · replace h := if_t hc h
    refine r_aload_n g0 dX11_back_7 rfl ?_
    refine r_bipush g0 dX11_back_8 rfl ?_
    obtain ⟨r_1, s_4, hr_1, h⟩ := bd_some h
    refine r_cVI g0 (rest := []) (c_X11_refuses ho (InR_lit rfl) hr_1) ok_X11_refuses mX11_97 (recv_Mo ho) dX11_back_10 ⟨Nat.le_of_ble_eq_true rfl, Nat.le_of_ble_eq_true rfl⟩ ⟨Nat.zero_le _, Nat.zero_le _⟩ rfl (Nat.le_of_ble_eq_true rfl) rfl (fun i_r_1 => ?_)
    exact z_I g dX11_back_13 i_r_1 h
theorem dX11_toldOf_0 : decode cX11_toldOf 0 = .ok (.iload_n 1, 1) := by decide +kernel
theorem dX11_toldOf_1 : decode cX11_toldOf 1 = .ok (.iconst 3, 1) := by decide +kernel
theorem dX11_toldOf_2 : decode cX11_toldOf 2 = .ok (.if_icmp .ge 12, 3) := by decide +kernel
theorem dX11_toldOf_5 : decode cX11_toldOf 5 = .ok (.aload_n 0, 1) := by decide +kernel
theorem dX11_toldOf_6 : decode cX11_toldOf 6 = .ok (.getfield 19, 3) := by decide +kernel
theorem dX11_toldOf_9 : decode cX11_toldOf 9 = .ok (.iload_n 1, 1) := by decide +kernel
theorem dX11_toldOf_10 : decode cX11_toldOf 10 = .ok (.iaload, 1) := by decide +kernel
theorem dX11_toldOf_11 : decode cX11_toldOf 11 = .ok (.goto 72, 3) := by decide +kernel
theorem dX11_toldOf_14 : decode cX11_toldOf 14 = .ok (.iload_n 1, 1) := by decide +kernel
theorem dX11_toldOf_15 : decode cX11_toldOf 15 = .ok (.iconst 3, 1) := by decide +kernel
theorem dX11_toldOf_16 : decode cX11_toldOf 16 = .ok (.if_icmp .ne 10, 3) := by decide +kernel
theorem dX11_toldOf_19 : decode cX11_toldOf 19 = .ok (.aload_n 0, 1) := by decide +kernel
theorem dX11_toldOf_20 : decode cX11_toldOf 20 = .ok (.getfield 314, 3) := by decide +kernel
theorem dX11_toldOf_23 : decode cX11_toldOf 23 = .ok (.goto 60, 3) := by decide +kernel
theorem dX11_toldOf_26 : decode cX11_toldOf 26 = .ok (.iload_n 1, 1) := by decide +kernel
theorem dX11_toldOf_27 : decode cX11_toldOf 27 = .ok (.iconst 4, 1) := by decide +kernel
theorem dX11_toldOf_28 : decode cX11_toldOf 28 = .ok (.if_icmp .ne 13, 3) := by decide +kernel
theorem dX11_toldOf_31 : decode cX11_toldOf 31 = .ok (.aload_n 0, 1) := by decide +kernel
theorem dX11_toldOf_32 : decode cX11_toldOf 32 = .ok (.getfield 7, 3) := by decide +kernel
theorem dX11_toldOf_35 : decode cX11_toldOf 35 = .ok (.bipush 84, 2) := by decide +kernel
theorem dX11_toldOf_37 : decode cX11_toldOf 37 = .ok (.iaload, 1) := by decide +kernel
theorem dX11_toldOf_38 : decode cX11_toldOf 38 = .ok (.goto 45, 3) := by decide +kernel
theorem dX11_toldOf_41 : decode cX11_toldOf 41 = .ok (.iload_n 1, 1) := by decide +kernel
theorem dX11_toldOf_42 : decode cX11_toldOf 42 = .ok (.bipush 9, 2) := by decide +kernel
theorem dX11_toldOf_44 : decode cX11_toldOf 44 = .ok (.if_icmp .ge 18, 3) := by decide +kernel
theorem dX11_toldOf_47 : decode cX11_toldOf 47 = .ok (.aload_n 0, 1) := by decide +kernel
theorem dX11_toldOf_48 : decode cX11_toldOf 48 = .ok (.getfield 7, 3) := by decide +kernel
theorem dX11_toldOf_51 : decode cX11_toldOf 51 = .ok (.sipush 135, 3) := by decide +kernel
theorem dX11_toldOf_54 : decode cX11_toldOf 54 = .ok (.iload_n 1, 1) := by decide +kernel
theorem dX11_toldOf_55 : decode cX11_toldOf 55 = .ok (.iadd, 1) := by decide +kernel
theorem dX11_toldOf_56 : decode cX11_toldOf 56 = .ok (.iconst 5, 1) := by decide +kernel
theorem dX11_toldOf_57 : decode cX11_toldOf 57 = .ok (.isub, 1) := by decide +kernel
theorem dX11_toldOf_58 : decode cX11_toldOf 58 = .ok (.iaload, 1) := by decide +kernel
theorem dX11_toldOf_59 : decode cX11_toldOf 59 = .ok (.goto 24, 3) := by decide +kernel
theorem dX11_toldOf_62 : decode cX11_toldOf 62 = .ok (.iload_n 1, 1) := by decide +kernel
theorem dX11_toldOf_63 : decode cX11_toldOf 63 = .ok (.bipush 9, 2) := by decide +kernel
theorem dX11_toldOf_65 : decode cX11_toldOf 65 = .ok (.if_icmp .ne 14, 3) := by decide +kernel
theorem dX11_toldOf_68 : decode cX11_toldOf 68 = .ok (.aload_n 0, 1) := by decide +kernel
theorem dX11_toldOf_69 : decode cX11_toldOf 69 = .ok (.getfield 7, 3) := by decide +kernel
theorem dX11_toldOf_72 : decode cX11_toldOf 72 = .ok (.sipush 139, 3) := by decide +kernel
theorem dX11_toldOf_75 : decode cX11_toldOf 75 = .ok (.iaload, 1) := by decide +kernel
theorem dX11_toldOf_76 : decode cX11_toldOf 76 = .ok (.goto 7, 3) := by decide +kernel
theorem dX11_toldOf_79 : decode cX11_toldOf 79 = .ok (.aload_n 0, 1) := by decide +kernel
theorem dX11_toldOf_80 : decode cX11_toldOf 80 = .ok (.getfield 55, 3) := by decide +kernel
theorem dX11_toldOf_83 : decode cX11_toldOf 83 = .ok (.ireturn, 1) := by decide +kernel
set_option maxHeartbeats 4000000 in
set_option maxRecDepth 100000 in
theorem c_X11_toldOf {E : u_E} {l : Launch} {o : u_O} {p1 : Int} (ho : is_Mo o) (i_p1 : InR p1) {s s' : u_S} {r : Int} (h : f_X11_toldOf o p1 s = some (r, s')) : Con l (XE E) yX11_toldOf cX11_toldOf 2 (some .int) 0 0 0 0 [.ref (E.1 o), .int (J p1)] (Wd E s) (RI E r s') := by
  refine Con.of [some (.ref (E.1 o)), some (.int (J p1))] (by decide +kernel) rfl rfl (Nat.le_of_ble_eq_true rfl) (fun K g => ?_)
  have g0 := g.wk
  unfold f_X11_toldOf at h
  refine r_iload_n g0 dX11_toldOf_0 rfl ?_
  refine r_iconst g0 dX11_toldOf_1 ?_
  refine r_icmp_ge g0 14 dX11_toldOf_2 (by decide) i_p1 (InR_lit rfl) (fun hc => ?_) (fun hc => ?_)
  · replace h := if_f hc h
    refine r_iload_n g0 dX11_toldOf_14 rfl ?_
    refine r_iconst g0 dX11_toldOf_15 ?_
    refine r_icmp_ne g0 26 dX11_toldOf_16 (by decide) i_p1 (InR_lit rfl) (fun hc => ?_) (fun hc => ?_)
    · replace h := if_f hc h
      refine r_iload_n g0 dX11_toldOf_26 rfl ?_
      refine r_iconst g0 dX11_toldOf_27 ?_
      refine r_icmp_ne g0 41 dX11_toldOf_28 (by decide) i_p1 (InR_lit rfl) (fun hc => ?_) (fun hc => ?_)
      · replace h := if_f hc h
        refine r_iload_n g0 dX11_toldOf_41 rfl ?_
        refine r_bipush g0 dX11_toldOf_42 rfl ?_
        refine r_icmp_ge g0 62 dX11_toldOf_44 (by decide) i_p1 (InR_lit rfl) (fun hc => ?_) (fun hc => ?_)
        · replace h := if_f hc h
          refine r_iload_n g0 dX11_toldOf_62 rfl ?_
          refine r_bipush g0 dX11_toldOf_63 rfl ?_
          refine r_icmp_ne g0 79 dX11_toldOf_65 (by decide) i_p1 (InR_lit rfl) (fun hc => ?_) (fun hc => ?_)
          · replace h := if_f hc h
            refine r_aload_n g0 dX11_toldOf_79 rfl ?_
            refine g_Mo_states g0 ho qX11_55 dX11_toldOf_80 ?_
            exact z_I g dX11_toldOf_83 (InR_rd _ _ _) h
          · replace h := if_t hc h
            refine r_aload_n g0 dX11_toldOf_68 rfl ?_
            refine g_Mo_all g0 ho qX11_7 dX11_toldOf_69 ?_
            refine r_sipush g0 dX11_toldOf_72 rfl ?_
            obtain ⟨hb, h⟩ := gd_some h
            refine r_iaload g0 (is_a_Mo_all ho) (n := 145) rfl (InR_lit rfl) hb dX11_toldOf_75 ?_
            refine r_goto g0 83 dX11_toldOf_76 (by decide) ?_
            exact z_I g dX11_toldOf_83 (InR_rd _ _ _) h
        · replace h := if_t hc h
          refine r_aload_n g0 dX11_toldOf_47 rfl ?_
          refine g_Mo_all g0 ho qX11_7 dX11_toldOf_48 ?_
          refine r_sipush g0 dX11_toldOf_51 rfl ?_
          refine r_iload_n g0 dX11_toldOf_54 rfl ?_
          refine r_iadd g0 dX11_toldOf_55 ?_
          refine r_iconst g0 dX11_toldOf_56 ?_
          refine r_isub g0 dX11_toldOf_57 ?_
          obtain ⟨hb, h⟩ := gd_some h
          refine r_iaload g0 (is_a_Mo_all ho) (n := 145) rfl (InR_wr _) hb dX11_toldOf_58 ?_
          refine r_goto g0 83 dX11_toldOf_59 (by decide) ?_
          exact z_I g dX11_toldOf_83 (InR_rd _ _ _) h
      · replace h := if_t hc h
        refine r_aload_n g0 dX11_toldOf_31 rfl ?_
        refine g_Mo_all g0 ho qX11_7 dX11_toldOf_32 ?_
        refine r_bipush g0 dX11_toldOf_35 rfl ?_
        obtain ⟨hb, h⟩ := gd_some h
        refine r_iaload g0 (is_a_Mo_all ho) (n := 145) rfl (InR_lit rfl) hb dX11_toldOf_37 ?_
        refine r_goto g0 83 dX11_toldOf_38 (by decide) ?_
        exact z_I g dX11_toldOf_83 (InR_rd _ _ _) h
    · replace h := if_t hc h
      refine r_aload_n g0 dX11_toldOf_19 rfl ?_
      refine g_Mo_textLong g0 ho qX11_314 dX11_toldOf_20 ?_
      refine r_goto g0 83 dX11_toldOf_23 (by decide) ?_
      exact z_I g dX11_toldOf_83 (InR_rd _ _ _) h
  · replace h := if_t hc h
    refine r_aload_n g0 dX11_toldOf_5 rfl ?_
    refine g_Mo_refused g0 ho qX11_19 dX11_toldOf_6 ?_
    refine r_iload_n g0 dX11_toldOf_9 rfl ?_
    obtain ⟨hb, h⟩ := gd_some h
    refine r_iaload g0 (is_a_Mo_refused ho) (n := 3) rfl i_p1 hb dX11_toldOf_10 ?_
    refine r_goto g0 83 dX11_toldOf_11 (by decide) ?_
    exact z_I g dX11_toldOf_83 (InR_rd _ _ _) h
theorem dX11_told_0 : decode cX11_told 0 = .ok (.iload_n 1, 1) := by decide +kernel
theorem dX11_told_1 : decode cX11_told 1 = .ok (.i2l, 1) := by decide +kernel
theorem dX11_told_2 : decode cX11_told 2 = .ok (.lconst 0, 1) := by decide +kernel
theorem dX11_told_3 : decode cX11_told 3 = .ok (.ldc2_w 114, 3) := by decide +kernel
theorem dX11_told_6 : decode cX11_told 6 = .ok (.invokestatic 61, 3) := by decide +kernel
theorem dX11_told_9 : decode cX11_told 9 = .ok (.ifCond .eq 11, 3) := by decide +kernel
theorem dX11_told_12 : decode cX11_told 12 = .ok (.aload_n 0, 1) := by decide +kernel
theorem dX11_told_13 : decode cX11_told 13 = .ok (.iload_n 1, 1) := by decide +kernel
theorem dX11_told_14 : decode cX11_told 14 = .ok (.invokevirtual 365, 3) := by decide +kernel
theorem dX11_told_17 : decode cX11_told 17 = .ok (.goto 9, 3) := by decide +kernel
theorem dX11_told_20 : decode cX11_told 20 = .ok (.aload_n 0, 1) := by decide +kernel
theorem dX11_told_21 : decode cX11_told 21 = .ok (.bipush (-2), 2) := by decide +kernel
theorem dX11_told_23 : decode cX11_told 23 = .ok (.invokevirtual 97, 3) := by decide +kernel
theorem dX11_told_26 : decode cX11_told 26 = .ok (.ireturn, 1) := by decide +kernel
set_option maxHeartbeats 4000000 in
set_option maxRecDepth 100000 in
theorem c_X11_told {E : u_E} {l : Launch} {o : u_O} {p1 : Int} (ho : is_Mo o) (i_p1 : InR p1) {s s' : u_S} {r : Int} (h : f_X11_told o p1 s = some (r, s')) : Con l (XE E) yX11_told cX11_told 2 (some .int) 1 25 0 0 [.ref (E.1 o), .int (J p1)] (Wd E s) (RI E r s') := by
  refine Con.of [some (.ref (E.1 o)), some (.int (J p1))] (by decide +kernel) rfl rfl (Nat.le_of_ble_eq_true rfl) (fun K g => ?_)
  have g0 := g.wk
  unfold f_X11_told at h
  refine r_iload_n g0 dX11_told_0 rfl ?_
  refine r_i2l g0 dX11_told_1 i_p1 ?_
  refine r_lconst g0 (v := 0) dX11_told_2 rfl ?_
  refine r_ldc2 g0 (v := 10) dX11_told_3 kX11_114 ?_
  obtain ⟨r_1, s_1, hr_1, h⟩ := bd_some h
  refine r_cSZ g0 (rest := []) (c_X11_in (InL_i i_p1) (InL_lit rfl) (InL_lit rfl) hr_1) ok_X11_in mX11_61 dX11_told_6 ⟨Nat.le_of_ble_eq_true rfl, Nat.le_of_ble_eq_true rfl⟩ ⟨Nat.zero_le _, Nat.zero_le _⟩ rfl (Nat.le_of_ble_eq_true rfl) rfl (fun i_r_1 => ?_)
  refine r_if_eq g0 20 dX11_told_9 (by decide) (B01.inR i_r_1) (fun hc => ?_) (fun hc => ?_)
  · replace h := if_t hc h
    refine r_aload_n g0 dX11_told_20 rfl ?_
    refine r_bipush g0 dX11_told_21 rfl ?_
    obtain ⟨r_2, s_2, hr_2, h⟩ := bd_some h
    refine r_cVI g0 (rest := []) (c_X11_refuses ho (InR_lit rfl) hr_2) ok_X11_refuses mX11_97 (recv_Mo ho) dX11_told_23 ⟨Nat.le_of_ble_eq_true rfl, Nat.le_of_ble_eq_true rfl⟩ ⟨Nat.zero_le _, Nat.zero_le _⟩ rfl (Nat.le_of_ble_eq_true rfl) rfl (fun i_r_2 => ?_)
    exact z_I g dX11_told_26 i_r_2 h
  · replace h := if_f hc h
    refine r_aload_n g0 dX11_told_12 rfl ?_
    refine r_iload_n g0 dX11_told_13 rfl ?_
    obtain ⟨r_3, s_3, hr_3, h⟩ := bd_some h
    refine r_cVI g0 (rest := []) (c_X11_toldOf ho i_p1 hr_3) ok_X11_toldOf mX11_365 (recv_Mo ho) dX11_told_14 ⟨Nat.le_of_ble_eq_true rfl, Nat.le_of_ble_eq_true rfl⟩ ⟨Nat.zero_le _, Nat.zero_le _⟩ rfl (Nat.le_of_ble_eq_true rfl) rfl (fun i_r_3 => ?_)
    refine r_goto g0 26 dX11_told_17 (by decide) ?_
    exact z_I g dX11_told_26 i_r_3 h
theorem dX11_digest_0 : decode cX11_digest 0 = .ok (.ldc2_w 368, 3) := by decide +kernel
theorem dX11_digest_3 : decode cX11_digest 3 = .ok (.lstore_n 1, 1) := by decide +kernel
theorem dX11_digest_4 : decode cX11_digest 4 = .ok (.iconst 0, 1) := by decide +kernel
theorem dX11_digest_5 : decode cX11_digest 5 = .ok (.istore_n 3, 1) := by decide +kernel
theorem dX11_digest_6 : decode cX11_digest 6 = .ok (.iload_n 3, 1) := by decide +kernel
theorem dX11_digest_7 : decode cX11_digest 7 = .ok (.bipush 11, 2) := by decide +kernel
theorem dX11_digest_9 : decode cX11_digest 9 = .ok (.if_icmp .ge 22, 3) := by decide +kernel
theorem dX11_digest_12 : decode cX11_digest 12 = .ok (.ldc2_w 370, 3) := by decide +kernel
theorem dX11_digest_15 : decode cX11_digest 15 = .ok (.lload_n 1, 1) := by decide +kernel
theorem dX11_digest_16 : decode cX11_digest 16 = .ok (.lmul, 1) := by decide +kernel
theorem dX11_digest_17 : decode cX11_digest 17 = .ok (.aload_n 0, 1) := by decide +kernel
theorem dX11_digest_18 : decode cX11_digest 18 = .ok (.iload_n 3, 1) := by decide +kernel
theorem dX11_digest_19 : decode cX11_digest 19 = .ok (.invokevirtual 365, 3) := by decide +kernel
theorem dX11_digest_22 : decode cX11_digest 22 = .ok (.i2l, 1) := by decide +kernel
theorem dX11_digest_23 : decode cX11_digest 23 = .ok (.ladd, 1) := by decide +kernel
theorem dX11_digest_24 : decode cX11_digest 24 = .ok (.lstore_n 1, 1) := by decide +kernel
theorem dX11_digest_25 : decode cX11_digest 25 = .ok (.iinc 3 1, 3) := by decide +kernel
theorem dX11_digest_28 : decode cX11_digest 28 = .ok (.goto (-22), 3) := by decide +kernel
theorem dX11_digest_31 : decode cX11_digest 31 = .ok (.iconst 0, 1) := by decide +kernel
theorem dX11_digest_32 : decode cX11_digest 32 = .ok (.istore_n 3, 1) := by decide +kernel
theorem dX11_digest_33 : decode cX11_digest 33 = .ok (.iload_n 3, 1) := by decide +kernel
theorem dX11_digest_34 : decode cX11_digest 34 = .ok (.iconst 4, 1) := by decide +kernel
theorem dX11_digest_35 : decode cX11_digest 35 = .ok (.if_icmp .ge 75, 3) := by decide +kernel
theorem dX11_digest_38 : decode cX11_digest 38 = .ok (.ldc2_w 370, 3) := by decide +kernel
theorem dX11_digest_41 : decode cX11_digest 41 = .ok (.ldc2_w 370, 3) := by decide +kernel
theorem dX11_digest_44 : decode cX11_digest 44 = .ok (.lload_n 1, 1) := by decide +kernel
theorem dX11_digest_45 : decode cX11_digest 45 = .ok (.lmul, 1) := by decide +kernel
theorem dX11_digest_46 : decode cX11_digest 46 = .ok (.aload_n 0, 1) := by decide +kernel
theorem dX11_digest_47 : decode cX11_digest 47 = .ok (.iload_n 3, 1) := by decide +kernel
theorem dX11_digest_48 : decode cX11_digest 48 = .ok (.invokevirtual 128, 3) := by decide +kernel
theorem dX11_digest_51 : decode cX11_digest 51 = .ok (.i2l, 1) := by decide +kernel
theorem dX11_digest_52 : decode cX11_digest 52 = .ok (.ladd, 1) := by decide +kernel
theorem dX11_digest_53 : decode cX11_digest 53 = .ok (.lmul, 1) := by decide +kernel
theorem dX11_digest_54 : decode cX11_digest 54 = .ok (.aload_n 0, 1) := by decide +kernel
theorem dX11_digest_55 : decode cX11_digest 55 = .ok (.iload_n 3, 1) := by decide +kernel
theorem dX11_digest_56 : decode cX11_digest 56 = .ok (.invokevirtual 65, 3) := by decide +kernel
theorem dX11_digest_59 : decode cX11_digest 59 = .ok (.i2l, 1) := by decide +kernel
theorem dX11_digest_60 : decode cX11_digest 60 = .ok (.ladd, 1) := by decide +kernel
theorem dX11_digest_61 : decode cX11_digest 61 = .ok (.lstore_n 1, 1) := by decide +kernel
theorem dX11_digest_62 : decode cX11_digest 62 = .ok (.iconst 0, 1) := by decide +kernel
theorem dX11_digest_63 : decode cX11_digest 63 = .ok (.istore 4, 2) := by decide +kernel
theorem dX11_digest_65 : decode cX11_digest 65 = .ok (.iload 4, 2) := by decide +kernel
theorem dX11_digest_67 : decode cX11_digest 67 = .ok (.iconst 4, 1) := by decide +kernel
theorem dX11_digest_68 : decode cX11_digest 68 = .ok (.aload_n 0, 1) := by decide +kernel
theorem dX11_digest_69 : decode cX11_digest 69 = .ok (.iload_n 3, 1) := by decide +kernel
theorem dX11_digest_70 : decode cX11_digest 70 = .ok (.invokevirtual 65, 3) := by decide +kernel
theorem dX11_digest_73 : decode cX11_digest 73 = .ok (.imul, 1) := by decide +kernel
theorem dX11_digest_74 : decode cX11_digest 74 = .ok (.if_icmp .ge 30, 3) := by decide +kernel
theorem dX11_digest_77 : decode cX11_digest 77 = .ok (.ldc2_w 370, 3) := by decide +kernel
theorem dX11_digest_80 : decode cX11_digest 80 = .ok (.lload_n 1, 1) := by decide +kernel
theorem dX11_digest_81 : decode cX11_digest 81 = .ok (.lmul, 1) := by decide +kernel
theorem dX11_digest_82 : decode cX11_digest 82 = .ok (.aload_n 0, 1) := by decide +kernel
theorem dX11_digest_83 : decode cX11_digest 83 = .ok (.iload_n 3, 1) := by decide +kernel
theorem dX11_digest_84 : decode cX11_digest 84 = .ok (.iload 4, 2) := by decide +kernel
theorem dX11_digest_86 : decode cX11_digest 86 = .ok (.iconst 4, 1) := by decide +kernel
theorem dX11_digest_87 : decode cX11_digest 87 = .ok (.idiv, 1) := by decide +kernel
theorem dX11_digest_88 : decode cX11_digest 88 = .ok (.iload 4, 2) := by decide +kernel
theorem dX11_digest_90 : decode cX11_digest 90 = .ok (.iconst 4, 1) := by decide +kernel
theorem dX11_digest_91 : decode cX11_digest 91 = .ok (.irem, 1) := by decide +kernel
theorem dX11_digest_92 : decode cX11_digest 92 = .ok (.invokevirtual 150, 3) := by decide +kernel
theorem dX11_digest_95 : decode cX11_digest 95 = .ok (.i2l, 1) := by decide +kernel
theorem dX11_digest_96 : decode cX11_digest 96 = .ok (.ladd, 1) := by decide +kernel
theorem dX11_digest_97 : decode cX11_digest 97 = .ok (.lstore_n 1, 1) := by decide +kernel
theorem dX11_digest_98 : decode cX11_digest 98 = .ok (.iinc 4 1, 3) := by decide +kernel
theorem dX11_digest_101 : decode cX11_digest 101 = .ok (.goto (-36), 3) := by decide +kernel
theorem dX11_digest_104 : decode cX11_digest 104 = .ok (.iinc 3 1, 3) := by decide +kernel
theorem dX11_digest_107 : decode cX11_digest 107 = .ok (.goto (-74), 3) := by decide +kernel
theorem dX11_digest_110 : decode cX11_digest 110 = .ok (.iconst 0, 1) := by decide +kernel
theorem dX11_digest_111 : decode cX11_digest 111 = .ok (.istore_n 3, 1) := by decide +kernel
theorem dX11_digest_112 : decode cX11_digest 112 = .ok (.iload_n 3, 1) := by decide +kernel
theorem dX11_digest_113 : decode cX11_digest 113 = .ok (.bipush 6, 2) := by decide +kernel
theorem dX11_digest_115 : decode cX11_digest 115 = .ok (.aload_n 0, 1) := by decide +kernel
theorem dX11_digest_116 : decode cX11_digest 116 = .ok (.getfield 7, 3) := by decide +kernel
theorem dX11_digest_119 : decode cX11_digest 119 = .ok (.bipush 84, 2) := by decide +kernel
theorem dX11_digest_121 : decode cX11_digest 121 = .ok (.iaload, 1) := by decide +kernel
theorem dX11_digest_122 : decode cX11_digest 122 = .ok (.imul, 1) := by decide +kernel
theorem dX11_digest_123 : decode cX11_digest 123 = .ok (.if_icmp .ge 29, 3) := by decide +kernel
theorem dX11_digest_126 : decode cX11_digest 126 = .ok (.ldc2_w 370, 3) := by decide +kernel
theorem dX11_digest_129 : decode cX11_digest 129 = .ok (.lload_n 1, 1) := by decide +kernel
theorem dX11_digest_130 : decode cX11_digest 130 = .ok (.lmul, 1) := by decide +kernel
theorem dX11_digest_131 : decode cX11_digest 131 = .ok (.aload_n 0, 1) := by decide +kernel
theorem dX11_digest_132 : decode cX11_digest 132 = .ok (.iload_n 3, 1) := by decide +kernel
theorem dX11_digest_133 : decode cX11_digest 133 = .ok (.bipush 6, 2) := by decide +kernel
theorem dX11_digest_135 : decode cX11_digest 135 = .ok (.idiv, 1) := by decide +kernel
theorem dX11_digest_136 : decode cX11_digest 136 = .ok (.iload_n 3, 1) := by decide +kernel
theorem dX11_digest_137 : decode cX11_digest 137 = .ok (.bipush 6, 2) := by decide +kernel
theorem dX11_digest_139 : decode cX11_digest 139 = .ok (.irem, 1) := by decide +kernel
theorem dX11_digest_140 : decode cX11_digest 140 = .ok (.invokevirtual 194, 3) := by decide +kernel
theorem dX11_digest_143 : decode cX11_digest 143 = .ok (.i2l, 1) := by decide +kernel
theorem dX11_digest_144 : decode cX11_digest 144 = .ok (.ladd, 1) := by decide +kernel
theorem dX11_digest_145 : decode cX11_digest 145 = .ok (.lstore_n 1, 1) := by decide +kernel
theorem dX11_digest_146 : decode cX11_digest 146 = .ok (.iinc 3 1, 3) := by decide +kernel
theorem dX11_digest_149 : decode cX11_digest 149 = .ok (.goto (-37), 3) := by decide +kernel
theorem dX11_digest_152 : decode cX11_digest 152 = .ok (.iconst 0, 1) := by decide +kernel
theorem dX11_digest_153 : decode cX11_digest 153 = .ok (.istore_n 3, 1) := by decide +kernel
theorem dX11_digest_154 : decode cX11_digest 154 = .ok (.iload_n 3, 1) := by decide +kernel
theorem dX11_digest_155 : decode cX11_digest 155 = .ok (.bipush 6, 2) := by decide +kernel
theorem dX11_digest_157 : decode cX11_digest 157 = .ok (.if_icmp .ge 22, 3) := by decide +kernel
theorem dX11_digest_160 : decode cX11_digest 160 = .ok (.ldc2_w 370, 3) := by decide +kernel
theorem dX11_digest_163 : decode cX11_digest 163 = .ok (.lload_n 1, 1) := by decide +kernel
theorem dX11_digest_164 : decode cX11_digest 164 = .ok (.lmul, 1) := by decide +kernel
theorem dX11_digest_165 : decode cX11_digest 165 = .ok (.aload_n 0, 1) := by decide +kernel
theorem dX11_digest_166 : decode cX11_digest 166 = .ok (.iload_n 3, 1) := by decide +kernel
theorem dX11_digest_167 : decode cX11_digest 167 = .ok (.invokevirtual 220, 3) := by decide +kernel
theorem dX11_digest_170 : decode cX11_digest 170 = .ok (.i2l, 1) := by decide +kernel
theorem dX11_digest_171 : decode cX11_digest 171 = .ok (.ladd, 1) := by decide +kernel
theorem dX11_digest_172 : decode cX11_digest 172 = .ok (.lstore_n 1, 1) := by decide +kernel
theorem dX11_digest_173 : decode cX11_digest 173 = .ok (.iinc 3 1, 3) := by decide +kernel
theorem dX11_digest_176 : decode cX11_digest 176 = .ok (.goto (-22), 3) := by decide +kernel
theorem dX11_digest_179 : decode cX11_digest 179 = .ok (.ldc2_w 370, 3) := by decide +kernel
theorem dX11_digest_182 : decode cX11_digest 182 = .ok (.lload_n 1, 1) := by decide +kernel
theorem dX11_digest_183 : decode cX11_digest 183 = .ok (.lmul, 1) := by decide +kernel
theorem dX11_digest_184 : decode cX11_digest 184 = .ok (.aload_n 0, 1) := by decide +kernel
theorem dX11_digest_185 : decode cX11_digest 185 = .ok (.invokevirtual 309, 3) := by decide +kernel
theorem dX11_digest_188 : decode cX11_digest 188 = .ok (.i2l, 1) := by decide +kernel
theorem dX11_digest_189 : decode cX11_digest 189 = .ok (.ladd, 1) := by decide +kernel
theorem dX11_digest_190 : decode cX11_digest 190 = .ok (.lreturn, 1) := by decide +kernel
set_option maxHeartbeats 4000000 in
set_option maxRecDepth 100000 in
theorem t_X11_digest_L154 {l : Launch} {E : u_E} {K : u_K} {r : Int} {s' : u_S} (g : Wk l (XE E) { frames := 8, cells := 0, slots := 0, locals := 194 } cX11_digest 5 yX11_digest.cls yX11_digest.name (some .long) (RJ E r s') K) {v0_1 : u_O} (i_v0_1 : is_Mo v0_1) {kx179 : Int → u_S → Option (Int × u_S)} (hkx179 : ∀ (v1_6 : Int) (s_8 : u_S), InL v1_6 → kx179 v1_6 s_8 = some (r, s') → K 0 0 179 [some (.ref (E.1 v0_1)), some (.long (JL v1_6)), none, none, none] [] (Wd E s_8)) : ∀ (m : Nat) (v1_5 : Int) (v3_1 : Int) (s_6 : u_S), InL v1_5 → InR v3_1 → f_X11_digest_L154 m kx179 v0_1 v1_5 v3_1 s_6 = some (r, s') → K 0 0 154 [some (.ref (E.1 v0_1)), some (.long (JL v1_5)), none, some (.int (J v3_1)), none] [] (Wd E s_6) := by
  have g0 := g.wk
  intro m
  induction m with
  | zero =>
    intro v1_5 v3_1 s_6 i_v1_5 i_v3_1 h
    exact absurd (show (none : Option (Int × u_S)) = some (r, s') from h) (by intro z; cases z)
  | succ m ih =>
    intro v1_5 v3_1 s_6 i_v1_5 i_v3_1 h
    rw [f_X11_digest_L154] at h
    refine r_iload_n g0 dX11_digest_154 rfl ?_
    refine r_bipush g0 dX11_digest_155 rfl ?_
    refine r_icmp_ge g0 179 dX11_digest_157 (by decide) i_v3_1 (InR_lit rfl) (fun hc => ?_) (fun hc => ?_)
    · replace h := if_f hc h
      refine r_mask g0 (lv' := [some (.ref (E.1 v0_1)), some (.long (JL v1_5)), none, none, none]) [true, true, false, false, false] rfl ?_
      exact hkx179 v1_5 s_6 i_v1_5 h
    · replace h := if_t hc h
      refine r_ldc2 g0 (v := 31) dX11_digest_160 kX11_370 ?_
      refine r_lload_n g0 dX11_digest_163 rfl ?_
      refine r_lmul g0 dX11_digest_164 ?_
      refine r_aload_n g0 dX11_digest_165 rfl ?_
      refine r_iload_n g0 dX11_digest_166 rfl ?_
      obtain ⟨r_2, s_7, hr_2, h⟩ := bd_some h
      refine r_cVI g0 (rest := [.long (JL (wl (31 * v1_5)))]) (c_X11_allNow i_v0_1 i_v3_1 hr_2) ok_X11_allNow mX11_220 (recv_Mo i_v0_1) dX11_digest_167 ⟨Nat.le_of_ble_eq_true rfl, Nat.le_of_ble_eq_true rfl⟩ ⟨Nat.zero_le _, Nat.zero_le _⟩ rfl (Nat.le_of_ble_eq_true rfl) rfl (fun i_r_2 => ?_)
      refine r_i2l g0 dX11_digest_170 i_r_2 ?_
      refine r_ladd g0 dX11_digest_171 ?_
      refine r_lstore_n g0 (lv' := [some (.ref (E.1 v0_1)), some (.long (JL (wl ((wl (31 * v1_5)) + r_2)))), none, some (.int (J v3_1)), none]) dX11_digest_172 (by decide) rfl rfl ?_
      refine r_iinc g0 (a := v3_1) (lv' := [some (.ref (E.1 v0_1)), some (.long (JL (wl ((wl (31 * v1_5)) + r_2)))), none, some (.int (J (wr (v3_1 + 1)))), none]) dX11_digest_173 (by decide) rfl rfl rfl ?_
      refine r_goto g0 154 dX11_digest_176 (by decide) ?_
      exact ih (wl ((wl (31 * v1_5)) + r_2)) (wr (v3_1 + 1)) s_7 (InL_wl _) (InR_wr _) h
set_option maxHeartbeats 4000000 in
set_option maxRecDepth 100000 in
theorem t_X11_digest_L112 {l : Launch} {E : u_E} {K : u_K} {r : Int} {s' : u_S} (g : Wk l (XE E) { frames := 8, cells := 0, slots := 0, locals := 194 } cX11_digest 5 yX11_digest.cls yX11_digest.name (some .long) (RJ E r s') K) {v0_2 : u_O} (i_v0_2 : is_Mo v0_2) {kx152 : Int → u_S → Option (Int × u_S)} (hkx152 : ∀ (v1_8 : Int) (s_11 : u_S), InL v1_8 → kx152 v1_8 s_11 = some (r, s') → K 0 0 152 [some (.ref (E.1 v0_2)), some (.long (JL v1_8)), none, none, none] [] (Wd E s_11)) : ∀ (m : Nat) (v1_7 : Int) (v3_2 : Int) (s_9 : u_S), InL v1_7 → InR v3_2 → f_X11_digest_L112 m kx152 v0_2 v1_7 v3_2 s_9 = some (r, s') → K 0 0 112 [some (.ref (E.1 v0_2)), some (.long (JL v1_7)), none, some (.int (J v3_2)), none] [] (Wd E s_9) := by
  have g0 := g.wk
  intro m
  induction m with
  | zero =>
    intro v1_7 v3_2 s_9 i_v1_7 i_v3_2 h
    exact absurd (show (none : Option (Int × u_S)) = some (r, s') from h) (by intro z; cases z)
  | succ m ih =>
    intro v1_7 v3_2 s_9 i_v1_7 i_v3_2 h
    rw [f_X11_digest_L112] at h
    refine r_iload_n g0 dX11_digest_112 rfl ?_
    refine r_bipush g0 dX11_digest_113 rfl ?_
    refine r_aload_n g0 dX11_digest_115 rfl ?_
    refine g_Mo_all g0 i_v0_2 qX11_7 dX11_digest_116 ?_
    refine r_bipush g0 dX11_digest_119 rfl ?_
    obtain ⟨hb, h⟩ := gd_some h
    refine r_iaload g0 (is_a_Mo_all i_v0_2) (n := 145) rfl (InR_lit rfl) hb dX11_digest_121 ?_
    refine r_imul g0 dX11_digest_122 ?_
    refine r_icmp_ge g0 152 dX11_digest_123 (by decide) i_v3_2 (InR_wr _) (fun hc => ?_) (fun hc => ?_)
    · replace h := if_f hc h
      refine r_mask g0 (lv' := [some (.ref (E.1 v0_2)), some (.long (JL v1_7)), none, none, none]) [true, true, false, false, false] rfl ?_
      exact hkx152 v1_7 s_9 i_v1_7 h
    · replace h := if_t hc h
      refine r_ldc2 g0 (v := 31) dX11_digest_126 kX11_370 ?_
      refine r_lload_n g0 dX11_digest_129 rfl ?_
      refine r_lmul g0 dX11_digest_130 ?_
      refine r_aload_n g0 dX11_digest_131 rfl ?_
      refine r_iload_n g0 dX11_digest_132 rfl ?_
      refine r_bipush g0 dX11_digest_133 rfl ?_
      refine r_idiv g0 dX11_digest_135 i_v3_2 (InR_lit rfl) (by decide) ?_
      refine r_iload_n g0 dX11_digest_136 rfl ?_
      refine r_bipush g0 dX11_digest_137 rfl ?_
      refine r_irem g0 dX11_digest_139 i_v3_2 (InR_lit rfl) (by decide) ?_
      obtain ⟨r_3, s_10, hr_3, h⟩ := bd_some h
      refine r_cVI g0 (rest := [.long (JL (wl (31 * v1_7)))]) (c_X11_entryNow i_v0_2 (InR_wr _) (InR_rem _ i_v3_2) hr_3) ok_X11_entryNow mX11_194 (recv_Mo i_v0_2) dX11_digest_140 ⟨Nat.le_of_ble_eq_true rfl, Nat.le_of_ble_eq_true rfl⟩ ⟨Nat.zero_le _, Nat.zero_le _⟩ rfl (Nat.le_of_ble_eq_true rfl) rfl (fun i_r_3 => ?_)
      refine r_i2l g0 dX11_digest_143 i_r_3 ?_
      refine r_ladd g0 dX11_digest_144 ?_
      refine r_lstore_n g0 (lv' := [some (.ref (E.1 v0_2)), some (.long (JL (wl ((wl (31 * v1_7)) + r_3)))), none, some (.int (J v3_2)), none]) dX11_digest_145 (by decide) rfl rfl ?_
      refine r_iinc g0 (a := v3_2) (lv' := [some (.ref (E.1 v0_2)), some (.long (JL (wl ((wl (31 * v1_7)) + r_3)))), none, some (.int (J (wr (v3_2 + 1)))), none]) dX11_digest_146 (by decide) rfl rfl rfl ?_
      refine r_goto g0 112 dX11_digest_149 (by decide) ?_
      exact ih (wl ((wl (31 * v1_7)) + r_3)) (wr (v3_2 + 1)) s_10 (InL_wl _) (InR_wr _) h
set_option maxHeartbeats 4000000 in
set_option maxRecDepth 100000 in
theorem t_X11_digest_L65 {l : Launch} {E : u_E} {K : u_K} {r : Int} {s' : u_S} (g : Wk l (XE E) { frames := 8, cells := 0, slots := 0, locals := 194 } cX11_digest 5 yX11_digest.cls yX11_digest.name (some .long) (RJ E r s') K) {v0_4 : u_O} {v3_4 : Int} (i_v0_4 : is_Mo v0_4) (i_v3_4 : InR v3_4) {kx104 : Int → u_S → Option (Int × u_S)} (hkx104 : ∀ (v1_12 : Int) (s_19 : u_S), InL v1_12 → kx104 v1_12 s_19 = some (r, s') → K 0 0 104 [some (.ref (E.1 v0_4)), some (.long (JL v1_12)), none, some (.int (J v3_4)), none] [] (Wd E s_19)) : ∀ (m : Nat) (v1_11 : Int) (v4_1 : Int) (s_16 : u_S), InL v1_11 → InR v4_1 → f_X11_digest_L65 m kx104 v0_4 v3_4 v1_11 v4_1 s_16 = some (r, s') → K 0 0 65 [some (.ref (E.1 v0_4)), some (.long (JL v1_11)), none, some (.int (J v3_4)), some (.int (J v4_1))] [] (Wd E s_16) := by
  have g0 := g.wk
  intro m
  induction m with
  | zero =>
    intro v1_11 v4_1 s_16 i_v1_11 i_v4_1 h
    exact absurd (show (none : Option (Int × u_S)) = some (r, s') from h) (by intro z; cases z)
  | succ m ih =>
    intro v1_11 v4_1 s_16 i_v1_11 i_v4_1 h
    rw [f_X11_digest_L65] at h
    refine r_iload g0 dX11_digest_65 rfl ?_
    refine r_iconst g0 dX11_digest_67 ?_
    refine r_aload_n g0 dX11_digest_68 rfl ?_
    refine r_iload_n g0 dX11_digest_69 rfl ?_
    obtain ⟨r_6, s_17, hr_6, h⟩ := bd_some h
    refine r_cVI g0 (rest := [.int (J 4), .int (J v4_1)]) (c_X11_notes i_v0_4 i_v3_4 hr_6) ok_X11_notes mX11_65 (recv_Mo i_v0_4) dX11_digest_70 ⟨Nat.le_of_ble_eq_true rfl, Nat.le_of_ble_eq_true rfl⟩ ⟨Nat.zero_le _, Nat.zero_le _⟩ rfl (Nat.le_of_ble_eq_true rfl) rfl (fun i_r_6 => ?_)
    refine r_imul g0 dX11_digest_73 ?_
    refine r_icmp_ge g0 104 dX11_digest_74 (by decide) i_v4_1 (InR_wr _) (fun hc => ?_) (fun hc => ?_)
    · replace h := if_f hc h
      refine r_mask g0 (lv' := [some (.ref (E.1 v0_4)), some (.long (JL v1_11)), none, some (.int (J v3_4)), none]) [true, true, false, true, false] rfl ?_
      exact hkx104 v1_11 s_17 i_v1_11 h
    · replace h := if_t hc h
      refine r_ldc2 g0 (v := 31) dX11_digest_77 kX11_370 ?_
      refine r_lload_n g0 dX11_digest_80 rfl ?_
      refine r_lmul g0 dX11_digest_81 ?_
      refine r_aload_n g0 dX11_digest_82 rfl ?_
      refine r_iload_n g0 dX11_digest_83 rfl ?_
      refine r_iload g0 dX11_digest_84 rfl ?_
      refine r_iconst g0 dX11_digest_86 ?_
      refine r_idiv g0 dX11_digest_87 i_v4_1 (InR_lit rfl) (by decide) ?_
      refine r_iload g0 dX11_digest_88 rfl ?_
      refine r_iconst g0 dX11_digest_90 ?_
      refine r_irem g0 dX11_digest_91 i_v4_1 (InR_lit rfl) (by decide) ?_
      obtain ⟨r_7, s_18, hr_7, h⟩ := bd_some h
      refine r_cVI g0 (rest := [.long (JL (wl (31 * v1_11)))]) (c_X11_noteNow4 i_v0_4 i_v3_4 (InR_wr _) (InR_rem _ i_v4_1) hr_7) ok_X11_noteNow4 mX11_150 (recv_Mo i_v0_4) dX11_digest_92 ⟨Nat.le_of_ble_eq_true rfl, Nat.le_of_ble_eq_true rfl⟩ ⟨Nat.zero_le _, Nat.zero_le _⟩ rfl (Nat.le_of_ble_eq_true rfl) rfl (fun i_r_7 => ?_)
      refine r_i2l g0 dX11_digest_95 i_r_7 ?_
      refine r_ladd g0 dX11_digest_96 ?_
      refine r_lstore_n g0 (lv' := [some (.ref (E.1 v0_4)), some (.long (JL (wl ((wl (31 * v1_11)) + r_7)))), none, some (.int (J v3_4)), some (.int (J v4_1))]) dX11_digest_97 (by decide) rfl rfl ?_
      refine r_iinc g0 (a := v4_1) (lv' := [some (.ref (E.1 v0_4)), some (.long (JL (wl ((wl (31 * v1_11)) + r_7)))), none, some (.int (J v3_4)), some (.int (J (wr (v4_1 + 1))))]) dX11_digest_98 (by decide) rfl rfl rfl ?_
      refine r_goto g0 65 dX11_digest_101 (by decide) ?_
      exact ih (wl ((wl (31 * v1_11)) + r_7)) (wr (v4_1 + 1)) s_18 (InL_wl _) (InR_wr _) h
set_option maxHeartbeats 4000000 in
set_option maxRecDepth 100000 in
theorem t_X11_digest_L33 {l : Launch} {E : u_E} {K : u_K} {r : Int} {s' : u_S} (g : Wk l (XE E) { frames := 8, cells := 0, slots := 0, locals := 194 } cX11_digest 5 yX11_digest.cls yX11_digest.name (some .long) (RJ E r s') K) {v0_3 : u_O} (i_v0_3 : is_Mo v0_3) {kx110 : Int → u_S → Option (Int × u_S)} (hkx110 : ∀ (v1_13 : Int) (s_20 : u_S), InL v1_13 → kx110 v1_13 s_20 = some (r, s') → K 0 0 110 [some (.ref (E.1 v0_3)), some (.long (JL v1_13)), none, none, none] [] (Wd E s_20)) : ∀ (m : Nat) (v1_9 : Int) (v3_3 : Int) (s_12 : u_S), InL v1_9 → InR v3_3 → f_X11_digest_L33 m kx110 v0_3 v1_9 v3_3 s_12 = some (r, s') → K 0 0 33 [some (.ref (E.1 v0_3)), some (.long (JL v1_9)), none, some (.int (J v3_3)), none] [] (Wd E s_12) := by
  have g0 := g.wk
  intro m
  induction m with
  | zero =>
    intro v1_9 v3_3 s_12 i_v1_9 i_v3_3 h
    exact absurd (show (none : Option (Int × u_S)) = some (r, s') from h) (by intro z; cases z)
  | succ m ih =>
    intro v1_9 v3_3 s_12 i_v1_9 i_v3_3 h
    rw [f_X11_digest_L33] at h
    refine r_iload_n g0 dX11_digest_33 rfl ?_
    refine r_iconst g0 dX11_digest_34 ?_
    refine r_icmp_ge g0 110 dX11_digest_35 (by decide) i_v3_3 (InR_lit rfl) (fun hc => ?_) (fun hc => ?_)
    · replace h := if_f hc h
      refine r_mask g0 (lv' := [some (.ref (E.1 v0_3)), some (.long (JL v1_9)), none, none, none]) [true, true, false, false, false] rfl ?_
      exact hkx110 v1_9 s_12 i_v1_9 h
    · replace h := if_t hc h
      refine r_ldc2 g0 (v := 31) dX11_digest_38 kX11_370 ?_
      refine r_ldc2 g0 (v := 31) dX11_digest_41 kX11_370 ?_
      refine r_lload_n g0 dX11_digest_44 rfl ?_
      refine r_lmul g0 dX11_digest_45 ?_
      refine r_aload_n g0 dX11_digest_46 rfl ?_
      refine r_iload_n g0 dX11_digest_47 rfl ?_
      obtain ⟨r_4, s_13, hr_4, h⟩ := bd_some h
      refine r_cVI g0 (rest := [.long (JL (wl (31 * v1_9))), .long (JL 31)]) (c_X11_length i_v0_3 i_v3_3 hr_4) ok_X11_length mX11_128 (recv_Mo i_v0_3) dX11_digest_48 ⟨Nat.le_of_ble_eq_true rfl, Nat.le_of_ble_eq_true rfl⟩ ⟨Nat.zero_le _, Nat.zero_le _⟩ rfl (Nat.le_of_ble_eq_true rfl) rfl (fun i_r_4 => ?_)
      refine r_i2l g0 dX11_digest_51 i_r_4 ?_
      refine r_ladd g0 dX11_digest_52 ?_
      refine r_lmul g0 dX11_digest_53 ?_
      refine r_aload_n g0 dX11_digest_54 rfl ?_
      refine r_iload_n g0 dX11_digest_55 rfl ?_
      obtain ⟨r_5, s_14, hr_5, h⟩ := bd_some h
      refine r_cVI g0 (rest := [.long (JL (wl (31 * (wl ((wl (31 * v1_9)) + r_4)))))]) (c_X11_notes i_v0_3 i_v3_3 hr_5) ok_X11_notes mX11_65 (recv_Mo i_v0_3) dX11_digest_56 ⟨Nat.le_of_ble_eq_true rfl, Nat.le_of_ble_eq_true rfl⟩ ⟨Nat.zero_le _, Nat.zero_le _⟩ rfl (Nat.le_of_ble_eq_true rfl) rfl (fun i_r_5 => ?_)
      refine r_i2l g0 dX11_digest_59 i_r_5 ?_
      refine r_ladd g0 dX11_digest_60 ?_
      refine r_lstore_n g0 (lv' := [some (.ref (E.1 v0_3)), some (.long (JL (wl ((wl (31 * (wl ((wl (31 * v1_9)) + r_4)))) + r_5)))), none, some (.int (J v3_3)), none]) dX11_digest_61 (by decide) rfl rfl ?_
      refine r_iconst g0 dX11_digest_62 ?_
      refine r_istore g0 (lv' := [some (.ref (E.1 v0_3)), some (.long (JL (wl ((wl (31 * (wl ((wl (31 * v1_9)) + r_4)))) + r_5)))), none, some (.int (J v3_3)), some (.int (J 0))]) dX11_digest_63 (by decide) rfl rfl ?_
      refine t_X11_digest_L65 g i_v0_3 i_v3_3 ?_ FU (wl ((wl (31 * (wl ((wl (31 * v1_9)) + r_4)))) + r_5)) 0 s_14 (InL_wl _) (B01.inR B01_0) h
      · intro v1_10 s_15 i_v1_10 h
        refine r_iinc g0 (a := v3_3) (lv' := [some (.ref (E.1 v0_3)), some (.long (JL v1_10)), none, some (.int (J (wr (v3_3 + 1)))), none]) dX11_digest_104 (by decide) rfl rfl rfl ?_
        refine r_goto g0 33 dX11_digest_107 (by decide) ?_
        exact ih v1_10 (wr (v3_3 + 1)) s_15 i_v1_10 (InR_wr _) h
set_option maxHeartbeats 4000000 in
set_option maxRecDepth 100000 in
theorem t_X11_digest_L6 {l : Launch} {E : u_E} {K : u_K} {r : Int} {s' : u_S} (g : Wk l (XE E) { frames := 8, cells := 0, slots := 0, locals := 194 } cX11_digest 5 yX11_digest.cls yX11_digest.name (some .long) (RJ E r s') K) {v0_5 : u_O} (i_v0_5 : is_Mo v0_5) {kx31 : Int → u_S → Option (Int × u_S)} (hkx31 : ∀ (v1_15 : Int) (s_23 : u_S), InL v1_15 → kx31 v1_15 s_23 = some (r, s') → K 0 0 31 [some (.ref (E.1 v0_5)), some (.long (JL v1_15)), none, none, none] [] (Wd E s_23)) : ∀ (m : Nat) (v1_14 : Int) (v3_5 : Int) (s_21 : u_S), InL v1_14 → InR v3_5 → f_X11_digest_L6 m kx31 v0_5 v1_14 v3_5 s_21 = some (r, s') → K 0 0 6 [some (.ref (E.1 v0_5)), some (.long (JL v1_14)), none, some (.int (J v3_5)), none] [] (Wd E s_21) := by
  have g0 := g.wk
  intro m
  induction m with
  | zero =>
    intro v1_14 v3_5 s_21 i_v1_14 i_v3_5 h
    exact absurd (show (none : Option (Int × u_S)) = some (r, s') from h) (by intro z; cases z)
  | succ m ih =>
    intro v1_14 v3_5 s_21 i_v1_14 i_v3_5 h
    rw [f_X11_digest_L6] at h
    refine r_iload_n g0 dX11_digest_6 rfl ?_
    refine r_bipush g0 dX11_digest_7 rfl ?_
    refine r_icmp_ge g0 31 dX11_digest_9 (by decide) i_v3_5 (InR_lit rfl) (fun hc => ?_) (fun hc => ?_)
    · replace h := if_f hc h
      refine r_mask g0 (lv' := [some (.ref (E.1 v0_5)), some (.long (JL v1_14)), none, none, none]) [true, true, false, false, false] rfl ?_
      exact hkx31 v1_14 s_21 i_v1_14 h
    · replace h := if_t hc h
      refine r_ldc2 g0 (v := 31) dX11_digest_12 kX11_370 ?_
      refine r_lload_n g0 dX11_digest_15 rfl ?_
      refine r_lmul g0 dX11_digest_16 ?_
      refine r_aload_n g0 dX11_digest_17 rfl ?_
      refine r_iload_n g0 dX11_digest_18 rfl ?_
      obtain ⟨r_8, s_22, hr_8, h⟩ := bd_some h
      refine r_cVI g0 (rest := [.long (JL (wl (31 * v1_14)))]) (c_X11_toldOf i_v0_5 i_v3_5 hr_8) ok_X11_toldOf mX11_365 (recv_Mo i_v0_5) dX11_digest_19 ⟨Nat.le_of_ble_eq_true rfl, Nat.le_of_ble_eq_true rfl⟩ ⟨Nat.zero_le _, Nat.zero_le _⟩ rfl (Nat.le_of_ble_eq_true rfl) rfl (fun i_r_8 => ?_)
      refine r_i2l g0 dX11_digest_22 i_r_8 ?_
      refine r_ladd g0 dX11_digest_23 ?_
      refine r_lstore_n g0 (lv' := [some (.ref (E.1 v0_5)), some (.long (JL (wl ((wl (31 * v1_14)) + r_8)))), none, some (.int (J v3_5)), none]) dX11_digest_24 (by decide) rfl rfl ?_
      refine r_iinc g0 (a := v3_5) (lv' := [some (.ref (E.1 v0_5)), some (.long (JL (wl ((wl (31 * v1_14)) + r_8)))), none, some (.int (J (wr (v3_5 + 1)))), none]) dX11_digest_25 (by decide) rfl rfl rfl ?_
      refine r_goto g0 6 dX11_digest_28 (by decide) ?_
      exact ih (wl ((wl (31 * v1_14)) + r_8)) (wr (v3_5 + 1)) s_22 (InL_wl _) (InR_wr _) h
set_option maxHeartbeats 4000000 in
set_option maxRecDepth 100000 in
theorem c_X11_digest {E : u_E} {l : Launch} {o : u_O} (ho : is_Mo o) {s s' : u_S} {r : Int} (h : f_X11_digest o s = some (r, s')) : Con l (XE E) yX11_digest cX11_digest 5 (some .long) 8 194 0 0 [.ref (E.1 o)] (Wd E s) (RJ E r s') := by
  refine Con.of [some (.ref (E.1 o)), none, none, none, none] (by decide +kernel) rfl rfl (Nat.le_of_ble_eq_true rfl) (fun K g => ?_)
  have g0 := g.wk
  unfold f_X11_digest at h
  refine r_ldc2 g0 (v := 2267) dX11_digest_0 kX11_368 ?_
  refine r_lstore_n g0 (lv' := [some (.ref (E.1 o)), some (.long (JL 2267)), none, none, none]) dX11_digest_3 (by decide) rfl rfl ?_
  refine r_iconst g0 dX11_digest_4 ?_
  refine r_istore_n g0 (lv' := [some (.ref (E.1 o)), some (.long (JL 2267)), none, some (.int (J 0)), none]) dX11_digest_5 (by decide) rfl rfl ?_
  refine t_X11_digest_L6 g ho ?_ FU 2267 0 s (InL_lit rfl) (B01.inR B01_0) h
  · intro v1_1 s_1 i_v1_1 h
    refine r_iconst g0 dX11_digest_31 ?_
    refine r_istore_n g0 (lv' := [some (.ref (E.1 o)), some (.long (JL v1_1)), none, some (.int (J 0)), none]) dX11_digest_32 (by decide) rfl rfl ?_
    refine t_X11_digest_L33 g ho ?_ FU v1_1 0 s_1 i_v1_1 (B01.inR B01_0) h
    · intro v1_2 s_2 i_v1_2 h
      refine r_iconst g0 dX11_digest_110 ?_
      refine r_istore_n g0 (lv' := [some (.ref (E.1 o)), some (.long (JL v1_2)), none, some (.int (J 0)), none]) dX11_digest_111 (by decide) rfl rfl ?_
      refine t_X11_digest_L112 g ho ?_ FU v1_2 0 s_2 i_v1_2 (B01.inR B01_0) h
      · intro v1_3 s_3 i_v1_3 h
        refine r_iconst g0 dX11_digest_152 ?_
        refine r_istore_n g0 (lv' := [some (.ref (E.1 o)), some (.long (JL v1_3)), none, some (.int (J 0)), none]) dX11_digest_153 (by decide) rfl rfl ?_
        refine t_X11_digest_L154 g ho ?_ FU v1_3 0 s_3 i_v1_3 (B01.inR B01_0) h
        · intro v1_4 s_4 i_v1_4 h
          refine r_ldc2 g0 (v := 31) dX11_digest_179 kX11_370 ?_
          refine r_lload_n g0 dX11_digest_182 rfl ?_
          refine r_lmul g0 dX11_digest_183 ?_
          refine r_aload_n g0 dX11_digest_184 rfl ?_
          obtain ⟨r_1, s_5, hr_1, h⟩ := bd_some h
          refine r_cVI g0 (rest := [.long (JL (wl (31 * v1_4)))]) (c_X11_bestPath ho hr_1) ok_X11_bestPath mX11_309 (recv_Mo ho) dX11_digest_185 ⟨Nat.le_of_ble_eq_true rfl, Nat.le_of_ble_eq_true rfl⟩ ⟨Nat.zero_le _, Nat.zero_le _⟩ rfl (Nat.le_of_ble_eq_true rfl) rfl (fun i_r_1 => ?_)
          refine r_i2l g0 dX11_digest_188 i_r_1 ?_
          refine r_ladd g0 dX11_digest_189 ?_
          exact z_J g dX11_digest_190 (InL_wl _) h
