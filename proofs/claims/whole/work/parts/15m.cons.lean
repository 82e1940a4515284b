/-! THE CONTRACTS: the bytecode does what the functions say (by program, wip/whole/gen) -/
theorem dX11_enters_0 : decode cX11_enters 0 = .ok (.aload_n 0, 1) := by decide +kernel
theorem dX11_enters_1 : decode cX11_enters 1 = .ok (.iload_n 1, 1) := by decide +kernel
theorem dX11_enters_2 : decode cX11_enters 2 = .ok (.iload_n 2, 1) := by decide +kernel
theorem dX11_enters_3 : decode cX11_enters 3 = .ok (.iload_n 3, 1) := by decide +kernel
theorem dX11_enters_4 : decode cX11_enters 4 = .ok (.iload 4, 2) := by decide +kernel
theorem dX11_enters_6 : decode cX11_enters 6 = .ok (.iload 5, 2) := by decide +kernel
theorem dX11_enters_8 : decode cX11_enters 8 = .ok (.invokevirtual 182, 3) := by decide +kernel
theorem dX11_enters_11 : decode cX11_enters 11 = .ok (.istore 6, 2) := by decide +kernel
theorem dX11_enters_13 : decode cX11_enters 13 = .ok (.iload 6, 2) := by decide +kernel
theorem dX11_enters_15 : decode cX11_enters 15 = .ok (.ifCond .ge 10, 3) := by decide +kernel
theorem dX11_enters_18 : decode cX11_enters 18 = .ok (.aload_n 0, 1) := by decide +kernel
theorem dX11_enters_19 : decode cX11_enters 19 = .ok (.iload 6, 2) := by decide +kernel
theorem dX11_enters_21 : decode cX11_enters 21 = .ok (.invokevirtual 97, 3) := by decide +kernel
theorem dX11_enters_24 : decode cX11_enters 24 = .ok (.ireturn, 1) := by decide +kernel
theorem dX11_enters_25 : decode cX11_enters 25 = .ok (.aload_n 0, 1) := by decide +kernel
theorem dX11_enters_26 : decode cX11_enters 26 = .ok (.invokevirtual 100, 3) := by decide +kernel
theorem dX11_enters_29 : decode cX11_enters 29 = .ok (.aload_n 0, 1) := by decide +kernel
theorem dX11_enters_30 : decode cX11_enters 30 = .ok (.iload_n 1, 1) := by decide +kernel
theorem dX11_enters_31 : decode cX11_enters 31 = .ok (.iload_n 2, 1) := by decide +kernel
theorem dX11_enters_32 : decode cX11_enters 32 = .ok (.iload_n 3, 1) := by decide +kernel
theorem dX11_enters_33 : decode cX11_enters 33 = .ok (.iload 4, 2) := by decide +kernel
theorem dX11_enters_35 : decode cX11_enters 35 = .ok (.iload 5, 2) := by decide +kernel
theorem dX11_enters_37 : decode cX11_enters 37 = .ok (.invokevirtual 186, 3) := by decide +kernel
theorem dX11_enters_40 : decode cX11_enters 40 = .ok (.ireturn, 1) := by decide +kernel
set_option maxHeartbeats 4000000 in
set_option maxRecDepth 100000 in
theorem c_X11_enters {E : u_E} {l : Launch} {o : u_O} {p1 : Int} {p2 : Int} {p3 : Int} {p4 : Int} {p5 : Int} (ho : is_Mo o) (i_p1 : InR p1) (i_p2 : InR p2) (i_p3 : InR p3) (i_p4 : InR p4) (i_p5 : InR p5) {s s' : u_S} {r : Int} (h : f_X11_enters o p1 p2 p3 p4 p5 s = some (r, s')) : Con l (XE E) yX11_enters cX11_enters 7 (some .int) 4 94 0 0 [.ref (E.1 o), .int (J p1), .int (J p2), .int (J p3), .int (J p4), .int (J p5)] (Wd E s) (RI E r s') := by
  refine Con.of [some (.ref (E.1 o)), some (.int (J p1)), some (.int (J p2)), some (.int (J p3)), some (.int (J p4)), some (.int (J p5)), none] (by decide +kernel) rfl rfl (Nat.le_of_ble_eq_true rfl) (fun K g => ?_)
  have g0 := g.wk
  unfold f_X11_enters at h
  refine r_aload_n g0 dX11_enters_0 rfl ?_
  refine r_iload_n g0 dX11_enters_1 rfl ?_
  refine r_iload_n g0 dX11_enters_2 rfl ?_
  refine r_iload_n g0 dX11_enters_3 rfl ?_
  refine r_iload g0 dX11_enters_4 rfl ?_
  refine r_iload g0 dX11_enters_6 rfl ?_
  obtain ⟨r_1, s_1, hr_1, h⟩ := bd_some h
  refine r_cVI g0 (rest := []) (c_X11_canEnter ho i_p1 i_p2 i_p3 i_p4 i_p5 hr_1) ok_X11_canEnter mX11_182 (recv_Mo ho) dX11_enters_8 ⟨Nat.le_of_ble_eq_true rfl, Nat.le_of_ble_eq_true rfl⟩ ⟨Nat.zero_le _, Nat.zero_le _⟩ rfl (Nat.le_of_ble_eq_true rfl) rfl (fun i_r_1 => ?_)
  refine r_istore g0 (lv' := [some (.ref (E.1 o)), some (.int (J p1)), some (.int (J p2)), some (.int (J p3)), some (.int (J p4)), some (.int (J p5)), some (.int (J r_1))]) dX11_enters_11 (by decide) rfl rfl ?_
  refine r_iload g0 dX11_enters_13 rfl ?_
  refine r_if_ge g0 25 dX11_enters_15 (by decide) i_r_1 (fun hc => ?_) (fun hc => ?_)
  · replace h := if_f hc h
    refine r_aload_n g0 dX11_enters_25 rfl ?_
    obtain ⟨r_2, s_2, hr_2, h⟩ := bd_some h
    refine r_cVV g0 (rest := []) (c_X11_keep ho hr_2) ok_X11_keep mX11_100 (recv_Mo ho) dX11_enters_26 ⟨Nat.le_of_ble_eq_true rfl, Nat.le_of_ble_eq_true rfl⟩ ⟨Nat.zero_le _, Nat.zero_le _⟩ rfl (Nat.le_of_ble_eq_true rfl) rfl ?_
    refine r_aload_n g0 dX11_enters_29 rfl ?_
    refine r_iload_n g0 dX11_enters_30 rfl ?_
    refine r_iload_n g0 dX11_enters_31 rfl ?_
    refine r_iload_n g0 dX11_enters_32 rfl ?_
    refine r_iload g0 dX11_enters_33 rfl ?_
    refine r_iload g0 dX11_enters_35 rfl ?_
    obtain ⟨r_3, s_3, hr_3, h⟩ := bd_some h
    refine r_cVI g0 (rest := []) (c_X11_enterNow ho i_p1 i_p2 i_p3 i_p4 i_p5 hr_3) ok_X11_enterNow mX11_186 (recv_Mo ho) dX11_enters_37 ⟨Nat.le_of_ble_eq_true rfl, Nat.le_of_ble_eq_true rfl⟩ ⟨Nat.zero_le _, Nat.zero_le _⟩ rfl (Nat.le_of_ble_eq_true rfl) rfl (fun i_r_3 => ?_)
    exact z_I g dX11_enters_40 i_r_3 h
  · replace h := if_t hc h
    refine r_aload_n g0 dX11_enters_18 rfl ?_
    refine r_iload g0 dX11_enters_19 rfl ?_
    obtain ⟨r_4, s_4, hr_4, h⟩ := bd_some h
    refine r_cVI g0 (rest := []) (c_X11_refuses ho i_r_1 hr_4) ok_X11_refuses mX11_97 (recv_Mo ho) dX11_enters_21 ⟨Nat.le_of_ble_eq_true rfl, Nat.le_of_ble_eq_true rfl⟩ ⟨Nat.zero_le _, Nat.zero_le _⟩ rfl (Nat.le_of_ble_eq_true rfl) rfl (fun i_r_4 => ?_)
    exact z_I g dX11_enters_24 i_r_4 h
theorem dX11_leaves_0 : decode cX11_leaves 0 = .ok (.aload_n 0, 1) := by decide +kernel
theorem dX11_leaves_1 : decode cX11_leaves 1 = .ok (.iload_n 1, 1) := by decide +kernel
theorem dX11_leaves_2 : decode cX11_leaves 2 = .ok (.invokevirtual 189, 3) := by decide +kernel
theorem dX11_leaves_5 : decode cX11_leaves 5 = .ok (.ifCond .ne 10, 3) := by decide +kernel
theorem dX11_leaves_8 : decode cX11_leaves 8 = .ok (.aload_n 0, 1) := by decide +kernel
theorem dX11_leaves_9 : decode cX11_leaves 9 = .ok (.bipush (-2), 2) := by decide +kernel
theorem dX11_leaves_11 : decode cX11_leaves 11 = .ok (.invokevirtual 97, 3) := by decide +kernel
theorem dX11_leaves_14 : decode cX11_leaves 14 = .ok (.ireturn, 1) := by decide +kernel
theorem dX11_leaves_15 : decode cX11_leaves 15 = .ok (.aload_n 0, 1) := by decide +kernel
theorem dX11_leaves_16 : decode cX11_leaves 16 = .ok (.invokevirtual 100, 3) := by decide +kernel
theorem dX11_leaves_19 : decode cX11_leaves 19 = .ok (.iconst 5, 1) := by decide +kernel
theorem dX11_leaves_20 : decode cX11_leaves 20 = .ok (.iload_n 1, 1) := by decide +kernel
theorem dX11_leaves_21 : decode cX11_leaves 21 = .ok (.imul, 1) := by decide +kernel
theorem dX11_leaves_22 : decode cX11_leaves 22 = .ok (.istore_n 2, 1) := by decide +kernel
theorem dX11_leaves_23 : decode cX11_leaves 23 = .ok (.iload_n 2, 1) := by decide +kernel
theorem dX11_leaves_24 : decode cX11_leaves 24 = .ok (.iconst 5, 1) := by decide +kernel
theorem dX11_leaves_25 : decode cX11_leaves 25 = .ok (.aload_n 0, 1) := by decide +kernel
theorem dX11_leaves_26 : decode cX11_leaves 26 = .ok (.getfield 7, 3) := by decide +kernel
theorem dX11_leaves_29 : decode cX11_leaves 29 = .ok (.bipush 84, 2) := by decide +kernel
theorem dX11_leaves_31 : decode cX11_leaves 31 = .ok (.iaload, 1) := by decide +kernel
theorem dX11_leaves_32 : decode cX11_leaves 32 = .ok (.iconst 1, 1) := by decide +kernel
theorem dX11_leaves_33 : decode cX11_leaves 33 = .ok (.isub, 1) := by decide +kernel
theorem dX11_leaves_34 : decode cX11_leaves 34 = .ok (.imul, 1) := by decide +kernel
theorem dX11_leaves_35 : decode cX11_leaves 35 = .ok (.if_icmp .ge 29, 3) := by decide +kernel
theorem dX11_leaves_38 : decode cX11_leaves 38 = .ok (.aload_n 0, 1) := by decide +kernel
theorem dX11_leaves_39 : decode cX11_leaves 39 = .ok (.getfield 7, 3) := by decide +kernel
theorem dX11_leaves_42 : decode cX11_leaves 42 = .ok (.bipush 85, 2) := by decide +kernel
theorem dX11_leaves_44 : decode cX11_leaves 44 = .ok (.iload_n 2, 1) := by decide +kernel
theorem dX11_leaves_45 : decode cX11_leaves 45 = .ok (.iadd, 1) := by decide +kernel
theorem dX11_leaves_46 : decode cX11_leaves 46 = .ok (.aload_n 0, 1) := by decide +kernel
theorem dX11_leaves_47 : decode cX11_leaves 47 = .ok (.getfield 7, 3) := by decide +kernel
theorem dX11_leaves_50 : decode cX11_leaves 50 = .ok (.bipush 85, 2) := by decide +kernel
theorem dX11_leaves_52 : decode cX11_leaves 52 = .ok (.iload_n 2, 1) := by decide +kernel
theorem dX11_leaves_53 : decode cX11_leaves 53 = .ok (.iadd, 1) := by decide +kernel
theorem dX11_leaves_54 : decode cX11_leaves 54 = .ok (.iconst 5, 1) := by decide +kernel
theorem dX11_leaves_55 : decode cX11_leaves 55 = .ok (.iadd, 1) := by decide +kernel
theorem dX11_leaves_56 : decode cX11_leaves 56 = .ok (.iaload, 1) := by decide +kernel
theorem dX11_leaves_57 : decode cX11_leaves 57 = .ok (.iastore, 1) := by decide +kernel
theorem dX11_leaves_58 : decode cX11_leaves 58 = .ok (.iinc 2 1, 3) := by decide +kernel
theorem dX11_leaves_61 : decode cX11_leaves 61 = .ok (.goto (-38), 3) := by decide +kernel
theorem dX11_leaves_64 : decode cX11_leaves 64 = .ok (.aload_n 0, 1) := by decide +kernel
theorem dX11_leaves_65 : decode cX11_leaves 65 = .ok (.getfield 7, 3) := by decide +kernel
theorem dX11_leaves_68 : decode cX11_leaves 68 = .ok (.bipush 84, 2) := by decide +kernel
theorem dX11_leaves_70 : decode cX11_leaves 70 = .ok (.dup2, 1) := by decide +kernel
theorem dX11_leaves_71 : decode cX11_leaves 71 = .ok (.iaload, 1) := by decide +kernel
theorem dX11_leaves_72 : decode cX11_leaves 72 = .ok (.iconst 1, 1) := by decide +kernel
theorem dX11_leaves_73 : decode cX11_leaves 73 = .ok (.isub, 1) := by decide +kernel
theorem dX11_leaves_74 : decode cX11_leaves 74 = .ok (.iastore, 1) := by decide +kernel
theorem dX11_leaves_75 : decode cX11_leaves 75 = .ok (.aload_n 0, 1) := by decide +kernel
theorem dX11_leaves_76 : decode cX11_leaves 76 = .ok (.getfield 7, 3) := by decide +kernel
theorem dX11_leaves_79 : decode cX11_leaves 79 = .ok (.bipush 84, 2) := by decide +kernel
theorem dX11_leaves_81 : decode cX11_leaves 81 = .ok (.iaload, 1) := by decide +kernel
theorem dX11_leaves_82 : decode cX11_leaves 82 = .ok (.ireturn, 1) := by decide +kernel
set_option maxHeartbeats 4000000 in
set_option maxRecDepth 100000 in
theorem t_X11_leaves_L23 {l : Launch} {E : u_E} {K : u_K} {r : Int} {s' : u_S} (g : Wk l (XE E) { frames := 2, cells := 0, slots := 0, locals := 46 } cX11_leaves 3 yX11_leaves.cls yX11_leaves.name (some .int) (RI E r s') K) {v0_1 : u_O} (i_v0_1 : is_Mo v0_1) {kx64 : u_S → Option (Int × u_S)} (hkx64 : ∀ (s_5 : u_S), kx64 s_5 = some (r, s') → K 0 0 64 [some (.ref (E.1 v0_1)), none, none] [] (Wd E s_5)) : ∀ (m : Nat) (v2_1 : Int) (s_4 : u_S), InR v2_1 → f_X11_leaves_L23 m kx64 v0_1 v2_1 s_4 = some (r, s') → K 0 0 23 [some (.ref (E.1 v0_1)), none, some (.int (J v2_1))] [] (Wd E s_4) := by
  have g0 := g.wk
  intro m
  induction m with
  | zero =>
    intro v2_1 s_4 i_v2_1 h
    exact absurd (show (none : Option (Int × u_S)) = some (r, s') from h) (by intro z; cases z)
  | succ m ih =>
    intro v2_1 s_4 i_v2_1 h
    rw [f_X11_leaves_L23] at h
    refine r_iload_n g0 dX11_leaves_23 rfl ?_
    refine r_iconst g0 dX11_leaves_24 ?_
    refine r_aload_n g0 dX11_leaves_25 rfl ?_
    refine g_Mo_all g0 i_v0_1 qX11_7 dX11_leaves_26 ?_
    refine r_bipush g0 dX11_leaves_29 rfl ?_
    obtain ⟨hb, h⟩ := gd_some h
    refine r_iaload g0 (is_a_Mo_all i_v0_1) (n := 145) rfl (InR_lit rfl) hb dX11_leaves_31 ?_
    refine r_iconst g0 dX11_leaves_32 ?_
    refine r_isub g0 dX11_leaves_33 ?_
    refine r_imul g0 dX11_leaves_34 ?_
    refine r_icmp_ge g0 64 dX11_leaves_35 (by decide) i_v2_1 (InR_wr _) (fun hc => ?_) (fun hc => ?_)
    · replace h := if_f hc h
      refine r_mask g0 (lv' := [some (.ref (E.1 v0_1)), none, none]) [true, false, false] rfl ?_
      exact hkx64 s_4 h
    · replace h := if_t hc h
      refine r_aload_n g0 dX11_leaves_38 rfl ?_
      refine g_Mo_all g0 i_v0_1 qX11_7 dX11_leaves_39 ?_
      refine r_bipush g0 dX11_leaves_42 rfl ?_
      refine r_iload_n g0 dX11_leaves_44 rfl ?_
      refine r_iadd g0 dX11_leaves_45 ?_
      refine r_aload_n g0 dX11_leaves_46 rfl ?_
      refine g_Mo_all g0 i_v0_1 qX11_7 dX11_leaves_47 ?_
      refine r_bipush g0 dX11_leaves_50 rfl ?_
      refine r_iload_n g0 dX11_leaves_52 rfl ?_
      refine r_iadd g0 dX11_leaves_53 ?_
      refine r_iconst g0 dX11_leaves_54 ?_
      refine r_iadd g0 dX11_leaves_55 ?_
      obtain ⟨hb, h⟩ := gd_some h
      refine r_iaload g0 (is_a_Mo_all i_v0_1) (n := 145) rfl (InR_wr _) hb dX11_leaves_56 ?_
      obtain ⟨hb, h⟩ := gd_some h
      refine r_iastore g0 (is_a_Mo_all i_v0_1) (n := 145) rfl (InR_wr _) hb dX11_leaves_57 ?_
      refine r_iinc g0 (a := v2_1) (lv' := [some (.ref (E.1 v0_1)), none, some (.int (J (wr (v2_1 + 1))))]) dX11_leaves_58 (by decide) rfl rfl rfl ?_
      refine r_goto g0 23 dX11_leaves_61 (by decide) ?_
      exact ih (wr (v2_1 + 1)) (wt s_4 (a_Mo_all v0_1) (wr (85 + v2_1)) (rd s_4 (a_Mo_all v0_1) (wr ((wr (85 + v2_1)) + 5)))) (InR_wr _) h
set_option maxHeartbeats 4000000 in
set_option maxRecDepth 100000 in
theorem c_X11_leaves {E : u_E} {l : Launch} {o : u_O} {p1 : Int} (ho : is_Mo o) (i_p1 : InR p1) {s s' : u_S} {r : Int} (h : f_X11_leaves o p1 s = some (r, s')) : Con l (XE E) yX11_leaves cX11_leaves 3 (some .int) 2 46 0 0 [.ref (E.1 o), .int (J p1)] (Wd E s) (RI E r s') := by
  refine Con.of [some (.ref (E.1 o)), some (.int (J p1)), none] (by decide +kernel) rfl rfl (Nat.le_of_ble_eq_true rfl) (fun K g => ?_)
  have g0 := g.wk
  unfold f_X11_leaves at h
  refine r_aload_n g0 dX11_leaves_0 rfl ?_
  refine r_iload_n g0 dX11_leaves_1 rfl ?_
  obtain ⟨r_1, s_1, hr_1, h⟩ := bd_some h
  refine r_cVZ g0 (rest := []) (c_X11_isEntry ho i_p1 hr_1) ok_X11_isEntry mX11_189 (recv_Mo ho) dX11_leaves_2 ⟨Nat.le_of_ble_eq_true rfl, Nat.le_of_ble_eq_true rfl⟩ ⟨Nat.zero_le _, Nat.zero_le _⟩ rfl (Nat.le_of_ble_eq_true rfl) rfl (fun i_r_1 => ?_)
  refine r_if_ne g0 15 dX11_leaves_5 (by decide) (B01.inR i_r_1) (fun hc => ?_) (fun hc => ?_)
  · replace h := if_f hc h
    refine r_aload_n g0 dX11_leaves_15 rfl ?_
    obtain ⟨r_2, s_2, hr_2, h⟩ := bd_some h
    refine r_cVV g0 (rest := []) (c_X11_keep ho hr_2) ok_X11_keep mX11_100 (recv_Mo ho) dX11_leaves_16 ⟨Nat.le_of_ble_eq_true rfl, Nat.le_of_ble_eq_true rfl⟩ ⟨Nat.zero_le _, Nat.zero_le _⟩ rfl (Nat.le_of_ble_eq_true rfl) rfl ?_
    refine r_iconst g0 dX11_leaves_19 ?_
    refine r_iload_n g0 dX11_leaves_20 rfl ?_
    refine r_imul g0 dX11_leaves_21 ?_
    refine r_istore_n g0 (lv' := [some (.ref (E.1 o)), some (.int (J p1)), some (.int (J (wr (5 * p1))))]) dX11_leaves_22 (by decide) rfl rfl ?_
    refine r_mask g0 (lv' := [some (.ref (E.1 o)), none, some (.int (J (wr (5 * p1))))]) [true, false, true] rfl ?_
    refine t_X11_leaves_L23 g ho ?_ FU (wr (5 * p1)) s_2 (InR_wr _) h
    · intro s_3 h
      refine r_aload_n g0 dX11_leaves_64 rfl ?_
      refine g_Mo_all g0 ho qX11_7 dX11_leaves_65 ?_
      refine r_bipush g0 dX11_leaves_68 rfl ?_
      refine r_dup2 g0 dX11_leaves_70 rfl rfl ?_
      obtain ⟨hb, h⟩ := gd_some h
      refine r_iaload g0 (is_a_Mo_all ho) (n := 145) rfl (InR_lit rfl) hb dX11_leaves_71 ?_
      refine r_iconst g0 dX11_leaves_72 ?_
      refine r_isub g0 dX11_leaves_73 ?_
      obtain ⟨hb, h⟩ := gd_some h
      refine r_iastore g0 (is_a_Mo_all ho) (n := 145) rfl (InR_lit rfl) hb dX11_leaves_74 ?_
      refine r_aload_n g0 dX11_leaves_75 rfl ?_
      refine g_Mo_all g0 ho qX11_7 dX11_leaves_76 ?_
      refine r_bipush g0 dX11_leaves_79 rfl ?_
      obtain ⟨hb, h⟩ := gd_some h
      refine r_iaload g0 (is_a_Mo_all ho) (n := 145) rfl (InR_lit rfl) hb dX11_leaves_81 ?_
      exact z_I g dX11_leaves_82 (InR_rd _ _ _) h
  · replace h := if_t hc h
    refine r_aload_n g0 dX11_leaves_8 rfl ?_
    refine r_bipush g0 dX11_leaves_9 rfl ?_
    obtain ⟨r_3, s_6, hr_3, h⟩ := bd_some h
    refine r_cVI g0 (rest := []) (c_X11_refuses ho (InR_lit rfl) hr_3) ok_X11_refuses mX11_97 (recv_Mo ho) dX11_leaves_11 ⟨Nat.le_of_ble_eq_true rfl, Nat.le_of_ble_eq_true rfl⟩ ⟨Nat.zero_le _, Nat.zero_le _⟩ rfl (Nat.le_of_ble_eq_true rfl) rfl (fun i_r_3 => ?_)
    exact z_I g dX11_leaves_14 i_r_3 h
theorem dX11_entryNow_0 : decode cX11_entryNow 0 = .ok (.iload_n 2, 1) := by decide +kernel
theorem dX11_entryNow_1 : decode cX11_entryNow 1 = .ok (.iconst 2, 1) := by decide +kernel
theorem dX11_entryNow_2 : decode cX11_entryNow 2 = .ok (.if_icmp .ge 12, 3) := by decide +kernel
theorem dX11_entryNow_5 : decode cX11_entryNow 5 = .ok (.aload_n 0, 1) := by decide +kernel
theorem dX11_entryNow_6 : decode cX11_entryNow 6 = .ok (.iload_n 1, 1) := by decide +kernel
theorem dX11_entryNow_7 : decode cX11_entryNow 7 = .ok (.iload_n 2, 1) := by decide +kernel
theorem dX11_entryNow_8 : decode cX11_entryNow 8 = .ok (.invokevirtual 73, 3) := by decide +kernel
theorem dX11_entryNow_11 : decode cX11_entryNow 11 = .ok (.goto 64, 3) := by decide +kernel
theorem dX11_entryNow_14 : decode cX11_entryNow 14 = .ok (.iload_n 2, 1) := by decide +kernel
theorem dX11_entryNow_15 : decode cX11_entryNow 15 = .ok (.iconst 2, 1) := by decide +kernel
theorem dX11_entryNow_16 : decode cX11_entryNow 16 = .ok (.if_icmp .ne 12, 3) := by decide +kernel
theorem dX11_entryNow_19 : decode cX11_entryNow 19 = .ok (.aload_n 0, 1) := by decide +kernel
theorem dX11_entryNow_20 : decode cX11_entryNow 20 = .ok (.iload_n 1, 1) := by decide +kernel
theorem dX11_entryNow_21 : decode cX11_entryNow 21 = .ok (.iconst 3, 1) := by decide +kernel
theorem dX11_entryNow_22 : decode cX11_entryNow 22 = .ok (.invokevirtual 73, 3) := by decide +kernel
theorem dX11_entryNow_25 : decode cX11_entryNow 25 = .ok (.goto 50, 3) := by decide +kernel
theorem dX11_entryNow_28 : decode cX11_entryNow 28 = .ok (.iload_n 2, 1) := by decide +kernel
theorem dX11_entryNow_29 : decode cX11_entryNow 29 = .ok (.iconst 3, 1) := by decide +kernel
theorem dX11_entryNow_30 : decode cX11_entryNow 30 = .ok (.if_icmp .ne 12, 3) := by decide +kernel
theorem dX11_entryNow_33 : decode cX11_entryNow 33 = .ok (.aload_n 0, 1) := by decide +kernel
theorem dX11_entryNow_34 : decode cX11_entryNow 34 = .ok (.iload_n 1, 1) := by decide +kernel
theorem dX11_entryNow_35 : decode cX11_entryNow 35 = .ok (.iconst 4, 1) := by decide +kernel
theorem dX11_entryNow_36 : decode cX11_entryNow 36 = .ok (.invokevirtual 73, 3) := by decide +kernel
theorem dX11_entryNow_39 : decode cX11_entryNow 39 = .ok (.goto 36, 3) := by decide +kernel
theorem dX11_entryNow_42 : decode cX11_entryNow 42 = .ok (.iload_n 2, 1) := by decide +kernel
theorem dX11_entryNow_43 : decode cX11_entryNow 43 = .ok (.iconst 4, 1) := by decide +kernel
theorem dX11_entryNow_44 : decode cX11_entryNow 44 = .ok (.if_icmp .ne 22, 3) := by decide +kernel
theorem dX11_entryNow_47 : decode cX11_entryNow 47 = .ok (.aload_n 0, 1) := by decide +kernel
theorem dX11_entryNow_48 : decode cX11_entryNow 48 = .ok (.aload_n 0, 1) := by decide +kernel
theorem dX11_entryNow_49 : decode cX11_entryNow 49 = .ok (.iload_n 1, 1) := by decide +kernel
theorem dX11_entryNow_50 : decode cX11_entryNow 50 = .ok (.iconst 0, 1) := by decide +kernel
theorem dX11_entryNow_51 : decode cX11_entryNow 51 = .ok (.invokevirtual 73, 3) := by decide +kernel
theorem dX11_entryNow_54 : decode cX11_entryNow 54 = .ok (.aload_n 0, 1) := by decide +kernel
theorem dX11_entryNow_55 : decode cX11_entryNow 55 = .ok (.iload_n 1, 1) := by decide +kernel
theorem dX11_entryNow_56 : decode cX11_entryNow 56 = .ok (.iconst 1, 1) := by decide +kernel
theorem dX11_entryNow_57 : decode cX11_entryNow 57 = .ok (.invokevirtual 73, 3) := by decide +kernel
theorem dX11_entryNow_60 : decode cX11_entryNow 60 = .ok (.invokevirtual 174, 3) := by decide +kernel
theorem dX11_entryNow_63 : decode cX11_entryNow 63 = .ok (.goto 12, 3) := by decide +kernel
theorem dX11_entryNow_66 : decode cX11_entryNow 66 = .ok (.aload_n 0, 1) := by decide +kernel
theorem dX11_entryNow_67 : decode cX11_entryNow 67 = .ok (.iload_n 1, 1) := by decide +kernel
theorem dX11_entryNow_68 : decode cX11_entryNow 68 = .ok (.iconst 2, 1) := by decide +kernel
theorem dX11_entryNow_69 : decode cX11_entryNow 69 = .ok (.invokevirtual 73, 3) := by decide +kernel
theorem dX11_entryNow_72 : decode cX11_entryNow 72 = .ok (.bipush 21, 2) := by decide +kernel
theorem dX11_entryNow_74 : decode cX11_entryNow 74 = .ok (.iadd, 1) := by decide +kernel
theorem dX11_entryNow_75 : decode cX11_entryNow 75 = .ok (.ireturn, 1) := by decide +kernel
set_option maxHeartbeats 4000000 in
set_option maxRecDepth 100000 in
theorem c_X11_entryNow {E : u_E} {l : Launch} {o : u_O} {p1 : Int} {p2 : Int} (ho : is_Mo o) (i_p1 : InR p1) (i_p2 : InR p2) {s s' : u_S} {r : Int} (h : f_X11_entryNow o p1 p2 s = some (r, s')) : Con l (XE E) yX11_entryNow cX11_entryNow 3 (some .int) 3 67 0 0 [.ref (E.1 o), .int (J p1), .int (J p2)] (Wd E s) (RI E r s') := by
  refine Con.of [some (.ref (E.1 o)), some (.int (J p1)), some (.int (J p2))] (by decide +kernel) rfl rfl (Nat.le_of_ble_eq_true rfl) (fun K g => ?_)
  have g0 := g.wk
  unfold f_X11_entryNow at h
  refine r_iload_n g0 dX11_entryNow_0 rfl ?_
  refine r_iconst g0 dX11_entryNow_1 ?_
  refine r_icmp_ge g0 14 dX11_entryNow_2 (by decide) i_p2 (InR_lit rfl) (fun hc => ?_) (fun hc => ?_)
  · replace h := if_f hc h
    refine r_iload_n g0 dX11_entryNow_14 rfl ?_
    refine r_iconst g0 dX11_entryNow_15 ?_
    refine r_icmp_ne g0 28 dX11_entryNow_16 (by decide) i_p2 (InR_lit rfl) (fun hc => ?_) (fun hc => ?_)
    · replace h := if_f hc h
      refine r_iload_n g0 dX11_entryNow_28 rfl ?_
      refine r_iconst g0 dX11_entryNow_29 ?_
      refine r_icmp_ne g0 42 dX11_entryNow_30 (by decide) i_p2 (InR_lit rfl) (fun hc => ?_) (fun hc => ?_)
      · replace h := if_f hc h
        refine r_iload_n g0 dX11_entryNow_42 rfl ?_
        refine r_iconst g0 dX11_entryNow_43 ?_
        refine r_icmp_ne g0 66 dX11_entryNow_44 (by decide) i_p2 (InR_lit rfl) (fun hc => ?_) (fun hc => ?_)
        · replace h := if_f hc h
          refine r_aload_n g0 dX11_entryNow_66 rfl ?_
          refine r_iload_n g0 dX11_entryNow_67 rfl ?_
          refine r_iconst g0 dX11_entryNow_68 ?_
          obtain ⟨r_1, s_1, hr_1, h⟩ := bd_some h
          refine r_cVI g0 (rest := []) (c_X11_of ho i_p1 (InR_lit rfl) hr_1) ok_X11_of mX11_73 (recv_Mo ho) dX11_entryNow_69 ⟨Nat.le_of_ble_eq_true rfl, Nat.le_of_ble_eq_true rfl⟩ ⟨Nat.zero_le _, Nat.zero_le _⟩ rfl (Nat.le_of_ble_eq_true rfl) rfl (fun i_r_1 => ?_)
          refine r_bipush g0 dX11_entryNow_72 rfl ?_
          refine r_iadd g0 dX11_entryNow_74 ?_
          exact z_I g dX11_entryNow_75 (InR_wr _) h
        · replace h := if_t hc h
          refine r_aload_n g0 dX11_entryNow_47 rfl ?_
          refine r_aload_n g0 dX11_entryNow_48 rfl ?_
          refine r_iload_n g0 dX11_entryNow_49 rfl ?_
          refine r_iconst g0 dX11_entryNow_50 ?_
          obtain ⟨r_2, s_2, hr_2, h⟩ := bd_some h
          refine r_cVI g0 (rest := [.ref (E.1 o)]) (c_X11_of ho i_p1 (B01.inR B01_0) hr_2) ok_X11_of mX11_73 (recv_Mo ho) dX11_entryNow_51 ⟨Nat.le_of_ble_eq_true rfl, Nat.le_of_ble_eq_true rfl⟩ ⟨Nat.zero_le _, Nat.zero_le _⟩ rfl (Nat.le_of_ble_eq_true rfl) rfl (fun i_r_2 => ?_)
          refine r_aload_n g0 dX11_entryNow_54 rfl ?_
          refine r_iload_n g0 dX11_entryNow_55 rfl ?_
          refine r_iconst g0 dX11_entryNow_56 ?_
          obtain ⟨r_3, s_3, hr_3, h⟩ := bd_some h
          refine r_cVI g0 (rest := [.int (J r_2), .ref (E.1 o)]) (c_X11_of ho i_p1 (B01.inR B01_1) hr_3) ok_X11_of mX11_73 (recv_Mo ho) dX11_entryNow_57 ⟨Nat.le_of_ble_eq_true rfl, Nat.le_of_ble_eq_true rfl⟩ ⟨Nat.zero_le _, Nat.zero_le _⟩ rfl (Nat.le_of_ble_eq_true rfl) rfl (fun i_r_3 => ?_)
          obtain ⟨r_4, s_4, hr_4, h⟩ := bd_some h
          refine r_cVI g0 (rest := []) (c_X11_lasts ho i_r_2 i_r_3 hr_4) ok_X11_lasts mX11_174 (recv_Mo ho) dX11_entryNow_60 ⟨Nat.le_of_ble_eq_true rfl, Nat.le_of_ble_eq_true rfl⟩ ⟨Nat.zero_le _, Nat.zero_le _⟩ rfl (Nat.le_of_ble_eq_true rfl) rfl (fun i_r_4 => ?_)
          refine r_goto g0 75 dX11_entryNow_63 (by decide) ?_
          exact z_I g dX11_entryNow_75 i_r_4 h
      · replace h := if_t hc h
        refine r_aload_n g0 dX11_entryNow_33 rfl ?_
        refine r_iload_n g0 dX11_entryNow_34 rfl ?_
        refine r_iconst g0 dX11_entryNow_35 ?_
        obtain ⟨r_5, s_5, hr_5, h⟩ := bd_some h
        refine r_cVI g0 (rest := []) (c_X11_of ho i_p1 (InR_lit rfl) hr_5) ok_X11_of mX11_73 (recv_Mo ho) dX11_entryNow_36 ⟨Nat.le_of_ble_eq_true rfl, Nat.le_of_ble_eq_true rfl⟩ ⟨Nat.zero_le _, Nat.zero_le _⟩ rfl (Nat.le_of_ble_eq_true rfl) rfl (fun i_r_5 => ?_)
        refine r_goto g0 75 dX11_entryNow_39 (by decide) ?_
        exact z_I g dX11_entryNow_75 i_r_5 h
    · replace h := if_t hc h
      refine r_aload_n g0 dX11_entryNow_19 rfl ?_
      refine r_iload_n g0 dX11_entryNow_20 rfl ?_
      refine r_iconst g0 dX11_entryNow_21 ?_
      obtain ⟨r_6, s_6, hr_6, h⟩ := bd_some h
      refine r_cVI g0 (rest := []) (c_X11_of ho i_p1 (InR_lit rfl) hr_6) ok_X11_of mX11_73 (recv_Mo ho) dX11_entryNow_22 ⟨Nat.le_of_ble_eq_true rfl, Nat.le_of_ble_eq_true rfl⟩ ⟨Nat.zero_le _, Nat.zero_le _⟩ rfl (Nat.le_of_ble_eq_true rfl) rfl (fun i_r_6 => ?_)
      refine r_goto g0 75 dX11_entryNow_25 (by decide) ?_
      exact z_I g dX11_entryNow_75 i_r_6 h
  · replace h := if_t hc h
    refine r_aload_n g0 dX11_entryNow_5 rfl ?_
    refine r_iload_n g0 dX11_entryNow_6 rfl ?_
    refine r_iload_n g0 dX11_entryNow_7 rfl ?_
    obtain ⟨r_7, s_7, hr_7, h⟩ := bd_some h
    refine r_cVI g0 (rest := []) (c_X11_of ho i_p1 i_p2 hr_7) ok_X11_of mX11_73 (recv_Mo ho) dX11_entryNow_8 ⟨Nat.le_of_ble_eq_true rfl, Nat.le_of_ble_eq_true rfl⟩ ⟨Nat.zero_le _, Nat.zero_le _⟩ rfl (Nat.le_of_ble_eq_true rfl) rfl (fun i_r_7 => ?_)
    refine r_goto g0 75 dX11_entryNow_11 (by decide) ?_
    exact z_I g dX11_entryNow_75 i_r_7 h
theorem dX11_entry_0 : decode cX11_entry 0 = .ok (.aload_n 0, 1) := by decide +kernel
theorem dX11_entry_1 : decode cX11_entry 1 = .ok (.iload_n 1, 1) := by decide +kernel
theorem dX11_entry_2 : decode cX11_entry 2 = .ok (.invokevirtual 189, 3) := by decide +kernel
theorem dX11_entry_5 : decode cX11_entry 5 = .ok (.ifCond .eq 24, 3) := by decide +kernel
theorem dX11_entry_8 : decode cX11_entry 8 = .ok (.iload_n 2, 1) := by decide +kernel
theorem dX11_entry_9 : decode cX11_entry 9 = .ok (.i2l, 1) := by decide +kernel
theorem dX11_entry_10 : decode cX11_entry 10 = .ok (.lconst 0, 1) := by decide +kernel
theorem dX11_entry_11 : decode cX11_entry 11 = .ok (.ldc2_w 192, 3) := by decide +kernel
theorem dX11_entry_14 : decode cX11_entry 14 = .ok (.invokestatic 61, 3) := by decide +kernel
theorem dX11_entry_17 : decode cX11_entry 17 = .ok (.ifCond .eq 12, 3) := by decide +kernel
theorem dX11_entry_20 : decode cX11_entry 20 = .ok (.aload_n 0, 1) := by decide +kernel
theorem dX11_entry_21 : decode cX11_entry 21 = .ok (.iload_n 1, 1) := by decide +kernel
theorem dX11_entry_22 : decode cX11_entry 22 = .ok (.iload_n 2, 1) := by decide +kernel
theorem dX11_entry_23 : decode cX11_entry 23 = .ok (.invokevirtual 194, 3) := by decide +kernel
theorem dX11_entry_26 : decode cX11_entry 26 = .ok (.goto 9, 3) := by decide +kernel
theorem dX11_entry_29 : decode cX11_entry 29 = .ok (.aload_n 0, 1) := by decide +kernel
theorem dX11_entry_30 : decode cX11_entry 30 = .ok (.bipush (-2), 2) := by decide +kernel
theorem dX11_entry_32 : decode cX11_entry 32 = .ok (.invokevirtual 97, 3) := by decide +kernel
theorem dX11_entry_35 : decode cX11_entry 35 = .ok (.ireturn, 1) := by decide +kernel
set_option maxHeartbeats 4000000 in
set_option maxRecDepth 100000 in
theorem c_X11_entry {E : u_E} {l : Launch} {o : u_O} {p1 : Int} {p2 : Int} (ho : is_Mo o) (i_p1 : InR p1) (i_p2 : InR p2) {s s' : u_S} {r : Int} (h : f_X11_entry o p1 p2 s = some (r, s')) : Con l (XE E) yX11_entry cX11_entry 3 (some .int) 4 89 0 0 [.ref (E.1 o), .int (J p1), .int (J p2)] (Wd E s) (RI E r s') := by
  refine Con.of [some (.ref (E.1 o)), some (.int (J p1)), some (.int (J p2))] (by decide +kernel) rfl rfl (Nat.le_of_ble_eq_true rfl) (fun K g => ?_)
  have g0 := g.wk
  unfold f_X11_entry at h
  refine r_aload_n g0 dX11_entry_0 rfl ?_
  refine r_iload_n g0 dX11_entry_1 rfl ?_
  obtain ⟨r_1, s_1, hr_1, h⟩ := bd_some h
  refine r_cVZ g0 (rest := []) (c_X11_isEntry ho i_p1 hr_1) ok_X11_isEntry mX11_189 (recv_Mo ho) dX11_entry_2 ⟨Nat.le_of_ble_eq_true rfl, Nat.le_of_ble_eq_true rfl⟩ ⟨Nat.zero_le _, Nat.zero_le _⟩ rfl (Nat.le_of_ble_eq_true rfl) rfl (fun i_r_1 => ?_)
  obtain ⟨jp_1, hdjp_1, h⟩ := jn_some h
  have hjp_1 : ∀  (s_2 : u_S), jp_1 s_2 = some (r, s') → K 0 0 29 [some (.ref (E.1 o)), none, none] [] (Wd E s_2) := by
    intro s_2 h
    subst hdjp_1
    refine r_aload_n g0 dX11_entry_29 rfl ?_
    refine r_bipush g0 dX11_entry_30 rfl ?_
    obtain ⟨r_2, s_3, hr_2, h⟩ := bd_some h
    refine r_cVI g0 (rest := []) (c_X11_refuses ho (InR_lit rfl) hr_2) ok_X11_refuses mX11_97 (recv_Mo ho) dX11_entry_32 ⟨Nat.le_of_ble_eq_true rfl, Nat.le_of_ble_eq_true rfl⟩ ⟨Nat.zero_le _, Nat.zero_le _⟩ rfl (Nat.le_of_ble_eq_true rfl) rfl (fun i_r_2 => ?_)
    exact z_I g dX11_entry_35 i_r_2 h
  clear hdjp_1
  refine r_if_eq g0 29 dX11_entry_5 (by decide) (B01.inR i_r_1) (fun hc => ?_) (fun hc => ?_)
  · replace h := if_t hc h
    refine r_mask g0 (lv' := [some (.ref (E.1 o)), none, none]) [true, false, false] rfl ?_
    exact hjp_1 s_1 h
  · replace h := if_f hc h
    refine r_iload_n g0 dX11_entry_8 rfl ?_
    refine r_i2l g0 dX11_entry_9 i_p2 ?_
    refine r_lconst g0 (v := 0) dX11_entry_10 rfl ?_
    refine r_ldc2 g0 (v := 5) dX11_entry_11 kX11_192 ?_
    obtain ⟨r_3, s_4, hr_3, h⟩ := bd_some h
    refine r_cSZ g0 (rest := []) (c_X11_in (InL_i i_p2) (InL_lit rfl) (InL_lit rfl) hr_3) ok_X11_in mX11_61 dX11_entry_14 ⟨Nat.le_of_ble_eq_true rfl, Nat.le_of_ble_eq_true rfl⟩ ⟨Nat.zero_le _, Nat.zero_le _⟩ rfl (Nat.le_of_ble_eq_true rfl) rfl (fun i_r_3 => ?_)
    refine r_if_eq g0 29 dX11_entry_17 (by decide) (B01.inR i_r_3) (fun hc => ?_) (fun hc => ?_)
    · replace h := if_t hc h
      refine r_mask g0 (lv' := [some (.ref (E.1 o)), none, none]) [true, false, false] rfl ?_
      exact hjp_1 s_4 h
    · replace h := if_f hc h
      refine r_aload_n g0 dX11_entry_20 rfl ?_
      refine r_iload_n g0 dX11_entry_21 rfl ?_
      refine r_iload_n g0 dX11_entry_22 rfl ?_
      obtain ⟨r_4, s_5, hr_4, h⟩ := bd_some h
      refine r_cVI g0 (rest := []) (c_X11_entryNow ho i_p1 i_p2 hr_4) ok_X11_entryNow mX11_194 (recv_Mo ho) dX11_entry_23 ⟨Nat.le_of_ble_eq_true rfl, Nat.le_of_ble_eq_true rfl⟩ ⟨Nat.zero_le _, Nat.zero_le _⟩ rfl (Nat.le_of_ble_eq_true rfl) rfl (fun i_r_4 => ?_)
      refine r_goto g0 35 dX11_entry_26 (by decide) ?_
      exact z_I g dX11_entry_35 i_r_4 h
theorem dX11_heardOf_0 : decode cX11_heardOf 0 = .ok (.aload_n 0, 1) := by decide +kernel
theorem dX11_heardOf_1 : decode cX11_heardOf 1 = .ok (.getfield 22, 3) := by decide +kernel
theorem dX11_heardOf_4 : decode cX11_heardOf 4 = .ok (.aload_n 0, 1) := by decide +kernel
theorem dX11_heardOf_5 : decode cX11_heardOf 5 = .ok (.iload_n 1, 1) := by decide +kernel
theorem dX11_heardOf_6 : decode cX11_heardOf 6 = .ok (.iconst 0, 1) := by decide +kernel
theorem dX11_heardOf_7 : decode cX11_heardOf 7 = .ok (.invokevirtual 73, 3) := by decide +kernel
theorem dX11_heardOf_10 : decode cX11_heardOf 10 = .ok (.aload_n 0, 1) := by decide +kernel
theorem dX11_heardOf_11 : decode cX11_heardOf 11 = .ok (.iload_n 1, 1) := by decide +kernel
theorem dX11_heardOf_12 : decode cX11_heardOf 12 = .ok (.iconst 1, 1) := by decide +kernel
theorem dX11_heardOf_13 : decode cX11_heardOf 13 = .ok (.invokevirtual 73, 3) := by decide +kernel
theorem dX11_heardOf_16 : decode cX11_heardOf 16 = .ok (.aload_n 0, 1) := by decide +kernel
theorem dX11_heardOf_17 : decode cX11_heardOf 17 = .ok (.iload_n 1, 1) := by decide +kernel
theorem dX11_heardOf_18 : decode cX11_heardOf 18 = .ok (.iconst 2, 1) := by decide +kernel
theorem dX11_heardOf_19 : decode cX11_heardOf 19 = .ok (.invokevirtual 73, 3) := by decide +kernel
theorem dX11_heardOf_22 : decode cX11_heardOf 22 = .ok (.aload_n 0, 1) := by decide +kernel
theorem dX11_heardOf_23 : decode cX11_heardOf 23 = .ok (.iload_n 1, 1) := by decide +kernel
theorem dX11_heardOf_24 : decode cX11_heardOf 24 = .ok (.iconst 3, 1) := by decide +kernel
theorem dX11_heardOf_25 : decode cX11_heardOf 25 = .ok (.invokevirtual 73, 3) := by decide +kernel
theorem dX11_heardOf_28 : decode cX11_heardOf 28 = .ok (.invokestatic 197, 3) := by decide +kernel
theorem dX11_heardOf_31 : decode cX11_heardOf 31 = .ok (.aload_n 0, 1) := by decide +kernel
theorem dX11_heardOf_32 : decode cX11_heardOf 32 = .ok (.aload_n 0, 1) := by decide +kernel
theorem dX11_heardOf_33 : decode cX11_heardOf 33 = .ok (.getfield 22, 3) := by decide +kernel
theorem dX11_heardOf_36 : decode cX11_heardOf 36 = .ok (.iload_n 2, 1) := by decide +kernel
theorem dX11_heardOf_37 : decode cX11_heardOf 37 = .ok (.invokevirtual 170, 3) := by decide +kernel
theorem dX11_heardOf_40 : decode cX11_heardOf 40 = .ok (.ireturn, 1) := by decide +kernel
set_option maxHeartbeats 4000000 in
set_option maxRecDepth 100000 in
theorem c_X11_heardOf {E : u_E} {l : Launch} {o : u_O} {p1 : Int} {p2 : Int} (ho : is_Mo o) (i_p1 : InR p1) (i_p2 : InR p2) {s s' : u_S} {r : Int} (h : f_X11_heardOf o p1 p2 s = some (r, s')) : Con l (XE E) yX11_heardOf cX11_heardOf 3 (some .int) 4 94 0 0 [.ref (E.1 o), .int (J p1), .int (J p2)] (Wd E s) (RI E r s') := by
  refine Con.of [some (.ref (E.1 o)), some (.int (J p1)), some (.int (J p2))] (by decide +kernel) rfl rfl (Nat.le_of_ble_eq_true rfl) (fun K g => ?_)
  have g0 := g.wk
  unfold f_X11_heardOf at h
  refine r_aload_n g0 dX11_heardOf_0 rfl ?_
  refine g_Mo_upper g0 ho qX11_22 dX11_heardOf_1 ?_
  refine r_aload_n g0 dX11_heardOf_4 rfl ?_
  refine r_iload_n g0 dX11_heardOf_5 rfl ?_
  refine r_iconst g0 dX11_heardOf_6 ?_
  obtain ⟨r_1, s_1, hr_1, h⟩ := bd_some h
  refine r_cVI g0 (rest := [.ref (E.1 (a_Mo_upper o))]) (c_X11_of ho i_p1 (B01.inR B01_0) hr_1) ok_X11_of mX11_73 (recv_Mo ho) dX11_heardOf_7 ⟨Nat.le_of_ble_eq_true rfl, Nat.le_of_ble_eq_true rfl⟩ ⟨Nat.zero_le _, Nat.zero_le _⟩ rfl (Nat.le_of_ble_eq_true rfl) rfl (fun i_r_1 => ?_)
  refine r_aload_n g0 dX11_heardOf_10 rfl ?_
  refine r_iload_n g0 dX11_heardOf_11 rfl ?_
  refine r_iconst g0 dX11_heardOf_12 ?_
  obtain ⟨r_2, s_2, hr_2, h⟩ := bd_some h
  refine r_cVI g0 (rest := [.int (J r_1), .ref (E.1 (a_Mo_upper o))]) (c_X11_of ho i_p1 (B01.inR B01_1) hr_2) ok_X11_of mX11_73 (recv_Mo ho) dX11_heardOf_13 ⟨Nat.le_of_ble_eq_true rfl, Nat.le_of_ble_eq_true rfl⟩ ⟨Nat.zero_le _, Nat.zero_le _⟩ rfl (Nat.le_of_ble_eq_true rfl) rfl (fun i_r_2 => ?_)
  refine r_aload_n g0 dX11_heardOf_16 rfl ?_
  refine r_iload_n g0 dX11_heardOf_17 rfl ?_
  refine r_iconst g0 dX11_heardOf_18 ?_
  obtain ⟨r_3, s_3, hr_3, h⟩ := bd_some h
  refine r_cVI g0 (rest := [.int (J r_2), .int (J r_1), .ref (E.1 (a_Mo_upper o))]) (c_X11_of ho i_p1 (InR_lit rfl) hr_3) ok_X11_of mX11_73 (recv_Mo ho) dX11_heardOf_19 ⟨Nat.le_of_ble_eq_true rfl, Nat.le_of_ble_eq_true rfl⟩ ⟨Nat.zero_le _, Nat.zero_le _⟩ rfl (Nat.le_of_ble_eq_true rfl) rfl (fun i_r_3 => ?_)
  refine r_aload_n g0 dX11_heardOf_22 rfl ?_
  refine r_iload_n g0 dX11_heardOf_23 rfl ?_
  refine r_iconst g0 dX11_heardOf_24 ?_
  obtain ⟨r_4, s_4, hr_4, h⟩ := bd_some h
  refine r_cVI g0 (rest := [.int (J r_3), .int (J r_2), .int (J r_1), .ref (E.1 (a_Mo_upper o))]) (c_X11_of ho i_p1 (InR_lit rfl) hr_4) ok_X11_of mX11_73 (recv_Mo ho) dX11_heardOf_25 ⟨Nat.le_of_ble_eq_true rfl, Nat.le_of_ble_eq_true rfl⟩ ⟨Nat.zero_le _, Nat.zero_le _⟩ rfl (Nat.le_of_ble_eq_true rfl) rfl (fun i_r_4 => ?_)
  obtain ⟨r_5, s_5, hr_5, h⟩ := bd_some h
  refine r_cSV g0 (rest := []) (c_X11_puts (is_a_Mo_upper ho) i_r_1 i_r_2 i_r_3 i_r_4 hr_5) ok_X11_puts mX11_197 dX11_heardOf_28 ⟨Nat.le_of_ble_eq_true rfl, Nat.le_of_ble_eq_true rfl⟩ ⟨Nat.zero_le _, Nat.zero_le _⟩ rfl (Nat.le_of_ble_eq_true rfl) rfl ?_
  refine r_aload_n g0 dX11_heardOf_31 rfl ?_
  refine r_aload_n g0 dX11_heardOf_32 rfl ?_
  refine g_Mo_upper g0 ho qX11_22 dX11_heardOf_33 ?_
  refine r_iload_n g0 dX11_heardOf_36 rfl ?_
  obtain ⟨r_6, s_6, hr_6, h⟩ := bd_some h
  refine r_cVI g0 (rest := []) (c_X11_heard ho (is_a_Mo_upper ho) i_p2 hr_6) ok_X11_heard mX11_170 (recv_Mo ho) dX11_heardOf_37 ⟨Nat.le_of_ble_eq_true rfl, Nat.le_of_ble_eq_true rfl⟩ ⟨Nat.zero_le _, Nat.zero_le _⟩ rfl (Nat.le_of_ble_eq_true rfl) rfl (fun i_r_6 => ?_)
  exact z_I g dX11_heardOf_40 i_r_6 h
theorem dX11_sounds_0 : decode cX11_sounds 0 = .ok (.iload_n 1, 1) := by decide +kernel
theorem dX11_sounds_1 : decode cX11_sounds 1 = .ok (.i2l, 1) := by decide +kernel
theorem dX11_sounds_2 : decode cX11_sounds 2 = .ok (.lconst 0, 1) := by decide +kernel
theorem dX11_sounds_3 : decode cX11_sounds 3 = .ok (.ldc2_w 59, 3) := by decide +kernel
theorem dX11_sounds_6 : decode cX11_sounds 6 = .ok (.invokestatic 61, 3) := by decide +kernel
theorem dX11_sounds_9 : decode cX11_sounds 9 = .ok (.ifCond .eq 7, 3) := by decide +kernel
theorem dX11_sounds_12 : decode cX11_sounds 12 = .ok (.iload_n 2, 1) := by decide +kernel
theorem dX11_sounds_13 : decode cX11_sounds 13 = .ok (.ifCond .ge 11, 3) := by decide +kernel
theorem dX11_sounds_16 : decode cX11_sounds 16 = .ok (.aload_n 0, 1) := by decide +kernel
theorem dX11_sounds_17 : decode cX11_sounds 17 = .ok (.sipush (-2000), 3) := by decide +kernel
theorem dX11_sounds_20 : decode cX11_sounds 20 = .ok (.invokevirtual 164, 3) := by decide +kernel
theorem dX11_sounds_23 : decode cX11_sounds 23 = .ok (.ireturn, 1) := by decide +kernel
theorem dX11_sounds_24 : decode cX11_sounds 24 = .ok (.sipush (-1000), 3) := by decide +kernel
theorem dX11_sounds_27 : decode cX11_sounds 27 = .ok (.istore_n 3, 1) := by decide +kernel
theorem dX11_sounds_28 : decode cX11_sounds 28 = .ok (.iconst 0, 1) := by decide +kernel
theorem dX11_sounds_29 : decode cX11_sounds 29 = .ok (.istore 4, 2) := by decide +kernel
theorem dX11_sounds_31 : decode cX11_sounds 31 = .ok (.iload 4, 2) := by decide +kernel
theorem dX11_sounds_33 : decode cX11_sounds 33 = .ok (.aload_n 0, 1) := by decide +kernel
theorem dX11_sounds_34 : decode cX11_sounds 34 = .ok (.getfield 7, 3) := by decide +kernel
theorem dX11_sounds_37 : decode cX11_sounds 37 = .ok (.bipush 84, 2) := by decide +kernel
theorem dX11_sounds_39 : decode cX11_sounds 39 = .ok (.iaload, 1) := by decide +kernel
theorem dX11_sounds_40 : decode cX11_sounds 40 = .ok (.if_icmp .ge 50, 3) := by decide +kernel
theorem dX11_sounds_43 : decode cX11_sounds 43 = .ok (.aload_n 0, 1) := by decide +kernel
theorem dX11_sounds_44 : decode cX11_sounds 44 = .ok (.iload 4, 2) := by decide +kernel
theorem dX11_sounds_46 : decode cX11_sounds 46 = .ok (.iconst 4, 1) := by decide +kernel
theorem dX11_sounds_47 : decode cX11_sounds 47 = .ok (.invokevirtual 73, 3) := by decide +kernel
theorem dX11_sounds_50 : decode cX11_sounds 50 = .ok (.iload_n 1, 1) := by decide +kernel
theorem dX11_sounds_51 : decode cX11_sounds 51 = .ok (.if_icmp .ne 13, 3) := by decide +kernel
theorem dX11_sounds_54 : decode cX11_sounds 54 = .ok (.aload_n 0, 1) := by decide +kernel
theorem dX11_sounds_55 : decode cX11_sounds 55 = .ok (.iload 4, 2) := by decide +kernel
theorem dX11_sounds_57 : decode cX11_sounds 57 = .ok (.iload_n 2, 1) := by decide +kernel
theorem dX11_sounds_58 : decode cX11_sounds 58 = .ok (.invokevirtual 201, 3) := by decide +kernel
theorem dX11_sounds_61 : decode cX11_sounds 61 = .ok (.goto 6, 3) := by decide +kernel
theorem dX11_sounds_64 : decode cX11_sounds 64 = .ok (.sipush (-1000), 3) := by decide +kernel
theorem dX11_sounds_67 : decode cX11_sounds 67 = .ok (.istore 5, 2) := by decide +kernel
theorem dX11_sounds_69 : decode cX11_sounds 69 = .ok (.iload 5, 2) := by decide +kernel
theorem dX11_sounds_71 : decode cX11_sounds 71 = .ok (.sipush (-1000), 3) := by decide +kernel
theorem dX11_sounds_74 : decode cX11_sounds 74 = .ok (.if_icmp .eq 8, 3) := by decide +kernel
theorem dX11_sounds_77 : decode cX11_sounds 77 = .ok (.iload 5, 2) := by decide +kernel
theorem dX11_sounds_79 : decode cX11_sounds 79 = .ok (.goto 4, 3) := by decide +kernel
theorem dX11_sounds_82 : decode cX11_sounds 82 = .ok (.iload_n 3, 1) := by decide +kernel
theorem dX11_sounds_83 : decode cX11_sounds 83 = .ok (.istore_n 3, 1) := by decide +kernel
theorem dX11_sounds_84 : decode cX11_sounds 84 = .ok (.iinc 4 1, 3) := by decide +kernel
theorem dX11_sounds_87 : decode cX11_sounds 87 = .ok (.goto (-56), 3) := by decide +kernel
theorem dX11_sounds_90 : decode cX11_sounds 90 = .ok (.iload_n 3, 1) := by decide +kernel
theorem dX11_sounds_91 : decode cX11_sounds 91 = .ok (.ireturn, 1) := by decide +kernel
set_option maxHeartbeats 4000000 in
set_option maxRecDepth 100000 in
theorem t_X11_sounds_L31 {l : Launch} {E : u_E} {K : u_K} {r : Int} {s' : u_S} (g : Wk l (XE E) { frames := 5, cells := 0, slots := 0, locals := 116 } cX11_sounds 6 yX11_sounds.cls yX11_sounds.name (some .int) (RI E r s') K) {v0_1 : u_O} {v1_1 : Int} {v2_1 : Int} (i_v0_1 : is_Mo v0_1) (i_v1_1 : InR v1_1) (i_v2_1 : InR v2_1) {kx90 : Int → u_S → Option (Int × u_S)} (hkx90 : ∀ (v3_3 : Int) (s_10 : u_S), InR v3_3 → kx90 v3_3 s_10 = some (r, s') → K 0 0 90 [none, none, none, some (.int (J v3_3)), none, none] [] (Wd E s_10)) : ∀ (m : Nat) (v3_2 : Int) (v4_1 : Int) (s_5 : u_S), InR v3_2 → InR v4_1 → f_X11_sounds_L31 m kx90 v0_1 v1_1 v2_1 v3_2 v4_1 s_5 = some (r, s') → K 0 0 31 [some (.ref (E.1 v0_1)), some (.int (J v1_1)), some (.int (J v2_1)), some (.int (J v3_2)), some (.int (J v4_1)), none] [] (Wd E s_5) := by
  have g0 := g.wk
  intro m
  induction m with
  | zero =>
    intro v3_2 v4_1 s_5 i_v3_2 i_v4_1 h
    exact absurd (show (none : Option (Int × u_S)) = some (r, s') from h) (by intro z; cases z)
  | succ m ih =>
    intro v3_2 v4_1 s_5 i_v3_2 i_v4_1 h
    rw [f_X11_sounds_L31] at h
    refine r_iload g0 dX11_sounds_31 rfl ?_
    refine r_aload_n g0 dX11_sounds_33 rfl ?_
    refine g_Mo_all g0 i_v0_1 qX11_7 dX11_sounds_34 ?_
    refine r_bipush g0 dX11_sounds_37 rfl ?_
    obtain ⟨hb, h⟩ := gd_some h
    refine r_iaload g0 (is_a_Mo_all i_v0_1) (n := 145) rfl (InR_lit rfl) hb dX11_sounds_39 ?_
    refine r_icmp_ge g0 90 dX11_sounds_40 (by decide) i_v4_1 (InR_rd _ _ _) (fun hc => ?_) (fun hc => ?_)
    · replace h := if_f hc h
      refine r_mask g0 (lv' := [none, none, none, some (.int (J v3_2)), none, none]) [false, false, false, true, false, false] rfl ?_
      exact hkx90 v3_2 s_5 i_v3_2 h
    · replace h := if_t hc h
      refine r_aload_n g0 dX11_sounds_43 rfl ?_
      refine r_iload g0 dX11_sounds_44 rfl ?_
      refine r_iconst g0 dX11_sounds_46 ?_
      obtain ⟨r_3, s_6, hr_3, h⟩ := bd_some h
      refine r_cVI g0 (rest := []) (c_X11_of i_v0_1 i_v4_1 (InR_lit rfl) hr_3) ok_X11_of mX11_73 (recv_Mo i_v0_1) dX11_sounds_47 ⟨Nat.le_of_ble_eq_true rfl, Nat.le_of_ble_eq_true rfl⟩ ⟨Nat.zero_le _, Nat.zero_le _⟩ rfl (Nat.le_of_ble_eq_true rfl) rfl (fun i_r_3 => ?_)
      refine r_iload_n g0 dX11_sounds_50 rfl ?_
      obtain ⟨jp_2, hdjp_2, h⟩ := jn_some h
      have hjp_2 : ∀ (vt_1 : Int) (s_7 : u_S), InR vt_1 → jp_2 vt_1 s_7 = some (r, s') → K 0 0 67 [some (.ref (E.1 v0_1)), some (.int (J v1_1)), some (.int (J v2_1)), some (.int (J v3_2)), some (.int (J v4_1)), none] [.int (J vt_1)] (Wd E s_7) := by
        intro vt_1 s_7 i_vt_1 h
        subst hdjp_2
        refine r_istore g0 (lv' := [some (.ref (E.1 v0_1)), some (.int (J v1_1)), some (.int (J v2_1)), some (.int (J v3_2)), some (.int (J v4_1)), some (.int (J vt_1))]) dX11_sounds_67 (by decide) rfl rfl ?_
        refine r_iload g0 dX11_sounds_69 rfl ?_
        refine r_sipush g0 dX11_sounds_71 rfl ?_
        obtain ⟨jp_3, hdjp_3, h⟩ := jn_some h
        have hjp_3 : ∀ (vt_2 : Int) (s_8 : u_S), InR vt_2 → jp_3 vt_2 s_8 = some (r, s') → K 0 0 83 [some (.ref (E.1 v0_1)), some (.int (J v1_1)), some (.int (J v2_1)), none, some (.int (J v4_1)), none] [.int (J vt_2)] (Wd E s_8) := by
          intro vt_2 s_8 i_vt_2 h
          subst hdjp_3
          refine r_istore_n g0 (lv' := [some (.ref (E.1 v0_1)), some (.int (J v1_1)), some (.int (J v2_1)), some (.int (J vt_2)), some (.int (J v4_1)), none]) dX11_sounds_83 (by decide) rfl rfl ?_
          refine r_iinc g0 (a := v4_1) (lv' := [some (.ref (E.1 v0_1)), some (.int (J v1_1)), some (.int (J v2_1)), some (.int (J vt_2)), some (.int (J (wr (v4_1 + 1)))), none]) dX11_sounds_84 (by decide) rfl rfl rfl ?_
          refine r_goto g0 31 dX11_sounds_87 (by decide) ?_
          exact ih vt_2 (wr (v4_1 + 1)) s_8 i_vt_2 (InR_wr _) h
        clear hdjp_3
        refine r_icmp_eq g0 82 dX11_sounds_74 (by decide) i_vt_1 (InR_lit rfl) (fun hc => ?_) (fun hc => ?_)
        · replace h := if_t hc h
          refine r_iload_n g0 dX11_sounds_82 rfl ?_
          refine r_mask g0 (lv' := [some (.ref (E.1 v0_1)), some (.int (J v1_1)), some (.int (J v2_1)), none, some (.int (J v4_1)), none]) [true, true, true, false, true, false] rfl ?_
          exact hjp_3 v3_2 s_7 i_v3_2 h
        · replace h := if_f hc h
          refine r_iload g0 dX11_sounds_77 rfl ?_
          refine r_goto g0 83 dX11_sounds_79 (by decide) ?_
          refine r_mask g0 (lv' := [some (.ref (E.1 v0_1)), some (.int (J v1_1)), some (.int (J v2_1)), none, some (.int (J v4_1)), none]) [true, true, true, false, true, false] rfl ?_
          exact hjp_3 vt_1 s_7 i_vt_1 h
      clear hdjp_2
      refine r_icmp_ne g0 64 dX11_sounds_51 (by decide) i_r_3 i_v1_1 (fun hc => ?_) (fun hc => ?_)
      · replace h := if_f hc h
        refine r_sipush g0 dX11_sounds_64 rfl ?_
        exact hjp_2 (-1000) s_6 (InR_lit rfl) h
      · replace h := if_t hc h
        refine r_aload_n g0 dX11_sounds_54 rfl ?_
        refine r_iload g0 dX11_sounds_55 rfl ?_
        refine r_iload_n g0 dX11_sounds_57 rfl ?_
        obtain ⟨r_4, s_9, hr_4, h⟩ := bd_some h
        refine r_cVI g0 (rest := []) (c_X11_heardOf i_v0_1 i_v4_1 i_v2_1 hr_4) ok_X11_heardOf mX11_201 (recv_Mo i_v0_1) dX11_sounds_58 ⟨Nat.le_of_ble_eq_true rfl, Nat.le_of_ble_eq_true rfl⟩ ⟨Nat.zero_le _, Nat.zero_le _⟩ rfl (Nat.le_of_ble_eq_true rfl) rfl (fun i_r_4 => ?_)
        refine r_goto g0 67 dX11_sounds_61 (by decide) ?_
        exact hjp_2 r_4 s_9 i_r_4 h
set_option maxHeartbeats 4000000 in
set_option maxRecDepth 100000 in
theorem c_X11_sounds {E : u_E} {l : Launch} {o : u_O} {p1 : Int} {p2 : Int} (ho : is_Mo o) (i_p1 : InR p1) (i_p2 : InR p2) {s s' : u_S} {r : Int} (h : f_X11_sounds o p1 p2 s = some (r, s')) : Con l (XE E) yX11_sounds cX11_sounds 6 (some .int) 5 116 0 0 [.ref (E.1 o), .int (J p1), .int (J p2)] (Wd E s) (RI E r s') := by
  refine Con.of [some (.ref (E.1 o)), some (.int (J p1)), some (.int (J p2)), none, none, none] (by decide +kernel) rfl rfl (Nat.le_of_ble_eq_true rfl) (fun K g => ?_)
  have g0 := g.wk
  unfold f_X11_sounds at h
  refine r_iload_n g0 dX11_sounds_0 rfl ?_
  refine r_i2l g0 dX11_sounds_1 i_p1 ?_
  refine r_lconst g0 (v := 0) dX11_sounds_2 rfl ?_
  refine r_ldc2 g0 (v := 3) dX11_sounds_3 kX11_59 ?_
  obtain ⟨r_1, s_1, hr_1, h⟩ := bd_some h
  refine r_cSZ g0 (rest := []) (c_X11_in (InL_i i_p1) (InL_lit rfl) (InL_lit rfl) hr_1) ok_X11_in mX11_61 dX11_sounds_6 ⟨Nat.le_of_ble_eq_true rfl, Nat.le_of_ble_eq_true rfl⟩ ⟨Nat.zero_le _, Nat.zero_le _⟩ rfl (Nat.le_of_ble_eq_true rfl) rfl (fun i_r_1 => ?_)
  obtain ⟨jp_1, hdjp_1, h⟩ := jn_some h
  have hjp_1 : ∀  (s_2 : u_S), jp_1 s_2 = some (r, s') → K 0 0 16 [some (.ref (E.1 o)), none, none, none, none, none] [] (Wd E s_2) := by
    intro s_2 h
    subst hdjp_1
    refine r_aload_n g0 dX11_sounds_16 rfl ?_
    refine r_sipush g0 dX11_sounds_17 rfl ?_
    obtain ⟨r_2, s_3, hr_2, h⟩ := bd_some h
    refine r_cVI g0 (rest := []) (c_X11_bad ho (InR_lit rfl) hr_2) ok_X11_bad mX11_164 (recv_Mo ho) dX11_sounds_20 ⟨Nat.le_of_ble_eq_true rfl, Nat.le_of_ble_eq_true rfl⟩ ⟨Nat.zero_le _, Nat.zero_le _⟩ rfl (Nat.le_of_ble_eq_true rfl) rfl (fun i_r_2 => ?_)
    exact z_I g dX11_sounds_23 i_r_2 h
  clear hdjp_1
  refine r_if_eq g0 16 dX11_sounds_9 (by decide) (B01.inR i_r_1) (fun hc => ?_) (fun hc => ?_)
  · replace h := if_t hc h
    refine r_mask g0 (lv' := [some (.ref (E.1 o)), none, none, none, none, none]) [true, false, false, false, false, false] rfl ?_
    exact hjp_1 s_1 h
  · replace h := if_f hc h
    refine r_iload_n g0 dX11_sounds_12 rfl ?_
    refine r_if_ge g0 24 dX11_sounds_13 (by decide) i_p2 (fun hc => ?_) (fun hc => ?_)
    · replace h := if_f hc h
      refine r_sipush g0 dX11_sounds_24 rfl ?_
      refine r_istore_n g0 (lv' := [some (.ref (E.1 o)), some (.int (J p1)), some (.int (J p2)), some (.int (J (-1000))), none, none]) dX11_sounds_27 (by decide) rfl rfl ?_
      refine r_iconst g0 dX11_sounds_28 ?_
      refine r_istore g0 (lv' := [some (.ref (E.1 o)), some (.int (J p1)), some (.int (J p2)), some (.int (J (-1000))), some (.int (J 0)), none]) dX11_sounds_29 (by decide) rfl rfl ?_
      refine t_X11_sounds_L31 g ho i_p1 i_p2 ?_ FU (-1000) 0 s_1 (InR_lit rfl) (B01.inR B01_0) h
      · intro v3_1 s_4 i_v3_1 h
        refine r_iload_n g0 dX11_sounds_90 rfl ?_
        exact z_I g dX11_sounds_91 i_v3_1 h
    · replace h := if_t hc h
      refine r_mask g0 (lv' := [some (.ref (E.1 o)), none, none, none, none, none]) [true, false, false, false, false, false] rfl ?_
      exact hjp_1 s_1 h
theorem dX11_areTwo_0 : decode cX11_areTwo 0 = .ok (.aload_n 0, 1) := by decide +kernel
theorem dX11_areTwo_1 : decode cX11_areTwo 1 = .ok (.iload_n 1, 1) := by decide +kernel
theorem dX11_areTwo_2 : decode cX11_areTwo 2 = .ok (.iconst 4, 1) := by decide +kernel
theorem dX11_areTwo_3 : decode cX11_areTwo 3 = .ok (.invokevirtual 73, 3) := by decide +kernel
theorem dX11_areTwo_6 : decode cX11_areTwo 6 = .ok (.aload_n 0, 1) := by decide +kernel
theorem dX11_areTwo_7 : decode cX11_areTwo 7 = .ok (.iload_n 2, 1) := by decide +kernel
theorem dX11_areTwo_8 : decode cX11_areTwo 8 = .ok (.iconst 4, 1) := by decide +kernel
theorem dX11_areTwo_9 : decode cX11_areTwo 9 = .ok (.invokevirtual 73, 3) := by decide +kernel
theorem dX11_areTwo_12 : decode cX11_areTwo 12 = .ok (.if_icmp .ge 7, 3) := by decide +kernel
theorem dX11_areTwo_15 : decode cX11_areTwo 15 = .ok (.iload_n 1, 1) := by decide +kernel
theorem dX11_areTwo_16 : decode cX11_areTwo 16 = .ok (.goto 4, 3) := by decide +kernel
theorem dX11_areTwo_19 : decode cX11_areTwo 19 = .ok (.iload_n 2, 1) := by decide +kernel
theorem dX11_areTwo_20 : decode cX11_areTwo 20 = .ok (.istore_n 3, 1) := by decide +kernel
theorem dX11_areTwo_21 : decode cX11_areTwo 21 = .ok (.iload_n 3, 1) := by decide +kernel
theorem dX11_areTwo_22 : decode cX11_areTwo 22 = .ok (.iload_n 1, 1) := by decide +kernel
theorem dX11_areTwo_23 : decode cX11_areTwo 23 = .ok (.if_icmp .ne 7, 3) := by decide +kernel
theorem dX11_areTwo_26 : decode cX11_areTwo 26 = .ok (.iload_n 2, 1) := by decide +kernel
theorem dX11_areTwo_27 : decode cX11_areTwo 27 = .ok (.goto 4, 3) := by decide +kernel
theorem dX11_areTwo_30 : decode cX11_areTwo 30 = .ok (.iload_n 1, 1) := by decide +kernel
theorem dX11_areTwo_31 : decode cX11_areTwo 31 = .ok (.istore 4, 2) := by decide +kernel
theorem dX11_areTwo_33 : decode cX11_areTwo 33 = .ok (.aload_n 0, 1) := by decide +kernel
theorem dX11_areTwo_34 : decode cX11_areTwo 34 = .ok (.getfield 22, 3) := by decide +kernel
theorem dX11_areTwo_37 : decode cX11_areTwo 37 = .ok (.aload_n 0, 1) := by decide +kernel
theorem dX11_areTwo_38 : decode cX11_areTwo 38 = .ok (.iload_n 3, 1) := by decide +kernel
theorem dX11_areTwo_39 : decode cX11_areTwo 39 = .ok (.iconst 0, 1) := by decide +kernel
theorem dX11_areTwo_40 : decode cX11_areTwo 40 = .ok (.invokevirtual 73, 3) := by decide +kernel
theorem dX11_areTwo_43 : decode cX11_areTwo 43 = .ok (.aload_n 0, 1) := by decide +kernel
theorem dX11_areTwo_44 : decode cX11_areTwo 44 = .ok (.iload_n 3, 1) := by decide +kernel
theorem dX11_areTwo_45 : decode cX11_areTwo 45 = .ok (.iconst 1, 1) := by decide +kernel
theorem dX11_areTwo_46 : decode cX11_areTwo 46 = .ok (.invokevirtual 73, 3) := by decide +kernel
theorem dX11_areTwo_49 : decode cX11_areTwo 49 = .ok (.aload_n 0, 1) := by decide +kernel
theorem dX11_areTwo_50 : decode cX11_areTwo 50 = .ok (.iload_n 3, 1) := by decide +kernel
theorem dX11_areTwo_51 : decode cX11_areTwo 51 = .ok (.iconst 2, 1) := by decide +kernel
theorem dX11_areTwo_52 : decode cX11_areTwo 52 = .ok (.invokevirtual 73, 3) := by decide +kernel
theorem dX11_areTwo_55 : decode cX11_areTwo 55 = .ok (.aload_n 0, 1) := by decide +kernel
theorem dX11_areTwo_56 : decode cX11_areTwo 56 = .ok (.iload_n 3, 1) := by decide +kernel
theorem dX11_areTwo_57 : decode cX11_areTwo 57 = .ok (.iconst 3, 1) := by decide +kernel
theorem dX11_areTwo_58 : decode cX11_areTwo 58 = .ok (.invokevirtual 73, 3) := by decide +kernel
theorem dX11_areTwo_61 : decode cX11_areTwo 61 = .ok (.invokestatic 197, 3) := by decide +kernel
theorem dX11_areTwo_64 : decode cX11_areTwo 64 = .ok (.aload_n 0, 1) := by decide +kernel
theorem dX11_areTwo_65 : decode cX11_areTwo 65 = .ok (.getfield 25, 3) := by decide +kernel
theorem dX11_areTwo_68 : decode cX11_areTwo 68 = .ok (.aload_n 0, 1) := by decide +kernel
theorem dX11_areTwo_69 : decode cX11_areTwo 69 = .ok (.iload 4, 2) := by decide +kernel
theorem dX11_areTwo_71 : decode cX11_areTwo 71 = .ok (.iconst 0, 1) := by decide +kernel
theorem dX11_areTwo_72 : decode cX11_areTwo 72 = .ok (.invokevirtual 73, 3) := by decide +kernel
theorem dX11_areTwo_75 : decode cX11_areTwo 75 = .ok (.aload_n 0, 1) := by decide +kernel
theorem dX11_areTwo_76 : decode cX11_areTwo 76 = .ok (.iload 4, 2) := by decide +kernel
theorem dX11_areTwo_78 : decode cX11_areTwo 78 = .ok (.iconst 1, 1) := by decide +kernel
theorem dX11_areTwo_79 : decode cX11_areTwo 79 = .ok (.invokevirtual 73, 3) := by decide +kernel
theorem dX11_areTwo_82 : decode cX11_areTwo 82 = .ok (.aload_n 0, 1) := by decide +kernel
theorem dX11_areTwo_83 : decode cX11_areTwo 83 = .ok (.iload 4, 2) := by decide +kernel
theorem dX11_areTwo_85 : decode cX11_areTwo 85 = .ok (.iconst 2, 1) := by decide +kernel
theorem dX11_areTwo_86 : decode cX11_areTwo 86 = .ok (.invokevirtual 73, 3) := by decide +kernel
theorem dX11_areTwo_89 : decode cX11_areTwo 89 = .ok (.aload_n 0, 1) := by decide +kernel
theorem dX11_areTwo_90 : decode cX11_areTwo 90 = .ok (.iload 4, 2) := by decide +kernel
theorem dX11_areTwo_92 : decode cX11_areTwo 92 = .ok (.iconst 3, 1) := by decide +kernel
theorem dX11_areTwo_93 : decode cX11_areTwo 93 = .ok (.invokevirtual 73, 3) := by decide +kernel
theorem dX11_areTwo_96 : decode cX11_areTwo 96 = .ok (.invokestatic 197, 3) := by decide +kernel
theorem dX11_areTwo_99 : decode cX11_areTwo 99 = .ok (.aload_n 0, 1) := by decide +kernel
theorem dX11_areTwo_100 : decode cX11_areTwo 100 = .ok (.iload_n 1, 1) := by decide +kernel
theorem dX11_areTwo_101 : decode cX11_areTwo 101 = .ok (.iconst 4, 1) := by decide +kernel
theorem dX11_areTwo_102 : decode cX11_areTwo 102 = .ok (.invokevirtual 73, 3) := by decide +kernel
theorem dX11_areTwo_105 : decode cX11_areTwo 105 = .ok (.aload_n 0, 1) := by decide +kernel
theorem dX11_areTwo_106 : decode cX11_areTwo 106 = .ok (.iload_n 2, 1) := by decide +kernel
theorem dX11_areTwo_107 : decode cX11_areTwo 107 = .ok (.iconst 4, 1) := by decide +kernel
theorem dX11_areTwo_108 : decode cX11_areTwo 108 = .ok (.invokevirtual 73, 3) := by decide +kernel
theorem dX11_areTwo_111 : decode cX11_areTwo 111 = .ok (.if_icmp .eq 7, 3) := by decide +kernel
theorem dX11_areTwo_114 : decode cX11_areTwo 114 = .ok (.iconst 1, 1) := by decide +kernel
theorem dX11_areTwo_115 : decode cX11_areTwo 115 = .ok (.goto 4, 3) := by decide +kernel
theorem dX11_areTwo_118 : decode cX11_areTwo 118 = .ok (.iconst 0, 1) := by decide +kernel
theorem dX11_areTwo_119 : decode cX11_areTwo 119 = .ok (.ireturn, 1) := by decide +kernel
set_option maxHeartbeats 4000000 in
set_option maxRecDepth 100000 in
theorem c_X11_areTwo {E : u_E} {l : Launch} {o : u_O} {p1 : Int} {p2 : Int} (ho : is_Mo o) (i_p1 : InR p1) (i_p2 : InR p2) {s s' : u_S} {r : Int} (h : f_X11_areTwo o p1 p2 s = some (r, s')) : Con l (XE E) yX11_areTwo cX11_areTwo 5 (some .boolean) 1 24 0 0 [.ref (E.1 o), .int (J p1), .int (J p2)] (Wd E s) (RZ E r s') := by
  refine Con.of [some (.ref (E.1 o)), some (.int (J p1)), some (.int (J p2)), none, none] (by decide +kernel) rfl rfl (Nat.le_of_ble_eq_true rfl) (fun K g => ?_)
  have g0 := g.wk
  unfold f_X11_areTwo at h
  refine r_aload_n g0 dX11_areTwo_0 rfl ?_
  refine r_iload_n g0 dX11_areTwo_1 rfl ?_
  refine r_iconst g0 dX11_areTwo_2 ?_
  obtain ⟨r_1, s_1, hr_1, h⟩ := bd_some h
  refine r_cVI g0 (rest := []) (c_X11_of ho i_p1 (InR_lit rfl) hr_1) ok_X11_of mX11_73 (recv_Mo ho) dX11_areTwo_3 ⟨Nat.le_of_ble_eq_true rfl, Nat.le_of_ble_eq_true rfl⟩ ⟨Nat.zero_le _, Nat.zero_le _⟩ rfl (Nat.le_of_ble_eq_true rfl) rfl (fun i_r_1 => ?_)
  refine r_aload_n g0 dX11_areTwo_6 rfl ?_
  refine r_iload_n g0 dX11_areTwo_7 rfl ?_
  refine r_iconst g0 dX11_areTwo_8 ?_
  obtain ⟨r_2, s_2, hr_2, h⟩ := bd_some h
  refine r_cVI g0 (rest := [.int (J r_1)]) (c_X11_of ho i_p2 (InR_lit rfl) hr_2) ok_X11_of mX11_73 (recv_Mo ho) dX11_areTwo_9 ⟨Nat.le_of_ble_eq_true rfl, Nat.le_of_ble_eq_true rfl⟩ ⟨Nat.zero_le _, Nat.zero_le _⟩ rfl (Nat.le_of_ble_eq_true rfl) rfl (fun i_r_2 => ?_)
  obtain ⟨jp_1, hdjp_1, h⟩ := jn_some h
  have hjp_1 : ∀ (vt_1 : Int) (s_3 : u_S), InR vt_1 → jp_1 vt_1 s_3 = some (r, s') → K 0 0 20 [some (.ref (E.1 o)), some (.int (J p1)), some (.int (J p2)), none, none] [.int (J vt_1)] (Wd E s_3) := by
    intro vt_1 s_3 i_vt_1 h
    subst hdjp_1
    refine r_istore_n g0 (lv' := [some (.ref (E.1 o)), some (.int (J p1)), some (.int (J p2)), some (.int (J vt_1)), none]) dX11_areTwo_20 (by decide) rfl rfl ?_
    refine r_iload_n g0 dX11_areTwo_21 rfl ?_
    refine r_iload_n g0 dX11_areTwo_22 rfl ?_
    obtain ⟨jp_2, hdjp_2, h⟩ := jn_some h
    have hjp_2 : ∀ (vt_2 : Int) (s_4 : u_S), InR vt_2 → jp_2 vt_2 s_4 = some (r, s') → K 0 0 31 [some (.ref (E.1 o)), some (.int (J p1)), some (.int (J p2)), some (.int (J vt_1)), none] [.int (J vt_2)] (Wd E s_4) := by
      intro vt_2 s_4 i_vt_2 h
      subst hdjp_2
      refine r_istore g0 (lv' := [some (.ref (E.1 o)), some (.int (J p1)), some (.int (J p2)), some (.int (J vt_1)), some (.int (J vt_2))]) dX11_areTwo_31 (by decide) rfl rfl ?_
      refine r_aload_n g0 dX11_areTwo_33 rfl ?_
      refine g_Mo_upper g0 ho qX11_22 dX11_areTwo_34 ?_
      refine r_aload_n g0 dX11_areTwo_37 rfl ?_
      refine r_iload_n g0 dX11_areTwo_38 rfl ?_
      refine r_iconst g0 dX11_areTwo_39 ?_
      obtain ⟨r_3, s_5, hr_3, h⟩ := bd_some h
      refine r_cVI g0 (rest := [.ref (E.1 (a_Mo_upper o))]) (c_X11_of ho i_vt_1 (B01.inR B01_0) hr_3) ok_X11_of mX11_73 (recv_Mo ho) dX11_areTwo_40 ⟨Nat.le_of_ble_eq_true rfl, Nat.le_of_ble_eq_true rfl⟩ ⟨Nat.zero_le _, Nat.zero_le _⟩ rfl (Nat.le_of_ble_eq_true rfl) rfl (fun i_r_3 => ?_)
      refine r_aload_n g0 dX11_areTwo_43 rfl ?_
      refine r_iload_n g0 dX11_areTwo_44 rfl ?_
      refine r_iconst g0 dX11_areTwo_45 ?_
      obtain ⟨r_4, s_6, hr_4, h⟩ := bd_some h
      refine r_cVI g0 (rest := [.int (J r_3), .ref (E.1 (a_Mo_upper o))]) (c_X11_of ho i_vt_1 (B01.inR B01_1) hr_4) ok_X11_of mX11_73 (recv_Mo ho) dX11_areTwo_46 ⟨Nat.le_of_ble_eq_true rfl, Nat.le_of_ble_eq_true rfl⟩ ⟨Nat.zero_le _, Nat.zero_le _⟩ rfl (Nat.le_of_ble_eq_true rfl) rfl (fun i_r_4 => ?_)
      refine r_aload_n g0 dX11_areTwo_49 rfl ?_
      refine r_iload_n g0 dX11_areTwo_50 rfl ?_
      refine r_iconst g0 dX11_areTwo_51 ?_
      obtain ⟨r_5, s_7, hr_5, h⟩ := bd_some h
      refine r_cVI g0 (rest := [.int (J r_4), .int (J r_3), .ref (E.1 (a_Mo_upper o))]) (c_X11_of ho i_vt_1 (InR_lit rfl) hr_5) ok_X11_of mX11_73 (recv_Mo ho) dX11_areTwo_52 ⟨Nat.le_of_ble_eq_true rfl, Nat.le_of_ble_eq_true rfl⟩ ⟨Nat.zero_le _, Nat.zero_le _⟩ rfl (Nat.le_of_ble_eq_true rfl) rfl (fun i_r_5 => ?_)
      refine r_aload_n g0 dX11_areTwo_55 rfl ?_
      refine r_iload_n g0 dX11_areTwo_56 rfl ?_
      refine r_iconst g0 dX11_areTwo_57 ?_
      obtain ⟨r_6, s_8, hr_6, h⟩ := bd_some h
      refine r_cVI g0 (rest := [.int (J r_5), .int (J r_4), .int (J r_3), .ref (E.1 (a_Mo_upper o))]) (c_X11_of ho i_vt_1 (InR_lit rfl) hr_6) ok_X11_of mX11_73 (recv_Mo ho) dX11_areTwo_58 ⟨Nat.le_of_ble_eq_true rfl, Nat.le_of_ble_eq_true rfl⟩ ⟨Nat.zero_le _, Nat.zero_le _⟩ rfl (Nat.le_of_ble_eq_true rfl) rfl (fun i_r_6 => ?_)
      obtain ⟨r_7, s_9, hr_7, h⟩ := bd_some h
      refine r_cSV g0 (rest := []) (c_X11_puts (is_a_Mo_upper ho) i_r_3 i_r_4 i_r_5 i_r_6 hr_7) ok_X11_puts mX11_197 dX11_areTwo_61 ⟨Nat.le_of_ble_eq_true rfl, Nat.le_of_ble_eq_true rfl⟩ ⟨Nat.zero_le _, Nat.zero_le _⟩ rfl (Nat.le_of_ble_eq_true rfl) rfl ?_
      refine r_aload_n g0 dX11_areTwo_64 rfl ?_
      refine g_Mo_lower g0 ho qX11_25 dX11_areTwo_65 ?_
      refine r_aload_n g0 dX11_areTwo_68 rfl ?_
      refine r_iload g0 dX11_areTwo_69 rfl ?_
      refine r_iconst g0 dX11_areTwo_71 ?_
      obtain ⟨r_8, s_10, hr_8, h⟩ := bd_some h
      refine r_cVI g0 (rest := [.ref (E.1 (a_Mo_lower o))]) (c_X11_of ho i_vt_2 (B01.inR B01_0) hr_8) ok_X11_of mX11_73 (recv_Mo ho) dX11_areTwo_72 ⟨Nat.le_of_ble_eq_true rfl, Nat.le_of_ble_eq_true rfl⟩ ⟨Nat.zero_le _, Nat.zero_le _⟩ rfl (Nat.le_of_ble_eq_true rfl) rfl (fun i_r_8 => ?_)
      refine r_aload_n g0 dX11_areTwo_75 rfl ?_
      refine r_iload g0 dX11_areTwo_76 rfl ?_
      refine r_iconst g0 dX11_areTwo_78 ?_
      obtain ⟨r_9, s_11, hr_9, h⟩ := bd_some h
      refine r_cVI g0 (rest := [.int (J r_8), .ref (E.1 (a_Mo_lower o))]) (c_X11_of ho i_vt_2 (B01.inR B01_1) hr_9) ok_X11_of mX11_73 (recv_Mo ho) dX11_areTwo_79 ⟨Nat.le_of_ble_eq_true rfl, Nat.le_of_ble_eq_true rfl⟩ ⟨Nat.zero_le _, Nat.zero_le _⟩ rfl (Nat.le_of_ble_eq_true rfl) rfl (fun i_r_9 => ?_)
      refine r_aload_n g0 dX11_areTwo_82 rfl ?_
      refine r_iload g0 dX11_areTwo_83 rfl ?_
      refine r_iconst g0 dX11_areTwo_85 ?_
      obtain ⟨r_10, s_12, hr_10, h⟩ := bd_some h
      refine r_cVI g0 (rest := [.int (J r_9), .int (J r_8), .ref (E.1 (a_Mo_lower o))]) (c_X11_of ho i_vt_2 (InR_lit rfl) hr_10) ok_X11_of mX11_73 (recv_Mo ho) dX11_areTwo_86 ⟨Nat.le_of_ble_eq_true rfl, Nat.le_of_ble_eq_true rfl⟩ ⟨Nat.zero_le _, Nat.zero_le _⟩ rfl (Nat.le_of_ble_eq_true rfl) rfl (fun i_r_10 => ?_)
      refine r_aload_n g0 dX11_areTwo_89 rfl ?_
      refine r_iload g0 dX11_areTwo_90 rfl ?_
      refine r_iconst g0 dX11_areTwo_92 ?_
      obtain ⟨r_11, s_13, hr_11, h⟩ := bd_some h
      refine r_cVI g0 (rest := [.int (J r_10), .int (J r_9), .int (J r_8), .ref (E.1 (a_Mo_lower o))]) (c_X11_of ho i_vt_2 (InR_lit rfl) hr_11) ok_X11_of mX11_73 (recv_Mo ho) dX11_areTwo_93 ⟨Nat.le_of_ble_eq_true rfl, Nat.le_of_ble_eq_true rfl⟩ ⟨Nat.zero_le _, Nat.zero_le _⟩ rfl (Nat.le_of_ble_eq_true rfl) rfl (fun i_r_11 => ?_)
      obtain ⟨r_12, s_14, hr_12, h⟩ := bd_some h
      refine r_cSV g0 (rest := []) (c_X11_puts (is_a_Mo_lower ho) i_r_8 i_r_9 i_r_10 i_r_11 hr_12) ok_X11_puts mX11_197 dX11_areTwo_96 ⟨Nat.le_of_ble_eq_true rfl, Nat.le_of_ble_eq_true rfl⟩ ⟨Nat.zero_le _, Nat.zero_le _⟩ rfl (Nat.le_of_ble_eq_true rfl) rfl ?_
      refine r_aload_n g0 dX11_areTwo_99 rfl ?_
      refine r_iload_n g0 dX11_areTwo_100 rfl ?_
      refine r_iconst g0 dX11_areTwo_101 ?_
      obtain ⟨r_13, s_15, hr_13, h⟩ := bd_some h
      refine r_cVI g0 (rest := []) (c_X11_of ho i_p1 (InR_lit rfl) hr_13) ok_X11_of mX11_73 (recv_Mo ho) dX11_areTwo_102 ⟨Nat.le_of_ble_eq_true rfl, Nat.le_of_ble_eq_true rfl⟩ ⟨Nat.zero_le _, Nat.zero_le _⟩ rfl (Nat.le_of_ble_eq_true rfl) rfl (fun i_r_13 => ?_)
      refine r_aload_n g0 dX11_areTwo_105 rfl ?_
      refine r_iload_n g0 dX11_areTwo_106 rfl ?_
      refine r_iconst g0 dX11_areTwo_107 ?_
      obtain ⟨r_14, s_16, hr_14, h⟩ := bd_some h
      refine r_cVI g0 (rest := [.int (J r_13)]) (c_X11_of ho i_p2 (InR_lit rfl) hr_14) ok_X11_of mX11_73 (recv_Mo ho) dX11_areTwo_108 ⟨Nat.le_of_ble_eq_true rfl, Nat.le_of_ble_eq_true rfl⟩ ⟨Nat.zero_le _, Nat.zero_le _⟩ rfl (Nat.le_of_ble_eq_true rfl) rfl (fun i_r_14 => ?_)
      refine r_icmp_eq g0 118 dX11_areTwo_111 (by decide) i_r_13 i_r_14 (fun hc => ?_) (fun hc => ?_)
      · replace h := if_t hc h
        refine r_iconst g0 dX11_areTwo_118 ?_
        exact z_Z g dX11_areTwo_119 B01_0 h
      · replace h := if_f hc h
        refine r_iconst g0 dX11_areTwo_114 ?_
        refine r_goto g0 119 dX11_areTwo_115 (by decide) ?_
        exact z_Z g dX11_areTwo_119 B01_1 h
    clear hdjp_2
    refine r_icmp_ne g0 30 dX11_areTwo_23 (by decide) i_vt_1 i_p1 (fun hc => ?_) (fun hc => ?_)
    · replace h := if_f hc h
      refine r_iload_n g0 dX11_areTwo_30 rfl ?_
      exact hjp_2 p1 s_3 i_p1 h
    · replace h := if_t hc h
      refine r_iload_n g0 dX11_areTwo_26 rfl ?_
      refine r_goto g0 31 dX11_areTwo_27 (by decide) ?_
      exact hjp_2 p2 s_3 i_p2 h
  clear hdjp_1
  refine r_icmp_ge g0 19 dX11_areTwo_12 (by decide) i_r_1 i_r_2 (fun hc => ?_) (fun hc => ?_)
  · replace h := if_f hc h
    refine r_iload_n g0 dX11_areTwo_19 rfl ?_
    exact hjp_1 p2 s_2 i_p2 h
  · replace h := if_t hc h
    refine r_iload_n g0 dX11_areTwo_15 rfl ?_
    refine r_goto g0 20 dX11_areTwo_16 (by decide) ?_
    exact hjp_1 p1 s_2 i_p1 h
theorem dX11_faultsOf_0 : decode cX11_faultsOf 0 = .ok (.aload_n 0, 1) := by decide +kernel
theorem dX11_faultsOf_1 : decode cX11_faultsOf 1 = .ok (.invokevirtual 204, 3) := by decide +kernel
theorem dX11_faultsOf_4 : decode cX11_faultsOf 4 = .ok (.iload_n 1, 1) := by decide +kernel
theorem dX11_faultsOf_5 : decode cX11_faultsOf 5 = .ok (.iconst 3, 1) := by decide +kernel
theorem dX11_faultsOf_6 : decode cX11_faultsOf 6 = .ok (.if_icmp .ge 12, 3) := by decide +kernel
theorem dX11_faultsOf_9 : decode cX11_faultsOf 9 = .ok (.aload_n 0, 1) := by decide +kernel
theorem dX11_faultsOf_10 : decode cX11_faultsOf 10 = .ok (.getfield 28, 3) := by decide +kernel
theorem dX11_faultsOf_13 : decode cX11_faultsOf 13 = .ok (.iload_n 1, 1) := by decide +kernel
theorem dX11_faultsOf_14 : decode cX11_faultsOf 14 = .ok (.iaload, 1) := by decide +kernel
theorem dX11_faultsOf_15 : decode cX11_faultsOf 15 = .ok (.goto 23, 3) := by decide +kernel
theorem dX11_faultsOf_18 : decode cX11_faultsOf 18 = .ok (.aload_n 0, 1) := by decide +kernel
theorem dX11_faultsOf_19 : decode cX11_faultsOf 19 = .ok (.getfield 28, 3) := by decide +kernel
theorem dX11_faultsOf_22 : decode cX11_faultsOf 22 = .ok (.iconst 0, 1) := by decide +kernel
theorem dX11_faultsOf_23 : decode cX11_faultsOf 23 = .ok (.iaload, 1) := by decide +kernel
theorem dX11_faultsOf_24 : decode cX11_faultsOf 24 = .ok (.aload_n 0, 1) := by decide +kernel
theorem dX11_faultsOf_25 : decode cX11_faultsOf 25 = .ok (.getfield 28, 3) := by decide +kernel
theorem dX11_faultsOf_28 : decode cX11_faultsOf 28 = .ok (.iconst 1, 1) := by decide +kernel
theorem dX11_faultsOf_29 : decode cX11_faultsOf 29 = .ok (.iaload, 1) := by decide +kernel
theorem dX11_faultsOf_30 : decode cX11_faultsOf 30 = .ok (.iadd, 1) := by decide +kernel
theorem dX11_faultsOf_31 : decode cX11_faultsOf 31 = .ok (.aload_n 0, 1) := by decide +kernel
theorem dX11_faultsOf_32 : decode cX11_faultsOf 32 = .ok (.getfield 28, 3) := by decide +kernel
theorem dX11_faultsOf_35 : decode cX11_faultsOf 35 = .ok (.iconst 2, 1) := by decide +kernel
theorem dX11_faultsOf_36 : decode cX11_faultsOf 36 = .ok (.iaload, 1) := by decide +kernel
theorem dX11_faultsOf_37 : decode cX11_faultsOf 37 = .ok (.iadd, 1) := by decide +kernel
theorem dX11_faultsOf_38 : decode cX11_faultsOf 38 = .ok (.ireturn, 1) := by decide +kernel
set_option maxHeartbeats 4000000 in
set_option maxRecDepth 100000 in
theorem c_X11_faultsOf {E : u_E} {l : Launch} {o : u_O} {p1 : Int} (ho : is_Mo o) (i_p1 : InR p1) {s s' : u_S} {r : Int} (h : f_X11_faultsOf o p1 s = some (r, s')) : Con l (XE E) yX11_faultsOf cX11_faultsOf 2 (some .int) 6 149 0 0 [.ref (E.1 o), .int (J p1)] (Wd E s) (RI E r s') := by
  refine Con.of [some (.ref (E.1 o)), some (.int (J p1))] (by decide +kernel) rfl rfl (Nat.le_of_ble_eq_true rfl) (fun K g => ?_)
  have g0 := g.wk
  unfold f_X11_faultsOf at h
  refine r_aload_n g0 dX11_faultsOf_0 rfl ?_
  obtain ⟨r_1, s_1, hr_1, h⟩ := bd_some h
  refine r_cVV g0 (rest := []) (c_X11_countsAll ho hr_1) ok_X11_countsAll mX11_204 (recv_Mo ho) dX11_faultsOf_1 ⟨Nat.le_of_ble_eq_true rfl, Nat.le_of_ble_eq_true rfl⟩ ⟨Nat.zero_le _, Nat.zero_le _⟩ rfl (Nat.le_of_ble_eq_true rfl) rfl ?_
  refine r_iload_n g0 dX11_faultsOf_4 rfl ?_
  refine r_iconst g0 dX11_faultsOf_5 ?_
  refine r_icmp_ge g0 18 dX11_faultsOf_6 (by decide) i_p1 (InR_lit rfl) (fun hc => ?_) (fun hc => ?_)
  · replace h := if_f hc h
    refine r_aload_n g0 dX11_faultsOf_18 rfl ?_
    refine g_Mo_counted g0 ho qX11_28 dX11_faultsOf_19 ?_
    refine r_iconst g0 dX11_faultsOf_22 ?_
    obtain ⟨hb, h⟩ := gd_some h
    refine r_iaload g0 (is_a_Mo_counted ho) (n := 3) rfl (B01.inR B01_0) hb dX11_faultsOf_23 ?_
    refine r_aload_n g0 dX11_faultsOf_24 rfl ?_
    refine g_Mo_counted g0 ho qX11_28 dX11_faultsOf_25 ?_
    refine r_iconst g0 dX11_faultsOf_28 ?_
    obtain ⟨hb, h⟩ := gd_some h
    refine r_iaload g0 (is_a_Mo_counted ho) (n := 3) rfl (B01.inR B01_1) hb dX11_faultsOf_29 ?_
    refine r_iadd g0 dX11_faultsOf_30 ?_
    refine r_aload_n g0 dX11_faultsOf_31 rfl ?_
    refine g_Mo_counted g0 ho qX11_28 dX11_faultsOf_32 ?_
    refine r_iconst g0 dX11_faultsOf_35 ?_
    obtain ⟨hb, h⟩ := gd_some h
    refine r_iaload g0 (is_a_Mo_counted ho) (n := 3) rfl (InR_lit rfl) hb dX11_faultsOf_36 ?_
    refine r_iadd g0 dX11_faultsOf_37 ?_
    exact z_I g dX11_faultsOf_38 (InR_wr _) h
  · replace h := if_t hc h
    refine r_aload_n g0 dX11_faultsOf_9 rfl ?_
    refine g_Mo_counted g0 ho qX11_28 dX11_faultsOf_10 ?_
    refine r_iload_n g0 dX11_faultsOf_13 rfl ?_
    obtain ⟨hb, h⟩ := gd_some h
    refine r_iaload g0 (is_a_Mo_counted ho) (n := 3) rfl i_p1 hb dX11_faultsOf_14 ?_
    refine r_goto g0 38 dX11_faultsOf_15 (by decide) ?_
    exact z_I g dX11_faultsOf_38 (InR_rd _ _ _) h
theorem dX11_faults_0 : decode cX11_faults 0 = .ok (.aload_n 0, 1) := by decide +kernel
theorem dX11_faults_1 : decode cX11_faults 1 = .ok (.iload_n 1, 1) := by decide +kernel
theorem dX11_faults_2 : decode cX11_faults 2 = .ok (.invokevirtual 189, 3) := by decide +kernel
theorem dX11_faults_5 : decode cX11_faults 5 = .ok (.ifCond .eq 28, 3) := by decide +kernel
theorem dX11_faults_8 : decode cX11_faults 8 = .ok (.aload_n 0, 1) := by decide +kernel
theorem dX11_faults_9 : decode cX11_faults 9 = .ok (.iload_n 2, 1) := by decide +kernel
theorem dX11_faults_10 : decode cX11_faults 10 = .ok (.invokevirtual 189, 3) := by decide +kernel
theorem dX11_faults_13 : decode cX11_faults 13 = .ok (.ifCond .eq 20, 3) := by decide +kernel
theorem dX11_faults_16 : decode cX11_faults 16 = .ok (.iload_n 1, 1) := by decide +kernel
theorem dX11_faults_17 : decode cX11_faults 17 = .ok (.iload_n 2, 1) := by decide +kernel
theorem dX11_faults_18 : decode cX11_faults 18 = .ok (.if_icmp .eq 15, 3) := by decide +kernel
theorem dX11_faults_21 : decode cX11_faults 21 = .ok (.iload_n 3, 1) := by decide +kernel
theorem dX11_faults_22 : decode cX11_faults 22 = .ok (.i2l, 1) := by decide +kernel
theorem dX11_faults_23 : decode cX11_faults 23 = .ok (.lconst 0, 1) := by decide +kernel
theorem dX11_faults_24 : decode cX11_faults 24 = .ok (.ldc2_w 59, 3) := by decide +kernel
theorem dX11_faults_27 : decode cX11_faults 27 = .ok (.invokestatic 61, 3) := by decide +kernel
theorem dX11_faults_30 : decode cX11_faults 30 = .ok (.ifCond .ne 10, 3) := by decide +kernel
theorem dX11_faults_33 : decode cX11_faults 33 = .ok (.aload_n 0, 1) := by decide +kernel
theorem dX11_faults_34 : decode cX11_faults 34 = .ok (.bipush (-2), 2) := by decide +kernel
theorem dX11_faults_36 : decode cX11_faults 36 = .ok (.invokevirtual 97, 3) := by decide +kernel
theorem dX11_faults_39 : decode cX11_faults 39 = .ok (.ireturn, 1) := by decide +kernel
theorem dX11_faults_40 : decode cX11_faults 40 = .ok (.aload_n 0, 1) := by decide +kernel
theorem dX11_faults_41 : decode cX11_faults 41 = .ok (.iload_n 1, 1) := by decide +kernel
theorem dX11_faults_42 : decode cX11_faults 42 = .ok (.iload_n 2, 1) := by decide +kernel
theorem dX11_faults_43 : decode cX11_faults 43 = .ok (.invokevirtual 207, 3) := by decide +kernel
theorem dX11_faults_46 : decode cX11_faults 46 = .ok (.ifCond .eq 11, 3) := by decide +kernel
theorem dX11_faults_49 : decode cX11_faults 49 = .ok (.aload_n 0, 1) := by decide +kernel
theorem dX11_faults_50 : decode cX11_faults 50 = .ok (.iload_n 3, 1) := by decide +kernel
theorem dX11_faults_51 : decode cX11_faults 51 = .ok (.invokevirtual 210, 3) := by decide +kernel
theorem dX11_faults_54 : decode cX11_faults 54 = .ok (.goto 4, 3) := by decide +kernel
theorem dX11_faults_57 : decode cX11_faults 57 = .ok (.iconst 0, 1) := by decide +kernel
theorem dX11_faults_58 : decode cX11_faults 58 = .ok (.ireturn, 1) := by decide +kernel
set_option maxHeartbeats 4000000 in
set_option maxRecDepth 100000 in
theorem c_X11_faults {E : u_E} {l : Launch} {o : u_O} {p1 : Int} {p2 : Int} {p3 : Int} (ho : is_Mo o) (i_p1 : InR p1) (i_p2 : InR p2) (i_p3 : InR p3) {s s' : u_S} {r : Int} (h : f_X11_faults o p1 p2 p3 s = some (r, s')) : Con l (XE E) yX11_faults cX11_faults 4 (some .int) 7 170 0 0 [.ref (E.1 o), .int (J p1), .int (J p2), .int (J p3)] (Wd E s) (RI E r s') := by
  refine Con.of [some (.ref (E.1 o)), some (.int (J p1)), some (.int (J p2)), some (.int (J p3))] (by decide +kernel) rfl rfl (Nat.le_of_ble_eq_true rfl) (fun K g => ?_)
  have g0 := g.wk
  unfold f_X11_faults at h
  refine r_aload_n g0 dX11_faults_0 rfl ?_
  refine r_iload_n g0 dX11_faults_1 rfl ?_
  obtain ⟨r_1, s_1, hr_1, h⟩ := bd_some h
  refine r_cVZ g0 (rest := []) (c_X11_isEntry ho i_p1 hr_1) ok_X11_isEntry mX11_189 (recv_Mo ho) dX11_faults_2 ⟨Nat.le_of_ble_eq_true rfl, Nat.le_of_ble_eq_true rfl⟩ ⟨Nat.zero_le _, Nat.zero_le _⟩ rfl (Nat.le_of_ble_eq_true rfl) rfl (fun i_r_1 => ?_)
  obtain ⟨jp_1, hdjp_1, h⟩ := jn_some h
  have hjp_1 : ∀  (s_2 : u_S), jp_1 s_2 = some (r, s') → K 0 0 33 [some (.ref (E.1 o)), none, none, none] [] (Wd E s_2) := by
    intro s_2 h
    subst hdjp_1
    refine r_aload_n g0 dX11_faults_33 rfl ?_
    refine r_bipush g0 dX11_faults_34 rfl ?_
    obtain ⟨r_2, s_3, hr_2, h⟩ := bd_some h
    refine r_cVI g0 (rest := []) (c_X11_refuses ho (InR_lit rfl) hr_2) ok_X11_refuses mX11_97 (recv_Mo ho) dX11_faults_36 ⟨Nat.le_of_ble_eq_true rfl, Nat.le_of_ble_eq_true rfl⟩ ⟨Nat.zero_le _, Nat.zero_le _⟩ rfl (Nat.le_of_ble_eq_true rfl) rfl (fun i_r_2 => ?_)
    exact z_I g dX11_faults_39 i_r_2 h
  clear hdjp_1
  refine r_if_eq g0 33 dX11_faults_5 (by decide) (B01.inR i_r_1) (fun hc => ?_) (fun hc => ?_)
  · replace h := if_t hc h
    refine r_mask g0 (lv' := [some (.ref (E.1 o)), none, none, none]) [true, false, false, false] rfl ?_
    exact hjp_1 s_1 h
  · replace h := if_f hc h
    refine r_aload_n g0 dX11_faults_8 rfl ?_
    refine r_iload_n g0 dX11_faults_9 rfl ?_
    obtain ⟨r_3, s_4, hr_3, h⟩ := bd_some h
    refine r_cVZ g0 (rest := []) (c_X11_isEntry ho i_p2 hr_3) ok_X11_isEntry mX11_189 (recv_Mo ho) dX11_faults_10 ⟨Nat.le_of_ble_eq_true rfl, Nat.le_of_ble_eq_true rfl⟩ ⟨Nat.zero_le _, Nat.zero_le _⟩ rfl (Nat.le_of_ble_eq_true rfl) rfl (fun i_r_3 => ?_)
    refine r_if_eq g0 33 dX11_faults_13 (by decide) (B01.inR i_r_3) (fun hc => ?_) (fun hc => ?_)
    · replace h := if_t hc h
      refine r_mask g0 (lv' := [some (.ref (E.1 o)), none, none, none]) [true, false, false, false] rfl ?_
      exact hjp_1 s_4 h
    · replace h := if_f hc h
      refine r_iload_n g0 dX11_faults_16 rfl ?_
      refine r_iload_n g0 dX11_faults_17 rfl ?_
      refine r_icmp_eq g0 33 dX11_faults_18 (by decide) i_p1 i_p2 (fun hc => ?_) (fun hc => ?_)
      · replace h := if_t hc h
        refine r_mask g0 (lv' := [some (.ref (E.1 o)), none, none, none]) [true, false, false, false] rfl ?_
        exact hjp_1 s_4 h
      · replace h := if_f hc h
        refine r_iload_n g0 dX11_faults_21 rfl ?_
        refine r_i2l g0 dX11_faults_22 i_p3 ?_
        refine r_lconst g0 (v := 0) dX11_faults_23 rfl ?_
        refine r_ldc2 g0 (v := 3) dX11_faults_24 kX11_59 ?_
        obtain ⟨r_4, s_5, hr_4, h⟩ := bd_some h
        refine r_cSZ g0 (rest := []) (c_X11_in (InL_i i_p3) (InL_lit rfl) (InL_lit rfl) hr_4) ok_X11_in mX11_61 dX11_faults_27 ⟨Nat.le_of_ble_eq_true rfl, Nat.le_of_ble_eq_true rfl⟩ ⟨Nat.zero_le _, Nat.zero_le _⟩ rfl (Nat.le_of_ble_eq_true rfl) rfl (fun i_r_4 => ?_)
        refine r_if_ne g0 40 dX11_faults_30 (by decide) (B01.inR i_r_4) (fun hc => ?_) (fun hc => ?_)
        · replace h := if_f hc h
          refine r_aload_n g0 dX11_faults_40 rfl ?_
          refine r_iload_n g0 dX11_faults_41 rfl ?_
          refine r_iload_n g0 dX11_faults_42 rfl ?_
          obtain ⟨r_5, s_6, hr_5, h⟩ := bd_some h
          refine r_cVZ g0 (rest := []) (c_X11_areTwo ho i_p1 i_p2 hr_5) ok_X11_areTwo mX11_207 (recv_Mo ho) dX11_faults_43 ⟨Nat.le_of_ble_eq_true rfl, Nat.le_of_ble_eq_true rfl⟩ ⟨Nat.zero_le _, Nat.zero_le _⟩ rfl (Nat.le_of_ble_eq_true rfl) rfl (fun i_r_5 => ?_)
          refine r_if_eq g0 57 dX11_faults_46 (by decide) (B01.inR i_r_5) (fun hc => ?_) (fun hc => ?_)
          · replace h := if_t hc h
            refine r_iconst g0 dX11_faults_57 ?_
            exact z_I g dX11_faults_58 (B01.inR B01_0) h
          · replace h := if_f hc h
            refine r_aload_n g0 dX11_faults_49 rfl ?_
            refine r_iload_n g0 dX11_faults_50 rfl ?_
            obtain ⟨r_6, s_7, hr_6, h⟩ := bd_some h
            refine r_cVI g0 (rest := []) (c_X11_faultsOf ho i_p3 hr_6) ok_X11_faultsOf mX11_210 (recv_Mo ho) dX11_faults_51 ⟨Nat.le_of_ble_eq_true rfl, Nat.le_of_ble_eq_true rfl⟩ ⟨Nat.zero_le _, Nat.zero_le _⟩ rfl (Nat.le_of_ble_eq_true rfl) rfl (fun i_r_6 => ?_)
            refine r_goto g0 58 dX11_faults_54 (by decide) ?_
            exact z_I g dX11_faults_58 i_r_6 h
        · replace h := if_t hc h
          refine r_mask g0 (lv' := [some (.ref (E.1 o)), none, none, none]) [true, false, false, false] rfl ?_
          exact hjp_1 s_5 h
theorem dX11_end_0 : decode cX11_end 0 = .ok (.iconst 0, 1) := by decide +kernel
theorem dX11_end_1 : decode cX11_end 1 = .ok (.istore_n 1, 1) := by decide +kernel
theorem dX11_end_2 : decode cX11_end 2 = .ok (.iconst 0, 1) := by decide +kernel
theorem dX11_end_3 : decode cX11_end 3 = .ok (.istore_n 2, 1) := by decide +kernel
theorem dX11_end_4 : decode cX11_end 4 = .ok (.iload_n 2, 1) := by decide +kernel
theorem dX11_end_5 : decode cX11_end 5 = .ok (.aload_n 0, 1) := by decide +kernel
theorem dX11_end_6 : decode cX11_end 6 = .ok (.getfield 7, 3) := by decide +kernel
theorem dX11_end_9 : decode cX11_end 9 = .ok (.bipush 84, 2) := by decide +kernel
theorem dX11_end_11 : decode cX11_end 11 = .ok (.iaload, 1) := by decide +kernel
theorem dX11_end_12 : decode cX11_end 12 = .ok (.if_icmp .ge 44, 3) := by decide +kernel
theorem dX11_end_15 : decode cX11_end 15 = .ok (.aload_n 0, 1) := by decide +kernel
theorem dX11_end_16 : decode cX11_end 16 = .ok (.iload_n 2, 1) := by decide +kernel
theorem dX11_end_17 : decode cX11_end 17 = .ok (.iconst 3, 1) := by decide +kernel
theorem dX11_end_18 : decode cX11_end 18 = .ok (.invokevirtual 73, 3) := by decide +kernel
theorem dX11_end_21 : decode cX11_end 21 = .ok (.aload_n 0, 1) := by decide +kernel
theorem dX11_end_22 : decode cX11_end 22 = .ok (.aload_n 0, 1) := by decide +kernel
theorem dX11_end_23 : decode cX11_end 23 = .ok (.iload_n 2, 1) := by decide +kernel
theorem dX11_end_24 : decode cX11_end 24 = .ok (.iconst 0, 1) := by decide +kernel
theorem dX11_end_25 : decode cX11_end 25 = .ok (.invokevirtual 73, 3) := by decide +kernel
theorem dX11_end_28 : decode cX11_end 28 = .ok (.aload_n 0, 1) := by decide +kernel
theorem dX11_end_29 : decode cX11_end 29 = .ok (.iload_n 2, 1) := by decide +kernel
theorem dX11_end_30 : decode cX11_end 30 = .ok (.iconst 1, 1) := by decide +kernel
theorem dX11_end_31 : decode cX11_end 31 = .ok (.invokevirtual 73, 3) := by decide +kernel
theorem dX11_end_34 : decode cX11_end 34 = .ok (.invokevirtual 174, 3) := by decide +kernel
theorem dX11_end_37 : decode cX11_end 37 = .ok (.iadd, 1) := by decide +kernel
theorem dX11_end_38 : decode cX11_end 38 = .ok (.istore_n 3, 1) := by decide +kernel
theorem dX11_end_39 : decode cX11_end 39 = .ok (.iload_n 3, 1) := by decide +kernel
theorem dX11_end_40 : decode cX11_end 40 = .ok (.iload_n 1, 1) := by decide +kernel
theorem dX11_end_41 : decode cX11_end 41 = .ok (.if_icmp .le 7, 3) := by decide +kernel
theorem dX11_end_44 : decode cX11_end 44 = .ok (.iload_n 3, 1) := by decide +kernel
theorem dX11_end_45 : decode cX11_end 45 = .ok (.goto 4, 3) := by decide +kernel
theorem dX11_end_48 : decode cX11_end 48 = .ok (.iload_n 1, 1) := by decide +kernel
theorem dX11_end_49 : decode cX11_end 49 = .ok (.istore_n 1, 1) := by decide +kernel
theorem dX11_end_50 : decode cX11_end 50 = .ok (.iinc 2 1, 3) := by decide +kernel
theorem dX11_end_53 : decode cX11_end 53 = .ok (.goto (-49), 3) := by decide +kernel
theorem dX11_end_56 : decode cX11_end 56 = .ok (.iload_n 1, 1) := by decide +kernel
theorem dX11_end_57 : decode cX11_end 57 = .ok (.ireturn, 1) := by decide +kernel
set_option maxHeartbeats 4000000 in
set_option maxRecDepth 100000 in
theorem t_X11_end_L4 {l : Launch} {E : u_E} {K : u_K} {r : Int} {s' : u_S} (g : Wk l (XE E) { frames := 3, cells := 0, slots := 0, locals := 67 } cX11_end 4 yX11_end.cls yX11_end.name (some .int) (RI E r s') K) {v0_1 : u_O} (i_v0_1 : is_Mo v0_1) {kx56 : Int → u_S → Option (Int × u_S)} (hkx56 : ∀ (v1_3 : Int) (s_8 : u_S), InR v1_3 → kx56 v1_3 s_8 = some (r, s') → K 0 0 56 [none, some (.int (J v1_3)), none, none] [] (Wd E s_8)) : ∀ (m : Nat) (v1_2 : Int) (v2_1 : Int) (s_2 : u_S), InR v1_2 → InR v2_1 → f_X11_end_L4 m kx56 v0_1 v1_2 v2_1 s_2 = some (r, s') → K 0 0 4 [some (.ref (E.1 v0_1)), some (.int (J v1_2)), some (.int (J v2_1)), none] [] (Wd E s_2) := by
  have g0 := g.wk
  intro m
  induction m with
  | zero =>
    intro v1_2 v2_1 s_2 i_v1_2 i_v2_1 h
    exact absurd (show (none : Option (Int × u_S)) = some (r, s') from h) (by intro z; cases z)
  | succ m ih =>
    intro v1_2 v2_1 s_2 i_v1_2 i_v2_1 h
    rw [f_X11_end_L4] at h
    refine r_iload_n g0 dX11_end_4 rfl ?_
    refine r_aload_n g0 dX11_end_5 rfl ?_
    refine g_Mo_all g0 i_v0_1 qX11_7 dX11_end_6 ?_
    refine r_bipush g0 dX11_end_9 rfl ?_
    obtain ⟨hb, h⟩ := gd_some h
    refine r_iaload g0 (is_a_Mo_all i_v0_1) (n := 145) rfl (InR_lit rfl) hb dX11_end_11 ?_
    refine r_icmp_ge g0 56 dX11_end_12 (by decide) i_v2_1 (InR_rd _ _ _) (fun hc => ?_) (fun hc => ?_)
    · replace h := if_f hc h
      refine r_mask g0 (lv' := [none, some (.int (J v1_2)), none, none]) [false, true, false, false] rfl ?_
      exact hkx56 v1_2 s_2 i_v1_2 h
    · replace h := if_t hc h
      refine r_aload_n g0 dX11_end_15 rfl ?_
      refine r_iload_n g0 dX11_end_16 rfl ?_
      refine r_iconst g0 dX11_end_17 ?_
      obtain ⟨r_1, s_3, hr_1, h⟩ := bd_some h
      refine r_cVI g0 (rest := []) (c_X11_of i_v0_1 i_v2_1 (InR_lit rfl) hr_1) ok_X11_of mX11_73 (recv_Mo i_v0_1) dX11_end_18 ⟨Nat.le_of_ble_eq_true rfl, Nat.le_of_ble_eq_true rfl⟩ ⟨Nat.zero_le _, Nat.zero_le _⟩ rfl (Nat.le_of_ble_eq_true rfl) rfl (fun i_r_1 => ?_)
      refine r_aload_n g0 dX11_end_21 rfl ?_
      refine r_aload_n g0 dX11_end_22 rfl ?_
      refine r_iload_n g0 dX11_end_23 rfl ?_
      refine r_iconst g0 dX11_end_24 ?_
      obtain ⟨r_2, s_4, hr_2, h⟩ := bd_some h
      refine r_cVI g0 (rest := [.ref (E.1 v0_1), .int (J r_1)]) (c_X11_of i_v0_1 i_v2_1 (B01.inR B01_0) hr_2) ok_X11_of mX11_73 (recv_Mo i_v0_1) dX11_end_25 ⟨Nat.le_of_ble_eq_true rfl, Nat.le_of_ble_eq_true rfl⟩ ⟨Nat.zero_le _, Nat.zero_le _⟩ rfl (Nat.le_of_ble_eq_true rfl) rfl (fun i_r_2 => ?_)
      refine r_aload_n g0 dX11_end_28 rfl ?_
      refine r_iload_n g0 dX11_end_29 rfl ?_
      refine r_iconst g0 dX11_end_30 ?_
      obtain ⟨r_3, s_5, hr_3, h⟩ := bd_some h
      refine r_cVI g0 (rest := [.int (J r_2), .ref (E.1 v0_1), .int (J r_1)]) (c_X11_of i_v0_1 i_v2_1 (B01.inR B01_1) hr_3) ok_X11_of mX11_73 (recv_Mo i_v0_1) dX11_end_31 ⟨Nat.le_of_ble_eq_true rfl, Nat.le_of_ble_eq_true rfl⟩ ⟨Nat.zero_le _, Nat.zero_le _⟩ rfl (Nat.le_of_ble_eq_true rfl) rfl (fun i_r_3 => ?_)
      obtain ⟨r_4, s_6, hr_4, h⟩ := bd_some h
      refine r_cVI g0 (rest := [.int (J r_1)]) (c_X11_lasts i_v0_1 i_r_2 i_r_3 hr_4) ok_X11_lasts mX11_174 (recv_Mo i_v0_1) dX11_end_34 ⟨Nat.le_of_ble_eq_true rfl, Nat.le_of_ble_eq_true rfl⟩ ⟨Nat.zero_le _, Nat.zero_le _⟩ rfl (Nat.le_of_ble_eq_true rfl) rfl (fun i_r_4 => ?_)
      refine r_iadd g0 dX11_end_37 ?_
      refine r_istore_n g0 (lv' := [some (.ref (E.1 v0_1)), some (.int (J v1_2)), some (.int (J v2_1)), some (.int (J (wr (r_1 + r_4))))]) dX11_end_38 (by decide) rfl rfl ?_
      refine r_iload_n g0 dX11_end_39 rfl ?_
      refine r_iload_n g0 dX11_end_40 rfl ?_
      obtain ⟨jp_1, hdjp_1, h⟩ := jn_some h
      have hjp_1 : ∀ (vt_1 : Int) (s_7 : u_S), InR vt_1 → jp_1 vt_1 s_7 = some (r, s') → K 0 0 49 [some (.ref (E.1 v0_1)), none, some (.int (J v2_1)), none] [.int (J vt_1)] (Wd E s_7) := by
        intro vt_1 s_7 i_vt_1 h
        subst hdjp_1
        refine r_istore_n g0 (lv' := [some (.ref (E.1 v0_1)), some (.int (J vt_1)), some (.int (J v2_1)), none]) dX11_end_49 (by decide) rfl rfl ?_
        refine r_iinc g0 (a := v2_1) (lv' := [some (.ref (E.1 v0_1)), some (.int (J vt_1)), some (.int (J (wr (v2_1 + 1)))), none]) dX11_end_50 (by decide) rfl rfl rfl ?_
        refine r_goto g0 4 dX11_end_53 (by decide) ?_
        exact ih vt_1 (wr (v2_1 + 1)) s_7 i_vt_1 (InR_wr _) h
      clear hdjp_1
      refine r_icmp_le g0 48 dX11_end_41 (by decide) (InR_wr _) i_v1_2 (fun hc => ?_) (fun hc => ?_)
      · replace h := if_t hc h
        refine r_iload_n g0 dX11_end_48 rfl ?_
        refine r_mask g0 (lv' := [some (.ref (E.1 v0_1)), none, some (.int (J v2_1)), none]) [true, false, true, false] rfl ?_
        exact hjp_1 v1_2 s_6 i_v1_2 h
      · replace h := if_f hc h
        refine r_iload_n g0 dX11_end_44 rfl ?_
        refine r_goto g0 49 dX11_end_45 (by decide) ?_
        refine r_mask g0 (lv' := [some (.ref (E.1 v0_1)), none, some (.int (J v2_1)), none]) [true, false, true, false] rfl ?_
        exact hjp_1 (wr (r_1 + r_4)) s_6 (InR_wr _) h
set_option maxHeartbeats 4000000 in
set_option maxRecDepth 100000 in
theorem c_X11_end {E : u_E} {l : Launch} {o : u_O} (ho : is_Mo o) {s s' : u_S} {r : Int} (h : f_X11_end o s = some (r, s')) : Con l (XE E) yX11_end cX11_end 4 (some .int) 3 67 0 0 [.ref (E.1 o)] (Wd E s) (RI E r s') := by
  refine Con.of [some (.ref (E.1 o)), none, none, none] (by decide +kernel) rfl rfl (Nat.le_of_ble_eq_true rfl) (fun K g => ?_)
  have g0 := g.wk
  unfold f_X11_end at h
  refine r_iconst g0 dX11_end_0 ?_
  refine r_istore_n g0 (lv' := [some (.ref (E.1 o)), some (.int (J 0)), none, none]) dX11_end_1 (by decide) rfl rfl ?_
  refine r_iconst g0 dX11_end_2 ?_
  refine r_istore_n g0 (lv' := [some (.ref (E.1 o)), some (.int (J 0)), some (.int (J 0)), none]) dX11_end_3 (by decide) rfl rfl ?_
  refine t_X11_end_L4 g ho ?_ FU 0 0 s (B01.inR B01_0) (B01.inR B01_0) h
  · intro v1_1 s_1 i_v1_1 h
    refine r_iload_n g0 dX11_end_56 rfl ?_
    exact z_I g dX11_end_57 i_v1_1 h
theorem dX11_most_0 : decode cX11_most 0 = .ok (.iconst 0, 1) := by decide +kernel
theorem dX11_most_1 : decode cX11_most 1 = .ok (.istore_n 1, 1) := by decide +kernel
theorem dX11_most_2 : decode cX11_most 2 = .ok (.iconst 0, 1) := by decide +kernel
theorem dX11_most_3 : decode cX11_most 3 = .ok (.istore_n 2, 1) := by decide +kernel
theorem dX11_most_4 : decode cX11_most 4 = .ok (.iload_n 2, 1) := by decide +kernel
theorem dX11_most_5 : decode cX11_most 5 = .ok (.aload_n 0, 1) := by decide +kernel
theorem dX11_most_6 : decode cX11_most 6 = .ok (.invokevirtual 213, 3) := by decide +kernel
theorem dX11_most_9 : decode cX11_most 9 = .ok (.if_icmp .ge 92, 3) := by decide +kernel
theorem dX11_most_12 : decode cX11_most 12 = .ok (.iconst 0, 1) := by decide +kernel
theorem dX11_most_13 : decode cX11_most 13 = .ok (.istore_n 3, 1) := by decide +kernel
theorem dX11_most_14 : decode cX11_most 14 = .ok (.iconst 0, 1) := by decide +kernel
theorem dX11_most_15 : decode cX11_most 15 = .ok (.istore 4, 2) := by decide +kernel
theorem dX11_most_17 : decode cX11_most 17 = .ok (.iload 4, 2) := by decide +kernel
theorem dX11_most_19 : decode cX11_most 19 = .ok (.aload_n 0, 1) := by decide +kernel
theorem dX11_most_20 : decode cX11_most 20 = .ok (.getfield 7, 3) := by decide +kernel
theorem dX11_most_23 : decode cX11_most 23 = .ok (.bipush 84, 2) := by decide +kernel
theorem dX11_most_25 : decode cX11_most 25 = .ok (.iaload, 1) := by decide +kernel
theorem dX11_most_26 : decode cX11_most 26 = .ok (.if_icmp .ge 58, 3) := by decide +kernel
theorem dX11_most_29 : decode cX11_most 29 = .ok (.iload_n 3, 1) := by decide +kernel
theorem dX11_most_30 : decode cX11_most 30 = .ok (.iload_n 2, 1) := by decide +kernel
theorem dX11_most_31 : decode cX11_most 31 = .ok (.aload_n 0, 1) := by decide +kernel
theorem dX11_most_32 : decode cX11_most 32 = .ok (.iload 4, 2) := by decide +kernel
theorem dX11_most_34 : decode cX11_most 34 = .ok (.iconst 3, 1) := by decide +kernel
theorem dX11_most_35 : decode cX11_most 35 = .ok (.invokevirtual 73, 3) := by decide +kernel
theorem dX11_most_38 : decode cX11_most 38 = .ok (.if_icmp .lt 37, 3) := by decide +kernel
theorem dX11_most_41 : decode cX11_most 41 = .ok (.iload_n 2, 1) := by decide +kernel
theorem dX11_most_42 : decode cX11_most 42 = .ok (.aload_n 0, 1) := by decide +kernel
theorem dX11_most_43 : decode cX11_most 43 = .ok (.iload 4, 2) := by decide +kernel
theorem dX11_most_45 : decode cX11_most 45 = .ok (.iconst 3, 1) := by decide +kernel
theorem dX11_most_46 : decode cX11_most 46 = .ok (.invokevirtual 73, 3) := by decide +kernel
theorem dX11_most_49 : decode cX11_most 49 = .ok (.aload_n 0, 1) := by decide +kernel
theorem dX11_most_50 : decode cX11_most 50 = .ok (.aload_n 0, 1) := by decide +kernel
theorem dX11_most_51 : decode cX11_most 51 = .ok (.iload 4, 2) := by decide +kernel
theorem dX11_most_53 : decode cX11_most 53 = .ok (.iconst 0, 1) := by decide +kernel
theorem dX11_most_54 : decode cX11_most 54 = .ok (.invokevirtual 73, 3) := by decide +kernel
theorem dX11_most_57 : decode cX11_most 57 = .ok (.aload_n 0, 1) := by decide +kernel
theorem dX11_most_58 : decode cX11_most 58 = .ok (.iload 4, 2) := by decide +kernel
theorem dX11_most_60 : decode cX11_most 60 = .ok (.iconst 1, 1) := by decide +kernel
theorem dX11_most_61 : decode cX11_most 61 = .ok (.invokevirtual 73, 3) := by decide +kernel
theorem dX11_most_64 : decode cX11_most 64 = .ok (.invokevirtual 174, 3) := by decide +kernel
theorem dX11_most_67 : decode cX11_most 67 = .ok (.iadd, 1) := by decide +kernel
theorem dX11_most_68 : decode cX11_most 68 = .ok (.if_icmp .ge 7, 3) := by decide +kernel
theorem dX11_most_71 : decode cX11_most 71 = .ok (.iconst 1, 1) := by decide +kernel
theorem dX11_most_72 : decode cX11_most 72 = .ok (.goto 4, 3) := by decide +kernel
theorem dX11_most_75 : decode cX11_most 75 = .ok (.iconst 0, 1) := by decide +kernel
theorem dX11_most_76 : decode cX11_most 76 = .ok (.iadd, 1) := by decide +kernel
theorem dX11_most_77 : decode cX11_most 77 = .ok (.istore_n 3, 1) := by decide +kernel
theorem dX11_most_78 : decode cX11_most 78 = .ok (.iinc 4 1, 3) := by decide +kernel
theorem dX11_most_81 : decode cX11_most 81 = .ok (.goto (-64), 3) := by decide +kernel
theorem dX11_most_84 : decode cX11_most 84 = .ok (.iload_n 3, 1) := by decide +kernel
theorem dX11_most_85 : decode cX11_most 85 = .ok (.iload_n 1, 1) := by decide +kernel
theorem dX11_most_86 : decode cX11_most 86 = .ok (.if_icmp .le 7, 3) := by decide +kernel
theorem dX11_most_89 : decode cX11_most 89 = .ok (.iload_n 3, 1) := by decide +kernel
theorem dX11_most_90 : decode cX11_most 90 = .ok (.goto 4, 3) := by decide +kernel
theorem dX11_most_93 : decode cX11_most 93 = .ok (.iload_n 1, 1) := by decide +kernel
theorem dX11_most_94 : decode cX11_most 94 = .ok (.istore_n 1, 1) := by decide +kernel
theorem dX11_most_95 : decode cX11_most 95 = .ok (.iinc 2 1, 3) := by decide +kernel
theorem dX11_most_98 : decode cX11_most 98 = .ok (.goto (-94), 3) := by decide +kernel
theorem dX11_most_101 : decode cX11_most 101 = .ok (.iload_n 1, 1) := by decide +kernel
theorem dX11_most_102 : decode cX11_most 102 = .ok (.ireturn, 1) := by decide +kernel
set_option maxHeartbeats 4000000 in
set_option maxRecDepth 100000 in
theorem t_X11_most_L17 {l : Launch} {E : u_E} {K : u_K} {r : Int} {s' : u_S} (g : Wk l (XE E) { frames := 4, cells := 0, slots := 0, locals := 90 } cX11_most 5 yX11_most.cls yX11_most.name (some .int) (RI E r s') K) {v0_2 : u_O} {v1_3 : Int} {v2_2 : Int} (i_v0_2 : is_Mo v0_2) (i_v1_3 : InR v1_3) (i_v2_2 : InR v2_2) {kx84 : Int → u_S → Option (Int × u_S)} (hkx84 : ∀ (v3_3 : Int) (s_14 : u_S), InR v3_3 → kx84 v3_3 s_14 = some (r, s') → K 0 0 84 [some (.ref (E.1 v0_2)), some (.int (J v1_3)), some (.int (J v2_2)), some (.int (J v3_3)), none] [] (Wd E s_14)) : ∀ (m : Nat) (v3_2 : Int) (v4_1 : Int) (s_6 : u_S), InR v3_2 → InR v4_1 → f_X11_most_L17 m kx84 v0_2 v1_3 v2_2 v3_2 v4_1 s_6 = some (r, s') → K 0 0 17 [some (.ref (E.1 v0_2)), some (.int (J v1_3)), some (.int (J v2_2)), some (.int (J v3_2)), some (.int (J v4_1))] [] (Wd E s_6) := by
  have g0 := g.wk
  intro m
  induction m with
  | zero =>
    intro v3_2 v4_1 s_6 i_v3_2 i_v4_1 h
    exact absurd (show (none : Option (Int × u_S)) = some (r, s') from h) (by intro z; cases z)
  | succ m ih =>
    intro v3_2 v4_1 s_6 i_v3_2 i_v4_1 h
    rw [f_X11_most_L17] at h
    refine r_iload g0 dX11_most_17 rfl ?_
    refine r_aload_n g0 dX11_most_19 rfl ?_
    refine g_Mo_all g0 i_v0_2 qX11_7 dX11_most_20 ?_
    refine r_bipush g0 dX11_most_23 rfl ?_
    obtain ⟨hb, h⟩ := gd_some h
    refine r_iaload g0 (is_a_Mo_all i_v0_2) (n := 145) rfl (InR_lit rfl) hb dX11_most_25 ?_
    refine r_icmp_ge g0 84 dX11_most_26 (by decide) i_v4_1 (InR_rd _ _ _) (fun hc => ?_) (fun hc => ?_)
    · replace h := if_f hc h
      refine r_mask g0 (lv' := [some (.ref (E.1 v0_2)), some (.int (J v1_3)), some (.int (J v2_2)), some (.int (J v3_2)), none]) [true, true, true, true, false] rfl ?_
      exact hkx84 v3_2 s_6 i_v3_2 h
    · replace h := if_t hc h
      refine r_iload_n g0 dX11_most_29 rfl ?_
      refine r_iload_n g0 dX11_most_30 rfl ?_
      refine r_aload_n g0 dX11_most_31 rfl ?_
      refine r_iload g0 dX11_most_32 rfl ?_
      refine r_iconst g0 dX11_most_34 ?_
      obtain ⟨r_2, s_7, hr_2, h⟩ := bd_some h
      refine r_cVI g0 (rest := [.int (J v2_2), .int (J v3_2)]) (c_X11_of i_v0_2 i_v4_1 (InR_lit rfl) hr_2) ok_X11_of mX11_73 (recv_Mo i_v0_2) dX11_most_35 ⟨Nat.le_of_ble_eq_true rfl, Nat.le_of_ble_eq_true rfl⟩ ⟨Nat.zero_le _, Nat.zero_le _⟩ rfl (Nat.le_of_ble_eq_true rfl) rfl (fun i_r_2 => ?_)
      obtain ⟨jp_2, hdjp_2, h⟩ := jn_some h
      have hjp_2 : ∀ (vt_2 : Int) (vt_3 : Int) (s_8 : u_S), InR vt_2 → B01 vt_3 → jp_2 vt_2 vt_3 s_8 = some (r, s') → K 0 0 76 [some (.ref (E.1 v0_2)), some (.int (J v1_3)), some (.int (J v2_2)), none, some (.int (J v4_1))] [.int (J vt_3), .int (J vt_2)] (Wd E s_8) := by
        intro vt_2 vt_3 s_8 i_vt_2 i_vt_3 h
        subst hdjp_2
        refine r_iadd g0 dX11_most_76 ?_
        refine r_istore_n g0 (lv' := [some (.ref (E.1 v0_2)), some (.int (J v1_3)), some (.int (J v2_2)), some (.int (J (wr (vt_2 + vt_3)))), some (.int (J v4_1))]) dX11_most_77 (by decide) rfl rfl ?_
        refine r_iinc g0 (a := v4_1) (lv' := [some (.ref (E.1 v0_2)), some (.int (J v1_3)), some (.int (J v2_2)), some (.int (J (wr (vt_2 + vt_3)))), some (.int (J (wr (v4_1 + 1))))]) dX11_most_78 (by decide) rfl rfl rfl ?_
        refine r_goto g0 17 dX11_most_81 (by decide) ?_
        exact ih (wr (vt_2 + vt_3)) (wr (v4_1 + 1)) s_8 (InR_wr _) (InR_wr _) h
      clear hdjp_2
      obtain ⟨jp_3, hdjp_3, h⟩ := jn_some h
      have hjp_3 : ∀ (vt_4 : Int) (s_9 : u_S), InR vt_4 → jp_3 vt_4 s_9 = some (r, s') → K 0 0 75 [some (.ref (E.1 v0_2)), some (.int (J v1_3)), some (.int (J v2_2)), none, some (.int (J v4_1))] [.int (J vt_4)] (Wd E s_9) := by
        intro vt_4 s_9 i_vt_4 h
        subst hdjp_3
        refine r_iconst g0 dX11_most_75 ?_
        exact hjp_2 vt_4 0 s_9 i_vt_4 B01_0 h
      clear hdjp_3
      refine r_icmp_lt g0 75 dX11_most_38 (by decide) i_v2_2 i_r_2 (fun hc => ?_) (fun hc => ?_)
      · replace h := if_t hc h
        refine r_mask g0 (lv' := [some (.ref (E.1 v0_2)), some (.int (J v1_3)), some (.int (J v2_2)), none, some (.int (J v4_1))]) [true, true, true, false, true] rfl ?_
        exact hjp_3 v3_2 s_7 i_v3_2 h
      · replace h := if_f hc h
        refine r_iload_n g0 dX11_most_41 rfl ?_
        refine r_aload_n g0 dX11_most_42 rfl ?_
        refine r_iload g0 dX11_most_43 rfl ?_
        refine r_iconst g0 dX11_most_45 ?_
        obtain ⟨r_3, s_10, hr_3, h⟩ := bd_some h
        refine r_cVI g0 (rest := [.int (J v2_2), .int (J v3_2)]) (c_X11_of i_v0_2 i_v4_1 (InR_lit rfl) hr_3) ok_X11_of mX11_73 (recv_Mo i_v0_2) dX11_most_46 ⟨Nat.le_of_ble_eq_true rfl, Nat.le_of_ble_eq_true rfl⟩ ⟨Nat.zero_le _, Nat.zero_le _⟩ rfl (Nat.le_of_ble_eq_true rfl) rfl (fun i_r_3 => ?_)
        refine r_aload_n g0 dX11_most_49 rfl ?_
        refine r_aload_n g0 dX11_most_50 rfl ?_
        refine r_iload g0 dX11_most_51 rfl ?_
        refine r_iconst g0 dX11_most_53 ?_
        obtain ⟨r_4, s_11, hr_4, h⟩ := bd_some h
        refine r_cVI g0 (rest := [.ref (E.1 v0_2), .int (J r_3), .int (J v2_2), .int (J v3_2)]) (c_X11_of i_v0_2 i_v4_1 (B01.inR B01_0) hr_4) ok_X11_of mX11_73 (recv_Mo i_v0_2) dX11_most_54 ⟨Nat.le_of_ble_eq_true rfl, Nat.le_of_ble_eq_true rfl⟩ ⟨Nat.zero_le _, Nat.zero_le _⟩ rfl (Nat.le_of_ble_eq_true rfl) rfl (fun i_r_4 => ?_)
        refine r_aload_n g0 dX11_most_57 rfl ?_
        refine r_iload g0 dX11_most_58 rfl ?_
        refine r_iconst g0 dX11_most_60 ?_
        obtain ⟨r_5, s_12, hr_5, h⟩ := bd_some h
        refine r_cVI g0 (rest := [.int (J r_4), .ref (E.1 v0_2), .int (J r_3), .int (J v2_2), .int (J v3_2)]) (c_X11_of i_v0_2 i_v4_1 (B01.inR B01_1) hr_5) ok_X11_of mX11_73 (recv_Mo i_v0_2) dX11_most_61 ⟨Nat.le_of_ble_eq_true rfl, Nat.le_of_ble_eq_true rfl⟩ ⟨Nat.zero_le _, Nat.zero_le _⟩ rfl (Nat.le_of_ble_eq_true rfl) rfl (fun i_r_5 => ?_)
        obtain ⟨r_6, s_13, hr_6, h⟩ := bd_some h
        refine r_cVI g0 (rest := [.int (J r_3), .int (J v2_2), .int (J v3_2)]) (c_X11_lasts i_v0_2 i_r_4 i_r_5 hr_6) ok_X11_lasts mX11_174 (recv_Mo i_v0_2) dX11_most_64 ⟨Nat.le_of_ble_eq_true rfl, Nat.le_of_ble_eq_true rfl⟩ ⟨Nat.zero_le _, Nat.zero_le _⟩ rfl (Nat.le_of_ble_eq_true rfl) rfl (fun i_r_6 => ?_)
        refine r_iadd g0 dX11_most_67 ?_
        refine r_icmp_ge g0 75 dX11_most_68 (by decide) i_v2_2 (InR_wr _) (fun hc => ?_) (fun hc => ?_)
        · replace h := if_f hc h
          refine r_mask g0 (lv' := [some (.ref (E.1 v0_2)), some (.int (J v1_3)), some (.int (J v2_2)), none, some (.int (J v4_1))]) [true, true, true, false, true] rfl ?_
          exact hjp_3 v3_2 s_13 i_v3_2 h
        · replace h := if_t hc h
          refine r_iconst g0 dX11_most_71 ?_
          refine r_goto g0 76 dX11_most_72 (by decide) ?_
          refine r_mask g0 (lv' := [some (.ref (E.1 v0_2)), some (.int (J v1_3)), some (.int (J v2_2)), none, some (.int (J v4_1))]) [true, true, true, false, true] rfl ?_
          exact hjp_2 v3_2 1 s_13 i_v3_2 B01_1 h
set_option maxHeartbeats 4000000 in
set_option maxRecDepth 100000 in
theorem t_X11_most_L4 {l : Launch} {E : u_E} {K : u_K} {r : Int} {s' : u_S} (g : Wk l (XE E) { frames := 4, cells := 0, slots := 0, locals := 90 } cX11_most 5 yX11_most.cls yX11_most.name (some .int) (RI E r s') K) {v0_1 : u_O} (i_v0_1 : is_Mo v0_1) {kx101 : Int → u_S → Option (Int × u_S)} (hkx101 : ∀ (v1_4 : Int) (s_15 : u_S), InR v1_4 → kx101 v1_4 s_15 = some (r, s') → K 0 0 101 [none, some (.int (J v1_4)), none, none, none] [] (Wd E s_15)) : ∀ (m : Nat) (v1_2 : Int) (v2_1 : Int) (s_2 : u_S), InR v1_2 → InR v2_1 → f_X11_most_L4 m kx101 v0_1 v1_2 v2_1 s_2 = some (r, s') → K 0 0 4 [some (.ref (E.1 v0_1)), some (.int (J v1_2)), some (.int (J v2_1)), none, none] [] (Wd E s_2) := by
  have g0 := g.wk
  intro m
  induction m with
  | zero =>
    intro v1_2 v2_1 s_2 i_v1_2 i_v2_1 h
    exact absurd (show (none : Option (Int × u_S)) = some (r, s') from h) (by intro z; cases z)
  | succ m ih =>
    intro v1_2 v2_1 s_2 i_v1_2 i_v2_1 h
    rw [f_X11_most_L4] at h
    refine r_iload_n g0 dX11_most_4 rfl ?_
    refine r_aload_n g0 dX11_most_5 rfl ?_
    obtain ⟨r_1, s_3, hr_1, h⟩ := bd_some h
    refine r_cVI g0 (rest := [.int (J v2_1)]) (c_X11_end i_v0_1 hr_1) ok_X11_end mX11_213 (recv_Mo i_v0_1) dX11_most_6 ⟨Nat.le_of_ble_eq_true rfl, Nat.le_of_ble_eq_true rfl⟩ ⟨Nat.zero_le _, Nat.zero_le _⟩ rfl (Nat.le_of_ble_eq_true rfl) rfl (fun i_r_1 => ?_)
    refine r_icmp_ge g0 101 dX11_most_9 (by decide) i_v2_1 i_r_1 (fun hc => ?_) (fun hc => ?_)
    · replace h := if_f hc h
      refine r_mask g0 (lv' := [none, some (.int (J v1_2)), none, none, none]) [false, true, false, false, false] rfl ?_
      exact hkx101 v1_2 s_3 i_v1_2 h
    · replace h := if_t hc h
      refine r_iconst g0 dX11_most_12 ?_
      refine r_istore_n g0 (lv' := [some (.ref (E.1 v0_1)), some (.int (J v1_2)), some (.int (J v2_1)), some (.int (J 0)), none]) dX11_most_13 (by decide) rfl rfl ?_
      refine r_iconst g0 dX11_most_14 ?_
      refine r_istore g0 (lv' := [some (.ref (E.1 v0_1)), some (.int (J v1_2)), some (.int (J v2_1)), some (.int (J 0)), some (.int (J 0))]) dX11_most_15 (by decide) rfl rfl ?_
      refine t_X11_most_L17 g i_v0_1 i_v1_2 i_v2_1 ?_ FU 0 0 s_3 (B01.inR B01_0) (B01.inR B01_0) h
      · intro v3_1 s_4 i_v3_1 h
        refine r_iload_n g0 dX11_most_84 rfl ?_
        refine r_iload_n g0 dX11_most_85 rfl ?_
        obtain ⟨jp_1, hdjp_1, h⟩ := jn_some h
        have hjp_1 : ∀ (vt_1 : Int) (s_5 : u_S), InR vt_1 → jp_1 vt_1 s_5 = some (r, s') → K 0 0 94 [some (.ref (E.1 v0_1)), none, some (.int (J v2_1)), none, none] [.int (J vt_1)] (Wd E s_5) := by
          intro vt_1 s_5 i_vt_1 h
          subst hdjp_1
          refine r_istore_n g0 (lv' := [some (.ref (E.1 v0_1)), some (.int (J vt_1)), some (.int (J v2_1)), none, none]) dX11_most_94 (by decide) rfl rfl ?_
          refine r_iinc g0 (a := v2_1) (lv' := [some (.ref (E.1 v0_1)), some (.int (J vt_1)), some (.int (J (wr (v2_1 + 1)))), none, none]) dX11_most_95 (by decide) rfl rfl rfl ?_
          refine r_goto g0 4 dX11_most_98 (by decide) ?_
          exact ih vt_1 (wr (v2_1 + 1)) s_5 i_vt_1 (InR_wr _) h
        clear hdjp_1
        refine r_icmp_le g0 93 dX11_most_86 (by decide) i_v3_1 i_v1_2 (fun hc => ?_) (fun hc => ?_)
        · replace h := if_t hc h
          refine r_iload_n g0 dX11_most_93 rfl ?_
          refine r_mask g0 (lv' := [some (.ref (E.1 v0_1)), none, some (.int (J v2_1)), none, none]) [true, false, true, false, false] rfl ?_
          exact hjp_1 v1_2 s_4 i_v1_2 h
        · replace h := if_f hc h
          refine r_iload_n g0 dX11_most_89 rfl ?_
          refine r_goto g0 94 dX11_most_90 (by decide) ?_
          refine r_mask g0 (lv' := [some (.ref (E.1 v0_1)), none, some (.int (J v2_1)), none, none]) [true, false, true, false, false] rfl ?_
          exact hjp_1 v3_1 s_4 i_v3_1 h
set_option maxHeartbeats 4000000 in
set_option maxRecDepth 100000 in
theorem c_X11_most {E : u_E} {l : Launch} {o : u_O} (ho : is_Mo o) {s s' : u_S} {r : Int} (h : f_X11_most o s = some (r, s')) : Con l (XE E) yX11_most cX11_most 5 (some .int) 4 90 0 0 [.ref (E.1 o)] (Wd E s) (RI E r s') := by
  refine Con.of [some (.ref (E.1 o)), none, none, none, none] (by decide +kernel) rfl rfl (Nat.le_of_ble_eq_true rfl) (fun K g => ?_)
  have g0 := g.wk
  unfold f_X11_most at h
  refine r_iconst g0 dX11_most_0 ?_
  refine r_istore_n g0 (lv' := [some (.ref (E.1 o)), some (.int (J 0)), none, none, none]) dX11_most_1 (by decide) rfl rfl ?_
  refine r_iconst g0 dX11_most_2 ?_
  refine r_istore_n g0 (lv' := [some (.ref (E.1 o)), some (.int (J 0)), some (.int (J 0)), none, none]) dX11_most_3 (by decide) rfl rfl ?_
  refine t_X11_most_L4 g ho ?_ FU 0 0 s (B01.inR B01_0) (B01.inR B01_0) h
  · intro v1_1 s_1 i_v1_1 h
    refine r_iload_n g0 dX11_most_101 rfl ?_
    exact z_I g dX11_most_102 i_v1_1 h
