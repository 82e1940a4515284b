/-! THE CONTRACTS: the bytecode does what the functions say (by program, wip/whole/gen) -/
theorem dX6_copyFrom_0 : decode cX6_copyFrom 0 = .ok (.iconst 0, 1) := by decide +kernel
theorem dX6_copyFrom_1 : decode cX6_copyFrom 1 = .ok (.istore_n 2, 1) := by decide +kernel
theorem dX6_copyFrom_2 : decode cX6_copyFrom 2 = .ok (.iload_n 2, 1) := by decide +kernel
theorem dX6_copyFrom_3 : decode cX6_copyFrom 3 = .ok (.iconst 4, 1) := by decide +kernel
theorem dX6_copyFrom_4 : decode cX6_copyFrom 4 = .ok (.if_icmp .ge 24, 3) := by decide +kernel
theorem dX6_copyFrom_7 : decode cX6_copyFrom 7 = .ok (.aload_n 0, 1) := by decide +kernel
theorem dX6_copyFrom_8 : decode cX6_copyFrom 8 = .ok (.getfield 11, 3) := by decide +kernel
theorem dX6_copyFrom_11 : decode cX6_copyFrom 11 = .ok (.iload_n 2, 1) := by decide +kernel
theorem dX6_copyFrom_12 : decode cX6_copyFrom 12 = .ok (.aaload, 1) := by decide +kernel
theorem dX6_copyFrom_13 : decode cX6_copyFrom 13 = .ok (.aload_n 1, 1) := by decide +kernel
theorem dX6_copyFrom_14 : decode cX6_copyFrom 14 = .ok (.getfield 11, 3) := by decide +kernel
theorem dX6_copyFrom_17 : decode cX6_copyFrom 17 = .ok (.iload_n 2, 1) := by decide +kernel
theorem dX6_copyFrom_18 : decode cX6_copyFrom 18 = .ok (.aaload, 1) := by decide +kernel
theorem dX6_copyFrom_19 : decode cX6_copyFrom 19 = .ok (.invokevirtual 36, 3) := by decide +kernel
theorem dX6_copyFrom_22 : decode cX6_copyFrom 22 = .ok (.iinc 2 1, 3) := by decide +kernel
theorem dX6_copyFrom_25 : decode cX6_copyFrom 25 = .ok (.goto (-23), 3) := by decide +kernel
theorem dX6_copyFrom_28 : decode cX6_copyFrom 28 = .ok (.aload_n 0, 1) := by decide +kernel
theorem dX6_copyFrom_29 : decode cX6_copyFrom 29 = .ok (.getfield 20, 3) := by decide +kernel
theorem dX6_copyFrom_32 : decode cX6_copyFrom 32 = .ok (.aload_n 1, 1) := by decide +kernel
theorem dX6_copyFrom_33 : decode cX6_copyFrom 33 = .ok (.getfield 20, 3) := by decide +kernel
theorem dX6_copyFrom_36 : decode cX6_copyFrom 36 = .ok (.invokevirtual 40, 3) := by decide +kernel
theorem dX6_copyFrom_39 : decode cX6_copyFrom 39 = .ok (.iconst 0, 1) := by decide +kernel
theorem dX6_copyFrom_40 : decode cX6_copyFrom 40 = .ok (.istore_n 2, 1) := by decide +kernel
theorem dX6_copyFrom_41 : decode cX6_copyFrom 41 = .ok (.iload_n 2, 1) := by decide +kernel
theorem dX6_copyFrom_42 : decode cX6_copyFrom 42 = .ok (.iconst 5, 1) := by decide +kernel
theorem dX6_copyFrom_43 : decode cX6_copyFrom 43 = .ok (.if_icmp .ge 21, 3) := by decide +kernel
theorem dX6_copyFrom_46 : decode cX6_copyFrom 46 = .ok (.aload_n 0, 1) := by decide +kernel
theorem dX6_copyFrom_47 : decode cX6_copyFrom 47 = .ok (.getfield 24, 3) := by decide +kernel
theorem dX6_copyFrom_50 : decode cX6_copyFrom 50 = .ok (.iload_n 2, 1) := by decide +kernel
theorem dX6_copyFrom_51 : decode cX6_copyFrom 51 = .ok (.aload_n 1, 1) := by decide +kernel
theorem dX6_copyFrom_52 : decode cX6_copyFrom 52 = .ok (.getfield 24, 3) := by decide +kernel
theorem dX6_copyFrom_55 : decode cX6_copyFrom 55 = .ok (.iload_n 2, 1) := by decide +kernel
theorem dX6_copyFrom_56 : decode cX6_copyFrom 56 = .ok (.iaload, 1) := by decide +kernel
theorem dX6_copyFrom_57 : decode cX6_copyFrom 57 = .ok (.iastore, 1) := by decide +kernel
theorem dX6_copyFrom_58 : decode cX6_copyFrom 58 = .ok (.iinc 2 1, 3) := by decide +kernel
theorem dX6_copyFrom_61 : decode cX6_copyFrom 61 = .ok (.goto (-20), 3) := by decide +kernel
theorem dX6_copyFrom_64 : decode cX6_copyFrom 64 = .ok (.aload_n 0, 1) := by decide +kernel
theorem dX6_copyFrom_65 : decode cX6_copyFrom 65 = .ok (.aload_n 1, 1) := by decide +kernel
theorem dX6_copyFrom_66 : decode cX6_copyFrom 66 = .ok (.getfield 43, 3) := by decide +kernel
theorem dX6_copyFrom_69 : decode cX6_copyFrom 69 = .ok (.putfield 43, 3) := by decide +kernel
theorem dX6_copyFrom_72 : decode cX6_copyFrom 72 = .ok (.aload_n 0, 1) := by decide +kernel
theorem dX6_copyFrom_73 : decode cX6_copyFrom 73 = .ok (.aload_n 1, 1) := by decide +kernel
theorem dX6_copyFrom_74 : decode cX6_copyFrom 74 = .ok (.getfield 28, 3) := by decide +kernel
theorem dX6_copyFrom_77 : decode cX6_copyFrom 77 = .ok (.putfield 28, 3) := by decide +kernel
theorem dX6_copyFrom_80 : decode cX6_copyFrom 80 = .ok (.aload_n 0, 1) := by decide +kernel
theorem dX6_copyFrom_81 : decode cX6_copyFrom 81 = .ok (.aload_n 1, 1) := by decide +kernel
theorem dX6_copyFrom_82 : decode cX6_copyFrom 82 = .ok (.getfield 46, 3) := by decide +kernel
theorem dX6_copyFrom_85 : decode cX6_copyFrom 85 = .ok (.putfield 46, 3) := by decide +kernel
theorem dX6_copyFrom_88 : decode cX6_copyFrom 88 = .ok (.aload_n 0, 1) := by decide +kernel
theorem dX6_copyFrom_89 : decode cX6_copyFrom 89 = .ok (.aload_n 1, 1) := by decide +kernel
theorem dX6_copyFrom_90 : decode cX6_copyFrom 90 = .ok (.getfield 32, 3) := by decide +kernel
theorem dX6_copyFrom_93 : decode cX6_copyFrom 93 = .ok (.putfield 32, 3) := by decide +kernel
theorem dX6_copyFrom_96 : decode cX6_copyFrom 96 = .ok (.aload_n 0, 1) := by decide +kernel
theorem dX6_copyFrom_97 : decode cX6_copyFrom 97 = .ok (.aload_n 1, 1) := by decide +kernel
theorem dX6_copyFrom_98 : decode cX6_copyFrom 98 = .ok (.getfield 49, 3) := by decide +kernel
theorem dX6_copyFrom_101 : decode cX6_copyFrom 101 = .ok (.putfield 49, 3) := by decide +kernel
theorem dX6_copyFrom_104 : decode cX6_copyFrom 104 = .ok (.return_, 1) := by decide +kernel
set_option maxHeartbeats 4000000 in
set_option maxRecDepth 100000 in
theorem t_X6_copyFrom_L41 {l : Launch} {E : u_E} {K : u_K} {r : Int} {s' : u_S} (g : Wk l (XE E) { frames := 3, cells := 0, slots := 0, locals := 68 } cX6_copyFrom 3 yX6_copyFrom.cls yX6_copyFrom.name none (RV E r s') K) {v0_1 : u_O} {v1_1 : u_O} (i_v0_1 : is_Plan v0_1) (i_v1_1 : is_Plan v1_1) {kx64 : u_S → Option (Int × u_S)} (hkx64 : ∀ (s_5 : u_S), kx64 s_5 = some (r, s') → K 0 0 64 [some (.ref (E.1 v0_1)), some (.ref (E.1 v1_1)), none] [] (Wd E s_5)) : ∀ (m : Nat) (v2_1 : Int) (s_4 : u_S), InR v2_1 → f_X6_copyFrom_L41 m kx64 v0_1 v1_1 v2_1 s_4 = some (r, s') → K 0 0 41 [some (.ref (E.1 v0_1)), some (.ref (E.1 v1_1)), some (.int (J v2_1))] [] (Wd E s_4) := by
  have g0 := g.wk
  intro m
  induction m with
  | zero =>
    intro v2_1 s_4 i_v2_1 h
    exact absurd (show (none : Option (Int × u_S)) = some (r, s') from h) (by intro z; cases z)
  | succ m ih =>
    intro v2_1 s_4 i_v2_1 h
    rw [f_X6_copyFrom_L41] at h
    refine r_iload_n g0 dX6_copyFrom_41 rfl ?_
    refine r_iconst g0 dX6_copyFrom_42 ?_
    refine r_icmp_ge g0 64 dX6_copyFrom_43 (by decide) i_v2_1 (InR_lit rfl) (fun hc => ?_) (fun hc => ?_)
    · replace h := if_f hc h
      refine r_mask g0 (lv' := [some (.ref (E.1 v0_1)), some (.ref (E.1 v1_1)), none]) [true, true, false] rfl ?_
      exact hkx64 s_4 h
    · replace h := if_t hc h
      refine r_aload_n g0 dX6_copyFrom_46 rfl ?_
      refine g_Plan_toVisit g0 i_v0_1 qX6_24 dX6_copyFrom_47 ?_
      refine r_iload_n g0 dX6_copyFrom_50 rfl ?_
      refine r_aload_n g0 dX6_copyFrom_51 rfl ?_
      refine g_Plan_toVisit g0 i_v1_1 qX6_24 dX6_copyFrom_52 ?_
      refine r_iload_n g0 dX6_copyFrom_55 rfl ?_
      obtain ⟨hb, h⟩ := gd_some h
      refine r_iaload g0 (is_a_Plan_toVisit i_v1_1) (n := 5) rfl i_v2_1 hb dX6_copyFrom_56 ?_
      obtain ⟨hb, h⟩ := gd_some h
      refine r_iastore g0 (is_a_Plan_toVisit i_v0_1) (n := 5) rfl i_v2_1 hb dX6_copyFrom_57 ?_
      refine r_iinc g0 (a := v2_1) (lv' := [some (.ref (E.1 v0_1)), some (.ref (E.1 v1_1)), some (.int (J (wr (v2_1 + 1))))]) dX6_copyFrom_58 (by decide) rfl rfl rfl ?_
      refine r_goto g0 41 dX6_copyFrom_61 (by decide) ?_
      exact ih (wr (v2_1 + 1)) (wt s_4 (a_Plan_toVisit v0_1) v2_1 (rd s_4 (a_Plan_toVisit v1_1) v2_1)) (InR_wr _) h
set_option maxHeartbeats 4000000 in
set_option maxRecDepth 100000 in
theorem t_X6_copyFrom_L2 {l : Launch} {E : u_E} {K : u_K} {r : Int} {s' : u_S} (g : Wk l (XE E) { frames := 3, cells := 0, slots := 0, locals := 68 } cX6_copyFrom 3 yX6_copyFrom.cls yX6_copyFrom.name none (RV E r s') K) {v0_2 : u_O} {v1_2 : u_O} (i_v0_2 : is_Plan v0_2) (i_v1_2 : is_Plan v1_2) {kx28 : u_S → Option (Int × u_S)} (hkx28 : ∀ (s_8 : u_S), kx28 s_8 = some (r, s') → K 0 0 28 [some (.ref (E.1 v0_2)), some (.ref (E.1 v1_2)), none] [] (Wd E s_8)) : ∀ (m : Nat) (v2_2 : Int) (s_6 : u_S), InR v2_2 → f_X6_copyFrom_L2 m kx28 v0_2 v1_2 v2_2 s_6 = some (r, s') → K 0 0 2 [some (.ref (E.1 v0_2)), some (.ref (E.1 v1_2)), some (.int (J v2_2))] [] (Wd E s_6) := by
  have g0 := g.wk
  intro m
  induction m with
  | zero =>
    intro v2_2 s_6 i_v2_2 h
    exact absurd (show (none : Option (Int × u_S)) = some (r, s') from h) (by intro z; cases z)
  | succ m ih =>
    intro v2_2 s_6 i_v2_2 h
    rw [f_X6_copyFrom_L2] at h
    refine r_iload_n g0 dX6_copyFrom_2 rfl ?_
    refine r_iconst g0 dX6_copyFrom_3 ?_
    refine r_icmp_ge g0 28 dX6_copyFrom_4 (by decide) i_v2_2 (InR_lit rfl) (fun hc => ?_) (fun hc => ?_)
    · replace h := if_f hc h
      refine r_mask g0 (lv' := [some (.ref (E.1 v0_2)), some (.ref (E.1 v1_2)), none]) [true, true, false] rfl ?_
      exact hkx28 s_6 h
    · replace h := if_t hc h
      refine r_aload_n g0 dX6_copyFrom_7 rfl ?_
      refine g_Plan_lines g0 i_v0_2 qX6_11 dX6_copyFrom_8 ?_
      refine r_iload_n g0 dX6_copyFrom_11 rfl ?_
      obtain ⟨hb, h⟩ := gd_some h
      refine r_aald_Line g0 (is_a_Plan_lines i_v0_2) i_v2_2 hb dX6_copyFrom_12 ?_
      refine r_aload_n g0 dX6_copyFrom_13 rfl ?_
      refine g_Plan_lines g0 i_v1_2 qX6_11 dX6_copyFrom_14 ?_
      refine r_iload_n g0 dX6_copyFrom_17 rfl ?_
      obtain ⟨hb_2, h⟩ := gd_some h
      refine r_aald_Line g0 (is_a_Plan_lines i_v1_2) i_v2_2 hb_2 dX6_copyFrom_18 ?_
      obtain ⟨r_2, s_7, hr_2, h⟩ := bd_some h
      refine r_cVV g0 (rest := []) (c_X5_copyFrom (is_e_Line (is_a_Plan_lines i_v0_2) hb) (is_e_Line (is_a_Plan_lines i_v1_2) hb_2) hr_2) ok_X5_copyFrom mX6_36 (recv_Line (is_e_Line (is_a_Plan_lines i_v0_2) hb)) dX6_copyFrom_19 ⟨Nat.le_of_ble_eq_true rfl, Nat.le_of_ble_eq_true rfl⟩ ⟨Nat.zero_le _, Nat.zero_le _⟩ rfl (Nat.le_of_ble_eq_true rfl) rfl ?_
      refine r_iinc g0 (a := v2_2) (lv' := [some (.ref (E.1 v0_2)), some (.ref (E.1 v1_2)), some (.int (J (wr (v2_2 + 1))))]) dX6_copyFrom_22 (by decide) rfl rfl rfl ?_
      refine r_goto g0 2 dX6_copyFrom_25 (by decide) ?_
      exact ih (wr (v2_2 + 1)) s_7 (InR_wr _) h
set_option maxHeartbeats 4000000 in
set_option maxRecDepth 100000 in
theorem c_X6_copyFrom {E : u_E} {l : Launch} {o : u_O} {p1 : u_O} (ho : is_Plan o) (i_p1 : is_Plan p1) {s s' : u_S} {r : Int} (h : f_X6_copyFrom o p1 s = some (r, s')) : Con l (XE E) yX6_copyFrom cX6_copyFrom 3 none 3 68 0 0 [.ref (E.1 o), .ref (E.1 p1)] (Wd E s) (RV E r s') := by
  refine Con.of [some (.ref (E.1 o)), some (.ref (E.1 p1)), none] (by decide +kernel) rfl rfl (Nat.le_of_ble_eq_true rfl) (fun K g => ?_)
  have g0 := g.wk
  unfold f_X6_copyFrom at h
  refine r_iconst g0 dX6_copyFrom_0 ?_
  refine r_istore_n g0 (lv' := [some (.ref (E.1 o)), some (.ref (E.1 p1)), some (.int (J 0))]) dX6_copyFrom_1 (by decide) rfl rfl ?_
  refine t_X6_copyFrom_L2 g ho i_p1 ?_ FU 0 s (B01.inR B01_0) h
  · intro s_1 h
    refine r_aload_n g0 dX6_copyFrom_28 rfl ?_
    refine g_Plan_entries g0 ho qX6_20 dX6_copyFrom_29 ?_
    refine r_aload_n g0 dX6_copyFrom_32 rfl ?_
    refine g_Plan_entries g0 i_p1 qX6_20 dX6_copyFrom_33 ?_
    obtain ⟨r_1, s_2, hr_1, h⟩ := bd_some h
    refine r_cVV g0 (rest := []) (c_X1_copyFrom (is_a_Plan_entries ho) (is_a_Plan_entries i_p1) hr_1) ok_X1_copyFrom mX6_40 (recv_Entries (is_a_Plan_entries ho)) dX6_copyFrom_36 ⟨Nat.le_of_ble_eq_true rfl, Nat.le_of_ble_eq_true rfl⟩ ⟨Nat.zero_le _, Nat.zero_le _⟩ rfl (Nat.le_of_ble_eq_true rfl) rfl ?_
    refine r_iconst g0 dX6_copyFrom_39 ?_
    refine r_istore_n g0 (lv' := [some (.ref (E.1 o)), some (.ref (E.1 p1)), some (.int (J 0))]) dX6_copyFrom_40 (by decide) rfl rfl ?_
    refine t_X6_copyFrom_L41 g ho i_p1 ?_ FU 0 s_2 (B01.inR B01_0) h
    · intro s_3 h
      refine r_aload_n g0 dX6_copyFrom_64 rfl ?_
      refine r_aload_n g0 dX6_copyFrom_65 rfl ?_
      refine g_Plan_visitCount g0 i_p1 qX6_43 dX6_copyFrom_66 ?_
      refine p_Plan_visitCount g0 ho qX6_43 dX6_copyFrom_69 ?_
      refine r_aload_n g0 dX6_copyFrom_72 rfl ?_
      refine r_aload_n g0 dX6_copyFrom_73 rfl ?_
      refine g_Plan_head g0 i_p1 qX6_28 dX6_copyFrom_74 ?_
      refine p_Plan_head g0 ho qX6_28 dX6_copyFrom_77 ?_
      refine r_aload_n g0 dX6_copyFrom_80 rfl ?_
      refine r_aload_n g0 dX6_copyFrom_81 rfl ?_
      refine g_Plan_tonic g0 i_p1 qX6_46 dX6_copyFrom_82 ?_
      refine p_Plan_tonic g0 ho qX6_46 dX6_copyFrom_85 ?_
      refine r_aload_n g0 dX6_copyFrom_88 rfl ?_
      refine r_aload_n g0 dX6_copyFrom_89 rfl ?_
      refine g_Plan_meter g0 i_p1 qX6_32 dX6_copyFrom_90 ?_
      refine p_Plan_meter g0 ho qX6_32 dX6_copyFrom_93 ?_
      refine r_aload_n g0 dX6_copyFrom_96 rfl ?_
      refine r_aload_n g0 dX6_copyFrom_97 rfl ?_
      refine g_Plan_home g0 i_p1 qX6_49 dX6_copyFrom_98 ?_
      refine p_Plan_home g0 ho qX6_49 dX6_copyFrom_101 ?_
      exact z_V g dX6_copyFrom_104 h
theorem dX4_keep_0 : decode cX4_keep 0 = .ok (.aload_n 0, 1) := by decide +kernel
theorem dX4_keep_1 : decode cX4_keep 1 = .ok (.aload_n 0, 1) := by decide +kernel
theorem dX4_keep_2 : decode cX4_keep 2 = .ok (.getfield 18, 3) := by decide +kernel
theorem dX4_keep_5 : decode cX4_keep 5 = .ok (.iconst 1, 1) := by decide +kernel
theorem dX4_keep_6 : decode cX4_keep 6 = .ok (.iadd, 1) := by decide +kernel
theorem dX4_keep_7 : decode cX4_keep 7 = .ok (.iconst 5, 1) := by decide +kernel
theorem dX4_keep_8 : decode cX4_keep 8 = .ok (.irem, 1) := by decide +kernel
theorem dX4_keep_9 : decode cX4_keep 9 = .ok (.putfield 18, 3) := by decide +kernel
theorem dX4_keep_12 : decode cX4_keep 12 = .ok (.aload_n 0, 1) := by decide +kernel
theorem dX4_keep_13 : decode cX4_keep 13 = .ok (.getfield 11, 3) := by decide +kernel
theorem dX4_keep_16 : decode cX4_keep 16 = .ok (.aload_n 0, 1) := by decide +kernel
theorem dX4_keep_17 : decode cX4_keep 17 = .ok (.getfield 18, 3) := by decide +kernel
theorem dX4_keep_20 : decode cX4_keep 20 = .ok (.aaload, 1) := by decide +kernel
theorem dX4_keep_21 : decode cX4_keep 21 = .ok (.aload_n 1, 1) := by decide +kernel
theorem dX4_keep_22 : decode cX4_keep 22 = .ok (.invokevirtual 22, 3) := by decide +kernel
theorem dX4_keep_25 : decode cX4_keep 25 = .ok (.aload_n 0, 1) := by decide +kernel
theorem dX4_keep_26 : decode cX4_keep 26 = .ok (.getfield 26, 3) := by decide +kernel
theorem dX4_keep_29 : decode cX4_keep 29 = .ok (.iconst 5, 1) := by decide +kernel
theorem dX4_keep_30 : decode cX4_keep 30 = .ok (.if_icmp .ge 13, 3) := by decide +kernel
theorem dX4_keep_33 : decode cX4_keep 33 = .ok (.aload_n 0, 1) := by decide +kernel
theorem dX4_keep_34 : decode cX4_keep 34 = .ok (.dup, 1) := by decide +kernel
theorem dX4_keep_35 : decode cX4_keep 35 = .ok (.getfield 26, 3) := by decide +kernel
theorem dX4_keep_38 : decode cX4_keep 38 = .ok (.iconst 1, 1) := by decide +kernel
theorem dX4_keep_39 : decode cX4_keep 39 = .ok (.iadd, 1) := by decide +kernel
theorem dX4_keep_40 : decode cX4_keep 40 = .ok (.putfield 26, 3) := by decide +kernel
theorem dX4_keep_43 : decode cX4_keep 43 = .ok (.return_, 1) := by decide +kernel
set_option maxHeartbeats 4000000 in
set_option maxRecDepth 100000 in
theorem c_X4_keep {E : u_E} {l : Launch} {o : u_O} {p1 : u_O} (ho : is_History o) (i_p1 : is_Plan p1) {s s' : u_S} {r : Int} (h : f_X4_keep o p1 s = some (r, s')) : Con l (XE E) yX4_keep cX4_keep 2 none 4 90 0 0 [.ref (E.1 o), .ref (E.1 p1)] (Wd E s) (RV E r s') := by
  refine Con.of [some (.ref (E.1 o)), some (.ref (E.1 p1))] (by decide +kernel) rfl rfl (Nat.le_of_ble_eq_true rfl) (fun K g => ?_)
  have g0 := g.wk
  unfold f_X4_keep at h
  refine r_aload_n g0 dX4_keep_0 rfl ?_
  refine r_aload_n g0 dX4_keep_1 rfl ?_
  refine g_History_newest g0 ho qX4_18 dX4_keep_2 ?_
  refine r_iconst g0 dX4_keep_5 ?_
  refine r_iadd g0 dX4_keep_6 ?_
  refine r_iconst g0 dX4_keep_7 ?_
  refine r_irem g0 dX4_keep_8 (InR_wr _) (InR_lit rfl) (by decide) ?_
  refine p_History_newest g0 ho qX4_18 dX4_keep_9 ?_
  refine r_aload_n g0 dX4_keep_12 rfl ?_
  refine g_History_kept g0 ho qX4_11 dX4_keep_13 ?_
  refine r_aload_n g0 dX4_keep_16 rfl ?_
  refine g_History_newest g0 ho qX4_18 dX4_keep_17 ?_
  obtain ⟨hb, h⟩ := gd_some h
  refine r_aald_Plan g0 (is_a_History_kept ho) (InR_rd _ _ _) hb dX4_keep_20 ?_
  refine r_aload_n g0 dX4_keep_21 rfl ?_
  obtain ⟨r_1, s_1, hr_1, h⟩ := bd_some h
  refine r_cVV g0 (rest := []) (c_X6_copyFrom (is_e_Plan (is_a_History_kept ho) hb) i_p1 hr_1) ok_X6_copyFrom mX4_22 (recv_Plan (is_e_Plan (is_a_History_kept ho) hb)) dX4_keep_22 ⟨Nat.le_of_ble_eq_true rfl, Nat.le_of_ble_eq_true rfl⟩ ⟨Nat.zero_le _, Nat.zero_le _⟩ rfl (Nat.le_of_ble_eq_true rfl) rfl ?_
  refine r_aload_n g0 dX4_keep_25 rfl ?_
  refine g_History_count g0 ho qX4_26 dX4_keep_26 ?_
  refine r_iconst g0 dX4_keep_29 ?_
  refine r_icmp_ge g0 43 dX4_keep_30 (by decide) (InR_rd _ _ _) (InR_lit rfl) (fun hc => ?_) (fun hc => ?_)
  · replace h := if_f hc h
    exact z_V g dX4_keep_43 h
  · replace h := if_t hc h
    refine r_aload_n g0 dX4_keep_33 rfl ?_
    refine r_dup g0 dX4_keep_34 rfl ?_
    refine g_History_count g0 ho qX4_26 dX4_keep_35 ?_
    refine r_iconst g0 dX4_keep_38 ?_
    refine r_iadd g0 dX4_keep_39 ?_
    refine p_History_count g0 ho qX4_26 dX4_keep_40 ?_
    exact z_V g dX4_keep_43 h
theorem dX4_giveBack_0 : decode cX4_giveBack 0 = .ok (.aload_n 0, 1) := by decide +kernel
theorem dX4_giveBack_1 : decode cX4_giveBack 1 = .ok (.getfield 26, 3) := by decide +kernel
theorem dX4_giveBack_4 : decode cX4_giveBack 4 = .ok (.ifCond .gt 5, 3) := by decide +kernel
theorem dX4_giveBack_7 : decode cX4_giveBack 7 = .ok (.iconst 0, 1) := by decide +kernel
theorem dX4_giveBack_8 : decode cX4_giveBack 8 = .ok (.ireturn, 1) := by decide +kernel
theorem dX4_giveBack_9 : decode cX4_giveBack 9 = .ok (.aload_n 1, 1) := by decide +kernel
theorem dX4_giveBack_10 : decode cX4_giveBack 10 = .ok (.aload_n 0, 1) := by decide +kernel
theorem dX4_giveBack_11 : decode cX4_giveBack 11 = .ok (.getfield 11, 3) := by decide +kernel
theorem dX4_giveBack_14 : decode cX4_giveBack 14 = .ok (.aload_n 0, 1) := by decide +kernel
theorem dX4_giveBack_15 : decode cX4_giveBack 15 = .ok (.getfield 18, 3) := by decide +kernel
theorem dX4_giveBack_18 : decode cX4_giveBack 18 = .ok (.aaload, 1) := by decide +kernel
theorem dX4_giveBack_19 : decode cX4_giveBack 19 = .ok (.invokevirtual 22, 3) := by decide +kernel
theorem dX4_giveBack_22 : decode cX4_giveBack 22 = .ok (.aload_n 0, 1) := by decide +kernel
theorem dX4_giveBack_23 : decode cX4_giveBack 23 = .ok (.aload_n 0, 1) := by decide +kernel
theorem dX4_giveBack_24 : decode cX4_giveBack 24 = .ok (.getfield 18, 3) := by decide +kernel
theorem dX4_giveBack_27 : decode cX4_giveBack 27 = .ok (.iconst 5, 1) := by decide +kernel
theorem dX4_giveBack_28 : decode cX4_giveBack 28 = .ok (.iadd, 1) := by decide +kernel
theorem dX4_giveBack_29 : decode cX4_giveBack 29 = .ok (.iconst 1, 1) := by decide +kernel
theorem dX4_giveBack_30 : decode cX4_giveBack 30 = .ok (.isub, 1) := by decide +kernel
theorem dX4_giveBack_31 : decode cX4_giveBack 31 = .ok (.iconst 5, 1) := by decide +kernel
theorem dX4_giveBack_32 : decode cX4_giveBack 32 = .ok (.irem, 1) := by decide +kernel
theorem dX4_giveBack_33 : decode cX4_giveBack 33 = .ok (.putfield 18, 3) := by decide +kernel
theorem dX4_giveBack_36 : decode cX4_giveBack 36 = .ok (.aload_n 0, 1) := by decide +kernel
theorem dX4_giveBack_37 : decode cX4_giveBack 37 = .ok (.dup, 1) := by decide +kernel
theorem dX4_giveBack_38 : decode cX4_giveBack 38 = .ok (.getfield 26, 3) := by decide +kernel
theorem dX4_giveBack_41 : decode cX4_giveBack 41 = .ok (.iconst 1, 1) := by decide +kernel
theorem dX4_giveBack_42 : decode cX4_giveBack 42 = .ok (.isub, 1) := by decide +kernel
theorem dX4_giveBack_43 : decode cX4_giveBack 43 = .ok (.putfield 26, 3) := by decide +kernel
theorem dX4_giveBack_46 : decode cX4_giveBack 46 = .ok (.iconst 1, 1) := by decide +kernel
theorem dX4_giveBack_47 : decode cX4_giveBack 47 = .ok (.ireturn, 1) := by decide +kernel
set_option maxHeartbeats 4000000 in
set_option maxRecDepth 100000 in
theorem c_X4_giveBack {E : u_E} {l : Launch} {o : u_O} {p1 : u_O} (ho : is_History o) (i_p1 : is_Plan p1) {s s' : u_S} {r : Int} (h : f_X4_giveBack o p1 s = some (r, s')) : Con l (XE E) yX4_giveBack cX4_giveBack 2 (some .boolean) 4 90 0 0 [.ref (E.1 o), .ref (E.1 p1)] (Wd E s) (RZ E r s') := by
  refine Con.of [some (.ref (E.1 o)), some (.ref (E.1 p1))] (by decide +kernel) rfl rfl (Nat.le_of_ble_eq_true rfl) (fun K g => ?_)
  have g0 := g.wk
  unfold f_X4_giveBack at h
  refine r_aload_n g0 dX4_giveBack_0 rfl ?_
  refine g_History_count g0 ho qX4_26 dX4_giveBack_1 ?_
  refine r_if_gt g0 9 dX4_giveBack_4 (by decide) (InR_rd _ _ _) (fun hc => ?_) (fun hc => ?_)
  · replace h := if_f hc h
    refine r_aload_n g0 dX4_giveBack_9 rfl ?_
    refine r_aload_n g0 dX4_giveBack_10 rfl ?_
    refine g_History_kept g0 ho qX4_11 dX4_giveBack_11 ?_
    refine r_aload_n g0 dX4_giveBack_14 rfl ?_
    refine g_History_newest g0 ho qX4_18 dX4_giveBack_15 ?_
    obtain ⟨hb, h⟩ := gd_some h
    refine r_aald_Plan g0 (is_a_History_kept ho) (InR_rd _ _ _) hb dX4_giveBack_18 ?_
    obtain ⟨r_1, s_1, hr_1, h⟩ := bd_some h
    refine r_cVV g0 (rest := []) (c_X6_copyFrom i_p1 (is_e_Plan (is_a_History_kept ho) hb) hr_1) ok_X6_copyFrom mX4_22 (recv_Plan i_p1) dX4_giveBack_19 ⟨Nat.le_of_ble_eq_true rfl, Nat.le_of_ble_eq_true rfl⟩ ⟨Nat.zero_le _, Nat.zero_le _⟩ rfl (Nat.le_of_ble_eq_true rfl) rfl ?_
    refine r_aload_n g0 dX4_giveBack_22 rfl ?_
    refine r_aload_n g0 dX4_giveBack_23 rfl ?_
    refine g_History_newest g0 ho qX4_18 dX4_giveBack_24 ?_
    refine r_iconst g0 dX4_giveBack_27 ?_
    refine r_iadd g0 dX4_giveBack_28 ?_
    refine r_iconst g0 dX4_giveBack_29 ?_
    refine r_isub g0 dX4_giveBack_30 ?_
    refine r_iconst g0 dX4_giveBack_31 ?_
    refine r_irem g0 dX4_giveBack_32 (InR_wr _) (InR_lit rfl) (by decide) ?_
    refine p_History_newest g0 ho qX4_18 dX4_giveBack_33 ?_
    refine r_aload_n g0 dX4_giveBack_36 rfl ?_
    refine r_dup g0 dX4_giveBack_37 rfl ?_
    refine g_History_count g0 ho qX4_26 dX4_giveBack_38 ?_
    refine r_iconst g0 dX4_giveBack_41 ?_
    refine r_isub g0 dX4_giveBack_42 ?_
    refine p_History_count g0 ho qX4_26 dX4_giveBack_43 ?_
    refine r_iconst g0 dX4_giveBack_46 ?_
    exact z_Z g dX4_giveBack_47 B01_1 h
  · replace h := if_t hc h
    refine r_iconst g0 dX4_giveBack_7 ?_
    exact z_Z g dX4_giveBack_8 B01_0 h
theorem dX5_isEmpty_0 : decode cX5_isEmpty 0 = .ok (.aload_n 0, 1) := by decide +kernel
theorem dX5_isEmpty_1 : decode cX5_isEmpty 1 = .ok (.getfield 18, 3) := by decide +kernel
theorem dX5_isEmpty_4 : decode cX5_isEmpty 4 = .ok (.ifCond .gt 7, 3) := by decide +kernel
theorem dX5_isEmpty_7 : decode cX5_isEmpty 7 = .ok (.iconst 1, 1) := by decide +kernel
theorem dX5_isEmpty_8 : decode cX5_isEmpty 8 = .ok (.goto 4, 3) := by decide +kernel
theorem dX5_isEmpty_11 : decode cX5_isEmpty 11 = .ok (.iconst 0, 1) := by decide +kernel
theorem dX5_isEmpty_12 : decode cX5_isEmpty 12 = .ok (.ireturn, 1) := by decide +kernel
set_option maxHeartbeats 4000000 in
set_option maxRecDepth 100000 in
theorem c_X5_isEmpty {E : u_E} {l : Launch} {o : u_O} (ho : is_Line o) {s s' : u_S} {r : Int} (h : f_X5_isEmpty o s = some (r, s')) : Con l (XE E) yX5_isEmpty cX5_isEmpty 1 (some .boolean) 0 0 0 0 [.ref (E.1 o)] (Wd E s) (RZ E r s') := by
  refine Con.of [some (.ref (E.1 o))] (by decide +kernel) rfl rfl (Nat.le_of_ble_eq_true rfl) (fun K g => ?_)
  have g0 := g.wk
  unfold f_X5_isEmpty at h
  refine r_aload_n g0 dX5_isEmpty_0 rfl ?_
  refine g_Line_count g0 ho qX5_18 dX5_isEmpty_1 ?_
  refine r_if_gt g0 11 dX5_isEmpty_4 (by decide) (InR_rd _ _ _) (fun hc => ?_) (fun hc => ?_)
  · replace h := if_f hc h
    refine r_iconst g0 dX5_isEmpty_11 ?_
    exact z_Z g dX5_isEmpty_12 B01_0 h
  · replace h := if_t hc h
    refine r_iconst g0 dX5_isEmpty_7 ?_
    refine r_goto g0 12 dX5_isEmpty_8 (by decide) ?_
    exact z_Z g dX5_isEmpty_12 B01_1 h
theorem dX5_isFull_0 : decode cX5_isFull 0 = .ok (.aload_n 0, 1) := by decide +kernel
theorem dX5_isFull_1 : decode cX5_isFull 1 = .ok (.getfield 18, 3) := by decide +kernel
theorem dX5_isFull_4 : decode cX5_isFull 4 = .ok (.bipush 10, 2) := by decide +kernel
theorem dX5_isFull_6 : decode cX5_isFull 6 = .ok (.if_icmp .lt 7, 3) := by decide +kernel
theorem dX5_isFull_9 : decode cX5_isFull 9 = .ok (.iconst 1, 1) := by decide +kernel
theorem dX5_isFull_10 : decode cX5_isFull 10 = .ok (.goto 4, 3) := by decide +kernel
theorem dX5_isFull_13 : decode cX5_isFull 13 = .ok (.iconst 0, 1) := by decide +kernel
theorem dX5_isFull_14 : decode cX5_isFull 14 = .ok (.ireturn, 1) := by decide +kernel
set_option maxHeartbeats 4000000 in
set_option maxRecDepth 100000 in
theorem c_X5_isFull {E : u_E} {l : Launch} {o : u_O} (ho : is_Line o) {s s' : u_S} {r : Int} (h : f_X5_isFull o s = some (r, s')) : Con l (XE E) yX5_isFull cX5_isFull 1 (some .boolean) 0 0 0 0 [.ref (E.1 o)] (Wd E s) (RZ E r s') := by
  refine Con.of [some (.ref (E.1 o))] (by decide +kernel) rfl rfl (Nat.le_of_ble_eq_true rfl) (fun K g => ?_)
  have g0 := g.wk
  unfold f_X5_isFull at h
  refine r_aload_n g0 dX5_isFull_0 rfl ?_
  refine g_Line_count g0 ho qX5_18 dX5_isFull_1 ?_
  refine r_bipush g0 dX5_isFull_4 rfl ?_
  refine r_icmp_lt g0 13 dX5_isFull_6 (by decide) (InR_rd _ _ _) (InR_lit rfl) (fun hc => ?_) (fun hc => ?_)
  · replace h := if_t hc h
    refine r_iconst g0 dX5_isFull_13 ?_
    exact z_Z g dX5_isFull_14 B01_0 h
  · replace h := if_f hc h
    refine r_iconst g0 dX5_isFull_9 ?_
    refine r_goto g0 14 dX5_isFull_10 (by decide) ?_
    exact z_Z g dX5_isFull_14 B01_1 h
theorem dX5_append_0 : decode cX5_append 0 = .ok (.aload_n 0, 1) := by decide +kernel
theorem dX5_append_1 : decode cX5_append 1 = .ok (.invokevirtual 22, 3) := by decide +kernel
theorem dX5_append_4 : decode cX5_append 4 = .ok (.ifCond .eq 4, 3) := by decide +kernel
theorem dX5_append_7 : decode cX5_append 7 = .ok (.return_, 1) := by decide +kernel
theorem dX5_append_8 : decode cX5_append 8 = .ok (.aload_n 0, 1) := by decide +kernel
theorem dX5_append_9 : decode cX5_append 9 = .ok (.getfield 9, 3) := by decide +kernel
theorem dX5_append_12 : decode cX5_append 12 = .ok (.aload_n 0, 1) := by decide +kernel
theorem dX5_append_13 : decode cX5_append 13 = .ok (.getfield 18, 3) := by decide +kernel
theorem dX5_append_16 : decode cX5_append 16 = .ok (.iload_n 1, 1) := by decide +kernel
theorem dX5_append_17 : decode cX5_append 17 = .ok (.iastore, 1) := by decide +kernel
theorem dX5_append_18 : decode cX5_append 18 = .ok (.aload_n 0, 1) := by decide +kernel
theorem dX5_append_19 : decode cX5_append 19 = .ok (.getfield 15, 3) := by decide +kernel
theorem dX5_append_22 : decode cX5_append 22 = .ok (.aload_n 0, 1) := by decide +kernel
theorem dX5_append_23 : decode cX5_append 23 = .ok (.getfield 18, 3) := by decide +kernel
theorem dX5_append_26 : decode cX5_append 26 = .ok (.iload_n 2, 1) := by decide +kernel
theorem dX5_append_27 : decode cX5_append 27 = .ok (.iastore, 1) := by decide +kernel
theorem dX5_append_28 : decode cX5_append 28 = .ok (.aload_n 0, 1) := by decide +kernel
theorem dX5_append_29 : decode cX5_append 29 = .ok (.dup, 1) := by decide +kernel
theorem dX5_append_30 : decode cX5_append 30 = .ok (.getfield 18, 3) := by decide +kernel
theorem dX5_append_33 : decode cX5_append 33 = .ok (.iconst 1, 1) := by decide +kernel
theorem dX5_append_34 : decode cX5_append 34 = .ok (.iadd, 1) := by decide +kernel
theorem dX5_append_35 : decode cX5_append 35 = .ok (.putfield 18, 3) := by decide +kernel
theorem dX5_append_38 : decode cX5_append 38 = .ok (.return_, 1) := by decide +kernel
set_option maxHeartbeats 4000000 in
set_option maxRecDepth 100000 in
theorem c_X5_append {E : u_E} {l : Launch} {o : u_O} {p1 : Int} {p2 : Int} (ho : is_Line o) (i_p1 : InR p1) (i_p2 : InR p2) {s s' : u_S} {r : Int} (h : f_X5_append o p1 p2 s = some (r, s')) : Con l (XE E) yX5_append cX5_append 3 none 1 20 0 0 [.ref (E.1 o), .int (J p1), .int (J p2)] (Wd E s) (RV E r s') := by
  refine Con.of [some (.ref (E.1 o)), some (.int (J p1)), some (.int (J p2))] (by decide +kernel) rfl rfl (Nat.le_of_ble_eq_true rfl) (fun K g => ?_)
  have g0 := g.wk
  unfold f_X5_append at h
  refine r_aload_n g0 dX5_append_0 rfl ?_
  obtain ⟨r_1, s_1, hr_1, h⟩ := bd_some h
  refine r_cVZ g0 (rest := []) (c_X5_isFull ho hr_1) ok_X5_isFull mX5_22 (recv_Line ho) dX5_append_1 ⟨Nat.le_of_ble_eq_true rfl, Nat.le_of_ble_eq_true rfl⟩ ⟨Nat.zero_le _, Nat.zero_le _⟩ rfl (Nat.le_of_ble_eq_true rfl) rfl (fun i_r_1 => ?_)
  refine r_if_eq g0 8 dX5_append_4 (by decide) (B01.inR i_r_1) (fun hc => ?_) (fun hc => ?_)
  · replace h := if_t hc h
    refine r_aload_n g0 dX5_append_8 rfl ?_
    refine g_Line_steps g0 ho qX5_9 dX5_append_9 ?_
    refine r_aload_n g0 dX5_append_12 rfl ?_
    refine g_Line_count g0 ho qX5_18 dX5_append_13 ?_
    refine r_iload_n g0 dX5_append_16 rfl ?_
    obtain ⟨hb, h⟩ := gd_some h
    refine r_iastore g0 (is_a_Line_steps ho) (n := 10) rfl (InR_rd _ _ _) hb dX5_append_17 ?_
    refine r_aload_n g0 dX5_append_18 rfl ?_
    refine g_Line_ticks g0 ho qX5_15 dX5_append_19 ?_
    refine r_aload_n g0 dX5_append_22 rfl ?_
    refine g_Line_count g0 ho qX5_18 dX5_append_23 ?_
    refine r_iload_n g0 dX5_append_26 rfl ?_
    obtain ⟨hb, h⟩ := gd_some h
    refine r_iastore g0 (is_a_Line_ticks ho) (n := 10) rfl (InR_rd _ _ _) hb dX5_append_27 ?_
    refine r_aload_n g0 dX5_append_28 rfl ?_
    refine r_dup g0 dX5_append_29 rfl ?_
    refine g_Line_count g0 ho qX5_18 dX5_append_30 ?_
    refine r_iconst g0 dX5_append_33 ?_
    refine r_iadd g0 dX5_append_34 ?_
    refine p_Line_count g0 ho qX5_18 dX5_append_35 ?_
    exact z_V g dX5_append_38 h
  · replace h := if_f hc h
    exact z_V g dX5_append_7 h
theorem dX5_remove_0 : decode cX5_remove 0 = .ok (.aload_n 0, 1) := by decide +kernel
theorem dX5_remove_1 : decode cX5_remove 1 = .ok (.iload_n 1, 1) := by decide +kernel
theorem dX5_remove_2 : decode cX5_remove 2 = .ok (.invokevirtual 26, 3) := by decide +kernel
theorem dX5_remove_5 : decode cX5_remove 5 = .ok (.ifCond .ne 4, 3) := by decide +kernel
theorem dX5_remove_8 : decode cX5_remove 8 = .ok (.return_, 1) := by decide +kernel
theorem dX5_remove_9 : decode cX5_remove 9 = .ok (.iload_n 1, 1) := by decide +kernel
theorem dX5_remove_10 : decode cX5_remove 10 = .ok (.iconst 1, 1) := by decide +kernel
theorem dX5_remove_11 : decode cX5_remove 11 = .ok (.iadd, 1) := by decide +kernel
theorem dX5_remove_12 : decode cX5_remove 12 = .ok (.istore_n 2, 1) := by decide +kernel
theorem dX5_remove_13 : decode cX5_remove 13 = .ok (.iload_n 2, 1) := by decide +kernel
theorem dX5_remove_14 : decode cX5_remove 14 = .ok (.aload_n 0, 1) := by decide +kernel
theorem dX5_remove_15 : decode cX5_remove 15 = .ok (.getfield 18, 3) := by decide +kernel
theorem dX5_remove_18 : decode cX5_remove 18 = .ok (.if_icmp .ge 37, 3) := by decide +kernel
theorem dX5_remove_21 : decode cX5_remove 21 = .ok (.aload_n 0, 1) := by decide +kernel
theorem dX5_remove_22 : decode cX5_remove 22 = .ok (.getfield 9, 3) := by decide +kernel
theorem dX5_remove_25 : decode cX5_remove 25 = .ok (.iload_n 2, 1) := by decide +kernel
theorem dX5_remove_26 : decode cX5_remove 26 = .ok (.iconst 1, 1) := by decide +kernel
theorem dX5_remove_27 : decode cX5_remove 27 = .ok (.isub, 1) := by decide +kernel
theorem dX5_remove_28 : decode cX5_remove 28 = .ok (.aload_n 0, 1) := by decide +kernel
theorem dX5_remove_29 : decode cX5_remove 29 = .ok (.getfield 9, 3) := by decide +kernel
theorem dX5_remove_32 : decode cX5_remove 32 = .ok (.iload_n 2, 1) := by decide +kernel
theorem dX5_remove_33 : decode cX5_remove 33 = .ok (.iaload, 1) := by decide +kernel
theorem dX5_remove_34 : decode cX5_remove 34 = .ok (.iastore, 1) := by decide +kernel
theorem dX5_remove_35 : decode cX5_remove 35 = .ok (.aload_n 0, 1) := by decide +kernel
theorem dX5_remove_36 : decode cX5_remove 36 = .ok (.getfield 15, 3) := by decide +kernel
theorem dX5_remove_39 : decode cX5_remove 39 = .ok (.iload_n 2, 1) := by decide +kernel
theorem dX5_remove_40 : decode cX5_remove 40 = .ok (.iconst 1, 1) := by decide +kernel
theorem dX5_remove_41 : decode cX5_remove 41 = .ok (.isub, 1) := by decide +kernel
theorem dX5_remove_42 : decode cX5_remove 42 = .ok (.aload_n 0, 1) := by decide +kernel
theorem dX5_remove_43 : decode cX5_remove 43 = .ok (.getfield 15, 3) := by decide +kernel
theorem dX5_remove_46 : decode cX5_remove 46 = .ok (.iload_n 2, 1) := by decide +kernel
theorem dX5_remove_47 : decode cX5_remove 47 = .ok (.iaload, 1) := by decide +kernel
theorem dX5_remove_48 : decode cX5_remove 48 = .ok (.iastore, 1) := by decide +kernel
theorem dX5_remove_49 : decode cX5_remove 49 = .ok (.iinc 2 1, 3) := by decide +kernel
theorem dX5_remove_52 : decode cX5_remove 52 = .ok (.goto (-39), 3) := by decide +kernel
theorem dX5_remove_55 : decode cX5_remove 55 = .ok (.aload_n 0, 1) := by decide +kernel
theorem dX5_remove_56 : decode cX5_remove 56 = .ok (.dup, 1) := by decide +kernel
theorem dX5_remove_57 : decode cX5_remove 57 = .ok (.getfield 18, 3) := by decide +kernel
theorem dX5_remove_60 : decode cX5_remove 60 = .ok (.iconst 1, 1) := by decide +kernel
theorem dX5_remove_61 : decode cX5_remove 61 = .ok (.isub, 1) := by decide +kernel
theorem dX5_remove_62 : decode cX5_remove 62 = .ok (.putfield 18, 3) := by decide +kernel
theorem dX5_remove_65 : decode cX5_remove 65 = .ok (.return_, 1) := by decide +kernel
set_option maxHeartbeats 4000000 in
set_option maxRecDepth 100000 in
theorem t_X5_remove_L13 {l : Launch} {E : u_E} {K : u_K} {r : Int} {s' : u_S} (g : Wk l (XE E) { frames := 1, cells := 0, slots := 0, locals := 21 } cX5_remove 3 yX5_remove.cls yX5_remove.name none (RV E r s') K) {v0_1 : u_O} (i_v0_1 : is_Line v0_1) {kx55 : u_S → Option (Int × u_S)} (hkx55 : ∀ (s_4 : u_S), kx55 s_4 = some (r, s') → K 0 0 55 [some (.ref (E.1 v0_1)), none, none] [] (Wd E s_4)) : ∀ (m : Nat) (v2_1 : Int) (s_3 : u_S), InR v2_1 → f_X5_remove_L13 m kx55 v0_1 v2_1 s_3 = some (r, s') → K 0 0 13 [some (.ref (E.1 v0_1)), none, some (.int (J v2_1))] [] (Wd E s_3) := by
  have g0 := g.wk
  intro m
  induction m with
  | zero =>
    intro v2_1 s_3 i_v2_1 h
    exact absurd (show (none : Option (Int × u_S)) = some (r, s') from h) (by intro z; cases z)
  | succ m ih =>
    intro v2_1 s_3 i_v2_1 h
    rw [f_X5_remove_L13] at h
    refine r_iload_n g0 dX5_remove_13 rfl ?_
    refine r_aload_n g0 dX5_remove_14 rfl ?_
    refine g_Line_count g0 i_v0_1 qX5_18 dX5_remove_15 ?_
    refine r_icmp_ge g0 55 dX5_remove_18 (by decide) i_v2_1 (InR_rd _ _ _) (fun hc => ?_) (fun hc => ?_)
    · replace h := if_f hc h
      refine r_mask g0 (lv' := [some (.ref (E.1 v0_1)), none, none]) [true, false, false] rfl ?_
      exact hkx55 s_3 h
    · replace h := if_t hc h
      refine r_aload_n g0 dX5_remove_21 rfl ?_
      refine g_Line_steps g0 i_v0_1 qX5_9 dX5_remove_22 ?_
      refine r_iload_n g0 dX5_remove_25 rfl ?_
      refine r_iconst g0 dX5_remove_26 ?_
      refine r_isub g0 dX5_remove_27 ?_
      refine r_aload_n g0 dX5_remove_28 rfl ?_
      refine g_Line_steps g0 i_v0_1 qX5_9 dX5_remove_29 ?_
      refine r_iload_n g0 dX5_remove_32 rfl ?_
      obtain ⟨hb, h⟩ := gd_some h
      refine r_iaload g0 (is_a_Line_steps i_v0_1) (n := 10) rfl i_v2_1 hb dX5_remove_33 ?_
      obtain ⟨hb, h⟩ := gd_some h
      refine r_iastore g0 (is_a_Line_steps i_v0_1) (n := 10) rfl (InR_wr _) hb dX5_remove_34 ?_
      refine r_aload_n g0 dX5_remove_35 rfl ?_
      refine g_Line_ticks g0 i_v0_1 qX5_15 dX5_remove_36 ?_
      refine r_iload_n g0 dX5_remove_39 rfl ?_
      refine r_iconst g0 dX5_remove_40 ?_
      refine r_isub g0 dX5_remove_41 ?_
      refine r_aload_n g0 dX5_remove_42 rfl ?_
      refine g_Line_ticks g0 i_v0_1 qX5_15 dX5_remove_43 ?_
      refine r_iload_n g0 dX5_remove_46 rfl ?_
      obtain ⟨hb, h⟩ := gd_some h
      refine r_iaload g0 (is_a_Line_ticks i_v0_1) (n := 10) rfl i_v2_1 hb dX5_remove_47 ?_
      obtain ⟨hb, h⟩ := gd_some h
      refine r_iastore g0 (is_a_Line_ticks i_v0_1) (n := 10) rfl (InR_wr _) hb dX5_remove_48 ?_
      refine r_iinc g0 (a := v2_1) (lv' := [some (.ref (E.1 v0_1)), none, some (.int (J (wr (v2_1 + 1))))]) dX5_remove_49 (by decide) rfl rfl rfl ?_
      refine r_goto g0 13 dX5_remove_52 (by decide) ?_
      exact ih (wr (v2_1 + 1)) (wt (wt s_3 (a_Line_steps v0_1) (wr (v2_1 - 1)) (rd s_3 (a_Line_steps v0_1) v2_1)) (a_Line_ticks v0_1) (wr (v2_1 - 1)) (rd (wt s_3 (a_Line_steps v0_1) (wr (v2_1 - 1)) (rd s_3 (a_Line_steps v0_1) v2_1)) (a_Line_ticks v0_1) v2_1)) (InR_wr _) h
set_option maxHeartbeats 4000000 in
set_option maxRecDepth 100000 in
theorem c_X5_remove {E : u_E} {l : Launch} {o : u_O} {p1 : Int} (ho : is_Line o) (i_p1 : InR p1) {s s' : u_S} {r : Int} (h : f_X5_remove o p1 s = some (r, s')) : Con l (XE E) yX5_remove cX5_remove 3 none 1 21 0 0 [.ref (E.1 o), .int (J p1)] (Wd E s) (RV E r s') := by
  refine Con.of [some (.ref (E.1 o)), some (.int (J p1)), none] (by decide +kernel) rfl rfl (Nat.le_of_ble_eq_true rfl) (fun K g => ?_)
  have g0 := g.wk
  unfold f_X5_remove at h
  refine r_aload_n g0 dX5_remove_0 rfl ?_
  refine r_iload_n g0 dX5_remove_1 rfl ?_
  obtain ⟨r_1, s_1, hr_1, h⟩ := bd_some h
  refine r_cVZ g0 (rest := []) (c_X5_has ho i_p1 hr_1) ok_X5_has mX5_26 (recv_Line ho) dX5_remove_2 ⟨Nat.le_of_ble_eq_true rfl, Nat.le_of_ble_eq_true rfl⟩ ⟨Nat.zero_le _, Nat.zero_le _⟩ rfl (Nat.le_of_ble_eq_true rfl) rfl (fun i_r_1 => ?_)
  refine r_if_ne g0 9 dX5_remove_5 (by decide) (B01.inR i_r_1) (fun hc => ?_) (fun hc => ?_)
  · replace h := if_f hc h
    refine r_iload_n g0 dX5_remove_9 rfl ?_
    refine r_iconst g0 dX5_remove_10 ?_
    refine r_iadd g0 dX5_remove_11 ?_
    refine r_istore_n g0 (lv' := [some (.ref (E.1 o)), some (.int (J p1)), some (.int (J (wr (p1 + 1))))]) dX5_remove_12 (by decide) rfl rfl ?_
    refine r_mask g0 (lv' := [some (.ref (E.1 o)), none, some (.int (J (wr (p1 + 1))))]) [true, false, true] rfl ?_
    refine t_X5_remove_L13 g ho ?_ FU (wr (p1 + 1)) s_1 (InR_wr _) h
    · intro s_2 h
      refine r_aload_n g0 dX5_remove_55 rfl ?_
      refine r_dup g0 dX5_remove_56 rfl ?_
      refine g_Line_count g0 ho qX5_18 dX5_remove_57 ?_
      refine r_iconst g0 dX5_remove_60 ?_
      refine r_isub g0 dX5_remove_61 ?_
      refine p_Line_count g0 ho qX5_18 dX5_remove_62 ?_
      exact z_V g dX5_remove_65 h
  · replace h := if_t hc h
    exact z_V g dX5_remove_8 h
theorem dX5_stepOf_0 : decode cX5_stepOf 0 = .ok (.aload_n 0, 1) := by decide +kernel
theorem dX5_stepOf_1 : decode cX5_stepOf 1 = .ok (.iload_n 1, 1) := by decide +kernel
theorem dX5_stepOf_2 : decode cX5_stepOf 2 = .ok (.invokevirtual 26, 3) := by decide +kernel
theorem dX5_stepOf_5 : decode cX5_stepOf 5 = .ok (.ifCond .eq 12, 3) := by decide +kernel
theorem dX5_stepOf_8 : decode cX5_stepOf 8 = .ok (.aload_n 0, 1) := by decide +kernel
theorem dX5_stepOf_9 : decode cX5_stepOf 9 = .ok (.getfield 9, 3) := by decide +kernel
theorem dX5_stepOf_12 : decode cX5_stepOf 12 = .ok (.iload_n 1, 1) := by decide +kernel
theorem dX5_stepOf_13 : decode cX5_stepOf 13 = .ok (.iaload, 1) := by decide +kernel
theorem dX5_stepOf_14 : decode cX5_stepOf 14 = .ok (.goto 4, 3) := by decide +kernel
theorem dX5_stepOf_17 : decode cX5_stepOf 17 = .ok (.iconst 0, 1) := by decide +kernel
theorem dX5_stepOf_18 : decode cX5_stepOf 18 = .ok (.ireturn, 1) := by decide +kernel
set_option maxHeartbeats 4000000 in
set_option maxRecDepth 100000 in
theorem c_X5_stepOf {E : u_E} {l : Launch} {o : u_O} {p1 : Int} (ho : is_Line o) (i_p1 : InR p1) {s s' : u_S} {r : Int} (h : f_X5_stepOf o p1 s = some (r, s')) : Con l (XE E) yX5_stepOf cX5_stepOf 2 (some .int) 1 21 0 0 [.ref (E.1 o), .int (J p1)] (Wd E s) (RI E r s') := by
  refine Con.of [some (.ref (E.1 o)), some (.int (J p1))] (by decide +kernel) rfl rfl (Nat.le_of_ble_eq_true rfl) (fun K g => ?_)
  have g0 := g.wk
  unfold f_X5_stepOf at h
  refine r_aload_n g0 dX5_stepOf_0 rfl ?_
  refine r_iload_n g0 dX5_stepOf_1 rfl ?_
  obtain ⟨r_1, s_1, hr_1, h⟩ := bd_some h
  refine r_cVZ g0 (rest := []) (c_X5_has ho i_p1 hr_1) ok_X5_has mX5_26 (recv_Line ho) dX5_stepOf_2 ⟨Nat.le_of_ble_eq_true rfl, Nat.le_of_ble_eq_true rfl⟩ ⟨Nat.zero_le _, Nat.zero_le _⟩ rfl (Nat.le_of_ble_eq_true rfl) rfl (fun i_r_1 => ?_)
  refine r_if_eq g0 17 dX5_stepOf_5 (by decide) (B01.inR i_r_1) (fun hc => ?_) (fun hc => ?_)
  · replace h := if_t hc h
    refine r_iconst g0 dX5_stepOf_17 ?_
    exact z_I g dX5_stepOf_18 (B01.inR B01_0) h
  · replace h := if_f hc h
    refine r_aload_n g0 dX5_stepOf_8 rfl ?_
    refine g_Line_steps g0 ho qX5_9 dX5_stepOf_9 ?_
    refine r_iload_n g0 dX5_stepOf_12 rfl ?_
    obtain ⟨hb, h⟩ := gd_some h
    refine r_iaload g0 (is_a_Line_steps ho) (n := 10) rfl i_p1 hb dX5_stepOf_13 ?_
    refine r_goto g0 18 dX5_stepOf_14 (by decide) ?_
    exact z_I g dX5_stepOf_18 (InR_rd _ _ _) h
theorem dX5_ticksOf_0 : decode cX5_ticksOf 0 = .ok (.aload_n 0, 1) := by decide +kernel
theorem dX5_ticksOf_1 : decode cX5_ticksOf 1 = .ok (.iload_n 1, 1) := by decide +kernel
theorem dX5_ticksOf_2 : decode cX5_ticksOf 2 = .ok (.invokevirtual 26, 3) := by decide +kernel
theorem dX5_ticksOf_5 : decode cX5_ticksOf 5 = .ok (.ifCond .eq 12, 3) := by decide +kernel
theorem dX5_ticksOf_8 : decode cX5_ticksOf 8 = .ok (.aload_n 0, 1) := by decide +kernel
theorem dX5_ticksOf_9 : decode cX5_ticksOf 9 = .ok (.getfield 15, 3) := by decide +kernel
theorem dX5_ticksOf_12 : decode cX5_ticksOf 12 = .ok (.iload_n 1, 1) := by decide +kernel
theorem dX5_ticksOf_13 : decode cX5_ticksOf 13 = .ok (.iaload, 1) := by decide +kernel
theorem dX5_ticksOf_14 : decode cX5_ticksOf 14 = .ok (.goto 4, 3) := by decide +kernel
theorem dX5_ticksOf_17 : decode cX5_ticksOf 17 = .ok (.iconst 0, 1) := by decide +kernel
theorem dX5_ticksOf_18 : decode cX5_ticksOf 18 = .ok (.ireturn, 1) := by decide +kernel
set_option maxHeartbeats 4000000 in
set_option maxRecDepth 100000 in
theorem c_X5_ticksOf {E : u_E} {l : Launch} {o : u_O} {p1 : Int} (ho : is_Line o) (i_p1 : InR p1) {s s' : u_S} {r : Int} (h : f_X5_ticksOf o p1 s = some (r, s')) : Con l (XE E) yX5_ticksOf cX5_ticksOf 2 (some .int) 1 21 0 0 [.ref (E.1 o), .int (J p1)] (Wd E s) (RI E r s') := by
  refine Con.of [some (.ref (E.1 o)), some (.int (J p1))] (by decide +kernel) rfl rfl (Nat.le_of_ble_eq_true rfl) (fun K g => ?_)
  have g0 := g.wk
  unfold f_X5_ticksOf at h
  refine r_aload_n g0 dX5_ticksOf_0 rfl ?_
  refine r_iload_n g0 dX5_ticksOf_1 rfl ?_
  obtain ⟨r_1, s_1, hr_1, h⟩ := bd_some h
  refine r_cVZ g0 (rest := []) (c_X5_has ho i_p1 hr_1) ok_X5_has mX5_26 (recv_Line ho) dX5_ticksOf_2 ⟨Nat.le_of_ble_eq_true rfl, Nat.le_of_ble_eq_true rfl⟩ ⟨Nat.zero_le _, Nat.zero_le _⟩ rfl (Nat.le_of_ble_eq_true rfl) rfl (fun i_r_1 => ?_)
  refine r_if_eq g0 17 dX5_ticksOf_5 (by decide) (B01.inR i_r_1) (fun hc => ?_) (fun hc => ?_)
  · replace h := if_t hc h
    refine r_iconst g0 dX5_ticksOf_17 ?_
    exact z_I g dX5_ticksOf_18 (B01.inR B01_0) h
  · replace h := if_f hc h
    refine r_aload_n g0 dX5_ticksOf_8 rfl ?_
    refine g_Line_ticks g0 ho qX5_15 dX5_ticksOf_9 ?_
    refine r_iload_n g0 dX5_ticksOf_12 rfl ?_
    obtain ⟨hb, h⟩ := gd_some h
    refine r_iaload g0 (is_a_Line_ticks ho) (n := 10) rfl i_p1 hb dX5_ticksOf_13 ?_
    refine r_goto g0 18 dX5_ticksOf_14 (by decide) ?_
    exact z_I g dX5_ticksOf_18 (InR_rd _ _ _) h
theorem dX5_tickBefore_0 : decode cX5_tickBefore 0 = .ok (.iconst 0, 1) := by decide +kernel
theorem dX5_tickBefore_1 : decode cX5_tickBefore 1 = .ok (.istore_n 2, 1) := by decide +kernel
theorem dX5_tickBefore_2 : decode cX5_tickBefore 2 = .ok (.iconst 0, 1) := by decide +kernel
theorem dX5_tickBefore_3 : decode cX5_tickBefore 3 = .ok (.istore_n 3, 1) := by decide +kernel
theorem dX5_tickBefore_4 : decode cX5_tickBefore 4 = .ok (.iload_n 3, 1) := by decide +kernel
theorem dX5_tickBefore_5 : decode cX5_tickBefore 5 = .ok (.iload_n 1, 1) := by decide +kernel
theorem dX5_tickBefore_6 : decode cX5_tickBefore 6 = .ok (.if_icmp .ge 26, 3) := by decide +kernel
theorem dX5_tickBefore_9 : decode cX5_tickBefore 9 = .ok (.iload_n 3, 1) := by decide +kernel
theorem dX5_tickBefore_10 : decode cX5_tickBefore 10 = .ok (.aload_n 0, 1) := by decide +kernel
theorem dX5_tickBefore_11 : decode cX5_tickBefore 11 = .ok (.getfield 18, 3) := by decide +kernel
theorem dX5_tickBefore_14 : decode cX5_tickBefore 14 = .ok (.if_icmp .ge 18, 3) := by decide +kernel
theorem dX5_tickBefore_17 : decode cX5_tickBefore 17 = .ok (.iload_n 2, 1) := by decide +kernel
theorem dX5_tickBefore_18 : decode cX5_tickBefore 18 = .ok (.aload_n 0, 1) := by decide +kernel
theorem dX5_tickBefore_19 : decode cX5_tickBefore 19 = .ok (.getfield 15, 3) := by decide +kernel
theorem dX5_tickBefore_22 : decode cX5_tickBefore 22 = .ok (.iload_n 3, 1) := by decide +kernel
theorem dX5_tickBefore_23 : decode cX5_tickBefore 23 = .ok (.iaload, 1) := by decide +kernel
theorem dX5_tickBefore_24 : decode cX5_tickBefore 24 = .ok (.iadd, 1) := by decide +kernel
theorem dX5_tickBefore_25 : decode cX5_tickBefore 25 = .ok (.istore_n 2, 1) := by decide +kernel
theorem dX5_tickBefore_26 : decode cX5_tickBefore 26 = .ok (.iinc 3 1, 3) := by decide +kernel
theorem dX5_tickBefore_29 : decode cX5_tickBefore 29 = .ok (.goto (-25), 3) := by decide +kernel
theorem dX5_tickBefore_32 : decode cX5_tickBefore 32 = .ok (.iload_n 2, 1) := by decide +kernel
theorem dX5_tickBefore_33 : decode cX5_tickBefore 33 = .ok (.ireturn, 1) := by decide +kernel
set_option maxHeartbeats 4000000 in
set_option maxRecDepth 100000 in
theorem t_X5_tickBefore_L4 {l : Launch} {E : u_E} {K : u_K} {r : Int} {s' : u_S} (g : Wk l (XE E) { frames := 0, cells := 0, slots := 0, locals := 0 } cX5_tickBefore 4 yX5_tickBefore.cls yX5_tickBefore.name (some .int) (RI E r s') K) {v0_1 : u_O} {v1_1 : Int} (i_v0_1 : is_Line v0_1) (i_v1_1 : InR v1_1) {kx32 : Int → u_S → Option (Int × u_S)} (hkx32 : ∀ (v2_3 : Int) (s_3 : u_S), InR v2_3 → kx32 v2_3 s_3 = some (r, s') → K 0 0 32 [none, none, some (.int (J v2_3)), none] [] (Wd E s_3)) : ∀ (m : Nat) (v2_2 : Int) (v3_1 : Int) (s_2 : u_S), InR v2_2 → InR v3_1 → f_X5_tickBefore_L4 m kx32 v0_1 v1_1 v2_2 v3_1 s_2 = some (r, s') → K 0 0 4 [some (.ref (E.1 v0_1)), some (.int (J v1_1)), some (.int (J v2_2)), some (.int (J v3_1))] [] (Wd E s_2) := by
  have g0 := g.wk
  intro m
  induction m with
  | zero =>
    intro v2_2 v3_1 s_2 i_v2_2 i_v3_1 h
    exact absurd (show (none : Option (Int × u_S)) = some (r, s') from h) (by intro z; cases z)
  | succ m ih =>
    intro v2_2 v3_1 s_2 i_v2_2 i_v3_1 h
    rw [f_X5_tickBefore_L4] at h
    refine r_iload_n g0 dX5_tickBefore_4 rfl ?_
    refine r_iload_n g0 dX5_tickBefore_5 rfl ?_
    refine r_icmp_ge g0 32 dX5_tickBefore_6 (by decide) i_v3_1 i_v1_1 (fun hc => ?_) (fun hc => ?_)
    · replace h := if_f hc h
      refine r_mask g0 (lv' := [none, none, some (.int (J v2_2)), none]) [false, false, true, false] rfl ?_
      exact hkx32 v2_2 s_2 i_v2_2 h
    · replace h := if_t hc h
      refine r_iload_n g0 dX5_tickBefore_9 rfl ?_
      refine r_aload_n g0 dX5_tickBefore_10 rfl ?_
      refine g_Line_count g0 i_v0_1 qX5_18 dX5_tickBefore_11 ?_
      refine r_icmp_ge g0 32 dX5_tickBefore_14 (by decide) i_v3_1 (InR_rd _ _ _) (fun hc => ?_) (fun hc => ?_)
      · replace h := if_f hc h
        refine r_mask g0 (lv' := [none, none, some (.int (J v2_2)), none]) [false, false, true, false] rfl ?_
        exact hkx32 v2_2 s_2 i_v2_2 h
      · replace h := if_t hc h
        refine r_iload_n g0 dX5_tickBefore_17 rfl ?_
        refine r_aload_n g0 dX5_tickBefore_18 rfl ?_
        refine g_Line_ticks g0 i_v0_1 qX5_15 dX5_tickBefore_19 ?_
        refine r_iload_n g0 dX5_tickBefore_22 rfl ?_
        obtain ⟨hb, h⟩ := gd_some h
        refine r_iaload g0 (is_a_Line_ticks i_v0_1) (n := 10) rfl i_v3_1 hb dX5_tickBefore_23 ?_
        refine r_iadd g0 dX5_tickBefore_24 ?_
        refine r_istore_n g0 (lv' := [some (.ref (E.1 v0_1)), some (.int (J v1_1)), some (.int (J (wr (v2_2 + (rd s_2 (a_Line_ticks v0_1) v3_1))))), some (.int (J v3_1))]) dX5_tickBefore_25 (by decide) rfl rfl ?_
        refine r_iinc g0 (a := v3_1) (lv' := [some (.ref (E.1 v0_1)), some (.int (J v1_1)), some (.int (J (wr (v2_2 + (rd s_2 (a_Line_ticks v0_1) v3_1))))), some (.int (J (wr (v3_1 + 1))))]) dX5_tickBefore_26 (by decide) rfl rfl rfl ?_
        refine r_goto g0 4 dX5_tickBefore_29 (by decide) ?_
        exact ih (wr (v2_2 + (rd s_2 (a_Line_ticks v0_1) v3_1))) (wr (v3_1 + 1)) s_2 (InR_wr _) (InR_wr _) h
set_option maxHeartbeats 4000000 in
set_option maxRecDepth 100000 in
theorem c_X5_tickBefore {E : u_E} {l : Launch} {o : u_O} {p1 : Int} (ho : is_Line o) (i_p1 : InR p1) {s s' : u_S} {r : Int} (h : f_X5_tickBefore o p1 s = some (r, s')) : Con l (XE E) yX5_tickBefore cX5_tickBefore 4 (some .int) 0 0 0 0 [.ref (E.1 o), .int (J p1)] (Wd E s) (RI E r s') := by
  refine Con.of [some (.ref (E.1 o)), some (.int (J p1)), none, none] (by decide +kernel) rfl rfl (Nat.le_of_ble_eq_true rfl) (fun K g => ?_)
  have g0 := g.wk
  unfold f_X5_tickBefore at h
  refine r_iconst g0 dX5_tickBefore_0 ?_
  refine r_istore_n g0 (lv' := [some (.ref (E.1 o)), some (.int (J p1)), some (.int (J 0)), none]) dX5_tickBefore_1 (by decide) rfl rfl ?_
  refine r_iconst g0 dX5_tickBefore_2 ?_
  refine r_istore_n g0 (lv' := [some (.ref (E.1 o)), some (.int (J p1)), some (.int (J 0)), some (.int (J 0))]) dX5_tickBefore_3 (by decide) rfl rfl ?_
  refine t_X5_tickBefore_L4 g ho i_p1 ?_ FU 0 0 s (B01.inR B01_0) (B01.inR B01_0) h
  · intro v2_1 s_1 i_v2_1 h
    refine r_iload_n g0 dX5_tickBefore_32 rfl ?_
    exact z_I g dX5_tickBefore_33 i_v2_1 h
theorem dX5_length_0 : decode cX5_length 0 = .ok (.aload_n 0, 1) := by decide +kernel
theorem dX5_length_1 : decode cX5_length 1 = .ok (.aload_n 0, 1) := by decide +kernel
theorem dX5_length_2 : decode cX5_length 2 = .ok (.getfield 18, 3) := by decide +kernel
theorem dX5_length_5 : decode cX5_length 5 = .ok (.invokevirtual 30, 3) := by decide +kernel
theorem dX5_length_8 : decode cX5_length 8 = .ok (.ireturn, 1) := by decide +kernel
set_option maxHeartbeats 4000000 in
set_option maxRecDepth 100000 in
theorem c_X5_length {E : u_E} {l : Launch} {o : u_O} (ho : is_Line o) {s s' : u_S} {r : Int} (h : f_X5_length o s = some (r, s')) : Con l (XE E) yX5_length cX5_length 1 (some .int) 1 23 0 0 [.ref (E.1 o)] (Wd E s) (RI E r s') := by
  refine Con.of [some (.ref (E.1 o))] (by decide +kernel) rfl rfl (Nat.le_of_ble_eq_true rfl) (fun K g => ?_)
  have g0 := g.wk
  unfold f_X5_length at h
  refine r_aload_n g0 dX5_length_0 rfl ?_
  refine r_aload_n g0 dX5_length_1 rfl ?_
  refine g_Line_count g0 ho qX5_18 dX5_length_2 ?_
  obtain ⟨r_1, s_1, hr_1, h⟩ := bd_some h
  refine r_cVI g0 (rest := []) (c_X5_tickBefore ho (InR_rd _ _ _) hr_1) ok_X5_tickBefore mX5_30 (recv_Line ho) dX5_length_5 ⟨Nat.le_of_ble_eq_true rfl, Nat.le_of_ble_eq_true rfl⟩ ⟨Nat.zero_le _, Nat.zero_le _⟩ rfl (Nat.le_of_ble_eq_true rfl) rfl (fun i_r_1 => ?_)
  exact z_I g dX5_length_8 i_r_1 h
theorem dX5_leastStep_0 : decode cX5_leastStep 0 = .ok (.aload_n 0, 1) := by decide +kernel
theorem dX5_leastStep_1 : decode cX5_leastStep 1 = .ok (.invokevirtual 34, 3) := by decide +kernel
theorem dX5_leastStep_4 : decode cX5_leastStep 4 = .ok (.ifCond .eq 7, 3) := by decide +kernel
theorem dX5_leastStep_7 : decode cX5_leastStep 7 = .ok (.iconst (-1), 1) := by decide +kernel
theorem dX5_leastStep_8 : decode cX5_leastStep 8 = .ok (.goto 8, 3) := by decide +kernel
theorem dX5_leastStep_11 : decode cX5_leastStep 11 = .ok (.aload_n 0, 1) := by decide +kernel
theorem dX5_leastStep_12 : decode cX5_leastStep 12 = .ok (.iconst 0, 1) := by decide +kernel
theorem dX5_leastStep_13 : decode cX5_leastStep 13 = .ok (.invokevirtual 37, 3) := by decide +kernel
theorem dX5_leastStep_16 : decode cX5_leastStep 16 = .ok (.istore_n 1, 1) := by decide +kernel
theorem dX5_leastStep_17 : decode cX5_leastStep 17 = .ok (.iconst 1, 1) := by decide +kernel
theorem dX5_leastStep_18 : decode cX5_leastStep 18 = .ok (.istore_n 2, 1) := by decide +kernel
theorem dX5_leastStep_19 : decode cX5_leastStep 19 = .ok (.iload_n 2, 1) := by decide +kernel
theorem dX5_leastStep_20 : decode cX5_leastStep 20 = .ok (.aload_n 0, 1) := by decide +kernel
theorem dX5_leastStep_21 : decode cX5_leastStep 21 = .ok (.getfield 18, 3) := by decide +kernel
theorem dX5_leastStep_24 : decode cX5_leastStep 24 = .ok (.if_icmp .ge 19, 3) := by decide +kernel
theorem dX5_leastStep_27 : decode cX5_leastStep 27 = .ok (.iload_n 1, 1) := by decide +kernel
theorem dX5_leastStep_28 : decode cX5_leastStep 28 = .ok (.aload_n 0, 1) := by decide +kernel
theorem dX5_leastStep_29 : decode cX5_leastStep 29 = .ok (.iload_n 2, 1) := by decide +kernel
theorem dX5_leastStep_30 : decode cX5_leastStep 30 = .ok (.invokevirtual 37, 3) := by decide +kernel
theorem dX5_leastStep_33 : decode cX5_leastStep 33 = .ok (.invokestatic 40, 3) := by decide +kernel
theorem dX5_leastStep_36 : decode cX5_leastStep 36 = .ok (.istore_n 1, 1) := by decide +kernel
theorem dX5_leastStep_37 : decode cX5_leastStep 37 = .ok (.iinc 2 1, 3) := by decide +kernel
theorem dX5_leastStep_40 : decode cX5_leastStep 40 = .ok (.goto (-21), 3) := by decide +kernel
theorem dX5_leastStep_43 : decode cX5_leastStep 43 = .ok (.iload_n 1, 1) := by decide +kernel
theorem dX5_leastStep_44 : decode cX5_leastStep 44 = .ok (.ireturn, 1) := by decide +kernel
set_option maxHeartbeats 4000000 in
set_option maxRecDepth 100000 in
theorem t_X5_leastStep_L19 {l : Launch} {E : u_E} {K : u_K} {r : Int} {s' : u_S} (g : Wk l (XE E) { frames := 2, cells := 0, slots := 0, locals := 42 } cX5_leastStep 3 yX5_leastStep.cls yX5_leastStep.name (some .int) (RI E r s') K) {v0_1 : u_O} (i_v0_1 : is_Line v0_1) {kx43 : Int → u_S → Option (Int × u_S)} (hkx43 : ∀ (v1_3 : Int) (s_7 : u_S), InR v1_3 → kx43 v1_3 s_7 = some (r, s') → K 0 0 43 [none, some (.int (J v1_3)), none] [] (Wd E s_7)) : ∀ (m : Nat) (v1_2 : Int) (v2_1 : Int) (s_4 : u_S), InR v1_2 → InR v2_1 → f_X5_leastStep_L19 m kx43 v0_1 v1_2 v2_1 s_4 = some (r, s') → K 0 0 19 [some (.ref (E.1 v0_1)), some (.int (J v1_2)), some (.int (J v2_1))] [] (Wd E s_4) := by
  have g0 := g.wk
  intro m
  induction m with
  | zero =>
    intro v1_2 v2_1 s_4 i_v1_2 i_v2_1 h
    exact absurd (show (none : Option (Int × u_S)) = some (r, s') from h) (by intro z; cases z)
  | succ m ih =>
    intro v1_2 v2_1 s_4 i_v1_2 i_v2_1 h
    rw [f_X5_leastStep_L19] at h
    refine r_iload_n g0 dX5_leastStep_19 rfl ?_
    refine r_aload_n g0 dX5_leastStep_20 rfl ?_
    refine g_Line_count g0 i_v0_1 qX5_18 dX5_leastStep_21 ?_
    refine r_icmp_ge g0 43 dX5_leastStep_24 (by decide) i_v2_1 (InR_rd _ _ _) (fun hc => ?_) (fun hc => ?_)
    · replace h := if_f hc h
      refine r_mask g0 (lv' := [none, some (.int (J v1_2)), none]) [false, true, false] rfl ?_
      exact hkx43 v1_2 s_4 i_v1_2 h
    · replace h := if_t hc h
      refine r_iload_n g0 dX5_leastStep_27 rfl ?_
      refine r_aload_n g0 dX5_leastStep_28 rfl ?_
      refine r_iload_n g0 dX5_leastStep_29 rfl ?_
      obtain ⟨r_2, s_5, hr_2, h⟩ := bd_some h
      refine r_cVI g0 (rest := [.int (J v1_2)]) (c_X5_stepOf i_v0_1 i_v2_1 hr_2) ok_X5_stepOf mX5_37 (recv_Line i_v0_1) dX5_leastStep_30 ⟨Nat.le_of_ble_eq_true rfl, Nat.le_of_ble_eq_true rfl⟩ ⟨Nat.zero_le _, Nat.zero_le _⟩ rfl (Nat.le_of_ble_eq_true rfl) rfl (fun i_r_2 => ?_)
      obtain ⟨r_3, s_6, hr_3, h⟩ := bd_some h
      refine r_cSI g0 (rest := []) (c_J9_min_7cf53 i_v1_2 i_r_2 hr_3) ok_J9_min_7cf53 mX5_40 dX5_leastStep_33 ⟨Nat.le_of_ble_eq_true rfl, Nat.le_of_ble_eq_true rfl⟩ ⟨Nat.zero_le _, Nat.zero_le _⟩ rfl (Nat.le_of_ble_eq_true rfl) rfl (fun i_r_3 => ?_)
      refine r_istore_n g0 (lv' := [some (.ref (E.1 v0_1)), some (.int (J r_3)), some (.int (J v2_1))]) dX5_leastStep_36 (by decide) rfl rfl ?_
      refine r_iinc g0 (a := v2_1) (lv' := [some (.ref (E.1 v0_1)), some (.int (J r_3)), some (.int (J (wr (v2_1 + 1))))]) dX5_leastStep_37 (by decide) rfl rfl rfl ?_
      refine r_goto g0 19 dX5_leastStep_40 (by decide) ?_
      exact ih r_3 (wr (v2_1 + 1)) s_6 i_r_3 (InR_wr _) h
set_option maxHeartbeats 4000000 in
set_option maxRecDepth 100000 in
theorem c_X5_leastStep {E : u_E} {l : Launch} {o : u_O} (ho : is_Line o) {s s' : u_S} {r : Int} (h : f_X5_leastStep o s = some (r, s')) : Con l (XE E) yX5_leastStep cX5_leastStep 3 (some .int) 2 42 0 0 [.ref (E.1 o)] (Wd E s) (RI E r s') := by
  refine Con.of [some (.ref (E.1 o)), none, none] (by decide +kernel) rfl rfl (Nat.le_of_ble_eq_true rfl) (fun K g => ?_)
  have g0 := g.wk
  unfold f_X5_leastStep at h
  refine r_aload_n g0 dX5_leastStep_0 rfl ?_
  obtain ⟨r_1, s_1, hr_1, h⟩ := bd_some h
  refine r_cVZ g0 (rest := []) (c_X5_isEmpty ho hr_1) ok_X5_isEmpty mX5_34 (recv_Line ho) dX5_leastStep_1 ⟨Nat.le_of_ble_eq_true rfl, Nat.le_of_ble_eq_true rfl⟩ ⟨Nat.zero_le _, Nat.zero_le _⟩ rfl (Nat.le_of_ble_eq_true rfl) rfl (fun i_r_1 => ?_)
  obtain ⟨jp_1, hdjp_1, h⟩ := jn_some h
  have hjp_1 : ∀ (vt_1 : Int) (s_2 : u_S), InR vt_1 → jp_1 vt_1 s_2 = some (r, s') → K 0 0 16 [some (.ref (E.1 o)), none, none] [.int (J vt_1)] (Wd E s_2) := by
    intro vt_1 s_2 i_vt_1 h
    subst hdjp_1
    refine r_istore_n g0 (lv' := [some (.ref (E.1 o)), some (.int (J vt_1)), none]) dX5_leastStep_16 (by decide) rfl rfl ?_
    refine r_iconst g0 dX5_leastStep_17 ?_
    refine r_istore_n g0 (lv' := [some (.ref (E.1 o)), some (.int (J vt_1)), some (.int (J 1))]) dX5_leastStep_18 (by decide) rfl rfl ?_
    refine t_X5_leastStep_L19 g ho ?_ FU vt_1 1 s_2 i_vt_1 (B01.inR B01_1) h
    · intro v1_1 s_3 i_v1_1 h
      refine r_iload_n g0 dX5_leastStep_43 rfl ?_
      exact z_I g dX5_leastStep_44 i_v1_1 h
  clear hdjp_1
  refine r_if_eq g0 11 dX5_leastStep_4 (by decide) (B01.inR i_r_1) (fun hc => ?_) (fun hc => ?_)
  · replace h := if_t hc h
    refine r_aload_n g0 dX5_leastStep_11 rfl ?_
    refine r_iconst g0 dX5_leastStep_12 ?_
    obtain ⟨r_4, s_8, hr_4, h⟩ := bd_some h
    refine r_cVI g0 (rest := []) (c_X5_stepOf ho (B01.inR B01_0) hr_4) ok_X5_stepOf mX5_37 (recv_Line ho) dX5_leastStep_13 ⟨Nat.le_of_ble_eq_true rfl, Nat.le_of_ble_eq_true rfl⟩ ⟨Nat.zero_le _, Nat.zero_le _⟩ rfl (Nat.le_of_ble_eq_true rfl) rfl (fun i_r_4 => ?_)
    exact hjp_1 r_4 s_8 i_r_4 h
  · replace h := if_f hc h
    refine r_iconst g0 dX5_leastStep_7 ?_
    refine r_goto g0 16 dX5_leastStep_8 (by decide) ?_
    exact hjp_1 (-1) s_1 (InR_lit rfl) h
theorem dX5_greatestStep_0 : decode cX5_greatestStep 0 = .ok (.aload_n 0, 1) := by decide +kernel
theorem dX5_greatestStep_1 : decode cX5_greatestStep 1 = .ok (.invokevirtual 34, 3) := by decide +kernel
theorem dX5_greatestStep_4 : decode cX5_greatestStep 4 = .ok (.ifCond .eq 7, 3) := by decide +kernel
theorem dX5_greatestStep_7 : decode cX5_greatestStep 7 = .ok (.iconst (-1), 1) := by decide +kernel
theorem dX5_greatestStep_8 : decode cX5_greatestStep 8 = .ok (.goto 8, 3) := by decide +kernel
theorem dX5_greatestStep_11 : decode cX5_greatestStep 11 = .ok (.aload_n 0, 1) := by decide +kernel
theorem dX5_greatestStep_12 : decode cX5_greatestStep 12 = .ok (.iconst 0, 1) := by decide +kernel
theorem dX5_greatestStep_13 : decode cX5_greatestStep 13 = .ok (.invokevirtual 37, 3) := by decide +kernel
theorem dX5_greatestStep_16 : decode cX5_greatestStep 16 = .ok (.istore_n 1, 1) := by decide +kernel
theorem dX5_greatestStep_17 : decode cX5_greatestStep 17 = .ok (.iconst 1, 1) := by decide +kernel
theorem dX5_greatestStep_18 : decode cX5_greatestStep 18 = .ok (.istore_n 2, 1) := by decide +kernel
theorem dX5_greatestStep_19 : decode cX5_greatestStep 19 = .ok (.iload_n 2, 1) := by decide +kernel
theorem dX5_greatestStep_20 : decode cX5_greatestStep 20 = .ok (.aload_n 0, 1) := by decide +kernel
theorem dX5_greatestStep_21 : decode cX5_greatestStep 21 = .ok (.getfield 18, 3) := by decide +kernel
theorem dX5_greatestStep_24 : decode cX5_greatestStep 24 = .ok (.if_icmp .ge 19, 3) := by decide +kernel
theorem dX5_greatestStep_27 : decode cX5_greatestStep 27 = .ok (.iload_n 1, 1) := by decide +kernel
theorem dX5_greatestStep_28 : decode cX5_greatestStep 28 = .ok (.aload_n 0, 1) := by decide +kernel
theorem dX5_greatestStep_29 : decode cX5_greatestStep 29 = .ok (.iload_n 2, 1) := by decide +kernel
theorem dX5_greatestStep_30 : decode cX5_greatestStep 30 = .ok (.invokevirtual 37, 3) := by decide +kernel
theorem dX5_greatestStep_33 : decode cX5_greatestStep 33 = .ok (.invokestatic 46, 3) := by decide +kernel
theorem dX5_greatestStep_36 : decode cX5_greatestStep 36 = .ok (.istore_n 1, 1) := by decide +kernel
theorem dX5_greatestStep_37 : decode cX5_greatestStep 37 = .ok (.iinc 2 1, 3) := by decide +kernel
theorem dX5_greatestStep_40 : decode cX5_greatestStep 40 = .ok (.goto (-21), 3) := by decide +kernel
theorem dX5_greatestStep_43 : decode cX5_greatestStep 43 = .ok (.iload_n 1, 1) := by decide +kernel
theorem dX5_greatestStep_44 : decode cX5_greatestStep 44 = .ok (.ireturn, 1) := by decide +kernel
set_option maxHeartbeats 4000000 in
set_option maxRecDepth 100000 in
theorem t_X5_greatestStep_L19 {l : Launch} {E : u_E} {K : u_K} {r : Int} {s' : u_S} (g : Wk l (XE E) { frames := 2, cells := 0, slots := 0, locals := 42 } cX5_greatestStep 3 yX5_greatestStep.cls yX5_greatestStep.name (some .int) (RI E r s') K) {v0_1 : u_O} (i_v0_1 : is_Line v0_1) {kx43 : Int → u_S → Option (Int × u_S)} (hkx43 : ∀ (v1_3 : Int) (s_7 : u_S), InR v1_3 → kx43 v1_3 s_7 = some (r, s') → K 0 0 43 [none, some (.int (J v1_3)), none] [] (Wd E s_7)) : ∀ (m : Nat) (v1_2 : Int) (v2_1 : Int) (s_4 : u_S), InR v1_2 → InR v2_1 → f_X5_greatestStep_L19 m kx43 v0_1 v1_2 v2_1 s_4 = some (r, s') → K 0 0 19 [some (.ref (E.1 v0_1)), some (.int (J v1_2)), some (.int (J v2_1))] [] (Wd E s_4) := by
  have g0 := g.wk
  intro m
  induction m with
  | zero =>
    intro v1_2 v2_1 s_4 i_v1_2 i_v2_1 h
    exact absurd (show (none : Option (Int × u_S)) = some (r, s') from h) (by intro z; cases z)
  | succ m ih =>
    intro v1_2 v2_1 s_4 i_v1_2 i_v2_1 h
    rw [f_X5_greatestStep_L19] at h
    refine r_iload_n g0 dX5_greatestStep_19 rfl ?_
    refine r_aload_n g0 dX5_greatestStep_20 rfl ?_
    refine g_Line_count g0 i_v0_1 qX5_18 dX5_greatestStep_21 ?_
    refine r_icmp_ge g0 43 dX5_greatestStep_24 (by decide) i_v2_1 (InR_rd _ _ _) (fun hc => ?_) (fun hc => ?_)
    · replace h := if_f hc h
      refine r_mask g0 (lv' := [none, some (.int (J v1_2)), none]) [false, true, false] rfl ?_
      exact hkx43 v1_2 s_4 i_v1_2 h
    · replace h := if_t hc h
      refine r_iload_n g0 dX5_greatestStep_27 rfl ?_
      refine r_aload_n g0 dX5_greatestStep_28 rfl ?_
      refine r_iload_n g0 dX5_greatestStep_29 rfl ?_
      obtain ⟨r_2, s_5, hr_2, h⟩ := bd_some h
      refine r_cVI g0 (rest := [.int (J v1_2)]) (c_X5_stepOf i_v0_1 i_v2_1 hr_2) ok_X5_stepOf mX5_37 (recv_Line i_v0_1) dX5_greatestStep_30 ⟨Nat.le_of_ble_eq_true rfl, Nat.le_of_ble_eq_true rfl⟩ ⟨Nat.zero_le _, Nat.zero_le _⟩ rfl (Nat.le_of_ble_eq_true rfl) rfl (fun i_r_2 => ?_)
      obtain ⟨r_3, s_6, hr_3, h⟩ := bd_some h
      refine r_cSI g0 (rest := []) (c_J9_max_7cf53 i_v1_2 i_r_2 hr_3) ok_J9_max_7cf53 mX5_46 dX5_greatestStep_33 ⟨Nat.le_of_ble_eq_true rfl, Nat.le_of_ble_eq_true rfl⟩ ⟨Nat.zero_le _, Nat.zero_le _⟩ rfl (Nat.le_of_ble_eq_true rfl) rfl (fun i_r_3 => ?_)
      refine r_istore_n g0 (lv' := [some (.ref (E.1 v0_1)), some (.int (J r_3)), some (.int (J v2_1))]) dX5_greatestStep_36 (by decide) rfl rfl ?_
      refine r_iinc g0 (a := v2_1) (lv' := [some (.ref (E.1 v0_1)), some (.int (J r_3)), some (.int (J (wr (v2_1 + 1))))]) dX5_greatestStep_37 (by decide) rfl rfl rfl ?_
      refine r_goto g0 19 dX5_greatestStep_40 (by decide) ?_
      exact ih r_3 (wr (v2_1 + 1)) s_6 i_r_3 (InR_wr _) h
set_option maxHeartbeats 4000000 in
set_option maxRecDepth 100000 in
theorem c_X5_greatestStep {E : u_E} {l : Launch} {o : u_O} (ho : is_Line o) {s s' : u_S} {r : Int} (h : f_X5_greatestStep o s = some (r, s')) : Con l (XE E) yX5_greatestStep cX5_greatestStep 3 (some .int) 2 42 0 0 [.ref (E.1 o)] (Wd E s) (RI E r s') := by
  refine Con.of [some (.ref (E.1 o)), none, none] (by decide +kernel) rfl rfl (Nat.le_of_ble_eq_true rfl) (fun K g => ?_)
  have g0 := g.wk
  unfold f_X5_greatestStep at h
  refine r_aload_n g0 dX5_greatestStep_0 rfl ?_
  obtain ⟨r_1, s_1, hr_1, h⟩ := bd_some h
  refine r_cVZ g0 (rest := []) (c_X5_isEmpty ho hr_1) ok_X5_isEmpty mX5_34 (recv_Line ho) dX5_greatestStep_1 ⟨Nat.le_of_ble_eq_true rfl, Nat.le_of_ble_eq_true rfl⟩ ⟨Nat.zero_le _, Nat.zero_le _⟩ rfl (Nat.le_of_ble_eq_true rfl) rfl (fun i_r_1 => ?_)
  obtain ⟨jp_1, hdjp_1, h⟩ := jn_some h
  have hjp_1 : ∀ (vt_1 : Int) (s_2 : u_S), InR vt_1 → jp_1 vt_1 s_2 = some (r, s') → K 0 0 16 [some (.ref (E.1 o)), none, none] [.int (J vt_1)] (Wd E s_2) := by
    intro vt_1 s_2 i_vt_1 h
    subst hdjp_1
    refine r_istore_n g0 (lv' := [some (.ref (E.1 o)), some (.int (J vt_1)), none]) dX5_greatestStep_16 (by decide) rfl rfl ?_
    refine r_iconst g0 dX5_greatestStep_17 ?_
    refine r_istore_n g0 (lv' := [some (.ref (E.1 o)), some (.int (J vt_1)), some (.int (J 1))]) dX5_greatestStep_18 (by decide) rfl rfl ?_
    refine t_X5_greatestStep_L19 g ho ?_ FU vt_1 1 s_2 i_vt_1 (B01.inR B01_1) h
    · intro v1_1 s_3 i_v1_1 h
      refine r_iload_n g0 dX5_greatestStep_43 rfl ?_
      exact z_I g dX5_greatestStep_44 i_v1_1 h
  clear hdjp_1
  refine r_if_eq g0 11 dX5_greatestStep_4 (by decide) (B01.inR i_r_1) (fun hc => ?_) (fun hc => ?_)
  · replace h := if_t hc h
    refine r_aload_n g0 dX5_greatestStep_11 rfl ?_
    refine r_iconst g0 dX5_greatestStep_12 ?_
    obtain ⟨r_4, s_8, hr_4, h⟩ := bd_some h
    refine r_cVI g0 (rest := []) (c_X5_stepOf ho (B01.inR B01_0) hr_4) ok_X5_stepOf mX5_37 (recv_Line ho) dX5_greatestStep_13 ⟨Nat.le_of_ble_eq_true rfl, Nat.le_of_ble_eq_true rfl⟩ ⟨Nat.zero_le _, Nat.zero_le _⟩ rfl (Nat.le_of_ble_eq_true rfl) rfl (fun i_r_4 => ?_)
    exact hjp_1 r_4 s_8 i_r_4 h
  · replace h := if_f hc h
    refine r_iconst g0 dX5_greatestStep_7 ?_
    refine r_goto g0 16 dX5_greatestStep_8 (by decide) ?_
    exact hjp_1 (-1) s_1 (InR_lit rfl) h
theorem dX6_addNote_0 : decode cX6_addNote 0 = .ok (.iload_n 1, 1) := by decide +kernel
theorem dX6_addNote_1 : decode cX6_addNote 1 = .ok (.invokestatic 52, 3) := by decide +kernel
theorem dX6_addNote_4 : decode cX6_addNote 4 = .ok (.ifCond .eq 22, 3) := by decide +kernel
theorem dX6_addNote_7 : decode cX6_addNote 7 = .ok (.iload_n 2, 1) := by decide +kernel
theorem dX6_addNote_8 : decode cX6_addNote 8 = .ok (.iconst 0, 1) := by decide +kernel
theorem dX6_addNote_9 : decode cX6_addNote 9 = .ok (.bipush 27, 2) := by decide +kernel
theorem dX6_addNote_11 : decode cX6_addNote 11 = .ok (.invokestatic 56, 3) := by decide +kernel
theorem dX6_addNote_14 : decode cX6_addNote 14 = .ok (.ifCond .eq 12, 3) := by decide +kernel
theorem dX6_addNote_17 : decode cX6_addNote 17 = .ok (.iload_n 3, 1) := by decide +kernel
theorem dX6_addNote_18 : decode cX6_addNote 18 = .ok (.iconst 1, 1) := by decide +kernel
theorem dX6_addNote_19 : decode cX6_addNote 19 = .ok (.iconst 4, 1) := by decide +kernel
theorem dX6_addNote_20 : decode cX6_addNote 20 = .ok (.invokestatic 56, 3) := by decide +kernel
theorem dX6_addNote_23 : decode cX6_addNote 23 = .ok (.ifCond .ne 6, 3) := by decide +kernel
theorem dX6_addNote_26 : decode cX6_addNote 26 = .ok (.bipush (-2), 2) := by decide +kernel
theorem dX6_addNote_28 : decode cX6_addNote 28 = .ok (.ireturn, 1) := by decide +kernel
theorem dX6_addNote_29 : decode cX6_addNote 29 = .ok (.aload_n 0, 1) := by decide +kernel
theorem dX6_addNote_30 : decode cX6_addNote 30 = .ok (.getfield 20, 3) := by decide +kernel
theorem dX6_addNote_33 : decode cX6_addNote 33 = .ok (.iload_n 1, 1) := by decide +kernel
theorem dX6_addNote_34 : decode cX6_addNote 34 = .ok (.invokevirtual 60, 3) := by decide +kernel
theorem dX6_addNote_37 : decode cX6_addNote 37 = .ok (.ifCond .le 6, 3) := by decide +kernel
theorem dX6_addNote_40 : decode cX6_addNote 40 = .ok (.bipush (-3), 2) := by decide +kernel
theorem dX6_addNote_42 : decode cX6_addNote 42 = .ok (.ireturn, 1) := by decide +kernel
theorem dX6_addNote_43 : decode cX6_addNote 43 = .ok (.aload_n 0, 1) := by decide +kernel
theorem dX6_addNote_44 : decode cX6_addNote 44 = .ok (.getfield 11, 3) := by decide +kernel
theorem dX6_addNote_47 : decode cX6_addNote 47 = .ok (.iload_n 1, 1) := by decide +kernel
theorem dX6_addNote_48 : decode cX6_addNote 48 = .ok (.aaload, 1) := by decide +kernel
theorem dX6_addNote_49 : decode cX6_addNote 49 = .ok (.invokevirtual 64, 3) := by decide +kernel
theorem dX6_addNote_52 : decode cX6_addNote 52 = .ok (.ifCond .eq 6, 3) := by decide +kernel
theorem dX6_addNote_55 : decode cX6_addNote 55 = .ok (.bipush (-4), 2) := by decide +kernel
theorem dX6_addNote_57 : decode cX6_addNote 57 = .ok (.ireturn, 1) := by decide +kernel
theorem dX6_addNote_58 : decode cX6_addNote 58 = .ok (.aload_n 0, 1) := by decide +kernel
theorem dX6_addNote_59 : decode cX6_addNote 59 = .ok (.getfield 11, 3) := by decide +kernel
theorem dX6_addNote_62 : decode cX6_addNote 62 = .ok (.iload_n 1, 1) := by decide +kernel
theorem dX6_addNote_63 : decode cX6_addNote 63 = .ok (.aaload, 1) := by decide +kernel
theorem dX6_addNote_64 : decode cX6_addNote 64 = .ok (.iload_n 2, 1) := by decide +kernel
theorem dX6_addNote_65 : decode cX6_addNote 65 = .ok (.iload_n 3, 1) := by decide +kernel
theorem dX6_addNote_66 : decode cX6_addNote 66 = .ok (.invokevirtual 68, 3) := by decide +kernel
theorem dX6_addNote_69 : decode cX6_addNote 69 = .ok (.aload_n 0, 1) := by decide +kernel
theorem dX6_addNote_70 : decode cX6_addNote 70 = .ok (.getfield 11, 3) := by decide +kernel
theorem dX6_addNote_73 : decode cX6_addNote 73 = .ok (.iload_n 1, 1) := by decide +kernel
theorem dX6_addNote_74 : decode cX6_addNote 74 = .ok (.aaload, 1) := by decide +kernel
theorem dX6_addNote_75 : decode cX6_addNote 75 = .ok (.getfield 72, 3) := by decide +kernel
theorem dX6_addNote_78 : decode cX6_addNote 78 = .ok (.iconst 1, 1) := by decide +kernel
theorem dX6_addNote_79 : decode cX6_addNote 79 = .ok (.isub, 1) := by decide +kernel
theorem dX6_addNote_80 : decode cX6_addNote 80 = .ok (.ireturn, 1) := by decide +kernel
set_option maxHeartbeats 4000000 in
set_option maxRecDepth 100000 in
theorem c_X6_addNote {E : u_E} {l : Launch} {o : u_O} {p1 : Int} {p2 : Int} {p3 : Int} (ho : is_Plan o) (i_p1 : InR p1) (i_p2 : InR p2) (i_p3 : InR p3) {s s' : u_S} {r : Int} (h : f_X6_addNote o p1 p2 p3 s = some (r, s')) : Con l (XE E) yX6_addNote cX6_addNote 4 (some .int) 2 42 0 0 [.ref (E.1 o), .int (J p1), .int (J p2), .int (J p3)] (Wd E s) (RI E r s') := by
  refine Con.of [some (.ref (E.1 o)), some (.int (J p1)), some (.int (J p2)), some (.int (J p3))] (by decide +kernel) rfl rfl (Nat.le_of_ble_eq_true rfl) (fun K g => ?_)
  have g0 := g.wk
  unfold f_X6_addNote at h
  refine r_iload_n g0 dX6_addNote_0 rfl ?_
  obtain ⟨r_1, s_1, hr_1, h⟩ := bd_some h
  refine r_cNZ g0 (rest := []) (c_X10_isLine i_p1 hr_1) ok_X10_isLine mX6_52 dX6_addNote_1 ⟨Nat.le_of_ble_eq_true rfl, Nat.le_of_ble_eq_true rfl⟩ ⟨Nat.zero_le _, Nat.zero_le _⟩ rfl (Nat.le_of_ble_eq_true rfl) rfl (fun i_r_1 => ?_)
  refine r_if_eq g0 26 dX6_addNote_4 (by decide) (B01.inR i_r_1) (fun hc => ?_) (fun hc => ?_)
  · replace h := if_t hc h
    refine r_bipush g0 dX6_addNote_26 rfl ?_
    exact z_I g dX6_addNote_28 (InR_lit rfl) h
  · replace h := if_f hc h
    refine r_iload_n g0 dX6_addNote_7 rfl ?_
    refine r_iconst g0 dX6_addNote_8 ?_
    refine r_bipush g0 dX6_addNote_9 rfl ?_
    obtain ⟨r_2, s_2, hr_2, h⟩ := bd_some h
    refine r_cNZ g0 (rest := []) (c_X10_within i_p2 (B01.inR B01_0) (InR_lit rfl) hr_2) ok_X10_within mX6_56 dX6_addNote_11 ⟨Nat.le_of_ble_eq_true rfl, Nat.le_of_ble_eq_true rfl⟩ ⟨Nat.zero_le _, Nat.zero_le _⟩ rfl (Nat.le_of_ble_eq_true rfl) rfl (fun i_r_2 => ?_)
    refine r_if_eq g0 26 dX6_addNote_14 (by decide) (B01.inR i_r_2) (fun hc => ?_) (fun hc => ?_)
    · replace h := if_t hc h
      refine r_bipush g0 dX6_addNote_26 rfl ?_
      exact z_I g dX6_addNote_28 (InR_lit rfl) h
    · replace h := if_f hc h
      refine r_iload_n g0 dX6_addNote_17 rfl ?_
      refine r_iconst g0 dX6_addNote_18 ?_
      refine r_iconst g0 dX6_addNote_19 ?_
      obtain ⟨r_3, s_3, hr_3, h⟩ := bd_some h
      refine r_cNZ g0 (rest := []) (c_X10_within i_p3 (B01.inR B01_1) (InR_lit rfl) hr_3) ok_X10_within mX6_56 dX6_addNote_20 ⟨Nat.le_of_ble_eq_true rfl, Nat.le_of_ble_eq_true rfl⟩ ⟨Nat.zero_le _, Nat.zero_le _⟩ rfl (Nat.le_of_ble_eq_true rfl) rfl (fun i_r_3 => ?_)
      refine r_if_ne g0 29 dX6_addNote_23 (by decide) (B01.inR i_r_3) (fun hc => ?_) (fun hc => ?_)
      · replace h := if_f hc h
        refine r_aload_n g0 dX6_addNote_29 rfl ?_
        refine g_Plan_entries g0 ho qX6_20 dX6_addNote_30 ?_
        refine r_iload_n g0 dX6_addNote_33 rfl ?_
        obtain ⟨r_4, s_4, hr_4, h⟩ := bd_some h
        refine r_cVI g0 (rest := []) (c_X1_having (is_a_Plan_entries ho) i_p1 hr_4) ok_X1_having mX6_60 (recv_Entries (is_a_Plan_entries ho)) dX6_addNote_34 ⟨Nat.le_of_ble_eq_true rfl, Nat.le_of_ble_eq_true rfl⟩ ⟨Nat.zero_le _, Nat.zero_le _⟩ rfl (Nat.le_of_ble_eq_true rfl) rfl (fun i_r_4 => ?_)
        refine r_if_le g0 43 dX6_addNote_37 (by decide) i_r_4 (fun hc => ?_) (fun hc => ?_)
        · replace h := if_t hc h
          refine r_aload_n g0 dX6_addNote_43 rfl ?_
          refine g_Plan_lines g0 ho qX6_11 dX6_addNote_44 ?_
          refine r_iload_n g0 dX6_addNote_47 rfl ?_
          obtain ⟨hb, h⟩ := gd_some h
          refine r_aald_Line g0 (is_a_Plan_lines ho) i_p1 hb dX6_addNote_48 ?_
          obtain ⟨r_5, s_5, hr_5, h⟩ := bd_some h
          refine r_cVZ g0 (rest := []) (c_X5_isFull (is_e_Line (is_a_Plan_lines ho) hb) hr_5) ok_X5_isFull mX6_64 (recv_Line (is_e_Line (is_a_Plan_lines ho) hb)) dX6_addNote_49 ⟨Nat.le_of_ble_eq_true rfl, Nat.le_of_ble_eq_true rfl⟩ ⟨Nat.zero_le _, Nat.zero_le _⟩ rfl (Nat.le_of_ble_eq_true rfl) rfl (fun i_r_5 => ?_)
          refine r_if_eq g0 58 dX6_addNote_52 (by decide) (B01.inR i_r_5) (fun hc => ?_) (fun hc => ?_)
          · replace h := if_t hc h
            refine r_aload_n g0 dX6_addNote_58 rfl ?_
            refine g_Plan_lines g0 ho qX6_11 dX6_addNote_59 ?_
            refine r_iload_n g0 dX6_addNote_62 rfl ?_
            obtain ⟨hb_2, h⟩ := gd_some h
            refine r_aald_Line g0 (is_a_Plan_lines ho) i_p1 hb_2 dX6_addNote_63 ?_
            refine r_iload_n g0 dX6_addNote_64 rfl ?_
            refine r_iload_n g0 dX6_addNote_65 rfl ?_
            obtain ⟨r_6, s_6, hr_6, h⟩ := bd_some h
            refine r_cVV g0 (rest := []) (c_X5_append (is_e_Line (is_a_Plan_lines ho) hb_2) i_p2 i_p3 hr_6) ok_X5_append mX6_68 (recv_Line (is_e_Line (is_a_Plan_lines ho) hb_2)) dX6_addNote_66 ⟨Nat.le_of_ble_eq_true rfl, Nat.le_of_ble_eq_true rfl⟩ ⟨Nat.zero_le _, Nat.zero_le _⟩ rfl (Nat.le_of_ble_eq_true rfl) rfl ?_
            refine r_aload_n g0 dX6_addNote_69 rfl ?_
            refine g_Plan_lines g0 ho qX6_11 dX6_addNote_70 ?_
            refine r_iload_n g0 dX6_addNote_73 rfl ?_
            obtain ⟨hb_3, h⟩ := gd_some h
            refine r_aald_Line g0 (is_a_Plan_lines ho) i_p1 hb_3 dX6_addNote_74 ?_
            refine g_Line_count g0 (is_e_Line (is_a_Plan_lines ho) hb_3) qX6_72 dX6_addNote_75 ?_
            refine r_iconst g0 dX6_addNote_78 ?_
            refine r_isub g0 dX6_addNote_79 ?_
            exact z_I g dX6_addNote_80 (InR_wr _) h
          · replace h := if_f hc h
            refine r_bipush g0 dX6_addNote_55 rfl ?_
            exact z_I g dX6_addNote_57 (InR_lit rfl) h
        · replace h := if_f hc h
          refine r_bipush g0 dX6_addNote_40 rfl ?_
          exact z_I g dX6_addNote_42 (InR_lit rfl) h
      · replace h := if_t hc h
        refine r_bipush g0 dX6_addNote_26 rfl ?_
        exact z_I g dX6_addNote_28 (InR_lit rfl) h
theorem dX6_dropNote_0 : decode cX6_dropNote 0 = .ok (.iload_n 1, 1) := by decide +kernel
theorem dX6_dropNote_1 : decode cX6_dropNote 1 = .ok (.invokestatic 52, 3) := by decide +kernel
theorem dX6_dropNote_4 : decode cX6_dropNote 4 = .ok (.ifCond .eq 16, 3) := by decide +kernel
theorem dX6_dropNote_7 : decode cX6_dropNote 7 = .ok (.aload_n 0, 1) := by decide +kernel
theorem dX6_dropNote_8 : decode cX6_dropNote 8 = .ok (.getfield 11, 3) := by decide +kernel
theorem dX6_dropNote_11 : decode cX6_dropNote 11 = .ok (.iload_n 1, 1) := by decide +kernel
theorem dX6_dropNote_12 : decode cX6_dropNote 12 = .ok (.aaload, 1) := by decide +kernel
theorem dX6_dropNote_13 : decode cX6_dropNote 13 = .ok (.iload_n 2, 1) := by decide +kernel
theorem dX6_dropNote_14 : decode cX6_dropNote 14 = .ok (.invokevirtual 75, 3) := by decide +kernel
theorem dX6_dropNote_17 : decode cX6_dropNote 17 = .ok (.ifCond .ne 6, 3) := by decide +kernel
theorem dX6_dropNote_20 : decode cX6_dropNote 20 = .ok (.bipush (-2), 2) := by decide +kernel
theorem dX6_dropNote_22 : decode cX6_dropNote 22 = .ok (.ireturn, 1) := by decide +kernel
theorem dX6_dropNote_23 : decode cX6_dropNote 23 = .ok (.aload_n 0, 1) := by decide +kernel
theorem dX6_dropNote_24 : decode cX6_dropNote 24 = .ok (.getfield 20, 3) := by decide +kernel
theorem dX6_dropNote_27 : decode cX6_dropNote 27 = .ok (.iload_n 1, 1) := by decide +kernel
theorem dX6_dropNote_28 : decode cX6_dropNote 28 = .ok (.invokevirtual 60, 3) := by decide +kernel
theorem dX6_dropNote_31 : decode cX6_dropNote 31 = .ok (.ifCond .le 6, 3) := by decide +kernel
theorem dX6_dropNote_34 : decode cX6_dropNote 34 = .ok (.bipush (-3), 2) := by decide +kernel
theorem dX6_dropNote_36 : decode cX6_dropNote 36 = .ok (.ireturn, 1) := by decide +kernel
theorem dX6_dropNote_37 : decode cX6_dropNote 37 = .ok (.aload_n 0, 1) := by decide +kernel
theorem dX6_dropNote_38 : decode cX6_dropNote 38 = .ok (.getfield 11, 3) := by decide +kernel
theorem dX6_dropNote_41 : decode cX6_dropNote 41 = .ok (.iload_n 1, 1) := by decide +kernel
theorem dX6_dropNote_42 : decode cX6_dropNote 42 = .ok (.aaload, 1) := by decide +kernel
theorem dX6_dropNote_43 : decode cX6_dropNote 43 = .ok (.iload_n 2, 1) := by decide +kernel
theorem dX6_dropNote_44 : decode cX6_dropNote 44 = .ok (.invokevirtual 78, 3) := by decide +kernel
theorem dX6_dropNote_47 : decode cX6_dropNote 47 = .ok (.aload_n 0, 1) := by decide +kernel
theorem dX6_dropNote_48 : decode cX6_dropNote 48 = .ok (.getfield 11, 3) := by decide +kernel
theorem dX6_dropNote_51 : decode cX6_dropNote 51 = .ok (.iload_n 1, 1) := by decide +kernel
theorem dX6_dropNote_52 : decode cX6_dropNote 52 = .ok (.aaload, 1) := by decide +kernel
theorem dX6_dropNote_53 : decode cX6_dropNote 53 = .ok (.getfield 72, 3) := by decide +kernel
theorem dX6_dropNote_56 : decode cX6_dropNote 56 = .ok (.ireturn, 1) := by decide +kernel
set_option maxHeartbeats 4000000 in
set_option maxRecDepth 100000 in
theorem c_X6_dropNote {E : u_E} {l : Launch} {o : u_O} {p1 : Int} {p2 : Int} (ho : is_Plan o) (i_p1 : InR p1) (i_p2 : InR p2) {s s' : u_S} {r : Int} (h : f_X6_dropNote o p1 p2 s = some (r, s')) : Con l (XE E) yX6_dropNote cX6_dropNote 3 (some .int) 2 43 0 0 [.ref (E.1 o), .int (J p1), .int (J p2)] (Wd E s) (RI E r s') := by
  refine Con.of [some (.ref (E.1 o)), some (.int (J p1)), some (.int (J p2))] (by decide +kernel) rfl rfl (Nat.le_of_ble_eq_true rfl) (fun K g => ?_)
  have g0 := g.wk
  unfold f_X6_dropNote at h
  refine r_iload_n g0 dX6_dropNote_0 rfl ?_
  obtain ⟨r_1, s_1, hr_1, h⟩ := bd_some h
  refine r_cNZ g0 (rest := []) (c_X10_isLine i_p1 hr_1) ok_X10_isLine mX6_52 dX6_dropNote_1 ⟨Nat.le_of_ble_eq_true rfl, Nat.le_of_ble_eq_true rfl⟩ ⟨Nat.zero_le _, Nat.zero_le _⟩ rfl (Nat.le_of_ble_eq_true rfl) rfl (fun i_r_1 => ?_)
  refine r_if_eq g0 20 dX6_dropNote_4 (by decide) (B01.inR i_r_1) (fun hc => ?_) (fun hc => ?_)
  · replace h := if_t hc h
    refine r_bipush g0 dX6_dropNote_20 rfl ?_
    exact z_I g dX6_dropNote_22 (InR_lit rfl) h
  · replace h := if_f hc h
    refine r_aload_n g0 dX6_dropNote_7 rfl ?_
    refine g_Plan_lines g0 ho qX6_11 dX6_dropNote_8 ?_
    refine r_iload_n g0 dX6_dropNote_11 rfl ?_
    obtain ⟨hb, h⟩ := gd_some h
    refine r_aald_Line g0 (is_a_Plan_lines ho) i_p1 hb dX6_dropNote_12 ?_
    refine r_iload_n g0 dX6_dropNote_13 rfl ?_
    obtain ⟨r_2, s_2, hr_2, h⟩ := bd_some h
    refine r_cVZ g0 (rest := []) (c_X5_has (is_e_Line (is_a_Plan_lines ho) hb) i_p2 hr_2) ok_X5_has mX6_75 (recv_Line (is_e_Line (is_a_Plan_lines ho) hb)) dX6_dropNote_14 ⟨Nat.le_of_ble_eq_true rfl, Nat.le_of_ble_eq_true rfl⟩ ⟨Nat.zero_le _, Nat.zero_le _⟩ rfl (Nat.le_of_ble_eq_true rfl) rfl (fun i_r_2 => ?_)
    refine r_if_ne g0 23 dX6_dropNote_17 (by decide) (B01.inR i_r_2) (fun hc => ?_) (fun hc => ?_)
    · replace h := if_f hc h
      refine r_aload_n g0 dX6_dropNote_23 rfl ?_
      refine g_Plan_entries g0 ho qX6_20 dX6_dropNote_24 ?_
      refine r_iload_n g0 dX6_dropNote_27 rfl ?_
      obtain ⟨r_3, s_3, hr_3, h⟩ := bd_some h
      refine r_cVI g0 (rest := []) (c_X1_having (is_a_Plan_entries ho) i_p1 hr_3) ok_X1_having mX6_60 (recv_Entries (is_a_Plan_entries ho)) dX6_dropNote_28 ⟨Nat.le_of_ble_eq_true rfl, Nat.le_of_ble_eq_true rfl⟩ ⟨Nat.zero_le _, Nat.zero_le _⟩ rfl (Nat.le_of_ble_eq_true rfl) rfl (fun i_r_3 => ?_)
      refine r_if_le g0 37 dX6_dropNote_31 (by decide) i_r_3 (fun hc => ?_) (fun hc => ?_)
      · replace h := if_t hc h
        refine r_aload_n g0 dX6_dropNote_37 rfl ?_
        refine g_Plan_lines g0 ho qX6_11 dX6_dropNote_38 ?_
        refine r_iload_n g0 dX6_dropNote_41 rfl ?_
        obtain ⟨hb_2, h⟩ := gd_some h
        refine r_aald_Line g0 (is_a_Plan_lines ho) i_p1 hb_2 dX6_dropNote_42 ?_
        refine r_iload_n g0 dX6_dropNote_43 rfl ?_
        obtain ⟨r_4, s_4, hr_4, h⟩ := bd_some h
        refine r_cVV g0 (rest := []) (c_X5_remove (is_e_Line (is_a_Plan_lines ho) hb_2) i_p2 hr_4) ok_X5_remove mX6_78 (recv_Line (is_e_Line (is_a_Plan_lines ho) hb_2)) dX6_dropNote_44 ⟨Nat.le_of_ble_eq_true rfl, Nat.le_of_ble_eq_true rfl⟩ ⟨Nat.zero_le _, Nat.zero_le _⟩ rfl (Nat.le_of_ble_eq_true rfl) rfl ?_
        refine r_aload_n g0 dX6_dropNote_47 rfl ?_
        refine g_Plan_lines g0 ho qX6_11 dX6_dropNote_48 ?_
        refine r_iload_n g0 dX6_dropNote_51 rfl ?_
        obtain ⟨hb_3, h⟩ := gd_some h
        refine r_aald_Line g0 (is_a_Plan_lines ho) i_p1 hb_3 dX6_dropNote_52 ?_
        refine g_Line_count g0 (is_e_Line (is_a_Plan_lines ho) hb_3) qX6_72 dX6_dropNote_53 ?_
        exact z_I g dX6_dropNote_56 (InR_rd _ _ _) h
      · replace h := if_f hc h
        refine r_bipush g0 dX6_dropNote_34 rfl ?_
        exact z_I g dX6_dropNote_36 (InR_lit rfl) h
    · replace h := if_t hc h
      refine r_bipush g0 dX6_dropNote_20 rfl ?_
      exact z_I g dX6_dropNote_22 (InR_lit rfl) h
theorem dX6_emptyLine_0 : decode cX6_emptyLine 0 = .ok (.iload_n 1, 1) := by decide +kernel
theorem dX6_emptyLine_1 : decode cX6_emptyLine 1 = .ok (.invokestatic 52, 3) := by decide +kernel
theorem dX6_emptyLine_4 : decode cX6_emptyLine 4 = .ok (.ifCond .ne 6, 3) := by decide +kernel
theorem dX6_emptyLine_7 : decode cX6_emptyLine 7 = .ok (.bipush (-2), 2) := by decide +kernel
theorem dX6_emptyLine_9 : decode cX6_emptyLine 9 = .ok (.ireturn, 1) := by decide +kernel
theorem dX6_emptyLine_10 : decode cX6_emptyLine 10 = .ok (.aload_n 0, 1) := by decide +kernel
theorem dX6_emptyLine_11 : decode cX6_emptyLine 11 = .ok (.getfield 20, 3) := by decide +kernel
theorem dX6_emptyLine_14 : decode cX6_emptyLine 14 = .ok (.iload_n 1, 1) := by decide +kernel
theorem dX6_emptyLine_15 : decode cX6_emptyLine 15 = .ok (.invokevirtual 60, 3) := by decide +kernel
theorem dX6_emptyLine_18 : decode cX6_emptyLine 18 = .ok (.ifCond .le 6, 3) := by decide +kernel
theorem dX6_emptyLine_21 : decode cX6_emptyLine 21 = .ok (.bipush (-3), 2) := by decide +kernel
theorem dX6_emptyLine_23 : decode cX6_emptyLine 23 = .ok (.ireturn, 1) := by decide +kernel
theorem dX6_emptyLine_24 : decode cX6_emptyLine 24 = .ok (.aload_n 0, 1) := by decide +kernel
theorem dX6_emptyLine_25 : decode cX6_emptyLine 25 = .ok (.getfield 11, 3) := by decide +kernel
theorem dX6_emptyLine_28 : decode cX6_emptyLine 28 = .ok (.iload_n 1, 1) := by decide +kernel
theorem dX6_emptyLine_29 : decode cX6_emptyLine 29 = .ok (.aaload, 1) := by decide +kernel
theorem dX6_emptyLine_30 : decode cX6_emptyLine 30 = .ok (.getfield 72, 3) := by decide +kernel
theorem dX6_emptyLine_33 : decode cX6_emptyLine 33 = .ok (.istore_n 2, 1) := by decide +kernel
theorem dX6_emptyLine_34 : decode cX6_emptyLine 34 = .ok (.aload_n 0, 1) := by decide +kernel
theorem dX6_emptyLine_35 : decode cX6_emptyLine 35 = .ok (.getfield 11, 3) := by decide +kernel
theorem dX6_emptyLine_38 : decode cX6_emptyLine 38 = .ok (.iload_n 1, 1) := by decide +kernel
theorem dX6_emptyLine_39 : decode cX6_emptyLine 39 = .ok (.aaload, 1) := by decide +kernel
theorem dX6_emptyLine_40 : decode cX6_emptyLine 40 = .ok (.iconst 0, 1) := by decide +kernel
theorem dX6_emptyLine_41 : decode cX6_emptyLine 41 = .ok (.putfield 72, 3) := by decide +kernel
theorem dX6_emptyLine_44 : decode cX6_emptyLine 44 = .ok (.iload_n 2, 1) := by decide +kernel
theorem dX6_emptyLine_45 : decode cX6_emptyLine 45 = .ok (.ireturn, 1) := by decide +kernel
set_option maxHeartbeats 4000000 in
set_option maxRecDepth 100000 in
theorem c_X6_emptyLine {E : u_E} {l : Launch} {o : u_O} {p1 : Int} (ho : is_Plan o) (i_p1 : InR p1) {s s' : u_S} {r : Int} (h : f_X6_emptyLine o p1 s = some (r, s')) : Con l (XE E) yX6_emptyLine cX6_emptyLine 3 (some .int) 2 42 0 0 [.ref (E.1 o), .int (J p1)] (Wd E s) (RI E r s') := by
  refine Con.of [some (.ref (E.1 o)), some (.int (J p1)), none] (by decide +kernel) rfl rfl (Nat.le_of_ble_eq_true rfl) (fun K g => ?_)
  have g0 := g.wk
  unfold f_X6_emptyLine at h
  refine r_iload_n g0 dX6_emptyLine_0 rfl ?_
  obtain ⟨r_1, s_1, hr_1, h⟩ := bd_some h
  refine r_cNZ g0 (rest := []) (c_X10_isLine i_p1 hr_1) ok_X10_isLine mX6_52 dX6_emptyLine_1 ⟨Nat.le_of_ble_eq_true rfl, Nat.le_of_ble_eq_true rfl⟩ ⟨Nat.zero_le _, Nat.zero_le _⟩ rfl (Nat.le_of_ble_eq_true rfl) rfl (fun i_r_1 => ?_)
  refine r_if_ne g0 10 dX6_emptyLine_4 (by decide) (B01.inR i_r_1) (fun hc => ?_) (fun hc => ?_)
  · replace h := if_f hc h
    refine r_aload_n g0 dX6_emptyLine_10 rfl ?_
    refine g_Plan_entries g0 ho qX6_20 dX6_emptyLine_11 ?_
    refine r_iload_n g0 dX6_emptyLine_14 rfl ?_
    obtain ⟨r_2, s_2, hr_2, h⟩ := bd_some h
    refine r_cVI g0 (rest := []) (c_X1_having (is_a_Plan_entries ho) i_p1 hr_2) ok_X1_having mX6_60 (recv_Entries (is_a_Plan_entries ho)) dX6_emptyLine_15 ⟨Nat.le_of_ble_eq_true rfl, Nat.le_of_ble_eq_true rfl⟩ ⟨Nat.zero_le _, Nat.zero_le _⟩ rfl (Nat.le_of_ble_eq_true rfl) rfl (fun i_r_2 => ?_)
    refine r_if_le g0 24 dX6_emptyLine_18 (by decide) i_r_2 (fun hc => ?_) (fun hc => ?_)
    · replace h := if_t hc h
      refine r_aload_n g0 dX6_emptyLine_24 rfl ?_
      refine g_Plan_lines g0 ho qX6_11 dX6_emptyLine_25 ?_
      refine r_iload_n g0 dX6_emptyLine_28 rfl ?_
      obtain ⟨hb, h⟩ := gd_some h
      refine r_aald_Line g0 (is_a_Plan_lines ho) i_p1 hb dX6_emptyLine_29 ?_
      refine g_Line_count g0 (is_e_Line (is_a_Plan_lines ho) hb) qX6_72 dX6_emptyLine_30 ?_
      refine r_istore_n g0 (lv' := [some (.ref (E.1 o)), some (.int (J p1)), some (.int (J (rd s_2 (e_Line (a_Plan_lines o) p1) 2)))]) dX6_emptyLine_33 (by decide) rfl rfl ?_
      refine r_aload_n g0 dX6_emptyLine_34 rfl ?_
      refine g_Plan_lines g0 ho qX6_11 dX6_emptyLine_35 ?_
      refine r_iload_n g0 dX6_emptyLine_38 rfl ?_
      obtain ⟨hb_2, h⟩ := gd_some h
      refine r_aald_Line g0 (is_a_Plan_lines ho) i_p1 hb_2 dX6_emptyLine_39 ?_
      refine r_iconst g0 dX6_emptyLine_40 ?_
      refine p_Line_count g0 (is_e_Line (is_a_Plan_lines ho) hb_2) qX6_72 dX6_emptyLine_41 ?_
      refine r_iload_n g0 dX6_emptyLine_44 rfl ?_
      exact z_I g dX6_emptyLine_45 (InR_rd _ _ _) h
    · replace h := if_f hc h
      refine r_bipush g0 dX6_emptyLine_21 rfl ?_
      exact z_I g dX6_emptyLine_23 (InR_lit rfl) h
  · replace h := if_t hc h
    refine r_bipush g0 dX6_emptyLine_7 rfl ?_
    exact z_I g dX6_emptyLine_9 (InR_lit rfl) h
theorem dX6_drawLine_0 : decode cX6_drawLine 0 = .ok (.iload_n 1, 1) := by decide +kernel
theorem dX6_drawLine_1 : decode cX6_drawLine 1 = .ok (.invokestatic 52, 3) := by decide +kernel
theorem dX6_drawLine_4 : decode cX6_drawLine 4 = .ok (.ifCond .eq 23, 3) := by decide +kernel
theorem dX6_drawLine_7 : decode cX6_drawLine 7 = .ok (.iload_n 2, 1) := by decide +kernel
theorem dX6_drawLine_8 : decode cX6_drawLine 8 = .ok (.iconst 0, 1) := by decide +kernel
theorem dX6_drawLine_9 : decode cX6_drawLine 9 = .ok (.ldc 82, 2) := by decide +kernel
theorem dX6_drawLine_11 : decode cX6_drawLine 11 = .ok (.invokestatic 56, 3) := by decide +kernel
theorem dX6_drawLine_14 : decode cX6_drawLine 14 = .ok (.ifCond .eq 13, 3) := by decide +kernel
theorem dX6_drawLine_17 : decode cX6_drawLine 17 = .ok (.iload_n 3, 1) := by decide +kernel
theorem dX6_drawLine_18 : decode cX6_drawLine 18 = .ok (.iconst 1, 1) := by decide +kernel
theorem dX6_drawLine_19 : decode cX6_drawLine 19 = .ok (.bipush 10, 2) := by decide +kernel
theorem dX6_drawLine_21 : decode cX6_drawLine 21 = .ok (.invokestatic 56, 3) := by decide +kernel
theorem dX6_drawLine_24 : decode cX6_drawLine 24 = .ok (.ifCond .ne 6, 3) := by decide +kernel
theorem dX6_drawLine_27 : decode cX6_drawLine 27 = .ok (.bipush (-2), 2) := by decide +kernel
theorem dX6_drawLine_29 : decode cX6_drawLine 29 = .ok (.ireturn, 1) := by decide +kernel
theorem dX6_drawLine_30 : decode cX6_drawLine 30 = .ok (.aload_n 0, 1) := by decide +kernel
theorem dX6_drawLine_31 : decode cX6_drawLine 31 = .ok (.getfield 20, 3) := by decide +kernel
theorem dX6_drawLine_34 : decode cX6_drawLine 34 = .ok (.iload_n 1, 1) := by decide +kernel
theorem dX6_drawLine_35 : decode cX6_drawLine 35 = .ok (.invokevirtual 60, 3) := by decide +kernel
theorem dX6_drawLine_38 : decode cX6_drawLine 38 = .ok (.ifCond .le 6, 3) := by decide +kernel
theorem dX6_drawLine_41 : decode cX6_drawLine 41 = .ok (.bipush (-3), 2) := by decide +kernel
theorem dX6_drawLine_43 : decode cX6_drawLine 43 = .ok (.ireturn, 1) := by decide +kernel
theorem dX6_drawLine_44 : decode cX6_drawLine 44 = .ok (.aload_n 0, 1) := by decide +kernel
theorem dX6_drawLine_45 : decode cX6_drawLine 45 = .ok (.getfield 11, 3) := by decide +kernel
theorem dX6_drawLine_48 : decode cX6_drawLine 48 = .ok (.iload_n 1, 1) := by decide +kernel
theorem dX6_drawLine_49 : decode cX6_drawLine 49 = .ok (.aaload, 1) := by decide +kernel
theorem dX6_drawLine_50 : decode cX6_drawLine 50 = .ok (.astore 4, 2) := by decide +kernel
theorem dX6_drawLine_52 : decode cX6_drawLine 52 = .ok (.aload 4, 2) := by decide +kernel
theorem dX6_drawLine_54 : decode cX6_drawLine 54 = .ok (.iconst 0, 1) := by decide +kernel
theorem dX6_drawLine_55 : decode cX6_drawLine 55 = .ok (.putfield 72, 3) := by decide +kernel
theorem dX6_drawLine_58 : decode cX6_drawLine 58 = .ok (.iload_n 2, 1) := by decide +kernel
theorem dX6_drawLine_59 : decode cX6_drawLine 59 = .ok (.i2l, 1) := by decide +kernel
theorem dX6_drawLine_60 : decode cX6_drawLine 60 = .ok (.lstore 5, 2) := by decide +kernel
theorem dX6_drawLine_62 : decode cX6_drawLine 62 = .ok (.bipush 14, 2) := by decide +kernel
theorem dX6_drawLine_64 : decode cX6_drawLine 64 = .ok (.istore 7, 2) := by decide +kernel
theorem dX6_drawLine_66 : decode cX6_drawLine 66 = .ok (.iconst 0, 1) := by decide +kernel
theorem dX6_drawLine_67 : decode cX6_drawLine 67 = .ok (.istore 8, 2) := by decide +kernel
theorem dX6_drawLine_69 : decode cX6_drawLine 69 = .ok (.iload 8, 2) := by decide +kernel
theorem dX6_drawLine_71 : decode cX6_drawLine 71 = .ok (.iload_n 3, 1) := by decide +kernel
theorem dX6_drawLine_72 : decode cX6_drawLine 72 = .ok (.if_icmp .ge 81, 3) := by decide +kernel
theorem dX6_drawLine_75 : decode cX6_drawLine 75 = .ok (.lload 5, 2) := by decide +kernel
theorem dX6_drawLine_77 : decode cX6_drawLine 77 = .ok (.ldc2_w 83, 3) := by decide +kernel
theorem dX6_drawLine_80 : decode cX6_drawLine 80 = .ok (.lmul, 1) := by decide +kernel
theorem dX6_drawLine_81 : decode cX6_drawLine 81 = .ok (.ldc2_w 85, 3) := by decide +kernel
theorem dX6_drawLine_84 : decode cX6_drawLine 84 = .ok (.ladd, 1) := by decide +kernel
theorem dX6_drawLine_85 : decode cX6_drawLine 85 = .ok (.ldc2_w 87, 3) := by decide +kernel
theorem dX6_drawLine_88 : decode cX6_drawLine 88 = .ok (.lrem, 1) := by decide +kernel
theorem dX6_drawLine_89 : decode cX6_drawLine 89 = .ok (.lstore 5, 2) := by decide +kernel
theorem dX6_drawLine_91 : decode cX6_drawLine 91 = .ok (.lload 5, 2) := by decide +kernel
theorem dX6_drawLine_93 : decode cX6_drawLine 93 = .ok (.ldc2_w 89, 3) := by decide +kernel
theorem dX6_drawLine_96 : decode cX6_drawLine 96 = .ok (.ldiv, 1) := by decide +kernel
theorem dX6_drawLine_97 : decode cX6_drawLine 97 = .ok (.ldc2_w 91, 3) := by decide +kernel
theorem dX6_drawLine_100 : decode cX6_drawLine 100 = .ok (.lrem, 1) := by decide +kernel
theorem dX6_drawLine_101 : decode cX6_drawLine 101 = .ok (.l2i, 1) := by decide +kernel
theorem dX6_drawLine_102 : decode cX6_drawLine 102 = .ok (.iconst 3, 1) := by decide +kernel
theorem dX6_drawLine_103 : decode cX6_drawLine 103 = .ok (.isub, 1) := by decide +kernel
theorem dX6_drawLine_104 : decode cX6_drawLine 104 = .ok (.istore 9, 2) := by decide +kernel
theorem dX6_drawLine_106 : decode cX6_drawLine 106 = .ok (.iload 8, 2) := by decide +kernel
theorem dX6_drawLine_108 : decode cX6_drawLine 108 = .ok (.ifCond .le 19, 3) := by decide +kernel
theorem dX6_drawLine_111 : decode cX6_drawLine 111 = .ok (.iconst 0, 1) := by decide +kernel
theorem dX6_drawLine_112 : decode cX6_drawLine 112 = .ok (.bipush 27, 2) := by decide +kernel
theorem dX6_drawLine_114 : decode cX6_drawLine 114 = .ok (.iload 7, 2) := by decide +kernel
theorem dX6_drawLine_116 : decode cX6_drawLine 116 = .ok (.iload 9, 2) := by decide +kernel
theorem dX6_drawLine_118 : decode cX6_drawLine 118 = .ok (.iadd, 1) := by decide +kernel
theorem dX6_drawLine_119 : decode cX6_drawLine 119 = .ok (.invokestatic 93, 3) := by decide +kernel
theorem dX6_drawLine_122 : decode cX6_drawLine 122 = .ok (.invokestatic 99, 3) := by decide +kernel
theorem dX6_drawLine_125 : decode cX6_drawLine 125 = .ok (.istore 7, 2) := by decide +kernel
theorem dX6_drawLine_127 : decode cX6_drawLine 127 = .ok (.aload 4, 2) := by decide +kernel
theorem dX6_drawLine_129 : decode cX6_drawLine 129 = .ok (.iload 7, 2) := by decide +kernel
theorem dX6_drawLine_131 : decode cX6_drawLine 131 = .ok (.lload 5, 2) := by decide +kernel
theorem dX6_drawLine_133 : decode cX6_drawLine 133 = .ok (.ldc2_w 102, 3) := by decide +kernel
theorem dX6_drawLine_136 : decode cX6_drawLine 136 = .ok (.ldiv, 1) := by decide +kernel
theorem dX6_drawLine_137 : decode cX6_drawLine 137 = .ok (.ldc2_w 104, 3) := by decide +kernel
theorem dX6_drawLine_140 : decode cX6_drawLine 140 = .ok (.lrem, 1) := by decide +kernel
theorem dX6_drawLine_141 : decode cX6_drawLine 141 = .ok (.l2i, 1) := by decide +kernel
theorem dX6_drawLine_142 : decode cX6_drawLine 142 = .ok (.iconst 1, 1) := by decide +kernel
theorem dX6_drawLine_143 : decode cX6_drawLine 143 = .ok (.iadd, 1) := by decide +kernel
theorem dX6_drawLine_144 : decode cX6_drawLine 144 = .ok (.invokevirtual 68, 3) := by decide +kernel
theorem dX6_drawLine_147 : decode cX6_drawLine 147 = .ok (.iinc 8 1, 3) := by decide +kernel
theorem dX6_drawLine_150 : decode cX6_drawLine 150 = .ok (.goto (-81), 3) := by decide +kernel
theorem dX6_drawLine_153 : decode cX6_drawLine 153 = .ok (.aload 4, 2) := by decide +kernel
theorem dX6_drawLine_155 : decode cX6_drawLine 155 = .ok (.invokevirtual 106, 3) := by decide +kernel
theorem dX6_drawLine_158 : decode cX6_drawLine 158 = .ok (.ireturn, 1) := by decide +kernel
set_option maxHeartbeats 4000000 in
set_option maxRecDepth 100000 in
theorem t_X6_drawLine_L69 {l : Launch} {E : u_E} {K : u_K} {r : Int} {s' : u_S} (g : Wk l (XE E) { frames := 2, cells := 0, slots := 0, locals := 43 } cX6_drawLine 10 yX6_drawLine.cls yX6_drawLine.name (some .int) (RI E r s') K) {v3_1 : Int} {v4_1 : u_O} (i_v3_1 : InR v3_1) (i_v4_1 : is_Line v4_1) {kx153 : u_S → Option (Int × u_S)} (hkx153 : ∀ (s_12 : u_S), kx153 s_12 = some (r, s') → K 0 0 153 [none, none, none, none, some (.ref (E.1 v4_1)), none, none, none, none, none] [] (Wd E s_12)) : ∀ (m : Nat) (v5_1 : Int) (v7_1 : Int) (v8_1 : Int) (s_7 : u_S), InL v5_1 → InR v7_1 → InR v8_1 → f_X6_drawLine_L69 m kx153 v3_1 v4_1 v5_1 v7_1 v8_1 s_7 = some (r, s') → K 0 0 69 [none, none, none, some (.int (J v3_1)), some (.ref (E.1 v4_1)), some (.long (JL v5_1)), none, some (.int (J v7_1)), some (.int (J v8_1)), none] [] (Wd E s_7) := by
  have g0 := g.wk
  intro m
  induction m with
  | zero =>
    intro v5_1 v7_1 v8_1 s_7 i_v5_1 i_v7_1 i_v8_1 h
    exact absurd (show (none : Option (Int × u_S)) = some (r, s') from h) (by intro z; cases z)
  | succ m ih =>
    intro v5_1 v7_1 v8_1 s_7 i_v5_1 i_v7_1 i_v8_1 h
    rw [f_X6_drawLine_L69] at h
    refine r_iload g0 dX6_drawLine_69 rfl ?_
    refine r_iload_n g0 dX6_drawLine_71 rfl ?_
    refine r_icmp_ge g0 153 dX6_drawLine_72 (by decide) i_v8_1 i_v3_1 (fun hc => ?_) (fun hc => ?_)
    · replace h := if_f hc h
      refine r_mask g0 (lv' := [none, none, none, none, some (.ref (E.1 v4_1)), none, none, none, none, none]) [false, false, false, false, true, false, false, false, false, false] rfl ?_
      exact hkx153 s_7 h
    · replace h := if_t hc h
      refine r_lload g0 dX6_drawLine_75 rfl ?_
      refine r_ldc2 g0 (v := 1103515245) dX6_drawLine_77 kX6_83 ?_
      refine r_lmul g0 dX6_drawLine_80 ?_
      refine r_ldc2 g0 (v := 12345) dX6_drawLine_81 kX6_85 ?_
      refine r_ladd g0 dX6_drawLine_84 ?_
      refine r_ldc2 g0 (v := 2147483648) dX6_drawLine_85 kX6_87 ?_
      refine r_lrem g0 dX6_drawLine_88 (InL_wl _) (InL_lit rfl) (by decide) ?_
      refine r_lstore g0 (lv' := [none, none, none, some (.int (J v3_1)), some (.ref (E.1 v4_1)), some (.long (JL (Int.tmod (wl ((wl (v5_1 * 1103515245)) + 12345)) 2147483648))), none, some (.int (J v7_1)), some (.int (J v8_1)), none]) dX6_drawLine_89 (by decide) rfl rfl ?_
      refine r_lload g0 dX6_drawLine_91 rfl ?_
      refine r_ldc2 g0 (v := 65536) dX6_drawLine_93 kX6_89 ?_
      refine r_ldiv g0 dX6_drawLine_96 (InL_rem _ (InL_wl _)) (InL_lit rfl) (by decide) ?_
      refine r_ldc2 g0 (v := 7) dX6_drawLine_97 kX6_91 ?_
      refine r_lrem g0 dX6_drawLine_100 (InL_wl _) (InL_lit rfl) (by decide) ?_
      refine r_l2i g0 dX6_drawLine_101 ?_
      refine r_iconst g0 dX6_drawLine_102 ?_
      refine r_isub g0 dX6_drawLine_103 ?_
      refine r_istore g0 (lv' := [none, none, none, some (.int (J v3_1)), some (.ref (E.1 v4_1)), some (.long (JL (Int.tmod (wl ((wl (v5_1 * 1103515245)) + 12345)) 2147483648))), none, some (.int (J v7_1)), some (.int (J v8_1)), some (.int (J (wr ((wr (Int.tmod (wl (Int.tdiv (Int.tmod (wl ((wl (v5_1 * 1103515245)) + 12345)) 2147483648) 65536)) 7)) - 3))))]) dX6_drawLine_104 (by decide) rfl rfl ?_
      refine r_iload g0 dX6_drawLine_106 rfl ?_
      obtain ⟨jp_1, hdjp_1, h⟩ := jn_some h
      have hjp_1 : ∀ (v7_2 : Int) (s_8 : u_S), InR v7_2 → jp_1 v7_2 s_8 = some (r, s') → K 0 0 127 [none, none, none, some (.int (J v3_1)), some (.ref (E.1 v4_1)), some (.long (JL (Int.tmod (wl ((wl (v5_1 * 1103515245)) + 12345)) 2147483648))), none, some (.int (J v7_2)), some (.int (J v8_1)), none] [] (Wd E s_8) := by
        intro v7_2 s_8 i_v7_2 h
        subst hdjp_1
        refine r_aload g0 dX6_drawLine_127 rfl ?_
        refine r_iload g0 dX6_drawLine_129 rfl ?_
        refine r_lload g0 dX6_drawLine_131 rfl ?_
        refine r_ldc2 g0 (v := 1024) dX6_drawLine_133 kX6_102 ?_
        refine r_ldiv g0 dX6_drawLine_136 (InL_rem _ (InL_wl _)) (InL_lit rfl) (by decide) ?_
        refine r_ldc2 g0 (v := 4) dX6_drawLine_137 kX6_104 ?_
        refine r_lrem g0 dX6_drawLine_140 (InL_wl _) (InL_lit rfl) (by decide) ?_
        refine r_l2i g0 dX6_drawLine_141 ?_
        refine r_iconst g0 dX6_drawLine_142 ?_
        refine r_iadd g0 dX6_drawLine_143 ?_
        obtain ⟨r_6, s_9, hr_6, h⟩ := bd_some h
        refine r_cVV g0 (rest := []) (c_X5_append i_v4_1 i_v7_2 (InR_wr _) hr_6) ok_X5_append mX6_68 (recv_Line i_v4_1) dX6_drawLine_144 ⟨Nat.le_of_ble_eq_true rfl, Nat.le_of_ble_eq_true rfl⟩ ⟨Nat.zero_le _, Nat.zero_le _⟩ rfl (Nat.le_of_ble_eq_true rfl) rfl ?_
        refine r_iinc g0 (a := v8_1) (lv' := [none, none, none, some (.int (J v3_1)), some (.ref (E.1 v4_1)), some (.long (JL (Int.tmod (wl ((wl (v5_1 * 1103515245)) + 12345)) 2147483648))), none, some (.int (J v7_2)), some (.int (J (wr (v8_1 + 1)))), none]) dX6_drawLine_147 (by decide) rfl rfl rfl ?_
        refine r_goto g0 69 dX6_drawLine_150 (by decide) ?_
        exact ih (Int.tmod (wl ((wl (v5_1 * 1103515245)) + 12345)) 2147483648) v7_2 (wr (v8_1 + 1)) s_9 (InL_rem _ (InL_wl _)) i_v7_2 (InR_wr _) h
      clear hdjp_1
      refine r_if_le g0 127 dX6_drawLine_108 (by decide) i_v8_1 (fun hc => ?_) (fun hc => ?_)
      · replace h := if_t hc h
        refine r_mask g0 (lv' := [none, none, none, some (.int (J v3_1)), some (.ref (E.1 v4_1)), some (.long (JL (Int.tmod (wl ((wl (v5_1 * 1103515245)) + 12345)) 2147483648))), none, some (.int (J v7_1)), some (.int (J v8_1)), none]) [false, false, false, true, true, true, false, true, true, false] rfl ?_
        exact hjp_1 v7_1 s_7 i_v7_1 h
      · replace h := if_f hc h
        refine r_iconst g0 dX6_drawLine_111 ?_
        refine r_bipush g0 dX6_drawLine_112 rfl ?_
        refine r_iload g0 dX6_drawLine_114 rfl ?_
        refine r_iload g0 dX6_drawLine_116 rfl ?_
        refine r_iadd g0 dX6_drawLine_118 ?_
        obtain ⟨r_7, s_10, hr_7, h⟩ := bd_some h
        refine r_cSI g0 (rest := [.int (J 0)]) (c_J9_min_7cf53 (InR_lit rfl) (InR_wr _) hr_7) ok_J9_min_7cf53 mX6_93 dX6_drawLine_119 ⟨Nat.le_of_ble_eq_true rfl, Nat.le_of_ble_eq_true rfl⟩ ⟨Nat.zero_le _, Nat.zero_le _⟩ rfl (Nat.le_of_ble_eq_true rfl) rfl (fun i_r_7 => ?_)
        obtain ⟨r_8, s_11, hr_8, h⟩ := bd_some h
        refine r_cSI g0 (rest := []) (c_J9_max_7cf53 (B01.inR B01_0) i_r_7 hr_8) ok_J9_max_7cf53 mX6_99 dX6_drawLine_122 ⟨Nat.le_of_ble_eq_true rfl, Nat.le_of_ble_eq_true rfl⟩ ⟨Nat.zero_le _, Nat.zero_le _⟩ rfl (Nat.le_of_ble_eq_true rfl) rfl (fun i_r_8 => ?_)
        refine r_istore g0 (lv' := [none, none, none, some (.int (J v3_1)), some (.ref (E.1 v4_1)), some (.long (JL (Int.tmod (wl ((wl (v5_1 * 1103515245)) + 12345)) 2147483648))), none, some (.int (J r_8)), some (.int (J v8_1)), some (.int (J (wr ((wr (Int.tmod (wl (Int.tdiv (Int.tmod (wl ((wl (v5_1 * 1103515245)) + 12345)) 2147483648) 65536)) 7)) - 3))))]) dX6_drawLine_125 (by decide) rfl rfl ?_
        refine r_mask g0 (lv' := [none, none, none, some (.int (J v3_1)), some (.ref (E.1 v4_1)), some (.long (JL (Int.tmod (wl ((wl (v5_1 * 1103515245)) + 12345)) 2147483648))), none, some (.int (J r_8)), some (.int (J v8_1)), none]) [false, false, false, true, true, true, false, true, true, false] rfl ?_
        exact hjp_1 r_8 s_11 i_r_8 h
set_option maxHeartbeats 4000000 in
set_option maxRecDepth 100000 in
theorem c_X6_drawLine {E : u_E} {l : Launch} {o : u_O} {p1 : Int} {p2 : Int} {p3 : Int} (ho : is_Plan o) (i_p1 : InR p1) (i_p2 : InR p2) (i_p3 : InR p3) {s s' : u_S} {r : Int} (h : f_X6_drawLine o p1 p2 p3 s = some (r, s')) : Con l (XE E) yX6_drawLine cX6_drawLine 10 (some .int) 2 43 0 0 [.ref (E.1 o), .int (J p1), .int (J p2), .int (J p3)] (Wd E s) (RI E r s') := by
  refine Con.of [some (.ref (E.1 o)), some (.int (J p1)), some (.int (J p2)), some (.int (J p3)), none, none, none, none, none, none] (by decide +kernel) rfl rfl (Nat.le_of_ble_eq_true rfl) (fun K g => ?_)
  have g0 := g.wk
  unfold f_X6_drawLine at h
  refine r_iload_n g0 dX6_drawLine_0 rfl ?_
  obtain ⟨r_1, s_1, hr_1, h⟩ := bd_some h
  refine r_cNZ g0 (rest := []) (c_X10_isLine i_p1 hr_1) ok_X10_isLine mX6_52 dX6_drawLine_1 ⟨Nat.le_of_ble_eq_true rfl, Nat.le_of_ble_eq_true rfl⟩ ⟨Nat.zero_le _, Nat.zero_le _⟩ rfl (Nat.le_of_ble_eq_true rfl) rfl (fun i_r_1 => ?_)
  refine r_if_eq g0 27 dX6_drawLine_4 (by decide) (B01.inR i_r_1) (fun hc => ?_) (fun hc => ?_)
  · replace h := if_t hc h
    refine r_bipush g0 dX6_drawLine_27 rfl ?_
    exact z_I g dX6_drawLine_29 (InR_lit rfl) h
  · replace h := if_f hc h
    refine r_iload_n g0 dX6_drawLine_7 rfl ?_
    refine r_iconst g0 dX6_drawLine_8 ?_
    refine r_ldc g0 (v := 999999) dX6_drawLine_9 kX6_82 ?_
    obtain ⟨r_2, s_2, hr_2, h⟩ := bd_some h
    refine r_cNZ g0 (rest := []) (c_X10_within i_p2 (B01.inR B01_0) (InR_lit rfl) hr_2) ok_X10_within mX6_56 dX6_drawLine_11 ⟨Nat.le_of_ble_eq_true rfl, Nat.le_of_ble_eq_true rfl⟩ ⟨Nat.zero_le _, Nat.zero_le _⟩ rfl (Nat.le_of_ble_eq_true rfl) rfl (fun i_r_2 => ?_)
    refine r_if_eq g0 27 dX6_drawLine_14 (by decide) (B01.inR i_r_2) (fun hc => ?_) (fun hc => ?_)
    · replace h := if_t hc h
      refine r_bipush g0 dX6_drawLine_27 rfl ?_
      exact z_I g dX6_drawLine_29 (InR_lit rfl) h
    · replace h := if_f hc h
      refine r_iload_n g0 dX6_drawLine_17 rfl ?_
      refine r_iconst g0 dX6_drawLine_18 ?_
      refine r_bipush g0 dX6_drawLine_19 rfl ?_
      obtain ⟨r_3, s_3, hr_3, h⟩ := bd_some h
      refine r_cNZ g0 (rest := []) (c_X10_within i_p3 (B01.inR B01_1) (InR_lit rfl) hr_3) ok_X10_within mX6_56 dX6_drawLine_21 ⟨Nat.le_of_ble_eq_true rfl, Nat.le_of_ble_eq_true rfl⟩ ⟨Nat.zero_le _, Nat.zero_le _⟩ rfl (Nat.le_of_ble_eq_true rfl) rfl (fun i_r_3 => ?_)
      refine r_if_ne g0 30 dX6_drawLine_24 (by decide) (B01.inR i_r_3) (fun hc => ?_) (fun hc => ?_)
      · replace h := if_f hc h
        refine r_aload_n g0 dX6_drawLine_30 rfl ?_
        refine g_Plan_entries g0 ho qX6_20 dX6_drawLine_31 ?_
        refine r_iload_n g0 dX6_drawLine_34 rfl ?_
        obtain ⟨r_4, s_4, hr_4, h⟩ := bd_some h
        refine r_cVI g0 (rest := []) (c_X1_having (is_a_Plan_entries ho) i_p1 hr_4) ok_X1_having mX6_60 (recv_Entries (is_a_Plan_entries ho)) dX6_drawLine_35 ⟨Nat.le_of_ble_eq_true rfl, Nat.le_of_ble_eq_true rfl⟩ ⟨Nat.zero_le _, Nat.zero_le _⟩ rfl (Nat.le_of_ble_eq_true rfl) rfl (fun i_r_4 => ?_)
        refine r_if_le g0 44 dX6_drawLine_38 (by decide) i_r_4 (fun hc => ?_) (fun hc => ?_)
        · replace h := if_t hc h
          refine r_aload_n g0 dX6_drawLine_44 rfl ?_
          refine g_Plan_lines g0 ho qX6_11 dX6_drawLine_45 ?_
          refine r_iload_n g0 dX6_drawLine_48 rfl ?_
          obtain ⟨hb, h⟩ := gd_some h
          refine r_aald_Line g0 (is_a_Plan_lines ho) i_p1 hb dX6_drawLine_49 ?_
          refine r_astore g0 (lv' := [some (.ref (E.1 o)), some (.int (J p1)), some (.int (J p2)), some (.int (J p3)), some (.ref (E.1 (e_Line (a_Plan_lines o) p1))), none, none, none, none, none]) dX6_drawLine_50 (by decide) rfl rfl ?_
          refine r_aload g0 dX6_drawLine_52 rfl ?_
          refine r_iconst g0 dX6_drawLine_54 ?_
          refine p_Line_count g0 (is_e_Line (is_a_Plan_lines ho) hb) qX6_72 dX6_drawLine_55 ?_
          refine r_iload_n g0 dX6_drawLine_58 rfl ?_
          refine r_i2l g0 dX6_drawLine_59 i_p2 ?_
          refine r_lstore g0 (lv' := [some (.ref (E.1 o)), some (.int (J p1)), some (.int (J p2)), some (.int (J p3)), some (.ref (E.1 (e_Line (a_Plan_lines o) p1))), some (.long (JL p2)), none, none, none, none]) dX6_drawLine_60 (by decide) rfl rfl ?_
          refine r_bipush g0 dX6_drawLine_62 rfl ?_
          refine r_istore g0 (lv' := [some (.ref (E.1 o)), some (.int (J p1)), some (.int (J p2)), some (.int (J p3)), some (.ref (E.1 (e_Line (a_Plan_lines o) p1))), some (.long (JL p2)), none, some (.int (J 14)), none, none]) dX6_drawLine_64 (by decide) rfl rfl ?_
          refine r_iconst g0 dX6_drawLine_66 ?_
          refine r_istore g0 (lv' := [some (.ref (E.1 o)), some (.int (J p1)), some (.int (J p2)), some (.int (J p3)), some (.ref (E.1 (e_Line (a_Plan_lines o) p1))), some (.long (JL p2)), none, some (.int (J 14)), some (.int (J 0)), none]) dX6_drawLine_67 (by decide) rfl rfl ?_
          refine r_mask g0 (lv' := [none, none, none, some (.int (J p3)), some (.ref (E.1 (e_Line (a_Plan_lines o) p1))), some (.long (JL p2)), none, some (.int (J 14)), some (.int (J 0)), none]) [false, false, false, true, true, true, false, true, true, false] rfl ?_
          refine t_X6_drawLine_L69 g i_p3 (is_e_Line (is_a_Plan_lines ho) hb) ?_ FU p2 14 0 (wt s_4 (e_Line (a_Plan_lines o) p1) 2 0) (InL_i i_p2) (InR_lit rfl) (B01.inR B01_0) h
          · intro s_5 h
            refine r_aload g0 dX6_drawLine_153 rfl ?_
            obtain ⟨r_5, s_6, hr_5, h⟩ := bd_some h
            refine r_cVI g0 (rest := []) (c_X5_length (is_e_Line (is_a_Plan_lines ho) hb) hr_5) ok_X5_length mX6_106 (recv_Line (is_e_Line (is_a_Plan_lines ho) hb)) dX6_drawLine_155 ⟨Nat.le_of_ble_eq_true rfl, Nat.le_of_ble_eq_true rfl⟩ ⟨Nat.zero_le _, Nat.zero_le _⟩ rfl (Nat.le_of_ble_eq_true rfl) rfl (fun i_r_5 => ?_)
            exact z_I g dX6_drawLine_158 i_r_5 h
        · replace h := if_f hc h
          refine r_bipush g0 dX6_drawLine_41 rfl ?_
          exact z_I g dX6_drawLine_43 (InR_lit rfl) h
      · replace h := if_t hc h
        refine r_bipush g0 dX6_drawLine_27 rfl ?_
        exact z_I g dX6_drawLine_29 (InR_lit rfl) h
theorem dX10_isKey_0 : decode cX10_isKey 0 = .ok (.iload_n 0, 1) := by decide +kernel
theorem dX10_isKey_1 : decode cX10_isKey 1 = .ok (.iconst 0, 1) := by decide +kernel
theorem dX10_isKey_2 : decode cX10_isKey 2 = .ok (.bipush 23, 2) := by decide +kernel
theorem dX10_isKey_4 : decode cX10_isKey 4 = .ok (.invokestatic 113, 3) := by decide +kernel
theorem dX10_isKey_7 : decode cX10_isKey 7 = .ok (.ireturn, 1) := by decide +kernel
set_option maxHeartbeats 4000000 in
set_option maxRecDepth 100000 in
theorem c_X10_isKey {E : u_E} {l : Launch} {p1 : Int} (i_p1 : InR p1) {s s' : u_S} {r : Int} (h : f_X10_isKey p1 s = some (r, s')) : Con l (XE E) yX10_isKey cX10_isKey 1 (some .boolean) 1 22 0 0 [.int (J p1)] (Wd E s) (RZ E r s') := by
  refine Con.of [some (.int (J p1))] (by decide +kernel) rfl rfl (Nat.le_of_ble_eq_true rfl) (fun K g => ?_)
  have g0 := g.wk
  unfold f_X10_isKey at h
  refine r_iload_n g0 dX10_isKey_0 rfl ?_
  refine r_iconst g0 dX10_isKey_1 ?_
  refine r_bipush g0 dX10_isKey_2 rfl ?_
  obtain ⟨r_1, s_1, hr_1, h⟩ := bd_some h
  refine r_cSZ g0 (rest := []) (c_X10_within i_p1 (B01.inR B01_0) (InR_lit rfl) hr_1) ok_X10_within mX10_113 dX10_isKey_4 ⟨Nat.le_of_ble_eq_true rfl, Nat.le_of_ble_eq_true rfl⟩ ⟨Nat.zero_le _, Nat.zero_le _⟩ rfl (Nat.le_of_ble_eq_true rfl) rfl (fun i_r_1 => ?_)
  exact z_Z g dX10_isKey_7 i_r_1 h
