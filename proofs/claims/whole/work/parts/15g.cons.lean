/-! THE CONTRACTS: the bytecode does what the functions say (by program, wip/whole/gen) -/
theorem dX10_faults_0 : decode cX10_faults 0 = .ok (.aload_n 0, 1) := by decide +kernel
theorem dX10_faults_1 : decode cX10_faults 1 = .ok (.getfield 12, 3) := by decide +kernel
theorem dX10_faults_4 : decode cX10_faults 4 = .ok (.getfield 153, 3) := by decide +kernel
theorem dX10_faults_7 : decode cX10_faults 7 = .ok (.iload_n 1, 1) := by decide +kernel
theorem dX10_faults_8 : decode cX10_faults 8 = .ok (.invokevirtual 180, 3) := by decide +kernel
theorem dX10_faults_11 : decode cX10_faults 11 = .ok (.ifCond .eq 31, 3) := by decide +kernel
theorem dX10_faults_14 : decode cX10_faults 14 = .ok (.aload_n 0, 1) := by decide +kernel
theorem dX10_faults_15 : decode cX10_faults 15 = .ok (.getfield 12, 3) := by decide +kernel
theorem dX10_faults_18 : decode cX10_faults 18 = .ok (.getfield 153, 3) := by decide +kernel
theorem dX10_faults_21 : decode cX10_faults 21 = .ok (.iload_n 2, 1) := by decide +kernel
theorem dX10_faults_22 : decode cX10_faults 22 = .ok (.invokevirtual 180, 3) := by decide +kernel
theorem dX10_faults_25 : decode cX10_faults 25 = .ok (.ifCond .eq 17, 3) := by decide +kernel
theorem dX10_faults_28 : decode cX10_faults 28 = .ok (.iload_n 1, 1) := by decide +kernel
theorem dX10_faults_29 : decode cX10_faults 29 = .ok (.iload_n 2, 1) := by decide +kernel
theorem dX10_faults_30 : decode cX10_faults 30 = .ok (.if_icmp .eq 12, 3) := by decide +kernel
theorem dX10_faults_33 : decode cX10_faults 33 = .ok (.iload_n 3, 1) := by decide +kernel
theorem dX10_faults_34 : decode cX10_faults 34 = .ok (.iconst 0, 1) := by decide +kernel
theorem dX10_faults_35 : decode cX10_faults 35 = .ok (.iconst 3, 1) := by decide +kernel
theorem dX10_faults_36 : decode cX10_faults 36 = .ok (.invokestatic 113, 3) := by decide +kernel
theorem dX10_faults_39 : decode cX10_faults 39 = .ok (.ifCond .ne 10, 3) := by decide +kernel
theorem dX10_faults_42 : decode cX10_faults 42 = .ok (.aload_n 0, 1) := by decide +kernel
theorem dX10_faults_43 : decode cX10_faults 43 = .ok (.bipush (-2), 2) := by decide +kernel
theorem dX10_faults_45 : decode cX10_faults 45 = .ok (.invokevirtual 117, 3) := by decide +kernel
theorem dX10_faults_48 : decode cX10_faults 48 = .ok (.ireturn, 1) := by decide +kernel
theorem dX10_faults_49 : decode cX10_faults 49 = .ok (.aload_n 0, 1) := by decide +kernel
theorem dX10_faults_50 : decode cX10_faults 50 = .ok (.getfield 53, 3) := by decide +kernel
theorem dX10_faults_53 : decode cX10_faults 53 = .ok (.aload_n 0, 1) := by decide +kernel
theorem dX10_faults_54 : decode cX10_faults 54 = .ok (.getfield 12, 3) := by decide +kernel
theorem dX10_faults_57 : decode cX10_faults 57 = .ok (.aload_n 0, 1) := by decide +kernel
theorem dX10_faults_58 : decode cX10_faults 58 = .ok (.getfield 12, 3) := by decide +kernel
theorem dX10_faults_61 : decode cX10_faults 61 = .ok (.getfield 153, 3) := by decide +kernel
theorem dX10_faults_64 : decode cX10_faults 64 = .ok (.invokevirtual 204, 3) := by decide +kernel
theorem dX10_faults_67 : decode cX10_faults 67 = .ok (.aload_n 0, 1) := by decide +kernel
theorem dX10_faults_68 : decode cX10_faults 68 = .ok (.getfield 46, 3) := by decide +kernel
theorem dX10_faults_71 : decode cX10_faults 71 = .ok (.invokevirtual 210, 3) := by decide +kernel
theorem dX10_faults_74 : decode cX10_faults 74 = .ok (.aload_n 0, 1) := by decide +kernel
theorem dX10_faults_75 : decode cX10_faults 75 = .ok (.getfield 46, 3) := by decide +kernel
theorem dX10_faults_78 : decode cX10_faults 78 = .ok (.aload_n 0, 1) := by decide +kernel
theorem dX10_faults_79 : decode cX10_faults 79 = .ok (.getfield 53, 3) := by decide +kernel
theorem dX10_faults_82 : decode cX10_faults 82 = .ok (.getfield 213, 3) := by decide +kernel
theorem dX10_faults_85 : decode cX10_faults 85 = .ok (.iload_n 1, 1) := by decide +kernel
theorem dX10_faults_86 : decode cX10_faults 86 = .ok (.aaload, 1) := by decide +kernel
theorem dX10_faults_87 : decode cX10_faults 87 = .ok (.aload_n 0, 1) := by decide +kernel
theorem dX10_faults_88 : decode cX10_faults 88 = .ok (.getfield 53, 3) := by decide +kernel
theorem dX10_faults_91 : decode cX10_faults 91 = .ok (.getfield 213, 3) := by decide +kernel
theorem dX10_faults_94 : decode cX10_faults 94 = .ok (.iload_n 2, 1) := by decide +kernel
theorem dX10_faults_95 : decode cX10_faults 95 = .ok (.aaload, 1) := by decide +kernel
theorem dX10_faults_96 : decode cX10_faults 96 = .ok (.aload_n 0, 1) := by decide +kernel
theorem dX10_faults_97 : decode cX10_faults 97 = .ok (.getfield 12, 3) := by decide +kernel
theorem dX10_faults_100 : decode cX10_faults 100 = .ok (.getfield 216, 3) := by decide +kernel
theorem dX10_faults_103 : decode cX10_faults 103 = .ok (.invokevirtual 219, 3) := by decide +kernel
theorem dX10_faults_106 : decode cX10_faults 106 = .ok (.aload_n 0, 1) := by decide +kernel
theorem dX10_faults_107 : decode cX10_faults 107 = .ok (.getfield 46, 3) := by decide +kernel
theorem dX10_faults_110 : decode cX10_faults 110 = .ok (.iload_n 3, 1) := by decide +kernel
theorem dX10_faults_111 : decode cX10_faults 111 = .ok (.invokevirtual 223, 3) := by decide +kernel
theorem dX10_faults_114 : decode cX10_faults 114 = .ok (.ireturn, 1) := by decide +kernel
set_option maxHeartbeats 4000000 in
set_option maxRecDepth 100000 in
theorem c_X10_faults {E : u_E} {l : Launch} {o : u_O} {p1 : Int} {p2 : Int} {p3 : Int} (ho : is_FP o) (i_p1 : InR p1) (i_p2 : InR p2) (i_p3 : InR p3) {s s' : u_S} {r : Int} (h : f_X10_faults o p1 p2 p3 s = some (r, s')) : Con l (XE E) yX10_faults cX10_faults 4 (some .int) 4 102 0 0 [.ref (E.1 o), .int (J p1), .int (J p2), .int (J p3)] (Wd E s) (RI E r s') := by
  refine Con.of [some (.ref (E.1 o)), some (.int (J p1)), some (.int (J p2)), some (.int (J p3))] (by decide +kernel) rfl rfl (Nat.le_of_ble_eq_true rfl) (fun K g => ?_)
  have g0 := g.wk
  unfold f_X10_faults at h
  refine r_aload_n g0 dX10_faults_0 rfl ?_
  refine g_FP_plan g0 ho qX10_12 dX10_faults_1 ?_
  refine g_Plan_entries g0 (is_a_FP_plan ho) qX10_153 dX10_faults_4 ?_
  refine r_iload_n g0 dX10_faults_7 rfl ?_
  obtain ⟨r_1, s_1, hr_1, h⟩ := bd_some h
  refine r_cVZ g0 (rest := []) (c_X1_has (is_a_Plan_entries (is_a_FP_plan ho)) i_p1 hr_1) ok_X1_has mX10_180 (recv_Entries (is_a_Plan_entries (is_a_FP_plan ho))) dX10_faults_8 ⟨Nat.le_of_ble_eq_true rfl, Nat.le_of_ble_eq_true rfl⟩ ⟨Nat.zero_le _, Nat.zero_le _⟩ rfl (Nat.le_of_ble_eq_true rfl) rfl (fun i_r_1 => ?_)
  obtain ⟨jp_1, hdjp_1, h⟩ := jn_some h
  have hjp_1 : ∀  (s_2 : u_S), jp_1 s_2 = some (r, s') → K 0 0 42 [some (.ref (E.1 o)), none, none, none] [] (Wd E s_2) := by
    intro s_2 h
    subst hdjp_1
    refine r_aload_n g0 dX10_faults_42 rfl ?_
    refine r_bipush g0 dX10_faults_43 rfl ?_
    obtain ⟨r_2, s_3, hr_2, h⟩ := bd_some h
    refine r_cVI g0 (rest := []) (c_X10_refused ho (InR_lit rfl) hr_2) ok_X10_refused mX10_117 (recv_FP ho) dX10_faults_45 ⟨Nat.le_of_ble_eq_true rfl, Nat.le_of_ble_eq_true rfl⟩ ⟨Nat.zero_le _, Nat.zero_le _⟩ rfl (Nat.le_of_ble_eq_true rfl) rfl (fun i_r_2 => ?_)
    exact z_I g dX10_faults_48 i_r_2 h
  clear hdjp_1
  refine r_if_eq g0 42 dX10_faults_11 (by decide) (B01.inR i_r_1) (fun hc => ?_) (fun hc => ?_)
  · replace h := if_t hc h
    refine r_mask g0 (lv' := [some (.ref (E.1 o)), none, none, none]) [true, false, false, false] rfl ?_
    exact hjp_1 s_1 h
  · replace h := if_f hc h
    refine r_aload_n g0 dX10_faults_14 rfl ?_
    refine g_FP_plan g0 ho qX10_12 dX10_faults_15 ?_
    refine g_Plan_entries g0 (is_a_FP_plan ho) qX10_153 dX10_faults_18 ?_
    refine r_iload_n g0 dX10_faults_21 rfl ?_
    obtain ⟨r_3, s_4, hr_3, h⟩ := bd_some h
    refine r_cVZ g0 (rest := []) (c_X1_has (is_a_Plan_entries (is_a_FP_plan ho)) i_p2 hr_3) ok_X1_has mX10_180 (recv_Entries (is_a_Plan_entries (is_a_FP_plan ho))) dX10_faults_22 ⟨Nat.le_of_ble_eq_true rfl, Nat.le_of_ble_eq_true rfl⟩ ⟨Nat.zero_le _, Nat.zero_le _⟩ rfl (Nat.le_of_ble_eq_true rfl) rfl (fun i_r_3 => ?_)
    refine r_if_eq g0 42 dX10_faults_25 (by decide) (B01.inR i_r_3) (fun hc => ?_) (fun hc => ?_)
    · replace h := if_t hc h
      refine r_mask g0 (lv' := [some (.ref (E.1 o)), none, none, none]) [true, false, false, false] rfl ?_
      exact hjp_1 s_4 h
    · replace h := if_f hc h
      refine r_iload_n g0 dX10_faults_28 rfl ?_
      refine r_iload_n g0 dX10_faults_29 rfl ?_
      refine r_icmp_eq g0 42 dX10_faults_30 (by decide) i_p1 i_p2 (fun hc => ?_) (fun hc => ?_)
      · replace h := if_t hc h
        refine r_mask g0 (lv' := [some (.ref (E.1 o)), none, none, none]) [true, false, false, false] rfl ?_
        exact hjp_1 s_4 h
      · replace h := if_f hc h
        refine r_iload_n g0 dX10_faults_33 rfl ?_
        refine r_iconst g0 dX10_faults_34 ?_
        refine r_iconst g0 dX10_faults_35 ?_
        obtain ⟨r_4, s_5, hr_4, h⟩ := bd_some h
        refine r_cSZ g0 (rest := []) (c_X10_within i_p3 (B01.inR B01_0) (InR_lit rfl) hr_4) ok_X10_within mX10_113 dX10_faults_36 ⟨Nat.le_of_ble_eq_true rfl, Nat.le_of_ble_eq_true rfl⟩ ⟨Nat.zero_le _, Nat.zero_le _⟩ rfl (Nat.le_of_ble_eq_true rfl) rfl (fun i_r_4 => ?_)
        refine r_if_ne g0 49 dX10_faults_39 (by decide) (B01.inR i_r_4) (fun hc => ?_) (fun hc => ?_)
        · replace h := if_f hc h
          refine r_aload_n g0 dX10_faults_49 rfl ?_
          refine g_FP_chorus g0 ho qX10_53 dX10_faults_50 ?_
          refine r_aload_n g0 dX10_faults_53 rfl ?_
          refine g_FP_plan g0 ho qX10_12 dX10_faults_54 ?_
          refine r_aload_n g0 dX10_faults_57 rfl ?_
          refine g_FP_plan g0 ho qX10_12 dX10_faults_58 ?_
          refine g_Plan_entries g0 (is_a_FP_plan ho) qX10_153 dX10_faults_61 ?_
          obtain ⟨r_5, s_6, hr_5, h⟩ := bd_some h
          refine r_cVV g0 (rest := []) (c_X0_gather (is_a_FP_chorus ho) (is_a_FP_plan ho) (is_a_Plan_entries (is_a_FP_plan ho)) hr_5) ok_X0_gather mX10_204 (recv_Chorus (is_a_FP_chorus ho)) dX10_faults_64 ⟨Nat.le_of_ble_eq_true rfl, Nat.le_of_ble_eq_true rfl⟩ ⟨Nat.zero_le _, Nat.zero_le _⟩ rfl (Nat.le_of_ble_eq_true rfl) rfl ?_
          refine r_aload_n g0 dX10_faults_67 rfl ?_
          refine g_FP_faults g0 ho qX10_46 dX10_faults_68 ?_
          obtain ⟨r_6, s_7, hr_6, h⟩ := bd_some h
          refine r_cVV g0 (rest := []) (c_X3_forget (is_a_FP_faults ho) hr_6) ok_X3_forget mX10_210 (recv_Faults (is_a_FP_faults ho)) dX10_faults_71 ⟨Nat.le_of_ble_eq_true rfl, Nat.le_of_ble_eq_true rfl⟩ ⟨Nat.zero_le _, Nat.zero_le _⟩ rfl (Nat.le_of_ble_eq_true rfl) rfl ?_
          refine r_aload_n g0 dX10_faults_74 rfl ?_
          refine g_FP_faults g0 ho qX10_46 dX10_faults_75 ?_
          refine r_aload_n g0 dX10_faults_78 rfl ?_
          refine g_FP_chorus g0 ho qX10_53 dX10_faults_79 ?_
          refine g_Chorus_items g0 (is_a_FP_chorus ho) qX10_213 dX10_faults_82 ?_
          refine r_iload_n g0 dX10_faults_85 rfl ?_
          obtain ⟨hb, h⟩ := gd_some h
          refine r_aald_Sound g0 (is_a_Chorus_items (is_a_FP_chorus ho)) i_p1 hb dX10_faults_86 ?_
          refine r_aload_n g0 dX10_faults_87 rfl ?_
          refine g_FP_chorus g0 ho qX10_53 dX10_faults_88 ?_
          refine g_Chorus_items g0 (is_a_FP_chorus ho) qX10_213 dX10_faults_91 ?_
          refine r_iload_n g0 dX10_faults_94 rfl ?_
          obtain ⟨hb_2, h⟩ := gd_some h
          refine r_aald_Sound g0 (is_a_Chorus_items (is_a_FP_chorus ho)) i_p2 hb_2 dX10_faults_95 ?_
          refine r_aload_n g0 dX10_faults_96 rfl ?_
          refine g_FP_plan g0 ho qX10_12 dX10_faults_97 ?_
          refine g_Plan_meter g0 (is_a_FP_plan ho) qX10_216 dX10_faults_100 ?_
          obtain ⟨r_7, s_8, hr_7, h⟩ := bd_some h
          refine r_cVV g0 (rest := []) (c_X3_addPair (is_a_FP_faults ho) (is_e_Sound (is_a_Chorus_items (is_a_FP_chorus ho)) hb) (is_e_Sound (is_a_Chorus_items (is_a_FP_chorus ho)) hb_2) (InR_rd _ _ _) hr_7) ok_X3_addPair mX10_219 (recv_Faults (is_a_FP_faults ho)) dX10_faults_103 ⟨Nat.le_of_ble_eq_true rfl, Nat.le_of_ble_eq_true rfl⟩ ⟨Nat.zero_le _, Nat.zero_le _⟩ rfl (Nat.le_of_ble_eq_true rfl) rfl ?_
          refine r_aload_n g0 dX10_faults_106 rfl ?_
          refine g_FP_faults g0 ho qX10_46 dX10_faults_107 ?_
          refine r_iload_n g0 dX10_faults_110 rfl ?_
          obtain ⟨r_8, s_9, hr_8, h⟩ := bd_some h
          refine r_cVI g0 (rest := []) (c_X3_number (is_a_FP_faults ho) i_p3 hr_8) ok_X3_number mX10_223 (recv_Faults (is_a_FP_faults ho)) dX10_faults_111 ⟨Nat.le_of_ble_eq_true rfl, Nat.le_of_ble_eq_true rfl⟩ ⟨Nat.zero_le _, Nat.zero_le _⟩ rfl (Nat.le_of_ble_eq_true rfl) rfl (fun i_r_8 => ?_)
          exact z_I g dX10_faults_114 i_r_8 h
        · replace h := if_t hc h
          refine r_mask g0 (lv' := [some (.ref (E.1 o)), none, none, none]) [true, false, false, false] rfl ?_
          exact hjp_1 s_5 h
theorem dX10_all_0 : decode cX10_all 0 = .ok (.iload_n 1, 1) := by decide +kernel
theorem dX10_all_1 : decode cX10_all 1 = .ok (.iconst 0, 1) := by decide +kernel
theorem dX10_all_2 : decode cX10_all 2 = .ok (.iconst 5, 1) := by decide +kernel
theorem dX10_all_3 : decode cX10_all 3 = .ok (.invokestatic 113, 3) := by decide +kernel
theorem dX10_all_6 : decode cX10_all 6 = .ok (.ifCond .ne 10, 3) := by decide +kernel
theorem dX10_all_9 : decode cX10_all 9 = .ok (.aload_n 0, 1) := by decide +kernel
theorem dX10_all_10 : decode cX10_all 10 = .ok (.bipush (-2), 2) := by decide +kernel
theorem dX10_all_12 : decode cX10_all 12 = .ok (.invokevirtual 117, 3) := by decide +kernel
theorem dX10_all_15 : decode cX10_all 15 = .ok (.ireturn, 1) := by decide +kernel
theorem dX10_all_16 : decode cX10_all 16 = .ok (.aload_n 0, 1) := by decide +kernel
theorem dX10_all_17 : decode cX10_all 17 = .ok (.getfield 53, 3) := by decide +kernel
theorem dX10_all_20 : decode cX10_all 20 = .ok (.aload_n 0, 1) := by decide +kernel
theorem dX10_all_21 : decode cX10_all 21 = .ok (.getfield 12, 3) := by decide +kernel
theorem dX10_all_24 : decode cX10_all 24 = .ok (.aload_n 0, 1) := by decide +kernel
theorem dX10_all_25 : decode cX10_all 25 = .ok (.getfield 12, 3) := by decide +kernel
theorem dX10_all_28 : decode cX10_all 28 = .ok (.getfield 153, 3) := by decide +kernel
theorem dX10_all_31 : decode cX10_all 31 = .ok (.invokevirtual 204, 3) := by decide +kernel
theorem dX10_all_34 : decode cX10_all 34 = .ok (.iload_n 1, 1) := by decide +kernel
theorem dX10_all_35 : decode cX10_all 35 = .ok (.iconst 4, 1) := by decide +kernel
theorem dX10_all_36 : decode cX10_all 36 = .ok (.if_icmp .ne 11, 3) := by decide +kernel
theorem dX10_all_39 : decode cX10_all 39 = .ok (.aload_n 0, 1) := by decide +kernel
theorem dX10_all_40 : decode cX10_all 40 = .ok (.getfield 53, 3) := by decide +kernel
theorem dX10_all_43 : decode cX10_all 43 = .ok (.invokevirtual 226, 3) := by decide +kernel
theorem dX10_all_46 : decode cX10_all 46 = .ok (.ireturn, 1) := by decide +kernel
theorem dX10_all_47 : decode cX10_all 47 = .ok (.iload_n 1, 1) := by decide +kernel
theorem dX10_all_48 : decode cX10_all 48 = .ok (.iconst 5, 1) := by decide +kernel
theorem dX10_all_49 : decode cX10_all 49 = .ok (.if_icmp .ne 11, 3) := by decide +kernel
theorem dX10_all_52 : decode cX10_all 52 = .ok (.aload_n 0, 1) := by decide +kernel
theorem dX10_all_53 : decode cX10_all 53 = .ok (.getfield 53, 3) := by decide +kernel
theorem dX10_all_56 : decode cX10_all 56 = .ok (.invokevirtual 229, 3) := by decide +kernel
theorem dX10_all_59 : decode cX10_all 59 = .ok (.ireturn, 1) := by decide +kernel
theorem dX10_all_60 : decode cX10_all 60 = .ok (.aload_n 0, 1) := by decide +kernel
theorem dX10_all_61 : decode cX10_all 61 = .ok (.getfield 53, 3) := by decide +kernel
theorem dX10_all_64 : decode cX10_all 64 = .ok (.aload_n 0, 1) := by decide +kernel
theorem dX10_all_65 : decode cX10_all 65 = .ok (.getfield 46, 3) := by decide +kernel
theorem dX10_all_68 : decode cX10_all 68 = .ok (.aload_n 0, 1) := by decide +kernel
theorem dX10_all_69 : decode cX10_all 69 = .ok (.getfield 12, 3) := by decide +kernel
theorem dX10_all_72 : decode cX10_all 72 = .ok (.getfield 216, 3) := by decide +kernel
theorem dX10_all_75 : decode cX10_all 75 = .ok (.invokevirtual 232, 3) := by decide +kernel
theorem dX10_all_78 : decode cX10_all 78 = .ok (.aload_n 0, 1) := by decide +kernel
theorem dX10_all_79 : decode cX10_all 79 = .ok (.getfield 46, 3) := by decide +kernel
theorem dX10_all_82 : decode cX10_all 82 = .ok (.iload_n 1, 1) := by decide +kernel
theorem dX10_all_83 : decode cX10_all 83 = .ok (.invokevirtual 223, 3) := by decide +kernel
theorem dX10_all_86 : decode cX10_all 86 = .ok (.ireturn, 1) := by decide +kernel
set_option maxHeartbeats 4000000 in
set_option maxRecDepth 100000 in
theorem c_X10_all {E : u_E} {l : Launch} {o : u_O} {p1 : Int} (ho : is_FP o) (i_p1 : InR p1) {s s' : u_S} {r : Int} (h : f_X10_all o p1 s = some (r, s')) : Con l (XE E) yX10_all cX10_all 2 (some .int) 5 126 0 0 [.ref (E.1 o), .int (J p1)] (Wd E s) (RI E r s') := by
  refine Con.of [some (.ref (E.1 o)), some (.int (J p1))] (by decide +kernel) rfl rfl (Nat.le_of_ble_eq_true rfl) (fun K g => ?_)
  have g0 := g.wk
  unfold f_X10_all at h
  refine r_iload_n g0 dX10_all_0 rfl ?_
  refine r_iconst g0 dX10_all_1 ?_
  refine r_iconst g0 dX10_all_2 ?_
  obtain ⟨r_1, s_1, hr_1, h⟩ := bd_some h
  refine r_cSZ g0 (rest := []) (c_X10_within i_p1 (B01.inR B01_0) (InR_lit rfl) hr_1) ok_X10_within mX10_113 dX10_all_3 ⟨Nat.le_of_ble_eq_true rfl, Nat.le_of_ble_eq_true rfl⟩ ⟨Nat.zero_le _, Nat.zero_le _⟩ rfl (Nat.le_of_ble_eq_true rfl) rfl (fun i_r_1 => ?_)
  refine r_if_ne g0 16 dX10_all_6 (by decide) (B01.inR i_r_1) (fun hc => ?_) (fun hc => ?_)
  · replace h := if_f hc h
    refine r_aload_n g0 dX10_all_16 rfl ?_
    refine g_FP_chorus g0 ho qX10_53 dX10_all_17 ?_
    refine r_aload_n g0 dX10_all_20 rfl ?_
    refine g_FP_plan g0 ho qX10_12 dX10_all_21 ?_
    refine r_aload_n g0 dX10_all_24 rfl ?_
    refine g_FP_plan g0 ho qX10_12 dX10_all_25 ?_
    refine g_Plan_entries g0 (is_a_FP_plan ho) qX10_153 dX10_all_28 ?_
    obtain ⟨r_2, s_2, hr_2, h⟩ := bd_some h
    refine r_cVV g0 (rest := []) (c_X0_gather (is_a_FP_chorus ho) (is_a_FP_plan ho) (is_a_Plan_entries (is_a_FP_plan ho)) hr_2) ok_X0_gather mX10_204 (recv_Chorus (is_a_FP_chorus ho)) dX10_all_31 ⟨Nat.le_of_ble_eq_true rfl, Nat.le_of_ble_eq_true rfl⟩ ⟨Nat.zero_le _, Nat.zero_le _⟩ rfl (Nat.le_of_ble_eq_true rfl) rfl ?_
    refine r_iload_n g0 dX10_all_34 rfl ?_
    refine r_iconst g0 dX10_all_35 ?_
    refine r_icmp_ne g0 47 dX10_all_36 (by decide) i_p1 (InR_lit rfl) (fun hc => ?_) (fun hc => ?_)
    · replace h := if_f hc h
      refine r_iload_n g0 dX10_all_47 rfl ?_
      refine r_iconst g0 dX10_all_48 ?_
      refine r_icmp_ne g0 60 dX10_all_49 (by decide) i_p1 (InR_lit rfl) (fun hc => ?_) (fun hc => ?_)
      · replace h := if_f hc h
        refine r_aload_n g0 dX10_all_60 rfl ?_
        refine g_FP_chorus g0 ho qX10_53 dX10_all_61 ?_
        refine r_aload_n g0 dX10_all_64 rfl ?_
        refine g_FP_faults g0 ho qX10_46 dX10_all_65 ?_
        refine r_aload_n g0 dX10_all_68 rfl ?_
        refine g_FP_plan g0 ho qX10_12 dX10_all_69 ?_
        refine g_Plan_meter g0 (is_a_FP_plan ho) qX10_216 dX10_all_72 ?_
        obtain ⟨r_3, s_3, hr_3, h⟩ := bd_some h
        refine r_cVV g0 (rest := []) (c_X0_countFaults (is_a_FP_chorus ho) (is_a_FP_faults ho) (InR_rd _ _ _) hr_3) ok_X0_countFaults mX10_232 (recv_Chorus (is_a_FP_chorus ho)) dX10_all_75 ⟨Nat.le_of_ble_eq_true rfl, Nat.le_of_ble_eq_true rfl⟩ ⟨Nat.zero_le _, Nat.zero_le _⟩ rfl (Nat.le_of_ble_eq_true rfl) rfl ?_
        refine r_aload_n g0 dX10_all_78 rfl ?_
        refine g_FP_faults g0 ho qX10_46 dX10_all_79 ?_
        refine r_iload_n g0 dX10_all_82 rfl ?_
        obtain ⟨r_4, s_4, hr_4, h⟩ := bd_some h
        refine r_cVI g0 (rest := []) (c_X3_number (is_a_FP_faults ho) i_p1 hr_4) ok_X3_number mX10_223 (recv_Faults (is_a_FP_faults ho)) dX10_all_83 ⟨Nat.le_of_ble_eq_true rfl, Nat.le_of_ble_eq_true rfl⟩ ⟨Nat.zero_le _, Nat.zero_le _⟩ rfl (Nat.le_of_ble_eq_true rfl) rfl (fun i_r_4 => ?_)
        exact z_I g dX10_all_86 i_r_4 h
      · replace h := if_t hc h
        refine r_aload_n g0 dX10_all_52 rfl ?_
        refine g_FP_chorus g0 ho qX10_53 dX10_all_53 ?_
        obtain ⟨r_5, s_5, hr_5, h⟩ := bd_some h
        refine r_cVI g0 (rest := []) (c_X0_mostAtOnce (is_a_FP_chorus ho) hr_5) ok_X0_mostAtOnce mX10_229 (recv_Chorus (is_a_FP_chorus ho)) dX10_all_56 ⟨Nat.le_of_ble_eq_true rfl, Nat.le_of_ble_eq_true rfl⟩ ⟨Nat.zero_le _, Nat.zero_le _⟩ rfl (Nat.le_of_ble_eq_true rfl) rfl (fun i_r_5 => ?_)
        exact z_I g dX10_all_59 i_r_5 h
    · replace h := if_t hc h
      refine r_aload_n g0 dX10_all_39 rfl ?_
      refine g_FP_chorus g0 ho qX10_53 dX10_all_40 ?_
      obtain ⟨r_6, s_6, hr_6, h⟩ := bd_some h
      refine r_cVI g0 (rest := []) (c_X0_end (is_a_FP_chorus ho) hr_6) ok_X0_end mX10_226 (recv_Chorus (is_a_FP_chorus ho)) dX10_all_43 ⟨Nat.le_of_ble_eq_true rfl, Nat.le_of_ble_eq_true rfl⟩ ⟨Nat.zero_le _, Nat.zero_le _⟩ rfl (Nat.le_of_ble_eq_true rfl) rfl (fun i_r_6 => ?_)
      exact z_I g dX10_all_46 i_r_6 h
  · replace h := if_t hc h
    refine r_aload_n g0 dX10_all_9 rfl ?_
    refine r_bipush g0 dX10_all_10 rfl ?_
    obtain ⟨r_7, s_7, hr_7, h⟩ := bd_some h
    refine r_cVI g0 (rest := []) (c_X10_refused ho (InR_lit rfl) hr_7) ok_X10_refused mX10_117 (recv_FP ho) dX10_all_12 ⟨Nat.le_of_ble_eq_true rfl, Nat.le_of_ble_eq_true rfl⟩ ⟨Nat.zero_le _, Nat.zero_le _⟩ rfl (Nat.le_of_ble_eq_true rfl) rfl (fun i_r_7 => ?_)
    exact z_I g dX10_all_15 i_r_7 h
theorem dX10_first_0 : decode cX10_first 0 = .ok (.iload_n 1, 1) := by decide +kernel
theorem dX10_first_1 : decode cX10_first 1 = .ok (.iconst 0, 1) := by decide +kernel
theorem dX10_first_2 : decode cX10_first 2 = .ok (.iconst 2, 1) := by decide +kernel
theorem dX10_first_3 : decode cX10_first 3 = .ok (.invokestatic 113, 3) := by decide +kernel
theorem dX10_first_6 : decode cX10_first 6 = .ok (.ifCond .ne 10, 3) := by decide +kernel
theorem dX10_first_9 : decode cX10_first 9 = .ok (.aload_n 0, 1) := by decide +kernel
theorem dX10_first_10 : decode cX10_first 10 = .ok (.bipush (-2), 2) := by decide +kernel
theorem dX10_first_12 : decode cX10_first 12 = .ok (.invokevirtual 117, 3) := by decide +kernel
theorem dX10_first_15 : decode cX10_first 15 = .ok (.ireturn, 1) := by decide +kernel
theorem dX10_first_16 : decode cX10_first 16 = .ok (.aload_n 0, 1) := by decide +kernel
theorem dX10_first_17 : decode cX10_first 17 = .ok (.getfield 53, 3) := by decide +kernel
theorem dX10_first_20 : decode cX10_first 20 = .ok (.aload_n 0, 1) := by decide +kernel
theorem dX10_first_21 : decode cX10_first 21 = .ok (.getfield 12, 3) := by decide +kernel
theorem dX10_first_24 : decode cX10_first 24 = .ok (.aload_n 0, 1) := by decide +kernel
theorem dX10_first_25 : decode cX10_first 25 = .ok (.getfield 12, 3) := by decide +kernel
theorem dX10_first_28 : decode cX10_first 28 = .ok (.getfield 153, 3) := by decide +kernel
theorem dX10_first_31 : decode cX10_first 31 = .ok (.invokevirtual 204, 3) := by decide +kernel
theorem dX10_first_34 : decode cX10_first 34 = .ok (.aload_n 0, 1) := by decide +kernel
theorem dX10_first_35 : decode cX10_first 35 = .ok (.getfield 53, 3) := by decide +kernel
theorem dX10_first_38 : decode cX10_first 38 = .ok (.aload_n 0, 1) := by decide +kernel
theorem dX10_first_39 : decode cX10_first 39 = .ok (.getfield 12, 3) := by decide +kernel
theorem dX10_first_42 : decode cX10_first 42 = .ok (.getfield 216, 3) := by decide +kernel
theorem dX10_first_45 : decode cX10_first 45 = .ok (.invokevirtual 236, 3) := by decide +kernel
theorem dX10_first_48 : decode cX10_first 48 = .ok (.istore_n 2, 1) := by decide +kernel
theorem dX10_first_49 : decode cX10_first 49 = .ok (.iload_n 2, 1) := by decide +kernel
theorem dX10_first_50 : decode cX10_first 50 = .ok (.iconst (-1), 1) := by decide +kernel
theorem dX10_first_51 : decode cX10_first 51 = .ok (.if_icmp .eq 7, 3) := by decide +kernel
theorem dX10_first_54 : decode cX10_first 54 = .ok (.iload_n 1, 1) := by decide +kernel
theorem dX10_first_55 : decode cX10_first 55 = .ok (.ifCond .ne 5, 3) := by decide +kernel
theorem dX10_first_58 : decode cX10_first 58 = .ok (.iload_n 2, 1) := by decide +kernel
theorem dX10_first_59 : decode cX10_first 59 = .ok (.ireturn, 1) := by decide +kernel
theorem dX10_first_60 : decode cX10_first 60 = .ok (.aload_n 0, 1) := by decide +kernel
theorem dX10_first_61 : decode cX10_first 61 = .ok (.getfield 53, 3) := by decide +kernel
theorem dX10_first_64 : decode cX10_first 64 = .ok (.iload_n 2, 1) := by decide +kernel
theorem dX10_first_65 : decode cX10_first 65 = .ok (.aload_n 0, 1) := by decide +kernel
theorem dX10_first_66 : decode cX10_first 66 = .ok (.getfield 12, 3) := by decide +kernel
theorem dX10_first_69 : decode cX10_first 69 = .ok (.getfield 216, 3) := by decide +kernel
theorem dX10_first_72 : decode cX10_first 72 = .ok (.invokevirtual 239, 3) := by decide +kernel
theorem dX10_first_75 : decode cX10_first 75 = .ok (.istore_n 3, 1) := by decide +kernel
theorem dX10_first_76 : decode cX10_first 76 = .ok (.iload_n 1, 1) := by decide +kernel
theorem dX10_first_77 : decode cX10_first 77 = .ok (.iconst 1, 1) := by decide +kernel
theorem dX10_first_78 : decode cX10_first 78 = .ok (.if_icmp .ne 7, 3) := by decide +kernel
theorem dX10_first_81 : decode cX10_first 81 = .ok (.iload_n 3, 1) := by decide +kernel
theorem dX10_first_82 : decode cX10_first 82 = .ok (.goto 19, 3) := by decide +kernel
theorem dX10_first_85 : decode cX10_first 85 = .ok (.aload_n 0, 1) := by decide +kernel
theorem dX10_first_86 : decode cX10_first 86 = .ok (.getfield 53, 3) := by decide +kernel
theorem dX10_first_89 : decode cX10_first 89 = .ok (.iload_n 2, 1) := by decide +kernel
theorem dX10_first_90 : decode cX10_first 90 = .ok (.iload_n 3, 1) := by decide +kernel
theorem dX10_first_91 : decode cX10_first 91 = .ok (.aload_n 0, 1) := by decide +kernel
theorem dX10_first_92 : decode cX10_first 92 = .ok (.getfield 12, 3) := by decide +kernel
theorem dX10_first_95 : decode cX10_first 95 = .ok (.getfield 216, 3) := by decide +kernel
theorem dX10_first_98 : decode cX10_first 98 = .ok (.invokevirtual 242, 3) := by decide +kernel
theorem dX10_first_101 : decode cX10_first 101 = .ok (.ireturn, 1) := by decide +kernel
set_option maxHeartbeats 4000000 in
set_option maxRecDepth 100000 in
theorem c_X10_first {E : u_E} {l : Launch} {o : u_O} {p1 : Int} (ho : is_FP o) (i_p1 : InR p1) {s s' : u_S} {r : Int} (h : f_X10_first o p1 s = some (r, s')) : Con l (XE E) yX10_first cX10_first 4 (some .int) 6 148 0 0 [.ref (E.1 o), .int (J p1)] (Wd E s) (RI E r s') := by
  refine Con.of [some (.ref (E.1 o)), some (.int (J p1)), none, none] (by decide +kernel) rfl rfl (Nat.le_of_ble_eq_true rfl) (fun K g => ?_)
  have g0 := g.wk
  unfold f_X10_first at h
  refine r_iload_n g0 dX10_first_0 rfl ?_
  refine r_iconst g0 dX10_first_1 ?_
  refine r_iconst g0 dX10_first_2 ?_
  obtain ⟨r_1, s_1, hr_1, h⟩ := bd_some h
  refine r_cSZ g0 (rest := []) (c_X10_within i_p1 (B01.inR B01_0) (InR_lit rfl) hr_1) ok_X10_within mX10_113 dX10_first_3 ⟨Nat.le_of_ble_eq_true rfl, Nat.le_of_ble_eq_true rfl⟩ ⟨Nat.zero_le _, Nat.zero_le _⟩ rfl (Nat.le_of_ble_eq_true rfl) rfl (fun i_r_1 => ?_)
  refine r_if_ne g0 16 dX10_first_6 (by decide) (B01.inR i_r_1) (fun hc => ?_) (fun hc => ?_)
  · replace h := if_f hc h
    refine r_aload_n g0 dX10_first_16 rfl ?_
    refine g_FP_chorus g0 ho qX10_53 dX10_first_17 ?_
    refine r_aload_n g0 dX10_first_20 rfl ?_
    refine g_FP_plan g0 ho qX10_12 dX10_first_21 ?_
    refine r_aload_n g0 dX10_first_24 rfl ?_
    refine g_FP_plan g0 ho qX10_12 dX10_first_25 ?_
    refine g_Plan_entries g0 (is_a_FP_plan ho) qX10_153 dX10_first_28 ?_
    obtain ⟨r_2, s_2, hr_2, h⟩ := bd_some h
    refine r_cVV g0 (rest := []) (c_X0_gather (is_a_FP_chorus ho) (is_a_FP_plan ho) (is_a_Plan_entries (is_a_FP_plan ho)) hr_2) ok_X0_gather mX10_204 (recv_Chorus (is_a_FP_chorus ho)) dX10_first_31 ⟨Nat.le_of_ble_eq_true rfl, Nat.le_of_ble_eq_true rfl⟩ ⟨Nat.zero_le _, Nat.zero_le _⟩ rfl (Nat.le_of_ble_eq_true rfl) rfl ?_
    refine r_aload_n g0 dX10_first_34 rfl ?_
    refine g_FP_chorus g0 ho qX10_53 dX10_first_35 ?_
    refine r_aload_n g0 dX10_first_38 rfl ?_
    refine g_FP_plan g0 ho qX10_12 dX10_first_39 ?_
    refine g_Plan_meter g0 (is_a_FP_plan ho) qX10_216 dX10_first_42 ?_
    obtain ⟨r_3, s_3, hr_3, h⟩ := bd_some h
    refine r_cVI g0 (rest := []) (c_X0_firstFaultTick (is_a_FP_chorus ho) (InR_rd _ _ _) hr_3) ok_X0_firstFaultTick mX10_236 (recv_Chorus (is_a_FP_chorus ho)) dX10_first_45 ⟨Nat.le_of_ble_eq_true rfl, Nat.le_of_ble_eq_true rfl⟩ ⟨Nat.zero_le _, Nat.zero_le _⟩ rfl (Nat.le_of_ble_eq_true rfl) rfl (fun i_r_3 => ?_)
    refine r_istore_n g0 (lv' := [some (.ref (E.1 o)), some (.int (J p1)), some (.int (J r_3)), none]) dX10_first_48 (by decide) rfl rfl ?_
    refine r_iload_n g0 dX10_first_49 rfl ?_
    refine r_iconst g0 dX10_first_50 ?_
    refine r_icmp_eq g0 58 dX10_first_51 (by decide) i_r_3 (InR_lit rfl) (fun hc => ?_) (fun hc => ?_)
    · replace h := if_t hc h
      refine r_iload_n g0 dX10_first_58 rfl ?_
      exact z_I g dX10_first_59 i_r_3 h
    · replace h := if_f hc h
      refine r_iload_n g0 dX10_first_54 rfl ?_
      refine r_if_ne g0 60 dX10_first_55 (by decide) i_p1 (fun hc => ?_) (fun hc => ?_)
      · replace h := if_f hc h
        refine r_aload_n g0 dX10_first_60 rfl ?_
        refine g_FP_chorus g0 ho qX10_53 dX10_first_61 ?_
        refine r_iload_n g0 dX10_first_64 rfl ?_
        refine r_aload_n g0 dX10_first_65 rfl ?_
        refine g_FP_plan g0 ho qX10_12 dX10_first_66 ?_
        refine g_Plan_meter g0 (is_a_FP_plan ho) qX10_216 dX10_first_69 ?_
        obtain ⟨r_4, s_4, hr_4, h⟩ := bd_some h
        refine r_cVI g0 (rest := []) (c_X0_leastKindAt (is_a_FP_chorus ho) i_r_3 (InR_rd _ _ _) hr_4) ok_X0_leastKindAt mX10_239 (recv_Chorus (is_a_FP_chorus ho)) dX10_first_72 ⟨Nat.le_of_ble_eq_true rfl, Nat.le_of_ble_eq_true rfl⟩ ⟨Nat.zero_le _, Nat.zero_le _⟩ rfl (Nat.le_of_ble_eq_true rfl) rfl (fun i_r_4 => ?_)
        refine r_istore_n g0 (lv' := [some (.ref (E.1 o)), some (.int (J p1)), some (.int (J r_3)), some (.int (J r_4))]) dX10_first_75 (by decide) rfl rfl ?_
        refine r_iload_n g0 dX10_first_76 rfl ?_
        refine r_iconst g0 dX10_first_77 ?_
        refine r_icmp_ne g0 85 dX10_first_78 (by decide) i_p1 (B01.inR B01_1) (fun hc => ?_) (fun hc => ?_)
        · replace h := if_f hc h
          refine r_aload_n g0 dX10_first_85 rfl ?_
          refine g_FP_chorus g0 ho qX10_53 dX10_first_86 ?_
          refine r_iload_n g0 dX10_first_89 rfl ?_
          refine r_iload_n g0 dX10_first_90 rfl ?_
          refine r_aload_n g0 dX10_first_91 rfl ?_
          refine g_FP_plan g0 ho qX10_12 dX10_first_92 ?_
          refine g_Plan_meter g0 (is_a_FP_plan ho) qX10_216 dX10_first_95 ?_
          obtain ⟨r_5, s_5, hr_5, h⟩ := bd_some h
          refine r_cVI g0 (rest := []) (c_X0_firstPairAt (is_a_FP_chorus ho) i_r_3 i_r_4 (InR_rd _ _ _) hr_5) ok_X0_firstPairAt mX10_242 (recv_Chorus (is_a_FP_chorus ho)) dX10_first_98 ⟨Nat.le_of_ble_eq_true rfl, Nat.le_of_ble_eq_true rfl⟩ ⟨Nat.zero_le _, Nat.zero_le _⟩ rfl (Nat.le_of_ble_eq_true rfl) rfl (fun i_r_5 => ?_)
          exact z_I g dX10_first_101 i_r_5 h
        · replace h := if_t hc h
          refine r_iload_n g0 dX10_first_81 rfl ?_
          refine r_goto g0 101 dX10_first_82 (by decide) ?_
          exact z_I g dX10_first_101 i_r_4 h
      · replace h := if_t hc h
        refine r_iload_n g0 dX10_first_58 rfl ?_
        exact z_I g dX10_first_59 i_r_3 h
  · replace h := if_t hc h
    refine r_aload_n g0 dX10_first_9 rfl ?_
    refine r_bipush g0 dX10_first_10 rfl ?_
    obtain ⟨r_6, s_6, hr_6, h⟩ := bd_some h
    refine r_cVI g0 (rest := []) (c_X10_refused ho (InR_lit rfl) hr_6) ok_X10_refused mX10_117 (recv_FP ho) dX10_first_12 ⟨Nat.le_of_ble_eq_true rfl, Nat.le_of_ble_eq_true rfl⟩ ⟨Nat.zero_le _, Nat.zero_le _⟩ rfl (Nat.le_of_ble_eq_true rfl) rfl (fun i_r_6 => ?_)
    exact z_I g dX10_first_15 i_r_6 h
theorem dX10_formStretto_0 : decode cX10_formStretto 0 = .ok (.aload_n 0, 1) := by decide +kernel
theorem dX10_formStretto_1 : decode cX10_formStretto 1 = .ok (.getfield 12, 3) := by decide +kernel
theorem dX10_formStretto_4 : decode cX10_formStretto 4 = .ok (.aload_n 0, 1) := by decide +kernel
theorem dX10_formStretto_5 : decode cX10_formStretto 5 = .ok (.getfield 36, 3) := by decide +kernel
theorem dX10_formStretto_8 : decode cX10_formStretto 8 = .ok (.iload_n 1, 1) := by decide +kernel
theorem dX10_formStretto_9 : decode cX10_formStretto 9 = .ok (.iconst 0, 1) := by decide +kernel
theorem dX10_formStretto_10 : decode cX10_formStretto 10 = .ok (.iconst 0, 1) := by decide +kernel
theorem dX10_formStretto_11 : decode cX10_formStretto 11 = .ok (.invokevirtual 162, 3) := by decide +kernel
theorem dX10_formStretto_14 : decode cX10_formStretto 14 = .ok (.aload_n 0, 1) := by decide +kernel
theorem dX10_formStretto_15 : decode cX10_formStretto 15 = .ok (.getfield 36, 3) := by decide +kernel
theorem dX10_formStretto_18 : decode cX10_formStretto 18 = .ok (.iconst 0, 1) := by decide +kernel
theorem dX10_formStretto_19 : decode cX10_formStretto 19 = .ok (.iconst 0, 1) := by decide +kernel
theorem dX10_formStretto_20 : decode cX10_formStretto 20 = .ok (.invokevirtual 166, 3) := by decide +kernel
theorem dX10_formStretto_23 : decode cX10_formStretto 23 = .ok (.aload_n 0, 1) := by decide +kernel
theorem dX10_formStretto_24 : decode cX10_formStretto 24 = .ok (.getfield 12, 3) := by decide +kernel
theorem dX10_formStretto_27 : decode cX10_formStretto 27 = .ok (.aload_n 0, 1) := by decide +kernel
theorem dX10_formStretto_28 : decode cX10_formStretto 28 = .ok (.getfield 40, 3) := by decide +kernel
theorem dX10_formStretto_31 : decode cX10_formStretto 31 = .ok (.iload_n 1, 1) := by decide +kernel
theorem dX10_formStretto_32 : decode cX10_formStretto 32 = .ok (.iload_n 2, 1) := by decide +kernel
theorem dX10_formStretto_33 : decode cX10_formStretto 33 = .ok (.iload_n 3, 1) := by decide +kernel
theorem dX10_formStretto_34 : decode cX10_formStretto 34 = .ok (.invokevirtual 162, 3) := by decide +kernel
theorem dX10_formStretto_37 : decode cX10_formStretto 37 = .ok (.return_, 1) := by decide +kernel
set_option maxHeartbeats 4000000 in
set_option maxRecDepth 100000 in
theorem c_X10_formStretto {E : u_E} {l : Launch} {o : u_O} {p1 : Int} {p2 : Int} {p3 : Int} (ho : is_FP o) (i_p1 : InR p1) (i_p2 : InR p2) (i_p3 : InR p3) {s s' : u_S} {r : Int} (h : f_X10_formStretto o p1 p2 p3 s = some (r, s')) : Con l (XE E) yX10_formStretto cX10_formStretto 4 none 3 73 0 0 [.ref (E.1 o), .int (J p1), .int (J p2), .int (J p3)] (Wd E s) (RV E r s') := by
  refine Con.of [some (.ref (E.1 o)), some (.int (J p1)), some (.int (J p2)), some (.int (J p3))] (by decide +kernel) rfl rfl (Nat.le_of_ble_eq_true rfl) (fun K g => ?_)
  have g0 := g.wk
  unfold f_X10_formStretto at h
  refine r_aload_n g0 dX10_formStretto_0 rfl ?_
  refine g_FP_plan g0 ho qX10_12 dX10_formStretto_1 ?_
  refine r_aload_n g0 dX10_formStretto_4 rfl ?_
  refine g_FP_upper g0 ho qX10_36 dX10_formStretto_5 ?_
  refine r_iload_n g0 dX10_formStretto_8 rfl ?_
  refine r_iconst g0 dX10_formStretto_9 ?_
  refine r_iconst g0 dX10_formStretto_10 ?_
  obtain ⟨r_1, s_1, hr_1, h⟩ := bd_some h
  refine r_cVV g0 (rest := []) (c_X6_form (is_a_FP_plan ho) (is_a_FP_upper ho) i_p1 (B01.inR B01_0) (B01.inR B01_0) hr_1) ok_X6_form mX10_162 (recv_Plan (is_a_FP_plan ho)) dX10_formStretto_11 ⟨Nat.le_of_ble_eq_true rfl, Nat.le_of_ble_eq_true rfl⟩ ⟨Nat.zero_le _, Nat.zero_le _⟩ rfl (Nat.le_of_ble_eq_true rfl) rfl ?_
  refine r_aload_n g0 dX10_formStretto_14 rfl ?_
  refine g_FP_upper g0 ho qX10_36 dX10_formStretto_15 ?_
  refine r_iconst g0 dX10_formStretto_18 ?_
  refine r_iconst g0 dX10_formStretto_19 ?_
  obtain ⟨r_2, s_2, hr_2, h⟩ := bd_some h
  refine r_cVV g0 (rest := []) (c_X8_place (is_a_FP_upper ho) (B01.inR B01_0) (B01.inR B01_0) hr_2) ok_X8_place mX10_166 (recv_Sound (is_a_FP_upper ho)) dX10_formStretto_20 ⟨Nat.le_of_ble_eq_true rfl, Nat.le_of_ble_eq_true rfl⟩ ⟨Nat.zero_le _, Nat.zero_le _⟩ rfl (Nat.le_of_ble_eq_true rfl) rfl ?_
  refine r_aload_n g0 dX10_formStretto_23 rfl ?_
  refine g_FP_plan g0 ho qX10_12 dX10_formStretto_24 ?_
  refine r_aload_n g0 dX10_formStretto_27 rfl ?_
  refine g_FP_lower g0 ho qX10_40 dX10_formStretto_28 ?_
  refine r_iload_n g0 dX10_formStretto_31 rfl ?_
  refine r_iload_n g0 dX10_formStretto_32 rfl ?_
  refine r_iload_n g0 dX10_formStretto_33 rfl ?_
  obtain ⟨r_3, s_3, hr_3, h⟩ := bd_some h
  refine r_cVV g0 (rest := []) (c_X6_form (is_a_FP_plan ho) (is_a_FP_lower ho) i_p1 i_p2 i_p3 hr_3) ok_X6_form mX10_162 (recv_Plan (is_a_FP_plan ho)) dX10_formStretto_34 ⟨Nat.le_of_ble_eq_true rfl, Nat.le_of_ble_eq_true rfl⟩ ⟨Nat.zero_le _, Nat.zero_le _⟩ rfl (Nat.le_of_ble_eq_true rfl) rfl ?_
  exact z_V g dX10_formStretto_37 h
theorem dX10_strettoFits_0 : decode cX10_strettoFits 0 = .ok (.aload_n 0, 1) := by decide +kernel
theorem dX10_strettoFits_1 : decode cX10_strettoFits 1 = .ok (.getfield 40, 3) := by decide +kernel
theorem dX10_strettoFits_4 : decode cX10_strettoFits 4 = .ok (.iload_n 1, 1) := by decide +kernel
theorem dX10_strettoFits_5 : decode cX10_strettoFits 5 = .ok (.iconst 1, 1) := by decide +kernel
theorem dX10_strettoFits_6 : decode cX10_strettoFits 6 = .ok (.invokevirtual 166, 3) := by decide +kernel
theorem dX10_strettoFits_9 : decode cX10_strettoFits 9 = .ok (.aload_n 0, 1) := by decide +kernel
theorem dX10_strettoFits_10 : decode cX10_strettoFits 10 = .ok (.getfield 46, 3) := by decide +kernel
theorem dX10_strettoFits_13 : decode cX10_strettoFits 13 = .ok (.invokevirtual 210, 3) := by decide +kernel
theorem dX10_strettoFits_16 : decode cX10_strettoFits 16 = .ok (.aload_n 0, 1) := by decide +kernel
theorem dX10_strettoFits_17 : decode cX10_strettoFits 17 = .ok (.getfield 46, 3) := by decide +kernel
theorem dX10_strettoFits_20 : decode cX10_strettoFits 20 = .ok (.aload_n 0, 1) := by decide +kernel
theorem dX10_strettoFits_21 : decode cX10_strettoFits 21 = .ok (.getfield 36, 3) := by decide +kernel
theorem dX10_strettoFits_24 : decode cX10_strettoFits 24 = .ok (.aload_n 0, 1) := by decide +kernel
theorem dX10_strettoFits_25 : decode cX10_strettoFits 25 = .ok (.getfield 40, 3) := by decide +kernel
theorem dX10_strettoFits_28 : decode cX10_strettoFits 28 = .ok (.aload_n 0, 1) := by decide +kernel
theorem dX10_strettoFits_29 : decode cX10_strettoFits 29 = .ok (.getfield 12, 3) := by decide +kernel
theorem dX10_strettoFits_32 : decode cX10_strettoFits 32 = .ok (.getfield 216, 3) := by decide +kernel
theorem dX10_strettoFits_35 : decode cX10_strettoFits 35 = .ok (.invokevirtual 219, 3) := by decide +kernel
theorem dX10_strettoFits_38 : decode cX10_strettoFits 38 = .ok (.aload_n 0, 1) := by decide +kernel
theorem dX10_strettoFits_39 : decode cX10_strettoFits 39 = .ok (.getfield 46, 3) := by decide +kernel
theorem dX10_strettoFits_42 : decode cX10_strettoFits 42 = .ok (.iconst 0, 1) := by decide +kernel
theorem dX10_strettoFits_43 : decode cX10_strettoFits 43 = .ok (.invokevirtual 223, 3) := by decide +kernel
theorem dX10_strettoFits_46 : decode cX10_strettoFits 46 = .ok (.ifCond .ne 18, 3) := by decide +kernel
theorem dX10_strettoFits_49 : decode cX10_strettoFits 49 = .ok (.aload_n 0, 1) := by decide +kernel
theorem dX10_strettoFits_50 : decode cX10_strettoFits 50 = .ok (.getfield 46, 3) := by decide +kernel
theorem dX10_strettoFits_53 : decode cX10_strettoFits 53 = .ok (.iconst 2, 1) := by decide +kernel
theorem dX10_strettoFits_54 : decode cX10_strettoFits 54 = .ok (.invokevirtual 223, 3) := by decide +kernel
theorem dX10_strettoFits_57 : decode cX10_strettoFits 57 = .ok (.ifCond .ne 7, 3) := by decide +kernel
theorem dX10_strettoFits_60 : decode cX10_strettoFits 60 = .ok (.iconst 1, 1) := by decide +kernel
theorem dX10_strettoFits_61 : decode cX10_strettoFits 61 = .ok (.goto 4, 3) := by decide +kernel
theorem dX10_strettoFits_64 : decode cX10_strettoFits 64 = .ok (.iconst 0, 1) := by decide +kernel
theorem dX10_strettoFits_65 : decode cX10_strettoFits 65 = .ok (.ireturn, 1) := by decide +kernel
set_option maxHeartbeats 4000000 in
set_option maxRecDepth 100000 in
theorem c_X10_strettoFits {E : u_E} {l : Launch} {o : u_O} {p1 : Int} (ho : is_FP o) (i_p1 : InR p1) {s s' : u_S} {r : Int} (h : f_X10_strettoFits o p1 s = some (r, s')) : Con l (XE E) yX10_strettoFits cX10_strettoFits 2 (some .boolean) 4 102 0 0 [.ref (E.1 o), .int (J p1)] (Wd E s) (RZ E r s') := by
  refine Con.of [some (.ref (E.1 o)), some (.int (J p1))] (by decide +kernel) rfl rfl (Nat.le_of_ble_eq_true rfl) (fun K g => ?_)
  have g0 := g.wk
  unfold f_X10_strettoFits at h
  refine r_aload_n g0 dX10_strettoFits_0 rfl ?_
  refine g_FP_lower g0 ho qX10_40 dX10_strettoFits_1 ?_
  refine r_iload_n g0 dX10_strettoFits_4 rfl ?_
  refine r_iconst g0 dX10_strettoFits_5 ?_
  obtain ⟨r_1, s_1, hr_1, h⟩ := bd_some h
  refine r_cVV g0 (rest := []) (c_X8_place (is_a_FP_lower ho) i_p1 (B01.inR B01_1) hr_1) ok_X8_place mX10_166 (recv_Sound (is_a_FP_lower ho)) dX10_strettoFits_6 ⟨Nat.le_of_ble_eq_true rfl, Nat.le_of_ble_eq_true rfl⟩ ⟨Nat.zero_le _, Nat.zero_le _⟩ rfl (Nat.le_of_ble_eq_true rfl) rfl ?_
  refine r_aload_n g0 dX10_strettoFits_9 rfl ?_
  refine g_FP_faults g0 ho qX10_46 dX10_strettoFits_10 ?_
  obtain ⟨r_2, s_2, hr_2, h⟩ := bd_some h
  refine r_cVV g0 (rest := []) (c_X3_forget (is_a_FP_faults ho) hr_2) ok_X3_forget mX10_210 (recv_Faults (is_a_FP_faults ho)) dX10_strettoFits_13 ⟨Nat.le_of_ble_eq_true rfl, Nat.le_of_ble_eq_true rfl⟩ ⟨Nat.zero_le _, Nat.zero_le _⟩ rfl (Nat.le_of_ble_eq_true rfl) rfl ?_
  refine r_aload_n g0 dX10_strettoFits_16 rfl ?_
  refine g_FP_faults g0 ho qX10_46 dX10_strettoFits_17 ?_
  refine r_aload_n g0 dX10_strettoFits_20 rfl ?_
  refine g_FP_upper g0 ho qX10_36 dX10_strettoFits_21 ?_
  refine r_aload_n g0 dX10_strettoFits_24 rfl ?_
  refine g_FP_lower g0 ho qX10_40 dX10_strettoFits_25 ?_
  refine r_aload_n g0 dX10_strettoFits_28 rfl ?_
  refine g_FP_plan g0 ho qX10_12 dX10_strettoFits_29 ?_
  refine g_Plan_meter g0 (is_a_FP_plan ho) qX10_216 dX10_strettoFits_32 ?_
  obtain ⟨r_3, s_3, hr_3, h⟩ := bd_some h
  refine r_cVV g0 (rest := []) (c_X3_addPair (is_a_FP_faults ho) (is_a_FP_upper ho) (is_a_FP_lower ho) (InR_rd _ _ _) hr_3) ok_X3_addPair mX10_219 (recv_Faults (is_a_FP_faults ho)) dX10_strettoFits_35 ⟨Nat.le_of_ble_eq_true rfl, Nat.le_of_ble_eq_true rfl⟩ ⟨Nat.zero_le _, Nat.zero_le _⟩ rfl (Nat.le_of_ble_eq_true rfl) rfl ?_
  refine r_aload_n g0 dX10_strettoFits_38 rfl ?_
  refine g_FP_faults g0 ho qX10_46 dX10_strettoFits_39 ?_
  refine r_iconst g0 dX10_strettoFits_42 ?_
  obtain ⟨r_4, s_4, hr_4, h⟩ := bd_some h
  refine r_cVI g0 (rest := []) (c_X3_number (is_a_FP_faults ho) (B01.inR B01_0) hr_4) ok_X3_number mX10_223 (recv_Faults (is_a_FP_faults ho)) dX10_strettoFits_43 ⟨Nat.le_of_ble_eq_true rfl, Nat.le_of_ble_eq_true rfl⟩ ⟨Nat.zero_le _, Nat.zero_le _⟩ rfl (Nat.le_of_ble_eq_true rfl) rfl (fun i_r_4 => ?_)
  refine r_if_ne g0 64 dX10_strettoFits_46 (by decide) i_r_4 (fun hc => ?_) (fun hc => ?_)
  · replace h := if_f hc h
    refine r_iconst g0 dX10_strettoFits_64 ?_
    exact z_Z g dX10_strettoFits_65 B01_0 h
  · replace h := if_t hc h
    refine r_aload_n g0 dX10_strettoFits_49 rfl ?_
    refine g_FP_faults g0 ho qX10_46 dX10_strettoFits_50 ?_
    refine r_iconst g0 dX10_strettoFits_53 ?_
    obtain ⟨r_5, s_5, hr_5, h⟩ := bd_some h
    refine r_cVI g0 (rest := []) (c_X3_number (is_a_FP_faults ho) (InR_lit rfl) hr_5) ok_X3_number mX10_223 (recv_Faults (is_a_FP_faults ho)) dX10_strettoFits_54 ⟨Nat.le_of_ble_eq_true rfl, Nat.le_of_ble_eq_true rfl⟩ ⟨Nat.zero_le _, Nat.zero_le _⟩ rfl (Nat.le_of_ble_eq_true rfl) rfl (fun i_r_5 => ?_)
    refine r_if_ne g0 64 dX10_strettoFits_57 (by decide) i_r_5 (fun hc => ?_) (fun hc => ?_)
    · replace h := if_f hc h
      refine r_iconst g0 dX10_strettoFits_64 ?_
      exact z_Z g dX10_strettoFits_65 B01_0 h
    · replace h := if_t hc h
      refine r_iconst g0 dX10_strettoFits_60 ?_
      refine r_goto g0 65 dX10_strettoFits_61 (by decide) ?_
      exact z_Z g dX10_strettoFits_65 B01_1 h
theorem dX10_stretto_0 : decode cX10_stretto 0 = .ok (.iload_n 1, 1) := by decide +kernel
theorem dX10_stretto_1 : decode cX10_stretto 1 = .ok (.iload_n 2, 1) := by decide +kernel
theorem dX10_stretto_2 : decode cX10_stretto 2 = .ok (.iload_n 3, 1) := by decide +kernel
theorem dX10_stretto_3 : decode cX10_stretto 3 = .ok (.invokestatic 159, 3) := by decide +kernel
theorem dX10_stretto_6 : decode cX10_stretto 6 = .ok (.ifCond .eq 36, 3) := by decide +kernel
theorem dX10_stretto_9 : decode cX10_stretto 9 = .ok (.iload 4, 2) := by decide +kernel
theorem dX10_stretto_11 : decode cX10_stretto 11 = .ok (.iconst 1, 1) := by decide +kernel
theorem dX10_stretto_12 : decode cX10_stretto 12 = .ok (.aload_n 0, 1) := by decide +kernel
theorem dX10_stretto_13 : decode cX10_stretto 13 = .ok (.getfield 12, 3) := by decide +kernel
theorem dX10_stretto_16 : decode cX10_stretto 16 = .ok (.getfield 104, 3) := by decide +kernel
theorem dX10_stretto_19 : decode cX10_stretto 19 = .ok (.iload_n 1, 1) := by decide +kernel
theorem dX10_stretto_20 : decode cX10_stretto 20 = .ok (.aaload, 1) := by decide +kernel
theorem dX10_stretto_21 : decode cX10_stretto 21 = .ok (.invokevirtual 140, 3) := by decide +kernel
theorem dX10_stretto_24 : decode cX10_stretto 24 = .ok (.iconst 1, 1) := by decide +kernel
theorem dX10_stretto_25 : decode cX10_stretto 25 = .ok (.isub, 1) := by decide +kernel
theorem dX10_stretto_26 : decode cX10_stretto 26 = .ok (.invokestatic 113, 3) := by decide +kernel
theorem dX10_stretto_29 : decode cX10_stretto 29 = .ok (.ifCond .eq 13, 3) := by decide +kernel
theorem dX10_stretto_32 : decode cX10_stretto 32 = .ok (.iload 5, 2) := by decide +kernel
theorem dX10_stretto_34 : decode cX10_stretto 34 = .ok (.iconst 0, 1) := by decide +kernel
theorem dX10_stretto_35 : decode cX10_stretto 35 = .ok (.iconst 3, 1) := by decide +kernel
theorem dX10_stretto_36 : decode cX10_stretto 36 = .ok (.invokestatic 113, 3) := by decide +kernel
theorem dX10_stretto_39 : decode cX10_stretto 39 = .ok (.ifCond .ne 10, 3) := by decide +kernel
theorem dX10_stretto_42 : decode cX10_stretto 42 = .ok (.aload_n 0, 1) := by decide +kernel
theorem dX10_stretto_43 : decode cX10_stretto 43 = .ok (.bipush (-2), 2) := by decide +kernel
theorem dX10_stretto_45 : decode cX10_stretto 45 = .ok (.invokevirtual 117, 3) := by decide +kernel
theorem dX10_stretto_48 : decode cX10_stretto 48 = .ok (.ireturn, 1) := by decide +kernel
theorem dX10_stretto_49 : decode cX10_stretto 49 = .ok (.aload_n 0, 1) := by decide +kernel
theorem dX10_stretto_50 : decode cX10_stretto 50 = .ok (.iload_n 1, 1) := by decide +kernel
theorem dX10_stretto_51 : decode cX10_stretto 51 = .ok (.iload_n 2, 1) := by decide +kernel
theorem dX10_stretto_52 : decode cX10_stretto 52 = .ok (.iload_n 3, 1) := by decide +kernel
theorem dX10_stretto_53 : decode cX10_stretto 53 = .ok (.invokevirtual 245, 3) := by decide +kernel
theorem dX10_stretto_56 : decode cX10_stretto 56 = .ok (.aload_n 0, 1) := by decide +kernel
theorem dX10_stretto_57 : decode cX10_stretto 57 = .ok (.iload 4, 2) := by decide +kernel
theorem dX10_stretto_59 : decode cX10_stretto 59 = .ok (.invokevirtual 249, 3) := by decide +kernel
theorem dX10_stretto_62 : decode cX10_stretto 62 = .ok (.istore 6, 2) := by decide +kernel
theorem dX10_stretto_64 : decode cX10_stretto 64 = .ok (.iload 5, 2) := by decide +kernel
theorem dX10_stretto_66 : decode cX10_stretto 66 = .ok (.iconst 3, 1) := by decide +kernel
theorem dX10_stretto_67 : decode cX10_stretto 67 = .ok (.if_icmp .ne 16, 3) := by decide +kernel
theorem dX10_stretto_70 : decode cX10_stretto 70 = .ok (.iload 6, 2) := by decide +kernel
theorem dX10_stretto_72 : decode cX10_stretto 72 = .ok (.ifCond .eq 7, 3) := by decide +kernel
theorem dX10_stretto_75 : decode cX10_stretto 75 = .ok (.iconst 1, 1) := by decide +kernel
theorem dX10_stretto_76 : decode cX10_stretto 76 = .ok (.goto 16, 3) := by decide +kernel
theorem dX10_stretto_79 : decode cX10_stretto 79 = .ok (.iconst 0, 1) := by decide +kernel
theorem dX10_stretto_80 : decode cX10_stretto 80 = .ok (.goto 12, 3) := by decide +kernel
theorem dX10_stretto_83 : decode cX10_stretto 83 = .ok (.aload_n 0, 1) := by decide +kernel
theorem dX10_stretto_84 : decode cX10_stretto 84 = .ok (.getfield 46, 3) := by decide +kernel
theorem dX10_stretto_87 : decode cX10_stretto 87 = .ok (.iload 5, 2) := by decide +kernel
theorem dX10_stretto_89 : decode cX10_stretto 89 = .ok (.invokevirtual 223, 3) := by decide +kernel
theorem dX10_stretto_92 : decode cX10_stretto 92 = .ok (.ireturn, 1) := by decide +kernel
set_option maxHeartbeats 4000000 in
set_option maxRecDepth 100000 in
theorem c_X10_stretto {E : u_E} {l : Launch} {o : u_O} {p1 : Int} {p2 : Int} {p3 : Int} {p4 : Int} {p5 : Int} (ho : is_FP o) (i_p1 : InR p1) (i_p2 : InR p2) (i_p3 : InR p3) (i_p4 : InR p4) (i_p5 : InR p5) {s s' : u_S} {r : Int} (h : f_X10_stretto o p1 p2 p3 p4 p5 s = some (r, s')) : Con l (XE E) yX10_stretto cX10_stretto 7 (some .int) 5 123 0 0 [.ref (E.1 o), .int (J p1), .int (J p2), .int (J p3), .int (J p4), .int (J p5)] (Wd E s) (RI E r s') := by
  refine Con.of [some (.ref (E.1 o)), some (.int (J p1)), some (.int (J p2)), some (.int (J p3)), some (.int (J p4)), some (.int (J p5)), none] (by decide +kernel) rfl rfl (Nat.le_of_ble_eq_true rfl) (fun K g => ?_)
  have g0 := g.wk
  unfold f_X10_stretto at h
  refine r_iload_n g0 dX10_stretto_0 rfl ?_
  refine r_iload_n g0 dX10_stretto_1 rfl ?_
  refine r_iload_n g0 dX10_stretto_2 rfl ?_
  obtain ⟨r_1, s_1, hr_1, h⟩ := bd_some h
  refine r_cSZ g0 (rest := []) (c_X10_isFormed i_p1 i_p2 i_p3 hr_1) ok_X10_isFormed mX10_159 dX10_stretto_3 ⟨Nat.le_of_ble_eq_true rfl, Nat.le_of_ble_eq_true rfl⟩ ⟨Nat.zero_le _, Nat.zero_le _⟩ rfl (Nat.le_of_ble_eq_true rfl) rfl (fun i_r_1 => ?_)
  obtain ⟨jp_1, hdjp_1, h⟩ := jn_some h
  have hjp_1 : ∀  (s_2 : u_S), jp_1 s_2 = some (r, s') → K 0 0 42 [some (.ref (E.1 o)), none, none, none, none, none, none] [] (Wd E s_2) := by
    intro s_2 h
    subst hdjp_1
    refine r_aload_n g0 dX10_stretto_42 rfl ?_
    refine r_bipush g0 dX10_stretto_43 rfl ?_
    obtain ⟨r_2, s_3, hr_2, h⟩ := bd_some h
    refine r_cVI g0 (rest := []) (c_X10_refused ho (InR_lit rfl) hr_2) ok_X10_refused mX10_117 (recv_FP ho) dX10_stretto_45 ⟨Nat.le_of_ble_eq_true rfl, Nat.le_of_ble_eq_true rfl⟩ ⟨Nat.zero_le _, Nat.zero_le _⟩ rfl (Nat.le_of_ble_eq_true rfl) rfl (fun i_r_2 => ?_)
    exact z_I g dX10_stretto_48 i_r_2 h
  clear hdjp_1
  refine r_if_eq g0 42 dX10_stretto_6 (by decide) (B01.inR i_r_1) (fun hc => ?_) (fun hc => ?_)
  · replace h := if_t hc h
    refine r_mask g0 (lv' := [some (.ref (E.1 o)), none, none, none, none, none, none]) [true, false, false, false, false, false, false] rfl ?_
    exact hjp_1 s_1 h
  · replace h := if_f hc h
    refine r_iload g0 dX10_stretto_9 rfl ?_
    refine r_iconst g0 dX10_stretto_11 ?_
    refine r_aload_n g0 dX10_stretto_12 rfl ?_
    refine g_FP_plan g0 ho qX10_12 dX10_stretto_13 ?_
    refine g_Plan_lines g0 (is_a_FP_plan ho) qX10_104 dX10_stretto_16 ?_
    refine r_iload_n g0 dX10_stretto_19 rfl ?_
    obtain ⟨hb, h⟩ := gd_some h
    refine r_aald_Line g0 (is_a_Plan_lines (is_a_FP_plan ho)) i_p1 hb dX10_stretto_20 ?_
    obtain ⟨r_3, s_4, hr_3, h⟩ := bd_some h
    refine r_cVI g0 (rest := [.int (J 1), .int (J p4)]) (c_X5_length (is_e_Line (is_a_Plan_lines (is_a_FP_plan ho)) hb) hr_3) ok_X5_length mX10_140 (recv_Line (is_e_Line (is_a_Plan_lines (is_a_FP_plan ho)) hb)) dX10_stretto_21 ⟨Nat.le_of_ble_eq_true rfl, Nat.le_of_ble_eq_true rfl⟩ ⟨Nat.zero_le _, Nat.zero_le _⟩ rfl (Nat.le_of_ble_eq_true rfl) rfl (fun i_r_3 => ?_)
    refine r_iconst g0 dX10_stretto_24 ?_
    refine r_isub g0 dX10_stretto_25 ?_
    obtain ⟨r_4, s_5, hr_4, h⟩ := bd_some h
    refine r_cSZ g0 (rest := []) (c_X10_within i_p4 (B01.inR B01_1) (InR_wr _) hr_4) ok_X10_within mX10_113 dX10_stretto_26 ⟨Nat.le_of_ble_eq_true rfl, Nat.le_of_ble_eq_true rfl⟩ ⟨Nat.zero_le _, Nat.zero_le _⟩ rfl (Nat.le_of_ble_eq_true rfl) rfl (fun i_r_4 => ?_)
    refine r_if_eq g0 42 dX10_stretto_29 (by decide) (B01.inR i_r_4) (fun hc => ?_) (fun hc => ?_)
    · replace h := if_t hc h
      refine r_mask g0 (lv' := [some (.ref (E.1 o)), none, none, none, none, none, none]) [true, false, false, false, false, false, false] rfl ?_
      exact hjp_1 s_5 h
    · replace h := if_f hc h
      refine r_iload g0 dX10_stretto_32 rfl ?_
      refine r_iconst g0 dX10_stretto_34 ?_
      refine r_iconst g0 dX10_stretto_35 ?_
      obtain ⟨r_5, s_6, hr_5, h⟩ := bd_some h
      refine r_cSZ g0 (rest := []) (c_X10_within i_p5 (B01.inR B01_0) (InR_lit rfl) hr_5) ok_X10_within mX10_113 dX10_stretto_36 ⟨Nat.le_of_ble_eq_true rfl, Nat.le_of_ble_eq_true rfl⟩ ⟨Nat.zero_le _, Nat.zero_le _⟩ rfl (Nat.le_of_ble_eq_true rfl) rfl (fun i_r_5 => ?_)
      refine r_if_ne g0 49 dX10_stretto_39 (by decide) (B01.inR i_r_5) (fun hc => ?_) (fun hc => ?_)
      · replace h := if_f hc h
        refine r_aload_n g0 dX10_stretto_49 rfl ?_
        refine r_iload_n g0 dX10_stretto_50 rfl ?_
        refine r_iload_n g0 dX10_stretto_51 rfl ?_
        refine r_iload_n g0 dX10_stretto_52 rfl ?_
        obtain ⟨r_6, s_7, hr_6, h⟩ := bd_some h
        refine r_cVV g0 (rest := []) (c_X10_formStretto ho i_p1 i_p2 i_p3 hr_6) ok_X10_formStretto mX10_245 (recv_FP ho) dX10_stretto_53 ⟨Nat.le_of_ble_eq_true rfl, Nat.le_of_ble_eq_true rfl⟩ ⟨Nat.zero_le _, Nat.zero_le _⟩ rfl (Nat.le_of_ble_eq_true rfl) rfl ?_
        refine r_aload_n g0 dX10_stretto_56 rfl ?_
        refine r_iload g0 dX10_stretto_57 rfl ?_
        obtain ⟨r_7, s_8, hr_7, h⟩ := bd_some h
        refine r_cVZ g0 (rest := []) (c_X10_strettoFits ho i_p4 hr_7) ok_X10_strettoFits mX10_249 (recv_FP ho) dX10_stretto_59 ⟨Nat.le_of_ble_eq_true rfl, Nat.le_of_ble_eq_true rfl⟩ ⟨Nat.zero_le _, Nat.zero_le _⟩ rfl (Nat.le_of_ble_eq_true rfl) rfl (fun i_r_7 => ?_)
        refine r_istore g0 (lv' := [some (.ref (E.1 o)), some (.int (J p1)), some (.int (J p2)), some (.int (J p3)), some (.int (J p4)), some (.int (J p5)), some (.int (J r_7))]) dX10_stretto_62 (by decide) rfl rfl ?_
        refine r_iload g0 dX10_stretto_64 rfl ?_
        refine r_iconst g0 dX10_stretto_66 ?_
        refine r_icmp_ne g0 83 dX10_stretto_67 (by decide) i_p5 (InR_lit rfl) (fun hc => ?_) (fun hc => ?_)
        · replace h := if_f hc h
          refine r_aload_n g0 dX10_stretto_83 rfl ?_
          refine g_FP_faults g0 ho qX10_46 dX10_stretto_84 ?_
          refine r_iload g0 dX10_stretto_87 rfl ?_
          obtain ⟨r_8, s_9, hr_8, h⟩ := bd_some h
          refine r_cVI g0 (rest := []) (c_X3_number (is_a_FP_faults ho) i_p5 hr_8) ok_X3_number mX10_223 (recv_Faults (is_a_FP_faults ho)) dX10_stretto_89 ⟨Nat.le_of_ble_eq_true rfl, Nat.le_of_ble_eq_true rfl⟩ ⟨Nat.zero_le _, Nat.zero_le _⟩ rfl (Nat.le_of_ble_eq_true rfl) rfl (fun i_r_8 => ?_)
          exact z_I g dX10_stretto_92 i_r_8 h
        · replace h := if_t hc h
          refine r_iload g0 dX10_stretto_70 rfl ?_
          refine r_if_eq g0 79 dX10_stretto_72 (by decide) (B01.inR i_r_7) (fun hc => ?_) (fun hc => ?_)
          · replace h := if_t hc h
            refine r_iconst g0 dX10_stretto_79 ?_
            refine r_goto g0 92 dX10_stretto_80 (by decide) ?_
            exact z_I g dX10_stretto_92 (B01.inR B01_0) h
          · replace h := if_f hc h
            refine r_iconst g0 dX10_stretto_75 ?_
            refine r_goto g0 92 dX10_stretto_76 (by decide) ?_
            exact z_I g dX10_stretto_92 (B01.inR B01_1) h
      · replace h := if_t hc h
        refine r_mask g0 (lv' := [some (.ref (E.1 o)), none, none, none, none, none, none]) [true, false, false, false, false, false, false] rfl ?_
        exact hjp_1 s_6 h
theorem dX10_strettos_0 : decode cX10_strettos 0 = .ok (.iload_n 1, 1) := by decide +kernel
theorem dX10_strettos_1 : decode cX10_strettos 1 = .ok (.iload_n 2, 1) := by decide +kernel
theorem dX10_strettos_2 : decode cX10_strettos 2 = .ok (.iload_n 3, 1) := by decide +kernel
theorem dX10_strettos_3 : decode cX10_strettos 3 = .ok (.invokestatic 159, 3) := by decide +kernel
theorem dX10_strettos_6 : decode cX10_strettos 6 = .ok (.ifCond .ne 11, 3) := by decide +kernel
theorem dX10_strettos_9 : decode cX10_strettos 9 = .ok (.aload_n 0, 1) := by decide +kernel
theorem dX10_strettos_10 : decode cX10_strettos 10 = .ok (.bipush (-2), 2) := by decide +kernel
theorem dX10_strettos_12 : decode cX10_strettos 12 = .ok (.invokevirtual 117, 3) := by decide +kernel
theorem dX10_strettos_15 : decode cX10_strettos 15 = .ok (.i2l, 1) := by decide +kernel
theorem dX10_strettos_16 : decode cX10_strettos 16 = .ok (.lreturn, 1) := by decide +kernel
theorem dX10_strettos_17 : decode cX10_strettos 17 = .ok (.aload_n 0, 1) := by decide +kernel
theorem dX10_strettos_18 : decode cX10_strettos 18 = .ok (.iload_n 1, 1) := by decide +kernel
theorem dX10_strettos_19 : decode cX10_strettos 19 = .ok (.iload_n 2, 1) := by decide +kernel
theorem dX10_strettos_20 : decode cX10_strettos 20 = .ok (.iload_n 3, 1) := by decide +kernel
theorem dX10_strettos_21 : decode cX10_strettos 21 = .ok (.invokevirtual 245, 3) := by decide +kernel
theorem dX10_strettos_24 : decode cX10_strettos 24 = .ok (.aload_n 0, 1) := by decide +kernel
theorem dX10_strettos_25 : decode cX10_strettos 25 = .ok (.getfield 12, 3) := by decide +kernel
theorem dX10_strettos_28 : decode cX10_strettos 28 = .ok (.getfield 104, 3) := by decide +kernel
theorem dX10_strettos_31 : decode cX10_strettos 31 = .ok (.iload_n 1, 1) := by decide +kernel
theorem dX10_strettos_32 : decode cX10_strettos 32 = .ok (.aaload, 1) := by decide +kernel
theorem dX10_strettos_33 : decode cX10_strettos 33 = .ok (.invokevirtual 140, 3) := by decide +kernel
theorem dX10_strettos_36 : decode cX10_strettos 36 = .ok (.istore 4, 2) := by decide +kernel
theorem dX10_strettos_38 : decode cX10_strettos 38 = .ok (.lconst 0, 1) := by decide +kernel
theorem dX10_strettos_39 : decode cX10_strettos 39 = .ok (.lstore 5, 2) := by decide +kernel
theorem dX10_strettos_41 : decode cX10_strettos 41 = .ok (.iconst 1, 1) := by decide +kernel
theorem dX10_strettos_42 : decode cX10_strettos 42 = .ok (.istore 7, 2) := by decide +kernel
theorem dX10_strettos_44 : decode cX10_strettos 44 = .ok (.iload 7, 2) := by decide +kernel
theorem dX10_strettos_46 : decode cX10_strettos 46 = .ok (.iload 4, 2) := by decide +kernel
theorem dX10_strettos_48 : decode cX10_strettos 48 = .ok (.if_icmp .ge 27, 3) := by decide +kernel
theorem dX10_strettos_51 : decode cX10_strettos 51 = .ok (.aload_n 0, 1) := by decide +kernel
theorem dX10_strettos_52 : decode cX10_strettos 52 = .ok (.iload 7, 2) := by decide +kernel
theorem dX10_strettos_54 : decode cX10_strettos 54 = .ok (.invokevirtual 249, 3) := by decide +kernel
theorem dX10_strettos_57 : decode cX10_strettos 57 = .ok (.ifCond .eq 12, 3) := by decide +kernel
theorem dX10_strettos_60 : decode cX10_strettos 60 = .ok (.lload 5, 2) := by decide +kernel
theorem dX10_strettos_62 : decode cX10_strettos 62 = .ok (.lconst 1, 1) := by decide +kernel
theorem dX10_strettos_63 : decode cX10_strettos 63 = .ok (.iload 7, 2) := by decide +kernel
theorem dX10_strettos_65 : decode cX10_strettos 65 = .ok (.lshl, 1) := by decide +kernel
theorem dX10_strettos_66 : decode cX10_strettos 66 = .ok (.lor, 1) := by decide +kernel
theorem dX10_strettos_67 : decode cX10_strettos 67 = .ok (.lstore 5, 2) := by decide +kernel
theorem dX10_strettos_69 : decode cX10_strettos 69 = .ok (.iinc 7 1, 3) := by decide +kernel
theorem dX10_strettos_72 : decode cX10_strettos 72 = .ok (.goto (-28), 3) := by decide +kernel
theorem dX10_strettos_75 : decode cX10_strettos 75 = .ok (.lload 5, 2) := by decide +kernel
theorem dX10_strettos_77 : decode cX10_strettos 77 = .ok (.lreturn, 1) := by decide +kernel
set_option maxHeartbeats 4000000 in
set_option maxRecDepth 100000 in
theorem t_X10_strettos_L44 {l : Launch} {E : u_E} {K : u_K} {r : Int} {s' : u_S} (g : Wk l (XE E) { frames := 5, cells := 0, slots := 0, locals := 123 } cX10_strettos 8 yX10_strettos.cls yX10_strettos.name (some .long) (RJ E r s') K) {v0_1 : u_O} {v4_1 : Int} (i_v0_1 : is_FP v0_1) (i_v4_1 : InR v4_1) {kx75 : Int → u_S → Option (Int × u_S)} (hkx75 : ∀ (v5_4 : Int) (s_8 : u_S), InL v5_4 → kx75 v5_4 s_8 = some (r, s') → K 0 0 75 [none, none, none, none, none, some (.long (JL v5_4)), none, none] [] (Wd E s_8)) : ∀ (m : Nat) (v5_2 : Int) (v7_1 : Int) (s_5 : u_S), InL v5_2 → InR v7_1 → f_X10_strettos_L44 m kx75 v0_1 v4_1 v5_2 v7_1 s_5 = some (r, s') → K 0 0 44 [some (.ref (E.1 v0_1)), none, none, none, some (.int (J v4_1)), some (.long (JL v5_2)), none, some (.int (J v7_1))] [] (Wd E s_5) := by
  have g0 := g.wk
  intro m
  induction m with
  | zero =>
    intro v5_2 v7_1 s_5 i_v5_2 i_v7_1 h
    exact absurd (show (none : Option (Int × u_S)) = some (r, s') from h) (by intro z; cases z)
  | succ m ih =>
    intro v5_2 v7_1 s_5 i_v5_2 i_v7_1 h
    rw [f_X10_strettos_L44] at h
    refine r_iload g0 dX10_strettos_44 rfl ?_
    refine r_iload g0 dX10_strettos_46 rfl ?_
    refine r_icmp_ge g0 75 dX10_strettos_48 (by decide) i_v7_1 i_v4_1 (fun hc => ?_) (fun hc => ?_)
    · replace h := if_f hc h
      refine r_mask g0 (lv' := [none, none, none, none, none, some (.long (JL v5_2)), none, none]) [false, false, false, false, false, true, false, false] rfl ?_
      exact hkx75 v5_2 s_5 i_v5_2 h
    · replace h := if_t hc h
      refine r_aload_n g0 dX10_strettos_51 rfl ?_
      refine r_iload g0 dX10_strettos_52 rfl ?_
      obtain ⟨r_4, s_6, hr_4, h⟩ := bd_some h
      refine r_cVZ g0 (rest := []) (c_X10_strettoFits i_v0_1 i_v7_1 hr_4) ok_X10_strettoFits mX10_249 (recv_FP i_v0_1) dX10_strettos_54 ⟨Nat.le_of_ble_eq_true rfl, Nat.le_of_ble_eq_true rfl⟩ ⟨Nat.zero_le _, Nat.zero_le _⟩ rfl (Nat.le_of_ble_eq_true rfl) rfl (fun i_r_4 => ?_)
      obtain ⟨jp_1, hdjp_1, h⟩ := jn_some h
      have hjp_1 : ∀ (v5_3 : Int) (s_7 : u_S), InL v5_3 → jp_1 v5_3 s_7 = some (r, s') → K 0 0 69 [some (.ref (E.1 v0_1)), none, none, none, some (.int (J v4_1)), some (.long (JL v5_3)), none, some (.int (J v7_1))] [] (Wd E s_7) := by
        intro v5_3 s_7 i_v5_3 h
        subst hdjp_1
        refine r_iinc g0 (a := v7_1) (lv' := [some (.ref (E.1 v0_1)), none, none, none, some (.int (J v4_1)), some (.long (JL v5_3)), none, some (.int (J (wr (v7_1 + 1))))]) dX10_strettos_69 (by decide) rfl rfl rfl ?_
        refine r_goto g0 44 dX10_strettos_72 (by decide) ?_
        exact ih v5_3 (wr (v7_1 + 1)) s_7 i_v5_3 (InR_wr _) h
      clear hdjp_1
      refine r_if_eq g0 69 dX10_strettos_57 (by decide) (B01.inR i_r_4) (fun hc => ?_) (fun hc => ?_)
      · replace h := if_t hc h
        exact hjp_1 v5_2 s_6 i_v5_2 h
      · replace h := if_f hc h
        refine r_lload g0 dX10_strettos_60 rfl ?_
        refine r_lconst g0 (v := 1) dX10_strettos_62 rfl ?_
        refine r_iload g0 dX10_strettos_63 rfl ?_
        refine r_lshl g0 dX10_strettos_65 ?_
        refine r_lor g0 dX10_strettos_66 ?_
        refine r_lstore g0 (lv' := [some (.ref (E.1 v0_1)), none, none, none, some (.int (J v4_1)), some (.long (JL (lor v5_2 (lshl 1 v7_1)))), none, some (.int (J v7_1))]) dX10_strettos_67 (by decide) rfl rfl ?_
        exact hjp_1 (lor v5_2 (lshl 1 v7_1)) s_6 (InL_to _) h
set_option maxHeartbeats 4000000 in
set_option maxRecDepth 100000 in
theorem c_X10_strettos {E : u_E} {l : Launch} {o : u_O} {p1 : Int} {p2 : Int} {p3 : Int} (ho : is_FP o) (i_p1 : InR p1) (i_p2 : InR p2) (i_p3 : InR p3) {s s' : u_S} {r : Int} (h : f_X10_strettos o p1 p2 p3 s = some (r, s')) : Con l (XE E) yX10_strettos cX10_strettos 8 (some .long) 5 123 0 0 [.ref (E.1 o), .int (J p1), .int (J p2), .int (J p3)] (Wd E s) (RJ E r s') := by
  refine Con.of [some (.ref (E.1 o)), some (.int (J p1)), some (.int (J p2)), some (.int (J p3)), none, none, none, none] (by decide +kernel) rfl rfl (Nat.le_of_ble_eq_true rfl) (fun K g => ?_)
  have g0 := g.wk
  unfold f_X10_strettos at h
  refine r_iload_n g0 dX10_strettos_0 rfl ?_
  refine r_iload_n g0 dX10_strettos_1 rfl ?_
  refine r_iload_n g0 dX10_strettos_2 rfl ?_
  obtain ⟨r_1, s_1, hr_1, h⟩ := bd_some h
  refine r_cSZ g0 (rest := []) (c_X10_isFormed i_p1 i_p2 i_p3 hr_1) ok_X10_isFormed mX10_159 dX10_strettos_3 ⟨Nat.le_of_ble_eq_true rfl, Nat.le_of_ble_eq_true rfl⟩ ⟨Nat.zero_le _, Nat.zero_le _⟩ rfl (Nat.le_of_ble_eq_true rfl) rfl (fun i_r_1 => ?_)
  refine r_if_ne g0 17 dX10_strettos_6 (by decide) (B01.inR i_r_1) (fun hc => ?_) (fun hc => ?_)
  · replace h := if_f hc h
    refine r_aload_n g0 dX10_strettos_17 rfl ?_
    refine r_iload_n g0 dX10_strettos_18 rfl ?_
    refine r_iload_n g0 dX10_strettos_19 rfl ?_
    refine r_iload_n g0 dX10_strettos_20 rfl ?_
    obtain ⟨r_2, s_2, hr_2, h⟩ := bd_some h
    refine r_cVV g0 (rest := []) (c_X10_formStretto ho i_p1 i_p2 i_p3 hr_2) ok_X10_formStretto mX10_245 (recv_FP ho) dX10_strettos_21 ⟨Nat.le_of_ble_eq_true rfl, Nat.le_of_ble_eq_true rfl⟩ ⟨Nat.zero_le _, Nat.zero_le _⟩ rfl (Nat.le_of_ble_eq_true rfl) rfl ?_
    refine r_aload_n g0 dX10_strettos_24 rfl ?_
    refine g_FP_plan g0 ho qX10_12 dX10_strettos_25 ?_
    refine g_Plan_lines g0 (is_a_FP_plan ho) qX10_104 dX10_strettos_28 ?_
    refine r_iload_n g0 dX10_strettos_31 rfl ?_
    obtain ⟨hb, h⟩ := gd_some h
    refine r_aald_Line g0 (is_a_Plan_lines (is_a_FP_plan ho)) i_p1 hb dX10_strettos_32 ?_
    obtain ⟨r_3, s_3, hr_3, h⟩ := bd_some h
    refine r_cVI g0 (rest := []) (c_X5_length (is_e_Line (is_a_Plan_lines (is_a_FP_plan ho)) hb) hr_3) ok_X5_length mX10_140 (recv_Line (is_e_Line (is_a_Plan_lines (is_a_FP_plan ho)) hb)) dX10_strettos_33 ⟨Nat.le_of_ble_eq_true rfl, Nat.le_of_ble_eq_true rfl⟩ ⟨Nat.zero_le _, Nat.zero_le _⟩ rfl (Nat.le_of_ble_eq_true rfl) rfl (fun i_r_3 => ?_)
    refine r_istore g0 (lv' := [some (.ref (E.1 o)), some (.int (J p1)), some (.int (J p2)), some (.int (J p3)), some (.int (J r_3)), none, none, none]) dX10_strettos_36 (by decide) rfl rfl ?_
    refine r_lconst g0 (v := 0) dX10_strettos_38 rfl ?_
    refine r_lstore g0 (lv' := [some (.ref (E.1 o)), some (.int (J p1)), some (.int (J p2)), some (.int (J p3)), some (.int (J r_3)), some (.long (JL 0)), none, none]) dX10_strettos_39 (by decide) rfl rfl ?_
    refine r_iconst g0 dX10_strettos_41 ?_
    refine r_istore g0 (lv' := [some (.ref (E.1 o)), some (.int (J p1)), some (.int (J p2)), some (.int (J p3)), some (.int (J r_3)), some (.long (JL 0)), none, some (.int (J 1))]) dX10_strettos_42 (by decide) rfl rfl ?_
    refine r_mask g0 (lv' := [some (.ref (E.1 o)), none, none, none, some (.int (J r_3)), some (.long (JL 0)), none, some (.int (J 1))]) [true, false, false, false, true, true, false, true] rfl ?_
    refine t_X10_strettos_L44 g ho i_r_3 ?_ FU 0 1 s_3 (InL_lit rfl) (B01.inR B01_1) h
    · intro v5_1 s_4 i_v5_1 h
      refine r_lload g0 dX10_strettos_75 rfl ?_
      exact z_J g dX10_strettos_77 i_v5_1 h
  · replace h := if_t hc h
    refine r_aload_n g0 dX10_strettos_9 rfl ?_
    refine r_bipush g0 dX10_strettos_10 rfl ?_
    obtain ⟨r_5, s_9, hr_5, h⟩ := bd_some h
    refine r_cVI g0 (rest := []) (c_X10_refused ho (InR_lit rfl) hr_5) ok_X10_refused mX10_117 (recv_FP ho) dX10_strettos_12 ⟨Nat.le_of_ble_eq_true rfl, Nat.le_of_ble_eq_true rfl⟩ ⟨Nat.zero_le _, Nat.zero_le _⟩ rfl (Nat.le_of_ble_eq_true rfl) rfl (fun i_r_5 => ?_)
    refine r_i2l g0 dX10_strettos_15 i_r_5 ?_
    exact z_J g dX10_strettos_16 (InL_i i_r_5) h
theorem dX10_nearMove_0 : decode cX10_nearMove 0 = .ok (.iload_n 0, 1) := by decide +kernel
theorem dX10_nearMove_1 : decode cX10_nearMove 1 = .ok (.iconst 1, 1) := by decide +kernel
theorem dX10_nearMove_2 : decode cX10_nearMove 2 = .ok (.iadd, 1) := by decide +kernel
theorem dX10_nearMove_3 : decode cX10_nearMove 3 = .ok (.iconst 2, 1) := by decide +kernel
theorem dX10_nearMove_4 : decode cX10_nearMove 4 = .ok (.idiv, 1) := by decide +kernel
theorem dX10_nearMove_5 : decode cX10_nearMove 5 = .ok (.istore_n 1, 1) := by decide +kernel
theorem dX10_nearMove_6 : decode cX10_nearMove 6 = .ok (.iload_n 0, 1) := by decide +kernel
theorem dX10_nearMove_7 : decode cX10_nearMove 7 = .ok (.iconst 2, 1) := by decide +kernel
theorem dX10_nearMove_8 : decode cX10_nearMove 8 = .ok (.irem, 1) := by decide +kernel
theorem dX10_nearMove_9 : decode cX10_nearMove 9 = .ok (.iconst 1, 1) := by decide +kernel
theorem dX10_nearMove_10 : decode cX10_nearMove 10 = .ok (.if_icmp .ne 8, 3) := by decide +kernel
theorem dX10_nearMove_13 : decode cX10_nearMove 13 = .ok (.iload_n 1, 1) := by decide +kernel
theorem dX10_nearMove_14 : decode cX10_nearMove 14 = .ok (.ineg, 1) := by decide +kernel
theorem dX10_nearMove_15 : decode cX10_nearMove 15 = .ok (.goto 4, 3) := by decide +kernel
theorem dX10_nearMove_18 : decode cX10_nearMove 18 = .ok (.iload_n 1, 1) := by decide +kernel
theorem dX10_nearMove_19 : decode cX10_nearMove 19 = .ok (.ireturn, 1) := by decide +kernel
set_option maxHeartbeats 4000000 in
set_option maxRecDepth 100000 in
theorem c_X10_nearMove {E : u_E} {l : Launch} {p1 : Int} (i_p1 : InR p1) {s s' : u_S} {r : Int} (h : f_X10_nearMove p1 s = some (r, s')) : Con l (XE E) yX10_nearMove cX10_nearMove 2 (some .int) 0 0 0 0 [.int (J p1)] (Wd E s) (RI E r s') := by
  refine Con.of [some (.int (J p1)), none] (by decide +kernel) rfl rfl (Nat.le_of_ble_eq_true rfl) (fun K g => ?_)
  have g0 := g.wk
  unfold f_X10_nearMove at h
  refine r_iload_n g0 dX10_nearMove_0 rfl ?_
  refine r_iconst g0 dX10_nearMove_1 ?_
  refine r_iadd g0 dX10_nearMove_2 ?_
  refine r_iconst g0 dX10_nearMove_3 ?_
  refine r_idiv g0 dX10_nearMove_4 (InR_wr _) (InR_lit rfl) (by decide) ?_
  refine r_istore_n g0 (lv' := [some (.int (J p1)), some (.int (J (wr (Int.tdiv (wr (p1 + 1)) 2))))]) dX10_nearMove_5 (by decide) rfl rfl ?_
  refine r_iload_n g0 dX10_nearMove_6 rfl ?_
  refine r_iconst g0 dX10_nearMove_7 ?_
  refine r_irem g0 dX10_nearMove_8 i_p1 (InR_lit rfl) (by decide) ?_
  refine r_iconst g0 dX10_nearMove_9 ?_
  refine r_icmp_ne g0 18 dX10_nearMove_10 (by decide) (InR_rem _ i_p1) (B01.inR B01_1) (fun hc => ?_) (fun hc => ?_)
  · replace h := if_f hc h
    refine r_iload_n g0 dX10_nearMove_18 rfl ?_
    exact z_I g dX10_nearMove_19 (InR_wr _) h
  · replace h := if_t hc h
    refine r_iload_n g0 dX10_nearMove_13 rfl ?_
    refine r_ineg g0 dX10_nearMove_14 ?_
    refine r_goto g0 19 dX10_nearMove_15 (by decide) ?_
    exact z_I g dX10_nearMove_19 (InR_wr _) h
theorem dX10_closestStretto_0 : decode cX10_closestStretto 0 = .ok (.aload_n 0, 1) := by decide +kernel
theorem dX10_closestStretto_1 : decode cX10_closestStretto 1 = .ok (.getfield 12, 3) := by decide +kernel
theorem dX10_closestStretto_4 : decode cX10_closestStretto 4 = .ok (.aload_n 0, 1) := by decide +kernel
theorem dX10_closestStretto_5 : decode cX10_closestStretto 5 = .ok (.getfield 36, 3) := by decide +kernel
theorem dX10_closestStretto_8 : decode cX10_closestStretto 8 = .ok (.iload_n 1, 1) := by decide +kernel
theorem dX10_closestStretto_9 : decode cX10_closestStretto 9 = .ok (.iconst 0, 1) := by decide +kernel
theorem dX10_closestStretto_10 : decode cX10_closestStretto 10 = .ok (.iconst 0, 1) := by decide +kernel
theorem dX10_closestStretto_11 : decode cX10_closestStretto 11 = .ok (.invokevirtual 162, 3) := by decide +kernel
theorem dX10_closestStretto_14 : decode cX10_closestStretto 14 = .ok (.aload_n 0, 1) := by decide +kernel
theorem dX10_closestStretto_15 : decode cX10_closestStretto 15 = .ok (.getfield 36, 3) := by decide +kernel
theorem dX10_closestStretto_18 : decode cX10_closestStretto 18 = .ok (.iconst 0, 1) := by decide +kernel
theorem dX10_closestStretto_19 : decode cX10_closestStretto 19 = .ok (.iconst 0, 1) := by decide +kernel
theorem dX10_closestStretto_20 : decode cX10_closestStretto 20 = .ok (.invokevirtual 166, 3) := by decide +kernel
theorem dX10_closestStretto_23 : decode cX10_closestStretto 23 = .ok (.aload_n 0, 1) := by decide +kernel
theorem dX10_closestStretto_24 : decode cX10_closestStretto 24 = .ok (.getfield 12, 3) := by decide +kernel
theorem dX10_closestStretto_27 : decode cX10_closestStretto 27 = .ok (.iload_n 1, 1) := by decide +kernel
theorem dX10_closestStretto_28 : decode cX10_closestStretto 28 = .ok (.iconst 0, 1) := by decide +kernel
theorem dX10_closestStretto_29 : decode cX10_closestStretto 29 = .ok (.invokevirtual 198, 3) := by decide +kernel
theorem dX10_closestStretto_32 : decode cX10_closestStretto 32 = .ok (.istore_n 2, 1) := by decide +kernel
theorem dX10_closestStretto_33 : decode cX10_closestStretto 33 = .ok (.iconst 1, 1) := by decide +kernel
theorem dX10_closestStretto_34 : decode cX10_closestStretto 34 = .ok (.istore_n 3, 1) := by decide +kernel
theorem dX10_closestStretto_35 : decode cX10_closestStretto 35 = .ok (.iload_n 3, 1) := by decide +kernel
theorem dX10_closestStretto_36 : decode cX10_closestStretto 36 = .ok (.iload_n 2, 1) := by decide +kernel
theorem dX10_closestStretto_37 : decode cX10_closestStretto 37 = .ok (.if_icmp .ge 87, 3) := by decide +kernel
theorem dX10_closestStretto_40 : decode cX10_closestStretto 40 = .ok (.iconst 0, 1) := by decide +kernel
theorem dX10_closestStretto_41 : decode cX10_closestStretto 41 = .ok (.istore 4, 2) := by decide +kernel
theorem dX10_closestStretto_43 : decode cX10_closestStretto 43 = .ok (.iload 4, 2) := by decide +kernel
theorem dX10_closestStretto_45 : decode cX10_closestStretto 45 = .ok (.iconst 5, 1) := by decide +kernel
theorem dX10_closestStretto_46 : decode cX10_closestStretto 46 = .ok (.if_icmp .ge 72, 3) := by decide +kernel
theorem dX10_closestStretto_49 : decode cX10_closestStretto 49 = .ok (.iconst 0, 1) := by decide +kernel
theorem dX10_closestStretto_50 : decode cX10_closestStretto 50 = .ok (.istore 5, 2) := by decide +kernel
theorem dX10_closestStretto_52 : decode cX10_closestStretto 52 = .ok (.iload 5, 2) := by decide +kernel
theorem dX10_closestStretto_54 : decode cX10_closestStretto 54 = .ok (.bipush 43, 2) := by decide +kernel
theorem dX10_closestStretto_56 : decode cX10_closestStretto 56 = .ok (.if_icmp .ge 56, 3) := by decide +kernel
theorem dX10_closestStretto_59 : decode cX10_closestStretto 59 = .ok (.iload 5, 2) := by decide +kernel
theorem dX10_closestStretto_61 : decode cX10_closestStretto 61 = .ok (.invokestatic 370, 3) := by decide +kernel
theorem dX10_closestStretto_64 : decode cX10_closestStretto 64 = .ok (.istore 6, 2) := by decide +kernel
theorem dX10_closestStretto_66 : decode cX10_closestStretto 66 = .ok (.aload_n 0, 1) := by decide +kernel
theorem dX10_closestStretto_67 : decode cX10_closestStretto 67 = .ok (.getfield 12, 3) := by decide +kernel
theorem dX10_closestStretto_70 : decode cX10_closestStretto 70 = .ok (.aload_n 0, 1) := by decide +kernel
theorem dX10_closestStretto_71 : decode cX10_closestStretto 71 = .ok (.getfield 40, 3) := by decide +kernel
theorem dX10_closestStretto_74 : decode cX10_closestStretto 74 = .ok (.iload_n 1, 1) := by decide +kernel
theorem dX10_closestStretto_75 : decode cX10_closestStretto 75 = .ok (.iload 4, 2) := by decide +kernel
theorem dX10_closestStretto_77 : decode cX10_closestStretto 77 = .ok (.iload 6, 2) := by decide +kernel
theorem dX10_closestStretto_79 : decode cX10_closestStretto 79 = .ok (.invokevirtual 162, 3) := by decide +kernel
theorem dX10_closestStretto_82 : decode cX10_closestStretto 82 = .ok (.aload_n 0, 1) := by decide +kernel
theorem dX10_closestStretto_83 : decode cX10_closestStretto 83 = .ok (.iload_n 3, 1) := by decide +kernel
theorem dX10_closestStretto_84 : decode cX10_closestStretto 84 = .ok (.invokevirtual 249, 3) := by decide +kernel
theorem dX10_closestStretto_87 : decode cX10_closestStretto 87 = .ok (.ifCond .eq 19, 3) := by decide +kernel
theorem dX10_closestStretto_90 : decode cX10_closestStretto 90 = .ok (.iload_n 3, 1) := by decide +kernel
theorem dX10_closestStretto_91 : decode cX10_closestStretto 91 = .ok (.iconst 5, 1) := by decide +kernel
theorem dX10_closestStretto_92 : decode cX10_closestStretto 92 = .ok (.imul, 1) := by decide +kernel
theorem dX10_closestStretto_93 : decode cX10_closestStretto 93 = .ok (.iload 4, 2) := by decide +kernel
theorem dX10_closestStretto_95 : decode cX10_closestStretto 95 = .ok (.iadd, 1) := by decide +kernel
theorem dX10_closestStretto_96 : decode cX10_closestStretto 96 = .ok (.bipush 43, 2) := by decide +kernel
theorem dX10_closestStretto_98 : decode cX10_closestStretto 98 = .ok (.imul, 1) := by decide +kernel
theorem dX10_closestStretto_99 : decode cX10_closestStretto 99 = .ok (.iload 6, 2) := by decide +kernel
theorem dX10_closestStretto_101 : decode cX10_closestStretto 101 = .ok (.iadd, 1) := by decide +kernel
theorem dX10_closestStretto_102 : decode cX10_closestStretto 102 = .ok (.bipush 21, 2) := by decide +kernel
theorem dX10_closestStretto_104 : decode cX10_closestStretto 104 = .ok (.iadd, 1) := by decide +kernel
theorem dX10_closestStretto_105 : decode cX10_closestStretto 105 = .ok (.ireturn, 1) := by decide +kernel
theorem dX10_closestStretto_106 : decode cX10_closestStretto 106 = .ok (.iinc 5 1, 3) := by decide +kernel
theorem dX10_closestStretto_109 : decode cX10_closestStretto 109 = .ok (.goto (-57), 3) := by decide +kernel
theorem dX10_closestStretto_112 : decode cX10_closestStretto 112 = .ok (.iinc 4 1, 3) := by decide +kernel
theorem dX10_closestStretto_115 : decode cX10_closestStretto 115 = .ok (.goto (-72), 3) := by decide +kernel
theorem dX10_closestStretto_118 : decode cX10_closestStretto 118 = .ok (.iinc 3 1, 3) := by decide +kernel
theorem dX10_closestStretto_121 : decode cX10_closestStretto 121 = .ok (.goto (-86), 3) := by decide +kernel
theorem dX10_closestStretto_124 : decode cX10_closestStretto 124 = .ok (.iconst (-1), 1) := by decide +kernel
theorem dX10_closestStretto_125 : decode cX10_closestStretto 125 = .ok (.ireturn, 1) := by decide +kernel
set_option maxHeartbeats 4000000 in
set_option maxRecDepth 100000 in
theorem t_X10_closestStretto_L52 {l : Launch} {E : u_E} {K : u_K} {r : Int} {s' : u_S} (g : Wk l (XE E) { frames := 5, cells := 0, slots := 0, locals := 123 } cX10_closestStretto 7 yX10_closestStretto.cls yX10_closestStretto.name (some .int) (RI E r s') K) {v0_3 : u_O} {v1_3 : Int} {v2_3 : Int} {v3_3 : Int} {v4_2 : Int} (i_v0_3 : is_FP v0_3) (i_v1_3 : InR v1_3) (i_v2_3 : InR v2_3) (i_v3_3 : InR v3_3) (i_v4_2 : InR v4_2) {kx112 : u_S → Option (Int × u_S)} (hkx112 : ∀ (s_13 : u_S), kx112 s_13 = some (r, s') → K 0 0 112 [some (.ref (E.1 v0_3)), some (.int (J v1_3)), some (.int (J v2_3)), some (.int (J v3_3)), some (.int (J v4_2)), none, none] [] (Wd E s_13)) : ∀ (m : Nat) (v5_1 : Int) (s_9 : u_S), InR v5_1 → f_X10_closestStretto_L52 m kx112 v0_3 v1_3 v2_3 v3_3 v4_2 v5_1 s_9 = some (r, s') → K 0 0 52 [some (.ref (E.1 v0_3)), some (.int (J v1_3)), some (.int (J v2_3)), some (.int (J v3_3)), some (.int (J v4_2)), some (.int (J v5_1)), none] [] (Wd E s_9) := by
  have g0 := g.wk
  intro m
  induction m with
  | zero =>
    intro v5_1 s_9 i_v5_1 h
    exact absurd (show (none : Option (Int × u_S)) = some (r, s') from h) (by intro z; cases z)
  | succ m ih =>
    intro v5_1 s_9 i_v5_1 h
    rw [f_X10_closestStretto_L52] at h
    refine r_iload g0 dX10_closestStretto_52 rfl ?_
    refine r_bipush g0 dX10_closestStretto_54 rfl ?_
    refine r_icmp_ge g0 112 dX10_closestStretto_56 (by decide) i_v5_1 (InR_lit rfl) (fun hc => ?_) (fun hc => ?_)
    · replace h := if_f hc h
      refine r_mask g0 (lv' := [some (.ref (E.1 v0_3)), some (.int (J v1_3)), some (.int (J v2_3)), some (.int (J v3_3)), some (.int (J v4_2)), none, none]) [true, true, true, true, true, false, false] rfl ?_
      exact hkx112 s_9 h
    · replace h := if_t hc h
      refine r_iload g0 dX10_closestStretto_59 rfl ?_
      obtain ⟨r_4, s_10, hr_4, h⟩ := bd_some h
      refine r_cSI g0 (rest := []) (c_X10_nearMove i_v5_1 hr_4) ok_X10_nearMove mX10_370 dX10_closestStretto_61 ⟨Nat.le_of_ble_eq_true rfl, Nat.le_of_ble_eq_true rfl⟩ ⟨Nat.zero_le _, Nat.zero_le _⟩ rfl (Nat.le_of_ble_eq_true rfl) rfl (fun i_r_4 => ?_)
      refine r_istore g0 (lv' := [some (.ref (E.1 v0_3)), some (.int (J v1_3)), some (.int (J v2_3)), some (.int (J v3_3)), some (.int (J v4_2)), some (.int (J v5_1)), some (.int (J r_4))]) dX10_closestStretto_64 (by decide) rfl rfl ?_
      refine r_aload_n g0 dX10_closestStretto_66 rfl ?_
      refine g_FP_plan g0 i_v0_3 qX10_12 dX10_closestStretto_67 ?_
      refine r_aload_n g0 dX10_closestStretto_70 rfl ?_
      refine g_FP_lower g0 i_v0_3 qX10_40 dX10_closestStretto_71 ?_
      refine r_iload_n g0 dX10_closestStretto_74 rfl ?_
      refine r_iload g0 dX10_closestStretto_75 rfl ?_
      refine r_iload g0 dX10_closestStretto_77 rfl ?_
      obtain ⟨r_5, s_11, hr_5, h⟩ := bd_some h
      refine r_cVV g0 (rest := []) (c_X6_form (is_a_FP_plan i_v0_3) (is_a_FP_lower i_v0_3) i_v1_3 i_v4_2 i_r_4 hr_5) ok_X6_form mX10_162 (recv_Plan (is_a_FP_plan i_v0_3)) dX10_closestStretto_79 ⟨Nat.le_of_ble_eq_true rfl, Nat.le_of_ble_eq_true rfl⟩ ⟨Nat.zero_le _, Nat.zero_le _⟩ rfl (Nat.le_of_ble_eq_true rfl) rfl ?_
      refine r_aload_n g0 dX10_closestStretto_82 rfl ?_
      refine r_iload_n g0 dX10_closestStretto_83 rfl ?_
      obtain ⟨r_6, s_12, hr_6, h⟩ := bd_some h
      refine r_cVZ g0 (rest := []) (c_X10_strettoFits i_v0_3 i_v3_3 hr_6) ok_X10_strettoFits mX10_249 (recv_FP i_v0_3) dX10_closestStretto_84 ⟨Nat.le_of_ble_eq_true rfl, Nat.le_of_ble_eq_true rfl⟩ ⟨Nat.zero_le _, Nat.zero_le _⟩ rfl (Nat.le_of_ble_eq_true rfl) rfl (fun i_r_6 => ?_)
      refine r_if_eq g0 106 dX10_closestStretto_87 (by decide) (B01.inR i_r_6) (fun hc => ?_) (fun hc => ?_)
      · replace h := if_t hc h
        refine r_iinc g0 (a := v5_1) (lv' := [some (.ref (E.1 v0_3)), some (.int (J v1_3)), some (.int (J v2_3)), some (.int (J v3_3)), some (.int (J v4_2)), some (.int (J (wr (v5_1 + 1)))), some (.int (J r_4))]) dX10_closestStretto_106 (by decide) rfl rfl rfl ?_
        refine r_goto g0 52 dX10_closestStretto_109 (by decide) ?_
        refine r_mask g0 (lv' := [some (.ref (E.1 v0_3)), some (.int (J v1_3)), some (.int (J v2_3)), some (.int (J v3_3)), some (.int (J v4_2)), some (.int (J (wr (v5_1 + 1)))), none]) [true, true, true, true, true, true, false] rfl ?_
        exact ih (wr (v5_1 + 1)) s_12 (InR_wr _) h
      · replace h := if_f hc h
        refine r_iload_n g0 dX10_closestStretto_90 rfl ?_
        refine r_iconst g0 dX10_closestStretto_91 ?_
        refine r_imul g0 dX10_closestStretto_92 ?_
        refine r_iload g0 dX10_closestStretto_93 rfl ?_
        refine r_iadd g0 dX10_closestStretto_95 ?_
        refine r_bipush g0 dX10_closestStretto_96 rfl ?_
        refine r_imul g0 dX10_closestStretto_98 ?_
        refine r_iload g0 dX10_closestStretto_99 rfl ?_
        refine r_iadd g0 dX10_closestStretto_101 ?_
        refine r_bipush g0 dX10_closestStretto_102 rfl ?_
        refine r_iadd g0 dX10_closestStretto_104 ?_
        exact z_I g dX10_closestStretto_105 (InR_wr _) h
set_option maxHeartbeats 4000000 in
set_option maxRecDepth 100000 in
theorem t_X10_closestStretto_L43 {l : Launch} {E : u_E} {K : u_K} {r : Int} {s' : u_S} (g : Wk l (XE E) { frames := 5, cells := 0, slots := 0, locals := 123 } cX10_closestStretto 7 yX10_closestStretto.cls yX10_closestStretto.name (some .int) (RI E r s') K) {v0_2 : u_O} {v1_2 : Int} {v2_2 : Int} {v3_2 : Int} (i_v0_2 : is_FP v0_2) (i_v1_2 : InR v1_2) (i_v2_2 : InR v2_2) (i_v3_2 : InR v3_2) {kx118 : u_S → Option (Int × u_S)} (hkx118 : ∀ (s_14 : u_S), kx118 s_14 = some (r, s') → K 0 0 118 [some (.ref (E.1 v0_2)), some (.int (J v1_2)), some (.int (J v2_2)), some (.int (J v3_2)), none, none, none] [] (Wd E s_14)) : ∀ (m : Nat) (v4_1 : Int) (s_7 : u_S), InR v4_1 → f_X10_closestStretto_L43 m kx118 v0_2 v1_2 v2_2 v3_2 v4_1 s_7 = some (r, s') → K 0 0 43 [some (.ref (E.1 v0_2)), some (.int (J v1_2)), some (.int (J v2_2)), some (.int (J v3_2)), some (.int (J v4_1)), none, none] [] (Wd E s_7) := by
  have g0 := g.wk
  intro m
  induction m with
  | zero =>
    intro v4_1 s_7 i_v4_1 h
    exact absurd (show (none : Option (Int × u_S)) = some (r, s') from h) (by intro z; cases z)
  | succ m ih =>
    intro v4_1 s_7 i_v4_1 h
    rw [f_X10_closestStretto_L43] at h
    refine r_iload g0 dX10_closestStretto_43 rfl ?_
    refine r_iconst g0 dX10_closestStretto_45 ?_
    refine r_icmp_ge g0 118 dX10_closestStretto_46 (by decide) i_v4_1 (InR_lit rfl) (fun hc => ?_) (fun hc => ?_)
    · replace h := if_f hc h
      refine r_mask g0 (lv' := [some (.ref (E.1 v0_2)), some (.int (J v1_2)), some (.int (J v2_2)), some (.int (J v3_2)), none, none, none]) [true, true, true, true, false, false, false] rfl ?_
      exact hkx118 s_7 h
    · replace h := if_t hc h
      refine r_iconst g0 dX10_closestStretto_49 ?_
      refine r_istore g0 (lv' := [some (.ref (E.1 v0_2)), some (.int (J v1_2)), some (.int (J v2_2)), some (.int (J v3_2)), some (.int (J v4_1)), some (.int (J 0)), none]) dX10_closestStretto_50 (by decide) rfl rfl ?_
      refine t_X10_closestStretto_L52 g i_v0_2 i_v1_2 i_v2_2 i_v3_2 i_v4_1 ?_ FU 0 s_7 (B01.inR B01_0) h
      · intro s_8 h
        refine r_iinc g0 (a := v4_1) (lv' := [some (.ref (E.1 v0_2)), some (.int (J v1_2)), some (.int (J v2_2)), some (.int (J v3_2)), some (.int (J (wr (v4_1 + 1)))), none, none]) dX10_closestStretto_112 (by decide) rfl rfl rfl ?_
        refine r_goto g0 43 dX10_closestStretto_115 (by decide) ?_
        exact ih (wr (v4_1 + 1)) s_8 (InR_wr _) h
set_option maxHeartbeats 4000000 in
set_option maxRecDepth 100000 in
theorem t_X10_closestStretto_L35 {l : Launch} {E : u_E} {K : u_K} {r : Int} {s' : u_S} (g : Wk l (XE E) { frames := 5, cells := 0, slots := 0, locals := 123 } cX10_closestStretto 7 yX10_closestStretto.cls yX10_closestStretto.name (some .int) (RI E r s') K) {v0_1 : u_O} {v1_1 : Int} {v2_1 : Int} (i_v0_1 : is_FP v0_1) (i_v1_1 : InR v1_1) (i_v2_1 : InR v2_1) {kx124 : u_S → Option (Int × u_S)} (hkx124 : ∀ (s_15 : u_S), kx124 s_15 = some (r, s') → K 0 0 124 [none, none, none, none, none, none, none] [] (Wd E s_15)) : ∀ (m : Nat) (v3_1 : Int) (s_5 : u_S), InR v3_1 → f_X10_closestStretto_L35 m kx124 v0_1 v1_1 v2_1 v3_1 s_5 = some (r, s') → K 0 0 35 [some (.ref (E.1 v0_1)), some (.int (J v1_1)), some (.int (J v2_1)), some (.int (J v3_1)), none, none, none] [] (Wd E s_5) := by
  have g0 := g.wk
  intro m
  induction m with
  | zero =>
    intro v3_1 s_5 i_v3_1 h
    exact absurd (show (none : Option (Int × u_S)) = some (r, s') from h) (by intro z; cases z)
  | succ m ih =>
    intro v3_1 s_5 i_v3_1 h
    rw [f_X10_closestStretto_L35] at h
    refine r_iload_n g0 dX10_closestStretto_35 rfl ?_
    refine r_iload_n g0 dX10_closestStretto_36 rfl ?_
    refine r_icmp_ge g0 124 dX10_closestStretto_37 (by decide) i_v3_1 i_v2_1 (fun hc => ?_) (fun hc => ?_)
    · replace h := if_f hc h
      refine r_mask g0 (lv' := [none, none, none, none, none, none, none]) [false, false, false, false, false, false, false] rfl ?_
      exact hkx124 s_5 h
    · replace h := if_t hc h
      refine r_iconst g0 dX10_closestStretto_40 ?_
      refine r_istore g0 (lv' := [some (.ref (E.1 v0_1)), some (.int (J v1_1)), some (.int (J v2_1)), some (.int (J v3_1)), some (.int (J 0)), none, none]) dX10_closestStretto_41 (by decide) rfl rfl ?_
      refine t_X10_closestStretto_L43 g i_v0_1 i_v1_1 i_v2_1 i_v3_1 ?_ FU 0 s_5 (B01.inR B01_0) h
      · intro s_6 h
        refine r_iinc g0 (a := v3_1) (lv' := [some (.ref (E.1 v0_1)), some (.int (J v1_1)), some (.int (J v2_1)), some (.int (J (wr (v3_1 + 1)))), none, none, none]) dX10_closestStretto_118 (by decide) rfl rfl rfl ?_
        refine r_goto g0 35 dX10_closestStretto_121 (by decide) ?_
        exact ih (wr (v3_1 + 1)) s_6 (InR_wr _) h
set_option maxHeartbeats 4000000 in
set_option maxRecDepth 100000 in
theorem c_X10_closestStretto {E : u_E} {l : Launch} {o : u_O} {p1 : Int} (ho : is_FP o) (i_p1 : InR p1) {s s' : u_S} {r : Int} (h : f_X10_closestStretto o p1 s = some (r, s')) : Con l (XE E) yX10_closestStretto cX10_closestStretto 7 (some .int) 5 123 0 0 [.ref (E.1 o), .int (J p1)] (Wd E s) (RI E r s') := by
  refine Con.of [some (.ref (E.1 o)), some (.int (J p1)), none, none, none, none, none] (by decide +kernel) rfl rfl (Nat.le_of_ble_eq_true rfl) (fun K g => ?_)
  have g0 := g.wk
  unfold f_X10_closestStretto at h
  refine r_aload_n g0 dX10_closestStretto_0 rfl ?_
  refine g_FP_plan g0 ho qX10_12 dX10_closestStretto_1 ?_
  refine r_aload_n g0 dX10_closestStretto_4 rfl ?_
  refine g_FP_upper g0 ho qX10_36 dX10_closestStretto_5 ?_
  refine r_iload_n g0 dX10_closestStretto_8 rfl ?_
  refine r_iconst g0 dX10_closestStretto_9 ?_
  refine r_iconst g0 dX10_closestStretto_10 ?_
  obtain ⟨r_1, s_1, hr_1, h⟩ := bd_some h
  refine r_cVV g0 (rest := []) (c_X6_form (is_a_FP_plan ho) (is_a_FP_upper ho) i_p1 (B01.inR B01_0) (B01.inR B01_0) hr_1) ok_X6_form mX10_162 (recv_Plan (is_a_FP_plan ho)) dX10_closestStretto_11 ⟨Nat.le_of_ble_eq_true rfl, Nat.le_of_ble_eq_true rfl⟩ ⟨Nat.zero_le _, Nat.zero_le _⟩ rfl (Nat.le_of_ble_eq_true rfl) rfl ?_
  refine r_aload_n g0 dX10_closestStretto_14 rfl ?_
  refine g_FP_upper g0 ho qX10_36 dX10_closestStretto_15 ?_
  refine r_iconst g0 dX10_closestStretto_18 ?_
  refine r_iconst g0 dX10_closestStretto_19 ?_
  obtain ⟨r_2, s_2, hr_2, h⟩ := bd_some h
  refine r_cVV g0 (rest := []) (c_X8_place (is_a_FP_upper ho) (B01.inR B01_0) (B01.inR B01_0) hr_2) ok_X8_place mX10_166 (recv_Sound (is_a_FP_upper ho)) dX10_closestStretto_20 ⟨Nat.le_of_ble_eq_true rfl, Nat.le_of_ble_eq_true rfl⟩ ⟨Nat.zero_le _, Nat.zero_le _⟩ rfl (Nat.le_of_ble_eq_true rfl) rfl ?_
  refine r_aload_n g0 dX10_closestStretto_23 rfl ?_
  refine g_FP_plan g0 ho qX10_12 dX10_closestStretto_24 ?_
  refine r_iload_n g0 dX10_closestStretto_27 rfl ?_
  refine r_iconst g0 dX10_closestStretto_28 ?_
  obtain ⟨r_3, s_3, hr_3, h⟩ := bd_some h
  refine r_cVI g0 (rest := []) (c_X6_lengthOf (is_a_FP_plan ho) i_p1 (B01.inR B01_0) hr_3) ok_X6_lengthOf mX10_198 (recv_Plan (is_a_FP_plan ho)) dX10_closestStretto_29 ⟨Nat.le_of_ble_eq_true rfl, Nat.le_of_ble_eq_true rfl⟩ ⟨Nat.zero_le _, Nat.zero_le _⟩ rfl (Nat.le_of_ble_eq_true rfl) rfl (fun i_r_3 => ?_)
  refine r_istore_n g0 (lv' := [some (.ref (E.1 o)), some (.int (J p1)), some (.int (J r_3)), none, none, none, none]) dX10_closestStretto_32 (by decide) rfl rfl ?_
  refine r_iconst g0 dX10_closestStretto_33 ?_
  refine r_istore_n g0 (lv' := [some (.ref (E.1 o)), some (.int (J p1)), some (.int (J r_3)), some (.int (J 1)), none, none, none]) dX10_closestStretto_34 (by decide) rfl rfl ?_
  refine t_X10_closestStretto_L35 g ho i_p1 i_r_3 ?_ FU 1 s_3 (B01.inR B01_1) h
  · intro s_4 h
    refine r_iconst g0 dX10_closestStretto_124 ?_
    exact z_I g dX10_closestStretto_125 (InR_lit rfl) h
theorem dX10_closest_0 : decode cX10_closest 0 = .ok (.iload_n 1, 1) := by decide +kernel
theorem dX10_closest_1 : decode cX10_closest 1 = .ok (.invokestatic 100, 3) := by decide +kernel
theorem dX10_closest_4 : decode cX10_closest 4 = .ok (.ifCond .eq 12, 3) := by decide +kernel
theorem dX10_closest_7 : decode cX10_closest 7 = .ok (.iload_n 2, 1) := by decide +kernel
theorem dX10_closest_8 : decode cX10_closest 8 = .ok (.iconst 0, 1) := by decide +kernel
theorem dX10_closest_9 : decode cX10_closest 9 = .ok (.iconst 2, 1) := by decide +kernel
theorem dX10_closest_10 : decode cX10_closest 10 = .ok (.invokestatic 113, 3) := by decide +kernel
theorem dX10_closest_13 : decode cX10_closest 13 = .ok (.ifCond .ne 10, 3) := by decide +kernel
theorem dX10_closest_16 : decode cX10_closest 16 = .ok (.aload_n 0, 1) := by decide +kernel
theorem dX10_closest_17 : decode cX10_closest 17 = .ok (.bipush (-2), 2) := by decide +kernel
theorem dX10_closest_19 : decode cX10_closest 19 = .ok (.invokevirtual 117, 3) := by decide +kernel
theorem dX10_closest_22 : decode cX10_closest 22 = .ok (.ireturn, 1) := by decide +kernel
theorem dX10_closest_23 : decode cX10_closest 23 = .ok (.aload_n 0, 1) := by decide +kernel
theorem dX10_closest_24 : decode cX10_closest 24 = .ok (.iload_n 1, 1) := by decide +kernel
theorem dX10_closest_25 : decode cX10_closest 25 = .ok (.invokevirtual 252, 3) := by decide +kernel
theorem dX10_closest_28 : decode cX10_closest 28 = .ok (.istore_n 3, 1) := by decide +kernel
theorem dX10_closest_29 : decode cX10_closest 29 = .ok (.iload_n 3, 1) := by decide +kernel
theorem dX10_closest_30 : decode cX10_closest 30 = .ok (.iconst (-1), 1) := by decide +kernel
theorem dX10_closest_31 : decode cX10_closest 31 = .ok (.if_icmp .ne 5, 3) := by decide +kernel
theorem dX10_closest_34 : decode cX10_closest 34 = .ok (.iconst (-1), 1) := by decide +kernel
theorem dX10_closest_35 : decode cX10_closest 35 = .ok (.ireturn, 1) := by decide +kernel
theorem dX10_closest_36 : decode cX10_closest 36 = .ok (.iload_n 2, 1) := by decide +kernel
theorem dX10_closest_37 : decode cX10_closest 37 = .ok (.ifCond .ne 9, 3) := by decide +kernel
theorem dX10_closest_40 : decode cX10_closest 40 = .ok (.iload_n 3, 1) := by decide +kernel
theorem dX10_closest_41 : decode cX10_closest 41 = .ok (.sipush 215, 3) := by decide +kernel
theorem dX10_closest_44 : decode cX10_closest 44 = .ok (.idiv, 1) := by decide +kernel
theorem dX10_closest_45 : decode cX10_closest 45 = .ok (.ireturn, 1) := by decide +kernel
theorem dX10_closest_46 : decode cX10_closest 46 = .ok (.iload_n 2, 1) := by decide +kernel
theorem dX10_closest_47 : decode cX10_closest 47 = .ok (.iconst 1, 1) := by decide +kernel
theorem dX10_closest_48 : decode cX10_closest 48 = .ok (.if_icmp .ne 10, 3) := by decide +kernel
theorem dX10_closest_51 : decode cX10_closest 51 = .ok (.iload_n 3, 1) := by decide +kernel
theorem dX10_closest_52 : decode cX10_closest 52 = .ok (.bipush 43, 2) := by decide +kernel
theorem dX10_closest_54 : decode cX10_closest 54 = .ok (.idiv, 1) := by decide +kernel
theorem dX10_closest_55 : decode cX10_closest 55 = .ok (.iconst 5, 1) := by decide +kernel
theorem dX10_closest_56 : decode cX10_closest 56 = .ok (.irem, 1) := by decide +kernel
theorem dX10_closest_57 : decode cX10_closest 57 = .ok (.ireturn, 1) := by decide +kernel
theorem dX10_closest_58 : decode cX10_closest 58 = .ok (.iload_n 3, 1) := by decide +kernel
theorem dX10_closest_59 : decode cX10_closest 59 = .ok (.bipush 43, 2) := by decide +kernel
theorem dX10_closest_61 : decode cX10_closest 61 = .ok (.irem, 1) := by decide +kernel
theorem dX10_closest_62 : decode cX10_closest 62 = .ok (.ireturn, 1) := by decide +kernel
set_option maxHeartbeats 4000000 in
set_option maxRecDepth 100000 in
theorem c_X10_closest {E : u_E} {l : Launch} {o : u_O} {p1 : Int} {p2 : Int} (ho : is_FP o) (i_p1 : InR p1) (i_p2 : InR p2) {s s' : u_S} {r : Int} (h : f_X10_closest o p1 p2 s = some (r, s')) : Con l (XE E) yX10_closest cX10_closest 4 (some .int) 6 149 0 0 [.ref (E.1 o), .int (J p1), .int (J p2)] (Wd E s) (RI E r s') := by
  refine Con.of [some (.ref (E.1 o)), some (.int (J p1)), some (.int (J p2)), none] (by decide +kernel) rfl rfl (Nat.le_of_ble_eq_true rfl) (fun K g => ?_)
  have g0 := g.wk
  unfold f_X10_closest at h
  refine r_iload_n g0 dX10_closest_0 rfl ?_
  obtain ⟨r_1, s_1, hr_1, h⟩ := bd_some h
  refine r_cSZ g0 (rest := []) (c_X10_isLine i_p1 hr_1) ok_X10_isLine mX10_100 dX10_closest_1 ⟨Nat.le_of_ble_eq_true rfl, Nat.le_of_ble_eq_true rfl⟩ ⟨Nat.zero_le _, Nat.zero_le _⟩ rfl (Nat.le_of_ble_eq_true rfl) rfl (fun i_r_1 => ?_)
  obtain ⟨jp_1, hdjp_1, h⟩ := jn_some h
  have hjp_1 : ∀  (s_2 : u_S), jp_1 s_2 = some (r, s') → K 0 0 16 [some (.ref (E.1 o)), none, none, none] [] (Wd E s_2) := by
    intro s_2 h
    subst hdjp_1
    refine r_aload_n g0 dX10_closest_16 rfl ?_
    refine r_bipush g0 dX10_closest_17 rfl ?_
    obtain ⟨r_2, s_3, hr_2, h⟩ := bd_some h
    refine r_cVI g0 (rest := []) (c_X10_refused ho (InR_lit rfl) hr_2) ok_X10_refused mX10_117 (recv_FP ho) dX10_closest_19 ⟨Nat.le_of_ble_eq_true rfl, Nat.le_of_ble_eq_true rfl⟩ ⟨Nat.zero_le _, Nat.zero_le _⟩ rfl (Nat.le_of_ble_eq_true rfl) rfl (fun i_r_2 => ?_)
    exact z_I g dX10_closest_22 i_r_2 h
  clear hdjp_1
  refine r_if_eq g0 16 dX10_closest_4 (by decide) (B01.inR i_r_1) (fun hc => ?_) (fun hc => ?_)
  · replace h := if_t hc h
    refine r_mask g0 (lv' := [some (.ref (E.1 o)), none, none, none]) [true, false, false, false] rfl ?_
    exact hjp_1 s_1 h
  · replace h := if_f hc h
    refine r_iload_n g0 dX10_closest_7 rfl ?_
    refine r_iconst g0 dX10_closest_8 ?_
    refine r_iconst g0 dX10_closest_9 ?_
    obtain ⟨r_3, s_4, hr_3, h⟩ := bd_some h
    refine r_cSZ g0 (rest := []) (c_X10_within i_p2 (B01.inR B01_0) (InR_lit rfl) hr_3) ok_X10_within mX10_113 dX10_closest_10 ⟨Nat.le_of_ble_eq_true rfl, Nat.le_of_ble_eq_true rfl⟩ ⟨Nat.zero_le _, Nat.zero_le _⟩ rfl (Nat.le_of_ble_eq_true rfl) rfl (fun i_r_3 => ?_)
    refine r_if_ne g0 23 dX10_closest_13 (by decide) (B01.inR i_r_3) (fun hc => ?_) (fun hc => ?_)
    · replace h := if_f hc h
      refine r_aload_n g0 dX10_closest_23 rfl ?_
      refine r_iload_n g0 dX10_closest_24 rfl ?_
      obtain ⟨r_4, s_5, hr_4, h⟩ := bd_some h
      refine r_cVI g0 (rest := []) (c_X10_closestStretto ho i_p1 hr_4) ok_X10_closestStretto mX10_252 (recv_FP ho) dX10_closest_25 ⟨Nat.le_of_ble_eq_true rfl, Nat.le_of_ble_eq_true rfl⟩ ⟨Nat.zero_le _, Nat.zero_le _⟩ rfl (Nat.le_of_ble_eq_true rfl) rfl (fun i_r_4 => ?_)
      refine r_istore_n g0 (lv' := [some (.ref (E.1 o)), some (.int (J p1)), some (.int (J p2)), some (.int (J r_4))]) dX10_closest_28 (by decide) rfl rfl ?_
      refine r_iload_n g0 dX10_closest_29 rfl ?_
      refine r_iconst g0 dX10_closest_30 ?_
      refine r_icmp_ne g0 36 dX10_closest_31 (by decide) i_r_4 (InR_lit rfl) (fun hc => ?_) (fun hc => ?_)
      · replace h := if_f hc h
        refine r_iload_n g0 dX10_closest_36 rfl ?_
        refine r_if_ne g0 46 dX10_closest_37 (by decide) i_p2 (fun hc => ?_) (fun hc => ?_)
        · replace h := if_f hc h
          refine r_iload_n g0 dX10_closest_46 rfl ?_
          refine r_iconst g0 dX10_closest_47 ?_
          refine r_icmp_ne g0 58 dX10_closest_48 (by decide) i_p2 (B01.inR B01_1) (fun hc => ?_) (fun hc => ?_)
          · replace h := if_f hc h
            refine r_iload_n g0 dX10_closest_58 rfl ?_
            refine r_bipush g0 dX10_closest_59 rfl ?_
            refine r_irem g0 dX10_closest_61 i_r_4 (InR_lit rfl) (by decide) ?_
            exact z_I g dX10_closest_62 (InR_rem _ i_r_4) h
          · replace h := if_t hc h
            refine r_iload_n g0 dX10_closest_51 rfl ?_
            refine r_bipush g0 dX10_closest_52 rfl ?_
            refine r_idiv g0 dX10_closest_54 i_r_4 (InR_lit rfl) (by decide) ?_
            refine r_iconst g0 dX10_closest_55 ?_
            refine r_irem g0 dX10_closest_56 (InR_wr _) (InR_lit rfl) (by decide) ?_
            exact z_I g dX10_closest_57 (InR_rem _ (InR_wr _)) h
        · replace h := if_t hc h
          refine r_iload_n g0 dX10_closest_40 rfl ?_
          refine r_sipush g0 dX10_closest_41 rfl ?_
          refine r_idiv g0 dX10_closest_44 i_r_4 (InR_lit rfl) (by decide) ?_
          exact z_I g dX10_closest_45 (InR_wr _) h
      · replace h := if_t hc h
        refine r_iconst g0 dX10_closest_34 ?_
        exact z_I g dX10_closest_35 (InR_lit rfl) h
    · replace h := if_t hc h
      refine r_mask g0 (lv' := [some (.ref (E.1 o)), none, none, none]) [true, false, false, false] rfl ?_
      exact hjp_1 s_4 h
theorem dX10_areTwoLines_0 : decode cX10_areTwoLines 0 = .ok (.iload_n 0, 1) := by decide +kernel
theorem dX10_areTwoLines_1 : decode cX10_areTwoLines 1 = .ok (.invokestatic 100, 3) := by decide +kernel
theorem dX10_areTwoLines_4 : decode cX10_areTwoLines 4 = .ok (.ifCond .eq 19, 3) := by decide +kernel
theorem dX10_areTwoLines_7 : decode cX10_areTwoLines 7 = .ok (.iload_n 1, 1) := by decide +kernel
theorem dX10_areTwoLines_8 : decode cX10_areTwoLines 8 = .ok (.invokestatic 100, 3) := by decide +kernel
theorem dX10_areTwoLines_11 : decode cX10_areTwoLines 11 = .ok (.ifCond .eq 12, 3) := by decide +kernel
theorem dX10_areTwoLines_14 : decode cX10_areTwoLines 14 = .ok (.iload_n 0, 1) := by decide +kernel
theorem dX10_areTwoLines_15 : decode cX10_areTwoLines 15 = .ok (.iload_n 1, 1) := by decide +kernel
theorem dX10_areTwoLines_16 : decode cX10_areTwoLines 16 = .ok (.if_icmp .eq 7, 3) := by decide +kernel
theorem dX10_areTwoLines_19 : decode cX10_areTwoLines 19 = .ok (.iconst 1, 1) := by decide +kernel
theorem dX10_areTwoLines_20 : decode cX10_areTwoLines 20 = .ok (.goto 4, 3) := by decide +kernel
theorem dX10_areTwoLines_23 : decode cX10_areTwoLines 23 = .ok (.iconst 0, 1) := by decide +kernel
theorem dX10_areTwoLines_24 : decode cX10_areTwoLines 24 = .ok (.ireturn, 1) := by decide +kernel
set_option maxHeartbeats 4000000 in
set_option maxRecDepth 100000 in
theorem c_X10_areTwoLines {E : u_E} {l : Launch} {p1 : Int} {p2 : Int} (i_p1 : InR p1) (i_p2 : InR p2) {s s' : u_S} {r : Int} (h : f_X10_areTwoLines p1 p2 s = some (r, s')) : Con l (XE E) yX10_areTwoLines cX10_areTwoLines 2 (some .boolean) 2 42 0 0 [.int (J p1), .int (J p2)] (Wd E s) (RZ E r s') := by
  refine Con.of [some (.int (J p1)), some (.int (J p2))] (by decide +kernel) rfl rfl (Nat.le_of_ble_eq_true rfl) (fun K g => ?_)
  have g0 := g.wk
  unfold f_X10_areTwoLines at h
  refine r_iload_n g0 dX10_areTwoLines_0 rfl ?_
  obtain ⟨r_1, s_1, hr_1, h⟩ := bd_some h
  refine r_cSZ g0 (rest := []) (c_X10_isLine i_p1 hr_1) ok_X10_isLine mX10_100 dX10_areTwoLines_1 ⟨Nat.le_of_ble_eq_true rfl, Nat.le_of_ble_eq_true rfl⟩ ⟨Nat.zero_le _, Nat.zero_le _⟩ rfl (Nat.le_of_ble_eq_true rfl) rfl (fun i_r_1 => ?_)
  refine r_if_eq g0 23 dX10_areTwoLines_4 (by decide) (B01.inR i_r_1) (fun hc => ?_) (fun hc => ?_)
  · replace h := if_t hc h
    refine r_iconst g0 dX10_areTwoLines_23 ?_
    exact z_Z g dX10_areTwoLines_24 B01_0 h
  · replace h := if_f hc h
    refine r_iload_n g0 dX10_areTwoLines_7 rfl ?_
    obtain ⟨r_2, s_2, hr_2, h⟩ := bd_some h
    refine r_cSZ g0 (rest := []) (c_X10_isLine i_p2 hr_2) ok_X10_isLine mX10_100 dX10_areTwoLines_8 ⟨Nat.le_of_ble_eq_true rfl, Nat.le_of_ble_eq_true rfl⟩ ⟨Nat.zero_le _, Nat.zero_le _⟩ rfl (Nat.le_of_ble_eq_true rfl) rfl (fun i_r_2 => ?_)
    refine r_if_eq g0 23 dX10_areTwoLines_11 (by decide) (B01.inR i_r_2) (fun hc => ?_) (fun hc => ?_)
    · replace h := if_t hc h
      refine r_iconst g0 dX10_areTwoLines_23 ?_
      exact z_Z g dX10_areTwoLines_24 B01_0 h
    · replace h := if_f hc h
      refine r_iload_n g0 dX10_areTwoLines_14 rfl ?_
      refine r_iload_n g0 dX10_areTwoLines_15 rfl ?_
      refine r_icmp_eq g0 23 dX10_areTwoLines_16 (by decide) i_p1 i_p2 (fun hc => ?_) (fun hc => ?_)
      · replace h := if_t hc h
        refine r_iconst g0 dX10_areTwoLines_23 ?_
        exact z_Z g dX10_areTwoLines_24 B01_0 h
      · replace h := if_f hc h
        refine r_iconst g0 dX10_areTwoLines_19 ?_
        refine r_goto g0 24 dX10_areTwoLines_20 (by decide) ?_
        exact z_Z g dX10_areTwoLines_24 B01_1 h
theorem dX10_invertsWell_0 : decode cX10_invertsWell 0 = .ok (.aload_n 0, 1) := by decide +kernel
theorem dX10_invertsWell_1 : decode cX10_invertsWell 1 = .ok (.getfield 12, 3) := by decide +kernel
theorem dX10_invertsWell_4 : decode cX10_invertsWell 4 = .ok (.aload_n 0, 1) := by decide +kernel
theorem dX10_invertsWell_5 : decode cX10_invertsWell 5 = .ok (.getfield 36, 3) := by decide +kernel
theorem dX10_invertsWell_8 : decode cX10_invertsWell 8 = .ok (.iload_n 2, 1) := by decide +kernel
theorem dX10_invertsWell_9 : decode cX10_invertsWell 9 = .ok (.iconst 0, 1) := by decide +kernel
theorem dX10_invertsWell_10 : decode cX10_invertsWell 10 = .ok (.iload_n 3, 1) := by decide +kernel
theorem dX10_invertsWell_11 : decode cX10_invertsWell 11 = .ok (.invokevirtual 162, 3) := by decide +kernel
theorem dX10_invertsWell_14 : decode cX10_invertsWell 14 = .ok (.aload_n 0, 1) := by decide +kernel
theorem dX10_invertsWell_15 : decode cX10_invertsWell 15 = .ok (.getfield 36, 3) := by decide +kernel
theorem dX10_invertsWell_18 : decode cX10_invertsWell 18 = .ok (.iconst 0, 1) := by decide +kernel
theorem dX10_invertsWell_19 : decode cX10_invertsWell 19 = .ok (.iconst 0, 1) := by decide +kernel
theorem dX10_invertsWell_20 : decode cX10_invertsWell 20 = .ok (.invokevirtual 166, 3) := by decide +kernel
theorem dX10_invertsWell_23 : decode cX10_invertsWell 23 = .ok (.aload_n 0, 1) := by decide +kernel
theorem dX10_invertsWell_24 : decode cX10_invertsWell 24 = .ok (.getfield 12, 3) := by decide +kernel
theorem dX10_invertsWell_27 : decode cX10_invertsWell 27 = .ok (.aload_n 0, 1) := by decide +kernel
theorem dX10_invertsWell_28 : decode cX10_invertsWell 28 = .ok (.getfield 40, 3) := by decide +kernel
theorem dX10_invertsWell_31 : decode cX10_invertsWell 31 = .ok (.iload_n 1, 1) := by decide +kernel
theorem dX10_invertsWell_32 : decode cX10_invertsWell 32 = .ok (.iconst 0, 1) := by decide +kernel
theorem dX10_invertsWell_33 : decode cX10_invertsWell 33 = .ok (.iconst 0, 1) := by decide +kernel
theorem dX10_invertsWell_34 : decode cX10_invertsWell 34 = .ok (.invokevirtual 162, 3) := by decide +kernel
theorem dX10_invertsWell_37 : decode cX10_invertsWell 37 = .ok (.aload_n 0, 1) := by decide +kernel
theorem dX10_invertsWell_38 : decode cX10_invertsWell 38 = .ok (.getfield 40, 3) := by decide +kernel
theorem dX10_invertsWell_41 : decode cX10_invertsWell 41 = .ok (.iconst 0, 1) := by decide +kernel
theorem dX10_invertsWell_42 : decode cX10_invertsWell 42 = .ok (.iconst 1, 1) := by decide +kernel
theorem dX10_invertsWell_43 : decode cX10_invertsWell 43 = .ok (.invokevirtual 166, 3) := by decide +kernel
theorem dX10_invertsWell_46 : decode cX10_invertsWell 46 = .ok (.aload_n 0, 1) := by decide +kernel
theorem dX10_invertsWell_47 : decode cX10_invertsWell 47 = .ok (.getfield 46, 3) := by decide +kernel
theorem dX10_invertsWell_50 : decode cX10_invertsWell 50 = .ok (.invokevirtual 210, 3) := by decide +kernel
theorem dX10_invertsWell_53 : decode cX10_invertsWell 53 = .ok (.aload_n 0, 1) := by decide +kernel
theorem dX10_invertsWell_54 : decode cX10_invertsWell 54 = .ok (.getfield 46, 3) := by decide +kernel
theorem dX10_invertsWell_57 : decode cX10_invertsWell 57 = .ok (.aload_n 0, 1) := by decide +kernel
theorem dX10_invertsWell_58 : decode cX10_invertsWell 58 = .ok (.getfield 36, 3) := by decide +kernel
theorem dX10_invertsWell_61 : decode cX10_invertsWell 61 = .ok (.aload_n 0, 1) := by decide +kernel
theorem dX10_invertsWell_62 : decode cX10_invertsWell 62 = .ok (.getfield 40, 3) := by decide +kernel
theorem dX10_invertsWell_65 : decode cX10_invertsWell 65 = .ok (.aload_n 0, 1) := by decide +kernel
theorem dX10_invertsWell_66 : decode cX10_invertsWell 66 = .ok (.getfield 12, 3) := by decide +kernel
theorem dX10_invertsWell_69 : decode cX10_invertsWell 69 = .ok (.getfield 216, 3) := by decide +kernel
theorem dX10_invertsWell_72 : decode cX10_invertsWell 72 = .ok (.invokevirtual 219, 3) := by decide +kernel
theorem dX10_invertsWell_75 : decode cX10_invertsWell 75 = .ok (.aload_n 0, 1) := by decide +kernel
theorem dX10_invertsWell_76 : decode cX10_invertsWell 76 = .ok (.getfield 46, 3) := by decide +kernel
theorem dX10_invertsWell_79 : decode cX10_invertsWell 79 = .ok (.iconst 3, 1) := by decide +kernel
theorem dX10_invertsWell_80 : decode cX10_invertsWell 80 = .ok (.invokevirtual 223, 3) := by decide +kernel
theorem dX10_invertsWell_83 : decode cX10_invertsWell 83 = .ok (.ifCond .ne 7, 3) := by decide +kernel
theorem dX10_invertsWell_86 : decode cX10_invertsWell 86 = .ok (.iconst 1, 1) := by decide +kernel
theorem dX10_invertsWell_87 : decode cX10_invertsWell 87 = .ok (.goto 4, 3) := by decide +kernel
theorem dX10_invertsWell_90 : decode cX10_invertsWell 90 = .ok (.iconst 0, 1) := by decide +kernel
theorem dX10_invertsWell_91 : decode cX10_invertsWell 91 = .ok (.ireturn, 1) := by decide +kernel
set_option maxHeartbeats 4000000 in
set_option maxRecDepth 100000 in
theorem c_X10_invertsWell {E : u_E} {l : Launch} {o : u_O} {p1 : Int} {p2 : Int} {p3 : Int} (ho : is_FP o) (i_p1 : InR p1) (i_p2 : InR p2) (i_p3 : InR p3) {s s' : u_S} {r : Int} (h : f_X10_invertsWell o p1 p2 p3 s = some (r, s')) : Con l (XE E) yX10_invertsWell cX10_invertsWell 4 (some .boolean) 4 102 0 0 [.ref (E.1 o), .int (J p1), .int (J p2), .int (J p3)] (Wd E s) (RZ E r s') := by
  refine Con.of [some (.ref (E.1 o)), some (.int (J p1)), some (.int (J p2)), some (.int (J p3))] (by decide +kernel) rfl rfl (Nat.le_of_ble_eq_true rfl) (fun K g => ?_)
  have g0 := g.wk
  unfold f_X10_invertsWell at h
  refine r_aload_n g0 dX10_invertsWell_0 rfl ?_
  refine g_FP_plan g0 ho qX10_12 dX10_invertsWell_1 ?_
  refine r_aload_n g0 dX10_invertsWell_4 rfl ?_
  refine g_FP_upper g0 ho qX10_36 dX10_invertsWell_5 ?_
  refine r_iload_n g0 dX10_invertsWell_8 rfl ?_
  refine r_iconst g0 dX10_invertsWell_9 ?_
  refine r_iload_n g0 dX10_invertsWell_10 rfl ?_
  obtain ⟨r_1, s_1, hr_1, h⟩ := bd_some h
  refine r_cVV g0 (rest := []) (c_X6_form (is_a_FP_plan ho) (is_a_FP_upper ho) i_p2 (B01.inR B01_0) i_p3 hr_1) ok_X6_form mX10_162 (recv_Plan (is_a_FP_plan ho)) dX10_invertsWell_11 ⟨Nat.le_of_ble_eq_true rfl, Nat.le_of_ble_eq_true rfl⟩ ⟨Nat.zero_le _, Nat.zero_le _⟩ rfl (Nat.le_of_ble_eq_true rfl) rfl ?_
  refine r_aload_n g0 dX10_invertsWell_14 rfl ?_
  refine g_FP_upper g0 ho qX10_36 dX10_invertsWell_15 ?_
  refine r_iconst g0 dX10_invertsWell_18 ?_
  refine r_iconst g0 dX10_invertsWell_19 ?_
  obtain ⟨r_2, s_2, hr_2, h⟩ := bd_some h
  refine r_cVV g0 (rest := []) (c_X8_place (is_a_FP_upper ho) (B01.inR B01_0) (B01.inR B01_0) hr_2) ok_X8_place mX10_166 (recv_Sound (is_a_FP_upper ho)) dX10_invertsWell_20 ⟨Nat.le_of_ble_eq_true rfl, Nat.le_of_ble_eq_true rfl⟩ ⟨Nat.zero_le _, Nat.zero_le _⟩ rfl (Nat.le_of_ble_eq_true rfl) rfl ?_
  refine r_aload_n g0 dX10_invertsWell_23 rfl ?_
  refine g_FP_plan g0 ho qX10_12 dX10_invertsWell_24 ?_
  refine r_aload_n g0 dX10_invertsWell_27 rfl ?_
  refine g_FP_lower g0 ho qX10_40 dX10_invertsWell_28 ?_
  refine r_iload_n g0 dX10_invertsWell_31 rfl ?_
  refine r_iconst g0 dX10_invertsWell_32 ?_
  refine r_iconst g0 dX10_invertsWell_33 ?_
  obtain ⟨r_3, s_3, hr_3, h⟩ := bd_some h
  refine r_cVV g0 (rest := []) (c_X6_form (is_a_FP_plan ho) (is_a_FP_lower ho) i_p1 (B01.inR B01_0) (B01.inR B01_0) hr_3) ok_X6_form mX10_162 (recv_Plan (is_a_FP_plan ho)) dX10_invertsWell_34 ⟨Nat.le_of_ble_eq_true rfl, Nat.le_of_ble_eq_true rfl⟩ ⟨Nat.zero_le _, Nat.zero_le _⟩ rfl (Nat.le_of_ble_eq_true rfl) rfl ?_
  refine r_aload_n g0 dX10_invertsWell_37 rfl ?_
  refine g_FP_lower g0 ho qX10_40 dX10_invertsWell_38 ?_
  refine r_iconst g0 dX10_invertsWell_41 ?_
  refine r_iconst g0 dX10_invertsWell_42 ?_
  obtain ⟨r_4, s_4, hr_4, h⟩ := bd_some h
  refine r_cVV g0 (rest := []) (c_X8_place (is_a_FP_lower ho) (B01.inR B01_0) (B01.inR B01_1) hr_4) ok_X8_place mX10_166 (recv_Sound (is_a_FP_lower ho)) dX10_invertsWell_43 ⟨Nat.le_of_ble_eq_true rfl, Nat.le_of_ble_eq_true rfl⟩ ⟨Nat.zero_le _, Nat.zero_le _⟩ rfl (Nat.le_of_ble_eq_true rfl) rfl ?_
  refine r_aload_n g0 dX10_invertsWell_46 rfl ?_
  refine g_FP_faults g0 ho qX10_46 dX10_invertsWell_47 ?_
  obtain ⟨r_5, s_5, hr_5, h⟩ := bd_some h
  refine r_cVV g0 (rest := []) (c_X3_forget (is_a_FP_faults ho) hr_5) ok_X3_forget mX10_210 (recv_Faults (is_a_FP_faults ho)) dX10_invertsWell_50 ⟨Nat.le_of_ble_eq_true rfl, Nat.le_of_ble_eq_true rfl⟩ ⟨Nat.zero_le _, Nat.zero_le _⟩ rfl (Nat.le_of_ble_eq_true rfl) rfl ?_
  refine r_aload_n g0 dX10_invertsWell_53 rfl ?_
  refine g_FP_faults g0 ho qX10_46 dX10_invertsWell_54 ?_
  refine r_aload_n g0 dX10_invertsWell_57 rfl ?_
  refine g_FP_upper g0 ho qX10_36 dX10_invertsWell_58 ?_
  refine r_aload_n g0 dX10_invertsWell_61 rfl ?_
  refine g_FP_lower g0 ho qX10_40 dX10_invertsWell_62 ?_
  refine r_aload_n g0 dX10_invertsWell_65 rfl ?_
  refine g_FP_plan g0 ho qX10_12 dX10_invertsWell_66 ?_
  refine g_Plan_meter g0 (is_a_FP_plan ho) qX10_216 dX10_invertsWell_69 ?_
  obtain ⟨r_6, s_6, hr_6, h⟩ := bd_some h
  refine r_cVV g0 (rest := []) (c_X3_addPair (is_a_FP_faults ho) (is_a_FP_upper ho) (is_a_FP_lower ho) (InR_rd _ _ _) hr_6) ok_X3_addPair mX10_219 (recv_Faults (is_a_FP_faults ho)) dX10_invertsWell_72 ⟨Nat.le_of_ble_eq_true rfl, Nat.le_of_ble_eq_true rfl⟩ ⟨Nat.zero_le _, Nat.zero_le _⟩ rfl (Nat.le_of_ble_eq_true rfl) rfl ?_
  refine r_aload_n g0 dX10_invertsWell_75 rfl ?_
  refine g_FP_faults g0 ho qX10_46 dX10_invertsWell_76 ?_
  refine r_iconst g0 dX10_invertsWell_79 ?_
  obtain ⟨r_7, s_7, hr_7, h⟩ := bd_some h
  refine r_cVI g0 (rest := []) (c_X3_number (is_a_FP_faults ho) (InR_lit rfl) hr_7) ok_X3_number mX10_223 (recv_Faults (is_a_FP_faults ho)) dX10_invertsWell_80 ⟨Nat.le_of_ble_eq_true rfl, Nat.le_of_ble_eq_true rfl⟩ ⟨Nat.zero_le _, Nat.zero_le _⟩ rfl (Nat.le_of_ble_eq_true rfl) rfl (fun i_r_7 => ?_)
  refine r_if_ne g0 90 dX10_invertsWell_83 (by decide) i_r_7 (fun hc => ?_) (fun hc => ?_)
  · replace h := if_f hc h
    refine r_iconst g0 dX10_invertsWell_90 ?_
    exact z_Z g dX10_invertsWell_91 B01_0 h
  · replace h := if_t hc h
    refine r_iconst g0 dX10_invertsWell_86 ?_
    refine r_goto g0 91 dX10_invertsWell_87 (by decide) ?_
    exact z_Z g dX10_invertsWell_91 B01_1 h
