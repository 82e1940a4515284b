/-! THE CONTRACTS: the bytecode does what the functions say (by program, wip/whole/gen) -/
theorem dX6_setValue_0 : decode cX6_setValue 0 = .ok (.iload_n 1, 1) := by decide +kernel
theorem dX6_setValue_1 : decode cX6_setValue 1 = .ok (.ifCond .ne 25, 3) := by decide +kernel
theorem dX6_setValue_4 : decode cX6_setValue 4 = .ok (.iload_n 2, 1) := by decide +kernel
theorem dX6_setValue_5 : decode cX6_setValue 5 = .ok (.iconst 0, 1) := by decide +kernel
theorem dX6_setValue_6 : decode cX6_setValue 6 = .ok (.bipush 10, 2) := by decide +kernel
theorem dX6_setValue_8 : decode cX6_setValue 8 = .ok (.invokestatic 56, 3) := by decide +kernel
theorem dX6_setValue_11 : decode cX6_setValue 11 = .ok (.ifCond .eq 15, 3) := by decide +kernel
theorem dX6_setValue_14 : decode cX6_setValue 14 = .ok (.aload_n 0, 1) := by decide +kernel
theorem dX6_setValue_15 : decode cX6_setValue 15 = .ok (.getfield 28, 3) := by decide +kernel
theorem dX6_setValue_18 : decode cX6_setValue 18 = .ok (.istore_n 3, 1) := by decide +kernel
theorem dX6_setValue_19 : decode cX6_setValue 19 = .ok (.aload_n 0, 1) := by decide +kernel
theorem dX6_setValue_20 : decode cX6_setValue 20 = .ok (.iload_n 2, 1) := by decide +kernel
theorem dX6_setValue_21 : decode cX6_setValue 21 = .ok (.putfield 28, 3) := by decide +kernel
theorem dX6_setValue_24 : decode cX6_setValue 24 = .ok (.iload_n 3, 1) := by decide +kernel
theorem dX6_setValue_25 : decode cX6_setValue 25 = .ok (.ireturn, 1) := by decide +kernel
theorem dX6_setValue_26 : decode cX6_setValue 26 = .ok (.iload_n 1, 1) := by decide +kernel
theorem dX6_setValue_27 : decode cX6_setValue 27 = .ok (.iconst 1, 1) := by decide +kernel
theorem dX6_setValue_28 : decode cX6_setValue 28 = .ok (.if_icmp .ne 25, 3) := by decide +kernel
theorem dX6_setValue_31 : decode cX6_setValue 31 = .ok (.iload_n 2, 1) := by decide +kernel
theorem dX6_setValue_32 : decode cX6_setValue 32 = .ok (.iconst 0, 1) := by decide +kernel
theorem dX6_setValue_33 : decode cX6_setValue 33 = .ok (.bipush 6, 2) := by decide +kernel
theorem dX6_setValue_35 : decode cX6_setValue 35 = .ok (.invokestatic 56, 3) := by decide +kernel
theorem dX6_setValue_38 : decode cX6_setValue 38 = .ok (.ifCond .eq 15, 3) := by decide +kernel
theorem dX6_setValue_41 : decode cX6_setValue 41 = .ok (.aload_n 0, 1) := by decide +kernel
theorem dX6_setValue_42 : decode cX6_setValue 42 = .ok (.getfield 46, 3) := by decide +kernel
theorem dX6_setValue_45 : decode cX6_setValue 45 = .ok (.istore_n 3, 1) := by decide +kernel
theorem dX6_setValue_46 : decode cX6_setValue 46 = .ok (.aload_n 0, 1) := by decide +kernel
theorem dX6_setValue_47 : decode cX6_setValue 47 = .ok (.iload_n 2, 1) := by decide +kernel
theorem dX6_setValue_48 : decode cX6_setValue 48 = .ok (.putfield 46, 3) := by decide +kernel
theorem dX6_setValue_51 : decode cX6_setValue 51 = .ok (.iload_n 3, 1) := by decide +kernel
theorem dX6_setValue_52 : decode cX6_setValue 52 = .ok (.ireturn, 1) := by decide +kernel
theorem dX6_setValue_53 : decode cX6_setValue 53 = .ok (.iload_n 1, 1) := by decide +kernel
theorem dX6_setValue_54 : decode cX6_setValue 54 = .ok (.iconst 2, 1) := by decide +kernel
theorem dX6_setValue_55 : decode cX6_setValue 55 = .ok (.if_icmp .ne 25, 3) := by decide +kernel
theorem dX6_setValue_58 : decode cX6_setValue 58 = .ok (.iload_n 2, 1) := by decide +kernel
theorem dX6_setValue_59 : decode cX6_setValue 59 = .ok (.iconst 1, 1) := by decide +kernel
theorem dX6_setValue_60 : decode cX6_setValue 60 = .ok (.bipush 8, 2) := by decide +kernel
theorem dX6_setValue_62 : decode cX6_setValue 62 = .ok (.invokestatic 56, 3) := by decide +kernel
theorem dX6_setValue_65 : decode cX6_setValue 65 = .ok (.ifCond .eq 15, 3) := by decide +kernel
theorem dX6_setValue_68 : decode cX6_setValue 68 = .ok (.aload_n 0, 1) := by decide +kernel
theorem dX6_setValue_69 : decode cX6_setValue 69 = .ok (.getfield 32, 3) := by decide +kernel
theorem dX6_setValue_72 : decode cX6_setValue 72 = .ok (.istore_n 3, 1) := by decide +kernel
theorem dX6_setValue_73 : decode cX6_setValue 73 = .ok (.aload_n 0, 1) := by decide +kernel
theorem dX6_setValue_74 : decode cX6_setValue 74 = .ok (.iload_n 2, 1) := by decide +kernel
theorem dX6_setValue_75 : decode cX6_setValue 75 = .ok (.putfield 32, 3) := by decide +kernel
theorem dX6_setValue_78 : decode cX6_setValue 78 = .ok (.iload_n 3, 1) := by decide +kernel
theorem dX6_setValue_79 : decode cX6_setValue 79 = .ok (.ireturn, 1) := by decide +kernel
theorem dX6_setValue_80 : decode cX6_setValue 80 = .ok (.iload_n 1, 1) := by decide +kernel
theorem dX6_setValue_81 : decode cX6_setValue 81 = .ok (.iconst 3, 1) := by decide +kernel
theorem dX6_setValue_82 : decode cX6_setValue 82 = .ok (.if_icmp .ne 22, 3) := by decide +kernel
theorem dX6_setValue_85 : decode cX6_setValue 85 = .ok (.iload_n 2, 1) := by decide +kernel
theorem dX6_setValue_86 : decode cX6_setValue 86 = .ok (.invokestatic 110, 3) := by decide +kernel
theorem dX6_setValue_89 : decode cX6_setValue 89 = .ok (.ifCond .eq 15, 3) := by decide +kernel
theorem dX6_setValue_92 : decode cX6_setValue 92 = .ok (.aload_n 0, 1) := by decide +kernel
theorem dX6_setValue_93 : decode cX6_setValue 93 = .ok (.getfield 49, 3) := by decide +kernel
theorem dX6_setValue_96 : decode cX6_setValue 96 = .ok (.istore_n 3, 1) := by decide +kernel
theorem dX6_setValue_97 : decode cX6_setValue 97 = .ok (.aload_n 0, 1) := by decide +kernel
theorem dX6_setValue_98 : decode cX6_setValue 98 = .ok (.iload_n 2, 1) := by decide +kernel
theorem dX6_setValue_99 : decode cX6_setValue 99 = .ok (.putfield 49, 3) := by decide +kernel
theorem dX6_setValue_102 : decode cX6_setValue 102 = .ok (.iload_n 3, 1) := by decide +kernel
theorem dX6_setValue_103 : decode cX6_setValue 103 = .ok (.ireturn, 1) := by decide +kernel
theorem dX6_setValue_104 : decode cX6_setValue 104 = .ok (.bipush (-2), 2) := by decide +kernel
theorem dX6_setValue_106 : decode cX6_setValue 106 = .ok (.ireturn, 1) := by decide +kernel
set_option maxHeartbeats 4000000 in
set_option maxRecDepth 100000 in
theorem c_X6_setValue {E : u_E} {l : Launch} {o : u_O} {p1 : Int} {p2 : Int} (ho : is_Plan o) (i_p1 : InR p1) (i_p2 : InR p2) {s s' : u_S} {r : Int} (h : f_X6_setValue o p1 p2 s = some (r, s')) : Con l (XE E) yX6_setValue cX6_setValue 4 (some .int) 2 42 0 0 [.ref (E.1 o), .int (J p1), .int (J p2)] (Wd E s) (RI E r s') := by
  refine Con.of [some (.ref (E.1 o)), some (.int (J p1)), some (.int (J p2)), none] (by decide +kernel) rfl rfl (Nat.le_of_ble_eq_true rfl) (fun K g => ?_)
  have g0 := g.wk
  unfold f_X6_setValue at h
  refine r_iload_n g0 dX6_setValue_0 rfl ?_
  obtain ⟨jp_1, hdjp_1, h⟩ := jn_some h
  have hjp_1 : ∀  (s_1 : u_S), jp_1 s_1 = some (r, s') → K 0 0 26 [some (.ref (E.1 o)), some (.int (J p1)), some (.int (J p2)), none] [] (Wd E s_1) := by
    intro s_1 h
    subst hdjp_1
    refine r_iload_n g0 dX6_setValue_26 rfl ?_
    refine r_iconst g0 dX6_setValue_27 ?_
    obtain ⟨jp_2, hdjp_2, h⟩ := jn_some h
    have hjp_2 : ∀  (s_2 : u_S), jp_2 s_2 = some (r, s') → K 0 0 53 [some (.ref (E.1 o)), some (.int (J p1)), some (.int (J p2)), none] [] (Wd E s_2) := by
      intro s_2 h
      subst hdjp_2
      refine r_iload_n g0 dX6_setValue_53 rfl ?_
      refine r_iconst g0 dX6_setValue_54 ?_
      obtain ⟨jp_3, hdjp_3, h⟩ := jn_some h
      have hjp_3 : ∀  (s_3 : u_S), jp_3 s_3 = some (r, s') → K 0 0 80 [some (.ref (E.1 o)), some (.int (J p1)), some (.int (J p2)), none] [] (Wd E s_3) := by
        intro s_3 h
        subst hdjp_3
        refine r_iload_n g0 dX6_setValue_80 rfl ?_
        refine r_iconst g0 dX6_setValue_81 ?_
        refine r_icmp_ne g0 104 dX6_setValue_82 (by decide) i_p1 (InR_lit rfl) (fun hc => ?_) (fun hc => ?_)
        · replace h := if_f hc h
          refine r_bipush g0 dX6_setValue_104 rfl ?_
          exact z_I g dX6_setValue_106 (InR_lit rfl) h
        · replace h := if_t hc h
          refine r_iload_n g0 dX6_setValue_85 rfl ?_
          obtain ⟨r_1, s_4, hr_1, h⟩ := bd_some h
          refine r_cNZ g0 (rest := []) (c_X10_isKey i_p2 hr_1) ok_X10_isKey mX6_110 dX6_setValue_86 ⟨Nat.le_of_ble_eq_true rfl, Nat.le_of_ble_eq_true rfl⟩ ⟨Nat.zero_le _, Nat.zero_le _⟩ rfl (Nat.le_of_ble_eq_true rfl) rfl (fun i_r_1 => ?_)
          refine r_if_eq g0 104 dX6_setValue_89 (by decide) (B01.inR i_r_1) (fun hc => ?_) (fun hc => ?_)
          · replace h := if_t hc h
            refine r_bipush g0 dX6_setValue_104 rfl ?_
            exact z_I g dX6_setValue_106 (InR_lit rfl) h
          · replace h := if_f hc h
            refine r_aload_n g0 dX6_setValue_92 rfl ?_
            refine g_Plan_home g0 ho qX6_49 dX6_setValue_93 ?_
            refine r_istore_n g0 (lv' := [some (.ref (E.1 o)), some (.int (J p1)), some (.int (J p2)), some (.int (J (rd s_4 o 7)))]) dX6_setValue_96 (by decide) rfl rfl ?_
            refine r_aload_n g0 dX6_setValue_97 rfl ?_
            refine r_iload_n g0 dX6_setValue_98 rfl ?_
            refine p_Plan_home g0 ho qX6_49 dX6_setValue_99 ?_
            refine r_iload_n g0 dX6_setValue_102 rfl ?_
            exact z_I g dX6_setValue_103 (InR_rd _ _ _) h
      clear hdjp_3
      refine r_icmp_ne g0 80 dX6_setValue_55 (by decide) i_p1 (InR_lit rfl) (fun hc => ?_) (fun hc => ?_)
      · replace h := if_f hc h
        exact hjp_3 s_2 h
      · replace h := if_t hc h
        refine r_iload_n g0 dX6_setValue_58 rfl ?_
        refine r_iconst g0 dX6_setValue_59 ?_
        refine r_bipush g0 dX6_setValue_60 rfl ?_
        obtain ⟨r_2, s_5, hr_2, h⟩ := bd_some h
        refine r_cNZ g0 (rest := []) (c_X10_within i_p2 (B01.inR B01_1) (InR_lit rfl) hr_2) ok_X10_within mX6_56 dX6_setValue_62 ⟨Nat.le_of_ble_eq_true rfl, Nat.le_of_ble_eq_true rfl⟩ ⟨Nat.zero_le _, Nat.zero_le _⟩ rfl (Nat.le_of_ble_eq_true rfl) rfl (fun i_r_2 => ?_)
        refine r_if_eq g0 80 dX6_setValue_65 (by decide) (B01.inR i_r_2) (fun hc => ?_) (fun hc => ?_)
        · replace h := if_t hc h
          exact hjp_3 s_5 h
        · replace h := if_f hc h
          refine r_aload_n g0 dX6_setValue_68 rfl ?_
          refine g_Plan_meter g0 ho qX6_32 dX6_setValue_69 ?_
          refine r_istore_n g0 (lv' := [some (.ref (E.1 o)), some (.int (J p1)), some (.int (J p2)), some (.int (J (rd s_5 o 6)))]) dX6_setValue_72 (by decide) rfl rfl ?_
          refine r_aload_n g0 dX6_setValue_73 rfl ?_
          refine r_iload_n g0 dX6_setValue_74 rfl ?_
          refine p_Plan_meter g0 ho qX6_32 dX6_setValue_75 ?_
          refine r_iload_n g0 dX6_setValue_78 rfl ?_
          exact z_I g dX6_setValue_79 (InR_rd _ _ _) h
    clear hdjp_2
    refine r_icmp_ne g0 53 dX6_setValue_28 (by decide) i_p1 (B01.inR B01_1) (fun hc => ?_) (fun hc => ?_)
    · replace h := if_f hc h
      exact hjp_2 s_1 h
    · replace h := if_t hc h
      refine r_iload_n g0 dX6_setValue_31 rfl ?_
      refine r_iconst g0 dX6_setValue_32 ?_
      refine r_bipush g0 dX6_setValue_33 rfl ?_
      obtain ⟨r_3, s_6, hr_3, h⟩ := bd_some h
      refine r_cNZ g0 (rest := []) (c_X10_within i_p2 (B01.inR B01_0) (InR_lit rfl) hr_3) ok_X10_within mX6_56 dX6_setValue_35 ⟨Nat.le_of_ble_eq_true rfl, Nat.le_of_ble_eq_true rfl⟩ ⟨Nat.zero_le _, Nat.zero_le _⟩ rfl (Nat.le_of_ble_eq_true rfl) rfl (fun i_r_3 => ?_)
      refine r_if_eq g0 53 dX6_setValue_38 (by decide) (B01.inR i_r_3) (fun hc => ?_) (fun hc => ?_)
      · replace h := if_t hc h
        exact hjp_2 s_6 h
      · replace h := if_f hc h
        refine r_aload_n g0 dX6_setValue_41 rfl ?_
        refine g_Plan_tonic g0 ho qX6_46 dX6_setValue_42 ?_
        refine r_istore_n g0 (lv' := [some (.ref (E.1 o)), some (.int (J p1)), some (.int (J p2)), some (.int (J (rd s_6 o 5)))]) dX6_setValue_45 (by decide) rfl rfl ?_
        refine r_aload_n g0 dX6_setValue_46 rfl ?_
        refine r_iload_n g0 dX6_setValue_47 rfl ?_
        refine p_Plan_tonic g0 ho qX6_46 dX6_setValue_48 ?_
        refine r_iload_n g0 dX6_setValue_51 rfl ?_
        exact z_I g dX6_setValue_52 (InR_rd _ _ _) h
  clear hdjp_1
  refine r_if_ne g0 26 dX6_setValue_1 (by decide) i_p1 (fun hc => ?_) (fun hc => ?_)
  · replace h := if_f hc h
    exact hjp_1 s h
  · replace h := if_t hc h
    refine r_iload_n g0 dX6_setValue_4 rfl ?_
    refine r_iconst g0 dX6_setValue_5 ?_
    refine r_bipush g0 dX6_setValue_6 rfl ?_
    obtain ⟨r_4, s_7, hr_4, h⟩ := bd_some h
    refine r_cNZ g0 (rest := []) (c_X10_within i_p2 (B01.inR B01_0) (InR_lit rfl) hr_4) ok_X10_within mX6_56 dX6_setValue_8 ⟨Nat.le_of_ble_eq_true rfl, Nat.le_of_ble_eq_true rfl⟩ ⟨Nat.zero_le _, Nat.zero_le _⟩ rfl (Nat.le_of_ble_eq_true rfl) rfl (fun i_r_4 => ?_)
    refine r_if_eq g0 26 dX6_setValue_11 (by decide) (B01.inR i_r_4) (fun hc => ?_) (fun hc => ?_)
    · replace h := if_t hc h
      exact hjp_1 s_7 h
    · replace h := if_f hc h
      refine r_aload_n g0 dX6_setValue_14 rfl ?_
      refine g_Plan_head g0 ho qX6_28 dX6_setValue_15 ?_
      refine r_istore_n g0 (lv' := [some (.ref (E.1 o)), some (.int (J p1)), some (.int (J p2)), some (.int (J (rd s_7 o 4)))]) dX6_setValue_18 (by decide) rfl rfl ?_
      refine r_aload_n g0 dX6_setValue_19 rfl ?_
      refine r_iload_n g0 dX6_setValue_20 rfl ?_
      refine p_Plan_head g0 ho qX6_28 dX6_setValue_21 ?_
      refine r_iload_n g0 dX6_setValue_24 rfl ?_
      exact z_I g dX6_setValue_25 (InR_rd _ _ _) h
theorem dX10_isFormed_0 : decode cX10_isFormed 0 = .ok (.iload_n 0, 1) := by decide +kernel
theorem dX10_isFormed_1 : decode cX10_isFormed 1 = .ok (.invokestatic 100, 3) := by decide +kernel
theorem dX10_isFormed_4 : decode cX10_isFormed 4 = .ok (.ifCond .eq 27, 3) := by decide +kernel
theorem dX10_isFormed_7 : decode cX10_isFormed 7 = .ok (.iload_n 1, 1) := by decide +kernel
theorem dX10_isFormed_8 : decode cX10_isFormed 8 = .ok (.iconst 0, 1) := by decide +kernel
theorem dX10_isFormed_9 : decode cX10_isFormed 9 = .ok (.iconst 4, 1) := by decide +kernel
theorem dX10_isFormed_10 : decode cX10_isFormed 10 = .ok (.invokestatic 113, 3) := by decide +kernel
theorem dX10_isFormed_13 : decode cX10_isFormed 13 = .ok (.ifCond .eq 18, 3) := by decide +kernel
theorem dX10_isFormed_16 : decode cX10_isFormed 16 = .ok (.iload_n 2, 1) := by decide +kernel
theorem dX10_isFormed_17 : decode cX10_isFormed 17 = .ok (.bipush (-21), 2) := by decide +kernel
theorem dX10_isFormed_19 : decode cX10_isFormed 19 = .ok (.bipush 21, 2) := by decide +kernel
theorem dX10_isFormed_21 : decode cX10_isFormed 21 = .ok (.invokestatic 113, 3) := by decide +kernel
theorem dX10_isFormed_24 : decode cX10_isFormed 24 = .ok (.ifCond .eq 7, 3) := by decide +kernel
theorem dX10_isFormed_27 : decode cX10_isFormed 27 = .ok (.iconst 1, 1) := by decide +kernel
theorem dX10_isFormed_28 : decode cX10_isFormed 28 = .ok (.goto 4, 3) := by decide +kernel
theorem dX10_isFormed_31 : decode cX10_isFormed 31 = .ok (.iconst 0, 1) := by decide +kernel
theorem dX10_isFormed_32 : decode cX10_isFormed 32 = .ok (.ireturn, 1) := by decide +kernel
set_option maxHeartbeats 4000000 in
set_option maxRecDepth 100000 in
theorem c_X10_isFormed {E : u_E} {l : Launch} {p1 : Int} {p2 : Int} {p3 : Int} (i_p1 : InR p1) (i_p2 : InR p2) (i_p3 : InR p3) {s s' : u_S} {r : Int} (h : f_X10_isFormed p1 p2 p3 s = some (r, s')) : Con l (XE E) yX10_isFormed cX10_isFormed 3 (some .boolean) 2 42 0 0 [.int (J p1), .int (J p2), .int (J p3)] (Wd E s) (RZ E r s') := by
  refine Con.of [some (.int (J p1)), some (.int (J p2)), some (.int (J p3))] (by decide +kernel) rfl rfl (Nat.le_of_ble_eq_true rfl) (fun K g => ?_)
  have g0 := g.wk
  unfold f_X10_isFormed at h
  refine r_iload_n g0 dX10_isFormed_0 rfl ?_
  obtain ⟨r_1, s_1, hr_1, h⟩ := bd_some h
  refine r_cSZ g0 (rest := []) (c_X10_isLine i_p1 hr_1) ok_X10_isLine mX10_100 dX10_isFormed_1 ⟨Nat.le_of_ble_eq_true rfl, Nat.le_of_ble_eq_true rfl⟩ ⟨Nat.zero_le _, Nat.zero_le _⟩ rfl (Nat.le_of_ble_eq_true rfl) rfl (fun i_r_1 => ?_)
  refine r_if_eq g0 31 dX10_isFormed_4 (by decide) (B01.inR i_r_1) (fun hc => ?_) (fun hc => ?_)
  · replace h := if_t hc h
    refine r_iconst g0 dX10_isFormed_31 ?_
    exact z_Z g dX10_isFormed_32 B01_0 h
  · replace h := if_f hc h
    refine r_iload_n g0 dX10_isFormed_7 rfl ?_
    refine r_iconst g0 dX10_isFormed_8 ?_
    refine r_iconst g0 dX10_isFormed_9 ?_
    obtain ⟨r_2, s_2, hr_2, h⟩ := bd_some h
    refine r_cSZ g0 (rest := []) (c_X10_within i_p2 (B01.inR B01_0) (InR_lit rfl) hr_2) ok_X10_within mX10_113 dX10_isFormed_10 ⟨Nat.le_of_ble_eq_true rfl, Nat.le_of_ble_eq_true rfl⟩ ⟨Nat.zero_le _, Nat.zero_le _⟩ rfl (Nat.le_of_ble_eq_true rfl) rfl (fun i_r_2 => ?_)
    refine r_if_eq g0 31 dX10_isFormed_13 (by decide) (B01.inR i_r_2) (fun hc => ?_) (fun hc => ?_)
    · replace h := if_t hc h
      refine r_iconst g0 dX10_isFormed_31 ?_
      exact z_Z g dX10_isFormed_32 B01_0 h
    · replace h := if_f hc h
      refine r_iload_n g0 dX10_isFormed_16 rfl ?_
      refine r_bipush g0 dX10_isFormed_17 rfl ?_
      refine r_bipush g0 dX10_isFormed_19 rfl ?_
      obtain ⟨r_3, s_3, hr_3, h⟩ := bd_some h
      refine r_cSZ g0 (rest := []) (c_X10_within i_p3 (InR_lit rfl) (InR_lit rfl) hr_3) ok_X10_within mX10_113 dX10_isFormed_21 ⟨Nat.le_of_ble_eq_true rfl, Nat.le_of_ble_eq_true rfl⟩ ⟨Nat.zero_le _, Nat.zero_le _⟩ rfl (Nat.le_of_ble_eq_true rfl) rfl (fun i_r_3 => ?_)
      refine r_if_eq g0 31 dX10_isFormed_24 (by decide) (B01.inR i_r_3) (fun hc => ?_) (fun hc => ?_)
      · replace h := if_t hc h
        refine r_iconst g0 dX10_isFormed_31 ?_
        exact z_Z g dX10_isFormed_32 B01_0 h
      · replace h := if_f hc h
        refine r_iconst g0 dX10_isFormed_27 ?_
        refine r_goto g0 32 dX10_isFormed_28 (by decide) ?_
        exact z_Z g dX10_isFormed_32 B01_1 h
theorem dX6_lengthOf_0 : decode cX6_lengthOf 0 = .ok (.iload_n 1, 1) := by decide +kernel
theorem dX6_lengthOf_1 : decode cX6_lengthOf 1 = .ok (.invokestatic 52, 3) := by decide +kernel
theorem dX6_lengthOf_4 : decode cX6_lengthOf 4 = .ok (.ifCond .ne 5, 3) := by decide +kernel
theorem dX6_lengthOf_7 : decode cX6_lengthOf 7 = .ok (.iconst 0, 1) := by decide +kernel
theorem dX6_lengthOf_8 : decode cX6_lengthOf 8 = .ok (.ireturn, 1) := by decide +kernel
theorem dX6_lengthOf_9 : decode cX6_lengthOf 9 = .ok (.iload_n 2, 1) := by decide +kernel
theorem dX6_lengthOf_10 : decode cX6_lengthOf 10 = .ok (.iconst 4, 1) := by decide +kernel
theorem dX6_lengthOf_11 : decode cX6_lengthOf 11 = .ok (.if_icmp .ne 17, 3) := by decide +kernel
theorem dX6_lengthOf_14 : decode cX6_lengthOf 14 = .ok (.iconst 2, 1) := by decide +kernel
theorem dX6_lengthOf_15 : decode cX6_lengthOf 15 = .ok (.aload_n 0, 1) := by decide +kernel
theorem dX6_lengthOf_16 : decode cX6_lengthOf 16 = .ok (.getfield 11, 3) := by decide +kernel
theorem dX6_lengthOf_19 : decode cX6_lengthOf 19 = .ok (.iload_n 1, 1) := by decide +kernel
theorem dX6_lengthOf_20 : decode cX6_lengthOf 20 = .ok (.aaload, 1) := by decide +kernel
theorem dX6_lengthOf_21 : decode cX6_lengthOf 21 = .ok (.invokevirtual 106, 3) := by decide +kernel
theorem dX6_lengthOf_24 : decode cX6_lengthOf 24 = .ok (.imul, 1) := by decide +kernel
theorem dX6_lengthOf_25 : decode cX6_lengthOf 25 = .ok (.goto 12, 3) := by decide +kernel
theorem dX6_lengthOf_28 : decode cX6_lengthOf 28 = .ok (.aload_n 0, 1) := by decide +kernel
theorem dX6_lengthOf_29 : decode cX6_lengthOf 29 = .ok (.getfield 11, 3) := by decide +kernel
theorem dX6_lengthOf_32 : decode cX6_lengthOf 32 = .ok (.iload_n 1, 1) := by decide +kernel
theorem dX6_lengthOf_33 : decode cX6_lengthOf 33 = .ok (.aaload, 1) := by decide +kernel
theorem dX6_lengthOf_34 : decode cX6_lengthOf 34 = .ok (.invokevirtual 106, 3) := by decide +kernel
theorem dX6_lengthOf_37 : decode cX6_lengthOf 37 = .ok (.ireturn, 1) := by decide +kernel
set_option maxHeartbeats 4000000 in
set_option maxRecDepth 100000 in
theorem c_X6_lengthOf {E : u_E} {l : Launch} {o : u_O} {p1 : Int} {p2 : Int} (ho : is_Plan o) (i_p1 : InR p1) (i_p2 : InR p2) {s s' : u_S} {r : Int} (h : f_X6_lengthOf o p1 p2 s = some (r, s')) : Con l (XE E) yX6_lengthOf cX6_lengthOf 3 (some .int) 2 43 0 0 [.ref (E.1 o), .int (J p1), .int (J p2)] (Wd E s) (RI E r s') := by
  refine Con.of [some (.ref (E.1 o)), some (.int (J p1)), some (.int (J p2))] (by decide +kernel) rfl rfl (Nat.le_of_ble_eq_true rfl) (fun K g => ?_)
  have g0 := g.wk
  unfold f_X6_lengthOf at h
  refine r_iload_n g0 dX6_lengthOf_0 rfl ?_
  obtain ⟨r_1, s_1, hr_1, h⟩ := bd_some h
  refine r_cNZ g0 (rest := []) (c_X10_isLine i_p1 hr_1) ok_X10_isLine mX6_52 dX6_lengthOf_1 ⟨Nat.le_of_ble_eq_true rfl, Nat.le_of_ble_eq_true rfl⟩ ⟨Nat.zero_le _, Nat.zero_le _⟩ rfl (Nat.le_of_ble_eq_true rfl) rfl (fun i_r_1 => ?_)
  refine r_if_ne g0 9 dX6_lengthOf_4 (by decide) (B01.inR i_r_1) (fun hc => ?_) (fun hc => ?_)
  · replace h := if_f hc h
    refine r_iload_n g0 dX6_lengthOf_9 rfl ?_
    refine r_iconst g0 dX6_lengthOf_10 ?_
    refine r_icmp_ne g0 28 dX6_lengthOf_11 (by decide) i_p2 (InR_lit rfl) (fun hc => ?_) (fun hc => ?_)
    · replace h := if_f hc h
      refine r_aload_n g0 dX6_lengthOf_28 rfl ?_
      refine g_Plan_lines g0 ho qX6_11 dX6_lengthOf_29 ?_
      refine r_iload_n g0 dX6_lengthOf_32 rfl ?_
      obtain ⟨hb, h⟩ := gd_some h
      refine r_aald_Line g0 (is_a_Plan_lines ho) i_p1 hb dX6_lengthOf_33 ?_
      obtain ⟨r_2, s_2, hr_2, h⟩ := bd_some h
      refine r_cVI g0 (rest := []) (c_X5_length (is_e_Line (is_a_Plan_lines ho) hb) hr_2) ok_X5_length mX6_106 (recv_Line (is_e_Line (is_a_Plan_lines ho) hb)) dX6_lengthOf_34 ⟨Nat.le_of_ble_eq_true rfl, Nat.le_of_ble_eq_true rfl⟩ ⟨Nat.zero_le _, Nat.zero_le _⟩ rfl (Nat.le_of_ble_eq_true rfl) rfl (fun i_r_2 => ?_)
      exact z_I g dX6_lengthOf_37 i_r_2 h
    · replace h := if_t hc h
      refine r_iconst g0 dX6_lengthOf_14 ?_
      refine r_aload_n g0 dX6_lengthOf_15 rfl ?_
      refine g_Plan_lines g0 ho qX6_11 dX6_lengthOf_16 ?_
      refine r_iload_n g0 dX6_lengthOf_19 rfl ?_
      obtain ⟨hb_2, h⟩ := gd_some h
      refine r_aald_Line g0 (is_a_Plan_lines ho) i_p1 hb_2 dX6_lengthOf_20 ?_
      obtain ⟨r_3, s_3, hr_3, h⟩ := bd_some h
      refine r_cVI g0 (rest := [.int (J 2)]) (c_X5_length (is_e_Line (is_a_Plan_lines ho) hb_2) hr_3) ok_X5_length mX6_106 (recv_Line (is_e_Line (is_a_Plan_lines ho) hb_2)) dX6_lengthOf_21 ⟨Nat.le_of_ble_eq_true rfl, Nat.le_of_ble_eq_true rfl⟩ ⟨Nat.zero_le _, Nat.zero_le _⟩ rfl (Nat.le_of_ble_eq_true rfl) rfl (fun i_r_3 => ?_)
      refine r_imul g0 dX6_lengthOf_24 ?_
      refine r_goto g0 37 dX6_lengthOf_25 (by decide) ?_
      exact z_I g dX6_lengthOf_37 (InR_wr _) h
  · replace h := if_t hc h
    refine r_iconst g0 dX6_lengthOf_7 ?_
    exact z_I g dX6_lengthOf_8 (B01.inR B01_0) h
theorem dX6_isFree_0 : decode cX6_isFree 0 = .ok (.iconst 0, 1) := by decide +kernel
theorem dX6_isFree_1 : decode cX6_isFree 1 = .ok (.istore 4, 2) := by decide +kernel
theorem dX6_isFree_3 : decode cX6_isFree 3 = .ok (.iload 4, 2) := by decide +kernel
theorem dX6_isFree_5 : decode cX6_isFree 5 = .ok (.aload_n 0, 1) := by decide +kernel
theorem dX6_isFree_6 : decode cX6_isFree 6 = .ok (.getfield 20, 3) := by decide +kernel
theorem dX6_isFree_9 : decode cX6_isFree 9 = .ok (.getfield 129, 3) := by decide +kernel
theorem dX6_isFree_12 : decode cX6_isFree 12 = .ok (.if_icmp .ge 69, 3) := by decide +kernel
theorem dX6_isFree_15 : decode cX6_isFree 15 = .ok (.aload_n 0, 1) := by decide +kernel
theorem dX6_isFree_16 : decode cX6_isFree 16 = .ok (.getfield 20, 3) := by decide +kernel
theorem dX6_isFree_19 : decode cX6_isFree 19 = .ok (.getfield 135, 3) := by decide +kernel
theorem dX6_isFree_22 : decode cX6_isFree 22 = .ok (.iload 4, 2) := by decide +kernel
theorem dX6_isFree_24 : decode cX6_isFree 24 = .ok (.aaload, 1) := by decide +kernel
theorem dX6_isFree_25 : decode cX6_isFree 25 = .ok (.astore 5, 2) := by decide +kernel
theorem dX6_isFree_27 : decode cX6_isFree 27 = .ok (.aload 5, 2) := by decide +kernel
theorem dX6_isFree_29 : decode cX6_isFree 29 = .ok (.getfield 139, 3) := by decide +kernel
theorem dX6_isFree_32 : decode cX6_isFree 32 = .ok (.aload_n 0, 1) := by decide +kernel
theorem dX6_isFree_33 : decode cX6_isFree 33 = .ok (.aload 5, 2) := by decide +kernel
theorem dX6_isFree_35 : decode cX6_isFree 35 = .ok (.getfield 144, 3) := by decide +kernel
theorem dX6_isFree_38 : decode cX6_isFree 38 = .ok (.aload 5, 2) := by decide +kernel
theorem dX6_isFree_40 : decode cX6_isFree 40 = .ok (.getfield 147, 3) := by decide +kernel
theorem dX6_isFree_43 : decode cX6_isFree 43 = .ok (.invokevirtual 119, 3) := by decide +kernel
theorem dX6_isFree_46 : decode cX6_isFree 46 = .ok (.iadd, 1) := by decide +kernel
theorem dX6_isFree_47 : decode cX6_isFree 47 = .ok (.istore 6, 2) := by decide +kernel
theorem dX6_isFree_49 : decode cX6_isFree 49 = .ok (.aload 5, 2) := by decide +kernel
theorem dX6_isFree_51 : decode cX6_isFree 51 = .ok (.getfield 150, 3) := by decide +kernel
theorem dX6_isFree_54 : decode cX6_isFree 54 = .ok (.iload_n 1, 1) := by decide +kernel
theorem dX6_isFree_55 : decode cX6_isFree 55 = .ok (.if_icmp .ne 20, 3) := by decide +kernel
theorem dX6_isFree_58 : decode cX6_isFree 58 = .ok (.iload_n 2, 1) := by decide +kernel
theorem dX6_isFree_59 : decode cX6_isFree 59 = .ok (.iload 6, 2) := by decide +kernel
theorem dX6_isFree_61 : decode cX6_isFree 61 = .ok (.if_icmp .ge 14, 3) := by decide +kernel
theorem dX6_isFree_64 : decode cX6_isFree 64 = .ok (.aload 5, 2) := by decide +kernel
theorem dX6_isFree_66 : decode cX6_isFree 66 = .ok (.getfield 139, 3) := by decide +kernel
theorem dX6_isFree_69 : decode cX6_isFree 69 = .ok (.iload_n 3, 1) := by decide +kernel
theorem dX6_isFree_70 : decode cX6_isFree 70 = .ok (.if_icmp .ge 5, 3) := by decide +kernel
theorem dX6_isFree_73 : decode cX6_isFree 73 = .ok (.iconst 0, 1) := by decide +kernel
theorem dX6_isFree_74 : decode cX6_isFree 74 = .ok (.ireturn, 1) := by decide +kernel
theorem dX6_isFree_75 : decode cX6_isFree 75 = .ok (.iinc 4 1, 3) := by decide +kernel
theorem dX6_isFree_78 : decode cX6_isFree 78 = .ok (.goto (-75), 3) := by decide +kernel
theorem dX6_isFree_81 : decode cX6_isFree 81 = .ok (.iconst 1, 1) := by decide +kernel
theorem dX6_isFree_82 : decode cX6_isFree 82 = .ok (.ireturn, 1) := by decide +kernel
set_option maxHeartbeats 4000000 in
set_option maxRecDepth 100000 in
theorem t_X6_isFree_L3 {l : Launch} {E : u_E} {K : u_K} {r : Int} {s' : u_S} (g : Wk l (XE E) { frames := 3, cells := 0, slots := 0, locals := 65 } cX6_isFree 7 yX6_isFree.cls yX6_isFree.name (some .boolean) (RZ E r s') K) {v0_1 : u_O} {v1_1 : Int} {v2_1 : Int} {v3_1 : Int} (i_v0_1 : is_Plan v0_1) (i_v1_1 : InR v1_1) (i_v2_1 : InR v2_1) (i_v3_1 : InR v3_1) {kx81 : u_S → Option (Int × u_S)} (hkx81 : ∀ (s_5 : u_S), kx81 s_5 = some (r, s') → K 0 0 81 [none, none, none, none, none, none, none] [] (Wd E s_5)) : ∀ (m : Nat) (v4_1 : Int) (s_2 : u_S), InR v4_1 → f_X6_isFree_L3 m kx81 v0_1 v1_1 v2_1 v3_1 v4_1 s_2 = some (r, s') → K 0 0 3 [some (.ref (E.1 v0_1)), some (.int (J v1_1)), some (.int (J v2_1)), some (.int (J v3_1)), some (.int (J v4_1)), none, none] [] (Wd E s_2) := by
  have g0 := g.wk
  intro m
  induction m with
  | zero =>
    intro v4_1 s_2 i_v4_1 h
    exact absurd (show (none : Option (Int × u_S)) = some (r, s') from h) (by intro z; cases z)
  | succ m ih =>
    intro v4_1 s_2 i_v4_1 h
    rw [f_X6_isFree_L3] at h
    refine r_iload g0 dX6_isFree_3 rfl ?_
    refine r_aload_n g0 dX6_isFree_5 rfl ?_
    refine g_Plan_entries g0 i_v0_1 qX6_20 dX6_isFree_6 ?_
    refine g_Entries_count g0 (is_a_Plan_entries i_v0_1) qX6_129 dX6_isFree_9 ?_
    refine r_icmp_ge g0 81 dX6_isFree_12 (by decide) i_v4_1 (InR_rd _ _ _) (fun hc => ?_) (fun hc => ?_)
    · replace h := if_f hc h
      refine r_mask g0 (lv' := [none, none, none, none, none, none, none]) [false, false, false, false, false, false, false] rfl ?_
      exact hkx81 s_2 h
    · replace h := if_t hc h
      refine r_aload_n g0 dX6_isFree_15 rfl ?_
      refine g_Plan_entries g0 i_v0_1 qX6_20 dX6_isFree_16 ?_
      refine g_Entries_items g0 (is_a_Plan_entries i_v0_1) qX6_135 dX6_isFree_19 ?_
      refine r_iload g0 dX6_isFree_22 rfl ?_
      obtain ⟨hb, h⟩ := gd_some h
      refine r_aald_Entry g0 (is_a_Entries_items (is_a_Plan_entries i_v0_1)) i_v4_1 hb dX6_isFree_24 ?_
      refine r_astore g0 (lv' := [some (.ref (E.1 v0_1)), some (.int (J v1_1)), some (.int (J v2_1)), some (.int (J v3_1)), some (.int (J v4_1)), some (.ref (E.1 (e_Entry (a_Entries_items (a_Plan_entries v0_1)) v4_1))), none]) dX6_isFree_25 (by decide) rfl rfl ?_
      refine r_aload g0 dX6_isFree_27 rfl ?_
      refine g_Entry_start g0 (is_e_Entry (is_a_Entries_items (is_a_Plan_entries i_v0_1)) hb) qX6_139 dX6_isFree_29 ?_
      refine r_aload_n g0 dX6_isFree_32 rfl ?_
      refine r_aload g0 dX6_isFree_33 rfl ?_
      refine g_Entry_line g0 (is_e_Entry (is_a_Entries_items (is_a_Plan_entries i_v0_1)) hb) qX6_144 dX6_isFree_35 ?_
      refine r_aload g0 dX6_isFree_38 rfl ?_
      refine g_Entry_form g0 (is_e_Entry (is_a_Entries_items (is_a_Plan_entries i_v0_1)) hb) qX6_147 dX6_isFree_40 ?_
      obtain ⟨r_1, s_3, hr_1, h⟩ := bd_some h
      refine r_cVI g0 (rest := [.int (J (rd s_2 (e_Entry (a_Entries_items (a_Plan_entries v0_1)) v4_1) 3))]) (c_X6_lengthOf i_v0_1 (InR_rd _ _ _) (InR_rd _ _ _) hr_1) ok_X6_lengthOf mX6_119 (recv_Plan i_v0_1) dX6_isFree_43 ⟨Nat.le_of_ble_eq_true rfl, Nat.le_of_ble_eq_true rfl⟩ ⟨Nat.zero_le _, Nat.zero_le _⟩ rfl (Nat.le_of_ble_eq_true rfl) rfl (fun i_r_1 => ?_)
      refine r_iadd g0 dX6_isFree_46 ?_
      refine r_istore g0 (lv' := [some (.ref (E.1 v0_1)), some (.int (J v1_1)), some (.int (J v2_1)), some (.int (J v3_1)), some (.int (J v4_1)), some (.ref (E.1 (e_Entry (a_Entries_items (a_Plan_entries v0_1)) v4_1))), some (.int (J (wr ((rd s_2 (e_Entry (a_Entries_items (a_Plan_entries v0_1)) v4_1) 3) + r_1))))]) dX6_isFree_47 (by decide) rfl rfl ?_
      refine r_aload g0 dX6_isFree_49 rfl ?_
      refine g_Entry_voice g0 (is_e_Entry (is_a_Entries_items (is_a_Plan_entries i_v0_1)) hb) qX6_150 dX6_isFree_51 ?_
      refine r_iload_n g0 dX6_isFree_54 rfl ?_
      obtain ⟨jp_1, hdjp_1, h⟩ := jn_some h
      have hjp_1 : ∀  (s_4 : u_S), jp_1 s_4 = some (r, s') → K 0 0 75 [some (.ref (E.1 v0_1)), some (.int (J v1_1)), some (.int (J v2_1)), some (.int (J v3_1)), some (.int (J v4_1)), none, none] [] (Wd E s_4) := by
        intro s_4 h
        subst hdjp_1
        refine r_iinc g0 (a := v4_1) (lv' := [some (.ref (E.1 v0_1)), some (.int (J v1_1)), some (.int (J v2_1)), some (.int (J v3_1)), some (.int (J (wr (v4_1 + 1)))), none, none]) dX6_isFree_75 (by decide) rfl rfl rfl ?_
        refine r_goto g0 3 dX6_isFree_78 (by decide) ?_
        exact ih (wr (v4_1 + 1)) s_4 (InR_wr _) h
      clear hdjp_1
      refine r_icmp_ne g0 75 dX6_isFree_55 (by decide) (InR_rd _ _ _) i_v1_1 (fun hc => ?_) (fun hc => ?_)
      · replace h := if_f hc h
        refine r_mask g0 (lv' := [some (.ref (E.1 v0_1)), some (.int (J v1_1)), some (.int (J v2_1)), some (.int (J v3_1)), some (.int (J v4_1)), none, none]) [true, true, true, true, true, false, false] rfl ?_
        exact hjp_1 s_3 h
      · replace h := if_t hc h
        refine r_iload_n g0 dX6_isFree_58 rfl ?_
        refine r_iload g0 dX6_isFree_59 rfl ?_
        refine r_icmp_ge g0 75 dX6_isFree_61 (by decide) i_v2_1 (InR_wr _) (fun hc => ?_) (fun hc => ?_)
        · replace h := if_f hc h
          refine r_mask g0 (lv' := [some (.ref (E.1 v0_1)), some (.int (J v1_1)), some (.int (J v2_1)), some (.int (J v3_1)), some (.int (J v4_1)), none, none]) [true, true, true, true, true, false, false] rfl ?_
          exact hjp_1 s_3 h
        · replace h := if_t hc h
          refine r_aload g0 dX6_isFree_64 rfl ?_
          refine g_Entry_start g0 (is_e_Entry (is_a_Entries_items (is_a_Plan_entries i_v0_1)) hb) qX6_139 dX6_isFree_66 ?_
          refine r_iload_n g0 dX6_isFree_69 rfl ?_
          refine r_icmp_ge g0 75 dX6_isFree_70 (by decide) (InR_rd _ _ _) i_v3_1 (fun hc => ?_) (fun hc => ?_)
          · replace h := if_f hc h
            refine r_mask g0 (lv' := [some (.ref (E.1 v0_1)), some (.int (J v1_1)), some (.int (J v2_1)), some (.int (J v3_1)), some (.int (J v4_1)), none, none]) [true, true, true, true, true, false, false] rfl ?_
            exact hjp_1 s_3 h
          · replace h := if_t hc h
            refine r_iconst g0 dX6_isFree_73 ?_
            exact z_Z g dX6_isFree_74 B01_0 h
set_option maxHeartbeats 4000000 in
set_option maxRecDepth 100000 in
theorem c_X6_isFree {E : u_E} {l : Launch} {o : u_O} {p1 : Int} {p2 : Int} {p3 : Int} (ho : is_Plan o) (i_p1 : InR p1) (i_p2 : InR p2) (i_p3 : InR p3) {s s' : u_S} {r : Int} (h : f_X6_isFree o p1 p2 p3 s = some (r, s')) : Con l (XE E) yX6_isFree cX6_isFree 7 (some .boolean) 3 65 0 0 [.ref (E.1 o), .int (J p1), .int (J p2), .int (J p3)] (Wd E s) (RZ E r s') := by
  refine Con.of [some (.ref (E.1 o)), some (.int (J p1)), some (.int (J p2)), some (.int (J p3)), none, none, none] (by decide +kernel) rfl rfl (Nat.le_of_ble_eq_true rfl) (fun K g => ?_)
  have g0 := g.wk
  unfold f_X6_isFree at h
  refine r_iconst g0 dX6_isFree_0 ?_
  refine r_istore g0 (lv' := [some (.ref (E.1 o)), some (.int (J p1)), some (.int (J p2)), some (.int (J p3)), some (.int (J 0)), none, none]) dX6_isFree_1 (by decide) rfl rfl ?_
  refine t_X6_isFree_L3 g ho i_p1 i_p2 i_p3 ?_ FU 0 s (B01.inR B01_0) h
  · intro s_1 h
    refine r_iconst g0 dX6_isFree_81 ?_
    exact z_Z g dX6_isFree_82 B01_1 h
theorem dX6_addEntry_0 : decode cX6_addEntry 0 = .ok (.iload_n 1, 1) := by decide +kernel
theorem dX6_addEntry_1 : decode cX6_addEntry 1 = .ok (.iload_n 2, 1) := by decide +kernel
theorem dX6_addEntry_2 : decode cX6_addEntry 2 = .ok (.iload_n 3, 1) := by decide +kernel
theorem dX6_addEntry_3 : decode cX6_addEntry 3 = .ok (.invokestatic 113, 3) := by decide +kernel
theorem dX6_addEntry_6 : decode cX6_addEntry 6 = .ok (.ifCond .eq 25, 3) := by decide +kernel
theorem dX6_addEntry_9 : decode cX6_addEntry 9 = .ok (.iload 4, 2) := by decide +kernel
theorem dX6_addEntry_11 : decode cX6_addEntry 11 = .ok (.iconst 0, 1) := by decide +kernel
theorem dX6_addEntry_12 : decode cX6_addEntry 12 = .ok (.sipush 199, 3) := by decide +kernel
theorem dX6_addEntry_15 : decode cX6_addEntry 15 = .ok (.invokestatic 56, 3) := by decide +kernel
theorem dX6_addEntry_18 : decode cX6_addEntry 18 = .ok (.ifCond .eq 13, 3) := by decide +kernel
theorem dX6_addEntry_21 : decode cX6_addEntry 21 = .ok (.iload 5, 2) := by decide +kernel
theorem dX6_addEntry_23 : decode cX6_addEntry 23 = .ok (.iconst 0, 1) := by decide +kernel
theorem dX6_addEntry_24 : decode cX6_addEntry 24 = .ok (.iconst 3, 1) := by decide +kernel
theorem dX6_addEntry_25 : decode cX6_addEntry 25 = .ok (.invokestatic 56, 3) := by decide +kernel
theorem dX6_addEntry_28 : decode cX6_addEntry 28 = .ok (.ifCond .ne 6, 3) := by decide +kernel
theorem dX6_addEntry_31 : decode cX6_addEntry 31 = .ok (.bipush (-2), 2) := by decide +kernel
theorem dX6_addEntry_33 : decode cX6_addEntry 33 = .ok (.ireturn, 1) := by decide +kernel
theorem dX6_addEntry_34 : decode cX6_addEntry 34 = .ok (.aload_n 0, 1) := by decide +kernel
theorem dX6_addEntry_35 : decode cX6_addEntry 35 = .ok (.getfield 11, 3) := by decide +kernel
theorem dX6_addEntry_38 : decode cX6_addEntry 38 = .ok (.iload_n 1, 1) := by decide +kernel
theorem dX6_addEntry_39 : decode cX6_addEntry 39 = .ok (.aaload, 1) := by decide +kernel
theorem dX6_addEntry_40 : decode cX6_addEntry 40 = .ok (.invokevirtual 116, 3) := by decide +kernel
theorem dX6_addEntry_43 : decode cX6_addEntry 43 = .ok (.ifCond .ne 23, 3) := by decide +kernel
theorem dX6_addEntry_46 : decode cX6_addEntry 46 = .ok (.aload_n 0, 1) := by decide +kernel
theorem dX6_addEntry_47 : decode cX6_addEntry 47 = .ok (.iload 5, 2) := by decide +kernel
theorem dX6_addEntry_49 : decode cX6_addEntry 49 = .ok (.iload 4, 2) := by decide +kernel
theorem dX6_addEntry_51 : decode cX6_addEntry 51 = .ok (.iload 4, 2) := by decide +kernel
theorem dX6_addEntry_53 : decode cX6_addEntry 53 = .ok (.aload_n 0, 1) := by decide +kernel
theorem dX6_addEntry_54 : decode cX6_addEntry 54 = .ok (.iload_n 1, 1) := by decide +kernel
theorem dX6_addEntry_55 : decode cX6_addEntry 55 = .ok (.iload_n 2, 1) := by decide +kernel
theorem dX6_addEntry_56 : decode cX6_addEntry 56 = .ok (.invokevirtual 119, 3) := by decide +kernel
theorem dX6_addEntry_59 : decode cX6_addEntry 59 = .ok (.iadd, 1) := by decide +kernel
theorem dX6_addEntry_60 : decode cX6_addEntry 60 = .ok (.invokevirtual 122, 3) := by decide +kernel
theorem dX6_addEntry_63 : decode cX6_addEntry 63 = .ok (.ifCond .ne 6, 3) := by decide +kernel
theorem dX6_addEntry_66 : decode cX6_addEntry 66 = .ok (.bipush (-3), 2) := by decide +kernel
theorem dX6_addEntry_68 : decode cX6_addEntry 68 = .ok (.ireturn, 1) := by decide +kernel
theorem dX6_addEntry_69 : decode cX6_addEntry 69 = .ok (.aload_n 0, 1) := by decide +kernel
theorem dX6_addEntry_70 : decode cX6_addEntry 70 = .ok (.getfield 20, 3) := by decide +kernel
theorem dX6_addEntry_73 : decode cX6_addEntry 73 = .ok (.invokevirtual 125, 3) := by decide +kernel
theorem dX6_addEntry_76 : decode cX6_addEntry 76 = .ok (.ifCond .eq 6, 3) := by decide +kernel
theorem dX6_addEntry_79 : decode cX6_addEntry 79 = .ok (.bipush (-4), 2) := by decide +kernel
theorem dX6_addEntry_81 : decode cX6_addEntry 81 = .ok (.ireturn, 1) := by decide +kernel
theorem dX6_addEntry_82 : decode cX6_addEntry 82 = .ok (.aload_n 0, 1) := by decide +kernel
theorem dX6_addEntry_83 : decode cX6_addEntry 83 = .ok (.getfield 20, 3) := by decide +kernel
theorem dX6_addEntry_86 : decode cX6_addEntry 86 = .ok (.iload_n 1, 1) := by decide +kernel
theorem dX6_addEntry_87 : decode cX6_addEntry 87 = .ok (.iload_n 2, 1) := by decide +kernel
theorem dX6_addEntry_88 : decode cX6_addEntry 88 = .ok (.iload_n 3, 1) := by decide +kernel
theorem dX6_addEntry_89 : decode cX6_addEntry 89 = .ok (.iload 4, 2) := by decide +kernel
theorem dX6_addEntry_91 : decode cX6_addEntry 91 = .ok (.iload 5, 2) := by decide +kernel
theorem dX6_addEntry_93 : decode cX6_addEntry 93 = .ok (.invokevirtual 126, 3) := by decide +kernel
theorem dX6_addEntry_96 : decode cX6_addEntry 96 = .ok (.aload_n 0, 1) := by decide +kernel
theorem dX6_addEntry_97 : decode cX6_addEntry 97 = .ok (.getfield 20, 3) := by decide +kernel
theorem dX6_addEntry_100 : decode cX6_addEntry 100 = .ok (.getfield 129, 3) := by decide +kernel
theorem dX6_addEntry_103 : decode cX6_addEntry 103 = .ok (.iconst 1, 1) := by decide +kernel
theorem dX6_addEntry_104 : decode cX6_addEntry 104 = .ok (.isub, 1) := by decide +kernel
theorem dX6_addEntry_105 : decode cX6_addEntry 105 = .ok (.ireturn, 1) := by decide +kernel
set_option maxHeartbeats 4000000 in
set_option maxRecDepth 100000 in
theorem c_X6_addEntry {E : u_E} {l : Launch} {o : u_O} {p1 : Int} {p2 : Int} {p3 : Int} {p4 : Int} {p5 : Int} (ho : is_Plan o) (i_p1 : InR p1) (i_p2 : InR p2) (i_p3 : InR p3) (i_p4 : InR p4) (i_p5 : InR p5) {s s' : u_S} {r : Int} (h : f_X6_addEntry o p1 p2 p3 p4 p5 s = some (r, s')) : Con l (XE E) yX6_addEntry cX6_addEntry 6 (some .int) 4 91 0 0 [.ref (E.1 o), .int (J p1), .int (J p2), .int (J p3), .int (J p4), .int (J p5)] (Wd E s) (RI E r s') := by
  refine Con.of [some (.ref (E.1 o)), some (.int (J p1)), some (.int (J p2)), some (.int (J p3)), some (.int (J p4)), some (.int (J p5))] (by decide +kernel) rfl rfl (Nat.le_of_ble_eq_true rfl) (fun K g => ?_)
  have g0 := g.wk
  unfold f_X6_addEntry at h
  refine r_iload_n g0 dX6_addEntry_0 rfl ?_
  refine r_iload_n g0 dX6_addEntry_1 rfl ?_
  refine r_iload_n g0 dX6_addEntry_2 rfl ?_
  obtain ⟨r_1, s_1, hr_1, h⟩ := bd_some h
  refine r_cNZ g0 (rest := []) (c_X10_isFormed i_p1 i_p2 i_p3 hr_1) ok_X10_isFormed mX6_113 dX6_addEntry_3 ⟨Nat.le_of_ble_eq_true rfl, Nat.le_of_ble_eq_true rfl⟩ ⟨Nat.zero_le _, Nat.zero_le _⟩ rfl (Nat.le_of_ble_eq_true rfl) rfl (fun i_r_1 => ?_)
  refine r_if_eq g0 31 dX6_addEntry_6 (by decide) (B01.inR i_r_1) (fun hc => ?_) (fun hc => ?_)
  · replace h := if_t hc h
    refine r_bipush g0 dX6_addEntry_31 rfl ?_
    exact z_I g dX6_addEntry_33 (InR_lit rfl) h
  · replace h := if_f hc h
    refine r_iload g0 dX6_addEntry_9 rfl ?_
    refine r_iconst g0 dX6_addEntry_11 ?_
    refine r_sipush g0 dX6_addEntry_12 rfl ?_
    obtain ⟨r_2, s_2, hr_2, h⟩ := bd_some h
    refine r_cNZ g0 (rest := []) (c_X10_within i_p4 (B01.inR B01_0) (InR_lit rfl) hr_2) ok_X10_within mX6_56 dX6_addEntry_15 ⟨Nat.le_of_ble_eq_true rfl, Nat.le_of_ble_eq_true rfl⟩ ⟨Nat.zero_le _, Nat.zero_le _⟩ rfl (Nat.le_of_ble_eq_true rfl) rfl (fun i_r_2 => ?_)
    refine r_if_eq g0 31 dX6_addEntry_18 (by decide) (B01.inR i_r_2) (fun hc => ?_) (fun hc => ?_)
    · replace h := if_t hc h
      refine r_bipush g0 dX6_addEntry_31 rfl ?_
      exact z_I g dX6_addEntry_33 (InR_lit rfl) h
    · replace h := if_f hc h
      refine r_iload g0 dX6_addEntry_21 rfl ?_
      refine r_iconst g0 dX6_addEntry_23 ?_
      refine r_iconst g0 dX6_addEntry_24 ?_
      obtain ⟨r_3, s_3, hr_3, h⟩ := bd_some h
      refine r_cNZ g0 (rest := []) (c_X10_within i_p5 (B01.inR B01_0) (InR_lit rfl) hr_3) ok_X10_within mX6_56 dX6_addEntry_25 ⟨Nat.le_of_ble_eq_true rfl, Nat.le_of_ble_eq_true rfl⟩ ⟨Nat.zero_le _, Nat.zero_le _⟩ rfl (Nat.le_of_ble_eq_true rfl) rfl (fun i_r_3 => ?_)
      refine r_if_ne g0 34 dX6_addEntry_28 (by decide) (B01.inR i_r_3) (fun hc => ?_) (fun hc => ?_)
      · replace h := if_f hc h
        refine r_aload_n g0 dX6_addEntry_34 rfl ?_
        refine g_Plan_lines g0 ho qX6_11 dX6_addEntry_35 ?_
        refine r_iload_n g0 dX6_addEntry_38 rfl ?_
        obtain ⟨hb, h⟩ := gd_some h
        refine r_aald_Line g0 (is_a_Plan_lines ho) i_p1 hb dX6_addEntry_39 ?_
        obtain ⟨r_4, s_4, hr_4, h⟩ := bd_some h
        refine r_cVZ g0 (rest := []) (c_X5_isEmpty (is_e_Line (is_a_Plan_lines ho) hb) hr_4) ok_X5_isEmpty mX6_116 (recv_Line (is_e_Line (is_a_Plan_lines ho) hb)) dX6_addEntry_40 ⟨Nat.le_of_ble_eq_true rfl, Nat.le_of_ble_eq_true rfl⟩ ⟨Nat.zero_le _, Nat.zero_le _⟩ rfl (Nat.le_of_ble_eq_true rfl) rfl (fun i_r_4 => ?_)
        refine r_if_ne g0 66 dX6_addEntry_43 (by decide) (B01.inR i_r_4) (fun hc => ?_) (fun hc => ?_)
        · replace h := if_f hc h
          refine r_bipush g0 dX6_addEntry_66 rfl ?_
          exact z_I g dX6_addEntry_68 (InR_lit rfl) h
        · replace h := if_t hc h
          refine r_aload_n g0 dX6_addEntry_46 rfl ?_
          refine r_iload g0 dX6_addEntry_47 rfl ?_
          refine r_iload g0 dX6_addEntry_49 rfl ?_
          refine r_iload g0 dX6_addEntry_51 rfl ?_
          refine r_aload_n g0 dX6_addEntry_53 rfl ?_
          refine r_iload_n g0 dX6_addEntry_54 rfl ?_
          refine r_iload_n g0 dX6_addEntry_55 rfl ?_
          obtain ⟨r_5, s_5, hr_5, h⟩ := bd_some h
          refine r_cVI g0 (rest := [.int (J p4), .int (J p4), .int (J p5), .ref (E.1 o)]) (c_X6_lengthOf ho i_p1 i_p2 hr_5) ok_X6_lengthOf mX6_119 (recv_Plan ho) dX6_addEntry_56 ⟨Nat.le_of_ble_eq_true rfl, Nat.le_of_ble_eq_true rfl⟩ ⟨Nat.zero_le _, Nat.zero_le _⟩ rfl (Nat.le_of_ble_eq_true rfl) rfl (fun i_r_5 => ?_)
          refine r_iadd g0 dX6_addEntry_59 ?_
          obtain ⟨r_6, s_6, hr_6, h⟩ := bd_some h
          refine r_cVZ g0 (rest := []) (c_X6_isFree ho i_p5 i_p4 (InR_wr _) hr_6) ok_X6_isFree mX6_122 (recv_Plan ho) dX6_addEntry_60 ⟨Nat.le_of_ble_eq_true rfl, Nat.le_of_ble_eq_true rfl⟩ ⟨Nat.zero_le _, Nat.zero_le _⟩ rfl (Nat.le_of_ble_eq_true rfl) rfl (fun i_r_6 => ?_)
          refine r_if_ne g0 69 dX6_addEntry_63 (by decide) (B01.inR i_r_6) (fun hc => ?_) (fun hc => ?_)
          · replace h := if_f hc h
            refine r_aload_n g0 dX6_addEntry_69 rfl ?_
            refine g_Plan_entries g0 ho qX6_20 dX6_addEntry_70 ?_
            obtain ⟨r_7, s_7, hr_7, h⟩ := bd_some h
            refine r_cVZ g0 (rest := []) (c_X1_isFull (is_a_Plan_entries ho) hr_7) ok_X1_isFull mX6_125 (recv_Entries (is_a_Plan_entries ho)) dX6_addEntry_73 ⟨Nat.le_of_ble_eq_true rfl, Nat.le_of_ble_eq_true rfl⟩ ⟨Nat.zero_le _, Nat.zero_le _⟩ rfl (Nat.le_of_ble_eq_true rfl) rfl (fun i_r_7 => ?_)
            refine r_if_eq g0 82 dX6_addEntry_76 (by decide) (B01.inR i_r_7) (fun hc => ?_) (fun hc => ?_)
            · replace h := if_t hc h
              refine r_aload_n g0 dX6_addEntry_82 rfl ?_
              refine g_Plan_entries g0 ho qX6_20 dX6_addEntry_83 ?_
              refine r_iload_n g0 dX6_addEntry_86 rfl ?_
              refine r_iload_n g0 dX6_addEntry_87 rfl ?_
              refine r_iload_n g0 dX6_addEntry_88 rfl ?_
              refine r_iload g0 dX6_addEntry_89 rfl ?_
              refine r_iload g0 dX6_addEntry_91 rfl ?_
              obtain ⟨r_8, s_8, hr_8, h⟩ := bd_some h
              refine r_cVV g0 (rest := []) (c_X1_append (is_a_Plan_entries ho) i_p1 i_p2 i_p3 i_p4 i_p5 hr_8) ok_X1_append mX6_126 (recv_Entries (is_a_Plan_entries ho)) dX6_addEntry_93 ⟨Nat.le_of_ble_eq_true rfl, Nat.le_of_ble_eq_true rfl⟩ ⟨Nat.zero_le _, Nat.zero_le _⟩ rfl (Nat.le_of_ble_eq_true rfl) rfl ?_
              refine r_aload_n g0 dX6_addEntry_96 rfl ?_
              refine g_Plan_entries g0 ho qX6_20 dX6_addEntry_97 ?_
              refine g_Entries_count g0 (is_a_Plan_entries ho) qX6_129 dX6_addEntry_100 ?_
              refine r_iconst g0 dX6_addEntry_103 ?_
              refine r_isub g0 dX6_addEntry_104 ?_
              exact z_I g dX6_addEntry_105 (InR_wr _) h
            · replace h := if_f hc h
              refine r_bipush g0 dX6_addEntry_79 rfl ?_
              exact z_I g dX6_addEntry_81 (InR_lit rfl) h
          · replace h := if_t hc h
            refine r_bipush g0 dX6_addEntry_66 rfl ?_
            exact z_I g dX6_addEntry_68 (InR_lit rfl) h
      · replace h := if_t hc h
        refine r_bipush g0 dX6_addEntry_31 rfl ?_
        exact z_I g dX6_addEntry_33 (InR_lit rfl) h
theorem dX6_removeEntry_0 : decode cX6_removeEntry 0 = .ok (.aload_n 0, 1) := by decide +kernel
theorem dX6_removeEntry_1 : decode cX6_removeEntry 1 = .ok (.getfield 20, 3) := by decide +kernel
theorem dX6_removeEntry_4 : decode cX6_removeEntry 4 = .ok (.iload_n 1, 1) := by decide +kernel
theorem dX6_removeEntry_5 : decode cX6_removeEntry 5 = .ok (.invokevirtual 130, 3) := by decide +kernel
theorem dX6_removeEntry_8 : decode cX6_removeEntry 8 = .ok (.ifCond .ne 6, 3) := by decide +kernel
theorem dX6_removeEntry_11 : decode cX6_removeEntry 11 = .ok (.bipush (-2), 2) := by decide +kernel
theorem dX6_removeEntry_13 : decode cX6_removeEntry 13 = .ok (.ireturn, 1) := by decide +kernel
theorem dX6_removeEntry_14 : decode cX6_removeEntry 14 = .ok (.aload_n 0, 1) := by decide +kernel
theorem dX6_removeEntry_15 : decode cX6_removeEntry 15 = .ok (.getfield 20, 3) := by decide +kernel
theorem dX6_removeEntry_18 : decode cX6_removeEntry 18 = .ok (.iload_n 1, 1) := by decide +kernel
theorem dX6_removeEntry_19 : decode cX6_removeEntry 19 = .ok (.invokevirtual 131, 3) := by decide +kernel
theorem dX6_removeEntry_22 : decode cX6_removeEntry 22 = .ok (.aload_n 0, 1) := by decide +kernel
theorem dX6_removeEntry_23 : decode cX6_removeEntry 23 = .ok (.getfield 20, 3) := by decide +kernel
theorem dX6_removeEntry_26 : decode cX6_removeEntry 26 = .ok (.getfield 129, 3) := by decide +kernel
theorem dX6_removeEntry_29 : decode cX6_removeEntry 29 = .ok (.ireturn, 1) := by decide +kernel
set_option maxHeartbeats 4000000 in
set_option maxRecDepth 100000 in
theorem c_X6_removeEntry {E : u_E} {l : Launch} {o : u_O} {p1 : Int} (ho : is_Plan o) (i_p1 : InR p1) {s s' : u_S} {r : Int} (h : f_X6_removeEntry o p1 s = some (r, s')) : Con l (XE E) yX6_removeEntry cX6_removeEntry 2 (some .int) 3 68 0 0 [.ref (E.1 o), .int (J p1)] (Wd E s) (RI E r s') := by
  refine Con.of [some (.ref (E.1 o)), some (.int (J p1))] (by decide +kernel) rfl rfl (Nat.le_of_ble_eq_true rfl) (fun K g => ?_)
  have g0 := g.wk
  unfold f_X6_removeEntry at h
  refine r_aload_n g0 dX6_removeEntry_0 rfl ?_
  refine g_Plan_entries g0 ho qX6_20 dX6_removeEntry_1 ?_
  refine r_iload_n g0 dX6_removeEntry_4 rfl ?_
  obtain ⟨r_1, s_1, hr_1, h⟩ := bd_some h
  refine r_cVZ g0 (rest := []) (c_X1_has (is_a_Plan_entries ho) i_p1 hr_1) ok_X1_has mX6_130 (recv_Entries (is_a_Plan_entries ho)) dX6_removeEntry_5 ⟨Nat.le_of_ble_eq_true rfl, Nat.le_of_ble_eq_true rfl⟩ ⟨Nat.zero_le _, Nat.zero_le _⟩ rfl (Nat.le_of_ble_eq_true rfl) rfl (fun i_r_1 => ?_)
  refine r_if_ne g0 14 dX6_removeEntry_8 (by decide) (B01.inR i_r_1) (fun hc => ?_) (fun hc => ?_)
  · replace h := if_f hc h
    refine r_aload_n g0 dX6_removeEntry_14 rfl ?_
    refine g_Plan_entries g0 ho qX6_20 dX6_removeEntry_15 ?_
    refine r_iload_n g0 dX6_removeEntry_18 rfl ?_
    obtain ⟨r_2, s_2, hr_2, h⟩ := bd_some h
    refine r_cVV g0 (rest := []) (c_X1_remove (is_a_Plan_entries ho) i_p1 hr_2) ok_X1_remove mX6_131 (recv_Entries (is_a_Plan_entries ho)) dX6_removeEntry_19 ⟨Nat.le_of_ble_eq_true rfl, Nat.le_of_ble_eq_true rfl⟩ ⟨Nat.zero_le _, Nat.zero_le _⟩ rfl (Nat.le_of_ble_eq_true rfl) rfl ?_
    refine r_aload_n g0 dX6_removeEntry_22 rfl ?_
    refine g_Plan_entries g0 ho qX6_20 dX6_removeEntry_23 ?_
    refine g_Entries_count g0 (is_a_Plan_entries ho) qX6_129 dX6_removeEntry_26 ?_
    exact z_I g dX6_removeEntry_29 (InR_rd _ _ _) h
  · replace h := if_t hc h
    refine r_bipush g0 dX6_removeEntry_11 rfl ?_
    exact z_I g dX6_removeEntry_13 (InR_lit rfl) h
theorem dX6_visitOf_0 : decode cX6_visitOf 0 = .ok (.iconst 0, 1) := by decide +kernel
theorem dX6_visitOf_1 : decode cX6_visitOf 1 = .ok (.istore_n 2, 1) := by decide +kernel
theorem dX6_visitOf_2 : decode cX6_visitOf 2 = .ok (.iload_n 2, 1) := by decide +kernel
theorem dX6_visitOf_3 : decode cX6_visitOf 3 = .ok (.aload_n 0, 1) := by decide +kernel
theorem dX6_visitOf_4 : decode cX6_visitOf 4 = .ok (.getfield 43, 3) := by decide +kernel
theorem dX6_visitOf_7 : decode cX6_visitOf 7 = .ok (.if_icmp .ge 21, 3) := by decide +kernel
theorem dX6_visitOf_10 : decode cX6_visitOf 10 = .ok (.aload_n 0, 1) := by decide +kernel
theorem dX6_visitOf_11 : decode cX6_visitOf 11 = .ok (.getfield 24, 3) := by decide +kernel
theorem dX6_visitOf_14 : decode cX6_visitOf 14 = .ok (.iload_n 2, 1) := by decide +kernel
theorem dX6_visitOf_15 : decode cX6_visitOf 15 = .ok (.iaload, 1) := by decide +kernel
theorem dX6_visitOf_16 : decode cX6_visitOf 16 = .ok (.iload_n 1, 1) := by decide +kernel
theorem dX6_visitOf_17 : decode cX6_visitOf 17 = .ok (.if_icmp .ne 5, 3) := by decide +kernel
theorem dX6_visitOf_20 : decode cX6_visitOf 20 = .ok (.iload_n 2, 1) := by decide +kernel
theorem dX6_visitOf_21 : decode cX6_visitOf 21 = .ok (.ireturn, 1) := by decide +kernel
theorem dX6_visitOf_22 : decode cX6_visitOf 22 = .ok (.iinc 2 1, 3) := by decide +kernel
theorem dX6_visitOf_25 : decode cX6_visitOf 25 = .ok (.goto (-23), 3) := by decide +kernel
theorem dX6_visitOf_28 : decode cX6_visitOf 28 = .ok (.iconst (-1), 1) := by decide +kernel
theorem dX6_visitOf_29 : decode cX6_visitOf 29 = .ok (.ireturn, 1) := by decide +kernel
set_option maxHeartbeats 4000000 in
set_option maxRecDepth 100000 in
theorem t_X6_visitOf_L2 {l : Launch} {E : u_E} {K : u_K} {r : Int} {s' : u_S} (g : Wk l (XE E) { frames := 0, cells := 0, slots := 0, locals := 0 } cX6_visitOf 3 yX6_visitOf.cls yX6_visitOf.name (some .int) (RI E r s') K) {v0_1 : u_O} {v1_1 : Int} (i_v0_1 : is_Plan v0_1) (i_v1_1 : InR v1_1) {kx28 : u_S → Option (Int × u_S)} (hkx28 : ∀ (s_3 : u_S), kx28 s_3 = some (r, s') → K 0 0 28 [none, none, none] [] (Wd E s_3)) : ∀ (m : Nat) (v2_1 : Int) (s_2 : u_S), InR v2_1 → f_X6_visitOf_L2 m kx28 v0_1 v1_1 v2_1 s_2 = some (r, s') → K 0 0 2 [some (.ref (E.1 v0_1)), some (.int (J v1_1)), some (.int (J v2_1))] [] (Wd E s_2) := by
  have g0 := g.wk
  intro m
  induction m with
  | zero =>
    intro v2_1 s_2 i_v2_1 h
    exact absurd (show (none : Option (Int × u_S)) = some (r, s') from h) (by intro z; cases z)
  | succ m ih =>
    intro v2_1 s_2 i_v2_1 h
    rw [f_X6_visitOf_L2] at h
    refine r_iload_n g0 dX6_visitOf_2 rfl ?_
    refine r_aload_n g0 dX6_visitOf_3 rfl ?_
    refine g_Plan_visitCount g0 i_v0_1 qX6_43 dX6_visitOf_4 ?_
    refine r_icmp_ge g0 28 dX6_visitOf_7 (by decide) i_v2_1 (InR_rd _ _ _) (fun hc => ?_) (fun hc => ?_)
    · replace h := if_f hc h
      refine r_mask g0 (lv' := [none, none, none]) [false, false, false] rfl ?_
      exact hkx28 s_2 h
    · replace h := if_t hc h
      refine r_aload_n g0 dX6_visitOf_10 rfl ?_
      refine g_Plan_toVisit g0 i_v0_1 qX6_24 dX6_visitOf_11 ?_
      refine r_iload_n g0 dX6_visitOf_14 rfl ?_
      obtain ⟨hb, h⟩ := gd_some h
      refine r_iaload g0 (is_a_Plan_toVisit i_v0_1) (n := 5) rfl i_v2_1 hb dX6_visitOf_15 ?_
      refine r_iload_n g0 dX6_visitOf_16 rfl ?_
      refine r_icmp_ne g0 22 dX6_visitOf_17 (by decide) (InR_rd _ _ _) i_v1_1 (fun hc => ?_) (fun hc => ?_)
      · replace h := if_f hc h
        refine r_iinc g0 (a := v2_1) (lv' := [some (.ref (E.1 v0_1)), some (.int (J v1_1)), some (.int (J (wr (v2_1 + 1))))]) dX6_visitOf_22 (by decide) rfl rfl rfl ?_
        refine r_goto g0 2 dX6_visitOf_25 (by decide) ?_
        exact ih (wr (v2_1 + 1)) s_2 (InR_wr _) h
      · replace h := if_t hc h
        refine r_iload_n g0 dX6_visitOf_20 rfl ?_
        exact z_I g dX6_visitOf_21 i_v2_1 h
set_option maxHeartbeats 4000000 in
set_option maxRecDepth 100000 in
theorem c_X6_visitOf {E : u_E} {l : Launch} {o : u_O} {p1 : Int} (ho : is_Plan o) (i_p1 : InR p1) {s s' : u_S} {r : Int} (h : f_X6_visitOf o p1 s = some (r, s')) : Con l (XE E) yX6_visitOf cX6_visitOf 3 (some .int) 0 0 0 0 [.ref (E.1 o), .int (J p1)] (Wd E s) (RI E r s') := by
  refine Con.of [some (.ref (E.1 o)), some (.int (J p1)), none] (by decide +kernel) rfl rfl (Nat.le_of_ble_eq_true rfl) (fun K g => ?_)
  have g0 := g.wk
  unfold f_X6_visitOf at h
  refine r_iconst g0 dX6_visitOf_0 ?_
  refine r_istore_n g0 (lv' := [some (.ref (E.1 o)), some (.int (J p1)), some (.int (J 0))]) dX6_visitOf_1 (by decide) rfl rfl ?_
  refine t_X6_visitOf_L2 g ho i_p1 ?_ FU 0 s (B01.inR B01_0) h
  · intro s_1 h
    refine r_iconst g0 dX6_visitOf_28 ?_
    exact z_I g dX6_visitOf_29 (InR_lit rfl) h
theorem dX6_addVisit_0 : decode cX6_addVisit 0 = .ok (.iload_n 1, 1) := by decide +kernel
theorem dX6_addVisit_1 : decode cX6_addVisit 1 = .ok (.invokestatic 110, 3) := by decide +kernel
theorem dX6_addVisit_4 : decode cX6_addVisit 4 = .ok (.ifCond .ne 6, 3) := by decide +kernel
theorem dX6_addVisit_7 : decode cX6_addVisit 7 = .ok (.bipush (-2), 2) := by decide +kernel
theorem dX6_addVisit_9 : decode cX6_addVisit 9 = .ok (.ireturn, 1) := by decide +kernel
theorem dX6_addVisit_10 : decode cX6_addVisit 10 = .ok (.aload_n 0, 1) := by decide +kernel
theorem dX6_addVisit_11 : decode cX6_addVisit 11 = .ok (.iload_n 1, 1) := by decide +kernel
theorem dX6_addVisit_12 : decode cX6_addVisit 12 = .ok (.invokevirtual 132, 3) := by decide +kernel
theorem dX6_addVisit_15 : decode cX6_addVisit 15 = .ok (.iconst (-1), 1) := by decide +kernel
theorem dX6_addVisit_16 : decode cX6_addVisit 16 = .ok (.if_icmp .eq 6, 3) := by decide +kernel
theorem dX6_addVisit_19 : decode cX6_addVisit 19 = .ok (.bipush (-3), 2) := by decide +kernel
theorem dX6_addVisit_21 : decode cX6_addVisit 21 = .ok (.ireturn, 1) := by decide +kernel
theorem dX6_addVisit_22 : decode cX6_addVisit 22 = .ok (.aload_n 0, 1) := by decide +kernel
theorem dX6_addVisit_23 : decode cX6_addVisit 23 = .ok (.getfield 43, 3) := by decide +kernel
theorem dX6_addVisit_26 : decode cX6_addVisit 26 = .ok (.iconst 5, 1) := by decide +kernel
theorem dX6_addVisit_27 : decode cX6_addVisit 27 = .ok (.if_icmp .lt 6, 3) := by decide +kernel
theorem dX6_addVisit_30 : decode cX6_addVisit 30 = .ok (.bipush (-4), 2) := by decide +kernel
theorem dX6_addVisit_32 : decode cX6_addVisit 32 = .ok (.ireturn, 1) := by decide +kernel
theorem dX6_addVisit_33 : decode cX6_addVisit 33 = .ok (.aload_n 0, 1) := by decide +kernel
theorem dX6_addVisit_34 : decode cX6_addVisit 34 = .ok (.getfield 24, 3) := by decide +kernel
theorem dX6_addVisit_37 : decode cX6_addVisit 37 = .ok (.aload_n 0, 1) := by decide +kernel
theorem dX6_addVisit_38 : decode cX6_addVisit 38 = .ok (.getfield 43, 3) := by decide +kernel
theorem dX6_addVisit_41 : decode cX6_addVisit 41 = .ok (.iload_n 1, 1) := by decide +kernel
theorem dX6_addVisit_42 : decode cX6_addVisit 42 = .ok (.iastore, 1) := by decide +kernel
theorem dX6_addVisit_43 : decode cX6_addVisit 43 = .ok (.aload_n 0, 1) := by decide +kernel
theorem dX6_addVisit_44 : decode cX6_addVisit 44 = .ok (.dup, 1) := by decide +kernel
theorem dX6_addVisit_45 : decode cX6_addVisit 45 = .ok (.getfield 43, 3) := by decide +kernel
theorem dX6_addVisit_48 : decode cX6_addVisit 48 = .ok (.iconst 1, 1) := by decide +kernel
theorem dX6_addVisit_49 : decode cX6_addVisit 49 = .ok (.iadd, 1) := by decide +kernel
theorem dX6_addVisit_50 : decode cX6_addVisit 50 = .ok (.putfield 43, 3) := by decide +kernel
theorem dX6_addVisit_53 : decode cX6_addVisit 53 = .ok (.aload_n 0, 1) := by decide +kernel
theorem dX6_addVisit_54 : decode cX6_addVisit 54 = .ok (.getfield 43, 3) := by decide +kernel
theorem dX6_addVisit_57 : decode cX6_addVisit 57 = .ok (.ireturn, 1) := by decide +kernel
set_option maxHeartbeats 4000000 in
set_option maxRecDepth 100000 in
theorem c_X6_addVisit {E : u_E} {l : Launch} {o : u_O} {p1 : Int} (ho : is_Plan o) (i_p1 : InR p1) {s s' : u_S} {r : Int} (h : f_X6_addVisit o p1 s = some (r, s')) : Con l (XE E) yX6_addVisit cX6_addVisit 2 (some .int) 2 42 0 0 [.ref (E.1 o), .int (J p1)] (Wd E s) (RI E r s') := by
  refine Con.of [some (.ref (E.1 o)), some (.int (J p1))] (by decide +kernel) rfl rfl (Nat.le_of_ble_eq_true rfl) (fun K g => ?_)
  have g0 := g.wk
  unfold f_X6_addVisit at h
  refine r_iload_n g0 dX6_addVisit_0 rfl ?_
  obtain ⟨r_1, s_1, hr_1, h⟩ := bd_some h
  refine r_cNZ g0 (rest := []) (c_X10_isKey i_p1 hr_1) ok_X10_isKey mX6_110 dX6_addVisit_1 ⟨Nat.le_of_ble_eq_true rfl, Nat.le_of_ble_eq_true rfl⟩ ⟨Nat.zero_le _, Nat.zero_le _⟩ rfl (Nat.le_of_ble_eq_true rfl) rfl (fun i_r_1 => ?_)
  refine r_if_ne g0 10 dX6_addVisit_4 (by decide) (B01.inR i_r_1) (fun hc => ?_) (fun hc => ?_)
  · replace h := if_f hc h
    refine r_aload_n g0 dX6_addVisit_10 rfl ?_
    refine r_iload_n g0 dX6_addVisit_11 rfl ?_
    obtain ⟨r_2, s_2, hr_2, h⟩ := bd_some h
    refine r_cVI g0 (rest := []) (c_X6_visitOf ho i_p1 hr_2) ok_X6_visitOf mX6_132 (recv_Plan ho) dX6_addVisit_12 ⟨Nat.le_of_ble_eq_true rfl, Nat.le_of_ble_eq_true rfl⟩ ⟨Nat.zero_le _, Nat.zero_le _⟩ rfl (Nat.le_of_ble_eq_true rfl) rfl (fun i_r_2 => ?_)
    refine r_iconst g0 dX6_addVisit_15 ?_
    refine r_icmp_eq g0 22 dX6_addVisit_16 (by decide) i_r_2 (InR_lit rfl) (fun hc => ?_) (fun hc => ?_)
    · replace h := if_t hc h
      refine r_aload_n g0 dX6_addVisit_22 rfl ?_
      refine g_Plan_visitCount g0 ho qX6_43 dX6_addVisit_23 ?_
      refine r_iconst g0 dX6_addVisit_26 ?_
      refine r_icmp_lt g0 33 dX6_addVisit_27 (by decide) (InR_rd _ _ _) (InR_lit rfl) (fun hc => ?_) (fun hc => ?_)
      · replace h := if_t hc h
        refine r_aload_n g0 dX6_addVisit_33 rfl ?_
        refine g_Plan_toVisit g0 ho qX6_24 dX6_addVisit_34 ?_
        refine r_aload_n g0 dX6_addVisit_37 rfl ?_
        refine g_Plan_visitCount g0 ho qX6_43 dX6_addVisit_38 ?_
        refine r_iload_n g0 dX6_addVisit_41 rfl ?_
        obtain ⟨hb, h⟩ := gd_some h
        refine r_iastore g0 (is_a_Plan_toVisit ho) (n := 5) rfl (InR_rd _ _ _) hb dX6_addVisit_42 ?_
        refine r_aload_n g0 dX6_addVisit_43 rfl ?_
        refine r_dup g0 dX6_addVisit_44 rfl ?_
        refine g_Plan_visitCount g0 ho qX6_43 dX6_addVisit_45 ?_
        refine r_iconst g0 dX6_addVisit_48 ?_
        refine r_iadd g0 dX6_addVisit_49 ?_
        refine p_Plan_visitCount g0 ho qX6_43 dX6_addVisit_50 ?_
        refine r_aload_n g0 dX6_addVisit_53 rfl ?_
        refine g_Plan_visitCount g0 ho qX6_43 dX6_addVisit_54 ?_
        exact z_I g dX6_addVisit_57 (InR_rd _ _ _) h
      · replace h := if_f hc h
        refine r_bipush g0 dX6_addVisit_30 rfl ?_
        exact z_I g dX6_addVisit_32 (InR_lit rfl) h
    · replace h := if_f hc h
      refine r_bipush g0 dX6_addVisit_19 rfl ?_
      exact z_I g dX6_addVisit_21 (InR_lit rfl) h
  · replace h := if_t hc h
    refine r_bipush g0 dX6_addVisit_7 rfl ?_
    exact z_I g dX6_addVisit_9 (InR_lit rfl) h
theorem dX6_removeVisit_0 : decode cX6_removeVisit 0 = .ok (.iload_n 1, 1) := by decide +kernel
theorem dX6_removeVisit_1 : decode cX6_removeVisit 1 = .ok (.invokestatic 110, 3) := by decide +kernel
theorem dX6_removeVisit_4 : decode cX6_removeVisit 4 = .ok (.ifCond .ne 6, 3) := by decide +kernel
theorem dX6_removeVisit_7 : decode cX6_removeVisit 7 = .ok (.bipush (-2), 2) := by decide +kernel
theorem dX6_removeVisit_9 : decode cX6_removeVisit 9 = .ok (.ireturn, 1) := by decide +kernel
theorem dX6_removeVisit_10 : decode cX6_removeVisit 10 = .ok (.aload_n 0, 1) := by decide +kernel
theorem dX6_removeVisit_11 : decode cX6_removeVisit 11 = .ok (.iload_n 1, 1) := by decide +kernel
theorem dX6_removeVisit_12 : decode cX6_removeVisit 12 = .ok (.invokevirtual 132, 3) := by decide +kernel
theorem dX6_removeVisit_15 : decode cX6_removeVisit 15 = .ok (.istore_n 2, 1) := by decide +kernel
theorem dX6_removeVisit_16 : decode cX6_removeVisit 16 = .ok (.iload_n 2, 1) := by decide +kernel
theorem dX6_removeVisit_17 : decode cX6_removeVisit 17 = .ok (.iconst (-1), 1) := by decide +kernel
theorem dX6_removeVisit_18 : decode cX6_removeVisit 18 = .ok (.if_icmp .ne 6, 3) := by decide +kernel
theorem dX6_removeVisit_21 : decode cX6_removeVisit 21 = .ok (.bipush (-3), 2) := by decide +kernel
theorem dX6_removeVisit_23 : decode cX6_removeVisit 23 = .ok (.ireturn, 1) := by decide +kernel
theorem dX6_removeVisit_24 : decode cX6_removeVisit 24 = .ok (.iload_n 2, 1) := by decide +kernel
theorem dX6_removeVisit_25 : decode cX6_removeVisit 25 = .ok (.iconst 1, 1) := by decide +kernel
theorem dX6_removeVisit_26 : decode cX6_removeVisit 26 = .ok (.iadd, 1) := by decide +kernel
theorem dX6_removeVisit_27 : decode cX6_removeVisit 27 = .ok (.istore_n 3, 1) := by decide +kernel
theorem dX6_removeVisit_28 : decode cX6_removeVisit 28 = .ok (.iload_n 3, 1) := by decide +kernel
theorem dX6_removeVisit_29 : decode cX6_removeVisit 29 = .ok (.aload_n 0, 1) := by decide +kernel
theorem dX6_removeVisit_30 : decode cX6_removeVisit 30 = .ok (.getfield 43, 3) := by decide +kernel
theorem dX6_removeVisit_33 : decode cX6_removeVisit 33 = .ok (.if_icmp .ge 23, 3) := by decide +kernel
theorem dX6_removeVisit_36 : decode cX6_removeVisit 36 = .ok (.aload_n 0, 1) := by decide +kernel
theorem dX6_removeVisit_37 : decode cX6_removeVisit 37 = .ok (.getfield 24, 3) := by decide +kernel
theorem dX6_removeVisit_40 : decode cX6_removeVisit 40 = .ok (.iload_n 3, 1) := by decide +kernel
theorem dX6_removeVisit_41 : decode cX6_removeVisit 41 = .ok (.iconst 1, 1) := by decide +kernel
theorem dX6_removeVisit_42 : decode cX6_removeVisit 42 = .ok (.isub, 1) := by decide +kernel
theorem dX6_removeVisit_43 : decode cX6_removeVisit 43 = .ok (.aload_n 0, 1) := by decide +kernel
theorem dX6_removeVisit_44 : decode cX6_removeVisit 44 = .ok (.getfield 24, 3) := by decide +kernel
theorem dX6_removeVisit_47 : decode cX6_removeVisit 47 = .ok (.iload_n 3, 1) := by decide +kernel
theorem dX6_removeVisit_48 : decode cX6_removeVisit 48 = .ok (.iaload, 1) := by decide +kernel
theorem dX6_removeVisit_49 : decode cX6_removeVisit 49 = .ok (.iastore, 1) := by decide +kernel
theorem dX6_removeVisit_50 : decode cX6_removeVisit 50 = .ok (.iinc 3 1, 3) := by decide +kernel
theorem dX6_removeVisit_53 : decode cX6_removeVisit 53 = .ok (.goto (-25), 3) := by decide +kernel
theorem dX6_removeVisit_56 : decode cX6_removeVisit 56 = .ok (.aload_n 0, 1) := by decide +kernel
theorem dX6_removeVisit_57 : decode cX6_removeVisit 57 = .ok (.dup, 1) := by decide +kernel
theorem dX6_removeVisit_58 : decode cX6_removeVisit 58 = .ok (.getfield 43, 3) := by decide +kernel
theorem dX6_removeVisit_61 : decode cX6_removeVisit 61 = .ok (.iconst 1, 1) := by decide +kernel
theorem dX6_removeVisit_62 : decode cX6_removeVisit 62 = .ok (.isub, 1) := by decide +kernel
theorem dX6_removeVisit_63 : decode cX6_removeVisit 63 = .ok (.putfield 43, 3) := by decide +kernel
theorem dX6_removeVisit_66 : decode cX6_removeVisit 66 = .ok (.aload_n 0, 1) := by decide +kernel
theorem dX6_removeVisit_67 : decode cX6_removeVisit 67 = .ok (.getfield 43, 3) := by decide +kernel
theorem dX6_removeVisit_70 : decode cX6_removeVisit 70 = .ok (.ireturn, 1) := by decide +kernel
set_option maxHeartbeats 4000000 in
set_option maxRecDepth 100000 in
theorem t_X6_removeVisit_L28 {l : Launch} {E : u_E} {K : u_K} {r : Int} {s' : u_S} (g : Wk l (XE E) { frames := 2, cells := 0, slots := 0, locals := 42 } cX6_removeVisit 4 yX6_removeVisit.cls yX6_removeVisit.name (some .int) (RI E r s') K) {v0_1 : u_O} (i_v0_1 : is_Plan v0_1) {kx56 : u_S → Option (Int × u_S)} (hkx56 : ∀ (s_5 : u_S), kx56 s_5 = some (r, s') → K 0 0 56 [some (.ref (E.1 v0_1)), none, none, none] [] (Wd E s_5)) : ∀ (m : Nat) (v3_1 : Int) (s_4 : u_S), InR v3_1 → f_X6_removeVisit_L28 m kx56 v0_1 v3_1 s_4 = some (r, s') → K 0 0 28 [some (.ref (E.1 v0_1)), none, none, some (.int (J v3_1))] [] (Wd E s_4) := by
  have g0 := g.wk
  intro m
  induction m with
  | zero =>
    intro v3_1 s_4 i_v3_1 h
    exact absurd (show (none : Option (Int × u_S)) = some (r, s') from h) (by intro z; cases z)
  | succ m ih =>
    intro v3_1 s_4 i_v3_1 h
    rw [f_X6_removeVisit_L28] at h
    refine r_iload_n g0 dX6_removeVisit_28 rfl ?_
    refine r_aload_n g0 dX6_removeVisit_29 rfl ?_
    refine g_Plan_visitCount g0 i_v0_1 qX6_43 dX6_removeVisit_30 ?_
    refine r_icmp_ge g0 56 dX6_removeVisit_33 (by decide) i_v3_1 (InR_rd _ _ _) (fun hc => ?_) (fun hc => ?_)
    · replace h := if_f hc h
      refine r_mask g0 (lv' := [some (.ref (E.1 v0_1)), none, none, none]) [true, false, false, false] rfl ?_
      exact hkx56 s_4 h
    · replace h := if_t hc h
      refine r_aload_n g0 dX6_removeVisit_36 rfl ?_
      refine g_Plan_toVisit g0 i_v0_1 qX6_24 dX6_removeVisit_37 ?_
      refine r_iload_n g0 dX6_removeVisit_40 rfl ?_
      refine r_iconst g0 dX6_removeVisit_41 ?_
      refine r_isub g0 dX6_removeVisit_42 ?_
      refine r_aload_n g0 dX6_removeVisit_43 rfl ?_
      refine g_Plan_toVisit g0 i_v0_1 qX6_24 dX6_removeVisit_44 ?_
      refine r_iload_n g0 dX6_removeVisit_47 rfl ?_
      obtain ⟨hb, h⟩ := gd_some h
      refine r_iaload g0 (is_a_Plan_toVisit i_v0_1) (n := 5) rfl i_v3_1 hb dX6_removeVisit_48 ?_
      obtain ⟨hb, h⟩ := gd_some h
      refine r_iastore g0 (is_a_Plan_toVisit i_v0_1) (n := 5) rfl (InR_wr _) hb dX6_removeVisit_49 ?_
      refine r_iinc g0 (a := v3_1) (lv' := [some (.ref (E.1 v0_1)), none, none, some (.int (J (wr (v3_1 + 1))))]) dX6_removeVisit_50 (by decide) rfl rfl rfl ?_
      refine r_goto g0 28 dX6_removeVisit_53 (by decide) ?_
      exact ih (wr (v3_1 + 1)) (wt s_4 (a_Plan_toVisit v0_1) (wr (v3_1 - 1)) (rd s_4 (a_Plan_toVisit v0_1) v3_1)) (InR_wr _) h
set_option maxHeartbeats 4000000 in
set_option maxRecDepth 100000 in
theorem c_X6_removeVisit {E : u_E} {l : Launch} {o : u_O} {p1 : Int} (ho : is_Plan o) (i_p1 : InR p1) {s s' : u_S} {r : Int} (h : f_X6_removeVisit o p1 s = some (r, s')) : Con l (XE E) yX6_removeVisit cX6_removeVisit 4 (some .int) 2 42 0 0 [.ref (E.1 o), .int (J p1)] (Wd E s) (RI E r s') := by
  refine Con.of [some (.ref (E.1 o)), some (.int (J p1)), none, none] (by decide +kernel) rfl rfl (Nat.le_of_ble_eq_true rfl) (fun K g => ?_)
  have g0 := g.wk
  unfold f_X6_removeVisit at h
  refine r_iload_n g0 dX6_removeVisit_0 rfl ?_
  obtain ⟨r_1, s_1, hr_1, h⟩ := bd_some h
  refine r_cNZ g0 (rest := []) (c_X10_isKey i_p1 hr_1) ok_X10_isKey mX6_110 dX6_removeVisit_1 ⟨Nat.le_of_ble_eq_true rfl, Nat.le_of_ble_eq_true rfl⟩ ⟨Nat.zero_le _, Nat.zero_le _⟩ rfl (Nat.le_of_ble_eq_true rfl) rfl (fun i_r_1 => ?_)
  refine r_if_ne g0 10 dX6_removeVisit_4 (by decide) (B01.inR i_r_1) (fun hc => ?_) (fun hc => ?_)
  · replace h := if_f hc h
    refine r_aload_n g0 dX6_removeVisit_10 rfl ?_
    refine r_iload_n g0 dX6_removeVisit_11 rfl ?_
    obtain ⟨r_2, s_2, hr_2, h⟩ := bd_some h
    refine r_cVI g0 (rest := []) (c_X6_visitOf ho i_p1 hr_2) ok_X6_visitOf mX6_132 (recv_Plan ho) dX6_removeVisit_12 ⟨Nat.le_of_ble_eq_true rfl, Nat.le_of_ble_eq_true rfl⟩ ⟨Nat.zero_le _, Nat.zero_le _⟩ rfl (Nat.le_of_ble_eq_true rfl) rfl (fun i_r_2 => ?_)
    refine r_istore_n g0 (lv' := [some (.ref (E.1 o)), some (.int (J p1)), some (.int (J r_2)), none]) dX6_removeVisit_15 (by decide) rfl rfl ?_
    refine r_iload_n g0 dX6_removeVisit_16 rfl ?_
    refine r_iconst g0 dX6_removeVisit_17 ?_
    refine r_icmp_ne g0 24 dX6_removeVisit_18 (by decide) i_r_2 (InR_lit rfl) (fun hc => ?_) (fun hc => ?_)
    · replace h := if_f hc h
      refine r_iload_n g0 dX6_removeVisit_24 rfl ?_
      refine r_iconst g0 dX6_removeVisit_25 ?_
      refine r_iadd g0 dX6_removeVisit_26 ?_
      refine r_istore_n g0 (lv' := [some (.ref (E.1 o)), some (.int (J p1)), some (.int (J r_2)), some (.int (J (wr (r_2 + 1))))]) dX6_removeVisit_27 (by decide) rfl rfl ?_
      refine r_mask g0 (lv' := [some (.ref (E.1 o)), none, none, some (.int (J (wr (r_2 + 1))))]) [true, false, false, true] rfl ?_
      refine t_X6_removeVisit_L28 g ho ?_ FU (wr (r_2 + 1)) s_2 (InR_wr _) h
      · intro s_3 h
        refine r_aload_n g0 dX6_removeVisit_56 rfl ?_
        refine r_dup g0 dX6_removeVisit_57 rfl ?_
        refine g_Plan_visitCount g0 ho qX6_43 dX6_removeVisit_58 ?_
        refine r_iconst g0 dX6_removeVisit_61 ?_
        refine r_isub g0 dX6_removeVisit_62 ?_
        refine p_Plan_visitCount g0 ho qX6_43 dX6_removeVisit_63 ?_
        refine r_aload_n g0 dX6_removeVisit_66 rfl ?_
        refine g_Plan_visitCount g0 ho qX6_43 dX6_removeVisit_67 ?_
        exact z_I g dX6_removeVisit_70 (InR_rd _ _ _) h
    · replace h := if_t hc h
      refine r_bipush g0 dX6_removeVisit_21 rfl ?_
      exact z_I g dX6_removeVisit_23 (InR_lit rfl) h
  · replace h := if_t hc h
    refine r_bipush g0 dX6_removeVisit_7 rfl ?_
    exact z_I g dX6_removeVisit_9 (InR_lit rfl) h
theorem dX7_append_0 : decode cX7_append 0 = .ok (.aload_n 0, 1) := by decide +kernel
theorem dX7_append_1 : decode cX7_append 1 = .ok (.getfield 24, 3) := by decide +kernel
theorem dX7_append_4 : decode cX7_append 4 = .ok (.bipush 120, 2) := by decide +kernel
theorem dX7_append_6 : decode cX7_append 6 = .ok (.if_icmp .ge 23, 3) := by decide +kernel
theorem dX7_append_9 : decode cX7_append 9 = .ok (.aload_n 0, 1) := by decide +kernel
theorem dX7_append_10 : decode cX7_append 10 = .ok (.getfield 9, 3) := by decide +kernel
theorem dX7_append_13 : decode cX7_append 13 = .ok (.aload_n 0, 1) := by decide +kernel
theorem dX7_append_14 : decode cX7_append 14 = .ok (.getfield 24, 3) := by decide +kernel
theorem dX7_append_17 : decode cX7_append 17 = .ok (.iload_n 1, 1) := by decide +kernel
theorem dX7_append_18 : decode cX7_append 18 = .ok (.iastore, 1) := by decide +kernel
theorem dX7_append_19 : decode cX7_append 19 = .ok (.aload_n 0, 1) := by decide +kernel
theorem dX7_append_20 : decode cX7_append 20 = .ok (.dup, 1) := by decide +kernel
theorem dX7_append_21 : decode cX7_append 21 = .ok (.getfield 24, 3) := by decide +kernel
theorem dX7_append_24 : decode cX7_append 24 = .ok (.iconst 1, 1) := by decide +kernel
theorem dX7_append_25 : decode cX7_append 25 = .ok (.iadd, 1) := by decide +kernel
theorem dX7_append_26 : decode cX7_append 26 = .ok (.putfield 24, 3) := by decide +kernel
theorem dX7_append_29 : decode cX7_append 29 = .ok (.aload_n 0, 1) := by decide +kernel
theorem dX7_append_30 : decode cX7_append 30 = .ok (.getfield 24, 3) := by decide +kernel
theorem dX7_append_33 : decode cX7_append 33 = .ok (.ireturn, 1) := by decide +kernel
set_option maxHeartbeats 4000000 in
set_option maxRecDepth 100000 in
theorem c_X7_append {E : u_E} {l : Launch} {o : u_O} {p1 : Int} (ho : is_Reader o) (i_p1 : InR p1) {s s' : u_S} {r : Int} (h : f_X7_append o p1 s = some (r, s')) : Con l (XE E) yX7_append cX7_append 2 (some .int) 0 0 0 0 [.ref (E.1 o), .int (J p1)] (Wd E s) (RI E r s') := by
  refine Con.of [some (.ref (E.1 o)), some (.int (J p1))] (by decide +kernel) rfl rfl (Nat.le_of_ble_eq_true rfl) (fun K g => ?_)
  have g0 := g.wk
  unfold f_X7_append at h
  refine r_aload_n g0 dX7_append_0 rfl ?_
  refine g_Reader_length g0 ho qX7_24 dX7_append_1 ?_
  refine r_bipush g0 dX7_append_4 rfl ?_
  obtain ⟨jp_1, hdjp_1, h⟩ := jn_some h
  have hjp_1 : ∀  (s_1 : u_S), jp_1 s_1 = some (r, s') → K 0 0 29 [some (.ref (E.1 o)), none] [] (Wd E s_1) := by
    intro s_1 h
    subst hdjp_1
    refine r_aload_n g0 dX7_append_29 rfl ?_
    refine g_Reader_length g0 ho qX7_24 dX7_append_30 ?_
    exact z_I g dX7_append_33 (InR_rd _ _ _) h
  clear hdjp_1
  refine r_icmp_ge g0 29 dX7_append_6 (by decide) (InR_rd _ _ _) (InR_lit rfl) (fun hc => ?_) (fun hc => ?_)
  · replace h := if_f hc h
    refine r_mask g0 (lv' := [some (.ref (E.1 o)), none]) [true, false] rfl ?_
    exact hjp_1 s h
  · replace h := if_t hc h
    refine r_aload_n g0 dX7_append_9 rfl ?_
    refine g_Reader_bytes g0 ho qX7_9 dX7_append_10 ?_
    refine r_aload_n g0 dX7_append_13 rfl ?_
    refine g_Reader_length g0 ho qX7_24 dX7_append_14 ?_
    refine r_iload_n g0 dX7_append_17 rfl ?_
    obtain ⟨hb, h⟩ := gd_some h
    refine r_iastore g0 (is_a_Reader_bytes ho) (n := 120) rfl (InR_rd _ _ _) hb dX7_append_18 ?_
    refine r_aload_n g0 dX7_append_19 rfl ?_
    refine r_dup g0 dX7_append_20 rfl ?_
    refine g_Reader_length g0 ho qX7_24 dX7_append_21 ?_
    refine r_iconst g0 dX7_append_24 ?_
    refine r_iadd g0 dX7_append_25 ?_
    refine p_Reader_length g0 ho qX7_24 dX7_append_26 ?_
    refine r_mask g0 (lv' := [some (.ref (E.1 o)), none]) [true, false] rfl ?_
    exact hjp_1 (wt (wt s (a_Reader_bytes o) (rd s o 4) p1) o 4 (wr ((rd (wt s (a_Reader_bytes o) (rd s o 4) p1) o 4) + 1))) h
theorem dX7_letter_0 : decode cX7_letter 0 = .ok (.iload_n 1, 1) := by decide +kernel
theorem dX7_letter_1 : decode cX7_letter 1 = .ok (.ifCond .lt 29, 3) := by decide +kernel
theorem dX7_letter_4 : decode cX7_letter 4 = .ok (.iload_n 1, 1) := by decide +kernel
theorem dX7_letter_5 : decode cX7_letter 5 = .ok (.aload_n 0, 1) := by decide +kernel
theorem dX7_letter_6 : decode cX7_letter 6 = .ok (.getfield 28, 3) := by decide +kernel
theorem dX7_letter_9 : decode cX7_letter 9 = .ok (.if_icmp .ge 21, 3) := by decide +kernel
theorem dX7_letter_12 : decode cX7_letter 12 = .ok (.aload_n 0, 1) := by decide +kernel
theorem dX7_letter_13 : decode cX7_letter 13 = .ok (.getfield 28, 3) := by decide +kernel
theorem dX7_letter_16 : decode cX7_letter 16 = .ok (.bipush 120, 2) := by decide +kernel
theorem dX7_letter_18 : decode cX7_letter 18 = .ok (.if_icmp .gt 12, 3) := by decide +kernel
theorem dX7_letter_21 : decode cX7_letter 21 = .ok (.aload_n 0, 1) := by decide +kernel
theorem dX7_letter_22 : decode cX7_letter 22 = .ok (.getfield 15, 3) := by decide +kernel
theorem dX7_letter_25 : decode cX7_letter 25 = .ok (.iload_n 1, 1) := by decide +kernel
theorem dX7_letter_26 : decode cX7_letter 26 = .ok (.iaload, 1) := by decide +kernel
theorem dX7_letter_27 : decode cX7_letter 27 = .ok (.goto 4, 3) := by decide +kernel
theorem dX7_letter_30 : decode cX7_letter 30 = .ok (.iconst (-1), 1) := by decide +kernel
theorem dX7_letter_31 : decode cX7_letter 31 = .ok (.ireturn, 1) := by decide +kernel
set_option maxHeartbeats 4000000 in
set_option maxRecDepth 100000 in
theorem c_X7_letter {E : u_E} {l : Launch} {o : u_O} {p1 : Int} (ho : is_Reader o) (i_p1 : InR p1) {s s' : u_S} {r : Int} (h : f_X7_letter o p1 s = some (r, s')) : Con l (XE E) yX7_letter cX7_letter 2 (some .int) 0 0 0 0 [.ref (E.1 o), .int (J p1)] (Wd E s) (RI E r s') := by
  refine Con.of [some (.ref (E.1 o)), some (.int (J p1))] (by decide +kernel) rfl rfl (Nat.le_of_ble_eq_true rfl) (fun K g => ?_)
  have g0 := g.wk
  unfold f_X7_letter at h
  refine r_iload_n g0 dX7_letter_0 rfl ?_
  refine r_if_lt g0 30 dX7_letter_1 (by decide) i_p1 (fun hc => ?_) (fun hc => ?_)
  · replace h := if_t hc h
    refine r_iconst g0 dX7_letter_30 ?_
    exact z_I g dX7_letter_31 (InR_lit rfl) h
  · replace h := if_f hc h
    refine r_iload_n g0 dX7_letter_4 rfl ?_
    refine r_aload_n g0 dX7_letter_5 rfl ?_
    refine g_Reader_orders g0 ho qX7_28 dX7_letter_6 ?_
    refine r_icmp_ge g0 30 dX7_letter_9 (by decide) i_p1 (InR_rd _ _ _) (fun hc => ?_) (fun hc => ?_)
    · replace h := if_f hc h
      refine r_iconst g0 dX7_letter_30 ?_
      exact z_I g dX7_letter_31 (InR_lit rfl) h
    · replace h := if_t hc h
      refine r_aload_n g0 dX7_letter_12 rfl ?_
      refine g_Reader_orders g0 ho qX7_28 dX7_letter_13 ?_
      refine r_bipush g0 dX7_letter_16 rfl ?_
      refine r_icmp_gt g0 30 dX7_letter_18 (by decide) (InR_rd _ _ _) (InR_lit rfl) (fun hc => ?_) (fun hc => ?_)
      · replace h := if_f hc h
        refine r_iconst g0 dX7_letter_30 ?_
        exact z_I g dX7_letter_31 (InR_lit rfl) h
      · replace h := if_t hc h
        refine r_aload_n g0 dX7_letter_21 rfl ?_
        refine g_Reader_letters g0 ho qX7_15 dX7_letter_22 ?_
        refine r_iload_n g0 dX7_letter_25 rfl ?_
        obtain ⟨hb, h⟩ := gd_some h
        refine r_iaload g0 (is_a_Reader_letters ho) (n := 120) rfl i_p1 hb dX7_letter_26 ?_
        refine r_goto g0 31 dX7_letter_27 (by decide) ?_
        exact z_I g dX7_letter_31 (InR_rd _ _ _) h
theorem dX7_firstNumber_0 : decode cX7_firstNumber 0 = .ok (.iload_n 1, 1) := by decide +kernel
theorem dX7_firstNumber_1 : decode cX7_firstNumber 1 = .ok (.ifCond .lt 29, 3) := by decide +kernel
theorem dX7_firstNumber_4 : decode cX7_firstNumber 4 = .ok (.iload_n 1, 1) := by decide +kernel
theorem dX7_firstNumber_5 : decode cX7_firstNumber 5 = .ok (.aload_n 0, 1) := by decide +kernel
theorem dX7_firstNumber_6 : decode cX7_firstNumber 6 = .ok (.getfield 28, 3) := by decide +kernel
theorem dX7_firstNumber_9 : decode cX7_firstNumber 9 = .ok (.if_icmp .ge 21, 3) := by decide +kernel
theorem dX7_firstNumber_12 : decode cX7_firstNumber 12 = .ok (.aload_n 0, 1) := by decide +kernel
theorem dX7_firstNumber_13 : decode cX7_firstNumber 13 = .ok (.getfield 28, 3) := by decide +kernel
theorem dX7_firstNumber_16 : decode cX7_firstNumber 16 = .ok (.bipush 120, 2) := by decide +kernel
theorem dX7_firstNumber_18 : decode cX7_firstNumber 18 = .ok (.if_icmp .gt 12, 3) := by decide +kernel
theorem dX7_firstNumber_21 : decode cX7_firstNumber 21 = .ok (.aload_n 0, 1) := by decide +kernel
theorem dX7_firstNumber_22 : decode cX7_firstNumber 22 = .ok (.getfield 18, 3) := by decide +kernel
theorem dX7_firstNumber_25 : decode cX7_firstNumber 25 = .ok (.iload_n 1, 1) := by decide +kernel
theorem dX7_firstNumber_26 : decode cX7_firstNumber 26 = .ok (.iaload, 1) := by decide +kernel
theorem dX7_firstNumber_27 : decode cX7_firstNumber 27 = .ok (.goto 7, 3) := by decide +kernel
theorem dX7_firstNumber_30 : decode cX7_firstNumber 30 = .ok (.aload_n 0, 1) := by decide +kernel
theorem dX7_firstNumber_31 : decode cX7_firstNumber 31 = .ok (.getfield 31, 3) := by decide +kernel
theorem dX7_firstNumber_34 : decode cX7_firstNumber 34 = .ok (.ireturn, 1) := by decide +kernel
set_option maxHeartbeats 4000000 in
set_option maxRecDepth 100000 in
theorem c_X7_firstNumber {E : u_E} {l : Launch} {o : u_O} {p1 : Int} (ho : is_Reader o) (i_p1 : InR p1) {s s' : u_S} {r : Int} (h : f_X7_firstNumber o p1 s = some (r, s')) : Con l (XE E) yX7_firstNumber cX7_firstNumber 2 (some .int) 0 0 0 0 [.ref (E.1 o), .int (J p1)] (Wd E s) (RI E r s') := by
  refine Con.of [some (.ref (E.1 o)), some (.int (J p1))] (by decide +kernel) rfl rfl (Nat.le_of_ble_eq_true rfl) (fun K g => ?_)
  have g0 := g.wk
  unfold f_X7_firstNumber at h
  refine r_iload_n g0 dX7_firstNumber_0 rfl ?_
  obtain ⟨jp_1, hdjp_1, h⟩ := jn_some h
  have hjp_1 : ∀  (s_1 : u_S), jp_1 s_1 = some (r, s') → K 0 0 30 [some (.ref (E.1 o)), none] [] (Wd E s_1) := by
    intro s_1 h
    subst hdjp_1
    refine r_aload_n g0 dX7_firstNumber_30 rfl ?_
    refine g_Reader_numberCount g0 ho qX7_31 dX7_firstNumber_31 ?_
    exact z_I g dX7_firstNumber_34 (InR_rd _ _ _) h
  clear hdjp_1
  refine r_if_lt g0 30 dX7_firstNumber_1 (by decide) i_p1 (fun hc => ?_) (fun hc => ?_)
  · replace h := if_t hc h
    refine r_mask g0 (lv' := [some (.ref (E.1 o)), none]) [true, false] rfl ?_
    exact hjp_1 s h
  · replace h := if_f hc h
    refine r_iload_n g0 dX7_firstNumber_4 rfl ?_
    refine r_aload_n g0 dX7_firstNumber_5 rfl ?_
    refine g_Reader_orders g0 ho qX7_28 dX7_firstNumber_6 ?_
    refine r_icmp_ge g0 30 dX7_firstNumber_9 (by decide) i_p1 (InR_rd _ _ _) (fun hc => ?_) (fun hc => ?_)
    · replace h := if_f hc h
      refine r_mask g0 (lv' := [some (.ref (E.1 o)), none]) [true, false] rfl ?_
      exact hjp_1 s h
    · replace h := if_t hc h
      refine r_aload_n g0 dX7_firstNumber_12 rfl ?_
      refine g_Reader_orders g0 ho qX7_28 dX7_firstNumber_13 ?_
      refine r_bipush g0 dX7_firstNumber_16 rfl ?_
      refine r_icmp_gt g0 30 dX7_firstNumber_18 (by decide) (InR_rd _ _ _) (InR_lit rfl) (fun hc => ?_) (fun hc => ?_)
      · replace h := if_f hc h
        refine r_mask g0 (lv' := [some (.ref (E.1 o)), none]) [true, false] rfl ?_
        exact hjp_1 s h
      · replace h := if_t hc h
        refine r_aload_n g0 dX7_firstNumber_21 rfl ?_
        refine g_Reader_starts g0 ho qX7_18 dX7_firstNumber_22 ?_
        refine r_iload_n g0 dX7_firstNumber_25 rfl ?_
        obtain ⟨hb, h⟩ := gd_some h
        refine r_iaload g0 (is_a_Reader_starts ho) (n := 120) rfl i_p1 hb dX7_firstNumber_26 ?_
        refine r_goto g0 34 dX7_firstNumber_27 (by decide) ?_
        exact z_I g dX7_firstNumber_34 (InR_rd _ _ _) h
theorem dX7_number_0 : decode cX7_number 0 = .ok (.iload_n 1, 1) := by decide +kernel
theorem dX7_number_1 : decode cX7_number 1 = .ok (.ifCond .lt 29, 3) := by decide +kernel
theorem dX7_number_4 : decode cX7_number 4 = .ok (.iload_n 1, 1) := by decide +kernel
theorem dX7_number_5 : decode cX7_number 5 = .ok (.aload_n 0, 1) := by decide +kernel
theorem dX7_number_6 : decode cX7_number 6 = .ok (.getfield 31, 3) := by decide +kernel
theorem dX7_number_9 : decode cX7_number 9 = .ok (.if_icmp .ge 21, 3) := by decide +kernel
theorem dX7_number_12 : decode cX7_number 12 = .ok (.aload_n 0, 1) := by decide +kernel
theorem dX7_number_13 : decode cX7_number 13 = .ok (.getfield 31, 3) := by decide +kernel
theorem dX7_number_16 : decode cX7_number 16 = .ok (.bipush 120, 2) := by decide +kernel
theorem dX7_number_18 : decode cX7_number 18 = .ok (.if_icmp .gt 12, 3) := by decide +kernel
theorem dX7_number_21 : decode cX7_number 21 = .ok (.aload_n 0, 1) := by decide +kernel
theorem dX7_number_22 : decode cX7_number 22 = .ok (.getfield 21, 3) := by decide +kernel
theorem dX7_number_25 : decode cX7_number 25 = .ok (.iload_n 1, 1) := by decide +kernel
theorem dX7_number_26 : decode cX7_number 26 = .ok (.iaload, 1) := by decide +kernel
theorem dX7_number_27 : decode cX7_number 27 = .ok (.goto 4, 3) := by decide +kernel
theorem dX7_number_30 : decode cX7_number 30 = .ok (.iconst (-1), 1) := by decide +kernel
theorem dX7_number_31 : decode cX7_number 31 = .ok (.ireturn, 1) := by decide +kernel
set_option maxHeartbeats 4000000 in
set_option maxRecDepth 100000 in
theorem c_X7_number {E : u_E} {l : Launch} {o : u_O} {p1 : Int} (ho : is_Reader o) (i_p1 : InR p1) {s s' : u_S} {r : Int} (h : f_X7_number o p1 s = some (r, s')) : Con l (XE E) yX7_number cX7_number 2 (some .int) 0 0 0 0 [.ref (E.1 o), .int (J p1)] (Wd E s) (RI E r s') := by
  refine Con.of [some (.ref (E.1 o)), some (.int (J p1))] (by decide +kernel) rfl rfl (Nat.le_of_ble_eq_true rfl) (fun K g => ?_)
  have g0 := g.wk
  unfold f_X7_number at h
  refine r_iload_n g0 dX7_number_0 rfl ?_
  refine r_if_lt g0 30 dX7_number_1 (by decide) i_p1 (fun hc => ?_) (fun hc => ?_)
  · replace h := if_t hc h
    refine r_iconst g0 dX7_number_30 ?_
    exact z_I g dX7_number_31 (InR_lit rfl) h
  · replace h := if_f hc h
    refine r_iload_n g0 dX7_number_4 rfl ?_
    refine r_aload_n g0 dX7_number_5 rfl ?_
    refine g_Reader_numberCount g0 ho qX7_31 dX7_number_6 ?_
    refine r_icmp_ge g0 30 dX7_number_9 (by decide) i_p1 (InR_rd _ _ _) (fun hc => ?_) (fun hc => ?_)
    · replace h := if_f hc h
      refine r_iconst g0 dX7_number_30 ?_
      exact z_I g dX7_number_31 (InR_lit rfl) h
    · replace h := if_t hc h
      refine r_aload_n g0 dX7_number_12 rfl ?_
      refine g_Reader_numberCount g0 ho qX7_31 dX7_number_13 ?_
      refine r_bipush g0 dX7_number_16 rfl ?_
      refine r_icmp_gt g0 30 dX7_number_18 (by decide) (InR_rd _ _ _) (InR_lit rfl) (fun hc => ?_) (fun hc => ?_)
      · replace h := if_f hc h
        refine r_iconst g0 dX7_number_30 ?_
        exact z_I g dX7_number_31 (InR_lit rfl) h
      · replace h := if_t hc h
        refine r_aload_n g0 dX7_number_21 rfl ?_
        refine g_Reader_numbers g0 ho qX7_21 dX7_number_22 ?_
        refine r_iload_n g0 dX7_number_25 rfl ?_
        obtain ⟨hb, h⟩ := gd_some h
        refine r_iaload g0 (is_a_Reader_numbers ho) (n := 120) rfl i_p1 hb dX7_number_26 ?_
        refine r_goto g0 31 dX7_number_27 (by decide) ?_
        exact z_I g dX7_number_31 (InR_rd _ _ _) h
theorem dX7_byteHere_0 : decode cX7_byteHere 0 = .ok (.aload_n 0, 1) := by decide +kernel
theorem dX7_byteHere_1 : decode cX7_byteHere 1 = .ok (.getfield 34, 3) := by decide +kernel
theorem dX7_byteHere_4 : decode cX7_byteHere 4 = .ok (.ifCond .lt 35, 3) := by decide +kernel
theorem dX7_byteHere_7 : decode cX7_byteHere 7 = .ok (.aload_n 0, 1) := by decide +kernel
theorem dX7_byteHere_8 : decode cX7_byteHere 8 = .ok (.getfield 34, 3) := by decide +kernel
theorem dX7_byteHere_11 : decode cX7_byteHere 11 = .ok (.aload_n 0, 1) := by decide +kernel
theorem dX7_byteHere_12 : decode cX7_byteHere 12 = .ok (.getfield 24, 3) := by decide +kernel
theorem dX7_byteHere_15 : decode cX7_byteHere 15 = .ok (.if_icmp .ge 24, 3) := by decide +kernel
theorem dX7_byteHere_18 : decode cX7_byteHere 18 = .ok (.aload_n 0, 1) := by decide +kernel
theorem dX7_byteHere_19 : decode cX7_byteHere 19 = .ok (.getfield 24, 3) := by decide +kernel
theorem dX7_byteHere_22 : decode cX7_byteHere 22 = .ok (.bipush 120, 2) := by decide +kernel
theorem dX7_byteHere_24 : decode cX7_byteHere 24 = .ok (.if_icmp .gt 15, 3) := by decide +kernel
theorem dX7_byteHere_27 : decode cX7_byteHere 27 = .ok (.aload_n 0, 1) := by decide +kernel
theorem dX7_byteHere_28 : decode cX7_byteHere 28 = .ok (.getfield 9, 3) := by decide +kernel
theorem dX7_byteHere_31 : decode cX7_byteHere 31 = .ok (.aload_n 0, 1) := by decide +kernel
theorem dX7_byteHere_32 : decode cX7_byteHere 32 = .ok (.getfield 34, 3) := by decide +kernel
theorem dX7_byteHere_35 : decode cX7_byteHere 35 = .ok (.iaload, 1) := by decide +kernel
theorem dX7_byteHere_36 : decode cX7_byteHere 36 = .ok (.goto 4, 3) := by decide +kernel
theorem dX7_byteHere_39 : decode cX7_byteHere 39 = .ok (.iconst (-1), 1) := by decide +kernel
theorem dX7_byteHere_40 : decode cX7_byteHere 40 = .ok (.ireturn, 1) := by decide +kernel
set_option maxHeartbeats 4000000 in
set_option maxRecDepth 100000 in
theorem c_X7_byteHere {E : u_E} {l : Launch} {o : u_O} (ho : is_Reader o) {s s' : u_S} {r : Int} (h : f_X7_byteHere o s = some (r, s')) : Con l (XE E) yX7_byteHere cX7_byteHere 1 (some .int) 0 0 0 0 [.ref (E.1 o)] (Wd E s) (RI E r s') := by
  refine Con.of [some (.ref (E.1 o))] (by decide +kernel) rfl rfl (Nat.le_of_ble_eq_true rfl) (fun K g => ?_)
  have g0 := g.wk
  unfold f_X7_byteHere at h
  refine r_aload_n g0 dX7_byteHere_0 rfl ?_
  refine g_Reader_place g0 ho qX7_34 dX7_byteHere_1 ?_
  refine r_if_lt g0 39 dX7_byteHere_4 (by decide) (InR_rd _ _ _) (fun hc => ?_) (fun hc => ?_)
  · replace h := if_t hc h
    refine r_iconst g0 dX7_byteHere_39 ?_
    exact z_I g dX7_byteHere_40 (InR_lit rfl) h
  · replace h := if_f hc h
    refine r_aload_n g0 dX7_byteHere_7 rfl ?_
    refine g_Reader_place g0 ho qX7_34 dX7_byteHere_8 ?_
    refine r_aload_n g0 dX7_byteHere_11 rfl ?_
    refine g_Reader_length g0 ho qX7_24 dX7_byteHere_12 ?_
    refine r_icmp_ge g0 39 dX7_byteHere_15 (by decide) (InR_rd _ _ _) (InR_rd _ _ _) (fun hc => ?_) (fun hc => ?_)
    · replace h := if_f hc h
      refine r_iconst g0 dX7_byteHere_39 ?_
      exact z_I g dX7_byteHere_40 (InR_lit rfl) h
    · replace h := if_t hc h
      refine r_aload_n g0 dX7_byteHere_18 rfl ?_
      refine g_Reader_length g0 ho qX7_24 dX7_byteHere_19 ?_
      refine r_bipush g0 dX7_byteHere_22 rfl ?_
      refine r_icmp_gt g0 39 dX7_byteHere_24 (by decide) (InR_rd _ _ _) (InR_lit rfl) (fun hc => ?_) (fun hc => ?_)
      · replace h := if_f hc h
        refine r_iconst g0 dX7_byteHere_39 ?_
        exact z_I g dX7_byteHere_40 (InR_lit rfl) h
      · replace h := if_t hc h
        refine r_aload_n g0 dX7_byteHere_27 rfl ?_
        refine g_Reader_bytes g0 ho qX7_9 dX7_byteHere_28 ?_
        refine r_aload_n g0 dX7_byteHere_31 rfl ?_
        refine g_Reader_place g0 ho qX7_34 dX7_byteHere_32 ?_
        obtain ⟨hb, h⟩ := gd_some h
        refine r_iaload g0 (is_a_Reader_bytes ho) (n := 120) rfl (InR_rd _ _ _) hb dX7_byteHere_35 ?_
        refine r_goto g0 40 dX7_byteHere_36 (by decide) ?_
        exact z_I g dX7_byteHere_40 (InR_rd _ _ _) h
theorem dX7_skipBlanks_0 : decode cX7_skipBlanks 0 = .ok (.aload_n 0, 1) := by decide +kernel
theorem dX7_skipBlanks_1 : decode cX7_skipBlanks 1 = .ok (.getfield 34, 3) := by decide +kernel
theorem dX7_skipBlanks_4 : decode cX7_skipBlanks 4 = .ok (.aload_n 0, 1) := by decide +kernel
theorem dX7_skipBlanks_5 : decode cX7_skipBlanks 5 = .ok (.getfield 24, 3) := by decide +kernel
theorem dX7_skipBlanks_8 : decode cX7_skipBlanks 8 = .ok (.if_icmp .ge 25, 3) := by decide +kernel
theorem dX7_skipBlanks_11 : decode cX7_skipBlanks 11 = .ok (.aload_n 0, 1) := by decide +kernel
theorem dX7_skipBlanks_12 : decode cX7_skipBlanks 12 = .ok (.invokevirtual 46, 3) := by decide +kernel
theorem dX7_skipBlanks_15 : decode cX7_skipBlanks 15 = .ok (.bipush 32, 2) := by decide +kernel
theorem dX7_skipBlanks_17 : decode cX7_skipBlanks 17 = .ok (.if_icmp .ne 16, 3) := by decide +kernel
theorem dX7_skipBlanks_20 : decode cX7_skipBlanks 20 = .ok (.aload_n 0, 1) := by decide +kernel
theorem dX7_skipBlanks_21 : decode cX7_skipBlanks 21 = .ok (.dup, 1) := by decide +kernel
theorem dX7_skipBlanks_22 : decode cX7_skipBlanks 22 = .ok (.getfield 34, 3) := by decide +kernel
theorem dX7_skipBlanks_25 : decode cX7_skipBlanks 25 = .ok (.iconst 1, 1) := by decide +kernel
theorem dX7_skipBlanks_26 : decode cX7_skipBlanks 26 = .ok (.iadd, 1) := by decide +kernel
theorem dX7_skipBlanks_27 : decode cX7_skipBlanks 27 = .ok (.putfield 34, 3) := by decide +kernel
theorem dX7_skipBlanks_30 : decode cX7_skipBlanks 30 = .ok (.goto (-30), 3) := by decide +kernel
theorem dX7_skipBlanks_33 : decode cX7_skipBlanks 33 = .ok (.return_, 1) := by decide +kernel
set_option maxHeartbeats 4000000 in
set_option maxRecDepth 100000 in
theorem t_X7_skipBlanks_L0 {l : Launch} {E : u_E} {K : u_K} {r : Int} {s' : u_S} (g : Wk l (XE E) { frames := 1, cells := 0, slots := 0, locals := 20 } cX7_skipBlanks 1 yX7_skipBlanks.cls yX7_skipBlanks.name none (RV E r s') K) {v0_1 : u_O} (i_v0_1 : is_Reader v0_1) {kx33 : u_S → Option (Int × u_S)} (hkx33 : ∀ (s_4 : u_S), kx33 s_4 = some (r, s') → K 0 0 33 [none] [] (Wd E s_4)) : ∀ (m : Nat) (s_2 : u_S), f_X7_skipBlanks_L0 m kx33 v0_1 s_2 = some (r, s') → K 0 0 0 [some (.ref (E.1 v0_1))] [] (Wd E s_2) := by
  have g0 := g.wk
  intro m
  induction m with
  | zero =>
    intro s_2 h
    exact absurd (show (none : Option (Int × u_S)) = some (r, s') from h) (by intro z; cases z)
  | succ m ih =>
    intro s_2 h
    rw [f_X7_skipBlanks_L0] at h
    refine r_aload_n g0 dX7_skipBlanks_0 rfl ?_
    refine g_Reader_place g0 i_v0_1 qX7_34 dX7_skipBlanks_1 ?_
    refine r_aload_n g0 dX7_skipBlanks_4 rfl ?_
    refine g_Reader_length g0 i_v0_1 qX7_24 dX7_skipBlanks_5 ?_
    refine r_icmp_ge g0 33 dX7_skipBlanks_8 (by decide) (InR_rd _ _ _) (InR_rd _ _ _) (fun hc => ?_) (fun hc => ?_)
    · replace h := if_f hc h
      refine r_mask g0 (lv' := [none]) [false] rfl ?_
      exact hkx33 s_2 h
    · replace h := if_t hc h
      refine r_aload_n g0 dX7_skipBlanks_11 rfl ?_
      obtain ⟨r_1, s_3, hr_1, h⟩ := bd_some h
      refine r_cVI g0 (rest := []) (c_X7_byteHere i_v0_1 hr_1) ok_X7_byteHere mX7_46 (recv_Reader i_v0_1) dX7_skipBlanks_12 ⟨Nat.le_of_ble_eq_true rfl, Nat.le_of_ble_eq_true rfl⟩ ⟨Nat.zero_le _, Nat.zero_le _⟩ rfl (Nat.le_of_ble_eq_true rfl) rfl (fun i_r_1 => ?_)
      refine r_bipush g0 dX7_skipBlanks_15 rfl ?_
      refine r_icmp_ne g0 33 dX7_skipBlanks_17 (by decide) i_r_1 (InR_lit rfl) (fun hc => ?_) (fun hc => ?_)
      · replace h := if_f hc h
        refine r_mask g0 (lv' := [none]) [false] rfl ?_
        exact hkx33 s_3 h
      · replace h := if_t hc h
        refine r_aload_n g0 dX7_skipBlanks_20 rfl ?_
        refine r_dup g0 dX7_skipBlanks_21 rfl ?_
        refine g_Reader_place g0 i_v0_1 qX7_34 dX7_skipBlanks_22 ?_
        refine r_iconst g0 dX7_skipBlanks_25 ?_
        refine r_iadd g0 dX7_skipBlanks_26 ?_
        refine p_Reader_place g0 i_v0_1 qX7_34 dX7_skipBlanks_27 ?_
        refine r_goto g0 0 dX7_skipBlanks_30 (by decide) ?_
        exact ih (wt s_3 v0_1 7 (wr ((rd s_3 v0_1 7) + 1))) h
set_option maxHeartbeats 4000000 in
set_option maxRecDepth 100000 in
theorem c_X7_skipBlanks {E : u_E} {l : Launch} {o : u_O} (ho : is_Reader o) {s s' : u_S} {r : Int} (h : f_X7_skipBlanks o s = some (r, s')) : Con l (XE E) yX7_skipBlanks cX7_skipBlanks 1 none 1 20 0 0 [.ref (E.1 o)] (Wd E s) (RV E r s') := by
  refine Con.of [some (.ref (E.1 o))] (by decide +kernel) rfl rfl (Nat.le_of_ble_eq_true rfl) (fun K g => ?_)
  have g0 := g.wk
  unfold f_X7_skipBlanks at h
  refine t_X7_skipBlanks_L0 g ho ?_ FU s h
  · intro s_1 h
    exact z_V g dX7_skipBlanks_33 h
theorem dX7_fail_0 : decode cX7_fail 0 = .ok (.aload_n 0, 1) := by decide +kernel
theorem dX7_fail_1 : decode cX7_fail 1 = .ok (.getfield 37, 3) := by decide +kernel
theorem dX7_fail_4 : decode cX7_fail 4 = .ok (.iconst (-1), 1) := by decide +kernel
theorem dX7_fail_5 : decode cX7_fail 5 = .ok (.if_icmp .ne 8, 3) := by decide +kernel
theorem dX7_fail_8 : decode cX7_fail 8 = .ok (.aload_n 0, 1) := by decide +kernel
theorem dX7_fail_9 : decode cX7_fail 9 = .ok (.iload_n 1, 1) := by decide +kernel
theorem dX7_fail_10 : decode cX7_fail 10 = .ok (.putfield 37, 3) := by decide +kernel
theorem dX7_fail_13 : decode cX7_fail 13 = .ok (.return_, 1) := by decide +kernel
set_option maxHeartbeats 4000000 in
set_option maxRecDepth 100000 in
theorem c_X7_fail {E : u_E} {l : Launch} {o : u_O} {p1 : Int} (ho : is_Reader o) (i_p1 : InR p1) {s s' : u_S} {r : Int} (h : f_X7_fail o p1 s = some (r, s')) : Con l (XE E) yX7_fail cX7_fail 2 none 0 0 0 0 [.ref (E.1 o), .int (J p1)] (Wd E s) (RV E r s') := by
  refine Con.of [some (.ref (E.1 o)), some (.int (J p1))] (by decide +kernel) rfl rfl (Nat.le_of_ble_eq_true rfl) (fun K g => ?_)
  have g0 := g.wk
  unfold f_X7_fail at h
  refine r_aload_n g0 dX7_fail_0 rfl ?_
  refine g_Reader_fault g0 ho qX7_37 dX7_fail_1 ?_
  refine r_iconst g0 dX7_fail_4 ?_
  refine r_icmp_ne g0 13 dX7_fail_5 (by decide) (InR_rd _ _ _) (InR_lit rfl) (fun hc => ?_) (fun hc => ?_)
  · replace h := if_f hc h
    exact z_V g dX7_fail_13 h
  · replace h := if_t hc h
    refine r_aload_n g0 dX7_fail_8 rfl ?_
    refine r_iload_n g0 dX7_fail_9 rfl ?_
    refine p_Reader_fault g0 ho qX7_37 dX7_fail_10 ?_
    exact z_V g dX7_fail_13 h
theorem dX7_open_0 : decode cX7_open 0 = .ok (.aload_n 0, 1) := by decide +kernel
theorem dX7_open_1 : decode cX7_open 1 = .ok (.getfield 28, 3) := by decide +kernel
theorem dX7_open_4 : decode cX7_open 4 = .ok (.bipush 120, 2) := by decide +kernel
theorem dX7_open_6 : decode cX7_open 6 = .ok (.if_icmp .lt 4, 3) := by decide +kernel
theorem dX7_open_9 : decode cX7_open 9 = .ok (.return_, 1) := by decide +kernel
theorem dX7_open_10 : decode cX7_open 10 = .ok (.aload_n 0, 1) := by decide +kernel
theorem dX7_open_11 : decode cX7_open 11 = .ok (.getfield 15, 3) := by decide +kernel
theorem dX7_open_14 : decode cX7_open 14 = .ok (.aload_n 0, 1) := by decide +kernel
theorem dX7_open_15 : decode cX7_open 15 = .ok (.getfield 28, 3) := by decide +kernel
theorem dX7_open_18 : decode cX7_open 18 = .ok (.iload_n 1, 1) := by decide +kernel
theorem dX7_open_19 : decode cX7_open 19 = .ok (.iastore, 1) := by decide +kernel
theorem dX7_open_20 : decode cX7_open 20 = .ok (.aload_n 0, 1) := by decide +kernel
theorem dX7_open_21 : decode cX7_open 21 = .ok (.getfield 18, 3) := by decide +kernel
theorem dX7_open_24 : decode cX7_open 24 = .ok (.aload_n 0, 1) := by decide +kernel
theorem dX7_open_25 : decode cX7_open 25 = .ok (.getfield 28, 3) := by decide +kernel
theorem dX7_open_28 : decode cX7_open 28 = .ok (.aload_n 0, 1) := by decide +kernel
theorem dX7_open_29 : decode cX7_open 29 = .ok (.getfield 31, 3) := by decide +kernel
theorem dX7_open_32 : decode cX7_open 32 = .ok (.iastore, 1) := by decide +kernel
theorem dX7_open_33 : decode cX7_open 33 = .ok (.aload_n 0, 1) := by decide +kernel
theorem dX7_open_34 : decode cX7_open 34 = .ok (.dup, 1) := by decide +kernel
theorem dX7_open_35 : decode cX7_open 35 = .ok (.getfield 28, 3) := by decide +kernel
theorem dX7_open_38 : decode cX7_open 38 = .ok (.iconst 1, 1) := by decide +kernel
theorem dX7_open_39 : decode cX7_open 39 = .ok (.iadd, 1) := by decide +kernel
theorem dX7_open_40 : decode cX7_open 40 = .ok (.putfield 28, 3) := by decide +kernel
theorem dX7_open_43 : decode cX7_open 43 = .ok (.return_, 1) := by decide +kernel
set_option maxHeartbeats 4000000 in
set_option maxRecDepth 100000 in
theorem c_X7_open {E : u_E} {l : Launch} {o : u_O} {p1 : Int} (ho : is_Reader o) (i_p1 : InR p1) {s s' : u_S} {r : Int} (h : f_X7_open o p1 s = some (r, s')) : Con l (XE E) yX7_open cX7_open 2 none 0 0 0 0 [.ref (E.1 o), .int (J p1)] (Wd E s) (RV E r s') := by
  refine Con.of [some (.ref (E.1 o)), some (.int (J p1))] (by decide +kernel) rfl rfl (Nat.le_of_ble_eq_true rfl) (fun K g => ?_)
  have g0 := g.wk
  unfold f_X7_open at h
  refine r_aload_n g0 dX7_open_0 rfl ?_
  refine g_Reader_orders g0 ho qX7_28 dX7_open_1 ?_
  refine r_bipush g0 dX7_open_4 rfl ?_
  refine r_icmp_lt g0 10 dX7_open_6 (by decide) (InR_rd _ _ _) (InR_lit rfl) (fun hc => ?_) (fun hc => ?_)
  · replace h := if_t hc h
    refine r_aload_n g0 dX7_open_10 rfl ?_
    refine g_Reader_letters g0 ho qX7_15 dX7_open_11 ?_
    refine r_aload_n g0 dX7_open_14 rfl ?_
    refine g_Reader_orders g0 ho qX7_28 dX7_open_15 ?_
    refine r_iload_n g0 dX7_open_18 rfl ?_
    obtain ⟨hb, h⟩ := gd_some h
    refine r_iastore g0 (is_a_Reader_letters ho) (n := 120) rfl (InR_rd _ _ _) hb dX7_open_19 ?_
    refine r_aload_n g0 dX7_open_20 rfl ?_
    refine g_Reader_starts g0 ho qX7_18 dX7_open_21 ?_
    refine r_aload_n g0 dX7_open_24 rfl ?_
    refine g_Reader_orders g0 ho qX7_28 dX7_open_25 ?_
    refine r_aload_n g0 dX7_open_28 rfl ?_
    refine g_Reader_numberCount g0 ho qX7_31 dX7_open_29 ?_
    obtain ⟨hb, h⟩ := gd_some h
    refine r_iastore g0 (is_a_Reader_starts ho) (n := 120) rfl (InR_rd _ _ _) hb dX7_open_32 ?_
    refine r_aload_n g0 dX7_open_33 rfl ?_
    refine r_dup g0 dX7_open_34 rfl ?_
    refine g_Reader_orders g0 ho qX7_28 dX7_open_35 ?_
    refine r_iconst g0 dX7_open_38 ?_
    refine r_iadd g0 dX7_open_39 ?_
    refine p_Reader_orders g0 ho qX7_28 dX7_open_40 ?_
    exact z_V g dX7_open_43 h
  · replace h := if_f hc h
    exact z_V g dX7_open_9 h
theorem dX7_isFigure_0 : decode cX7_isFigure 0 = .ok (.iload_n 0, 1) := by decide +kernel
theorem dX7_isFigure_1 : decode cX7_isFigure 1 = .ok (.bipush 48, 2) := by decide +kernel
theorem dX7_isFigure_3 : decode cX7_isFigure 3 = .ok (.if_icmp .lt 13, 3) := by decide +kernel
theorem dX7_isFigure_6 : decode cX7_isFigure 6 = .ok (.iload_n 0, 1) := by decide +kernel
theorem dX7_isFigure_7 : decode cX7_isFigure 7 = .ok (.bipush 57, 2) := by decide +kernel
theorem dX7_isFigure_9 : decode cX7_isFigure 9 = .ok (.if_icmp .gt 7, 3) := by decide +kernel
theorem dX7_isFigure_12 : decode cX7_isFigure 12 = .ok (.iconst 1, 1) := by decide +kernel
theorem dX7_isFigure_13 : decode cX7_isFigure 13 = .ok (.goto 4, 3) := by decide +kernel
theorem dX7_isFigure_16 : decode cX7_isFigure 16 = .ok (.iconst 0, 1) := by decide +kernel
theorem dX7_isFigure_17 : decode cX7_isFigure 17 = .ok (.ireturn, 1) := by decide +kernel
set_option maxHeartbeats 4000000 in
set_option maxRecDepth 100000 in
theorem c_X7_isFigure {E : u_E} {l : Launch} {p1 : Int} (i_p1 : InR p1) {s s' : u_S} {r : Int} (h : f_X7_isFigure p1 s = some (r, s')) : Con l (XE E) yX7_isFigure cX7_isFigure 1 (some .boolean) 0 0 0 0 [.int (J p1)] (Wd E s) (RZ E r s') := by
  refine Con.of [some (.int (J p1))] (by decide +kernel) rfl rfl (Nat.le_of_ble_eq_true rfl) (fun K g => ?_)
  have g0 := g.wk
  unfold f_X7_isFigure at h
  refine r_iload_n g0 dX7_isFigure_0 rfl ?_
  refine r_bipush g0 dX7_isFigure_1 rfl ?_
  refine r_icmp_lt g0 16 dX7_isFigure_3 (by decide) i_p1 (InR_lit rfl) (fun hc => ?_) (fun hc => ?_)
  · replace h := if_t hc h
    refine r_iconst g0 dX7_isFigure_16 ?_
    exact z_Z g dX7_isFigure_17 B01_0 h
  · replace h := if_f hc h
    refine r_iload_n g0 dX7_isFigure_6 rfl ?_
    refine r_bipush g0 dX7_isFigure_7 rfl ?_
    refine r_icmp_gt g0 16 dX7_isFigure_9 (by decide) i_p1 (InR_lit rfl) (fun hc => ?_) (fun hc => ?_)
    · replace h := if_f hc h
      refine r_iconst g0 dX7_isFigure_16 ?_
      exact z_Z g dX7_isFigure_17 B01_0 h
    · replace h := if_t hc h
      refine r_iconst g0 dX7_isFigure_12 ?_
      refine r_goto g0 17 dX7_isFigure_13 (by decide) ?_
      exact z_Z g dX7_isFigure_17 B01_1 h
theorem dX7_take_0 : decode cX7_take 0 = .ok (.aload_n 0, 1) := by decide +kernel
theorem dX7_take_1 : decode cX7_take 1 = .ok (.getfield 31, 3) := by decide +kernel
theorem dX7_take_4 : decode cX7_take 4 = .ok (.bipush 120, 2) := by decide +kernel
theorem dX7_take_6 : decode cX7_take 6 = .ok (.if_icmp .lt 4, 3) := by decide +kernel
theorem dX7_take_9 : decode cX7_take 9 = .ok (.return_, 1) := by decide +kernel
theorem dX7_take_10 : decode cX7_take 10 = .ok (.aload_n 0, 1) := by decide +kernel
theorem dX7_take_11 : decode cX7_take 11 = .ok (.getfield 21, 3) := by decide +kernel
theorem dX7_take_14 : decode cX7_take 14 = .ok (.aload_n 0, 1) := by decide +kernel
theorem dX7_take_15 : decode cX7_take 15 = .ok (.getfield 31, 3) := by decide +kernel
theorem dX7_take_18 : decode cX7_take 18 = .ok (.iload_n 1, 1) := by decide +kernel
theorem dX7_take_19 : decode cX7_take 19 = .ok (.iastore, 1) := by decide +kernel
theorem dX7_take_20 : decode cX7_take 20 = .ok (.aload_n 0, 1) := by decide +kernel
theorem dX7_take_21 : decode cX7_take 21 = .ok (.dup, 1) := by decide +kernel
theorem dX7_take_22 : decode cX7_take 22 = .ok (.getfield 31, 3) := by decide +kernel
theorem dX7_take_25 : decode cX7_take 25 = .ok (.iconst 1, 1) := by decide +kernel
theorem dX7_take_26 : decode cX7_take 26 = .ok (.iadd, 1) := by decide +kernel
theorem dX7_take_27 : decode cX7_take 27 = .ok (.putfield 31, 3) := by decide +kernel
theorem dX7_take_30 : decode cX7_take 30 = .ok (.return_, 1) := by decide +kernel
set_option maxHeartbeats 4000000 in
set_option maxRecDepth 100000 in
theorem c_X7_take {E : u_E} {l : Launch} {o : u_O} {p1 : Int} (ho : is_Reader o) (i_p1 : InR p1) {s s' : u_S} {r : Int} (h : f_X7_take o p1 s = some (r, s')) : Con l (XE E) yX7_take cX7_take 2 none 0 0 0 0 [.ref (E.1 o), .int (J p1)] (Wd E s) (RV E r s') := by
  refine Con.of [some (.ref (E.1 o)), some (.int (J p1))] (by decide +kernel) rfl rfl (Nat.le_of_ble_eq_true rfl) (fun K g => ?_)
  have g0 := g.wk
  unfold f_X7_take at h
  refine r_aload_n g0 dX7_take_0 rfl ?_
  refine g_Reader_numberCount g0 ho qX7_31 dX7_take_1 ?_
  refine r_bipush g0 dX7_take_4 rfl ?_
  refine r_icmp_lt g0 10 dX7_take_6 (by decide) (InR_rd _ _ _) (InR_lit rfl) (fun hc => ?_) (fun hc => ?_)
  · replace h := if_t hc h
    refine r_aload_n g0 dX7_take_10 rfl ?_
    refine g_Reader_numbers g0 ho qX7_21 dX7_take_11 ?_
    refine r_aload_n g0 dX7_take_14 rfl ?_
    refine g_Reader_numberCount g0 ho qX7_31 dX7_take_15 ?_
    refine r_iload_n g0 dX7_take_18 rfl ?_
    obtain ⟨hb, h⟩ := gd_some h
    refine r_iastore g0 (is_a_Reader_numbers ho) (n := 120) rfl (InR_rd _ _ _) hb dX7_take_19 ?_
    refine r_aload_n g0 dX7_take_20 rfl ?_
    refine r_dup g0 dX7_take_21 rfl ?_
    refine g_Reader_numberCount g0 ho qX7_31 dX7_take_22 ?_
    refine r_iconst g0 dX7_take_25 ?_
    refine r_iadd g0 dX7_take_26 ?_
    refine p_Reader_numberCount g0 ho qX7_31 dX7_take_27 ?_
    exact z_V g dX7_take_30 h
  · replace h := if_f hc h
    exact z_V g dX7_take_9 h
