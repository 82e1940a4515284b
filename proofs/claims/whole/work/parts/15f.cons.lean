/-! THE CONTRACTS: the bytecode does what the functions say (by program, wip/whole/gen) -/
theorem dX10_toNextRow_0 : decode cX10_toNextRow 0 = .ok (.iload_n 1, 1) := by decide +kernel
theorem dX10_toNextRow_1 : decode cX10_toNextRow 1 = .ok (.aload_n 0, 1) := by decide +kernel
theorem dX10_toNextRow_2 : decode cX10_toNextRow 2 = .ok (.arraylength, 1) := by decide +kernel
theorem dX10_toNextRow_3 : decode cX10_toNextRow 3 = .ok (.if_icmp .le 5, 3) := by decide +kernel
theorem dX10_toNextRow_6 : decode cX10_toNextRow 6 = .ok (.iconst 0, 1) := by decide +kernel
theorem dX10_toNextRow_7 : decode cX10_toNextRow 7 = .ok (.ireturn, 1) := by decide +kernel
theorem dX10_toNextRow_8 : decode cX10_toNextRow 8 = .ok (.iload_n 1, 1) := by decide +kernel
theorem dX10_toNextRow_9 : decode cX10_toNextRow 9 = .ok (.iconst 2, 1) := by decide +kernel
theorem dX10_toNextRow_10 : decode cX10_toNextRow 10 = .ok (.isub, 1) := by decide +kernel
theorem dX10_toNextRow_11 : decode cX10_toNextRow 11 = .ok (.istore_n 2, 1) := by decide +kernel
theorem dX10_toNextRow_12 : decode cX10_toNextRow 12 = .ok (.iload_n 2, 1) := by decide +kernel
theorem dX10_toNextRow_13 : decode cX10_toNextRow 13 = .ok (.ifCond .lt 20, 3) := by decide +kernel
theorem dX10_toNextRow_16 : decode cX10_toNextRow 16 = .ok (.aload_n 0, 1) := by decide +kernel
theorem dX10_toNextRow_17 : decode cX10_toNextRow 17 = .ok (.iload_n 2, 1) := by decide +kernel
theorem dX10_toNextRow_18 : decode cX10_toNextRow 18 = .ok (.iaload, 1) := by decide +kernel
theorem dX10_toNextRow_19 : decode cX10_toNextRow 19 = .ok (.aload_n 0, 1) := by decide +kernel
theorem dX10_toNextRow_20 : decode cX10_toNextRow 20 = .ok (.iload_n 2, 1) := by decide +kernel
theorem dX10_toNextRow_21 : decode cX10_toNextRow 21 = .ok (.iconst 1, 1) := by decide +kernel
theorem dX10_toNextRow_22 : decode cX10_toNextRow 22 = .ok (.iadd, 1) := by decide +kernel
theorem dX10_toNextRow_23 : decode cX10_toNextRow 23 = .ok (.iaload, 1) := by decide +kernel
theorem dX10_toNextRow_24 : decode cX10_toNextRow 24 = .ok (.if_icmp .le 9, 3) := by decide +kernel
theorem dX10_toNextRow_27 : decode cX10_toNextRow 27 = .ok (.iinc 2 (-1), 3) := by decide +kernel
theorem dX10_toNextRow_30 : decode cX10_toNextRow 30 = .ok (.goto (-18), 3) := by decide +kernel
theorem dX10_toNextRow_33 : decode cX10_toNextRow 33 = .ok (.iload_n 2, 1) := by decide +kernel
theorem dX10_toNextRow_34 : decode cX10_toNextRow 34 = .ok (.ifCond .ge 5, 3) := by decide +kernel
theorem dX10_toNextRow_37 : decode cX10_toNextRow 37 = .ok (.iconst 0, 1) := by decide +kernel
theorem dX10_toNextRow_38 : decode cX10_toNextRow 38 = .ok (.ireturn, 1) := by decide +kernel
theorem dX10_toNextRow_39 : decode cX10_toNextRow 39 = .ok (.iload_n 1, 1) := by decide +kernel
theorem dX10_toNextRow_40 : decode cX10_toNextRow 40 = .ok (.iconst 1, 1) := by decide +kernel
theorem dX10_toNextRow_41 : decode cX10_toNextRow 41 = .ok (.isub, 1) := by decide +kernel
theorem dX10_toNextRow_42 : decode cX10_toNextRow 42 = .ok (.istore_n 3, 1) := by decide +kernel
theorem dX10_toNextRow_43 : decode cX10_toNextRow 43 = .ok (.iload_n 3, 1) := by decide +kernel
theorem dX10_toNextRow_44 : decode cX10_toNextRow 44 = .ok (.iload_n 2, 1) := by decide +kernel
theorem dX10_toNextRow_45 : decode cX10_toNextRow 45 = .ok (.iconst 1, 1) := by decide +kernel
theorem dX10_toNextRow_46 : decode cX10_toNextRow 46 = .ok (.iadd, 1) := by decide +kernel
theorem dX10_toNextRow_47 : decode cX10_toNextRow 47 = .ok (.if_icmp .le 18, 3) := by decide +kernel
theorem dX10_toNextRow_50 : decode cX10_toNextRow 50 = .ok (.aload_n 0, 1) := by decide +kernel
theorem dX10_toNextRow_51 : decode cX10_toNextRow 51 = .ok (.iload_n 3, 1) := by decide +kernel
theorem dX10_toNextRow_52 : decode cX10_toNextRow 52 = .ok (.iaload, 1) := by decide +kernel
theorem dX10_toNextRow_53 : decode cX10_toNextRow 53 = .ok (.aload_n 0, 1) := by decide +kernel
theorem dX10_toNextRow_54 : decode cX10_toNextRow 54 = .ok (.iload_n 2, 1) := by decide +kernel
theorem dX10_toNextRow_55 : decode cX10_toNextRow 55 = .ok (.iaload, 1) := by decide +kernel
theorem dX10_toNextRow_56 : decode cX10_toNextRow 56 = .ok (.if_icmp .ge 9, 3) := by decide +kernel
theorem dX10_toNextRow_59 : decode cX10_toNextRow 59 = .ok (.iinc 3 (-1), 3) := by decide +kernel
theorem dX10_toNextRow_62 : decode cX10_toNextRow 62 = .ok (.goto (-19), 3) := by decide +kernel
theorem dX10_toNextRow_65 : decode cX10_toNextRow 65 = .ok (.aload_n 0, 1) := by decide +kernel
theorem dX10_toNextRow_66 : decode cX10_toNextRow 66 = .ok (.iload_n 2, 1) := by decide +kernel
theorem dX10_toNextRow_67 : decode cX10_toNextRow 67 = .ok (.iload_n 3, 1) := by decide +kernel
theorem dX10_toNextRow_68 : decode cX10_toNextRow 68 = .ok (.invokestatic 388, 3) := by decide +kernel
theorem dX10_toNextRow_71 : decode cX10_toNextRow 71 = .ok (.iload_n 2, 1) := by decide +kernel
theorem dX10_toNextRow_72 : decode cX10_toNextRow 72 = .ok (.iconst 1, 1) := by decide +kernel
theorem dX10_toNextRow_73 : decode cX10_toNextRow 73 = .ok (.iadd, 1) := by decide +kernel
theorem dX10_toNextRow_74 : decode cX10_toNextRow 74 = .ok (.istore 4, 2) := by decide +kernel
theorem dX10_toNextRow_76 : decode cX10_toNextRow 76 = .ok (.iload_n 1, 1) := by decide +kernel
theorem dX10_toNextRow_77 : decode cX10_toNextRow 77 = .ok (.iconst 1, 1) := by decide +kernel
theorem dX10_toNextRow_78 : decode cX10_toNextRow 78 = .ok (.isub, 1) := by decide +kernel
theorem dX10_toNextRow_79 : decode cX10_toNextRow 79 = .ok (.istore 5, 2) := by decide +kernel
theorem dX10_toNextRow_81 : decode cX10_toNextRow 81 = .ok (.iload 4, 2) := by decide +kernel
theorem dX10_toNextRow_83 : decode cX10_toNextRow 83 = .ok (.iload 5, 2) := by decide +kernel
theorem dX10_toNextRow_85 : decode cX10_toNextRow 85 = .ok (.if_icmp .ge 20, 3) := by decide +kernel
theorem dX10_toNextRow_88 : decode cX10_toNextRow 88 = .ok (.aload_n 0, 1) := by decide +kernel
theorem dX10_toNextRow_89 : decode cX10_toNextRow 89 = .ok (.iload 4, 2) := by decide +kernel
theorem dX10_toNextRow_91 : decode cX10_toNextRow 91 = .ok (.iload 5, 2) := by decide +kernel
theorem dX10_toNextRow_93 : decode cX10_toNextRow 93 = .ok (.invokestatic 388, 3) := by decide +kernel
theorem dX10_toNextRow_96 : decode cX10_toNextRow 96 = .ok (.iinc 4 1, 3) := by decide +kernel
theorem dX10_toNextRow_99 : decode cX10_toNextRow 99 = .ok (.iinc 5 (-1), 3) := by decide +kernel
theorem dX10_toNextRow_102 : decode cX10_toNextRow 102 = .ok (.goto (-21), 3) := by decide +kernel
theorem dX10_toNextRow_105 : decode cX10_toNextRow 105 = .ok (.iconst 1, 1) := by decide +kernel
theorem dX10_toNextRow_106 : decode cX10_toNextRow 106 = .ok (.ireturn, 1) := by decide +kernel
set_option maxHeartbeats 4000000 in
set_option maxRecDepth 100000 in
theorem t_X10_toNextRow_L81 {l : Launch} {E : u_E} {K : u_K} {r : Int} {s' : u_S} (g : Wk l (XE E) { frames := 1, cells := 0, slots := 0, locals := 23 } cX10_toNextRow 6 yX10_toNextRow.cls yX10_toNextRow.name (some .boolean) (RZ E r s') K) {v0_1 : u_O} (i_v0_1 : is_A v0_1) {kx105 : u_S → Option (Int × u_S)} (hkx105 : ∀ (s_7 : u_S), kx105 s_7 = some (r, s') → K 0 0 105 [none, none, none, none, none, none] [] (Wd E s_7)) : ∀ (m : Nat) (v4_1 : Int) (v5_1 : Int) (s_5 : u_S), InR v4_1 → InR v5_1 → f_X10_toNextRow_L81 m kx105 v0_1 v4_1 v5_1 s_5 = some (r, s') → K 0 0 81 [some (.ref (E.1 v0_1)), none, none, none, some (.int (J v4_1)), some (.int (J v5_1))] [] (Wd E s_5) := by
  have g0 := g.wk
  intro m
  induction m with
  | zero =>
    intro v4_1 v5_1 s_5 i_v4_1 i_v5_1 h
    exact absurd (show (none : Option (Int × u_S)) = some (r, s') from h) (by intro z; cases z)
  | succ m ih =>
    intro v4_1 v5_1 s_5 i_v4_1 i_v5_1 h
    rw [f_X10_toNextRow_L81] at h
    refine r_iload g0 dX10_toNextRow_81 rfl ?_
    refine r_iload g0 dX10_toNextRow_83 rfl ?_
    refine r_icmp_ge g0 105 dX10_toNextRow_85 (by decide) i_v4_1 i_v5_1 (fun hc => ?_) (fun hc => ?_)
    · replace h := if_f hc h
      refine r_mask g0 (lv' := [none, none, none, none, none, none]) [false, false, false, false, false, false] rfl ?_
      exact hkx105 s_5 h
    · replace h := if_t hc h
      refine r_aload_n g0 dX10_toNextRow_88 rfl ?_
      refine r_iload g0 dX10_toNextRow_89 rfl ?_
      refine r_iload g0 dX10_toNextRow_91 rfl ?_
      obtain ⟨r_2, s_6, hr_2, h⟩ := bd_some h
      refine r_cSV g0 (rest := []) (c_X10_exchange i_v0_1 i_v4_1 i_v5_1 hr_2) ok_X10_exchange mX10_388 dX10_toNextRow_93 ⟨Nat.le_of_ble_eq_true rfl, Nat.le_of_ble_eq_true rfl⟩ ⟨Nat.zero_le _, Nat.zero_le _⟩ rfl (Nat.le_of_ble_eq_true rfl) rfl ?_
      refine r_iinc g0 (a := v4_1) (lv' := [some (.ref (E.1 v0_1)), none, none, none, some (.int (J (wr (v4_1 + 1)))), some (.int (J v5_1))]) dX10_toNextRow_96 (by decide) rfl rfl rfl ?_
      refine r_iinc g0 (a := v5_1) (lv' := [some (.ref (E.1 v0_1)), none, none, none, some (.int (J (wr (v4_1 + 1)))), some (.int (J (wr (v5_1 + (-1)))))]) dX10_toNextRow_99 (by decide) rfl rfl rfl ?_
      refine r_goto g0 81 dX10_toNextRow_102 (by decide) ?_
      exact ih (wr (v4_1 + 1)) (wr (v5_1 + (-1))) s_6 (InR_wr _) (InR_wr _) h
set_option maxHeartbeats 4000000 in
set_option maxRecDepth 100000 in
theorem t_X10_toNextRow_L43 {l : Launch} {E : u_E} {K : u_K} {r : Int} {s' : u_S} (g : Wk l (XE E) { frames := 1, cells := 0, slots := 0, locals := 23 } cX10_toNextRow 6 yX10_toNextRow.cls yX10_toNextRow.name (some .boolean) (RZ E r s') K) {v0_2 : u_O} {v1_1 : Int} {v2_2 : Int} (i_v0_2 : is_A v0_2) (i_v1_1 : InR v1_1) (i_v2_2 : InR v2_2) {kx65 : Int → u_S → Option (Int × u_S)} (hkx65 : ∀ (v3_3 : Int) (s_9 : u_S), InR v3_3 → kx65 v3_3 s_9 = some (r, s') → K 0 0 65 [some (.ref (E.1 v0_2)), some (.int (J v1_1)), some (.int (J v2_2)), some (.int (J v3_3)), none, none] [] (Wd E s_9)) : ∀ (m : Nat) (v3_2 : Int) (s_8 : u_S), InR v3_2 → f_X10_toNextRow_L43 m kx65 v0_2 v1_1 v2_2 v3_2 s_8 = some (r, s') → K 0 0 43 [some (.ref (E.1 v0_2)), some (.int (J v1_1)), some (.int (J v2_2)), some (.int (J v3_2)), none, none] [] (Wd E s_8) := by
  have g0 := g.wk
  intro m
  induction m with
  | zero =>
    intro v3_2 s_8 i_v3_2 h
    exact absurd (show (none : Option (Int × u_S)) = some (r, s') from h) (by intro z; cases z)
  | succ m ih =>
    intro v3_2 s_8 i_v3_2 h
    rw [f_X10_toNextRow_L43] at h
    refine r_iload_n g0 dX10_toNextRow_43 rfl ?_
    refine r_iload_n g0 dX10_toNextRow_44 rfl ?_
    refine r_iconst g0 dX10_toNextRow_45 ?_
    refine r_iadd g0 dX10_toNextRow_46 ?_
    refine r_icmp_le g0 65 dX10_toNextRow_47 (by decide) i_v3_2 (InR_wr _) (fun hc => ?_) (fun hc => ?_)
    · replace h := if_t hc h
      exact hkx65 v3_2 s_8 i_v3_2 h
    · replace h := if_f hc h
      refine r_aload_n g0 dX10_toNextRow_50 rfl ?_
      refine r_iload_n g0 dX10_toNextRow_51 rfl ?_
      obtain ⟨hb, h⟩ := gd_some h
      refine r_iaload g0 i_v0_2 (n := (alen v0_2)) rfl i_v3_2 hb dX10_toNextRow_52 ?_
      refine r_aload_n g0 dX10_toNextRow_53 rfl ?_
      refine r_iload_n g0 dX10_toNextRow_54 rfl ?_
      obtain ⟨hb, h⟩ := gd_some h
      refine r_iaload g0 i_v0_2 (n := (alen v0_2)) rfl i_v2_2 hb dX10_toNextRow_55 ?_
      refine r_icmp_ge g0 65 dX10_toNextRow_56 (by decide) (InR_rd _ _ _) (InR_rd _ _ _) (fun hc => ?_) (fun hc => ?_)
      · replace h := if_f hc h
        exact hkx65 v3_2 s_8 i_v3_2 h
      · replace h := if_t hc h
        refine r_iinc g0 (a := v3_2) (lv' := [some (.ref (E.1 v0_2)), some (.int (J v1_1)), some (.int (J v2_2)), some (.int (J (wr (v3_2 + (-1))))), none, none]) dX10_toNextRow_59 (by decide) rfl rfl rfl ?_
        refine r_goto g0 43 dX10_toNextRow_62 (by decide) ?_
        exact ih (wr (v3_2 + (-1))) s_8 (InR_wr _) h
set_option maxHeartbeats 4000000 in
set_option maxRecDepth 100000 in
theorem t_X10_toNextRow_L12 {l : Launch} {E : u_E} {K : u_K} {r : Int} {s' : u_S} (g : Wk l (XE E) { frames := 1, cells := 0, slots := 0, locals := 23 } cX10_toNextRow 6 yX10_toNextRow.cls yX10_toNextRow.name (some .boolean) (RZ E r s') K) {v0_3 : u_O} {v1_2 : Int} (i_v0_3 : is_A v0_3) (i_v1_2 : InR v1_2) {kx33 : Int → u_S → Option (Int × u_S)} (hkx33 : ∀ (v2_4 : Int) (s_11 : u_S), InR v2_4 → kx33 v2_4 s_11 = some (r, s') → K 0 0 33 [some (.ref (E.1 v0_3)), some (.int (J v1_2)), some (.int (J v2_4)), none, none, none] [] (Wd E s_11)) : ∀ (m : Nat) (v2_3 : Int) (s_10 : u_S), InR v2_3 → f_X10_toNextRow_L12 m kx33 v0_3 v1_2 v2_3 s_10 = some (r, s') → K 0 0 12 [some (.ref (E.1 v0_3)), some (.int (J v1_2)), some (.int (J v2_3)), none, none, none] [] (Wd E s_10) := by
  have g0 := g.wk
  intro m
  induction m with
  | zero =>
    intro v2_3 s_10 i_v2_3 h
    exact absurd (show (none : Option (Int × u_S)) = some (r, s') from h) (by intro z; cases z)
  | succ m ih =>
    intro v2_3 s_10 i_v2_3 h
    rw [f_X10_toNextRow_L12] at h
    refine r_iload_n g0 dX10_toNextRow_12 rfl ?_
    refine r_if_lt g0 33 dX10_toNextRow_13 (by decide) i_v2_3 (fun hc => ?_) (fun hc => ?_)
    · replace h := if_t hc h
      exact hkx33 v2_3 s_10 i_v2_3 h
    · replace h := if_f hc h
      refine r_aload_n g0 dX10_toNextRow_16 rfl ?_
      refine r_iload_n g0 dX10_toNextRow_17 rfl ?_
      obtain ⟨hb, h⟩ := gd_some h
      refine r_iaload g0 i_v0_3 (n := (alen v0_3)) rfl i_v2_3 hb dX10_toNextRow_18 ?_
      refine r_aload_n g0 dX10_toNextRow_19 rfl ?_
      refine r_iload_n g0 dX10_toNextRow_20 rfl ?_
      refine r_iconst g0 dX10_toNextRow_21 ?_
      refine r_iadd g0 dX10_toNextRow_22 ?_
      obtain ⟨hb, h⟩ := gd_some h
      refine r_iaload g0 i_v0_3 (n := (alen v0_3)) rfl (InR_wr _) hb dX10_toNextRow_23 ?_
      refine r_icmp_le g0 33 dX10_toNextRow_24 (by decide) (InR_rd _ _ _) (InR_rd _ _ _) (fun hc => ?_) (fun hc => ?_)
      · replace h := if_t hc h
        exact hkx33 v2_3 s_10 i_v2_3 h
      · replace h := if_f hc h
        refine r_iinc g0 (a := v2_3) (lv' := [some (.ref (E.1 v0_3)), some (.int (J v1_2)), some (.int (J (wr (v2_3 + (-1))))), none, none, none]) dX10_toNextRow_27 (by decide) rfl rfl rfl ?_
        refine r_goto g0 12 dX10_toNextRow_30 (by decide) ?_
        exact ih (wr (v2_3 + (-1))) s_10 (InR_wr _) h
set_option maxHeartbeats 4000000 in
set_option maxRecDepth 100000 in
theorem c_X10_toNextRow {E : u_E} {l : Launch} {p1 : u_O} {p2 : Int} (i_p1 : is_A p1) (i_p2 : InR p2) {s s' : u_S} {r : Int} (h : f_X10_toNextRow p1 p2 s = some (r, s')) : Con l (XE E) yX10_toNextRow cX10_toNextRow 6 (some .boolean) 1 23 0 0 [.ref (E.1 p1), .int (J p2)] (Wd E s) (RZ E r s') := by
  refine Con.of [some (.ref (E.1 p1)), some (.int (J p2)), none, none, none, none] (by decide +kernel) rfl rfl (Nat.le_of_ble_eq_true rfl) (fun K g => ?_)
  have g0 := g.wk
  unfold f_X10_toNextRow at h
  refine r_iload_n g0 dX10_toNextRow_0 rfl ?_
  refine r_aload_n g0 dX10_toNextRow_1 rfl ?_
  refine r_alen g0 i_p1 dX10_toNextRow_2 ?_
  refine r_icmp_le g0 8 dX10_toNextRow_3 (by decide) i_p2 (InR_alen p1) (fun hc => ?_) (fun hc => ?_)
  · replace h := if_t hc h
    refine r_iload_n g0 dX10_toNextRow_8 rfl ?_
    refine r_iconst g0 dX10_toNextRow_9 ?_
    refine r_isub g0 dX10_toNextRow_10 ?_
    refine r_istore_n g0 (lv' := [some (.ref (E.1 p1)), some (.int (J p2)), some (.int (J (wr (p2 - 2)))), none, none, none]) dX10_toNextRow_11 (by decide) rfl rfl ?_
    refine t_X10_toNextRow_L12 g i_p1 i_p2 ?_ FU (wr (p2 - 2)) s (InR_wr _) h
    · intro v2_1 s_1 i_v2_1 h
      refine r_iload_n g0 dX10_toNextRow_33 rfl ?_
      refine r_if_ge g0 39 dX10_toNextRow_34 (by decide) i_v2_1 (fun hc => ?_) (fun hc => ?_)
      · replace h := if_f hc h
        refine r_iload_n g0 dX10_toNextRow_39 rfl ?_
        refine r_iconst g0 dX10_toNextRow_40 ?_
        refine r_isub g0 dX10_toNextRow_41 ?_
        refine r_istore_n g0 (lv' := [some (.ref (E.1 p1)), some (.int (J p2)), some (.int (J v2_1)), some (.int (J (wr (p2 - 1)))), none, none]) dX10_toNextRow_42 (by decide) rfl rfl ?_
        refine t_X10_toNextRow_L43 g i_p1 i_p2 i_v2_1 ?_ FU (wr (p2 - 1)) s_1 (InR_wr _) h
        · intro v3_1 s_2 i_v3_1 h
          refine r_aload_n g0 dX10_toNextRow_65 rfl ?_
          refine r_iload_n g0 dX10_toNextRow_66 rfl ?_
          refine r_iload_n g0 dX10_toNextRow_67 rfl ?_
          obtain ⟨r_1, s_3, hr_1, h⟩ := bd_some h
          refine r_cSV g0 (rest := []) (c_X10_exchange i_p1 i_v2_1 i_v3_1 hr_1) ok_X10_exchange mX10_388 dX10_toNextRow_68 ⟨Nat.le_of_ble_eq_true rfl, Nat.le_of_ble_eq_true rfl⟩ ⟨Nat.zero_le _, Nat.zero_le _⟩ rfl (Nat.le_of_ble_eq_true rfl) rfl ?_
          refine r_iload_n g0 dX10_toNextRow_71 rfl ?_
          refine r_iconst g0 dX10_toNextRow_72 ?_
          refine r_iadd g0 dX10_toNextRow_73 ?_
          refine r_istore g0 (lv' := [some (.ref (E.1 p1)), some (.int (J p2)), some (.int (J v2_1)), some (.int (J v3_1)), some (.int (J (wr (v2_1 + 1)))), none]) dX10_toNextRow_74 (by decide) rfl rfl ?_
          refine r_iload_n g0 dX10_toNextRow_76 rfl ?_
          refine r_iconst g0 dX10_toNextRow_77 ?_
          refine r_isub g0 dX10_toNextRow_78 ?_
          refine r_istore g0 (lv' := [some (.ref (E.1 p1)), some (.int (J p2)), some (.int (J v2_1)), some (.int (J v3_1)), some (.int (J (wr (v2_1 + 1)))), some (.int (J (wr (p2 - 1))))]) dX10_toNextRow_79 (by decide) rfl rfl ?_
          refine r_mask g0 (lv' := [some (.ref (E.1 p1)), none, none, none, some (.int (J (wr (v2_1 + 1)))), some (.int (J (wr (p2 - 1))))]) [true, false, false, false, true, true] rfl ?_
          refine t_X10_toNextRow_L81 g i_p1 ?_ FU (wr (v2_1 + 1)) (wr (p2 - 1)) s_3 (InR_wr _) (InR_wr _) h
          · intro s_4 h
            refine r_iconst g0 dX10_toNextRow_105 ?_
            exact z_Z g dX10_toNextRow_106 B01_1 h
      · replace h := if_t hc h
        refine r_iconst g0 dX10_toNextRow_37 ?_
        exact z_Z g dX10_toNextRow_38 B01_0 h
  · replace h := if_f hc h
    refine r_iconst g0 dX10_toNextRow_6 ?_
    exact z_Z g dX10_toNextRow_7 B01_0 h
theorem dX9_find_0 : decode cX9_find 0 = .ok (.aload_n 1, 1) := by decide +kernel
theorem dX9_find_1 : decode cX9_find 1 = .ok (.getfield 18, 3) := by decide +kernel
theorem dX9_find_4 : decode cX9_find 4 = .ok (.iconst 5, 1) := by decide +kernel
theorem dX9_find_5 : decode cX9_find 5 = .ok (.invokestatic 24, 3) := by decide +kernel
theorem dX9_find_8 : decode cX9_find 8 = .ok (.istore_n 2, 1) := by decide +kernel
theorem dX9_find_9 : decode cX9_find 9 = .ok (.aload_n 0, 1) := by decide +kernel
theorem dX9_find_10 : decode cX9_find 10 = .ok (.aload_n 1, 1) := by decide +kernel
theorem dX9_find_11 : decode cX9_find 11 = .ok (.getfield 30, 3) := by decide +kernel
theorem dX9_find_14 : decode cX9_find 14 = .ok (.iload_n 2, 1) := by decide +kernel
theorem dX9_find_15 : decode cX9_find 15 = .ok (.invokevirtual 33, 3) := by decide +kernel
theorem dX9_find_18 : decode cX9_find 18 = .ok (.aload_n 0, 1) := by decide +kernel
theorem dX9_find_19 : decode cX9_find 19 = .ok (.ldc 37, 2) := by decide +kernel
theorem dX9_find_21 : decode cX9_find 21 = .ok (.putfield 38, 3) := by decide +kernel
theorem dX9_find_24 : decode cX9_find 24 = .ok (.iconst 1, 1) := by decide +kernel
theorem dX9_find_25 : decode cX9_find 25 = .ok (.istore_n 3, 1) := by decide +kernel
theorem dX9_find_26 : decode cX9_find 26 = .ok (.iconst 0, 1) := by decide +kernel
theorem dX9_find_27 : decode cX9_find 27 = .ok (.istore 4, 2) := by decide +kernel
theorem dX9_find_29 : decode cX9_find 29 = .ok (.iload 4, 2) := by decide +kernel
theorem dX9_find_31 : decode cX9_find 31 = .ok (.bipush 120, 2) := by decide +kernel
theorem dX9_find_33 : decode cX9_find 33 = .ok (.if_icmp .ge 77, 3) := by decide +kernel
theorem dX9_find_36 : decode cX9_find 36 = .ok (.iload_n 3, 1) := by decide +kernel
theorem dX9_find_37 : decode cX9_find 37 = .ok (.ifCond .eq 73, 3) := by decide +kernel
theorem dX9_find_40 : decode cX9_find 40 = .ok (.aload_n 0, 1) := by decide +kernel
theorem dX9_find_41 : decode cX9_find 41 = .ok (.aload_n 1, 1) := by decide +kernel
theorem dX9_find_42 : decode cX9_find 42 = .ok (.getfield 41, 3) := by decide +kernel
theorem dX9_find_45 : decode cX9_find 45 = .ok (.iload_n 2, 1) := by decide +kernel
theorem dX9_find_46 : decode cX9_find 46 = .ok (.invokevirtual 44, 3) := by decide +kernel
theorem dX9_find_49 : decode cX9_find 49 = .ok (.istore 5, 2) := by decide +kernel
theorem dX9_find_51 : decode cX9_find 51 = .ok (.iload 5, 2) := by decide +kernel
theorem dX9_find_53 : decode cX9_find 53 = .ok (.aload_n 0, 1) := by decide +kernel
theorem dX9_find_54 : decode cX9_find 54 = .ok (.getfield 38, 3) := by decide +kernel
theorem dX9_find_57 : decode cX9_find 57 = .ok (.if_icmp .ge 38, 3) := by decide +kernel
theorem dX9_find_60 : decode cX9_find 60 = .ok (.aload_n 0, 1) := by decide +kernel
theorem dX9_find_61 : decode cX9_find 61 = .ok (.iload 5, 2) := by decide +kernel
theorem dX9_find_63 : decode cX9_find 63 = .ok (.putfield 38, 3) := by decide +kernel
theorem dX9_find_66 : decode cX9_find 66 = .ok (.iconst 0, 1) := by decide +kernel
theorem dX9_find_67 : decode cX9_find 67 = .ok (.istore 6, 2) := by decide +kernel
theorem dX9_find_69 : decode cX9_find 69 = .ok (.iload 6, 2) := by decide +kernel
theorem dX9_find_71 : decode cX9_find 71 = .ok (.iload_n 2, 1) := by decide +kernel
theorem dX9_find_72 : decode cX9_find 72 = .ok (.if_icmp .ge 23, 3) := by decide +kernel
theorem dX9_find_75 : decode cX9_find 75 = .ok (.aload_n 0, 1) := by decide +kernel
theorem dX9_find_76 : decode cX9_find 76 = .ok (.getfield 9, 3) := by decide +kernel
theorem dX9_find_79 : decode cX9_find 79 = .ok (.iload 6, 2) := by decide +kernel
theorem dX9_find_81 : decode cX9_find 81 = .ok (.aload_n 0, 1) := by decide +kernel
theorem dX9_find_82 : decode cX9_find 82 = .ok (.getfield 15, 3) := by decide +kernel
theorem dX9_find_85 : decode cX9_find 85 = .ok (.iload 6, 2) := by decide +kernel
theorem dX9_find_87 : decode cX9_find 87 = .ok (.iaload, 1) := by decide +kernel
theorem dX9_find_88 : decode cX9_find 88 = .ok (.iastore, 1) := by decide +kernel
theorem dX9_find_89 : decode cX9_find 89 = .ok (.iinc 6 1, 3) := by decide +kernel
theorem dX9_find_92 : decode cX9_find 92 = .ok (.goto (-23), 3) := by decide +kernel
theorem dX9_find_95 : decode cX9_find 95 = .ok (.aload_n 0, 1) := by decide +kernel
theorem dX9_find_96 : decode cX9_find 96 = .ok (.getfield 15, 3) := by decide +kernel
theorem dX9_find_99 : decode cX9_find 99 = .ok (.iload_n 2, 1) := by decide +kernel
theorem dX9_find_100 : decode cX9_find 100 = .ok (.invokestatic 47, 3) := by decide +kernel
theorem dX9_find_103 : decode cX9_find 103 = .ok (.istore_n 3, 1) := by decide +kernel
theorem dX9_find_104 : decode cX9_find 104 = .ok (.iinc 4 1, 3) := by decide +kernel
theorem dX9_find_107 : decode cX9_find 107 = .ok (.goto (-78), 3) := by decide +kernel
theorem dX9_find_110 : decode cX9_find 110 = .ok (.return_, 1) := by decide +kernel
set_option maxHeartbeats 4000000 in
set_option maxRecDepth 100000 in
theorem t_X9_find_L69 {l : Launch} {E : u_E} {K : u_K} {r : Int} {s' : u_S} (g : Wk l (XE E) { frames := 4, cells := 0, slots := 0, locals := 92 } cX9_find 7 yX9_find.cls yX9_find.name none (RV E r s') K) {v0_2 : u_O} {v1_2 : u_O} {v2_2 : Int} {v4_2 : Int} (i_v0_2 : is_Tour v0_2) (i_v1_2 : is_Plan v1_2) (i_v2_2 : InR v2_2) (i_v4_2 : InR v4_2) {kx95 : u_S → Option (Int × u_S)} (hkx95 : ∀ (s_10 : u_S), kx95 s_10 = some (r, s') → K 0 0 95 [some (.ref (E.1 v0_2)), some (.ref (E.1 v1_2)), some (.int (J v2_2)), none, some (.int (J v4_2)), none, none] [] (Wd E s_10)) : ∀ (m : Nat) (v6_1 : Int) (s_9 : u_S), InR v6_1 → f_X9_find_L69 m kx95 v0_2 v1_2 v2_2 v4_2 v6_1 s_9 = some (r, s') → K 0 0 69 [some (.ref (E.1 v0_2)), some (.ref (E.1 v1_2)), some (.int (J v2_2)), none, some (.int (J v4_2)), none, some (.int (J v6_1))] [] (Wd E s_9) := by
  have g0 := g.wk
  intro m
  induction m with
  | zero =>
    intro v6_1 s_9 i_v6_1 h
    exact absurd (show (none : Option (Int × u_S)) = some (r, s') from h) (by intro z; cases z)
  | succ m ih =>
    intro v6_1 s_9 i_v6_1 h
    rw [f_X9_find_L69] at h
    refine r_iload g0 dX9_find_69 rfl ?_
    refine r_iload_n g0 dX9_find_71 rfl ?_
    refine r_icmp_ge g0 95 dX9_find_72 (by decide) i_v6_1 i_v2_2 (fun hc => ?_) (fun hc => ?_)
    · replace h := if_f hc h
      refine r_mask g0 (lv' := [some (.ref (E.1 v0_2)), some (.ref (E.1 v1_2)), some (.int (J v2_2)), none, some (.int (J v4_2)), none, none]) [true, true, true, false, true, false, false] rfl ?_
      exact hkx95 s_9 h
    · replace h := if_t hc h
      refine r_aload_n g0 dX9_find_75 rfl ?_
      refine g_Tour_best g0 i_v0_2 qX9_9 dX9_find_76 ?_
      refine r_iload g0 dX9_find_79 rfl ?_
      refine r_aload_n g0 dX9_find_81 rfl ?_
      refine g_Tour_tried g0 i_v0_2 qX9_15 dX9_find_82 ?_
      refine r_iload g0 dX9_find_85 rfl ?_
      obtain ⟨hb, h⟩ := gd_some h
      refine r_iaload g0 (is_a_Tour_tried i_v0_2) (n := 5) rfl i_v6_1 hb dX9_find_87 ?_
      obtain ⟨hb, h⟩ := gd_some h
      refine r_iastore g0 (is_a_Tour_best i_v0_2) (n := 5) rfl i_v6_1 hb dX9_find_88 ?_
      refine r_iinc g0 (a := v6_1) (lv' := [some (.ref (E.1 v0_2)), some (.ref (E.1 v1_2)), some (.int (J v2_2)), none, some (.int (J v4_2)), none, some (.int (J (wr (v6_1 + 1))))]) dX9_find_89 (by decide) rfl rfl rfl ?_
      refine r_goto g0 69 dX9_find_92 (by decide) ?_
      exact ih (wr (v6_1 + 1)) (wt s_9 (a_Tour_best v0_2) v6_1 (rd s_9 (a_Tour_tried v0_2) v6_1)) (InR_wr _) h
set_option maxHeartbeats 4000000 in
set_option maxRecDepth 100000 in
theorem t_X9_find_L29 {l : Launch} {E : u_E} {K : u_K} {r : Int} {s' : u_S} (g : Wk l (XE E) { frames := 4, cells := 0, slots := 0, locals := 92 } cX9_find 7 yX9_find.cls yX9_find.name none (RV E r s') K) {v0_1 : u_O} {v1_1 : u_O} {v2_1 : Int} (i_v0_1 : is_Tour v0_1) (i_v1_1 : is_Plan v1_1) (i_v2_1 : InR v2_1) {kx110 : u_S → Option (Int × u_S)} (hkx110 : ∀ (s_11 : u_S), kx110 s_11 = some (r, s') → K 0 0 110 [none, none, none, none, none, none, none] [] (Wd E s_11)) : ∀ (m : Nat) (v3_1 : Int) (v4_1 : Int) (s_4 : u_S), B01 v3_1 → InR v4_1 → f_X9_find_L29 m kx110 v0_1 v1_1 v2_1 v3_1 v4_1 s_4 = some (r, s') → K 0 0 29 [some (.ref (E.1 v0_1)), some (.ref (E.1 v1_1)), some (.int (J v2_1)), some (.int (J v3_1)), some (.int (J v4_1)), none, none] [] (Wd E s_4) := by
  have g0 := g.wk
  intro m
  induction m with
  | zero =>
    intro v3_1 v4_1 s_4 i_v3_1 i_v4_1 h
    exact absurd (show (none : Option (Int × u_S)) = some (r, s') from h) (by intro z; cases z)
  | succ m ih =>
    intro v3_1 v4_1 s_4 i_v3_1 i_v4_1 h
    rw [f_X9_find_L29] at h
    refine r_iload g0 dX9_find_29 rfl ?_
    refine r_bipush g0 dX9_find_31 rfl ?_
    refine r_icmp_ge g0 110 dX9_find_33 (by decide) i_v4_1 (InR_lit rfl) (fun hc => ?_) (fun hc => ?_)
    · replace h := if_f hc h
      refine r_mask g0 (lv' := [none, none, none, none, none, none, none]) [false, false, false, false, false, false, false] rfl ?_
      exact hkx110 s_4 h
    · replace h := if_t hc h
      refine r_iload_n g0 dX9_find_36 rfl ?_
      refine r_if_eq g0 110 dX9_find_37 (by decide) (B01.inR i_v3_1) (fun hc => ?_) (fun hc => ?_)
      · replace h := if_t hc h
        refine r_mask g0 (lv' := [none, none, none, none, none, none, none]) [false, false, false, false, false, false, false] rfl ?_
        exact hkx110 s_4 h
      · replace h := if_f hc h
        refine r_aload_n g0 dX9_find_40 rfl ?_
        refine r_aload_n g0 dX9_find_41 rfl ?_
        refine g_Plan_home g0 i_v1_1 qX9_41 dX9_find_42 ?_
        refine r_iload_n g0 dX9_find_45 rfl ?_
        obtain ⟨r_3, s_5, hr_3, h⟩ := bd_some h
        refine r_cVI g0 (rest := []) (c_X9_lengthFrom i_v0_1 (InR_rd _ _ _) i_v2_1 hr_3) ok_X9_lengthFrom mX9_44 (recv_Tour i_v0_1) dX9_find_46 ⟨Nat.le_of_ble_eq_true rfl, Nat.le_of_ble_eq_true rfl⟩ ⟨Nat.zero_le _, Nat.zero_le _⟩ rfl (Nat.le_of_ble_eq_true rfl) rfl (fun i_r_3 => ?_)
        refine r_istore g0 (lv' := [some (.ref (E.1 v0_1)), some (.ref (E.1 v1_1)), some (.int (J v2_1)), some (.int (J v3_1)), some (.int (J v4_1)), some (.int (J r_3)), none]) dX9_find_49 (by decide) rfl rfl ?_
        refine r_iload g0 dX9_find_51 rfl ?_
        refine r_aload_n g0 dX9_find_53 rfl ?_
        refine g_Tour_length g0 i_v0_1 qX9_38 dX9_find_54 ?_
        obtain ⟨jp_1, hdjp_1, h⟩ := jn_some h
        have hjp_1 : ∀  (s_6 : u_S), jp_1 s_6 = some (r, s') → K 0 0 95 [some (.ref (E.1 v0_1)), some (.ref (E.1 v1_1)), some (.int (J v2_1)), none, some (.int (J v4_1)), none, none] [] (Wd E s_6) := by
          intro s_6 h
          subst hdjp_1
          refine r_aload_n g0 dX9_find_95 rfl ?_
          refine g_Tour_tried g0 i_v0_1 qX9_15 dX9_find_96 ?_
          refine r_iload_n g0 dX9_find_99 rfl ?_
          obtain ⟨r_4, s_7, hr_4, h⟩ := bd_some h
          refine r_cNZ g0 (rest := []) (c_X10_toNextRow (is_a_Tour_tried i_v0_1) i_v2_1 hr_4) ok_X10_toNextRow mX9_47 dX9_find_100 ⟨Nat.le_of_ble_eq_true rfl, Nat.le_of_ble_eq_true rfl⟩ ⟨Nat.zero_le _, Nat.zero_le _⟩ rfl (Nat.le_of_ble_eq_true rfl) rfl (fun i_r_4 => ?_)
          refine r_istore_n g0 (lv' := [some (.ref (E.1 v0_1)), some (.ref (E.1 v1_1)), some (.int (J v2_1)), some (.int (J r_4)), some (.int (J v4_1)), none, none]) dX9_find_103 (by decide) rfl rfl ?_
          refine r_iinc g0 (a := v4_1) (lv' := [some (.ref (E.1 v0_1)), some (.ref (E.1 v1_1)), some (.int (J v2_1)), some (.int (J r_4)), some (.int (J (wr (v4_1 + 1)))), none, none]) dX9_find_104 (by decide) rfl rfl rfl ?_
          refine r_goto g0 29 dX9_find_107 (by decide) ?_
          exact ih r_4 (wr (v4_1 + 1)) s_7 i_r_4 (InR_wr _) h
        clear hdjp_1
        refine r_icmp_ge g0 95 dX9_find_57 (by decide) i_r_3 (InR_rd _ _ _) (fun hc => ?_) (fun hc => ?_)
        · replace h := if_f hc h
          refine r_mask g0 (lv' := [some (.ref (E.1 v0_1)), some (.ref (E.1 v1_1)), some (.int (J v2_1)), none, some (.int (J v4_1)), none, none]) [true, true, true, false, true, false, false] rfl ?_
          exact hjp_1 s_5 h
        · replace h := if_t hc h
          refine r_aload_n g0 dX9_find_60 rfl ?_
          refine r_iload g0 dX9_find_61 rfl ?_
          refine p_Tour_length g0 i_v0_1 qX9_38 dX9_find_63 ?_
          refine r_iconst g0 dX9_find_66 ?_
          refine r_istore g0 (lv' := [some (.ref (E.1 v0_1)), some (.ref (E.1 v1_1)), some (.int (J v2_1)), some (.int (J v3_1)), some (.int (J v4_1)), some (.int (J r_3)), some (.int (J 0))]) dX9_find_67 (by decide) rfl rfl ?_
          refine r_mask g0 (lv' := [some (.ref (E.1 v0_1)), some (.ref (E.1 v1_1)), some (.int (J v2_1)), none, some (.int (J v4_1)), none, some (.int (J 0))]) [true, true, true, false, true, false, true] rfl ?_
          refine t_X9_find_L69 g i_v0_1 i_v1_1 i_v2_1 i_v4_1 ?_ FU 0 (wt s_5 v0_1 2 r_3) (B01.inR B01_0) h
          · intro s_8 h
            exact hjp_1 s_8 h
set_option maxHeartbeats 4000000 in
set_option maxRecDepth 100000 in
theorem c_X9_find {E : u_E} {l : Launch} {o : u_O} {p1 : u_O} (ho : is_Tour o) (i_p1 : is_Plan p1) {s s' : u_S} {r : Int} (h : f_X9_find o p1 s = some (r, s')) : Con l (XE E) yX9_find cX9_find 7 none 4 92 0 0 [.ref (E.1 o), .ref (E.1 p1)] (Wd E s) (RV E r s') := by
  refine Con.of [some (.ref (E.1 o)), some (.ref (E.1 p1)), none, none, none, none, none] (by decide +kernel) rfl rfl (Nat.le_of_ble_eq_true rfl) (fun K g => ?_)
  have g0 := g.wk
  unfold f_X9_find at h
  refine r_aload_n g0 dX9_find_0 rfl ?_
  refine g_Plan_visitCount g0 i_p1 qX9_18 dX9_find_1 ?_
  refine r_iconst g0 dX9_find_4 ?_
  obtain ⟨r_1, s_1, hr_1, h⟩ := bd_some h
  refine r_cSI g0 (rest := []) (c_J9_min_7cf53 (InR_rd _ _ _) (InR_lit rfl) hr_1) ok_J9_min_7cf53 mX9_24 dX9_find_5 ⟨Nat.le_of_ble_eq_true rfl, Nat.le_of_ble_eq_true rfl⟩ ⟨Nat.zero_le _, Nat.zero_le _⟩ rfl (Nat.le_of_ble_eq_true rfl) rfl (fun i_r_1 => ?_)
  refine r_istore_n g0 (lv' := [some (.ref (E.1 o)), some (.ref (E.1 p1)), some (.int (J r_1)), none, none, none, none]) dX9_find_8 (by decide) rfl rfl ?_
  refine r_aload_n g0 dX9_find_9 rfl ?_
  refine r_aload_n g0 dX9_find_10 rfl ?_
  refine g_Plan_toVisit g0 i_p1 qX9_30 dX9_find_11 ?_
  refine r_iload_n g0 dX9_find_14 rfl ?_
  obtain ⟨r_2, s_2, hr_2, h⟩ := bd_some h
  refine r_cVV g0 (rest := []) (c_X9_sortVisits ho (is_a_Plan_toVisit i_p1) i_r_1 hr_2) ok_X9_sortVisits mX9_33 (recv_Tour ho) dX9_find_15 ⟨Nat.le_of_ble_eq_true rfl, Nat.le_of_ble_eq_true rfl⟩ ⟨Nat.zero_le _, Nat.zero_le _⟩ rfl (Nat.le_of_ble_eq_true rfl) rfl ?_
  refine r_aload_n g0 dX9_find_18 rfl ?_
  refine r_ldc g0 (v := 1000000) dX9_find_19 kX9_37 ?_
  refine p_Tour_length g0 ho qX9_38 dX9_find_21 ?_
  refine r_iconst g0 dX9_find_24 ?_
  refine r_istore_n g0 (lv' := [some (.ref (E.1 o)), some (.ref (E.1 p1)), some (.int (J r_1)), some (.int (J 1)), none, none, none]) dX9_find_25 (by decide) rfl rfl ?_
  refine r_iconst g0 dX9_find_26 ?_
  refine r_istore g0 (lv' := [some (.ref (E.1 o)), some (.ref (E.1 p1)), some (.int (J r_1)), some (.int (J 1)), some (.int (J 0)), none, none]) dX9_find_27 (by decide) rfl rfl ?_
  refine t_X9_find_L29 g ho i_p1 i_r_1 ?_ FU 1 0 (wt s_2 o 2 1000000) B01_1 (B01.inR B01_0) h
  · intro s_3 h
    exact z_V g dX9_find_110 h
theorem dX10_refused_0 : decode cX10_refused 0 = .ok (.iload_n 1, 1) := by decide +kernel
theorem dX10_refused_1 : decode cX10_refused 1 = .ok (.bipush (-2), 2) := by decide +kernel
theorem dX10_refused_3 : decode cX10_refused 3 = .ok (.if_icmp .ne 13, 3) := by decide +kernel
theorem dX10_refused_6 : decode cX10_refused 6 = .ok (.aload_n 0, 1) := by decide +kernel
theorem dX10_refused_7 : decode cX10_refused 7 = .ok (.dup, 1) := by decide +kernel
theorem dX10_refused_8 : decode cX10_refused 8 = .ok (.getfield 330, 3) := by decide +kernel
theorem dX10_refused_11 : decode cX10_refused 11 = .ok (.iconst 1, 1) := by decide +kernel
theorem dX10_refused_12 : decode cX10_refused 12 = .ok (.iadd, 1) := by decide +kernel
theorem dX10_refused_13 : decode cX10_refused 13 = .ok (.putfield 330, 3) := by decide +kernel
theorem dX10_refused_16 : decode cX10_refused 16 = .ok (.iload_n 1, 1) := by decide +kernel
theorem dX10_refused_17 : decode cX10_refused 17 = .ok (.bipush (-3), 2) := by decide +kernel
theorem dX10_refused_19 : decode cX10_refused 19 = .ok (.if_icmp .ne 13, 3) := by decide +kernel
theorem dX10_refused_22 : decode cX10_refused 22 = .ok (.aload_n 0, 1) := by decide +kernel
theorem dX10_refused_23 : decode cX10_refused 23 = .ok (.dup, 1) := by decide +kernel
theorem dX10_refused_24 : decode cX10_refused 24 = .ok (.getfield 333, 3) := by decide +kernel
theorem dX10_refused_27 : decode cX10_refused 27 = .ok (.iconst 1, 1) := by decide +kernel
theorem dX10_refused_28 : decode cX10_refused 28 = .ok (.iadd, 1) := by decide +kernel
theorem dX10_refused_29 : decode cX10_refused 29 = .ok (.putfield 333, 3) := by decide +kernel
theorem dX10_refused_32 : decode cX10_refused 32 = .ok (.iload_n 1, 1) := by decide +kernel
theorem dX10_refused_33 : decode cX10_refused 33 = .ok (.bipush (-4), 2) := by decide +kernel
theorem dX10_refused_35 : decode cX10_refused 35 = .ok (.if_icmp .ne 13, 3) := by decide +kernel
theorem dX10_refused_38 : decode cX10_refused 38 = .ok (.aload_n 0, 1) := by decide +kernel
theorem dX10_refused_39 : decode cX10_refused 39 = .ok (.dup, 1) := by decide +kernel
theorem dX10_refused_40 : decode cX10_refused 40 = .ok (.getfield 336, 3) := by decide +kernel
theorem dX10_refused_43 : decode cX10_refused 43 = .ok (.iconst 1, 1) := by decide +kernel
theorem dX10_refused_44 : decode cX10_refused 44 = .ok (.iadd, 1) := by decide +kernel
theorem dX10_refused_45 : decode cX10_refused 45 = .ok (.putfield 336, 3) := by decide +kernel
theorem dX10_refused_48 : decode cX10_refused 48 = .ok (.iload_n 1, 1) := by decide +kernel
theorem dX10_refused_49 : decode cX10_refused 49 = .ok (.ireturn, 1) := by decide +kernel
set_option maxHeartbeats 4000000 in
set_option maxRecDepth 100000 in
theorem c_X10_refused {E : u_E} {l : Launch} {o : u_O} {p1 : Int} (ho : is_FP o) (i_p1 : InR p1) {s s' : u_S} {r : Int} (h : f_X10_refused o p1 s = some (r, s')) : Con l (XE E) yX10_refused cX10_refused 2 (some .int) 0 0 0 0 [.ref (E.1 o), .int (J p1)] (Wd E s) (RI E r s') := by
  refine Con.of [some (.ref (E.1 o)), some (.int (J p1))] (by decide +kernel) rfl rfl (Nat.le_of_ble_eq_true rfl) (fun K g => ?_)
  have g0 := g.wk
  unfold f_X10_refused at h
  refine r_iload_n g0 dX10_refused_0 rfl ?_
  refine r_bipush g0 dX10_refused_1 rfl ?_
  obtain ⟨jp_1, hdjp_1, h⟩ := jn_some h
  have hjp_1 : ∀  (s_1 : u_S), jp_1 s_1 = some (r, s') → K 0 0 16 [some (.ref (E.1 o)), some (.int (J p1))] [] (Wd E s_1) := by
    intro s_1 h
    subst hdjp_1
    refine r_iload_n g0 dX10_refused_16 rfl ?_
    refine r_bipush g0 dX10_refused_17 rfl ?_
    obtain ⟨jp_2, hdjp_2, h⟩ := jn_some h
    have hjp_2 : ∀  (s_2 : u_S), jp_2 s_2 = some (r, s') → K 0 0 32 [some (.ref (E.1 o)), some (.int (J p1))] [] (Wd E s_2) := by
      intro s_2 h
      subst hdjp_2
      refine r_iload_n g0 dX10_refused_32 rfl ?_
      refine r_bipush g0 dX10_refused_33 rfl ?_
      refine r_icmp_ne g0 48 dX10_refused_35 (by decide) i_p1 (InR_lit rfl) (fun hc => ?_) (fun hc => ?_)
      · replace h := if_f hc h
        refine r_iload_n g0 dX10_refused_48 rfl ?_
        exact z_I g dX10_refused_49 i_p1 h
      · replace h := if_t hc h
        refine r_aload_n g0 dX10_refused_38 rfl ?_
        refine r_dup g0 dX10_refused_39 rfl ?_
        refine g_FP_fulls g0 ho qX10_336 dX10_refused_40 ?_
        refine r_iconst g0 dX10_refused_43 ?_
        refine r_iadd g0 dX10_refused_44 ?_
        refine p_FP_fulls g0 ho qX10_336 dX10_refused_45 ?_
        refine r_iload_n g0 dX10_refused_48 rfl ?_
        exact z_I g dX10_refused_49 i_p1 h
    clear hdjp_2
    refine r_icmp_ne g0 32 dX10_refused_19 (by decide) i_p1 (InR_lit rfl) (fun hc => ?_) (fun hc => ?_)
    · replace h := if_f hc h
      exact hjp_2 s_1 h
    · replace h := if_t hc h
      refine r_aload_n g0 dX10_refused_22 rfl ?_
      refine r_dup g0 dX10_refused_23 rfl ?_
      refine g_FP_noes g0 ho qX10_333 dX10_refused_24 ?_
      refine r_iconst g0 dX10_refused_27 ?_
      refine r_iadd g0 dX10_refused_28 ?_
      refine p_FP_noes g0 ho qX10_333 dX10_refused_29 ?_
      exact hjp_2 (wt s_1 o 5 (wr ((rd s_1 o 5) + 1))) h
  clear hdjp_1
  refine r_icmp_ne g0 16 dX10_refused_3 (by decide) i_p1 (InR_lit rfl) (fun hc => ?_) (fun hc => ?_)
  · replace h := if_f hc h
    exact hjp_1 s h
  · replace h := if_t hc h
    refine r_aload_n g0 dX10_refused_6 rfl ?_
    refine r_dup g0 dX10_refused_7 rfl ?_
    refine g_FP_bads g0 ho qX10_330 dX10_refused_8 ?_
    refine r_iconst g0 dX10_refused_11 ?_
    refine r_iadd g0 dX10_refused_12 ?_
    refine p_FP_bads g0 ho qX10_330 dX10_refused_13 ?_
    exact hjp_1 (wt s o 4 (wr ((rd s o 4) + 1))) h
theorem dX10_settled_0 : decode cX10_settled 0 = .ok (.iload_n 1, 1) := by decide +kernel
theorem dX10_settled_1 : decode cX10_settled 1 = .ok (.ifCond .ge 9, 3) := by decide +kernel
theorem dX10_settled_4 : decode cX10_settled 4 = .ok (.aload_n 0, 1) := by decide +kernel
theorem dX10_settled_5 : decode cX10_settled 5 = .ok (.iload_n 1, 1) := by decide +kernel
theorem dX10_settled_6 : decode cX10_settled 6 = .ok (.invokevirtual 117, 3) := by decide +kernel
theorem dX10_settled_9 : decode cX10_settled 9 = .ok (.ireturn, 1) := by decide +kernel
theorem dX10_settled_10 : decode cX10_settled 10 = .ok (.aload_n 0, 1) := by decide +kernel
theorem dX10_settled_11 : decode cX10_settled 11 = .ok (.getfield 22, 3) := by decide +kernel
theorem dX10_settled_14 : decode cX10_settled 14 = .ok (.aload_n 0, 1) := by decide +kernel
theorem dX10_settled_15 : decode cX10_settled 15 = .ok (.getfield 16, 3) := by decide +kernel
theorem dX10_settled_18 : decode cX10_settled 18 = .ok (.invokevirtual 367, 3) := by decide +kernel
theorem dX10_settled_21 : decode cX10_settled 21 = .ok (.iload_n 1, 1) := by decide +kernel
theorem dX10_settled_22 : decode cX10_settled 22 = .ok (.ireturn, 1) := by decide +kernel
set_option maxHeartbeats 4000000 in
set_option maxRecDepth 100000 in
theorem c_X10_settled {E : u_E} {l : Launch} {o : u_O} {p1 : Int} (ho : is_FP o) (i_p1 : InR p1) {s s' : u_S} {r : Int} (h : f_X10_settled o p1 s = some (r, s')) : Con l (XE E) yX10_settled cX10_settled 2 (some .int) 5 111 0 0 [.ref (E.1 o), .int (J p1)] (Wd E s) (RI E r s') := by
  refine Con.of [some (.ref (E.1 o)), some (.int (J p1))] (by decide +kernel) rfl rfl (Nat.le_of_ble_eq_true rfl) (fun K g => ?_)
  have g0 := g.wk
  unfold f_X10_settled at h
  refine r_iload_n g0 dX10_settled_0 rfl ?_
  refine r_if_ge g0 10 dX10_settled_1 (by decide) i_p1 (fun hc => ?_) (fun hc => ?_)
  · replace h := if_f hc h
    refine r_aload_n g0 dX10_settled_10 rfl ?_
    refine g_FP_history g0 ho qX10_22 dX10_settled_11 ?_
    refine r_aload_n g0 dX10_settled_14 rfl ?_
    refine g_FP_before g0 ho qX10_16 dX10_settled_15 ?_
    obtain ⟨r_1, s_1, hr_1, h⟩ := bd_some h
    refine r_cVV g0 (rest := []) (c_X4_keep (is_a_FP_history ho) (is_a_FP_before ho) hr_1) ok_X4_keep mX10_367 (recv_History (is_a_FP_history ho)) dX10_settled_18 ⟨Nat.le_of_ble_eq_true rfl, Nat.le_of_ble_eq_true rfl⟩ ⟨Nat.zero_le _, Nat.zero_le _⟩ rfl (Nat.le_of_ble_eq_true rfl) rfl ?_
    refine r_iload_n g0 dX10_settled_21 rfl ?_
    exact z_I g dX10_settled_22 i_p1 h
  · replace h := if_t hc h
    refine r_aload_n g0 dX10_settled_4 rfl ?_
    refine r_iload_n g0 dX10_settled_5 rfl ?_
    obtain ⟨r_2, s_2, hr_2, h⟩ := bd_some h
    refine r_cVI g0 (rest := []) (c_X10_refused ho i_p1 hr_2) ok_X10_refused mX10_117 (recv_FP ho) dX10_settled_6 ⟨Nat.le_of_ble_eq_true rfl, Nat.le_of_ble_eq_true rfl⟩ ⟨Nat.zero_le _, Nat.zero_le _⟩ rfl (Nat.le_of_ble_eq_true rfl) rfl (fun i_r_2 => ?_)
    exact z_I g dX10_settled_9 i_r_2 h
theorem dX10_note_0 : decode cX10_note 0 = .ok (.aload_n 0, 1) := by decide +kernel
theorem dX10_note_1 : decode cX10_note 1 = .ok (.getfield 16, 3) := by decide +kernel
theorem dX10_note_4 : decode cX10_note 4 = .ok (.aload_n 0, 1) := by decide +kernel
theorem dX10_note_5 : decode cX10_note 5 = .ok (.getfield 12, 3) := by decide +kernel
theorem dX10_note_8 : decode cX10_note 8 = .ok (.invokevirtual 75, 3) := by decide +kernel
theorem dX10_note_11 : decode cX10_note 11 = .ok (.aload_n 0, 1) := by decide +kernel
theorem dX10_note_12 : decode cX10_note 12 = .ok (.aload_n 0, 1) := by decide +kernel
theorem dX10_note_13 : decode cX10_note 13 = .ok (.getfield 12, 3) := by decide +kernel
theorem dX10_note_16 : decode cX10_note 16 = .ok (.iload_n 1, 1) := by decide +kernel
theorem dX10_note_17 : decode cX10_note 17 = .ok (.iload_n 2, 1) := by decide +kernel
theorem dX10_note_18 : decode cX10_note 18 = .ok (.iload_n 3, 1) := by decide +kernel
theorem dX10_note_19 : decode cX10_note 19 = .ok (.invokevirtual 79, 3) := by decide +kernel
theorem dX10_note_22 : decode cX10_note 22 = .ok (.invokevirtual 83, 3) := by decide +kernel
theorem dX10_note_25 : decode cX10_note 25 = .ok (.ireturn, 1) := by decide +kernel
set_option maxHeartbeats 4000000 in
set_option maxRecDepth 100000 in
theorem c_X10_note {E : u_E} {l : Launch} {o : u_O} {p1 : Int} {p2 : Int} {p3 : Int} (ho : is_FP o) (i_p1 : InR p1) (i_p2 : InR p2) (i_p3 : InR p3) {s s' : u_S} {r : Int} (h : f_X10_note o p1 p2 p3 s = some (r, s')) : Con l (XE E) yX10_note cX10_note 4 (some .int) 6 132 0 0 [.ref (E.1 o), .int (J p1), .int (J p2), .int (J p3)] (Wd E s) (RI E r s') := by
  refine Con.of [some (.ref (E.1 o)), some (.int (J p1)), some (.int (J p2)), some (.int (J p3))] (by decide +kernel) rfl rfl (Nat.le_of_ble_eq_true rfl) (fun K g => ?_)
  have g0 := g.wk
  unfold f_X10_note at h
  refine r_aload_n g0 dX10_note_0 rfl ?_
  refine g_FP_before g0 ho qX10_16 dX10_note_1 ?_
  refine r_aload_n g0 dX10_note_4 rfl ?_
  refine g_FP_plan g0 ho qX10_12 dX10_note_5 ?_
  obtain ⟨r_1, s_1, hr_1, h⟩ := bd_some h
  refine r_cVV g0 (rest := []) (c_X6_copyFrom (is_a_FP_before ho) (is_a_FP_plan ho) hr_1) ok_X6_copyFrom mX10_75 (recv_Plan (is_a_FP_before ho)) dX10_note_8 ⟨Nat.le_of_ble_eq_true rfl, Nat.le_of_ble_eq_true rfl⟩ ⟨Nat.zero_le _, Nat.zero_le _⟩ rfl (Nat.le_of_ble_eq_true rfl) rfl ?_
  refine r_aload_n g0 dX10_note_11 rfl ?_
  refine r_aload_n g0 dX10_note_12 rfl ?_
  refine g_FP_plan g0 ho qX10_12 dX10_note_13 ?_
  refine r_iload_n g0 dX10_note_16 rfl ?_
  refine r_iload_n g0 dX10_note_17 rfl ?_
  refine r_iload_n g0 dX10_note_18 rfl ?_
  obtain ⟨r_2, s_2, hr_2, h⟩ := bd_some h
  refine r_cVI g0 (rest := [.ref (E.1 o)]) (c_X6_addNote (is_a_FP_plan ho) i_p1 i_p2 i_p3 hr_2) ok_X6_addNote mX10_79 (recv_Plan (is_a_FP_plan ho)) dX10_note_19 ⟨Nat.le_of_ble_eq_true rfl, Nat.le_of_ble_eq_true rfl⟩ ⟨Nat.zero_le _, Nat.zero_le _⟩ rfl (Nat.le_of_ble_eq_true rfl) rfl (fun i_r_2 => ?_)
  obtain ⟨r_3, s_3, hr_3, h⟩ := bd_some h
  refine r_cVI g0 (rest := []) (c_X10_settled ho i_r_2 hr_3) ok_X10_settled mX10_83 (recv_FP ho) dX10_note_22 ⟨Nat.le_of_ble_eq_true rfl, Nat.le_of_ble_eq_true rfl⟩ ⟨Nat.zero_le _, Nat.zero_le _⟩ rfl (Nat.le_of_ble_eq_true rfl) rfl (fun i_r_3 => ?_)
  exact z_I g dX10_note_25 i_r_3 h
theorem dX10_drop_0 : decode cX10_drop 0 = .ok (.aload_n 0, 1) := by decide +kernel
theorem dX10_drop_1 : decode cX10_drop 1 = .ok (.getfield 16, 3) := by decide +kernel
theorem dX10_drop_4 : decode cX10_drop 4 = .ok (.aload_n 0, 1) := by decide +kernel
theorem dX10_drop_5 : decode cX10_drop 5 = .ok (.getfield 12, 3) := by decide +kernel
theorem dX10_drop_8 : decode cX10_drop 8 = .ok (.invokevirtual 75, 3) := by decide +kernel
theorem dX10_drop_11 : decode cX10_drop 11 = .ok (.aload_n 0, 1) := by decide +kernel
theorem dX10_drop_12 : decode cX10_drop 12 = .ok (.aload_n 0, 1) := by decide +kernel
theorem dX10_drop_13 : decode cX10_drop 13 = .ok (.getfield 12, 3) := by decide +kernel
theorem dX10_drop_16 : decode cX10_drop 16 = .ok (.iload_n 1, 1) := by decide +kernel
theorem dX10_drop_17 : decode cX10_drop 17 = .ok (.iload_n 2, 1) := by decide +kernel
theorem dX10_drop_18 : decode cX10_drop 18 = .ok (.invokevirtual 87, 3) := by decide +kernel
theorem dX10_drop_21 : decode cX10_drop 21 = .ok (.invokevirtual 83, 3) := by decide +kernel
theorem dX10_drop_24 : decode cX10_drop 24 = .ok (.ireturn, 1) := by decide +kernel
set_option maxHeartbeats 4000000 in
set_option maxRecDepth 100000 in
theorem c_X10_drop {E : u_E} {l : Launch} {o : u_O} {p1 : Int} {p2 : Int} (ho : is_FP o) (i_p1 : InR p1) (i_p2 : InR p2) {s s' : u_S} {r : Int} (h : f_X10_drop o p1 p2 s = some (r, s')) : Con l (XE E) yX10_drop cX10_drop 3 (some .int) 6 132 0 0 [.ref (E.1 o), .int (J p1), .int (J p2)] (Wd E s) (RI E r s') := by
  refine Con.of [some (.ref (E.1 o)), some (.int (J p1)), some (.int (J p2))] (by decide +kernel) rfl rfl (Nat.le_of_ble_eq_true rfl) (fun K g => ?_)
  have g0 := g.wk
  unfold f_X10_drop at h
  refine r_aload_n g0 dX10_drop_0 rfl ?_
  refine g_FP_before g0 ho qX10_16 dX10_drop_1 ?_
  refine r_aload_n g0 dX10_drop_4 rfl ?_
  refine g_FP_plan g0 ho qX10_12 dX10_drop_5 ?_
  obtain ⟨r_1, s_1, hr_1, h⟩ := bd_some h
  refine r_cVV g0 (rest := []) (c_X6_copyFrom (is_a_FP_before ho) (is_a_FP_plan ho) hr_1) ok_X6_copyFrom mX10_75 (recv_Plan (is_a_FP_before ho)) dX10_drop_8 ⟨Nat.le_of_ble_eq_true rfl, Nat.le_of_ble_eq_true rfl⟩ ⟨Nat.zero_le _, Nat.zero_le _⟩ rfl (Nat.le_of_ble_eq_true rfl) rfl ?_
  refine r_aload_n g0 dX10_drop_11 rfl ?_
  refine r_aload_n g0 dX10_drop_12 rfl ?_
  refine g_FP_plan g0 ho qX10_12 dX10_drop_13 ?_
  refine r_iload_n g0 dX10_drop_16 rfl ?_
  refine r_iload_n g0 dX10_drop_17 rfl ?_
  obtain ⟨r_2, s_2, hr_2, h⟩ := bd_some h
  refine r_cVI g0 (rest := [.ref (E.1 o)]) (c_X6_dropNote (is_a_FP_plan ho) i_p1 i_p2 hr_2) ok_X6_dropNote mX10_87 (recv_Plan (is_a_FP_plan ho)) dX10_drop_18 ⟨Nat.le_of_ble_eq_true rfl, Nat.le_of_ble_eq_true rfl⟩ ⟨Nat.zero_le _, Nat.zero_le _⟩ rfl (Nat.le_of_ble_eq_true rfl) rfl (fun i_r_2 => ?_)
  obtain ⟨r_3, s_3, hr_3, h⟩ := bd_some h
  refine r_cVI g0 (rest := []) (c_X10_settled ho i_r_2 hr_3) ok_X10_settled mX10_83 (recv_FP ho) dX10_drop_21 ⟨Nat.le_of_ble_eq_true rfl, Nat.le_of_ble_eq_true rfl⟩ ⟨Nat.zero_le _, Nat.zero_le _⟩ rfl (Nat.le_of_ble_eq_true rfl) rfl (fun i_r_3 => ?_)
  exact z_I g dX10_drop_24 i_r_3 h
theorem dX10_empties_0 : decode cX10_empties 0 = .ok (.aload_n 0, 1) := by decide +kernel
theorem dX10_empties_1 : decode cX10_empties 1 = .ok (.getfield 16, 3) := by decide +kernel
theorem dX10_empties_4 : decode cX10_empties 4 = .ok (.aload_n 0, 1) := by decide +kernel
theorem dX10_empties_5 : decode cX10_empties 5 = .ok (.getfield 12, 3) := by decide +kernel
theorem dX10_empties_8 : decode cX10_empties 8 = .ok (.invokevirtual 75, 3) := by decide +kernel
theorem dX10_empties_11 : decode cX10_empties 11 = .ok (.aload_n 0, 1) := by decide +kernel
theorem dX10_empties_12 : decode cX10_empties 12 = .ok (.aload_n 0, 1) := by decide +kernel
theorem dX10_empties_13 : decode cX10_empties 13 = .ok (.getfield 12, 3) := by decide +kernel
theorem dX10_empties_16 : decode cX10_empties 16 = .ok (.iload_n 1, 1) := by decide +kernel
theorem dX10_empties_17 : decode cX10_empties 17 = .ok (.invokevirtual 91, 3) := by decide +kernel
theorem dX10_empties_20 : decode cX10_empties 20 = .ok (.invokevirtual 83, 3) := by decide +kernel
theorem dX10_empties_23 : decode cX10_empties 23 = .ok (.ireturn, 1) := by decide +kernel
set_option maxHeartbeats 4000000 in
set_option maxRecDepth 100000 in
theorem c_X10_empties {E : u_E} {l : Launch} {o : u_O} {p1 : Int} (ho : is_FP o) (i_p1 : InR p1) {s s' : u_S} {r : Int} (h : f_X10_empties o p1 s = some (r, s')) : Con l (XE E) yX10_empties cX10_empties 2 (some .int) 6 132 0 0 [.ref (E.1 o), .int (J p1)] (Wd E s) (RI E r s') := by
  refine Con.of [some (.ref (E.1 o)), some (.int (J p1))] (by decide +kernel) rfl rfl (Nat.le_of_ble_eq_true rfl) (fun K g => ?_)
  have g0 := g.wk
  unfold f_X10_empties at h
  refine r_aload_n g0 dX10_empties_0 rfl ?_
  refine g_FP_before g0 ho qX10_16 dX10_empties_1 ?_
  refine r_aload_n g0 dX10_empties_4 rfl ?_
  refine g_FP_plan g0 ho qX10_12 dX10_empties_5 ?_
  obtain ⟨r_1, s_1, hr_1, h⟩ := bd_some h
  refine r_cVV g0 (rest := []) (c_X6_copyFrom (is_a_FP_before ho) (is_a_FP_plan ho) hr_1) ok_X6_copyFrom mX10_75 (recv_Plan (is_a_FP_before ho)) dX10_empties_8 ⟨Nat.le_of_ble_eq_true rfl, Nat.le_of_ble_eq_true rfl⟩ ⟨Nat.zero_le _, Nat.zero_le _⟩ rfl (Nat.le_of_ble_eq_true rfl) rfl ?_
  refine r_aload_n g0 dX10_empties_11 rfl ?_
  refine r_aload_n g0 dX10_empties_12 rfl ?_
  refine g_FP_plan g0 ho qX10_12 dX10_empties_13 ?_
  refine r_iload_n g0 dX10_empties_16 rfl ?_
  obtain ⟨r_2, s_2, hr_2, h⟩ := bd_some h
  refine r_cVI g0 (rest := [.ref (E.1 o)]) (c_X6_emptyLine (is_a_FP_plan ho) i_p1 hr_2) ok_X6_emptyLine mX10_91 (recv_Plan (is_a_FP_plan ho)) dX10_empties_17 ⟨Nat.le_of_ble_eq_true rfl, Nat.le_of_ble_eq_true rfl⟩ ⟨Nat.zero_le _, Nat.zero_le _⟩ rfl (Nat.le_of_ble_eq_true rfl) rfl (fun i_r_2 => ?_)
  obtain ⟨r_3, s_3, hr_3, h⟩ := bd_some h
  refine r_cVI g0 (rest := []) (c_X10_settled ho i_r_2 hr_3) ok_X10_settled mX10_83 (recv_FP ho) dX10_empties_20 ⟨Nat.le_of_ble_eq_true rfl, Nat.le_of_ble_eq_true rfl⟩ ⟨Nat.zero_le _, Nat.zero_le _⟩ rfl (Nat.le_of_ble_eq_true rfl) rfl (fun i_r_3 => ?_)
  exact z_I g dX10_empties_23 i_r_3 h
theorem dX10_draw_0 : decode cX10_draw 0 = .ok (.aload_n 0, 1) := by decide +kernel
theorem dX10_draw_1 : decode cX10_draw 1 = .ok (.getfield 16, 3) := by decide +kernel
theorem dX10_draw_4 : decode cX10_draw 4 = .ok (.aload_n 0, 1) := by decide +kernel
theorem dX10_draw_5 : decode cX10_draw 5 = .ok (.getfield 12, 3) := by decide +kernel
theorem dX10_draw_8 : decode cX10_draw 8 = .ok (.invokevirtual 75, 3) := by decide +kernel
theorem dX10_draw_11 : decode cX10_draw 11 = .ok (.aload_n 0, 1) := by decide +kernel
theorem dX10_draw_12 : decode cX10_draw 12 = .ok (.aload_n 0, 1) := by decide +kernel
theorem dX10_draw_13 : decode cX10_draw 13 = .ok (.getfield 12, 3) := by decide +kernel
theorem dX10_draw_16 : decode cX10_draw 16 = .ok (.iload_n 1, 1) := by decide +kernel
theorem dX10_draw_17 : decode cX10_draw 17 = .ok (.iload_n 2, 1) := by decide +kernel
theorem dX10_draw_18 : decode cX10_draw 18 = .ok (.iload_n 3, 1) := by decide +kernel
theorem dX10_draw_19 : decode cX10_draw 19 = .ok (.invokevirtual 94, 3) := by decide +kernel
theorem dX10_draw_22 : decode cX10_draw 22 = .ok (.invokevirtual 83, 3) := by decide +kernel
theorem dX10_draw_25 : decode cX10_draw 25 = .ok (.ireturn, 1) := by decide +kernel
set_option maxHeartbeats 4000000 in
set_option maxRecDepth 100000 in
theorem c_X10_draw {E : u_E} {l : Launch} {o : u_O} {p1 : Int} {p2 : Int} {p3 : Int} (ho : is_FP o) (i_p1 : InR p1) (i_p2 : InR p2) (i_p3 : InR p3) {s s' : u_S} {r : Int} (h : f_X10_draw o p1 p2 p3 s = some (r, s')) : Con l (XE E) yX10_draw cX10_draw 4 (some .int) 6 132 0 0 [.ref (E.1 o), .int (J p1), .int (J p2), .int (J p3)] (Wd E s) (RI E r s') := by
  refine Con.of [some (.ref (E.1 o)), some (.int (J p1)), some (.int (J p2)), some (.int (J p3))] (by decide +kernel) rfl rfl (Nat.le_of_ble_eq_true rfl) (fun K g => ?_)
  have g0 := g.wk
  unfold f_X10_draw at h
  refine r_aload_n g0 dX10_draw_0 rfl ?_
  refine g_FP_before g0 ho qX10_16 dX10_draw_1 ?_
  refine r_aload_n g0 dX10_draw_4 rfl ?_
  refine g_FP_plan g0 ho qX10_12 dX10_draw_5 ?_
  obtain ⟨r_1, s_1, hr_1, h⟩ := bd_some h
  refine r_cVV g0 (rest := []) (c_X6_copyFrom (is_a_FP_before ho) (is_a_FP_plan ho) hr_1) ok_X6_copyFrom mX10_75 (recv_Plan (is_a_FP_before ho)) dX10_draw_8 ⟨Nat.le_of_ble_eq_true rfl, Nat.le_of_ble_eq_true rfl⟩ ⟨Nat.zero_le _, Nat.zero_le _⟩ rfl (Nat.le_of_ble_eq_true rfl) rfl ?_
  refine r_aload_n g0 dX10_draw_11 rfl ?_
  refine r_aload_n g0 dX10_draw_12 rfl ?_
  refine g_FP_plan g0 ho qX10_12 dX10_draw_13 ?_
  refine r_iload_n g0 dX10_draw_16 rfl ?_
  refine r_iload_n g0 dX10_draw_17 rfl ?_
  refine r_iload_n g0 dX10_draw_18 rfl ?_
  obtain ⟨r_2, s_2, hr_2, h⟩ := bd_some h
  refine r_cVI g0 (rest := [.ref (E.1 o)]) (c_X6_drawLine (is_a_FP_plan ho) i_p1 i_p2 i_p3 hr_2) ok_X6_drawLine mX10_94 (recv_Plan (is_a_FP_plan ho)) dX10_draw_19 ⟨Nat.le_of_ble_eq_true rfl, Nat.le_of_ble_eq_true rfl⟩ ⟨Nat.zero_le _, Nat.zero_le _⟩ rfl (Nat.le_of_ble_eq_true rfl) rfl (fun i_r_2 => ?_)
  obtain ⟨r_3, s_3, hr_3, h⟩ := bd_some h
  refine r_cVI g0 (rest := []) (c_X10_settled ho i_r_2 hr_3) ok_X10_settled mX10_83 (recv_FP ho) dX10_draw_22 ⟨Nat.le_of_ble_eq_true rfl, Nat.le_of_ble_eq_true rfl⟩ ⟨Nat.zero_le _, Nat.zero_le _⟩ rfl (Nat.le_of_ble_eq_true rfl) rfl (fun i_r_3 => ?_)
  exact z_I g dX10_draw_25 i_r_3 h
theorem dX10_sets_0 : decode cX10_sets 0 = .ok (.aload_n 0, 1) := by decide +kernel
theorem dX10_sets_1 : decode cX10_sets 1 = .ok (.getfield 16, 3) := by decide +kernel
theorem dX10_sets_4 : decode cX10_sets 4 = .ok (.aload_n 0, 1) := by decide +kernel
theorem dX10_sets_5 : decode cX10_sets 5 = .ok (.getfield 12, 3) := by decide +kernel
theorem dX10_sets_8 : decode cX10_sets 8 = .ok (.invokevirtual 75, 3) := by decide +kernel
theorem dX10_sets_11 : decode cX10_sets 11 = .ok (.aload_n 0, 1) := by decide +kernel
theorem dX10_sets_12 : decode cX10_sets 12 = .ok (.aload_n 0, 1) := by decide +kernel
theorem dX10_sets_13 : decode cX10_sets 13 = .ok (.getfield 12, 3) := by decide +kernel
theorem dX10_sets_16 : decode cX10_sets 16 = .ok (.iload_n 1, 1) := by decide +kernel
theorem dX10_sets_17 : decode cX10_sets 17 = .ok (.iload_n 2, 1) := by decide +kernel
theorem dX10_sets_18 : decode cX10_sets 18 = .ok (.invokevirtual 97, 3) := by decide +kernel
theorem dX10_sets_21 : decode cX10_sets 21 = .ok (.invokevirtual 83, 3) := by decide +kernel
theorem dX10_sets_24 : decode cX10_sets 24 = .ok (.ireturn, 1) := by decide +kernel
set_option maxHeartbeats 4000000 in
set_option maxRecDepth 100000 in
theorem c_X10_sets {E : u_E} {l : Launch} {o : u_O} {p1 : Int} {p2 : Int} (ho : is_FP o) (i_p1 : InR p1) (i_p2 : InR p2) {s s' : u_S} {r : Int} (h : f_X10_sets o p1 p2 s = some (r, s')) : Con l (XE E) yX10_sets cX10_sets 3 (some .int) 6 132 0 0 [.ref (E.1 o), .int (J p1), .int (J p2)] (Wd E s) (RI E r s') := by
  refine Con.of [some (.ref (E.1 o)), some (.int (J p1)), some (.int (J p2))] (by decide +kernel) rfl rfl (Nat.le_of_ble_eq_true rfl) (fun K g => ?_)
  have g0 := g.wk
  unfold f_X10_sets at h
  refine r_aload_n g0 dX10_sets_0 rfl ?_
  refine g_FP_before g0 ho qX10_16 dX10_sets_1 ?_
  refine r_aload_n g0 dX10_sets_4 rfl ?_
  refine g_FP_plan g0 ho qX10_12 dX10_sets_5 ?_
  obtain ⟨r_1, s_1, hr_1, h⟩ := bd_some h
  refine r_cVV g0 (rest := []) (c_X6_copyFrom (is_a_FP_before ho) (is_a_FP_plan ho) hr_1) ok_X6_copyFrom mX10_75 (recv_Plan (is_a_FP_before ho)) dX10_sets_8 ⟨Nat.le_of_ble_eq_true rfl, Nat.le_of_ble_eq_true rfl⟩ ⟨Nat.zero_le _, Nat.zero_le _⟩ rfl (Nat.le_of_ble_eq_true rfl) rfl ?_
  refine r_aload_n g0 dX10_sets_11 rfl ?_
  refine r_aload_n g0 dX10_sets_12 rfl ?_
  refine g_FP_plan g0 ho qX10_12 dX10_sets_13 ?_
  refine r_iload_n g0 dX10_sets_16 rfl ?_
  refine r_iload_n g0 dX10_sets_17 rfl ?_
  obtain ⟨r_2, s_2, hr_2, h⟩ := bd_some h
  refine r_cVI g0 (rest := [.ref (E.1 o)]) (c_X6_setValue (is_a_FP_plan ho) i_p1 i_p2 hr_2) ok_X6_setValue mX10_97 (recv_Plan (is_a_FP_plan ho)) dX10_sets_18 ⟨Nat.le_of_ble_eq_true rfl, Nat.le_of_ble_eq_true rfl⟩ ⟨Nat.zero_le _, Nat.zero_le _⟩ rfl (Nat.le_of_ble_eq_true rfl) rfl (fun i_r_2 => ?_)
  obtain ⟨r_3, s_3, hr_3, h⟩ := bd_some h
  refine r_cVI g0 (rest := []) (c_X10_settled ho i_r_2 hr_3) ok_X10_settled mX10_83 (recv_FP ho) dX10_sets_21 ⟨Nat.le_of_ble_eq_true rfl, Nat.le_of_ble_eq_true rfl⟩ ⟨Nat.zero_le _, Nat.zero_le _⟩ rfl (Nat.le_of_ble_eq_true rfl) rfl (fun i_r_3 => ?_)
  exact z_I g dX10_sets_24 i_r_3 h
theorem dX10_noteOf_0 : decode cX10_noteOf 0 = .ok (.iload_n 1, 1) := by decide +kernel
theorem dX10_noteOf_1 : decode cX10_noteOf 1 = .ok (.invokestatic 100, 3) := by decide +kernel
theorem dX10_noteOf_4 : decode cX10_noteOf 4 = .ok (.ifCond .eq 28, 3) := by decide +kernel
theorem dX10_noteOf_7 : decode cX10_noteOf 7 = .ok (.aload_n 0, 1) := by decide +kernel
theorem dX10_noteOf_8 : decode cX10_noteOf 8 = .ok (.getfield 12, 3) := by decide +kernel
theorem dX10_noteOf_11 : decode cX10_noteOf 11 = .ok (.getfield 104, 3) := by decide +kernel
theorem dX10_noteOf_14 : decode cX10_noteOf 14 = .ok (.iload_n 1, 1) := by decide +kernel
theorem dX10_noteOf_15 : decode cX10_noteOf 15 = .ok (.aaload, 1) := by decide +kernel
theorem dX10_noteOf_16 : decode cX10_noteOf 16 = .ok (.iload_n 2, 1) := by decide +kernel
theorem dX10_noteOf_17 : decode cX10_noteOf 17 = .ok (.invokevirtual 108, 3) := by decide +kernel
theorem dX10_noteOf_20 : decode cX10_noteOf 20 = .ok (.ifCond .eq 12, 3) := by decide +kernel
theorem dX10_noteOf_23 : decode cX10_noteOf 23 = .ok (.iload_n 3, 1) := by decide +kernel
theorem dX10_noteOf_24 : decode cX10_noteOf 24 = .ok (.iconst 0, 1) := by decide +kernel
theorem dX10_noteOf_25 : decode cX10_noteOf 25 = .ok (.iconst 3, 1) := by decide +kernel
theorem dX10_noteOf_26 : decode cX10_noteOf 26 = .ok (.invokestatic 113, 3) := by decide +kernel
theorem dX10_noteOf_29 : decode cX10_noteOf 29 = .ok (.ifCond .ne 10, 3) := by decide +kernel
theorem dX10_noteOf_32 : decode cX10_noteOf 32 = .ok (.aload_n 0, 1) := by decide +kernel
theorem dX10_noteOf_33 : decode cX10_noteOf 33 = .ok (.bipush (-2), 2) := by decide +kernel
theorem dX10_noteOf_35 : decode cX10_noteOf 35 = .ok (.invokevirtual 117, 3) := by decide +kernel
theorem dX10_noteOf_38 : decode cX10_noteOf 38 = .ok (.ireturn, 1) := by decide +kernel
theorem dX10_noteOf_39 : decode cX10_noteOf 39 = .ok (.aload_n 0, 1) := by decide +kernel
theorem dX10_noteOf_40 : decode cX10_noteOf 40 = .ok (.getfield 12, 3) := by decide +kernel
theorem dX10_noteOf_43 : decode cX10_noteOf 43 = .ok (.getfield 104, 3) := by decide +kernel
theorem dX10_noteOf_46 : decode cX10_noteOf 46 = .ok (.iload_n 1, 1) := by decide +kernel
theorem dX10_noteOf_47 : decode cX10_noteOf 47 = .ok (.aaload, 1) := by decide +kernel
theorem dX10_noteOf_48 : decode cX10_noteOf 48 = .ok (.astore 4, 2) := by decide +kernel
theorem dX10_noteOf_50 : decode cX10_noteOf 50 = .ok (.iload_n 3, 1) := by decide +kernel
theorem dX10_noteOf_51 : decode cX10_noteOf 51 = .ok (.ifCond .ne 10, 3) := by decide +kernel
theorem dX10_noteOf_54 : decode cX10_noteOf 54 = .ok (.aload 4, 2) := by decide +kernel
theorem dX10_noteOf_56 : decode cX10_noteOf 56 = .ok (.iload_n 2, 1) := by decide +kernel
theorem dX10_noteOf_57 : decode cX10_noteOf 57 = .ok (.invokevirtual 120, 3) := by decide +kernel
theorem dX10_noteOf_60 : decode cX10_noteOf 60 = .ok (.ireturn, 1) := by decide +kernel
theorem dX10_noteOf_61 : decode cX10_noteOf 61 = .ok (.iload_n 3, 1) := by decide +kernel
theorem dX10_noteOf_62 : decode cX10_noteOf 62 = .ok (.iconst 1, 1) := by decide +kernel
theorem dX10_noteOf_63 : decode cX10_noteOf 63 = .ok (.if_icmp .ne 10, 3) := by decide +kernel
theorem dX10_noteOf_66 : decode cX10_noteOf 66 = .ok (.aload 4, 2) := by decide +kernel
theorem dX10_noteOf_68 : decode cX10_noteOf 68 = .ok (.iload_n 2, 1) := by decide +kernel
theorem dX10_noteOf_69 : decode cX10_noteOf 69 = .ok (.invokevirtual 123, 3) := by decide +kernel
theorem dX10_noteOf_72 : decode cX10_noteOf 72 = .ok (.ireturn, 1) := by decide +kernel
theorem dX10_noteOf_73 : decode cX10_noteOf 73 = .ok (.iload_n 3, 1) := by decide +kernel
theorem dX10_noteOf_74 : decode cX10_noteOf 74 = .ok (.iconst 2, 1) := by decide +kernel
theorem dX10_noteOf_75 : decode cX10_noteOf 75 = .ok (.if_icmp .ne 10, 3) := by decide +kernel
theorem dX10_noteOf_78 : decode cX10_noteOf 78 = .ok (.aload 4, 2) := by decide +kernel
theorem dX10_noteOf_80 : decode cX10_noteOf 80 = .ok (.iload_n 2, 1) := by decide +kernel
theorem dX10_noteOf_81 : decode cX10_noteOf 81 = .ok (.invokevirtual 126, 3) := by decide +kernel
theorem dX10_noteOf_84 : decode cX10_noteOf 84 = .ok (.ireturn, 1) := by decide +kernel
theorem dX10_noteOf_85 : decode cX10_noteOf 85 = .ok (.aload 4, 2) := by decide +kernel
theorem dX10_noteOf_87 : decode cX10_noteOf 87 = .ok (.iconst 1, 1) := by decide +kernel
theorem dX10_noteOf_88 : decode cX10_noteOf 88 = .ok (.iload_n 2, 1) := by decide +kernel
theorem dX10_noteOf_89 : decode cX10_noteOf 89 = .ok (.aload_n 0, 1) := by decide +kernel
theorem dX10_noteOf_90 : decode cX10_noteOf 90 = .ok (.getfield 12, 3) := by decide +kernel
theorem dX10_noteOf_93 : decode cX10_noteOf 93 = .ok (.getfield 129, 3) := by decide +kernel
theorem dX10_noteOf_96 : decode cX10_noteOf 96 = .ok (.aload_n 0, 1) := by decide +kernel
theorem dX10_noteOf_97 : decode cX10_noteOf 97 = .ok (.getfield 12, 3) := by decide +kernel
theorem dX10_noteOf_100 : decode cX10_noteOf 100 = .ok (.getfield 133, 3) := by decide +kernel
theorem dX10_noteOf_103 : decode cX10_noteOf 103 = .ok (.invokevirtual 136, 3) := by decide +kernel
theorem dX10_noteOf_106 : decode cX10_noteOf 106 = .ok (.ireturn, 1) := by decide +kernel
set_option maxHeartbeats 4000000 in
set_option maxRecDepth 100000 in
theorem c_X10_noteOf {E : u_E} {l : Launch} {o : u_O} {p1 : Int} {p2 : Int} {p3 : Int} (ho : is_FP o) (i_p1 : InR p1) (i_p2 : InR p2) (i_p3 : InR p3) {s s' : u_S} {r : Int} (h : f_X10_noteOf o p1 p2 p3 s = some (r, s')) : Con l (XE E) yX10_noteOf cX10_noteOf 5 (some .int) 2 47 0 0 [.ref (E.1 o), .int (J p1), .int (J p2), .int (J p3)] (Wd E s) (RI E r s') := by
  refine Con.of [some (.ref (E.1 o)), some (.int (J p1)), some (.int (J p2)), some (.int (J p3)), none] (by decide +kernel) rfl rfl (Nat.le_of_ble_eq_true rfl) (fun K g => ?_)
  have g0 := g.wk
  unfold f_X10_noteOf at h
  refine r_iload_n g0 dX10_noteOf_0 rfl ?_
  obtain ⟨r_1, s_1, hr_1, h⟩ := bd_some h
  refine r_cSZ g0 (rest := []) (c_X10_isLine i_p1 hr_1) ok_X10_isLine mX10_100 dX10_noteOf_1 ⟨Nat.le_of_ble_eq_true rfl, Nat.le_of_ble_eq_true rfl⟩ ⟨Nat.zero_le _, Nat.zero_le _⟩ rfl (Nat.le_of_ble_eq_true rfl) rfl (fun i_r_1 => ?_)
  obtain ⟨jp_1, hdjp_1, h⟩ := jn_some h
  have hjp_1 : ∀  (s_2 : u_S), jp_1 s_2 = some (r, s') → K 0 0 32 [some (.ref (E.1 o)), none, none, none, none] [] (Wd E s_2) := by
    intro s_2 h
    subst hdjp_1
    refine r_aload_n g0 dX10_noteOf_32 rfl ?_
    refine r_bipush g0 dX10_noteOf_33 rfl ?_
    obtain ⟨r_2, s_3, hr_2, h⟩ := bd_some h
    refine r_cVI g0 (rest := []) (c_X10_refused ho (InR_lit rfl) hr_2) ok_X10_refused mX10_117 (recv_FP ho) dX10_noteOf_35 ⟨Nat.le_of_ble_eq_true rfl, Nat.le_of_ble_eq_true rfl⟩ ⟨Nat.zero_le _, Nat.zero_le _⟩ rfl (Nat.le_of_ble_eq_true rfl) rfl (fun i_r_2 => ?_)
    exact z_I g dX10_noteOf_38 i_r_2 h
  clear hdjp_1
  refine r_if_eq g0 32 dX10_noteOf_4 (by decide) (B01.inR i_r_1) (fun hc => ?_) (fun hc => ?_)
  · replace h := if_t hc h
    refine r_mask g0 (lv' := [some (.ref (E.1 o)), none, none, none, none]) [true, false, false, false, false] rfl ?_
    exact hjp_1 s_1 h
  · replace h := if_f hc h
    refine r_aload_n g0 dX10_noteOf_7 rfl ?_
    refine g_FP_plan g0 ho qX10_12 dX10_noteOf_8 ?_
    refine g_Plan_lines g0 (is_a_FP_plan ho) qX10_104 dX10_noteOf_11 ?_
    refine r_iload_n g0 dX10_noteOf_14 rfl ?_
    obtain ⟨hb, h⟩ := gd_some h
    refine r_aald_Line g0 (is_a_Plan_lines (is_a_FP_plan ho)) i_p1 hb dX10_noteOf_15 ?_
    refine r_iload_n g0 dX10_noteOf_16 rfl ?_
    obtain ⟨r_3, s_4, hr_3, h⟩ := bd_some h
    refine r_cVZ g0 (rest := []) (c_X5_has (is_e_Line (is_a_Plan_lines (is_a_FP_plan ho)) hb) i_p2 hr_3) ok_X5_has mX10_108 (recv_Line (is_e_Line (is_a_Plan_lines (is_a_FP_plan ho)) hb)) dX10_noteOf_17 ⟨Nat.le_of_ble_eq_true rfl, Nat.le_of_ble_eq_true rfl⟩ ⟨Nat.zero_le _, Nat.zero_le _⟩ rfl (Nat.le_of_ble_eq_true rfl) rfl (fun i_r_3 => ?_)
    refine r_if_eq g0 32 dX10_noteOf_20 (by decide) (B01.inR i_r_3) (fun hc => ?_) (fun hc => ?_)
    · replace h := if_t hc h
      refine r_mask g0 (lv' := [some (.ref (E.1 o)), none, none, none, none]) [true, false, false, false, false] rfl ?_
      exact hjp_1 s_4 h
    · replace h := if_f hc h
      refine r_iload_n g0 dX10_noteOf_23 rfl ?_
      refine r_iconst g0 dX10_noteOf_24 ?_
      refine r_iconst g0 dX10_noteOf_25 ?_
      obtain ⟨r_4, s_5, hr_4, h⟩ := bd_some h
      refine r_cSZ g0 (rest := []) (c_X10_within i_p3 (B01.inR B01_0) (InR_lit rfl) hr_4) ok_X10_within mX10_113 dX10_noteOf_26 ⟨Nat.le_of_ble_eq_true rfl, Nat.le_of_ble_eq_true rfl⟩ ⟨Nat.zero_le _, Nat.zero_le _⟩ rfl (Nat.le_of_ble_eq_true rfl) rfl (fun i_r_4 => ?_)
      refine r_if_ne g0 39 dX10_noteOf_29 (by decide) (B01.inR i_r_4) (fun hc => ?_) (fun hc => ?_)
      · replace h := if_f hc h
        refine r_aload_n g0 dX10_noteOf_39 rfl ?_
        refine g_FP_plan g0 ho qX10_12 dX10_noteOf_40 ?_
        refine g_Plan_lines g0 (is_a_FP_plan ho) qX10_104 dX10_noteOf_43 ?_
        refine r_iload_n g0 dX10_noteOf_46 rfl ?_
        obtain ⟨hb_2, h⟩ := gd_some h
        refine r_aald_Line g0 (is_a_Plan_lines (is_a_FP_plan ho)) i_p1 hb_2 dX10_noteOf_47 ?_
        refine r_astore g0 (lv' := [some (.ref (E.1 o)), some (.int (J p1)), some (.int (J p2)), some (.int (J p3)), some (.ref (E.1 (e_Line (a_Plan_lines (a_FP_plan o)) p1)))]) dX10_noteOf_48 (by decide) rfl rfl ?_
        refine r_iload_n g0 dX10_noteOf_50 rfl ?_
        refine r_if_ne g0 61 dX10_noteOf_51 (by decide) i_p3 (fun hc => ?_) (fun hc => ?_)
        · replace h := if_f hc h
          refine r_iload_n g0 dX10_noteOf_61 rfl ?_
          refine r_iconst g0 dX10_noteOf_62 ?_
          refine r_icmp_ne g0 73 dX10_noteOf_63 (by decide) i_p3 (B01.inR B01_1) (fun hc => ?_) (fun hc => ?_)
          · replace h := if_f hc h
            refine r_iload_n g0 dX10_noteOf_73 rfl ?_
            refine r_iconst g0 dX10_noteOf_74 ?_
            refine r_icmp_ne g0 85 dX10_noteOf_75 (by decide) i_p3 (InR_lit rfl) (fun hc => ?_) (fun hc => ?_)
            · replace h := if_f hc h
              refine r_aload g0 dX10_noteOf_85 rfl ?_
              refine r_iconst g0 dX10_noteOf_87 ?_
              refine r_iload_n g0 dX10_noteOf_88 rfl ?_
              refine r_aload_n g0 dX10_noteOf_89 rfl ?_
              refine g_FP_plan g0 ho qX10_12 dX10_noteOf_90 ?_
              refine g_Plan_head g0 (is_a_FP_plan ho) qX10_129 dX10_noteOf_93 ?_
              refine r_aload_n g0 dX10_noteOf_96 rfl ?_
              refine g_FP_plan g0 ho qX10_12 dX10_noteOf_97 ?_
              refine g_Plan_tonic g0 (is_a_FP_plan ho) qX10_133 dX10_noteOf_100 ?_
              obtain ⟨r_5, s_6, hr_5, h⟩ := bd_some h
              refine r_cVI g0 (rest := []) (c_X5_formedStep (is_e_Line (is_a_Plan_lines (is_a_FP_plan ho)) hb_2) (B01.inR B01_1) i_p2 (InR_rd _ _ _) (InR_rd _ _ _) hr_5) ok_X5_formedStep mX10_136 (recv_Line (is_e_Line (is_a_Plan_lines (is_a_FP_plan ho)) hb_2)) dX10_noteOf_103 ⟨Nat.le_of_ble_eq_true rfl, Nat.le_of_ble_eq_true rfl⟩ ⟨Nat.zero_le _, Nat.zero_le _⟩ rfl (Nat.le_of_ble_eq_true rfl) rfl (fun i_r_5 => ?_)
              exact z_I g dX10_noteOf_106 i_r_5 h
            · replace h := if_t hc h
              refine r_aload g0 dX10_noteOf_78 rfl ?_
              refine r_iload_n g0 dX10_noteOf_80 rfl ?_
              obtain ⟨r_6, s_7, hr_6, h⟩ := bd_some h
              refine r_cVI g0 (rest := []) (c_X5_tickBefore (is_e_Line (is_a_Plan_lines (is_a_FP_plan ho)) hb_2) i_p2 hr_6) ok_X5_tickBefore mX10_126 (recv_Line (is_e_Line (is_a_Plan_lines (is_a_FP_plan ho)) hb_2)) dX10_noteOf_81 ⟨Nat.le_of_ble_eq_true rfl, Nat.le_of_ble_eq_true rfl⟩ ⟨Nat.zero_le _, Nat.zero_le _⟩ rfl (Nat.le_of_ble_eq_true rfl) rfl (fun i_r_6 => ?_)
              exact z_I g dX10_noteOf_84 i_r_6 h
          · replace h := if_t hc h
            refine r_aload g0 dX10_noteOf_66 rfl ?_
            refine r_iload_n g0 dX10_noteOf_68 rfl ?_
            obtain ⟨r_7, s_8, hr_7, h⟩ := bd_some h
            refine r_cVI g0 (rest := []) (c_X5_ticksOf (is_e_Line (is_a_Plan_lines (is_a_FP_plan ho)) hb_2) i_p2 hr_7) ok_X5_ticksOf mX10_123 (recv_Line (is_e_Line (is_a_Plan_lines (is_a_FP_plan ho)) hb_2)) dX10_noteOf_69 ⟨Nat.le_of_ble_eq_true rfl, Nat.le_of_ble_eq_true rfl⟩ ⟨Nat.zero_le _, Nat.zero_le _⟩ rfl (Nat.le_of_ble_eq_true rfl) rfl (fun i_r_7 => ?_)
            exact z_I g dX10_noteOf_72 i_r_7 h
        · replace h := if_t hc h
          refine r_aload g0 dX10_noteOf_54 rfl ?_
          refine r_iload_n g0 dX10_noteOf_56 rfl ?_
          obtain ⟨r_8, s_9, hr_8, h⟩ := bd_some h
          refine r_cVI g0 (rest := []) (c_X5_stepOf (is_e_Line (is_a_Plan_lines (is_a_FP_plan ho)) hb_2) i_p2 hr_8) ok_X5_stepOf mX10_120 (recv_Line (is_e_Line (is_a_Plan_lines (is_a_FP_plan ho)) hb_2)) dX10_noteOf_57 ⟨Nat.le_of_ble_eq_true rfl, Nat.le_of_ble_eq_true rfl⟩ ⟨Nat.zero_le _, Nat.zero_le _⟩ rfl (Nat.le_of_ble_eq_true rfl) rfl (fun i_r_8 => ?_)
          exact z_I g dX10_noteOf_60 i_r_8 h
      · replace h := if_t hc h
        refine r_mask g0 (lv' := [some (.ref (E.1 o)), none, none, none, none]) [true, false, false, false, false] rfl ?_
        exact hjp_1 s_5 h
theorem dX10_line_0 : decode cX10_line 0 = .ok (.iload_n 1, 1) := by decide +kernel
theorem dX10_line_1 : decode cX10_line 1 = .ok (.invokestatic 100, 3) := by decide +kernel
theorem dX10_line_4 : decode cX10_line 4 = .ok (.ifCond .eq 12, 3) := by decide +kernel
theorem dX10_line_7 : decode cX10_line 7 = .ok (.iload_n 2, 1) := by decide +kernel
theorem dX10_line_8 : decode cX10_line 8 = .ok (.iconst 0, 1) := by decide +kernel
theorem dX10_line_9 : decode cX10_line 9 = .ok (.iconst 4, 1) := by decide +kernel
theorem dX10_line_10 : decode cX10_line 10 = .ok (.invokestatic 113, 3) := by decide +kernel
theorem dX10_line_13 : decode cX10_line 13 = .ok (.ifCond .ne 10, 3) := by decide +kernel
theorem dX10_line_16 : decode cX10_line 16 = .ok (.aload_n 0, 1) := by decide +kernel
theorem dX10_line_17 : decode cX10_line 17 = .ok (.bipush (-2), 2) := by decide +kernel
theorem dX10_line_19 : decode cX10_line 19 = .ok (.invokevirtual 117, 3) := by decide +kernel
theorem dX10_line_22 : decode cX10_line 22 = .ok (.ireturn, 1) := by decide +kernel
theorem dX10_line_23 : decode cX10_line 23 = .ok (.aload_n 0, 1) := by decide +kernel
theorem dX10_line_24 : decode cX10_line 24 = .ok (.getfield 12, 3) := by decide +kernel
theorem dX10_line_27 : decode cX10_line 27 = .ok (.getfield 104, 3) := by decide +kernel
theorem dX10_line_30 : decode cX10_line 30 = .ok (.iload_n 1, 1) := by decide +kernel
theorem dX10_line_31 : decode cX10_line 31 = .ok (.aaload, 1) := by decide +kernel
theorem dX10_line_32 : decode cX10_line 32 = .ok (.astore_n 3, 1) := by decide +kernel
theorem dX10_line_33 : decode cX10_line 33 = .ok (.iload_n 2, 1) := by decide +kernel
theorem dX10_line_34 : decode cX10_line 34 = .ok (.ifCond .ne 8, 3) := by decide +kernel
theorem dX10_line_37 : decode cX10_line 37 = .ok (.aload_n 3, 1) := by decide +kernel
theorem dX10_line_38 : decode cX10_line 38 = .ok (.invokevirtual 140, 3) := by decide +kernel
theorem dX10_line_41 : decode cX10_line 41 = .ok (.ireturn, 1) := by decide +kernel
theorem dX10_line_42 : decode cX10_line 42 = .ok (.iload_n 2, 1) := by decide +kernel
theorem dX10_line_43 : decode cX10_line 43 = .ok (.iconst 1, 1) := by decide +kernel
theorem dX10_line_44 : decode cX10_line 44 = .ok (.if_icmp .ne 8, 3) := by decide +kernel
theorem dX10_line_47 : decode cX10_line 47 = .ok (.aload_n 3, 1) := by decide +kernel
theorem dX10_line_48 : decode cX10_line 48 = .ok (.getfield 144, 3) := by decide +kernel
theorem dX10_line_51 : decode cX10_line 51 = .ok (.ireturn, 1) := by decide +kernel
theorem dX10_line_52 : decode cX10_line 52 = .ok (.iload_n 2, 1) := by decide +kernel
theorem dX10_line_53 : decode cX10_line 53 = .ok (.iconst 2, 1) := by decide +kernel
theorem dX10_line_54 : decode cX10_line 54 = .ok (.if_icmp .ne 8, 3) := by decide +kernel
theorem dX10_line_57 : decode cX10_line 57 = .ok (.aload_n 3, 1) := by decide +kernel
theorem dX10_line_58 : decode cX10_line 58 = .ok (.invokevirtual 147, 3) := by decide +kernel
theorem dX10_line_61 : decode cX10_line 61 = .ok (.ireturn, 1) := by decide +kernel
theorem dX10_line_62 : decode cX10_line 62 = .ok (.iload_n 2, 1) := by decide +kernel
theorem dX10_line_63 : decode cX10_line 63 = .ok (.iconst 3, 1) := by decide +kernel
theorem dX10_line_64 : decode cX10_line 64 = .ok (.if_icmp .ne 8, 3) := by decide +kernel
theorem dX10_line_67 : decode cX10_line 67 = .ok (.aload_n 3, 1) := by decide +kernel
theorem dX10_line_68 : decode cX10_line 68 = .ok (.invokevirtual 150, 3) := by decide +kernel
theorem dX10_line_71 : decode cX10_line 71 = .ok (.ireturn, 1) := by decide +kernel
theorem dX10_line_72 : decode cX10_line 72 = .ok (.aload_n 0, 1) := by decide +kernel
theorem dX10_line_73 : decode cX10_line 73 = .ok (.getfield 12, 3) := by decide +kernel
theorem dX10_line_76 : decode cX10_line 76 = .ok (.getfield 153, 3) := by decide +kernel
theorem dX10_line_79 : decode cX10_line 79 = .ok (.iload_n 1, 1) := by decide +kernel
theorem dX10_line_80 : decode cX10_line 80 = .ok (.invokevirtual 156, 3) := by decide +kernel
theorem dX10_line_83 : decode cX10_line 83 = .ok (.ireturn, 1) := by decide +kernel
set_option maxHeartbeats 4000000 in
set_option maxRecDepth 100000 in
theorem c_X10_line {E : u_E} {l : Launch} {o : u_O} {p1 : Int} {p2 : Int} (ho : is_FP o) (i_p1 : InR p1) (i_p2 : InR p2) {s s' : u_S} {r : Int} (h : f_X10_line o p1 p2 s = some (r, s')) : Con l (XE E) yX10_line cX10_line 4 (some .int) 3 64 0 0 [.ref (E.1 o), .int (J p1), .int (J p2)] (Wd E s) (RI E r s') := by
  refine Con.of [some (.ref (E.1 o)), some (.int (J p1)), some (.int (J p2)), none] (by decide +kernel) rfl rfl (Nat.le_of_ble_eq_true rfl) (fun K g => ?_)
  have g0 := g.wk
  unfold f_X10_line at h
  refine r_iload_n g0 dX10_line_0 rfl ?_
  obtain ⟨r_1, s_1, hr_1, h⟩ := bd_some h
  refine r_cSZ g0 (rest := []) (c_X10_isLine i_p1 hr_1) ok_X10_isLine mX10_100 dX10_line_1 ⟨Nat.le_of_ble_eq_true rfl, Nat.le_of_ble_eq_true rfl⟩ ⟨Nat.zero_le _, Nat.zero_le _⟩ rfl (Nat.le_of_ble_eq_true rfl) rfl (fun i_r_1 => ?_)
  obtain ⟨jp_1, hdjp_1, h⟩ := jn_some h
  have hjp_1 : ∀  (s_2 : u_S), jp_1 s_2 = some (r, s') → K 0 0 16 [some (.ref (E.1 o)), none, none, none] [] (Wd E s_2) := by
    intro s_2 h
    subst hdjp_1
    refine r_aload_n g0 dX10_line_16 rfl ?_
    refine r_bipush g0 dX10_line_17 rfl ?_
    obtain ⟨r_2, s_3, hr_2, h⟩ := bd_some h
    refine r_cVI g0 (rest := []) (c_X10_refused ho (InR_lit rfl) hr_2) ok_X10_refused mX10_117 (recv_FP ho) dX10_line_19 ⟨Nat.le_of_ble_eq_true rfl, Nat.le_of_ble_eq_true rfl⟩ ⟨Nat.zero_le _, Nat.zero_le _⟩ rfl (Nat.le_of_ble_eq_true rfl) rfl (fun i_r_2 => ?_)
    exact z_I g dX10_line_22 i_r_2 h
  clear hdjp_1
  refine r_if_eq g0 16 dX10_line_4 (by decide) (B01.inR i_r_1) (fun hc => ?_) (fun hc => ?_)
  · replace h := if_t hc h
    refine r_mask g0 (lv' := [some (.ref (E.1 o)), none, none, none]) [true, false, false, false] rfl ?_
    exact hjp_1 s_1 h
  · replace h := if_f hc h
    refine r_iload_n g0 dX10_line_7 rfl ?_
    refine r_iconst g0 dX10_line_8 ?_
    refine r_iconst g0 dX10_line_9 ?_
    obtain ⟨r_3, s_4, hr_3, h⟩ := bd_some h
    refine r_cSZ g0 (rest := []) (c_X10_within i_p2 (B01.inR B01_0) (InR_lit rfl) hr_3) ok_X10_within mX10_113 dX10_line_10 ⟨Nat.le_of_ble_eq_true rfl, Nat.le_of_ble_eq_true rfl⟩ ⟨Nat.zero_le _, Nat.zero_le _⟩ rfl (Nat.le_of_ble_eq_true rfl) rfl (fun i_r_3 => ?_)
    refine r_if_ne g0 23 dX10_line_13 (by decide) (B01.inR i_r_3) (fun hc => ?_) (fun hc => ?_)
    · replace h := if_f hc h
      refine r_aload_n g0 dX10_line_23 rfl ?_
      refine g_FP_plan g0 ho qX10_12 dX10_line_24 ?_
      refine g_Plan_lines g0 (is_a_FP_plan ho) qX10_104 dX10_line_27 ?_
      refine r_iload_n g0 dX10_line_30 rfl ?_
      obtain ⟨hb, h⟩ := gd_some h
      refine r_aald_Line g0 (is_a_Plan_lines (is_a_FP_plan ho)) i_p1 hb dX10_line_31 ?_
      refine r_astore_n g0 (lv' := [some (.ref (E.1 o)), some (.int (J p1)), some (.int (J p2)), some (.ref (E.1 (e_Line (a_Plan_lines (a_FP_plan o)) p1)))]) dX10_line_32 (by decide) rfl rfl ?_
      refine r_iload_n g0 dX10_line_33 rfl ?_
      refine r_if_ne g0 42 dX10_line_34 (by decide) i_p2 (fun hc => ?_) (fun hc => ?_)
      · replace h := if_f hc h
        refine r_iload_n g0 dX10_line_42 rfl ?_
        refine r_iconst g0 dX10_line_43 ?_
        refine r_icmp_ne g0 52 dX10_line_44 (by decide) i_p2 (B01.inR B01_1) (fun hc => ?_) (fun hc => ?_)
        · replace h := if_f hc h
          refine r_iload_n g0 dX10_line_52 rfl ?_
          refine r_iconst g0 dX10_line_53 ?_
          refine r_icmp_ne g0 62 dX10_line_54 (by decide) i_p2 (InR_lit rfl) (fun hc => ?_) (fun hc => ?_)
          · replace h := if_f hc h
            refine r_iload_n g0 dX10_line_62 rfl ?_
            refine r_iconst g0 dX10_line_63 ?_
            refine r_icmp_ne g0 72 dX10_line_64 (by decide) i_p2 (InR_lit rfl) (fun hc => ?_) (fun hc => ?_)
            · replace h := if_f hc h
              refine r_aload_n g0 dX10_line_72 rfl ?_
              refine g_FP_plan g0 ho qX10_12 dX10_line_73 ?_
              refine g_Plan_entries g0 (is_a_FP_plan ho) qX10_153 dX10_line_76 ?_
              refine r_iload_n g0 dX10_line_79 rfl ?_
              obtain ⟨r_4, s_5, hr_4, h⟩ := bd_some h
              refine r_cVI g0 (rest := []) (c_X1_having (is_a_Plan_entries (is_a_FP_plan ho)) i_p1 hr_4) ok_X1_having mX10_156 (recv_Entries (is_a_Plan_entries (is_a_FP_plan ho))) dX10_line_80 ⟨Nat.le_of_ble_eq_true rfl, Nat.le_of_ble_eq_true rfl⟩ ⟨Nat.zero_le _, Nat.zero_le _⟩ rfl (Nat.le_of_ble_eq_true rfl) rfl (fun i_r_4 => ?_)
              exact z_I g dX10_line_83 i_r_4 h
            · replace h := if_t hc h
              refine r_aload_n g0 dX10_line_67 rfl ?_
              obtain ⟨r_5, s_6, hr_5, h⟩ := bd_some h
              refine r_cVI g0 (rest := []) (c_X5_greatestStep (is_e_Line (is_a_Plan_lines (is_a_FP_plan ho)) hb) hr_5) ok_X5_greatestStep mX10_150 (recv_Line (is_e_Line (is_a_Plan_lines (is_a_FP_plan ho)) hb)) dX10_line_68 ⟨Nat.le_of_ble_eq_true rfl, Nat.le_of_ble_eq_true rfl⟩ ⟨Nat.zero_le _, Nat.zero_le _⟩ rfl (Nat.le_of_ble_eq_true rfl) rfl (fun i_r_5 => ?_)
              exact z_I g dX10_line_71 i_r_5 h
          · replace h := if_t hc h
            refine r_aload_n g0 dX10_line_57 rfl ?_
            obtain ⟨r_6, s_7, hr_6, h⟩ := bd_some h
            refine r_cVI g0 (rest := []) (c_X5_leastStep (is_e_Line (is_a_Plan_lines (is_a_FP_plan ho)) hb) hr_6) ok_X5_leastStep mX10_147 (recv_Line (is_e_Line (is_a_Plan_lines (is_a_FP_plan ho)) hb)) dX10_line_58 ⟨Nat.le_of_ble_eq_true rfl, Nat.le_of_ble_eq_true rfl⟩ ⟨Nat.zero_le _, Nat.zero_le _⟩ rfl (Nat.le_of_ble_eq_true rfl) rfl (fun i_r_6 => ?_)
            exact z_I g dX10_line_61 i_r_6 h
        · replace h := if_t hc h
          refine r_aload_n g0 dX10_line_47 rfl ?_
          refine g_Line_count g0 (is_e_Line (is_a_Plan_lines (is_a_FP_plan ho)) hb) qX10_144 dX10_line_48 ?_
          exact z_I g dX10_line_51 (InR_rd _ _ _) h
      · replace h := if_t hc h
        refine r_aload_n g0 dX10_line_37 rfl ?_
        obtain ⟨r_7, s_8, hr_7, h⟩ := bd_some h
        refine r_cVI g0 (rest := []) (c_X5_length (is_e_Line (is_a_Plan_lines (is_a_FP_plan ho)) hb) hr_7) ok_X5_length mX10_140 (recv_Line (is_e_Line (is_a_Plan_lines (is_a_FP_plan ho)) hb)) dX10_line_38 ⟨Nat.le_of_ble_eq_true rfl, Nat.le_of_ble_eq_true rfl⟩ ⟨Nat.zero_le _, Nat.zero_le _⟩ rfl (Nat.le_of_ble_eq_true rfl) rfl (fun i_r_7 => ?_)
        exact z_I g dX10_line_41 i_r_7 h
    · replace h := if_t hc h
      refine r_mask g0 (lv' := [some (.ref (E.1 o)), none, none, none]) [true, false, false, false] rfl ?_
      exact hjp_1 s_4 h
theorem dX10_step_0 : decode cX10_step 0 = .ok (.iload_n 1, 1) := by decide +kernel
theorem dX10_step_1 : decode cX10_step 1 = .ok (.iload_n 2, 1) := by decide +kernel
theorem dX10_step_2 : decode cX10_step 2 = .ok (.iload_n 3, 1) := by decide +kernel
theorem dX10_step_3 : decode cX10_step 3 = .ok (.invokestatic 159, 3) := by decide +kernel
theorem dX10_step_6 : decode cX10_step 6 = .ok (.ifCond .eq 8, 3) := by decide +kernel
theorem dX10_step_9 : decode cX10_step 9 = .ok (.iload 4, 2) := by decide +kernel
theorem dX10_step_11 : decode cX10_step 11 = .ok (.ifCond .ge 14, 3) := by decide +kernel
theorem dX10_step_14 : decode cX10_step 14 = .ok (.aload_n 0, 1) := by decide +kernel
theorem dX10_step_15 : decode cX10_step 15 = .ok (.bipush (-2), 2) := by decide +kernel
theorem dX10_step_17 : decode cX10_step 17 = .ok (.invokevirtual 117, 3) := by decide +kernel
theorem dX10_step_20 : decode cX10_step 20 = .ok (.pop, 1) := by decide +kernel
theorem dX10_step_21 : decode cX10_step 21 = .ok (.sipush (-2000), 3) := by decide +kernel
theorem dX10_step_24 : decode cX10_step 24 = .ok (.ireturn, 1) := by decide +kernel
theorem dX10_step_25 : decode cX10_step 25 = .ok (.aload_n 0, 1) := by decide +kernel
theorem dX10_step_26 : decode cX10_step 26 = .ok (.getfield 12, 3) := by decide +kernel
theorem dX10_step_29 : decode cX10_step 29 = .ok (.aload_n 0, 1) := by decide +kernel
theorem dX10_step_30 : decode cX10_step 30 = .ok (.getfield 36, 3) := by decide +kernel
theorem dX10_step_33 : decode cX10_step 33 = .ok (.iload_n 1, 1) := by decide +kernel
theorem dX10_step_34 : decode cX10_step 34 = .ok (.iload_n 2, 1) := by decide +kernel
theorem dX10_step_35 : decode cX10_step 35 = .ok (.iload_n 3, 1) := by decide +kernel
theorem dX10_step_36 : decode cX10_step 36 = .ok (.invokevirtual 162, 3) := by decide +kernel
theorem dX10_step_39 : decode cX10_step 39 = .ok (.aload_n 0, 1) := by decide +kernel
theorem dX10_step_40 : decode cX10_step 40 = .ok (.getfield 36, 3) := by decide +kernel
theorem dX10_step_43 : decode cX10_step 43 = .ok (.iconst 0, 1) := by decide +kernel
theorem dX10_step_44 : decode cX10_step 44 = .ok (.iconst 0, 1) := by decide +kernel
theorem dX10_step_45 : decode cX10_step 45 = .ok (.invokevirtual 166, 3) := by decide +kernel
theorem dX10_step_48 : decode cX10_step 48 = .ok (.aload_n 0, 1) := by decide +kernel
theorem dX10_step_49 : decode cX10_step 49 = .ok (.getfield 36, 3) := by decide +kernel
theorem dX10_step_52 : decode cX10_step 52 = .ok (.iload 4, 2) := by decide +kernel
theorem dX10_step_54 : decode cX10_step 54 = .ok (.invokevirtual 170, 3) := by decide +kernel
theorem dX10_step_57 : decode cX10_step 57 = .ok (.ireturn, 1) := by decide +kernel
set_option maxHeartbeats 4000000 in
set_option maxRecDepth 100000 in
theorem c_X10_step {E : u_E} {l : Launch} {o : u_O} {p1 : Int} {p2 : Int} {p3 : Int} {p4 : Int} (ho : is_FP o) (i_p1 : InR p1) (i_p2 : InR p2) (i_p3 : InR p3) (i_p4 : InR p4) {s s' : u_S} {r : Int} (h : f_X10_step o p1 p2 p3 p4 s = some (r, s')) : Con l (XE E) yX10_step cX10_step 5 (some .int) 3 73 0 0 [.ref (E.1 o), .int (J p1), .int (J p2), .int (J p3), .int (J p4)] (Wd E s) (RI E r s') := by
  refine Con.of [some (.ref (E.1 o)), some (.int (J p1)), some (.int (J p2)), some (.int (J p3)), some (.int (J p4))] (by decide +kernel) rfl rfl (Nat.le_of_ble_eq_true rfl) (fun K g => ?_)
  have g0 := g.wk
  unfold f_X10_step at h
  refine r_iload_n g0 dX10_step_0 rfl ?_
  refine r_iload_n g0 dX10_step_1 rfl ?_
  refine r_iload_n g0 dX10_step_2 rfl ?_
  obtain ⟨r_1, s_1, hr_1, h⟩ := bd_some h
  refine r_cSZ g0 (rest := []) (c_X10_isFormed i_p1 i_p2 i_p3 hr_1) ok_X10_isFormed mX10_159 dX10_step_3 ⟨Nat.le_of_ble_eq_true rfl, Nat.le_of_ble_eq_true rfl⟩ ⟨Nat.zero_le _, Nat.zero_le _⟩ rfl (Nat.le_of_ble_eq_true rfl) rfl (fun i_r_1 => ?_)
  obtain ⟨jp_1, hdjp_1, h⟩ := jn_some h
  have hjp_1 : ∀  (s_2 : u_S), jp_1 s_2 = some (r, s') → K 0 0 14 [some (.ref (E.1 o)), none, none, none, none] [] (Wd E s_2) := by
    intro s_2 h
    subst hdjp_1
    refine r_aload_n g0 dX10_step_14 rfl ?_
    refine r_bipush g0 dX10_step_15 rfl ?_
    obtain ⟨r_2, s_3, hr_2, h⟩ := bd_some h
    refine r_cVI g0 (rest := []) (c_X10_refused ho (InR_lit rfl) hr_2) ok_X10_refused mX10_117 (recv_FP ho) dX10_step_17 ⟨Nat.le_of_ble_eq_true rfl, Nat.le_of_ble_eq_true rfl⟩ ⟨Nat.zero_le _, Nat.zero_le _⟩ rfl (Nat.le_of_ble_eq_true rfl) rfl (fun i_r_2 => ?_)
    refine r_pop g0 dX10_step_20 rfl ?_
    refine r_sipush g0 dX10_step_21 rfl ?_
    exact z_I g dX10_step_24 (InR_lit rfl) h
  clear hdjp_1
  refine r_if_eq g0 14 dX10_step_6 (by decide) (B01.inR i_r_1) (fun hc => ?_) (fun hc => ?_)
  · replace h := if_t hc h
    refine r_mask g0 (lv' := [some (.ref (E.1 o)), none, none, none, none]) [true, false, false, false, false] rfl ?_
    exact hjp_1 s_1 h
  · replace h := if_f hc h
    refine r_iload g0 dX10_step_9 rfl ?_
    refine r_if_ge g0 25 dX10_step_11 (by decide) i_p4 (fun hc => ?_) (fun hc => ?_)
    · replace h := if_f hc h
      refine r_aload_n g0 dX10_step_25 rfl ?_
      refine g_FP_plan g0 ho qX10_12 dX10_step_26 ?_
      refine r_aload_n g0 dX10_step_29 rfl ?_
      refine g_FP_upper g0 ho qX10_36 dX10_step_30 ?_
      refine r_iload_n g0 dX10_step_33 rfl ?_
      refine r_iload_n g0 dX10_step_34 rfl ?_
      refine r_iload_n g0 dX10_step_35 rfl ?_
      obtain ⟨r_3, s_4, hr_3, h⟩ := bd_some h
      refine r_cVV g0 (rest := []) (c_X6_form (is_a_FP_plan ho) (is_a_FP_upper ho) i_p1 i_p2 i_p3 hr_3) ok_X6_form mX10_162 (recv_Plan (is_a_FP_plan ho)) dX10_step_36 ⟨Nat.le_of_ble_eq_true rfl, Nat.le_of_ble_eq_true rfl⟩ ⟨Nat.zero_le _, Nat.zero_le _⟩ rfl (Nat.le_of_ble_eq_true rfl) rfl ?_
      refine r_aload_n g0 dX10_step_39 rfl ?_
      refine g_FP_upper g0 ho qX10_36 dX10_step_40 ?_
      refine r_iconst g0 dX10_step_43 ?_
      refine r_iconst g0 dX10_step_44 ?_
      obtain ⟨r_4, s_5, hr_4, h⟩ := bd_some h
      refine r_cVV g0 (rest := []) (c_X8_place (is_a_FP_upper ho) (B01.inR B01_0) (B01.inR B01_0) hr_4) ok_X8_place mX10_166 (recv_Sound (is_a_FP_upper ho)) dX10_step_45 ⟨Nat.le_of_ble_eq_true rfl, Nat.le_of_ble_eq_true rfl⟩ ⟨Nat.zero_le _, Nat.zero_le _⟩ rfl (Nat.le_of_ble_eq_true rfl) rfl ?_
      refine r_aload_n g0 dX10_step_48 rfl ?_
      refine g_FP_upper g0 ho qX10_36 dX10_step_49 ?_
      refine r_iload g0 dX10_step_52 rfl ?_
      obtain ⟨r_5, s_6, hr_5, h⟩ := bd_some h
      refine r_cVI g0 (rest := []) (c_X8_stepAt (is_a_FP_upper ho) i_p4 hr_5) ok_X8_stepAt mX10_170 (recv_Sound (is_a_FP_upper ho)) dX10_step_54 ⟨Nat.le_of_ble_eq_true rfl, Nat.le_of_ble_eq_true rfl⟩ ⟨Nat.zero_le _, Nat.zero_le _⟩ rfl (Nat.le_of_ble_eq_true rfl) rfl (fun i_r_5 => ?_)
      exact z_I g dX10_step_57 i_r_5 h
    · replace h := if_t hc h
      refine r_mask g0 (lv' := [some (.ref (E.1 o)), none, none, none, none]) [true, false, false, false, false] rfl ?_
      exact hjp_1 s_1 h
theorem dX10_enters_0 : decode cX10_enters 0 = .ok (.aload_n 0, 1) := by decide +kernel
theorem dX10_enters_1 : decode cX10_enters 1 = .ok (.getfield 16, 3) := by decide +kernel
theorem dX10_enters_4 : decode cX10_enters 4 = .ok (.aload_n 0, 1) := by decide +kernel
theorem dX10_enters_5 : decode cX10_enters 5 = .ok (.getfield 12, 3) := by decide +kernel
theorem dX10_enters_8 : decode cX10_enters 8 = .ok (.invokevirtual 75, 3) := by decide +kernel
theorem dX10_enters_11 : decode cX10_enters 11 = .ok (.aload_n 0, 1) := by decide +kernel
theorem dX10_enters_12 : decode cX10_enters 12 = .ok (.aload_n 0, 1) := by decide +kernel
theorem dX10_enters_13 : decode cX10_enters 13 = .ok (.getfield 12, 3) := by decide +kernel
theorem dX10_enters_16 : decode cX10_enters 16 = .ok (.iload_n 1, 1) := by decide +kernel
theorem dX10_enters_17 : decode cX10_enters 17 = .ok (.iload_n 2, 1) := by decide +kernel
theorem dX10_enters_18 : decode cX10_enters 18 = .ok (.iload_n 3, 1) := by decide +kernel
theorem dX10_enters_19 : decode cX10_enters 19 = .ok (.iload 4, 2) := by decide +kernel
theorem dX10_enters_21 : decode cX10_enters 21 = .ok (.iload 5, 2) := by decide +kernel
theorem dX10_enters_23 : decode cX10_enters 23 = .ok (.invokevirtual 173, 3) := by decide +kernel
theorem dX10_enters_26 : decode cX10_enters 26 = .ok (.invokevirtual 83, 3) := by decide +kernel
theorem dX10_enters_29 : decode cX10_enters 29 = .ok (.ireturn, 1) := by decide +kernel
set_option maxHeartbeats 4000000 in
set_option maxRecDepth 100000 in
theorem c_X10_enters {E : u_E} {l : Launch} {o : u_O} {p1 : Int} {p2 : Int} {p3 : Int} {p4 : Int} {p5 : Int} (ho : is_FP o) (i_p1 : InR p1) (i_p2 : InR p2) (i_p3 : InR p3) (i_p4 : InR p4) (i_p5 : InR p5) {s s' : u_S} {r : Int} (h : f_X10_enters o p1 p2 p3 p4 p5 s = some (r, s')) : Con l (XE E) yX10_enters cX10_enters 6 (some .int) 6 132 0 0 [.ref (E.1 o), .int (J p1), .int (J p2), .int (J p3), .int (J p4), .int (J p5)] (Wd E s) (RI E r s') := by
  refine Con.of [some (.ref (E.1 o)), some (.int (J p1)), some (.int (J p2)), some (.int (J p3)), some (.int (J p4)), some (.int (J p5))] (by decide +kernel) rfl rfl (Nat.le_of_ble_eq_true rfl) (fun K g => ?_)
  have g0 := g.wk
  unfold f_X10_enters at h
  refine r_aload_n g0 dX10_enters_0 rfl ?_
  refine g_FP_before g0 ho qX10_16 dX10_enters_1 ?_
  refine r_aload_n g0 dX10_enters_4 rfl ?_
  refine g_FP_plan g0 ho qX10_12 dX10_enters_5 ?_
  obtain ⟨r_1, s_1, hr_1, h⟩ := bd_some h
  refine r_cVV g0 (rest := []) (c_X6_copyFrom (is_a_FP_before ho) (is_a_FP_plan ho) hr_1) ok_X6_copyFrom mX10_75 (recv_Plan (is_a_FP_before ho)) dX10_enters_8 ⟨Nat.le_of_ble_eq_true rfl, Nat.le_of_ble_eq_true rfl⟩ ⟨Nat.zero_le _, Nat.zero_le _⟩ rfl (Nat.le_of_ble_eq_true rfl) rfl ?_
  refine r_aload_n g0 dX10_enters_11 rfl ?_
  refine r_aload_n g0 dX10_enters_12 rfl ?_
  refine g_FP_plan g0 ho qX10_12 dX10_enters_13 ?_
  refine r_iload_n g0 dX10_enters_16 rfl ?_
  refine r_iload_n g0 dX10_enters_17 rfl ?_
  refine r_iload_n g0 dX10_enters_18 rfl ?_
  refine r_iload g0 dX10_enters_19 rfl ?_
  refine r_iload g0 dX10_enters_21 rfl ?_
  obtain ⟨r_2, s_2, hr_2, h⟩ := bd_some h
  refine r_cVI g0 (rest := [.ref (E.1 o)]) (c_X6_addEntry (is_a_FP_plan ho) i_p1 i_p2 i_p3 i_p4 i_p5 hr_2) ok_X6_addEntry mX10_173 (recv_Plan (is_a_FP_plan ho)) dX10_enters_23 ⟨Nat.le_of_ble_eq_true rfl, Nat.le_of_ble_eq_true rfl⟩ ⟨Nat.zero_le _, Nat.zero_le _⟩ rfl (Nat.le_of_ble_eq_true rfl) rfl (fun i_r_2 => ?_)
  obtain ⟨r_3, s_3, hr_3, h⟩ := bd_some h
  refine r_cVI g0 (rest := []) (c_X10_settled ho i_r_2 hr_3) ok_X10_settled mX10_83 (recv_FP ho) dX10_enters_26 ⟨Nat.le_of_ble_eq_true rfl, Nat.le_of_ble_eq_true rfl⟩ ⟨Nat.zero_le _, Nat.zero_le _⟩ rfl (Nat.le_of_ble_eq_true rfl) rfl (fun i_r_3 => ?_)
  exact z_I g dX10_enters_29 i_r_3 h
theorem dX10_leaves_0 : decode cX10_leaves 0 = .ok (.aload_n 0, 1) := by decide +kernel
theorem dX10_leaves_1 : decode cX10_leaves 1 = .ok (.getfield 16, 3) := by decide +kernel
theorem dX10_leaves_4 : decode cX10_leaves 4 = .ok (.aload_n 0, 1) := by decide +kernel
theorem dX10_leaves_5 : decode cX10_leaves 5 = .ok (.getfield 12, 3) := by decide +kernel
theorem dX10_leaves_8 : decode cX10_leaves 8 = .ok (.invokevirtual 75, 3) := by decide +kernel
theorem dX10_leaves_11 : decode cX10_leaves 11 = .ok (.aload_n 0, 1) := by decide +kernel
theorem dX10_leaves_12 : decode cX10_leaves 12 = .ok (.aload_n 0, 1) := by decide +kernel
theorem dX10_leaves_13 : decode cX10_leaves 13 = .ok (.getfield 12, 3) := by decide +kernel
theorem dX10_leaves_16 : decode cX10_leaves 16 = .ok (.iload_n 1, 1) := by decide +kernel
theorem dX10_leaves_17 : decode cX10_leaves 17 = .ok (.invokevirtual 177, 3) := by decide +kernel
theorem dX10_leaves_20 : decode cX10_leaves 20 = .ok (.invokevirtual 83, 3) := by decide +kernel
theorem dX10_leaves_23 : decode cX10_leaves 23 = .ok (.ireturn, 1) := by decide +kernel
set_option maxHeartbeats 4000000 in
set_option maxRecDepth 100000 in
theorem c_X10_leaves {E : u_E} {l : Launch} {o : u_O} {p1 : Int} (ho : is_FP o) (i_p1 : InR p1) {s s' : u_S} {r : Int} (h : f_X10_leaves o p1 s = some (r, s')) : Con l (XE E) yX10_leaves cX10_leaves 2 (some .int) 6 132 0 0 [.ref (E.1 o), .int (J p1)] (Wd E s) (RI E r s') := by
  refine Con.of [some (.ref (E.1 o)), some (.int (J p1))] (by decide +kernel) rfl rfl (Nat.le_of_ble_eq_true rfl) (fun K g => ?_)
  have g0 := g.wk
  unfold f_X10_leaves at h
  refine r_aload_n g0 dX10_leaves_0 rfl ?_
  refine g_FP_before g0 ho qX10_16 dX10_leaves_1 ?_
  refine r_aload_n g0 dX10_leaves_4 rfl ?_
  refine g_FP_plan g0 ho qX10_12 dX10_leaves_5 ?_
  obtain ⟨r_1, s_1, hr_1, h⟩ := bd_some h
  refine r_cVV g0 (rest := []) (c_X6_copyFrom (is_a_FP_before ho) (is_a_FP_plan ho) hr_1) ok_X6_copyFrom mX10_75 (recv_Plan (is_a_FP_before ho)) dX10_leaves_8 ⟨Nat.le_of_ble_eq_true rfl, Nat.le_of_ble_eq_true rfl⟩ ⟨Nat.zero_le _, Nat.zero_le _⟩ rfl (Nat.le_of_ble_eq_true rfl) rfl ?_
  refine r_aload_n g0 dX10_leaves_11 rfl ?_
  refine r_aload_n g0 dX10_leaves_12 rfl ?_
  refine g_FP_plan g0 ho qX10_12 dX10_leaves_13 ?_
  refine r_iload_n g0 dX10_leaves_16 rfl ?_
  obtain ⟨r_2, s_2, hr_2, h⟩ := bd_some h
  refine r_cVI g0 (rest := [.ref (E.1 o)]) (c_X6_removeEntry (is_a_FP_plan ho) i_p1 hr_2) ok_X6_removeEntry mX10_177 (recv_Plan (is_a_FP_plan ho)) dX10_leaves_17 ⟨Nat.le_of_ble_eq_true rfl, Nat.le_of_ble_eq_true rfl⟩ ⟨Nat.zero_le _, Nat.zero_le _⟩ rfl (Nat.le_of_ble_eq_true rfl) rfl (fun i_r_2 => ?_)
  obtain ⟨r_3, s_3, hr_3, h⟩ := bd_some h
  refine r_cVI g0 (rest := []) (c_X10_settled ho i_r_2 hr_3) ok_X10_settled mX10_83 (recv_FP ho) dX10_leaves_20 ⟨Nat.le_of_ble_eq_true rfl, Nat.le_of_ble_eq_true rfl⟩ ⟨Nat.zero_le _, Nat.zero_le _⟩ rfl (Nat.le_of_ble_eq_true rfl) rfl (fun i_r_3 => ?_)
  exact z_I g dX10_leaves_23 i_r_3 h
theorem dX10_entry_0 : decode cX10_entry 0 = .ok (.aload_n 0, 1) := by decide +kernel
theorem dX10_entry_1 : decode cX10_entry 1 = .ok (.getfield 12, 3) := by decide +kernel
theorem dX10_entry_4 : decode cX10_entry 4 = .ok (.getfield 153, 3) := by decide +kernel
theorem dX10_entry_7 : decode cX10_entry 7 = .ok (.iload_n 1, 1) := by decide +kernel
theorem dX10_entry_8 : decode cX10_entry 8 = .ok (.invokevirtual 180, 3) := by decide +kernel
theorem dX10_entry_11 : decode cX10_entry 11 = .ok (.ifCond .eq 12, 3) := by decide +kernel
theorem dX10_entry_14 : decode cX10_entry 14 = .ok (.iload_n 2, 1) := by decide +kernel
theorem dX10_entry_15 : decode cX10_entry 15 = .ok (.iconst 0, 1) := by decide +kernel
theorem dX10_entry_16 : decode cX10_entry 16 = .ok (.iconst 5, 1) := by decide +kernel
theorem dX10_entry_17 : decode cX10_entry 17 = .ok (.invokestatic 113, 3) := by decide +kernel
theorem dX10_entry_20 : decode cX10_entry 20 = .ok (.ifCond .ne 10, 3) := by decide +kernel
theorem dX10_entry_23 : decode cX10_entry 23 = .ok (.aload_n 0, 1) := by decide +kernel
theorem dX10_entry_24 : decode cX10_entry 24 = .ok (.bipush (-2), 2) := by decide +kernel
theorem dX10_entry_26 : decode cX10_entry 26 = .ok (.invokevirtual 117, 3) := by decide +kernel
theorem dX10_entry_29 : decode cX10_entry 29 = .ok (.ireturn, 1) := by decide +kernel
theorem dX10_entry_30 : decode cX10_entry 30 = .ok (.aload_n 0, 1) := by decide +kernel
theorem dX10_entry_31 : decode cX10_entry 31 = .ok (.getfield 12, 3) := by decide +kernel
theorem dX10_entry_34 : decode cX10_entry 34 = .ok (.getfield 153, 3) := by decide +kernel
theorem dX10_entry_37 : decode cX10_entry 37 = .ok (.getfield 181, 3) := by decide +kernel
theorem dX10_entry_40 : decode cX10_entry 40 = .ok (.iload_n 1, 1) := by decide +kernel
theorem dX10_entry_41 : decode cX10_entry 41 = .ok (.aaload, 1) := by decide +kernel
theorem dX10_entry_42 : decode cX10_entry 42 = .ok (.astore_n 3, 1) := by decide +kernel
theorem dX10_entry_43 : decode cX10_entry 43 = .ok (.iload_n 2, 1) := by decide +kernel
theorem dX10_entry_44 : decode cX10_entry 44 = .ok (.ifCond .ne 8, 3) := by decide +kernel
theorem dX10_entry_47 : decode cX10_entry 47 = .ok (.aload_n 3, 1) := by decide +kernel
theorem dX10_entry_48 : decode cX10_entry 48 = .ok (.getfield 185, 3) := by decide +kernel
theorem dX10_entry_51 : decode cX10_entry 51 = .ok (.ireturn, 1) := by decide +kernel
theorem dX10_entry_52 : decode cX10_entry 52 = .ok (.iload_n 2, 1) := by decide +kernel
theorem dX10_entry_53 : decode cX10_entry 53 = .ok (.iconst 1, 1) := by decide +kernel
theorem dX10_entry_54 : decode cX10_entry 54 = .ok (.if_icmp .ne 8, 3) := by decide +kernel
theorem dX10_entry_57 : decode cX10_entry 57 = .ok (.aload_n 3, 1) := by decide +kernel
theorem dX10_entry_58 : decode cX10_entry 58 = .ok (.getfield 190, 3) := by decide +kernel
theorem dX10_entry_61 : decode cX10_entry 61 = .ok (.ireturn, 1) := by decide +kernel
theorem dX10_entry_62 : decode cX10_entry 62 = .ok (.iload_n 2, 1) := by decide +kernel
theorem dX10_entry_63 : decode cX10_entry 63 = .ok (.iconst 2, 1) := by decide +kernel
theorem dX10_entry_64 : decode cX10_entry 64 = .ok (.if_icmp .ne 8, 3) := by decide +kernel
theorem dX10_entry_67 : decode cX10_entry 67 = .ok (.aload_n 3, 1) := by decide +kernel
theorem dX10_entry_68 : decode cX10_entry 68 = .ok (.getfield 192, 3) := by decide +kernel
theorem dX10_entry_71 : decode cX10_entry 71 = .ok (.ireturn, 1) := by decide +kernel
theorem dX10_entry_72 : decode cX10_entry 72 = .ok (.iload_n 2, 1) := by decide +kernel
theorem dX10_entry_73 : decode cX10_entry 73 = .ok (.iconst 3, 1) := by decide +kernel
theorem dX10_entry_74 : decode cX10_entry 74 = .ok (.if_icmp .ne 8, 3) := by decide +kernel
theorem dX10_entry_77 : decode cX10_entry 77 = .ok (.aload_n 3, 1) := by decide +kernel
theorem dX10_entry_78 : decode cX10_entry 78 = .ok (.getfield 195, 3) := by decide +kernel
theorem dX10_entry_81 : decode cX10_entry 81 = .ok (.ireturn, 1) := by decide +kernel
theorem dX10_entry_82 : decode cX10_entry 82 = .ok (.iload_n 2, 1) := by decide +kernel
theorem dX10_entry_83 : decode cX10_entry 83 = .ok (.iconst 4, 1) := by decide +kernel
theorem dX10_entry_84 : decode cX10_entry 84 = .ok (.if_icmp .ne 19, 3) := by decide +kernel
theorem dX10_entry_87 : decode cX10_entry 87 = .ok (.aload_n 0, 1) := by decide +kernel
theorem dX10_entry_88 : decode cX10_entry 88 = .ok (.getfield 12, 3) := by decide +kernel
theorem dX10_entry_91 : decode cX10_entry 91 = .ok (.aload_n 3, 1) := by decide +kernel
theorem dX10_entry_92 : decode cX10_entry 92 = .ok (.getfield 185, 3) := by decide +kernel
theorem dX10_entry_95 : decode cX10_entry 95 = .ok (.aload_n 3, 1) := by decide +kernel
theorem dX10_entry_96 : decode cX10_entry 96 = .ok (.getfield 190, 3) := by decide +kernel
theorem dX10_entry_99 : decode cX10_entry 99 = .ok (.invokevirtual 198, 3) := by decide +kernel
theorem dX10_entry_102 : decode cX10_entry 102 = .ok (.ireturn, 1) := by decide +kernel
theorem dX10_entry_103 : decode cX10_entry 103 = .ok (.aload_n 3, 1) := by decide +kernel
theorem dX10_entry_104 : decode cX10_entry 104 = .ok (.getfield 201, 3) := by decide +kernel
theorem dX10_entry_107 : decode cX10_entry 107 = .ok (.bipush 21, 2) := by decide +kernel
theorem dX10_entry_109 : decode cX10_entry 109 = .ok (.iadd, 1) := by decide +kernel
theorem dX10_entry_110 : decode cX10_entry 110 = .ok (.ireturn, 1) := by decide +kernel
set_option maxHeartbeats 4000000 in
set_option maxRecDepth 100000 in
theorem c_X10_entry {E : u_E} {l : Launch} {o : u_O} {p1 : Int} {p2 : Int} (ho : is_FP o) (i_p1 : InR p1) (i_p2 : InR p2) {s s' : u_S} {r : Int} (h : f_X10_entry o p1 p2 s = some (r, s')) : Con l (XE E) yX10_entry cX10_entry 4 (some .int) 3 65 0 0 [.ref (E.1 o), .int (J p1), .int (J p2)] (Wd E s) (RI E r s') := by
  refine Con.of [some (.ref (E.1 o)), some (.int (J p1)), some (.int (J p2)), none] (by decide +kernel) rfl rfl (Nat.le_of_ble_eq_true rfl) (fun K g => ?_)
  have g0 := g.wk
  unfold f_X10_entry at h
  refine r_aload_n g0 dX10_entry_0 rfl ?_
  refine g_FP_plan g0 ho qX10_12 dX10_entry_1 ?_
  refine g_Plan_entries g0 (is_a_FP_plan ho) qX10_153 dX10_entry_4 ?_
  refine r_iload_n g0 dX10_entry_7 rfl ?_
  obtain ⟨r_1, s_1, hr_1, h⟩ := bd_some h
  refine r_cVZ g0 (rest := []) (c_X1_has (is_a_Plan_entries (is_a_FP_plan ho)) i_p1 hr_1) ok_X1_has mX10_180 (recv_Entries (is_a_Plan_entries (is_a_FP_plan ho))) dX10_entry_8 ⟨Nat.le_of_ble_eq_true rfl, Nat.le_of_ble_eq_true rfl⟩ ⟨Nat.zero_le _, Nat.zero_le _⟩ rfl (Nat.le_of_ble_eq_true rfl) rfl (fun i_r_1 => ?_)
  obtain ⟨jp_1, hdjp_1, h⟩ := jn_some h
  have hjp_1 : ∀  (s_2 : u_S), jp_1 s_2 = some (r, s') → K 0 0 23 [some (.ref (E.1 o)), none, none, none] [] (Wd E s_2) := by
    intro s_2 h
    subst hdjp_1
    refine r_aload_n g0 dX10_entry_23 rfl ?_
    refine r_bipush g0 dX10_entry_24 rfl ?_
    obtain ⟨r_2, s_3, hr_2, h⟩ := bd_some h
    refine r_cVI g0 (rest := []) (c_X10_refused ho (InR_lit rfl) hr_2) ok_X10_refused mX10_117 (recv_FP ho) dX10_entry_26 ⟨Nat.le_of_ble_eq_true rfl, Nat.le_of_ble_eq_true rfl⟩ ⟨Nat.zero_le _, Nat.zero_le _⟩ rfl (Nat.le_of_ble_eq_true rfl) rfl (fun i_r_2 => ?_)
    exact z_I g dX10_entry_29 i_r_2 h
  clear hdjp_1
  refine r_if_eq g0 23 dX10_entry_11 (by decide) (B01.inR i_r_1) (fun hc => ?_) (fun hc => ?_)
  · replace h := if_t hc h
    refine r_mask g0 (lv' := [some (.ref (E.1 o)), none, none, none]) [true, false, false, false] rfl ?_
    exact hjp_1 s_1 h
  · replace h := if_f hc h
    refine r_iload_n g0 dX10_entry_14 rfl ?_
    refine r_iconst g0 dX10_entry_15 ?_
    refine r_iconst g0 dX10_entry_16 ?_
    obtain ⟨r_3, s_4, hr_3, h⟩ := bd_some h
    refine r_cSZ g0 (rest := []) (c_X10_within i_p2 (B01.inR B01_0) (InR_lit rfl) hr_3) ok_X10_within mX10_113 dX10_entry_17 ⟨Nat.le_of_ble_eq_true rfl, Nat.le_of_ble_eq_true rfl⟩ ⟨Nat.zero_le _, Nat.zero_le _⟩ rfl (Nat.le_of_ble_eq_true rfl) rfl (fun i_r_3 => ?_)
    refine r_if_ne g0 30 dX10_entry_20 (by decide) (B01.inR i_r_3) (fun hc => ?_) (fun hc => ?_)
    · replace h := if_f hc h
      refine r_aload_n g0 dX10_entry_30 rfl ?_
      refine g_FP_plan g0 ho qX10_12 dX10_entry_31 ?_
      refine g_Plan_entries g0 (is_a_FP_plan ho) qX10_153 dX10_entry_34 ?_
      refine g_Entries_items g0 (is_a_Plan_entries (is_a_FP_plan ho)) qX10_181 dX10_entry_37 ?_
      refine r_iload_n g0 dX10_entry_40 rfl ?_
      obtain ⟨hb, h⟩ := gd_some h
      refine r_aald_Entry g0 (is_a_Entries_items (is_a_Plan_entries (is_a_FP_plan ho))) i_p1 hb dX10_entry_41 ?_
      refine r_astore_n g0 (lv' := [some (.ref (E.1 o)), some (.int (J p1)), some (.int (J p2)), some (.ref (E.1 (e_Entry (a_Entries_items (a_Plan_entries (a_FP_plan o))) p1)))]) dX10_entry_42 (by decide) rfl rfl ?_
      refine r_iload_n g0 dX10_entry_43 rfl ?_
      refine r_if_ne g0 52 dX10_entry_44 (by decide) i_p2 (fun hc => ?_) (fun hc => ?_)
      · replace h := if_f hc h
        refine r_iload_n g0 dX10_entry_52 rfl ?_
        refine r_iconst g0 dX10_entry_53 ?_
        refine r_icmp_ne g0 62 dX10_entry_54 (by decide) i_p2 (B01.inR B01_1) (fun hc => ?_) (fun hc => ?_)
        · replace h := if_f hc h
          refine r_iload_n g0 dX10_entry_62 rfl ?_
          refine r_iconst g0 dX10_entry_63 ?_
          refine r_icmp_ne g0 72 dX10_entry_64 (by decide) i_p2 (InR_lit rfl) (fun hc => ?_) (fun hc => ?_)
          · replace h := if_f hc h
            refine r_iload_n g0 dX10_entry_72 rfl ?_
            refine r_iconst g0 dX10_entry_73 ?_
            refine r_icmp_ne g0 82 dX10_entry_74 (by decide) i_p2 (InR_lit rfl) (fun hc => ?_) (fun hc => ?_)
            · replace h := if_f hc h
              refine r_iload_n g0 dX10_entry_82 rfl ?_
              refine r_iconst g0 dX10_entry_83 ?_
              refine r_icmp_ne g0 103 dX10_entry_84 (by decide) i_p2 (InR_lit rfl) (fun hc => ?_) (fun hc => ?_)
              · replace h := if_f hc h
                refine r_aload_n g0 dX10_entry_103 rfl ?_
                refine g_Entry_move g0 (is_e_Entry (is_a_Entries_items (is_a_Plan_entries (is_a_FP_plan ho))) hb) qX10_201 dX10_entry_104 ?_
                refine r_bipush g0 dX10_entry_107 rfl ?_
                refine r_iadd g0 dX10_entry_109 ?_
                exact z_I g dX10_entry_110 (InR_wr _) h
              · replace h := if_t hc h
                refine r_aload_n g0 dX10_entry_87 rfl ?_
                refine g_FP_plan g0 ho qX10_12 dX10_entry_88 ?_
                refine r_aload_n g0 dX10_entry_91 rfl ?_
                refine g_Entry_line g0 (is_e_Entry (is_a_Entries_items (is_a_Plan_entries (is_a_FP_plan ho))) hb) qX10_185 dX10_entry_92 ?_
                refine r_aload_n g0 dX10_entry_95 rfl ?_
                refine g_Entry_form g0 (is_e_Entry (is_a_Entries_items (is_a_Plan_entries (is_a_FP_plan ho))) hb) qX10_190 dX10_entry_96 ?_
                obtain ⟨r_4, s_5, hr_4, h⟩ := bd_some h
                refine r_cVI g0 (rest := []) (c_X6_lengthOf (is_a_FP_plan ho) (InR_rd _ _ _) (InR_rd _ _ _) hr_4) ok_X6_lengthOf mX10_198 (recv_Plan (is_a_FP_plan ho)) dX10_entry_99 ⟨Nat.le_of_ble_eq_true rfl, Nat.le_of_ble_eq_true rfl⟩ ⟨Nat.zero_le _, Nat.zero_le _⟩ rfl (Nat.le_of_ble_eq_true rfl) rfl (fun i_r_4 => ?_)
                exact z_I g dX10_entry_102 i_r_4 h
            · replace h := if_t hc h
              refine r_aload_n g0 dX10_entry_77 rfl ?_
              refine g_Entry_voice g0 (is_e_Entry (is_a_Entries_items (is_a_Plan_entries (is_a_FP_plan ho))) hb) qX10_195 dX10_entry_78 ?_
              exact z_I g dX10_entry_81 (InR_rd _ _ _) h
          · replace h := if_t hc h
            refine r_aload_n g0 dX10_entry_67 rfl ?_
            refine g_Entry_start g0 (is_e_Entry (is_a_Entries_items (is_a_Plan_entries (is_a_FP_plan ho))) hb) qX10_192 dX10_entry_68 ?_
            exact z_I g dX10_entry_71 (InR_rd _ _ _) h
        · replace h := if_t hc h
          refine r_aload_n g0 dX10_entry_57 rfl ?_
          refine g_Entry_form g0 (is_e_Entry (is_a_Entries_items (is_a_Plan_entries (is_a_FP_plan ho))) hb) qX10_190 dX10_entry_58 ?_
          exact z_I g dX10_entry_61 (InR_rd _ _ _) h
      · replace h := if_t hc h
        refine r_aload_n g0 dX10_entry_47 rfl ?_
        refine g_Entry_line g0 (is_e_Entry (is_a_Entries_items (is_a_Plan_entries (is_a_FP_plan ho))) hb) qX10_185 dX10_entry_48 ?_
        exact z_I g dX10_entry_51 (InR_rd _ _ _) h
    · replace h := if_t hc h
      refine r_mask g0 (lv' := [some (.ref (E.1 o)), none, none, none]) [true, false, false, false] rfl ?_
      exact hjp_1 s_4 h
theorem dX10_sounds_0 : decode cX10_sounds 0 = .ok (.iload_n 1, 1) := by decide +kernel
theorem dX10_sounds_1 : decode cX10_sounds 1 = .ok (.iconst 0, 1) := by decide +kernel
theorem dX10_sounds_2 : decode cX10_sounds 2 = .ok (.iconst 3, 1) := by decide +kernel
theorem dX10_sounds_3 : decode cX10_sounds 3 = .ok (.invokestatic 113, 3) := by decide +kernel
theorem dX10_sounds_6 : decode cX10_sounds 6 = .ok (.ifCond .eq 7, 3) := by decide +kernel
theorem dX10_sounds_9 : decode cX10_sounds 9 = .ok (.iload_n 2, 1) := by decide +kernel
theorem dX10_sounds_10 : decode cX10_sounds 10 = .ok (.ifCond .ge 14, 3) := by decide +kernel
theorem dX10_sounds_13 : decode cX10_sounds 13 = .ok (.aload_n 0, 1) := by decide +kernel
theorem dX10_sounds_14 : decode cX10_sounds 14 = .ok (.bipush (-2), 2) := by decide +kernel
theorem dX10_sounds_16 : decode cX10_sounds 16 = .ok (.invokevirtual 117, 3) := by decide +kernel
theorem dX10_sounds_19 : decode cX10_sounds 19 = .ok (.pop, 1) := by decide +kernel
theorem dX10_sounds_20 : decode cX10_sounds 20 = .ok (.sipush (-2000), 3) := by decide +kernel
theorem dX10_sounds_23 : decode cX10_sounds 23 = .ok (.ireturn, 1) := by decide +kernel
theorem dX10_sounds_24 : decode cX10_sounds 24 = .ok (.aload_n 0, 1) := by decide +kernel
theorem dX10_sounds_25 : decode cX10_sounds 25 = .ok (.getfield 53, 3) := by decide +kernel
theorem dX10_sounds_28 : decode cX10_sounds 28 = .ok (.aload_n 0, 1) := by decide +kernel
theorem dX10_sounds_29 : decode cX10_sounds 29 = .ok (.getfield 12, 3) := by decide +kernel
theorem dX10_sounds_32 : decode cX10_sounds 32 = .ok (.aload_n 0, 1) := by decide +kernel
theorem dX10_sounds_33 : decode cX10_sounds 33 = .ok (.getfield 12, 3) := by decide +kernel
theorem dX10_sounds_36 : decode cX10_sounds 36 = .ok (.getfield 153, 3) := by decide +kernel
theorem dX10_sounds_39 : decode cX10_sounds 39 = .ok (.invokevirtual 204, 3) := by decide +kernel
theorem dX10_sounds_42 : decode cX10_sounds 42 = .ok (.aload_n 0, 1) := by decide +kernel
theorem dX10_sounds_43 : decode cX10_sounds 43 = .ok (.getfield 53, 3) := by decide +kernel
theorem dX10_sounds_46 : decode cX10_sounds 46 = .ok (.iload_n 1, 1) := by decide +kernel
theorem dX10_sounds_47 : decode cX10_sounds 47 = .ok (.iload_n 2, 1) := by decide +kernel
theorem dX10_sounds_48 : decode cX10_sounds 48 = .ok (.invokevirtual 208, 3) := by decide +kernel
theorem dX10_sounds_51 : decode cX10_sounds 51 = .ok (.ireturn, 1) := by decide +kernel
set_option maxHeartbeats 4000000 in
set_option maxRecDepth 100000 in
theorem c_X10_sounds {E : u_E} {l : Launch} {o : u_O} {p1 : Int} {p2 : Int} (ho : is_FP o) (i_p1 : InR p1) (i_p2 : InR p2) {s s' : u_S} {r : Int} (h : f_X10_sounds o p1 p2 s = some (r, s')) : Con l (XE E) yX10_sounds cX10_sounds 3 (some .int) 4 97 0 0 [.ref (E.1 o), .int (J p1), .int (J p2)] (Wd E s) (RI E r s') := by
  refine Con.of [some (.ref (E.1 o)), some (.int (J p1)), some (.int (J p2))] (by decide +kernel) rfl rfl (Nat.le_of_ble_eq_true rfl) (fun K g => ?_)
  have g0 := g.wk
  unfold f_X10_sounds at h
  refine r_iload_n g0 dX10_sounds_0 rfl ?_
  refine r_iconst g0 dX10_sounds_1 ?_
  refine r_iconst g0 dX10_sounds_2 ?_
  obtain ⟨r_1, s_1, hr_1, h⟩ := bd_some h
  refine r_cSZ g0 (rest := []) (c_X10_within i_p1 (B01.inR B01_0) (InR_lit rfl) hr_1) ok_X10_within mX10_113 dX10_sounds_3 ⟨Nat.le_of_ble_eq_true rfl, Nat.le_of_ble_eq_true rfl⟩ ⟨Nat.zero_le _, Nat.zero_le _⟩ rfl (Nat.le_of_ble_eq_true rfl) rfl (fun i_r_1 => ?_)
  obtain ⟨jp_1, hdjp_1, h⟩ := jn_some h
  have hjp_1 : ∀  (s_2 : u_S), jp_1 s_2 = some (r, s') → K 0 0 13 [some (.ref (E.1 o)), none, none] [] (Wd E s_2) := by
    intro s_2 h
    subst hdjp_1
    refine r_aload_n g0 dX10_sounds_13 rfl ?_
    refine r_bipush g0 dX10_sounds_14 rfl ?_
    obtain ⟨r_2, s_3, hr_2, h⟩ := bd_some h
    refine r_cVI g0 (rest := []) (c_X10_refused ho (InR_lit rfl) hr_2) ok_X10_refused mX10_117 (recv_FP ho) dX10_sounds_16 ⟨Nat.le_of_ble_eq_true rfl, Nat.le_of_ble_eq_true rfl⟩ ⟨Nat.zero_le _, Nat.zero_le _⟩ rfl (Nat.le_of_ble_eq_true rfl) rfl (fun i_r_2 => ?_)
    refine r_pop g0 dX10_sounds_19 rfl ?_
    refine r_sipush g0 dX10_sounds_20 rfl ?_
    exact z_I g dX10_sounds_23 (InR_lit rfl) h
  clear hdjp_1
  refine r_if_eq g0 13 dX10_sounds_6 (by decide) (B01.inR i_r_1) (fun hc => ?_) (fun hc => ?_)
  · replace h := if_t hc h
    refine r_mask g0 (lv' := [some (.ref (E.1 o)), none, none]) [true, false, false] rfl ?_
    exact hjp_1 s_1 h
  · replace h := if_f hc h
    refine r_iload_n g0 dX10_sounds_9 rfl ?_
    refine r_if_ge g0 24 dX10_sounds_10 (by decide) i_p2 (fun hc => ?_) (fun hc => ?_)
    · replace h := if_f hc h
      refine r_aload_n g0 dX10_sounds_24 rfl ?_
      refine g_FP_chorus g0 ho qX10_53 dX10_sounds_25 ?_
      refine r_aload_n g0 dX10_sounds_28 rfl ?_
      refine g_FP_plan g0 ho qX10_12 dX10_sounds_29 ?_
      refine r_aload_n g0 dX10_sounds_32 rfl ?_
      refine g_FP_plan g0 ho qX10_12 dX10_sounds_33 ?_
      refine g_Plan_entries g0 (is_a_FP_plan ho) qX10_153 dX10_sounds_36 ?_
      obtain ⟨r_3, s_4, hr_3, h⟩ := bd_some h
      refine r_cVV g0 (rest := []) (c_X0_gather (is_a_FP_chorus ho) (is_a_FP_plan ho) (is_a_Plan_entries (is_a_FP_plan ho)) hr_3) ok_X0_gather mX10_204 (recv_Chorus (is_a_FP_chorus ho)) dX10_sounds_39 ⟨Nat.le_of_ble_eq_true rfl, Nat.le_of_ble_eq_true rfl⟩ ⟨Nat.zero_le _, Nat.zero_le _⟩ rfl (Nat.le_of_ble_eq_true rfl) rfl ?_
      refine r_aload_n g0 dX10_sounds_42 rfl ?_
      refine g_FP_chorus g0 ho qX10_53 dX10_sounds_43 ?_
      refine r_iload_n g0 dX10_sounds_46 rfl ?_
      refine r_iload_n g0 dX10_sounds_47 rfl ?_
      obtain ⟨r_4, s_5, hr_4, h⟩ := bd_some h
      refine r_cVI g0 (rest := []) (c_X0_stepOf (is_a_FP_chorus ho) i_p1 i_p2 hr_4) ok_X0_stepOf mX10_208 (recv_Chorus (is_a_FP_chorus ho)) dX10_sounds_48 ⟨Nat.le_of_ble_eq_true rfl, Nat.le_of_ble_eq_true rfl⟩ ⟨Nat.zero_le _, Nat.zero_le _⟩ rfl (Nat.le_of_ble_eq_true rfl) rfl (fun i_r_4 => ?_)
      exact z_I g dX10_sounds_51 i_r_4 h
    · replace h := if_t hc h
      refine r_mask g0 (lv' := [some (.ref (E.1 o)), none, none]) [true, false, false] rfl ?_
      exact hjp_1 s_1 h
