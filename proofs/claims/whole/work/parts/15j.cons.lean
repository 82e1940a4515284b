/-! THE CONTRACTS: the bytecode does what the functions say (by program, wip/whole/gen) -/
theorem dX10_digest_0 : decode cX10_digest 0 = .ok (.ldc2_w 342, 3) := by decide +kernel
theorem dX10_digest_3 : decode cX10_digest 3 = .ok (.lstore_n 1, 1) := by decide +kernel
theorem dX10_digest_4 : decode cX10_digest 4 = .ok (.iconst 0, 1) := by decide +kernel
theorem dX10_digest_5 : decode cX10_digest 5 = .ok (.istore_n 3, 1) := by decide +kernel
theorem dX10_digest_6 : decode cX10_digest 6 = .ok (.iload_n 3, 1) := by decide +kernel
theorem dX10_digest_7 : decode cX10_digest 7 = .ok (.bipush 10, 2) := by decide +kernel
theorem dX10_digest_9 : decode cX10_digest 9 = .ok (.if_icmp .gt 22, 3) := by decide +kernel
theorem dX10_digest_12 : decode cX10_digest 12 = .ok (.ldc2_w 344, 3) := by decide +kernel
theorem dX10_digest_15 : decode cX10_digest 15 = .ok (.lload_n 1, 1) := by decide +kernel
theorem dX10_digest_16 : decode cX10_digest 16 = .ok (.lmul, 1) := by decide +kernel
theorem dX10_digest_17 : decode cX10_digest 17 = .ok (.aload_n 0, 1) := by decide +kernel
theorem dX10_digest_18 : decode cX10_digest 18 = .ok (.iload_n 3, 1) := by decide +kernel
theorem dX10_digest_19 : decode cX10_digest 19 = .ok (.invokevirtual 346, 3) := by decide +kernel
theorem dX10_digest_22 : decode cX10_digest 22 = .ok (.i2l, 1) := by decide +kernel
theorem dX10_digest_23 : decode cX10_digest 23 = .ok (.ladd, 1) := by decide +kernel
theorem dX10_digest_24 : decode cX10_digest 24 = .ok (.lstore_n 1, 1) := by decide +kernel
theorem dX10_digest_25 : decode cX10_digest 25 = .ok (.iinc 3 1, 3) := by decide +kernel
theorem dX10_digest_28 : decode cX10_digest 28 = .ok (.goto (-22), 3) := by decide +kernel
theorem dX10_digest_31 : decode cX10_digest 31 = .ok (.iconst 0, 1) := by decide +kernel
theorem dX10_digest_32 : decode cX10_digest 32 = .ok (.istore_n 3, 1) := by decide +kernel
theorem dX10_digest_33 : decode cX10_digest 33 = .ok (.iload_n 3, 1) := by decide +kernel
theorem dX10_digest_34 : decode cX10_digest 34 = .ok (.iconst 4, 1) := by decide +kernel
theorem dX10_digest_35 : decode cX10_digest 35 = .ok (.if_icmp .ge 16, 3) := by decide +kernel
theorem dX10_digest_38 : decode cX10_digest 38 = .ok (.aload_n 0, 1) := by decide +kernel
theorem dX10_digest_39 : decode cX10_digest 39 = .ok (.lload_n 1, 1) := by decide +kernel
theorem dX10_digest_40 : decode cX10_digest 40 = .ok (.iload_n 3, 1) := by decide +kernel
theorem dX10_digest_41 : decode cX10_digest 41 = .ok (.invokevirtual 349, 3) := by decide +kernel
theorem dX10_digest_44 : decode cX10_digest 44 = .ok (.lstore_n 1, 1) := by decide +kernel
theorem dX10_digest_45 : decode cX10_digest 45 = .ok (.iinc 3 1, 3) := by decide +kernel
theorem dX10_digest_48 : decode cX10_digest 48 = .ok (.goto (-15), 3) := by decide +kernel
theorem dX10_digest_51 : decode cX10_digest 51 = .ok (.iconst 0, 1) := by decide +kernel
theorem dX10_digest_52 : decode cX10_digest 52 = .ok (.istore_n 3, 1) := by decide +kernel
theorem dX10_digest_53 : decode cX10_digest 53 = .ok (.iload_n 3, 1) := by decide +kernel
theorem dX10_digest_54 : decode cX10_digest 54 = .ok (.aload_n 0, 1) := by decide +kernel
theorem dX10_digest_55 : decode cX10_digest 55 = .ok (.getfield 12, 3) := by decide +kernel
theorem dX10_digest_58 : decode cX10_digest 58 = .ok (.getfield 153, 3) := by decide +kernel
theorem dX10_digest_61 : decode cX10_digest 61 = .ok (.getfield 285, 3) := by decide +kernel
theorem dX10_digest_64 : decode cX10_digest 64 = .ok (.if_icmp .ge 39, 3) := by decide +kernel
theorem dX10_digest_67 : decode cX10_digest 67 = .ok (.iconst 0, 1) := by decide +kernel
theorem dX10_digest_68 : decode cX10_digest 68 = .ok (.istore 4, 2) := by decide +kernel
theorem dX10_digest_70 : decode cX10_digest 70 = .ok (.iload 4, 2) := by decide +kernel
theorem dX10_digest_72 : decode cX10_digest 72 = .ok (.iconst 5, 1) := by decide +kernel
theorem dX10_digest_73 : decode cX10_digest 73 = .ok (.if_icmp .gt 24, 3) := by decide +kernel
theorem dX10_digest_76 : decode cX10_digest 76 = .ok (.ldc2_w 344, 3) := by decide +kernel
theorem dX10_digest_79 : decode cX10_digest 79 = .ok (.lload_n 1, 1) := by decide +kernel
theorem dX10_digest_80 : decode cX10_digest 80 = .ok (.lmul, 1) := by decide +kernel
theorem dX10_digest_81 : decode cX10_digest 81 = .ok (.aload_n 0, 1) := by decide +kernel
theorem dX10_digest_82 : decode cX10_digest 82 = .ok (.iload_n 3, 1) := by decide +kernel
theorem dX10_digest_83 : decode cX10_digest 83 = .ok (.iload 4, 2) := by decide +kernel
theorem dX10_digest_85 : decode cX10_digest 85 = .ok (.invokevirtual 353, 3) := by decide +kernel
theorem dX10_digest_88 : decode cX10_digest 88 = .ok (.i2l, 1) := by decide +kernel
theorem dX10_digest_89 : decode cX10_digest 89 = .ok (.ladd, 1) := by decide +kernel
theorem dX10_digest_90 : decode cX10_digest 90 = .ok (.lstore_n 1, 1) := by decide +kernel
theorem dX10_digest_91 : decode cX10_digest 91 = .ok (.iinc 4 1, 3) := by decide +kernel
theorem dX10_digest_94 : decode cX10_digest 94 = .ok (.goto (-24), 3) := by decide +kernel
theorem dX10_digest_97 : decode cX10_digest 97 = .ok (.iinc 3 1, 3) := by decide +kernel
theorem dX10_digest_100 : decode cX10_digest 100 = .ok (.goto (-47), 3) := by decide +kernel
theorem dX10_digest_103 : decode cX10_digest 103 = .ok (.iconst 0, 1) := by decide +kernel
theorem dX10_digest_104 : decode cX10_digest 104 = .ok (.istore_n 3, 1) := by decide +kernel
theorem dX10_digest_105 : decode cX10_digest 105 = .ok (.iload_n 3, 1) := by decide +kernel
theorem dX10_digest_106 : decode cX10_digest 106 = .ok (.iconst 5, 1) := by decide +kernel
theorem dX10_digest_107 : decode cX10_digest 107 = .ok (.if_icmp .gt 22, 3) := by decide +kernel
theorem dX10_digest_110 : decode cX10_digest 110 = .ok (.ldc2_w 344, 3) := by decide +kernel
theorem dX10_digest_113 : decode cX10_digest 113 = .ok (.lload_n 1, 1) := by decide +kernel
theorem dX10_digest_114 : decode cX10_digest 114 = .ok (.lmul, 1) := by decide +kernel
theorem dX10_digest_115 : decode cX10_digest 115 = .ok (.aload_n 0, 1) := by decide +kernel
theorem dX10_digest_116 : decode cX10_digest 116 = .ok (.iload_n 3, 1) := by decide +kernel
theorem dX10_digest_117 : decode cX10_digest 117 = .ok (.invokevirtual 356, 3) := by decide +kernel
theorem dX10_digest_120 : decode cX10_digest 120 = .ok (.i2l, 1) := by decide +kernel
theorem dX10_digest_121 : decode cX10_digest 121 = .ok (.ladd, 1) := by decide +kernel
theorem dX10_digest_122 : decode cX10_digest 122 = .ok (.lstore_n 1, 1) := by decide +kernel
theorem dX10_digest_123 : decode cX10_digest 123 = .ok (.iinc 3 1, 3) := by decide +kernel
theorem dX10_digest_126 : decode cX10_digest 126 = .ok (.goto (-21), 3) := by decide +kernel
theorem dX10_digest_129 : decode cX10_digest 129 = .ok (.ldc2_w 344, 3) := by decide +kernel
theorem dX10_digest_132 : decode cX10_digest 132 = .ok (.lload_n 1, 1) := by decide +kernel
theorem dX10_digest_133 : decode cX10_digest 133 = .ok (.lmul, 1) := by decide +kernel
theorem dX10_digest_134 : decode cX10_digest 134 = .ok (.aload_n 0, 1) := by decide +kernel
theorem dX10_digest_135 : decode cX10_digest 135 = .ok (.iconst (-1), 1) := by decide +kernel
theorem dX10_digest_136 : decode cX10_digest 136 = .ok (.invokevirtual 359, 3) := by decide +kernel
theorem dX10_digest_139 : decode cX10_digest 139 = .ok (.i2l, 1) := by decide +kernel
theorem dX10_digest_140 : decode cX10_digest 140 = .ok (.ladd, 1) := by decide +kernel
theorem dX10_digest_141 : decode cX10_digest 141 = .ok (.lreturn, 1) := by decide +kernel
set_option maxHeartbeats 4000000 in
set_option maxRecDepth 100000 in
theorem t_X10_digest_L105 {l : Launch} {E : u_E} {K : u_K} {r : Int} {s' : u_S} (g : Wk l (XE E) { frames := 6, cells := 0, slots := 0, locals := 147 } cX10_digest 5 yX10_digest.cls yX10_digest.name (some .long) (RJ E r s') K) {v0_1 : u_O} (i_v0_1 : is_FP v0_1) {kx129 : Int → u_S → Option (Int × u_S)} (hkx129 : ∀ (v1_6 : Int) (s_8 : u_S), InL v1_6 → kx129 v1_6 s_8 = some (r, s') → K 0 0 129 [some (.ref (E.1 v0_1)), some (.long (JL v1_6)), none, none, none] [] (Wd E s_8)) : ∀ (m : Nat) (v1_5 : Int) (v3_1 : Int) (s_6 : u_S), InL v1_5 → InR v3_1 → f_X10_digest_L105 m kx129 v0_1 v1_5 v3_1 s_6 = some (r, s') → K 0 0 105 [some (.ref (E.1 v0_1)), some (.long (JL v1_5)), none, some (.int (J v3_1)), none] [] (Wd E s_6) := by
  have g0 := g.wk
  intro m
  induction m with
  | zero =>
    intro v1_5 v3_1 s_6 i_v1_5 i_v3_1 h
    exact absurd (show (none : Option (Int × u_S)) = some (r, s') from h) (by intro z; cases z)
  | succ m ih =>
    intro v1_5 v3_1 s_6 i_v1_5 i_v3_1 h
    rw [f_X10_digest_L105] at h
    refine r_iload_n g0 dX10_digest_105 rfl ?_
    refine r_iconst g0 dX10_digest_106 ?_
    refine r_icmp_gt g0 129 dX10_digest_107 (by decide) i_v3_1 (InR_lit rfl) (fun hc => ?_) (fun hc => ?_)
    · replace h := if_f hc h
      refine r_mask g0 (lv' := [some (.ref (E.1 v0_1)), some (.long (JL v1_5)), none, none, none]) [true, true, false, false, false] rfl ?_
      exact hkx129 v1_5 s_6 i_v1_5 h
    · replace h := if_t hc h
      refine r_ldc2 g0 (v := 31) dX10_digest_110 kX10_344 ?_
      refine r_lload_n g0 dX10_digest_113 rfl ?_
      refine r_lmul g0 dX10_digest_114 ?_
      refine r_aload_n g0 dX10_digest_115 rfl ?_
      refine r_iload_n g0 dX10_digest_116 rfl ?_
      obtain ⟨r_2, s_7, hr_2, h⟩ := bd_some h
      refine r_cVI g0 (rest := [.long (JL (wl (31 * v1_5)))]) (c_X10_all i_v0_1 i_v3_1 hr_2) ok_X10_all mX10_356 (recv_FP i_v0_1) dX10_digest_117 ⟨Nat.le_of_ble_eq_true rfl, Nat.le_of_ble_eq_true rfl⟩ ⟨Nat.zero_le _, Nat.zero_le _⟩ rfl (Nat.le_of_ble_eq_true rfl) rfl (fun i_r_2 => ?_)
      refine r_i2l g0 dX10_digest_120 i_r_2 ?_
      refine r_ladd g0 dX10_digest_121 ?_
      refine r_lstore_n g0 (lv' := [some (.ref (E.1 v0_1)), some (.long (JL (wl ((wl (31 * v1_5)) + r_2)))), none, some (.int (J v3_1)), none]) dX10_digest_122 (by decide) rfl rfl ?_
      refine r_iinc g0 (a := v3_1) (lv' := [some (.ref (E.1 v0_1)), some (.long (JL (wl ((wl (31 * v1_5)) + r_2)))), none, some (.int (J (wr (v3_1 + 1)))), none]) dX10_digest_123 (by decide) rfl rfl rfl ?_
      refine r_goto g0 105 dX10_digest_126 (by decide) ?_
      exact ih (wl ((wl (31 * v1_5)) + r_2)) (wr (v3_1 + 1)) s_7 (InL_wl _) (InR_wr _) h
set_option maxHeartbeats 4000000 in
set_option maxRecDepth 100000 in
theorem t_X10_digest_L70 {l : Launch} {E : u_E} {K : u_K} {r : Int} {s' : u_S} (g : Wk l (XE E) { frames := 6, cells := 0, slots := 0, locals := 147 } cX10_digest 5 yX10_digest.cls yX10_digest.name (some .long) (RJ E r s') K) {v0_3 : u_O} {v3_3 : Int} (i_v0_3 : is_FP v0_3) (i_v3_3 : InR v3_3) {kx97 : Int → u_S → Option (Int × u_S)} (hkx97 : ∀ (v1_10 : Int) (s_13 : u_S), InL v1_10 → kx97 v1_10 s_13 = some (r, s') → K 0 0 97 [some (.ref (E.1 v0_3)), some (.long (JL v1_10)), none, some (.int (J v3_3)), none] [] (Wd E s_13)) : ∀ (m : Nat) (v1_9 : Int) (v4_1 : Int) (s_11 : u_S), InL v1_9 → InR v4_1 → f_X10_digest_L70 m kx97 v0_3 v3_3 v1_9 v4_1 s_11 = some (r, s') → K 0 0 70 [some (.ref (E.1 v0_3)), some (.long (JL v1_9)), none, some (.int (J v3_3)), some (.int (J v4_1))] [] (Wd E s_11) := by
  have g0 := g.wk
  intro m
  induction m with
  | zero =>
    intro v1_9 v4_1 s_11 i_v1_9 i_v4_1 h
    exact absurd (show (none : Option (Int × u_S)) = some (r, s') from h) (by intro z; cases z)
  | succ m ih =>
    intro v1_9 v4_1 s_11 i_v1_9 i_v4_1 h
    rw [f_X10_digest_L70] at h
    refine r_iload g0 dX10_digest_70 rfl ?_
    refine r_iconst g0 dX10_digest_72 ?_
    refine r_icmp_gt g0 97 dX10_digest_73 (by decide) i_v4_1 (InR_lit rfl) (fun hc => ?_) (fun hc => ?_)
    · replace h := if_f hc h
      refine r_mask g0 (lv' := [some (.ref (E.1 v0_3)), some (.long (JL v1_9)), none, some (.int (J v3_3)), none]) [true, true, false, true, false] rfl ?_
      exact hkx97 v1_9 s_11 i_v1_9 h
    · replace h := if_t hc h
      refine r_ldc2 g0 (v := 31) dX10_digest_76 kX10_344 ?_
      refine r_lload_n g0 dX10_digest_79 rfl ?_
      refine r_lmul g0 dX10_digest_80 ?_
      refine r_aload_n g0 dX10_digest_81 rfl ?_
      refine r_iload_n g0 dX10_digest_82 rfl ?_
      refine r_iload g0 dX10_digest_83 rfl ?_
      obtain ⟨r_3, s_12, hr_3, h⟩ := bd_some h
      refine r_cVI g0 (rest := [.long (JL (wl (31 * v1_9)))]) (c_X10_entry i_v0_3 i_v3_3 i_v4_1 hr_3) ok_X10_entry mX10_353 (recv_FP i_v0_3) dX10_digest_85 ⟨Nat.le_of_ble_eq_true rfl, Nat.le_of_ble_eq_true rfl⟩ ⟨Nat.zero_le _, Nat.zero_le _⟩ rfl (Nat.le_of_ble_eq_true rfl) rfl (fun i_r_3 => ?_)
      refine r_i2l g0 dX10_digest_88 i_r_3 ?_
      refine r_ladd g0 dX10_digest_89 ?_
      refine r_lstore_n g0 (lv' := [some (.ref (E.1 v0_3)), some (.long (JL (wl ((wl (31 * v1_9)) + r_3)))), none, some (.int (J v3_3)), some (.int (J v4_1))]) dX10_digest_90 (by decide) rfl rfl ?_
      refine r_iinc g0 (a := v4_1) (lv' := [some (.ref (E.1 v0_3)), some (.long (JL (wl ((wl (31 * v1_9)) + r_3)))), none, some (.int (J v3_3)), some (.int (J (wr (v4_1 + 1))))]) dX10_digest_91 (by decide) rfl rfl rfl ?_
      refine r_goto g0 70 dX10_digest_94 (by decide) ?_
      exact ih (wl ((wl (31 * v1_9)) + r_3)) (wr (v4_1 + 1)) s_12 (InL_wl _) (InR_wr _) h
set_option maxHeartbeats 4000000 in
set_option maxRecDepth 100000 in
theorem t_X10_digest_L53 {l : Launch} {E : u_E} {K : u_K} {r : Int} {s' : u_S} (g : Wk l (XE E) { frames := 6, cells := 0, slots := 0, locals := 147 } cX10_digest 5 yX10_digest.cls yX10_digest.name (some .long) (RJ E r s') K) {v0_2 : u_O} (i_v0_2 : is_FP v0_2) {kx103 : Int → u_S → Option (Int × u_S)} (hkx103 : ∀ (v1_11 : Int) (s_14 : u_S), InL v1_11 → kx103 v1_11 s_14 = some (r, s') → K 0 0 103 [some (.ref (E.1 v0_2)), some (.long (JL v1_11)), none, none, none] [] (Wd E s_14)) : ∀ (m : Nat) (v1_7 : Int) (v3_2 : Int) (s_9 : u_S), InL v1_7 → InR v3_2 → f_X10_digest_L53 m kx103 v0_2 v1_7 v3_2 s_9 = some (r, s') → K 0 0 53 [some (.ref (E.1 v0_2)), some (.long (JL v1_7)), none, some (.int (J v3_2)), none] [] (Wd E s_9) := by
  have g0 := g.wk
  intro m
  induction m with
  | zero =>
    intro v1_7 v3_2 s_9 i_v1_7 i_v3_2 h
    exact absurd (show (none : Option (Int × u_S)) = some (r, s') from h) (by intro z; cases z)
  | succ m ih =>
    intro v1_7 v3_2 s_9 i_v1_7 i_v3_2 h
    rw [f_X10_digest_L53] at h
    refine r_iload_n g0 dX10_digest_53 rfl ?_
    refine r_aload_n g0 dX10_digest_54 rfl ?_
    refine g_FP_plan g0 i_v0_2 qX10_12 dX10_digest_55 ?_
    refine g_Plan_entries g0 (is_a_FP_plan i_v0_2) qX10_153 dX10_digest_58 ?_
    refine g_Entries_count g0 (is_a_Plan_entries (is_a_FP_plan i_v0_2)) qX10_285 dX10_digest_61 ?_
    refine r_icmp_ge g0 103 dX10_digest_64 (by decide) i_v3_2 (InR_rd _ _ _) (fun hc => ?_) (fun hc => ?_)
    · replace h := if_f hc h
      refine r_mask g0 (lv' := [some (.ref (E.1 v0_2)), some (.long (JL v1_7)), none, none, none]) [true, true, false, false, false] rfl ?_
      exact hkx103 v1_7 s_9 i_v1_7 h
    · replace h := if_t hc h
      refine r_iconst g0 dX10_digest_67 ?_
      refine r_istore g0 (lv' := [some (.ref (E.1 v0_2)), some (.long (JL v1_7)), none, some (.int (J v3_2)), some (.int (J 0))]) dX10_digest_68 (by decide) rfl rfl ?_
      refine t_X10_digest_L70 g i_v0_2 i_v3_2 ?_ FU v1_7 0 s_9 i_v1_7 (B01.inR B01_0) h
      · intro v1_8 s_10 i_v1_8 h
        refine r_iinc g0 (a := v3_2) (lv' := [some (.ref (E.1 v0_2)), some (.long (JL v1_8)), none, some (.int (J (wr (v3_2 + 1)))), none]) dX10_digest_97 (by decide) rfl rfl rfl ?_
        refine r_goto g0 53 dX10_digest_100 (by decide) ?_
        exact ih v1_8 (wr (v3_2 + 1)) s_10 i_v1_8 (InR_wr _) h
set_option maxHeartbeats 4000000 in
set_option maxRecDepth 100000 in
theorem t_X10_digest_L33 {l : Launch} {E : u_E} {K : u_K} {r : Int} {s' : u_S} (g : Wk l (XE E) { frames := 6, cells := 0, slots := 0, locals := 147 } cX10_digest 5 yX10_digest.cls yX10_digest.name (some .long) (RJ E r s') K) {v0_4 : u_O} (i_v0_4 : is_FP v0_4) {kx51 : Int → u_S → Option (Int × u_S)} (hkx51 : ∀ (v1_13 : Int) (s_17 : u_S), InL v1_13 → kx51 v1_13 s_17 = some (r, s') → K 0 0 51 [some (.ref (E.1 v0_4)), some (.long (JL v1_13)), none, none, none] [] (Wd E s_17)) : ∀ (m : Nat) (v1_12 : Int) (v3_4 : Int) (s_15 : u_S), InL v1_12 → InR v3_4 → f_X10_digest_L33 m kx51 v0_4 v1_12 v3_4 s_15 = some (r, s') → K 0 0 33 [some (.ref (E.1 v0_4)), some (.long (JL v1_12)), none, some (.int (J v3_4)), none] [] (Wd E s_15) := by
  have g0 := g.wk
  intro m
  induction m with
  | zero =>
    intro v1_12 v3_4 s_15 i_v1_12 i_v3_4 h
    exact absurd (show (none : Option (Int × u_S)) = some (r, s') from h) (by intro z; cases z)
  | succ m ih =>
    intro v1_12 v3_4 s_15 i_v1_12 i_v3_4 h
    rw [f_X10_digest_L33] at h
    refine r_iload_n g0 dX10_digest_33 rfl ?_
    refine r_iconst g0 dX10_digest_34 ?_
    refine r_icmp_ge g0 51 dX10_digest_35 (by decide) i_v3_4 (InR_lit rfl) (fun hc => ?_) (fun hc => ?_)
    · replace h := if_f hc h
      refine r_mask g0 (lv' := [some (.ref (E.1 v0_4)), some (.long (JL v1_12)), none, none, none]) [true, true, false, false, false] rfl ?_
      exact hkx51 v1_12 s_15 i_v1_12 h
    · replace h := if_t hc h
      refine r_aload_n g0 dX10_digest_38 rfl ?_
      refine r_lload_n g0 dX10_digest_39 rfl ?_
      refine r_iload_n g0 dX10_digest_40 rfl ?_
      obtain ⟨r_4, s_16, hr_4, h⟩ := bd_some h
      refine r_cVJ g0 (rest := []) (c_X10_lineDigest i_v0_4 i_v1_12 i_v3_4 hr_4) ok_X10_lineDigest mX10_349 (recv_FP i_v0_4) dX10_digest_41 ⟨Nat.le_of_ble_eq_true rfl, Nat.le_of_ble_eq_true rfl⟩ ⟨Nat.zero_le _, Nat.zero_le _⟩ rfl (Nat.le_of_ble_eq_true rfl) rfl (fun i_r_4 => ?_)
      refine r_lstore_n g0 (lv' := [some (.ref (E.1 v0_4)), some (.long (JL r_4)), none, some (.int (J v3_4)), none]) dX10_digest_44 (by decide) rfl rfl ?_
      refine r_iinc g0 (a := v3_4) (lv' := [some (.ref (E.1 v0_4)), some (.long (JL r_4)), none, some (.int (J (wr (v3_4 + 1)))), none]) dX10_digest_45 (by decide) rfl rfl rfl ?_
      refine r_goto g0 33 dX10_digest_48 (by decide) ?_
      exact ih r_4 (wr (v3_4 + 1)) s_16 i_r_4 (InR_wr _) h
set_option maxHeartbeats 4000000 in
set_option maxRecDepth 100000 in
theorem t_X10_digest_L6 {l : Launch} {E : u_E} {K : u_K} {r : Int} {s' : u_S} (g : Wk l (XE E) { frames := 6, cells := 0, slots := 0, locals := 147 } cX10_digest 5 yX10_digest.cls yX10_digest.name (some .long) (RJ E r s') K) {v0_5 : u_O} (i_v0_5 : is_FP v0_5) {kx31 : Int → u_S → Option (Int × u_S)} (hkx31 : ∀ (v1_15 : Int) (s_20 : u_S), InL v1_15 → kx31 v1_15 s_20 = some (r, s') → K 0 0 31 [some (.ref (E.1 v0_5)), some (.long (JL v1_15)), none, none, none] [] (Wd E s_20)) : ∀ (m : Nat) (v1_14 : Int) (v3_5 : Int) (s_18 : u_S), InL v1_14 → InR v3_5 → f_X10_digest_L6 m kx31 v0_5 v1_14 v3_5 s_18 = some (r, s') → K 0 0 6 [some (.ref (E.1 v0_5)), some (.long (JL v1_14)), none, some (.int (J v3_5)), none] [] (Wd E s_18) := by
  have g0 := g.wk
  intro m
  induction m with
  | zero =>
    intro v1_14 v3_5 s_18 i_v1_14 i_v3_5 h
    exact absurd (show (none : Option (Int × u_S)) = some (r, s') from h) (by intro z; cases z)
  | succ m ih =>
    intro v1_14 v3_5 s_18 i_v1_14 i_v3_5 h
    rw [f_X10_digest_L6] at h
    refine r_iload_n g0 dX10_digest_6 rfl ?_
    refine r_bipush g0 dX10_digest_7 rfl ?_
    refine r_icmp_gt g0 31 dX10_digest_9 (by decide) i_v3_5 (InR_lit rfl) (fun hc => ?_) (fun hc => ?_)
    · replace h := if_f hc h
      refine r_mask g0 (lv' := [some (.ref (E.1 v0_5)), some (.long (JL v1_14)), none, none, none]) [true, true, false, false, false] rfl ?_
      exact hkx31 v1_14 s_18 i_v1_14 h
    · replace h := if_t hc h
      refine r_ldc2 g0 (v := 31) dX10_digest_12 kX10_344 ?_
      refine r_lload_n g0 dX10_digest_15 rfl ?_
      refine r_lmul g0 dX10_digest_16 ?_
      refine r_aload_n g0 dX10_digest_17 rfl ?_
      refine r_iload_n g0 dX10_digest_18 rfl ?_
      obtain ⟨r_5, s_19, hr_5, h⟩ := bd_some h
      refine r_cVI g0 (rest := [.long (JL (wl (31 * v1_14)))]) (c_X10_told i_v0_5 i_v3_5 hr_5) ok_X10_told mX10_346 (recv_FP i_v0_5) dX10_digest_19 ⟨Nat.le_of_ble_eq_true rfl, Nat.le_of_ble_eq_true rfl⟩ ⟨Nat.zero_le _, Nat.zero_le _⟩ rfl (Nat.le_of_ble_eq_true rfl) rfl (fun i_r_5 => ?_)
      refine r_i2l g0 dX10_digest_22 i_r_5 ?_
      refine r_ladd g0 dX10_digest_23 ?_
      refine r_lstore_n g0 (lv' := [some (.ref (E.1 v0_5)), some (.long (JL (wl ((wl (31 * v1_14)) + r_5)))), none, some (.int (J v3_5)), none]) dX10_digest_24 (by decide) rfl rfl ?_
      refine r_iinc g0 (a := v3_5) (lv' := [some (.ref (E.1 v0_5)), some (.long (JL (wl ((wl (31 * v1_14)) + r_5)))), none, some (.int (J (wr (v3_5 + 1)))), none]) dX10_digest_25 (by decide) rfl rfl rfl ?_
      refine r_goto g0 6 dX10_digest_28 (by decide) ?_
      exact ih (wl ((wl (31 * v1_14)) + r_5)) (wr (v3_5 + 1)) s_19 (InL_wl _) (InR_wr _) h
set_option maxHeartbeats 4000000 in
set_option maxRecDepth 100000 in
theorem c_X10_digest {E : u_E} {l : Launch} {o : u_O} (ho : is_FP o) {s s' : u_S} {r : Int} (h : f_X10_digest o s = some (r, s')) : Con l (XE E) yX10_digest cX10_digest 5 (some .long) 6 147 0 0 [.ref (E.1 o)] (Wd E s) (RJ E r s') := by
  refine Con.of [some (.ref (E.1 o)), none, none, none, none] (by decide +kernel) rfl rfl (Nat.le_of_ble_eq_true rfl) (fun K g => ?_)
  have g0 := g.wk
  unfold f_X10_digest at h
  refine r_ldc2 g0 (v := 2267) dX10_digest_0 kX10_342 ?_
  refine r_lstore_n g0 (lv' := [some (.ref (E.1 o)), some (.long (JL 2267)), none, none, none]) dX10_digest_3 (by decide) rfl rfl ?_
  refine r_iconst g0 dX10_digest_4 ?_
  refine r_istore_n g0 (lv' := [some (.ref (E.1 o)), some (.long (JL 2267)), none, some (.int (J 0)), none]) dX10_digest_5 (by decide) rfl rfl ?_
  refine t_X10_digest_L6 g ho ?_ FU 2267 0 s (InL_lit rfl) (B01.inR B01_0) h
  · intro v1_1 s_1 i_v1_1 h
    refine r_iconst g0 dX10_digest_31 ?_
    refine r_istore_n g0 (lv' := [some (.ref (E.1 o)), some (.long (JL v1_1)), none, some (.int (J 0)), none]) dX10_digest_32 (by decide) rfl rfl ?_
    refine t_X10_digest_L33 g ho ?_ FU v1_1 0 s_1 i_v1_1 (B01.inR B01_0) h
    · intro v1_2 s_2 i_v1_2 h
      refine r_iconst g0 dX10_digest_51 ?_
      refine r_istore_n g0 (lv' := [some (.ref (E.1 o)), some (.long (JL v1_2)), none, some (.int (J 0)), none]) dX10_digest_52 (by decide) rfl rfl ?_
      refine t_X10_digest_L53 g ho ?_ FU v1_2 0 s_2 i_v1_2 (B01.inR B01_0) h
      · intro v1_3 s_3 i_v1_3 h
        refine r_iconst g0 dX10_digest_103 ?_
        refine r_istore_n g0 (lv' := [some (.ref (E.1 o)), some (.long (JL v1_3)), none, some (.int (J 0)), none]) dX10_digest_104 (by decide) rfl rfl ?_
        refine t_X10_digest_L105 g ho ?_ FU v1_3 0 s_3 i_v1_3 (B01.inR B01_0) h
        · intro v1_4 s_4 i_v1_4 h
          refine r_ldc2 g0 (v := 31) dX10_digest_129 kX10_344 ?_
          refine r_lload_n g0 dX10_digest_132 rfl ?_
          refine r_lmul g0 dX10_digest_133 ?_
          refine r_aload_n g0 dX10_digest_134 rfl ?_
          refine r_iconst g0 dX10_digest_135 ?_
          obtain ⟨r_1, s_5, hr_1, h⟩ := bd_some h
          refine r_cVI g0 (rest := [.long (JL (wl (31 * v1_4)))]) (c_X10_path ho (InR_lit rfl) hr_1) ok_X10_path mX10_359 (recv_FP ho) dX10_digest_136 ⟨Nat.le_of_ble_eq_true rfl, Nat.le_of_ble_eq_true rfl⟩ ⟨Nat.zero_le _, Nat.zero_le _⟩ rfl (Nat.le_of_ble_eq_true rfl) rfl (fun i_r_1 => ?_)
          refine r_i2l g0 dX10_digest_139 i_r_1 ?_
          refine r_ladd g0 dX10_digest_140 ?_
          exact z_J g dX10_digest_141 (InL_wl _) h
theorem dX11_in_0 : decode cX11_in 0 = .ok (.lload_n 0, 1) := by decide +kernel
theorem dX11_in_1 : decode cX11_in 1 = .ok (.lload_n 2, 1) := by decide +kernel
theorem dX11_in_2 : decode cX11_in 2 = .ok (.lcmp, 1) := by decide +kernel
theorem dX11_in_3 : decode cX11_in 3 = .ok (.ifCond .lt 14, 3) := by decide +kernel
theorem dX11_in_6 : decode cX11_in 6 = .ok (.lload_n 0, 1) := by decide +kernel
theorem dX11_in_7 : decode cX11_in 7 = .ok (.lload 4, 2) := by decide +kernel
theorem dX11_in_9 : decode cX11_in 9 = .ok (.lcmp, 1) := by decide +kernel
theorem dX11_in_10 : decode cX11_in 10 = .ok (.ifCond .gt 7, 3) := by decide +kernel
theorem dX11_in_13 : decode cX11_in 13 = .ok (.iconst 1, 1) := by decide +kernel
theorem dX11_in_14 : decode cX11_in 14 = .ok (.goto 4, 3) := by decide +kernel
theorem dX11_in_17 : decode cX11_in 17 = .ok (.iconst 0, 1) := by decide +kernel
theorem dX11_in_18 : decode cX11_in 18 = .ok (.ireturn, 1) := by decide +kernel
set_option maxHeartbeats 4000000 in
set_option maxRecDepth 100000 in
theorem c_X11_in {E : u_E} {l : Launch} {p1 : Int} {p2 : Int} {p3 : Int} (i_p1 : InL p1) (i_p2 : InL p2) (i_p3 : InL p3) {s s' : u_S} {r : Int} (h : f_X11_in p1 p2 p3 s = some (r, s')) : Con l (XE E) yX11_in cX11_in 6 (some .boolean) 0 0 0 0 [.long (JL p1), .long (JL p2), .long (JL p3)] (Wd E s) (RZ E r s') := by
  refine Con.of [some (.long (JL p1)), none, some (.long (JL p2)), none, some (.long (JL p3)), none] (by decide +kernel) rfl rfl (Nat.le_of_ble_eq_true rfl) (fun K g => ?_)
  have g0 := g.wk
  unfold f_X11_in at h
  refine r_lload_n g0 dX11_in_0 rfl ?_
  refine r_lload_n g0 dX11_in_1 rfl ?_
  refine r_lcmp g0 dX11_in_2 i_p1 i_p2 ?_
  refine r_if_lt g0 17 dX11_in_3 (by decide) (InR_lcm3 _ _) (fun hc => ?_) (fun hc => ?_)
  · replace h := if_t hc h
    refine r_iconst g0 dX11_in_17 ?_
    exact z_Z g dX11_in_18 B01_0 h
  · replace h := if_f hc h
    refine r_lload_n g0 dX11_in_6 rfl ?_
    refine r_lload g0 dX11_in_7 rfl ?_
    refine r_lcmp g0 dX11_in_9 i_p1 i_p3 ?_
    refine r_if_gt g0 17 dX11_in_10 (by decide) (InR_lcm3 _ _) (fun hc => ?_) (fun hc => ?_)
    · replace h := if_f hc h
      refine r_iconst g0 dX11_in_17 ?_
      exact z_Z g dX11_in_18 B01_0 h
    · replace h := if_t hc h
      refine r_iconst g0 dX11_in_13 ?_
      refine r_goto g0 18 dX11_in_14 (by decide) ?_
      exact z_Z g dX11_in_18 B01_1 h
theorem dX11_refuses_0 : decode cX11_refuses 0 = .ok (.aload_n 0, 1) := by decide +kernel
theorem dX11_refuses_1 : decode cX11_refuses 1 = .ok (.getfield 19, 3) := by decide +kernel
theorem dX11_refuses_4 : decode cX11_refuses 4 = .ok (.bipush (-2), 2) := by decide +kernel
theorem dX11_refuses_6 : decode cX11_refuses 6 = .ok (.iload_n 1, 1) := by decide +kernel
theorem dX11_refuses_7 : decode cX11_refuses 7 = .ok (.isub, 1) := by decide +kernel
theorem dX11_refuses_8 : decode cX11_refuses 8 = .ok (.dup2, 1) := by decide +kernel
theorem dX11_refuses_9 : decode cX11_refuses 9 = .ok (.iaload, 1) := by decide +kernel
theorem dX11_refuses_10 : decode cX11_refuses 10 = .ok (.iconst 1, 1) := by decide +kernel
theorem dX11_refuses_11 : decode cX11_refuses 11 = .ok (.iadd, 1) := by decide +kernel
theorem dX11_refuses_12 : decode cX11_refuses 12 = .ok (.iastore, 1) := by decide +kernel
theorem dX11_refuses_13 : decode cX11_refuses 13 = .ok (.iload_n 1, 1) := by decide +kernel
theorem dX11_refuses_14 : decode cX11_refuses 14 = .ok (.ireturn, 1) := by decide +kernel
set_option maxHeartbeats 4000000 in
set_option maxRecDepth 100000 in
theorem c_X11_refuses {E : u_E} {l : Launch} {o : u_O} {p1 : Int} (ho : is_Mo o) (i_p1 : InR p1) {s s' : u_S} {r : Int} (h : f_X11_refuses o p1 s = some (r, s')) : Con l (XE E) yX11_refuses cX11_refuses 2 (some .int) 0 0 0 0 [.ref (E.1 o), .int (J p1)] (Wd E s) (RI E r s') := by
  refine Con.of [some (.ref (E.1 o)), some (.int (J p1))] (by decide +kernel) rfl rfl (Nat.le_of_ble_eq_true rfl) (fun K g => ?_)
  have g0 := g.wk
  unfold f_X11_refuses at h
  refine r_aload_n g0 dX11_refuses_0 rfl ?_
  refine g_Mo_refused g0 ho qX11_19 dX11_refuses_1 ?_
  refine r_bipush g0 dX11_refuses_4 rfl ?_
  refine r_iload_n g0 dX11_refuses_6 rfl ?_
  refine r_isub g0 dX11_refuses_7 ?_
  refine r_dup2 g0 dX11_refuses_8 rfl rfl ?_
  obtain ⟨hb, h⟩ := gd_some h
  refine r_iaload g0 (is_a_Mo_refused ho) (n := 3) rfl (InR_wr _) hb dX11_refuses_9 ?_
  refine r_iconst g0 dX11_refuses_10 ?_
  refine r_iadd g0 dX11_refuses_11 ?_
  obtain ⟨hb, h⟩ := gd_some h
  refine r_iastore g0 (is_a_Mo_refused ho) (n := 3) rfl (InR_wr _) hb dX11_refuses_12 ?_
  refine r_iload_n g0 dX11_refuses_13 rfl ?_
  exact z_I g dX11_refuses_14 i_p1 h
theorem dX11_bad_0 : decode cX11_bad 0 = .ok (.aload_n 0, 1) := by decide +kernel
theorem dX11_bad_1 : decode cX11_bad 1 = .ok (.getfield 19, 3) := by decide +kernel
theorem dX11_bad_4 : decode cX11_bad 4 = .ok (.iconst 0, 1) := by decide +kernel
theorem dX11_bad_5 : decode cX11_bad 5 = .ok (.dup2, 1) := by decide +kernel
theorem dX11_bad_6 : decode cX11_bad 6 = .ok (.iaload, 1) := by decide +kernel
theorem dX11_bad_7 : decode cX11_bad 7 = .ok (.iconst 1, 1) := by decide +kernel
theorem dX11_bad_8 : decode cX11_bad 8 = .ok (.iadd, 1) := by decide +kernel
theorem dX11_bad_9 : decode cX11_bad 9 = .ok (.iastore, 1) := by decide +kernel
theorem dX11_bad_10 : decode cX11_bad 10 = .ok (.iload_n 1, 1) := by decide +kernel
theorem dX11_bad_11 : decode cX11_bad 11 = .ok (.ireturn, 1) := by decide +kernel
set_option maxHeartbeats 4000000 in
set_option maxRecDepth 100000 in
theorem c_X11_bad {E : u_E} {l : Launch} {o : u_O} {p1 : Int} (ho : is_Mo o) (i_p1 : InR p1) {s s' : u_S} {r : Int} (h : f_X11_bad o p1 s = some (r, s')) : Con l (XE E) yX11_bad cX11_bad 2 (some .int) 0 0 0 0 [.ref (E.1 o), .int (J p1)] (Wd E s) (RI E r s') := by
  refine Con.of [some (.ref (E.1 o)), some (.int (J p1))] (by decide +kernel) rfl rfl (Nat.le_of_ble_eq_true rfl) (fun K g => ?_)
  have g0 := g.wk
  unfold f_X11_bad at h
  refine r_aload_n g0 dX11_bad_0 rfl ?_
  refine g_Mo_refused g0 ho qX11_19 dX11_bad_1 ?_
  refine r_iconst g0 dX11_bad_4 ?_
  refine r_dup2 g0 dX11_bad_5 rfl rfl ?_
  obtain ⟨hb, h⟩ := gd_some h
  refine r_iaload g0 (is_a_Mo_refused ho) (n := 3) rfl (B01.inR B01_0) hb dX11_bad_6 ?_
  refine r_iconst g0 dX11_bad_7 ?_
  refine r_iadd g0 dX11_bad_8 ?_
  obtain ⟨hb, h⟩ := gd_some h
  refine r_iastore g0 (is_a_Mo_refused ho) (n := 3) rfl (B01.inR B01_0) hb dX11_bad_9 ?_
  refine r_iload_n g0 dX11_bad_10 rfl ?_
  exact z_I g dX11_bad_11 i_p1 h
theorem dX11_keep_0 : decode cX11_keep 0 = .ok (.aload_n 0, 1) := by decide +kernel
theorem dX11_keep_1 : decode cX11_keep 1 = .ok (.getfield 55, 3) := by decide +kernel
theorem dX11_keep_4 : decode cX11_keep 4 = .ok (.iconst 5, 1) := by decide +kernel
theorem dX11_keep_5 : decode cX11_keep 5 = .ok (.if_icmp .ne 44, 3) := by decide +kernel
theorem dX11_keep_8 : decode cX11_keep 8 = .ok (.iconst 0, 1) := by decide +kernel
theorem dX11_keep_9 : decode cX11_keep 9 = .ok (.istore_n 1, 1) := by decide +kernel
theorem dX11_keep_10 : decode cX11_keep 10 = .ok (.iload_n 1, 1) := by decide +kernel
theorem dX11_keep_11 : decode cX11_keep 11 = .ok (.sipush 580, 3) := by decide +kernel
theorem dX11_keep_14 : decode cX11_keep 14 = .ok (.if_icmp .ge 25, 3) := by decide +kernel
theorem dX11_keep_17 : decode cX11_keep 17 = .ok (.aload_n 0, 1) := by decide +kernel
theorem dX11_keep_18 : decode cX11_keep 18 = .ok (.getfield 13, 3) := by decide +kernel
theorem dX11_keep_21 : decode cX11_keep 21 = .ok (.iload_n 1, 1) := by decide +kernel
theorem dX11_keep_22 : decode cX11_keep 22 = .ok (.aload_n 0, 1) := by decide +kernel
theorem dX11_keep_23 : decode cX11_keep 23 = .ok (.getfield 13, 3) := by decide +kernel
theorem dX11_keep_26 : decode cX11_keep 26 = .ok (.iload_n 1, 1) := by decide +kernel
theorem dX11_keep_27 : decode cX11_keep 27 = .ok (.sipush 145, 3) := by decide +kernel
theorem dX11_keep_30 : decode cX11_keep 30 = .ok (.iadd, 1) := by decide +kernel
theorem dX11_keep_31 : decode cX11_keep 31 = .ok (.iaload, 1) := by decide +kernel
theorem dX11_keep_32 : decode cX11_keep 32 = .ok (.iastore, 1) := by decide +kernel
theorem dX11_keep_33 : decode cX11_keep 33 = .ok (.iinc 1 1, 3) := by decide +kernel
theorem dX11_keep_36 : decode cX11_keep 36 = .ok (.goto (-26), 3) := by decide +kernel
theorem dX11_keep_39 : decode cX11_keep 39 = .ok (.aload_n 0, 1) := by decide +kernel
theorem dX11_keep_40 : decode cX11_keep 40 = .ok (.dup, 1) := by decide +kernel
theorem dX11_keep_41 : decode cX11_keep 41 = .ok (.getfield 55, 3) := by decide +kernel
theorem dX11_keep_44 : decode cX11_keep 44 = .ok (.iconst 1, 1) := by decide +kernel
theorem dX11_keep_45 : decode cX11_keep 45 = .ok (.isub, 1) := by decide +kernel
theorem dX11_keep_46 : decode cX11_keep 46 = .ok (.putfield 55, 3) := by decide +kernel
theorem dX11_keep_49 : decode cX11_keep 49 = .ok (.iconst 0, 1) := by decide +kernel
theorem dX11_keep_50 : decode cX11_keep 50 = .ok (.istore_n 1, 1) := by decide +kernel
theorem dX11_keep_51 : decode cX11_keep 51 = .ok (.iload_n 1, 1) := by decide +kernel
theorem dX11_keep_52 : decode cX11_keep 52 = .ok (.sipush 145, 3) := by decide +kernel
theorem dX11_keep_55 : decode cX11_keep 55 = .ok (.if_icmp .ge 30, 3) := by decide +kernel
theorem dX11_keep_58 : decode cX11_keep 58 = .ok (.aload_n 0, 1) := by decide +kernel
theorem dX11_keep_59 : decode cX11_keep 59 = .ok (.getfield 13, 3) := by decide +kernel
theorem dX11_keep_62 : decode cX11_keep 62 = .ok (.sipush 145, 3) := by decide +kernel
theorem dX11_keep_65 : decode cX11_keep 65 = .ok (.aload_n 0, 1) := by decide +kernel
theorem dX11_keep_66 : decode cX11_keep 66 = .ok (.getfield 55, 3) := by decide +kernel
theorem dX11_keep_69 : decode cX11_keep 69 = .ok (.imul, 1) := by decide +kernel
theorem dX11_keep_70 : decode cX11_keep 70 = .ok (.iload_n 1, 1) := by decide +kernel
theorem dX11_keep_71 : decode cX11_keep 71 = .ok (.iadd, 1) := by decide +kernel
theorem dX11_keep_72 : decode cX11_keep 72 = .ok (.aload_n 0, 1) := by decide +kernel
theorem dX11_keep_73 : decode cX11_keep 73 = .ok (.getfield 7, 3) := by decide +kernel
theorem dX11_keep_76 : decode cX11_keep 76 = .ok (.iload_n 1, 1) := by decide +kernel
theorem dX11_keep_77 : decode cX11_keep 77 = .ok (.iaload, 1) := by decide +kernel
theorem dX11_keep_78 : decode cX11_keep 78 = .ok (.iastore, 1) := by decide +kernel
theorem dX11_keep_79 : decode cX11_keep 79 = .ok (.iinc 1 1, 3) := by decide +kernel
theorem dX11_keep_82 : decode cX11_keep 82 = .ok (.goto (-31), 3) := by decide +kernel
theorem dX11_keep_85 : decode cX11_keep 85 = .ok (.aload_n 0, 1) := by decide +kernel
theorem dX11_keep_86 : decode cX11_keep 86 = .ok (.dup, 1) := by decide +kernel
theorem dX11_keep_87 : decode cX11_keep 87 = .ok (.getfield 55, 3) := by decide +kernel
theorem dX11_keep_90 : decode cX11_keep 90 = .ok (.iconst 1, 1) := by decide +kernel
theorem dX11_keep_91 : decode cX11_keep 91 = .ok (.iadd, 1) := by decide +kernel
theorem dX11_keep_92 : decode cX11_keep 92 = .ok (.putfield 55, 3) := by decide +kernel
theorem dX11_keep_95 : decode cX11_keep 95 = .ok (.return_, 1) := by decide +kernel
set_option maxHeartbeats 4000000 in
set_option maxRecDepth 100000 in
theorem t_X11_keep_L51 {l : Launch} {E : u_E} {K : u_K} {r : Int} {s' : u_S} (g : Wk l (XE E) { frames := 0, cells := 0, slots := 0, locals := 0 } cX11_keep 2 yX11_keep.cls yX11_keep.name none (RV E r s') K) {v0_1 : u_O} (i_v0_1 : is_Mo v0_1) {kx85 : u_S → Option (Int × u_S)} (hkx85 : ∀ (s_4 : u_S), kx85 s_4 = some (r, s') → K 0 0 85 [some (.ref (E.1 v0_1)), none] [] (Wd E s_4)) : ∀ (m : Nat) (v1_1 : Int) (s_3 : u_S), InR v1_1 → f_X11_keep_L51 m kx85 v0_1 v1_1 s_3 = some (r, s') → K 0 0 51 [some (.ref (E.1 v0_1)), some (.int (J v1_1))] [] (Wd E s_3) := by
  have g0 := g.wk
  intro m
  induction m with
  | zero =>
    intro v1_1 s_3 i_v1_1 h
    exact absurd (show (none : Option (Int × u_S)) = some (r, s') from h) (by intro z; cases z)
  | succ m ih =>
    intro v1_1 s_3 i_v1_1 h
    rw [f_X11_keep_L51] at h
    refine r_iload_n g0 dX11_keep_51 rfl ?_
    refine r_sipush g0 dX11_keep_52 rfl ?_
    refine r_icmp_ge g0 85 dX11_keep_55 (by decide) i_v1_1 (InR_lit rfl) (fun hc => ?_) (fun hc => ?_)
    · replace h := if_f hc h
      refine r_mask g0 (lv' := [some (.ref (E.1 v0_1)), none]) [true, false] rfl ?_
      exact hkx85 s_3 h
    · replace h := if_t hc h
      refine r_aload_n g0 dX11_keep_58 rfl ?_
      refine g_Mo_past g0 i_v0_1 qX11_13 dX11_keep_59 ?_
      refine r_sipush g0 dX11_keep_62 rfl ?_
      refine r_aload_n g0 dX11_keep_65 rfl ?_
      refine g_Mo_states g0 i_v0_1 qX11_55 dX11_keep_66 ?_
      refine r_imul g0 dX11_keep_69 ?_
      refine r_iload_n g0 dX11_keep_70 rfl ?_
      refine r_iadd g0 dX11_keep_71 ?_
      refine r_aload_n g0 dX11_keep_72 rfl ?_
      refine g_Mo_all g0 i_v0_1 qX11_7 dX11_keep_73 ?_
      refine r_iload_n g0 dX11_keep_76 rfl ?_
      obtain ⟨hb, h⟩ := gd_some h
      refine r_iaload g0 (is_a_Mo_all i_v0_1) (n := 145) rfl i_v1_1 hb dX11_keep_77 ?_
      obtain ⟨hb, h⟩ := gd_some h
      refine r_iastore g0 (is_a_Mo_past i_v0_1) (n := 725) rfl (InR_wr _) hb dX11_keep_78 ?_
      refine r_iinc g0 (a := v1_1) (lv' := [some (.ref (E.1 v0_1)), some (.int (J (wr (v1_1 + 1))))]) dX11_keep_79 (by decide) rfl rfl rfl ?_
      refine r_goto g0 51 dX11_keep_82 (by decide) ?_
      exact ih (wr (v1_1 + 1)) (wt s_3 (a_Mo_past v0_1) (wr ((wr (145 * (rd s_3 v0_1 3))) + v1_1)) (rd s_3 (a_Mo_all v0_1) v1_1)) (InR_wr _) h
set_option maxHeartbeats 4000000 in
set_option maxRecDepth 100000 in
theorem t_X11_keep_L10 {l : Launch} {E : u_E} {K : u_K} {r : Int} {s' : u_S} (g : Wk l (XE E) { frames := 0, cells := 0, slots := 0, locals := 0 } cX11_keep 2 yX11_keep.cls yX11_keep.name none (RV E r s') K) {v0_2 : u_O} (i_v0_2 : is_Mo v0_2) {kx39 : u_S → Option (Int × u_S)} (hkx39 : ∀ (s_7 : u_S), kx39 s_7 = some (r, s') → K 0 0 39 [some (.ref (E.1 v0_2)), none] [] (Wd E s_7)) : ∀ (m : Nat) (v1_2 : Int) (s_6 : u_S), InR v1_2 → f_X11_keep_L10 m kx39 v0_2 v1_2 s_6 = some (r, s') → K 0 0 10 [some (.ref (E.1 v0_2)), some (.int (J v1_2))] [] (Wd E s_6) := by
  have g0 := g.wk
  intro m
  induction m with
  | zero =>
    intro v1_2 s_6 i_v1_2 h
    exact absurd (show (none : Option (Int × u_S)) = some (r, s') from h) (by intro z; cases z)
  | succ m ih =>
    intro v1_2 s_6 i_v1_2 h
    rw [f_X11_keep_L10] at h
    refine r_iload_n g0 dX11_keep_10 rfl ?_
    refine r_sipush g0 dX11_keep_11 rfl ?_
    refine r_icmp_ge g0 39 dX11_keep_14 (by decide) i_v1_2 (InR_lit rfl) (fun hc => ?_) (fun hc => ?_)
    · replace h := if_f hc h
      refine r_mask g0 (lv' := [some (.ref (E.1 v0_2)), none]) [true, false] rfl ?_
      exact hkx39 s_6 h
    · replace h := if_t hc h
      refine r_aload_n g0 dX11_keep_17 rfl ?_
      refine g_Mo_past g0 i_v0_2 qX11_13 dX11_keep_18 ?_
      refine r_iload_n g0 dX11_keep_21 rfl ?_
      refine r_aload_n g0 dX11_keep_22 rfl ?_
      refine g_Mo_past g0 i_v0_2 qX11_13 dX11_keep_23 ?_
      refine r_iload_n g0 dX11_keep_26 rfl ?_
      refine r_sipush g0 dX11_keep_27 rfl ?_
      refine r_iadd g0 dX11_keep_30 ?_
      obtain ⟨hb, h⟩ := gd_some h
      refine r_iaload g0 (is_a_Mo_past i_v0_2) (n := 725) rfl (InR_wr _) hb dX11_keep_31 ?_
      obtain ⟨hb, h⟩ := gd_some h
      refine r_iastore g0 (is_a_Mo_past i_v0_2) (n := 725) rfl i_v1_2 hb dX11_keep_32 ?_
      refine r_iinc g0 (a := v1_2) (lv' := [some (.ref (E.1 v0_2)), some (.int (J (wr (v1_2 + 1))))]) dX11_keep_33 (by decide) rfl rfl rfl ?_
      refine r_goto g0 10 dX11_keep_36 (by decide) ?_
      exact ih (wr (v1_2 + 1)) (wt s_6 (a_Mo_past v0_2) v1_2 (rd s_6 (a_Mo_past v0_2) (wr (v1_2 + 145)))) (InR_wr _) h
set_option maxHeartbeats 4000000 in
set_option maxRecDepth 100000 in
theorem c_X11_keep {E : u_E} {l : Launch} {o : u_O} (ho : is_Mo o) {s s' : u_S} {r : Int} (h : f_X11_keep o s = some (r, s')) : Con l (XE E) yX11_keep cX11_keep 2 none 0 0 0 0 [.ref (E.1 o)] (Wd E s) (RV E r s') := by
  refine Con.of [some (.ref (E.1 o)), none] (by decide +kernel) rfl rfl (Nat.le_of_ble_eq_true rfl) (fun K g => ?_)
  have g0 := g.wk
  unfold f_X11_keep at h
  refine r_aload_n g0 dX11_keep_0 rfl ?_
  refine g_Mo_states g0 ho qX11_55 dX11_keep_1 ?_
  refine r_iconst g0 dX11_keep_4 ?_
  obtain ⟨jp_1, hdjp_1, h⟩ := jn_some h
  have hjp_1 : ∀  (s_1 : u_S), jp_1 s_1 = some (r, s') → K 0 0 49 [some (.ref (E.1 o)), none] [] (Wd E s_1) := by
    intro s_1 h
    subst hdjp_1
    refine r_iconst g0 dX11_keep_49 ?_
    refine r_istore_n g0 (lv' := [some (.ref (E.1 o)), some (.int (J 0))]) dX11_keep_50 (by decide) rfl rfl ?_
    refine t_X11_keep_L51 g ho ?_ FU 0 s_1 (B01.inR B01_0) h
    · intro s_2 h
      refine r_aload_n g0 dX11_keep_85 rfl ?_
      refine r_dup g0 dX11_keep_86 rfl ?_
      refine g_Mo_states g0 ho qX11_55 dX11_keep_87 ?_
      refine r_iconst g0 dX11_keep_90 ?_
      refine r_iadd g0 dX11_keep_91 ?_
      refine p_Mo_states g0 ho qX11_55 dX11_keep_92 ?_
      exact z_V g dX11_keep_95 h
  clear hdjp_1
  refine r_icmp_ne g0 49 dX11_keep_5 (by decide) (InR_rd _ _ _) (InR_lit rfl) (fun hc => ?_) (fun hc => ?_)
  · replace h := if_f hc h
    exact hjp_1 s h
  · replace h := if_t hc h
    refine r_iconst g0 dX11_keep_8 ?_
    refine r_istore_n g0 (lv' := [some (.ref (E.1 o)), some (.int (J 0))]) dX11_keep_9 (by decide) rfl rfl ?_
    refine t_X11_keep_L10 g ho ?_ FU 0 s (B01.inR B01_0) h
    · intro s_5 h
      refine r_aload_n g0 dX11_keep_39 rfl ?_
      refine r_dup g0 dX11_keep_40 rfl ?_
      refine g_Mo_states g0 ho qX11_55 dX11_keep_41 ?_
      refine r_iconst g0 dX11_keep_44 ?_
      refine r_isub g0 dX11_keep_45 ?_
      refine p_Mo_states g0 ho qX11_55 dX11_keep_46 ?_
      exact hjp_1 (wt s_5 o 3 (wr ((rd s_5 o 3) - 1))) h
theorem dX11_left_0 : decode cX11_left 0 = .ok (.iload_n 0, 1) := by decide +kernel
theorem dX11_left_1 : decode cX11_left 1 = .ok (.iload_n 1, 1) := by decide +kernel
theorem dX11_left_2 : decode cX11_left 2 = .ok (.irem, 1) := by decide +kernel
theorem dX11_left_3 : decode cX11_left 3 = .ok (.istore_n 2, 1) := by decide +kernel
theorem dX11_left_4 : decode cX11_left 4 = .ok (.iload_n 2, 1) := by decide +kernel
theorem dX11_left_5 : decode cX11_left 5 = .ok (.ifCond .ge 9, 3) := by decide +kernel
theorem dX11_left_8 : decode cX11_left 8 = .ok (.iload_n 2, 1) := by decide +kernel
theorem dX11_left_9 : decode cX11_left 9 = .ok (.iload_n 1, 1) := by decide +kernel
theorem dX11_left_10 : decode cX11_left 10 = .ok (.iadd, 1) := by decide +kernel
theorem dX11_left_11 : decode cX11_left 11 = .ok (.goto 4, 3) := by decide +kernel
theorem dX11_left_14 : decode cX11_left 14 = .ok (.iload_n 2, 1) := by decide +kernel
theorem dX11_left_15 : decode cX11_left 15 = .ok (.ireturn, 1) := by decide +kernel
set_option maxHeartbeats 4000000 in
set_option maxRecDepth 100000 in
theorem c_X11_left {E : u_E} {l : Launch} {p1 : Int} {p2 : Int} (i_p1 : InR p1) (i_p2 : InR p2) {s s' : u_S} {r : Int} (h : f_X11_left p1 p2 s = some (r, s')) : Con l (XE E) yX11_left cX11_left 3 (some .int) 0 0 0 0 [.int (J p1), .int (J p2)] (Wd E s) (RI E r s') := by
  refine Con.of [some (.int (J p1)), some (.int (J p2)), none] (by decide +kernel) rfl rfl (Nat.le_of_ble_eq_true rfl) (fun K g => ?_)
  have g0 := g.wk
  unfold f_X11_left at h
  refine r_iload_n g0 dX11_left_0 rfl ?_
  refine r_iload_n g0 dX11_left_1 rfl ?_
  obtain ⟨hne, h⟩ := nz_some h
  refine r_irem g0 dX11_left_2 i_p1 i_p2 hne ?_
  refine r_istore_n g0 (lv' := [some (.int (J p1)), some (.int (J p2)), some (.int (J (Int.tmod p1 p2)))]) dX11_left_3 (by decide) rfl rfl ?_
  refine r_iload_n g0 dX11_left_4 rfl ?_
  refine r_if_ge g0 14 dX11_left_5 (by decide) (InR_rem _ i_p1) (fun hc => ?_) (fun hc => ?_)
  · replace h := if_f hc h
    refine r_iload_n g0 dX11_left_14 rfl ?_
    exact z_I g dX11_left_15 (InR_rem _ i_p1) h
  · replace h := if_t hc h
    refine r_iload_n g0 dX11_left_8 rfl ?_
    refine r_iload_n g0 dX11_left_9 rfl ?_
    refine r_iadd g0 dX11_left_10 ?_
    refine r_goto g0 15 dX11_left_11 (by decide) ?_
    exact z_I g dX11_left_15 (InR_wr _) h
theorem dX11_isLine_0 : decode cX11_isLine 0 = .ok (.iload_n 0, 1) := by decide +kernel
theorem dX11_isLine_1 : decode cX11_isLine 1 = .ok (.i2l, 1) := by decide +kernel
theorem dX11_isLine_2 : decode cX11_isLine 2 = .ok (.lconst 0, 1) := by decide +kernel
theorem dX11_isLine_3 : decode cX11_isLine 3 = .ok (.ldc2_w 59, 3) := by decide +kernel
theorem dX11_isLine_6 : decode cX11_isLine 6 = .ok (.invokestatic 61, 3) := by decide +kernel
theorem dX11_isLine_9 : decode cX11_isLine 9 = .ok (.ireturn, 1) := by decide +kernel
set_option maxHeartbeats 4000000 in
set_option maxRecDepth 100000 in
theorem c_X11_isLine {E : u_E} {l : Launch} {p1 : Int} (i_p1 : InR p1) {s s' : u_S} {r : Int} (h : f_X11_isLine p1 s = some (r, s')) : Con l (XE E) yX11_isLine cX11_isLine 1 (some .boolean) 1 25 0 0 [.int (J p1)] (Wd E s) (RZ E r s') := by
  refine Con.of [some (.int (J p1))] (by decide +kernel) rfl rfl (Nat.le_of_ble_eq_true rfl) (fun K g => ?_)
  have g0 := g.wk
  unfold f_X11_isLine at h
  refine r_iload_n g0 dX11_isLine_0 rfl ?_
  refine r_i2l g0 dX11_isLine_1 i_p1 ?_
  refine r_lconst g0 (v := 0) dX11_isLine_2 rfl ?_
  refine r_ldc2 g0 (v := 3) dX11_isLine_3 kX11_59 ?_
  obtain ⟨r_1, s_1, hr_1, h⟩ := bd_some h
  refine r_cSZ g0 (rest := []) (c_X11_in (InL_i i_p1) (InL_lit rfl) (InL_lit rfl) hr_1) ok_X11_in mX11_61 dX11_isLine_6 ⟨Nat.le_of_ble_eq_true rfl, Nat.le_of_ble_eq_true rfl⟩ ⟨Nat.zero_le _, Nat.zero_le _⟩ rfl (Nat.le_of_ble_eq_true rfl) rfl (fun i_r_1 => ?_)
  exact z_Z g dX11_isLine_9 i_r_1 h
theorem dX11_notes_0 : decode cX11_notes 0 = .ok (.aload_n 0, 1) := by decide +kernel
theorem dX11_notes_1 : decode cX11_notes 1 = .ok (.getfield 7, 3) := by decide +kernel
theorem dX11_notes_4 : decode cX11_notes 4 = .ok (.bipush 21, 2) := by decide +kernel
theorem dX11_notes_6 : decode cX11_notes 6 = .ok (.iload_n 1, 1) := by decide +kernel
theorem dX11_notes_7 : decode cX11_notes 7 = .ok (.imul, 1) := by decide +kernel
theorem dX11_notes_8 : decode cX11_notes 8 = .ok (.iaload, 1) := by decide +kernel
theorem dX11_notes_9 : decode cX11_notes 9 = .ok (.ireturn, 1) := by decide +kernel
set_option maxHeartbeats 4000000 in
set_option maxRecDepth 100000 in
theorem c_X11_notes {E : u_E} {l : Launch} {o : u_O} {p1 : Int} (ho : is_Mo o) (i_p1 : InR p1) {s s' : u_S} {r : Int} (h : f_X11_notes o p1 s = some (r, s')) : Con l (XE E) yX11_notes cX11_notes 2 (some .int) 0 0 0 0 [.ref (E.1 o), .int (J p1)] (Wd E s) (RI E r s') := by
  refine Con.of [some (.ref (E.1 o)), some (.int (J p1))] (by decide +kernel) rfl rfl (Nat.le_of_ble_eq_true rfl) (fun K g => ?_)
  have g0 := g.wk
  unfold f_X11_notes at h
  refine r_aload_n g0 dX11_notes_0 rfl ?_
  refine g_Mo_all g0 ho qX11_7 dX11_notes_1 ?_
  refine r_bipush g0 dX11_notes_4 rfl ?_
  refine r_iload_n g0 dX11_notes_6 rfl ?_
  refine r_imul g0 dX11_notes_7 ?_
  obtain ⟨hb, h⟩ := gd_some h
  refine r_iaload g0 (is_a_Mo_all ho) (n := 145) rfl (InR_wr _) hb dX11_notes_8 ?_
  exact z_I g dX11_notes_9 (InR_rd _ _ _) h
theorem dX11_plain_0 : decode cX11_plain 0 = .ok (.aload_n 0, 1) := by decide +kernel
theorem dX11_plain_1 : decode cX11_plain 1 = .ok (.getfield 7, 3) := by decide +kernel
theorem dX11_plain_4 : decode cX11_plain 4 = .ok (.bipush 21, 2) := by decide +kernel
theorem dX11_plain_6 : decode cX11_plain 6 = .ok (.iload_n 1, 1) := by decide +kernel
theorem dX11_plain_7 : decode cX11_plain 7 = .ok (.imul, 1) := by decide +kernel
theorem dX11_plain_8 : decode cX11_plain 8 = .ok (.iconst 1, 1) := by decide +kernel
theorem dX11_plain_9 : decode cX11_plain 9 = .ok (.iadd, 1) := by decide +kernel
theorem dX11_plain_10 : decode cX11_plain 10 = .ok (.iconst 2, 1) := by decide +kernel
theorem dX11_plain_11 : decode cX11_plain 11 = .ok (.iload_n 2, 1) := by decide +kernel
theorem dX11_plain_12 : decode cX11_plain 12 = .ok (.imul, 1) := by decide +kernel
theorem dX11_plain_13 : decode cX11_plain 13 = .ok (.iadd, 1) := by decide +kernel
theorem dX11_plain_14 : decode cX11_plain 14 = .ok (.iaload, 1) := by decide +kernel
theorem dX11_plain_15 : decode cX11_plain 15 = .ok (.ireturn, 1) := by decide +kernel
set_option maxHeartbeats 4000000 in
set_option maxRecDepth 100000 in
theorem c_X11_plain {E : u_E} {l : Launch} {o : u_O} {p1 : Int} {p2 : Int} (ho : is_Mo o) (i_p1 : InR p1) (i_p2 : InR p2) {s s' : u_S} {r : Int} (h : f_X11_plain o p1 p2 s = some (r, s')) : Con l (XE E) yX11_plain cX11_plain 3 (some .int) 0 0 0 0 [.ref (E.1 o), .int (J p1), .int (J p2)] (Wd E s) (RI E r s') := by
  refine Con.of [some (.ref (E.1 o)), some (.int (J p1)), some (.int (J p2))] (by decide +kernel) rfl rfl (Nat.le_of_ble_eq_true rfl) (fun K g => ?_)
  have g0 := g.wk
  unfold f_X11_plain at h
  refine r_aload_n g0 dX11_plain_0 rfl ?_
  refine g_Mo_all g0 ho qX11_7 dX11_plain_1 ?_
  refine r_bipush g0 dX11_plain_4 rfl ?_
  refine r_iload_n g0 dX11_plain_6 rfl ?_
  refine r_imul g0 dX11_plain_7 ?_
  refine r_iconst g0 dX11_plain_8 ?_
  refine r_iadd g0 dX11_plain_9 ?_
  refine r_iconst g0 dX11_plain_10 ?_
  refine r_iload_n g0 dX11_plain_11 rfl ?_
  refine r_imul g0 dX11_plain_12 ?_
  refine r_iadd g0 dX11_plain_13 ?_
  obtain ⟨hb, h⟩ := gd_some h
  refine r_iaload g0 (is_a_Mo_all ho) (n := 145) rfl (InR_wr _) hb dX11_plain_14 ?_
  exact z_I g dX11_plain_15 (InR_rd _ _ _) h
theorem dX11_ticks_0 : decode cX11_ticks 0 = .ok (.aload_n 0, 1) := by decide +kernel
theorem dX11_ticks_1 : decode cX11_ticks 1 = .ok (.getfield 7, 3) := by decide +kernel
theorem dX11_ticks_4 : decode cX11_ticks 4 = .ok (.bipush 21, 2) := by decide +kernel
theorem dX11_ticks_6 : decode cX11_ticks 6 = .ok (.iload_n 1, 1) := by decide +kernel
theorem dX11_ticks_7 : decode cX11_ticks 7 = .ok (.imul, 1) := by decide +kernel
theorem dX11_ticks_8 : decode cX11_ticks 8 = .ok (.iconst 2, 1) := by decide +kernel
theorem dX11_ticks_9 : decode cX11_ticks 9 = .ok (.iadd, 1) := by decide +kernel
theorem dX11_ticks_10 : decode cX11_ticks 10 = .ok (.iconst 2, 1) := by decide +kernel
theorem dX11_ticks_11 : decode cX11_ticks 11 = .ok (.iload_n 2, 1) := by decide +kernel
theorem dX11_ticks_12 : decode cX11_ticks 12 = .ok (.imul, 1) := by decide +kernel
theorem dX11_ticks_13 : decode cX11_ticks 13 = .ok (.iadd, 1) := by decide +kernel
theorem dX11_ticks_14 : decode cX11_ticks 14 = .ok (.iaload, 1) := by decide +kernel
theorem dX11_ticks_15 : decode cX11_ticks 15 = .ok (.ireturn, 1) := by decide +kernel
set_option maxHeartbeats 4000000 in
set_option maxRecDepth 100000 in
theorem c_X11_ticks {E : u_E} {l : Launch} {o : u_O} {p1 : Int} {p2 : Int} (ho : is_Mo o) (i_p1 : InR p1) (i_p2 : InR p2) {s s' : u_S} {r : Int} (h : f_X11_ticks o p1 p2 s = some (r, s')) : Con l (XE E) yX11_ticks cX11_ticks 3 (some .int) 0 0 0 0 [.ref (E.1 o), .int (J p1), .int (J p2)] (Wd E s) (RI E r s') := by
  refine Con.of [some (.ref (E.1 o)), some (.int (J p1)), some (.int (J p2))] (by decide +kernel) rfl rfl (Nat.le_of_ble_eq_true rfl) (fun K g => ?_)
  have g0 := g.wk
  unfold f_X11_ticks at h
  refine r_aload_n g0 dX11_ticks_0 rfl ?_
  refine g_Mo_all g0 ho qX11_7 dX11_ticks_1 ?_
  refine r_bipush g0 dX11_ticks_4 rfl ?_
  refine r_iload_n g0 dX11_ticks_6 rfl ?_
  refine r_imul g0 dX11_ticks_7 ?_
  refine r_iconst g0 dX11_ticks_8 ?_
  refine r_iadd g0 dX11_ticks_9 ?_
  refine r_iconst g0 dX11_ticks_10 ?_
  refine r_iload_n g0 dX11_ticks_11 rfl ?_
  refine r_imul g0 dX11_ticks_12 ?_
  refine r_iadd g0 dX11_ticks_13 ?_
  obtain ⟨hb, h⟩ := gd_some h
  refine r_iaload g0 (is_a_Mo_all ho) (n := 145) rfl (InR_wr _) hb dX11_ticks_14 ?_
  exact z_I g dX11_ticks_15 (InR_rd _ _ _) h
theorem dX11_length_0 : decode cX11_length 0 = .ok (.iconst 0, 1) := by decide +kernel
theorem dX11_length_1 : decode cX11_length 1 = .ok (.istore_n 2, 1) := by decide +kernel
theorem dX11_length_2 : decode cX11_length 2 = .ok (.iconst 0, 1) := by decide +kernel
theorem dX11_length_3 : decode cX11_length 3 = .ok (.istore_n 3, 1) := by decide +kernel
theorem dX11_length_4 : decode cX11_length 4 = .ok (.iload_n 3, 1) := by decide +kernel
theorem dX11_length_5 : decode cX11_length 5 = .ok (.aload_n 0, 1) := by decide +kernel
theorem dX11_length_6 : decode cX11_length 6 = .ok (.iload_n 1, 1) := by decide +kernel
theorem dX11_length_7 : decode cX11_length 7 = .ok (.invokevirtual 65, 3) := by decide +kernel
theorem dX11_length_10 : decode cX11_length 10 = .ok (.if_icmp .ge 18, 3) := by decide +kernel
theorem dX11_length_13 : decode cX11_length 13 = .ok (.iload_n 2, 1) := by decide +kernel
theorem dX11_length_14 : decode cX11_length 14 = .ok (.aload_n 0, 1) := by decide +kernel
theorem dX11_length_15 : decode cX11_length 15 = .ok (.iload_n 1, 1) := by decide +kernel
theorem dX11_length_16 : decode cX11_length 16 = .ok (.iload_n 3, 1) := by decide +kernel
theorem dX11_length_17 : decode cX11_length 17 = .ok (.invokevirtual 69, 3) := by decide +kernel
theorem dX11_length_20 : decode cX11_length 20 = .ok (.iadd, 1) := by decide +kernel
theorem dX11_length_21 : decode cX11_length 21 = .ok (.istore_n 2, 1) := by decide +kernel
theorem dX11_length_22 : decode cX11_length 22 = .ok (.iinc 3 1, 3) := by decide +kernel
theorem dX11_length_25 : decode cX11_length 25 = .ok (.goto (-21), 3) := by decide +kernel
theorem dX11_length_28 : decode cX11_length 28 = .ok (.iload_n 2, 1) := by decide +kernel
theorem dX11_length_29 : decode cX11_length 29 = .ok (.ireturn, 1) := by decide +kernel
set_option maxHeartbeats 4000000 in
set_option maxRecDepth 100000 in
theorem t_X11_length_L4 {l : Launch} {E : u_E} {K : u_K} {r : Int} {s' : u_S} (g : Wk l (XE E) { frames := 1, cells := 0, slots := 0, locals := 22 } cX11_length 4 yX11_length.cls yX11_length.name (some .int) (RI E r s') K) {v0_1 : u_O} {v1_1 : Int} (i_v0_1 : is_Mo v0_1) (i_v1_1 : InR v1_1) {kx28 : Int → u_S → Option (Int × u_S)} (hkx28 : ∀ (v2_3 : Int) (s_5 : u_S), InR v2_3 → kx28 v2_3 s_5 = some (r, s') → K 0 0 28 [none, none, some (.int (J v2_3)), none] [] (Wd E s_5)) : ∀ (m : Nat) (v2_2 : Int) (v3_1 : Int) (s_2 : u_S), InR v2_2 → InR v3_1 → f_X11_length_L4 m kx28 v0_1 v1_1 v2_2 v3_1 s_2 = some (r, s') → K 0 0 4 [some (.ref (E.1 v0_1)), some (.int (J v1_1)), some (.int (J v2_2)), some (.int (J v3_1))] [] (Wd E s_2) := by
  have g0 := g.wk
  intro m
  induction m with
  | zero =>
    intro v2_2 v3_1 s_2 i_v2_2 i_v3_1 h
    exact absurd (show (none : Option (Int × u_S)) = some (r, s') from h) (by intro z; cases z)
  | succ m ih =>
    intro v2_2 v3_1 s_2 i_v2_2 i_v3_1 h
    rw [f_X11_length_L4] at h
    refine r_iload_n g0 dX11_length_4 rfl ?_
    refine r_aload_n g0 dX11_length_5 rfl ?_
    refine r_iload_n g0 dX11_length_6 rfl ?_
    obtain ⟨r_1, s_3, hr_1, h⟩ := bd_some h
    refine r_cVI g0 (rest := [.int (J v3_1)]) (c_X11_notes i_v0_1 i_v1_1 hr_1) ok_X11_notes mX11_65 (recv_Mo i_v0_1) dX11_length_7 ⟨Nat.le_of_ble_eq_true rfl, Nat.le_of_ble_eq_true rfl⟩ ⟨Nat.zero_le _, Nat.zero_le _⟩ rfl (Nat.le_of_ble_eq_true rfl) rfl (fun i_r_1 => ?_)
    refine r_icmp_ge g0 28 dX11_length_10 (by decide) i_v3_1 i_r_1 (fun hc => ?_) (fun hc => ?_)
    · replace h := if_f hc h
      refine r_mask g0 (lv' := [none, none, some (.int (J v2_2)), none]) [false, false, true, false] rfl ?_
      exact hkx28 v2_2 s_3 i_v2_2 h
    · replace h := if_t hc h
      refine r_iload_n g0 dX11_length_13 rfl ?_
      refine r_aload_n g0 dX11_length_14 rfl ?_
      refine r_iload_n g0 dX11_length_15 rfl ?_
      refine r_iload_n g0 dX11_length_16 rfl ?_
      obtain ⟨r_2, s_4, hr_2, h⟩ := bd_some h
      refine r_cVI g0 (rest := [.int (J v2_2)]) (c_X11_ticks i_v0_1 i_v1_1 i_v3_1 hr_2) ok_X11_ticks mX11_69 (recv_Mo i_v0_1) dX11_length_17 ⟨Nat.le_of_ble_eq_true rfl, Nat.le_of_ble_eq_true rfl⟩ ⟨Nat.zero_le _, Nat.zero_le _⟩ rfl (Nat.le_of_ble_eq_true rfl) rfl (fun i_r_2 => ?_)
      refine r_iadd g0 dX11_length_20 ?_
      refine r_istore_n g0 (lv' := [some (.ref (E.1 v0_1)), some (.int (J v1_1)), some (.int (J (wr (v2_2 + r_2)))), some (.int (J v3_1))]) dX11_length_21 (by decide) rfl rfl ?_
      refine r_iinc g0 (a := v3_1) (lv' := [some (.ref (E.1 v0_1)), some (.int (J v1_1)), some (.int (J (wr (v2_2 + r_2)))), some (.int (J (wr (v3_1 + 1))))]) dX11_length_22 (by decide) rfl rfl rfl ?_
      refine r_goto g0 4 dX11_length_25 (by decide) ?_
      exact ih (wr (v2_2 + r_2)) (wr (v3_1 + 1)) s_4 (InR_wr _) (InR_wr _) h
set_option maxHeartbeats 4000000 in
set_option maxRecDepth 100000 in
theorem c_X11_length {E : u_E} {l : Launch} {o : u_O} {p1 : Int} (ho : is_Mo o) (i_p1 : InR p1) {s s' : u_S} {r : Int} (h : f_X11_length o p1 s = some (r, s')) : Con l (XE E) yX11_length cX11_length 4 (some .int) 1 22 0 0 [.ref (E.1 o), .int (J p1)] (Wd E s) (RI E r s') := by
  refine Con.of [some (.ref (E.1 o)), some (.int (J p1)), none, none] (by decide +kernel) rfl rfl (Nat.le_of_ble_eq_true rfl) (fun K g => ?_)
  have g0 := g.wk
  unfold f_X11_length at h
  refine r_iconst g0 dX11_length_0 ?_
  refine r_istore_n g0 (lv' := [some (.ref (E.1 o)), some (.int (J p1)), some (.int (J 0)), none]) dX11_length_1 (by decide) rfl rfl ?_
  refine r_iconst g0 dX11_length_2 ?_
  refine r_istore_n g0 (lv' := [some (.ref (E.1 o)), some (.int (J p1)), some (.int (J 0)), some (.int (J 0))]) dX11_length_3 (by decide) rfl rfl ?_
  refine t_X11_length_L4 g ho i_p1 ?_ FU 0 0 s (B01.inR B01_0) (B01.inR B01_0) h
  · intro v2_1 s_1 i_v2_1 h
    refine r_iload_n g0 dX11_length_28 rfl ?_
    exact z_I g dX11_length_29 i_v2_1 h
theorem dX11_of_0 : decode cX11_of 0 = .ok (.aload_n 0, 1) := by decide +kernel
theorem dX11_of_1 : decode cX11_of 1 = .ok (.getfield 7, 3) := by decide +kernel
theorem dX11_of_4 : decode cX11_of 4 = .ok (.bipush 85, 2) := by decide +kernel
theorem dX11_of_6 : decode cX11_of 6 = .ok (.iconst 5, 1) := by decide +kernel
theorem dX11_of_7 : decode cX11_of 7 = .ok (.iload_n 1, 1) := by decide +kernel
theorem dX11_of_8 : decode cX11_of 8 = .ok (.imul, 1) := by decide +kernel
theorem dX11_of_9 : decode cX11_of 9 = .ok (.iadd, 1) := by decide +kernel
theorem dX11_of_10 : decode cX11_of 10 = .ok (.iload_n 2, 1) := by decide +kernel
theorem dX11_of_11 : decode cX11_of 11 = .ok (.iadd, 1) := by decide +kernel
theorem dX11_of_12 : decode cX11_of 12 = .ok (.iaload, 1) := by decide +kernel
theorem dX11_of_13 : decode cX11_of 13 = .ok (.ireturn, 1) := by decide +kernel
set_option maxHeartbeats 4000000 in
set_option maxRecDepth 100000 in
theorem c_X11_of {E : u_E} {l : Launch} {o : u_O} {p1 : Int} {p2 : Int} (ho : is_Mo o) (i_p1 : InR p1) (i_p2 : InR p2) {s s' : u_S} {r : Int} (h : f_X11_of o p1 p2 s = some (r, s')) : Con l (XE E) yX11_of cX11_of 3 (some .int) 0 0 0 0 [.ref (E.1 o), .int (J p1), .int (J p2)] (Wd E s) (RI E r s') := by
  refine Con.of [some (.ref (E.1 o)), some (.int (J p1)), some (.int (J p2))] (by decide +kernel) rfl rfl (Nat.le_of_ble_eq_true rfl) (fun K g => ?_)
  have g0 := g.wk
  unfold f_X11_of at h
  refine r_aload_n g0 dX11_of_0 rfl ?_
  refine g_Mo_all g0 ho qX11_7 dX11_of_1 ?_
  refine r_bipush g0 dX11_of_4 rfl ?_
  refine r_iconst g0 dX11_of_6 ?_
  refine r_iload_n g0 dX11_of_7 rfl ?_
  refine r_imul g0 dX11_of_8 ?_
  refine r_iadd g0 dX11_of_9 ?_
  refine r_iload_n g0 dX11_of_10 rfl ?_
  refine r_iadd g0 dX11_of_11 ?_
  obtain ⟨hb, h⟩ := gd_some h
  refine r_iaload g0 (is_a_Mo_all ho) (n := 145) rfl (InR_wr _) hb dX11_of_12 ?_
  exact z_I g dX11_of_13 (InR_rd _ _ _) h
theorem dX11_entered_0 : decode cX11_entered 0 = .ok (.iconst 0, 1) := by decide +kernel
theorem dX11_entered_1 : decode cX11_entered 1 = .ok (.istore_n 2, 1) := by decide +kernel
theorem dX11_entered_2 : decode cX11_entered 2 = .ok (.iconst 0, 1) := by decide +kernel
theorem dX11_entered_3 : decode cX11_entered 3 = .ok (.istore_n 3, 1) := by decide +kernel
theorem dX11_entered_4 : decode cX11_entered 4 = .ok (.iload_n 3, 1) := by decide +kernel
theorem dX11_entered_5 : decode cX11_entered 5 = .ok (.aload_n 0, 1) := by decide +kernel
theorem dX11_entered_6 : decode cX11_entered 6 = .ok (.getfield 7, 3) := by decide +kernel
theorem dX11_entered_9 : decode cX11_entered 9 = .ok (.bipush 84, 2) := by decide +kernel
theorem dX11_entered_11 : decode cX11_entered 11 = .ok (.iaload, 1) := by decide +kernel
theorem dX11_entered_12 : decode cX11_entered 12 = .ok (.if_icmp .ge 27, 3) := by decide +kernel
theorem dX11_entered_15 : decode cX11_entered 15 = .ok (.iload_n 2, 1) := by decide +kernel
theorem dX11_entered_16 : decode cX11_entered 16 = .ok (.aload_n 0, 1) := by decide +kernel
theorem dX11_entered_17 : decode cX11_entered 17 = .ok (.iload_n 3, 1) := by decide +kernel
theorem dX11_entered_18 : decode cX11_entered 18 = .ok (.iconst 0, 1) := by decide +kernel
theorem dX11_entered_19 : decode cX11_entered 19 = .ok (.invokevirtual 73, 3) := by decide +kernel
theorem dX11_entered_22 : decode cX11_entered 22 = .ok (.iload_n 1, 1) := by decide +kernel
theorem dX11_entered_23 : decode cX11_entered 23 = .ok (.if_icmp .ne 7, 3) := by decide +kernel
theorem dX11_entered_26 : decode cX11_entered 26 = .ok (.iconst 1, 1) := by decide +kernel
theorem dX11_entered_27 : decode cX11_entered 27 = .ok (.goto 4, 3) := by decide +kernel
theorem dX11_entered_30 : decode cX11_entered 30 = .ok (.iconst 0, 1) := by decide +kernel
theorem dX11_entered_31 : decode cX11_entered 31 = .ok (.iadd, 1) := by decide +kernel
theorem dX11_entered_32 : decode cX11_entered 32 = .ok (.istore_n 2, 1) := by decide +kernel
theorem dX11_entered_33 : decode cX11_entered 33 = .ok (.iinc 3 1, 3) := by decide +kernel
theorem dX11_entered_36 : decode cX11_entered 36 = .ok (.goto (-32), 3) := by decide +kernel
theorem dX11_entered_39 : decode cX11_entered 39 = .ok (.iload_n 2, 1) := by decide +kernel
theorem dX11_entered_40 : decode cX11_entered 40 = .ok (.ireturn, 1) := by decide +kernel
set_option maxHeartbeats 4000000 in
set_option maxRecDepth 100000 in
theorem t_X11_entered_L4 {l : Launch} {E : u_E} {K : u_K} {r : Int} {s' : u_S} (g : Wk l (XE E) { frames := 1, cells := 0, slots := 0, locals := 22 } cX11_entered 4 yX11_entered.cls yX11_entered.name (some .int) (RI E r s') K) {v0_1 : u_O} {v1_1 : Int} (i_v0_1 : is_Mo v0_1) (i_v1_1 : InR v1_1) {kx39 : Int → u_S → Option (Int × u_S)} (hkx39 : ∀ (v2_3 : Int) (s_5 : u_S), InR v2_3 → kx39 v2_3 s_5 = some (r, s') → K 0 0 39 [none, none, some (.int (J v2_3)), none] [] (Wd E s_5)) : ∀ (m : Nat) (v2_2 : Int) (v3_1 : Int) (s_2 : u_S), InR v2_2 → InR v3_1 → f_X11_entered_L4 m kx39 v0_1 v1_1 v2_2 v3_1 s_2 = some (r, s') → K 0 0 4 [some (.ref (E.1 v0_1)), some (.int (J v1_1)), some (.int (J v2_2)), some (.int (J v3_1))] [] (Wd E s_2) := by
  have g0 := g.wk
  intro m
  induction m with
  | zero =>
    intro v2_2 v3_1 s_2 i_v2_2 i_v3_1 h
    exact absurd (show (none : Option (Int × u_S)) = some (r, s') from h) (by intro z; cases z)
  | succ m ih =>
    intro v2_2 v3_1 s_2 i_v2_2 i_v3_1 h
    rw [f_X11_entered_L4] at h
    refine r_iload_n g0 dX11_entered_4 rfl ?_
    refine r_aload_n g0 dX11_entered_5 rfl ?_
    refine g_Mo_all g0 i_v0_1 qX11_7 dX11_entered_6 ?_
    refine r_bipush g0 dX11_entered_9 rfl ?_
    obtain ⟨hb, h⟩ := gd_some h
    refine r_iaload g0 (is_a_Mo_all i_v0_1) (n := 145) rfl (InR_lit rfl) hb dX11_entered_11 ?_
    refine r_icmp_ge g0 39 dX11_entered_12 (by decide) i_v3_1 (InR_rd _ _ _) (fun hc => ?_) (fun hc => ?_)
    · replace h := if_f hc h
      refine r_mask g0 (lv' := [none, none, some (.int (J v2_2)), none]) [false, false, true, false] rfl ?_
      exact hkx39 v2_2 s_2 i_v2_2 h
    · replace h := if_t hc h
      refine r_iload_n g0 dX11_entered_15 rfl ?_
      refine r_aload_n g0 dX11_entered_16 rfl ?_
      refine r_iload_n g0 dX11_entered_17 rfl ?_
      refine r_iconst g0 dX11_entered_18 ?_
      obtain ⟨r_1, s_3, hr_1, h⟩ := bd_some h
      refine r_cVI g0 (rest := [.int (J v2_2)]) (c_X11_of i_v0_1 i_v3_1 (B01.inR B01_0) hr_1) ok_X11_of mX11_73 (recv_Mo i_v0_1) dX11_entered_19 ⟨Nat.le_of_ble_eq_true rfl, Nat.le_of_ble_eq_true rfl⟩ ⟨Nat.zero_le _, Nat.zero_le _⟩ rfl (Nat.le_of_ble_eq_true rfl) rfl (fun i_r_1 => ?_)
      refine r_iload_n g0 dX11_entered_22 rfl ?_
      obtain ⟨jp_1, hdjp_1, h⟩ := jn_some h
      have hjp_1 : ∀ (vt_1 : Int) (vt_2 : Int) (s_4 : u_S), InR vt_1 → B01 vt_2 → jp_1 vt_1 vt_2 s_4 = some (r, s') → K 0 0 31 [some (.ref (E.1 v0_1)), some (.int (J v1_1)), none, some (.int (J v3_1))] [.int (J vt_2), .int (J vt_1)] (Wd E s_4) := by
        intro vt_1 vt_2 s_4 i_vt_1 i_vt_2 h
        subst hdjp_1
        refine r_iadd g0 dX11_entered_31 ?_
        refine r_istore_n g0 (lv' := [some (.ref (E.1 v0_1)), some (.int (J v1_1)), some (.int (J (wr (vt_1 + vt_2)))), some (.int (J v3_1))]) dX11_entered_32 (by decide) rfl rfl ?_
        refine r_iinc g0 (a := v3_1) (lv' := [some (.ref (E.1 v0_1)), some (.int (J v1_1)), some (.int (J (wr (vt_1 + vt_2)))), some (.int (J (wr (v3_1 + 1))))]) dX11_entered_33 (by decide) rfl rfl rfl ?_
        refine r_goto g0 4 dX11_entered_36 (by decide) ?_
        exact ih (wr (vt_1 + vt_2)) (wr (v3_1 + 1)) s_4 (InR_wr _) (InR_wr _) h
      clear hdjp_1
      refine r_icmp_ne g0 30 dX11_entered_23 (by decide) i_r_1 i_v1_1 (fun hc => ?_) (fun hc => ?_)
      · replace h := if_f hc h
        refine r_iconst g0 dX11_entered_30 ?_
        refine r_mask g0 (lv' := [some (.ref (E.1 v0_1)), some (.int (J v1_1)), none, some (.int (J v3_1))]) [true, true, false, true] rfl ?_
        exact hjp_1 v2_2 0 s_3 i_v2_2 B01_0 h
      · replace h := if_t hc h
        refine r_iconst g0 dX11_entered_26 ?_
        refine r_goto g0 31 dX11_entered_27 (by decide) ?_
        refine r_mask g0 (lv' := [some (.ref (E.1 v0_1)), some (.int (J v1_1)), none, some (.int (J v3_1))]) [true, true, false, true] rfl ?_
        exact hjp_1 v2_2 1 s_3 i_v2_2 B01_1 h
set_option maxHeartbeats 4000000 in
set_option maxRecDepth 100000 in
theorem c_X11_entered {E : u_E} {l : Launch} {o : u_O} {p1 : Int} (ho : is_Mo o) (i_p1 : InR p1) {s s' : u_S} {r : Int} (h : f_X11_entered o p1 s = some (r, s')) : Con l (XE E) yX11_entered cX11_entered 4 (some .int) 1 22 0 0 [.ref (E.1 o), .int (J p1)] (Wd E s) (RI E r s') := by
  refine Con.of [some (.ref (E.1 o)), some (.int (J p1)), none, none] (by decide +kernel) rfl rfl (Nat.le_of_ble_eq_true rfl) (fun K g => ?_)
  have g0 := g.wk
  unfold f_X11_entered at h
  refine r_iconst g0 dX11_entered_0 ?_
  refine r_istore_n g0 (lv' := [some (.ref (E.1 o)), some (.int (J p1)), some (.int (J 0)), none]) dX11_entered_1 (by decide) rfl rfl ?_
  refine r_iconst g0 dX11_entered_2 ?_
  refine r_istore_n g0 (lv' := [some (.ref (E.1 o)), some (.int (J p1)), some (.int (J 0)), some (.int (J 0))]) dX11_entered_3 (by decide) rfl rfl ?_
  refine t_X11_entered_L4 g ho i_p1 ?_ FU 0 0 s (B01.inR B01_0) (B01.inR B01_0) h
  · intro v2_1 s_1 i_v2_1 h
    refine r_iload_n g0 dX11_entered_39 rfl ?_
    exact z_I g dX11_entered_40 i_v2_1 h
theorem dX11_answered_0 : decode cX11_answered 0 = .ok (.iload_n 2, 1) := by decide +kernel
theorem dX11_answered_1 : decode cX11_answered 1 = .ok (.aload_n 0, 1) := by decide +kernel
theorem dX11_answered_2 : decode cX11_answered 2 = .ok (.getfield 7, 3) := by decide +kernel
theorem dX11_answered_5 : decode cX11_answered 5 = .ok (.sipush 135, 3) := by decide +kernel
theorem dX11_answered_8 : decode cX11_answered 8 = .ok (.iaload, 1) := by decide +kernel
theorem dX11_answered_9 : decode cX11_answered 9 = .ok (.if_icmp .ge 31, 3) := by decide +kernel
theorem dX11_answered_12 : decode cX11_answered 12 = .ok (.aload_n 0, 1) := by decide +kernel
theorem dX11_answered_13 : decode cX11_answered 13 = .ok (.iload_n 1, 1) := by decide +kernel
theorem dX11_answered_14 : decode cX11_answered 14 = .ok (.iload_n 2, 1) := by decide +kernel
theorem dX11_answered_15 : decode cX11_answered 15 = .ok (.invokevirtual 76, 3) := by decide +kernel
theorem dX11_answered_18 : decode cX11_answered 18 = .ok (.aload_n 0, 1) := by decide +kernel
theorem dX11_answered_19 : decode cX11_answered 19 = .ok (.getfield 7, 3) := by decide +kernel
theorem dX11_answered_22 : decode cX11_answered 22 = .ok (.sipush 136, 3) := by decide +kernel
theorem dX11_answered_25 : decode cX11_answered 25 = .ok (.iaload, 1) := by decide +kernel
theorem dX11_answered_26 : decode cX11_answered 26 = .ok (.isub, 1) := by decide +kernel
theorem dX11_answered_27 : decode cX11_answered 27 = .ok (.bipush 7, 2) := by decide +kernel
theorem dX11_answered_29 : decode cX11_answered 29 = .ok (.invokestatic 79, 3) := by decide +kernel
theorem dX11_answered_32 : decode cX11_answered 32 = .ok (.iconst 4, 1) := by decide +kernel
theorem dX11_answered_33 : decode cX11_answered 33 = .ok (.if_icmp .ne 7, 3) := by decide +kernel
theorem dX11_answered_36 : decode cX11_answered 36 = .ok (.iconst 1, 1) := by decide +kernel
theorem dX11_answered_37 : decode cX11_answered 37 = .ok (.goto 4, 3) := by decide +kernel
theorem dX11_answered_40 : decode cX11_answered 40 = .ok (.iconst 0, 1) := by decide +kernel
theorem dX11_answered_41 : decode cX11_answered 41 = .ok (.istore_n 3, 1) := by decide +kernel
theorem dX11_answered_42 : decode cX11_answered 42 = .ok (.aload_n 0, 1) := by decide +kernel
theorem dX11_answered_43 : decode cX11_answered 43 = .ok (.iload_n 1, 1) := by decide +kernel
theorem dX11_answered_44 : decode cX11_answered 44 = .ok (.iload_n 2, 1) := by decide +kernel
theorem dX11_answered_45 : decode cX11_answered 45 = .ok (.invokevirtual 76, 3) := by decide +kernel
theorem dX11_answered_48 : decode cX11_answered 48 = .ok (.iload_n 3, 1) := by decide +kernel
theorem dX11_answered_49 : decode cX11_answered 49 = .ok (.ifCond .eq 7, 3) := by decide +kernel
theorem dX11_answered_52 : decode cX11_answered 52 = .ok (.iconst 3, 1) := by decide +kernel
theorem dX11_answered_53 : decode cX11_answered 53 = .ok (.goto 4, 3) := by decide +kernel
theorem dX11_answered_56 : decode cX11_answered 56 = .ok (.iconst 4, 1) := by decide +kernel
theorem dX11_answered_57 : decode cX11_answered 57 = .ok (.iadd, 1) := by decide +kernel
theorem dX11_answered_58 : decode cX11_answered 58 = .ok (.ireturn, 1) := by decide +kernel
set_option maxHeartbeats 4000000 in
set_option maxRecDepth 100000 in
theorem c_X11_answered {E : u_E} {l : Launch} {o : u_O} {p1 : Int} {p2 : Int} (ho : is_Mo o) (i_p1 : InR p1) (i_p2 : InR p2) {s s' : u_S} {r : Int} (h : f_X11_answered o p1 p2 s = some (r, s')) : Con l (XE E) yX11_answered cX11_answered 4 (some .int) 1 22 0 0 [.ref (E.1 o), .int (J p1), .int (J p2)] (Wd E s) (RI E r s') := by
  refine Con.of [some (.ref (E.1 o)), some (.int (J p1)), some (.int (J p2)), none] (by decide +kernel) rfl rfl (Nat.le_of_ble_eq_true rfl) (fun K g => ?_)
  have g0 := g.wk
  unfold f_X11_answered at h
  refine r_iload_n g0 dX11_answered_0 rfl ?_
  refine r_aload_n g0 dX11_answered_1 rfl ?_
  refine g_Mo_all g0 ho qX11_7 dX11_answered_2 ?_
  refine r_sipush g0 dX11_answered_5 rfl ?_
  obtain ⟨hb, h⟩ := gd_some h
  refine r_iaload g0 (is_a_Mo_all ho) (n := 145) rfl (InR_lit rfl) hb dX11_answered_8 ?_
  obtain ⟨jp_1, hdjp_1, h⟩ := jn_some h
  have hjp_1 : ∀ (vt_1 : Int) (s_1 : u_S), B01 vt_1 → jp_1 vt_1 s_1 = some (r, s') → K 0 0 41 [some (.ref (E.1 o)), some (.int (J p1)), some (.int (J p2)), none] [.int (J vt_1)] (Wd E s_1) := by
    intro vt_1 s_1 i_vt_1 h
    subst hdjp_1
    refine r_istore_n g0 (lv' := [some (.ref (E.1 o)), some (.int (J p1)), some (.int (J p2)), some (.int (J vt_1))]) dX11_answered_41 (by decide) rfl rfl ?_
    refine r_aload_n g0 dX11_answered_42 rfl ?_
    refine r_iload_n g0 dX11_answered_43 rfl ?_
    refine r_iload_n g0 dX11_answered_44 rfl ?_
    obtain ⟨r_1, s_2, hr_1, h⟩ := bd_some h
    refine r_cVI g0 (rest := []) (c_X11_plain ho i_p1 i_p2 hr_1) ok_X11_plain mX11_76 (recv_Mo ho) dX11_answered_45 ⟨Nat.le_of_ble_eq_true rfl, Nat.le_of_ble_eq_true rfl⟩ ⟨Nat.zero_le _, Nat.zero_le _⟩ rfl (Nat.le_of_ble_eq_true rfl) rfl (fun i_r_1 => ?_)
    refine r_iload_n g0 dX11_answered_48 rfl ?_
    obtain ⟨jp_2, hdjp_2, h⟩ := jn_some h
    have hjp_2 : ∀ (vt_2 : Int) (vt_3 : Int) (s_3 : u_S), InR vt_2 → InR vt_3 → jp_2 vt_2 vt_3 s_3 = some (r, s') → K 0 0 57 [none, none, none, none] [.int (J vt_3), .int (J vt_2)] (Wd E s_3) := by
      intro vt_2 vt_3 s_3 i_vt_2 i_vt_3 h
      subst hdjp_2
      refine r_iadd g0 dX11_answered_57 ?_
      exact z_I g dX11_answered_58 (InR_wr _) h
    clear hdjp_2
    refine r_if_eq g0 56 dX11_answered_49 (by decide) (B01.inR i_vt_1) (fun hc => ?_) (fun hc => ?_)
    · replace h := if_t hc h
      refine r_iconst g0 dX11_answered_56 ?_
      refine r_mask g0 (lv' := [none, none, none, none]) [false, false, false, false] rfl ?_
      exact hjp_2 r_1 4 s_2 i_r_1 (InR_lit rfl) h
    · replace h := if_f hc h
      refine r_iconst g0 dX11_answered_52 ?_
      refine r_goto g0 57 dX11_answered_53 (by decide) ?_
      refine r_mask g0 (lv' := [none, none, none, none]) [false, false, false, false] rfl ?_
      exact hjp_2 r_1 3 s_2 i_r_1 (InR_lit rfl) h
  clear hdjp_1
  obtain ⟨jp_3, hdjp_3, h⟩ := jn_some h
  have hjp_3 : ∀  (s_4 : u_S), jp_3 s_4 = some (r, s') → K 0 0 40 [some (.ref (E.1 o)), some (.int (J p1)), some (.int (J p2)), none] [] (Wd E s_4) := by
    intro s_4 h
    subst hdjp_3
    refine r_iconst g0 dX11_answered_40 ?_
    exact hjp_1 0 s_4 B01_0 h
  clear hdjp_3
  refine r_icmp_ge g0 40 dX11_answered_9 (by decide) i_p2 (InR_rd _ _ _) (fun hc => ?_) (fun hc => ?_)
  · replace h := if_f hc h
    exact hjp_3 s h
  · replace h := if_t hc h
    refine r_aload_n g0 dX11_answered_12 rfl ?_
    refine r_iload_n g0 dX11_answered_13 rfl ?_
    refine r_iload_n g0 dX11_answered_14 rfl ?_
    obtain ⟨r_2, s_5, hr_2, h⟩ := bd_some h
    refine r_cVI g0 (rest := []) (c_X11_plain ho i_p1 i_p2 hr_2) ok_X11_plain mX11_76 (recv_Mo ho) dX11_answered_15 ⟨Nat.le_of_ble_eq_true rfl, Nat.le_of_ble_eq_true rfl⟩ ⟨Nat.zero_le _, Nat.zero_le _⟩ rfl (Nat.le_of_ble_eq_true rfl) rfl (fun i_r_2 => ?_)
    refine r_aload_n g0 dX11_answered_18 rfl ?_
    refine g_Mo_all g0 ho qX11_7 dX11_answered_19 ?_
    refine r_sipush g0 dX11_answered_22 rfl ?_
    obtain ⟨hb, h⟩ := gd_some h
    refine r_iaload g0 (is_a_Mo_all ho) (n := 145) rfl (InR_lit rfl) hb dX11_answered_25 ?_
    refine r_isub g0 dX11_answered_26 ?_
    refine r_bipush g0 dX11_answered_27 rfl ?_
    obtain ⟨r_3, s_6, hr_3, h⟩ := bd_some h
    refine r_cSI g0 (rest := []) (c_X11_left (InR_wr _) (InR_lit rfl) hr_3) ok_X11_left mX11_79 dX11_answered_29 ⟨Nat.le_of_ble_eq_true rfl, Nat.le_of_ble_eq_true rfl⟩ ⟨Nat.zero_le _, Nat.zero_le _⟩ rfl (Nat.le_of_ble_eq_true rfl) rfl (fun i_r_3 => ?_)
    refine r_iconst g0 dX11_answered_32 ?_
    refine r_icmp_ne g0 40 dX11_answered_33 (by decide) i_r_3 (InR_lit rfl) (fun hc => ?_) (fun hc => ?_)
    · replace h := if_f hc h
      exact hjp_3 s_6 h
    · replace h := if_t hc h
      refine r_iconst g0 dX11_answered_36 ?_
      refine r_goto g0 41 dX11_answered_37 (by decide) ?_
      exact hjp_1 1 s_6 B01_1 h
theorem dX11_canNote_0 : decode cX11_canNote 0 = .ok (.iload_n 1, 1) := by decide +kernel
theorem dX11_canNote_1 : decode cX11_canNote 1 = .ok (.invokestatic 82, 3) := by decide +kernel
theorem dX11_canNote_4 : decode cX11_canNote 4 = .ok (.ifCond .eq 27, 3) := by decide +kernel
theorem dX11_canNote_7 : decode cX11_canNote 7 = .ok (.iload_n 2, 1) := by decide +kernel
theorem dX11_canNote_8 : decode cX11_canNote 8 = .ok (.i2l, 1) := by decide +kernel
theorem dX11_canNote_9 : decode cX11_canNote 9 = .ok (.lconst 0, 1) := by decide +kernel
theorem dX11_canNote_10 : decode cX11_canNote 10 = .ok (.ldc2_w 86, 3) := by decide +kernel
theorem dX11_canNote_13 : decode cX11_canNote 13 = .ok (.invokestatic 61, 3) := by decide +kernel
theorem dX11_canNote_16 : decode cX11_canNote 16 = .ok (.ifCond .eq 15, 3) := by decide +kernel
theorem dX11_canNote_19 : decode cX11_canNote 19 = .ok (.iload_n 3, 1) := by decide +kernel
theorem dX11_canNote_20 : decode cX11_canNote 20 = .ok (.i2l, 1) := by decide +kernel
theorem dX11_canNote_21 : decode cX11_canNote 21 = .ok (.lconst 1, 1) := by decide +kernel
theorem dX11_canNote_22 : decode cX11_canNote 22 = .ok (.ldc2_w 88, 3) := by decide +kernel
theorem dX11_canNote_25 : decode cX11_canNote 25 = .ok (.invokestatic 61, 3) := by decide +kernel
theorem dX11_canNote_28 : decode cX11_canNote 28 = .ok (.ifCond .ne 8, 3) := by decide +kernel
theorem dX11_canNote_31 : decode cX11_canNote 31 = .ok (.bipush (-2), 2) := by decide +kernel
theorem dX11_canNote_33 : decode cX11_canNote 33 = .ok (.goto 32, 3) := by decide +kernel
theorem dX11_canNote_36 : decode cX11_canNote 36 = .ok (.aload_n 0, 1) := by decide +kernel
theorem dX11_canNote_37 : decode cX11_canNote 37 = .ok (.iload_n 1, 1) := by decide +kernel
theorem dX11_canNote_38 : decode cX11_canNote 38 = .ok (.invokevirtual 90, 3) := by decide +kernel
theorem dX11_canNote_41 : decode cX11_canNote 41 = .ok (.ifCond .le 8, 3) := by decide +kernel
theorem dX11_canNote_44 : decode cX11_canNote 44 = .ok (.bipush (-3), 2) := by decide +kernel
theorem dX11_canNote_46 : decode cX11_canNote 46 = .ok (.goto 19, 3) := by decide +kernel
theorem dX11_canNote_49 : decode cX11_canNote 49 = .ok (.aload_n 0, 1) := by decide +kernel
theorem dX11_canNote_50 : decode cX11_canNote 50 = .ok (.iload_n 1, 1) := by decide +kernel
theorem dX11_canNote_51 : decode cX11_canNote 51 = .ok (.invokevirtual 65, 3) := by decide +kernel
theorem dX11_canNote_54 : decode cX11_canNote 54 = .ok (.bipush 10, 2) := by decide +kernel
theorem dX11_canNote_56 : decode cX11_canNote 56 = .ok (.if_icmp .ne 8, 3) := by decide +kernel
theorem dX11_canNote_59 : decode cX11_canNote 59 = .ok (.bipush (-4), 2) := by decide +kernel
theorem dX11_canNote_61 : decode cX11_canNote 61 = .ok (.goto 4, 3) := by decide +kernel
theorem dX11_canNote_64 : decode cX11_canNote 64 = .ok (.iconst 0, 1) := by decide +kernel
theorem dX11_canNote_65 : decode cX11_canNote 65 = .ok (.ireturn, 1) := by decide +kernel
set_option maxHeartbeats 4000000 in
set_option maxRecDepth 100000 in
theorem c_X11_canNote {E : u_E} {l : Launch} {o : u_O} {p1 : Int} {p2 : Int} {p3 : Int} (ho : is_Mo o) (i_p1 : InR p1) (i_p2 : InR p2) (i_p3 : InR p3) {s s' : u_S} {r : Int} (h : f_X11_canNote o p1 p2 p3 s = some (r, s')) : Con l (XE E) yX11_canNote cX11_canNote 4 (some .int) 2 45 0 0 [.ref (E.1 o), .int (J p1), .int (J p2), .int (J p3)] (Wd E s) (RI E r s') := by
  refine Con.of [some (.ref (E.1 o)), some (.int (J p1)), some (.int (J p2)), some (.int (J p3))] (by decide +kernel) rfl rfl (Nat.le_of_ble_eq_true rfl) (fun K g => ?_)
  have g0 := g.wk
  unfold f_X11_canNote at h
  refine r_iload_n g0 dX11_canNote_0 rfl ?_
  obtain ⟨r_1, s_1, hr_1, h⟩ := bd_some h
  refine r_cSZ g0 (rest := []) (c_X11_isLine i_p1 hr_1) ok_X11_isLine mX11_82 dX11_canNote_1 ⟨Nat.le_of_ble_eq_true rfl, Nat.le_of_ble_eq_true rfl⟩ ⟨Nat.zero_le _, Nat.zero_le _⟩ rfl (Nat.le_of_ble_eq_true rfl) rfl (fun i_r_1 => ?_)
  obtain ⟨jp_1, hdjp_1, h⟩ := jn_some h
  have hjp_1 : ∀  (s_2 : u_S), jp_1 s_2 = some (r, s') → K 0 0 31 [none, none, none, none] [] (Wd E s_2) := by
    intro s_2 h
    subst hdjp_1
    refine r_bipush g0 dX11_canNote_31 rfl ?_
    refine r_goto g0 65 dX11_canNote_33 (by decide) ?_
    exact z_I g dX11_canNote_65 (InR_lit rfl) h
  clear hdjp_1
  refine r_if_eq g0 31 dX11_canNote_4 (by decide) (B01.inR i_r_1) (fun hc => ?_) (fun hc => ?_)
  · replace h := if_t hc h
    refine r_mask g0 (lv' := [none, none, none, none]) [false, false, false, false] rfl ?_
    exact hjp_1 s_1 h
  · replace h := if_f hc h
    refine r_iload_n g0 dX11_canNote_7 rfl ?_
    refine r_i2l g0 dX11_canNote_8 i_p2 ?_
    refine r_lconst g0 (v := 0) dX11_canNote_9 rfl ?_
    refine r_ldc2 g0 (v := 27) dX11_canNote_10 kX11_86 ?_
    obtain ⟨r_2, s_3, hr_2, h⟩ := bd_some h
    refine r_cSZ g0 (rest := []) (c_X11_in (InL_i i_p2) (InL_lit rfl) (InL_lit rfl) hr_2) ok_X11_in mX11_61 dX11_canNote_13 ⟨Nat.le_of_ble_eq_true rfl, Nat.le_of_ble_eq_true rfl⟩ ⟨Nat.zero_le _, Nat.zero_le _⟩ rfl (Nat.le_of_ble_eq_true rfl) rfl (fun i_r_2 => ?_)
    refine r_if_eq g0 31 dX11_canNote_16 (by decide) (B01.inR i_r_2) (fun hc => ?_) (fun hc => ?_)
    · replace h := if_t hc h
      refine r_mask g0 (lv' := [none, none, none, none]) [false, false, false, false] rfl ?_
      exact hjp_1 s_3 h
    · replace h := if_f hc h
      refine r_iload_n g0 dX11_canNote_19 rfl ?_
      refine r_i2l g0 dX11_canNote_20 i_p3 ?_
      refine r_lconst g0 (v := 1) dX11_canNote_21 rfl ?_
      refine r_ldc2 g0 (v := 4) dX11_canNote_22 kX11_88 ?_
      obtain ⟨r_3, s_4, hr_3, h⟩ := bd_some h
      refine r_cSZ g0 (rest := []) (c_X11_in (InL_i i_p3) (InL_lit rfl) (InL_lit rfl) hr_3) ok_X11_in mX11_61 dX11_canNote_25 ⟨Nat.le_of_ble_eq_true rfl, Nat.le_of_ble_eq_true rfl⟩ ⟨Nat.zero_le _, Nat.zero_le _⟩ rfl (Nat.le_of_ble_eq_true rfl) rfl (fun i_r_3 => ?_)
      refine r_if_ne g0 36 dX11_canNote_28 (by decide) (B01.inR i_r_3) (fun hc => ?_) (fun hc => ?_)
      · replace h := if_f hc h
        refine r_aload_n g0 dX11_canNote_36 rfl ?_
        refine r_iload_n g0 dX11_canNote_37 rfl ?_
        obtain ⟨r_4, s_5, hr_4, h⟩ := bd_some h
        refine r_cVI g0 (rest := []) (c_X11_entered ho i_p1 hr_4) ok_X11_entered mX11_90 (recv_Mo ho) dX11_canNote_38 ⟨Nat.le_of_ble_eq_true rfl, Nat.le_of_ble_eq_true rfl⟩ ⟨Nat.zero_le _, Nat.zero_le _⟩ rfl (Nat.le_of_ble_eq_true rfl) rfl (fun i_r_4 => ?_)
        refine r_if_le g0 49 dX11_canNote_41 (by decide) i_r_4 (fun hc => ?_) (fun hc => ?_)
        · replace h := if_t hc h
          refine r_aload_n g0 dX11_canNote_49 rfl ?_
          refine r_iload_n g0 dX11_canNote_50 rfl ?_
          obtain ⟨r_5, s_6, hr_5, h⟩ := bd_some h
          refine r_cVI g0 (rest := []) (c_X11_notes ho i_p1 hr_5) ok_X11_notes mX11_65 (recv_Mo ho) dX11_canNote_51 ⟨Nat.le_of_ble_eq_true rfl, Nat.le_of_ble_eq_true rfl⟩ ⟨Nat.zero_le _, Nat.zero_le _⟩ rfl (Nat.le_of_ble_eq_true rfl) rfl (fun i_r_5 => ?_)
          refine r_bipush g0 dX11_canNote_54 rfl ?_
          refine r_icmp_ne g0 64 dX11_canNote_56 (by decide) i_r_5 (InR_lit rfl) (fun hc => ?_) (fun hc => ?_)
          · replace h := if_f hc h
            refine r_iconst g0 dX11_canNote_64 ?_
            exact z_I g dX11_canNote_65 (B01.inR B01_0) h
          · replace h := if_t hc h
            refine r_bipush g0 dX11_canNote_59 rfl ?_
            refine r_goto g0 65 dX11_canNote_61 (by decide) ?_
            exact z_I g dX11_canNote_65 (InR_lit rfl) h
        · replace h := if_f hc h
          refine r_bipush g0 dX11_canNote_44 rfl ?_
          refine r_goto g0 65 dX11_canNote_46 (by decide) ?_
          exact z_I g dX11_canNote_65 (InR_lit rfl) h
      · replace h := if_t hc h
        refine r_mask g0 (lv' := [none, none, none, none]) [false, false, false, false] rfl ?_
        exact hjp_1 s_4 h
theorem dX11_noteNow_0 : decode cX11_noteNow 0 = .ok (.aload_n 0, 1) := by decide +kernel
theorem dX11_noteNow_1 : decode cX11_noteNow 1 = .ok (.iload_n 1, 1) := by decide +kernel
theorem dX11_noteNow_2 : decode cX11_noteNow 2 = .ok (.invokevirtual 65, 3) := by decide +kernel
theorem dX11_noteNow_5 : decode cX11_noteNow 5 = .ok (.istore 4, 2) := by decide +kernel
theorem dX11_noteNow_7 : decode cX11_noteNow 7 = .ok (.aload_n 0, 1) := by decide +kernel
theorem dX11_noteNow_8 : decode cX11_noteNow 8 = .ok (.getfield 7, 3) := by decide +kernel
theorem dX11_noteNow_11 : decode cX11_noteNow 11 = .ok (.bipush 21, 2) := by decide +kernel
theorem dX11_noteNow_13 : decode cX11_noteNow 13 = .ok (.iload_n 1, 1) := by decide +kernel
theorem dX11_noteNow_14 : decode cX11_noteNow 14 = .ok (.imul, 1) := by decide +kernel
theorem dX11_noteNow_15 : decode cX11_noteNow 15 = .ok (.iconst 1, 1) := by decide +kernel
theorem dX11_noteNow_16 : decode cX11_noteNow 16 = .ok (.iadd, 1) := by decide +kernel
theorem dX11_noteNow_17 : decode cX11_noteNow 17 = .ok (.iconst 2, 1) := by decide +kernel
theorem dX11_noteNow_18 : decode cX11_noteNow 18 = .ok (.iload 4, 2) := by decide +kernel
theorem dX11_noteNow_20 : decode cX11_noteNow 20 = .ok (.imul, 1) := by decide +kernel
theorem dX11_noteNow_21 : decode cX11_noteNow 21 = .ok (.iadd, 1) := by decide +kernel
theorem dX11_noteNow_22 : decode cX11_noteNow 22 = .ok (.iload_n 2, 1) := by decide +kernel
theorem dX11_noteNow_23 : decode cX11_noteNow 23 = .ok (.iastore, 1) := by decide +kernel
theorem dX11_noteNow_24 : decode cX11_noteNow 24 = .ok (.aload_n 0, 1) := by decide +kernel
theorem dX11_noteNow_25 : decode cX11_noteNow 25 = .ok (.getfield 7, 3) := by decide +kernel
theorem dX11_noteNow_28 : decode cX11_noteNow 28 = .ok (.bipush 21, 2) := by decide +kernel
theorem dX11_noteNow_30 : decode cX11_noteNow 30 = .ok (.iload_n 1, 1) := by decide +kernel
theorem dX11_noteNow_31 : decode cX11_noteNow 31 = .ok (.imul, 1) := by decide +kernel
theorem dX11_noteNow_32 : decode cX11_noteNow 32 = .ok (.iconst 2, 1) := by decide +kernel
theorem dX11_noteNow_33 : decode cX11_noteNow 33 = .ok (.iadd, 1) := by decide +kernel
theorem dX11_noteNow_34 : decode cX11_noteNow 34 = .ok (.iconst 2, 1) := by decide +kernel
theorem dX11_noteNow_35 : decode cX11_noteNow 35 = .ok (.iload 4, 2) := by decide +kernel
theorem dX11_noteNow_37 : decode cX11_noteNow 37 = .ok (.imul, 1) := by decide +kernel
theorem dX11_noteNow_38 : decode cX11_noteNow 38 = .ok (.iadd, 1) := by decide +kernel
theorem dX11_noteNow_39 : decode cX11_noteNow 39 = .ok (.iload_n 3, 1) := by decide +kernel
theorem dX11_noteNow_40 : decode cX11_noteNow 40 = .ok (.iastore, 1) := by decide +kernel
theorem dX11_noteNow_41 : decode cX11_noteNow 41 = .ok (.aload_n 0, 1) := by decide +kernel
theorem dX11_noteNow_42 : decode cX11_noteNow 42 = .ok (.getfield 7, 3) := by decide +kernel
theorem dX11_noteNow_45 : decode cX11_noteNow 45 = .ok (.bipush 21, 2) := by decide +kernel
theorem dX11_noteNow_47 : decode cX11_noteNow 47 = .ok (.iload_n 1, 1) := by decide +kernel
theorem dX11_noteNow_48 : decode cX11_noteNow 48 = .ok (.imul, 1) := by decide +kernel
theorem dX11_noteNow_49 : decode cX11_noteNow 49 = .ok (.dup2, 1) := by decide +kernel
theorem dX11_noteNow_50 : decode cX11_noteNow 50 = .ok (.iaload, 1) := by decide +kernel
theorem dX11_noteNow_51 : decode cX11_noteNow 51 = .ok (.iconst 1, 1) := by decide +kernel
theorem dX11_noteNow_52 : decode cX11_noteNow 52 = .ok (.iadd, 1) := by decide +kernel
theorem dX11_noteNow_53 : decode cX11_noteNow 53 = .ok (.iastore, 1) := by decide +kernel
theorem dX11_noteNow_54 : decode cX11_noteNow 54 = .ok (.iload 4, 2) := by decide +kernel
theorem dX11_noteNow_56 : decode cX11_noteNow 56 = .ok (.ireturn, 1) := by decide +kernel
set_option maxHeartbeats 4000000 in
set_option maxRecDepth 100000 in
theorem c_X11_noteNow {E : u_E} {l : Launch} {o : u_O} {p1 : Int} {p2 : Int} {p3 : Int} (ho : is_Mo o) (i_p1 : InR p1) (i_p2 : InR p2) (i_p3 : InR p3) {s s' : u_S} {r : Int} (h : f_X11_noteNow o p1 p2 p3 s = some (r, s')) : Con l (XE E) yX11_noteNow cX11_noteNow 5 (some .int) 1 21 0 0 [.ref (E.1 o), .int (J p1), .int (J p2), .int (J p3)] (Wd E s) (RI E r s') := by
  refine Con.of [some (.ref (E.1 o)), some (.int (J p1)), some (.int (J p2)), some (.int (J p3)), none] (by decide +kernel) rfl rfl (Nat.le_of_ble_eq_true rfl) (fun K g => ?_)
  have g0 := g.wk
  unfold f_X11_noteNow at h
  refine r_aload_n g0 dX11_noteNow_0 rfl ?_
  refine r_iload_n g0 dX11_noteNow_1 rfl ?_
  obtain ⟨r_1, s_1, hr_1, h⟩ := bd_some h
  refine r_cVI g0 (rest := []) (c_X11_notes ho i_p1 hr_1) ok_X11_notes mX11_65 (recv_Mo ho) dX11_noteNow_2 ⟨Nat.le_of_ble_eq_true rfl, Nat.le_of_ble_eq_true rfl⟩ ⟨Nat.zero_le _, Nat.zero_le _⟩ rfl (Nat.le_of_ble_eq_true rfl) rfl (fun i_r_1 => ?_)
  refine r_istore g0 (lv' := [some (.ref (E.1 o)), some (.int (J p1)), some (.int (J p2)), some (.int (J p3)), some (.int (J r_1))]) dX11_noteNow_5 (by decide) rfl rfl ?_
  refine r_aload_n g0 dX11_noteNow_7 rfl ?_
  refine g_Mo_all g0 ho qX11_7 dX11_noteNow_8 ?_
  refine r_bipush g0 dX11_noteNow_11 rfl ?_
  refine r_iload_n g0 dX11_noteNow_13 rfl ?_
  refine r_imul g0 dX11_noteNow_14 ?_
  refine r_iconst g0 dX11_noteNow_15 ?_
  refine r_iadd g0 dX11_noteNow_16 ?_
  refine r_iconst g0 dX11_noteNow_17 ?_
  refine r_iload g0 dX11_noteNow_18 rfl ?_
  refine r_imul g0 dX11_noteNow_20 ?_
  refine r_iadd g0 dX11_noteNow_21 ?_
  refine r_iload_n g0 dX11_noteNow_22 rfl ?_
  obtain ⟨hb, h⟩ := gd_some h
  refine r_iastore g0 (is_a_Mo_all ho) (n := 145) rfl (InR_wr _) hb dX11_noteNow_23 ?_
  refine r_aload_n g0 dX11_noteNow_24 rfl ?_
  refine g_Mo_all g0 ho qX11_7 dX11_noteNow_25 ?_
  refine r_bipush g0 dX11_noteNow_28 rfl ?_
  refine r_iload_n g0 dX11_noteNow_30 rfl ?_
  refine r_imul g0 dX11_noteNow_31 ?_
  refine r_iconst g0 dX11_noteNow_32 ?_
  refine r_iadd g0 dX11_noteNow_33 ?_
  refine r_iconst g0 dX11_noteNow_34 ?_
  refine r_iload g0 dX11_noteNow_35 rfl ?_
  refine r_imul g0 dX11_noteNow_37 ?_
  refine r_iadd g0 dX11_noteNow_38 ?_
  refine r_iload_n g0 dX11_noteNow_39 rfl ?_
  obtain ⟨hb, h⟩ := gd_some h
  refine r_iastore g0 (is_a_Mo_all ho) (n := 145) rfl (InR_wr _) hb dX11_noteNow_40 ?_
  refine r_aload_n g0 dX11_noteNow_41 rfl ?_
  refine g_Mo_all g0 ho qX11_7 dX11_noteNow_42 ?_
  refine r_bipush g0 dX11_noteNow_45 rfl ?_
  refine r_iload_n g0 dX11_noteNow_47 rfl ?_
  refine r_imul g0 dX11_noteNow_48 ?_
  refine r_dup2 g0 dX11_noteNow_49 rfl rfl ?_
  obtain ⟨hb, h⟩ := gd_some h
  refine r_iaload g0 (is_a_Mo_all ho) (n := 145) rfl (InR_wr _) hb dX11_noteNow_50 ?_
  refine r_iconst g0 dX11_noteNow_51 ?_
  refine r_iadd g0 dX11_noteNow_52 ?_
  obtain ⟨hb, h⟩ := gd_some h
  refine r_iastore g0 (is_a_Mo_all ho) (n := 145) rfl (InR_wr _) hb dX11_noteNow_53 ?_
  refine r_iload g0 dX11_noteNow_54 rfl ?_
  exact z_I g dX11_noteNow_56 i_r_1 h
theorem dX11_note_0 : decode cX11_note 0 = .ok (.aload_n 0, 1) := by decide +kernel
theorem dX11_note_1 : decode cX11_note 1 = .ok (.iload_n 1, 1) := by decide +kernel
theorem dX11_note_2 : decode cX11_note 2 = .ok (.iload_n 2, 1) := by decide +kernel
theorem dX11_note_3 : decode cX11_note 3 = .ok (.iload_n 3, 1) := by decide +kernel
theorem dX11_note_4 : decode cX11_note 4 = .ok (.invokevirtual 93, 3) := by decide +kernel
theorem dX11_note_7 : decode cX11_note 7 = .ok (.istore 4, 2) := by decide +kernel
theorem dX11_note_9 : decode cX11_note 9 = .ok (.iload 4, 2) := by decide +kernel
theorem dX11_note_11 : decode cX11_note 11 = .ok (.ifCond .ge 10, 3) := by decide +kernel
theorem dX11_note_14 : decode cX11_note 14 = .ok (.aload_n 0, 1) := by decide +kernel
theorem dX11_note_15 : decode cX11_note 15 = .ok (.iload 4, 2) := by decide +kernel
theorem dX11_note_17 : decode cX11_note 17 = .ok (.invokevirtual 97, 3) := by decide +kernel
theorem dX11_note_20 : decode cX11_note 20 = .ok (.ireturn, 1) := by decide +kernel
theorem dX11_note_21 : decode cX11_note 21 = .ok (.aload_n 0, 1) := by decide +kernel
theorem dX11_note_22 : decode cX11_note 22 = .ok (.invokevirtual 100, 3) := by decide +kernel
theorem dX11_note_25 : decode cX11_note 25 = .ok (.aload_n 0, 1) := by decide +kernel
theorem dX11_note_26 : decode cX11_note 26 = .ok (.iload_n 1, 1) := by decide +kernel
theorem dX11_note_27 : decode cX11_note 27 = .ok (.iload_n 2, 1) := by decide +kernel
theorem dX11_note_28 : decode cX11_note 28 = .ok (.iload_n 3, 1) := by decide +kernel
theorem dX11_note_29 : decode cX11_note 29 = .ok (.invokevirtual 103, 3) := by decide +kernel
theorem dX11_note_32 : decode cX11_note 32 = .ok (.ireturn, 1) := by decide +kernel
set_option maxHeartbeats 4000000 in
set_option maxRecDepth 100000 in
theorem c_X11_note {E : u_E} {l : Launch} {o : u_O} {p1 : Int} {p2 : Int} {p3 : Int} (ho : is_Mo o) (i_p1 : InR p1) (i_p2 : InR p2) (i_p3 : InR p3) {s s' : u_S} {r : Int} (h : f_X11_note o p1 p2 p3 s = some (r, s')) : Con l (XE E) yX11_note cX11_note 5 (some .int) 3 68 0 0 [.ref (E.1 o), .int (J p1), .int (J p2), .int (J p3)] (Wd E s) (RI E r s') := by
  refine Con.of [some (.ref (E.1 o)), some (.int (J p1)), some (.int (J p2)), some (.int (J p3)), none] (by decide +kernel) rfl rfl (Nat.le_of_ble_eq_true rfl) (fun K g => ?_)
  have g0 := g.wk
  unfold f_X11_note at h
  refine r_aload_n g0 dX11_note_0 rfl ?_
  refine r_iload_n g0 dX11_note_1 rfl ?_
  refine r_iload_n g0 dX11_note_2 rfl ?_
  refine r_iload_n g0 dX11_note_3 rfl ?_
  obtain ⟨r_1, s_1, hr_1, h⟩ := bd_some h
  refine r_cVI g0 (rest := []) (c_X11_canNote ho i_p1 i_p2 i_p3 hr_1) ok_X11_canNote mX11_93 (recv_Mo ho) dX11_note_4 ⟨Nat.le_of_ble_eq_true rfl, Nat.le_of_ble_eq_true rfl⟩ ⟨Nat.zero_le _, Nat.zero_le _⟩ rfl (Nat.le_of_ble_eq_true rfl) rfl (fun i_r_1 => ?_)
  refine r_istore g0 (lv' := [some (.ref (E.1 o)), some (.int (J p1)), some (.int (J p2)), some (.int (J p3)), some (.int (J r_1))]) dX11_note_7 (by decide) rfl rfl ?_
  refine r_iload g0 dX11_note_9 rfl ?_
  refine r_if_ge g0 21 dX11_note_11 (by decide) i_r_1 (fun hc => ?_) (fun hc => ?_)
  · replace h := if_f hc h
    refine r_aload_n g0 dX11_note_21 rfl ?_
    obtain ⟨r_2, s_2, hr_2, h⟩ := bd_some h
    refine r_cVV g0 (rest := []) (c_X11_keep ho hr_2) ok_X11_keep mX11_100 (recv_Mo ho) dX11_note_22 ⟨Nat.le_of_ble_eq_true rfl, Nat.le_of_ble_eq_true rfl⟩ ⟨Nat.zero_le _, Nat.zero_le _⟩ rfl (Nat.le_of_ble_eq_true rfl) rfl ?_
    refine r_aload_n g0 dX11_note_25 rfl ?_
    refine r_iload_n g0 dX11_note_26 rfl ?_
    refine r_iload_n g0 dX11_note_27 rfl ?_
    refine r_iload_n g0 dX11_note_28 rfl ?_
    obtain ⟨r_3, s_3, hr_3, h⟩ := bd_some h
    refine r_cVI g0 (rest := []) (c_X11_noteNow ho i_p1 i_p2 i_p3 hr_3) ok_X11_noteNow mX11_103 (recv_Mo ho) dX11_note_29 ⟨Nat.le_of_ble_eq_true rfl, Nat.le_of_ble_eq_true rfl⟩ ⟨Nat.zero_le _, Nat.zero_le _⟩ rfl (Nat.le_of_ble_eq_true rfl) rfl (fun i_r_3 => ?_)
    exact z_I g dX11_note_32 i_r_3 h
  · replace h := if_t hc h
    refine r_aload_n g0 dX11_note_14 rfl ?_
    refine r_iload g0 dX11_note_15 rfl ?_
    obtain ⟨r_4, s_4, hr_4, h⟩ := bd_some h
    refine r_cVI g0 (rest := []) (c_X11_refuses ho i_r_1 hr_4) ok_X11_refuses mX11_97 (recv_Mo ho) dX11_note_17 ⟨Nat.le_of_ble_eq_true rfl, Nat.le_of_ble_eq_true rfl⟩ ⟨Nat.zero_le _, Nat.zero_le _⟩ rfl (Nat.le_of_ble_eq_true rfl) rfl (fun i_r_4 => ?_)
    exact z_I g dX11_note_20 i_r_4 h
theorem dX11_drop_0 : decode cX11_drop 0 = .ok (.iload_n 1, 1) := by decide +kernel
theorem dX11_drop_1 : decode cX11_drop 1 = .ok (.invokestatic 82, 3) := by decide +kernel
theorem dX11_drop_4 : decode cX11_drop 4 = .ok (.ifCond .eq 20, 3) := by decide +kernel
theorem dX11_drop_7 : decode cX11_drop 7 = .ok (.iload_n 2, 1) := by decide +kernel
theorem dX11_drop_8 : decode cX11_drop 8 = .ok (.i2l, 1) := by decide +kernel
theorem dX11_drop_9 : decode cX11_drop 9 = .ok (.lconst 0, 1) := by decide +kernel
theorem dX11_drop_10 : decode cX11_drop 10 = .ok (.aload_n 0, 1) := by decide +kernel
theorem dX11_drop_11 : decode cX11_drop 11 = .ok (.iload_n 1, 1) := by decide +kernel
theorem dX11_drop_12 : decode cX11_drop 12 = .ok (.invokevirtual 65, 3) := by decide +kernel
theorem dX11_drop_15 : decode cX11_drop 15 = .ok (.iconst 1, 1) := by decide +kernel
theorem dX11_drop_16 : decode cX11_drop 16 = .ok (.isub, 1) := by decide +kernel
theorem dX11_drop_17 : decode cX11_drop 17 = .ok (.i2l, 1) := by decide +kernel
theorem dX11_drop_18 : decode cX11_drop 18 = .ok (.invokestatic 61, 3) := by decide +kernel
theorem dX11_drop_21 : decode cX11_drop 21 = .ok (.ifCond .ne 8, 3) := by decide +kernel
theorem dX11_drop_24 : decode cX11_drop 24 = .ok (.bipush (-2), 2) := by decide +kernel
theorem dX11_drop_26 : decode cX11_drop 26 = .ok (.goto 17, 3) := by decide +kernel
theorem dX11_drop_29 : decode cX11_drop 29 = .ok (.aload_n 0, 1) := by decide +kernel
theorem dX11_drop_30 : decode cX11_drop 30 = .ok (.iload_n 1, 1) := by decide +kernel
theorem dX11_drop_31 : decode cX11_drop 31 = .ok (.invokevirtual 90, 3) := by decide +kernel
theorem dX11_drop_34 : decode cX11_drop 34 = .ok (.ifCond .le 8, 3) := by decide +kernel
theorem dX11_drop_37 : decode cX11_drop 37 = .ok (.bipush (-3), 2) := by decide +kernel
theorem dX11_drop_39 : decode cX11_drop 39 = .ok (.goto 4, 3) := by decide +kernel
theorem dX11_drop_42 : decode cX11_drop 42 = .ok (.iconst 0, 1) := by decide +kernel
theorem dX11_drop_43 : decode cX11_drop 43 = .ok (.istore_n 3, 1) := by decide +kernel
theorem dX11_drop_44 : decode cX11_drop 44 = .ok (.iload_n 3, 1) := by decide +kernel
theorem dX11_drop_45 : decode cX11_drop 45 = .ok (.ifCond .ge 9, 3) := by decide +kernel
theorem dX11_drop_48 : decode cX11_drop 48 = .ok (.aload_n 0, 1) := by decide +kernel
theorem dX11_drop_49 : decode cX11_drop 49 = .ok (.iload_n 3, 1) := by decide +kernel
theorem dX11_drop_50 : decode cX11_drop 50 = .ok (.invokevirtual 97, 3) := by decide +kernel
theorem dX11_drop_53 : decode cX11_drop 53 = .ok (.ireturn, 1) := by decide +kernel
theorem dX11_drop_54 : decode cX11_drop 54 = .ok (.aload_n 0, 1) := by decide +kernel
theorem dX11_drop_55 : decode cX11_drop 55 = .ok (.invokevirtual 100, 3) := by decide +kernel
theorem dX11_drop_58 : decode cX11_drop 58 = .ok (.iload_n 2, 1) := by decide +kernel
theorem dX11_drop_59 : decode cX11_drop 59 = .ok (.istore 4, 2) := by decide +kernel
theorem dX11_drop_61 : decode cX11_drop 61 = .ok (.iload 4, 2) := by decide +kernel
theorem dX11_drop_63 : decode cX11_drop 63 = .ok (.aload_n 0, 1) := by decide +kernel
theorem dX11_drop_64 : decode cX11_drop 64 = .ok (.iload_n 1, 1) := by decide +kernel
theorem dX11_drop_65 : decode cX11_drop 65 = .ok (.invokevirtual 65, 3) := by decide +kernel
theorem dX11_drop_68 : decode cX11_drop 68 = .ok (.iconst 1, 1) := by decide +kernel
theorem dX11_drop_69 : decode cX11_drop 69 = .ok (.isub, 1) := by decide +kernel
theorem dX11_drop_70 : decode cX11_drop 70 = .ok (.if_icmp .ge 59, 3) := by decide +kernel
theorem dX11_drop_73 : decode cX11_drop 73 = .ok (.aload_n 0, 1) := by decide +kernel
theorem dX11_drop_74 : decode cX11_drop 74 = .ok (.getfield 7, 3) := by decide +kernel
theorem dX11_drop_77 : decode cX11_drop 77 = .ok (.bipush 21, 2) := by decide +kernel
theorem dX11_drop_79 : decode cX11_drop 79 = .ok (.iload_n 1, 1) := by decide +kernel
theorem dX11_drop_80 : decode cX11_drop 80 = .ok (.imul, 1) := by decide +kernel
theorem dX11_drop_81 : decode cX11_drop 81 = .ok (.iconst 1, 1) := by decide +kernel
theorem dX11_drop_82 : decode cX11_drop 82 = .ok (.iadd, 1) := by decide +kernel
theorem dX11_drop_83 : decode cX11_drop 83 = .ok (.iconst 2, 1) := by decide +kernel
theorem dX11_drop_84 : decode cX11_drop 84 = .ok (.iload 4, 2) := by decide +kernel
theorem dX11_drop_86 : decode cX11_drop 86 = .ok (.imul, 1) := by decide +kernel
theorem dX11_drop_87 : decode cX11_drop 87 = .ok (.iadd, 1) := by decide +kernel
theorem dX11_drop_88 : decode cX11_drop 88 = .ok (.aload_n 0, 1) := by decide +kernel
theorem dX11_drop_89 : decode cX11_drop 89 = .ok (.iload_n 1, 1) := by decide +kernel
theorem dX11_drop_90 : decode cX11_drop 90 = .ok (.iload 4, 2) := by decide +kernel
theorem dX11_drop_92 : decode cX11_drop 92 = .ok (.iconst 1, 1) := by decide +kernel
theorem dX11_drop_93 : decode cX11_drop 93 = .ok (.iadd, 1) := by decide +kernel
theorem dX11_drop_94 : decode cX11_drop 94 = .ok (.invokevirtual 76, 3) := by decide +kernel
theorem dX11_drop_97 : decode cX11_drop 97 = .ok (.iastore, 1) := by decide +kernel
theorem dX11_drop_98 : decode cX11_drop 98 = .ok (.aload_n 0, 1) := by decide +kernel
theorem dX11_drop_99 : decode cX11_drop 99 = .ok (.getfield 7, 3) := by decide +kernel
theorem dX11_drop_102 : decode cX11_drop 102 = .ok (.bipush 21, 2) := by decide +kernel
theorem dX11_drop_104 : decode cX11_drop 104 = .ok (.iload_n 1, 1) := by decide +kernel
theorem dX11_drop_105 : decode cX11_drop 105 = .ok (.imul, 1) := by decide +kernel
theorem dX11_drop_106 : decode cX11_drop 106 = .ok (.iconst 2, 1) := by decide +kernel
theorem dX11_drop_107 : decode cX11_drop 107 = .ok (.iadd, 1) := by decide +kernel
theorem dX11_drop_108 : decode cX11_drop 108 = .ok (.iconst 2, 1) := by decide +kernel
theorem dX11_drop_109 : decode cX11_drop 109 = .ok (.iload 4, 2) := by decide +kernel
theorem dX11_drop_111 : decode cX11_drop 111 = .ok (.imul, 1) := by decide +kernel
theorem dX11_drop_112 : decode cX11_drop 112 = .ok (.iadd, 1) := by decide +kernel
theorem dX11_drop_113 : decode cX11_drop 113 = .ok (.aload_n 0, 1) := by decide +kernel
theorem dX11_drop_114 : decode cX11_drop 114 = .ok (.iload_n 1, 1) := by decide +kernel
theorem dX11_drop_115 : decode cX11_drop 115 = .ok (.iload 4, 2) := by decide +kernel
theorem dX11_drop_117 : decode cX11_drop 117 = .ok (.iconst 1, 1) := by decide +kernel
theorem dX11_drop_118 : decode cX11_drop 118 = .ok (.iadd, 1) := by decide +kernel
theorem dX11_drop_119 : decode cX11_drop 119 = .ok (.invokevirtual 69, 3) := by decide +kernel
theorem dX11_drop_122 : decode cX11_drop 122 = .ok (.iastore, 1) := by decide +kernel
theorem dX11_drop_123 : decode cX11_drop 123 = .ok (.iinc 4 1, 3) := by decide +kernel
theorem dX11_drop_126 : decode cX11_drop 126 = .ok (.goto (-65), 3) := by decide +kernel
theorem dX11_drop_129 : decode cX11_drop 129 = .ok (.aload_n 0, 1) := by decide +kernel
theorem dX11_drop_130 : decode cX11_drop 130 = .ok (.getfield 7, 3) := by decide +kernel
theorem dX11_drop_133 : decode cX11_drop 133 = .ok (.bipush 21, 2) := by decide +kernel
theorem dX11_drop_135 : decode cX11_drop 135 = .ok (.iload_n 1, 1) := by decide +kernel
theorem dX11_drop_136 : decode cX11_drop 136 = .ok (.imul, 1) := by decide +kernel
theorem dX11_drop_137 : decode cX11_drop 137 = .ok (.dup2, 1) := by decide +kernel
theorem dX11_drop_138 : decode cX11_drop 138 = .ok (.iaload, 1) := by decide +kernel
theorem dX11_drop_139 : decode cX11_drop 139 = .ok (.iconst 1, 1) := by decide +kernel
theorem dX11_drop_140 : decode cX11_drop 140 = .ok (.isub, 1) := by decide +kernel
theorem dX11_drop_141 : decode cX11_drop 141 = .ok (.iastore, 1) := by decide +kernel
theorem dX11_drop_142 : decode cX11_drop 142 = .ok (.aload_n 0, 1) := by decide +kernel
theorem dX11_drop_143 : decode cX11_drop 143 = .ok (.iload_n 1, 1) := by decide +kernel
theorem dX11_drop_144 : decode cX11_drop 144 = .ok (.invokevirtual 65, 3) := by decide +kernel
theorem dX11_drop_147 : decode cX11_drop 147 = .ok (.ireturn, 1) := by decide +kernel
set_option maxHeartbeats 4000000 in
set_option maxRecDepth 100000 in
theorem t_X11_drop_L61 {l : Launch} {E : u_E} {K : u_K} {r : Int} {s' : u_S} (g : Wk l (XE E) { frames := 2, cells := 0, slots := 0, locals := 45 } cX11_drop 5 yX11_drop.cls yX11_drop.name (some .int) (RI E r s') K) {v0_1 : u_O} {v1_1 : Int} (i_v0_1 : is_Mo v0_1) (i_v1_1 : InR v1_1) {kx129 : u_S → Option (Int × u_S)} (hkx129 : ∀ (s_10 : u_S), kx129 s_10 = some (r, s') → K 0 0 129 [some (.ref (E.1 v0_1)), some (.int (J v1_1)), none, none, none] [] (Wd E s_10)) : ∀ (m : Nat) (v4_1 : Int) (s_6 : u_S), InR v4_1 → f_X11_drop_L61 m kx129 v0_1 v1_1 v4_1 s_6 = some (r, s') → K 0 0 61 [some (.ref (E.1 v0_1)), some (.int (J v1_1)), none, none, some (.int (J v4_1))] [] (Wd E s_6) := by
  have g0 := g.wk
  intro m
  induction m with
  | zero =>
    intro v4_1 s_6 i_v4_1 h
    exact absurd (show (none : Option (Int × u_S)) = some (r, s') from h) (by intro z; cases z)
  | succ m ih =>
    intro v4_1 s_6 i_v4_1 h
    rw [f_X11_drop_L61] at h
    refine r_iload g0 dX11_drop_61 rfl ?_
    refine r_aload_n g0 dX11_drop_63 rfl ?_
    refine r_iload_n g0 dX11_drop_64 rfl ?_
    obtain ⟨r_4, s_7, hr_4, h⟩ := bd_some h
    refine r_cVI g0 (rest := [.int (J v4_1)]) (c_X11_notes i_v0_1 i_v1_1 hr_4) ok_X11_notes mX11_65 (recv_Mo i_v0_1) dX11_drop_65 ⟨Nat.le_of_ble_eq_true rfl, Nat.le_of_ble_eq_true rfl⟩ ⟨Nat.zero_le _, Nat.zero_le _⟩ rfl (Nat.le_of_ble_eq_true rfl) rfl (fun i_r_4 => ?_)
    refine r_iconst g0 dX11_drop_68 ?_
    refine r_isub g0 dX11_drop_69 ?_
    refine r_icmp_ge g0 129 dX11_drop_70 (by decide) i_v4_1 (InR_wr _) (fun hc => ?_) (fun hc => ?_)
    · replace h := if_f hc h
      refine r_mask g0 (lv' := [some (.ref (E.1 v0_1)), some (.int (J v1_1)), none, none, none]) [true, true, false, false, false] rfl ?_
      exact hkx129 s_7 h
    · replace h := if_t hc h
      refine r_aload_n g0 dX11_drop_73 rfl ?_
      refine g_Mo_all g0 i_v0_1 qX11_7 dX11_drop_74 ?_
      refine r_bipush g0 dX11_drop_77 rfl ?_
      refine r_iload_n g0 dX11_drop_79 rfl ?_
      refine r_imul g0 dX11_drop_80 ?_
      refine r_iconst g0 dX11_drop_81 ?_
      refine r_iadd g0 dX11_drop_82 ?_
      refine r_iconst g0 dX11_drop_83 ?_
      refine r_iload g0 dX11_drop_84 rfl ?_
      refine r_imul g0 dX11_drop_86 ?_
      refine r_iadd g0 dX11_drop_87 ?_
      refine r_aload_n g0 dX11_drop_88 rfl ?_
      refine r_iload_n g0 dX11_drop_89 rfl ?_
      refine r_iload g0 dX11_drop_90 rfl ?_
      refine r_iconst g0 dX11_drop_92 ?_
      refine r_iadd g0 dX11_drop_93 ?_
      obtain ⟨r_5, s_8, hr_5, h⟩ := bd_some h
      refine r_cVI g0 (rest := [.int (J (wr ((wr ((wr (21 * v1_1)) + 1)) + (wr (2 * v4_1))))), .ref (E.1 (a_Mo_all v0_1))]) (c_X11_plain i_v0_1 i_v1_1 (InR_wr _) hr_5) ok_X11_plain mX11_76 (recv_Mo i_v0_1) dX11_drop_94 ⟨Nat.le_of_ble_eq_true rfl, Nat.le_of_ble_eq_true rfl⟩ ⟨Nat.zero_le _, Nat.zero_le _⟩ rfl (Nat.le_of_ble_eq_true rfl) rfl (fun i_r_5 => ?_)
      obtain ⟨hb, h⟩ := gd_some h
      refine r_iastore g0 (is_a_Mo_all i_v0_1) (n := 145) rfl (InR_wr _) hb dX11_drop_97 ?_
      refine r_aload_n g0 dX11_drop_98 rfl ?_
      refine g_Mo_all g0 i_v0_1 qX11_7 dX11_drop_99 ?_
      refine r_bipush g0 dX11_drop_102 rfl ?_
      refine r_iload_n g0 dX11_drop_104 rfl ?_
      refine r_imul g0 dX11_drop_105 ?_
      refine r_iconst g0 dX11_drop_106 ?_
      refine r_iadd g0 dX11_drop_107 ?_
      refine r_iconst g0 dX11_drop_108 ?_
      refine r_iload g0 dX11_drop_109 rfl ?_
      refine r_imul g0 dX11_drop_111 ?_
      refine r_iadd g0 dX11_drop_112 ?_
      refine r_aload_n g0 dX11_drop_113 rfl ?_
      refine r_iload_n g0 dX11_drop_114 rfl ?_
      refine r_iload g0 dX11_drop_115 rfl ?_
      refine r_iconst g0 dX11_drop_117 ?_
      refine r_iadd g0 dX11_drop_118 ?_
      obtain ⟨r_6, s_9, hr_6, h⟩ := bd_some h
      refine r_cVI g0 (rest := [.int (J (wr ((wr ((wr (21 * v1_1)) + 2)) + (wr (2 * v4_1))))), .ref (E.1 (a_Mo_all v0_1))]) (c_X11_ticks i_v0_1 i_v1_1 (InR_wr _) hr_6) ok_X11_ticks mX11_69 (recv_Mo i_v0_1) dX11_drop_119 ⟨Nat.le_of_ble_eq_true rfl, Nat.le_of_ble_eq_true rfl⟩ ⟨Nat.zero_le _, Nat.zero_le _⟩ rfl (Nat.le_of_ble_eq_true rfl) rfl (fun i_r_6 => ?_)
      obtain ⟨hb, h⟩ := gd_some h
      refine r_iastore g0 (is_a_Mo_all i_v0_1) (n := 145) rfl (InR_wr _) hb dX11_drop_122 ?_
      refine r_iinc g0 (a := v4_1) (lv' := [some (.ref (E.1 v0_1)), some (.int (J v1_1)), none, none, some (.int (J (wr (v4_1 + 1))))]) dX11_drop_123 (by decide) rfl rfl rfl ?_
      refine r_goto g0 61 dX11_drop_126 (by decide) ?_
      exact ih (wr (v4_1 + 1)) (wt s_9 (a_Mo_all v0_1) (wr ((wr ((wr (21 * v1_1)) + 2)) + (wr (2 * v4_1)))) r_6) (InR_wr _) h
set_option maxHeartbeats 4000000 in
set_option maxRecDepth 100000 in
theorem c_X11_drop {E : u_E} {l : Launch} {o : u_O} {p1 : Int} {p2 : Int} (ho : is_Mo o) (i_p1 : InR p1) (i_p2 : InR p2) {s s' : u_S} {r : Int} (h : f_X11_drop o p1 p2 s = some (r, s')) : Con l (XE E) yX11_drop cX11_drop 5 (some .int) 2 45 0 0 [.ref (E.1 o), .int (J p1), .int (J p2)] (Wd E s) (RI E r s') := by
  refine Con.of [some (.ref (E.1 o)), some (.int (J p1)), some (.int (J p2)), none, none] (by decide +kernel) rfl rfl (Nat.le_of_ble_eq_true rfl) (fun K g => ?_)
  have g0 := g.wk
  unfold f_X11_drop at h
  refine r_iload_n g0 dX11_drop_0 rfl ?_
  obtain ⟨r_1, s_1, hr_1, h⟩ := bd_some h
  refine r_cSZ g0 (rest := []) (c_X11_isLine i_p1 hr_1) ok_X11_isLine mX11_82 dX11_drop_1 ⟨Nat.le_of_ble_eq_true rfl, Nat.le_of_ble_eq_true rfl⟩ ⟨Nat.zero_le _, Nat.zero_le _⟩ rfl (Nat.le_of_ble_eq_true rfl) rfl (fun i_r_1 => ?_)
  obtain ⟨jp_1, hdjp_1, h⟩ := jn_some h
  have hjp_1 : ∀ (vt_1 : Int) (s_2 : u_S), InR vt_1 → jp_1 vt_1 s_2 = some (r, s') → K 0 0 43 [some (.ref (E.1 o)), some (.int (J p1)), some (.int (J p2)), none, none] [.int (J vt_1)] (Wd E s_2) := by
    intro vt_1 s_2 i_vt_1 h
    subst hdjp_1
    refine r_istore_n g0 (lv' := [some (.ref (E.1 o)), some (.int (J p1)), some (.int (J p2)), some (.int (J vt_1)), none]) dX11_drop_43 (by decide) rfl rfl ?_
    refine r_iload_n g0 dX11_drop_44 rfl ?_
    refine r_if_ge g0 54 dX11_drop_45 (by decide) i_vt_1 (fun hc => ?_) (fun hc => ?_)
    · replace h := if_f hc h
      refine r_aload_n g0 dX11_drop_54 rfl ?_
      obtain ⟨r_2, s_3, hr_2, h⟩ := bd_some h
      refine r_cVV g0 (rest := []) (c_X11_keep ho hr_2) ok_X11_keep mX11_100 (recv_Mo ho) dX11_drop_55 ⟨Nat.le_of_ble_eq_true rfl, Nat.le_of_ble_eq_true rfl⟩ ⟨Nat.zero_le _, Nat.zero_le _⟩ rfl (Nat.le_of_ble_eq_true rfl) rfl ?_
      refine r_iload_n g0 dX11_drop_58 rfl ?_
      refine r_istore g0 (lv' := [some (.ref (E.1 o)), some (.int (J p1)), some (.int (J p2)), some (.int (J vt_1)), some (.int (J p2))]) dX11_drop_59 (by decide) rfl rfl ?_
      refine r_mask g0 (lv' := [some (.ref (E.1 o)), some (.int (J p1)), none, none, some (.int (J p2))]) [true, true, false, false, true] rfl ?_
      refine t_X11_drop_L61 g ho i_p1 ?_ FU p2 s_3 i_p2 h
      · intro s_4 h
        refine r_aload_n g0 dX11_drop_129 rfl ?_
        refine g_Mo_all g0 ho qX11_7 dX11_drop_130 ?_
        refine r_bipush g0 dX11_drop_133 rfl ?_
        refine r_iload_n g0 dX11_drop_135 rfl ?_
        refine r_imul g0 dX11_drop_136 ?_
        refine r_dup2 g0 dX11_drop_137 rfl rfl ?_
        obtain ⟨hb, h⟩ := gd_some h
        refine r_iaload g0 (is_a_Mo_all ho) (n := 145) rfl (InR_wr _) hb dX11_drop_138 ?_
        refine r_iconst g0 dX11_drop_139 ?_
        refine r_isub g0 dX11_drop_140 ?_
        obtain ⟨hb, h⟩ := gd_some h
        refine r_iastore g0 (is_a_Mo_all ho) (n := 145) rfl (InR_wr _) hb dX11_drop_141 ?_
        refine r_aload_n g0 dX11_drop_142 rfl ?_
        refine r_iload_n g0 dX11_drop_143 rfl ?_
        obtain ⟨r_3, s_5, hr_3, h⟩ := bd_some h
        refine r_cVI g0 (rest := []) (c_X11_notes ho i_p1 hr_3) ok_X11_notes mX11_65 (recv_Mo ho) dX11_drop_144 ⟨Nat.le_of_ble_eq_true rfl, Nat.le_of_ble_eq_true rfl⟩ ⟨Nat.zero_le _, Nat.zero_le _⟩ rfl (Nat.le_of_ble_eq_true rfl) rfl (fun i_r_3 => ?_)
        exact z_I g dX11_drop_147 i_r_3 h
    · replace h := if_t hc h
      refine r_aload_n g0 dX11_drop_48 rfl ?_
      refine r_iload_n g0 dX11_drop_49 rfl ?_
      obtain ⟨r_7, s_11, hr_7, h⟩ := bd_some h
      refine r_cVI g0 (rest := []) (c_X11_refuses ho i_vt_1 hr_7) ok_X11_refuses mX11_97 (recv_Mo ho) dX11_drop_50 ⟨Nat.le_of_ble_eq_true rfl, Nat.le_of_ble_eq_true rfl⟩ ⟨Nat.zero_le _, Nat.zero_le _⟩ rfl (Nat.le_of_ble_eq_true rfl) rfl (fun i_r_7 => ?_)
      exact z_I g dX11_drop_53 i_r_7 h
  clear hdjp_1
  obtain ⟨jp_2, hdjp_2, h⟩ := jn_some h
  have hjp_2 : ∀  (s_12 : u_S), jp_2 s_12 = some (r, s') → K 0 0 24 [some (.ref (E.1 o)), some (.int (J p1)), some (.int (J p2)), none, none] [] (Wd E s_12) := by
    intro s_12 h
    subst hdjp_2
    refine r_bipush g0 dX11_drop_24 rfl ?_
    refine r_goto g0 43 dX11_drop_26 (by decide) ?_
    exact hjp_1 (-2) s_12 (InR_lit rfl) h
  clear hdjp_2
  refine r_if_eq g0 24 dX11_drop_4 (by decide) (B01.inR i_r_1) (fun hc => ?_) (fun hc => ?_)
  · replace h := if_t hc h
    exact hjp_2 s_1 h
  · replace h := if_f hc h
    refine r_iload_n g0 dX11_drop_7 rfl ?_
    refine r_i2l g0 dX11_drop_8 i_p2 ?_
    refine r_lconst g0 (v := 0) dX11_drop_9 rfl ?_
    refine r_aload_n g0 dX11_drop_10 rfl ?_
    refine r_iload_n g0 dX11_drop_11 rfl ?_
    obtain ⟨r_8, s_13, hr_8, h⟩ := bd_some h
    refine r_cVI g0 (rest := [.long (JL 0), .long (JL p2)]) (c_X11_notes ho i_p1 hr_8) ok_X11_notes mX11_65 (recv_Mo ho) dX11_drop_12 ⟨Nat.le_of_ble_eq_true rfl, Nat.le_of_ble_eq_true rfl⟩ ⟨Nat.zero_le _, Nat.zero_le _⟩ rfl (Nat.le_of_ble_eq_true rfl) rfl (fun i_r_8 => ?_)
    refine r_iconst g0 dX11_drop_15 ?_
    refine r_isub g0 dX11_drop_16 ?_
    refine r_i2l g0 dX11_drop_17 (InR_wr _) ?_
    obtain ⟨r_9, s_14, hr_9, h⟩ := bd_some h
    refine r_cSZ g0 (rest := []) (c_X11_in (InL_i i_p2) (InL_lit rfl) (InL_i (InR_wr _)) hr_9) ok_X11_in mX11_61 dX11_drop_18 ⟨Nat.le_of_ble_eq_true rfl, Nat.le_of_ble_eq_true rfl⟩ ⟨Nat.zero_le _, Nat.zero_le _⟩ rfl (Nat.le_of_ble_eq_true rfl) rfl (fun i_r_9 => ?_)
    refine r_if_ne g0 29 dX11_drop_21 (by decide) (B01.inR i_r_9) (fun hc => ?_) (fun hc => ?_)
    · replace h := if_f hc h
      refine r_aload_n g0 dX11_drop_29 rfl ?_
      refine r_iload_n g0 dX11_drop_30 rfl ?_
      obtain ⟨r_10, s_15, hr_10, h⟩ := bd_some h
      refine r_cVI g0 (rest := []) (c_X11_entered ho i_p1 hr_10) ok_X11_entered mX11_90 (recv_Mo ho) dX11_drop_31 ⟨Nat.le_of_ble_eq_true rfl, Nat.le_of_ble_eq_true rfl⟩ ⟨Nat.zero_le _, Nat.zero_le _⟩ rfl (Nat.le_of_ble_eq_true rfl) rfl (fun i_r_10 => ?_)
      refine r_if_le g0 42 dX11_drop_34 (by decide) i_r_10 (fun hc => ?_) (fun hc => ?_)
      · replace h := if_t hc h
        refine r_iconst g0 dX11_drop_42 ?_
        exact hjp_1 0 s_15 (B01.inR B01_0) h
      · replace h := if_f hc h
        refine r_bipush g0 dX11_drop_37 rfl ?_
        refine r_goto g0 43 dX11_drop_39 (by decide) ?_
        exact hjp_1 (-3) s_15 (InR_lit rfl) h
    · replace h := if_t hc h
      exact hjp_2 s_14 h
theorem dX11_canEmpty_0 : decode cX11_canEmpty 0 = .ok (.iload_n 1, 1) := by decide +kernel
theorem dX11_canEmpty_1 : decode cX11_canEmpty 1 = .ok (.invokestatic 82, 3) := by decide +kernel
theorem dX11_canEmpty_4 : decode cX11_canEmpty 4 = .ok (.ifCond .ne 8, 3) := by decide +kernel
theorem dX11_canEmpty_7 : decode cX11_canEmpty 7 = .ok (.bipush (-2), 2) := by decide +kernel
theorem dX11_canEmpty_9 : decode cX11_canEmpty 9 = .ok (.goto 17, 3) := by decide +kernel
theorem dX11_canEmpty_12 : decode cX11_canEmpty 12 = .ok (.aload_n 0, 1) := by decide +kernel
theorem dX11_canEmpty_13 : decode cX11_canEmpty 13 = .ok (.iload_n 1, 1) := by decide +kernel
theorem dX11_canEmpty_14 : decode cX11_canEmpty 14 = .ok (.invokevirtual 90, 3) := by decide +kernel
theorem dX11_canEmpty_17 : decode cX11_canEmpty 17 = .ok (.ifCond .le 8, 3) := by decide +kernel
theorem dX11_canEmpty_20 : decode cX11_canEmpty 20 = .ok (.bipush (-3), 2) := by decide +kernel
theorem dX11_canEmpty_22 : decode cX11_canEmpty 22 = .ok (.goto 4, 3) := by decide +kernel
theorem dX11_canEmpty_25 : decode cX11_canEmpty 25 = .ok (.iconst 0, 1) := by decide +kernel
theorem dX11_canEmpty_26 : decode cX11_canEmpty 26 = .ok (.ireturn, 1) := by decide +kernel
set_option maxHeartbeats 4000000 in
set_option maxRecDepth 100000 in
theorem c_X11_canEmpty {E : u_E} {l : Launch} {o : u_O} {p1 : Int} (ho : is_Mo o) (i_p1 : InR p1) {s s' : u_S} {r : Int} (h : f_X11_canEmpty o p1 s = some (r, s')) : Con l (XE E) yX11_canEmpty cX11_canEmpty 2 (some .int) 2 45 0 0 [.ref (E.1 o), .int (J p1)] (Wd E s) (RI E r s') := by
  refine Con.of [some (.ref (E.1 o)), some (.int (J p1))] (by decide +kernel) rfl rfl (Nat.le_of_ble_eq_true rfl) (fun K g => ?_)
  have g0 := g.wk
  unfold f_X11_canEmpty at h
  refine r_iload_n g0 dX11_canEmpty_0 rfl ?_
  obtain ⟨r_1, s_1, hr_1, h⟩ := bd_some h
  refine r_cSZ g0 (rest := []) (c_X11_isLine i_p1 hr_1) ok_X11_isLine mX11_82 dX11_canEmpty_1 ⟨Nat.le_of_ble_eq_true rfl, Nat.le_of_ble_eq_true rfl⟩ ⟨Nat.zero_le _, Nat.zero_le _⟩ rfl (Nat.le_of_ble_eq_true rfl) rfl (fun i_r_1 => ?_)
  refine r_if_ne g0 12 dX11_canEmpty_4 (by decide) (B01.inR i_r_1) (fun hc => ?_) (fun hc => ?_)
  · replace h := if_f hc h
    refine r_aload_n g0 dX11_canEmpty_12 rfl ?_
    refine r_iload_n g0 dX11_canEmpty_13 rfl ?_
    obtain ⟨r_2, s_2, hr_2, h⟩ := bd_some h
    refine r_cVI g0 (rest := []) (c_X11_entered ho i_p1 hr_2) ok_X11_entered mX11_90 (recv_Mo ho) dX11_canEmpty_14 ⟨Nat.le_of_ble_eq_true rfl, Nat.le_of_ble_eq_true rfl⟩ ⟨Nat.zero_le _, Nat.zero_le _⟩ rfl (Nat.le_of_ble_eq_true rfl) rfl (fun i_r_2 => ?_)
    refine r_if_le g0 25 dX11_canEmpty_17 (by decide) i_r_2 (fun hc => ?_) (fun hc => ?_)
    · replace h := if_t hc h
      refine r_iconst g0 dX11_canEmpty_25 ?_
      exact z_I g dX11_canEmpty_26 (B01.inR B01_0) h
    · replace h := if_f hc h
      refine r_bipush g0 dX11_canEmpty_20 rfl ?_
      refine r_goto g0 26 dX11_canEmpty_22 (by decide) ?_
      exact z_I g dX11_canEmpty_26 (InR_lit rfl) h
  · replace h := if_t hc h
    refine r_bipush g0 dX11_canEmpty_7 rfl ?_
    refine r_goto g0 26 dX11_canEmpty_9 (by decide) ?_
    exact z_I g dX11_canEmpty_26 (InR_lit rfl) h
