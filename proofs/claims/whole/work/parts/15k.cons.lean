/-! THE CONTRACTS: the bytecode does what the functions say (by program, wip/whole/gen) -/
theorem dX11_emptyNow_0 : decode cX11_emptyNow 0 = .ok (.aload_n 0, 1) := by decide +kernel
theorem dX11_emptyNow_1 : decode cX11_emptyNow 1 = .ok (.iload_n 1, 1) := by decide +kernel
theorem dX11_emptyNow_2 : decode cX11_emptyNow 2 = .ok (.invokevirtual 65, 3) := by decide +kernel
theorem dX11_emptyNow_5 : decode cX11_emptyNow 5 = .ok (.istore_n 2, 1) := by decide +kernel
theorem dX11_emptyNow_6 : decode cX11_emptyNow 6 = .ok (.aload_n 0, 1) := by decide +kernel
theorem dX11_emptyNow_7 : decode cX11_emptyNow 7 = .ok (.getfield 7, 3) := by decide +kernel
theorem dX11_emptyNow_10 : decode cX11_emptyNow 10 = .ok (.bipush 21, 2) := by decide +kernel
theorem dX11_emptyNow_12 : decode cX11_emptyNow 12 = .ok (.iload_n 1, 1) := by decide +kernel
theorem dX11_emptyNow_13 : decode cX11_emptyNow 13 = .ok (.imul, 1) := by decide +kernel
theorem dX11_emptyNow_14 : decode cX11_emptyNow 14 = .ok (.iconst 0, 1) := by decide +kernel
theorem dX11_emptyNow_15 : decode cX11_emptyNow 15 = .ok (.iastore, 1) := by decide +kernel
theorem dX11_emptyNow_16 : decode cX11_emptyNow 16 = .ok (.iload_n 2, 1) := by decide +kernel
theorem dX11_emptyNow_17 : decode cX11_emptyNow 17 = .ok (.ireturn, 1) := by decide +kernel
set_option maxHeartbeats 4000000 in
set_option maxRecDepth 100000 in
theorem c_X11_emptyNow {E : u_E} {l : Launch} {o : u_O} {p1 : Int} (ho : is_Mo o) (i_p1 : InR p1) {s s' : u_S} {r : Int} (h : f_X11_emptyNow o p1 s = some (r, s')) : Con l (XE E) yX11_emptyNow cX11_emptyNow 3 (some .int) 1 21 0 0 [.ref (E.1 o), .int (J p1)] (Wd E s) (RI E r s') := by
  refine Con.of [some (.ref (E.1 o)), some (.int (J p1)), none] (by decide +kernel) rfl rfl (Nat.le_of_ble_eq_true rfl) (fun K g => ?_)
  have g0 := g.wk
  unfold f_X11_emptyNow at h
  refine r_aload_n g0 dX11_emptyNow_0 rfl ?_
  refine r_iload_n g0 dX11_emptyNow_1 rfl ?_
  obtain ⟨r_1, s_1, hr_1, h⟩ := bd_some h
  refine r_cVI g0 (rest := []) (c_X11_notes ho i_p1 hr_1) ok_X11_notes mX11_65 (recv_Mo ho) dX11_emptyNow_2 ⟨Nat.le_of_ble_eq_true rfl, Nat.le_of_ble_eq_true rfl⟩ ⟨Nat.zero_le _, Nat.zero_le _⟩ rfl (Nat.le_of_ble_eq_true rfl) rfl (fun i_r_1 => ?_)
  refine r_istore_n g0 (lv' := [some (.ref (E.1 o)), some (.int (J p1)), some (.int (J r_1))]) dX11_emptyNow_5 (by decide) rfl rfl ?_
  refine r_aload_n g0 dX11_emptyNow_6 rfl ?_
  refine g_Mo_all g0 ho qX11_7 dX11_emptyNow_7 ?_
  refine r_bipush g0 dX11_emptyNow_10 rfl ?_
  refine r_iload_n g0 dX11_emptyNow_12 rfl ?_
  refine r_imul g0 dX11_emptyNow_13 ?_
  refine r_iconst g0 dX11_emptyNow_14 ?_
  obtain ⟨hb, h⟩ := gd_some h
  refine r_iastore g0 (is_a_Mo_all ho) (n := 145) rfl (InR_wr _) hb dX11_emptyNow_15 ?_
  refine r_iload_n g0 dX11_emptyNow_16 rfl ?_
  exact z_I g dX11_emptyNow_17 i_r_1 h
theorem dX11_empties_0 : decode cX11_empties 0 = .ok (.aload_n 0, 1) := by decide +kernel
theorem dX11_empties_1 : decode cX11_empties 1 = .ok (.iload_n 1, 1) := by decide +kernel
theorem dX11_empties_2 : decode cX11_empties 2 = .ok (.invokevirtual 106, 3) := by decide +kernel
theorem dX11_empties_5 : decode cX11_empties 5 = .ok (.istore_n 2, 1) := by decide +kernel
theorem dX11_empties_6 : decode cX11_empties 6 = .ok (.iload_n 2, 1) := by decide +kernel
theorem dX11_empties_7 : decode cX11_empties 7 = .ok (.ifCond .ge 9, 3) := by decide +kernel
theorem dX11_empties_10 : decode cX11_empties 10 = .ok (.aload_n 0, 1) := by decide +kernel
theorem dX11_empties_11 : decode cX11_empties 11 = .ok (.iload_n 2, 1) := by decide +kernel
theorem dX11_empties_12 : decode cX11_empties 12 = .ok (.invokevirtual 97, 3) := by decide +kernel
theorem dX11_empties_15 : decode cX11_empties 15 = .ok (.ireturn, 1) := by decide +kernel
theorem dX11_empties_16 : decode cX11_empties 16 = .ok (.aload_n 0, 1) := by decide +kernel
theorem dX11_empties_17 : decode cX11_empties 17 = .ok (.invokevirtual 100, 3) := by decide +kernel
theorem dX11_empties_20 : decode cX11_empties 20 = .ok (.aload_n 0, 1) := by decide +kernel
theorem dX11_empties_21 : decode cX11_empties 21 = .ok (.iload_n 1, 1) := by decide +kernel
theorem dX11_empties_22 : decode cX11_empties 22 = .ok (.invokevirtual 109, 3) := by decide +kernel
theorem dX11_empties_25 : decode cX11_empties 25 = .ok (.ireturn, 1) := by decide +kernel
set_option maxHeartbeats 4000000 in
set_option maxRecDepth 100000 in
theorem c_X11_empties {E : u_E} {l : Launch} {o : u_O} {p1 : Int} (ho : is_Mo o) (i_p1 : InR p1) {s s' : u_S} {r : Int} (h : f_X11_empties o p1 s = some (r, s')) : Con l (XE E) yX11_empties cX11_empties 3 (some .int) 3 66 0 0 [.ref (E.1 o), .int (J p1)] (Wd E s) (RI E r s') := by
  refine Con.of [some (.ref (E.1 o)), some (.int (J p1)), none] (by decide +kernel) rfl rfl (Nat.le_of_ble_eq_true rfl) (fun K g => ?_)
  have g0 := g.wk
  unfold f_X11_empties at h
  refine r_aload_n g0 dX11_empties_0 rfl ?_
  refine r_iload_n g0 dX11_empties_1 rfl ?_
  obtain ⟨r_1, s_1, hr_1, h⟩ := bd_some h
  refine r_cVI g0 (rest := []) (c_X11_canEmpty ho i_p1 hr_1) ok_X11_canEmpty mX11_106 (recv_Mo ho) dX11_empties_2 ⟨Nat.le_of_ble_eq_true rfl, Nat.le_of_ble_eq_true rfl⟩ ⟨Nat.zero_le _, Nat.zero_le _⟩ rfl (Nat.le_of_ble_eq_true rfl) rfl (fun i_r_1 => ?_)
  refine r_istore_n g0 (lv' := [some (.ref (E.1 o)), some (.int (J p1)), some (.int (J r_1))]) dX11_empties_5 (by decide) rfl rfl ?_
  refine r_iload_n g0 dX11_empties_6 rfl ?_
  refine r_if_ge g0 16 dX11_empties_7 (by decide) i_r_1 (fun hc => ?_) (fun hc => ?_)
  · replace h := if_f hc h
    refine r_aload_n g0 dX11_empties_16 rfl ?_
    obtain ⟨r_2, s_2, hr_2, h⟩ := bd_some h
    refine r_cVV g0 (rest := []) (c_X11_keep ho hr_2) ok_X11_keep mX11_100 (recv_Mo ho) dX11_empties_17 ⟨Nat.le_of_ble_eq_true rfl, Nat.le_of_ble_eq_true rfl⟩ ⟨Nat.zero_le _, Nat.zero_le _⟩ rfl (Nat.le_of_ble_eq_true rfl) rfl ?_
    refine r_aload_n g0 dX11_empties_20 rfl ?_
    refine r_iload_n g0 dX11_empties_21 rfl ?_
    obtain ⟨r_3, s_3, hr_3, h⟩ := bd_some h
    refine r_cVI g0 (rest := []) (c_X11_emptyNow ho i_p1 hr_3) ok_X11_emptyNow mX11_109 (recv_Mo ho) dX11_empties_22 ⟨Nat.le_of_ble_eq_true rfl, Nat.le_of_ble_eq_true rfl⟩ ⟨Nat.zero_le _, Nat.zero_le _⟩ rfl (Nat.le_of_ble_eq_true rfl) rfl (fun i_r_3 => ?_)
    exact z_I g dX11_empties_25 i_r_3 h
  · replace h := if_t hc h
    refine r_aload_n g0 dX11_empties_10 rfl ?_
    refine r_iload_n g0 dX11_empties_11 rfl ?_
    obtain ⟨r_4, s_4, hr_4, h⟩ := bd_some h
    refine r_cVI g0 (rest := []) (c_X11_refuses ho i_r_1 hr_4) ok_X11_refuses mX11_97 (recv_Mo ho) dX11_empties_12 ⟨Nat.le_of_ble_eq_true rfl, Nat.le_of_ble_eq_true rfl⟩ ⟨Nat.zero_le _, Nat.zero_le _⟩ rfl (Nat.le_of_ble_eq_true rfl) rfl (fun i_r_4 => ?_)
    exact z_I g dX11_empties_15 i_r_4 h
theorem dX11_draw_0 : decode cX11_draw 0 = .ok (.iload_n 1, 1) := by decide +kernel
theorem dX11_draw_1 : decode cX11_draw 1 = .ok (.invokestatic 82, 3) := by decide +kernel
theorem dX11_draw_4 : decode cX11_draw 4 = .ok (.ifCond .eq 27, 3) := by decide +kernel
theorem dX11_draw_7 : decode cX11_draw 7 = .ok (.iload_n 2, 1) := by decide +kernel
theorem dX11_draw_8 : decode cX11_draw 8 = .ok (.i2l, 1) := by decide +kernel
theorem dX11_draw_9 : decode cX11_draw 9 = .ok (.lconst 0, 1) := by decide +kernel
theorem dX11_draw_10 : decode cX11_draw 10 = .ok (.ldc2_w 112, 3) := by decide +kernel
theorem dX11_draw_13 : decode cX11_draw 13 = .ok (.invokestatic 61, 3) := by decide +kernel
theorem dX11_draw_16 : decode cX11_draw 16 = .ok (.ifCond .eq 15, 3) := by decide +kernel
theorem dX11_draw_19 : decode cX11_draw 19 = .ok (.iload_n 3, 1) := by decide +kernel
theorem dX11_draw_20 : decode cX11_draw 20 = .ok (.i2l, 1) := by decide +kernel
theorem dX11_draw_21 : decode cX11_draw 21 = .ok (.lconst 1, 1) := by decide +kernel
theorem dX11_draw_22 : decode cX11_draw 22 = .ok (.ldc2_w 114, 3) := by decide +kernel
theorem dX11_draw_25 : decode cX11_draw 25 = .ok (.invokestatic 61, 3) := by decide +kernel
theorem dX11_draw_28 : decode cX11_draw 28 = .ok (.ifCond .ne 8, 3) := by decide +kernel
theorem dX11_draw_31 : decode cX11_draw 31 = .ok (.bipush (-2), 2) := by decide +kernel
theorem dX11_draw_33 : decode cX11_draw 33 = .ok (.goto 8, 3) := by decide +kernel
theorem dX11_draw_36 : decode cX11_draw 36 = .ok (.aload_n 0, 1) := by decide +kernel
theorem dX11_draw_37 : decode cX11_draw 37 = .ok (.iload_n 1, 1) := by decide +kernel
theorem dX11_draw_38 : decode cX11_draw 38 = .ok (.invokevirtual 106, 3) := by decide +kernel
theorem dX11_draw_41 : decode cX11_draw 41 = .ok (.istore 4, 2) := by decide +kernel
theorem dX11_draw_43 : decode cX11_draw 43 = .ok (.iload 4, 2) := by decide +kernel
theorem dX11_draw_45 : decode cX11_draw 45 = .ok (.ifCond .ge 10, 3) := by decide +kernel
theorem dX11_draw_48 : decode cX11_draw 48 = .ok (.aload_n 0, 1) := by decide +kernel
theorem dX11_draw_49 : decode cX11_draw 49 = .ok (.iload 4, 2) := by decide +kernel
theorem dX11_draw_51 : decode cX11_draw 51 = .ok (.invokevirtual 97, 3) := by decide +kernel
theorem dX11_draw_54 : decode cX11_draw 54 = .ok (.ireturn, 1) := by decide +kernel
theorem dX11_draw_55 : decode cX11_draw 55 = .ok (.aload_n 0, 1) := by decide +kernel
theorem dX11_draw_56 : decode cX11_draw 56 = .ok (.invokevirtual 100, 3) := by decide +kernel
theorem dX11_draw_59 : decode cX11_draw 59 = .ok (.aload_n 0, 1) := by decide +kernel
theorem dX11_draw_60 : decode cX11_draw 60 = .ok (.iload_n 1, 1) := by decide +kernel
theorem dX11_draw_61 : decode cX11_draw 61 = .ok (.invokevirtual 109, 3) := by decide +kernel
theorem dX11_draw_64 : decode cX11_draw 64 = .ok (.istore 5, 2) := by decide +kernel
theorem dX11_draw_66 : decode cX11_draw 66 = .ok (.iload_n 2, 1) := by decide +kernel
theorem dX11_draw_67 : decode cX11_draw 67 = .ok (.i2l, 1) := by decide +kernel
theorem dX11_draw_68 : decode cX11_draw 68 = .ok (.lstore 6, 2) := by decide +kernel
theorem dX11_draw_70 : decode cX11_draw 70 = .ok (.bipush 14, 2) := by decide +kernel
theorem dX11_draw_72 : decode cX11_draw 72 = .ok (.istore 8, 2) := by decide +kernel
theorem dX11_draw_74 : decode cX11_draw 74 = .ok (.iconst 0, 1) := by decide +kernel
theorem dX11_draw_75 : decode cX11_draw 75 = .ok (.istore 9, 2) := by decide +kernel
theorem dX11_draw_77 : decode cX11_draw 77 = .ok (.iload 9, 2) := by decide +kernel
theorem dX11_draw_79 : decode cX11_draw 79 = .ok (.iload_n 3, 1) := by decide +kernel
theorem dX11_draw_80 : decode cX11_draw 80 = .ok (.if_icmp .ge 100, 3) := by decide +kernel
theorem dX11_draw_83 : decode cX11_draw 83 = .ok (.lload 6, 2) := by decide +kernel
theorem dX11_draw_85 : decode cX11_draw 85 = .ok (.ldc2_w 116, 3) := by decide +kernel
theorem dX11_draw_88 : decode cX11_draw 88 = .ok (.lmul, 1) := by decide +kernel
theorem dX11_draw_89 : decode cX11_draw 89 = .ok (.ldc2_w 118, 3) := by decide +kernel
theorem dX11_draw_92 : decode cX11_draw 92 = .ok (.ladd, 1) := by decide +kernel
theorem dX11_draw_93 : decode cX11_draw 93 = .ok (.ldc2_w 120, 3) := by decide +kernel
theorem dX11_draw_96 : decode cX11_draw 96 = .ok (.lrem, 1) := by decide +kernel
theorem dX11_draw_97 : decode cX11_draw 97 = .ok (.lstore 6, 2) := by decide +kernel
theorem dX11_draw_99 : decode cX11_draw 99 = .ok (.iload 9, 2) := by decide +kernel
theorem dX11_draw_101 : decode cX11_draw 101 = .ok (.ifCond .ne 8, 3) := by decide +kernel
theorem dX11_draw_104 : decode cX11_draw 104 = .ok (.bipush 14, 2) := by decide +kernel
theorem dX11_draw_106 : decode cX11_draw 106 = .ok (.goto 19, 3) := by decide +kernel
theorem dX11_draw_109 : decode cX11_draw 109 = .ok (.iload 8, 2) := by decide +kernel
theorem dX11_draw_111 : decode cX11_draw 111 = .ok (.lload 6, 2) := by decide +kernel
theorem dX11_draw_113 : decode cX11_draw 113 = .ok (.ldc2_w 122, 3) := by decide +kernel
theorem dX11_draw_116 : decode cX11_draw 116 = .ok (.ldiv, 1) := by decide +kernel
theorem dX11_draw_117 : decode cX11_draw 117 = .ok (.ldc2_w 124, 3) := by decide +kernel
theorem dX11_draw_120 : decode cX11_draw 120 = .ok (.lrem, 1) := by decide +kernel
theorem dX11_draw_121 : decode cX11_draw 121 = .ok (.l2i, 1) := by decide +kernel
theorem dX11_draw_122 : decode cX11_draw 122 = .ok (.iadd, 1) := by decide +kernel
theorem dX11_draw_123 : decode cX11_draw 123 = .ok (.iconst 3, 1) := by decide +kernel
theorem dX11_draw_124 : decode cX11_draw 124 = .ok (.isub, 1) := by decide +kernel
theorem dX11_draw_125 : decode cX11_draw 125 = .ok (.istore 8, 2) := by decide +kernel
theorem dX11_draw_127 : decode cX11_draw 127 = .ok (.iload 8, 2) := by decide +kernel
theorem dX11_draw_129 : decode cX11_draw 129 = .ok (.ifCond .ge 7, 3) := by decide +kernel
theorem dX11_draw_132 : decode cX11_draw 132 = .ok (.iconst 0, 1) := by decide +kernel
theorem dX11_draw_133 : decode cX11_draw 133 = .ok (.goto 17, 3) := by decide +kernel
theorem dX11_draw_136 : decode cX11_draw 136 = .ok (.iload 8, 2) := by decide +kernel
theorem dX11_draw_138 : decode cX11_draw 138 = .ok (.bipush 27, 2) := by decide +kernel
theorem dX11_draw_140 : decode cX11_draw 140 = .ok (.if_icmp .le 8, 3) := by decide +kernel
theorem dX11_draw_143 : decode cX11_draw 143 = .ok (.bipush 27, 2) := by decide +kernel
theorem dX11_draw_145 : decode cX11_draw 145 = .ok (.goto 5, 3) := by decide +kernel
theorem dX11_draw_148 : decode cX11_draw 148 = .ok (.iload 8, 2) := by decide +kernel
theorem dX11_draw_150 : decode cX11_draw 150 = .ok (.istore 8, 2) := by decide +kernel
theorem dX11_draw_152 : decode cX11_draw 152 = .ok (.aload_n 0, 1) := by decide +kernel
theorem dX11_draw_153 : decode cX11_draw 153 = .ok (.iload_n 1, 1) := by decide +kernel
theorem dX11_draw_154 : decode cX11_draw 154 = .ok (.iload 8, 2) := by decide +kernel
theorem dX11_draw_156 : decode cX11_draw 156 = .ok (.iconst 1, 1) := by decide +kernel
theorem dX11_draw_157 : decode cX11_draw 157 = .ok (.lload 6, 2) := by decide +kernel
theorem dX11_draw_159 : decode cX11_draw 159 = .ok (.ldc2_w 126, 3) := by decide +kernel
theorem dX11_draw_162 : decode cX11_draw 162 = .ok (.ldiv, 1) := by decide +kernel
theorem dX11_draw_163 : decode cX11_draw 163 = .ok (.ldc2_w 88, 3) := by decide +kernel
theorem dX11_draw_166 : decode cX11_draw 166 = .ok (.lrem, 1) := by decide +kernel
theorem dX11_draw_167 : decode cX11_draw 167 = .ok (.l2i, 1) := by decide +kernel
theorem dX11_draw_168 : decode cX11_draw 168 = .ok (.iadd, 1) := by decide +kernel
theorem dX11_draw_169 : decode cX11_draw 169 = .ok (.invokevirtual 103, 3) := by decide +kernel
theorem dX11_draw_172 : decode cX11_draw 172 = .ok (.istore 10, 2) := by decide +kernel
theorem dX11_draw_174 : decode cX11_draw 174 = .ok (.iinc 9 1, 3) := by decide +kernel
theorem dX11_draw_177 : decode cX11_draw 177 = .ok (.goto (-100), 3) := by decide +kernel
theorem dX11_draw_180 : decode cX11_draw 180 = .ok (.aload_n 0, 1) := by decide +kernel
theorem dX11_draw_181 : decode cX11_draw 181 = .ok (.iload_n 1, 1) := by decide +kernel
theorem dX11_draw_182 : decode cX11_draw 182 = .ok (.invokevirtual 128, 3) := by decide +kernel
theorem dX11_draw_185 : decode cX11_draw 185 = .ok (.ireturn, 1) := by decide +kernel
set_option maxHeartbeats 4000000 in
set_option maxRecDepth 100000 in
theorem t_X11_draw_L77 {l : Launch} {E : u_E} {K : u_K} {r : Int} {s' : u_S} (g : Wk l (XE E) { frames := 3, cells := 0, slots := 0, locals := 66 } cX11_draw 11 yX11_draw.cls yX11_draw.name (some .int) (RI E r s') K) {v0_1 : u_O} {v1_1 : Int} {v3_1 : Int} (i_v0_1 : is_Mo v0_1) (i_v1_1 : InR v1_1) (i_v3_1 : InR v3_1) {kx180 : u_S → Option (Int × u_S)} (hkx180 : ∀ (s_11 : u_S), kx180 s_11 = some (r, s') → K 0 0 180 [some (.ref (E.1 v0_1)), some (.int (J v1_1)), none, none, none, none, none, none, none, none, none] [] (Wd E s_11)) : ∀ (m : Nat) (v6_1 : Int) (v8_1 : Int) (v9_1 : Int) (s_7 : u_S), InL v6_1 → InR v8_1 → InR v9_1 → f_X11_draw_L77 m kx180 v0_1 v1_1 v3_1 v6_1 v8_1 v9_1 s_7 = some (r, s') → K 0 0 77 [some (.ref (E.1 v0_1)), some (.int (J v1_1)), none, some (.int (J v3_1)), none, none, some (.long (JL v6_1)), none, some (.int (J v8_1)), some (.int (J v9_1)), none] [] (Wd E s_7) := by
  have g0 := g.wk
  intro m
  induction m with
  | zero =>
    intro v6_1 v8_1 v9_1 s_7 i_v6_1 i_v8_1 i_v9_1 h
    exact absurd (show (none : Option (Int × u_S)) = some (r, s') from h) (by intro z; cases z)
  | succ m ih =>
    intro v6_1 v8_1 v9_1 s_7 i_v6_1 i_v8_1 i_v9_1 h
    rw [f_X11_draw_L77] at h
    refine r_iload g0 dX11_draw_77 rfl ?_
    refine r_iload_n g0 dX11_draw_79 rfl ?_
    refine r_icmp_ge g0 180 dX11_draw_80 (by decide) i_v9_1 i_v3_1 (fun hc => ?_) (fun hc => ?_)
    · replace h := if_f hc h
      refine r_mask g0 (lv' := [some (.ref (E.1 v0_1)), some (.int (J v1_1)), none, none, none, none, none, none, none, none, none]) [true, true, false, false, false, false, false, false, false, false, false] rfl ?_
      exact hkx180 s_7 h
    · replace h := if_t hc h
      refine r_lload g0 dX11_draw_83 rfl ?_
      refine r_ldc2 g0 (v := 1103515245) dX11_draw_85 kX11_116 ?_
      refine r_lmul g0 dX11_draw_88 ?_
      refine r_ldc2 g0 (v := 12345) dX11_draw_89 kX11_118 ?_
      refine r_ladd g0 dX11_draw_92 ?_
      refine r_ldc2 g0 (v := 2147483648) dX11_draw_93 kX11_120 ?_
      refine r_lrem g0 dX11_draw_96 (InL_wl _) (InL_lit rfl) (by decide) ?_
      refine r_lstore g0 (lv' := [some (.ref (E.1 v0_1)), some (.int (J v1_1)), none, some (.int (J v3_1)), none, none, some (.long (JL (Int.tmod (wl ((wl (v6_1 * 1103515245)) + 12345)) 2147483648))), none, some (.int (J v8_1)), some (.int (J v9_1)), none]) dX11_draw_97 (by decide) rfl rfl ?_
      refine r_iload g0 dX11_draw_99 rfl ?_
      obtain ⟨jp_2, hdjp_2, h⟩ := jn_some h
      have hjp_2 : ∀ (vt_2 : Int) (s_8 : u_S), InR vt_2 → jp_2 vt_2 s_8 = some (r, s') → K 0 0 125 [some (.ref (E.1 v0_1)), some (.int (J v1_1)), none, some (.int (J v3_1)), none, none, some (.long (JL (Int.tmod (wl ((wl (v6_1 * 1103515245)) + 12345)) 2147483648))), none, none, some (.int (J v9_1)), none] [.int (J vt_2)] (Wd E s_8) := by
        intro vt_2 s_8 i_vt_2 h
        subst hdjp_2
        refine r_istore g0 (lv' := [some (.ref (E.1 v0_1)), some (.int (J v1_1)), none, some (.int (J v3_1)), none, none, some (.long (JL (Int.tmod (wl ((wl (v6_1 * 1103515245)) + 12345)) 2147483648))), none, some (.int (J vt_2)), some (.int (J v9_1)), none]) dX11_draw_125 (by decide) rfl rfl ?_
        refine r_iload g0 dX11_draw_127 rfl ?_
        obtain ⟨jp_3, hdjp_3, h⟩ := jn_some h
        have hjp_3 : ∀ (vt_3 : Int) (s_9 : u_S), InR vt_3 → jp_3 vt_3 s_9 = some (r, s') → K 0 0 150 [some (.ref (E.1 v0_1)), some (.int (J v1_1)), none, some (.int (J v3_1)), none, none, some (.long (JL (Int.tmod (wl ((wl (v6_1 * 1103515245)) + 12345)) 2147483648))), none, none, some (.int (J v9_1)), none] [.int (J vt_3)] (Wd E s_9) := by
          intro vt_3 s_9 i_vt_3 h
          subst hdjp_3
          refine r_istore g0 (lv' := [some (.ref (E.1 v0_1)), some (.int (J v1_1)), none, some (.int (J v3_1)), none, none, some (.long (JL (Int.tmod (wl ((wl (v6_1 * 1103515245)) + 12345)) 2147483648))), none, some (.int (J vt_3)), some (.int (J v9_1)), none]) dX11_draw_150 (by decide) rfl rfl ?_
          refine r_aload_n g0 dX11_draw_152 rfl ?_
          refine r_iload_n g0 dX11_draw_153 rfl ?_
          refine r_iload g0 dX11_draw_154 rfl ?_
          refine r_iconst g0 dX11_draw_156 ?_
          refine r_lload g0 dX11_draw_157 rfl ?_
          refine r_ldc2 g0 (v := 1024) dX11_draw_159 kX11_126 ?_
          refine r_ldiv g0 dX11_draw_162 (InL_rem _ (InL_wl _)) (InL_lit rfl) (by decide) ?_
          refine r_ldc2 g0 (v := 4) dX11_draw_163 kX11_88 ?_
          refine r_lrem g0 dX11_draw_166 (InL_wl _) (InL_lit rfl) (by decide) ?_
          refine r_l2i g0 dX11_draw_167 ?_
          refine r_iadd g0 dX11_draw_168 ?_
          obtain ⟨r_5, s_10, hr_5, h⟩ := bd_some h
          refine r_cVI g0 (rest := []) (c_X11_noteNow i_v0_1 i_v1_1 i_vt_3 (InR_wr _) hr_5) ok_X11_noteNow mX11_103 (recv_Mo i_v0_1) dX11_draw_169 ⟨Nat.le_of_ble_eq_true rfl, Nat.le_of_ble_eq_true rfl⟩ ⟨Nat.zero_le _, Nat.zero_le _⟩ rfl (Nat.le_of_ble_eq_true rfl) rfl (fun i_r_5 => ?_)
          refine r_istore g0 (lv' := [some (.ref (E.1 v0_1)), some (.int (J v1_1)), none, some (.int (J v3_1)), none, none, some (.long (JL (Int.tmod (wl ((wl (v6_1 * 1103515245)) + 12345)) 2147483648))), none, some (.int (J vt_3)), some (.int (J v9_1)), some (.int (J r_5))]) dX11_draw_172 (by decide) rfl rfl ?_
          refine r_iinc g0 (a := v9_1) (lv' := [some (.ref (E.1 v0_1)), some (.int (J v1_1)), none, some (.int (J v3_1)), none, none, some (.long (JL (Int.tmod (wl ((wl (v6_1 * 1103515245)) + 12345)) 2147483648))), none, some (.int (J vt_3)), some (.int (J (wr (v9_1 + 1)))), some (.int (J r_5))]) dX11_draw_174 (by decide) rfl rfl rfl ?_
          refine r_goto g0 77 dX11_draw_177 (by decide) ?_
          refine r_mask g0 (lv' := [some (.ref (E.1 v0_1)), some (.int (J v1_1)), none, some (.int (J v3_1)), none, none, some (.long (JL (Int.tmod (wl ((wl (v6_1 * 1103515245)) + 12345)) 2147483648))), none, some (.int (J vt_3)), some (.int (J (wr (v9_1 + 1)))), none]) [true, true, false, true, false, false, true, false, true, true, false] rfl ?_
          exact ih (Int.tmod (wl ((wl (v6_1 * 1103515245)) + 12345)) 2147483648) vt_3 (wr (v9_1 + 1)) s_10 (InL_rem _ (InL_wl _)) i_vt_3 (InR_wr _) h
        clear hdjp_3
        refine r_if_ge g0 136 dX11_draw_129 (by decide) i_vt_2 (fun hc => ?_) (fun hc => ?_)
        · replace h := if_f hc h
          refine r_iload g0 dX11_draw_136 rfl ?_
          refine r_bipush g0 dX11_draw_138 rfl ?_
          refine r_icmp_le g0 148 dX11_draw_140 (by decide) i_vt_2 (InR_lit rfl) (fun hc => ?_) (fun hc => ?_)
          · replace h := if_t hc h
            refine r_iload g0 dX11_draw_148 rfl ?_
            refine r_mask g0 (lv' := [some (.ref (E.1 v0_1)), some (.int (J v1_1)), none, some (.int (J v3_1)), none, none, some (.long (JL (Int.tmod (wl ((wl (v6_1 * 1103515245)) + 12345)) 2147483648))), none, none, some (.int (J v9_1)), none]) [true, true, false, true, false, false, true, false, false, true, false] rfl ?_
            exact hjp_3 vt_2 s_8 i_vt_2 h
          · replace h := if_f hc h
            refine r_bipush g0 dX11_draw_143 rfl ?_
            refine r_goto g0 150 dX11_draw_145 (by decide) ?_
            refine r_mask g0 (lv' := [some (.ref (E.1 v0_1)), some (.int (J v1_1)), none, some (.int (J v3_1)), none, none, some (.long (JL (Int.tmod (wl ((wl (v6_1 * 1103515245)) + 12345)) 2147483648))), none, none, some (.int (J v9_1)), none]) [true, true, false, true, false, false, true, false, false, true, false] rfl ?_
            exact hjp_3 27 s_8 (InR_lit rfl) h
        · replace h := if_t hc h
          refine r_iconst g0 dX11_draw_132 ?_
          refine r_goto g0 150 dX11_draw_133 (by decide) ?_
          refine r_mask g0 (lv' := [some (.ref (E.1 v0_1)), some (.int (J v1_1)), none, some (.int (J v3_1)), none, none, some (.long (JL (Int.tmod (wl ((wl (v6_1 * 1103515245)) + 12345)) 2147483648))), none, none, some (.int (J v9_1)), none]) [true, true, false, true, false, false, true, false, false, true, false] rfl ?_
          exact hjp_3 0 s_8 (B01.inR B01_0) h
      clear hdjp_2
      refine r_if_ne g0 109 dX11_draw_101 (by decide) i_v9_1 (fun hc => ?_) (fun hc => ?_)
      · replace h := if_f hc h
        refine r_iload g0 dX11_draw_109 rfl ?_
        refine r_lload g0 dX11_draw_111 rfl ?_
        refine r_ldc2 g0 (v := 65536) dX11_draw_113 kX11_122 ?_
        refine r_ldiv g0 dX11_draw_116 (InL_rem _ (InL_wl _)) (InL_lit rfl) (by decide) ?_
        refine r_ldc2 g0 (v := 7) dX11_draw_117 kX11_124 ?_
        refine r_lrem g0 dX11_draw_120 (InL_wl _) (InL_lit rfl) (by decide) ?_
        refine r_l2i g0 dX11_draw_121 ?_
        refine r_iadd g0 dX11_draw_122 ?_
        refine r_iconst g0 dX11_draw_123 ?_
        refine r_isub g0 dX11_draw_124 ?_
        refine r_mask g0 (lv' := [some (.ref (E.1 v0_1)), some (.int (J v1_1)), none, some (.int (J v3_1)), none, none, some (.long (JL (Int.tmod (wl ((wl (v6_1 * 1103515245)) + 12345)) 2147483648))), none, none, some (.int (J v9_1)), none]) [true, true, false, true, false, false, true, false, false, true, false] rfl ?_
        exact hjp_2 (wr ((wr (v8_1 + (wr (Int.tmod (wl (Int.tdiv (Int.tmod (wl ((wl (v6_1 * 1103515245)) + 12345)) 2147483648) 65536)) 7)))) - 3)) s_7 (InR_wr _) h
      · replace h := if_t hc h
        refine r_bipush g0 dX11_draw_104 rfl ?_
        refine r_goto g0 125 dX11_draw_106 (by decide) ?_
        refine r_mask g0 (lv' := [some (.ref (E.1 v0_1)), some (.int (J v1_1)), none, some (.int (J v3_1)), none, none, some (.long (JL (Int.tmod (wl ((wl (v6_1 * 1103515245)) + 12345)) 2147483648))), none, none, some (.int (J v9_1)), none]) [true, true, false, true, false, false, true, false, false, true, false] rfl ?_
        exact hjp_2 14 s_7 (InR_lit rfl) h
set_option maxHeartbeats 4000000 in
set_option maxRecDepth 100000 in
theorem c_X11_draw {E : u_E} {l : Launch} {o : u_O} {p1 : Int} {p2 : Int} {p3 : Int} (ho : is_Mo o) (i_p1 : InR p1) (i_p2 : InR p2) (i_p3 : InR p3) {s s' : u_S} {r : Int} (h : f_X11_draw o p1 p2 p3 s = some (r, s')) : Con l (XE E) yX11_draw cX11_draw 11 (some .int) 3 66 0 0 [.ref (E.1 o), .int (J p1), .int (J p2), .int (J p3)] (Wd E s) (RI E r s') := by
  refine Con.of [some (.ref (E.1 o)), some (.int (J p1)), some (.int (J p2)), some (.int (J p3)), none, none, none, none, none, none, none] (by decide +kernel) rfl rfl (Nat.le_of_ble_eq_true rfl) (fun K g => ?_)
  have g0 := g.wk
  unfold f_X11_draw at h
  refine r_iload_n g0 dX11_draw_0 rfl ?_
  obtain ⟨r_1, s_1, hr_1, h⟩ := bd_some h
  refine r_cSZ g0 (rest := []) (c_X11_isLine i_p1 hr_1) ok_X11_isLine mX11_82 dX11_draw_1 ⟨Nat.le_of_ble_eq_true rfl, Nat.le_of_ble_eq_true rfl⟩ ⟨Nat.zero_le _, Nat.zero_le _⟩ rfl (Nat.le_of_ble_eq_true rfl) rfl (fun i_r_1 => ?_)
  obtain ⟨jp_1, hdjp_1, h⟩ := jn_some h
  have hjp_1 : ∀ (vt_1 : Int) (s_2 : u_S), InR vt_1 → jp_1 vt_1 s_2 = some (r, s') → K 0 0 41 [some (.ref (E.1 o)), some (.int (J p1)), some (.int (J p2)), some (.int (J p3)), none, none, none, none, none, none, none] [.int (J vt_1)] (Wd E s_2) := by
    intro vt_1 s_2 i_vt_1 h
    subst hdjp_1
    refine r_istore g0 (lv' := [some (.ref (E.1 o)), some (.int (J p1)), some (.int (J p2)), some (.int (J p3)), some (.int (J vt_1)), none, none, none, none, none, none]) dX11_draw_41 (by decide) rfl rfl ?_
    refine r_iload g0 dX11_draw_43 rfl ?_
    refine r_if_ge g0 55 dX11_draw_45 (by decide) i_vt_1 (fun hc => ?_) (fun hc => ?_)
    · replace h := if_f hc h
      refine r_aload_n g0 dX11_draw_55 rfl ?_
      obtain ⟨r_2, s_3, hr_2, h⟩ := bd_some h
      refine r_cVV g0 (rest := []) (c_X11_keep ho hr_2) ok_X11_keep mX11_100 (recv_Mo ho) dX11_draw_56 ⟨Nat.le_of_ble_eq_true rfl, Nat.le_of_ble_eq_true rfl⟩ ⟨Nat.zero_le _, Nat.zero_le _⟩ rfl (Nat.le_of_ble_eq_true rfl) rfl ?_
      refine r_aload_n g0 dX11_draw_59 rfl ?_
      refine r_iload_n g0 dX11_draw_60 rfl ?_
      obtain ⟨r_3, s_4, hr_3, h⟩ := bd_some h
      refine r_cVI g0 (rest := []) (c_X11_emptyNow ho i_p1 hr_3) ok_X11_emptyNow mX11_109 (recv_Mo ho) dX11_draw_61 ⟨Nat.le_of_ble_eq_true rfl, Nat.le_of_ble_eq_true rfl⟩ ⟨Nat.zero_le _, Nat.zero_le _⟩ rfl (Nat.le_of_ble_eq_true rfl) rfl (fun i_r_3 => ?_)
      refine r_istore g0 (lv' := [some (.ref (E.1 o)), some (.int (J p1)), some (.int (J p2)), some (.int (J p3)), some (.int (J vt_1)), some (.int (J r_3)), none, none, none, none, none]) dX11_draw_64 (by decide) rfl rfl ?_
      refine r_iload_n g0 dX11_draw_66 rfl ?_
      refine r_i2l g0 dX11_draw_67 i_p2 ?_
      refine r_lstore g0 (lv' := [some (.ref (E.1 o)), some (.int (J p1)), some (.int (J p2)), some (.int (J p3)), some (.int (J vt_1)), some (.int (J r_3)), some (.long (JL p2)), none, none, none, none]) dX11_draw_68 (by decide) rfl rfl ?_
      refine r_bipush g0 dX11_draw_70 rfl ?_
      refine r_istore g0 (lv' := [some (.ref (E.1 o)), some (.int (J p1)), some (.int (J p2)), some (.int (J p3)), some (.int (J vt_1)), some (.int (J r_3)), some (.long (JL p2)), none, some (.int (J 14)), none, none]) dX11_draw_72 (by decide) rfl rfl ?_
      refine r_iconst g0 dX11_draw_74 ?_
      refine r_istore g0 (lv' := [some (.ref (E.1 o)), some (.int (J p1)), some (.int (J p2)), some (.int (J p3)), some (.int (J vt_1)), some (.int (J r_3)), some (.long (JL p2)), none, some (.int (J 14)), some (.int (J 0)), none]) dX11_draw_75 (by decide) rfl rfl ?_
      refine r_mask g0 (lv' := [some (.ref (E.1 o)), some (.int (J p1)), none, some (.int (J p3)), none, none, some (.long (JL p2)), none, some (.int (J 14)), some (.int (J 0)), none]) [true, true, false, true, false, false, true, false, true, true, false] rfl ?_
      refine t_X11_draw_L77 g ho i_p1 i_p3 ?_ FU p2 14 0 s_4 (InL_i i_p2) (InR_lit rfl) (B01.inR B01_0) h
      · intro s_5 h
        refine r_aload_n g0 dX11_draw_180 rfl ?_
        refine r_iload_n g0 dX11_draw_181 rfl ?_
        obtain ⟨r_4, s_6, hr_4, h⟩ := bd_some h
        refine r_cVI g0 (rest := []) (c_X11_length ho i_p1 hr_4) ok_X11_length mX11_128 (recv_Mo ho) dX11_draw_182 ⟨Nat.le_of_ble_eq_true rfl, Nat.le_of_ble_eq_true rfl⟩ ⟨Nat.zero_le _, Nat.zero_le _⟩ rfl (Nat.le_of_ble_eq_true rfl) rfl (fun i_r_4 => ?_)
        exact z_I g dX11_draw_185 i_r_4 h
    · replace h := if_t hc h
      refine r_aload_n g0 dX11_draw_48 rfl ?_
      refine r_iload g0 dX11_draw_49 rfl ?_
      obtain ⟨r_6, s_12, hr_6, h⟩ := bd_some h
      refine r_cVI g0 (rest := []) (c_X11_refuses ho i_vt_1 hr_6) ok_X11_refuses mX11_97 (recv_Mo ho) dX11_draw_51 ⟨Nat.le_of_ble_eq_true rfl, Nat.le_of_ble_eq_true rfl⟩ ⟨Nat.zero_le _, Nat.zero_le _⟩ rfl (Nat.le_of_ble_eq_true rfl) rfl (fun i_r_6 => ?_)
      exact z_I g dX11_draw_54 i_r_6 h
  clear hdjp_1
  obtain ⟨jp_4, hdjp_4, h⟩ := jn_some h
  have hjp_4 : ∀  (s_13 : u_S), jp_4 s_13 = some (r, s') → K 0 0 31 [some (.ref (E.1 o)), some (.int (J p1)), some (.int (J p2)), some (.int (J p3)), none, none, none, none, none, none, none] [] (Wd E s_13) := by
    intro s_13 h
    subst hdjp_4
    refine r_bipush g0 dX11_draw_31 rfl ?_
    refine r_goto g0 41 dX11_draw_33 (by decide) ?_
    exact hjp_1 (-2) s_13 (InR_lit rfl) h
  clear hdjp_4
  refine r_if_eq g0 31 dX11_draw_4 (by decide) (B01.inR i_r_1) (fun hc => ?_) (fun hc => ?_)
  · replace h := if_t hc h
    exact hjp_4 s_1 h
  · replace h := if_f hc h
    refine r_iload_n g0 dX11_draw_7 rfl ?_
    refine r_i2l g0 dX11_draw_8 i_p2 ?_
    refine r_lconst g0 (v := 0) dX11_draw_9 rfl ?_
    refine r_ldc2 g0 (v := 999999) dX11_draw_10 kX11_112 ?_
    obtain ⟨r_7, s_14, hr_7, h⟩ := bd_some h
    refine r_cSZ g0 (rest := []) (c_X11_in (InL_i i_p2) (InL_lit rfl) (InL_lit rfl) hr_7) ok_X11_in mX11_61 dX11_draw_13 ⟨Nat.le_of_ble_eq_true rfl, Nat.le_of_ble_eq_true rfl⟩ ⟨Nat.zero_le _, Nat.zero_le _⟩ rfl (Nat.le_of_ble_eq_true rfl) rfl (fun i_r_7 => ?_)
    refine r_if_eq g0 31 dX11_draw_16 (by decide) (B01.inR i_r_7) (fun hc => ?_) (fun hc => ?_)
    · replace h := if_t hc h
      exact hjp_4 s_14 h
    · replace h := if_f hc h
      refine r_iload_n g0 dX11_draw_19 rfl ?_
      refine r_i2l g0 dX11_draw_20 i_p3 ?_
      refine r_lconst g0 (v := 1) dX11_draw_21 rfl ?_
      refine r_ldc2 g0 (v := 10) dX11_draw_22 kX11_114 ?_
      obtain ⟨r_8, s_15, hr_8, h⟩ := bd_some h
      refine r_cSZ g0 (rest := []) (c_X11_in (InL_i i_p3) (InL_lit rfl) (InL_lit rfl) hr_8) ok_X11_in mX11_61 dX11_draw_25 ⟨Nat.le_of_ble_eq_true rfl, Nat.le_of_ble_eq_true rfl⟩ ⟨Nat.zero_le _, Nat.zero_le _⟩ rfl (Nat.le_of_ble_eq_true rfl) rfl (fun i_r_8 => ?_)
      refine r_if_ne g0 36 dX11_draw_28 (by decide) (B01.inR i_r_8) (fun hc => ?_) (fun hc => ?_)
      · replace h := if_f hc h
        refine r_aload_n g0 dX11_draw_36 rfl ?_
        refine r_iload_n g0 dX11_draw_37 rfl ?_
        obtain ⟨r_9, s_16, hr_9, h⟩ := bd_some h
        refine r_cVI g0 (rest := []) (c_X11_canEmpty ho i_p1 hr_9) ok_X11_canEmpty mX11_106 (recv_Mo ho) dX11_draw_38 ⟨Nat.le_of_ble_eq_true rfl, Nat.le_of_ble_eq_true rfl⟩ ⟨Nat.zero_le _, Nat.zero_le _⟩ rfl (Nat.le_of_ble_eq_true rfl) rfl (fun i_r_9 => ?_)
        exact hjp_1 r_9 s_16 i_r_9 h
      · replace h := if_t hc h
        exact hjp_4 s_15 h
theorem dX11_isSetting_0 : decode cX11_isSetting 0 = .ok (.iload_n 0, 1) := by decide +kernel
theorem dX11_isSetting_1 : decode cX11_isSetting 1 = .ok (.tableswitch 71 0 3 #[31, 41, 51, 61], 31) := by decide +kernel
theorem dX11_isSetting_32 : decode cX11_isSetting 32 = .ok (.iload_n 1, 1) := by decide +kernel
theorem dX11_isSetting_33 : decode cX11_isSetting 33 = .ok (.i2l, 1) := by decide +kernel
theorem dX11_isSetting_34 : decode cX11_isSetting 34 = .ok (.lconst 0, 1) := by decide +kernel
theorem dX11_isSetting_35 : decode cX11_isSetting 35 = .ok (.ldc2_w 114, 3) := by decide +kernel
theorem dX11_isSetting_38 : decode cX11_isSetting 38 = .ok (.invokestatic 61, 3) := by decide +kernel
theorem dX11_isSetting_41 : decode cX11_isSetting 41 = .ok (.ireturn, 1) := by decide +kernel
theorem dX11_isSetting_42 : decode cX11_isSetting 42 = .ok (.iload_n 1, 1) := by decide +kernel
theorem dX11_isSetting_43 : decode cX11_isSetting 43 = .ok (.i2l, 1) := by decide +kernel
theorem dX11_isSetting_44 : decode cX11_isSetting 44 = .ok (.lconst 0, 1) := by decide +kernel
theorem dX11_isSetting_45 : decode cX11_isSetting 45 = .ok (.ldc2_w 131, 3) := by decide +kernel
theorem dX11_isSetting_48 : decode cX11_isSetting 48 = .ok (.invokestatic 61, 3) := by decide +kernel
theorem dX11_isSetting_51 : decode cX11_isSetting 51 = .ok (.ireturn, 1) := by decide +kernel
theorem dX11_isSetting_52 : decode cX11_isSetting 52 = .ok (.iload_n 1, 1) := by decide +kernel
theorem dX11_isSetting_53 : decode cX11_isSetting 53 = .ok (.i2l, 1) := by decide +kernel
theorem dX11_isSetting_54 : decode cX11_isSetting 54 = .ok (.lconst 1, 1) := by decide +kernel
theorem dX11_isSetting_55 : decode cX11_isSetting 55 = .ok (.ldc2_w 133, 3) := by decide +kernel
theorem dX11_isSetting_58 : decode cX11_isSetting 58 = .ok (.invokestatic 61, 3) := by decide +kernel
theorem dX11_isSetting_61 : decode cX11_isSetting 61 = .ok (.ireturn, 1) := by decide +kernel
theorem dX11_isSetting_62 : decode cX11_isSetting 62 = .ok (.iload_n 1, 1) := by decide +kernel
theorem dX11_isSetting_63 : decode cX11_isSetting 63 = .ok (.i2l, 1) := by decide +kernel
theorem dX11_isSetting_64 : decode cX11_isSetting 64 = .ok (.lconst 0, 1) := by decide +kernel
theorem dX11_isSetting_65 : decode cX11_isSetting 65 = .ok (.ldc2_w 135, 3) := by decide +kernel
theorem dX11_isSetting_68 : decode cX11_isSetting 68 = .ok (.invokestatic 61, 3) := by decide +kernel
theorem dX11_isSetting_71 : decode cX11_isSetting 71 = .ok (.ireturn, 1) := by decide +kernel
theorem dX11_isSetting_72 : decode cX11_isSetting 72 = .ok (.iconst 0, 1) := by decide +kernel
theorem dX11_isSetting_73 : decode cX11_isSetting 73 = .ok (.ireturn, 1) := by decide +kernel
set_option maxHeartbeats 4000000 in
set_option maxRecDepth 100000 in
theorem c_X11_isSetting {E : u_E} {l : Launch} {p1 : Int} {p2 : Int} (i_p1 : InR p1) (i_p2 : InR p2) {s s' : u_S} {r : Int} (h : f_X11_isSetting p1 p2 s = some (r, s')) : Con l (XE E) yX11_isSetting cX11_isSetting 2 (some .boolean) 1 25 0 0 [.int (J p1), .int (J p2)] (Wd E s) (RZ E r s') := by
  refine Con.of [some (.int (J p1)), some (.int (J p2))] (by decide +kernel) rfl rfl (Nat.le_of_ble_eq_true rfl) (fun K g => ?_)
  have g0 := g.wk
  unfold f_X11_isSetting at h
  refine r_iload_n g0 dX11_isSetting_0 rfl ?_
  by_cases hc0 : p1 = 0
  · replace h := if_t hc0 h
    refine r_tsIn g0 32 dX11_isSetting_1 i_p1 (by rw [hc0]; decide) (by rw [hc0]; decide) (by rw [hc0]; rfl) (by decide) ?_
    refine r_iload_n g0 dX11_isSetting_32 rfl ?_
    refine r_i2l g0 dX11_isSetting_33 i_p2 ?_
    refine r_lconst g0 (v := 0) dX11_isSetting_34 rfl ?_
    refine r_ldc2 g0 (v := 10) dX11_isSetting_35 kX11_114 ?_
    obtain ⟨r_1, s_1, hr_1, h⟩ := bd_some h
    refine r_cSZ g0 (rest := []) (c_X11_in (InL_i i_p2) (InL_lit rfl) (InL_lit rfl) hr_1) ok_X11_in mX11_61 dX11_isSetting_38 ⟨Nat.le_of_ble_eq_true rfl, Nat.le_of_ble_eq_true rfl⟩ ⟨Nat.zero_le _, Nat.zero_le _⟩ rfl (Nat.le_of_ble_eq_true rfl) rfl (fun i_r_1 => ?_)
    exact z_Z g dX11_isSetting_41 i_r_1 h
  replace h := if_f hc0 h
  by_cases hc1 : p1 = 1
  · replace h := if_t hc1 h
    refine r_tsIn g0 42 dX11_isSetting_1 i_p1 (by rw [hc1]; decide) (by rw [hc1]; decide) (by rw [hc1]; rfl) (by decide) ?_
    refine r_iload_n g0 dX11_isSetting_42 rfl ?_
    refine r_i2l g0 dX11_isSetting_43 i_p2 ?_
    refine r_lconst g0 (v := 0) dX11_isSetting_44 rfl ?_
    refine r_ldc2 g0 (v := 6) dX11_isSetting_45 kX11_131 ?_
    obtain ⟨r_2, s_2, hr_2, h⟩ := bd_some h
    refine r_cSZ g0 (rest := []) (c_X11_in (InL_i i_p2) (InL_lit rfl) (InL_lit rfl) hr_2) ok_X11_in mX11_61 dX11_isSetting_48 ⟨Nat.le_of_ble_eq_true rfl, Nat.le_of_ble_eq_true rfl⟩ ⟨Nat.zero_le _, Nat.zero_le _⟩ rfl (Nat.le_of_ble_eq_true rfl) rfl (fun i_r_2 => ?_)
    exact z_Z g dX11_isSetting_51 i_r_2 h
  replace h := if_f hc1 h
  by_cases hc2 : p1 = 2
  · replace h := if_t hc2 h
    refine r_tsIn g0 52 dX11_isSetting_1 i_p1 (by rw [hc2]; decide) (by rw [hc2]; decide) (by rw [hc2]; rfl) (by decide) ?_
    refine r_iload_n g0 dX11_isSetting_52 rfl ?_
    refine r_i2l g0 dX11_isSetting_53 i_p2 ?_
    refine r_lconst g0 (v := 1) dX11_isSetting_54 rfl ?_
    refine r_ldc2 g0 (v := 8) dX11_isSetting_55 kX11_133 ?_
    obtain ⟨r_3, s_3, hr_3, h⟩ := bd_some h
    refine r_cSZ g0 (rest := []) (c_X11_in (InL_i i_p2) (InL_lit rfl) (InL_lit rfl) hr_3) ok_X11_in mX11_61 dX11_isSetting_58 ⟨Nat.le_of_ble_eq_true rfl, Nat.le_of_ble_eq_true rfl⟩ ⟨Nat.zero_le _, Nat.zero_le _⟩ rfl (Nat.le_of_ble_eq_true rfl) rfl (fun i_r_3 => ?_)
    exact z_Z g dX11_isSetting_61 i_r_3 h
  replace h := if_f hc2 h
  by_cases hc3 : p1 = 3
  · replace h := if_t hc3 h
    refine r_tsIn g0 62 dX11_isSetting_1 i_p1 (by rw [hc3]; decide) (by rw [hc3]; decide) (by rw [hc3]; rfl) (by decide) ?_
    refine r_iload_n g0 dX11_isSetting_62 rfl ?_
    refine r_i2l g0 dX11_isSetting_63 i_p2 ?_
    refine r_lconst g0 (v := 0) dX11_isSetting_64 rfl ?_
    refine r_ldc2 g0 (v := 23) dX11_isSetting_65 kX11_135 ?_
    obtain ⟨r_4, s_4, hr_4, h⟩ := bd_some h
    refine r_cSZ g0 (rest := []) (c_X11_in (InL_i i_p2) (InL_lit rfl) (InL_lit rfl) hr_4) ok_X11_in mX11_61 dX11_isSetting_68 ⟨Nat.le_of_ble_eq_true rfl, Nat.le_of_ble_eq_true rfl⟩ ⟨Nat.zero_le _, Nat.zero_le _⟩ rfl (Nat.le_of_ble_eq_true rfl) rfl (fun i_r_4 => ?_)
    exact z_Z g dX11_isSetting_71 i_r_4 h
  replace h := if_f hc3 h
  refine r_tsOut g0 72 dX11_isSetting_1 i_p1 (by omega) (by decide) ?_
  refine r_iconst g0 dX11_isSetting_72 ?_
  exact z_Z g dX11_isSetting_73 B01_0 h
theorem dX11_setNow_0 : decode cX11_setNow 0 = .ok (.aload_n 0, 1) := by decide +kernel
theorem dX11_setNow_1 : decode cX11_setNow 1 = .ok (.getfield 7, 3) := by decide +kernel
theorem dX11_setNow_4 : decode cX11_setNow 4 = .ok (.sipush 135, 3) := by decide +kernel
theorem dX11_setNow_7 : decode cX11_setNow 7 = .ok (.iload_n 1, 1) := by decide +kernel
theorem dX11_setNow_8 : decode cX11_setNow 8 = .ok (.iadd, 1) := by decide +kernel
theorem dX11_setNow_9 : decode cX11_setNow 9 = .ok (.iaload, 1) := by decide +kernel
theorem dX11_setNow_10 : decode cX11_setNow 10 = .ok (.istore_n 3, 1) := by decide +kernel
theorem dX11_setNow_11 : decode cX11_setNow 11 = .ok (.aload_n 0, 1) := by decide +kernel
theorem dX11_setNow_12 : decode cX11_setNow 12 = .ok (.getfield 7, 3) := by decide +kernel
theorem dX11_setNow_15 : decode cX11_setNow 15 = .ok (.sipush 135, 3) := by decide +kernel
theorem dX11_setNow_18 : decode cX11_setNow 18 = .ok (.iload_n 1, 1) := by decide +kernel
theorem dX11_setNow_19 : decode cX11_setNow 19 = .ok (.iadd, 1) := by decide +kernel
theorem dX11_setNow_20 : decode cX11_setNow 20 = .ok (.iload_n 2, 1) := by decide +kernel
theorem dX11_setNow_21 : decode cX11_setNow 21 = .ok (.iastore, 1) := by decide +kernel
theorem dX11_setNow_22 : decode cX11_setNow 22 = .ok (.iload_n 3, 1) := by decide +kernel
theorem dX11_setNow_23 : decode cX11_setNow 23 = .ok (.ireturn, 1) := by decide +kernel
set_option maxHeartbeats 4000000 in
set_option maxRecDepth 100000 in
theorem c_X11_setNow {E : u_E} {l : Launch} {o : u_O} {p1 : Int} {p2 : Int} (ho : is_Mo o) (i_p1 : InR p1) (i_p2 : InR p2) {s s' : u_S} {r : Int} (h : f_X11_setNow o p1 p2 s = some (r, s')) : Con l (XE E) yX11_setNow cX11_setNow 4 (some .int) 0 0 0 0 [.ref (E.1 o), .int (J p1), .int (J p2)] (Wd E s) (RI E r s') := by
  refine Con.of [some (.ref (E.1 o)), some (.int (J p1)), some (.int (J p2)), none] (by decide +kernel) rfl rfl (Nat.le_of_ble_eq_true rfl) (fun K g => ?_)
  have g0 := g.wk
  unfold f_X11_setNow at h
  refine r_aload_n g0 dX11_setNow_0 rfl ?_
  refine g_Mo_all g0 ho qX11_7 dX11_setNow_1 ?_
  refine r_sipush g0 dX11_setNow_4 rfl ?_
  refine r_iload_n g0 dX11_setNow_7 rfl ?_
  refine r_iadd g0 dX11_setNow_8 ?_
  obtain ⟨hb, h⟩ := gd_some h
  refine r_iaload g0 (is_a_Mo_all ho) (n := 145) rfl (InR_wr _) hb dX11_setNow_9 ?_
  refine r_istore_n g0 (lv' := [some (.ref (E.1 o)), some (.int (J p1)), some (.int (J p2)), some (.int (J (rd s (a_Mo_all o) (wr (135 + p1)))))]) dX11_setNow_10 (by decide) rfl rfl ?_
  refine r_aload_n g0 dX11_setNow_11 rfl ?_
  refine g_Mo_all g0 ho qX11_7 dX11_setNow_12 ?_
  refine r_sipush g0 dX11_setNow_15 rfl ?_
  refine r_iload_n g0 dX11_setNow_18 rfl ?_
  refine r_iadd g0 dX11_setNow_19 ?_
  refine r_iload_n g0 dX11_setNow_20 rfl ?_
  obtain ⟨hb, h⟩ := gd_some h
  refine r_iastore g0 (is_a_Mo_all ho) (n := 145) rfl (InR_wr _) hb dX11_setNow_21 ?_
  refine r_iload_n g0 dX11_setNow_22 rfl ?_
  exact z_I g dX11_setNow_23 (InR_rd _ _ _) h
theorem dX11_sets_0 : decode cX11_sets 0 = .ok (.iload_n 1, 1) := by decide +kernel
theorem dX11_sets_1 : decode cX11_sets 1 = .ok (.iload_n 2, 1) := by decide +kernel
theorem dX11_sets_2 : decode cX11_sets 2 = .ok (.invokestatic 137, 3) := by decide +kernel
theorem dX11_sets_5 : decode cX11_sets 5 = .ok (.ifCond .ne 10, 3) := by decide +kernel
theorem dX11_sets_8 : decode cX11_sets 8 = .ok (.aload_n 0, 1) := by decide +kernel
theorem dX11_sets_9 : decode cX11_sets 9 = .ok (.bipush (-2), 2) := by decide +kernel
theorem dX11_sets_11 : decode cX11_sets 11 = .ok (.invokevirtual 97, 3) := by decide +kernel
theorem dX11_sets_14 : decode cX11_sets 14 = .ok (.ireturn, 1) := by decide +kernel
theorem dX11_sets_15 : decode cX11_sets 15 = .ok (.aload_n 0, 1) := by decide +kernel
theorem dX11_sets_16 : decode cX11_sets 16 = .ok (.invokevirtual 100, 3) := by decide +kernel
theorem dX11_sets_19 : decode cX11_sets 19 = .ok (.aload_n 0, 1) := by decide +kernel
theorem dX11_sets_20 : decode cX11_sets 20 = .ok (.iload_n 1, 1) := by decide +kernel
theorem dX11_sets_21 : decode cX11_sets 21 = .ok (.iload_n 2, 1) := by decide +kernel
theorem dX11_sets_22 : decode cX11_sets 22 = .ok (.invokevirtual 141, 3) := by decide +kernel
theorem dX11_sets_25 : decode cX11_sets 25 = .ok (.ireturn, 1) := by decide +kernel
set_option maxHeartbeats 4000000 in
set_option maxRecDepth 100000 in
theorem c_X11_sets {E : u_E} {l : Launch} {o : u_O} {p1 : Int} {p2 : Int} (ho : is_Mo o) (i_p1 : InR p1) (i_p2 : InR p2) {s s' : u_S} {r : Int} (h : f_X11_sets o p1 p2 s = some (r, s')) : Con l (XE E) yX11_sets cX11_sets 3 (some .int) 2 46 0 0 [.ref (E.1 o), .int (J p1), .int (J p2)] (Wd E s) (RI E r s') := by
  refine Con.of [some (.ref (E.1 o)), some (.int (J p1)), some (.int (J p2))] (by decide +kernel) rfl rfl (Nat.le_of_ble_eq_true rfl) (fun K g => ?_)
  have g0 := g.wk
  unfold f_X11_sets at h
  refine r_iload_n g0 dX11_sets_0 rfl ?_
  refine r_iload_n g0 dX11_sets_1 rfl ?_
  obtain ⟨r_1, s_1, hr_1, h⟩ := bd_some h
  refine r_cSZ g0 (rest := []) (c_X11_isSetting i_p1 i_p2 hr_1) ok_X11_isSetting mX11_137 dX11_sets_2 ⟨Nat.le_of_ble_eq_true rfl, Nat.le_of_ble_eq_true rfl⟩ ⟨Nat.zero_le _, Nat.zero_le _⟩ rfl (Nat.le_of_ble_eq_true rfl) rfl (fun i_r_1 => ?_)
  refine r_if_ne g0 15 dX11_sets_5 (by decide) (B01.inR i_r_1) (fun hc => ?_) (fun hc => ?_)
  · replace h := if_f hc h
    refine r_aload_n g0 dX11_sets_15 rfl ?_
    obtain ⟨r_2, s_2, hr_2, h⟩ := bd_some h
    refine r_cVV g0 (rest := []) (c_X11_keep ho hr_2) ok_X11_keep mX11_100 (recv_Mo ho) dX11_sets_16 ⟨Nat.le_of_ble_eq_true rfl, Nat.le_of_ble_eq_true rfl⟩ ⟨Nat.zero_le _, Nat.zero_le _⟩ rfl (Nat.le_of_ble_eq_true rfl) rfl ?_
    refine r_aload_n g0 dX11_sets_19 rfl ?_
    refine r_iload_n g0 dX11_sets_20 rfl ?_
    refine r_iload_n g0 dX11_sets_21 rfl ?_
    obtain ⟨r_3, s_3, hr_3, h⟩ := bd_some h
    refine r_cVI g0 (rest := []) (c_X11_setNow ho i_p1 i_p2 hr_3) ok_X11_setNow mX11_141 (recv_Mo ho) dX11_sets_22 ⟨Nat.le_of_ble_eq_true rfl, Nat.le_of_ble_eq_true rfl⟩ ⟨Nat.zero_le _, Nat.zero_le _⟩ rfl (Nat.le_of_ble_eq_true rfl) rfl (fun i_r_3 => ?_)
    exact z_I g dX11_sets_25 i_r_3 h
  · replace h := if_t hc h
    refine r_aload_n g0 dX11_sets_8 rfl ?_
    refine r_bipush g0 dX11_sets_9 rfl ?_
    obtain ⟨r_4, s_4, hr_4, h⟩ := bd_some h
    refine r_cVI g0 (rest := []) (c_X11_refuses ho (InR_lit rfl) hr_4) ok_X11_refuses mX11_97 (recv_Mo ho) dX11_sets_11 ⟨Nat.le_of_ble_eq_true rfl, Nat.le_of_ble_eq_true rfl⟩ ⟨Nat.zero_le _, Nat.zero_le _⟩ rfl (Nat.le_of_ble_eq_true rfl) rfl (fun i_r_4 => ?_)
    exact z_I g dX11_sets_14 i_r_4 h
theorem dX11_begin_0 : decode cX11_begin 0 = .ok (.iconst 0, 1) := by decide +kernel
theorem dX11_begin_1 : decode cX11_begin 1 = .ok (.istore_n 3, 1) := by decide +kernel
theorem dX11_begin_2 : decode cX11_begin 2 = .ok (.iconst 0, 1) := by decide +kernel
theorem dX11_begin_3 : decode cX11_begin 3 = .ok (.istore 4, 2) := by decide +kernel
theorem dX11_begin_5 : decode cX11_begin 5 = .ok (.iload 4, 2) := by decide +kernel
theorem dX11_begin_7 : decode cX11_begin 7 = .ok (.iload_n 2, 1) := by decide +kernel
theorem dX11_begin_8 : decode cX11_begin 8 = .ok (.if_icmp .ge 19, 3) := by decide +kernel
theorem dX11_begin_11 : decode cX11_begin 11 = .ok (.iload_n 3, 1) := by decide +kernel
theorem dX11_begin_12 : decode cX11_begin 12 = .ok (.aload_n 0, 1) := by decide +kernel
theorem dX11_begin_13 : decode cX11_begin 13 = .ok (.iload_n 1, 1) := by decide +kernel
theorem dX11_begin_14 : decode cX11_begin 14 = .ok (.iload 4, 2) := by decide +kernel
theorem dX11_begin_16 : decode cX11_begin 16 = .ok (.invokevirtual 69, 3) := by decide +kernel
theorem dX11_begin_19 : decode cX11_begin 19 = .ok (.iadd, 1) := by decide +kernel
theorem dX11_begin_20 : decode cX11_begin 20 = .ok (.istore_n 3, 1) := by decide +kernel
theorem dX11_begin_21 : decode cX11_begin 21 = .ok (.iinc 4 1, 3) := by decide +kernel
theorem dX11_begin_24 : decode cX11_begin 24 = .ok (.goto (-19), 3) := by decide +kernel
theorem dX11_begin_27 : decode cX11_begin 27 = .ok (.iload_n 3, 1) := by decide +kernel
theorem dX11_begin_28 : decode cX11_begin 28 = .ok (.ireturn, 1) := by decide +kernel
set_option maxHeartbeats 4000000 in
set_option maxRecDepth 100000 in
theorem t_X11_begin_L5 {l : Launch} {E : u_E} {K : u_K} {r : Int} {s' : u_S} (g : Wk l (XE E) { frames := 1, cells := 0, slots := 0, locals := 22 } cX11_begin 5 yX11_begin.cls yX11_begin.name (some .int) (RI E r s') K) {v0_1 : u_O} {v1_1 : Int} {v2_1 : Int} (i_v0_1 : is_Mo v0_1) (i_v1_1 : InR v1_1) (i_v2_1 : InR v2_1) {kx27 : Int → u_S → Option (Int × u_S)} (hkx27 : ∀ (v3_3 : Int) (s_4 : u_S), InR v3_3 → kx27 v3_3 s_4 = some (r, s') → K 0 0 27 [none, none, none, some (.int (J v3_3)), none] [] (Wd E s_4)) : ∀ (m : Nat) (v3_2 : Int) (v4_1 : Int) (s_2 : u_S), InR v3_2 → InR v4_1 → f_X11_begin_L5 m kx27 v0_1 v1_1 v2_1 v3_2 v4_1 s_2 = some (r, s') → K 0 0 5 [some (.ref (E.1 v0_1)), some (.int (J v1_1)), some (.int (J v2_1)), some (.int (J v3_2)), some (.int (J v4_1))] [] (Wd E s_2) := by
  have g0 := g.wk
  intro m
  induction m with
  | zero =>
    intro v3_2 v4_1 s_2 i_v3_2 i_v4_1 h
    exact absurd (show (none : Option (Int × u_S)) = some (r, s') from h) (by intro z; cases z)
  | succ m ih =>
    intro v3_2 v4_1 s_2 i_v3_2 i_v4_1 h
    rw [f_X11_begin_L5] at h
    refine r_iload g0 dX11_begin_5 rfl ?_
    refine r_iload_n g0 dX11_begin_7 rfl ?_
    refine r_icmp_ge g0 27 dX11_begin_8 (by decide) i_v4_1 i_v2_1 (fun hc => ?_) (fun hc => ?_)
    · replace h := if_f hc h
      refine r_mask g0 (lv' := [none, none, none, some (.int (J v3_2)), none]) [false, false, false, true, false] rfl ?_
      exact hkx27 v3_2 s_2 i_v3_2 h
    · replace h := if_t hc h
      refine r_iload_n g0 dX11_begin_11 rfl ?_
      refine r_aload_n g0 dX11_begin_12 rfl ?_
      refine r_iload_n g0 dX11_begin_13 rfl ?_
      refine r_iload g0 dX11_begin_14 rfl ?_
      obtain ⟨r_1, s_3, hr_1, h⟩ := bd_some h
      refine r_cVI g0 (rest := [.int (J v3_2)]) (c_X11_ticks i_v0_1 i_v1_1 i_v4_1 hr_1) ok_X11_ticks mX11_69 (recv_Mo i_v0_1) dX11_begin_16 ⟨Nat.le_of_ble_eq_true rfl, Nat.le_of_ble_eq_true rfl⟩ ⟨Nat.zero_le _, Nat.zero_le _⟩ rfl (Nat.le_of_ble_eq_true rfl) rfl (fun i_r_1 => ?_)
      refine r_iadd g0 dX11_begin_19 ?_
      refine r_istore_n g0 (lv' := [some (.ref (E.1 v0_1)), some (.int (J v1_1)), some (.int (J v2_1)), some (.int (J (wr (v3_2 + r_1)))), some (.int (J v4_1))]) dX11_begin_20 (by decide) rfl rfl ?_
      refine r_iinc g0 (a := v4_1) (lv' := [some (.ref (E.1 v0_1)), some (.int (J v1_1)), some (.int (J v2_1)), some (.int (J (wr (v3_2 + r_1)))), some (.int (J (wr (v4_1 + 1))))]) dX11_begin_21 (by decide) rfl rfl rfl ?_
      refine r_goto g0 5 dX11_begin_24 (by decide) ?_
      exact ih (wr (v3_2 + r_1)) (wr (v4_1 + 1)) s_3 (InR_wr _) (InR_wr _) h
set_option maxHeartbeats 4000000 in
set_option maxRecDepth 100000 in
theorem c_X11_begin {E : u_E} {l : Launch} {o : u_O} {p1 : Int} {p2 : Int} (ho : is_Mo o) (i_p1 : InR p1) (i_p2 : InR p2) {s s' : u_S} {r : Int} (h : f_X11_begin o p1 p2 s = some (r, s')) : Con l (XE E) yX11_begin cX11_begin 5 (some .int) 1 22 0 0 [.ref (E.1 o), .int (J p1), .int (J p2)] (Wd E s) (RI E r s') := by
  refine Con.of [some (.ref (E.1 o)), some (.int (J p1)), some (.int (J p2)), none, none] (by decide +kernel) rfl rfl (Nat.le_of_ble_eq_true rfl) (fun K g => ?_)
  have g0 := g.wk
  unfold f_X11_begin at h
  refine r_iconst g0 dX11_begin_0 ?_
  refine r_istore_n g0 (lv' := [some (.ref (E.1 o)), some (.int (J p1)), some (.int (J p2)), some (.int (J 0)), none]) dX11_begin_1 (by decide) rfl rfl ?_
  refine r_iconst g0 dX11_begin_2 ?_
  refine r_istore g0 (lv' := [some (.ref (E.1 o)), some (.int (J p1)), some (.int (J p2)), some (.int (J 0)), some (.int (J 0))]) dX11_begin_3 (by decide) rfl rfl ?_
  refine t_X11_begin_L5 g ho i_p1 i_p2 ?_ FU 0 0 s (B01.inR B01_0) (B01.inR B01_0) h
  · intro v3_1 s_1 i_v3_1 h
    refine r_iload_n g0 dX11_begin_27 rfl ?_
    exact z_I g dX11_begin_28 i_v3_1 h
theorem dX11_noteNow4_0 : decode cX11_noteNow4 0 = .ok (.iload_n 3, 1) := by decide +kernel
theorem dX11_noteNow4_1 : decode cX11_noteNow4 1 = .ok (.ifCond .ne 12, 3) := by decide +kernel
theorem dX11_noteNow4_4 : decode cX11_noteNow4 4 = .ok (.aload_n 0, 1) := by decide +kernel
theorem dX11_noteNow4_5 : decode cX11_noteNow4 5 = .ok (.iload_n 1, 1) := by decide +kernel
theorem dX11_noteNow4_6 : decode cX11_noteNow4 6 = .ok (.iload_n 2, 1) := by decide +kernel
theorem dX11_noteNow4_7 : decode cX11_noteNow4 7 = .ok (.invokevirtual 76, 3) := by decide +kernel
theorem dX11_noteNow4_10 : decode cX11_noteNow4 10 = .ok (.goto 37, 3) := by decide +kernel
theorem dX11_noteNow4_13 : decode cX11_noteNow4 13 = .ok (.iload_n 3, 1) := by decide +kernel
theorem dX11_noteNow4_14 : decode cX11_noteNow4 14 = .ok (.iconst 1, 1) := by decide +kernel
theorem dX11_noteNow4_15 : decode cX11_noteNow4 15 = .ok (.if_icmp .ne 12, 3) := by decide +kernel
theorem dX11_noteNow4_18 : decode cX11_noteNow4 18 = .ok (.aload_n 0, 1) := by decide +kernel
theorem dX11_noteNow4_19 : decode cX11_noteNow4 19 = .ok (.iload_n 1, 1) := by decide +kernel
theorem dX11_noteNow4_20 : decode cX11_noteNow4 20 = .ok (.iload_n 2, 1) := by decide +kernel
theorem dX11_noteNow4_21 : decode cX11_noteNow4 21 = .ok (.invokevirtual 69, 3) := by decide +kernel
theorem dX11_noteNow4_24 : decode cX11_noteNow4 24 = .ok (.goto 23, 3) := by decide +kernel
theorem dX11_noteNow4_27 : decode cX11_noteNow4 27 = .ok (.iload_n 3, 1) := by decide +kernel
theorem dX11_noteNow4_28 : decode cX11_noteNow4 28 = .ok (.iconst 2, 1) := by decide +kernel
theorem dX11_noteNow4_29 : decode cX11_noteNow4 29 = .ok (.if_icmp .ne 12, 3) := by decide +kernel
theorem dX11_noteNow4_32 : decode cX11_noteNow4 32 = .ok (.aload_n 0, 1) := by decide +kernel
theorem dX11_noteNow4_33 : decode cX11_noteNow4 33 = .ok (.iload_n 1, 1) := by decide +kernel
theorem dX11_noteNow4_34 : decode cX11_noteNow4 34 = .ok (.iload_n 2, 1) := by decide +kernel
theorem dX11_noteNow4_35 : decode cX11_noteNow4 35 = .ok (.invokevirtual 144, 3) := by decide +kernel
theorem dX11_noteNow4_38 : decode cX11_noteNow4 38 = .ok (.goto 9, 3) := by decide +kernel
theorem dX11_noteNow4_41 : decode cX11_noteNow4 41 = .ok (.aload_n 0, 1) := by decide +kernel
theorem dX11_noteNow4_42 : decode cX11_noteNow4 42 = .ok (.iload_n 1, 1) := by decide +kernel
theorem dX11_noteNow4_43 : decode cX11_noteNow4 43 = .ok (.iload_n 2, 1) := by decide +kernel
theorem dX11_noteNow4_44 : decode cX11_noteNow4 44 = .ok (.invokevirtual 147, 3) := by decide +kernel
theorem dX11_noteNow4_47 : decode cX11_noteNow4 47 = .ok (.ireturn, 1) := by decide +kernel
set_option maxHeartbeats 4000000 in
set_option maxRecDepth 100000 in
theorem c_X11_noteNow4 {E : u_E} {l : Launch} {o : u_O} {p1 : Int} {p2 : Int} {p3 : Int} (ho : is_Mo o) (i_p1 : InR p1) (i_p2 : InR p2) (i_p3 : InR p3) {s s' : u_S} {r : Int} (h : f_X11_noteNow4 o p1 p2 p3 s = some (r, s')) : Con l (XE E) yX11_noteNow4 cX11_noteNow4 4 (some .int) 2 46 0 0 [.ref (E.1 o), .int (J p1), .int (J p2), .int (J p3)] (Wd E s) (RI E r s') := by
  refine Con.of [some (.ref (E.1 o)), some (.int (J p1)), some (.int (J p2)), some (.int (J p3))] (by decide +kernel) rfl rfl (Nat.le_of_ble_eq_true rfl) (fun K g => ?_)
  have g0 := g.wk
  unfold f_X11_noteNow4 at h
  refine r_iload_n g0 dX11_noteNow4_0 rfl ?_
  refine r_if_ne g0 13 dX11_noteNow4_1 (by decide) i_p3 (fun hc => ?_) (fun hc => ?_)
  · replace h := if_f hc h
    refine r_iload_n g0 dX11_noteNow4_13 rfl ?_
    refine r_iconst g0 dX11_noteNow4_14 ?_
    refine r_icmp_ne g0 27 dX11_noteNow4_15 (by decide) i_p3 (B01.inR B01_1) (fun hc => ?_) (fun hc => ?_)
    · replace h := if_f hc h
      refine r_iload_n g0 dX11_noteNow4_27 rfl ?_
      refine r_iconst g0 dX11_noteNow4_28 ?_
      refine r_icmp_ne g0 41 dX11_noteNow4_29 (by decide) i_p3 (InR_lit rfl) (fun hc => ?_) (fun hc => ?_)
      · replace h := if_f hc h
        refine r_aload_n g0 dX11_noteNow4_41 rfl ?_
        refine r_iload_n g0 dX11_noteNow4_42 rfl ?_
        refine r_iload_n g0 dX11_noteNow4_43 rfl ?_
        obtain ⟨r_1, s_1, hr_1, h⟩ := bd_some h
        refine r_cVI g0 (rest := []) (c_X11_answered ho i_p1 i_p2 hr_1) ok_X11_answered mX11_147 (recv_Mo ho) dX11_noteNow4_44 ⟨Nat.le_of_ble_eq_true rfl, Nat.le_of_ble_eq_true rfl⟩ ⟨Nat.zero_le _, Nat.zero_le _⟩ rfl (Nat.le_of_ble_eq_true rfl) rfl (fun i_r_1 => ?_)
        exact z_I g dX11_noteNow4_47 i_r_1 h
      · replace h := if_t hc h
        refine r_aload_n g0 dX11_noteNow4_32 rfl ?_
        refine r_iload_n g0 dX11_noteNow4_33 rfl ?_
        refine r_iload_n g0 dX11_noteNow4_34 rfl ?_
        obtain ⟨r_2, s_2, hr_2, h⟩ := bd_some h
        refine r_cVI g0 (rest := []) (c_X11_begin ho i_p1 i_p2 hr_2) ok_X11_begin mX11_144 (recv_Mo ho) dX11_noteNow4_35 ⟨Nat.le_of_ble_eq_true rfl, Nat.le_of_ble_eq_true rfl⟩ ⟨Nat.zero_le _, Nat.zero_le _⟩ rfl (Nat.le_of_ble_eq_true rfl) rfl (fun i_r_2 => ?_)
        refine r_goto g0 47 dX11_noteNow4_38 (by decide) ?_
        exact z_I g dX11_noteNow4_47 i_r_2 h
    · replace h := if_t hc h
      refine r_aload_n g0 dX11_noteNow4_18 rfl ?_
      refine r_iload_n g0 dX11_noteNow4_19 rfl ?_
      refine r_iload_n g0 dX11_noteNow4_20 rfl ?_
      obtain ⟨r_3, s_3, hr_3, h⟩ := bd_some h
      refine r_cVI g0 (rest := []) (c_X11_ticks ho i_p1 i_p2 hr_3) ok_X11_ticks mX11_69 (recv_Mo ho) dX11_noteNow4_21 ⟨Nat.le_of_ble_eq_true rfl, Nat.le_of_ble_eq_true rfl⟩ ⟨Nat.zero_le _, Nat.zero_le _⟩ rfl (Nat.le_of_ble_eq_true rfl) rfl (fun i_r_3 => ?_)
      refine r_goto g0 47 dX11_noteNow4_24 (by decide) ?_
      exact z_I g dX11_noteNow4_47 i_r_3 h
  · replace h := if_t hc h
    refine r_aload_n g0 dX11_noteNow4_4 rfl ?_
    refine r_iload_n g0 dX11_noteNow4_5 rfl ?_
    refine r_iload_n g0 dX11_noteNow4_6 rfl ?_
    obtain ⟨r_4, s_4, hr_4, h⟩ := bd_some h
    refine r_cVI g0 (rest := []) (c_X11_plain ho i_p1 i_p2 hr_4) ok_X11_plain mX11_76 (recv_Mo ho) dX11_noteNow4_7 ⟨Nat.le_of_ble_eq_true rfl, Nat.le_of_ble_eq_true rfl⟩ ⟨Nat.zero_le _, Nat.zero_le _⟩ rfl (Nat.le_of_ble_eq_true rfl) rfl (fun i_r_4 => ?_)
    refine r_goto g0 47 dX11_noteNow4_10 (by decide) ?_
    exact z_I g dX11_noteNow4_47 i_r_4 h
theorem dX11_noteOf_0 : decode cX11_noteOf 0 = .ok (.iload_n 1, 1) := by decide +kernel
theorem dX11_noteOf_1 : decode cX11_noteOf 1 = .ok (.invokestatic 82, 3) := by decide +kernel
theorem dX11_noteOf_4 : decode cX11_noteOf 4 = .ok (.ifCond .eq 42, 3) := by decide +kernel
theorem dX11_noteOf_7 : decode cX11_noteOf 7 = .ok (.iload_n 2, 1) := by decide +kernel
theorem dX11_noteOf_8 : decode cX11_noteOf 8 = .ok (.i2l, 1) := by decide +kernel
theorem dX11_noteOf_9 : decode cX11_noteOf 9 = .ok (.lconst 0, 1) := by decide +kernel
theorem dX11_noteOf_10 : decode cX11_noteOf 10 = .ok (.aload_n 0, 1) := by decide +kernel
theorem dX11_noteOf_11 : decode cX11_noteOf 11 = .ok (.iload_n 1, 1) := by decide +kernel
theorem dX11_noteOf_12 : decode cX11_noteOf 12 = .ok (.invokevirtual 65, 3) := by decide +kernel
theorem dX11_noteOf_15 : decode cX11_noteOf 15 = .ok (.iconst 1, 1) := by decide +kernel
theorem dX11_noteOf_16 : decode cX11_noteOf 16 = .ok (.isub, 1) := by decide +kernel
theorem dX11_noteOf_17 : decode cX11_noteOf 17 = .ok (.i2l, 1) := by decide +kernel
theorem dX11_noteOf_18 : decode cX11_noteOf 18 = .ok (.invokestatic 61, 3) := by decide +kernel
theorem dX11_noteOf_21 : decode cX11_noteOf 21 = .ok (.ifCond .eq 25, 3) := by decide +kernel
theorem dX11_noteOf_24 : decode cX11_noteOf 24 = .ok (.iload_n 3, 1) := by decide +kernel
theorem dX11_noteOf_25 : decode cX11_noteOf 25 = .ok (.i2l, 1) := by decide +kernel
theorem dX11_noteOf_26 : decode cX11_noteOf 26 = .ok (.lconst 0, 1) := by decide +kernel
theorem dX11_noteOf_27 : decode cX11_noteOf 27 = .ok (.ldc2_w 59, 3) := by decide +kernel
theorem dX11_noteOf_30 : decode cX11_noteOf 30 = .ok (.invokestatic 61, 3) := by decide +kernel
theorem dX11_noteOf_33 : decode cX11_noteOf 33 = .ok (.ifCond .eq 13, 3) := by decide +kernel
theorem dX11_noteOf_36 : decode cX11_noteOf 36 = .ok (.aload_n 0, 1) := by decide +kernel
theorem dX11_noteOf_37 : decode cX11_noteOf 37 = .ok (.iload_n 1, 1) := by decide +kernel
theorem dX11_noteOf_38 : decode cX11_noteOf 38 = .ok (.iload_n 2, 1) := by decide +kernel
theorem dX11_noteOf_39 : decode cX11_noteOf 39 = .ok (.iload_n 3, 1) := by decide +kernel
theorem dX11_noteOf_40 : decode cX11_noteOf 40 = .ok (.invokevirtual 150, 3) := by decide +kernel
theorem dX11_noteOf_43 : decode cX11_noteOf 43 = .ok (.goto 9, 3) := by decide +kernel
theorem dX11_noteOf_46 : decode cX11_noteOf 46 = .ok (.aload_n 0, 1) := by decide +kernel
theorem dX11_noteOf_47 : decode cX11_noteOf 47 = .ok (.bipush (-2), 2) := by decide +kernel
theorem dX11_noteOf_49 : decode cX11_noteOf 49 = .ok (.invokevirtual 97, 3) := by decide +kernel
theorem dX11_noteOf_52 : decode cX11_noteOf 52 = .ok (.ireturn, 1) := by decide +kernel
set_option maxHeartbeats 4000000 in
set_option maxRecDepth 100000 in
theorem c_X11_noteOf {E : u_E} {l : Launch} {o : u_O} {p1 : Int} {p2 : Int} {p3 : Int} (ho : is_Mo o) (i_p1 : InR p1) (i_p2 : InR p2) (i_p3 : InR p3) {s s' : u_S} {r : Int} (h : f_X11_noteOf o p1 p2 p3 s = some (r, s')) : Con l (XE E) yX11_noteOf cX11_noteOf 4 (some .int) 3 69 0 0 [.ref (E.1 o), .int (J p1), .int (J p2), .int (J p3)] (Wd E s) (RI E r s') := by
  refine Con.of [some (.ref (E.1 o)), some (.int (J p1)), some (.int (J p2)), some (.int (J p3))] (by decide +kernel) rfl rfl (Nat.le_of_ble_eq_true rfl) (fun K g => ?_)
  have g0 := g.wk
  unfold f_X11_noteOf at h
  refine r_iload_n g0 dX11_noteOf_0 rfl ?_
  obtain ⟨r_1, s_1, hr_1, h⟩ := bd_some h
  refine r_cSZ g0 (rest := []) (c_X11_isLine i_p1 hr_1) ok_X11_isLine mX11_82 dX11_noteOf_1 ⟨Nat.le_of_ble_eq_true rfl, Nat.le_of_ble_eq_true rfl⟩ ⟨Nat.zero_le _, Nat.zero_le _⟩ rfl (Nat.le_of_ble_eq_true rfl) rfl (fun i_r_1 => ?_)
  obtain ⟨jp_1, hdjp_1, h⟩ := jn_some h
  have hjp_1 : ∀  (s_2 : u_S), jp_1 s_2 = some (r, s') → K 0 0 46 [some (.ref (E.1 o)), none, none, none] [] (Wd E s_2) := by
    intro s_2 h
    subst hdjp_1
    refine r_aload_n g0 dX11_noteOf_46 rfl ?_
    refine r_bipush g0 dX11_noteOf_47 rfl ?_
    obtain ⟨r_2, s_3, hr_2, h⟩ := bd_some h
    refine r_cVI g0 (rest := []) (c_X11_refuses ho (InR_lit rfl) hr_2) ok_X11_refuses mX11_97 (recv_Mo ho) dX11_noteOf_49 ⟨Nat.le_of_ble_eq_true rfl, Nat.le_of_ble_eq_true rfl⟩ ⟨Nat.zero_le _, Nat.zero_le _⟩ rfl (Nat.le_of_ble_eq_true rfl) rfl (fun i_r_2 => ?_)
    exact z_I g dX11_noteOf_52 i_r_2 h
  clear hdjp_1
  refine r_if_eq g0 46 dX11_noteOf_4 (by decide) (B01.inR i_r_1) (fun hc => ?_) (fun hc => ?_)
  · replace h := if_t hc h
    refine r_mask g0 (lv' := [some (.ref (E.1 o)), none, none, none]) [true, false, false, false] rfl ?_
    exact hjp_1 s_1 h
  · replace h := if_f hc h
    refine r_iload_n g0 dX11_noteOf_7 rfl ?_
    refine r_i2l g0 dX11_noteOf_8 i_p2 ?_
    refine r_lconst g0 (v := 0) dX11_noteOf_9 rfl ?_
    refine r_aload_n g0 dX11_noteOf_10 rfl ?_
    refine r_iload_n g0 dX11_noteOf_11 rfl ?_
    obtain ⟨r_3, s_4, hr_3, h⟩ := bd_some h
    refine r_cVI g0 (rest := [.long (JL 0), .long (JL p2)]) (c_X11_notes ho i_p1 hr_3) ok_X11_notes mX11_65 (recv_Mo ho) dX11_noteOf_12 ⟨Nat.le_of_ble_eq_true rfl, Nat.le_of_ble_eq_true rfl⟩ ⟨Nat.zero_le _, Nat.zero_le _⟩ rfl (Nat.le_of_ble_eq_true rfl) rfl (fun i_r_3 => ?_)
    refine r_iconst g0 dX11_noteOf_15 ?_
    refine r_isub g0 dX11_noteOf_16 ?_
    refine r_i2l g0 dX11_noteOf_17 (InR_wr _) ?_
    obtain ⟨r_4, s_5, hr_4, h⟩ := bd_some h
    refine r_cSZ g0 (rest := []) (c_X11_in (InL_i i_p2) (InL_lit rfl) (InL_i (InR_wr _)) hr_4) ok_X11_in mX11_61 dX11_noteOf_18 ⟨Nat.le_of_ble_eq_true rfl, Nat.le_of_ble_eq_true rfl⟩ ⟨Nat.zero_le _, Nat.zero_le _⟩ rfl (Nat.le_of_ble_eq_true rfl) rfl (fun i_r_4 => ?_)
    refine r_if_eq g0 46 dX11_noteOf_21 (by decide) (B01.inR i_r_4) (fun hc => ?_) (fun hc => ?_)
    · replace h := if_t hc h
      refine r_mask g0 (lv' := [some (.ref (E.1 o)), none, none, none]) [true, false, false, false] rfl ?_
      exact hjp_1 s_5 h
    · replace h := if_f hc h
      refine r_iload_n g0 dX11_noteOf_24 rfl ?_
      refine r_i2l g0 dX11_noteOf_25 i_p3 ?_
      refine r_lconst g0 (v := 0) dX11_noteOf_26 rfl ?_
      refine r_ldc2 g0 (v := 3) dX11_noteOf_27 kX11_59 ?_
      obtain ⟨r_5, s_6, hr_5, h⟩ := bd_some h
      refine r_cSZ g0 (rest := []) (c_X11_in (InL_i i_p3) (InL_lit rfl) (InL_lit rfl) hr_5) ok_X11_in mX11_61 dX11_noteOf_30 ⟨Nat.le_of_ble_eq_true rfl, Nat.le_of_ble_eq_true rfl⟩ ⟨Nat.zero_le _, Nat.zero_le _⟩ rfl (Nat.le_of_ble_eq_true rfl) rfl (fun i_r_5 => ?_)
      refine r_if_eq g0 46 dX11_noteOf_33 (by decide) (B01.inR i_r_5) (fun hc => ?_) (fun hc => ?_)
      · replace h := if_t hc h
        refine r_mask g0 (lv' := [some (.ref (E.1 o)), none, none, none]) [true, false, false, false] rfl ?_
        exact hjp_1 s_6 h
      · replace h := if_f hc h
        refine r_aload_n g0 dX11_noteOf_36 rfl ?_
        refine r_iload_n g0 dX11_noteOf_37 rfl ?_
        refine r_iload_n g0 dX11_noteOf_38 rfl ?_
        refine r_iload_n g0 dX11_noteOf_39 rfl ?_
        obtain ⟨r_6, s_7, hr_6, h⟩ := bd_some h
        refine r_cVI g0 (rest := []) (c_X11_noteNow4 ho i_p1 i_p2 i_p3 hr_6) ok_X11_noteNow4 mX11_150 (recv_Mo ho) dX11_noteOf_40 ⟨Nat.le_of_ble_eq_true rfl, Nat.le_of_ble_eq_true rfl⟩ ⟨Nat.zero_le _, Nat.zero_le _⟩ rfl (Nat.le_of_ble_eq_true rfl) rfl (fun i_r_6 => ?_)
        refine r_goto g0 52 dX11_noteOf_43 (by decide) ?_
        exact z_I g dX11_noteOf_52 i_r_6 h
theorem dX11_bound_0 : decode cX11_bound 0 = .ok (.iconst (-1), 1) := by decide +kernel
theorem dX11_bound_1 : decode cX11_bound 1 = .ok (.istore_n 3, 1) := by decide +kernel
theorem dX11_bound_2 : decode cX11_bound 2 = .ok (.iconst 0, 1) := by decide +kernel
theorem dX11_bound_3 : decode cX11_bound 3 = .ok (.istore 4, 2) := by decide +kernel
theorem dX11_bound_5 : decode cX11_bound 5 = .ok (.iload 4, 2) := by decide +kernel
theorem dX11_bound_7 : decode cX11_bound 7 = .ok (.aload_n 0, 1) := by decide +kernel
theorem dX11_bound_8 : decode cX11_bound 8 = .ok (.iload_n 1, 1) := by decide +kernel
theorem dX11_bound_9 : decode cX11_bound 9 = .ok (.invokevirtual 65, 3) := by decide +kernel
theorem dX11_bound_12 : decode cX11_bound 12 = .ok (.if_icmp .ge 67, 3) := by decide +kernel
theorem dX11_bound_15 : decode cX11_bound 15 = .ok (.iload_n 3, 1) := by decide +kernel
theorem dX11_bound_16 : decode cX11_bound 16 = .ok (.iconst (-1), 1) := by decide +kernel
theorem dX11_bound_17 : decode cX11_bound 17 = .ok (.if_icmp .eq 32, 3) := by decide +kernel
theorem dX11_bound_20 : decode cX11_bound 20 = .ok (.iload_n 2, 1) := by decide +kernel
theorem dX11_bound_21 : decode cX11_bound 21 = .ok (.ifCond .eq 17, 3) := by decide +kernel
theorem dX11_bound_24 : decode cX11_bound 24 = .ok (.aload_n 0, 1) := by decide +kernel
theorem dX11_bound_25 : decode cX11_bound 25 = .ok (.iload_n 1, 1) := by decide +kernel
theorem dX11_bound_26 : decode cX11_bound 26 = .ok (.iload 4, 2) := by decide +kernel
theorem dX11_bound_28 : decode cX11_bound 28 = .ok (.invokevirtual 76, 3) := by decide +kernel
theorem dX11_bound_31 : decode cX11_bound 31 = .ok (.iload_n 3, 1) := by decide +kernel
theorem dX11_bound_32 : decode cX11_bound 32 = .ok (.if_icmp .le 21, 3) := by decide +kernel
theorem dX11_bound_35 : decode cX11_bound 35 = .ok (.goto 14, 3) := by decide +kernel
theorem dX11_bound_38 : decode cX11_bound 38 = .ok (.aload_n 0, 1) := by decide +kernel
theorem dX11_bound_39 : decode cX11_bound 39 = .ok (.iload_n 1, 1) := by decide +kernel
theorem dX11_bound_40 : decode cX11_bound 40 = .ok (.iload 4, 2) := by decide +kernel
theorem dX11_bound_42 : decode cX11_bound 42 = .ok (.invokevirtual 76, 3) := by decide +kernel
theorem dX11_bound_45 : decode cX11_bound 45 = .ok (.iload_n 3, 1) := by decide +kernel
theorem dX11_bound_46 : decode cX11_bound 46 = .ok (.if_icmp .ge 7, 3) := by decide +kernel
theorem dX11_bound_49 : decode cX11_bound 49 = .ok (.iconst 1, 1) := by decide +kernel
theorem dX11_bound_50 : decode cX11_bound 50 = .ok (.goto 4, 3) := by decide +kernel
theorem dX11_bound_53 : decode cX11_bound 53 = .ok (.iconst 0, 1) := by decide +kernel
theorem dX11_bound_54 : decode cX11_bound 54 = .ok (.istore 5, 2) := by decide +kernel
theorem dX11_bound_56 : decode cX11_bound 56 = .ok (.iload 5, 2) := by decide +kernel
theorem dX11_bound_58 : decode cX11_bound 58 = .ok (.ifCond .eq 13, 3) := by decide +kernel
theorem dX11_bound_61 : decode cX11_bound 61 = .ok (.aload_n 0, 1) := by decide +kernel
theorem dX11_bound_62 : decode cX11_bound 62 = .ok (.iload_n 1, 1) := by decide +kernel
theorem dX11_bound_63 : decode cX11_bound 63 = .ok (.iload 4, 2) := by decide +kernel
theorem dX11_bound_65 : decode cX11_bound 65 = .ok (.invokevirtual 76, 3) := by decide +kernel
theorem dX11_bound_68 : decode cX11_bound 68 = .ok (.goto 4, 3) := by decide +kernel
theorem dX11_bound_71 : decode cX11_bound 71 = .ok (.iload_n 3, 1) := by decide +kernel
theorem dX11_bound_72 : decode cX11_bound 72 = .ok (.istore_n 3, 1) := by decide +kernel
theorem dX11_bound_73 : decode cX11_bound 73 = .ok (.iinc 4 1, 3) := by decide +kernel
theorem dX11_bound_76 : decode cX11_bound 76 = .ok (.goto (-71), 3) := by decide +kernel
theorem dX11_bound_79 : decode cX11_bound 79 = .ok (.iload_n 3, 1) := by decide +kernel
theorem dX11_bound_80 : decode cX11_bound 80 = .ok (.ireturn, 1) := by decide +kernel
set_option maxHeartbeats 4000000 in
set_option maxRecDepth 100000 in
theorem t_X11_bound_L5 {l : Launch} {E : u_E} {K : u_K} {r : Int} {s' : u_S} (g : Wk l (XE E) { frames := 1, cells := 0, slots := 0, locals := 22 } cX11_bound 6 yX11_bound.cls yX11_bound.name (some .int) (RI E r s') K) {v0_1 : u_O} {v1_1 : Int} {v2_1 : Int} (i_v0_1 : is_Mo v0_1) (i_v1_1 : InR v1_1) (i_v2_1 : B01 v2_1) {kx79 : Int → u_S → Option (Int × u_S)} (hkx79 : ∀ (v3_3 : Int) (s_11 : u_S), InR v3_3 → kx79 v3_3 s_11 = some (r, s') → K 0 0 79 [none, none, none, some (.int (J v3_3)), none, none] [] (Wd E s_11)) : ∀ (m : Nat) (v3_2 : Int) (v4_1 : Int) (s_2 : u_S), InR v3_2 → InR v4_1 → f_X11_bound_L5 m kx79 v0_1 v1_1 v2_1 v3_2 v4_1 s_2 = some (r, s') → K 0 0 5 [some (.ref (E.1 v0_1)), some (.int (J v1_1)), some (.int (J v2_1)), some (.int (J v3_2)), some (.int (J v4_1)), none] [] (Wd E s_2) := by
  have g0 := g.wk
  intro m
  induction m with
  | zero =>
    intro v3_2 v4_1 s_2 i_v3_2 i_v4_1 h
    exact absurd (show (none : Option (Int × u_S)) = some (r, s') from h) (by intro z; cases z)
  | succ m ih =>
    intro v3_2 v4_1 s_2 i_v3_2 i_v4_1 h
    rw [f_X11_bound_L5] at h
    refine r_iload g0 dX11_bound_5 rfl ?_
    refine r_aload_n g0 dX11_bound_7 rfl ?_
    refine r_iload_n g0 dX11_bound_8 rfl ?_
    obtain ⟨r_1, s_3, hr_1, h⟩ := bd_some h
    refine r_cVI g0 (rest := [.int (J v4_1)]) (c_X11_notes i_v0_1 i_v1_1 hr_1) ok_X11_notes mX11_65 (recv_Mo i_v0_1) dX11_bound_9 ⟨Nat.le_of_ble_eq_true rfl, Nat.le_of_ble_eq_true rfl⟩ ⟨Nat.zero_le _, Nat.zero_le _⟩ rfl (Nat.le_of_ble_eq_true rfl) rfl (fun i_r_1 => ?_)
    refine r_icmp_ge g0 79 dX11_bound_12 (by decide) i_v4_1 i_r_1 (fun hc => ?_) (fun hc => ?_)
    · replace h := if_f hc h
      refine r_mask g0 (lv' := [none, none, none, some (.int (J v3_2)), none, none]) [false, false, false, true, false, false] rfl ?_
      exact hkx79 v3_2 s_3 i_v3_2 h
    · replace h := if_t hc h
      refine r_iload_n g0 dX11_bound_15 rfl ?_
      refine r_iconst g0 dX11_bound_16 ?_
      obtain ⟨jp_1, hdjp_1, h⟩ := jn_some h
      have hjp_1 : ∀ (vt_1 : Int) (s_4 : u_S), B01 vt_1 → jp_1 vt_1 s_4 = some (r, s') → K 0 0 54 [some (.ref (E.1 v0_1)), some (.int (J v1_1)), some (.int (J v2_1)), some (.int (J v3_2)), some (.int (J v4_1)), none] [.int (J vt_1)] (Wd E s_4) := by
        intro vt_1 s_4 i_vt_1 h
        subst hdjp_1
        refine r_istore g0 (lv' := [some (.ref (E.1 v0_1)), some (.int (J v1_1)), some (.int (J v2_1)), some (.int (J v3_2)), some (.int (J v4_1)), some (.int (J vt_1))]) dX11_bound_54 (by decide) rfl rfl ?_
        refine r_iload g0 dX11_bound_56 rfl ?_
        obtain ⟨jp_2, hdjp_2, h⟩ := jn_some h
        have hjp_2 : ∀ (vt_2 : Int) (s_5 : u_S), InR vt_2 → jp_2 vt_2 s_5 = some (r, s') → K 0 0 72 [some (.ref (E.1 v0_1)), some (.int (J v1_1)), some (.int (J v2_1)), none, some (.int (J v4_1)), none] [.int (J vt_2)] (Wd E s_5) := by
          intro vt_2 s_5 i_vt_2 h
          subst hdjp_2
          refine r_istore_n g0 (lv' := [some (.ref (E.1 v0_1)), some (.int (J v1_1)), some (.int (J v2_1)), some (.int (J vt_2)), some (.int (J v4_1)), none]) dX11_bound_72 (by decide) rfl rfl ?_
          refine r_iinc g0 (a := v4_1) (lv' := [some (.ref (E.1 v0_1)), some (.int (J v1_1)), some (.int (J v2_1)), some (.int (J vt_2)), some (.int (J (wr (v4_1 + 1)))), none]) dX11_bound_73 (by decide) rfl rfl rfl ?_
          refine r_goto g0 5 dX11_bound_76 (by decide) ?_
          exact ih vt_2 (wr (v4_1 + 1)) s_5 i_vt_2 (InR_wr _) h
        clear hdjp_2
        refine r_if_eq g0 71 dX11_bound_58 (by decide) (B01.inR i_vt_1) (fun hc => ?_) (fun hc => ?_)
        · replace h := if_t hc h
          refine r_iload_n g0 dX11_bound_71 rfl ?_
          refine r_mask g0 (lv' := [some (.ref (E.1 v0_1)), some (.int (J v1_1)), some (.int (J v2_1)), none, some (.int (J v4_1)), none]) [true, true, true, false, true, false] rfl ?_
          exact hjp_2 v3_2 s_4 i_v3_2 h
        · replace h := if_f hc h
          refine r_aload_n g0 dX11_bound_61 rfl ?_
          refine r_iload_n g0 dX11_bound_62 rfl ?_
          refine r_iload g0 dX11_bound_63 rfl ?_
          obtain ⟨r_2, s_6, hr_2, h⟩ := bd_some h
          refine r_cVI g0 (rest := []) (c_X11_plain i_v0_1 i_v1_1 i_v4_1 hr_2) ok_X11_plain mX11_76 (recv_Mo i_v0_1) dX11_bound_65 ⟨Nat.le_of_ble_eq_true rfl, Nat.le_of_ble_eq_true rfl⟩ ⟨Nat.zero_le _, Nat.zero_le _⟩ rfl (Nat.le_of_ble_eq_true rfl) rfl (fun i_r_2 => ?_)
          refine r_goto g0 72 dX11_bound_68 (by decide) ?_
          refine r_mask g0 (lv' := [some (.ref (E.1 v0_1)), some (.int (J v1_1)), some (.int (J v2_1)), none, some (.int (J v4_1)), none]) [true, true, true, false, true, false] rfl ?_
          exact hjp_2 r_2 s_6 i_r_2 h
      clear hdjp_1
      obtain ⟨jp_3, hdjp_3, h⟩ := jn_some h
      have hjp_3 : ∀  (s_7 : u_S), jp_3 s_7 = some (r, s') → K 0 0 49 [some (.ref (E.1 v0_1)), some (.int (J v1_1)), some (.int (J v2_1)), some (.int (J v3_2)), some (.int (J v4_1)), none] [] (Wd E s_7) := by
        intro s_7 h
        subst hdjp_3
        refine r_iconst g0 dX11_bound_49 ?_
        refine r_goto g0 54 dX11_bound_50 (by decide) ?_
        exact hjp_1 1 s_7 B01_1 h
      clear hdjp_3
      refine r_icmp_eq g0 49 dX11_bound_17 (by decide) i_v3_2 (InR_lit rfl) (fun hc => ?_) (fun hc => ?_)
      · replace h := if_t hc h
        exact hjp_3 s_3 h
      · replace h := if_f hc h
        refine r_iload_n g0 dX11_bound_20 rfl ?_
        obtain ⟨jp_4, hdjp_4, h⟩ := jn_some h
        have hjp_4 : ∀  (s_8 : u_S), jp_4 s_8 = some (r, s') → K 0 0 53 [some (.ref (E.1 v0_1)), some (.int (J v1_1)), some (.int (J v2_1)), some (.int (J v3_2)), some (.int (J v4_1)), none] [] (Wd E s_8) := by
          intro s_8 h
          subst hdjp_4
          refine r_iconst g0 dX11_bound_53 ?_
          exact hjp_1 0 s_8 B01_0 h
        clear hdjp_4
        refine r_if_eq g0 38 dX11_bound_21 (by decide) (B01.inR i_v2_1) (fun hc => ?_) (fun hc => ?_)
        · replace h := if_t hc h
          refine r_aload_n g0 dX11_bound_38 rfl ?_
          refine r_iload_n g0 dX11_bound_39 rfl ?_
          refine r_iload g0 dX11_bound_40 rfl ?_
          obtain ⟨r_3, s_9, hr_3, h⟩ := bd_some h
          refine r_cVI g0 (rest := []) (c_X11_plain i_v0_1 i_v1_1 i_v4_1 hr_3) ok_X11_plain mX11_76 (recv_Mo i_v0_1) dX11_bound_42 ⟨Nat.le_of_ble_eq_true rfl, Nat.le_of_ble_eq_true rfl⟩ ⟨Nat.zero_le _, Nat.zero_le _⟩ rfl (Nat.le_of_ble_eq_true rfl) rfl (fun i_r_3 => ?_)
          refine r_iload_n g0 dX11_bound_45 rfl ?_
          refine r_icmp_ge g0 53 dX11_bound_46 (by decide) i_r_3 i_v3_2 (fun hc => ?_) (fun hc => ?_)
          · replace h := if_f hc h
            exact hjp_4 s_9 h
          · replace h := if_t hc h
            exact hjp_3 s_9 h
        · replace h := if_f hc h
          refine r_aload_n g0 dX11_bound_24 rfl ?_
          refine r_iload_n g0 dX11_bound_25 rfl ?_
          refine r_iload g0 dX11_bound_26 rfl ?_
          obtain ⟨r_4, s_10, hr_4, h⟩ := bd_some h
          refine r_cVI g0 (rest := []) (c_X11_plain i_v0_1 i_v1_1 i_v4_1 hr_4) ok_X11_plain mX11_76 (recv_Mo i_v0_1) dX11_bound_28 ⟨Nat.le_of_ble_eq_true rfl, Nat.le_of_ble_eq_true rfl⟩ ⟨Nat.zero_le _, Nat.zero_le _⟩ rfl (Nat.le_of_ble_eq_true rfl) rfl (fun i_r_4 => ?_)
          refine r_iload_n g0 dX11_bound_31 rfl ?_
          refine r_icmp_le g0 53 dX11_bound_32 (by decide) i_r_4 i_v3_2 (fun hc => ?_) (fun hc => ?_)
          · replace h := if_t hc h
            exact hjp_4 s_10 h
          · replace h := if_f hc h
            refine r_goto g0 49 dX11_bound_35 (by decide) ?_
            exact hjp_3 s_10 h
set_option maxHeartbeats 4000000 in
set_option maxRecDepth 100000 in
theorem c_X11_bound {E : u_E} {l : Launch} {o : u_O} {p1 : Int} {p2 : Int} (ho : is_Mo o) (i_p1 : InR p1) (i_p2 : B01 p2) {s s' : u_S} {r : Int} (h : f_X11_bound o p1 p2 s = some (r, s')) : Con l (XE E) yX11_bound cX11_bound 6 (some .int) 1 22 0 0 [.ref (E.1 o), .int (J p1), .int (J p2)] (Wd E s) (RI E r s') := by
  refine Con.of [some (.ref (E.1 o)), some (.int (J p1)), some (.int (J p2)), none, none, none] (by decide +kernel) rfl rfl (Nat.le_of_ble_eq_true rfl) (fun K g => ?_)
  have g0 := g.wk
  unfold f_X11_bound at h
  refine r_iconst g0 dX11_bound_0 ?_
  refine r_istore_n g0 (lv' := [some (.ref (E.1 o)), some (.int (J p1)), some (.int (J p2)), some (.int (J (-1))), none, none]) dX11_bound_1 (by decide) rfl rfl ?_
  refine r_iconst g0 dX11_bound_2 ?_
  refine r_istore g0 (lv' := [some (.ref (E.1 o)), some (.int (J p1)), some (.int (J p2)), some (.int (J (-1))), some (.int (J 0)), none]) dX11_bound_3 (by decide) rfl rfl ?_
  refine t_X11_bound_L5 g ho i_p1 i_p2 ?_ FU (-1) 0 s (InR_lit rfl) (B01.inR B01_0) h
  · intro v3_1 s_1 i_v3_1 h
    refine r_iload_n g0 dX11_bound_79 rfl ?_
    exact z_I g dX11_bound_80 i_v3_1 h
theorem dX11_lineNow_0 : decode cX11_lineNow 0 = .ok (.iload_n 2, 1) := by decide +kernel
theorem dX11_lineNow_1 : decode cX11_lineNow 1 = .ok (.ifCond .ne 11, 3) := by decide +kernel
theorem dX11_lineNow_4 : decode cX11_lineNow 4 = .ok (.aload_n 0, 1) := by decide +kernel
theorem dX11_lineNow_5 : decode cX11_lineNow 5 = .ok (.iload_n 1, 1) := by decide +kernel
theorem dX11_lineNow_6 : decode cX11_lineNow 6 = .ok (.invokevirtual 128, 3) := by decide +kernel
theorem dX11_lineNow_9 : decode cX11_lineNow 9 = .ok (.goto 49, 3) := by decide +kernel
theorem dX11_lineNow_12 : decode cX11_lineNow 12 = .ok (.iload_n 2, 1) := by decide +kernel
theorem dX11_lineNow_13 : decode cX11_lineNow 13 = .ok (.iconst 1, 1) := by decide +kernel
theorem dX11_lineNow_14 : decode cX11_lineNow 14 = .ok (.if_icmp .ne 11, 3) := by decide +kernel
theorem dX11_lineNow_17 : decode cX11_lineNow 17 = .ok (.aload_n 0, 1) := by decide +kernel
theorem dX11_lineNow_18 : decode cX11_lineNow 18 = .ok (.iload_n 1, 1) := by decide +kernel
theorem dX11_lineNow_19 : decode cX11_lineNow 19 = .ok (.invokevirtual 65, 3) := by decide +kernel
theorem dX11_lineNow_22 : decode cX11_lineNow 22 = .ok (.goto 36, 3) := by decide +kernel
theorem dX11_lineNow_25 : decode cX11_lineNow 25 = .ok (.iload_n 2, 1) := by decide +kernel
theorem dX11_lineNow_26 : decode cX11_lineNow 26 = .ok (.iconst 2, 1) := by decide +kernel
theorem dX11_lineNow_27 : decode cX11_lineNow 27 = .ok (.if_icmp .ne 12, 3) := by decide +kernel
theorem dX11_lineNow_30 : decode cX11_lineNow 30 = .ok (.aload_n 0, 1) := by decide +kernel
theorem dX11_lineNow_31 : decode cX11_lineNow 31 = .ok (.iload_n 1, 1) := by decide +kernel
theorem dX11_lineNow_32 : decode cX11_lineNow 32 = .ok (.iconst 0, 1) := by decide +kernel
theorem dX11_lineNow_33 : decode cX11_lineNow 33 = .ok (.invokevirtual 153, 3) := by decide +kernel
theorem dX11_lineNow_36 : decode cX11_lineNow 36 = .ok (.goto 22, 3) := by decide +kernel
theorem dX11_lineNow_39 : decode cX11_lineNow 39 = .ok (.iload_n 2, 1) := by decide +kernel
theorem dX11_lineNow_40 : decode cX11_lineNow 40 = .ok (.iconst 3, 1) := by decide +kernel
theorem dX11_lineNow_41 : decode cX11_lineNow 41 = .ok (.if_icmp .ne 12, 3) := by decide +kernel
theorem dX11_lineNow_44 : decode cX11_lineNow 44 = .ok (.aload_n 0, 1) := by decide +kernel
theorem dX11_lineNow_45 : decode cX11_lineNow 45 = .ok (.iload_n 1, 1) := by decide +kernel
theorem dX11_lineNow_46 : decode cX11_lineNow 46 = .ok (.iconst 1, 1) := by decide +kernel
theorem dX11_lineNow_47 : decode cX11_lineNow 47 = .ok (.invokevirtual 153, 3) := by decide +kernel
theorem dX11_lineNow_50 : decode cX11_lineNow 50 = .ok (.goto 8, 3) := by decide +kernel
theorem dX11_lineNow_53 : decode cX11_lineNow 53 = .ok (.aload_n 0, 1) := by decide +kernel
theorem dX11_lineNow_54 : decode cX11_lineNow 54 = .ok (.iload_n 1, 1) := by decide +kernel
theorem dX11_lineNow_55 : decode cX11_lineNow 55 = .ok (.invokevirtual 90, 3) := by decide +kernel
theorem dX11_lineNow_58 : decode cX11_lineNow 58 = .ok (.ireturn, 1) := by decide +kernel
set_option maxHeartbeats 4000000 in
set_option maxRecDepth 100000 in
theorem c_X11_lineNow {E : u_E} {l : Launch} {o : u_O} {p1 : Int} {p2 : Int} (ho : is_Mo o) (i_p1 : InR p1) (i_p2 : InR p2) {s s' : u_S} {r : Int} (h : f_X11_lineNow o p1 p2 s = some (r, s')) : Con l (XE E) yX11_lineNow cX11_lineNow 3 (some .int) 2 47 0 0 [.ref (E.1 o), .int (J p1), .int (J p2)] (Wd E s) (RI E r s') := by
  refine Con.of [some (.ref (E.1 o)), some (.int (J p1)), some (.int (J p2))] (by decide +kernel) rfl rfl (Nat.le_of_ble_eq_true rfl) (fun K g => ?_)
  have g0 := g.wk
  unfold f_X11_lineNow at h
  refine r_iload_n g0 dX11_lineNow_0 rfl ?_
  refine r_if_ne g0 12 dX11_lineNow_1 (by decide) i_p2 (fun hc => ?_) (fun hc => ?_)
  · replace h := if_f hc h
    refine r_iload_n g0 dX11_lineNow_12 rfl ?_
    refine r_iconst g0 dX11_lineNow_13 ?_
    refine r_icmp_ne g0 25 dX11_lineNow_14 (by decide) i_p2 (B01.inR B01_1) (fun hc => ?_) (fun hc => ?_)
    · replace h := if_f hc h
      refine r_iload_n g0 dX11_lineNow_25 rfl ?_
      refine r_iconst g0 dX11_lineNow_26 ?_
      refine r_icmp_ne g0 39 dX11_lineNow_27 (by decide) i_p2 (InR_lit rfl) (fun hc => ?_) (fun hc => ?_)
      · replace h := if_f hc h
        refine r_iload_n g0 dX11_lineNow_39 rfl ?_
        refine r_iconst g0 dX11_lineNow_40 ?_
        refine r_icmp_ne g0 53 dX11_lineNow_41 (by decide) i_p2 (InR_lit rfl) (fun hc => ?_) (fun hc => ?_)
        · replace h := if_f hc h
          refine r_aload_n g0 dX11_lineNow_53 rfl ?_
          refine r_iload_n g0 dX11_lineNow_54 rfl ?_
          obtain ⟨r_1, s_1, hr_1, h⟩ := bd_some h
          refine r_cVI g0 (rest := []) (c_X11_entered ho i_p1 hr_1) ok_X11_entered mX11_90 (recv_Mo ho) dX11_lineNow_55 ⟨Nat.le_of_ble_eq_true rfl, Nat.le_of_ble_eq_true rfl⟩ ⟨Nat.zero_le _, Nat.zero_le _⟩ rfl (Nat.le_of_ble_eq_true rfl) rfl (fun i_r_1 => ?_)
          exact z_I g dX11_lineNow_58 i_r_1 h
        · replace h := if_t hc h
          refine r_aload_n g0 dX11_lineNow_44 rfl ?_
          refine r_iload_n g0 dX11_lineNow_45 rfl ?_
          refine r_iconst g0 dX11_lineNow_46 ?_
          obtain ⟨r_2, s_2, hr_2, h⟩ := bd_some h
          refine r_cVI g0 (rest := []) (c_X11_bound ho i_p1 B01_1 hr_2) ok_X11_bound mX11_153 (recv_Mo ho) dX11_lineNow_47 ⟨Nat.le_of_ble_eq_true rfl, Nat.le_of_ble_eq_true rfl⟩ ⟨Nat.zero_le _, Nat.zero_le _⟩ rfl (Nat.le_of_ble_eq_true rfl) rfl (fun i_r_2 => ?_)
          refine r_goto g0 58 dX11_lineNow_50 (by decide) ?_
          exact z_I g dX11_lineNow_58 i_r_2 h
      · replace h := if_t hc h
        refine r_aload_n g0 dX11_lineNow_30 rfl ?_
        refine r_iload_n g0 dX11_lineNow_31 rfl ?_
        refine r_iconst g0 dX11_lineNow_32 ?_
        obtain ⟨r_3, s_3, hr_3, h⟩ := bd_some h
        refine r_cVI g0 (rest := []) (c_X11_bound ho i_p1 B01_0 hr_3) ok_X11_bound mX11_153 (recv_Mo ho) dX11_lineNow_33 ⟨Nat.le_of_ble_eq_true rfl, Nat.le_of_ble_eq_true rfl⟩ ⟨Nat.zero_le _, Nat.zero_le _⟩ rfl (Nat.le_of_ble_eq_true rfl) rfl (fun i_r_3 => ?_)
        refine r_goto g0 58 dX11_lineNow_36 (by decide) ?_
        exact z_I g dX11_lineNow_58 i_r_3 h
    · replace h := if_t hc h
      refine r_aload_n g0 dX11_lineNow_17 rfl ?_
      refine r_iload_n g0 dX11_lineNow_18 rfl ?_
      obtain ⟨r_4, s_4, hr_4, h⟩ := bd_some h
      refine r_cVI g0 (rest := []) (c_X11_notes ho i_p1 hr_4) ok_X11_notes mX11_65 (recv_Mo ho) dX11_lineNow_19 ⟨Nat.le_of_ble_eq_true rfl, Nat.le_of_ble_eq_true rfl⟩ ⟨Nat.zero_le _, Nat.zero_le _⟩ rfl (Nat.le_of_ble_eq_true rfl) rfl (fun i_r_4 => ?_)
      refine r_goto g0 58 dX11_lineNow_22 (by decide) ?_
      exact z_I g dX11_lineNow_58 i_r_4 h
  · replace h := if_t hc h
    refine r_aload_n g0 dX11_lineNow_4 rfl ?_
    refine r_iload_n g0 dX11_lineNow_5 rfl ?_
    obtain ⟨r_5, s_5, hr_5, h⟩ := bd_some h
    refine r_cVI g0 (rest := []) (c_X11_length ho i_p1 hr_5) ok_X11_length mX11_128 (recv_Mo ho) dX11_lineNow_6 ⟨Nat.le_of_ble_eq_true rfl, Nat.le_of_ble_eq_true rfl⟩ ⟨Nat.zero_le _, Nat.zero_le _⟩ rfl (Nat.le_of_ble_eq_true rfl) rfl (fun i_r_5 => ?_)
    refine r_goto g0 58 dX11_lineNow_9 (by decide) ?_
    exact z_I g dX11_lineNow_58 i_r_5 h
theorem dX11_line_0 : decode cX11_line 0 = .ok (.iload_n 1, 1) := by decide +kernel
theorem dX11_line_1 : decode cX11_line 1 = .ok (.invokestatic 82, 3) := by decide +kernel
theorem dX11_line_4 : decode cX11_line 4 = .ok (.ifCond .eq 24, 3) := by decide +kernel
theorem dX11_line_7 : decode cX11_line 7 = .ok (.iload_n 2, 1) := by decide +kernel
theorem dX11_line_8 : decode cX11_line 8 = .ok (.i2l, 1) := by decide +kernel
theorem dX11_line_9 : decode cX11_line 9 = .ok (.lconst 0, 1) := by decide +kernel
theorem dX11_line_10 : decode cX11_line 10 = .ok (.ldc2_w 88, 3) := by decide +kernel
theorem dX11_line_13 : decode cX11_line 13 = .ok (.invokestatic 61, 3) := by decide +kernel
theorem dX11_line_16 : decode cX11_line 16 = .ok (.ifCond .eq 12, 3) := by decide +kernel
theorem dX11_line_19 : decode cX11_line 19 = .ok (.aload_n 0, 1) := by decide +kernel
theorem dX11_line_20 : decode cX11_line 20 = .ok (.iload_n 1, 1) := by decide +kernel
theorem dX11_line_21 : decode cX11_line 21 = .ok (.iload_n 2, 1) := by decide +kernel
theorem dX11_line_22 : decode cX11_line 22 = .ok (.invokevirtual 157, 3) := by decide +kernel
theorem dX11_line_25 : decode cX11_line 25 = .ok (.goto 9, 3) := by decide +kernel
theorem dX11_line_28 : decode cX11_line 28 = .ok (.aload_n 0, 1) := by decide +kernel
theorem dX11_line_29 : decode cX11_line 29 = .ok (.bipush (-2), 2) := by decide +kernel
theorem dX11_line_31 : decode cX11_line 31 = .ok (.invokevirtual 97, 3) := by decide +kernel
theorem dX11_line_34 : decode cX11_line 34 = .ok (.ireturn, 1) := by decide +kernel
set_option maxHeartbeats 4000000 in
set_option maxRecDepth 100000 in
theorem c_X11_line {E : u_E} {l : Launch} {o : u_O} {p1 : Int} {p2 : Int} (ho : is_Mo o) (i_p1 : InR p1) (i_p2 : InR p2) {s s' : u_S} {r : Int} (h : f_X11_line o p1 p2 s = some (r, s')) : Con l (XE E) yX11_line cX11_line 3 (some .int) 3 69 0 0 [.ref (E.1 o), .int (J p1), .int (J p2)] (Wd E s) (RI E r s') := by
  refine Con.of [some (.ref (E.1 o)), some (.int (J p1)), some (.int (J p2))] (by decide +kernel) rfl rfl (Nat.le_of_ble_eq_true rfl) (fun K g => ?_)
  have g0 := g.wk
  unfold f_X11_line at h
  refine r_iload_n g0 dX11_line_0 rfl ?_
  obtain ⟨r_1, s_1, hr_1, h⟩ := bd_some h
  refine r_cSZ g0 (rest := []) (c_X11_isLine i_p1 hr_1) ok_X11_isLine mX11_82 dX11_line_1 ⟨Nat.le_of_ble_eq_true rfl, Nat.le_of_ble_eq_true rfl⟩ ⟨Nat.zero_le _, Nat.zero_le _⟩ rfl (Nat.le_of_ble_eq_true rfl) rfl (fun i_r_1 => ?_)
  obtain ⟨jp_1, hdjp_1, h⟩ := jn_some h
  have hjp_1 : ∀  (s_2 : u_S), jp_1 s_2 = some (r, s') → K 0 0 28 [some (.ref (E.1 o)), none, none] [] (Wd E s_2) := by
    intro s_2 h
    subst hdjp_1
    refine r_aload_n g0 dX11_line_28 rfl ?_
    refine r_bipush g0 dX11_line_29 rfl ?_
    obtain ⟨r_2, s_3, hr_2, h⟩ := bd_some h
    refine r_cVI g0 (rest := []) (c_X11_refuses ho (InR_lit rfl) hr_2) ok_X11_refuses mX11_97 (recv_Mo ho) dX11_line_31 ⟨Nat.le_of_ble_eq_true rfl, Nat.le_of_ble_eq_true rfl⟩ ⟨Nat.zero_le _, Nat.zero_le _⟩ rfl (Nat.le_of_ble_eq_true rfl) rfl (fun i_r_2 => ?_)
    exact z_I g dX11_line_34 i_r_2 h
  clear hdjp_1
  refine r_if_eq g0 28 dX11_line_4 (by decide) (B01.inR i_r_1) (fun hc => ?_) (fun hc => ?_)
  · replace h := if_t hc h
    refine r_mask g0 (lv' := [some (.ref (E.1 o)), none, none]) [true, false, false] rfl ?_
    exact hjp_1 s_1 h
  · replace h := if_f hc h
    refine r_iload_n g0 dX11_line_7 rfl ?_
    refine r_i2l g0 dX11_line_8 i_p2 ?_
    refine r_lconst g0 (v := 0) dX11_line_9 rfl ?_
    refine r_ldc2 g0 (v := 4) dX11_line_10 kX11_88 ?_
    obtain ⟨r_3, s_4, hr_3, h⟩ := bd_some h
    refine r_cSZ g0 (rest := []) (c_X11_in (InL_i i_p2) (InL_lit rfl) (InL_lit rfl) hr_3) ok_X11_in mX11_61 dX11_line_13 ⟨Nat.le_of_ble_eq_true rfl, Nat.le_of_ble_eq_true rfl⟩ ⟨Nat.zero_le _, Nat.zero_le _⟩ rfl (Nat.le_of_ble_eq_true rfl) rfl (fun i_r_3 => ?_)
    refine r_if_eq g0 28 dX11_line_16 (by decide) (B01.inR i_r_3) (fun hc => ?_) (fun hc => ?_)
    · replace h := if_t hc h
      refine r_mask g0 (lv' := [some (.ref (E.1 o)), none, none]) [true, false, false] rfl ?_
      exact hjp_1 s_4 h
    · replace h := if_f hc h
      refine r_aload_n g0 dX11_line_19 rfl ?_
      refine r_iload_n g0 dX11_line_20 rfl ?_
      refine r_iload_n g0 dX11_line_21 rfl ?_
      obtain ⟨r_4, s_5, hr_4, h⟩ := bd_some h
      refine r_cVI g0 (rest := []) (c_X11_lineNow ho i_p1 i_p2 hr_4) ok_X11_lineNow mX11_157 (recv_Mo ho) dX11_line_22 ⟨Nat.le_of_ble_eq_true rfl, Nat.le_of_ble_eq_true rfl⟩ ⟨Nat.zero_le _, Nat.zero_le _⟩ rfl (Nat.le_of_ble_eq_true rfl) rfl (fun i_r_4 => ?_)
      refine r_goto g0 34 dX11_line_25 (by decide) ?_
      exact z_I g dX11_line_34 i_r_4 h
theorem dX11_formed_0 : decode cX11_formed 0 = .ok (.iconst 0, 1) := by decide +kernel
theorem dX11_formed_1 : decode cX11_formed 1 = .ok (.istore 4, 2) := by decide +kernel
theorem dX11_formed_3 : decode cX11_formed 3 = .ok (.iconst 0, 1) := by decide +kernel
theorem dX11_formed_4 : decode cX11_formed 4 = .ok (.istore 5, 2) := by decide +kernel
theorem dX11_formed_6 : decode cX11_formed 6 = .ok (.iload 5, 2) := by decide +kernel
theorem dX11_formed_8 : decode cX11_formed 8 = .ok (.aload_n 0, 1) := by decide +kernel
theorem dX11_formed_9 : decode cX11_formed 9 = .ok (.iload_n 1, 1) := by decide +kernel
theorem dX11_formed_10 : decode cX11_formed 10 = .ok (.invokevirtual 65, 3) := by decide +kernel
theorem dX11_formed_13 : decode cX11_formed 13 = .ok (.if_icmp .ge 113, 3) := by decide +kernel
theorem dX11_formed_16 : decode cX11_formed 16 = .ok (.iload_n 2, 1) := by decide +kernel
theorem dX11_formed_17 : decode cX11_formed 17 = .ok (.iconst 3, 1) := by decide +kernel
theorem dX11_formed_18 : decode cX11_formed 18 = .ok (.if_icmp .ne 16, 3) := by decide +kernel
theorem dX11_formed_21 : decode cX11_formed 21 = .ok (.aload_n 0, 1) := by decide +kernel
theorem dX11_formed_22 : decode cX11_formed 22 = .ok (.iload_n 1, 1) := by decide +kernel
theorem dX11_formed_23 : decode cX11_formed 23 = .ok (.invokevirtual 65, 3) := by decide +kernel
theorem dX11_formed_26 : decode cX11_formed 26 = .ok (.iconst 1, 1) := by decide +kernel
theorem dX11_formed_27 : decode cX11_formed 27 = .ok (.isub, 1) := by decide +kernel
theorem dX11_formed_28 : decode cX11_formed 28 = .ok (.iload 5, 2) := by decide +kernel
theorem dX11_formed_30 : decode cX11_formed 30 = .ok (.isub, 1) := by decide +kernel
theorem dX11_formed_31 : decode cX11_formed 31 = .ok (.goto 5, 3) := by decide +kernel
theorem dX11_formed_34 : decode cX11_formed 34 = .ok (.iload 5, 2) := by decide +kernel
theorem dX11_formed_36 : decode cX11_formed 36 = .ok (.istore 6, 2) := by decide +kernel
theorem dX11_formed_38 : decode cX11_formed 38 = .ok (.iload 4, 2) := by decide +kernel
theorem dX11_formed_40 : decode cX11_formed 40 = .ok (.iload_n 2, 1) := by decide +kernel
theorem dX11_formed_41 : decode cX11_formed 41 = .ok (.iconst 4, 1) := by decide +kernel
theorem dX11_formed_42 : decode cX11_formed 42 = .ok (.if_icmp .ne 15, 3) := by decide +kernel
theorem dX11_formed_45 : decode cX11_formed 45 = .ok (.iconst 2, 1) := by decide +kernel
theorem dX11_formed_46 : decode cX11_formed 46 = .ok (.aload_n 0, 1) := by decide +kernel
theorem dX11_formed_47 : decode cX11_formed 47 = .ok (.iload_n 1, 1) := by decide +kernel
theorem dX11_formed_48 : decode cX11_formed 48 = .ok (.iload 6, 2) := by decide +kernel
theorem dX11_formed_50 : decode cX11_formed 50 = .ok (.invokevirtual 69, 3) := by decide +kernel
theorem dX11_formed_53 : decode cX11_formed 53 = .ok (.imul, 1) := by decide +kernel
theorem dX11_formed_54 : decode cX11_formed 54 = .ok (.goto 10, 3) := by decide +kernel
theorem dX11_formed_57 : decode cX11_formed 57 = .ok (.aload_n 0, 1) := by decide +kernel
theorem dX11_formed_58 : decode cX11_formed 58 = .ok (.iload_n 1, 1) := by decide +kernel
theorem dX11_formed_59 : decode cX11_formed 59 = .ok (.iload 6, 2) := by decide +kernel
theorem dX11_formed_61 : decode cX11_formed 61 = .ok (.invokevirtual 69, 3) := by decide +kernel
theorem dX11_formed_64 : decode cX11_formed 64 = .ok (.iadd, 1) := by decide +kernel
theorem dX11_formed_65 : decode cX11_formed 65 = .ok (.istore 4, 2) := by decide +kernel
theorem dX11_formed_67 : decode cX11_formed 67 = .ok (.iload_n 3, 1) := by decide +kernel
theorem dX11_formed_68 : decode cX11_formed 68 = .ok (.iload 4, 2) := by decide +kernel
theorem dX11_formed_70 : decode cX11_formed 70 = .ok (.if_icmp .ge 50, 3) := by decide +kernel
theorem dX11_formed_73 : decode cX11_formed 73 = .ok (.iload_n 2, 1) := by decide +kernel
theorem dX11_formed_74 : decode cX11_formed 74 = .ok (.iconst 1, 1) := by decide +kernel
theorem dX11_formed_75 : decode cX11_formed 75 = .ok (.if_icmp .ne 13, 3) := by decide +kernel
theorem dX11_formed_78 : decode cX11_formed 78 = .ok (.aload_n 0, 1) := by decide +kernel
theorem dX11_formed_79 : decode cX11_formed 79 = .ok (.iload_n 1, 1) := by decide +kernel
theorem dX11_formed_80 : decode cX11_formed 80 = .ok (.iload 6, 2) := by decide +kernel
theorem dX11_formed_82 : decode cX11_formed 82 = .ok (.invokevirtual 147, 3) := by decide +kernel
theorem dX11_formed_85 : decode cX11_formed 85 = .ok (.goto 34, 3) := by decide +kernel
theorem dX11_formed_88 : decode cX11_formed 88 = .ok (.iload_n 2, 1) := by decide +kernel
theorem dX11_formed_89 : decode cX11_formed 89 = .ok (.iconst 2, 1) := by decide +kernel
theorem dX11_formed_90 : decode cX11_formed 90 = .ok (.if_icmp .ne 22, 3) := by decide +kernel
theorem dX11_formed_93 : decode cX11_formed 93 = .ok (.iconst 2, 1) := by decide +kernel
theorem dX11_formed_94 : decode cX11_formed 94 = .ok (.aload_n 0, 1) := by decide +kernel
theorem dX11_formed_95 : decode cX11_formed 95 = .ok (.iload_n 1, 1) := by decide +kernel
theorem dX11_formed_96 : decode cX11_formed 96 = .ok (.iconst 0, 1) := by decide +kernel
theorem dX11_formed_97 : decode cX11_formed 97 = .ok (.invokevirtual 76, 3) := by decide +kernel
theorem dX11_formed_100 : decode cX11_formed 100 = .ok (.imul, 1) := by decide +kernel
theorem dX11_formed_101 : decode cX11_formed 101 = .ok (.aload_n 0, 1) := by decide +kernel
theorem dX11_formed_102 : decode cX11_formed 102 = .ok (.iload_n 1, 1) := by decide +kernel
theorem dX11_formed_103 : decode cX11_formed 103 = .ok (.iload 6, 2) := by decide +kernel
theorem dX11_formed_105 : decode cX11_formed 105 = .ok (.invokevirtual 76, 3) := by decide +kernel
theorem dX11_formed_108 : decode cX11_formed 108 = .ok (.isub, 1) := by decide +kernel
theorem dX11_formed_109 : decode cX11_formed 109 = .ok (.goto 10, 3) := by decide +kernel
theorem dX11_formed_112 : decode cX11_formed 112 = .ok (.aload_n 0, 1) := by decide +kernel
theorem dX11_formed_113 : decode cX11_formed 113 = .ok (.iload_n 1, 1) := by decide +kernel
theorem dX11_formed_114 : decode cX11_formed 114 = .ok (.iload 6, 2) := by decide +kernel
theorem dX11_formed_116 : decode cX11_formed 116 = .ok (.invokevirtual 76, 3) := by decide +kernel
theorem dX11_formed_119 : decode cX11_formed 119 = .ok (.ireturn, 1) := by decide +kernel
theorem dX11_formed_120 : decode cX11_formed 120 = .ok (.iinc 5 1, 3) := by decide +kernel
theorem dX11_formed_123 : decode cX11_formed 123 = .ok (.goto (-117), 3) := by decide +kernel
theorem dX11_formed_126 : decode cX11_formed 126 = .ok (.sipush (-1000), 3) := by decide +kernel
theorem dX11_formed_129 : decode cX11_formed 129 = .ok (.ireturn, 1) := by decide +kernel
set_option maxHeartbeats 4000000 in
set_option maxRecDepth 100000 in
theorem t_X11_formed_L6 {l : Launch} {E : u_E} {K : u_K} {r : Int} {s' : u_S} (g : Wk l (XE E) { frames := 2, cells := 0, slots := 0, locals := 45 } cX11_formed 7 yX11_formed.cls yX11_formed.name (some .int) (RI E r s') K) {v0_1 : u_O} {v1_1 : Int} {v2_1 : Int} {v3_1 : Int} (i_v0_1 : is_Mo v0_1) (i_v1_1 : InR v1_1) (i_v2_1 : InR v2_1) (i_v3_1 : InR v3_1) {kx126 : u_S → Option (Int × u_S)} (hkx126 : ∀ (s_13 : u_S), kx126 s_13 = some (r, s') → K 0 0 126 [none, none, none, none, none, none, none] [] (Wd E s_13)) : ∀ (m : Nat) (v4_1 : Int) (v5_1 : Int) (s_2 : u_S), InR v4_1 → InR v5_1 → f_X11_formed_L6 m kx126 v0_1 v1_1 v2_1 v3_1 v4_1 v5_1 s_2 = some (r, s') → K 0 0 6 [some (.ref (E.1 v0_1)), some (.int (J v1_1)), some (.int (J v2_1)), some (.int (J v3_1)), some (.int (J v4_1)), some (.int (J v5_1)), none] [] (Wd E s_2) := by
  have g0 := g.wk
  intro m
  induction m with
  | zero =>
    intro v4_1 v5_1 s_2 i_v4_1 i_v5_1 h
    exact absurd (show (none : Option (Int × u_S)) = some (r, s') from h) (by intro z; cases z)
  | succ m ih =>
    intro v4_1 v5_1 s_2 i_v4_1 i_v5_1 h
    rw [f_X11_formed_L6] at h
    refine r_iload g0 dX11_formed_6 rfl ?_
    refine r_aload_n g0 dX11_formed_8 rfl ?_
    refine r_iload_n g0 dX11_formed_9 rfl ?_
    obtain ⟨r_1, s_3, hr_1, h⟩ := bd_some h
    refine r_cVI g0 (rest := [.int (J v5_1)]) (c_X11_notes i_v0_1 i_v1_1 hr_1) ok_X11_notes mX11_65 (recv_Mo i_v0_1) dX11_formed_10 ⟨Nat.le_of_ble_eq_true rfl, Nat.le_of_ble_eq_true rfl⟩ ⟨Nat.zero_le _, Nat.zero_le _⟩ rfl (Nat.le_of_ble_eq_true rfl) rfl (fun i_r_1 => ?_)
    refine r_icmp_ge g0 126 dX11_formed_13 (by decide) i_v5_1 i_r_1 (fun hc => ?_) (fun hc => ?_)
    · replace h := if_f hc h
      refine r_mask g0 (lv' := [none, none, none, none, none, none, none]) [false, false, false, false, false, false, false] rfl ?_
      exact hkx126 s_3 h
    · replace h := if_t hc h
      refine r_iload_n g0 dX11_formed_16 rfl ?_
      refine r_iconst g0 dX11_formed_17 ?_
      obtain ⟨jp_1, hdjp_1, h⟩ := jn_some h
      have hjp_1 : ∀ (vt_1 : Int) (s_4 : u_S), InR vt_1 → jp_1 vt_1 s_4 = some (r, s') → K 0 0 36 [some (.ref (E.1 v0_1)), some (.int (J v1_1)), some (.int (J v2_1)), some (.int (J v3_1)), some (.int (J v4_1)), some (.int (J v5_1)), none] [.int (J vt_1)] (Wd E s_4) := by
        intro vt_1 s_4 i_vt_1 h
        subst hdjp_1
        refine r_istore g0 (lv' := [some (.ref (E.1 v0_1)), some (.int (J v1_1)), some (.int (J v2_1)), some (.int (J v3_1)), some (.int (J v4_1)), some (.int (J v5_1)), some (.int (J vt_1))]) dX11_formed_36 (by decide) rfl rfl ?_
        refine r_iload g0 dX11_formed_38 rfl ?_
        refine r_iload_n g0 dX11_formed_40 rfl ?_
        refine r_iconst g0 dX11_formed_41 ?_
        obtain ⟨jp_2, hdjp_2, h⟩ := jn_some h
        have hjp_2 : ∀ (vt_2 : Int) (vt_3 : Int) (s_5 : u_S), InR vt_2 → InR vt_3 → jp_2 vt_2 vt_3 s_5 = some (r, s') → K 0 0 64 [some (.ref (E.1 v0_1)), some (.int (J v1_1)), some (.int (J v2_1)), some (.int (J v3_1)), none, some (.int (J v5_1)), some (.int (J vt_1))] [.int (J vt_3), .int (J vt_2)] (Wd E s_5) := by
          intro vt_2 vt_3 s_5 i_vt_2 i_vt_3 h
          subst hdjp_2
          refine r_iadd g0 dX11_formed_64 ?_
          refine r_istore g0 (lv' := [some (.ref (E.1 v0_1)), some (.int (J v1_1)), some (.int (J v2_1)), some (.int (J v3_1)), some (.int (J (wr (vt_2 + vt_3)))), some (.int (J v5_1)), some (.int (J vt_1))]) dX11_formed_65 (by decide) rfl rfl ?_
          refine r_iload_n g0 dX11_formed_67 rfl ?_
          refine r_iload g0 dX11_formed_68 rfl ?_
          refine r_icmp_ge g0 120 dX11_formed_70 (by decide) i_v3_1 (InR_wr _) (fun hc => ?_) (fun hc => ?_)
          · replace h := if_f hc h
            refine r_iinc g0 (a := v5_1) (lv' := [some (.ref (E.1 v0_1)), some (.int (J v1_1)), some (.int (J v2_1)), some (.int (J v3_1)), some (.int (J (wr (vt_2 + vt_3)))), some (.int (J (wr (v5_1 + 1)))), some (.int (J vt_1))]) dX11_formed_120 (by decide) rfl rfl rfl ?_
            refine r_goto g0 6 dX11_formed_123 (by decide) ?_
            refine r_mask g0 (lv' := [some (.ref (E.1 v0_1)), some (.int (J v1_1)), some (.int (J v2_1)), some (.int (J v3_1)), some (.int (J (wr (vt_2 + vt_3)))), some (.int (J (wr (v5_1 + 1)))), none]) [true, true, true, true, true, true, false] rfl ?_
            exact ih (wr (vt_2 + vt_3)) (wr (v5_1 + 1)) s_5 (InR_wr _) (InR_wr _) h
          · replace h := if_t hc h
            refine r_iload_n g0 dX11_formed_73 rfl ?_
            refine r_iconst g0 dX11_formed_74 ?_
            refine r_icmp_ne g0 88 dX11_formed_75 (by decide) i_v2_1 (B01.inR B01_1) (fun hc => ?_) (fun hc => ?_)
            · replace h := if_f hc h
              refine r_iload_n g0 dX11_formed_88 rfl ?_
              refine r_iconst g0 dX11_formed_89 ?_
              refine r_icmp_ne g0 112 dX11_formed_90 (by decide) i_v2_1 (InR_lit rfl) (fun hc => ?_) (fun hc => ?_)
              · replace h := if_f hc h
                refine r_aload_n g0 dX11_formed_112 rfl ?_
                refine r_iload_n g0 dX11_formed_113 rfl ?_
                refine r_iload g0 dX11_formed_114 rfl ?_
                obtain ⟨r_2, s_6, hr_2, h⟩ := bd_some h
                refine r_cVI g0 (rest := []) (c_X11_plain i_v0_1 i_v1_1 i_vt_1 hr_2) ok_X11_plain mX11_76 (recv_Mo i_v0_1) dX11_formed_116 ⟨Nat.le_of_ble_eq_true rfl, Nat.le_of_ble_eq_true rfl⟩ ⟨Nat.zero_le _, Nat.zero_le _⟩ rfl (Nat.le_of_ble_eq_true rfl) rfl (fun i_r_2 => ?_)
                exact z_I g dX11_formed_119 i_r_2 h
              · replace h := if_t hc h
                refine r_iconst g0 dX11_formed_93 ?_
                refine r_aload_n g0 dX11_formed_94 rfl ?_
                refine r_iload_n g0 dX11_formed_95 rfl ?_
                refine r_iconst g0 dX11_formed_96 ?_
                obtain ⟨r_3, s_7, hr_3, h⟩ := bd_some h
                refine r_cVI g0 (rest := [.int (J 2)]) (c_X11_plain i_v0_1 i_v1_1 (B01.inR B01_0) hr_3) ok_X11_plain mX11_76 (recv_Mo i_v0_1) dX11_formed_97 ⟨Nat.le_of_ble_eq_true rfl, Nat.le_of_ble_eq_true rfl⟩ ⟨Nat.zero_le _, Nat.zero_le _⟩ rfl (Nat.le_of_ble_eq_true rfl) rfl (fun i_r_3 => ?_)
                refine r_imul g0 dX11_formed_100 ?_
                refine r_aload_n g0 dX11_formed_101 rfl ?_
                refine r_iload_n g0 dX11_formed_102 rfl ?_
                refine r_iload g0 dX11_formed_103 rfl ?_
                obtain ⟨r_4, s_8, hr_4, h⟩ := bd_some h
                refine r_cVI g0 (rest := [.int (J (wr (2 * r_3)))]) (c_X11_plain i_v0_1 i_v1_1 i_vt_1 hr_4) ok_X11_plain mX11_76 (recv_Mo i_v0_1) dX11_formed_105 ⟨Nat.le_of_ble_eq_true rfl, Nat.le_of_ble_eq_true rfl⟩ ⟨Nat.zero_le _, Nat.zero_le _⟩ rfl (Nat.le_of_ble_eq_true rfl) rfl (fun i_r_4 => ?_)
                refine r_isub g0 dX11_formed_108 ?_
                refine r_goto g0 119 dX11_formed_109 (by decide) ?_
                exact z_I g dX11_formed_119 (InR_wr _) h
            · replace h := if_t hc h
              refine r_aload_n g0 dX11_formed_78 rfl ?_
              refine r_iload_n g0 dX11_formed_79 rfl ?_
              refine r_iload g0 dX11_formed_80 rfl ?_
              obtain ⟨r_5, s_9, hr_5, h⟩ := bd_some h
              refine r_cVI g0 (rest := []) (c_X11_answered i_v0_1 i_v1_1 i_vt_1 hr_5) ok_X11_answered mX11_147 (recv_Mo i_v0_1) dX11_formed_82 ⟨Nat.le_of_ble_eq_true rfl, Nat.le_of_ble_eq_true rfl⟩ ⟨Nat.zero_le _, Nat.zero_le _⟩ rfl (Nat.le_of_ble_eq_true rfl) rfl (fun i_r_5 => ?_)
              refine r_goto g0 119 dX11_formed_85 (by decide) ?_
              exact z_I g dX11_formed_119 i_r_5 h
        clear hdjp_2
        refine r_icmp_ne g0 57 dX11_formed_42 (by decide) i_v2_1 (InR_lit rfl) (fun hc => ?_) (fun hc => ?_)
        · replace h := if_f hc h
          refine r_aload_n g0 dX11_formed_57 rfl ?_
          refine r_iload_n g0 dX11_formed_58 rfl ?_
          refine r_iload g0 dX11_formed_59 rfl ?_
          obtain ⟨r_6, s_10, hr_6, h⟩ := bd_some h
          refine r_cVI g0 (rest := [.int (J v4_1)]) (c_X11_ticks i_v0_1 i_v1_1 i_vt_1 hr_6) ok_X11_ticks mX11_69 (recv_Mo i_v0_1) dX11_formed_61 ⟨Nat.le_of_ble_eq_true rfl, Nat.le_of_ble_eq_true rfl⟩ ⟨Nat.zero_le _, Nat.zero_le _⟩ rfl (Nat.le_of_ble_eq_true rfl) rfl (fun i_r_6 => ?_)
          refine r_mask g0 (lv' := [some (.ref (E.1 v0_1)), some (.int (J v1_1)), some (.int (J v2_1)), some (.int (J v3_1)), none, some (.int (J v5_1)), some (.int (J vt_1))]) [true, true, true, true, false, true, true] rfl ?_
          exact hjp_2 v4_1 r_6 s_10 i_v4_1 i_r_6 h
        · replace h := if_t hc h
          refine r_iconst g0 dX11_formed_45 ?_
          refine r_aload_n g0 dX11_formed_46 rfl ?_
          refine r_iload_n g0 dX11_formed_47 rfl ?_
          refine r_iload g0 dX11_formed_48 rfl ?_
          obtain ⟨r_7, s_11, hr_7, h⟩ := bd_some h
          refine r_cVI g0 (rest := [.int (J 2), .int (J v4_1)]) (c_X11_ticks i_v0_1 i_v1_1 i_vt_1 hr_7) ok_X11_ticks mX11_69 (recv_Mo i_v0_1) dX11_formed_50 ⟨Nat.le_of_ble_eq_true rfl, Nat.le_of_ble_eq_true rfl⟩ ⟨Nat.zero_le _, Nat.zero_le _⟩ rfl (Nat.le_of_ble_eq_true rfl) rfl (fun i_r_7 => ?_)
          refine r_imul g0 dX11_formed_53 ?_
          refine r_goto g0 64 dX11_formed_54 (by decide) ?_
          refine r_mask g0 (lv' := [some (.ref (E.1 v0_1)), some (.int (J v1_1)), some (.int (J v2_1)), some (.int (J v3_1)), none, some (.int (J v5_1)), some (.int (J vt_1))]) [true, true, true, true, false, true, true] rfl ?_
          exact hjp_2 v4_1 (wr (2 * r_7)) s_11 i_v4_1 (InR_wr _) h
      clear hdjp_1
      refine r_icmp_ne g0 34 dX11_formed_18 (by decide) i_v2_1 (InR_lit rfl) (fun hc => ?_) (fun hc => ?_)
      · replace h := if_f hc h
        refine r_iload g0 dX11_formed_34 rfl ?_
        exact hjp_1 v5_1 s_3 i_v5_1 h
      · replace h := if_t hc h
        refine r_aload_n g0 dX11_formed_21 rfl ?_
        refine r_iload_n g0 dX11_formed_22 rfl ?_
        obtain ⟨r_8, s_12, hr_8, h⟩ := bd_some h
        refine r_cVI g0 (rest := []) (c_X11_notes i_v0_1 i_v1_1 hr_8) ok_X11_notes mX11_65 (recv_Mo i_v0_1) dX11_formed_23 ⟨Nat.le_of_ble_eq_true rfl, Nat.le_of_ble_eq_true rfl⟩ ⟨Nat.zero_le _, Nat.zero_le _⟩ rfl (Nat.le_of_ble_eq_true rfl) rfl (fun i_r_8 => ?_)
        refine r_iconst g0 dX11_formed_26 ?_
        refine r_isub g0 dX11_formed_27 ?_
        refine r_iload g0 dX11_formed_28 rfl ?_
        refine r_isub g0 dX11_formed_30 ?_
        refine r_goto g0 36 dX11_formed_31 (by decide) ?_
        exact hjp_1 (wr ((wr (r_8 - 1)) - v5_1)) s_12 (InR_wr _) h
set_option maxHeartbeats 4000000 in
set_option maxRecDepth 100000 in
theorem c_X11_formed {E : u_E} {l : Launch} {o : u_O} {p1 : Int} {p2 : Int} {p3 : Int} (ho : is_Mo o) (i_p1 : InR p1) (i_p2 : InR p2) (i_p3 : InR p3) {s s' : u_S} {r : Int} (h : f_X11_formed o p1 p2 p3 s = some (r, s')) : Con l (XE E) yX11_formed cX11_formed 7 (some .int) 2 45 0 0 [.ref (E.1 o), .int (J p1), .int (J p2), .int (J p3)] (Wd E s) (RI E r s') := by
  refine Con.of [some (.ref (E.1 o)), some (.int (J p1)), some (.int (J p2)), some (.int (J p3)), none, none, none] (by decide +kernel) rfl rfl (Nat.le_of_ble_eq_true rfl) (fun K g => ?_)
  have g0 := g.wk
  unfold f_X11_formed at h
  refine r_iconst g0 dX11_formed_0 ?_
  refine r_istore g0 (lv' := [some (.ref (E.1 o)), some (.int (J p1)), some (.int (J p2)), some (.int (J p3)), some (.int (J 0)), none, none]) dX11_formed_1 (by decide) rfl rfl ?_
  refine r_iconst g0 dX11_formed_3 ?_
  refine r_istore g0 (lv' := [some (.ref (E.1 o)), some (.int (J p1)), some (.int (J p2)), some (.int (J p3)), some (.int (J 0)), some (.int (J 0)), none]) dX11_formed_4 (by decide) rfl rfl ?_
  refine t_X11_formed_L6 g ho i_p1 i_p2 i_p3 ?_ FU 0 0 s (B01.inR B01_0) (B01.inR B01_0) h
  · intro s_1 h
    refine r_sipush g0 dX11_formed_126 rfl ?_
    exact z_I g dX11_formed_129 (InR_lit rfl) h
theorem dX11_lasts_0 : decode cX11_lasts 0 = .ok (.iload_n 2, 1) := by decide +kernel
theorem dX11_lasts_1 : decode cX11_lasts 1 = .ok (.iconst 4, 1) := by decide +kernel
theorem dX11_lasts_2 : decode cX11_lasts 2 = .ok (.if_icmp .ne 13, 3) := by decide +kernel
theorem dX11_lasts_5 : decode cX11_lasts 5 = .ok (.iconst 2, 1) := by decide +kernel
theorem dX11_lasts_6 : decode cX11_lasts 6 = .ok (.aload_n 0, 1) := by decide +kernel
theorem dX11_lasts_7 : decode cX11_lasts 7 = .ok (.iload_n 1, 1) := by decide +kernel
theorem dX11_lasts_8 : decode cX11_lasts 8 = .ok (.invokevirtual 128, 3) := by decide +kernel
theorem dX11_lasts_11 : decode cX11_lasts 11 = .ok (.imul, 1) := by decide +kernel
theorem dX11_lasts_12 : decode cX11_lasts 12 = .ok (.goto 8, 3) := by decide +kernel
theorem dX11_lasts_15 : decode cX11_lasts 15 = .ok (.aload_n 0, 1) := by decide +kernel
theorem dX11_lasts_16 : decode cX11_lasts 16 = .ok (.iload_n 1, 1) := by decide +kernel
theorem dX11_lasts_17 : decode cX11_lasts 17 = .ok (.invokevirtual 128, 3) := by decide +kernel
theorem dX11_lasts_20 : decode cX11_lasts 20 = .ok (.ireturn, 1) := by decide +kernel
set_option maxHeartbeats 4000000 in
set_option maxRecDepth 100000 in
theorem c_X11_lasts {E : u_E} {l : Launch} {o : u_O} {p1 : Int} {p2 : Int} (ho : is_Mo o) (i_p1 : InR p1) (i_p2 : InR p2) {s s' : u_S} {r : Int} (h : f_X11_lasts o p1 p2 s = some (r, s')) : Con l (XE E) yX11_lasts cX11_lasts 3 (some .int) 2 45 0 0 [.ref (E.1 o), .int (J p1), .int (J p2)] (Wd E s) (RI E r s') := by
  refine Con.of [some (.ref (E.1 o)), some (.int (J p1)), some (.int (J p2))] (by decide +kernel) rfl rfl (Nat.le_of_ble_eq_true rfl) (fun K g => ?_)
  have g0 := g.wk
  unfold f_X11_lasts at h
  refine r_iload_n g0 dX11_lasts_0 rfl ?_
  refine r_iconst g0 dX11_lasts_1 ?_
  refine r_icmp_ne g0 15 dX11_lasts_2 (by decide) i_p2 (InR_lit rfl) (fun hc => ?_) (fun hc => ?_)
  · replace h := if_f hc h
    refine r_aload_n g0 dX11_lasts_15 rfl ?_
    refine r_iload_n g0 dX11_lasts_16 rfl ?_
    obtain ⟨r_1, s_1, hr_1, h⟩ := bd_some h
    refine r_cVI g0 (rest := []) (c_X11_length ho i_p1 hr_1) ok_X11_length mX11_128 (recv_Mo ho) dX11_lasts_17 ⟨Nat.le_of_ble_eq_true rfl, Nat.le_of_ble_eq_true rfl⟩ ⟨Nat.zero_le _, Nat.zero_le _⟩ rfl (Nat.le_of_ble_eq_true rfl) rfl (fun i_r_1 => ?_)
    exact z_I g dX11_lasts_20 i_r_1 h
  · replace h := if_t hc h
    refine r_iconst g0 dX11_lasts_5 ?_
    refine r_aload_n g0 dX11_lasts_6 rfl ?_
    refine r_iload_n g0 dX11_lasts_7 rfl ?_
    obtain ⟨r_2, s_2, hr_2, h⟩ := bd_some h
    refine r_cVI g0 (rest := [.int (J 2)]) (c_X11_length ho i_p1 hr_2) ok_X11_length mX11_128 (recv_Mo ho) dX11_lasts_8 ⟨Nat.le_of_ble_eq_true rfl, Nat.le_of_ble_eq_true rfl⟩ ⟨Nat.zero_le _, Nat.zero_le _⟩ rfl (Nat.le_of_ble_eq_true rfl) rfl (fun i_r_2 => ?_)
    refine r_imul g0 dX11_lasts_11 ?_
    refine r_goto g0 20 dX11_lasts_12 (by decide) ?_
    exact z_I g dX11_lasts_20 (InR_wr _) h
