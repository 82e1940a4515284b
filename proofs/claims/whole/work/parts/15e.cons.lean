/-! THE CONTRACTS: the bytecode does what the functions say (by program, wip/whole/gen) -/
theorem dX7_parseNumber_0 : decode cX7_parseNumber 0 = .ok (.aload_n 0, 1) := by decide +kernel
theorem dX7_parseNumber_1 : decode cX7_parseNumber 1 = .ok (.getfield 37, 3) := by decide +kernel
theorem dX7_parseNumber_4 : decode cX7_parseNumber 4 = .ok (.iconst (-1), 1) := by decide +kernel
theorem dX7_parseNumber_5 : decode cX7_parseNumber 5 = .ok (.if_icmp .eq 4, 3) := by decide +kernel
theorem dX7_parseNumber_8 : decode cX7_parseNumber 8 = .ok (.return_, 1) := by decide +kernel
theorem dX7_parseNumber_9 : decode cX7_parseNumber 9 = .ok (.aload_n 0, 1) := by decide +kernel
theorem dX7_parseNumber_10 : decode cX7_parseNumber 10 = .ok (.invokevirtual 40, 3) := by decide +kernel
theorem dX7_parseNumber_13 : decode cX7_parseNumber 13 = .ok (.aload_n 0, 1) := by decide +kernel
theorem dX7_parseNumber_14 : decode cX7_parseNumber 14 = .ok (.getfield 34, 3) := by decide +kernel
theorem dX7_parseNumber_17 : decode cX7_parseNumber 17 = .ok (.istore_n 2, 1) := by decide +kernel
theorem dX7_parseNumber_18 : decode cX7_parseNumber 18 = .ok (.iload_n 1, 1) := by decide +kernel
theorem dX7_parseNumber_19 : decode cX7_parseNumber 19 = .ok (.ifCond .eq 16, 3) := by decide +kernel
theorem dX7_parseNumber_22 : decode cX7_parseNumber 22 = .ok (.aload_n 0, 1) := by decide +kernel
theorem dX7_parseNumber_23 : decode cX7_parseNumber 23 = .ok (.invokevirtual 46, 3) := by decide +kernel
theorem dX7_parseNumber_26 : decode cX7_parseNumber 26 = .ok (.bipush 45, 2) := by decide +kernel
theorem dX7_parseNumber_28 : decode cX7_parseNumber 28 = .ok (.if_icmp .ne 7, 3) := by decide +kernel
theorem dX7_parseNumber_31 : decode cX7_parseNumber 31 = .ok (.iconst 1, 1) := by decide +kernel
theorem dX7_parseNumber_32 : decode cX7_parseNumber 32 = .ok (.goto 4, 3) := by decide +kernel
theorem dX7_parseNumber_35 : decode cX7_parseNumber 35 = .ok (.iconst 0, 1) := by decide +kernel
theorem dX7_parseNumber_36 : decode cX7_parseNumber 36 = .ok (.istore_n 3, 1) := by decide +kernel
theorem dX7_parseNumber_37 : decode cX7_parseNumber 37 = .ok (.iload_n 3, 1) := by decide +kernel
theorem dX7_parseNumber_38 : decode cX7_parseNumber 38 = .ok (.ifCond .eq 13, 3) := by decide +kernel
theorem dX7_parseNumber_41 : decode cX7_parseNumber 41 = .ok (.aload_n 0, 1) := by decide +kernel
theorem dX7_parseNumber_42 : decode cX7_parseNumber 42 = .ok (.dup, 1) := by decide +kernel
theorem dX7_parseNumber_43 : decode cX7_parseNumber 43 = .ok (.getfield 34, 3) := by decide +kernel
theorem dX7_parseNumber_46 : decode cX7_parseNumber 46 = .ok (.iconst 1, 1) := by decide +kernel
theorem dX7_parseNumber_47 : decode cX7_parseNumber 47 = .ok (.iadd, 1) := by decide +kernel
theorem dX7_parseNumber_48 : decode cX7_parseNumber 48 = .ok (.putfield 34, 3) := by decide +kernel
theorem dX7_parseNumber_51 : decode cX7_parseNumber 51 = .ok (.iconst 0, 1) := by decide +kernel
theorem dX7_parseNumber_52 : decode cX7_parseNumber 52 = .ok (.istore 4, 2) := by decide +kernel
theorem dX7_parseNumber_54 : decode cX7_parseNumber 54 = .ok (.iconst 0, 1) := by decide +kernel
theorem dX7_parseNumber_55 : decode cX7_parseNumber 55 = .ok (.istore 5, 2) := by decide +kernel
theorem dX7_parseNumber_57 : decode cX7_parseNumber 57 = .ok (.aload_n 0, 1) := by decide +kernel
theorem dX7_parseNumber_58 : decode cX7_parseNumber 58 = .ok (.getfield 34, 3) := by decide +kernel
theorem dX7_parseNumber_61 : decode cX7_parseNumber 61 = .ok (.aload_n 0, 1) := by decide +kernel
theorem dX7_parseNumber_62 : decode cX7_parseNumber 62 = .ok (.getfield 24, 3) := by decide +kernel
theorem dX7_parseNumber_65 : decode cX7_parseNumber 65 = .ok (.if_icmp .ge 50, 3) := by decide +kernel
theorem dX7_parseNumber_68 : decode cX7_parseNumber 68 = .ok (.aload_n 0, 1) := by decide +kernel
theorem dX7_parseNumber_69 : decode cX7_parseNumber 69 = .ok (.invokevirtual 46, 3) := by decide +kernel
theorem dX7_parseNumber_72 : decode cX7_parseNumber 72 = .ok (.invokestatic 84, 3) := by decide +kernel
theorem dX7_parseNumber_75 : decode cX7_parseNumber 75 = .ok (.ifCond .eq 40, 3) := by decide +kernel
theorem dX7_parseNumber_78 : decode cX7_parseNumber 78 = .ok (.iload 4, 2) := by decide +kernel
theorem dX7_parseNumber_80 : decode cX7_parseNumber 80 = .ok (.iconst 3, 1) := by decide +kernel
theorem dX7_parseNumber_81 : decode cX7_parseNumber 81 = .ok (.if_icmp .ge 18, 3) := by decide +kernel
theorem dX7_parseNumber_84 : decode cX7_parseNumber 84 = .ok (.bipush 10, 2) := by decide +kernel
theorem dX7_parseNumber_86 : decode cX7_parseNumber 86 = .ok (.iload 5, 2) := by decide +kernel
theorem dX7_parseNumber_88 : decode cX7_parseNumber 88 = .ok (.imul, 1) := by decide +kernel
theorem dX7_parseNumber_89 : decode cX7_parseNumber 89 = .ok (.aload_n 0, 1) := by decide +kernel
theorem dX7_parseNumber_90 : decode cX7_parseNumber 90 = .ok (.invokevirtual 46, 3) := by decide +kernel
theorem dX7_parseNumber_93 : decode cX7_parseNumber 93 = .ok (.iadd, 1) := by decide +kernel
theorem dX7_parseNumber_94 : decode cX7_parseNumber 94 = .ok (.bipush 48, 2) := by decide +kernel
theorem dX7_parseNumber_96 : decode cX7_parseNumber 96 = .ok (.isub, 1) := by decide +kernel
theorem dX7_parseNumber_97 : decode cX7_parseNumber 97 = .ok (.istore 5, 2) := by decide +kernel
theorem dX7_parseNumber_99 : decode cX7_parseNumber 99 = .ok (.iinc 4 1, 3) := by decide +kernel
theorem dX7_parseNumber_102 : decode cX7_parseNumber 102 = .ok (.aload_n 0, 1) := by decide +kernel
theorem dX7_parseNumber_103 : decode cX7_parseNumber 103 = .ok (.dup, 1) := by decide +kernel
theorem dX7_parseNumber_104 : decode cX7_parseNumber 104 = .ok (.getfield 34, 3) := by decide +kernel
theorem dX7_parseNumber_107 : decode cX7_parseNumber 107 = .ok (.iconst 1, 1) := by decide +kernel
theorem dX7_parseNumber_108 : decode cX7_parseNumber 108 = .ok (.iadd, 1) := by decide +kernel
theorem dX7_parseNumber_109 : decode cX7_parseNumber 109 = .ok (.putfield 34, 3) := by decide +kernel
theorem dX7_parseNumber_112 : decode cX7_parseNumber 112 = .ok (.goto (-55), 3) := by decide +kernel
theorem dX7_parseNumber_115 : decode cX7_parseNumber 115 = .ok (.iload 4, 2) := by decide +kernel
theorem dX7_parseNumber_117 : decode cX7_parseNumber 117 = .ok (.ifCond .ne 14, 3) := by decide +kernel
theorem dX7_parseNumber_120 : decode cX7_parseNumber 120 = .ok (.aload_n 0, 1) := by decide +kernel
theorem dX7_parseNumber_121 : decode cX7_parseNumber 121 = .ok (.aload_n 0, 1) := by decide +kernel
theorem dX7_parseNumber_122 : decode cX7_parseNumber 122 = .ok (.getfield 34, 3) := by decide +kernel
theorem dX7_parseNumber_125 : decode cX7_parseNumber 125 = .ok (.invokevirtual 50, 3) := by decide +kernel
theorem dX7_parseNumber_128 : decode cX7_parseNumber 128 = .ok (.goto 33, 3) := by decide +kernel
theorem dX7_parseNumber_131 : decode cX7_parseNumber 131 = .ok (.iload 4, 2) := by decide +kernel
theorem dX7_parseNumber_133 : decode cX7_parseNumber 133 = .ok (.iconst 3, 1) := by decide +kernel
theorem dX7_parseNumber_134 : decode cX7_parseNumber 134 = .ok (.if_icmp .le 11, 3) := by decide +kernel
theorem dX7_parseNumber_137 : decode cX7_parseNumber 137 = .ok (.aload_n 0, 1) := by decide +kernel
theorem dX7_parseNumber_138 : decode cX7_parseNumber 138 = .ok (.iload_n 2, 1) := by decide +kernel
theorem dX7_parseNumber_139 : decode cX7_parseNumber 139 = .ok (.invokevirtual 50, 3) := by decide +kernel
theorem dX7_parseNumber_142 : decode cX7_parseNumber 142 = .ok (.goto 19, 3) := by decide +kernel
theorem dX7_parseNumber_145 : decode cX7_parseNumber 145 = .ok (.aload_n 0, 1) := by decide +kernel
theorem dX7_parseNumber_146 : decode cX7_parseNumber 146 = .ok (.iload_n 3, 1) := by decide +kernel
theorem dX7_parseNumber_147 : decode cX7_parseNumber 147 = .ok (.ifCond .eq 9, 3) := by decide +kernel
theorem dX7_parseNumber_150 : decode cX7_parseNumber 150 = .ok (.iload 5, 2) := by decide +kernel
theorem dX7_parseNumber_152 : decode cX7_parseNumber 152 = .ok (.ineg, 1) := by decide +kernel
theorem dX7_parseNumber_153 : decode cX7_parseNumber 153 = .ok (.goto 5, 3) := by decide +kernel
theorem dX7_parseNumber_156 : decode cX7_parseNumber 156 = .ok (.iload 5, 2) := by decide +kernel
theorem dX7_parseNumber_158 : decode cX7_parseNumber 158 = .ok (.invokevirtual 87, 3) := by decide +kernel
theorem dX7_parseNumber_161 : decode cX7_parseNumber 161 = .ok (.return_, 1) := by decide +kernel
set_option maxHeartbeats 4000000 in
set_option maxRecDepth 100000 in
theorem t_X7_parseNumber_L57 {l : Launch} {E : u_E} {K : u_K} {r : Int} {s' : u_S} (g : Wk l (XE E) { frames := 2, cells := 0, slots := 0, locals := 40 } cX7_parseNumber 6 yX7_parseNumber.cls yX7_parseNumber.name none (RV E r s') K) {v0_1 : u_O} {v2_1 : Int} {v3_1 : Int} (i_v0_1 : is_Reader v0_1) (i_v2_1 : InR v2_1) (i_v3_1 : B01 v3_1) {kx115 : Int → Int → u_S → Option (Int × u_S)} (hkx115 : ∀ (v4_3 : Int) (v5_4 : Int) (s_14 : u_S), InR v4_3 → InR v5_4 → kx115 v4_3 v5_4 s_14 = some (r, s') → K 0 0 115 [some (.ref (E.1 v0_1)), none, some (.int (J v2_1)), some (.int (J v3_1)), some (.int (J v4_3)), some (.int (J v5_4))] [] (Wd E s_14)) : ∀ (m : Nat) (v4_2 : Int) (v5_2 : Int) (s_9 : u_S), InR v4_2 → InR v5_2 → f_X7_parseNumber_L57 m kx115 v0_1 v2_1 v3_1 v4_2 v5_2 s_9 = some (r, s') → K 0 0 57 [some (.ref (E.1 v0_1)), none, some (.int (J v2_1)), some (.int (J v3_1)), some (.int (J v4_2)), some (.int (J v5_2))] [] (Wd E s_9) := by
  have g0 := g.wk
  intro m
  induction m with
  | zero =>
    intro v4_2 v5_2 s_9 i_v4_2 i_v5_2 h
    exact absurd (show (none : Option (Int × u_S)) = some (r, s') from h) (by intro z; cases z)
  | succ m ih =>
    intro v4_2 v5_2 s_9 i_v4_2 i_v5_2 h
    rw [f_X7_parseNumber_L57] at h
    refine r_aload_n g0 dX7_parseNumber_57 rfl ?_
    refine g_Reader_place g0 i_v0_1 qX7_34 dX7_parseNumber_58 ?_
    refine r_aload_n g0 dX7_parseNumber_61 rfl ?_
    refine g_Reader_length g0 i_v0_1 qX7_24 dX7_parseNumber_62 ?_
    refine r_icmp_ge g0 115 dX7_parseNumber_65 (by decide) (InR_rd _ _ _) (InR_rd _ _ _) (fun hc => ?_) (fun hc => ?_)
    · replace h := if_f hc h
      exact hkx115 v4_2 v5_2 s_9 i_v4_2 i_v5_2 h
    · replace h := if_t hc h
      refine r_aload_n g0 dX7_parseNumber_68 rfl ?_
      obtain ⟨r_5, s_10, hr_5, h⟩ := bd_some h
      refine r_cVI g0 (rest := []) (c_X7_byteHere i_v0_1 hr_5) ok_X7_byteHere mX7_46 (recv_Reader i_v0_1) dX7_parseNumber_69 ⟨Nat.le_of_ble_eq_true rfl, Nat.le_of_ble_eq_true rfl⟩ ⟨Nat.zero_le _, Nat.zero_le _⟩ rfl (Nat.le_of_ble_eq_true rfl) rfl (fun i_r_5 => ?_)
      obtain ⟨r_6, s_11, hr_6, h⟩ := bd_some h
      refine r_cSZ g0 (rest := []) (c_X7_isFigure i_r_5 hr_6) ok_X7_isFigure mX7_84 dX7_parseNumber_72 ⟨Nat.le_of_ble_eq_true rfl, Nat.le_of_ble_eq_true rfl⟩ ⟨Nat.zero_le _, Nat.zero_le _⟩ rfl (Nat.le_of_ble_eq_true rfl) rfl (fun i_r_6 => ?_)
      refine r_if_eq g0 115 dX7_parseNumber_75 (by decide) (B01.inR i_r_6) (fun hc => ?_) (fun hc => ?_)
      · replace h := if_t hc h
        exact hkx115 v4_2 v5_2 s_11 i_v4_2 i_v5_2 h
      · replace h := if_f hc h
        refine r_iload g0 dX7_parseNumber_78 rfl ?_
        refine r_iconst g0 dX7_parseNumber_80 ?_
        obtain ⟨jp_4, hdjp_4, h⟩ := jn_some h
        have hjp_4 : ∀ (v5_3 : Int) (s_12 : u_S), InR v5_3 → jp_4 v5_3 s_12 = some (r, s') → K 0 0 99 [some (.ref (E.1 v0_1)), none, some (.int (J v2_1)), some (.int (J v3_1)), some (.int (J v4_2)), some (.int (J v5_3))] [] (Wd E s_12) := by
          intro v5_3 s_12 i_v5_3 h
          subst hdjp_4
          refine r_iinc g0 (a := v4_2) (lv' := [some (.ref (E.1 v0_1)), none, some (.int (J v2_1)), some (.int (J v3_1)), some (.int (J (wr (v4_2 + 1)))), some (.int (J v5_3))]) dX7_parseNumber_99 (by decide) rfl rfl rfl ?_
          refine r_aload_n g0 dX7_parseNumber_102 rfl ?_
          refine r_dup g0 dX7_parseNumber_103 rfl ?_
          refine g_Reader_place g0 i_v0_1 qX7_34 dX7_parseNumber_104 ?_
          refine r_iconst g0 dX7_parseNumber_107 ?_
          refine r_iadd g0 dX7_parseNumber_108 ?_
          refine p_Reader_place g0 i_v0_1 qX7_34 dX7_parseNumber_109 ?_
          refine r_goto g0 57 dX7_parseNumber_112 (by decide) ?_
          exact ih (wr (v4_2 + 1)) v5_3 (wt s_12 v0_1 7 (wr ((rd s_12 v0_1 7) + 1))) (InR_wr _) i_v5_3 h
        clear hdjp_4
        refine r_icmp_ge g0 99 dX7_parseNumber_81 (by decide) i_v4_2 (InR_lit rfl) (fun hc => ?_) (fun hc => ?_)
        · replace h := if_f hc h
          exact hjp_4 v5_2 s_11 i_v5_2 h
        · replace h := if_t hc h
          refine r_bipush g0 dX7_parseNumber_84 rfl ?_
          refine r_iload g0 dX7_parseNumber_86 rfl ?_
          refine r_imul g0 dX7_parseNumber_88 ?_
          refine r_aload_n g0 dX7_parseNumber_89 rfl ?_
          obtain ⟨r_7, s_13, hr_7, h⟩ := bd_some h
          refine r_cVI g0 (rest := [.int (J (wr (10 * v5_2)))]) (c_X7_byteHere i_v0_1 hr_7) ok_X7_byteHere mX7_46 (recv_Reader i_v0_1) dX7_parseNumber_90 ⟨Nat.le_of_ble_eq_true rfl, Nat.le_of_ble_eq_true rfl⟩ ⟨Nat.zero_le _, Nat.zero_le _⟩ rfl (Nat.le_of_ble_eq_true rfl) rfl (fun i_r_7 => ?_)
          refine r_iadd g0 dX7_parseNumber_93 ?_
          refine r_bipush g0 dX7_parseNumber_94 rfl ?_
          refine r_isub g0 dX7_parseNumber_96 ?_
          refine r_istore g0 (lv' := [some (.ref (E.1 v0_1)), none, some (.int (J v2_1)), some (.int (J v3_1)), some (.int (J v4_2)), some (.int (J (wr ((wr ((wr (10 * v5_2)) + r_7)) - 48))))]) dX7_parseNumber_97 (by decide) rfl rfl ?_
          exact hjp_4 (wr ((wr ((wr (10 * v5_2)) + r_7)) - 48)) s_13 (InR_wr _) h
set_option maxHeartbeats 4000000 in
set_option maxRecDepth 100000 in
theorem c_X7_parseNumber {E : u_E} {l : Launch} {o : u_O} {p1 : Int} (ho : is_Reader o) (i_p1 : B01 p1) {s s' : u_S} {r : Int} (h : f_X7_parseNumber o p1 s = some (r, s')) : Con l (XE E) yX7_parseNumber cX7_parseNumber 6 none 2 40 0 0 [.ref (E.1 o), .int (J p1)] (Wd E s) (RV E r s') := by
  refine Con.of [some (.ref (E.1 o)), some (.int (J p1)), none, none, none, none] (by decide +kernel) rfl rfl (Nat.le_of_ble_eq_true rfl) (fun K g => ?_)
  have g0 := g.wk
  unfold f_X7_parseNumber at h
  refine r_aload_n g0 dX7_parseNumber_0 rfl ?_
  refine g_Reader_fault g0 ho qX7_37 dX7_parseNumber_1 ?_
  refine r_iconst g0 dX7_parseNumber_4 ?_
  refine r_icmp_eq g0 9 dX7_parseNumber_5 (by decide) (InR_rd _ _ _) (InR_lit rfl) (fun hc => ?_) (fun hc => ?_)
  · replace h := if_t hc h
    refine r_aload_n g0 dX7_parseNumber_9 rfl ?_
    obtain ⟨r_1, s_1, hr_1, h⟩ := bd_some h
    refine r_cVV g0 (rest := []) (c_X7_skipBlanks ho hr_1) ok_X7_skipBlanks mX7_40 (recv_Reader ho) dX7_parseNumber_10 ⟨Nat.le_of_ble_eq_true rfl, Nat.le_of_ble_eq_true rfl⟩ ⟨Nat.zero_le _, Nat.zero_le _⟩ rfl (Nat.le_of_ble_eq_true rfl) rfl ?_
    refine r_aload_n g0 dX7_parseNumber_13 rfl ?_
    refine g_Reader_place g0 ho qX7_34 dX7_parseNumber_14 ?_
    refine r_istore_n g0 (lv' := [some (.ref (E.1 o)), some (.int (J p1)), some (.int (J (rd s_1 o 7))), none, none, none]) dX7_parseNumber_17 (by decide) rfl rfl ?_
    refine r_iload_n g0 dX7_parseNumber_18 rfl ?_
    obtain ⟨jp_1, hdjp_1, h⟩ := jn_some h
    have hjp_1 : ∀ (vt_1 : Int) (s_2 : u_S), B01 vt_1 → jp_1 vt_1 s_2 = some (r, s') → K 0 0 36 [some (.ref (E.1 o)), none, some (.int (J (rd s_1 o 7))), none, none, none] [.int (J vt_1)] (Wd E s_2) := by
      intro vt_1 s_2 i_vt_1 h
      subst hdjp_1
      refine r_istore_n g0 (lv' := [some (.ref (E.1 o)), none, some (.int (J (rd s_1 o 7))), some (.int (J vt_1)), none, none]) dX7_parseNumber_36 (by decide) rfl rfl ?_
      refine r_iload_n g0 dX7_parseNumber_37 rfl ?_
      obtain ⟨jp_2, hdjp_2, h⟩ := jn_some h
      have hjp_2 : ∀  (s_3 : u_S), jp_2 s_3 = some (r, s') → K 0 0 51 [some (.ref (E.1 o)), none, some (.int (J (rd s_1 o 7))), some (.int (J vt_1)), none, none] [] (Wd E s_3) := by
        intro s_3 h
        subst hdjp_2
        refine r_iconst g0 dX7_parseNumber_51 ?_
        refine r_istore g0 (lv' := [some (.ref (E.1 o)), none, some (.int (J (rd s_1 o 7))), some (.int (J vt_1)), some (.int (J 0)), none]) dX7_parseNumber_52 (by decide) rfl rfl ?_
        refine r_iconst g0 dX7_parseNumber_54 ?_
        refine r_istore g0 (lv' := [some (.ref (E.1 o)), none, some (.int (J (rd s_1 o 7))), some (.int (J vt_1)), some (.int (J 0)), some (.int (J 0))]) dX7_parseNumber_55 (by decide) rfl rfl ?_
        refine t_X7_parseNumber_L57 g ho (InR_rd _ _ _) i_vt_1 ?_ FU 0 0 s_3 (B01.inR B01_0) (B01.inR B01_0) h
        · intro v4_1 v5_1 s_4 i_v4_1 i_v5_1 h
          refine r_iload g0 dX7_parseNumber_115 rfl ?_
          refine r_if_ne g0 131 dX7_parseNumber_117 (by decide) i_v4_1 (fun hc => ?_) (fun hc => ?_)
          · replace h := if_f hc h
            refine r_iload g0 dX7_parseNumber_131 rfl ?_
            refine r_iconst g0 dX7_parseNumber_133 ?_
            refine r_icmp_le g0 145 dX7_parseNumber_134 (by decide) i_v4_1 (InR_lit rfl) (fun hc => ?_) (fun hc => ?_)
            · replace h := if_t hc h
              refine r_aload_n g0 dX7_parseNumber_145 rfl ?_
              refine r_iload_n g0 dX7_parseNumber_146 rfl ?_
              obtain ⟨jp_3, hdjp_3, h⟩ := jn_some h
              have hjp_3 : ∀ (vt_2 : u_O) (vt_3 : Int) (s_5 : u_S), is_Reader vt_2 → InR vt_3 → jp_3 vt_2 vt_3 s_5 = some (r, s') → K 0 0 158 [none, none, none, none, none, none] [.int (J vt_3), .ref (E.1 vt_2)] (Wd E s_5) := by
                intro vt_2 vt_3 s_5 i_vt_2 i_vt_3 h
                subst hdjp_3
                obtain ⟨r_2, s_6, hr_2, h⟩ := bd_some h
                refine r_cVV g0 (rest := []) (c_X7_take i_vt_2 i_vt_3 hr_2) ok_X7_take mX7_87 (recv_Reader i_vt_2) dX7_parseNumber_158 ⟨Nat.le_of_ble_eq_true rfl, Nat.le_of_ble_eq_true rfl⟩ ⟨Nat.zero_le _, Nat.zero_le _⟩ rfl (Nat.le_of_ble_eq_true rfl) rfl ?_
                exact z_V g dX7_parseNumber_161 h
              clear hdjp_3
              refine r_if_eq g0 156 dX7_parseNumber_147 (by decide) (B01.inR i_vt_1) (fun hc => ?_) (fun hc => ?_)
              · replace h := if_t hc h
                refine r_iload g0 dX7_parseNumber_156 rfl ?_
                refine r_mask g0 (lv' := [none, none, none, none, none, none]) [false, false, false, false, false, false] rfl ?_
                exact hjp_3 o v5_1 s_4 ho i_v5_1 h
              · replace h := if_f hc h
                refine r_iload g0 dX7_parseNumber_150 rfl ?_
                refine r_ineg g0 dX7_parseNumber_152 ?_
                refine r_goto g0 158 dX7_parseNumber_153 (by decide) ?_
                refine r_mask g0 (lv' := [none, none, none, none, none, none]) [false, false, false, false, false, false] rfl ?_
                exact hjp_3 o (wr (- v5_1)) s_4 ho (InR_wr _) h
            · replace h := if_f hc h
              refine r_aload_n g0 dX7_parseNumber_137 rfl ?_
              refine r_iload_n g0 dX7_parseNumber_138 rfl ?_
              obtain ⟨r_3, s_7, hr_3, h⟩ := bd_some h
              refine r_cVV g0 (rest := []) (c_X7_fail ho (InR_rd _ _ _) hr_3) ok_X7_fail mX7_50 (recv_Reader ho) dX7_parseNumber_139 ⟨Nat.le_of_ble_eq_true rfl, Nat.le_of_ble_eq_true rfl⟩ ⟨Nat.zero_le _, Nat.zero_le _⟩ rfl (Nat.le_of_ble_eq_true rfl) rfl ?_
              refine r_goto g0 161 dX7_parseNumber_142 (by decide) ?_
              exact z_V g dX7_parseNumber_161 h
          · replace h := if_t hc h
            refine r_aload_n g0 dX7_parseNumber_120 rfl ?_
            refine r_aload_n g0 dX7_parseNumber_121 rfl ?_
            refine g_Reader_place g0 ho qX7_34 dX7_parseNumber_122 ?_
            obtain ⟨r_4, s_8, hr_4, h⟩ := bd_some h
            refine r_cVV g0 (rest := []) (c_X7_fail ho (InR_rd _ _ _) hr_4) ok_X7_fail mX7_50 (recv_Reader ho) dX7_parseNumber_125 ⟨Nat.le_of_ble_eq_true rfl, Nat.le_of_ble_eq_true rfl⟩ ⟨Nat.zero_le _, Nat.zero_le _⟩ rfl (Nat.le_of_ble_eq_true rfl) rfl ?_
            refine r_goto g0 161 dX7_parseNumber_128 (by decide) ?_
            exact z_V g dX7_parseNumber_161 h
      clear hdjp_2
      refine r_if_eq g0 51 dX7_parseNumber_38 (by decide) (B01.inR i_vt_1) (fun hc => ?_) (fun hc => ?_)
      · replace h := if_t hc h
        exact hjp_2 s_2 h
      · replace h := if_f hc h
        refine r_aload_n g0 dX7_parseNumber_41 rfl ?_
        refine r_dup g0 dX7_parseNumber_42 rfl ?_
        refine g_Reader_place g0 ho qX7_34 dX7_parseNumber_43 ?_
        refine r_iconst g0 dX7_parseNumber_46 ?_
        refine r_iadd g0 dX7_parseNumber_47 ?_
        refine p_Reader_place g0 ho qX7_34 dX7_parseNumber_48 ?_
        exact hjp_2 (wt s_2 o 7 (wr ((rd s_2 o 7) + 1))) h
    clear hdjp_1
    obtain ⟨jp_5, hdjp_5, h⟩ := jn_some h
    have hjp_5 : ∀  (s_15 : u_S), jp_5 s_15 = some (r, s') → K 0 0 35 [some (.ref (E.1 o)), none, some (.int (J (rd s_1 o 7))), none, none, none] [] (Wd E s_15) := by
      intro s_15 h
      subst hdjp_5
      refine r_iconst g0 dX7_parseNumber_35 ?_
      exact hjp_1 0 s_15 B01_0 h
    clear hdjp_5
    refine r_if_eq g0 35 dX7_parseNumber_19 (by decide) (B01.inR i_p1) (fun hc => ?_) (fun hc => ?_)
    · replace h := if_t hc h
      refine r_mask g0 (lv' := [some (.ref (E.1 o)), none, some (.int (J (rd s_1 o 7))), none, none, none]) [true, false, true, false, false, false] rfl ?_
      exact hjp_5 s_1 h
    · replace h := if_f hc h
      refine r_aload_n g0 dX7_parseNumber_22 rfl ?_
      obtain ⟨r_8, s_16, hr_8, h⟩ := bd_some h
      refine r_cVI g0 (rest := []) (c_X7_byteHere ho hr_8) ok_X7_byteHere mX7_46 (recv_Reader ho) dX7_parseNumber_23 ⟨Nat.le_of_ble_eq_true rfl, Nat.le_of_ble_eq_true rfl⟩ ⟨Nat.zero_le _, Nat.zero_le _⟩ rfl (Nat.le_of_ble_eq_true rfl) rfl (fun i_r_8 => ?_)
      refine r_bipush g0 dX7_parseNumber_26 rfl ?_
      refine r_icmp_ne g0 35 dX7_parseNumber_28 (by decide) i_r_8 (InR_lit rfl) (fun hc => ?_) (fun hc => ?_)
      · replace h := if_f hc h
        refine r_mask g0 (lv' := [some (.ref (E.1 o)), none, some (.int (J (rd s_1 o 7))), none, none, none]) [true, false, true, false, false, false] rfl ?_
        exact hjp_5 s_16 h
      · replace h := if_t hc h
        refine r_iconst g0 dX7_parseNumber_31 ?_
        refine r_goto g0 36 dX7_parseNumber_32 (by decide) ?_
        refine r_mask g0 (lv' := [some (.ref (E.1 o)), none, some (.int (J (rd s_1 o 7))), none, none, none]) [true, false, true, false, false, false] rfl ?_
        exact hjp_1 1 s_16 B01_1 h
  · replace h := if_f hc h
    exact z_V g dX7_parseNumber_8 h
theorem dX7_isNext_0 : decode cX7_isNext 0 = .ok (.aload_n 0, 1) := by decide +kernel
theorem dX7_isNext_1 : decode cX7_isNext 1 = .ok (.getfield 37, 3) := by decide +kernel
theorem dX7_isNext_4 : decode cX7_isNext 4 = .ok (.iconst (-1), 1) := by decide +kernel
theorem dX7_isNext_5 : decode cX7_isNext 5 = .ok (.if_icmp .eq 5, 3) := by decide +kernel
theorem dX7_isNext_8 : decode cX7_isNext 8 = .ok (.iconst 0, 1) := by decide +kernel
theorem dX7_isNext_9 : decode cX7_isNext 9 = .ok (.ireturn, 1) := by decide +kernel
theorem dX7_isNext_10 : decode cX7_isNext 10 = .ok (.aload_n 0, 1) := by decide +kernel
theorem dX7_isNext_11 : decode cX7_isNext 11 = .ok (.invokevirtual 40, 3) := by decide +kernel
theorem dX7_isNext_14 : decode cX7_isNext 14 = .ok (.aload_n 0, 1) := by decide +kernel
theorem dX7_isNext_15 : decode cX7_isNext 15 = .ok (.invokevirtual 46, 3) := by decide +kernel
theorem dX7_isNext_18 : decode cX7_isNext 18 = .ok (.iload_n 1, 1) := by decide +kernel
theorem dX7_isNext_19 : decode cX7_isNext 19 = .ok (.if_icmp .ne 7, 3) := by decide +kernel
theorem dX7_isNext_22 : decode cX7_isNext 22 = .ok (.iconst 1, 1) := by decide +kernel
theorem dX7_isNext_23 : decode cX7_isNext 23 = .ok (.goto 4, 3) := by decide +kernel
theorem dX7_isNext_26 : decode cX7_isNext 26 = .ok (.iconst 0, 1) := by decide +kernel
theorem dX7_isNext_27 : decode cX7_isNext 27 = .ok (.ireturn, 1) := by decide +kernel
set_option maxHeartbeats 4000000 in
set_option maxRecDepth 100000 in
theorem c_X7_isNext {E : u_E} {l : Launch} {o : u_O} {p1 : Int} (ho : is_Reader o) (i_p1 : InR p1) {s s' : u_S} {r : Int} (h : f_X7_isNext o p1 s = some (r, s')) : Con l (XE E) yX7_isNext cX7_isNext 2 (some .boolean) 2 40 0 0 [.ref (E.1 o), .int (J p1)] (Wd E s) (RZ E r s') := by
  refine Con.of [some (.ref (E.1 o)), some (.int (J p1))] (by decide +kernel) rfl rfl (Nat.le_of_ble_eq_true rfl) (fun K g => ?_)
  have g0 := g.wk
  unfold f_X7_isNext at h
  refine r_aload_n g0 dX7_isNext_0 rfl ?_
  refine g_Reader_fault g0 ho qX7_37 dX7_isNext_1 ?_
  refine r_iconst g0 dX7_isNext_4 ?_
  refine r_icmp_eq g0 10 dX7_isNext_5 (by decide) (InR_rd _ _ _) (InR_lit rfl) (fun hc => ?_) (fun hc => ?_)
  · replace h := if_t hc h
    refine r_aload_n g0 dX7_isNext_10 rfl ?_
    obtain ⟨r_1, s_1, hr_1, h⟩ := bd_some h
    refine r_cVV g0 (rest := []) (c_X7_skipBlanks ho hr_1) ok_X7_skipBlanks mX7_40 (recv_Reader ho) dX7_isNext_11 ⟨Nat.le_of_ble_eq_true rfl, Nat.le_of_ble_eq_true rfl⟩ ⟨Nat.zero_le _, Nat.zero_le _⟩ rfl (Nat.le_of_ble_eq_true rfl) rfl ?_
    refine r_aload_n g0 dX7_isNext_14 rfl ?_
    obtain ⟨r_2, s_2, hr_2, h⟩ := bd_some h
    refine r_cVI g0 (rest := []) (c_X7_byteHere ho hr_2) ok_X7_byteHere mX7_46 (recv_Reader ho) dX7_isNext_15 ⟨Nat.le_of_ble_eq_true rfl, Nat.le_of_ble_eq_true rfl⟩ ⟨Nat.zero_le _, Nat.zero_le _⟩ rfl (Nat.le_of_ble_eq_true rfl) rfl (fun i_r_2 => ?_)
    refine r_iload_n g0 dX7_isNext_18 rfl ?_
    refine r_icmp_ne g0 26 dX7_isNext_19 (by decide) i_r_2 i_p1 (fun hc => ?_) (fun hc => ?_)
    · replace h := if_f hc h
      refine r_iconst g0 dX7_isNext_26 ?_
      exact z_Z g dX7_isNext_27 B01_0 h
    · replace h := if_t hc h
      refine r_iconst g0 dX7_isNext_22 ?_
      refine r_goto g0 27 dX7_isNext_23 (by decide) ?_
      exact z_Z g dX7_isNext_27 B01_1 h
  · replace h := if_f hc h
    refine r_iconst g0 dX7_isNext_8 ?_
    exact z_Z g dX7_isNext_9 B01_0 h
theorem dX7_parseNote_0 : decode cX7_parseNote 0 = .ok (.aload_n 0, 1) := by decide +kernel
theorem dX7_parseNote_1 : decode cX7_parseNote 1 = .ok (.iconst 0, 1) := by decide +kernel
theorem dX7_parseNote_2 : decode cX7_parseNote 2 = .ok (.invokevirtual 66, 3) := by decide +kernel
theorem dX7_parseNote_5 : decode cX7_parseNote 5 = .ok (.aload_n 0, 1) := by decide +kernel
theorem dX7_parseNote_6 : decode cX7_parseNote 6 = .ok (.iconst 0, 1) := by decide +kernel
theorem dX7_parseNote_7 : decode cX7_parseNote 7 = .ok (.invokevirtual 66, 3) := by decide +kernel
theorem dX7_parseNote_10 : decode cX7_parseNote 10 = .ok (.return_, 1) := by decide +kernel
set_option maxHeartbeats 4000000 in
set_option maxRecDepth 100000 in
theorem c_X7_parseNote {E : u_E} {l : Launch} {o : u_O} (ho : is_Reader o) {s s' : u_S} {r : Int} (h : f_X7_parseNote o s = some (r, s')) : Con l (XE E) yX7_parseNote cX7_parseNote 1 none 3 65 0 0 [.ref (E.1 o)] (Wd E s) (RV E r s') := by
  refine Con.of [some (.ref (E.1 o))] (by decide +kernel) rfl rfl (Nat.le_of_ble_eq_true rfl) (fun K g => ?_)
  have g0 := g.wk
  unfold f_X7_parseNote at h
  refine r_aload_n g0 dX7_parseNote_0 rfl ?_
  refine r_iconst g0 dX7_parseNote_1 ?_
  obtain ⟨r_1, s_1, hr_1, h⟩ := bd_some h
  refine r_cVV g0 (rest := []) (c_X7_parseNumber ho B01_0 hr_1) ok_X7_parseNumber mX7_66 (recv_Reader ho) dX7_parseNote_2 ⟨Nat.le_of_ble_eq_true rfl, Nat.le_of_ble_eq_true rfl⟩ ⟨Nat.zero_le _, Nat.zero_le _⟩ rfl (Nat.le_of_ble_eq_true rfl) rfl ?_
  refine r_aload_n g0 dX7_parseNote_5 rfl ?_
  refine r_iconst g0 dX7_parseNote_6 ?_
  obtain ⟨r_2, s_2, hr_2, h⟩ := bd_some h
  refine r_cVV g0 (rest := []) (c_X7_parseNumber ho B01_0 hr_2) ok_X7_parseNumber mX7_66 (recv_Reader ho) dX7_parseNote_7 ⟨Nat.le_of_ble_eq_true rfl, Nat.le_of_ble_eq_true rfl⟩ ⟨Nat.zero_le _, Nat.zero_le _⟩ rfl (Nat.le_of_ble_eq_true rfl) rfl ?_
  exact z_V g dX7_parseNote_10 h
theorem dX7_parseLine_0 : decode cX7_parseLine 0 = .ok (.aload_n 0, 1) := by decide +kernel
theorem dX7_parseLine_1 : decode cX7_parseLine 1 = .ok (.iconst 0, 1) := by decide +kernel
theorem dX7_parseLine_2 : decode cX7_parseLine 2 = .ok (.invokevirtual 66, 3) := by decide +kernel
theorem dX7_parseLine_5 : decode cX7_parseLine 5 = .ok (.aload_n 0, 1) := by decide +kernel
theorem dX7_parseLine_6 : decode cX7_parseLine 6 = .ok (.bipush 58, 2) := by decide +kernel
theorem dX7_parseLine_8 : decode cX7_parseLine 8 = .ok (.invokevirtual 73, 3) := by decide +kernel
theorem dX7_parseLine_11 : decode cX7_parseLine 11 = .ok (.ifCond .ne 4, 3) := by decide +kernel
theorem dX7_parseLine_14 : decode cX7_parseLine 14 = .ok (.return_, 1) := by decide +kernel
theorem dX7_parseLine_15 : decode cX7_parseLine 15 = .ok (.aload_n 0, 1) := by decide +kernel
theorem dX7_parseLine_16 : decode cX7_parseLine 16 = .ok (.dup, 1) := by decide +kernel
theorem dX7_parseLine_17 : decode cX7_parseLine 17 = .ok (.getfield 34, 3) := by decide +kernel
theorem dX7_parseLine_20 : decode cX7_parseLine 20 = .ok (.iconst 1, 1) := by decide +kernel
theorem dX7_parseLine_21 : decode cX7_parseLine 21 = .ok (.iadd, 1) := by decide +kernel
theorem dX7_parseLine_22 : decode cX7_parseLine 22 = .ok (.putfield 34, 3) := by decide +kernel
theorem dX7_parseLine_25 : decode cX7_parseLine 25 = .ok (.aload_n 0, 1) := by decide +kernel
theorem dX7_parseLine_26 : decode cX7_parseLine 26 = .ok (.invokevirtual 77, 3) := by decide +kernel
theorem dX7_parseLine_29 : decode cX7_parseLine 29 = .ok (.iconst 0, 1) := by decide +kernel
theorem dX7_parseLine_30 : decode cX7_parseLine 30 = .ok (.istore_n 1, 1) := by decide +kernel
theorem dX7_parseLine_31 : decode cX7_parseLine 31 = .ok (.iload_n 1, 1) := by decide +kernel
theorem dX7_parseLine_32 : decode cX7_parseLine 32 = .ok (.bipush 120, 2) := by decide +kernel
theorem dX7_parseLine_34 : decode cX7_parseLine 34 = .ok (.if_icmp .ge 32, 3) := by decide +kernel
theorem dX7_parseLine_37 : decode cX7_parseLine 37 = .ok (.aload_n 0, 1) := by decide +kernel
theorem dX7_parseLine_38 : decode cX7_parseLine 38 = .ok (.bipush 44, 2) := by decide +kernel
theorem dX7_parseLine_40 : decode cX7_parseLine 40 = .ok (.invokevirtual 73, 3) := by decide +kernel
theorem dX7_parseLine_43 : decode cX7_parseLine 43 = .ok (.ifCond .eq 23, 3) := by decide +kernel
theorem dX7_parseLine_46 : decode cX7_parseLine 46 = .ok (.aload_n 0, 1) := by decide +kernel
theorem dX7_parseLine_47 : decode cX7_parseLine 47 = .ok (.dup, 1) := by decide +kernel
theorem dX7_parseLine_48 : decode cX7_parseLine 48 = .ok (.getfield 34, 3) := by decide +kernel
theorem dX7_parseLine_51 : decode cX7_parseLine 51 = .ok (.iconst 1, 1) := by decide +kernel
theorem dX7_parseLine_52 : decode cX7_parseLine 52 = .ok (.iadd, 1) := by decide +kernel
theorem dX7_parseLine_53 : decode cX7_parseLine 53 = .ok (.putfield 34, 3) := by decide +kernel
theorem dX7_parseLine_56 : decode cX7_parseLine 56 = .ok (.aload_n 0, 1) := by decide +kernel
theorem dX7_parseLine_57 : decode cX7_parseLine 57 = .ok (.invokevirtual 77, 3) := by decide +kernel
theorem dX7_parseLine_60 : decode cX7_parseLine 60 = .ok (.iinc 1 1, 3) := by decide +kernel
theorem dX7_parseLine_63 : decode cX7_parseLine 63 = .ok (.goto (-32), 3) := by decide +kernel
theorem dX7_parseLine_66 : decode cX7_parseLine 66 = .ok (.return_, 1) := by decide +kernel
set_option maxHeartbeats 4000000 in
set_option maxRecDepth 100000 in
theorem t_X7_parseLine_L31 {l : Launch} {E : u_E} {K : u_K} {r : Int} {s' : u_S} (g : Wk l (XE E) { frames := 4, cells := 0, slots := 0, locals := 85 } cX7_parseLine 2 yX7_parseLine.cls yX7_parseLine.name none (RV E r s') K) {v0_1 : u_O} (i_v0_1 : is_Reader v0_1) {kx66 : u_S → Option (Int × u_S)} (hkx66 : ∀ (s_8 : u_S), kx66 s_8 = some (r, s') → K 0 0 66 [none, none] [] (Wd E s_8)) : ∀ (m : Nat) (v1_1 : Int) (s_5 : u_S), InR v1_1 → f_X7_parseLine_L31 m kx66 v0_1 v1_1 s_5 = some (r, s') → K 0 0 31 [some (.ref (E.1 v0_1)), some (.int (J v1_1))] [] (Wd E s_5) := by
  have g0 := g.wk
  intro m
  induction m with
  | zero =>
    intro v1_1 s_5 i_v1_1 h
    exact absurd (show (none : Option (Int × u_S)) = some (r, s') from h) (by intro z; cases z)
  | succ m ih =>
    intro v1_1 s_5 i_v1_1 h
    rw [f_X7_parseLine_L31] at h
    refine r_iload_n g0 dX7_parseLine_31 rfl ?_
    refine r_bipush g0 dX7_parseLine_32 rfl ?_
    refine r_icmp_ge g0 66 dX7_parseLine_34 (by decide) i_v1_1 (InR_lit rfl) (fun hc => ?_) (fun hc => ?_)
    · replace h := if_f hc h
      refine r_mask g0 (lv' := [none, none]) [false, false] rfl ?_
      exact hkx66 s_5 h
    · replace h := if_t hc h
      refine r_aload_n g0 dX7_parseLine_37 rfl ?_
      refine r_bipush g0 dX7_parseLine_38 rfl ?_
      obtain ⟨r_4, s_6, hr_4, h⟩ := bd_some h
      refine r_cVZ g0 (rest := []) (c_X7_isNext i_v0_1 (InR_lit rfl) hr_4) ok_X7_isNext mX7_73 (recv_Reader i_v0_1) dX7_parseLine_40 ⟨Nat.le_of_ble_eq_true rfl, Nat.le_of_ble_eq_true rfl⟩ ⟨Nat.zero_le _, Nat.zero_le _⟩ rfl (Nat.le_of_ble_eq_true rfl) rfl (fun i_r_4 => ?_)
      refine r_if_eq g0 66 dX7_parseLine_43 (by decide) (B01.inR i_r_4) (fun hc => ?_) (fun hc => ?_)
      · replace h := if_t hc h
        refine r_mask g0 (lv' := [none, none]) [false, false] rfl ?_
        exact hkx66 s_6 h
      · replace h := if_f hc h
        refine r_aload_n g0 dX7_parseLine_46 rfl ?_
        refine r_dup g0 dX7_parseLine_47 rfl ?_
        refine g_Reader_place g0 i_v0_1 qX7_34 dX7_parseLine_48 ?_
        refine r_iconst g0 dX7_parseLine_51 ?_
        refine r_iadd g0 dX7_parseLine_52 ?_
        refine p_Reader_place g0 i_v0_1 qX7_34 dX7_parseLine_53 ?_
        refine r_aload_n g0 dX7_parseLine_56 rfl ?_
        obtain ⟨r_5, s_7, hr_5, h⟩ := bd_some h
        refine r_cVV g0 (rest := []) (c_X7_parseNote i_v0_1 hr_5) ok_X7_parseNote mX7_77 (recv_Reader i_v0_1) dX7_parseLine_57 ⟨Nat.le_of_ble_eq_true rfl, Nat.le_of_ble_eq_true rfl⟩ ⟨Nat.zero_le _, Nat.zero_le _⟩ rfl (Nat.le_of_ble_eq_true rfl) rfl ?_
        refine r_iinc g0 (a := v1_1) (lv' := [some (.ref (E.1 v0_1)), some (.int (J (wr (v1_1 + 1))))]) dX7_parseLine_60 (by decide) rfl rfl rfl ?_
        refine r_goto g0 31 dX7_parseLine_63 (by decide) ?_
        exact ih (wr (v1_1 + 1)) s_7 (InR_wr _) h
set_option maxHeartbeats 4000000 in
set_option maxRecDepth 100000 in
theorem c_X7_parseLine {E : u_E} {l : Launch} {o : u_O} (ho : is_Reader o) {s s' : u_S} {r : Int} (h : f_X7_parseLine o s = some (r, s')) : Con l (XE E) yX7_parseLine cX7_parseLine 2 none 4 85 0 0 [.ref (E.1 o)] (Wd E s) (RV E r s') := by
  refine Con.of [some (.ref (E.1 o)), none] (by decide +kernel) rfl rfl (Nat.le_of_ble_eq_true rfl) (fun K g => ?_)
  have g0 := g.wk
  unfold f_X7_parseLine at h
  refine r_aload_n g0 dX7_parseLine_0 rfl ?_
  refine r_iconst g0 dX7_parseLine_1 ?_
  obtain ⟨r_1, s_1, hr_1, h⟩ := bd_some h
  refine r_cVV g0 (rest := []) (c_X7_parseNumber ho B01_0 hr_1) ok_X7_parseNumber mX7_66 (recv_Reader ho) dX7_parseLine_2 ⟨Nat.le_of_ble_eq_true rfl, Nat.le_of_ble_eq_true rfl⟩ ⟨Nat.zero_le _, Nat.zero_le _⟩ rfl (Nat.le_of_ble_eq_true rfl) rfl ?_
  refine r_aload_n g0 dX7_parseLine_5 rfl ?_
  refine r_bipush g0 dX7_parseLine_6 rfl ?_
  obtain ⟨r_2, s_2, hr_2, h⟩ := bd_some h
  refine r_cVZ g0 (rest := []) (c_X7_isNext ho (InR_lit rfl) hr_2) ok_X7_isNext mX7_73 (recv_Reader ho) dX7_parseLine_8 ⟨Nat.le_of_ble_eq_true rfl, Nat.le_of_ble_eq_true rfl⟩ ⟨Nat.zero_le _, Nat.zero_le _⟩ rfl (Nat.le_of_ble_eq_true rfl) rfl (fun i_r_2 => ?_)
  refine r_if_ne g0 15 dX7_parseLine_11 (by decide) (B01.inR i_r_2) (fun hc => ?_) (fun hc => ?_)
  · replace h := if_f hc h
    refine r_aload_n g0 dX7_parseLine_15 rfl ?_
    refine r_dup g0 dX7_parseLine_16 rfl ?_
    refine g_Reader_place g0 ho qX7_34 dX7_parseLine_17 ?_
    refine r_iconst g0 dX7_parseLine_20 ?_
    refine r_iadd g0 dX7_parseLine_21 ?_
    refine p_Reader_place g0 ho qX7_34 dX7_parseLine_22 ?_
    refine r_aload_n g0 dX7_parseLine_25 rfl ?_
    obtain ⟨r_3, s_3, hr_3, h⟩ := bd_some h
    refine r_cVV g0 (rest := []) (c_X7_parseNote ho hr_3) ok_X7_parseNote mX7_77 (recv_Reader ho) dX7_parseLine_26 ⟨Nat.le_of_ble_eq_true rfl, Nat.le_of_ble_eq_true rfl⟩ ⟨Nat.zero_le _, Nat.zero_le _⟩ rfl (Nat.le_of_ble_eq_true rfl) rfl ?_
    refine r_iconst g0 dX7_parseLine_29 ?_
    refine r_istore_n g0 (lv' := [some (.ref (E.1 o)), some (.int (J 0))]) dX7_parseLine_30 (by decide) rfl rfl ?_
    refine t_X7_parseLine_L31 g ho ?_ FU 0 s_3 (B01.inR B01_0) h
    · intro s_4 h
      exact z_V g dX7_parseLine_66 h
  · replace h := if_t hc h
    exact z_V g dX7_parseLine_14 h
theorem dX7_parseEntry_0 : decode cX7_parseEntry 0 = .ok (.aload_n 0, 1) := by decide +kernel
theorem dX7_parseEntry_1 : decode cX7_parseEntry 1 = .ok (.iconst 0, 1) := by decide +kernel
theorem dX7_parseEntry_2 : decode cX7_parseEntry 2 = .ok (.invokevirtual 66, 3) := by decide +kernel
theorem dX7_parseEntry_5 : decode cX7_parseEntry 5 = .ok (.aload_n 0, 1) := by decide +kernel
theorem dX7_parseEntry_6 : decode cX7_parseEntry 6 = .ok (.iconst 0, 1) := by decide +kernel
theorem dX7_parseEntry_7 : decode cX7_parseEntry 7 = .ok (.invokevirtual 66, 3) := by decide +kernel
theorem dX7_parseEntry_10 : decode cX7_parseEntry 10 = .ok (.aload_n 0, 1) := by decide +kernel
theorem dX7_parseEntry_11 : decode cX7_parseEntry 11 = .ok (.iconst 1, 1) := by decide +kernel
theorem dX7_parseEntry_12 : decode cX7_parseEntry 12 = .ok (.invokevirtual 66, 3) := by decide +kernel
theorem dX7_parseEntry_15 : decode cX7_parseEntry 15 = .ok (.aload_n 0, 1) := by decide +kernel
theorem dX7_parseEntry_16 : decode cX7_parseEntry 16 = .ok (.iconst 0, 1) := by decide +kernel
theorem dX7_parseEntry_17 : decode cX7_parseEntry 17 = .ok (.invokevirtual 66, 3) := by decide +kernel
theorem dX7_parseEntry_20 : decode cX7_parseEntry 20 = .ok (.aload_n 0, 1) := by decide +kernel
theorem dX7_parseEntry_21 : decode cX7_parseEntry 21 = .ok (.iconst 0, 1) := by decide +kernel
theorem dX7_parseEntry_22 : decode cX7_parseEntry 22 = .ok (.invokevirtual 66, 3) := by decide +kernel
theorem dX7_parseEntry_25 : decode cX7_parseEntry 25 = .ok (.return_, 1) := by decide +kernel
set_option maxHeartbeats 4000000 in
set_option maxRecDepth 100000 in
theorem c_X7_parseEntry {E : u_E} {l : Launch} {o : u_O} (ho : is_Reader o) {s s' : u_S} {r : Int} (h : f_X7_parseEntry o s = some (r, s')) : Con l (XE E) yX7_parseEntry cX7_parseEntry 1 none 3 65 0 0 [.ref (E.1 o)] (Wd E s) (RV E r s') := by
  refine Con.of [some (.ref (E.1 o))] (by decide +kernel) rfl rfl (Nat.le_of_ble_eq_true rfl) (fun K g => ?_)
  have g0 := g.wk
  unfold f_X7_parseEntry at h
  refine r_aload_n g0 dX7_parseEntry_0 rfl ?_
  refine r_iconst g0 dX7_parseEntry_1 ?_
  obtain ⟨r_1, s_1, hr_1, h⟩ := bd_some h
  refine r_cVV g0 (rest := []) (c_X7_parseNumber ho B01_0 hr_1) ok_X7_parseNumber mX7_66 (recv_Reader ho) dX7_parseEntry_2 ⟨Nat.le_of_ble_eq_true rfl, Nat.le_of_ble_eq_true rfl⟩ ⟨Nat.zero_le _, Nat.zero_le _⟩ rfl (Nat.le_of_ble_eq_true rfl) rfl ?_
  refine r_aload_n g0 dX7_parseEntry_5 rfl ?_
  refine r_iconst g0 dX7_parseEntry_6 ?_
  obtain ⟨r_2, s_2, hr_2, h⟩ := bd_some h
  refine r_cVV g0 (rest := []) (c_X7_parseNumber ho B01_0 hr_2) ok_X7_parseNumber mX7_66 (recv_Reader ho) dX7_parseEntry_7 ⟨Nat.le_of_ble_eq_true rfl, Nat.le_of_ble_eq_true rfl⟩ ⟨Nat.zero_le _, Nat.zero_le _⟩ rfl (Nat.le_of_ble_eq_true rfl) rfl ?_
  refine r_aload_n g0 dX7_parseEntry_10 rfl ?_
  refine r_iconst g0 dX7_parseEntry_11 ?_
  obtain ⟨r_3, s_3, hr_3, h⟩ := bd_some h
  refine r_cVV g0 (rest := []) (c_X7_parseNumber ho B01_1 hr_3) ok_X7_parseNumber mX7_66 (recv_Reader ho) dX7_parseEntry_12 ⟨Nat.le_of_ble_eq_true rfl, Nat.le_of_ble_eq_true rfl⟩ ⟨Nat.zero_le _, Nat.zero_le _⟩ rfl (Nat.le_of_ble_eq_true rfl) rfl ?_
  refine r_aload_n g0 dX7_parseEntry_15 rfl ?_
  refine r_iconst g0 dX7_parseEntry_16 ?_
  obtain ⟨r_4, s_4, hr_4, h⟩ := bd_some h
  refine r_cVV g0 (rest := []) (c_X7_parseNumber ho B01_0 hr_4) ok_X7_parseNumber mX7_66 (recv_Reader ho) dX7_parseEntry_17 ⟨Nat.le_of_ble_eq_true rfl, Nat.le_of_ble_eq_true rfl⟩ ⟨Nat.zero_le _, Nat.zero_le _⟩ rfl (Nat.le_of_ble_eq_true rfl) rfl ?_
  refine r_aload_n g0 dX7_parseEntry_20 rfl ?_
  refine r_iconst g0 dX7_parseEntry_21 ?_
  obtain ⟨r_5, s_5, hr_5, h⟩ := bd_some h
  refine r_cVV g0 (rest := []) (c_X7_parseNumber ho B01_0 hr_5) ok_X7_parseNumber mX7_66 (recv_Reader ho) dX7_parseEntry_22 ⟨Nat.le_of_ble_eq_true rfl, Nat.le_of_ble_eq_true rfl⟩ ⟨Nat.zero_le _, Nat.zero_le _⟩ rfl (Nat.le_of_ble_eq_true rfl) rfl ?_
  exact z_V g dX7_parseEntry_25 h
theorem dX7_isFigureNext_0 : decode cX7_isFigureNext 0 = .ok (.aload_n 0, 1) := by decide +kernel
theorem dX7_isFigureNext_1 : decode cX7_isFigureNext 1 = .ok (.getfield 37, 3) := by decide +kernel
theorem dX7_isFigureNext_4 : decode cX7_isFigureNext 4 = .ok (.iconst (-1), 1) := by decide +kernel
theorem dX7_isFigureNext_5 : decode cX7_isFigureNext 5 = .ok (.if_icmp .eq 5, 3) := by decide +kernel
theorem dX7_isFigureNext_8 : decode cX7_isFigureNext 8 = .ok (.iconst 0, 1) := by decide +kernel
theorem dX7_isFigureNext_9 : decode cX7_isFigureNext 9 = .ok (.ireturn, 1) := by decide +kernel
theorem dX7_isFigureNext_10 : decode cX7_isFigureNext 10 = .ok (.aload_n 0, 1) := by decide +kernel
theorem dX7_isFigureNext_11 : decode cX7_isFigureNext 11 = .ok (.invokevirtual 40, 3) := by decide +kernel
theorem dX7_isFigureNext_14 : decode cX7_isFigureNext 14 = .ok (.aload_n 0, 1) := by decide +kernel
theorem dX7_isFigureNext_15 : decode cX7_isFigureNext 15 = .ok (.invokevirtual 46, 3) := by decide +kernel
theorem dX7_isFigureNext_18 : decode cX7_isFigureNext 18 = .ok (.invokestatic 84, 3) := by decide +kernel
theorem dX7_isFigureNext_21 : decode cX7_isFigureNext 21 = .ok (.ireturn, 1) := by decide +kernel
set_option maxHeartbeats 4000000 in
set_option maxRecDepth 100000 in
theorem c_X7_isFigureNext {E : u_E} {l : Launch} {o : u_O} (ho : is_Reader o) {s s' : u_S} {r : Int} (h : f_X7_isFigureNext o s = some (r, s')) : Con l (XE E) yX7_isFigureNext cX7_isFigureNext 1 (some .boolean) 2 40 0 0 [.ref (E.1 o)] (Wd E s) (RZ E r s') := by
  refine Con.of [some (.ref (E.1 o))] (by decide +kernel) rfl rfl (Nat.le_of_ble_eq_true rfl) (fun K g => ?_)
  have g0 := g.wk
  unfold f_X7_isFigureNext at h
  refine r_aload_n g0 dX7_isFigureNext_0 rfl ?_
  refine g_Reader_fault g0 ho qX7_37 dX7_isFigureNext_1 ?_
  refine r_iconst g0 dX7_isFigureNext_4 ?_
  refine r_icmp_eq g0 10 dX7_isFigureNext_5 (by decide) (InR_rd _ _ _) (InR_lit rfl) (fun hc => ?_) (fun hc => ?_)
  · replace h := if_t hc h
    refine r_aload_n g0 dX7_isFigureNext_10 rfl ?_
    obtain ⟨r_1, s_1, hr_1, h⟩ := bd_some h
    refine r_cVV g0 (rest := []) (c_X7_skipBlanks ho hr_1) ok_X7_skipBlanks mX7_40 (recv_Reader ho) dX7_isFigureNext_11 ⟨Nat.le_of_ble_eq_true rfl, Nat.le_of_ble_eq_true rfl⟩ ⟨Nat.zero_le _, Nat.zero_le _⟩ rfl (Nat.le_of_ble_eq_true rfl) rfl ?_
    refine r_aload_n g0 dX7_isFigureNext_14 rfl ?_
    obtain ⟨r_2, s_2, hr_2, h⟩ := bd_some h
    refine r_cVI g0 (rest := []) (c_X7_byteHere ho hr_2) ok_X7_byteHere mX7_46 (recv_Reader ho) dX7_isFigureNext_15 ⟨Nat.le_of_ble_eq_true rfl, Nat.le_of_ble_eq_true rfl⟩ ⟨Nat.zero_le _, Nat.zero_le _⟩ rfl (Nat.le_of_ble_eq_true rfl) rfl (fun i_r_2 => ?_)
    obtain ⟨r_3, s_3, hr_3, h⟩ := bd_some h
    refine r_cSZ g0 (rest := []) (c_X7_isFigure i_r_2 hr_3) ok_X7_isFigure mX7_84 dX7_isFigureNext_18 ⟨Nat.le_of_ble_eq_true rfl, Nat.le_of_ble_eq_true rfl⟩ ⟨Nat.zero_le _, Nat.zero_le _⟩ rfl (Nat.le_of_ble_eq_true rfl) rfl (fun i_r_3 => ?_)
    exact z_Z g dX7_isFigureNext_21 i_r_3 h
  · replace h := if_f hc h
    refine r_iconst g0 dX7_isFigureNext_8 ?_
    exact z_Z g dX7_isFigureNext_9 B01_0 h
theorem dX7_parseKeys_0 : decode cX7_parseKeys 0 = .ok (.iconst 0, 1) := by decide +kernel
theorem dX7_parseKeys_1 : decode cX7_parseKeys 1 = .ok (.istore_n 1, 1) := by decide +kernel
theorem dX7_parseKeys_2 : decode cX7_parseKeys 2 = .ok (.iload_n 1, 1) := by decide +kernel
theorem dX7_parseKeys_3 : decode cX7_parseKeys 3 = .ok (.bipush 120, 2) := by decide +kernel
theorem dX7_parseKeys_5 : decode cX7_parseKeys 5 = .ok (.if_icmp .ge 21, 3) := by decide +kernel
theorem dX7_parseKeys_8 : decode cX7_parseKeys 8 = .ok (.aload_n 0, 1) := by decide +kernel
theorem dX7_parseKeys_9 : decode cX7_parseKeys 9 = .ok (.invokevirtual 80, 3) := by decide +kernel
theorem dX7_parseKeys_12 : decode cX7_parseKeys 12 = .ok (.ifCond .eq 14, 3) := by decide +kernel
theorem dX7_parseKeys_15 : decode cX7_parseKeys 15 = .ok (.aload_n 0, 1) := by decide +kernel
theorem dX7_parseKeys_16 : decode cX7_parseKeys 16 = .ok (.iconst 0, 1) := by decide +kernel
theorem dX7_parseKeys_17 : decode cX7_parseKeys 17 = .ok (.invokevirtual 66, 3) := by decide +kernel
theorem dX7_parseKeys_20 : decode cX7_parseKeys 20 = .ok (.iinc 1 1, 3) := by decide +kernel
theorem dX7_parseKeys_23 : decode cX7_parseKeys 23 = .ok (.goto (-21), 3) := by decide +kernel
theorem dX7_parseKeys_26 : decode cX7_parseKeys 26 = .ok (.return_, 1) := by decide +kernel
set_option maxHeartbeats 4000000 in
set_option maxRecDepth 100000 in
theorem t_X7_parseKeys_L2 {l : Launch} {E : u_E} {K : u_K} {r : Int} {s' : u_S} (g : Wk l (XE E) { frames := 3, cells := 0, slots := 0, locals := 65 } cX7_parseKeys 2 yX7_parseKeys.cls yX7_parseKeys.name none (RV E r s') K) {v0_1 : u_O} (i_v0_1 : is_Reader v0_1) {kx26 : u_S → Option (Int × u_S)} (hkx26 : ∀ (s_5 : u_S), kx26 s_5 = some (r, s') → K 0 0 26 [none, none] [] (Wd E s_5)) : ∀ (m : Nat) (v1_1 : Int) (s_2 : u_S), InR v1_1 → f_X7_parseKeys_L2 m kx26 v0_1 v1_1 s_2 = some (r, s') → K 0 0 2 [some (.ref (E.1 v0_1)), some (.int (J v1_1))] [] (Wd E s_2) := by
  have g0 := g.wk
  intro m
  induction m with
  | zero =>
    intro v1_1 s_2 i_v1_1 h
    exact absurd (show (none : Option (Int × u_S)) = some (r, s') from h) (by intro z; cases z)
  | succ m ih =>
    intro v1_1 s_2 i_v1_1 h
    rw [f_X7_parseKeys_L2] at h
    refine r_iload_n g0 dX7_parseKeys_2 rfl ?_
    refine r_bipush g0 dX7_parseKeys_3 rfl ?_
    refine r_icmp_ge g0 26 dX7_parseKeys_5 (by decide) i_v1_1 (InR_lit rfl) (fun hc => ?_) (fun hc => ?_)
    · replace h := if_f hc h
      refine r_mask g0 (lv' := [none, none]) [false, false] rfl ?_
      exact hkx26 s_2 h
    · replace h := if_t hc h
      refine r_aload_n g0 dX7_parseKeys_8 rfl ?_
      obtain ⟨r_1, s_3, hr_1, h⟩ := bd_some h
      refine r_cVZ g0 (rest := []) (c_X7_isFigureNext i_v0_1 hr_1) ok_X7_isFigureNext mX7_80 (recv_Reader i_v0_1) dX7_parseKeys_9 ⟨Nat.le_of_ble_eq_true rfl, Nat.le_of_ble_eq_true rfl⟩ ⟨Nat.zero_le _, Nat.zero_le _⟩ rfl (Nat.le_of_ble_eq_true rfl) rfl (fun i_r_1 => ?_)
      refine r_if_eq g0 26 dX7_parseKeys_12 (by decide) (B01.inR i_r_1) (fun hc => ?_) (fun hc => ?_)
      · replace h := if_t hc h
        refine r_mask g0 (lv' := [none, none]) [false, false] rfl ?_
        exact hkx26 s_3 h
      · replace h := if_f hc h
        refine r_aload_n g0 dX7_parseKeys_15 rfl ?_
        refine r_iconst g0 dX7_parseKeys_16 ?_
        obtain ⟨r_2, s_4, hr_2, h⟩ := bd_some h
        refine r_cVV g0 (rest := []) (c_X7_parseNumber i_v0_1 B01_0 hr_2) ok_X7_parseNumber mX7_66 (recv_Reader i_v0_1) dX7_parseKeys_17 ⟨Nat.le_of_ble_eq_true rfl, Nat.le_of_ble_eq_true rfl⟩ ⟨Nat.zero_le _, Nat.zero_le _⟩ rfl (Nat.le_of_ble_eq_true rfl) rfl ?_
        refine r_iinc g0 (a := v1_1) (lv' := [some (.ref (E.1 v0_1)), some (.int (J (wr (v1_1 + 1))))]) dX7_parseKeys_20 (by decide) rfl rfl rfl ?_
        refine r_goto g0 2 dX7_parseKeys_23 (by decide) ?_
        exact ih (wr (v1_1 + 1)) s_4 (InR_wr _) h
set_option maxHeartbeats 4000000 in
set_option maxRecDepth 100000 in
theorem c_X7_parseKeys {E : u_E} {l : Launch} {o : u_O} (ho : is_Reader o) {s s' : u_S} {r : Int} (h : f_X7_parseKeys o s = some (r, s')) : Con l (XE E) yX7_parseKeys cX7_parseKeys 2 none 3 65 0 0 [.ref (E.1 o)] (Wd E s) (RV E r s') := by
  refine Con.of [some (.ref (E.1 o)), none] (by decide +kernel) rfl rfl (Nat.le_of_ble_eq_true rfl) (fun K g => ?_)
  have g0 := g.wk
  unfold f_X7_parseKeys at h
  refine r_iconst g0 dX7_parseKeys_0 ?_
  refine r_istore_n g0 (lv' := [some (.ref (E.1 o)), some (.int (J 0))]) dX7_parseKeys_1 (by decide) rfl rfl ?_
  refine t_X7_parseKeys_L2 g ho ?_ FU 0 s (B01.inR B01_0) h
  · intro s_1 h
    exact z_V g dX7_parseKeys_26 h
theorem dX7_parseEnd_0 : decode cX7_parseEnd 0 = .ok (.aload_n 0, 1) := by decide +kernel
theorem dX7_parseEnd_1 : decode cX7_parseEnd 1 = .ok (.getfield 37, 3) := by decide +kernel
theorem dX7_parseEnd_4 : decode cX7_parseEnd 4 = .ok (.iconst (-1), 1) := by decide +kernel
theorem dX7_parseEnd_5 : decode cX7_parseEnd 5 = .ok (.if_icmp .eq 4, 3) := by decide +kernel
theorem dX7_parseEnd_8 : decode cX7_parseEnd 8 = .ok (.return_, 1) := by decide +kernel
theorem dX7_parseEnd_9 : decode cX7_parseEnd 9 = .ok (.aload_n 0, 1) := by decide +kernel
theorem dX7_parseEnd_10 : decode cX7_parseEnd 10 = .ok (.bipush 59, 2) := by decide +kernel
theorem dX7_parseEnd_12 : decode cX7_parseEnd 12 = .ok (.invokevirtual 73, 3) := by decide +kernel
theorem dX7_parseEnd_15 : decode cX7_parseEnd 15 = .ok (.ifCond .eq 16, 3) := by decide +kernel
theorem dX7_parseEnd_18 : decode cX7_parseEnd 18 = .ok (.aload_n 0, 1) := by decide +kernel
theorem dX7_parseEnd_19 : decode cX7_parseEnd 19 = .ok (.dup, 1) := by decide +kernel
theorem dX7_parseEnd_20 : decode cX7_parseEnd 20 = .ok (.getfield 34, 3) := by decide +kernel
theorem dX7_parseEnd_23 : decode cX7_parseEnd 23 = .ok (.iconst 1, 1) := by decide +kernel
theorem dX7_parseEnd_24 : decode cX7_parseEnd 24 = .ok (.iadd, 1) := by decide +kernel
theorem dX7_parseEnd_25 : decode cX7_parseEnd 25 = .ok (.putfield 34, 3) := by decide +kernel
theorem dX7_parseEnd_28 : decode cX7_parseEnd 28 = .ok (.goto 11, 3) := by decide +kernel
theorem dX7_parseEnd_31 : decode cX7_parseEnd 31 = .ok (.aload_n 0, 1) := by decide +kernel
theorem dX7_parseEnd_32 : decode cX7_parseEnd 32 = .ok (.aload_n 0, 1) := by decide +kernel
theorem dX7_parseEnd_33 : decode cX7_parseEnd 33 = .ok (.getfield 34, 3) := by decide +kernel
theorem dX7_parseEnd_36 : decode cX7_parseEnd 36 = .ok (.invokevirtual 50, 3) := by decide +kernel
theorem dX7_parseEnd_39 : decode cX7_parseEnd 39 = .ok (.return_, 1) := by decide +kernel
set_option maxHeartbeats 4000000 in
set_option maxRecDepth 100000 in
theorem c_X7_parseEnd {E : u_E} {l : Launch} {o : u_O} (ho : is_Reader o) {s s' : u_S} {r : Int} (h : f_X7_parseEnd o s = some (r, s')) : Con l (XE E) yX7_parseEnd cX7_parseEnd 1 none 3 61 0 0 [.ref (E.1 o)] (Wd E s) (RV E r s') := by
  refine Con.of [some (.ref (E.1 o))] (by decide +kernel) rfl rfl (Nat.le_of_ble_eq_true rfl) (fun K g => ?_)
  have g0 := g.wk
  unfold f_X7_parseEnd at h
  refine r_aload_n g0 dX7_parseEnd_0 rfl ?_
  refine g_Reader_fault g0 ho qX7_37 dX7_parseEnd_1 ?_
  refine r_iconst g0 dX7_parseEnd_4 ?_
  refine r_icmp_eq g0 9 dX7_parseEnd_5 (by decide) (InR_rd _ _ _) (InR_lit rfl) (fun hc => ?_) (fun hc => ?_)
  · replace h := if_t hc h
    refine r_aload_n g0 dX7_parseEnd_9 rfl ?_
    refine r_bipush g0 dX7_parseEnd_10 rfl ?_
    obtain ⟨r_1, s_1, hr_1, h⟩ := bd_some h
    refine r_cVZ g0 (rest := []) (c_X7_isNext ho (InR_lit rfl) hr_1) ok_X7_isNext mX7_73 (recv_Reader ho) dX7_parseEnd_12 ⟨Nat.le_of_ble_eq_true rfl, Nat.le_of_ble_eq_true rfl⟩ ⟨Nat.zero_le _, Nat.zero_le _⟩ rfl (Nat.le_of_ble_eq_true rfl) rfl (fun i_r_1 => ?_)
    refine r_if_eq g0 31 dX7_parseEnd_15 (by decide) (B01.inR i_r_1) (fun hc => ?_) (fun hc => ?_)
    · replace h := if_t hc h
      refine r_aload_n g0 dX7_parseEnd_31 rfl ?_
      refine r_aload_n g0 dX7_parseEnd_32 rfl ?_
      refine g_Reader_place g0 ho qX7_34 dX7_parseEnd_33 ?_
      obtain ⟨r_2, s_2, hr_2, h⟩ := bd_some h
      refine r_cVV g0 (rest := []) (c_X7_fail ho (InR_rd _ _ _) hr_2) ok_X7_fail mX7_50 (recv_Reader ho) dX7_parseEnd_36 ⟨Nat.le_of_ble_eq_true rfl, Nat.le_of_ble_eq_true rfl⟩ ⟨Nat.zero_le _, Nat.zero_le _⟩ rfl (Nat.le_of_ble_eq_true rfl) rfl ?_
      exact z_V g dX7_parseEnd_39 h
    · replace h := if_f hc h
      refine r_aload_n g0 dX7_parseEnd_18 rfl ?_
      refine r_dup g0 dX7_parseEnd_19 rfl ?_
      refine g_Reader_place g0 ho qX7_34 dX7_parseEnd_20 ?_
      refine r_iconst g0 dX7_parseEnd_23 ?_
      refine r_iadd g0 dX7_parseEnd_24 ?_
      refine p_Reader_place g0 ho qX7_34 dX7_parseEnd_25 ?_
      refine r_goto g0 39 dX7_parseEnd_28 (by decide) ?_
      exact z_V g dX7_parseEnd_39 h
  · replace h := if_f hc h
    exact z_V g dX7_parseEnd_8 h
theorem dX7_parseOrder_0 : decode cX7_parseOrder 0 = .ok (.aload_n 0, 1) := by decide +kernel
theorem dX7_parseOrder_1 : decode cX7_parseOrder 1 = .ok (.invokevirtual 46, 3) := by decide +kernel
theorem dX7_parseOrder_4 : decode cX7_parseOrder 4 = .ok (.istore_n 1, 1) := by decide +kernel
theorem dX7_parseOrder_5 : decode cX7_parseOrder 5 = .ok (.iload_n 1, 1) := by decide +kernel
theorem dX7_parseOrder_6 : decode cX7_parseOrder 6 = .ok (.bipush 108, 2) := by decide +kernel
theorem dX7_parseOrder_8 : decode cX7_parseOrder 8 = .ok (.if_icmp .eq 42, 3) := by decide +kernel
theorem dX7_parseOrder_11 : decode cX7_parseOrder 11 = .ok (.iload_n 1, 1) := by decide +kernel
theorem dX7_parseOrder_12 : decode cX7_parseOrder 12 = .ok (.bipush 101, 2) := by decide +kernel
theorem dX7_parseOrder_14 : decode cX7_parseOrder 14 = .ok (.if_icmp .eq 36, 3) := by decide +kernel
theorem dX7_parseOrder_17 : decode cX7_parseOrder 17 = .ok (.iload_n 1, 1) := by decide +kernel
theorem dX7_parseOrder_18 : decode cX7_parseOrder 18 = .ok (.bipush 104, 2) := by decide +kernel
theorem dX7_parseOrder_20 : decode cX7_parseOrder 20 = .ok (.if_icmp .eq 30, 3) := by decide +kernel
theorem dX7_parseOrder_23 : decode cX7_parseOrder 23 = .ok (.iload_n 1, 1) := by decide +kernel
theorem dX7_parseOrder_24 : decode cX7_parseOrder 24 = .ok (.bipush 116, 2) := by decide +kernel
theorem dX7_parseOrder_26 : decode cX7_parseOrder 26 = .ok (.if_icmp .eq 24, 3) := by decide +kernel
theorem dX7_parseOrder_29 : decode cX7_parseOrder 29 = .ok (.iload_n 1, 1) := by decide +kernel
theorem dX7_parseOrder_30 : decode cX7_parseOrder 30 = .ok (.bipush 109, 2) := by decide +kernel
theorem dX7_parseOrder_32 : decode cX7_parseOrder 32 = .ok (.if_icmp .eq 18, 3) := by decide +kernel
theorem dX7_parseOrder_35 : decode cX7_parseOrder 35 = .ok (.iload_n 1, 1) := by decide +kernel
theorem dX7_parseOrder_36 : decode cX7_parseOrder 36 = .ok (.bipush 107, 2) := by decide +kernel
theorem dX7_parseOrder_38 : decode cX7_parseOrder 38 = .ok (.if_icmp .eq 12, 3) := by decide +kernel
theorem dX7_parseOrder_41 : decode cX7_parseOrder 41 = .ok (.aload_n 0, 1) := by decide +kernel
theorem dX7_parseOrder_42 : decode cX7_parseOrder 42 = .ok (.aload_n 0, 1) := by decide +kernel
theorem dX7_parseOrder_43 : decode cX7_parseOrder 43 = .ok (.getfield 34, 3) := by decide +kernel
theorem dX7_parseOrder_46 : decode cX7_parseOrder 46 = .ok (.invokevirtual 50, 3) := by decide +kernel
theorem dX7_parseOrder_49 : decode cX7_parseOrder 49 = .ok (.return_, 1) := by decide +kernel
theorem dX7_parseOrder_50 : decode cX7_parseOrder 50 = .ok (.aload_n 0, 1) := by decide +kernel
theorem dX7_parseOrder_51 : decode cX7_parseOrder 51 = .ok (.iload_n 1, 1) := by decide +kernel
theorem dX7_parseOrder_52 : decode cX7_parseOrder 52 = .ok (.invokevirtual 54, 3) := by decide +kernel
theorem dX7_parseOrder_55 : decode cX7_parseOrder 55 = .ok (.aload_n 0, 1) := by decide +kernel
theorem dX7_parseOrder_56 : decode cX7_parseOrder 56 = .ok (.dup, 1) := by decide +kernel
theorem dX7_parseOrder_57 : decode cX7_parseOrder 57 = .ok (.getfield 34, 3) := by decide +kernel
theorem dX7_parseOrder_60 : decode cX7_parseOrder 60 = .ok (.iconst 1, 1) := by decide +kernel
theorem dX7_parseOrder_61 : decode cX7_parseOrder 61 = .ok (.iadd, 1) := by decide +kernel
theorem dX7_parseOrder_62 : decode cX7_parseOrder 62 = .ok (.putfield 34, 3) := by decide +kernel
theorem dX7_parseOrder_65 : decode cX7_parseOrder 65 = .ok (.iload_n 1, 1) := by decide +kernel
theorem dX7_parseOrder_66 : decode cX7_parseOrder 66 = .ok (.bipush 108, 2) := by decide +kernel
theorem dX7_parseOrder_68 : decode cX7_parseOrder 68 = .ok (.if_icmp .ne 10, 3) := by decide +kernel
theorem dX7_parseOrder_71 : decode cX7_parseOrder 71 = .ok (.aload_n 0, 1) := by decide +kernel
theorem dX7_parseOrder_72 : decode cX7_parseOrder 72 = .ok (.invokevirtual 57, 3) := by decide +kernel
theorem dX7_parseOrder_75 : decode cX7_parseOrder 75 = .ok (.goto 34, 3) := by decide +kernel
theorem dX7_parseOrder_78 : decode cX7_parseOrder 78 = .ok (.iload_n 1, 1) := by decide +kernel
theorem dX7_parseOrder_79 : decode cX7_parseOrder 79 = .ok (.bipush 101, 2) := by decide +kernel
theorem dX7_parseOrder_81 : decode cX7_parseOrder 81 = .ok (.if_icmp .ne 10, 3) := by decide +kernel
theorem dX7_parseOrder_84 : decode cX7_parseOrder 84 = .ok (.aload_n 0, 1) := by decide +kernel
theorem dX7_parseOrder_85 : decode cX7_parseOrder 85 = .ok (.invokevirtual 60, 3) := by decide +kernel
theorem dX7_parseOrder_88 : decode cX7_parseOrder 88 = .ok (.goto 21, 3) := by decide +kernel
theorem dX7_parseOrder_91 : decode cX7_parseOrder 91 = .ok (.iload_n 1, 1) := by decide +kernel
theorem dX7_parseOrder_92 : decode cX7_parseOrder 92 = .ok (.bipush 107, 2) := by decide +kernel
theorem dX7_parseOrder_94 : decode cX7_parseOrder 94 = .ok (.if_icmp .ne 10, 3) := by decide +kernel
theorem dX7_parseOrder_97 : decode cX7_parseOrder 97 = .ok (.aload_n 0, 1) := by decide +kernel
theorem dX7_parseOrder_98 : decode cX7_parseOrder 98 = .ok (.invokevirtual 63, 3) := by decide +kernel
theorem dX7_parseOrder_101 : decode cX7_parseOrder 101 = .ok (.goto 8, 3) := by decide +kernel
theorem dX7_parseOrder_104 : decode cX7_parseOrder 104 = .ok (.aload_n 0, 1) := by decide +kernel
theorem dX7_parseOrder_105 : decode cX7_parseOrder 105 = .ok (.iconst 0, 1) := by decide +kernel
theorem dX7_parseOrder_106 : decode cX7_parseOrder 106 = .ok (.invokevirtual 66, 3) := by decide +kernel
theorem dX7_parseOrder_109 : decode cX7_parseOrder 109 = .ok (.aload_n 0, 1) := by decide +kernel
theorem dX7_parseOrder_110 : decode cX7_parseOrder 110 = .ok (.invokevirtual 70, 3) := by decide +kernel
theorem dX7_parseOrder_113 : decode cX7_parseOrder 113 = .ok (.return_, 1) := by decide +kernel
set_option maxHeartbeats 4000000 in
set_option maxRecDepth 100000 in
theorem c_X7_parseOrder {E : u_E} {l : Launch} {o : u_O} (ho : is_Reader o) {s s' : u_S} {r : Int} (h : f_X7_parseOrder o s = some (r, s')) : Con l (XE E) yX7_parseOrder cX7_parseOrder 2 none 5 106 0 0 [.ref (E.1 o)] (Wd E s) (RV E r s') := by
  refine Con.of [some (.ref (E.1 o)), none] (by decide +kernel) rfl rfl (Nat.le_of_ble_eq_true rfl) (fun K g => ?_)
  have g0 := g.wk
  unfold f_X7_parseOrder at h
  refine r_aload_n g0 dX7_parseOrder_0 rfl ?_
  obtain ⟨r_1, s_1, hr_1, h⟩ := bd_some h
  refine r_cVI g0 (rest := []) (c_X7_byteHere ho hr_1) ok_X7_byteHere mX7_46 (recv_Reader ho) dX7_parseOrder_1 ⟨Nat.le_of_ble_eq_true rfl, Nat.le_of_ble_eq_true rfl⟩ ⟨Nat.zero_le _, Nat.zero_le _⟩ rfl (Nat.le_of_ble_eq_true rfl) rfl (fun i_r_1 => ?_)
  refine r_istore_n g0 (lv' := [some (.ref (E.1 o)), some (.int (J r_1))]) dX7_parseOrder_4 (by decide) rfl rfl ?_
  refine r_iload_n g0 dX7_parseOrder_5 rfl ?_
  refine r_bipush g0 dX7_parseOrder_6 rfl ?_
  obtain ⟨jp_1, hdjp_1, h⟩ := jn_some h
  have hjp_1 : ∀  (s_2 : u_S), jp_1 s_2 = some (r, s') → K 0 0 50 [some (.ref (E.1 o)), some (.int (J r_1))] [] (Wd E s_2) := by
    intro s_2 h
    subst hdjp_1
    refine r_aload_n g0 dX7_parseOrder_50 rfl ?_
    refine r_iload_n g0 dX7_parseOrder_51 rfl ?_
    obtain ⟨r_2, s_3, hr_2, h⟩ := bd_some h
    refine r_cVV g0 (rest := []) (c_X7_open ho i_r_1 hr_2) ok_X7_open mX7_54 (recv_Reader ho) dX7_parseOrder_52 ⟨Nat.le_of_ble_eq_true rfl, Nat.le_of_ble_eq_true rfl⟩ ⟨Nat.zero_le _, Nat.zero_le _⟩ rfl (Nat.le_of_ble_eq_true rfl) rfl ?_
    refine r_aload_n g0 dX7_parseOrder_55 rfl ?_
    refine r_dup g0 dX7_parseOrder_56 rfl ?_
    refine g_Reader_place g0 ho qX7_34 dX7_parseOrder_57 ?_
    refine r_iconst g0 dX7_parseOrder_60 ?_
    refine r_iadd g0 dX7_parseOrder_61 ?_
    refine p_Reader_place g0 ho qX7_34 dX7_parseOrder_62 ?_
    refine r_iload_n g0 dX7_parseOrder_65 rfl ?_
    refine r_bipush g0 dX7_parseOrder_66 rfl ?_
    obtain ⟨jp_2, hdjp_2, h⟩ := jn_some h
    have hjp_2 : ∀  (s_4 : u_S), jp_2 s_4 = some (r, s') → K 0 0 109 [some (.ref (E.1 o)), none] [] (Wd E s_4) := by
      intro s_4 h
      subst hdjp_2
      refine r_aload_n g0 dX7_parseOrder_109 rfl ?_
      obtain ⟨r_3, s_5, hr_3, h⟩ := bd_some h
      refine r_cVV g0 (rest := []) (c_X7_parseEnd ho hr_3) ok_X7_parseEnd mX7_70 (recv_Reader ho) dX7_parseOrder_110 ⟨Nat.le_of_ble_eq_true rfl, Nat.le_of_ble_eq_true rfl⟩ ⟨Nat.zero_le _, Nat.zero_le _⟩ rfl (Nat.le_of_ble_eq_true rfl) rfl ?_
      exact z_V g dX7_parseOrder_113 h
    clear hdjp_2
    refine r_icmp_ne g0 78 dX7_parseOrder_68 (by decide) i_r_1 (InR_lit rfl) (fun hc => ?_) (fun hc => ?_)
    · replace h := if_f hc h
      refine r_iload_n g0 dX7_parseOrder_78 rfl ?_
      refine r_bipush g0 dX7_parseOrder_79 rfl ?_
      refine r_icmp_ne g0 91 dX7_parseOrder_81 (by decide) i_r_1 (InR_lit rfl) (fun hc => ?_) (fun hc => ?_)
      · replace h := if_f hc h
        refine r_iload_n g0 dX7_parseOrder_91 rfl ?_
        refine r_bipush g0 dX7_parseOrder_92 rfl ?_
        refine r_icmp_ne g0 104 dX7_parseOrder_94 (by decide) i_r_1 (InR_lit rfl) (fun hc => ?_) (fun hc => ?_)
        · replace h := if_f hc h
          refine r_aload_n g0 dX7_parseOrder_104 rfl ?_
          refine r_iconst g0 dX7_parseOrder_105 ?_
          obtain ⟨r_4, s_6, hr_4, h⟩ := bd_some h
          refine r_cVV g0 (rest := []) (c_X7_parseNumber ho B01_0 hr_4) ok_X7_parseNumber mX7_66 (recv_Reader ho) dX7_parseOrder_106 ⟨Nat.le_of_ble_eq_true rfl, Nat.le_of_ble_eq_true rfl⟩ ⟨Nat.zero_le _, Nat.zero_le _⟩ rfl (Nat.le_of_ble_eq_true rfl) rfl ?_
          refine r_mask g0 (lv' := [some (.ref (E.1 o)), none]) [true, false] rfl ?_
          exact hjp_2 s_6 h
        · replace h := if_t hc h
          refine r_aload_n g0 dX7_parseOrder_97 rfl ?_
          obtain ⟨r_5, s_7, hr_5, h⟩ := bd_some h
          refine r_cVV g0 (rest := []) (c_X7_parseKeys ho hr_5) ok_X7_parseKeys mX7_63 (recv_Reader ho) dX7_parseOrder_98 ⟨Nat.le_of_ble_eq_true rfl, Nat.le_of_ble_eq_true rfl⟩ ⟨Nat.zero_le _, Nat.zero_le _⟩ rfl (Nat.le_of_ble_eq_true rfl) rfl ?_
          refine r_goto g0 109 dX7_parseOrder_101 (by decide) ?_
          refine r_mask g0 (lv' := [some (.ref (E.1 o)), none]) [true, false] rfl ?_
          exact hjp_2 s_7 h
      · replace h := if_t hc h
        refine r_aload_n g0 dX7_parseOrder_84 rfl ?_
        obtain ⟨r_6, s_8, hr_6, h⟩ := bd_some h
        refine r_cVV g0 (rest := []) (c_X7_parseEntry ho hr_6) ok_X7_parseEntry mX7_60 (recv_Reader ho) dX7_parseOrder_85 ⟨Nat.le_of_ble_eq_true rfl, Nat.le_of_ble_eq_true rfl⟩ ⟨Nat.zero_le _, Nat.zero_le _⟩ rfl (Nat.le_of_ble_eq_true rfl) rfl ?_
        refine r_goto g0 109 dX7_parseOrder_88 (by decide) ?_
        refine r_mask g0 (lv' := [some (.ref (E.1 o)), none]) [true, false] rfl ?_
        exact hjp_2 s_8 h
    · replace h := if_t hc h
      refine r_aload_n g0 dX7_parseOrder_71 rfl ?_
      obtain ⟨r_7, s_9, hr_7, h⟩ := bd_some h
      refine r_cVV g0 (rest := []) (c_X7_parseLine ho hr_7) ok_X7_parseLine mX7_57 (recv_Reader ho) dX7_parseOrder_72 ⟨Nat.le_of_ble_eq_true rfl, Nat.le_of_ble_eq_true rfl⟩ ⟨Nat.zero_le _, Nat.zero_le _⟩ rfl (Nat.le_of_ble_eq_true rfl) rfl ?_
      refine r_goto g0 109 dX7_parseOrder_75 (by decide) ?_
      refine r_mask g0 (lv' := [some (.ref (E.1 o)), none]) [true, false] rfl ?_
      exact hjp_2 s_9 h
  clear hdjp_1
  refine r_icmp_eq g0 50 dX7_parseOrder_8 (by decide) i_r_1 (InR_lit rfl) (fun hc => ?_) (fun hc => ?_)
  · replace h := if_t hc h
    exact hjp_1 s_1 h
  · replace h := if_f hc h
    refine r_iload_n g0 dX7_parseOrder_11 rfl ?_
    refine r_bipush g0 dX7_parseOrder_12 rfl ?_
    refine r_icmp_eq g0 50 dX7_parseOrder_14 (by decide) i_r_1 (InR_lit rfl) (fun hc => ?_) (fun hc => ?_)
    · replace h := if_t hc h
      exact hjp_1 s_1 h
    · replace h := if_f hc h
      refine r_iload_n g0 dX7_parseOrder_17 rfl ?_
      refine r_bipush g0 dX7_parseOrder_18 rfl ?_
      refine r_icmp_eq g0 50 dX7_parseOrder_20 (by decide) i_r_1 (InR_lit rfl) (fun hc => ?_) (fun hc => ?_)
      · replace h := if_t hc h
        exact hjp_1 s_1 h
      · replace h := if_f hc h
        refine r_iload_n g0 dX7_parseOrder_23 rfl ?_
        refine r_bipush g0 dX7_parseOrder_24 rfl ?_
        refine r_icmp_eq g0 50 dX7_parseOrder_26 (by decide) i_r_1 (InR_lit rfl) (fun hc => ?_) (fun hc => ?_)
        · replace h := if_t hc h
          exact hjp_1 s_1 h
        · replace h := if_f hc h
          refine r_iload_n g0 dX7_parseOrder_29 rfl ?_
          refine r_bipush g0 dX7_parseOrder_30 rfl ?_
          refine r_icmp_eq g0 50 dX7_parseOrder_32 (by decide) i_r_1 (InR_lit rfl) (fun hc => ?_) (fun hc => ?_)
          · replace h := if_t hc h
            exact hjp_1 s_1 h
          · replace h := if_f hc h
            refine r_iload_n g0 dX7_parseOrder_35 rfl ?_
            refine r_bipush g0 dX7_parseOrder_36 rfl ?_
            refine r_icmp_eq g0 50 dX7_parseOrder_38 (by decide) i_r_1 (InR_lit rfl) (fun hc => ?_) (fun hc => ?_)
            · replace h := if_t hc h
              exact hjp_1 s_1 h
            · replace h := if_f hc h
              refine r_aload_n g0 dX7_parseOrder_41 rfl ?_
              refine r_aload_n g0 dX7_parseOrder_42 rfl ?_
              refine g_Reader_place g0 ho qX7_34 dX7_parseOrder_43 ?_
              obtain ⟨r_8, s_10, hr_8, h⟩ := bd_some h
              refine r_cVV g0 (rest := []) (c_X7_fail ho (InR_rd _ _ _) hr_8) ok_X7_fail mX7_50 (recv_Reader ho) dX7_parseOrder_46 ⟨Nat.le_of_ble_eq_true rfl, Nat.le_of_ble_eq_true rfl⟩ ⟨Nat.zero_le _, Nat.zero_le _⟩ rfl (Nat.le_of_ble_eq_true rfl) rfl ?_
              exact z_V g dX7_parseOrder_49 h
theorem dX7_parse_0 : decode cX7_parse 0 = .ok (.aload_n 0, 1) := by decide +kernel
theorem dX7_parse_1 : decode cX7_parse 1 = .ok (.iconst 0, 1) := by decide +kernel
theorem dX7_parse_2 : decode cX7_parse 2 = .ok (.putfield 28, 3) := by decide +kernel
theorem dX7_parse_5 : decode cX7_parse 5 = .ok (.aload_n 0, 1) := by decide +kernel
theorem dX7_parse_6 : decode cX7_parse 6 = .ok (.iconst 0, 1) := by decide +kernel
theorem dX7_parse_7 : decode cX7_parse 7 = .ok (.putfield 31, 3) := by decide +kernel
theorem dX7_parse_10 : decode cX7_parse 10 = .ok (.aload_n 0, 1) := by decide +kernel
theorem dX7_parse_11 : decode cX7_parse 11 = .ok (.iconst 0, 1) := by decide +kernel
theorem dX7_parse_12 : decode cX7_parse 12 = .ok (.putfield 34, 3) := by decide +kernel
theorem dX7_parse_15 : decode cX7_parse 15 = .ok (.aload_n 0, 1) := by decide +kernel
theorem dX7_parse_16 : decode cX7_parse 16 = .ok (.iconst (-1), 1) := by decide +kernel
theorem dX7_parse_17 : decode cX7_parse 17 = .ok (.putfield 37, 3) := by decide +kernel
theorem dX7_parse_20 : decode cX7_parse 20 = .ok (.aload_n 0, 1) := by decide +kernel
theorem dX7_parse_21 : decode cX7_parse 21 = .ok (.invokevirtual 40, 3) := by decide +kernel
theorem dX7_parse_24 : decode cX7_parse 24 = .ok (.aload_n 0, 1) := by decide +kernel
theorem dX7_parse_25 : decode cX7_parse 25 = .ok (.getfield 34, 3) := by decide +kernel
theorem dX7_parse_28 : decode cX7_parse 28 = .ok (.aload_n 0, 1) := by decide +kernel
theorem dX7_parse_29 : decode cX7_parse 29 = .ok (.getfield 24, 3) := by decide +kernel
theorem dX7_parse_32 : decode cX7_parse 32 = .ok (.if_icmp .lt 8, 3) := by decide +kernel
theorem dX7_parse_35 : decode cX7_parse 35 = .ok (.aload_n 0, 1) := by decide +kernel
theorem dX7_parse_36 : decode cX7_parse 36 = .ok (.getfield 24, 3) := by decide +kernel
theorem dX7_parse_39 : decode cX7_parse 39 = .ok (.ireturn, 1) := by decide +kernel
theorem dX7_parse_40 : decode cX7_parse 40 = .ok (.iconst 0, 1) := by decide +kernel
theorem dX7_parse_41 : decode cX7_parse 41 = .ok (.istore_n 1, 1) := by decide +kernel
theorem dX7_parse_42 : decode cX7_parse 42 = .ok (.iload_n 1, 1) := by decide +kernel
theorem dX7_parse_43 : decode cX7_parse 43 = .ok (.bipush 120, 2) := by decide +kernel
theorem dX7_parse_45 : decode cX7_parse 45 = .ok (.if_icmp .ge 36, 3) := by decide +kernel
theorem dX7_parse_48 : decode cX7_parse 48 = .ok (.aload_n 0, 1) := by decide +kernel
theorem dX7_parse_49 : decode cX7_parse 49 = .ok (.getfield 37, 3) := by decide +kernel
theorem dX7_parse_52 : decode cX7_parse 52 = .ok (.iconst (-1), 1) := by decide +kernel
theorem dX7_parse_53 : decode cX7_parse 53 = .ok (.if_icmp .ne 28, 3) := by decide +kernel
theorem dX7_parse_56 : decode cX7_parse 56 = .ok (.aload_n 0, 1) := by decide +kernel
theorem dX7_parse_57 : decode cX7_parse 57 = .ok (.getfield 34, 3) := by decide +kernel
theorem dX7_parse_60 : decode cX7_parse 60 = .ok (.aload_n 0, 1) := by decide +kernel
theorem dX7_parse_61 : decode cX7_parse 61 = .ok (.getfield 24, 3) := by decide +kernel
theorem dX7_parse_64 : decode cX7_parse 64 = .ok (.if_icmp .ge 17, 3) := by decide +kernel
theorem dX7_parse_67 : decode cX7_parse 67 = .ok (.aload_n 0, 1) := by decide +kernel
theorem dX7_parse_68 : decode cX7_parse 68 = .ok (.invokevirtual 43, 3) := by decide +kernel
theorem dX7_parse_71 : decode cX7_parse 71 = .ok (.aload_n 0, 1) := by decide +kernel
theorem dX7_parse_72 : decode cX7_parse 72 = .ok (.invokevirtual 40, 3) := by decide +kernel
theorem dX7_parse_75 : decode cX7_parse 75 = .ok (.iinc 1 1, 3) := by decide +kernel
theorem dX7_parse_78 : decode cX7_parse 78 = .ok (.goto (-36), 3) := by decide +kernel
theorem dX7_parse_81 : decode cX7_parse 81 = .ok (.aload_n 0, 1) := by decide +kernel
theorem dX7_parse_82 : decode cX7_parse 82 = .ok (.getfield 37, 3) := by decide +kernel
theorem dX7_parse_85 : decode cX7_parse 85 = .ok (.ireturn, 1) := by decide +kernel
set_option maxHeartbeats 4000000 in
set_option maxRecDepth 100000 in
theorem t_X7_parse_L42 {l : Launch} {E : u_E} {K : u_K} {r : Int} {s' : u_S} (g : Wk l (XE E) { frames := 6, cells := 0, slots := 0, locals := 127 } cX7_parse 2 yX7_parse.cls yX7_parse.name (some .int) (RI E r s') K) {v0_1 : u_O} (i_v0_1 : is_Reader v0_1) {kx81 : u_S → Option (Int × u_S)} (hkx81 : ∀ (s_6 : u_S), kx81 s_6 = some (r, s') → K 0 0 81 [some (.ref (E.1 v0_1)), none] [] (Wd E s_6)) : ∀ (m : Nat) (v1_1 : Int) (s_3 : u_S), InR v1_1 → f_X7_parse_L42 m kx81 v0_1 v1_1 s_3 = some (r, s') → K 0 0 42 [some (.ref (E.1 v0_1)), some (.int (J v1_1))] [] (Wd E s_3) := by
  have g0 := g.wk
  intro m
  induction m with
  | zero =>
    intro v1_1 s_3 i_v1_1 h
    exact absurd (show (none : Option (Int × u_S)) = some (r, s') from h) (by intro z; cases z)
  | succ m ih =>
    intro v1_1 s_3 i_v1_1 h
    rw [f_X7_parse_L42] at h
    refine r_iload_n g0 dX7_parse_42 rfl ?_
    refine r_bipush g0 dX7_parse_43 rfl ?_
    refine r_icmp_ge g0 81 dX7_parse_45 (by decide) i_v1_1 (InR_lit rfl) (fun hc => ?_) (fun hc => ?_)
    · replace h := if_f hc h
      refine r_mask g0 (lv' := [some (.ref (E.1 v0_1)), none]) [true, false] rfl ?_
      exact hkx81 s_3 h
    · replace h := if_t hc h
      refine r_aload_n g0 dX7_parse_48 rfl ?_
      refine g_Reader_fault g0 i_v0_1 qX7_37 dX7_parse_49 ?_
      refine r_iconst g0 dX7_parse_52 ?_
      refine r_icmp_ne g0 81 dX7_parse_53 (by decide) (InR_rd _ _ _) (InR_lit rfl) (fun hc => ?_) (fun hc => ?_)
      · replace h := if_f hc h
        refine r_mask g0 (lv' := [some (.ref (E.1 v0_1)), none]) [true, false] rfl ?_
        exact hkx81 s_3 h
      · replace h := if_t hc h
        refine r_aload_n g0 dX7_parse_56 rfl ?_
        refine g_Reader_place g0 i_v0_1 qX7_34 dX7_parse_57 ?_
        refine r_aload_n g0 dX7_parse_60 rfl ?_
        refine g_Reader_length g0 i_v0_1 qX7_24 dX7_parse_61 ?_
        refine r_icmp_ge g0 81 dX7_parse_64 (by decide) (InR_rd _ _ _) (InR_rd _ _ _) (fun hc => ?_) (fun hc => ?_)
        · replace h := if_f hc h
          refine r_mask g0 (lv' := [some (.ref (E.1 v0_1)), none]) [true, false] rfl ?_
          exact hkx81 s_3 h
        · replace h := if_t hc h
          refine r_aload_n g0 dX7_parse_67 rfl ?_
          obtain ⟨r_2, s_4, hr_2, h⟩ := bd_some h
          refine r_cVV g0 (rest := []) (c_X7_parseOrder i_v0_1 hr_2) ok_X7_parseOrder mX7_43 (recv_Reader i_v0_1) dX7_parse_68 ⟨Nat.le_of_ble_eq_true rfl, Nat.le_of_ble_eq_true rfl⟩ ⟨Nat.zero_le _, Nat.zero_le _⟩ rfl (Nat.le_of_ble_eq_true rfl) rfl ?_
          refine r_aload_n g0 dX7_parse_71 rfl ?_
          obtain ⟨r_3, s_5, hr_3, h⟩ := bd_some h
          refine r_cVV g0 (rest := []) (c_X7_skipBlanks i_v0_1 hr_3) ok_X7_skipBlanks mX7_40 (recv_Reader i_v0_1) dX7_parse_72 ⟨Nat.le_of_ble_eq_true rfl, Nat.le_of_ble_eq_true rfl⟩ ⟨Nat.zero_le _, Nat.zero_le _⟩ rfl (Nat.le_of_ble_eq_true rfl) rfl ?_
          refine r_iinc g0 (a := v1_1) (lv' := [some (.ref (E.1 v0_1)), some (.int (J (wr (v1_1 + 1))))]) dX7_parse_75 (by decide) rfl rfl rfl ?_
          refine r_goto g0 42 dX7_parse_78 (by decide) ?_
          exact ih (wr (v1_1 + 1)) s_5 (InR_wr _) h
set_option maxHeartbeats 4000000 in
set_option maxRecDepth 100000 in
theorem c_X7_parse {E : u_E} {l : Launch} {o : u_O} (ho : is_Reader o) {s s' : u_S} {r : Int} (h : f_X7_parse o s = some (r, s')) : Con l (XE E) yX7_parse cX7_parse 2 (some .int) 6 127 0 0 [.ref (E.1 o)] (Wd E s) (RI E r s') := by
  refine Con.of [some (.ref (E.1 o)), none] (by decide +kernel) rfl rfl (Nat.le_of_ble_eq_true rfl) (fun K g => ?_)
  have g0 := g.wk
  unfold f_X7_parse at h
  refine r_aload_n g0 dX7_parse_0 rfl ?_
  refine r_iconst g0 dX7_parse_1 ?_
  refine p_Reader_orders g0 ho qX7_28 dX7_parse_2 ?_
  refine r_aload_n g0 dX7_parse_5 rfl ?_
  refine r_iconst g0 dX7_parse_6 ?_
  refine p_Reader_numberCount g0 ho qX7_31 dX7_parse_7 ?_
  refine r_aload_n g0 dX7_parse_10 rfl ?_
  refine r_iconst g0 dX7_parse_11 ?_
  refine p_Reader_place g0 ho qX7_34 dX7_parse_12 ?_
  refine r_aload_n g0 dX7_parse_15 rfl ?_
  refine r_iconst g0 dX7_parse_16 ?_
  refine p_Reader_fault g0 ho qX7_37 dX7_parse_17 ?_
  refine r_aload_n g0 dX7_parse_20 rfl ?_
  obtain ⟨r_1, s_1, hr_1, h⟩ := bd_some h
  refine r_cVV g0 (rest := []) (c_X7_skipBlanks ho hr_1) ok_X7_skipBlanks mX7_40 (recv_Reader ho) dX7_parse_21 ⟨Nat.le_of_ble_eq_true rfl, Nat.le_of_ble_eq_true rfl⟩ ⟨Nat.zero_le _, Nat.zero_le _⟩ rfl (Nat.le_of_ble_eq_true rfl) rfl ?_
  refine r_aload_n g0 dX7_parse_24 rfl ?_
  refine g_Reader_place g0 ho qX7_34 dX7_parse_25 ?_
  refine r_aload_n g0 dX7_parse_28 rfl ?_
  refine g_Reader_length g0 ho qX7_24 dX7_parse_29 ?_
  refine r_icmp_lt g0 40 dX7_parse_32 (by decide) (InR_rd _ _ _) (InR_rd _ _ _) (fun hc => ?_) (fun hc => ?_)
  · replace h := if_t hc h
    refine r_iconst g0 dX7_parse_40 ?_
    refine r_istore_n g0 (lv' := [some (.ref (E.1 o)), some (.int (J 0))]) dX7_parse_41 (by decide) rfl rfl ?_
    refine t_X7_parse_L42 g ho ?_ FU 0 s_1 (B01.inR B01_0) h
    · intro s_2 h
      refine r_aload_n g0 dX7_parse_81 rfl ?_
      refine g_Reader_fault g0 ho qX7_37 dX7_parse_82 ?_
      exact z_I g dX7_parse_85 (InR_rd _ _ _) h
  · replace h := if_f hc h
    refine r_aload_n g0 dX7_parse_35 rfl ?_
    refine g_Reader_length g0 ho qX7_24 dX7_parse_36 ?_
    exact z_I g dX7_parse_39 (InR_rd _ _ _) h
theorem dX9_sortVisits_0 : decode cX9_sortVisits 0 = .ok (.iconst 0, 1) := by decide +kernel
theorem dX9_sortVisits_1 : decode cX9_sortVisits 1 = .ok (.istore_n 3, 1) := by decide +kernel
theorem dX9_sortVisits_2 : decode cX9_sortVisits 2 = .ok (.iload_n 3, 1) := by decide +kernel
theorem dX9_sortVisits_3 : decode cX9_sortVisits 3 = .ok (.iload_n 2, 1) := by decide +kernel
theorem dX9_sortVisits_4 : decode cX9_sortVisits 4 = .ok (.if_icmp .ge 64, 3) := by decide +kernel
theorem dX9_sortVisits_7 : decode cX9_sortVisits 7 = .ok (.iload_n 3, 1) := by decide +kernel
theorem dX9_sortVisits_8 : decode cX9_sortVisits 8 = .ok (.istore 4, 2) := by decide +kernel
theorem dX9_sortVisits_10 : decode cX9_sortVisits 10 = .ok (.iload 4, 2) := by decide +kernel
theorem dX9_sortVisits_12 : decode cX9_sortVisits 12 = .ok (.ifCond .le 40, 3) := by decide +kernel
theorem dX9_sortVisits_15 : decode cX9_sortVisits 15 = .ok (.aload_n 0, 1) := by decide +kernel
theorem dX9_sortVisits_16 : decode cX9_sortVisits 16 = .ok (.getfield 15, 3) := by decide +kernel
theorem dX9_sortVisits_19 : decode cX9_sortVisits 19 = .ok (.iload 4, 2) := by decide +kernel
theorem dX9_sortVisits_21 : decode cX9_sortVisits 21 = .ok (.iconst 1, 1) := by decide +kernel
theorem dX9_sortVisits_22 : decode cX9_sortVisits 22 = .ok (.isub, 1) := by decide +kernel
theorem dX9_sortVisits_23 : decode cX9_sortVisits 23 = .ok (.iaload, 1) := by decide +kernel
theorem dX9_sortVisits_24 : decode cX9_sortVisits 24 = .ok (.aload_n 1, 1) := by decide +kernel
theorem dX9_sortVisits_25 : decode cX9_sortVisits 25 = .ok (.iload_n 3, 1) := by decide +kernel
theorem dX9_sortVisits_26 : decode cX9_sortVisits 26 = .ok (.iaload, 1) := by decide +kernel
theorem dX9_sortVisits_27 : decode cX9_sortVisits 27 = .ok (.if_icmp .le 25, 3) := by decide +kernel
theorem dX9_sortVisits_30 : decode cX9_sortVisits 30 = .ok (.aload_n 0, 1) := by decide +kernel
theorem dX9_sortVisits_31 : decode cX9_sortVisits 31 = .ok (.getfield 15, 3) := by decide +kernel
theorem dX9_sortVisits_34 : decode cX9_sortVisits 34 = .ok (.iload 4, 2) := by decide +kernel
theorem dX9_sortVisits_36 : decode cX9_sortVisits 36 = .ok (.aload_n 0, 1) := by decide +kernel
theorem dX9_sortVisits_37 : decode cX9_sortVisits 37 = .ok (.getfield 15, 3) := by decide +kernel
theorem dX9_sortVisits_40 : decode cX9_sortVisits 40 = .ok (.iload 4, 2) := by decide +kernel
theorem dX9_sortVisits_42 : decode cX9_sortVisits 42 = .ok (.iconst 1, 1) := by decide +kernel
theorem dX9_sortVisits_43 : decode cX9_sortVisits 43 = .ok (.isub, 1) := by decide +kernel
theorem dX9_sortVisits_44 : decode cX9_sortVisits 44 = .ok (.iaload, 1) := by decide +kernel
theorem dX9_sortVisits_45 : decode cX9_sortVisits 45 = .ok (.iastore, 1) := by decide +kernel
theorem dX9_sortVisits_46 : decode cX9_sortVisits 46 = .ok (.iinc 4 (-1), 3) := by decide +kernel
theorem dX9_sortVisits_49 : decode cX9_sortVisits 49 = .ok (.goto (-39), 3) := by decide +kernel
theorem dX9_sortVisits_52 : decode cX9_sortVisits 52 = .ok (.aload_n 0, 1) := by decide +kernel
theorem dX9_sortVisits_53 : decode cX9_sortVisits 53 = .ok (.getfield 15, 3) := by decide +kernel
theorem dX9_sortVisits_56 : decode cX9_sortVisits 56 = .ok (.iload 4, 2) := by decide +kernel
theorem dX9_sortVisits_58 : decode cX9_sortVisits 58 = .ok (.aload_n 1, 1) := by decide +kernel
theorem dX9_sortVisits_59 : decode cX9_sortVisits 59 = .ok (.iload_n 3, 1) := by decide +kernel
theorem dX9_sortVisits_60 : decode cX9_sortVisits 60 = .ok (.iaload, 1) := by decide +kernel
theorem dX9_sortVisits_61 : decode cX9_sortVisits 61 = .ok (.iastore, 1) := by decide +kernel
theorem dX9_sortVisits_62 : decode cX9_sortVisits 62 = .ok (.iinc 3 1, 3) := by decide +kernel
theorem dX9_sortVisits_65 : decode cX9_sortVisits 65 = .ok (.goto (-63), 3) := by decide +kernel
theorem dX9_sortVisits_68 : decode cX9_sortVisits 68 = .ok (.return_, 1) := by decide +kernel
set_option maxHeartbeats 4000000 in
set_option maxRecDepth 100000 in
theorem t_X9_sortVisits_L10 {l : Launch} {E : u_E} {K : u_K} {r : Int} {s' : u_S} (g : Wk l (XE E) { frames := 0, cells := 0, slots := 0, locals := 0 } cX9_sortVisits 5 yX9_sortVisits.cls yX9_sortVisits.name none (RV E r s') K) {v0_2 : u_O} {v1_2 : u_O} {v2_2 : Int} {v3_2 : Int} (i_v0_2 : is_Tour v0_2) (i_v1_2 : is_A v1_2) (i_v2_2 : InR v2_2) (i_v3_2 : InR v3_2) {kx52 : Int → u_S → Option (Int × u_S)} (hkx52 : ∀ (v4_3 : Int) (s_5 : u_S), InR v4_3 → kx52 v4_3 s_5 = some (r, s') → K 0 0 52 [some (.ref (E.1 v0_2)), some (.ref (E.1 v1_2)), some (.int (J v2_2)), some (.int (J v3_2)), some (.int (J v4_3))] [] (Wd E s_5)) : ∀ (m : Nat) (v4_2 : Int) (s_4 : u_S), InR v4_2 → f_X9_sortVisits_L10 m kx52 v0_2 v1_2 v2_2 v3_2 v4_2 s_4 = some (r, s') → K 0 0 10 [some (.ref (E.1 v0_2)), some (.ref (E.1 v1_2)), some (.int (J v2_2)), some (.int (J v3_2)), some (.int (J v4_2))] [] (Wd E s_4) := by
  have g0 := g.wk
  intro m
  induction m with
  | zero =>
    intro v4_2 s_4 i_v4_2 h
    exact absurd (show (none : Option (Int × u_S)) = some (r, s') from h) (by intro z; cases z)
  | succ m ih =>
    intro v4_2 s_4 i_v4_2 h
    rw [f_X9_sortVisits_L10] at h
    refine r_iload g0 dX9_sortVisits_10 rfl ?_
    refine r_if_le g0 52 dX9_sortVisits_12 (by decide) i_v4_2 (fun hc => ?_) (fun hc => ?_)
    · replace h := if_t hc h
      exact hkx52 v4_2 s_4 i_v4_2 h
    · replace h := if_f hc h
      refine r_aload_n g0 dX9_sortVisits_15 rfl ?_
      refine g_Tour_tried g0 i_v0_2 qX9_15 dX9_sortVisits_16 ?_
      refine r_iload g0 dX9_sortVisits_19 rfl ?_
      refine r_iconst g0 dX9_sortVisits_21 ?_
      refine r_isub g0 dX9_sortVisits_22 ?_
      obtain ⟨hb, h⟩ := gd_some h
      refine r_iaload g0 (is_a_Tour_tried i_v0_2) (n := 5) rfl (InR_wr _) hb dX9_sortVisits_23 ?_
      refine r_aload_n g0 dX9_sortVisits_24 rfl ?_
      refine r_iload_n g0 dX9_sortVisits_25 rfl ?_
      obtain ⟨hb, h⟩ := gd_some h
      refine r_iaload g0 i_v1_2 (n := (alen v1_2)) rfl i_v3_2 hb dX9_sortVisits_26 ?_
      refine r_icmp_le g0 52 dX9_sortVisits_27 (by decide) (InR_rd _ _ _) (InR_rd _ _ _) (fun hc => ?_) (fun hc => ?_)
      · replace h := if_t hc h
        exact hkx52 v4_2 s_4 i_v4_2 h
      · replace h := if_f hc h
        refine r_aload_n g0 dX9_sortVisits_30 rfl ?_
        refine g_Tour_tried g0 i_v0_2 qX9_15 dX9_sortVisits_31 ?_
        refine r_iload g0 dX9_sortVisits_34 rfl ?_
        refine r_aload_n g0 dX9_sortVisits_36 rfl ?_
        refine g_Tour_tried g0 i_v0_2 qX9_15 dX9_sortVisits_37 ?_
        refine r_iload g0 dX9_sortVisits_40 rfl ?_
        refine r_iconst g0 dX9_sortVisits_42 ?_
        refine r_isub g0 dX9_sortVisits_43 ?_
        obtain ⟨hb, h⟩ := gd_some h
        refine r_iaload g0 (is_a_Tour_tried i_v0_2) (n := 5) rfl (InR_wr _) hb dX9_sortVisits_44 ?_
        obtain ⟨hb, h⟩ := gd_some h
        refine r_iastore g0 (is_a_Tour_tried i_v0_2) (n := 5) rfl i_v4_2 hb dX9_sortVisits_45 ?_
        refine r_iinc g0 (a := v4_2) (lv' := [some (.ref (E.1 v0_2)), some (.ref (E.1 v1_2)), some (.int (J v2_2)), some (.int (J v3_2)), some (.int (J (wr (v4_2 + (-1)))))]) dX9_sortVisits_46 (by decide) rfl rfl rfl ?_
        refine r_goto g0 10 dX9_sortVisits_49 (by decide) ?_
        exact ih (wr (v4_2 + (-1))) (wt s_4 (a_Tour_tried v0_2) v4_2 (rd s_4 (a_Tour_tried v0_2) (wr (v4_2 - 1)))) (InR_wr _) h
set_option maxHeartbeats 4000000 in
set_option maxRecDepth 100000 in
theorem t_X9_sortVisits_L2 {l : Launch} {E : u_E} {K : u_K} {r : Int} {s' : u_S} (g : Wk l (XE E) { frames := 0, cells := 0, slots := 0, locals := 0 } cX9_sortVisits 5 yX9_sortVisits.cls yX9_sortVisits.name none (RV E r s') K) {v0_1 : u_O} {v1_1 : u_O} {v2_1 : Int} (i_v0_1 : is_Tour v0_1) (i_v1_1 : is_A v1_1) (i_v2_1 : InR v2_1) {kx68 : u_S → Option (Int × u_S)} (hkx68 : ∀ (s_6 : u_S), kx68 s_6 = some (r, s') → K 0 0 68 [none, none, none, none, none] [] (Wd E s_6)) : ∀ (m : Nat) (v3_1 : Int) (s_2 : u_S), InR v3_1 → f_X9_sortVisits_L2 m kx68 v0_1 v1_1 v2_1 v3_1 s_2 = some (r, s') → K 0 0 2 [some (.ref (E.1 v0_1)), some (.ref (E.1 v1_1)), some (.int (J v2_1)), some (.int (J v3_1)), none] [] (Wd E s_2) := by
  have g0 := g.wk
  intro m
  induction m with
  | zero =>
    intro v3_1 s_2 i_v3_1 h
    exact absurd (show (none : Option (Int × u_S)) = some (r, s') from h) (by intro z; cases z)
  | succ m ih =>
    intro v3_1 s_2 i_v3_1 h
    rw [f_X9_sortVisits_L2] at h
    refine r_iload_n g0 dX9_sortVisits_2 rfl ?_
    refine r_iload_n g0 dX9_sortVisits_3 rfl ?_
    refine r_icmp_ge g0 68 dX9_sortVisits_4 (by decide) i_v3_1 i_v2_1 (fun hc => ?_) (fun hc => ?_)
    · replace h := if_f hc h
      refine r_mask g0 (lv' := [none, none, none, none, none]) [false, false, false, false, false] rfl ?_
      exact hkx68 s_2 h
    · replace h := if_t hc h
      refine r_iload_n g0 dX9_sortVisits_7 rfl ?_
      refine r_istore g0 (lv' := [some (.ref (E.1 v0_1)), some (.ref (E.1 v1_1)), some (.int (J v2_1)), some (.int (J v3_1)), some (.int (J v3_1))]) dX9_sortVisits_8 (by decide) rfl rfl ?_
      refine t_X9_sortVisits_L10 g i_v0_1 i_v1_1 i_v2_1 i_v3_1 ?_ FU v3_1 s_2 i_v3_1 h
      · intro v4_1 s_3 i_v4_1 h
        refine r_aload_n g0 dX9_sortVisits_52 rfl ?_
        refine g_Tour_tried g0 i_v0_1 qX9_15 dX9_sortVisits_53 ?_
        refine r_iload g0 dX9_sortVisits_56 rfl ?_
        refine r_aload_n g0 dX9_sortVisits_58 rfl ?_
        refine r_iload_n g0 dX9_sortVisits_59 rfl ?_
        obtain ⟨hb, h⟩ := gd_some h
        refine r_iaload g0 i_v1_1 (n := (alen v1_1)) rfl i_v3_1 hb dX9_sortVisits_60 ?_
        obtain ⟨hb, h⟩ := gd_some h
        refine r_iastore g0 (is_a_Tour_tried i_v0_1) (n := 5) rfl i_v4_1 hb dX9_sortVisits_61 ?_
        refine r_iinc g0 (a := v3_1) (lv' := [some (.ref (E.1 v0_1)), some (.ref (E.1 v1_1)), some (.int (J v2_1)), some (.int (J (wr (v3_1 + 1)))), some (.int (J v4_1))]) dX9_sortVisits_62 (by decide) rfl rfl rfl ?_
        refine r_goto g0 2 dX9_sortVisits_65 (by decide) ?_
        refine r_mask g0 (lv' := [some (.ref (E.1 v0_1)), some (.ref (E.1 v1_1)), some (.int (J v2_1)), some (.int (J (wr (v3_1 + 1)))), none]) [true, true, true, true, false] rfl ?_
        exact ih (wr (v3_1 + 1)) (wt s_3 (a_Tour_tried v0_1) v4_1 (rd s_3 v1_1 v3_1)) (InR_wr _) h
set_option maxHeartbeats 4000000 in
set_option maxRecDepth 100000 in
theorem c_X9_sortVisits {E : u_E} {l : Launch} {o : u_O} {p1 : u_O} {p2 : Int} (ho : is_Tour o) (i_p1 : is_A p1) (i_p2 : InR p2) {s s' : u_S} {r : Int} (h : f_X9_sortVisits o p1 p2 s = some (r, s')) : Con l (XE E) yX9_sortVisits cX9_sortVisits 5 none 0 0 0 0 [.ref (E.1 o), .ref (E.1 p1), .int (J p2)] (Wd E s) (RV E r s') := by
  refine Con.of [some (.ref (E.1 o)), some (.ref (E.1 p1)), some (.int (J p2)), none, none] (by decide +kernel) rfl rfl (Nat.le_of_ble_eq_true rfl) (fun K g => ?_)
  have g0 := g.wk
  unfold f_X9_sortVisits at h
  refine r_iconst g0 dX9_sortVisits_0 ?_
  refine r_istore_n g0 (lv' := [some (.ref (E.1 o)), some (.ref (E.1 p1)), some (.int (J p2)), some (.int (J 0)), none]) dX9_sortVisits_1 (by decide) rfl rfl ?_
  refine t_X9_sortVisits_L2 g ho i_p1 i_p2 ?_ FU 0 s (B01.inR B01_0) h
  · intro s_1 h
    exact z_V g dX9_sortVisits_68 h
theorem dX10_modeOf_0 : decode cX10_modeOf 0 = .ok (.iload_n 0, 1) := by decide +kernel
theorem dX10_modeOf_1 : decode cX10_modeOf 1 = .ok (.bipush 12, 2) := by decide +kernel
theorem dX10_modeOf_3 : decode cX10_modeOf 3 = .ok (.idiv, 1) := by decide +kernel
theorem dX10_modeOf_4 : decode cX10_modeOf 4 = .ok (.ireturn, 1) := by decide +kernel
set_option maxHeartbeats 4000000 in
set_option maxRecDepth 100000 in
theorem c_X10_modeOf {E : u_E} {l : Launch} {p1 : Int} (i_p1 : InR p1) {s s' : u_S} {r : Int} (h : f_X10_modeOf p1 s = some (r, s')) : Con l (XE E) yX10_modeOf cX10_modeOf 1 (some .int) 0 0 0 0 [.int (J p1)] (Wd E s) (RI E r s') := by
  refine Con.of [some (.int (J p1))] (by decide +kernel) rfl rfl (Nat.le_of_ble_eq_true rfl) (fun K g => ?_)
  have g0 := g.wk
  unfold f_X10_modeOf at h
  refine r_iload_n g0 dX10_modeOf_0 rfl ?_
  refine r_bipush g0 dX10_modeOf_1 rfl ?_
  refine r_idiv g0 dX10_modeOf_3 i_p1 (InR_lit rfl) (by decide) ?_
  exact z_I g dX10_modeOf_4 (InR_wr _) h
theorem dX10_turns_0 : decode cX10_turns 0 = .ok (.iload_n 1, 1) := by decide +kernel
theorem dX10_turns_1 : decode cX10_turns 1 = .ok (.iload_n 0, 1) := by decide +kernel
theorem dX10_turns_2 : decode cX10_turns 2 = .ok (.isub, 1) := by decide +kernel
theorem dX10_turns_3 : decode cX10_turns 3 = .ok (.bipush 12, 2) := by decide +kernel
theorem dX10_turns_5 : decode cX10_turns 5 = .ok (.invokestatic 392, 3) := by decide +kernel
theorem dX10_turns_8 : decode cX10_turns 8 = .ok (.istore_n 2, 1) := by decide +kernel
theorem dX10_turns_9 : decode cX10_turns 9 = .ok (.iload_n 2, 1) := by decide +kernel
theorem dX10_turns_10 : decode cX10_turns 10 = .ok (.bipush 12, 2) := by decide +kernel
theorem dX10_turns_12 : decode cX10_turns 12 = .ok (.iload_n 2, 1) := by decide +kernel
theorem dX10_turns_13 : decode cX10_turns 13 = .ok (.isub, 1) := by decide +kernel
theorem dX10_turns_14 : decode cX10_turns 14 = .ok (.invokestatic 383, 3) := by decide +kernel
theorem dX10_turns_17 : decode cX10_turns 17 = .ok (.ireturn, 1) := by decide +kernel
set_option maxHeartbeats 4000000 in
set_option maxRecDepth 100000 in
theorem c_X10_turns {E : u_E} {l : Launch} {p1 : Int} {p2 : Int} (i_p1 : InR p1) (i_p2 : InR p2) {s s' : u_S} {r : Int} (h : f_X10_turns p1 p2 s = some (r, s')) : Con l (XE E) yX10_turns cX10_turns 3 (some .int) 1 22 0 0 [.int (J p1), .int (J p2)] (Wd E s) (RI E r s') := by
  refine Con.of [some (.int (J p1)), some (.int (J p2)), none] (by decide +kernel) rfl rfl (Nat.le_of_ble_eq_true rfl) (fun K g => ?_)
  have g0 := g.wk
  unfold f_X10_turns at h
  refine r_iload_n g0 dX10_turns_0 rfl ?_
  refine r_iload_n g0 dX10_turns_1 rfl ?_
  refine r_isub g0 dX10_turns_2 ?_
  refine r_bipush g0 dX10_turns_3 rfl ?_
  obtain ⟨r_1, s_1, hr_1, h⟩ := bd_some h
  refine r_cSI g0 (rest := []) (c_J9_floorMod_7cf53 (InR_wr _) (InR_lit rfl) hr_1) ok_J9_floorMod_7cf53 mX10_392 dX10_turns_5 ⟨Nat.le_of_ble_eq_true rfl, Nat.le_of_ble_eq_true rfl⟩ ⟨Nat.zero_le _, Nat.zero_le _⟩ rfl (Nat.le_of_ble_eq_true rfl) rfl (fun i_r_1 => ?_)
  refine r_istore_n g0 (lv' := [some (.int (J p1)), some (.int (J p2)), some (.int (J r_1))]) dX10_turns_8 (by decide) rfl rfl ?_
  refine r_iload_n g0 dX10_turns_9 rfl ?_
  refine r_bipush g0 dX10_turns_10 rfl ?_
  refine r_iload_n g0 dX10_turns_12 rfl ?_
  refine r_isub g0 dX10_turns_13 ?_
  obtain ⟨r_2, s_2, hr_2, h⟩ := bd_some h
  refine r_cSI g0 (rest := []) (c_J9_min_7cf53 i_r_1 (InR_wr _) hr_2) ok_J9_min_7cf53 mX10_383 dX10_turns_14 ⟨Nat.le_of_ble_eq_true rfl, Nat.le_of_ble_eq_true rfl⟩ ⟨Nat.zero_le _, Nat.zero_le _⟩ rfl (Nat.le_of_ble_eq_true rfl) rfl (fun i_r_2 => ?_)
  exact z_I g dX10_turns_17 i_r_2 h
theorem dX10_wayBetween_0 : decode cX10_wayBetween 0 = .ok (.iload_n 0, 1) := by decide +kernel
theorem dX10_wayBetween_1 : decode cX10_wayBetween 1 = .ok (.invokestatic 395, 3) := by decide +kernel
theorem dX10_wayBetween_4 : decode cX10_wayBetween 4 = .ok (.iload_n 1, 1) := by decide +kernel
theorem dX10_wayBetween_5 : decode cX10_wayBetween 5 = .ok (.invokestatic 395, 3) := by decide +kernel
theorem dX10_wayBetween_8 : decode cX10_wayBetween 8 = .ok (.if_icmp .ne 9, 3) := by decide +kernel
theorem dX10_wayBetween_11 : decode cX10_wayBetween 11 = .ok (.iload_n 0, 1) := by decide +kernel
theorem dX10_wayBetween_12 : decode cX10_wayBetween 12 = .ok (.iload_n 1, 1) := by decide +kernel
theorem dX10_wayBetween_13 : decode cX10_wayBetween 13 = .ok (.invokestatic 398, 3) := by decide +kernel
theorem dX10_wayBetween_16 : decode cX10_wayBetween 16 = .ok (.ireturn, 1) := by decide +kernel
theorem dX10_wayBetween_17 : decode cX10_wayBetween 17 = .ok (.iload_n 0, 1) := by decide +kernel
theorem dX10_wayBetween_18 : decode cX10_wayBetween 18 = .ok (.iload_n 1, 1) := by decide +kernel
theorem dX10_wayBetween_19 : decode cX10_wayBetween 19 = .ok (.invokestatic 383, 3) := by decide +kernel
theorem dX10_wayBetween_22 : decode cX10_wayBetween 22 = .ok (.istore_n 2, 1) := by decide +kernel
theorem dX10_wayBetween_23 : decode cX10_wayBetween 23 = .ok (.iload_n 0, 1) := by decide +kernel
theorem dX10_wayBetween_24 : decode cX10_wayBetween 24 = .ok (.iload_n 1, 1) := by decide +kernel
theorem dX10_wayBetween_25 : decode cX10_wayBetween 25 = .ok (.invokestatic 401, 3) := by decide +kernel
theorem dX10_wayBetween_28 : decode cX10_wayBetween 28 = .ok (.istore_n 3, 1) := by decide +kernel
theorem dX10_wayBetween_29 : decode cX10_wayBetween 29 = .ok (.iconst 1, 1) := by decide +kernel
theorem dX10_wayBetween_30 : decode cX10_wayBetween 30 = .ok (.iload_n 2, 1) := by decide +kernel
theorem dX10_wayBetween_31 : decode cX10_wayBetween 31 = .ok (.iload_n 3, 1) := by decide +kernel
theorem dX10_wayBetween_32 : decode cX10_wayBetween 32 = .ok (.invokestatic 398, 3) := by decide +kernel
theorem dX10_wayBetween_35 : decode cX10_wayBetween 35 = .ok (.iadd, 1) := by decide +kernel
theorem dX10_wayBetween_36 : decode cX10_wayBetween 36 = .ok (.iconst 2, 1) := by decide +kernel
theorem dX10_wayBetween_37 : decode cX10_wayBetween 37 = .ok (.iload_n 2, 1) := by decide +kernel
theorem dX10_wayBetween_38 : decode cX10_wayBetween 38 = .ok (.bipush 9, 2) := by decide +kernel
theorem dX10_wayBetween_40 : decode cX10_wayBetween 40 = .ok (.iadd, 1) := by decide +kernel
theorem dX10_wayBetween_41 : decode cX10_wayBetween 41 = .ok (.iload_n 3, 1) := by decide +kernel
theorem dX10_wayBetween_42 : decode cX10_wayBetween 42 = .ok (.invokestatic 398, 3) := by decide +kernel
theorem dX10_wayBetween_45 : decode cX10_wayBetween 45 = .ok (.iadd, 1) := by decide +kernel
theorem dX10_wayBetween_46 : decode cX10_wayBetween 46 = .ok (.invokestatic 383, 3) := by decide +kernel
theorem dX10_wayBetween_49 : decode cX10_wayBetween 49 = .ok (.ireturn, 1) := by decide +kernel
set_option maxHeartbeats 4000000 in
set_option maxRecDepth 100000 in
theorem c_X10_wayBetween {E : u_E} {l : Launch} {p1 : Int} {p2 : Int} (i_p1 : InR p1) (i_p2 : InR p2) {s s' : u_S} {r : Int} (h : f_X10_wayBetween p1 p2 s = some (r, s')) : Con l (XE E) yX10_wayBetween cX10_wayBetween 4 (some .int) 2 44 0 0 [.int (J p1), .int (J p2)] (Wd E s) (RI E r s') := by
  refine Con.of [some (.int (J p1)), some (.int (J p2)), none, none] (by decide +kernel) rfl rfl (Nat.le_of_ble_eq_true rfl) (fun K g => ?_)
  have g0 := g.wk
  unfold f_X10_wayBetween at h
  refine r_iload_n g0 dX10_wayBetween_0 rfl ?_
  obtain ⟨r_1, s_1, hr_1, h⟩ := bd_some h
  refine r_cSI g0 (rest := []) (c_X10_modeOf i_p1 hr_1) ok_X10_modeOf mX10_395 dX10_wayBetween_1 ⟨Nat.le_of_ble_eq_true rfl, Nat.le_of_ble_eq_true rfl⟩ ⟨Nat.zero_le _, Nat.zero_le _⟩ rfl (Nat.le_of_ble_eq_true rfl) rfl (fun i_r_1 => ?_)
  refine r_iload_n g0 dX10_wayBetween_4 rfl ?_
  obtain ⟨r_2, s_2, hr_2, h⟩ := bd_some h
  refine r_cSI g0 (rest := [.int (J r_1)]) (c_X10_modeOf i_p2 hr_2) ok_X10_modeOf mX10_395 dX10_wayBetween_5 ⟨Nat.le_of_ble_eq_true rfl, Nat.le_of_ble_eq_true rfl⟩ ⟨Nat.zero_le _, Nat.zero_le _⟩ rfl (Nat.le_of_ble_eq_true rfl) rfl (fun i_r_2 => ?_)
  refine r_icmp_ne g0 17 dX10_wayBetween_8 (by decide) i_r_1 i_r_2 (fun hc => ?_) (fun hc => ?_)
  · replace h := if_f hc h
    refine r_iload_n g0 dX10_wayBetween_17 rfl ?_
    refine r_iload_n g0 dX10_wayBetween_18 rfl ?_
    obtain ⟨r_3, s_3, hr_3, h⟩ := bd_some h
    refine r_cSI g0 (rest := []) (c_J9_min_7cf53 i_p1 i_p2 hr_3) ok_J9_min_7cf53 mX10_383 dX10_wayBetween_19 ⟨Nat.le_of_ble_eq_true rfl, Nat.le_of_ble_eq_true rfl⟩ ⟨Nat.zero_le _, Nat.zero_le _⟩ rfl (Nat.le_of_ble_eq_true rfl) rfl (fun i_r_3 => ?_)
    refine r_istore_n g0 (lv' := [some (.int (J p1)), some (.int (J p2)), some (.int (J r_3)), none]) dX10_wayBetween_22 (by decide) rfl rfl ?_
    refine r_iload_n g0 dX10_wayBetween_23 rfl ?_
    refine r_iload_n g0 dX10_wayBetween_24 rfl ?_
    obtain ⟨r_4, s_4, hr_4, h⟩ := bd_some h
    refine r_cSI g0 (rest := []) (c_J9_max_7cf53 i_p1 i_p2 hr_4) ok_J9_max_7cf53 mX10_401 dX10_wayBetween_25 ⟨Nat.le_of_ble_eq_true rfl, Nat.le_of_ble_eq_true rfl⟩ ⟨Nat.zero_le _, Nat.zero_le _⟩ rfl (Nat.le_of_ble_eq_true rfl) rfl (fun i_r_4 => ?_)
    refine r_istore_n g0 (lv' := [some (.int (J p1)), some (.int (J p2)), some (.int (J r_3)), some (.int (J r_4))]) dX10_wayBetween_28 (by decide) rfl rfl ?_
    refine r_iconst g0 dX10_wayBetween_29 ?_
    refine r_iload_n g0 dX10_wayBetween_30 rfl ?_
    refine r_iload_n g0 dX10_wayBetween_31 rfl ?_
    obtain ⟨r_5, s_5, hr_5, h⟩ := bd_some h
    refine r_cSI g0 (rest := [.int (J 1)]) (c_X10_turns i_r_3 i_r_4 hr_5) ok_X10_turns mX10_398 dX10_wayBetween_32 ⟨Nat.le_of_ble_eq_true rfl, Nat.le_of_ble_eq_true rfl⟩ ⟨Nat.zero_le _, Nat.zero_le _⟩ rfl (Nat.le_of_ble_eq_true rfl) rfl (fun i_r_5 => ?_)
    refine r_iadd g0 dX10_wayBetween_35 ?_
    refine r_iconst g0 dX10_wayBetween_36 ?_
    refine r_iload_n g0 dX10_wayBetween_37 rfl ?_
    refine r_bipush g0 dX10_wayBetween_38 rfl ?_
    refine r_iadd g0 dX10_wayBetween_40 ?_
    refine r_iload_n g0 dX10_wayBetween_41 rfl ?_
    obtain ⟨r_6, s_6, hr_6, h⟩ := bd_some h
    refine r_cSI g0 (rest := [.int (J 2), .int (J (wr (1 + r_5)))]) (c_X10_turns (InR_wr _) i_r_4 hr_6) ok_X10_turns mX10_398 dX10_wayBetween_42 ⟨Nat.le_of_ble_eq_true rfl, Nat.le_of_ble_eq_true rfl⟩ ⟨Nat.zero_le _, Nat.zero_le _⟩ rfl (Nat.le_of_ble_eq_true rfl) rfl (fun i_r_6 => ?_)
    refine r_iadd g0 dX10_wayBetween_45 ?_
    obtain ⟨r_7, s_7, hr_7, h⟩ := bd_some h
    refine r_cSI g0 (rest := []) (c_J9_min_7cf53 (InR_wr _) (InR_wr _) hr_7) ok_J9_min_7cf53 mX10_383 dX10_wayBetween_46 ⟨Nat.le_of_ble_eq_true rfl, Nat.le_of_ble_eq_true rfl⟩ ⟨Nat.zero_le _, Nat.zero_le _⟩ rfl (Nat.le_of_ble_eq_true rfl) rfl (fun i_r_7 => ?_)
    exact z_I g dX10_wayBetween_49 i_r_7 h
  · replace h := if_t hc h
    refine r_iload_n g0 dX10_wayBetween_11 rfl ?_
    refine r_iload_n g0 dX10_wayBetween_12 rfl ?_
    obtain ⟨r_8, s_8, hr_8, h⟩ := bd_some h
    refine r_cSI g0 (rest := []) (c_X10_turns i_p1 i_p2 hr_8) ok_X10_turns mX10_398 dX10_wayBetween_13 ⟨Nat.le_of_ble_eq_true rfl, Nat.le_of_ble_eq_true rfl⟩ ⟨Nat.zero_le _, Nat.zero_le _⟩ rfl (Nat.le_of_ble_eq_true rfl) rfl (fun i_r_8 => ?_)
    exact z_I g dX10_wayBetween_16 i_r_8 h
theorem dX9_lengthFrom_0 : decode cX9_lengthFrom 0 = .ok (.iconst 0, 1) := by decide +kernel
theorem dX9_lengthFrom_1 : decode cX9_lengthFrom 1 = .ok (.istore_n 3, 1) := by decide +kernel
theorem dX9_lengthFrom_2 : decode cX9_lengthFrom 2 = .ok (.iload_n 1, 1) := by decide +kernel
theorem dX9_lengthFrom_3 : decode cX9_lengthFrom 3 = .ok (.istore 4, 2) := by decide +kernel
theorem dX9_lengthFrom_5 : decode cX9_lengthFrom 5 = .ok (.iconst 0, 1) := by decide +kernel
theorem dX9_lengthFrom_6 : decode cX9_lengthFrom 6 = .ok (.istore 5, 2) := by decide +kernel
theorem dX9_lengthFrom_8 : decode cX9_lengthFrom 8 = .ok (.iload 5, 2) := by decide +kernel
theorem dX9_lengthFrom_10 : decode cX9_lengthFrom 10 = .ok (.iload_n 2, 1) := by decide +kernel
theorem dX9_lengthFrom_11 : decode cX9_lengthFrom 11 = .ok (.if_icmp .ge 33, 3) := by decide +kernel
theorem dX9_lengthFrom_14 : decode cX9_lengthFrom 14 = .ok (.iload_n 3, 1) := by decide +kernel
theorem dX9_lengthFrom_15 : decode cX9_lengthFrom 15 = .ok (.iload 4, 2) := by decide +kernel
theorem dX9_lengthFrom_17 : decode cX9_lengthFrom 17 = .ok (.aload_n 0, 1) := by decide +kernel
theorem dX9_lengthFrom_18 : decode cX9_lengthFrom 18 = .ok (.getfield 15, 3) := by decide +kernel
theorem dX9_lengthFrom_21 : decode cX9_lengthFrom 21 = .ok (.iload 5, 2) := by decide +kernel
theorem dX9_lengthFrom_23 : decode cX9_lengthFrom 23 = .ok (.iaload, 1) := by decide +kernel
theorem dX9_lengthFrom_24 : decode cX9_lengthFrom 24 = .ok (.invokestatic 51, 3) := by decide +kernel
theorem dX9_lengthFrom_27 : decode cX9_lengthFrom 27 = .ok (.iadd, 1) := by decide +kernel
theorem dX9_lengthFrom_28 : decode cX9_lengthFrom 28 = .ok (.istore_n 3, 1) := by decide +kernel
theorem dX9_lengthFrom_29 : decode cX9_lengthFrom 29 = .ok (.aload_n 0, 1) := by decide +kernel
theorem dX9_lengthFrom_30 : decode cX9_lengthFrom 30 = .ok (.getfield 15, 3) := by decide +kernel
theorem dX9_lengthFrom_33 : decode cX9_lengthFrom 33 = .ok (.iload 5, 2) := by decide +kernel
theorem dX9_lengthFrom_35 : decode cX9_lengthFrom 35 = .ok (.iaload, 1) := by decide +kernel
theorem dX9_lengthFrom_36 : decode cX9_lengthFrom 36 = .ok (.istore 4, 2) := by decide +kernel
theorem dX9_lengthFrom_38 : decode cX9_lengthFrom 38 = .ok (.iinc 5 1, 3) := by decide +kernel
theorem dX9_lengthFrom_41 : decode cX9_lengthFrom 41 = .ok (.goto (-33), 3) := by decide +kernel
theorem dX9_lengthFrom_44 : decode cX9_lengthFrom 44 = .ok (.iload_n 3, 1) := by decide +kernel
theorem dX9_lengthFrom_45 : decode cX9_lengthFrom 45 = .ok (.iload 4, 2) := by decide +kernel
theorem dX9_lengthFrom_47 : decode cX9_lengthFrom 47 = .ok (.iload_n 1, 1) := by decide +kernel
theorem dX9_lengthFrom_48 : decode cX9_lengthFrom 48 = .ok (.invokestatic 51, 3) := by decide +kernel
theorem dX9_lengthFrom_51 : decode cX9_lengthFrom 51 = .ok (.iadd, 1) := by decide +kernel
theorem dX9_lengthFrom_52 : decode cX9_lengthFrom 52 = .ok (.ireturn, 1) := by decide +kernel
set_option maxHeartbeats 4000000 in
set_option maxRecDepth 100000 in
theorem t_X9_lengthFrom_L8 {l : Launch} {E : u_E} {K : u_K} {r : Int} {s' : u_S} (g : Wk l (XE E) { frames := 3, cells := 0, slots := 0, locals := 67 } cX9_lengthFrom 6 yX9_lengthFrom.cls yX9_lengthFrom.name (some .int) (RI E r s') K) {v0_1 : u_O} {v1_1 : Int} {v2_1 : Int} (i_v0_1 : is_Tour v0_1) (i_v1_1 : InR v1_1) (i_v2_1 : InR v2_1) {kx44 : Int → Int → u_S → Option (Int × u_S)} (hkx44 : ∀ (v3_3 : Int) (v4_3 : Int) (s_5 : u_S), InR v3_3 → InR v4_3 → kx44 v3_3 v4_3 s_5 = some (r, s') → K 0 0 44 [none, some (.int (J v1_1)), none, some (.int (J v3_3)), some (.int (J v4_3)), none] [] (Wd E s_5)) : ∀ (m : Nat) (v3_2 : Int) (v4_2 : Int) (v5_1 : Int) (s_3 : u_S), InR v3_2 → InR v4_2 → InR v5_1 → f_X9_lengthFrom_L8 m kx44 v0_1 v1_1 v2_1 v3_2 v4_2 v5_1 s_3 = some (r, s') → K 0 0 8 [some (.ref (E.1 v0_1)), some (.int (J v1_1)), some (.int (J v2_1)), some (.int (J v3_2)), some (.int (J v4_2)), some (.int (J v5_1))] [] (Wd E s_3) := by
  have g0 := g.wk
  intro m
  induction m with
  | zero =>
    intro v3_2 v4_2 v5_1 s_3 i_v3_2 i_v4_2 i_v5_1 h
    exact absurd (show (none : Option (Int × u_S)) = some (r, s') from h) (by intro z; cases z)
  | succ m ih =>
    intro v3_2 v4_2 v5_1 s_3 i_v3_2 i_v4_2 i_v5_1 h
    rw [f_X9_lengthFrom_L8] at h
    refine r_iload g0 dX9_lengthFrom_8 rfl ?_
    refine r_iload_n g0 dX9_lengthFrom_10 rfl ?_
    refine r_icmp_ge g0 44 dX9_lengthFrom_11 (by decide) i_v5_1 i_v2_1 (fun hc => ?_) (fun hc => ?_)
    · replace h := if_f hc h
      refine r_mask g0 (lv' := [none, some (.int (J v1_1)), none, some (.int (J v3_2)), some (.int (J v4_2)), none]) [false, true, false, true, true, false] rfl ?_
      exact hkx44 v3_2 v4_2 s_3 i_v3_2 i_v4_2 h
    · replace h := if_t hc h
      refine r_iload_n g0 dX9_lengthFrom_14 rfl ?_
      refine r_iload g0 dX9_lengthFrom_15 rfl ?_
      refine r_aload_n g0 dX9_lengthFrom_17 rfl ?_
      refine g_Tour_tried g0 i_v0_1 qX9_15 dX9_lengthFrom_18 ?_
      refine r_iload g0 dX9_lengthFrom_21 rfl ?_
      obtain ⟨hb, h⟩ := gd_some h
      refine r_iaload g0 (is_a_Tour_tried i_v0_1) (n := 5) rfl i_v5_1 hb dX9_lengthFrom_23 ?_
      obtain ⟨r_2, s_4, hr_2, h⟩ := bd_some h
      refine r_cNI g0 (rest := [.int (J v3_2)]) (c_X10_wayBetween i_v4_2 (InR_rd _ _ _) hr_2) ok_X10_wayBetween mX9_51 dX9_lengthFrom_24 ⟨Nat.le_of_ble_eq_true rfl, Nat.le_of_ble_eq_true rfl⟩ ⟨Nat.zero_le _, Nat.zero_le _⟩ rfl (Nat.le_of_ble_eq_true rfl) rfl (fun i_r_2 => ?_)
      refine r_iadd g0 dX9_lengthFrom_27 ?_
      refine r_istore_n g0 (lv' := [some (.ref (E.1 v0_1)), some (.int (J v1_1)), some (.int (J v2_1)), some (.int (J (wr (v3_2 + r_2)))), some (.int (J v4_2)), some (.int (J v5_1))]) dX9_lengthFrom_28 (by decide) rfl rfl ?_
      refine r_aload_n g0 dX9_lengthFrom_29 rfl ?_
      refine g_Tour_tried g0 i_v0_1 qX9_15 dX9_lengthFrom_30 ?_
      refine r_iload g0 dX9_lengthFrom_33 rfl ?_
      obtain ⟨hb, h⟩ := gd_some h
      refine r_iaload g0 (is_a_Tour_tried i_v0_1) (n := 5) rfl i_v5_1 hb dX9_lengthFrom_35 ?_
      refine r_istore g0 (lv' := [some (.ref (E.1 v0_1)), some (.int (J v1_1)), some (.int (J v2_1)), some (.int (J (wr (v3_2 + r_2)))), some (.int (J (rd s_4 (a_Tour_tried v0_1) v5_1))), some (.int (J v5_1))]) dX9_lengthFrom_36 (by decide) rfl rfl ?_
      refine r_iinc g0 (a := v5_1) (lv' := [some (.ref (E.1 v0_1)), some (.int (J v1_1)), some (.int (J v2_1)), some (.int (J (wr (v3_2 + r_2)))), some (.int (J (rd s_4 (a_Tour_tried v0_1) v5_1))), some (.int (J (wr (v5_1 + 1))))]) dX9_lengthFrom_38 (by decide) rfl rfl rfl ?_
      refine r_goto g0 8 dX9_lengthFrom_41 (by decide) ?_
      exact ih (wr (v3_2 + r_2)) (rd s_4 (a_Tour_tried v0_1) v5_1) (wr (v5_1 + 1)) s_4 (InR_wr _) (InR_rd _ _ _) (InR_wr _) h
set_option maxHeartbeats 4000000 in
set_option maxRecDepth 100000 in
theorem c_X9_lengthFrom {E : u_E} {l : Launch} {o : u_O} {p1 : Int} {p2 : Int} (ho : is_Tour o) (i_p1 : InR p1) (i_p2 : InR p2) {s s' : u_S} {r : Int} (h : f_X9_lengthFrom o p1 p2 s = some (r, s')) : Con l (XE E) yX9_lengthFrom cX9_lengthFrom 6 (some .int) 3 67 0 0 [.ref (E.1 o), .int (J p1), .int (J p2)] (Wd E s) (RI E r s') := by
  refine Con.of [some (.ref (E.1 o)), some (.int (J p1)), some (.int (J p2)), none, none, none] (by decide +kernel) rfl rfl (Nat.le_of_ble_eq_true rfl) (fun K g => ?_)
  have g0 := g.wk
  unfold f_X9_lengthFrom at h
  refine r_iconst g0 dX9_lengthFrom_0 ?_
  refine r_istore_n g0 (lv' := [some (.ref (E.1 o)), some (.int (J p1)), some (.int (J p2)), some (.int (J 0)), none, none]) dX9_lengthFrom_1 (by decide) rfl rfl ?_
  refine r_iload_n g0 dX9_lengthFrom_2 rfl ?_
  refine r_istore g0 (lv' := [some (.ref (E.1 o)), some (.int (J p1)), some (.int (J p2)), some (.int (J 0)), some (.int (J p1)), none]) dX9_lengthFrom_3 (by decide) rfl rfl ?_
  refine r_iconst g0 dX9_lengthFrom_5 ?_
  refine r_istore g0 (lv' := [some (.ref (E.1 o)), some (.int (J p1)), some (.int (J p2)), some (.int (J 0)), some (.int (J p1)), some (.int (J 0))]) dX9_lengthFrom_6 (by decide) rfl rfl ?_
  refine t_X9_lengthFrom_L8 g ho i_p1 i_p2 ?_ FU 0 p1 0 s (B01.inR B01_0) i_p1 (B01.inR B01_0) h
  · intro v3_1 v4_1 s_1 i_v3_1 i_v4_1 h
    refine r_iload_n g0 dX9_lengthFrom_44 rfl ?_
    refine r_iload g0 dX9_lengthFrom_45 rfl ?_
    refine r_iload_n g0 dX9_lengthFrom_47 rfl ?_
    obtain ⟨r_1, s_2, hr_1, h⟩ := bd_some h
    refine r_cNI g0 (rest := [.int (J v3_1)]) (c_X10_wayBetween i_v4_1 i_p1 hr_1) ok_X10_wayBetween mX9_51 dX9_lengthFrom_48 ⟨Nat.le_of_ble_eq_true rfl, Nat.le_of_ble_eq_true rfl⟩ ⟨Nat.zero_le _, Nat.zero_le _⟩ rfl (Nat.le_of_ble_eq_true rfl) rfl (fun i_r_1 => ?_)
    refine r_iadd g0 dX9_lengthFrom_51 ?_
    exact z_I g dX9_lengthFrom_52 (InR_wr _) h
theorem dX10_exchange_0 : decode cX10_exchange 0 = .ok (.aload_n 0, 1) := by decide +kernel
theorem dX10_exchange_1 : decode cX10_exchange 1 = .ok (.iload_n 1, 1) := by decide +kernel
theorem dX10_exchange_2 : decode cX10_exchange 2 = .ok (.iaload, 1) := by decide +kernel
theorem dX10_exchange_3 : decode cX10_exchange 3 = .ok (.istore_n 3, 1) := by decide +kernel
theorem dX10_exchange_4 : decode cX10_exchange 4 = .ok (.aload_n 0, 1) := by decide +kernel
theorem dX10_exchange_5 : decode cX10_exchange 5 = .ok (.iload_n 1, 1) := by decide +kernel
theorem dX10_exchange_6 : decode cX10_exchange 6 = .ok (.aload_n 0, 1) := by decide +kernel
theorem dX10_exchange_7 : decode cX10_exchange 7 = .ok (.iload_n 2, 1) := by decide +kernel
theorem dX10_exchange_8 : decode cX10_exchange 8 = .ok (.iaload, 1) := by decide +kernel
theorem dX10_exchange_9 : decode cX10_exchange 9 = .ok (.iastore, 1) := by decide +kernel
theorem dX10_exchange_10 : decode cX10_exchange 10 = .ok (.aload_n 0, 1) := by decide +kernel
theorem dX10_exchange_11 : decode cX10_exchange 11 = .ok (.iload_n 2, 1) := by decide +kernel
theorem dX10_exchange_12 : decode cX10_exchange 12 = .ok (.iload_n 3, 1) := by decide +kernel
theorem dX10_exchange_13 : decode cX10_exchange 13 = .ok (.iastore, 1) := by decide +kernel
theorem dX10_exchange_14 : decode cX10_exchange 14 = .ok (.return_, 1) := by decide +kernel
set_option maxHeartbeats 4000000 in
set_option maxRecDepth 100000 in
theorem c_X10_exchange {E : u_E} {l : Launch} {p1 : u_O} {p2 : Int} {p3 : Int} (i_p1 : is_A p1) (i_p2 : InR p2) (i_p3 : InR p3) {s s' : u_S} {r : Int} (h : f_X10_exchange p1 p2 p3 s = some (r, s')) : Con l (XE E) yX10_exchange cX10_exchange 4 none 0 0 0 0 [.ref (E.1 p1), .int (J p2), .int (J p3)] (Wd E s) (RV E r s') := by
  refine Con.of [some (.ref (E.1 p1)), some (.int (J p2)), some (.int (J p3)), none] (by decide +kernel) rfl rfl (Nat.le_of_ble_eq_true rfl) (fun K g => ?_)
  have g0 := g.wk
  unfold f_X10_exchange at h
  refine r_aload_n g0 dX10_exchange_0 rfl ?_
  refine r_iload_n g0 dX10_exchange_1 rfl ?_
  obtain ⟨hb, h⟩ := gd_some h
  refine r_iaload g0 i_p1 (n := (alen p1)) rfl i_p2 hb dX10_exchange_2 ?_
  refine r_istore_n g0 (lv' := [some (.ref (E.1 p1)), some (.int (J p2)), some (.int (J p3)), some (.int (J (rd s p1 p2)))]) dX10_exchange_3 (by decide) rfl rfl ?_
  refine r_aload_n g0 dX10_exchange_4 rfl ?_
  refine r_iload_n g0 dX10_exchange_5 rfl ?_
  refine r_aload_n g0 dX10_exchange_6 rfl ?_
  refine r_iload_n g0 dX10_exchange_7 rfl ?_
  obtain ⟨hb, h⟩ := gd_some h
  refine r_iaload g0 i_p1 (n := (alen p1)) rfl i_p3 hb dX10_exchange_8 ?_
  obtain ⟨hb, h⟩ := gd_some h
  refine r_iastore g0 i_p1 (n := (alen p1)) rfl i_p2 hb dX10_exchange_9 ?_
  refine r_aload_n g0 dX10_exchange_10 rfl ?_
  refine r_iload_n g0 dX10_exchange_11 rfl ?_
  refine r_iload_n g0 dX10_exchange_12 rfl ?_
  obtain ⟨hb, h⟩ := gd_some h
  refine r_iastore g0 i_p1 (n := (alen p1)) rfl i_p3 hb dX10_exchange_13 ?_
  exact z_V g dX10_exchange_14 h
