/-! THE CONTRACTS: the bytecode does what the functions say (by program, wip/whole/gen) -/
theorem dX3_kindsAt_0 : decode cX3_kindsAt 0 = .ok (.aload_n 0, 1) := by decide +kernel
theorem dX3_kindsAt_1 : decode cX3_kindsAt 1 = .ok (.getfield 43, 3) := by decide +kernel
theorem dX3_kindsAt_4 : decode cX3_kindsAt 4 = .ok (.aload_n 1, 1) := by decide +kernel
theorem dX3_kindsAt_5 : decode cX3_kindsAt 5 = .ok (.getfield 43, 3) := by decide +kernel
theorem dX3_kindsAt_8 : decode cX3_kindsAt 8 = .ok (.if_icmp .eq 19, 3) := by decide +kernel
theorem dX3_kindsAt_11 : decode cX3_kindsAt 11 = .ok (.aload_n 0, 1) := by decide +kernel
theorem dX3_kindsAt_12 : decode cX3_kindsAt 12 = .ok (.iload_n 2, 1) := by decide +kernel
theorem dX3_kindsAt_13 : decode cX3_kindsAt 13 = .ok (.invokevirtual 46, 3) := by decide +kernel
theorem dX3_kindsAt_16 : decode cX3_kindsAt 16 = .ok (.ifCond .eq 11, 3) := by decide +kernel
theorem dX3_kindsAt_19 : decode cX3_kindsAt 19 = .ok (.aload_n 1, 1) := by decide +kernel
theorem dX3_kindsAt_20 : decode cX3_kindsAt 20 = .ok (.iload_n 2, 1) := by decide +kernel
theorem dX3_kindsAt_21 : decode cX3_kindsAt 21 = .ok (.invokevirtual 46, 3) := by decide +kernel
theorem dX3_kindsAt_24 : decode cX3_kindsAt 24 = .ok (.ifCond .ne 5, 3) := by decide +kernel
theorem dX3_kindsAt_27 : decode cX3_kindsAt 27 = .ok (.iconst 0, 1) := by decide +kernel
theorem dX3_kindsAt_28 : decode cX3_kindsAt 28 = .ok (.ireturn, 1) := by decide +kernel
theorem dX3_kindsAt_29 : decode cX3_kindsAt 29 = .ok (.aload_n 0, 1) := by decide +kernel
theorem dX3_kindsAt_30 : decode cX3_kindsAt 30 = .ok (.getfield 43, 3) := by decide +kernel
theorem dX3_kindsAt_33 : decode cX3_kindsAt 33 = .ok (.aload_n 1, 1) := by decide +kernel
theorem dX3_kindsAt_34 : decode cX3_kindsAt 34 = .ok (.getfield 43, 3) := by decide +kernel
theorem dX3_kindsAt_37 : decode cX3_kindsAt 37 = .ok (.if_icmp .ge 7, 3) := by decide +kernel
theorem dX3_kindsAt_40 : decode cX3_kindsAt 40 = .ok (.aload_n 0, 1) := by decide +kernel
theorem dX3_kindsAt_41 : decode cX3_kindsAt 41 = .ok (.goto 4, 3) := by decide +kernel
theorem dX3_kindsAt_44 : decode cX3_kindsAt 44 = .ok (.aload_n 1, 1) := by decide +kernel
theorem dX3_kindsAt_45 : decode cX3_kindsAt 45 = .ok (.astore 4, 2) := by decide +kernel
theorem dX3_kindsAt_47 : decode cX3_kindsAt 47 = .ok (.aload_n 0, 1) := by decide +kernel
theorem dX3_kindsAt_48 : decode cX3_kindsAt 48 = .ok (.getfield 43, 3) := by decide +kernel
theorem dX3_kindsAt_51 : decode cX3_kindsAt 51 = .ok (.aload_n 1, 1) := by decide +kernel
theorem dX3_kindsAt_52 : decode cX3_kindsAt 52 = .ok (.getfield 43, 3) := by decide +kernel
theorem dX3_kindsAt_55 : decode cX3_kindsAt 55 = .ok (.if_icmp .ge 7, 3) := by decide +kernel
theorem dX3_kindsAt_58 : decode cX3_kindsAt 58 = .ok (.aload_n 1, 1) := by decide +kernel
theorem dX3_kindsAt_59 : decode cX3_kindsAt 59 = .ok (.goto 4, 3) := by decide +kernel
theorem dX3_kindsAt_62 : decode cX3_kindsAt 62 = .ok (.aload_n 0, 1) := by decide +kernel
theorem dX3_kindsAt_63 : decode cX3_kindsAt 63 = .ok (.astore 5, 2) := by decide +kernel
theorem dX3_kindsAt_65 : decode cX3_kindsAt 65 = .ok (.aload 4, 2) := by decide +kernel
theorem dX3_kindsAt_67 : decode cX3_kindsAt 67 = .ok (.iload_n 2, 1) := by decide +kernel
theorem dX3_kindsAt_68 : decode cX3_kindsAt 68 = .ok (.invokevirtual 50, 3) := by decide +kernel
theorem dX3_kindsAt_71 : decode cX3_kindsAt 71 = .ok (.istore 6, 2) := by decide +kernel
theorem dX3_kindsAt_73 : decode cX3_kindsAt 73 = .ok (.aload 5, 2) := by decide +kernel
theorem dX3_kindsAt_75 : decode cX3_kindsAt 75 = .ok (.iload_n 2, 1) := by decide +kernel
theorem dX3_kindsAt_76 : decode cX3_kindsAt 76 = .ok (.invokevirtual 50, 3) := by decide +kernel
theorem dX3_kindsAt_79 : decode cX3_kindsAt 79 = .ok (.istore 7, 2) := by decide +kernel
theorem dX3_kindsAt_81 : decode cX3_kindsAt 81 = .ok (.iload 6, 2) := by decide +kernel
theorem dX3_kindsAt_83 : decode cX3_kindsAt 83 = .ok (.iload 7, 2) := by decide +kernel
theorem dX3_kindsAt_85 : decode cX3_kindsAt 85 = .ok (.if_icmp .ge 7, 3) := by decide +kernel
theorem dX3_kindsAt_88 : decode cX3_kindsAt 88 = .ok (.iconst 2, 1) := by decide +kernel
theorem dX3_kindsAt_89 : decode cX3_kindsAt 89 = .ok (.goto 4, 3) := by decide +kernel
theorem dX3_kindsAt_92 : decode cX3_kindsAt 92 = .ok (.iconst 0, 1) := by decide +kernel
theorem dX3_kindsAt_93 : decode cX3_kindsAt 93 = .ok (.istore 8, 2) := by decide +kernel
theorem dX3_kindsAt_95 : decode cX3_kindsAt 95 = .ok (.iload_n 3, 1) := by decide +kernel
theorem dX3_kindsAt_96 : decode cX3_kindsAt 96 = .ok (.ifCond .le 25, 3) := by decide +kernel
theorem dX3_kindsAt_99 : decode cX3_kindsAt 99 = .ok (.iload_n 2, 1) := by decide +kernel
theorem dX3_kindsAt_100 : decode cX3_kindsAt 100 = .ok (.iload_n 3, 1) := by decide +kernel
theorem dX3_kindsAt_101 : decode cX3_kindsAt 101 = .ok (.irem, 1) := by decide +kernel
theorem dX3_kindsAt_102 : decode cX3_kindsAt 102 = .ok (.ifCond .ne 19, 3) := by decide +kernel
theorem dX3_kindsAt_105 : decode cX3_kindsAt 105 = .ok (.iload 6, 2) := by decide +kernel
theorem dX3_kindsAt_107 : decode cX3_kindsAt 107 = .ok (.iload 7, 2) := by decide +kernel
theorem dX3_kindsAt_109 : decode cX3_kindsAt 109 = .ok (.invokestatic 54, 3) := by decide +kernel
theorem dX3_kindsAt_112 : decode cX3_kindsAt 112 = .ok (.ifCond .eq 9, 3) := by decide +kernel
theorem dX3_kindsAt_115 : decode cX3_kindsAt 115 = .ok (.iload 8, 2) := by decide +kernel
theorem dX3_kindsAt_117 : decode cX3_kindsAt 117 = .ok (.iconst 1, 1) := by decide +kernel
theorem dX3_kindsAt_118 : decode cX3_kindsAt 118 = .ok (.ior, 1) := by decide +kernel
theorem dX3_kindsAt_119 : decode cX3_kindsAt 119 = .ok (.istore 8, 2) := by decide +kernel
theorem dX3_kindsAt_121 : decode cX3_kindsAt 121 = .ok (.aload 4, 2) := by decide +kernel
theorem dX3_kindsAt_123 : decode cX3_kindsAt 123 = .ok (.iload_n 2, 1) := by decide +kernel
theorem dX3_kindsAt_124 : decode cX3_kindsAt 124 = .ok (.iconst 1, 1) := by decide +kernel
theorem dX3_kindsAt_125 : decode cX3_kindsAt 125 = .ok (.isub, 1) := by decide +kernel
theorem dX3_kindsAt_126 : decode cX3_kindsAt 126 = .ok (.invokevirtual 46, 3) := by decide +kernel
theorem dX3_kindsAt_129 : decode cX3_kindsAt 129 = .ok (.ifCond .eq 46, 3) := by decide +kernel
theorem dX3_kindsAt_132 : decode cX3_kindsAt 132 = .ok (.aload 5, 2) := by decide +kernel
theorem dX3_kindsAt_134 : decode cX3_kindsAt 134 = .ok (.iload_n 2, 1) := by decide +kernel
theorem dX3_kindsAt_135 : decode cX3_kindsAt 135 = .ok (.iconst 1, 1) := by decide +kernel
theorem dX3_kindsAt_136 : decode cX3_kindsAt 136 = .ok (.isub, 1) := by decide +kernel
theorem dX3_kindsAt_137 : decode cX3_kindsAt 137 = .ok (.invokevirtual 46, 3) := by decide +kernel
theorem dX3_kindsAt_140 : decode cX3_kindsAt 140 = .ok (.ifCond .eq 35, 3) := by decide +kernel
theorem dX3_kindsAt_143 : decode cX3_kindsAt 143 = .ok (.iload 6, 2) := by decide +kernel
theorem dX3_kindsAt_145 : decode cX3_kindsAt 145 = .ok (.iload 7, 2) := by decide +kernel
theorem dX3_kindsAt_147 : decode cX3_kindsAt 147 = .ok (.aload 4, 2) := by decide +kernel
theorem dX3_kindsAt_149 : decode cX3_kindsAt 149 = .ok (.iload_n 2, 1) := by decide +kernel
theorem dX3_kindsAt_150 : decode cX3_kindsAt 150 = .ok (.iconst 1, 1) := by decide +kernel
theorem dX3_kindsAt_151 : decode cX3_kindsAt 151 = .ok (.isub, 1) := by decide +kernel
theorem dX3_kindsAt_152 : decode cX3_kindsAt 152 = .ok (.invokevirtual 50, 3) := by decide +kernel
theorem dX3_kindsAt_155 : decode cX3_kindsAt 155 = .ok (.aload 5, 2) := by decide +kernel
theorem dX3_kindsAt_157 : decode cX3_kindsAt 157 = .ok (.iload_n 2, 1) := by decide +kernel
theorem dX3_kindsAt_158 : decode cX3_kindsAt 158 = .ok (.iconst 1, 1) := by decide +kernel
theorem dX3_kindsAt_159 : decode cX3_kindsAt 159 = .ok (.isub, 1) := by decide +kernel
theorem dX3_kindsAt_160 : decode cX3_kindsAt 160 = .ok (.invokevirtual 50, 3) := by decide +kernel
theorem dX3_kindsAt_163 : decode cX3_kindsAt 163 = .ok (.invokestatic 58, 3) := by decide +kernel
theorem dX3_kindsAt_166 : decode cX3_kindsAt 166 = .ok (.ifCond .eq 9, 3) := by decide +kernel
theorem dX3_kindsAt_169 : decode cX3_kindsAt 169 = .ok (.iload 8, 2) := by decide +kernel
theorem dX3_kindsAt_171 : decode cX3_kindsAt 171 = .ok (.iconst 4, 1) := by decide +kernel
theorem dX3_kindsAt_172 : decode cX3_kindsAt 172 = .ok (.ior, 1) := by decide +kernel
theorem dX3_kindsAt_173 : decode cX3_kindsAt 173 = .ok (.istore 8, 2) := by decide +kernel
theorem dX3_kindsAt_175 : decode cX3_kindsAt 175 = .ok (.iload 8, 2) := by decide +kernel
theorem dX3_kindsAt_177 : decode cX3_kindsAt 177 = .ok (.ireturn, 1) := by decide +kernel
set_option maxHeartbeats 4000000 in
set_option maxRecDepth 100000 in
theorem c_X3_kindsAt {E : u_E} {l : Launch} {p1 : u_O} {p2 : u_O} {p3 : Int} {p4 : Int} (i_p1 : is_Sound p1) (i_p2 : is_Sound p2) (i_p3 : InR p3) (i_p4 : InR p4) {s s' : u_S} {r : Int} (h : f_X3_kindsAt p1 p2 p3 p4 s = some (r, s')) : Con l (XE E) yX3_kindsAt cX3_kindsAt 9 (some .int) 2 48 0 0 [.ref (E.1 p1), .ref (E.1 p2), .int (J p3), .int (J p4)] (Wd E s) (RI E r s') := by
  refine Con.of [some (.ref (E.1 p1)), some (.ref (E.1 p2)), some (.int (J p3)), some (.int (J p4)), none, none, none, none, none] (by decide +kernel) rfl rfl (Nat.le_of_ble_eq_true rfl) (fun K g => ?_)
  have g0 := g.wk
  unfold f_X3_kindsAt at h
  refine r_aload_n g0 dX3_kindsAt_0 rfl ?_
  refine g_Sound_voice g0 i_p1 qX3_43 dX3_kindsAt_1 ?_
  refine r_aload_n g0 dX3_kindsAt_4 rfl ?_
  refine g_Sound_voice g0 i_p2 qX3_43 dX3_kindsAt_5 ?_
  refine r_icmp_eq g0 27 dX3_kindsAt_8 (by decide) (InR_rd _ _ _) (InR_rd _ _ _) (fun hc => ?_) (fun hc => ?_)
  · replace h := if_t hc h
    refine r_iconst g0 dX3_kindsAt_27 ?_
    exact z_I g dX3_kindsAt_28 (B01.inR B01_0) h
  · replace h := if_f hc h
    refine r_aload_n g0 dX3_kindsAt_11 rfl ?_
    refine r_iload_n g0 dX3_kindsAt_12 rfl ?_
    obtain ⟨r_1, s_1, hr_1, h⟩ := bd_some h
    refine r_cVZ g0 (rest := []) (c_X8_isHeardAt i_p1 i_p3 hr_1) ok_X8_isHeardAt mX3_46 (recv_Sound i_p1) dX3_kindsAt_13 ⟨Nat.le_of_ble_eq_true rfl, Nat.le_of_ble_eq_true rfl⟩ ⟨Nat.zero_le _, Nat.zero_le _⟩ rfl (Nat.le_of_ble_eq_true rfl) rfl (fun i_r_1 => ?_)
    refine r_if_eq g0 27 dX3_kindsAt_16 (by decide) (B01.inR i_r_1) (fun hc => ?_) (fun hc => ?_)
    · replace h := if_t hc h
      refine r_iconst g0 dX3_kindsAt_27 ?_
      exact z_I g dX3_kindsAt_28 (B01.inR B01_0) h
    · replace h := if_f hc h
      refine r_aload_n g0 dX3_kindsAt_19 rfl ?_
      refine r_iload_n g0 dX3_kindsAt_20 rfl ?_
      obtain ⟨r_2, s_2, hr_2, h⟩ := bd_some h
      refine r_cVZ g0 (rest := []) (c_X8_isHeardAt i_p2 i_p3 hr_2) ok_X8_isHeardAt mX3_46 (recv_Sound i_p2) dX3_kindsAt_21 ⟨Nat.le_of_ble_eq_true rfl, Nat.le_of_ble_eq_true rfl⟩ ⟨Nat.zero_le _, Nat.zero_le _⟩ rfl (Nat.le_of_ble_eq_true rfl) rfl (fun i_r_2 => ?_)
      refine r_if_ne g0 29 dX3_kindsAt_24 (by decide) (B01.inR i_r_2) (fun hc => ?_) (fun hc => ?_)
      · replace h := if_f hc h
        refine r_aload_n g0 dX3_kindsAt_29 rfl ?_
        refine g_Sound_voice g0 i_p1 qX3_43 dX3_kindsAt_30 ?_
        refine r_aload_n g0 dX3_kindsAt_33 rfl ?_
        refine g_Sound_voice g0 i_p2 qX3_43 dX3_kindsAt_34 ?_
        obtain ⟨jp_1, hdjp_1, h⟩ := jn_some h
        have hjp_1 : ∀ (vt_1 : u_O) (s_3 : u_S), is_Sound vt_1 → jp_1 vt_1 s_3 = some (r, s') → K 0 0 45 [some (.ref (E.1 p1)), some (.ref (E.1 p2)), some (.int (J p3)), some (.int (J p4)), none, none, none, none, none] [.ref (E.1 vt_1)] (Wd E s_3) := by
          intro vt_1 s_3 i_vt_1 h
          subst hdjp_1
          refine r_astore g0 (lv' := [some (.ref (E.1 p1)), some (.ref (E.1 p2)), some (.int (J p3)), some (.int (J p4)), some (.ref (E.1 vt_1)), none, none, none, none]) dX3_kindsAt_45 (by decide) rfl rfl ?_
          refine r_aload_n g0 dX3_kindsAt_47 rfl ?_
          refine g_Sound_voice g0 i_p1 qX3_43 dX3_kindsAt_48 ?_
          refine r_aload_n g0 dX3_kindsAt_51 rfl ?_
          refine g_Sound_voice g0 i_p2 qX3_43 dX3_kindsAt_52 ?_
          obtain ⟨jp_2, hdjp_2, h⟩ := jn_some h
          have hjp_2 : ∀ (vt_2 : u_O) (s_4 : u_S), is_Sound vt_2 → jp_2 vt_2 s_4 = some (r, s') → K 0 0 63 [none, none, some (.int (J p3)), some (.int (J p4)), some (.ref (E.1 vt_1)), none, none, none, none] [.ref (E.1 vt_2)] (Wd E s_4) := by
            intro vt_2 s_4 i_vt_2 h
            subst hdjp_2
            refine r_astore g0 (lv' := [none, none, some (.int (J p3)), some (.int (J p4)), some (.ref (E.1 vt_1)), some (.ref (E.1 vt_2)), none, none, none]) dX3_kindsAt_63 (by decide) rfl rfl ?_
            refine r_aload g0 dX3_kindsAt_65 rfl ?_
            refine r_iload_n g0 dX3_kindsAt_67 rfl ?_
            obtain ⟨r_3, s_5, hr_3, h⟩ := bd_some h
            refine r_cVI g0 (rest := []) (c_X8_stepAt i_vt_1 i_p3 hr_3) ok_X8_stepAt mX3_50 (recv_Sound i_vt_1) dX3_kindsAt_68 ⟨Nat.le_of_ble_eq_true rfl, Nat.le_of_ble_eq_true rfl⟩ ⟨Nat.zero_le _, Nat.zero_le _⟩ rfl (Nat.le_of_ble_eq_true rfl) rfl (fun i_r_3 => ?_)
            refine r_istore g0 (lv' := [none, none, some (.int (J p3)), some (.int (J p4)), some (.ref (E.1 vt_1)), some (.ref (E.1 vt_2)), some (.int (J r_3)), none, none]) dX3_kindsAt_71 (by decide) rfl rfl ?_
            refine r_aload g0 dX3_kindsAt_73 rfl ?_
            refine r_iload_n g0 dX3_kindsAt_75 rfl ?_
            obtain ⟨r_4, s_6, hr_4, h⟩ := bd_some h
            refine r_cVI g0 (rest := []) (c_X8_stepAt i_vt_2 i_p3 hr_4) ok_X8_stepAt mX3_50 (recv_Sound i_vt_2) dX3_kindsAt_76 ⟨Nat.le_of_ble_eq_true rfl, Nat.le_of_ble_eq_true rfl⟩ ⟨Nat.zero_le _, Nat.zero_le _⟩ rfl (Nat.le_of_ble_eq_true rfl) rfl (fun i_r_4 => ?_)
            refine r_istore g0 (lv' := [none, none, some (.int (J p3)), some (.int (J p4)), some (.ref (E.1 vt_1)), some (.ref (E.1 vt_2)), some (.int (J r_3)), some (.int (J r_4)), none]) dX3_kindsAt_79 (by decide) rfl rfl ?_
            refine r_iload g0 dX3_kindsAt_81 rfl ?_
            refine r_iload g0 dX3_kindsAt_83 rfl ?_
            obtain ⟨jp_3, hdjp_3, h⟩ := jn_some h
            have hjp_3 : ∀ (vt_3 : Int) (s_7 : u_S), InR vt_3 → jp_3 vt_3 s_7 = some (r, s') → K 0 0 93 [none, none, some (.int (J p3)), some (.int (J p4)), some (.ref (E.1 vt_1)), some (.ref (E.1 vt_2)), some (.int (J r_3)), some (.int (J r_4)), none] [.int (J vt_3)] (Wd E s_7) := by
              intro vt_3 s_7 i_vt_3 h
              subst hdjp_3
              refine r_istore g0 (lv' := [none, none, some (.int (J p3)), some (.int (J p4)), some (.ref (E.1 vt_1)), some (.ref (E.1 vt_2)), some (.int (J r_3)), some (.int (J r_4)), some (.int (J vt_3))]) dX3_kindsAt_93 (by decide) rfl rfl ?_
              refine r_iload_n g0 dX3_kindsAt_95 rfl ?_
              obtain ⟨jp_4, hdjp_4, h⟩ := jn_some h
              have hjp_4 : ∀ (v8_1 : Int) (s_8 : u_S), InR v8_1 → jp_4 v8_1 s_8 = some (r, s') → K 0 0 121 [none, none, some (.int (J p3)), none, some (.ref (E.1 vt_1)), some (.ref (E.1 vt_2)), some (.int (J r_3)), some (.int (J r_4)), some (.int (J v8_1))] [] (Wd E s_8) := by
                intro v8_1 s_8 i_v8_1 h
                subst hdjp_4
                refine r_aload g0 dX3_kindsAt_121 rfl ?_
                refine r_iload_n g0 dX3_kindsAt_123 rfl ?_
                refine r_iconst g0 dX3_kindsAt_124 ?_
                refine r_isub g0 dX3_kindsAt_125 ?_
                obtain ⟨r_5, s_9, hr_5, h⟩ := bd_some h
                refine r_cVZ g0 (rest := []) (c_X8_isHeardAt i_vt_1 (InR_wr _) hr_5) ok_X8_isHeardAt mX3_46 (recv_Sound i_vt_1) dX3_kindsAt_126 ⟨Nat.le_of_ble_eq_true rfl, Nat.le_of_ble_eq_true rfl⟩ ⟨Nat.zero_le _, Nat.zero_le _⟩ rfl (Nat.le_of_ble_eq_true rfl) rfl (fun i_r_5 => ?_)
                refine r_if_eq g0 175 dX3_kindsAt_129 (by decide) (B01.inR i_r_5) (fun hc => ?_) (fun hc => ?_)
                · replace h := if_t hc h
                  refine r_iload g0 dX3_kindsAt_175 rfl ?_
                  exact z_I g dX3_kindsAt_177 i_v8_1 h
                · replace h := if_f hc h
                  refine r_aload g0 dX3_kindsAt_132 rfl ?_
                  refine r_iload_n g0 dX3_kindsAt_134 rfl ?_
                  refine r_iconst g0 dX3_kindsAt_135 ?_
                  refine r_isub g0 dX3_kindsAt_136 ?_
                  obtain ⟨r_6, s_10, hr_6, h⟩ := bd_some h
                  refine r_cVZ g0 (rest := []) (c_X8_isHeardAt i_vt_2 (InR_wr _) hr_6) ok_X8_isHeardAt mX3_46 (recv_Sound i_vt_2) dX3_kindsAt_137 ⟨Nat.le_of_ble_eq_true rfl, Nat.le_of_ble_eq_true rfl⟩ ⟨Nat.zero_le _, Nat.zero_le _⟩ rfl (Nat.le_of_ble_eq_true rfl) rfl (fun i_r_6 => ?_)
                  refine r_if_eq g0 175 dX3_kindsAt_140 (by decide) (B01.inR i_r_6) (fun hc => ?_) (fun hc => ?_)
                  · replace h := if_t hc h
                    refine r_iload g0 dX3_kindsAt_175 rfl ?_
                    exact z_I g dX3_kindsAt_177 i_v8_1 h
                  · replace h := if_f hc h
                    refine r_iload g0 dX3_kindsAt_143 rfl ?_
                    refine r_iload g0 dX3_kindsAt_145 rfl ?_
                    refine r_aload g0 dX3_kindsAt_147 rfl ?_
                    refine r_iload_n g0 dX3_kindsAt_149 rfl ?_
                    refine r_iconst g0 dX3_kindsAt_150 ?_
                    refine r_isub g0 dX3_kindsAt_151 ?_
                    obtain ⟨r_7, s_11, hr_7, h⟩ := bd_some h
                    refine r_cVI g0 (rest := [.int (J r_4), .int (J r_3)]) (c_X8_stepAt i_vt_1 (InR_wr _) hr_7) ok_X8_stepAt mX3_50 (recv_Sound i_vt_1) dX3_kindsAt_152 ⟨Nat.le_of_ble_eq_true rfl, Nat.le_of_ble_eq_true rfl⟩ ⟨Nat.zero_le _, Nat.zero_le _⟩ rfl (Nat.le_of_ble_eq_true rfl) rfl (fun i_r_7 => ?_)
                    refine r_aload g0 dX3_kindsAt_155 rfl ?_
                    refine r_iload_n g0 dX3_kindsAt_157 rfl ?_
                    refine r_iconst g0 dX3_kindsAt_158 ?_
                    refine r_isub g0 dX3_kindsAt_159 ?_
                    obtain ⟨r_8, s_12, hr_8, h⟩ := bd_some h
                    refine r_cVI g0 (rest := [.int (J r_7), .int (J r_4), .int (J r_3)]) (c_X8_stepAt i_vt_2 (InR_wr _) hr_8) ok_X8_stepAt mX3_50 (recv_Sound i_vt_2) dX3_kindsAt_160 ⟨Nat.le_of_ble_eq_true rfl, Nat.le_of_ble_eq_true rfl⟩ ⟨Nat.zero_le _, Nat.zero_le _⟩ rfl (Nat.le_of_ble_eq_true rfl) rfl (fun i_r_8 => ?_)
                    obtain ⟨r_9, s_13, hr_9, h⟩ := bd_some h
                    refine r_cSZ g0 (rest := []) (c_X3_isParallel i_r_3 i_r_4 i_r_7 i_r_8 hr_9) ok_X3_isParallel mX3_58 dX3_kindsAt_163 ⟨Nat.le_of_ble_eq_true rfl, Nat.le_of_ble_eq_true rfl⟩ ⟨Nat.zero_le _, Nat.zero_le _⟩ rfl (Nat.le_of_ble_eq_true rfl) rfl (fun i_r_9 => ?_)
                    refine r_if_eq g0 175 dX3_kindsAt_166 (by decide) (B01.inR i_r_9) (fun hc => ?_) (fun hc => ?_)
                    · replace h := if_t hc h
                      refine r_iload g0 dX3_kindsAt_175 rfl ?_
                      exact z_I g dX3_kindsAt_177 i_v8_1 h
                    · replace h := if_f hc h
                      refine r_iload g0 dX3_kindsAt_169 rfl ?_
                      refine r_iconst g0 dX3_kindsAt_171 ?_
                      refine r_ior g0 dX3_kindsAt_172 ?_
                      refine r_istore g0 (lv' := [none, none, some (.int (J p3)), none, some (.ref (E.1 vt_1)), some (.ref (E.1 vt_2)), some (.int (J r_3)), some (.int (J r_4)), some (.int (J (ior v8_1 4)))]) dX3_kindsAt_173 (by decide) rfl rfl ?_
                      refine r_iload g0 dX3_kindsAt_175 rfl ?_
                      exact z_I g dX3_kindsAt_177 (InR_to _) h
              clear hdjp_4
              refine r_if_le g0 121 dX3_kindsAt_96 (by decide) i_p4 (fun hc => ?_) (fun hc => ?_)
              · replace h := if_t hc h
                refine r_mask g0 (lv' := [none, none, some (.int (J p3)), none, some (.ref (E.1 vt_1)), some (.ref (E.1 vt_2)), some (.int (J r_3)), some (.int (J r_4)), some (.int (J vt_3))]) [false, false, true, false, true, true, true, true, true] rfl ?_
                exact hjp_4 vt_3 s_7 i_vt_3 h
              · replace h := if_f hc h
                refine r_iload_n g0 dX3_kindsAt_99 rfl ?_
                refine r_iload_n g0 dX3_kindsAt_100 rfl ?_
                obtain ⟨hne, h⟩ := nz_some h
                refine r_irem g0 dX3_kindsAt_101 i_p3 i_p4 hne ?_
                refine r_if_ne g0 121 dX3_kindsAt_102 (by decide) (InR_rem _ i_p3) (fun hc => ?_) (fun hc => ?_)
                · replace h := if_f hc h
                  refine r_mask g0 (lv' := [none, none, some (.int (J p3)), none, some (.ref (E.1 vt_1)), some (.ref (E.1 vt_2)), some (.int (J r_3)), some (.int (J r_4)), some (.int (J vt_3))]) [false, false, true, false, true, true, true, true, true] rfl ?_
                  exact hjp_4 vt_3 s_7 i_vt_3 h
                · replace h := if_t hc h
                  refine r_iload g0 dX3_kindsAt_105 rfl ?_
                  refine r_iload g0 dX3_kindsAt_107 rfl ?_
                  obtain ⟨r_10, s_14, hr_10, h⟩ := bd_some h
                  refine r_cSZ g0 (rest := []) (c_X3_isHarsh i_r_3 i_r_4 hr_10) ok_X3_isHarsh mX3_54 dX3_kindsAt_109 ⟨Nat.le_of_ble_eq_true rfl, Nat.le_of_ble_eq_true rfl⟩ ⟨Nat.zero_le _, Nat.zero_le _⟩ rfl (Nat.le_of_ble_eq_true rfl) rfl (fun i_r_10 => ?_)
                  refine r_if_eq g0 121 dX3_kindsAt_112 (by decide) (B01.inR i_r_10) (fun hc => ?_) (fun hc => ?_)
                  · replace h := if_t hc h
                    refine r_mask g0 (lv' := [none, none, some (.int (J p3)), none, some (.ref (E.1 vt_1)), some (.ref (E.1 vt_2)), some (.int (J r_3)), some (.int (J r_4)), some (.int (J vt_3))]) [false, false, true, false, true, true, true, true, true] rfl ?_
                    exact hjp_4 vt_3 s_14 i_vt_3 h
                  · replace h := if_f hc h
                    refine r_iload g0 dX3_kindsAt_115 rfl ?_
                    refine r_iconst g0 dX3_kindsAt_117 ?_
                    refine r_ior g0 dX3_kindsAt_118 ?_
                    refine r_istore g0 (lv' := [none, none, some (.int (J p3)), some (.int (J p4)), some (.ref (E.1 vt_1)), some (.ref (E.1 vt_2)), some (.int (J r_3)), some (.int (J r_4)), some (.int (J (ior vt_3 1)))]) dX3_kindsAt_119 (by decide) rfl rfl ?_
                    refine r_mask g0 (lv' := [none, none, some (.int (J p3)), none, some (.ref (E.1 vt_1)), some (.ref (E.1 vt_2)), some (.int (J r_3)), some (.int (J r_4)), some (.int (J (ior vt_3 1)))]) [false, false, true, false, true, true, true, true, true] rfl ?_
                    exact hjp_4 (ior vt_3 1) s_14 (InR_to _) h
            clear hdjp_3
            refine r_icmp_ge g0 92 dX3_kindsAt_85 (by decide) i_r_3 i_r_4 (fun hc => ?_) (fun hc => ?_)
            · replace h := if_f hc h
              refine r_iconst g0 dX3_kindsAt_92 ?_
              exact hjp_3 0 s_6 (B01.inR B01_0) h
            · replace h := if_t hc h
              refine r_iconst g0 dX3_kindsAt_88 ?_
              refine r_goto g0 93 dX3_kindsAt_89 (by decide) ?_
              exact hjp_3 2 s_6 (InR_lit rfl) h
          clear hdjp_2
          refine r_icmp_ge g0 62 dX3_kindsAt_55 (by decide) (InR_rd _ _ _) (InR_rd _ _ _) (fun hc => ?_) (fun hc => ?_)
          · replace h := if_f hc h
            refine r_aload_n g0 dX3_kindsAt_62 rfl ?_
            refine r_mask g0 (lv' := [none, none, some (.int (J p3)), some (.int (J p4)), some (.ref (E.1 vt_1)), none, none, none, none]) [false, false, true, true, true, false, false, false, false] rfl ?_
            exact hjp_2 p1 s_3 i_p1 h
          · replace h := if_t hc h
            refine r_aload_n g0 dX3_kindsAt_58 rfl ?_
            refine r_goto g0 63 dX3_kindsAt_59 (by decide) ?_
            refine r_mask g0 (lv' := [none, none, some (.int (J p3)), some (.int (J p4)), some (.ref (E.1 vt_1)), none, none, none, none]) [false, false, true, true, true, false, false, false, false] rfl ?_
            exact hjp_2 p2 s_3 i_p2 h
        clear hdjp_1
        refine r_icmp_ge g0 44 dX3_kindsAt_37 (by decide) (InR_rd _ _ _) (InR_rd _ _ _) (fun hc => ?_) (fun hc => ?_)
        · replace h := if_f hc h
          refine r_aload_n g0 dX3_kindsAt_44 rfl ?_
          exact hjp_1 p2 s_2 i_p2 h
        · replace h := if_t hc h
          refine r_aload_n g0 dX3_kindsAt_40 rfl ?_
          refine r_goto g0 45 dX3_kindsAt_41 (by decide) ?_
          exact hjp_1 p1 s_2 i_p1 h
      · replace h := if_t hc h
        refine r_iconst g0 dX3_kindsAt_27 ?_
        exact z_I g dX3_kindsAt_28 (B01.inR B01_0) h
theorem dX3_addPair_0 : decode cX3_addPair 0 = .ok (.aload_n 1, 1) := by decide +kernel
theorem dX3_addPair_1 : decode cX3_addPair 1 = .ok (.invokevirtual 21, 3) := by decide +kernel
theorem dX3_addPair_4 : decode cX3_addPair 4 = .ok (.aload_n 2, 1) := by decide +kernel
theorem dX3_addPair_5 : decode cX3_addPair 5 = .ok (.invokevirtual 21, 3) := by decide +kernel
theorem dX3_addPair_8 : decode cX3_addPair 8 = .ok (.invokestatic 27, 3) := by decide +kernel
theorem dX3_addPair_11 : decode cX3_addPair 11 = .ok (.istore 4, 2) := by decide +kernel
theorem dX3_addPair_13 : decode cX3_addPair 13 = .ok (.aload_n 1, 1) := by decide +kernel
theorem dX3_addPair_14 : decode cX3_addPair 14 = .ok (.getfield 33, 3) := by decide +kernel
theorem dX3_addPair_17 : decode cX3_addPair 17 = .ok (.aload_n 2, 1) := by decide +kernel
theorem dX3_addPair_18 : decode cX3_addPair 18 = .ok (.getfield 33, 3) := by decide +kernel
theorem dX3_addPair_21 : decode cX3_addPair 21 = .ok (.invokestatic 36, 3) := by decide +kernel
theorem dX3_addPair_24 : decode cX3_addPair 24 = .ok (.istore 5, 2) := by decide +kernel
theorem dX3_addPair_26 : decode cX3_addPair 26 = .ok (.iload 5, 2) := by decide +kernel
theorem dX3_addPair_28 : decode cX3_addPair 28 = .ok (.iload 4, 2) := by decide +kernel
theorem dX3_addPair_30 : decode cX3_addPair 30 = .ok (.if_icmp .ge 62, 3) := by decide +kernel
theorem dX3_addPair_33 : decode cX3_addPair 33 = .ok (.aload_n 1, 1) := by decide +kernel
theorem dX3_addPair_34 : decode cX3_addPair 34 = .ok (.aload_n 2, 1) := by decide +kernel
theorem dX3_addPair_35 : decode cX3_addPair 35 = .ok (.iload 5, 2) := by decide +kernel
theorem dX3_addPair_37 : decode cX3_addPair 37 = .ok (.iload_n 3, 1) := by decide +kernel
theorem dX3_addPair_38 : decode cX3_addPair 38 = .ok (.invokestatic 39, 3) := by decide +kernel
theorem dX3_addPair_41 : decode cX3_addPair 41 = .ok (.istore 6, 2) := by decide +kernel
theorem dX3_addPair_43 : decode cX3_addPair 43 = .ok (.aload_n 0, 1) := by decide +kernel
theorem dX3_addPair_44 : decode cX3_addPair 44 = .ok (.dup, 1) := by decide +kernel
theorem dX3_addPair_45 : decode cX3_addPair 45 = .ok (.getfield 9, 3) := by decide +kernel
theorem dX3_addPair_48 : decode cX3_addPair 48 = .ok (.iload 6, 2) := by decide +kernel
theorem dX3_addPair_50 : decode cX3_addPair 50 = .ok (.iconst 1, 1) := by decide +kernel
theorem dX3_addPair_51 : decode cX3_addPair 51 = .ok (.iand, 1) := by decide +kernel
theorem dX3_addPair_52 : decode cX3_addPair 52 = .ok (.iadd, 1) := by decide +kernel
theorem dX3_addPair_53 : decode cX3_addPair 53 = .ok (.putfield 9, 3) := by decide +kernel
theorem dX3_addPair_56 : decode cX3_addPair 56 = .ok (.aload_n 0, 1) := by decide +kernel
theorem dX3_addPair_57 : decode cX3_addPair 57 = .ok (.dup, 1) := by decide +kernel
theorem dX3_addPair_58 : decode cX3_addPair 58 = .ok (.getfield 15, 3) := by decide +kernel
theorem dX3_addPair_61 : decode cX3_addPair 61 = .ok (.iload 6, 2) := by decide +kernel
theorem dX3_addPair_63 : decode cX3_addPair 63 = .ok (.iconst 1, 1) := by decide +kernel
theorem dX3_addPair_64 : decode cX3_addPair 64 = .ok (.ishr, 1) := by decide +kernel
theorem dX3_addPair_65 : decode cX3_addPair 65 = .ok (.iconst 1, 1) := by decide +kernel
theorem dX3_addPair_66 : decode cX3_addPair 66 = .ok (.iand, 1) := by decide +kernel
theorem dX3_addPair_67 : decode cX3_addPair 67 = .ok (.iadd, 1) := by decide +kernel
theorem dX3_addPair_68 : decode cX3_addPair 68 = .ok (.putfield 15, 3) := by decide +kernel
theorem dX3_addPair_71 : decode cX3_addPair 71 = .ok (.aload_n 0, 1) := by decide +kernel
theorem dX3_addPair_72 : decode cX3_addPair 72 = .ok (.dup, 1) := by decide +kernel
theorem dX3_addPair_73 : decode cX3_addPair 73 = .ok (.getfield 18, 3) := by decide +kernel
theorem dX3_addPair_76 : decode cX3_addPair 76 = .ok (.iload 6, 2) := by decide +kernel
theorem dX3_addPair_78 : decode cX3_addPair 78 = .ok (.iconst 2, 1) := by decide +kernel
theorem dX3_addPair_79 : decode cX3_addPair 79 = .ok (.ishr, 1) := by decide +kernel
theorem dX3_addPair_80 : decode cX3_addPair 80 = .ok (.iconst 1, 1) := by decide +kernel
theorem dX3_addPair_81 : decode cX3_addPair 81 = .ok (.iand, 1) := by decide +kernel
theorem dX3_addPair_82 : decode cX3_addPair 82 = .ok (.iadd, 1) := by decide +kernel
theorem dX3_addPair_83 : decode cX3_addPair 83 = .ok (.putfield 18, 3) := by decide +kernel
theorem dX3_addPair_86 : decode cX3_addPair 86 = .ok (.iinc 5 1, 3) := by decide +kernel
theorem dX3_addPair_89 : decode cX3_addPair 89 = .ok (.goto (-63), 3) := by decide +kernel
theorem dX3_addPair_92 : decode cX3_addPair 92 = .ok (.return_, 1) := by decide +kernel
set_option maxHeartbeats 4000000 in
set_option maxRecDepth 100000 in
theorem t_X3_addPair_L26 {l : Launch} {E : u_E} {K : u_K} {r : Int} {s' : u_S} (g : Wk l (XE E) { frames := 3, cells := 0, slots := 0, locals := 76 } cX3_addPair 7 yX3_addPair.cls yX3_addPair.name none (RV E r s') K) {v0_1 : u_O} {v1_1 : u_O} {v2_1 : u_O} {v3_1 : Int} {v4_1 : Int} (i_v0_1 : is_Faults v0_1) (i_v1_1 : is_Sound v1_1) (i_v2_1 : is_Sound v2_1) (i_v3_1 : InR v3_1) (i_v4_1 : InR v4_1) {kx92 : u_S → Option (Int × u_S)} (hkx92 : ∀ (s_8 : u_S), kx92 s_8 = some (r, s') → K 0 0 92 [none, none, none, none, none, none, none] [] (Wd E s_8)) : ∀ (m : Nat) (v5_1 : Int) (s_6 : u_S), InR v5_1 → f_X3_addPair_L26 m kx92 v0_1 v1_1 v2_1 v3_1 v4_1 v5_1 s_6 = some (r, s') → K 0 0 26 [some (.ref (E.1 v0_1)), some (.ref (E.1 v1_1)), some (.ref (E.1 v2_1)), some (.int (J v3_1)), some (.int (J v4_1)), some (.int (J v5_1)), none] [] (Wd E s_6) := by
  have g0 := g.wk
  intro m
  induction m with
  | zero =>
    intro v5_1 s_6 i_v5_1 h
    exact absurd (show (none : Option (Int × u_S)) = some (r, s') from h) (by intro z; cases z)
  | succ m ih =>
    intro v5_1 s_6 i_v5_1 h
    rw [f_X3_addPair_L26] at h
    refine r_iload g0 dX3_addPair_26 rfl ?_
    refine r_iload g0 dX3_addPair_28 rfl ?_
    refine r_icmp_ge g0 92 dX3_addPair_30 (by decide) i_v5_1 i_v4_1 (fun hc => ?_) (fun hc => ?_)
    · replace h := if_f hc h
      refine r_mask g0 (lv' := [none, none, none, none, none, none, none]) [false, false, false, false, false, false, false] rfl ?_
      exact hkx92 s_6 h
    · replace h := if_t hc h
      refine r_aload_n g0 dX3_addPair_33 rfl ?_
      refine r_aload_n g0 dX3_addPair_34 rfl ?_
      refine r_iload g0 dX3_addPair_35 rfl ?_
      refine r_iload_n g0 dX3_addPair_37 rfl ?_
      obtain ⟨r_5, s_7, hr_5, h⟩ := bd_some h
      refine r_cSI g0 (rest := []) (c_X3_kindsAt i_v1_1 i_v2_1 i_v5_1 i_v3_1 hr_5) ok_X3_kindsAt mX3_39 dX3_addPair_38 ⟨Nat.le_of_ble_eq_true rfl, Nat.le_of_ble_eq_true rfl⟩ ⟨Nat.zero_le _, Nat.zero_le _⟩ rfl (Nat.le_of_ble_eq_true rfl) rfl (fun i_r_5 => ?_)
      refine r_istore g0 (lv' := [some (.ref (E.1 v0_1)), some (.ref (E.1 v1_1)), some (.ref (E.1 v2_1)), some (.int (J v3_1)), some (.int (J v4_1)), some (.int (J v5_1)), some (.int (J r_5))]) dX3_addPair_41 (by decide) rfl rfl ?_
      refine r_aload_n g0 dX3_addPair_43 rfl ?_
      refine r_dup g0 dX3_addPair_44 rfl ?_
      refine g_Faults_clashes g0 i_v0_1 qX3_9 dX3_addPair_45 ?_
      refine r_iload g0 dX3_addPair_48 rfl ?_
      refine r_iconst g0 dX3_addPair_50 ?_
      refine r_iand g0 dX3_addPair_51 ?_
      refine r_iadd g0 dX3_addPair_52 ?_
      refine p_Faults_clashes g0 i_v0_1 qX3_9 dX3_addPair_53 ?_
      refine r_aload_n g0 dX3_addPair_56 rfl ?_
      refine r_dup g0 dX3_addPair_57 rfl ?_
      refine g_Faults_crossings g0 i_v0_1 qX3_15 dX3_addPair_58 ?_
      refine r_iload g0 dX3_addPair_61 rfl ?_
      refine r_iconst g0 dX3_addPair_63 ?_
      refine r_ishr g0 dX3_addPair_64 ?_
      refine r_iconst g0 dX3_addPair_65 ?_
      refine r_iand g0 dX3_addPair_66 ?_
      refine r_iadd g0 dX3_addPair_67 ?_
      refine p_Faults_crossings g0 i_v0_1 qX3_15 dX3_addPair_68 ?_
      refine r_aload_n g0 dX3_addPair_71 rfl ?_
      refine r_dup g0 dX3_addPair_72 rfl ?_
      refine g_Faults_parallels g0 i_v0_1 qX3_18 dX3_addPair_73 ?_
      refine r_iload g0 dX3_addPair_76 rfl ?_
      refine r_iconst g0 dX3_addPair_78 ?_
      refine r_ishr g0 dX3_addPair_79 ?_
      refine r_iconst g0 dX3_addPair_80 ?_
      refine r_iand g0 dX3_addPair_81 ?_
      refine r_iadd g0 dX3_addPair_82 ?_
      refine p_Faults_parallels g0 i_v0_1 qX3_18 dX3_addPair_83 ?_
      refine r_iinc g0 (a := v5_1) (lv' := [some (.ref (E.1 v0_1)), some (.ref (E.1 v1_1)), some (.ref (E.1 v2_1)), some (.int (J v3_1)), some (.int (J v4_1)), some (.int (J (wr (v5_1 + 1)))), some (.int (J r_5))]) dX3_addPair_86 (by decide) rfl rfl rfl ?_
      refine r_goto g0 26 dX3_addPair_89 (by decide) ?_
      refine r_mask g0 (lv' := [some (.ref (E.1 v0_1)), some (.ref (E.1 v1_1)), some (.ref (E.1 v2_1)), some (.int (J v3_1)), some (.int (J v4_1)), some (.int (J (wr (v5_1 + 1)))), none]) [true, true, true, true, true, true, false] rfl ?_
      exact ih (wr (v5_1 + 1)) (wt (wt (wt s_7 v0_1 0 (wr ((rd s_7 v0_1 0) + (iand r_5 1)))) v0_1 1 (wr ((rd (wt s_7 v0_1 0 (wr ((rd s_7 v0_1 0) + (iand r_5 1)))) v0_1 1) + (iand (ishr r_5 1) 1)))) v0_1 2 (wr ((rd (wt (wt s_7 v0_1 0 (wr ((rd s_7 v0_1 0) + (iand r_5 1)))) v0_1 1 (wr ((rd (wt s_7 v0_1 0 (wr ((rd s_7 v0_1 0) + (iand r_5 1)))) v0_1 1) + (iand (ishr r_5 1) 1)))) v0_1 2) + (iand (ishr r_5 2) 1)))) (InR_wr _) h
set_option maxHeartbeats 4000000 in
set_option maxRecDepth 100000 in
theorem c_X3_addPair {E : u_E} {l : Launch} {o : u_O} {p1 : u_O} {p2 : u_O} {p3 : Int} (ho : is_Faults o) (i_p1 : is_Sound p1) (i_p2 : is_Sound p2) (i_p3 : InR p3) {s s' : u_S} {r : Int} (h : f_X3_addPair o p1 p2 p3 s = some (r, s')) : Con l (XE E) yX3_addPair cX3_addPair 7 none 3 76 0 0 [.ref (E.1 o), .ref (E.1 p1), .ref (E.1 p2), .int (J p3)] (Wd E s) (RV E r s') := by
  refine Con.of [some (.ref (E.1 o)), some (.ref (E.1 p1)), some (.ref (E.1 p2)), some (.int (J p3)), none, none, none] (by decide +kernel) rfl rfl (Nat.le_of_ble_eq_true rfl) (fun K g => ?_)
  have g0 := g.wk
  unfold f_X3_addPair at h
  refine r_aload_n g0 dX3_addPair_0 rfl ?_
  obtain ⟨r_1, s_1, hr_1, h⟩ := bd_some h
  refine r_cVI g0 (rest := []) (c_X8_end i_p1 hr_1) ok_X8_end mX3_21 (recv_Sound i_p1) dX3_addPair_1 ⟨Nat.le_of_ble_eq_true rfl, Nat.le_of_ble_eq_true rfl⟩ ⟨Nat.zero_le _, Nat.zero_le _⟩ rfl (Nat.le_of_ble_eq_true rfl) rfl (fun i_r_1 => ?_)
  refine r_aload_n g0 dX3_addPair_4 rfl ?_
  obtain ⟨r_2, s_2, hr_2, h⟩ := bd_some h
  refine r_cVI g0 (rest := [.int (J r_1)]) (c_X8_end i_p2 hr_2) ok_X8_end mX3_21 (recv_Sound i_p2) dX3_addPair_5 ⟨Nat.le_of_ble_eq_true rfl, Nat.le_of_ble_eq_true rfl⟩ ⟨Nat.zero_le _, Nat.zero_le _⟩ rfl (Nat.le_of_ble_eq_true rfl) rfl (fun i_r_2 => ?_)
  obtain ⟨r_3, s_3, hr_3, h⟩ := bd_some h
  refine r_cSI g0 (rest := []) (c_J9_min_7cf53 i_r_1 i_r_2 hr_3) ok_J9_min_7cf53 mX3_27 dX3_addPair_8 ⟨Nat.le_of_ble_eq_true rfl, Nat.le_of_ble_eq_true rfl⟩ ⟨Nat.zero_le _, Nat.zero_le _⟩ rfl (Nat.le_of_ble_eq_true rfl) rfl (fun i_r_3 => ?_)
  refine r_istore g0 (lv' := [some (.ref (E.1 o)), some (.ref (E.1 p1)), some (.ref (E.1 p2)), some (.int (J p3)), some (.int (J r_3)), none, none]) dX3_addPair_11 (by decide) rfl rfl ?_
  refine r_aload_n g0 dX3_addPair_13 rfl ?_
  refine g_Sound_start g0 i_p1 qX3_33 dX3_addPair_14 ?_
  refine r_aload_n g0 dX3_addPair_17 rfl ?_
  refine g_Sound_start g0 i_p2 qX3_33 dX3_addPair_18 ?_
  obtain ⟨r_4, s_4, hr_4, h⟩ := bd_some h
  refine r_cSI g0 (rest := []) (c_J9_max_7cf53 (InR_rd _ _ _) (InR_rd _ _ _) hr_4) ok_J9_max_7cf53 mX3_36 dX3_addPair_21 ⟨Nat.le_of_ble_eq_true rfl, Nat.le_of_ble_eq_true rfl⟩ ⟨Nat.zero_le _, Nat.zero_le _⟩ rfl (Nat.le_of_ble_eq_true rfl) rfl (fun i_r_4 => ?_)
  refine r_istore g0 (lv' := [some (.ref (E.1 o)), some (.ref (E.1 p1)), some (.ref (E.1 p2)), some (.int (J p3)), some (.int (J r_3)), some (.int (J r_4)), none]) dX3_addPair_24 (by decide) rfl rfl ?_
  refine t_X3_addPair_L26 g ho i_p1 i_p2 i_p3 i_r_3 ?_ FU r_4 s_4 i_r_4 h
  · intro s_5 h
    exact z_V g dX3_addPair_92 h
theorem dX0_countFaults_0 : decode cX0_countFaults 0 = .ok (.aload_n 1, 1) := by decide +kernel
theorem dX0_countFaults_1 : decode cX0_countFaults 1 = .ok (.invokevirtual 77, 3) := by decide +kernel
theorem dX0_countFaults_4 : decode cX0_countFaults 4 = .ok (.iconst 0, 1) := by decide +kernel
theorem dX0_countFaults_5 : decode cX0_countFaults 5 = .ok (.istore_n 3, 1) := by decide +kernel
theorem dX0_countFaults_6 : decode cX0_countFaults 6 = .ok (.iload_n 3, 1) := by decide +kernel
theorem dX0_countFaults_7 : decode cX0_countFaults 7 = .ok (.aload_n 0, 1) := by decide +kernel
theorem dX0_countFaults_8 : decode cX0_countFaults 8 = .ok (.getfield 30, 3) := by decide +kernel
theorem dX0_countFaults_11 : decode cX0_countFaults 11 = .ok (.if_icmp .ge 47, 3) := by decide +kernel
theorem dX0_countFaults_14 : decode cX0_countFaults 14 = .ok (.iload_n 3, 1) := by decide +kernel
theorem dX0_countFaults_15 : decode cX0_countFaults 15 = .ok (.iconst 1, 1) := by decide +kernel
theorem dX0_countFaults_16 : decode cX0_countFaults 16 = .ok (.iadd, 1) := by decide +kernel
theorem dX0_countFaults_17 : decode cX0_countFaults 17 = .ok (.istore 4, 2) := by decide +kernel
theorem dX0_countFaults_19 : decode cX0_countFaults 19 = .ok (.iload 4, 2) := by decide +kernel
theorem dX0_countFaults_21 : decode cX0_countFaults 21 = .ok (.aload_n 0, 1) := by decide +kernel
theorem dX0_countFaults_22 : decode cX0_countFaults 22 = .ok (.getfield 30, 3) := by decide +kernel
theorem dX0_countFaults_25 : decode cX0_countFaults 25 = .ok (.if_icmp .ge 27, 3) := by decide +kernel
theorem dX0_countFaults_28 : decode cX0_countFaults 28 = .ok (.aload_n 1, 1) := by decide +kernel
theorem dX0_countFaults_29 : decode cX0_countFaults 29 = .ok (.aload_n 0, 1) := by decide +kernel
theorem dX0_countFaults_30 : decode cX0_countFaults 30 = .ok (.getfield 11, 3) := by decide +kernel
theorem dX0_countFaults_33 : decode cX0_countFaults 33 = .ok (.iload_n 3, 1) := by decide +kernel
theorem dX0_countFaults_34 : decode cX0_countFaults 34 = .ok (.aaload, 1) := by decide +kernel
theorem dX0_countFaults_35 : decode cX0_countFaults 35 = .ok (.aload_n 0, 1) := by decide +kernel
theorem dX0_countFaults_36 : decode cX0_countFaults 36 = .ok (.getfield 11, 3) := by decide +kernel
theorem dX0_countFaults_39 : decode cX0_countFaults 39 = .ok (.iload 4, 2) := by decide +kernel
theorem dX0_countFaults_41 : decode cX0_countFaults 41 = .ok (.aaload, 1) := by decide +kernel
theorem dX0_countFaults_42 : decode cX0_countFaults 42 = .ok (.iload_n 2, 1) := by decide +kernel
theorem dX0_countFaults_43 : decode cX0_countFaults 43 = .ok (.invokevirtual 82, 3) := by decide +kernel
theorem dX0_countFaults_46 : decode cX0_countFaults 46 = .ok (.iinc 4 1, 3) := by decide +kernel
theorem dX0_countFaults_49 : decode cX0_countFaults 49 = .ok (.goto (-30), 3) := by decide +kernel
theorem dX0_countFaults_52 : decode cX0_countFaults 52 = .ok (.iinc 3 1, 3) := by decide +kernel
theorem dX0_countFaults_55 : decode cX0_countFaults 55 = .ok (.goto (-49), 3) := by decide +kernel
theorem dX0_countFaults_58 : decode cX0_countFaults 58 = .ok (.return_, 1) := by decide +kernel
set_option maxHeartbeats 4000000 in
set_option maxRecDepth 100000 in
theorem t_X0_countFaults_L19 {l : Launch} {E : u_E} {K : u_K} {r : Int} {s' : u_S} (g : Wk l (XE E) { frames := 4, cells := 0, slots := 0, locals := 102 } cX0_countFaults 5 yX0_countFaults.cls yX0_countFaults.name none (RV E r s') K) {v0_2 : u_O} {v1_2 : u_O} {v2_2 : Int} {v3_2 : Int} (i_v0_2 : is_Chorus v0_2) (i_v1_2 : is_Faults v1_2) (i_v2_2 : InR v2_2) (i_v3_2 : InR v3_2) {kx52 : u_S → Option (Int × u_S)} (hkx52 : ∀ (s_7 : u_S), kx52 s_7 = some (r, s') → K 0 0 52 [some (.ref (E.1 v0_2)), some (.ref (E.1 v1_2)), some (.int (J v2_2)), some (.int (J v3_2)), none] [] (Wd E s_7)) : ∀ (m : Nat) (v4_1 : Int) (s_5 : u_S), InR v4_1 → f_X0_countFaults_L19 m kx52 v0_2 v1_2 v2_2 v3_2 v4_1 s_5 = some (r, s') → K 0 0 19 [some (.ref (E.1 v0_2)), some (.ref (E.1 v1_2)), some (.int (J v2_2)), some (.int (J v3_2)), some (.int (J v4_1))] [] (Wd E s_5) := by
  have g0 := g.wk
  intro m
  induction m with
  | zero =>
    intro v4_1 s_5 i_v4_1 h
    exact absurd (show (none : Option (Int × u_S)) = some (r, s') from h) (by intro z; cases z)
  | succ m ih =>
    intro v4_1 s_5 i_v4_1 h
    rw [f_X0_countFaults_L19] at h
    refine r_iload g0 dX0_countFaults_19 rfl ?_
    refine r_aload_n g0 dX0_countFaults_21 rfl ?_
    refine g_Chorus_count g0 i_v0_2 qX0_30 dX0_countFaults_22 ?_
    refine r_icmp_ge g0 52 dX0_countFaults_25 (by decide) i_v4_1 (InR_rd _ _ _) (fun hc => ?_) (fun hc => ?_)
    · replace h := if_f hc h
      refine r_mask g0 (lv' := [some (.ref (E.1 v0_2)), some (.ref (E.1 v1_2)), some (.int (J v2_2)), some (.int (J v3_2)), none]) [true, true, true, true, false] rfl ?_
      exact hkx52 s_5 h
    · replace h := if_t hc h
      refine r_aload_n g0 dX0_countFaults_28 rfl ?_
      refine r_aload_n g0 dX0_countFaults_29 rfl ?_
      refine g_Chorus_items g0 i_v0_2 qX0_11 dX0_countFaults_30 ?_
      refine r_iload_n g0 dX0_countFaults_33 rfl ?_
      obtain ⟨hb, h⟩ := gd_some h
      refine r_aald_Sound g0 (is_a_Chorus_items i_v0_2) i_v3_2 hb dX0_countFaults_34 ?_
      refine r_aload_n g0 dX0_countFaults_35 rfl ?_
      refine g_Chorus_items g0 i_v0_2 qX0_11 dX0_countFaults_36 ?_
      refine r_iload g0 dX0_countFaults_39 rfl ?_
      obtain ⟨hb_2, h⟩ := gd_some h
      refine r_aald_Sound g0 (is_a_Chorus_items i_v0_2) i_v4_1 hb_2 dX0_countFaults_41 ?_
      refine r_iload_n g0 dX0_countFaults_42 rfl ?_
      obtain ⟨r_2, s_6, hr_2, h⟩ := bd_some h
      refine r_cVV g0 (rest := []) (c_X3_addPair i_v1_2 (is_e_Sound (is_a_Chorus_items i_v0_2) hb) (is_e_Sound (is_a_Chorus_items i_v0_2) hb_2) i_v2_2 hr_2) ok_X3_addPair mX0_82 (recv_Faults i_v1_2) dX0_countFaults_43 ⟨Nat.le_of_ble_eq_true rfl, Nat.le_of_ble_eq_true rfl⟩ ⟨Nat.zero_le _, Nat.zero_le _⟩ rfl (Nat.le_of_ble_eq_true rfl) rfl ?_
      refine r_iinc g0 (a := v4_1) (lv' := [some (.ref (E.1 v0_2)), some (.ref (E.1 v1_2)), some (.int (J v2_2)), some (.int (J v3_2)), some (.int (J (wr (v4_1 + 1))))]) dX0_countFaults_46 (by decide) rfl rfl rfl ?_
      refine r_goto g0 19 dX0_countFaults_49 (by decide) ?_
      exact ih (wr (v4_1 + 1)) s_6 (InR_wr _) h
set_option maxHeartbeats 4000000 in
set_option maxRecDepth 100000 in
theorem t_X0_countFaults_L6 {l : Launch} {E : u_E} {K : u_K} {r : Int} {s' : u_S} (g : Wk l (XE E) { frames := 4, cells := 0, slots := 0, locals := 102 } cX0_countFaults 5 yX0_countFaults.cls yX0_countFaults.name none (RV E r s') K) {v0_1 : u_O} {v1_1 : u_O} {v2_1 : Int} (i_v0_1 : is_Chorus v0_1) (i_v1_1 : is_Faults v1_1) (i_v2_1 : InR v2_1) {kx58 : u_S → Option (Int × u_S)} (hkx58 : ∀ (s_8 : u_S), kx58 s_8 = some (r, s') → K 0 0 58 [none, none, none, none, none] [] (Wd E s_8)) : ∀ (m : Nat) (v3_1 : Int) (s_3 : u_S), InR v3_1 → f_X0_countFaults_L6 m kx58 v0_1 v1_1 v2_1 v3_1 s_3 = some (r, s') → K 0 0 6 [some (.ref (E.1 v0_1)), some (.ref (E.1 v1_1)), some (.int (J v2_1)), some (.int (J v3_1)), none] [] (Wd E s_3) := by
  have g0 := g.wk
  intro m
  induction m with
  | zero =>
    intro v3_1 s_3 i_v3_1 h
    exact absurd (show (none : Option (Int × u_S)) = some (r, s') from h) (by intro z; cases z)
  | succ m ih =>
    intro v3_1 s_3 i_v3_1 h
    rw [f_X0_countFaults_L6] at h
    refine r_iload_n g0 dX0_countFaults_6 rfl ?_
    refine r_aload_n g0 dX0_countFaults_7 rfl ?_
    refine g_Chorus_count g0 i_v0_1 qX0_30 dX0_countFaults_8 ?_
    refine r_icmp_ge g0 58 dX0_countFaults_11 (by decide) i_v3_1 (InR_rd _ _ _) (fun hc => ?_) (fun hc => ?_)
    · replace h := if_f hc h
      refine r_mask g0 (lv' := [none, none, none, none, none]) [false, false, false, false, false] rfl ?_
      exact hkx58 s_3 h
    · replace h := if_t hc h
      refine r_iload_n g0 dX0_countFaults_14 rfl ?_
      refine r_iconst g0 dX0_countFaults_15 ?_
      refine r_iadd g0 dX0_countFaults_16 ?_
      refine r_istore g0 (lv' := [some (.ref (E.1 v0_1)), some (.ref (E.1 v1_1)), some (.int (J v2_1)), some (.int (J v3_1)), some (.int (J (wr (v3_1 + 1))))]) dX0_countFaults_17 (by decide) rfl rfl ?_
      refine t_X0_countFaults_L19 g i_v0_1 i_v1_1 i_v2_1 i_v3_1 ?_ FU (wr (v3_1 + 1)) s_3 (InR_wr _) h
      · intro s_4 h
        refine r_iinc g0 (a := v3_1) (lv' := [some (.ref (E.1 v0_1)), some (.ref (E.1 v1_1)), some (.int (J v2_1)), some (.int (J (wr (v3_1 + 1)))), none]) dX0_countFaults_52 (by decide) rfl rfl rfl ?_
        refine r_goto g0 6 dX0_countFaults_55 (by decide) ?_
        exact ih (wr (v3_1 + 1)) s_4 (InR_wr _) h
set_option maxHeartbeats 4000000 in
set_option maxRecDepth 100000 in
theorem c_X0_countFaults {E : u_E} {l : Launch} {o : u_O} {p1 : u_O} {p2 : Int} (ho : is_Chorus o) (i_p1 : is_Faults p1) (i_p2 : InR p2) {s s' : u_S} {r : Int} (h : f_X0_countFaults o p1 p2 s = some (r, s')) : Con l (XE E) yX0_countFaults cX0_countFaults 5 none 4 102 0 0 [.ref (E.1 o), .ref (E.1 p1), .int (J p2)] (Wd E s) (RV E r s') := by
  refine Con.of [some (.ref (E.1 o)), some (.ref (E.1 p1)), some (.int (J p2)), none, none] (by decide +kernel) rfl rfl (Nat.le_of_ble_eq_true rfl) (fun K g => ?_)
  have g0 := g.wk
  unfold f_X0_countFaults at h
  refine r_aload_n g0 dX0_countFaults_0 rfl ?_
  obtain ⟨r_1, s_1, hr_1, h⟩ := bd_some h
  refine r_cVV g0 (rest := []) (c_X3_forget i_p1 hr_1) ok_X3_forget mX0_77 (recv_Faults i_p1) dX0_countFaults_1 ⟨Nat.le_of_ble_eq_true rfl, Nat.le_of_ble_eq_true rfl⟩ ⟨Nat.zero_le _, Nat.zero_le _⟩ rfl (Nat.le_of_ble_eq_true rfl) rfl ?_
  refine r_iconst g0 dX0_countFaults_4 ?_
  refine r_istore_n g0 (lv' := [some (.ref (E.1 o)), some (.ref (E.1 p1)), some (.int (J p2)), some (.int (J 0)), none]) dX0_countFaults_5 (by decide) rfl rfl ?_
  refine t_X0_countFaults_L6 g ho i_p1 i_p2 ?_ FU 0 s_1 (B01.inR B01_0) h
  · intro s_2 h
    exact z_V g dX0_countFaults_58 h
theorem dX0_firstPairAt_0 : decode cX0_firstPairAt 0 = .ok (.iconst 0, 1) := by decide +kernel
theorem dX0_firstPairAt_1 : decode cX0_firstPairAt 1 = .ok (.istore 4, 2) := by decide +kernel
theorem dX0_firstPairAt_3 : decode cX0_firstPairAt 3 = .ok (.iload 4, 2) := by decide +kernel
theorem dX0_firstPairAt_5 : decode cX0_firstPairAt 5 = .ok (.aload_n 0, 1) := by decide +kernel
theorem dX0_firstPairAt_6 : decode cX0_firstPairAt 6 = .ok (.getfield 30, 3) := by decide +kernel
theorem dX0_firstPairAt_9 : decode cX0_firstPairAt 9 = .ok (.if_icmp .ge 70, 3) := by decide +kernel
theorem dX0_firstPairAt_12 : decode cX0_firstPairAt 12 = .ok (.iload 4, 2) := by decide +kernel
theorem dX0_firstPairAt_14 : decode cX0_firstPairAt 14 = .ok (.iconst 1, 1) := by decide +kernel
theorem dX0_firstPairAt_15 : decode cX0_firstPairAt 15 = .ok (.iadd, 1) := by decide +kernel
theorem dX0_firstPairAt_16 : decode cX0_firstPairAt 16 = .ok (.istore 5, 2) := by decide +kernel
theorem dX0_firstPairAt_18 : decode cX0_firstPairAt 18 = .ok (.iload 5, 2) := by decide +kernel
theorem dX0_firstPairAt_20 : decode cX0_firstPairAt 20 = .ok (.aload_n 0, 1) := by decide +kernel
theorem dX0_firstPairAt_21 : decode cX0_firstPairAt 21 = .ok (.getfield 30, 3) := by decide +kernel
theorem dX0_firstPairAt_24 : decode cX0_firstPairAt 24 = .ok (.if_icmp .ge 49, 3) := by decide +kernel
theorem dX0_firstPairAt_27 : decode cX0_firstPairAt 27 = .ok (.aload_n 0, 1) := by decide +kernel
theorem dX0_firstPairAt_28 : decode cX0_firstPairAt 28 = .ok (.getfield 11, 3) := by decide +kernel
theorem dX0_firstPairAt_31 : decode cX0_firstPairAt 31 = .ok (.iload 4, 2) := by decide +kernel
theorem dX0_firstPairAt_33 : decode cX0_firstPairAt 33 = .ok (.aaload, 1) := by decide +kernel
theorem dX0_firstPairAt_34 : decode cX0_firstPairAt 34 = .ok (.aload_n 0, 1) := by decide +kernel
theorem dX0_firstPairAt_35 : decode cX0_firstPairAt 35 = .ok (.getfield 11, 3) := by decide +kernel
theorem dX0_firstPairAt_38 : decode cX0_firstPairAt 38 = .ok (.iload 5, 2) := by decide +kernel
theorem dX0_firstPairAt_40 : decode cX0_firstPairAt 40 = .ok (.aaload, 1) := by decide +kernel
theorem dX0_firstPairAt_41 : decode cX0_firstPairAt 41 = .ok (.iload_n 1, 1) := by decide +kernel
theorem dX0_firstPairAt_42 : decode cX0_firstPairAt 42 = .ok (.iload_n 3, 1) := by decide +kernel
theorem dX0_firstPairAt_43 : decode cX0_firstPairAt 43 = .ok (.invokestatic 93, 3) := by decide +kernel
theorem dX0_firstPairAt_46 : decode cX0_firstPairAt 46 = .ok (.istore 6, 2) := by decide +kernel
theorem dX0_firstPairAt_48 : decode cX0_firstPairAt 48 = .ok (.iload 6, 2) := by decide +kernel
theorem dX0_firstPairAt_50 : decode cX0_firstPairAt 50 = .ok (.iload_n 2, 1) := by decide +kernel
theorem dX0_firstPairAt_51 : decode cX0_firstPairAt 51 = .ok (.ishr, 1) := by decide +kernel
theorem dX0_firstPairAt_52 : decode cX0_firstPairAt 52 = .ok (.iconst 1, 1) := by decide +kernel
theorem dX0_firstPairAt_53 : decode cX0_firstPairAt 53 = .ok (.iand, 1) := by decide +kernel
theorem dX0_firstPairAt_54 : decode cX0_firstPairAt 54 = .ok (.iconst 1, 1) := by decide +kernel
theorem dX0_firstPairAt_55 : decode cX0_firstPairAt 55 = .ok (.if_icmp .ne 12, 3) := by decide +kernel
theorem dX0_firstPairAt_58 : decode cX0_firstPairAt 58 = .ok (.bipush 10, 2) := by decide +kernel
theorem dX0_firstPairAt_60 : decode cX0_firstPairAt 60 = .ok (.iload 4, 2) := by decide +kernel
theorem dX0_firstPairAt_62 : decode cX0_firstPairAt 62 = .ok (.imul, 1) := by decide +kernel
theorem dX0_firstPairAt_63 : decode cX0_firstPairAt 63 = .ok (.iload 5, 2) := by decide +kernel
theorem dX0_firstPairAt_65 : decode cX0_firstPairAt 65 = .ok (.iadd, 1) := by decide +kernel
theorem dX0_firstPairAt_66 : decode cX0_firstPairAt 66 = .ok (.ireturn, 1) := by decide +kernel
theorem dX0_firstPairAt_67 : decode cX0_firstPairAt 67 = .ok (.iinc 5 1, 3) := by decide +kernel
theorem dX0_firstPairAt_70 : decode cX0_firstPairAt 70 = .ok (.goto (-52), 3) := by decide +kernel
theorem dX0_firstPairAt_73 : decode cX0_firstPairAt 73 = .ok (.iinc 4 1, 3) := by decide +kernel
theorem dX0_firstPairAt_76 : decode cX0_firstPairAt 76 = .ok (.goto (-73), 3) := by decide +kernel
theorem dX0_firstPairAt_79 : decode cX0_firstPairAt 79 = .ok (.iconst (-1), 1) := by decide +kernel
theorem dX0_firstPairAt_80 : decode cX0_firstPairAt 80 = .ok (.ireturn, 1) := by decide +kernel
set_option maxHeartbeats 4000000 in
set_option maxRecDepth 100000 in
theorem t_X0_firstPairAt_L18 {l : Launch} {E : u_E} {K : u_K} {r : Int} {s' : u_S} (g : Wk l (XE E) { frames := 3, cells := 0, slots := 0, locals := 76 } cX0_firstPairAt 7 yX0_firstPairAt.cls yX0_firstPairAt.name (some .int) (RI E r s') K) {v0_2 : u_O} {v1_2 : Int} {v2_2 : Int} {v3_2 : Int} {v4_2 : Int} (i_v0_2 : is_Chorus v0_2) (i_v1_2 : InR v1_2) (i_v2_2 : InR v2_2) (i_v3_2 : InR v3_2) (i_v4_2 : InR v4_2) {kx73 : u_S → Option (Int × u_S)} (hkx73 : ∀ (s_6 : u_S), kx73 s_6 = some (r, s') → K 0 0 73 [some (.ref (E.1 v0_2)), some (.int (J v1_2)), some (.int (J v2_2)), some (.int (J v3_2)), some (.int (J v4_2)), none, none] [] (Wd E s_6)) : ∀ (m : Nat) (v5_1 : Int) (s_4 : u_S), InR v5_1 → f_X0_firstPairAt_L18 m kx73 v0_2 v1_2 v2_2 v3_2 v4_2 v5_1 s_4 = some (r, s') → K 0 0 18 [some (.ref (E.1 v0_2)), some (.int (J v1_2)), some (.int (J v2_2)), some (.int (J v3_2)), some (.int (J v4_2)), some (.int (J v5_1)), none] [] (Wd E s_4) := by
  have g0 := g.wk
  intro m
  induction m with
  | zero =>
    intro v5_1 s_4 i_v5_1 h
    exact absurd (show (none : Option (Int × u_S)) = some (r, s') from h) (by intro z; cases z)
  | succ m ih =>
    intro v5_1 s_4 i_v5_1 h
    rw [f_X0_firstPairAt_L18] at h
    refine r_iload g0 dX0_firstPairAt_18 rfl ?_
    refine r_aload_n g0 dX0_firstPairAt_20 rfl ?_
    refine g_Chorus_count g0 i_v0_2 qX0_30 dX0_firstPairAt_21 ?_
    refine r_icmp_ge g0 73 dX0_firstPairAt_24 (by decide) i_v5_1 (InR_rd _ _ _) (fun hc => ?_) (fun hc => ?_)
    · replace h := if_f hc h
      refine r_mask g0 (lv' := [some (.ref (E.1 v0_2)), some (.int (J v1_2)), some (.int (J v2_2)), some (.int (J v3_2)), some (.int (J v4_2)), none, none]) [true, true, true, true, true, false, false] rfl ?_
      exact hkx73 s_4 h
    · replace h := if_t hc h
      refine r_aload_n g0 dX0_firstPairAt_27 rfl ?_
      refine g_Chorus_items g0 i_v0_2 qX0_11 dX0_firstPairAt_28 ?_
      refine r_iload g0 dX0_firstPairAt_31 rfl ?_
      obtain ⟨hb, h⟩ := gd_some h
      refine r_aald_Sound g0 (is_a_Chorus_items i_v0_2) i_v4_2 hb dX0_firstPairAt_33 ?_
      refine r_aload_n g0 dX0_firstPairAt_34 rfl ?_
      refine g_Chorus_items g0 i_v0_2 qX0_11 dX0_firstPairAt_35 ?_
      refine r_iload g0 dX0_firstPairAt_38 rfl ?_
      obtain ⟨hb_2, h⟩ := gd_some h
      refine r_aald_Sound g0 (is_a_Chorus_items i_v0_2) i_v5_1 hb_2 dX0_firstPairAt_40 ?_
      refine r_iload_n g0 dX0_firstPairAt_41 rfl ?_
      refine r_iload_n g0 dX0_firstPairAt_42 rfl ?_
      obtain ⟨r_1, s_5, hr_1, h⟩ := bd_some h
      refine r_cSI g0 (rest := []) (c_X3_kindsAt (is_e_Sound (is_a_Chorus_items i_v0_2) hb) (is_e_Sound (is_a_Chorus_items i_v0_2) hb_2) i_v1_2 i_v3_2 hr_1) ok_X3_kindsAt mX0_93 dX0_firstPairAt_43 ⟨Nat.le_of_ble_eq_true rfl, Nat.le_of_ble_eq_true rfl⟩ ⟨Nat.zero_le _, Nat.zero_le _⟩ rfl (Nat.le_of_ble_eq_true rfl) rfl (fun i_r_1 => ?_)
      refine r_istore g0 (lv' := [some (.ref (E.1 v0_2)), some (.int (J v1_2)), some (.int (J v2_2)), some (.int (J v3_2)), some (.int (J v4_2)), some (.int (J v5_1)), some (.int (J r_1))]) dX0_firstPairAt_46 (by decide) rfl rfl ?_
      refine r_iload g0 dX0_firstPairAt_48 rfl ?_
      refine r_iload_n g0 dX0_firstPairAt_50 rfl ?_
      refine r_ishr g0 dX0_firstPairAt_51 ?_
      refine r_iconst g0 dX0_firstPairAt_52 ?_
      refine r_iand g0 dX0_firstPairAt_53 ?_
      refine r_iconst g0 dX0_firstPairAt_54 ?_
      refine r_icmp_ne g0 67 dX0_firstPairAt_55 (by decide) (InR_to _) (B01.inR B01_1) (fun hc => ?_) (fun hc => ?_)
      · replace h := if_f hc h
        refine r_iinc g0 (a := v5_1) (lv' := [some (.ref (E.1 v0_2)), some (.int (J v1_2)), some (.int (J v2_2)), some (.int (J v3_2)), some (.int (J v4_2)), some (.int (J (wr (v5_1 + 1)))), some (.int (J r_1))]) dX0_firstPairAt_67 (by decide) rfl rfl rfl ?_
        refine r_goto g0 18 dX0_firstPairAt_70 (by decide) ?_
        refine r_mask g0 (lv' := [some (.ref (E.1 v0_2)), some (.int (J v1_2)), some (.int (J v2_2)), some (.int (J v3_2)), some (.int (J v4_2)), some (.int (J (wr (v5_1 + 1)))), none]) [true, true, true, true, true, true, false] rfl ?_
        exact ih (wr (v5_1 + 1)) s_5 (InR_wr _) h
      · replace h := if_t hc h
        refine r_bipush g0 dX0_firstPairAt_58 rfl ?_
        refine r_iload g0 dX0_firstPairAt_60 rfl ?_
        refine r_imul g0 dX0_firstPairAt_62 ?_
        refine r_iload g0 dX0_firstPairAt_63 rfl ?_
        refine r_iadd g0 dX0_firstPairAt_65 ?_
        exact z_I g dX0_firstPairAt_66 (InR_wr _) h
set_option maxHeartbeats 4000000 in
set_option maxRecDepth 100000 in
theorem t_X0_firstPairAt_L3 {l : Launch} {E : u_E} {K : u_K} {r : Int} {s' : u_S} (g : Wk l (XE E) { frames := 3, cells := 0, slots := 0, locals := 76 } cX0_firstPairAt 7 yX0_firstPairAt.cls yX0_firstPairAt.name (some .int) (RI E r s') K) {v0_1 : u_O} {v1_1 : Int} {v2_1 : Int} {v3_1 : Int} (i_v0_1 : is_Chorus v0_1) (i_v1_1 : InR v1_1) (i_v2_1 : InR v2_1) (i_v3_1 : InR v3_1) {kx79 : u_S → Option (Int × u_S)} (hkx79 : ∀ (s_7 : u_S), kx79 s_7 = some (r, s') → K 0 0 79 [none, none, none, none, none, none, none] [] (Wd E s_7)) : ∀ (m : Nat) (v4_1 : Int) (s_2 : u_S), InR v4_1 → f_X0_firstPairAt_L3 m kx79 v0_1 v1_1 v2_1 v3_1 v4_1 s_2 = some (r, s') → K 0 0 3 [some (.ref (E.1 v0_1)), some (.int (J v1_1)), some (.int (J v2_1)), some (.int (J v3_1)), some (.int (J v4_1)), none, none] [] (Wd E s_2) := by
  have g0 := g.wk
  intro m
  induction m with
  | zero =>
    intro v4_1 s_2 i_v4_1 h
    exact absurd (show (none : Option (Int × u_S)) = some (r, s') from h) (by intro z; cases z)
  | succ m ih =>
    intro v4_1 s_2 i_v4_1 h
    rw [f_X0_firstPairAt_L3] at h
    refine r_iload g0 dX0_firstPairAt_3 rfl ?_
    refine r_aload_n g0 dX0_firstPairAt_5 rfl ?_
    refine g_Chorus_count g0 i_v0_1 qX0_30 dX0_firstPairAt_6 ?_
    refine r_icmp_ge g0 79 dX0_firstPairAt_9 (by decide) i_v4_1 (InR_rd _ _ _) (fun hc => ?_) (fun hc => ?_)
    · replace h := if_f hc h
      refine r_mask g0 (lv' := [none, none, none, none, none, none, none]) [false, false, false, false, false, false, false] rfl ?_
      exact hkx79 s_2 h
    · replace h := if_t hc h
      refine r_iload g0 dX0_firstPairAt_12 rfl ?_
      refine r_iconst g0 dX0_firstPairAt_14 ?_
      refine r_iadd g0 dX0_firstPairAt_15 ?_
      refine r_istore g0 (lv' := [some (.ref (E.1 v0_1)), some (.int (J v1_1)), some (.int (J v2_1)), some (.int (J v3_1)), some (.int (J v4_1)), some (.int (J (wr (v4_1 + 1)))), none]) dX0_firstPairAt_16 (by decide) rfl rfl ?_
      refine t_X0_firstPairAt_L18 g i_v0_1 i_v1_1 i_v2_1 i_v3_1 i_v4_1 ?_ FU (wr (v4_1 + 1)) s_2 (InR_wr _) h
      · intro s_3 h
        refine r_iinc g0 (a := v4_1) (lv' := [some (.ref (E.1 v0_1)), some (.int (J v1_1)), some (.int (J v2_1)), some (.int (J v3_1)), some (.int (J (wr (v4_1 + 1)))), none, none]) dX0_firstPairAt_73 (by decide) rfl rfl rfl ?_
        refine r_goto g0 3 dX0_firstPairAt_76 (by decide) ?_
        exact ih (wr (v4_1 + 1)) s_3 (InR_wr _) h
set_option maxHeartbeats 4000000 in
set_option maxRecDepth 100000 in
theorem c_X0_firstPairAt {E : u_E} {l : Launch} {o : u_O} {p1 : Int} {p2 : Int} {p3 : Int} (ho : is_Chorus o) (i_p1 : InR p1) (i_p2 : InR p2) (i_p3 : InR p3) {s s' : u_S} {r : Int} (h : f_X0_firstPairAt o p1 p2 p3 s = some (r, s')) : Con l (XE E) yX0_firstPairAt cX0_firstPairAt 7 (some .int) 3 76 0 0 [.ref (E.1 o), .int (J p1), .int (J p2), .int (J p3)] (Wd E s) (RI E r s') := by
  refine Con.of [some (.ref (E.1 o)), some (.int (J p1)), some (.int (J p2)), some (.int (J p3)), none, none, none] (by decide +kernel) rfl rfl (Nat.le_of_ble_eq_true rfl) (fun K g => ?_)
  have g0 := g.wk
  unfold f_X0_firstPairAt at h
  refine r_iconst g0 dX0_firstPairAt_0 ?_
  refine r_istore g0 (lv' := [some (.ref (E.1 o)), some (.int (J p1)), some (.int (J p2)), some (.int (J p3)), some (.int (J 0)), none, none]) dX0_firstPairAt_1 (by decide) rfl rfl ?_
  refine t_X0_firstPairAt_L3 g ho i_p1 i_p2 i_p3 ?_ FU 0 s (B01.inR B01_0) h
  · intro s_1 h
    refine r_iconst g0 dX0_firstPairAt_79 ?_
    exact z_I g dX0_firstPairAt_80 (InR_lit rfl) h
theorem dX0_leastKindAt_0 : decode cX0_leastKindAt 0 = .ok (.iconst 0, 1) := by decide +kernel
theorem dX0_leastKindAt_1 : decode cX0_leastKindAt 1 = .ok (.istore_n 3, 1) := by decide +kernel
theorem dX0_leastKindAt_2 : decode cX0_leastKindAt 2 = .ok (.iload_n 3, 1) := by decide +kernel
theorem dX0_leastKindAt_3 : decode cX0_leastKindAt 3 = .ok (.iconst 3, 1) := by decide +kernel
theorem dX0_leastKindAt_4 : decode cX0_leastKindAt 4 = .ok (.if_icmp .ge 22, 3) := by decide +kernel
theorem dX0_leastKindAt_7 : decode cX0_leastKindAt 7 = .ok (.aload_n 0, 1) := by decide +kernel
theorem dX0_leastKindAt_8 : decode cX0_leastKindAt 8 = .ok (.iload_n 1, 1) := by decide +kernel
theorem dX0_leastKindAt_9 : decode cX0_leastKindAt 9 = .ok (.iload_n 3, 1) := by decide +kernel
theorem dX0_leastKindAt_10 : decode cX0_leastKindAt 10 = .ok (.iload_n 2, 1) := by decide +kernel
theorem dX0_leastKindAt_11 : decode cX0_leastKindAt 11 = .ok (.invokevirtual 89, 3) := by decide +kernel
theorem dX0_leastKindAt_14 : decode cX0_leastKindAt 14 = .ok (.iconst (-1), 1) := by decide +kernel
theorem dX0_leastKindAt_15 : decode cX0_leastKindAt 15 = .ok (.if_icmp .eq 5, 3) := by decide +kernel
theorem dX0_leastKindAt_18 : decode cX0_leastKindAt 18 = .ok (.iload_n 3, 1) := by decide +kernel
theorem dX0_leastKindAt_19 : decode cX0_leastKindAt 19 = .ok (.ireturn, 1) := by decide +kernel
theorem dX0_leastKindAt_20 : decode cX0_leastKindAt 20 = .ok (.iinc 3 1, 3) := by decide +kernel
theorem dX0_leastKindAt_23 : decode cX0_leastKindAt 23 = .ok (.goto (-21), 3) := by decide +kernel
theorem dX0_leastKindAt_26 : decode cX0_leastKindAt 26 = .ok (.iconst (-1), 1) := by decide +kernel
theorem dX0_leastKindAt_27 : decode cX0_leastKindAt 27 = .ok (.ireturn, 1) := by decide +kernel
set_option maxHeartbeats 4000000 in
set_option maxRecDepth 100000 in
theorem t_X0_leastKindAt_L2 {l : Launch} {E : u_E} {K : u_K} {r : Int} {s' : u_S} (g : Wk l (XE E) { frames := 4, cells := 0, slots := 0, locals := 102 } cX0_leastKindAt 4 yX0_leastKindAt.cls yX0_leastKindAt.name (some .int) (RI E r s') K) {v0_1 : u_O} {v1_1 : Int} {v2_1 : Int} (i_v0_1 : is_Chorus v0_1) (i_v1_1 : InR v1_1) (i_v2_1 : InR v2_1) {kx26 : u_S → Option (Int × u_S)} (hkx26 : ∀ (s_4 : u_S), kx26 s_4 = some (r, s') → K 0 0 26 [none, none, none, none] [] (Wd E s_4)) : ∀ (m : Nat) (v3_1 : Int) (s_2 : u_S), InR v3_1 → f_X0_leastKindAt_L2 m kx26 v0_1 v1_1 v2_1 v3_1 s_2 = some (r, s') → K 0 0 2 [some (.ref (E.1 v0_1)), some (.int (J v1_1)), some (.int (J v2_1)), some (.int (J v3_1))] [] (Wd E s_2) := by
  have g0 := g.wk
  intro m
  induction m with
  | zero =>
    intro v3_1 s_2 i_v3_1 h
    exact absurd (show (none : Option (Int × u_S)) = some (r, s') from h) (by intro z; cases z)
  | succ m ih =>
    intro v3_1 s_2 i_v3_1 h
    rw [f_X0_leastKindAt_L2] at h
    refine r_iload_n g0 dX0_leastKindAt_2 rfl ?_
    refine r_iconst g0 dX0_leastKindAt_3 ?_
    refine r_icmp_ge g0 26 dX0_leastKindAt_4 (by decide) i_v3_1 (InR_lit rfl) (fun hc => ?_) (fun hc => ?_)
    · replace h := if_f hc h
      refine r_mask g0 (lv' := [none, none, none, none]) [false, false, false, false] rfl ?_
      exact hkx26 s_2 h
    · replace h := if_t hc h
      refine r_aload_n g0 dX0_leastKindAt_7 rfl ?_
      refine r_iload_n g0 dX0_leastKindAt_8 rfl ?_
      refine r_iload_n g0 dX0_leastKindAt_9 rfl ?_
      refine r_iload_n g0 dX0_leastKindAt_10 rfl ?_
      obtain ⟨r_1, s_3, hr_1, h⟩ := bd_some h
      refine r_cVI g0 (rest := []) (c_X0_firstPairAt i_v0_1 i_v1_1 i_v3_1 i_v2_1 hr_1) ok_X0_firstPairAt mX0_89 (recv_Chorus i_v0_1) dX0_leastKindAt_11 ⟨Nat.le_of_ble_eq_true rfl, Nat.le_of_ble_eq_true rfl⟩ ⟨Nat.zero_le _, Nat.zero_le _⟩ rfl (Nat.le_of_ble_eq_true rfl) rfl (fun i_r_1 => ?_)
      refine r_iconst g0 dX0_leastKindAt_14 ?_
      refine r_icmp_eq g0 20 dX0_leastKindAt_15 (by decide) i_r_1 (InR_lit rfl) (fun hc => ?_) (fun hc => ?_)
      · replace h := if_t hc h
        refine r_iinc g0 (a := v3_1) (lv' := [some (.ref (E.1 v0_1)), some (.int (J v1_1)), some (.int (J v2_1)), some (.int (J (wr (v3_1 + 1))))]) dX0_leastKindAt_20 (by decide) rfl rfl rfl ?_
        refine r_goto g0 2 dX0_leastKindAt_23 (by decide) ?_
        exact ih (wr (v3_1 + 1)) s_3 (InR_wr _) h
      · replace h := if_f hc h
        refine r_iload_n g0 dX0_leastKindAt_18 rfl ?_
        exact z_I g dX0_leastKindAt_19 i_v3_1 h
set_option maxHeartbeats 4000000 in
set_option maxRecDepth 100000 in
theorem c_X0_leastKindAt {E : u_E} {l : Launch} {o : u_O} {p1 : Int} {p2 : Int} (ho : is_Chorus o) (i_p1 : InR p1) (i_p2 : InR p2) {s s' : u_S} {r : Int} (h : f_X0_leastKindAt o p1 p2 s = some (r, s')) : Con l (XE E) yX0_leastKindAt cX0_leastKindAt 4 (some .int) 4 102 0 0 [.ref (E.1 o), .int (J p1), .int (J p2)] (Wd E s) (RI E r s') := by
  refine Con.of [some (.ref (E.1 o)), some (.int (J p1)), some (.int (J p2)), none] (by decide +kernel) rfl rfl (Nat.le_of_ble_eq_true rfl) (fun K g => ?_)
  have g0 := g.wk
  unfold f_X0_leastKindAt at h
  refine r_iconst g0 dX0_leastKindAt_0 ?_
  refine r_istore_n g0 (lv' := [some (.ref (E.1 o)), some (.int (J p1)), some (.int (J p2)), some (.int (J 0))]) dX0_leastKindAt_1 (by decide) rfl rfl ?_
  refine t_X0_leastKindAt_L2 g ho i_p1 i_p2 ?_ FU 0 s (B01.inR B01_0) h
  · intro s_1 h
    refine r_iconst g0 dX0_leastKindAt_26 ?_
    exact z_I g dX0_leastKindAt_27 (InR_lit rfl) h
theorem dX0_firstFaultTick_0 : decode cX0_firstFaultTick 0 = .ok (.aload_n 0, 1) := by decide +kernel
theorem dX0_firstFaultTick_1 : decode cX0_firstFaultTick 1 = .ok (.invokevirtual 76, 3) := by decide +kernel
theorem dX0_firstFaultTick_4 : decode cX0_firstFaultTick 4 = .ok (.istore_n 2, 1) := by decide +kernel
theorem dX0_firstFaultTick_5 : decode cX0_firstFaultTick 5 = .ok (.iconst 0, 1) := by decide +kernel
theorem dX0_firstFaultTick_6 : decode cX0_firstFaultTick 6 = .ok (.istore_n 3, 1) := by decide +kernel
theorem dX0_firstFaultTick_7 : decode cX0_firstFaultTick 7 = .ok (.iload_n 3, 1) := by decide +kernel
theorem dX0_firstFaultTick_8 : decode cX0_firstFaultTick 8 = .ok (.iload_n 2, 1) := by decide +kernel
theorem dX0_firstFaultTick_9 : decode cX0_firstFaultTick 9 = .ok (.if_icmp .ge 21, 3) := by decide +kernel
theorem dX0_firstFaultTick_12 : decode cX0_firstFaultTick 12 = .ok (.aload_n 0, 1) := by decide +kernel
theorem dX0_firstFaultTick_13 : decode cX0_firstFaultTick 13 = .ok (.iload_n 3, 1) := by decide +kernel
theorem dX0_firstFaultTick_14 : decode cX0_firstFaultTick 14 = .ok (.iload_n 1, 1) := by decide +kernel
theorem dX0_firstFaultTick_15 : decode cX0_firstFaultTick 15 = .ok (.invokevirtual 86, 3) := by decide +kernel
theorem dX0_firstFaultTick_18 : decode cX0_firstFaultTick 18 = .ok (.iconst (-1), 1) := by decide +kernel
theorem dX0_firstFaultTick_19 : decode cX0_firstFaultTick 19 = .ok (.if_icmp .eq 5, 3) := by decide +kernel
theorem dX0_firstFaultTick_22 : decode cX0_firstFaultTick 22 = .ok (.iload_n 3, 1) := by decide +kernel
theorem dX0_firstFaultTick_23 : decode cX0_firstFaultTick 23 = .ok (.ireturn, 1) := by decide +kernel
theorem dX0_firstFaultTick_24 : decode cX0_firstFaultTick 24 = .ok (.iinc 3 1, 3) := by decide +kernel
theorem dX0_firstFaultTick_27 : decode cX0_firstFaultTick 27 = .ok (.goto (-20), 3) := by decide +kernel
theorem dX0_firstFaultTick_30 : decode cX0_firstFaultTick 30 = .ok (.iconst (-1), 1) := by decide +kernel
theorem dX0_firstFaultTick_31 : decode cX0_firstFaultTick 31 = .ok (.ireturn, 1) := by decide +kernel
set_option maxHeartbeats 4000000 in
set_option maxRecDepth 100000 in
theorem t_X0_firstFaultTick_L7 {l : Launch} {E : u_E} {K : u_K} {r : Int} {s' : u_S} (g : Wk l (XE E) { frames := 5, cells := 0, slots := 0, locals := 125 } cX0_firstFaultTick 4 yX0_firstFaultTick.cls yX0_firstFaultTick.name (some .int) (RI E r s') K) {v0_1 : u_O} {v1_1 : Int} {v2_1 : Int} (i_v0_1 : is_Chorus v0_1) (i_v1_1 : InR v1_1) (i_v2_1 : InR v2_1) {kx30 : u_S → Option (Int × u_S)} (hkx30 : ∀ (s_5 : u_S), kx30 s_5 = some (r, s') → K 0 0 30 [none, none, none, none] [] (Wd E s_5)) : ∀ (m : Nat) (v3_1 : Int) (s_3 : u_S), InR v3_1 → f_X0_firstFaultTick_L7 m kx30 v0_1 v1_1 v2_1 v3_1 s_3 = some (r, s') → K 0 0 7 [some (.ref (E.1 v0_1)), some (.int (J v1_1)), some (.int (J v2_1)), some (.int (J v3_1))] [] (Wd E s_3) := by
  have g0 := g.wk
  intro m
  induction m with
  | zero =>
    intro v3_1 s_3 i_v3_1 h
    exact absurd (show (none : Option (Int × u_S)) = some (r, s') from h) (by intro z; cases z)
  | succ m ih =>
    intro v3_1 s_3 i_v3_1 h
    rw [f_X0_firstFaultTick_L7] at h
    refine r_iload_n g0 dX0_firstFaultTick_7 rfl ?_
    refine r_iload_n g0 dX0_firstFaultTick_8 rfl ?_
    refine r_icmp_ge g0 30 dX0_firstFaultTick_9 (by decide) i_v3_1 i_v2_1 (fun hc => ?_) (fun hc => ?_)
    · replace h := if_f hc h
      refine r_mask g0 (lv' := [none, none, none, none]) [false, false, false, false] rfl ?_
      exact hkx30 s_3 h
    · replace h := if_t hc h
      refine r_aload_n g0 dX0_firstFaultTick_12 rfl ?_
      refine r_iload_n g0 dX0_firstFaultTick_13 rfl ?_
      refine r_iload_n g0 dX0_firstFaultTick_14 rfl ?_
      obtain ⟨r_2, s_4, hr_2, h⟩ := bd_some h
      refine r_cVI g0 (rest := []) (c_X0_leastKindAt i_v0_1 i_v3_1 i_v1_1 hr_2) ok_X0_leastKindAt mX0_86 (recv_Chorus i_v0_1) dX0_firstFaultTick_15 ⟨Nat.le_of_ble_eq_true rfl, Nat.le_of_ble_eq_true rfl⟩ ⟨Nat.zero_le _, Nat.zero_le _⟩ rfl (Nat.le_of_ble_eq_true rfl) rfl (fun i_r_2 => ?_)
      refine r_iconst g0 dX0_firstFaultTick_18 ?_
      refine r_icmp_eq g0 24 dX0_firstFaultTick_19 (by decide) i_r_2 (InR_lit rfl) (fun hc => ?_) (fun hc => ?_)
      · replace h := if_t hc h
        refine r_iinc g0 (a := v3_1) (lv' := [some (.ref (E.1 v0_1)), some (.int (J v1_1)), some (.int (J v2_1)), some (.int (J (wr (v3_1 + 1))))]) dX0_firstFaultTick_24 (by decide) rfl rfl rfl ?_
        refine r_goto g0 7 dX0_firstFaultTick_27 (by decide) ?_
        exact ih (wr (v3_1 + 1)) s_4 (InR_wr _) h
      · replace h := if_f hc h
        refine r_iload_n g0 dX0_firstFaultTick_22 rfl ?_
        exact z_I g dX0_firstFaultTick_23 i_v3_1 h
set_option maxHeartbeats 4000000 in
set_option maxRecDepth 100000 in
theorem c_X0_firstFaultTick {E : u_E} {l : Launch} {o : u_O} {p1 : Int} (ho : is_Chorus o) (i_p1 : InR p1) {s s' : u_S} {r : Int} (h : f_X0_firstFaultTick o p1 s = some (r, s')) : Con l (XE E) yX0_firstFaultTick cX0_firstFaultTick 4 (some .int) 5 125 0 0 [.ref (E.1 o), .int (J p1)] (Wd E s) (RI E r s') := by
  refine Con.of [some (.ref (E.1 o)), some (.int (J p1)), none, none] (by decide +kernel) rfl rfl (Nat.le_of_ble_eq_true rfl) (fun K g => ?_)
  have g0 := g.wk
  unfold f_X0_firstFaultTick at h
  refine r_aload_n g0 dX0_firstFaultTick_0 rfl ?_
  obtain ⟨r_1, s_1, hr_1, h⟩ := bd_some h
  refine r_cVI g0 (rest := []) (c_X0_end ho hr_1) ok_X0_end mX0_76 (recv_Chorus ho) dX0_firstFaultTick_1 ⟨Nat.le_of_ble_eq_true rfl, Nat.le_of_ble_eq_true rfl⟩ ⟨Nat.zero_le _, Nat.zero_le _⟩ rfl (Nat.le_of_ble_eq_true rfl) rfl (fun i_r_1 => ?_)
  refine r_istore_n g0 (lv' := [some (.ref (E.1 o)), some (.int (J p1)), some (.int (J r_1)), none]) dX0_firstFaultTick_4 (by decide) rfl rfl ?_
  refine r_iconst g0 dX0_firstFaultTick_5 ?_
  refine r_istore_n g0 (lv' := [some (.ref (E.1 o)), some (.int (J p1)), some (.int (J r_1)), some (.int (J 0))]) dX0_firstFaultTick_6 (by decide) rfl rfl ?_
  refine t_X0_firstFaultTick_L7 g ho i_p1 i_r_1 ?_ FU 0 s_1 (B01.inR B01_0) h
  · intro s_2 h
    refine r_iconst g0 dX0_firstFaultTick_30 ?_
    exact z_I g dX0_firstFaultTick_31 (InR_lit rfl) h
theorem dX2_be_0 : decode cX2_be 0 = .ok (.aload_n 0, 1) := by decide +kernel
theorem dX2_be_1 : decode cX2_be 1 = .ok (.iload_n 1, 1) := by decide +kernel
theorem dX2_be_2 : decode cX2_be 2 = .ok (.putfield 7, 3) := by decide +kernel
theorem dX2_be_5 : decode cX2_be 5 = .ok (.aload_n 0, 1) := by decide +kernel
theorem dX2_be_6 : decode cX2_be 6 = .ok (.iload_n 2, 1) := by decide +kernel
theorem dX2_be_7 : decode cX2_be 7 = .ok (.putfield 13, 3) := by decide +kernel
theorem dX2_be_10 : decode cX2_be 10 = .ok (.aload_n 0, 1) := by decide +kernel
theorem dX2_be_11 : decode cX2_be 11 = .ok (.iload_n 3, 1) := by decide +kernel
theorem dX2_be_12 : decode cX2_be 12 = .ok (.putfield 16, 3) := by decide +kernel
theorem dX2_be_15 : decode cX2_be 15 = .ok (.aload_n 0, 1) := by decide +kernel
theorem dX2_be_16 : decode cX2_be 16 = .ok (.iload 4, 2) := by decide +kernel
theorem dX2_be_18 : decode cX2_be 18 = .ok (.putfield 19, 3) := by decide +kernel
theorem dX2_be_21 : decode cX2_be 21 = .ok (.aload_n 0, 1) := by decide +kernel
theorem dX2_be_22 : decode cX2_be 22 = .ok (.iload 5, 2) := by decide +kernel
theorem dX2_be_24 : decode cX2_be 24 = .ok (.putfield 22, 3) := by decide +kernel
theorem dX2_be_27 : decode cX2_be 27 = .ok (.return_, 1) := by decide +kernel
set_option maxHeartbeats 4000000 in
set_option maxRecDepth 100000 in
theorem c_X2_be {E : u_E} {l : Launch} {o : u_O} {p1 : Int} {p2 : Int} {p3 : Int} {p4 : Int} {p5 : Int} (ho : is_Entry o) (i_p1 : InR p1) (i_p2 : InR p2) (i_p3 : InR p3) (i_p4 : InR p4) (i_p5 : InR p5) {s s' : u_S} {r : Int} (h : f_X2_be o p1 p2 p3 p4 p5 s = some (r, s')) : Con l (XE E) yX2_be cX2_be 6 none 0 0 0 0 [.ref (E.1 o), .int (J p1), .int (J p2), .int (J p3), .int (J p4), .int (J p5)] (Wd E s) (RV E r s') := by
  refine Con.of [some (.ref (E.1 o)), some (.int (J p1)), some (.int (J p2)), some (.int (J p3)), some (.int (J p4)), some (.int (J p5))] (by decide +kernel) rfl rfl (Nat.le_of_ble_eq_true rfl) (fun K g => ?_)
  have g0 := g.wk
  unfold f_X2_be at h
  refine r_aload_n g0 dX2_be_0 rfl ?_
  refine r_iload_n g0 dX2_be_1 rfl ?_
  refine p_Entry_line g0 ho qX2_7 dX2_be_2 ?_
  refine r_aload_n g0 dX2_be_5 rfl ?_
  refine r_iload_n g0 dX2_be_6 rfl ?_
  refine p_Entry_form g0 ho qX2_13 dX2_be_7 ?_
  refine r_aload_n g0 dX2_be_10 rfl ?_
  refine r_iload_n g0 dX2_be_11 rfl ?_
  refine p_Entry_move g0 ho qX2_16 dX2_be_12 ?_
  refine r_aload_n g0 dX2_be_15 rfl ?_
  refine r_iload g0 dX2_be_16 rfl ?_
  refine p_Entry_start g0 ho qX2_19 dX2_be_18 ?_
  refine r_aload_n g0 dX2_be_21 rfl ?_
  refine r_iload g0 dX2_be_22 rfl ?_
  refine p_Entry_voice g0 ho qX2_22 dX2_be_24 ?_
  exact z_V g dX2_be_27 h
theorem dX2_copyFrom_0 : decode cX2_copyFrom 0 = .ok (.aload_n 0, 1) := by decide +kernel
theorem dX2_copyFrom_1 : decode cX2_copyFrom 1 = .ok (.aload_n 1, 1) := by decide +kernel
theorem dX2_copyFrom_2 : decode cX2_copyFrom 2 = .ok (.getfield 7, 3) := by decide +kernel
theorem dX2_copyFrom_5 : decode cX2_copyFrom 5 = .ok (.aload_n 1, 1) := by decide +kernel
theorem dX2_copyFrom_6 : decode cX2_copyFrom 6 = .ok (.getfield 13, 3) := by decide +kernel
theorem dX2_copyFrom_9 : decode cX2_copyFrom 9 = .ok (.aload_n 1, 1) := by decide +kernel
theorem dX2_copyFrom_10 : decode cX2_copyFrom 10 = .ok (.getfield 16, 3) := by decide +kernel
theorem dX2_copyFrom_13 : decode cX2_copyFrom 13 = .ok (.aload_n 1, 1) := by decide +kernel
theorem dX2_copyFrom_14 : decode cX2_copyFrom 14 = .ok (.getfield 19, 3) := by decide +kernel
theorem dX2_copyFrom_17 : decode cX2_copyFrom 17 = .ok (.aload_n 1, 1) := by decide +kernel
theorem dX2_copyFrom_18 : decode cX2_copyFrom 18 = .ok (.getfield 22, 3) := by decide +kernel
theorem dX2_copyFrom_21 : decode cX2_copyFrom 21 = .ok (.invokevirtual 25, 3) := by decide +kernel
theorem dX2_copyFrom_24 : decode cX2_copyFrom 24 = .ok (.return_, 1) := by decide +kernel
set_option maxHeartbeats 4000000 in
set_option maxRecDepth 100000 in
theorem c_X2_copyFrom {E : u_E} {l : Launch} {o : u_O} {p1 : u_O} (ho : is_Entry o) (i_p1 : is_Entry p1) {s s' : u_S} {r : Int} (h : f_X2_copyFrom o p1 s = some (r, s')) : Con l (XE E) yX2_copyFrom cX2_copyFrom 2 none 1 25 0 0 [.ref (E.1 o), .ref (E.1 p1)] (Wd E s) (RV E r s') := by
  refine Con.of [some (.ref (E.1 o)), some (.ref (E.1 p1))] (by decide +kernel) rfl rfl (Nat.le_of_ble_eq_true rfl) (fun K g => ?_)
  have g0 := g.wk
  unfold f_X2_copyFrom at h
  refine r_aload_n g0 dX2_copyFrom_0 rfl ?_
  refine r_aload_n g0 dX2_copyFrom_1 rfl ?_
  refine g_Entry_line g0 i_p1 qX2_7 dX2_copyFrom_2 ?_
  refine r_aload_n g0 dX2_copyFrom_5 rfl ?_
  refine g_Entry_form g0 i_p1 qX2_13 dX2_copyFrom_6 ?_
  refine r_aload_n g0 dX2_copyFrom_9 rfl ?_
  refine g_Entry_move g0 i_p1 qX2_16 dX2_copyFrom_10 ?_
  refine r_aload_n g0 dX2_copyFrom_13 rfl ?_
  refine g_Entry_start g0 i_p1 qX2_19 dX2_copyFrom_14 ?_
  refine r_aload_n g0 dX2_copyFrom_17 rfl ?_
  refine g_Entry_voice g0 i_p1 qX2_22 dX2_copyFrom_18 ?_
  obtain ⟨r_1, s_1, hr_1, h⟩ := bd_some h
  refine r_cVV g0 (rest := []) (c_X2_be ho (InR_rd _ _ _) (InR_rd _ _ _) (InR_rd _ _ _) (InR_rd _ _ _) (InR_rd _ _ _) hr_1) ok_X2_be mX2_25 (recv_Entry ho) dX2_copyFrom_21 ⟨Nat.le_of_ble_eq_true rfl, Nat.le_of_ble_eq_true rfl⟩ ⟨Nat.zero_le _, Nat.zero_le _⟩ rfl (Nat.le_of_ble_eq_true rfl) rfl ?_
  exact z_V g dX2_copyFrom_24 h
theorem dX1_copyFrom_0 : decode cX1_copyFrom 0 = .ok (.iconst 0, 1) := by decide +kernel
theorem dX1_copyFrom_1 : decode cX1_copyFrom 1 = .ok (.istore_n 2, 1) := by decide +kernel
theorem dX1_copyFrom_2 : decode cX1_copyFrom 2 = .ok (.iload_n 2, 1) := by decide +kernel
theorem dX1_copyFrom_3 : decode cX1_copyFrom 3 = .ok (.bipush 10, 2) := by decide +kernel
theorem dX1_copyFrom_5 : decode cX1_copyFrom 5 = .ok (.if_icmp .ge 24, 3) := by decide +kernel
theorem dX1_copyFrom_8 : decode cX1_copyFrom 8 = .ok (.aload_n 0, 1) := by decide +kernel
theorem dX1_copyFrom_9 : decode cX1_copyFrom 9 = .ok (.getfield 11, 3) := by decide +kernel
theorem dX1_copyFrom_12 : decode cX1_copyFrom 12 = .ok (.iload_n 2, 1) := by decide +kernel
theorem dX1_copyFrom_13 : decode cX1_copyFrom 13 = .ok (.aaload, 1) := by decide +kernel
theorem dX1_copyFrom_14 : decode cX1_copyFrom 14 = .ok (.aload_n 1, 1) := by decide +kernel
theorem dX1_copyFrom_15 : decode cX1_copyFrom 15 = .ok (.getfield 11, 3) := by decide +kernel
theorem dX1_copyFrom_18 : decode cX1_copyFrom 18 = .ok (.iload_n 2, 1) := by decide +kernel
theorem dX1_copyFrom_19 : decode cX1_copyFrom 19 = .ok (.aaload, 1) := by decide +kernel
theorem dX1_copyFrom_20 : decode cX1_copyFrom 20 = .ok (.invokevirtual 18, 3) := by decide +kernel
theorem dX1_copyFrom_23 : decode cX1_copyFrom 23 = .ok (.iinc 2 1, 3) := by decide +kernel
theorem dX1_copyFrom_26 : decode cX1_copyFrom 26 = .ok (.goto (-24), 3) := by decide +kernel
theorem dX1_copyFrom_29 : decode cX1_copyFrom 29 = .ok (.aload_n 0, 1) := by decide +kernel
theorem dX1_copyFrom_30 : decode cX1_copyFrom 30 = .ok (.aload_n 1, 1) := by decide +kernel
theorem dX1_copyFrom_31 : decode cX1_copyFrom 31 = .ok (.getfield 22, 3) := by decide +kernel
theorem dX1_copyFrom_34 : decode cX1_copyFrom 34 = .ok (.putfield 22, 3) := by decide +kernel
theorem dX1_copyFrom_37 : decode cX1_copyFrom 37 = .ok (.return_, 1) := by decide +kernel
set_option maxHeartbeats 4000000 in
set_option maxRecDepth 100000 in
theorem t_X1_copyFrom_L2 {l : Launch} {E : u_E} {K : u_K} {r : Int} {s' : u_S} (g : Wk l (XE E) { frames := 2, cells := 0, slots := 0, locals := 46 } cX1_copyFrom 3 yX1_copyFrom.cls yX1_copyFrom.name none (RV E r s') K) {v0_1 : u_O} {v1_1 : u_O} (i_v0_1 : is_Entries v0_1) (i_v1_1 : is_Entries v1_1) {kx29 : u_S → Option (Int × u_S)} (hkx29 : ∀ (s_4 : u_S), kx29 s_4 = some (r, s') → K 0 0 29 [some (.ref (E.1 v0_1)), some (.ref (E.1 v1_1)), none] [] (Wd E s_4)) : ∀ (m : Nat) (v2_1 : Int) (s_2 : u_S), InR v2_1 → f_X1_copyFrom_L2 m kx29 v0_1 v1_1 v2_1 s_2 = some (r, s') → K 0 0 2 [some (.ref (E.1 v0_1)), some (.ref (E.1 v1_1)), some (.int (J v2_1))] [] (Wd E s_2) := by
  have g0 := g.wk
  intro m
  induction m with
  | zero =>
    intro v2_1 s_2 i_v2_1 h
    exact absurd (show (none : Option (Int × u_S)) = some (r, s') from h) (by intro z; cases z)
  | succ m ih =>
    intro v2_1 s_2 i_v2_1 h
    rw [f_X1_copyFrom_L2] at h
    refine r_iload_n g0 dX1_copyFrom_2 rfl ?_
    refine r_bipush g0 dX1_copyFrom_3 rfl ?_
    refine r_icmp_ge g0 29 dX1_copyFrom_5 (by decide) i_v2_1 (InR_lit rfl) (fun hc => ?_) (fun hc => ?_)
    · replace h := if_f hc h
      refine r_mask g0 (lv' := [some (.ref (E.1 v0_1)), some (.ref (E.1 v1_1)), none]) [true, true, false] rfl ?_
      exact hkx29 s_2 h
    · replace h := if_t hc h
      refine r_aload_n g0 dX1_copyFrom_8 rfl ?_
      refine g_Entries_items g0 i_v0_1 qX1_11 dX1_copyFrom_9 ?_
      refine r_iload_n g0 dX1_copyFrom_12 rfl ?_
      obtain ⟨hb, h⟩ := gd_some h
      refine r_aald_Entry g0 (is_a_Entries_items i_v0_1) i_v2_1 hb dX1_copyFrom_13 ?_
      refine r_aload_n g0 dX1_copyFrom_14 rfl ?_
      refine g_Entries_items g0 i_v1_1 qX1_11 dX1_copyFrom_15 ?_
      refine r_iload_n g0 dX1_copyFrom_18 rfl ?_
      obtain ⟨hb_2, h⟩ := gd_some h
      refine r_aald_Entry g0 (is_a_Entries_items i_v1_1) i_v2_1 hb_2 dX1_copyFrom_19 ?_
      obtain ⟨r_1, s_3, hr_1, h⟩ := bd_some h
      refine r_cVV g0 (rest := []) (c_X2_copyFrom (is_e_Entry (is_a_Entries_items i_v0_1) hb) (is_e_Entry (is_a_Entries_items i_v1_1) hb_2) hr_1) ok_X2_copyFrom mX1_18 (recv_Entry (is_e_Entry (is_a_Entries_items i_v0_1) hb)) dX1_copyFrom_20 ⟨Nat.le_of_ble_eq_true rfl, Nat.le_of_ble_eq_true rfl⟩ ⟨Nat.zero_le _, Nat.zero_le _⟩ rfl (Nat.le_of_ble_eq_true rfl) rfl ?_
      refine r_iinc g0 (a := v2_1) (lv' := [some (.ref (E.1 v0_1)), some (.ref (E.1 v1_1)), some (.int (J (wr (v2_1 + 1))))]) dX1_copyFrom_23 (by decide) rfl rfl rfl ?_
      refine r_goto g0 2 dX1_copyFrom_26 (by decide) ?_
      exact ih (wr (v2_1 + 1)) s_3 (InR_wr _) h
set_option maxHeartbeats 4000000 in
set_option maxRecDepth 100000 in
theorem c_X1_copyFrom {E : u_E} {l : Launch} {o : u_O} {p1 : u_O} (ho : is_Entries o) (i_p1 : is_Entries p1) {s s' : u_S} {r : Int} (h : f_X1_copyFrom o p1 s = some (r, s')) : Con l (XE E) yX1_copyFrom cX1_copyFrom 3 none 2 46 0 0 [.ref (E.1 o), .ref (E.1 p1)] (Wd E s) (RV E r s') := by
  refine Con.of [some (.ref (E.1 o)), some (.ref (E.1 p1)), none] (by decide +kernel) rfl rfl (Nat.le_of_ble_eq_true rfl) (fun K g => ?_)
  have g0 := g.wk
  unfold f_X1_copyFrom at h
  refine r_iconst g0 dX1_copyFrom_0 ?_
  refine r_istore_n g0 (lv' := [some (.ref (E.1 o)), some (.ref (E.1 p1)), some (.int (J 0))]) dX1_copyFrom_1 (by decide) rfl rfl ?_
  refine t_X1_copyFrom_L2 g ho i_p1 ?_ FU 0 s (B01.inR B01_0) h
  · intro s_1 h
    refine r_aload_n g0 dX1_copyFrom_29 rfl ?_
    refine r_aload_n g0 dX1_copyFrom_30 rfl ?_
    refine g_Entries_count g0 i_p1 qX1_22 dX1_copyFrom_31 ?_
    refine p_Entries_count g0 ho qX1_22 dX1_copyFrom_34 ?_
    exact z_V g dX1_copyFrom_37 h
theorem dX1_has_0 : decode cX1_has 0 = .ok (.iload_n 1, 1) := by decide +kernel
theorem dX1_has_1 : decode cX1_has 1 = .ok (.ifCond .lt 24, 3) := by decide +kernel
theorem dX1_has_4 : decode cX1_has 4 = .ok (.iload_n 1, 1) := by decide +kernel
theorem dX1_has_5 : decode cX1_has 5 = .ok (.aload_n 0, 1) := by decide +kernel
theorem dX1_has_6 : decode cX1_has 6 = .ok (.getfield 22, 3) := by decide +kernel
theorem dX1_has_9 : decode cX1_has 9 = .ok (.if_icmp .ge 16, 3) := by decide +kernel
theorem dX1_has_12 : decode cX1_has 12 = .ok (.aload_n 0, 1) := by decide +kernel
theorem dX1_has_13 : decode cX1_has 13 = .ok (.getfield 22, 3) := by decide +kernel
theorem dX1_has_16 : decode cX1_has 16 = .ok (.bipush 10, 2) := by decide +kernel
theorem dX1_has_18 : decode cX1_has 18 = .ok (.if_icmp .gt 7, 3) := by decide +kernel
theorem dX1_has_21 : decode cX1_has 21 = .ok (.iconst 1, 1) := by decide +kernel
theorem dX1_has_22 : decode cX1_has 22 = .ok (.goto 4, 3) := by decide +kernel
theorem dX1_has_25 : decode cX1_has 25 = .ok (.iconst 0, 1) := by decide +kernel
theorem dX1_has_26 : decode cX1_has 26 = .ok (.ireturn, 1) := by decide +kernel
set_option maxHeartbeats 4000000 in
set_option maxRecDepth 100000 in
theorem c_X1_has {E : u_E} {l : Launch} {o : u_O} {p1 : Int} (ho : is_Entries o) (i_p1 : InR p1) {s s' : u_S} {r : Int} (h : f_X1_has o p1 s = some (r, s')) : Con l (XE E) yX1_has cX1_has 2 (some .boolean) 0 0 0 0 [.ref (E.1 o), .int (J p1)] (Wd E s) (RZ E r s') := by
  refine Con.of [some (.ref (E.1 o)), some (.int (J p1))] (by decide +kernel) rfl rfl (Nat.le_of_ble_eq_true rfl) (fun K g => ?_)
  have g0 := g.wk
  unfold f_X1_has at h
  refine r_iload_n g0 dX1_has_0 rfl ?_
  refine r_if_lt g0 25 dX1_has_1 (by decide) i_p1 (fun hc => ?_) (fun hc => ?_)
  · replace h := if_t hc h
    refine r_iconst g0 dX1_has_25 ?_
    exact z_Z g dX1_has_26 B01_0 h
  · replace h := if_f hc h
    refine r_iload_n g0 dX1_has_4 rfl ?_
    refine r_aload_n g0 dX1_has_5 rfl ?_
    refine g_Entries_count g0 ho qX1_22 dX1_has_6 ?_
    refine r_icmp_ge g0 25 dX1_has_9 (by decide) i_p1 (InR_rd _ _ _) (fun hc => ?_) (fun hc => ?_)
    · replace h := if_f hc h
      refine r_iconst g0 dX1_has_25 ?_
      exact z_Z g dX1_has_26 B01_0 h
    · replace h := if_t hc h
      refine r_aload_n g0 dX1_has_12 rfl ?_
      refine g_Entries_count g0 ho qX1_22 dX1_has_13 ?_
      refine r_bipush g0 dX1_has_16 rfl ?_
      refine r_icmp_gt g0 25 dX1_has_18 (by decide) (InR_rd _ _ _) (InR_lit rfl) (fun hc => ?_) (fun hc => ?_)
      · replace h := if_f hc h
        refine r_iconst g0 dX1_has_25 ?_
        exact z_Z g dX1_has_26 B01_0 h
      · replace h := if_t hc h
        refine r_iconst g0 dX1_has_21 ?_
        refine r_goto g0 26 dX1_has_22 (by decide) ?_
        exact z_Z g dX1_has_26 B01_1 h
theorem dX1_isFull_0 : decode cX1_isFull 0 = .ok (.aload_n 0, 1) := by decide +kernel
theorem dX1_isFull_1 : decode cX1_isFull 1 = .ok (.getfield 22, 3) := by decide +kernel
theorem dX1_isFull_4 : decode cX1_isFull 4 = .ok (.bipush 10, 2) := by decide +kernel
theorem dX1_isFull_6 : decode cX1_isFull 6 = .ok (.if_icmp .lt 7, 3) := by decide +kernel
theorem dX1_isFull_9 : decode cX1_isFull 9 = .ok (.iconst 1, 1) := by decide +kernel
theorem dX1_isFull_10 : decode cX1_isFull 10 = .ok (.goto 4, 3) := by decide +kernel
theorem dX1_isFull_13 : decode cX1_isFull 13 = .ok (.iconst 0, 1) := by decide +kernel
theorem dX1_isFull_14 : decode cX1_isFull 14 = .ok (.ireturn, 1) := by decide +kernel
set_option maxHeartbeats 4000000 in
set_option maxRecDepth 100000 in
theorem c_X1_isFull {E : u_E} {l : Launch} {o : u_O} (ho : is_Entries o) {s s' : u_S} {r : Int} (h : f_X1_isFull o s = some (r, s')) : Con l (XE E) yX1_isFull cX1_isFull 1 (some .boolean) 0 0 0 0 [.ref (E.1 o)] (Wd E s) (RZ E r s') := by
  refine Con.of [some (.ref (E.1 o))] (by decide +kernel) rfl rfl (Nat.le_of_ble_eq_true rfl) (fun K g => ?_)
  have g0 := g.wk
  unfold f_X1_isFull at h
  refine r_aload_n g0 dX1_isFull_0 rfl ?_
  refine g_Entries_count g0 ho qX1_22 dX1_isFull_1 ?_
  refine r_bipush g0 dX1_isFull_4 rfl ?_
  refine r_icmp_lt g0 13 dX1_isFull_6 (by decide) (InR_rd _ _ _) (InR_lit rfl) (fun hc => ?_) (fun hc => ?_)
  · replace h := if_t hc h
    refine r_iconst g0 dX1_isFull_13 ?_
    exact z_Z g dX1_isFull_14 B01_0 h
  · replace h := if_f hc h
    refine r_iconst g0 dX1_isFull_9 ?_
    refine r_goto g0 14 dX1_isFull_10 (by decide) ?_
    exact z_Z g dX1_isFull_14 B01_1 h
theorem dX1_having_0 : decode cX1_having 0 = .ok (.iconst 0, 1) := by decide +kernel
theorem dX1_having_1 : decode cX1_having 1 = .ok (.istore_n 2, 1) := by decide +kernel
theorem dX1_having_2 : decode cX1_having 2 = .ok (.iconst 0, 1) := by decide +kernel
theorem dX1_having_3 : decode cX1_having 3 = .ok (.istore_n 3, 1) := by decide +kernel
theorem dX1_having_4 : decode cX1_having 4 = .ok (.iload_n 3, 1) := by decide +kernel
theorem dX1_having_5 : decode cX1_having 5 = .ok (.aload_n 0, 1) := by decide +kernel
theorem dX1_having_6 : decode cX1_having 6 = .ok (.getfield 22, 3) := by decide +kernel
theorem dX1_having_9 : decode cX1_having 9 = .ok (.if_icmp .ge 25, 3) := by decide +kernel
theorem dX1_having_12 : decode cX1_having 12 = .ok (.aload_n 0, 1) := by decide +kernel
theorem dX1_having_13 : decode cX1_having 13 = .ok (.getfield 11, 3) := by decide +kernel
theorem dX1_having_16 : decode cX1_having 16 = .ok (.iload_n 3, 1) := by decide +kernel
theorem dX1_having_17 : decode cX1_having 17 = .ok (.aaload, 1) := by decide +kernel
theorem dX1_having_18 : decode cX1_having 18 = .ok (.getfield 26, 3) := by decide +kernel
theorem dX1_having_21 : decode cX1_having 21 = .ok (.iload_n 1, 1) := by decide +kernel
theorem dX1_having_22 : decode cX1_having 22 = .ok (.if_icmp .ne 6, 3) := by decide +kernel
theorem dX1_having_25 : decode cX1_having 25 = .ok (.iinc 2 1, 3) := by decide +kernel
theorem dX1_having_28 : decode cX1_having 28 = .ok (.iinc 3 1, 3) := by decide +kernel
theorem dX1_having_31 : decode cX1_having 31 = .ok (.goto (-27), 3) := by decide +kernel
theorem dX1_having_34 : decode cX1_having 34 = .ok (.iload_n 2, 1) := by decide +kernel
theorem dX1_having_35 : decode cX1_having 35 = .ok (.ireturn, 1) := by decide +kernel
set_option maxHeartbeats 4000000 in
set_option maxRecDepth 100000 in
theorem t_X1_having_L4 {l : Launch} {E : u_E} {K : u_K} {r : Int} {s' : u_S} (g : Wk l (XE E) { frames := 0, cells := 0, slots := 0, locals := 0 } cX1_having 4 yX1_having.cls yX1_having.name (some .int) (RI E r s') K) {v0_1 : u_O} {v1_1 : Int} (i_v0_1 : is_Entries v0_1) (i_v1_1 : InR v1_1) {kx34 : Int → u_S → Option (Int × u_S)} (hkx34 : ∀ (v2_4 : Int) (s_4 : u_S), InR v2_4 → kx34 v2_4 s_4 = some (r, s') → K 0 0 34 [none, none, some (.int (J v2_4)), none] [] (Wd E s_4)) : ∀ (m : Nat) (v2_2 : Int) (v3_1 : Int) (s_2 : u_S), InR v2_2 → InR v3_1 → f_X1_having_L4 m kx34 v0_1 v1_1 v2_2 v3_1 s_2 = some (r, s') → K 0 0 4 [some (.ref (E.1 v0_1)), some (.int (J v1_1)), some (.int (J v2_2)), some (.int (J v3_1))] [] (Wd E s_2) := by
  have g0 := g.wk
  intro m
  induction m with
  | zero =>
    intro v2_2 v3_1 s_2 i_v2_2 i_v3_1 h
    exact absurd (show (none : Option (Int × u_S)) = some (r, s') from h) (by intro z; cases z)
  | succ m ih =>
    intro v2_2 v3_1 s_2 i_v2_2 i_v3_1 h
    rw [f_X1_having_L4] at h
    refine r_iload_n g0 dX1_having_4 rfl ?_
    refine r_aload_n g0 dX1_having_5 rfl ?_
    refine g_Entries_count g0 i_v0_1 qX1_22 dX1_having_6 ?_
    refine r_icmp_ge g0 34 dX1_having_9 (by decide) i_v3_1 (InR_rd _ _ _) (fun hc => ?_) (fun hc => ?_)
    · replace h := if_f hc h
      refine r_mask g0 (lv' := [none, none, some (.int (J v2_2)), none]) [false, false, true, false] rfl ?_
      exact hkx34 v2_2 s_2 i_v2_2 h
    · replace h := if_t hc h
      refine r_aload_n g0 dX1_having_12 rfl ?_
      refine g_Entries_items g0 i_v0_1 qX1_11 dX1_having_13 ?_
      refine r_iload_n g0 dX1_having_16 rfl ?_
      obtain ⟨hb, h⟩ := gd_some h
      refine r_aald_Entry g0 (is_a_Entries_items i_v0_1) i_v3_1 hb dX1_having_17 ?_
      refine g_Entry_line g0 (is_e_Entry (is_a_Entries_items i_v0_1) hb) qX1_26 dX1_having_18 ?_
      refine r_iload_n g0 dX1_having_21 rfl ?_
      obtain ⟨jp_1, hdjp_1, h⟩ := jn_some h
      have hjp_1 : ∀ (v2_3 : Int) (s_3 : u_S), InR v2_3 → jp_1 v2_3 s_3 = some (r, s') → K 0 0 28 [some (.ref (E.1 v0_1)), some (.int (J v1_1)), some (.int (J v2_3)), some (.int (J v3_1))] [] (Wd E s_3) := by
        intro v2_3 s_3 i_v2_3 h
        subst hdjp_1
        refine r_iinc g0 (a := v3_1) (lv' := [some (.ref (E.1 v0_1)), some (.int (J v1_1)), some (.int (J v2_3)), some (.int (J (wr (v3_1 + 1))))]) dX1_having_28 (by decide) rfl rfl rfl ?_
        refine r_goto g0 4 dX1_having_31 (by decide) ?_
        exact ih v2_3 (wr (v3_1 + 1)) s_3 i_v2_3 (InR_wr _) h
      clear hdjp_1
      refine r_icmp_ne g0 28 dX1_having_22 (by decide) (InR_rd _ _ _) i_v1_1 (fun hc => ?_) (fun hc => ?_)
      · replace h := if_f hc h
        exact hjp_1 v2_2 s_2 i_v2_2 h
      · replace h := if_t hc h
        refine r_iinc g0 (a := v2_2) (lv' := [some (.ref (E.1 v0_1)), some (.int (J v1_1)), some (.int (J (wr (v2_2 + 1)))), some (.int (J v3_1))]) dX1_having_25 (by decide) rfl rfl rfl ?_
        exact hjp_1 (wr (v2_2 + 1)) s_2 (InR_wr _) h
set_option maxHeartbeats 4000000 in
set_option maxRecDepth 100000 in
theorem c_X1_having {E : u_E} {l : Launch} {o : u_O} {p1 : Int} (ho : is_Entries o) (i_p1 : InR p1) {s s' : u_S} {r : Int} (h : f_X1_having o p1 s = some (r, s')) : Con l (XE E) yX1_having cX1_having 4 (some .int) 0 0 0 0 [.ref (E.1 o), .int (J p1)] (Wd E s) (RI E r s') := by
  refine Con.of [some (.ref (E.1 o)), some (.int (J p1)), none, none] (by decide +kernel) rfl rfl (Nat.le_of_ble_eq_true rfl) (fun K g => ?_)
  have g0 := g.wk
  unfold f_X1_having at h
  refine r_iconst g0 dX1_having_0 ?_
  refine r_istore_n g0 (lv' := [some (.ref (E.1 o)), some (.int (J p1)), some (.int (J 0)), none]) dX1_having_1 (by decide) rfl rfl ?_
  refine r_iconst g0 dX1_having_2 ?_
  refine r_istore_n g0 (lv' := [some (.ref (E.1 o)), some (.int (J p1)), some (.int (J 0)), some (.int (J 0))]) dX1_having_3 (by decide) rfl rfl ?_
  refine t_X1_having_L4 g ho i_p1 ?_ FU 0 0 s (B01.inR B01_0) (B01.inR B01_0) h
  · intro v2_1 s_1 i_v2_1 h
    refine r_iload_n g0 dX1_having_34 rfl ?_
    exact z_I g dX1_having_35 i_v2_1 h
theorem dX1_append_0 : decode cX1_append 0 = .ok (.aload_n 0, 1) := by decide +kernel
theorem dX1_append_1 : decode cX1_append 1 = .ok (.invokevirtual 29, 3) := by decide +kernel
theorem dX1_append_4 : decode cX1_append 4 = .ok (.ifCond .eq 4, 3) := by decide +kernel
theorem dX1_append_7 : decode cX1_append 7 = .ok (.return_, 1) := by decide +kernel
theorem dX1_append_8 : decode cX1_append 8 = .ok (.aload_n 0, 1) := by decide +kernel
theorem dX1_append_9 : decode cX1_append 9 = .ok (.getfield 11, 3) := by decide +kernel
theorem dX1_append_12 : decode cX1_append 12 = .ok (.aload_n 0, 1) := by decide +kernel
theorem dX1_append_13 : decode cX1_append 13 = .ok (.getfield 22, 3) := by decide +kernel
theorem dX1_append_16 : decode cX1_append 16 = .ok (.aaload, 1) := by decide +kernel
theorem dX1_append_17 : decode cX1_append 17 = .ok (.iload_n 1, 1) := by decide +kernel
theorem dX1_append_18 : decode cX1_append 18 = .ok (.iload_n 2, 1) := by decide +kernel
theorem dX1_append_19 : decode cX1_append 19 = .ok (.iload_n 3, 1) := by decide +kernel
theorem dX1_append_20 : decode cX1_append 20 = .ok (.iload 4, 2) := by decide +kernel
theorem dX1_append_22 : decode cX1_append 22 = .ok (.iload 5, 2) := by decide +kernel
theorem dX1_append_24 : decode cX1_append 24 = .ok (.invokevirtual 33, 3) := by decide +kernel
theorem dX1_append_27 : decode cX1_append 27 = .ok (.aload_n 0, 1) := by decide +kernel
theorem dX1_append_28 : decode cX1_append 28 = .ok (.dup, 1) := by decide +kernel
theorem dX1_append_29 : decode cX1_append 29 = .ok (.getfield 22, 3) := by decide +kernel
theorem dX1_append_32 : decode cX1_append 32 = .ok (.iconst 1, 1) := by decide +kernel
theorem dX1_append_33 : decode cX1_append 33 = .ok (.iadd, 1) := by decide +kernel
theorem dX1_append_34 : decode cX1_append 34 = .ok (.putfield 22, 3) := by decide +kernel
theorem dX1_append_37 : decode cX1_append 37 = .ok (.return_, 1) := by decide +kernel
set_option maxHeartbeats 4000000 in
set_option maxRecDepth 100000 in
theorem c_X1_append {E : u_E} {l : Launch} {o : u_O} {p1 : Int} {p2 : Int} {p3 : Int} {p4 : Int} {p5 : Int} (ho : is_Entries o) (i_p1 : InR p1) (i_p2 : InR p2) (i_p3 : InR p3) (i_p4 : InR p4) (i_p5 : InR p5) {s s' : u_S} {r : Int} (h : f_X1_append o p1 p2 p3 p4 p5 s = some (r, s')) : Con l (XE E) yX1_append cX1_append 6 none 1 25 0 0 [.ref (E.1 o), .int (J p1), .int (J p2), .int (J p3), .int (J p4), .int (J p5)] (Wd E s) (RV E r s') := by
  refine Con.of [some (.ref (E.1 o)), some (.int (J p1)), some (.int (J p2)), some (.int (J p3)), some (.int (J p4)), some (.int (J p5))] (by decide +kernel) rfl rfl (Nat.le_of_ble_eq_true rfl) (fun K g => ?_)
  have g0 := g.wk
  unfold f_X1_append at h
  refine r_aload_n g0 dX1_append_0 rfl ?_
  obtain ⟨r_1, s_1, hr_1, h⟩ := bd_some h
  refine r_cVZ g0 (rest := []) (c_X1_isFull ho hr_1) ok_X1_isFull mX1_29 (recv_Entries ho) dX1_append_1 ⟨Nat.le_of_ble_eq_true rfl, Nat.le_of_ble_eq_true rfl⟩ ⟨Nat.zero_le _, Nat.zero_le _⟩ rfl (Nat.le_of_ble_eq_true rfl) rfl (fun i_r_1 => ?_)
  refine r_if_eq g0 8 dX1_append_4 (by decide) (B01.inR i_r_1) (fun hc => ?_) (fun hc => ?_)
  · replace h := if_t hc h
    refine r_aload_n g0 dX1_append_8 rfl ?_
    refine g_Entries_items g0 ho qX1_11 dX1_append_9 ?_
    refine r_aload_n g0 dX1_append_12 rfl ?_
    refine g_Entries_count g0 ho qX1_22 dX1_append_13 ?_
    obtain ⟨hb, h⟩ := gd_some h
    refine r_aald_Entry g0 (is_a_Entries_items ho) (InR_rd _ _ _) hb dX1_append_16 ?_
    refine r_iload_n g0 dX1_append_17 rfl ?_
    refine r_iload_n g0 dX1_append_18 rfl ?_
    refine r_iload_n g0 dX1_append_19 rfl ?_
    refine r_iload g0 dX1_append_20 rfl ?_
    refine r_iload g0 dX1_append_22 rfl ?_
    obtain ⟨r_2, s_2, hr_2, h⟩ := bd_some h
    refine r_cVV g0 (rest := []) (c_X2_be (is_e_Entry (is_a_Entries_items ho) hb) i_p1 i_p2 i_p3 i_p4 i_p5 hr_2) ok_X2_be mX1_33 (recv_Entry (is_e_Entry (is_a_Entries_items ho) hb)) dX1_append_24 ⟨Nat.le_of_ble_eq_true rfl, Nat.le_of_ble_eq_true rfl⟩ ⟨Nat.zero_le _, Nat.zero_le _⟩ rfl (Nat.le_of_ble_eq_true rfl) rfl ?_
    refine r_aload_n g0 dX1_append_27 rfl ?_
    refine r_dup g0 dX1_append_28 rfl ?_
    refine g_Entries_count g0 ho qX1_22 dX1_append_29 ?_
    refine r_iconst g0 dX1_append_32 ?_
    refine r_iadd g0 dX1_append_33 ?_
    refine p_Entries_count g0 ho qX1_22 dX1_append_34 ?_
    exact z_V g dX1_append_37 h
  · replace h := if_f hc h
    exact z_V g dX1_append_7 h
theorem dX1_remove_0 : decode cX1_remove 0 = .ok (.aload_n 0, 1) := by decide +kernel
theorem dX1_remove_1 : decode cX1_remove 1 = .ok (.iload_n 1, 1) := by decide +kernel
theorem dX1_remove_2 : decode cX1_remove 2 = .ok (.invokevirtual 37, 3) := by decide +kernel
theorem dX1_remove_5 : decode cX1_remove 5 = .ok (.ifCond .ne 4, 3) := by decide +kernel
theorem dX1_remove_8 : decode cX1_remove 8 = .ok (.return_, 1) := by decide +kernel
theorem dX1_remove_9 : decode cX1_remove 9 = .ok (.iload_n 1, 1) := by decide +kernel
theorem dX1_remove_10 : decode cX1_remove 10 = .ok (.iconst 1, 1) := by decide +kernel
theorem dX1_remove_11 : decode cX1_remove 11 = .ok (.iadd, 1) := by decide +kernel
theorem dX1_remove_12 : decode cX1_remove 12 = .ok (.istore_n 2, 1) := by decide +kernel
theorem dX1_remove_13 : decode cX1_remove 13 = .ok (.iload_n 2, 1) := by decide +kernel
theorem dX1_remove_14 : decode cX1_remove 14 = .ok (.aload_n 0, 1) := by decide +kernel
theorem dX1_remove_15 : decode cX1_remove 15 = .ok (.getfield 22, 3) := by decide +kernel
theorem dX1_remove_18 : decode cX1_remove 18 = .ok (.if_icmp .ge 26, 3) := by decide +kernel
theorem dX1_remove_21 : decode cX1_remove 21 = .ok (.aload_n 0, 1) := by decide +kernel
theorem dX1_remove_22 : decode cX1_remove 22 = .ok (.getfield 11, 3) := by decide +kernel
theorem dX1_remove_25 : decode cX1_remove 25 = .ok (.iload_n 2, 1) := by decide +kernel
theorem dX1_remove_26 : decode cX1_remove 26 = .ok (.iconst 1, 1) := by decide +kernel
theorem dX1_remove_27 : decode cX1_remove 27 = .ok (.isub, 1) := by decide +kernel
theorem dX1_remove_28 : decode cX1_remove 28 = .ok (.aaload, 1) := by decide +kernel
theorem dX1_remove_29 : decode cX1_remove 29 = .ok (.aload_n 0, 1) := by decide +kernel
theorem dX1_remove_30 : decode cX1_remove 30 = .ok (.getfield 11, 3) := by decide +kernel
theorem dX1_remove_33 : decode cX1_remove 33 = .ok (.iload_n 2, 1) := by decide +kernel
theorem dX1_remove_34 : decode cX1_remove 34 = .ok (.aaload, 1) := by decide +kernel
theorem dX1_remove_35 : decode cX1_remove 35 = .ok (.invokevirtual 18, 3) := by decide +kernel
theorem dX1_remove_38 : decode cX1_remove 38 = .ok (.iinc 2 1, 3) := by decide +kernel
theorem dX1_remove_41 : decode cX1_remove 41 = .ok (.goto (-28), 3) := by decide +kernel
theorem dX1_remove_44 : decode cX1_remove 44 = .ok (.aload_n 0, 1) := by decide +kernel
theorem dX1_remove_45 : decode cX1_remove 45 = .ok (.dup, 1) := by decide +kernel
theorem dX1_remove_46 : decode cX1_remove 46 = .ok (.getfield 22, 3) := by decide +kernel
theorem dX1_remove_49 : decode cX1_remove 49 = .ok (.iconst 1, 1) := by decide +kernel
theorem dX1_remove_50 : decode cX1_remove 50 = .ok (.isub, 1) := by decide +kernel
theorem dX1_remove_51 : decode cX1_remove 51 = .ok (.putfield 22, 3) := by decide +kernel
theorem dX1_remove_54 : decode cX1_remove 54 = .ok (.return_, 1) := by decide +kernel
set_option maxHeartbeats 4000000 in
set_option maxRecDepth 100000 in
theorem t_X1_remove_L13 {l : Launch} {E : u_E} {K : u_K} {r : Int} {s' : u_S} (g : Wk l (XE E) { frames := 2, cells := 0, slots := 0, locals := 46 } cX1_remove 3 yX1_remove.cls yX1_remove.name none (RV E r s') K) {v0_1 : u_O} (i_v0_1 : is_Entries v0_1) {kx44 : u_S → Option (Int × u_S)} (hkx44 : ∀ (s_5 : u_S), kx44 s_5 = some (r, s') → K 0 0 44 [some (.ref (E.1 v0_1)), none, none] [] (Wd E s_5)) : ∀ (m : Nat) (v2_1 : Int) (s_3 : u_S), InR v2_1 → f_X1_remove_L13 m kx44 v0_1 v2_1 s_3 = some (r, s') → K 0 0 13 [some (.ref (E.1 v0_1)), none, some (.int (J v2_1))] [] (Wd E s_3) := by
  have g0 := g.wk
  intro m
  induction m with
  | zero =>
    intro v2_1 s_3 i_v2_1 h
    exact absurd (show (none : Option (Int × u_S)) = some (r, s') from h) (by intro z; cases z)
  | succ m ih =>
    intro v2_1 s_3 i_v2_1 h
    rw [f_X1_remove_L13] at h
    refine r_iload_n g0 dX1_remove_13 rfl ?_
    refine r_aload_n g0 dX1_remove_14 rfl ?_
    refine g_Entries_count g0 i_v0_1 qX1_22 dX1_remove_15 ?_
    refine r_icmp_ge g0 44 dX1_remove_18 (by decide) i_v2_1 (InR_rd _ _ _) (fun hc => ?_) (fun hc => ?_)
    · replace h := if_f hc h
      refine r_mask g0 (lv' := [some (.ref (E.1 v0_1)), none, none]) [true, false, false] rfl ?_
      exact hkx44 s_3 h
    · replace h := if_t hc h
      refine r_aload_n g0 dX1_remove_21 rfl ?_
      refine g_Entries_items g0 i_v0_1 qX1_11 dX1_remove_22 ?_
      refine r_iload_n g0 dX1_remove_25 rfl ?_
      refine r_iconst g0 dX1_remove_26 ?_
      refine r_isub g0 dX1_remove_27 ?_
      obtain ⟨hb, h⟩ := gd_some h
      refine r_aald_Entry g0 (is_a_Entries_items i_v0_1) (InR_wr _) hb dX1_remove_28 ?_
      refine r_aload_n g0 dX1_remove_29 rfl ?_
      refine g_Entries_items g0 i_v0_1 qX1_11 dX1_remove_30 ?_
      refine r_iload_n g0 dX1_remove_33 rfl ?_
      obtain ⟨hb_2, h⟩ := gd_some h
      refine r_aald_Entry g0 (is_a_Entries_items i_v0_1) i_v2_1 hb_2 dX1_remove_34 ?_
      obtain ⟨r_2, s_4, hr_2, h⟩ := bd_some h
      refine r_cVV g0 (rest := []) (c_X2_copyFrom (is_e_Entry (is_a_Entries_items i_v0_1) hb) (is_e_Entry (is_a_Entries_items i_v0_1) hb_2) hr_2) ok_X2_copyFrom mX1_18 (recv_Entry (is_e_Entry (is_a_Entries_items i_v0_1) hb)) dX1_remove_35 ⟨Nat.le_of_ble_eq_true rfl, Nat.le_of_ble_eq_true rfl⟩ ⟨Nat.zero_le _, Nat.zero_le _⟩ rfl (Nat.le_of_ble_eq_true rfl) rfl ?_
      refine r_iinc g0 (a := v2_1) (lv' := [some (.ref (E.1 v0_1)), none, some (.int (J (wr (v2_1 + 1))))]) dX1_remove_38 (by decide) rfl rfl rfl ?_
      refine r_goto g0 13 dX1_remove_41 (by decide) ?_
      exact ih (wr (v2_1 + 1)) s_4 (InR_wr _) h
set_option maxHeartbeats 4000000 in
set_option maxRecDepth 100000 in
theorem c_X1_remove {E : u_E} {l : Launch} {o : u_O} {p1 : Int} (ho : is_Entries o) (i_p1 : InR p1) {s s' : u_S} {r : Int} (h : f_X1_remove o p1 s = some (r, s')) : Con l (XE E) yX1_remove cX1_remove 3 none 2 46 0 0 [.ref (E.1 o), .int (J p1)] (Wd E s) (RV E r s') := by
  refine Con.of [some (.ref (E.1 o)), some (.int (J p1)), none] (by decide +kernel) rfl rfl (Nat.le_of_ble_eq_true rfl) (fun K g => ?_)
  have g0 := g.wk
  unfold f_X1_remove at h
  refine r_aload_n g0 dX1_remove_0 rfl ?_
  refine r_iload_n g0 dX1_remove_1 rfl ?_
  obtain ⟨r_1, s_1, hr_1, h⟩ := bd_some h
  refine r_cVZ g0 (rest := []) (c_X1_has ho i_p1 hr_1) ok_X1_has mX1_37 (recv_Entries ho) dX1_remove_2 ⟨Nat.le_of_ble_eq_true rfl, Nat.le_of_ble_eq_true rfl⟩ ⟨Nat.zero_le _, Nat.zero_le _⟩ rfl (Nat.le_of_ble_eq_true rfl) rfl (fun i_r_1 => ?_)
  refine r_if_ne g0 9 dX1_remove_5 (by decide) (B01.inR i_r_1) (fun hc => ?_) (fun hc => ?_)
  · replace h := if_f hc h
    refine r_iload_n g0 dX1_remove_9 rfl ?_
    refine r_iconst g0 dX1_remove_10 ?_
    refine r_iadd g0 dX1_remove_11 ?_
    refine r_istore_n g0 (lv' := [some (.ref (E.1 o)), some (.int (J p1)), some (.int (J (wr (p1 + 1))))]) dX1_remove_12 (by decide) rfl rfl ?_
    refine r_mask g0 (lv' := [some (.ref (E.1 o)), none, some (.int (J (wr (p1 + 1))))]) [true, false, true] rfl ?_
    refine t_X1_remove_L13 g ho ?_ FU (wr (p1 + 1)) s_1 (InR_wr _) h
    · intro s_2 h
      refine r_aload_n g0 dX1_remove_44 rfl ?_
      refine r_dup g0 dX1_remove_45 rfl ?_
      refine g_Entries_count g0 ho qX1_22 dX1_remove_46 ?_
      refine r_iconst g0 dX1_remove_49 ?_
      refine r_isub g0 dX1_remove_50 ?_
      refine p_Entries_count g0 ho qX1_22 dX1_remove_51 ?_
      exact z_V g dX1_remove_54 h
  · replace h := if_t hc h
    exact z_V g dX1_remove_8 h
theorem dX3_number_0 : decode cX3_number 0 = .ok (.iload_n 1, 1) := by decide +kernel
theorem dX3_number_1 : decode cX3_number 1 = .ok (.ifCond .ne 8, 3) := by decide +kernel
theorem dX3_number_4 : decode cX3_number 4 = .ok (.aload_n 0, 1) := by decide +kernel
theorem dX3_number_5 : decode cX3_number 5 = .ok (.getfield 9, 3) := by decide +kernel
theorem dX3_number_8 : decode cX3_number 8 = .ok (.ireturn, 1) := by decide +kernel
theorem dX3_number_9 : decode cX3_number 9 = .ok (.iload_n 1, 1) := by decide +kernel
theorem dX3_number_10 : decode cX3_number 10 = .ok (.iconst 2, 1) := by decide +kernel
theorem dX3_number_11 : decode cX3_number 11 = .ok (.if_icmp .ne 8, 3) := by decide +kernel
theorem dX3_number_14 : decode cX3_number 14 = .ok (.aload_n 0, 1) := by decide +kernel
theorem dX3_number_15 : decode cX3_number 15 = .ok (.getfield 18, 3) := by decide +kernel
theorem dX3_number_18 : decode cX3_number 18 = .ok (.ireturn, 1) := by decide +kernel
theorem dX3_number_19 : decode cX3_number 19 = .ok (.iload_n 1, 1) := by decide +kernel
theorem dX3_number_20 : decode cX3_number 20 = .ok (.iconst 3, 1) := by decide +kernel
theorem dX3_number_21 : decode cX3_number 21 = .ok (.if_icmp .ne 18, 3) := by decide +kernel
theorem dX3_number_24 : decode cX3_number 24 = .ok (.aload_n 0, 1) := by decide +kernel
theorem dX3_number_25 : decode cX3_number 25 = .ok (.getfield 9, 3) := by decide +kernel
theorem dX3_number_28 : decode cX3_number 28 = .ok (.aload_n 0, 1) := by decide +kernel
theorem dX3_number_29 : decode cX3_number 29 = .ok (.getfield 15, 3) := by decide +kernel
theorem dX3_number_32 : decode cX3_number 32 = .ok (.iadd, 1) := by decide +kernel
theorem dX3_number_33 : decode cX3_number 33 = .ok (.aload_n 0, 1) := by decide +kernel
theorem dX3_number_34 : decode cX3_number 34 = .ok (.getfield 18, 3) := by decide +kernel
theorem dX3_number_37 : decode cX3_number 37 = .ok (.iadd, 1) := by decide +kernel
theorem dX3_number_38 : decode cX3_number 38 = .ok (.ireturn, 1) := by decide +kernel
theorem dX3_number_39 : decode cX3_number 39 = .ok (.aload_n 0, 1) := by decide +kernel
theorem dX3_number_40 : decode cX3_number 40 = .ok (.getfield 15, 3) := by decide +kernel
theorem dX3_number_43 : decode cX3_number 43 = .ok (.ireturn, 1) := by decide +kernel
set_option maxHeartbeats 4000000 in
set_option maxRecDepth 100000 in
theorem c_X3_number {E : u_E} {l : Launch} {o : u_O} {p1 : Int} (ho : is_Faults o) (i_p1 : InR p1) {s s' : u_S} {r : Int} (h : f_X3_number o p1 s = some (r, s')) : Con l (XE E) yX3_number cX3_number 2 (some .int) 0 0 0 0 [.ref (E.1 o), .int (J p1)] (Wd E s) (RI E r s') := by
  refine Con.of [some (.ref (E.1 o)), some (.int (J p1))] (by decide +kernel) rfl rfl (Nat.le_of_ble_eq_true rfl) (fun K g => ?_)
  have g0 := g.wk
  unfold f_X3_number at h
  refine r_iload_n g0 dX3_number_0 rfl ?_
  refine r_if_ne g0 9 dX3_number_1 (by decide) i_p1 (fun hc => ?_) (fun hc => ?_)
  · replace h := if_f hc h
    refine r_iload_n g0 dX3_number_9 rfl ?_
    refine r_iconst g0 dX3_number_10 ?_
    refine r_icmp_ne g0 19 dX3_number_11 (by decide) i_p1 (InR_lit rfl) (fun hc => ?_) (fun hc => ?_)
    · replace h := if_f hc h
      refine r_iload_n g0 dX3_number_19 rfl ?_
      refine r_iconst g0 dX3_number_20 ?_
      refine r_icmp_ne g0 39 dX3_number_21 (by decide) i_p1 (InR_lit rfl) (fun hc => ?_) (fun hc => ?_)
      · replace h := if_f hc h
        refine r_aload_n g0 dX3_number_39 rfl ?_
        refine g_Faults_crossings g0 ho qX3_15 dX3_number_40 ?_
        exact z_I g dX3_number_43 (InR_rd _ _ _) h
      · replace h := if_t hc h
        refine r_aload_n g0 dX3_number_24 rfl ?_
        refine g_Faults_clashes g0 ho qX3_9 dX3_number_25 ?_
        refine r_aload_n g0 dX3_number_28 rfl ?_
        refine g_Faults_crossings g0 ho qX3_15 dX3_number_29 ?_
        refine r_iadd g0 dX3_number_32 ?_
        refine r_aload_n g0 dX3_number_33 rfl ?_
        refine g_Faults_parallels g0 ho qX3_18 dX3_number_34 ?_
        refine r_iadd g0 dX3_number_37 ?_
        exact z_I g dX3_number_38 (InR_wr _) h
    · replace h := if_t hc h
      refine r_aload_n g0 dX3_number_14 rfl ?_
      refine g_Faults_parallels g0 ho qX3_18 dX3_number_15 ?_
      exact z_I g dX3_number_18 (InR_rd _ _ _) h
  · replace h := if_t hc h
    refine r_aload_n g0 dX3_number_4 rfl ?_
    refine g_Faults_clashes g0 ho qX3_9 dX3_number_5 ?_
    exact z_I g dX3_number_8 (InR_rd _ _ _) h
theorem dX5_copyFrom_0 : decode cX5_copyFrom 0 = .ok (.iconst 0, 1) := by decide +kernel
theorem dX5_copyFrom_1 : decode cX5_copyFrom 1 = .ok (.istore_n 2, 1) := by decide +kernel
theorem dX5_copyFrom_2 : decode cX5_copyFrom 2 = .ok (.iload_n 2, 1) := by decide +kernel
theorem dX5_copyFrom_3 : decode cX5_copyFrom 3 = .ok (.bipush 10, 2) := by decide +kernel
theorem dX5_copyFrom_5 : decode cX5_copyFrom 5 = .ok (.if_icmp .ge 33, 3) := by decide +kernel
theorem dX5_copyFrom_8 : decode cX5_copyFrom 8 = .ok (.aload_n 0, 1) := by decide +kernel
theorem dX5_copyFrom_9 : decode cX5_copyFrom 9 = .ok (.getfield 9, 3) := by decide +kernel
theorem dX5_copyFrom_12 : decode cX5_copyFrom 12 = .ok (.iload_n 2, 1) := by decide +kernel
theorem dX5_copyFrom_13 : decode cX5_copyFrom 13 = .ok (.aload_n 1, 1) := by decide +kernel
theorem dX5_copyFrom_14 : decode cX5_copyFrom 14 = .ok (.getfield 9, 3) := by decide +kernel
theorem dX5_copyFrom_17 : decode cX5_copyFrom 17 = .ok (.iload_n 2, 1) := by decide +kernel
theorem dX5_copyFrom_18 : decode cX5_copyFrom 18 = .ok (.iaload, 1) := by decide +kernel
theorem dX5_copyFrom_19 : decode cX5_copyFrom 19 = .ok (.iastore, 1) := by decide +kernel
theorem dX5_copyFrom_20 : decode cX5_copyFrom 20 = .ok (.aload_n 0, 1) := by decide +kernel
theorem dX5_copyFrom_21 : decode cX5_copyFrom 21 = .ok (.getfield 15, 3) := by decide +kernel
theorem dX5_copyFrom_24 : decode cX5_copyFrom 24 = .ok (.iload_n 2, 1) := by decide +kernel
theorem dX5_copyFrom_25 : decode cX5_copyFrom 25 = .ok (.aload_n 1, 1) := by decide +kernel
theorem dX5_copyFrom_26 : decode cX5_copyFrom 26 = .ok (.getfield 15, 3) := by decide +kernel
theorem dX5_copyFrom_29 : decode cX5_copyFrom 29 = .ok (.iload_n 2, 1) := by decide +kernel
theorem dX5_copyFrom_30 : decode cX5_copyFrom 30 = .ok (.iaload, 1) := by decide +kernel
theorem dX5_copyFrom_31 : decode cX5_copyFrom 31 = .ok (.iastore, 1) := by decide +kernel
theorem dX5_copyFrom_32 : decode cX5_copyFrom 32 = .ok (.iinc 2 1, 3) := by decide +kernel
theorem dX5_copyFrom_35 : decode cX5_copyFrom 35 = .ok (.goto (-33), 3) := by decide +kernel
theorem dX5_copyFrom_38 : decode cX5_copyFrom 38 = .ok (.aload_n 0, 1) := by decide +kernel
theorem dX5_copyFrom_39 : decode cX5_copyFrom 39 = .ok (.aload_n 1, 1) := by decide +kernel
theorem dX5_copyFrom_40 : decode cX5_copyFrom 40 = .ok (.getfield 18, 3) := by decide +kernel
theorem dX5_copyFrom_43 : decode cX5_copyFrom 43 = .ok (.putfield 18, 3) := by decide +kernel
theorem dX5_copyFrom_46 : decode cX5_copyFrom 46 = .ok (.return_, 1) := by decide +kernel
set_option maxHeartbeats 4000000 in
set_option maxRecDepth 100000 in
theorem t_X5_copyFrom_L2 {l : Launch} {E : u_E} {K : u_K} {r : Int} {s' : u_S} (g : Wk l (XE E) { frames := 0, cells := 0, slots := 0, locals := 0 } cX5_copyFrom 3 yX5_copyFrom.cls yX5_copyFrom.name none (RV E r s') K) {v0_1 : u_O} {v1_1 : u_O} (i_v0_1 : is_Line v0_1) (i_v1_1 : is_Line v1_1) {kx38 : u_S → Option (Int × u_S)} (hkx38 : ∀ (s_3 : u_S), kx38 s_3 = some (r, s') → K 0 0 38 [some (.ref (E.1 v0_1)), some (.ref (E.1 v1_1)), none] [] (Wd E s_3)) : ∀ (m : Nat) (v2_1 : Int) (s_2 : u_S), InR v2_1 → f_X5_copyFrom_L2 m kx38 v0_1 v1_1 v2_1 s_2 = some (r, s') → K 0 0 2 [some (.ref (E.1 v0_1)), some (.ref (E.1 v1_1)), some (.int (J v2_1))] [] (Wd E s_2) := by
  have g0 := g.wk
  intro m
  induction m with
  | zero =>
    intro v2_1 s_2 i_v2_1 h
    exact absurd (show (none : Option (Int × u_S)) = some (r, s') from h) (by intro z; cases z)
  | succ m ih =>
    intro v2_1 s_2 i_v2_1 h
    rw [f_X5_copyFrom_L2] at h
    refine r_iload_n g0 dX5_copyFrom_2 rfl ?_
    refine r_bipush g0 dX5_copyFrom_3 rfl ?_
    refine r_icmp_ge g0 38 dX5_copyFrom_5 (by decide) i_v2_1 (InR_lit rfl) (fun hc => ?_) (fun hc => ?_)
    · replace h := if_f hc h
      refine r_mask g0 (lv' := [some (.ref (E.1 v0_1)), some (.ref (E.1 v1_1)), none]) [true, true, false] rfl ?_
      exact hkx38 s_2 h
    · replace h := if_t hc h
      refine r_aload_n g0 dX5_copyFrom_8 rfl ?_
      refine g_Line_steps g0 i_v0_1 qX5_9 dX5_copyFrom_9 ?_
      refine r_iload_n g0 dX5_copyFrom_12 rfl ?_
      refine r_aload_n g0 dX5_copyFrom_13 rfl ?_
      refine g_Line_steps g0 i_v1_1 qX5_9 dX5_copyFrom_14 ?_
      refine r_iload_n g0 dX5_copyFrom_17 rfl ?_
      obtain ⟨hb, h⟩ := gd_some h
      refine r_iaload g0 (is_a_Line_steps i_v1_1) (n := 10) rfl i_v2_1 hb dX5_copyFrom_18 ?_
      obtain ⟨hb, h⟩ := gd_some h
      refine r_iastore g0 (is_a_Line_steps i_v0_1) (n := 10) rfl i_v2_1 hb dX5_copyFrom_19 ?_
      refine r_aload_n g0 dX5_copyFrom_20 rfl ?_
      refine g_Line_ticks g0 i_v0_1 qX5_15 dX5_copyFrom_21 ?_
      refine r_iload_n g0 dX5_copyFrom_24 rfl ?_
      refine r_aload_n g0 dX5_copyFrom_25 rfl ?_
      refine g_Line_ticks g0 i_v1_1 qX5_15 dX5_copyFrom_26 ?_
      refine r_iload_n g0 dX5_copyFrom_29 rfl ?_
      obtain ⟨hb, h⟩ := gd_some h
      refine r_iaload g0 (is_a_Line_ticks i_v1_1) (n := 10) rfl i_v2_1 hb dX5_copyFrom_30 ?_
      obtain ⟨hb, h⟩ := gd_some h
      refine r_iastore g0 (is_a_Line_ticks i_v0_1) (n := 10) rfl i_v2_1 hb dX5_copyFrom_31 ?_
      refine r_iinc g0 (a := v2_1) (lv' := [some (.ref (E.1 v0_1)), some (.ref (E.1 v1_1)), some (.int (J (wr (v2_1 + 1))))]) dX5_copyFrom_32 (by decide) rfl rfl rfl ?_
      refine r_goto g0 2 dX5_copyFrom_35 (by decide) ?_
      exact ih (wr (v2_1 + 1)) (wt (wt s_2 (a_Line_steps v0_1) v2_1 (rd s_2 (a_Line_steps v1_1) v2_1)) (a_Line_ticks v0_1) v2_1 (rd (wt s_2 (a_Line_steps v0_1) v2_1 (rd s_2 (a_Line_steps v1_1) v2_1)) (a_Line_ticks v1_1) v2_1)) (InR_wr _) h
set_option maxHeartbeats 4000000 in
set_option maxRecDepth 100000 in
theorem c_X5_copyFrom {E : u_E} {l : Launch} {o : u_O} {p1 : u_O} (ho : is_Line o) (i_p1 : is_Line p1) {s s' : u_S} {r : Int} (h : f_X5_copyFrom o p1 s = some (r, s')) : Con l (XE E) yX5_copyFrom cX5_copyFrom 3 none 0 0 0 0 [.ref (E.1 o), .ref (E.1 p1)] (Wd E s) (RV E r s') := by
  refine Con.of [some (.ref (E.1 o)), some (.ref (E.1 p1)), none] (by decide +kernel) rfl rfl (Nat.le_of_ble_eq_true rfl) (fun K g => ?_)
  have g0 := g.wk
  unfold f_X5_copyFrom at h
  refine r_iconst g0 dX5_copyFrom_0 ?_
  refine r_istore_n g0 (lv' := [some (.ref (E.1 o)), some (.ref (E.1 p1)), some (.int (J 0))]) dX5_copyFrom_1 (by decide) rfl rfl ?_
  refine t_X5_copyFrom_L2 g ho i_p1 ?_ FU 0 s (B01.inR B01_0) h
  · intro s_1 h
    refine r_aload_n g0 dX5_copyFrom_38 rfl ?_
    refine r_aload_n g0 dX5_copyFrom_39 rfl ?_
    refine g_Line_count g0 i_p1 qX5_18 dX5_copyFrom_40 ?_
    refine p_Line_count g0 ho qX5_18 dX5_copyFrom_43 ?_
    exact z_V g dX5_copyFrom_46 h
