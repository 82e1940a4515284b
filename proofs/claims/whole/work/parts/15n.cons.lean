/-! THE CONTRACTS: the bytecode does what the functions say (by program, wip/whole/gen) -/
theorem dX11_allNow_0 : decode cX11_allNow 0 = .ok (.iload_n 1, 1) := by decide +kernel
theorem dX11_allNow_1 : decode cX11_allNow 1 = .ok (.iconst 3, 1) := by decide +kernel
theorem dX11_allNow_2 : decode cX11_allNow 2 = .ok (.if_icmp .le 20, 3) := by decide +kernel
theorem dX11_allNow_5 : decode cX11_allNow 5 = .ok (.iload_n 1, 1) := by decide +kernel
theorem dX11_allNow_6 : decode cX11_allNow 6 = .ok (.iconst 4, 1) := by decide +kernel
theorem dX11_allNow_7 : decode cX11_allNow 7 = .ok (.if_icmp .ne 10, 3) := by decide +kernel
theorem dX11_allNow_10 : decode cX11_allNow 10 = .ok (.aload_n 0, 1) := by decide +kernel
theorem dX11_allNow_11 : decode cX11_allNow 11 = .ok (.invokevirtual 213, 3) := by decide +kernel
theorem dX11_allNow_14 : decode cX11_allNow 14 = .ok (.goto 7, 3) := by decide +kernel
theorem dX11_allNow_17 : decode cX11_allNow 17 = .ok (.aload_n 0, 1) := by decide +kernel
theorem dX11_allNow_18 : decode cX11_allNow 18 = .ok (.invokevirtual 217, 3) := by decide +kernel
theorem dX11_allNow_21 : decode cX11_allNow 21 = .ok (.ireturn, 1) := by decide +kernel
theorem dX11_allNow_22 : decode cX11_allNow 22 = .ok (.iconst 0, 1) := by decide +kernel
theorem dX11_allNow_23 : decode cX11_allNow 23 = .ok (.istore_n 2, 1) := by decide +kernel
theorem dX11_allNow_24 : decode cX11_allNow 24 = .ok (.iconst 0, 1) := by decide +kernel
theorem dX11_allNow_25 : decode cX11_allNow 25 = .ok (.istore_n 3, 1) := by decide +kernel
theorem dX11_allNow_26 : decode cX11_allNow 26 = .ok (.iload_n 3, 1) := by decide +kernel
theorem dX11_allNow_27 : decode cX11_allNow 27 = .ok (.aload_n 0, 1) := by decide +kernel
theorem dX11_allNow_28 : decode cX11_allNow 28 = .ok (.getfield 7, 3) := by decide +kernel
theorem dX11_allNow_31 : decode cX11_allNow 31 = .ok (.bipush 84, 2) := by decide +kernel
theorem dX11_allNow_33 : decode cX11_allNow 33 = .ok (.iaload, 1) := by decide +kernel
theorem dX11_allNow_34 : decode cX11_allNow 34 = .ok (.if_icmp .ge 54, 3) := by decide +kernel
theorem dX11_allNow_37 : decode cX11_allNow 37 = .ok (.iload_n 3, 1) := by decide +kernel
theorem dX11_allNow_38 : decode cX11_allNow 38 = .ok (.iconst 1, 1) := by decide +kernel
theorem dX11_allNow_39 : decode cX11_allNow 39 = .ok (.iadd, 1) := by decide +kernel
theorem dX11_allNow_40 : decode cX11_allNow 40 = .ok (.istore 4, 2) := by decide +kernel
theorem dX11_allNow_42 : decode cX11_allNow 42 = .ok (.iload 4, 2) := by decide +kernel
theorem dX11_allNow_44 : decode cX11_allNow 44 = .ok (.aload_n 0, 1) := by decide +kernel
theorem dX11_allNow_45 : decode cX11_allNow 45 = .ok (.getfield 7, 3) := by decide +kernel
theorem dX11_allNow_48 : decode cX11_allNow 48 = .ok (.bipush 84, 2) := by decide +kernel
theorem dX11_allNow_50 : decode cX11_allNow 50 = .ok (.iaload, 1) := by decide +kernel
theorem dX11_allNow_51 : decode cX11_allNow 51 = .ok (.if_icmp .ge 31, 3) := by decide +kernel
theorem dX11_allNow_54 : decode cX11_allNow 54 = .ok (.iload_n 2, 1) := by decide +kernel
theorem dX11_allNow_55 : decode cX11_allNow 55 = .ok (.aload_n 0, 1) := by decide +kernel
theorem dX11_allNow_56 : decode cX11_allNow 56 = .ok (.iload_n 3, 1) := by decide +kernel
theorem dX11_allNow_57 : decode cX11_allNow 57 = .ok (.iload 4, 2) := by decide +kernel
theorem dX11_allNow_59 : decode cX11_allNow 59 = .ok (.invokevirtual 207, 3) := by decide +kernel
theorem dX11_allNow_62 : decode cX11_allNow 62 = .ok (.ifCond .eq 11, 3) := by decide +kernel
theorem dX11_allNow_65 : decode cX11_allNow 65 = .ok (.aload_n 0, 1) := by decide +kernel
theorem dX11_allNow_66 : decode cX11_allNow 66 = .ok (.iload_n 1, 1) := by decide +kernel
theorem dX11_allNow_67 : decode cX11_allNow 67 = .ok (.invokevirtual 210, 3) := by decide +kernel
theorem dX11_allNow_70 : decode cX11_allNow 70 = .ok (.goto 4, 3) := by decide +kernel
theorem dX11_allNow_73 : decode cX11_allNow 73 = .ok (.iconst 0, 1) := by decide +kernel
theorem dX11_allNow_74 : decode cX11_allNow 74 = .ok (.iadd, 1) := by decide +kernel
theorem dX11_allNow_75 : decode cX11_allNow 75 = .ok (.istore_n 2, 1) := by decide +kernel
theorem dX11_allNow_76 : decode cX11_allNow 76 = .ok (.iinc 4 1, 3) := by decide +kernel
theorem dX11_allNow_79 : decode cX11_allNow 79 = .ok (.goto (-37), 3) := by decide +kernel
theorem dX11_allNow_82 : decode cX11_allNow 82 = .ok (.iinc 3 1, 3) := by decide +kernel
theorem dX11_allNow_85 : decode cX11_allNow 85 = .ok (.goto (-59), 3) := by decide +kernel
theorem dX11_allNow_88 : decode cX11_allNow 88 = .ok (.iload_n 2, 1) := by decide +kernel
theorem dX11_allNow_89 : decode cX11_allNow 89 = .ok (.ireturn, 1) := by decide +kernel
set_option maxHeartbeats 4000000 in
set_option maxRecDepth 100000 in
theorem t_X11_allNow_L42 {l : Launch} {E : u_E} {K : u_K} {r : Int} {s' : u_S} (g : Wk l (XE E) { frames := 7, cells := 0, slots := 0, locals := 170 } cX11_allNow 5 yX11_allNow.cls yX11_allNow.name (some .int) (RI E r s') K) {v0_2 : u_O} {v1_2 : Int} {v3_2 : Int} (i_v0_2 : is_Mo v0_2) (i_v1_2 : InR v1_2) (i_v3_2 : InR v3_2) {kx82 : Int → u_S → Option (Int × u_S)} (hkx82 : ∀ (v2_5 : Int) (s_8 : u_S), InR v2_5 → kx82 v2_5 s_8 = some (r, s') → K 0 0 82 [some (.ref (E.1 v0_2)), some (.int (J v1_2)), some (.int (J v2_5)), some (.int (J v3_2)), none] [] (Wd E s_8)) : ∀ (m : Nat) (v2_4 : Int) (v4_1 : Int) (s_4 : u_S), InR v2_4 → InR v4_1 → f_X11_allNow_L42 m kx82 v0_2 v1_2 v3_2 v2_4 v4_1 s_4 = some (r, s') → K 0 0 42 [some (.ref (E.1 v0_2)), some (.int (J v1_2)), some (.int (J v2_4)), some (.int (J v3_2)), some (.int (J v4_1))] [] (Wd E s_4) := by
  have g0 := g.wk
  intro m
  induction m with
  | zero =>
    intro v2_4 v4_1 s_4 i_v2_4 i_v4_1 h
    exact absurd (show (none : Option (Int × u_S)) = some (r, s') from h) (by intro z; cases z)
  | succ m ih =>
    intro v2_4 v4_1 s_4 i_v2_4 i_v4_1 h
    rw [f_X11_allNow_L42] at h
    refine r_iload g0 dX11_allNow_42 rfl ?_
    refine r_aload_n g0 dX11_allNow_44 rfl ?_
    refine g_Mo_all g0 i_v0_2 qX11_7 dX11_allNow_45 ?_
    refine r_bipush g0 dX11_allNow_48 rfl ?_
    obtain ⟨hb, h⟩ := gd_some h
    refine r_iaload g0 (is_a_Mo_all i_v0_2) (n := 145) rfl (InR_lit rfl) hb dX11_allNow_50 ?_
    refine r_icmp_ge g0 82 dX11_allNow_51 (by decide) i_v4_1 (InR_rd _ _ _) (fun hc => ?_) (fun hc => ?_)
    · replace h := if_f hc h
      refine r_mask g0 (lv' := [some (.ref (E.1 v0_2)), some (.int (J v1_2)), some (.int (J v2_4)), some (.int (J v3_2)), none]) [true, true, true, true, false] rfl ?_
      exact hkx82 v2_4 s_4 i_v2_4 h
    · replace h := if_t hc h
      refine r_iload_n g0 dX11_allNow_54 rfl ?_
      refine r_aload_n g0 dX11_allNow_55 rfl ?_
      refine r_iload_n g0 dX11_allNow_56 rfl ?_
      refine r_iload g0 dX11_allNow_57 rfl ?_
      obtain ⟨r_1, s_5, hr_1, h⟩ := bd_some h
      refine r_cVZ g0 (rest := [.int (J v2_4)]) (c_X11_areTwo i_v0_2 i_v3_2 i_v4_1 hr_1) ok_X11_areTwo mX11_207 (recv_Mo i_v0_2) dX11_allNow_59 ⟨Nat.le_of_ble_eq_true rfl, Nat.le_of_ble_eq_true rfl⟩ ⟨Nat.zero_le _, Nat.zero_le _⟩ rfl (Nat.le_of_ble_eq_true rfl) rfl (fun i_r_1 => ?_)
      obtain ⟨jp_1, hdjp_1, h⟩ := jn_some h
      have hjp_1 : ∀ (vt_1 : Int) (vt_2 : Int) (s_6 : u_S), InR vt_1 → InR vt_2 → jp_1 vt_1 vt_2 s_6 = some (r, s') → K 0 0 74 [some (.ref (E.1 v0_2)), some (.int (J v1_2)), none, some (.int (J v3_2)), some (.int (J v4_1))] [.int (J vt_2), .int (J vt_1)] (Wd E s_6) := by
        intro vt_1 vt_2 s_6 i_vt_1 i_vt_2 h
        subst hdjp_1
        refine r_iadd g0 dX11_allNow_74 ?_
        refine r_istore_n g0 (lv' := [some (.ref (E.1 v0_2)), some (.int (J v1_2)), some (.int (J (wr (vt_1 + vt_2)))), some (.int (J v3_2)), some (.int (J v4_1))]) dX11_allNow_75 (by decide) rfl rfl ?_
        refine r_iinc g0 (a := v4_1) (lv' := [some (.ref (E.1 v0_2)), some (.int (J v1_2)), some (.int (J (wr (vt_1 + vt_2)))), some (.int (J v3_2)), some (.int (J (wr (v4_1 + 1))))]) dX11_allNow_76 (by decide) rfl rfl rfl ?_
        refine r_goto g0 42 dX11_allNow_79 (by decide) ?_
        exact ih (wr (vt_1 + vt_2)) (wr (v4_1 + 1)) s_6 (InR_wr _) (InR_wr _) h
      clear hdjp_1
      refine r_if_eq g0 73 dX11_allNow_62 (by decide) (B01.inR i_r_1) (fun hc => ?_) (fun hc => ?_)
      · replace h := if_t hc h
        refine r_iconst g0 dX11_allNow_73 ?_
        refine r_mask g0 (lv' := [some (.ref (E.1 v0_2)), some (.int (J v1_2)), none, some (.int (J v3_2)), some (.int (J v4_1))]) [true, true, false, true, true] rfl ?_
        exact hjp_1 v2_4 0 s_5 i_v2_4 (B01.inR B01_0) h
      · replace h := if_f hc h
        refine r_aload_n g0 dX11_allNow_65 rfl ?_
        refine r_iload_n g0 dX11_allNow_66 rfl ?_
        obtain ⟨r_2, s_7, hr_2, h⟩ := bd_some h
        refine r_cVI g0 (rest := [.int (J v2_4)]) (c_X11_faultsOf i_v0_2 i_v1_2 hr_2) ok_X11_faultsOf mX11_210 (recv_Mo i_v0_2) dX11_allNow_67 ⟨Nat.le_of_ble_eq_true rfl, Nat.le_of_ble_eq_true rfl⟩ ⟨Nat.zero_le _, Nat.zero_le _⟩ rfl (Nat.le_of_ble_eq_true rfl) rfl (fun i_r_2 => ?_)
        refine r_goto g0 74 dX11_allNow_70 (by decide) ?_
        refine r_mask g0 (lv' := [some (.ref (E.1 v0_2)), some (.int (J v1_2)), none, some (.int (J v3_2)), some (.int (J v4_1))]) [true, true, false, true, true] rfl ?_
        exact hjp_1 v2_4 r_2 s_7 i_v2_4 i_r_2 h
set_option maxHeartbeats 4000000 in
set_option maxRecDepth 100000 in
theorem t_X11_allNow_L26 {l : Launch} {E : u_E} {K : u_K} {r : Int} {s' : u_S} (g : Wk l (XE E) { frames := 7, cells := 0, slots := 0, locals := 170 } cX11_allNow 5 yX11_allNow.cls yX11_allNow.name (some .int) (RI E r s') K) {v0_1 : u_O} {v1_1 : Int} (i_v0_1 : is_Mo v0_1) (i_v1_1 : InR v1_1) {kx88 : Int → u_S → Option (Int × u_S)} (hkx88 : ∀ (v2_6 : Int) (s_9 : u_S), InR v2_6 → kx88 v2_6 s_9 = some (r, s') → K 0 0 88 [none, none, some (.int (J v2_6)), none, none] [] (Wd E s_9)) : ∀ (m : Nat) (v2_2 : Int) (v3_1 : Int) (s_2 : u_S), InR v2_2 → InR v3_1 → f_X11_allNow_L26 m kx88 v0_1 v1_1 v2_2 v3_1 s_2 = some (r, s') → K 0 0 26 [some (.ref (E.1 v0_1)), some (.int (J v1_1)), some (.int (J v2_2)), some (.int (J v3_1)), none] [] (Wd E s_2) := by
  have g0 := g.wk
  intro m
  induction m with
  | zero =>
    intro v2_2 v3_1 s_2 i_v2_2 i_v3_1 h
    exact absurd (show (none : Option (Int × u_S)) = some (r, s') from h) (by intro z; cases z)
  | succ m ih =>
    intro v2_2 v3_1 s_2 i_v2_2 i_v3_1 h
    rw [f_X11_allNow_L26] at h
    refine r_iload_n g0 dX11_allNow_26 rfl ?_
    refine r_aload_n g0 dX11_allNow_27 rfl ?_
    refine g_Mo_all g0 i_v0_1 qX11_7 dX11_allNow_28 ?_
    refine r_bipush g0 dX11_allNow_31 rfl ?_
    obtain ⟨hb, h⟩ := gd_some h
    refine r_iaload g0 (is_a_Mo_all i_v0_1) (n := 145) rfl (InR_lit rfl) hb dX11_allNow_33 ?_
    refine r_icmp_ge g0 88 dX11_allNow_34 (by decide) i_v3_1 (InR_rd _ _ _) (fun hc => ?_) (fun hc => ?_)
    · replace h := if_f hc h
      refine r_mask g0 (lv' := [none, none, some (.int (J v2_2)), none, none]) [false, false, true, false, false] rfl ?_
      exact hkx88 v2_2 s_2 i_v2_2 h
    · replace h := if_t hc h
      refine r_iload_n g0 dX11_allNow_37 rfl ?_
      refine r_iconst g0 dX11_allNow_38 ?_
      refine r_iadd g0 dX11_allNow_39 ?_
      refine r_istore g0 (lv' := [some (.ref (E.1 v0_1)), some (.int (J v1_1)), some (.int (J v2_2)), some (.int (J v3_1)), some (.int (J (wr (v3_1 + 1))))]) dX11_allNow_40 (by decide) rfl rfl ?_
      refine t_X11_allNow_L42 g i_v0_1 i_v1_1 i_v3_1 ?_ FU v2_2 (wr (v3_1 + 1)) s_2 i_v2_2 (InR_wr _) h
      · intro v2_3 s_3 i_v2_3 h
        refine r_iinc g0 (a := v3_1) (lv' := [some (.ref (E.1 v0_1)), some (.int (J v1_1)), some (.int (J v2_3)), some (.int (J (wr (v3_1 + 1)))), none]) dX11_allNow_82 (by decide) rfl rfl rfl ?_
        refine r_goto g0 26 dX11_allNow_85 (by decide) ?_
        exact ih v2_3 (wr (v3_1 + 1)) s_3 i_v2_3 (InR_wr _) h
set_option maxHeartbeats 4000000 in
set_option maxRecDepth 100000 in
theorem c_X11_allNow {E : u_E} {l : Launch} {o : u_O} {p1 : Int} (ho : is_Mo o) (i_p1 : InR p1) {s s' : u_S} {r : Int} (h : f_X11_allNow o p1 s = some (r, s')) : Con l (XE E) yX11_allNow cX11_allNow 5 (some .int) 7 170 0 0 [.ref (E.1 o), .int (J p1)] (Wd E s) (RI E r s') := by
  refine Con.of [some (.ref (E.1 o)), some (.int (J p1)), none, none, none] (by decide +kernel) rfl rfl (Nat.le_of_ble_eq_true rfl) (fun K g => ?_)
  have g0 := g.wk
  unfold f_X11_allNow at h
  refine r_iload_n g0 dX11_allNow_0 rfl ?_
  refine r_iconst g0 dX11_allNow_1 ?_
  refine r_icmp_le g0 22 dX11_allNow_2 (by decide) i_p1 (InR_lit rfl) (fun hc => ?_) (fun hc => ?_)
  · replace h := if_t hc h
    refine r_iconst g0 dX11_allNow_22 ?_
    refine r_istore_n g0 (lv' := [some (.ref (E.1 o)), some (.int (J p1)), some (.int (J 0)), none, none]) dX11_allNow_23 (by decide) rfl rfl ?_
    refine r_iconst g0 dX11_allNow_24 ?_
    refine r_istore_n g0 (lv' := [some (.ref (E.1 o)), some (.int (J p1)), some (.int (J 0)), some (.int (J 0)), none]) dX11_allNow_25 (by decide) rfl rfl ?_
    refine t_X11_allNow_L26 g ho i_p1 ?_ FU 0 0 s (B01.inR B01_0) (B01.inR B01_0) h
    · intro v2_1 s_1 i_v2_1 h
      refine r_iload_n g0 dX11_allNow_88 rfl ?_
      exact z_I g dX11_allNow_89 i_v2_1 h
  · replace h := if_f hc h
    refine r_iload_n g0 dX11_allNow_5 rfl ?_
    refine r_iconst g0 dX11_allNow_6 ?_
    refine r_icmp_ne g0 17 dX11_allNow_7 (by decide) i_p1 (InR_lit rfl) (fun hc => ?_) (fun hc => ?_)
    · replace h := if_f hc h
      refine r_aload_n g0 dX11_allNow_17 rfl ?_
      obtain ⟨r_3, s_10, hr_3, h⟩ := bd_some h
      refine r_cVI g0 (rest := []) (c_X11_most ho hr_3) ok_X11_most mX11_217 (recv_Mo ho) dX11_allNow_18 ⟨Nat.le_of_ble_eq_true rfl, Nat.le_of_ble_eq_true rfl⟩ ⟨Nat.zero_le _, Nat.zero_le _⟩ rfl (Nat.le_of_ble_eq_true rfl) rfl (fun i_r_3 => ?_)
      exact z_I g dX11_allNow_21 i_r_3 h
    · replace h := if_t hc h
      refine r_aload_n g0 dX11_allNow_10 rfl ?_
      obtain ⟨r_4, s_11, hr_4, h⟩ := bd_some h
      refine r_cVI g0 (rest := []) (c_X11_end ho hr_4) ok_X11_end mX11_213 (recv_Mo ho) dX11_allNow_11 ⟨Nat.le_of_ble_eq_true rfl, Nat.le_of_ble_eq_true rfl⟩ ⟨Nat.zero_le _, Nat.zero_le _⟩ rfl (Nat.le_of_ble_eq_true rfl) rfl (fun i_r_4 => ?_)
      refine r_goto g0 21 dX11_allNow_14 (by decide) ?_
      exact z_I g dX11_allNow_21 i_r_4 h
theorem dX11_all_0 : decode cX11_all 0 = .ok (.iload_n 1, 1) := by decide +kernel
theorem dX11_all_1 : decode cX11_all 1 = .ok (.i2l, 1) := by decide +kernel
theorem dX11_all_2 : decode cX11_all 2 = .ok (.lconst 0, 1) := by decide +kernel
theorem dX11_all_3 : decode cX11_all 3 = .ok (.ldc2_w 192, 3) := by decide +kernel
theorem dX11_all_6 : decode cX11_all 6 = .ok (.invokestatic 61, 3) := by decide +kernel
theorem dX11_all_9 : decode cX11_all 9 = .ok (.ifCond .eq 11, 3) := by decide +kernel
theorem dX11_all_12 : decode cX11_all 12 = .ok (.aload_n 0, 1) := by decide +kernel
theorem dX11_all_13 : decode cX11_all 13 = .ok (.iload_n 1, 1) := by decide +kernel
theorem dX11_all_14 : decode cX11_all 14 = .ok (.invokevirtual 220, 3) := by decide +kernel
theorem dX11_all_17 : decode cX11_all 17 = .ok (.goto 9, 3) := by decide +kernel
theorem dX11_all_20 : decode cX11_all 20 = .ok (.aload_n 0, 1) := by decide +kernel
theorem dX11_all_21 : decode cX11_all 21 = .ok (.bipush (-2), 2) := by decide +kernel
theorem dX11_all_23 : decode cX11_all 23 = .ok (.invokevirtual 97, 3) := by decide +kernel
theorem dX11_all_26 : decode cX11_all 26 = .ok (.ireturn, 1) := by decide +kernel
set_option maxHeartbeats 4000000 in
set_option maxRecDepth 100000 in
theorem c_X11_all {E : u_E} {l : Launch} {o : u_O} {p1 : Int} (ho : is_Mo o) (i_p1 : InR p1) {s s' : u_S} {r : Int} (h : f_X11_all o p1 s = some (r, s')) : Con l (XE E) yX11_all cX11_all 2 (some .int) 8 194 0 0 [.ref (E.1 o), .int (J p1)] (Wd E s) (RI E r s') := by
  refine Con.of [some (.ref (E.1 o)), some (.int (J p1))] (by decide +kernel) rfl rfl (Nat.le_of_ble_eq_true rfl) (fun K g => ?_)
  have g0 := g.wk
  unfold f_X11_all at h
  refine r_iload_n g0 dX11_all_0 rfl ?_
  refine r_i2l g0 dX11_all_1 i_p1 ?_
  refine r_lconst g0 (v := 0) dX11_all_2 rfl ?_
  refine r_ldc2 g0 (v := 5) dX11_all_3 kX11_192 ?_
  obtain ⟨r_1, s_1, hr_1, h⟩ := bd_some h
  refine r_cSZ g0 (rest := []) (c_X11_in (InL_i i_p1) (InL_lit rfl) (InL_lit rfl) hr_1) ok_X11_in mX11_61 dX11_all_6 ⟨Nat.le_of_ble_eq_true rfl, Nat.le_of_ble_eq_true rfl⟩ ⟨Nat.zero_le _, Nat.zero_le _⟩ rfl (Nat.le_of_ble_eq_true rfl) rfl (fun i_r_1 => ?_)
  refine r_if_eq g0 20 dX11_all_9 (by decide) (B01.inR i_r_1) (fun hc => ?_) (fun hc => ?_)
  · replace h := if_t hc h
    refine r_aload_n g0 dX11_all_20 rfl ?_
    refine r_bipush g0 dX11_all_21 rfl ?_
    obtain ⟨r_2, s_2, hr_2, h⟩ := bd_some h
    refine r_cVI g0 (rest := []) (c_X11_refuses ho (InR_lit rfl) hr_2) ok_X11_refuses mX11_97 (recv_Mo ho) dX11_all_23 ⟨Nat.le_of_ble_eq_true rfl, Nat.le_of_ble_eq_true rfl⟩ ⟨Nat.zero_le _, Nat.zero_le _⟩ rfl (Nat.le_of_ble_eq_true rfl) rfl (fun i_r_2 => ?_)
    exact z_I g dX11_all_26 i_r_2 h
  · replace h := if_f hc h
    refine r_aload_n g0 dX11_all_12 rfl ?_
    refine r_iload_n g0 dX11_all_13 rfl ?_
    obtain ⟨r_3, s_3, hr_3, h⟩ := bd_some h
    refine r_cVI g0 (rest := []) (c_X11_allNow ho i_p1 hr_3) ok_X11_allNow mX11_220 (recv_Mo ho) dX11_all_14 ⟨Nat.le_of_ble_eq_true rfl, Nat.le_of_ble_eq_true rfl⟩ ⟨Nat.zero_le _, Nat.zero_le _⟩ rfl (Nat.le_of_ble_eq_true rfl) rfl (fun i_r_3 => ?_)
    refine r_goto g0 26 dX11_all_17 (by decide) ?_
    exact z_I g dX11_all_26 i_r_3 h
theorem dX11_pairAt_0 : decode cX11_pairAt 0 = .ok (.iconst 0, 1) := by decide +kernel
theorem dX11_pairAt_1 : decode cX11_pairAt 1 = .ok (.istore_n 3, 1) := by decide +kernel
theorem dX11_pairAt_2 : decode cX11_pairAt 2 = .ok (.iload_n 3, 1) := by decide +kernel
theorem dX11_pairAt_3 : decode cX11_pairAt 3 = .ok (.aload_n 0, 1) := by decide +kernel
theorem dX11_pairAt_4 : decode cX11_pairAt 4 = .ok (.getfield 7, 3) := by decide +kernel
theorem dX11_pairAt_7 : decode cX11_pairAt 7 = .ok (.bipush 84, 2) := by decide +kernel
theorem dX11_pairAt_9 : decode cX11_pairAt 9 = .ok (.iaload, 1) := by decide +kernel
theorem dX11_pairAt_10 : decode cX11_pairAt 10 = .ok (.if_icmp .ge 63, 3) := by decide +kernel
theorem dX11_pairAt_13 : decode cX11_pairAt 13 = .ok (.iload_n 3, 1) := by decide +kernel
theorem dX11_pairAt_14 : decode cX11_pairAt 14 = .ok (.iconst 1, 1) := by decide +kernel
theorem dX11_pairAt_15 : decode cX11_pairAt 15 = .ok (.iadd, 1) := by decide +kernel
theorem dX11_pairAt_16 : decode cX11_pairAt 16 = .ok (.istore 4, 2) := by decide +kernel
theorem dX11_pairAt_18 : decode cX11_pairAt 18 = .ok (.iload 4, 2) := by decide +kernel
theorem dX11_pairAt_20 : decode cX11_pairAt 20 = .ok (.aload_n 0, 1) := by decide +kernel
theorem dX11_pairAt_21 : decode cX11_pairAt 21 = .ok (.getfield 7, 3) := by decide +kernel
theorem dX11_pairAt_24 : decode cX11_pairAt 24 = .ok (.bipush 84, 2) := by decide +kernel
theorem dX11_pairAt_26 : decode cX11_pairAt 26 = .ok (.iaload, 1) := by decide +kernel
theorem dX11_pairAt_27 : decode cX11_pairAt 27 = .ok (.if_icmp .ge 40, 3) := by decide +kernel
theorem dX11_pairAt_30 : decode cX11_pairAt 30 = .ok (.aload_n 0, 1) := by decide +kernel
theorem dX11_pairAt_31 : decode cX11_pairAt 31 = .ok (.iload_n 3, 1) := by decide +kernel
theorem dX11_pairAt_32 : decode cX11_pairAt 32 = .ok (.iload 4, 2) := by decide +kernel
theorem dX11_pairAt_34 : decode cX11_pairAt 34 = .ok (.invokevirtual 207, 3) := by decide +kernel
theorem dX11_pairAt_37 : decode cX11_pairAt 37 = .ok (.ifCond .eq 24, 3) := by decide +kernel
theorem dX11_pairAt_40 : decode cX11_pairAt 40 = .ok (.aload_n 0, 1) := by decide +kernel
theorem dX11_pairAt_41 : decode cX11_pairAt 41 = .ok (.iload_n 1, 1) := by decide +kernel
theorem dX11_pairAt_42 : decode cX11_pairAt 42 = .ok (.invokevirtual 177, 3) := by decide +kernel
theorem dX11_pairAt_45 : decode cX11_pairAt 45 = .ok (.iload_n 2, 1) := by decide +kernel
theorem dX11_pairAt_46 : decode cX11_pairAt 46 = .ok (.ishr, 1) := by decide +kernel
theorem dX11_pairAt_47 : decode cX11_pairAt 47 = .ok (.iconst 1, 1) := by decide +kernel
theorem dX11_pairAt_48 : decode cX11_pairAt 48 = .ok (.iand, 1) := by decide +kernel
theorem dX11_pairAt_49 : decode cX11_pairAt 49 = .ok (.iconst 1, 1) := by decide +kernel
theorem dX11_pairAt_50 : decode cX11_pairAt 50 = .ok (.if_icmp .ne 11, 3) := by decide +kernel
theorem dX11_pairAt_53 : decode cX11_pairAt 53 = .ok (.bipush 10, 2) := by decide +kernel
theorem dX11_pairAt_55 : decode cX11_pairAt 55 = .ok (.iload_n 3, 1) := by decide +kernel
theorem dX11_pairAt_56 : decode cX11_pairAt 56 = .ok (.imul, 1) := by decide +kernel
theorem dX11_pairAt_57 : decode cX11_pairAt 57 = .ok (.iload 4, 2) := by decide +kernel
theorem dX11_pairAt_59 : decode cX11_pairAt 59 = .ok (.iadd, 1) := by decide +kernel
theorem dX11_pairAt_60 : decode cX11_pairAt 60 = .ok (.ireturn, 1) := by decide +kernel
theorem dX11_pairAt_61 : decode cX11_pairAt 61 = .ok (.iinc 4 1, 3) := by decide +kernel
theorem dX11_pairAt_64 : decode cX11_pairAt 64 = .ok (.goto (-46), 3) := by decide +kernel
theorem dX11_pairAt_67 : decode cX11_pairAt 67 = .ok (.iinc 3 1, 3) := by decide +kernel
theorem dX11_pairAt_70 : decode cX11_pairAt 70 = .ok (.goto (-68), 3) := by decide +kernel
theorem dX11_pairAt_73 : decode cX11_pairAt 73 = .ok (.iconst (-1), 1) := by decide +kernel
theorem dX11_pairAt_74 : decode cX11_pairAt 74 = .ok (.ireturn, 1) := by decide +kernel
set_option maxHeartbeats 4000000 in
set_option maxRecDepth 100000 in
theorem t_X11_pairAt_L18 {l : Launch} {E : u_E} {K : u_K} {r : Int} {s' : u_S} (g : Wk l (XE E) { frames := 5, cells := 0, slots := 0, locals := 122 } cX11_pairAt 5 yX11_pairAt.cls yX11_pairAt.name (some .int) (RI E r s') K) {v0_2 : u_O} {v1_2 : Int} {v2_2 : Int} {v3_2 : Int} (i_v0_2 : is_Mo v0_2) (i_v1_2 : InR v1_2) (i_v2_2 : InR v2_2) (i_v3_2 : InR v3_2) {kx67 : u_S → Option (Int × u_S)} (hkx67 : ∀ (s_8 : u_S), kx67 s_8 = some (r, s') → K 0 0 67 [some (.ref (E.1 v0_2)), some (.int (J v1_2)), some (.int (J v2_2)), some (.int (J v3_2)), none] [] (Wd E s_8)) : ∀ (m : Nat) (v4_1 : Int) (s_4 : u_S), InR v4_1 → f_X11_pairAt_L18 m kx67 v0_2 v1_2 v2_2 v3_2 v4_1 s_4 = some (r, s') → K 0 0 18 [some (.ref (E.1 v0_2)), some (.int (J v1_2)), some (.int (J v2_2)), some (.int (J v3_2)), some (.int (J v4_1))] [] (Wd E s_4) := by
  have g0 := g.wk
  intro m
  induction m with
  | zero =>
    intro v4_1 s_4 i_v4_1 h
    exact absurd (show (none : Option (Int × u_S)) = some (r, s') from h) (by intro z; cases z)
  | succ m ih =>
    intro v4_1 s_4 i_v4_1 h
    rw [f_X11_pairAt_L18] at h
    refine r_iload g0 dX11_pairAt_18 rfl ?_
    refine r_aload_n g0 dX11_pairAt_20 rfl ?_
    refine g_Mo_all g0 i_v0_2 qX11_7 dX11_pairAt_21 ?_
    refine r_bipush g0 dX11_pairAt_24 rfl ?_
    obtain ⟨hb, h⟩ := gd_some h
    refine r_iaload g0 (is_a_Mo_all i_v0_2) (n := 145) rfl (InR_lit rfl) hb dX11_pairAt_26 ?_
    refine r_icmp_ge g0 67 dX11_pairAt_27 (by decide) i_v4_1 (InR_rd _ _ _) (fun hc => ?_) (fun hc => ?_)
    · replace h := if_f hc h
      refine r_mask g0 (lv' := [some (.ref (E.1 v0_2)), some (.int (J v1_2)), some (.int (J v2_2)), some (.int (J v3_2)), none]) [true, true, true, true, false] rfl ?_
      exact hkx67 s_4 h
    · replace h := if_t hc h
      refine r_aload_n g0 dX11_pairAt_30 rfl ?_
      refine r_iload_n g0 dX11_pairAt_31 rfl ?_
      refine r_iload g0 dX11_pairAt_32 rfl ?_
      obtain ⟨r_1, s_5, hr_1, h⟩ := bd_some h
      refine r_cVZ g0 (rest := []) (c_X11_areTwo i_v0_2 i_v3_2 i_v4_1 hr_1) ok_X11_areTwo mX11_207 (recv_Mo i_v0_2) dX11_pairAt_34 ⟨Nat.le_of_ble_eq_true rfl, Nat.le_of_ble_eq_true rfl⟩ ⟨Nat.zero_le _, Nat.zero_le _⟩ rfl (Nat.le_of_ble_eq_true rfl) rfl (fun i_r_1 => ?_)
      obtain ⟨jp_1, hdjp_1, h⟩ := jn_some h
      have hjp_1 : ∀  (s_6 : u_S), jp_1 s_6 = some (r, s') → K 0 0 61 [some (.ref (E.1 v0_2)), some (.int (J v1_2)), some (.int (J v2_2)), some (.int (J v3_2)), some (.int (J v4_1))] [] (Wd E s_6) := by
        intro s_6 h
        subst hdjp_1
        refine r_iinc g0 (a := v4_1) (lv' := [some (.ref (E.1 v0_2)), some (.int (J v1_2)), some (.int (J v2_2)), some (.int (J v3_2)), some (.int (J (wr (v4_1 + 1))))]) dX11_pairAt_61 (by decide) rfl rfl rfl ?_
        refine r_goto g0 18 dX11_pairAt_64 (by decide) ?_
        exact ih (wr (v4_1 + 1)) s_6 (InR_wr _) h
      clear hdjp_1
      refine r_if_eq g0 61 dX11_pairAt_37 (by decide) (B01.inR i_r_1) (fun hc => ?_) (fun hc => ?_)
      · replace h := if_t hc h
        exact hjp_1 s_5 h
      · replace h := if_f hc h
        refine r_aload_n g0 dX11_pairAt_40 rfl ?_
        refine r_iload_n g0 dX11_pairAt_41 rfl ?_
        obtain ⟨r_2, s_7, hr_2, h⟩ := bd_some h
        refine r_cVI g0 (rest := []) (c_X11_faultsAt i_v0_2 i_v1_2 hr_2) ok_X11_faultsAt mX11_177 (recv_Mo i_v0_2) dX11_pairAt_42 ⟨Nat.le_of_ble_eq_true rfl, Nat.le_of_ble_eq_true rfl⟩ ⟨Nat.zero_le _, Nat.zero_le _⟩ rfl (Nat.le_of_ble_eq_true rfl) rfl (fun i_r_2 => ?_)
        refine r_iload_n g0 dX11_pairAt_45 rfl ?_
        refine r_ishr g0 dX11_pairAt_46 ?_
        refine r_iconst g0 dX11_pairAt_47 ?_
        refine r_iand g0 dX11_pairAt_48 ?_
        refine r_iconst g0 dX11_pairAt_49 ?_
        refine r_icmp_ne g0 61 dX11_pairAt_50 (by decide) (InR_to _) (B01.inR B01_1) (fun hc => ?_) (fun hc => ?_)
        · replace h := if_f hc h
          exact hjp_1 s_7 h
        · replace h := if_t hc h
          refine r_bipush g0 dX11_pairAt_53 rfl ?_
          refine r_iload_n g0 dX11_pairAt_55 rfl ?_
          refine r_imul g0 dX11_pairAt_56 ?_
          refine r_iload g0 dX11_pairAt_57 rfl ?_
          refine r_iadd g0 dX11_pairAt_59 ?_
          exact z_I g dX11_pairAt_60 (InR_wr _) h
set_option maxHeartbeats 4000000 in
set_option maxRecDepth 100000 in
theorem t_X11_pairAt_L2 {l : Launch} {E : u_E} {K : u_K} {r : Int} {s' : u_S} (g : Wk l (XE E) { frames := 5, cells := 0, slots := 0, locals := 122 } cX11_pairAt 5 yX11_pairAt.cls yX11_pairAt.name (some .int) (RI E r s') K) {v0_1 : u_O} {v1_1 : Int} {v2_1 : Int} (i_v0_1 : is_Mo v0_1) (i_v1_1 : InR v1_1) (i_v2_1 : InR v2_1) {kx73 : u_S → Option (Int × u_S)} (hkx73 : ∀ (s_9 : u_S), kx73 s_9 = some (r, s') → K 0 0 73 [none, none, none, none, none] [] (Wd E s_9)) : ∀ (m : Nat) (v3_1 : Int) (s_2 : u_S), InR v3_1 → f_X11_pairAt_L2 m kx73 v0_1 v1_1 v2_1 v3_1 s_2 = some (r, s') → K 0 0 2 [some (.ref (E.1 v0_1)), some (.int (J v1_1)), some (.int (J v2_1)), some (.int (J v3_1)), none] [] (Wd E s_2) := by
  have g0 := g.wk
  intro m
  induction m with
  | zero =>
    intro v3_1 s_2 i_v3_1 h
    exact absurd (show (none : Option (Int × u_S)) = some (r, s') from h) (by intro z; cases z)
  | succ m ih =>
    intro v3_1 s_2 i_v3_1 h
    rw [f_X11_pairAt_L2] at h
    refine r_iload_n g0 dX11_pairAt_2 rfl ?_
    refine r_aload_n g0 dX11_pairAt_3 rfl ?_
    refine g_Mo_all g0 i_v0_1 qX11_7 dX11_pairAt_4 ?_
    refine r_bipush g0 dX11_pairAt_7 rfl ?_
    obtain ⟨hb, h⟩ := gd_some h
    refine r_iaload g0 (is_a_Mo_all i_v0_1) (n := 145) rfl (InR_lit rfl) hb dX11_pairAt_9 ?_
    refine r_icmp_ge g0 73 dX11_pairAt_10 (by decide) i_v3_1 (InR_rd _ _ _) (fun hc => ?_) (fun hc => ?_)
    · replace h := if_f hc h
      refine r_mask g0 (lv' := [none, none, none, none, none]) [false, false, false, false, false] rfl ?_
      exact hkx73 s_2 h
    · replace h := if_t hc h
      refine r_iload_n g0 dX11_pairAt_13 rfl ?_
      refine r_iconst g0 dX11_pairAt_14 ?_
      refine r_iadd g0 dX11_pairAt_15 ?_
      refine r_istore g0 (lv' := [some (.ref (E.1 v0_1)), some (.int (J v1_1)), some (.int (J v2_1)), some (.int (J v3_1)), some (.int (J (wr (v3_1 + 1))))]) dX11_pairAt_16 (by decide) rfl rfl ?_
      refine t_X11_pairAt_L18 g i_v0_1 i_v1_1 i_v2_1 i_v3_1 ?_ FU (wr (v3_1 + 1)) s_2 (InR_wr _) h
      · intro s_3 h
        refine r_iinc g0 (a := v3_1) (lv' := [some (.ref (E.1 v0_1)), some (.int (J v1_1)), some (.int (J v2_1)), some (.int (J (wr (v3_1 + 1)))), none]) dX11_pairAt_67 (by decide) rfl rfl rfl ?_
        refine r_goto g0 2 dX11_pairAt_70 (by decide) ?_
        exact ih (wr (v3_1 + 1)) s_3 (InR_wr _) h
set_option maxHeartbeats 4000000 in
set_option maxRecDepth 100000 in
theorem c_X11_pairAt {E : u_E} {l : Launch} {o : u_O} {p1 : Int} {p2 : Int} (ho : is_Mo o) (i_p1 : InR p1) (i_p2 : InR p2) {s s' : u_S} {r : Int} (h : f_X11_pairAt o p1 p2 s = some (r, s')) : Con l (XE E) yX11_pairAt cX11_pairAt 5 (some .int) 5 122 0 0 [.ref (E.1 o), .int (J p1), .int (J p2)] (Wd E s) (RI E r s') := by
  refine Con.of [some (.ref (E.1 o)), some (.int (J p1)), some (.int (J p2)), none, none] (by decide +kernel) rfl rfl (Nat.le_of_ble_eq_true rfl) (fun K g => ?_)
  have g0 := g.wk
  unfold f_X11_pairAt at h
  refine r_iconst g0 dX11_pairAt_0 ?_
  refine r_istore_n g0 (lv' := [some (.ref (E.1 o)), some (.int (J p1)), some (.int (J p2)), some (.int (J 0)), none]) dX11_pairAt_1 (by decide) rfl rfl ?_
  refine t_X11_pairAt_L2 g ho i_p1 i_p2 ?_ FU 0 s (B01.inR B01_0) h
  · intro s_1 h
    refine r_iconst g0 dX11_pairAt_73 ?_
    exact z_I g dX11_pairAt_74 (InR_lit rfl) h
theorem dX11_first_0 : decode cX11_first 0 = .ok (.iload_n 1, 1) := by decide +kernel
theorem dX11_first_1 : decode cX11_first 1 = .ok (.i2l, 1) := by decide +kernel
theorem dX11_first_2 : decode cX11_first 2 = .ok (.lconst 0, 1) := by decide +kernel
theorem dX11_first_3 : decode cX11_first 3 = .ok (.ldc2_w 223, 3) := by decide +kernel
theorem dX11_first_6 : decode cX11_first 6 = .ok (.invokestatic 61, 3) := by decide +kernel
theorem dX11_first_9 : decode cX11_first 9 = .ok (.ifCond .ne 10, 3) := by decide +kernel
theorem dX11_first_12 : decode cX11_first 12 = .ok (.aload_n 0, 1) := by decide +kernel
theorem dX11_first_13 : decode cX11_first 13 = .ok (.bipush (-2), 2) := by decide +kernel
theorem dX11_first_15 : decode cX11_first 15 = .ok (.invokevirtual 97, 3) := by decide +kernel
theorem dX11_first_18 : decode cX11_first 18 = .ok (.ireturn, 1) := by decide +kernel
theorem dX11_first_19 : decode cX11_first 19 = .ok (.iconst 0, 1) := by decide +kernel
theorem dX11_first_20 : decode cX11_first 20 = .ok (.istore_n 2, 1) := by decide +kernel
theorem dX11_first_21 : decode cX11_first 21 = .ok (.iload_n 2, 1) := by decide +kernel
theorem dX11_first_22 : decode cX11_first 22 = .ok (.aload_n 0, 1) := by decide +kernel
theorem dX11_first_23 : decode cX11_first 23 = .ok (.invokevirtual 213, 3) := by decide +kernel
theorem dX11_first_26 : decode cX11_first 26 = .ok (.if_icmp .ge 56, 3) := by decide +kernel
theorem dX11_first_29 : decode cX11_first 29 = .ok (.iconst 0, 1) := by decide +kernel
theorem dX11_first_30 : decode cX11_first 30 = .ok (.istore_n 3, 1) := by decide +kernel
theorem dX11_first_31 : decode cX11_first 31 = .ok (.iload_n 3, 1) := by decide +kernel
theorem dX11_first_32 : decode cX11_first 32 = .ok (.iconst 3, 1) := by decide +kernel
theorem dX11_first_33 : decode cX11_first 33 = .ok (.if_icmp .ge 43, 3) := by decide +kernel
theorem dX11_first_36 : decode cX11_first 36 = .ok (.aload_n 0, 1) := by decide +kernel
theorem dX11_first_37 : decode cX11_first 37 = .ok (.iload_n 2, 1) := by decide +kernel
theorem dX11_first_38 : decode cX11_first 38 = .ok (.iload_n 3, 1) := by decide +kernel
theorem dX11_first_39 : decode cX11_first 39 = .ok (.invokevirtual 225, 3) := by decide +kernel
theorem dX11_first_42 : decode cX11_first 42 = .ok (.istore 4, 2) := by decide +kernel
theorem dX11_first_44 : decode cX11_first 44 = .ok (.iload 4, 2) := by decide +kernel
theorem dX11_first_46 : decode cX11_first 46 = .ok (.iconst (-1), 1) := by decide +kernel
theorem dX11_first_47 : decode cX11_first 47 = .ok (.if_icmp .eq 23, 3) := by decide +kernel
theorem dX11_first_50 : decode cX11_first 50 = .ok (.iload_n 1, 1) := by decide +kernel
theorem dX11_first_51 : decode cX11_first 51 = .ok (.ifCond .ne 7, 3) := by decide +kernel
theorem dX11_first_54 : decode cX11_first 54 = .ok (.iload_n 2, 1) := by decide +kernel
theorem dX11_first_55 : decode cX11_first 55 = .ok (.goto 14, 3) := by decide +kernel
theorem dX11_first_58 : decode cX11_first 58 = .ok (.iload_n 1, 1) := by decide +kernel
theorem dX11_first_59 : decode cX11_first 59 = .ok (.iconst 1, 1) := by decide +kernel
theorem dX11_first_60 : decode cX11_first 60 = .ok (.if_icmp .ne 7, 3) := by decide +kernel
theorem dX11_first_63 : decode cX11_first 63 = .ok (.iload_n 3, 1) := by decide +kernel
theorem dX11_first_64 : decode cX11_first 64 = .ok (.goto 5, 3) := by decide +kernel
theorem dX11_first_67 : decode cX11_first 67 = .ok (.iload 4, 2) := by decide +kernel
theorem dX11_first_69 : decode cX11_first 69 = .ok (.ireturn, 1) := by decide +kernel
theorem dX11_first_70 : decode cX11_first 70 = .ok (.iinc 3 1, 3) := by decide +kernel
theorem dX11_first_73 : decode cX11_first 73 = .ok (.goto (-42), 3) := by decide +kernel
theorem dX11_first_76 : decode cX11_first 76 = .ok (.iinc 2 1, 3) := by decide +kernel
theorem dX11_first_79 : decode cX11_first 79 = .ok (.goto (-58), 3) := by decide +kernel
theorem dX11_first_82 : decode cX11_first 82 = .ok (.iconst (-1), 1) := by decide +kernel
theorem dX11_first_83 : decode cX11_first 83 = .ok (.ireturn, 1) := by decide +kernel
set_option maxHeartbeats 4000000 in
set_option maxRecDepth 100000 in
theorem t_X11_first_L31 {l : Launch} {E : u_E} {K : u_K} {r : Int} {s' : u_S} (g : Wk l (XE E) { frames := 6, cells := 0, slots := 0, locals := 146 } cX11_first 5 yX11_first.cls yX11_first.name (some .int) (RI E r s') K) {v0_2 : u_O} {v1_2 : Int} {v2_2 : Int} (i_v0_2 : is_Mo v0_2) (i_v1_2 : InR v1_2) (i_v2_2 : InR v2_2) {kx76 : u_S → Option (Int × u_S)} (hkx76 : ∀ (s_8 : u_S), kx76 s_8 = some (r, s') → K 0 0 76 [some (.ref (E.1 v0_2)), some (.int (J v1_2)), some (.int (J v2_2)), none, none] [] (Wd E s_8)) : ∀ (m : Nat) (v3_1 : Int) (s_6 : u_S), InR v3_1 → f_X11_first_L31 m kx76 v0_2 v1_2 v2_2 v3_1 s_6 = some (r, s') → K 0 0 31 [some (.ref (E.1 v0_2)), some (.int (J v1_2)), some (.int (J v2_2)), some (.int (J v3_1)), none] [] (Wd E s_6) := by
  have g0 := g.wk
  intro m
  induction m with
  | zero =>
    intro v3_1 s_6 i_v3_1 h
    exact absurd (show (none : Option (Int × u_S)) = some (r, s') from h) (by intro z; cases z)
  | succ m ih =>
    intro v3_1 s_6 i_v3_1 h
    rw [f_X11_first_L31] at h
    refine r_iload_n g0 dX11_first_31 rfl ?_
    refine r_iconst g0 dX11_first_32 ?_
    refine r_icmp_ge g0 76 dX11_first_33 (by decide) i_v3_1 (InR_lit rfl) (fun hc => ?_) (fun hc => ?_)
    · replace h := if_f hc h
      refine r_mask g0 (lv' := [some (.ref (E.1 v0_2)), some (.int (J v1_2)), some (.int (J v2_2)), none, none]) [true, true, true, false, false] rfl ?_
      exact hkx76 s_6 h
    · replace h := if_t hc h
      refine r_aload_n g0 dX11_first_36 rfl ?_
      refine r_iload_n g0 dX11_first_37 rfl ?_
      refine r_iload_n g0 dX11_first_38 rfl ?_
      obtain ⟨r_3, s_7, hr_3, h⟩ := bd_some h
      refine r_cVI g0 (rest := []) (c_X11_pairAt i_v0_2 i_v2_2 i_v3_1 hr_3) ok_X11_pairAt mX11_225 (recv_Mo i_v0_2) dX11_first_39 ⟨Nat.le_of_ble_eq_true rfl, Nat.le_of_ble_eq_true rfl⟩ ⟨Nat.zero_le _, Nat.zero_le _⟩ rfl (Nat.le_of_ble_eq_true rfl) rfl (fun i_r_3 => ?_)
      refine r_istore g0 (lv' := [some (.ref (E.1 v0_2)), some (.int (J v1_2)), some (.int (J v2_2)), some (.int (J v3_1)), some (.int (J r_3))]) dX11_first_42 (by decide) rfl rfl ?_
      refine r_iload g0 dX11_first_44 rfl ?_
      refine r_iconst g0 dX11_first_46 ?_
      refine r_icmp_eq g0 70 dX11_first_47 (by decide) i_r_3 (InR_lit rfl) (fun hc => ?_) (fun hc => ?_)
      · replace h := if_t hc h
        refine r_iinc g0 (a := v3_1) (lv' := [some (.ref (E.1 v0_2)), some (.int (J v1_2)), some (.int (J v2_2)), some (.int (J (wr (v3_1 + 1)))), some (.int (J r_3))]) dX11_first_70 (by decide) rfl rfl rfl ?_
        refine r_goto g0 31 dX11_first_73 (by decide) ?_
        refine r_mask g0 (lv' := [some (.ref (E.1 v0_2)), some (.int (J v1_2)), some (.int (J v2_2)), some (.int (J (wr (v3_1 + 1)))), none]) [true, true, true, true, false] rfl ?_
        exact ih (wr (v3_1 + 1)) s_7 (InR_wr _) h
      · replace h := if_f hc h
        refine r_iload_n g0 dX11_first_50 rfl ?_
        refine r_if_ne g0 58 dX11_first_51 (by decide) i_v1_2 (fun hc => ?_) (fun hc => ?_)
        · replace h := if_f hc h
          refine r_iload_n g0 dX11_first_58 rfl ?_
          refine r_iconst g0 dX11_first_59 ?_
          refine r_icmp_ne g0 67 dX11_first_60 (by decide) i_v1_2 (B01.inR B01_1) (fun hc => ?_) (fun hc => ?_)
          · replace h := if_f hc h
            refine r_iload g0 dX11_first_67 rfl ?_
            exact z_I g dX11_first_69 i_r_3 h
          · replace h := if_t hc h
            refine r_iload_n g0 dX11_first_63 rfl ?_
            refine r_goto g0 69 dX11_first_64 (by decide) ?_
            exact z_I g dX11_first_69 i_v3_1 h
        · replace h := if_t hc h
          refine r_iload_n g0 dX11_first_54 rfl ?_
          refine r_goto g0 69 dX11_first_55 (by decide) ?_
          exact z_I g dX11_first_69 i_v2_2 h
set_option maxHeartbeats 4000000 in
set_option maxRecDepth 100000 in
theorem t_X11_first_L21 {l : Launch} {E : u_E} {K : u_K} {r : Int} {s' : u_S} (g : Wk l (XE E) { frames := 6, cells := 0, slots := 0, locals := 146 } cX11_first 5 yX11_first.cls yX11_first.name (some .int) (RI E r s') K) {v0_1 : u_O} {v1_1 : Int} (i_v0_1 : is_Mo v0_1) (i_v1_1 : InR v1_1) {kx82 : u_S → Option (Int × u_S)} (hkx82 : ∀ (s_9 : u_S), kx82 s_9 = some (r, s') → K 0 0 82 [none, none, none, none, none] [] (Wd E s_9)) : ∀ (m : Nat) (v2_1 : Int) (s_3 : u_S), InR v2_1 → f_X11_first_L21 m kx82 v0_1 v1_1 v2_1 s_3 = some (r, s') → K 0 0 21 [some (.ref (E.1 v0_1)), some (.int (J v1_1)), some (.int (J v2_1)), none, none] [] (Wd E s_3) := by
  have g0 := g.wk
  intro m
  induction m with
  | zero =>
    intro v2_1 s_3 i_v2_1 h
    exact absurd (show (none : Option (Int × u_S)) = some (r, s') from h) (by intro z; cases z)
  | succ m ih =>
    intro v2_1 s_3 i_v2_1 h
    rw [f_X11_first_L21] at h
    refine r_iload_n g0 dX11_first_21 rfl ?_
    refine r_aload_n g0 dX11_first_22 rfl ?_
    obtain ⟨r_2, s_4, hr_2, h⟩ := bd_some h
    refine r_cVI g0 (rest := [.int (J v2_1)]) (c_X11_end i_v0_1 hr_2) ok_X11_end mX11_213 (recv_Mo i_v0_1) dX11_first_23 ⟨Nat.le_of_ble_eq_true rfl, Nat.le_of_ble_eq_true rfl⟩ ⟨Nat.zero_le _, Nat.zero_le _⟩ rfl (Nat.le_of_ble_eq_true rfl) rfl (fun i_r_2 => ?_)
    refine r_icmp_ge g0 82 dX11_first_26 (by decide) i_v2_1 i_r_2 (fun hc => ?_) (fun hc => ?_)
    · replace h := if_f hc h
      refine r_mask g0 (lv' := [none, none, none, none, none]) [false, false, false, false, false] rfl ?_
      exact hkx82 s_4 h
    · replace h := if_t hc h
      refine r_iconst g0 dX11_first_29 ?_
      refine r_istore_n g0 (lv' := [some (.ref (E.1 v0_1)), some (.int (J v1_1)), some (.int (J v2_1)), some (.int (J 0)), none]) dX11_first_30 (by decide) rfl rfl ?_
      refine t_X11_first_L31 g i_v0_1 i_v1_1 i_v2_1 ?_ FU 0 s_4 (B01.inR B01_0) h
      · intro s_5 h
        refine r_iinc g0 (a := v2_1) (lv' := [some (.ref (E.1 v0_1)), some (.int (J v1_1)), some (.int (J (wr (v2_1 + 1)))), none, none]) dX11_first_76 (by decide) rfl rfl rfl ?_
        refine r_goto g0 21 dX11_first_79 (by decide) ?_
        exact ih (wr (v2_1 + 1)) s_5 (InR_wr _) h
set_option maxHeartbeats 4000000 in
set_option maxRecDepth 100000 in
theorem c_X11_first {E : u_E} {l : Launch} {o : u_O} {p1 : Int} (ho : is_Mo o) (i_p1 : InR p1) {s s' : u_S} {r : Int} (h : f_X11_first o p1 s = some (r, s')) : Con l (XE E) yX11_first cX11_first 5 (some .int) 6 146 0 0 [.ref (E.1 o), .int (J p1)] (Wd E s) (RI E r s') := by
  refine Con.of [some (.ref (E.1 o)), some (.int (J p1)), none, none, none] (by decide +kernel) rfl rfl (Nat.le_of_ble_eq_true rfl) (fun K g => ?_)
  have g0 := g.wk
  unfold f_X11_first at h
  refine r_iload_n g0 dX11_first_0 rfl ?_
  refine r_i2l g0 dX11_first_1 i_p1 ?_
  refine r_lconst g0 (v := 0) dX11_first_2 rfl ?_
  refine r_ldc2 g0 (v := 2) dX11_first_3 kX11_223 ?_
  obtain ⟨r_1, s_1, hr_1, h⟩ := bd_some h
  refine r_cSZ g0 (rest := []) (c_X11_in (InL_i i_p1) (InL_lit rfl) (InL_lit rfl) hr_1) ok_X11_in mX11_61 dX11_first_6 ⟨Nat.le_of_ble_eq_true rfl, Nat.le_of_ble_eq_true rfl⟩ ⟨Nat.zero_le _, Nat.zero_le _⟩ rfl (Nat.le_of_ble_eq_true rfl) rfl (fun i_r_1 => ?_)
  refine r_if_ne g0 19 dX11_first_9 (by decide) (B01.inR i_r_1) (fun hc => ?_) (fun hc => ?_)
  · replace h := if_f hc h
    refine r_iconst g0 dX11_first_19 ?_
    refine r_istore_n g0 (lv' := [some (.ref (E.1 o)), some (.int (J p1)), some (.int (J 0)), none, none]) dX11_first_20 (by decide) rfl rfl ?_
    refine t_X11_first_L21 g ho i_p1 ?_ FU 0 s_1 (B01.inR B01_0) h
    · intro s_2 h
      refine r_iconst g0 dX11_first_82 ?_
      exact z_I g dX11_first_83 (InR_lit rfl) h
  · replace h := if_t hc h
    refine r_aload_n g0 dX11_first_12 rfl ?_
    refine r_bipush g0 dX11_first_13 rfl ?_
    obtain ⟨r_4, s_10, hr_4, h⟩ := bd_some h
    refine r_cVI g0 (rest := []) (c_X11_refuses ho (InR_lit rfl) hr_4) ok_X11_refuses mX11_97 (recv_Mo ho) dX11_first_15 ⟨Nat.le_of_ble_eq_true rfl, Nat.le_of_ble_eq_true rfl⟩ ⟨Nat.zero_le _, Nat.zero_le _⟩ rfl (Nat.le_of_ble_eq_true rfl) rfl (fun i_r_4 => ?_)
    exact z_I g dX11_first_18 i_r_4 h
theorem dX11_isMoved_0 : decode cX11_isMoved 0 = .ok (.iload_n 0, 1) := by decide +kernel
theorem dX11_isMoved_1 : decode cX11_isMoved 1 = .ok (.invokestatic 82, 3) := by decide +kernel
theorem dX11_isMoved_4 : decode cX11_isMoved 4 = .ok (.ifCond .eq 33, 3) := by decide +kernel
theorem dX11_isMoved_7 : decode cX11_isMoved 7 = .ok (.iload_n 1, 1) := by decide +kernel
theorem dX11_isMoved_8 : decode cX11_isMoved 8 = .ok (.i2l, 1) := by decide +kernel
theorem dX11_isMoved_9 : decode cX11_isMoved 9 = .ok (.lconst 0, 1) := by decide +kernel
theorem dX11_isMoved_10 : decode cX11_isMoved 10 = .ok (.ldc2_w 88, 3) := by decide +kernel
theorem dX11_isMoved_13 : decode cX11_isMoved 13 = .ok (.invokestatic 61, 3) := by decide +kernel
theorem dX11_isMoved_16 : decode cX11_isMoved 16 = .ok (.ifCond .eq 21, 3) := by decide +kernel
theorem dX11_isMoved_19 : decode cX11_isMoved 19 = .ok (.iload_n 2, 1) := by decide +kernel
theorem dX11_isMoved_20 : decode cX11_isMoved 20 = .ok (.i2l, 1) := by decide +kernel
theorem dX11_isMoved_21 : decode cX11_isMoved 21 = .ok (.ldc2_w 160, 3) := by decide +kernel
theorem dX11_isMoved_24 : decode cX11_isMoved 24 = .ok (.ldc2_w 162, 3) := by decide +kernel
theorem dX11_isMoved_27 : decode cX11_isMoved 27 = .ok (.invokestatic 61, 3) := by decide +kernel
theorem dX11_isMoved_30 : decode cX11_isMoved 30 = .ok (.ifCond .eq 7, 3) := by decide +kernel
theorem dX11_isMoved_33 : decode cX11_isMoved 33 = .ok (.iconst 1, 1) := by decide +kernel
theorem dX11_isMoved_34 : decode cX11_isMoved 34 = .ok (.goto 4, 3) := by decide +kernel
theorem dX11_isMoved_37 : decode cX11_isMoved 37 = .ok (.iconst 0, 1) := by decide +kernel
theorem dX11_isMoved_38 : decode cX11_isMoved 38 = .ok (.ireturn, 1) := by decide +kernel
set_option maxHeartbeats 4000000 in
set_option maxRecDepth 100000 in
theorem c_X11_isMoved {E : u_E} {l : Launch} {p1 : Int} {p2 : Int} {p3 : Int} (i_p1 : InR p1) (i_p2 : InR p2) (i_p3 : InR p3) {s s' : u_S} {r : Int} (h : f_X11_isMoved p1 p2 p3 s = some (r, s')) : Con l (XE E) yX11_isMoved cX11_isMoved 3 (some .boolean) 2 45 0 0 [.int (J p1), .int (J p2), .int (J p3)] (Wd E s) (RZ E r s') := by
  refine Con.of [some (.int (J p1)), some (.int (J p2)), some (.int (J p3))] (by decide +kernel) rfl rfl (Nat.le_of_ble_eq_true rfl) (fun K g => ?_)
  have g0 := g.wk
  unfold f_X11_isMoved at h
  refine r_iload_n g0 dX11_isMoved_0 rfl ?_
  obtain ⟨r_1, s_1, hr_1, h⟩ := bd_some h
  refine r_cSZ g0 (rest := []) (c_X11_isLine i_p1 hr_1) ok_X11_isLine mX11_82 dX11_isMoved_1 ⟨Nat.le_of_ble_eq_true rfl, Nat.le_of_ble_eq_true rfl⟩ ⟨Nat.zero_le _, Nat.zero_le _⟩ rfl (Nat.le_of_ble_eq_true rfl) rfl (fun i_r_1 => ?_)
  refine r_if_eq g0 37 dX11_isMoved_4 (by decide) (B01.inR i_r_1) (fun hc => ?_) (fun hc => ?_)
  · replace h := if_t hc h
    refine r_iconst g0 dX11_isMoved_37 ?_
    exact z_Z g dX11_isMoved_38 B01_0 h
  · replace h := if_f hc h
    refine r_iload_n g0 dX11_isMoved_7 rfl ?_
    refine r_i2l g0 dX11_isMoved_8 i_p2 ?_
    refine r_lconst g0 (v := 0) dX11_isMoved_9 rfl ?_
    refine r_ldc2 g0 (v := 4) dX11_isMoved_10 kX11_88 ?_
    obtain ⟨r_2, s_2, hr_2, h⟩ := bd_some h
    refine r_cSZ g0 (rest := []) (c_X11_in (InL_i i_p2) (InL_lit rfl) (InL_lit rfl) hr_2) ok_X11_in mX11_61 dX11_isMoved_13 ⟨Nat.le_of_ble_eq_true rfl, Nat.le_of_ble_eq_true rfl⟩ ⟨Nat.zero_le _, Nat.zero_le _⟩ rfl (Nat.le_of_ble_eq_true rfl) rfl (fun i_r_2 => ?_)
    refine r_if_eq g0 37 dX11_isMoved_16 (by decide) (B01.inR i_r_2) (fun hc => ?_) (fun hc => ?_)
    · replace h := if_t hc h
      refine r_iconst g0 dX11_isMoved_37 ?_
      exact z_Z g dX11_isMoved_38 B01_0 h
    · replace h := if_f hc h
      refine r_iload_n g0 dX11_isMoved_19 rfl ?_
      refine r_i2l g0 dX11_isMoved_20 i_p3 ?_
      refine r_ldc2 g0 (v := (-21)) dX11_isMoved_21 kX11_160 ?_
      refine r_ldc2 g0 (v := 21) dX11_isMoved_24 kX11_162 ?_
      obtain ⟨r_3, s_3, hr_3, h⟩ := bd_some h
      refine r_cSZ g0 (rest := []) (c_X11_in (InL_i i_p3) (InL_lit rfl) (InL_lit rfl) hr_3) ok_X11_in mX11_61 dX11_isMoved_27 ⟨Nat.le_of_ble_eq_true rfl, Nat.le_of_ble_eq_true rfl⟩ ⟨Nat.zero_le _, Nat.zero_le _⟩ rfl (Nat.le_of_ble_eq_true rfl) rfl (fun i_r_3 => ?_)
      refine r_if_eq g0 37 dX11_isMoved_30 (by decide) (B01.inR i_r_3) (fun hc => ?_) (fun hc => ?_)
      · replace h := if_t hc h
        refine r_iconst g0 dX11_isMoved_37 ?_
        exact z_Z g dX11_isMoved_38 B01_0 h
      · replace h := if_f hc h
        refine r_iconst g0 dX11_isMoved_33 ?_
        refine r_goto g0 38 dX11_isMoved_34 (by decide) ?_
        exact z_Z g dX11_isMoved_38 B01_1 h
theorem dX11_stretches_0 : decode cX11_stretches 0 = .ok (.aload_n 0, 1) := by decide +kernel
theorem dX11_stretches_1 : decode cX11_stretches 1 = .ok (.getfield 22, 3) := by decide +kernel
theorem dX11_stretches_4 : decode cX11_stretches 4 = .ok (.iload_n 1, 1) := by decide +kernel
theorem dX11_stretches_5 : decode cX11_stretches 5 = .ok (.iconst 0, 1) := by decide +kernel
theorem dX11_stretches_6 : decode cX11_stretches 6 = .ok (.iconst 0, 1) := by decide +kernel
theorem dX11_stretches_7 : decode cX11_stretches 7 = .ok (.iconst 0, 1) := by decide +kernel
theorem dX11_stretches_8 : decode cX11_stretches 8 = .ok (.invokestatic 197, 3) := by decide +kernel
theorem dX11_stretches_11 : decode cX11_stretches 11 = .ok (.aload_n 0, 1) := by decide +kernel
theorem dX11_stretches_12 : decode cX11_stretches 12 = .ok (.getfield 25, 3) := by decide +kernel
theorem dX11_stretches_15 : decode cX11_stretches 15 = .ok (.iload_n 1, 1) := by decide +kernel
theorem dX11_stretches_16 : decode cX11_stretches 16 = .ok (.iload_n 2, 1) := by decide +kernel
theorem dX11_stretches_17 : decode cX11_stretches 17 = .ok (.iload_n 3, 1) := by decide +kernel
theorem dX11_stretches_18 : decode cX11_stretches 18 = .ok (.iload 4, 2) := by decide +kernel
theorem dX11_stretches_20 : decode cX11_stretches 20 = .ok (.invokestatic 197, 3) := by decide +kernel
theorem dX11_stretches_23 : decode cX11_stretches 23 = .ok (.return_, 1) := by decide +kernel
set_option maxHeartbeats 4000000 in
set_option maxRecDepth 100000 in
theorem c_X11_stretches {E : u_E} {l : Launch} {o : u_O} {p1 : Int} {p2 : Int} {p3 : Int} {p4 : Int} (ho : is_Mo o) (i_p1 : InR p1) (i_p2 : InR p2) (i_p3 : InR p3) (i_p4 : InR p4) {s s' : u_S} {r : Int} (h : f_X11_stretches o p1 p2 p3 p4 s = some (r, s')) : Con l (XE E) yX11_stretches cX11_stretches 5 none 1 24 0 0 [.ref (E.1 o), .int (J p1), .int (J p2), .int (J p3), .int (J p4)] (Wd E s) (RV E r s') := by
  refine Con.of [some (.ref (E.1 o)), some (.int (J p1)), some (.int (J p2)), some (.int (J p3)), some (.int (J p4))] (by decide +kernel) rfl rfl (Nat.le_of_ble_eq_true rfl) (fun K g => ?_)
  have g0 := g.wk
  unfold f_X11_stretches at h
  refine r_aload_n g0 dX11_stretches_0 rfl ?_
  refine g_Mo_upper g0 ho qX11_22 dX11_stretches_1 ?_
  refine r_iload_n g0 dX11_stretches_4 rfl ?_
  refine r_iconst g0 dX11_stretches_5 ?_
  refine r_iconst g0 dX11_stretches_6 ?_
  refine r_iconst g0 dX11_stretches_7 ?_
  obtain ⟨r_1, s_1, hr_1, h⟩ := bd_some h
  refine r_cSV g0 (rest := []) (c_X11_puts (is_a_Mo_upper ho) i_p1 (B01.inR B01_0) (B01.inR B01_0) (B01.inR B01_0) hr_1) ok_X11_puts mX11_197 dX11_stretches_8 ⟨Nat.le_of_ble_eq_true rfl, Nat.le_of_ble_eq_true rfl⟩ ⟨Nat.zero_le _, Nat.zero_le _⟩ rfl (Nat.le_of_ble_eq_true rfl) rfl ?_
  refine r_aload_n g0 dX11_stretches_11 rfl ?_
  refine g_Mo_lower g0 ho qX11_25 dX11_stretches_12 ?_
  refine r_iload_n g0 dX11_stretches_15 rfl ?_
  refine r_iload_n g0 dX11_stretches_16 rfl ?_
  refine r_iload_n g0 dX11_stretches_17 rfl ?_
  refine r_iload g0 dX11_stretches_18 rfl ?_
  obtain ⟨r_2, s_2, hr_2, h⟩ := bd_some h
  refine r_cSV g0 (rest := []) (c_X11_puts (is_a_Mo_lower ho) i_p1 i_p2 i_p3 i_p4 hr_2) ok_X11_puts mX11_197 dX11_stretches_20 ⟨Nat.le_of_ble_eq_true rfl, Nat.le_of_ble_eq_true rfl⟩ ⟨Nat.zero_le _, Nat.zero_le _⟩ rfl (Nat.le_of_ble_eq_true rfl) rfl ?_
  exact z_V g dX11_stretches_23 h
theorem dX11_stretto_0 : decode cX11_stretto 0 = .ok (.iload_n 1, 1) := by decide +kernel
theorem dX11_stretto_1 : decode cX11_stretto 1 = .ok (.iload_n 2, 1) := by decide +kernel
theorem dX11_stretto_2 : decode cX11_stretto 2 = .ok (.iload_n 3, 1) := by decide +kernel
theorem dX11_stretto_3 : decode cX11_stretto 3 = .ok (.invokestatic 228, 3) := by decide +kernel
theorem dX11_stretto_6 : decode cX11_stretto 6 = .ok (.ifCond .eq 34, 3) := by decide +kernel
theorem dX11_stretto_9 : decode cX11_stretto 9 = .ok (.iload 4, 2) := by decide +kernel
theorem dX11_stretto_11 : decode cX11_stretto 11 = .ok (.i2l, 1) := by decide +kernel
theorem dX11_stretto_12 : decode cX11_stretto 12 = .ok (.lconst 1, 1) := by decide +kernel
theorem dX11_stretto_13 : decode cX11_stretto 13 = .ok (.aload_n 0, 1) := by decide +kernel
theorem dX11_stretto_14 : decode cX11_stretto 14 = .ok (.iload_n 1, 1) := by decide +kernel
theorem dX11_stretto_15 : decode cX11_stretto 15 = .ok (.invokevirtual 128, 3) := by decide +kernel
theorem dX11_stretto_18 : decode cX11_stretto 18 = .ok (.iconst 1, 1) := by decide +kernel
theorem dX11_stretto_19 : decode cX11_stretto 19 = .ok (.isub, 1) := by decide +kernel
theorem dX11_stretto_20 : decode cX11_stretto 20 = .ok (.i2l, 1) := by decide +kernel
theorem dX11_stretto_21 : decode cX11_stretto 21 = .ok (.invokestatic 61, 3) := by decide +kernel
theorem dX11_stretto_24 : decode cX11_stretto 24 = .ok (.ifCond .eq 16, 3) := by decide +kernel
theorem dX11_stretto_27 : decode cX11_stretto 27 = .ok (.iload 5, 2) := by decide +kernel
theorem dX11_stretto_29 : decode cX11_stretto 29 = .ok (.i2l, 1) := by decide +kernel
theorem dX11_stretto_30 : decode cX11_stretto 30 = .ok (.lconst 0, 1) := by decide +kernel
theorem dX11_stretto_31 : decode cX11_stretto 31 = .ok (.ldc2_w 59, 3) := by decide +kernel
theorem dX11_stretto_34 : decode cX11_stretto 34 = .ok (.invokestatic 61, 3) := by decide +kernel
theorem dX11_stretto_37 : decode cX11_stretto 37 = .ok (.ifCond .ne 10, 3) := by decide +kernel
theorem dX11_stretto_40 : decode cX11_stretto 40 = .ok (.aload_n 0, 1) := by decide +kernel
theorem dX11_stretto_41 : decode cX11_stretto 41 = .ok (.bipush (-2), 2) := by decide +kernel
theorem dX11_stretto_43 : decode cX11_stretto 43 = .ok (.invokevirtual 97, 3) := by decide +kernel
theorem dX11_stretto_46 : decode cX11_stretto 46 = .ok (.ireturn, 1) := by decide +kernel
theorem dX11_stretto_47 : decode cX11_stretto 47 = .ok (.aload_n 0, 1) := by decide +kernel
theorem dX11_stretto_48 : decode cX11_stretto 48 = .ok (.iload_n 1, 1) := by decide +kernel
theorem dX11_stretto_49 : decode cX11_stretto 49 = .ok (.iload_n 2, 1) := by decide +kernel
theorem dX11_stretto_50 : decode cX11_stretto 50 = .ok (.iload_n 3, 1) := by decide +kernel
theorem dX11_stretto_51 : decode cX11_stretto 51 = .ok (.iload 4, 2) := by decide +kernel
theorem dX11_stretto_53 : decode cX11_stretto 53 = .ok (.invokevirtual 232, 3) := by decide +kernel
theorem dX11_stretto_56 : decode cX11_stretto 56 = .ok (.aload_n 0, 1) := by decide +kernel
theorem dX11_stretto_57 : decode cX11_stretto 57 = .ok (.invokevirtual 204, 3) := by decide +kernel
theorem dX11_stretto_60 : decode cX11_stretto 60 = .ok (.iload 5, 2) := by decide +kernel
theorem dX11_stretto_62 : decode cX11_stretto 62 = .ok (.iconst 3, 1) := by decide +kernel
theorem dX11_stretto_63 : decode cX11_stretto 63 = .ok (.if_icmp .ge 13, 3) := by decide +kernel
theorem dX11_stretto_66 : decode cX11_stretto 66 = .ok (.aload_n 0, 1) := by decide +kernel
theorem dX11_stretto_67 : decode cX11_stretto 67 = .ok (.getfield 28, 3) := by decide +kernel
theorem dX11_stretto_70 : decode cX11_stretto 70 = .ok (.iload 5, 2) := by decide +kernel
theorem dX11_stretto_72 : decode cX11_stretto 72 = .ok (.iaload, 1) := by decide +kernel
theorem dX11_stretto_73 : decode cX11_stretto 73 = .ok (.goto 24, 3) := by decide +kernel
theorem dX11_stretto_76 : decode cX11_stretto 76 = .ok (.aload_n 0, 1) := by decide +kernel
theorem dX11_stretto_77 : decode cX11_stretto 77 = .ok (.getfield 28, 3) := by decide +kernel
theorem dX11_stretto_80 : decode cX11_stretto 80 = .ok (.iconst 0, 1) := by decide +kernel
theorem dX11_stretto_81 : decode cX11_stretto 81 = .ok (.iaload, 1) := by decide +kernel
theorem dX11_stretto_82 : decode cX11_stretto 82 = .ok (.aload_n 0, 1) := by decide +kernel
theorem dX11_stretto_83 : decode cX11_stretto 83 = .ok (.getfield 28, 3) := by decide +kernel
theorem dX11_stretto_86 : decode cX11_stretto 86 = .ok (.iconst 2, 1) := by decide +kernel
theorem dX11_stretto_87 : decode cX11_stretto 87 = .ok (.iaload, 1) := by decide +kernel
theorem dX11_stretto_88 : decode cX11_stretto 88 = .ok (.iadd, 1) := by decide +kernel
theorem dX11_stretto_89 : decode cX11_stretto 89 = .ok (.ifCond .ne 7, 3) := by decide +kernel
theorem dX11_stretto_92 : decode cX11_stretto 92 = .ok (.iconst 1, 1) := by decide +kernel
theorem dX11_stretto_93 : decode cX11_stretto 93 = .ok (.goto 4, 3) := by decide +kernel
theorem dX11_stretto_96 : decode cX11_stretto 96 = .ok (.iconst 0, 1) := by decide +kernel
theorem dX11_stretto_97 : decode cX11_stretto 97 = .ok (.ireturn, 1) := by decide +kernel
set_option maxHeartbeats 4000000 in
set_option maxRecDepth 100000 in
theorem c_X11_stretto {E : u_E} {l : Launch} {o : u_O} {p1 : Int} {p2 : Int} {p3 : Int} {p4 : Int} {p5 : Int} (ho : is_Mo o) (i_p1 : InR p1) (i_p2 : InR p2) (i_p3 : InR p3) (i_p4 : InR p4) (i_p5 : InR p5) {s s' : u_S} {r : Int} (h : f_X11_stretto o p1 p2 p3 p4 p5 s = some (r, s')) : Con l (XE E) yX11_stretto cX11_stretto 6 (some .int) 6 149 0 0 [.ref (E.1 o), .int (J p1), .int (J p2), .int (J p3), .int (J p4), .int (J p5)] (Wd E s) (RI E r s') := by
  refine Con.of [some (.ref (E.1 o)), some (.int (J p1)), some (.int (J p2)), some (.int (J p3)), some (.int (J p4)), some (.int (J p5))] (by decide +kernel) rfl rfl (Nat.le_of_ble_eq_true rfl) (fun K g => ?_)
  have g0 := g.wk
  unfold f_X11_stretto at h
  refine r_iload_n g0 dX11_stretto_0 rfl ?_
  refine r_iload_n g0 dX11_stretto_1 rfl ?_
  refine r_iload_n g0 dX11_stretto_2 rfl ?_
  obtain ⟨r_1, s_1, hr_1, h⟩ := bd_some h
  refine r_cSZ g0 (rest := []) (c_X11_isMoved i_p1 i_p2 i_p3 hr_1) ok_X11_isMoved mX11_228 dX11_stretto_3 ⟨Nat.le_of_ble_eq_true rfl, Nat.le_of_ble_eq_true rfl⟩ ⟨Nat.zero_le _, Nat.zero_le _⟩ rfl (Nat.le_of_ble_eq_true rfl) rfl (fun i_r_1 => ?_)
  obtain ⟨jp_1, hdjp_1, h⟩ := jn_some h
  have hjp_1 : ∀  (s_2 : u_S), jp_1 s_2 = some (r, s') → K 0 0 40 [some (.ref (E.1 o)), none, none, none, none, none] [] (Wd E s_2) := by
    intro s_2 h
    subst hdjp_1
    refine r_aload_n g0 dX11_stretto_40 rfl ?_
    refine r_bipush g0 dX11_stretto_41 rfl ?_
    obtain ⟨r_2, s_3, hr_2, h⟩ := bd_some h
    refine r_cVI g0 (rest := []) (c_X11_refuses ho (InR_lit rfl) hr_2) ok_X11_refuses mX11_97 (recv_Mo ho) dX11_stretto_43 ⟨Nat.le_of_ble_eq_true rfl, Nat.le_of_ble_eq_true rfl⟩ ⟨Nat.zero_le _, Nat.zero_le _⟩ rfl (Nat.le_of_ble_eq_true rfl) rfl (fun i_r_2 => ?_)
    exact z_I g dX11_stretto_46 i_r_2 h
  clear hdjp_1
  refine r_if_eq g0 40 dX11_stretto_6 (by decide) (B01.inR i_r_1) (fun hc => ?_) (fun hc => ?_)
  · replace h := if_t hc h
    refine r_mask g0 (lv' := [some (.ref (E.1 o)), none, none, none, none, none]) [true, false, false, false, false, false] rfl ?_
    exact hjp_1 s_1 h
  · replace h := if_f hc h
    refine r_iload g0 dX11_stretto_9 rfl ?_
    refine r_i2l g0 dX11_stretto_11 i_p4 ?_
    refine r_lconst g0 (v := 1) dX11_stretto_12 rfl ?_
    refine r_aload_n g0 dX11_stretto_13 rfl ?_
    refine r_iload_n g0 dX11_stretto_14 rfl ?_
    obtain ⟨r_3, s_4, hr_3, h⟩ := bd_some h
    refine r_cVI g0 (rest := [.long (JL 1), .long (JL p4)]) (c_X11_length ho i_p1 hr_3) ok_X11_length mX11_128 (recv_Mo ho) dX11_stretto_15 ⟨Nat.le_of_ble_eq_true rfl, Nat.le_of_ble_eq_true rfl⟩ ⟨Nat.zero_le _, Nat.zero_le _⟩ rfl (Nat.le_of_ble_eq_true rfl) rfl (fun i_r_3 => ?_)
    refine r_iconst g0 dX11_stretto_18 ?_
    refine r_isub g0 dX11_stretto_19 ?_
    refine r_i2l g0 dX11_stretto_20 (InR_wr _) ?_
    obtain ⟨r_4, s_5, hr_4, h⟩ := bd_some h
    refine r_cSZ g0 (rest := []) (c_X11_in (InL_i i_p4) (InL_lit rfl) (InL_i (InR_wr _)) hr_4) ok_X11_in mX11_61 dX11_stretto_21 ⟨Nat.le_of_ble_eq_true rfl, Nat.le_of_ble_eq_true rfl⟩ ⟨Nat.zero_le _, Nat.zero_le _⟩ rfl (Nat.le_of_ble_eq_true rfl) rfl (fun i_r_4 => ?_)
    refine r_if_eq g0 40 dX11_stretto_24 (by decide) (B01.inR i_r_4) (fun hc => ?_) (fun hc => ?_)
    · replace h := if_t hc h
      refine r_mask g0 (lv' := [some (.ref (E.1 o)), none, none, none, none, none]) [true, false, false, false, false, false] rfl ?_
      exact hjp_1 s_5 h
    · replace h := if_f hc h
      refine r_iload g0 dX11_stretto_27 rfl ?_
      refine r_i2l g0 dX11_stretto_29 i_p5 ?_
      refine r_lconst g0 (v := 0) dX11_stretto_30 rfl ?_
      refine r_ldc2 g0 (v := 3) dX11_stretto_31 kX11_59 ?_
      obtain ⟨r_5, s_6, hr_5, h⟩ := bd_some h
      refine r_cSZ g0 (rest := []) (c_X11_in (InL_i i_p5) (InL_lit rfl) (InL_lit rfl) hr_5) ok_X11_in mX11_61 dX11_stretto_34 ⟨Nat.le_of_ble_eq_true rfl, Nat.le_of_ble_eq_true rfl⟩ ⟨Nat.zero_le _, Nat.zero_le _⟩ rfl (Nat.le_of_ble_eq_true rfl) rfl (fun i_r_5 => ?_)
      refine r_if_ne g0 47 dX11_stretto_37 (by decide) (B01.inR i_r_5) (fun hc => ?_) (fun hc => ?_)
      · replace h := if_f hc h
        refine r_aload_n g0 dX11_stretto_47 rfl ?_
        refine r_iload_n g0 dX11_stretto_48 rfl ?_
        refine r_iload_n g0 dX11_stretto_49 rfl ?_
        refine r_iload_n g0 dX11_stretto_50 rfl ?_
        refine r_iload g0 dX11_stretto_51 rfl ?_
        obtain ⟨r_6, s_7, hr_6, h⟩ := bd_some h
        refine r_cVV g0 (rest := []) (c_X11_stretches ho i_p1 i_p2 i_p3 i_p4 hr_6) ok_X11_stretches mX11_232 (recv_Mo ho) dX11_stretto_53 ⟨Nat.le_of_ble_eq_true rfl, Nat.le_of_ble_eq_true rfl⟩ ⟨Nat.zero_le _, Nat.zero_le _⟩ rfl (Nat.le_of_ble_eq_true rfl) rfl ?_
        refine r_aload_n g0 dX11_stretto_56 rfl ?_
        obtain ⟨r_7, s_8, hr_7, h⟩ := bd_some h
        refine r_cVV g0 (rest := []) (c_X11_countsAll ho hr_7) ok_X11_countsAll mX11_204 (recv_Mo ho) dX11_stretto_57 ⟨Nat.le_of_ble_eq_true rfl, Nat.le_of_ble_eq_true rfl⟩ ⟨Nat.zero_le _, Nat.zero_le _⟩ rfl (Nat.le_of_ble_eq_true rfl) rfl ?_
        refine r_iload g0 dX11_stretto_60 rfl ?_
        refine r_iconst g0 dX11_stretto_62 ?_
        refine r_icmp_ge g0 76 dX11_stretto_63 (by decide) i_p5 (InR_lit rfl) (fun hc => ?_) (fun hc => ?_)
        · replace h := if_f hc h
          refine r_aload_n g0 dX11_stretto_76 rfl ?_
          refine g_Mo_counted g0 ho qX11_28 dX11_stretto_77 ?_
          refine r_iconst g0 dX11_stretto_80 ?_
          obtain ⟨hb, h⟩ := gd_some h
          refine r_iaload g0 (is_a_Mo_counted ho) (n := 3) rfl (B01.inR B01_0) hb dX11_stretto_81 ?_
          refine r_aload_n g0 dX11_stretto_82 rfl ?_
          refine g_Mo_counted g0 ho qX11_28 dX11_stretto_83 ?_
          refine r_iconst g0 dX11_stretto_86 ?_
          obtain ⟨hb, h⟩ := gd_some h
          refine r_iaload g0 (is_a_Mo_counted ho) (n := 3) rfl (InR_lit rfl) hb dX11_stretto_87 ?_
          refine r_iadd g0 dX11_stretto_88 ?_
          refine r_if_ne g0 96 dX11_stretto_89 (by decide) (InR_wr _) (fun hc => ?_) (fun hc => ?_)
          · replace h := if_f hc h
            refine r_iconst g0 dX11_stretto_96 ?_
            exact z_I g dX11_stretto_97 (B01.inR B01_0) h
          · replace h := if_t hc h
            refine r_iconst g0 dX11_stretto_92 ?_
            refine r_goto g0 97 dX11_stretto_93 (by decide) ?_
            exact z_I g dX11_stretto_97 (B01.inR B01_1) h
        · replace h := if_t hc h
          refine r_aload_n g0 dX11_stretto_66 rfl ?_
          refine g_Mo_counted g0 ho qX11_28 dX11_stretto_67 ?_
          refine r_iload g0 dX11_stretto_70 rfl ?_
          obtain ⟨hb, h⟩ := gd_some h
          refine r_iaload g0 (is_a_Mo_counted ho) (n := 3) rfl i_p5 hb dX11_stretto_72 ?_
          refine r_goto g0 97 dX11_stretto_73 (by decide) ?_
          exact z_I g dX11_stretto_97 (InR_rd _ _ _) h
      · replace h := if_t hc h
        refine r_mask g0 (lv' := [some (.ref (E.1 o)), none, none, none, none, none]) [true, false, false, false, false, false] rfl ?_
        exact hjp_1 s_6 h
theorem dX11_laysRows_0 : decode cX11_laysRows 0 = .ok (.iconst 0, 1) := by decide +kernel
theorem dX11_laysRows_1 : decode cX11_laysRows 1 = .ok (.istore_n 3, 1) := by decide +kernel
theorem dX11_laysRows_2 : decode cX11_laysRows 2 = .ok (.iload_n 3, 1) := by decide +kernel
theorem dX11_laysRows_3 : decode cX11_laysRows 3 = .ok (.aload_n 0, 1) := by decide +kernel
theorem dX11_laysRows_4 : decode cX11_laysRows 4 = .ok (.iload_n 1, 1) := by decide +kernel
theorem dX11_laysRows_5 : decode cX11_laysRows 5 = .ok (.invokevirtual 128, 3) := by decide +kernel
theorem dX11_laysRows_8 : decode cX11_laysRows 8 = .ok (.if_icmp .ge 22, 3) := by decide +kernel
theorem dX11_laysRows_11 : decode cX11_laysRows 11 = .ok (.aload_n 0, 1) := by decide +kernel
theorem dX11_laysRows_12 : decode cX11_laysRows 12 = .ok (.getfield 31, 3) := by decide +kernel
theorem dX11_laysRows_15 : decode cX11_laysRows 15 = .ok (.iload_n 3, 1) := by decide +kernel
theorem dX11_laysRows_16 : decode cX11_laysRows 16 = .ok (.aload_n 0, 1) := by decide +kernel
theorem dX11_laysRows_17 : decode cX11_laysRows 17 = .ok (.iload_n 1, 1) := by decide +kernel
theorem dX11_laysRows_18 : decode cX11_laysRows 18 = .ok (.iconst 0, 1) := by decide +kernel
theorem dX11_laysRows_19 : decode cX11_laysRows 19 = .ok (.iload_n 3, 1) := by decide +kernel
theorem dX11_laysRows_20 : decode cX11_laysRows 20 = .ok (.invokevirtual 167, 3) := by decide +kernel
theorem dX11_laysRows_23 : decode cX11_laysRows 23 = .ok (.iastore, 1) := by decide +kernel
theorem dX11_laysRows_24 : decode cX11_laysRows 24 = .ok (.iinc 3 1, 3) := by decide +kernel
theorem dX11_laysRows_27 : decode cX11_laysRows 27 = .ok (.goto (-25), 3) := by decide +kernel
theorem dX11_laysRows_30 : decode cX11_laysRows 30 = .ok (.iconst 0, 1) := by decide +kernel
theorem dX11_laysRows_31 : decode cX11_laysRows 31 = .ok (.istore_n 3, 1) := by decide +kernel
theorem dX11_laysRows_32 : decode cX11_laysRows 32 = .ok (.iload_n 3, 1) := by decide +kernel
theorem dX11_laysRows_33 : decode cX11_laysRows 33 = .ok (.aload_n 0, 1) := by decide +kernel
theorem dX11_laysRows_34 : decode cX11_laysRows 34 = .ok (.iload_n 1, 1) := by decide +kernel
theorem dX11_laysRows_35 : decode cX11_laysRows 35 = .ok (.iload_n 2, 1) := by decide +kernel
theorem dX11_laysRows_36 : decode cX11_laysRows 36 = .ok (.invokevirtual 174, 3) := by decide +kernel
theorem dX11_laysRows_39 : decode cX11_laysRows 39 = .ok (.if_icmp .ge 22, 3) := by decide +kernel
theorem dX11_laysRows_42 : decode cX11_laysRows 42 = .ok (.aload_n 0, 1) := by decide +kernel
theorem dX11_laysRows_43 : decode cX11_laysRows 43 = .ok (.getfield 34, 3) := by decide +kernel
theorem dX11_laysRows_46 : decode cX11_laysRows 46 = .ok (.iload_n 3, 1) := by decide +kernel
theorem dX11_laysRows_47 : decode cX11_laysRows 47 = .ok (.aload_n 0, 1) := by decide +kernel
theorem dX11_laysRows_48 : decode cX11_laysRows 48 = .ok (.iload_n 1, 1) := by decide +kernel
theorem dX11_laysRows_49 : decode cX11_laysRows 49 = .ok (.iload_n 2, 1) := by decide +kernel
theorem dX11_laysRows_50 : decode cX11_laysRows 50 = .ok (.iload_n 3, 1) := by decide +kernel
theorem dX11_laysRows_51 : decode cX11_laysRows 51 = .ok (.invokevirtual 167, 3) := by decide +kernel
theorem dX11_laysRows_54 : decode cX11_laysRows 54 = .ok (.iastore, 1) := by decide +kernel
theorem dX11_laysRows_55 : decode cX11_laysRows 55 = .ok (.iinc 3 1, 3) := by decide +kernel
theorem dX11_laysRows_58 : decode cX11_laysRows 58 = .ok (.goto (-26), 3) := by decide +kernel
theorem dX11_laysRows_61 : decode cX11_laysRows 61 = .ok (.return_, 1) := by decide +kernel
set_option maxHeartbeats 4000000 in
set_option maxRecDepth 100000 in
theorem t_X11_laysRows_L32 {l : Launch} {E : u_E} {K : u_K} {r : Int} {s' : u_S} (g : Wk l (XE E) { frames := 3, cells := 0, slots := 0, locals := 71 } cX11_laysRows 4 yX11_laysRows.cls yX11_laysRows.name none (RV E r s') K) {v0_1 : u_O} {v1_1 : Int} {v2_1 : Int} (i_v0_1 : is_Mo v0_1) (i_v1_1 : InR v1_1) (i_v2_1 : InR v2_1) {kx61 : u_S → Option (Int × u_S)} (hkx61 : ∀ (s_6 : u_S), kx61 s_6 = some (r, s') → K 0 0 61 [none, none, none, none] [] (Wd E s_6)) : ∀ (m : Nat) (v3_1 : Int) (s_3 : u_S), InR v3_1 → f_X11_laysRows_L32 m kx61 v0_1 v1_1 v2_1 v3_1 s_3 = some (r, s') → K 0 0 32 [some (.ref (E.1 v0_1)), some (.int (J v1_1)), some (.int (J v2_1)), some (.int (J v3_1))] [] (Wd E s_3) := by
  have g0 := g.wk
  intro m
  induction m with
  | zero =>
    intro v3_1 s_3 i_v3_1 h
    exact absurd (show (none : Option (Int × u_S)) = some (r, s') from h) (by intro z; cases z)
  | succ m ih =>
    intro v3_1 s_3 i_v3_1 h
    rw [f_X11_laysRows_L32] at h
    refine r_iload_n g0 dX11_laysRows_32 rfl ?_
    refine r_aload_n g0 dX11_laysRows_33 rfl ?_
    refine r_iload_n g0 dX11_laysRows_34 rfl ?_
    refine r_iload_n g0 dX11_laysRows_35 rfl ?_
    obtain ⟨r_1, s_4, hr_1, h⟩ := bd_some h
    refine r_cVI g0 (rest := [.int (J v3_1)]) (c_X11_lasts i_v0_1 i_v1_1 i_v2_1 hr_1) ok_X11_lasts mX11_174 (recv_Mo i_v0_1) dX11_laysRows_36 ⟨Nat.le_of_ble_eq_true rfl, Nat.le_of_ble_eq_true rfl⟩ ⟨Nat.zero_le _, Nat.zero_le _⟩ rfl (Nat.le_of_ble_eq_true rfl) rfl (fun i_r_1 => ?_)
    refine r_icmp_ge g0 61 dX11_laysRows_39 (by decide) i_v3_1 i_r_1 (fun hc => ?_) (fun hc => ?_)
    · replace h := if_f hc h
      refine r_mask g0 (lv' := [none, none, none, none]) [false, false, false, false] rfl ?_
      exact hkx61 s_4 h
    · replace h := if_t hc h
      refine r_aload_n g0 dX11_laysRows_42 rfl ?_
      refine g_Mo_formRow g0 i_v0_1 qX11_34 dX11_laysRows_43 ?_
      refine r_iload_n g0 dX11_laysRows_46 rfl ?_
      refine r_aload_n g0 dX11_laysRows_47 rfl ?_
      refine r_iload_n g0 dX11_laysRows_48 rfl ?_
      refine r_iload_n g0 dX11_laysRows_49 rfl ?_
      refine r_iload_n g0 dX11_laysRows_50 rfl ?_
      obtain ⟨r_2, s_5, hr_2, h⟩ := bd_some h
      refine r_cVI g0 (rest := [.int (J v3_1), .ref (E.1 (a_Mo_formRow v0_1))]) (c_X11_formed i_v0_1 i_v1_1 i_v2_1 i_v3_1 hr_2) ok_X11_formed mX11_167 (recv_Mo i_v0_1) dX11_laysRows_51 ⟨Nat.le_of_ble_eq_true rfl, Nat.le_of_ble_eq_true rfl⟩ ⟨Nat.zero_le _, Nat.zero_le _⟩ rfl (Nat.le_of_ble_eq_true rfl) rfl (fun i_r_2 => ?_)
      obtain ⟨hb, h⟩ := gd_some h
      refine r_iastore g0 (is_a_Mo_formRow i_v0_1) (n := 80) rfl i_v3_1 hb dX11_laysRows_54 ?_
      refine r_iinc g0 (a := v3_1) (lv' := [some (.ref (E.1 v0_1)), some (.int (J v1_1)), some (.int (J v2_1)), some (.int (J (wr (v3_1 + 1))))]) dX11_laysRows_55 (by decide) rfl rfl rfl ?_
      refine r_goto g0 32 dX11_laysRows_58 (by decide) ?_
      exact ih (wr (v3_1 + 1)) (wt s_5 (a_Mo_formRow v0_1) v3_1 r_2) (InR_wr _) h
set_option maxHeartbeats 4000000 in
set_option maxRecDepth 100000 in
theorem t_X11_laysRows_L2 {l : Launch} {E : u_E} {K : u_K} {r : Int} {s' : u_S} (g : Wk l (XE E) { frames := 3, cells := 0, slots := 0, locals := 71 } cX11_laysRows 4 yX11_laysRows.cls yX11_laysRows.name none (RV E r s') K) {v0_2 : u_O} {v1_2 : Int} {v2_2 : Int} (i_v0_2 : is_Mo v0_2) (i_v1_2 : InR v1_2) (i_v2_2 : InR v2_2) {kx30 : u_S → Option (Int × u_S)} (hkx30 : ∀ (s_10 : u_S), kx30 s_10 = some (r, s') → K 0 0 30 [some (.ref (E.1 v0_2)), some (.int (J v1_2)), some (.int (J v2_2)), none] [] (Wd E s_10)) : ∀ (m : Nat) (v3_2 : Int) (s_7 : u_S), InR v3_2 → f_X11_laysRows_L2 m kx30 v0_2 v1_2 v2_2 v3_2 s_7 = some (r, s') → K 0 0 2 [some (.ref (E.1 v0_2)), some (.int (J v1_2)), some (.int (J v2_2)), some (.int (J v3_2))] [] (Wd E s_7) := by
  have g0 := g.wk
  intro m
  induction m with
  | zero =>
    intro v3_2 s_7 i_v3_2 h
    exact absurd (show (none : Option (Int × u_S)) = some (r, s') from h) (by intro z; cases z)
  | succ m ih =>
    intro v3_2 s_7 i_v3_2 h
    rw [f_X11_laysRows_L2] at h
    refine r_iload_n g0 dX11_laysRows_2 rfl ?_
    refine r_aload_n g0 dX11_laysRows_3 rfl ?_
    refine r_iload_n g0 dX11_laysRows_4 rfl ?_
    obtain ⟨r_3, s_8, hr_3, h⟩ := bd_some h
    refine r_cVI g0 (rest := [.int (J v3_2)]) (c_X11_length i_v0_2 i_v1_2 hr_3) ok_X11_length mX11_128 (recv_Mo i_v0_2) dX11_laysRows_5 ⟨Nat.le_of_ble_eq_true rfl, Nat.le_of_ble_eq_true rfl⟩ ⟨Nat.zero_le _, Nat.zero_le _⟩ rfl (Nat.le_of_ble_eq_true rfl) rfl (fun i_r_3 => ?_)
    refine r_icmp_ge g0 30 dX11_laysRows_8 (by decide) i_v3_2 i_r_3 (fun hc => ?_) (fun hc => ?_)
    · replace h := if_f hc h
      refine r_mask g0 (lv' := [some (.ref (E.1 v0_2)), some (.int (J v1_2)), some (.int (J v2_2)), none]) [true, true, true, false] rfl ?_
      exact hkx30 s_8 h
    · replace h := if_t hc h
      refine r_aload_n g0 dX11_laysRows_11 rfl ?_
      refine g_Mo_plainRow g0 i_v0_2 qX11_31 dX11_laysRows_12 ?_
      refine r_iload_n g0 dX11_laysRows_15 rfl ?_
      refine r_aload_n g0 dX11_laysRows_16 rfl ?_
      refine r_iload_n g0 dX11_laysRows_17 rfl ?_
      refine r_iconst g0 dX11_laysRows_18 ?_
      refine r_iload_n g0 dX11_laysRows_19 rfl ?_
      obtain ⟨r_4, s_9, hr_4, h⟩ := bd_some h
      refine r_cVI g0 (rest := [.int (J v3_2), .ref (E.1 (a_Mo_plainRow v0_2))]) (c_X11_formed i_v0_2 i_v1_2 (B01.inR B01_0) i_v3_2 hr_4) ok_X11_formed mX11_167 (recv_Mo i_v0_2) dX11_laysRows_20 ⟨Nat.le_of_ble_eq_true rfl, Nat.le_of_ble_eq_true rfl⟩ ⟨Nat.zero_le _, Nat.zero_le _⟩ rfl (Nat.le_of_ble_eq_true rfl) rfl (fun i_r_4 => ?_)
      obtain ⟨hb, h⟩ := gd_some h
      refine r_iastore g0 (is_a_Mo_plainRow i_v0_2) (n := 40) rfl i_v3_2 hb dX11_laysRows_23 ?_
      refine r_iinc g0 (a := v3_2) (lv' := [some (.ref (E.1 v0_2)), some (.int (J v1_2)), some (.int (J v2_2)), some (.int (J (wr (v3_2 + 1))))]) dX11_laysRows_24 (by decide) rfl rfl rfl ?_
      refine r_goto g0 2 dX11_laysRows_27 (by decide) ?_
      exact ih (wr (v3_2 + 1)) (wt s_9 (a_Mo_plainRow v0_2) v3_2 r_4) (InR_wr _) h
set_option maxHeartbeats 4000000 in
set_option maxRecDepth 100000 in
theorem c_X11_laysRows {E : u_E} {l : Launch} {o : u_O} {p1 : Int} {p2 : Int} (ho : is_Mo o) (i_p1 : InR p1) (i_p2 : InR p2) {s s' : u_S} {r : Int} (h : f_X11_laysRows o p1 p2 s = some (r, s')) : Con l (XE E) yX11_laysRows cX11_laysRows 4 none 3 71 0 0 [.ref (E.1 o), .int (J p1), .int (J p2)] (Wd E s) (RV E r s') := by
  refine Con.of [some (.ref (E.1 o)), some (.int (J p1)), some (.int (J p2)), none] (by decide +kernel) rfl rfl (Nat.le_of_ble_eq_true rfl) (fun K g => ?_)
  have g0 := g.wk
  unfold f_X11_laysRows at h
  refine r_iconst g0 dX11_laysRows_0 ?_
  refine r_istore_n g0 (lv' := [some (.ref (E.1 o)), some (.int (J p1)), some (.int (J p2)), some (.int (J 0))]) dX11_laysRows_1 (by decide) rfl rfl ?_
  refine t_X11_laysRows_L2 g ho i_p1 i_p2 ?_ FU 0 s (B01.inR B01_0) h
  · intro s_1 h
    refine r_iconst g0 dX11_laysRows_30 ?_
    refine r_istore_n g0 (lv' := [some (.ref (E.1 o)), some (.int (J p1)), some (.int (J p2)), some (.int (J 0))]) dX11_laysRows_31 (by decide) rfl rfl ?_
    refine t_X11_laysRows_L32 g ho i_p1 i_p2 ?_ FU 0 s_1 (B01.inR B01_0) h
    · intro s_2 h
      exact z_V g dX11_laysRows_61 h
theorem dX11_isFit_0 : decode cX11_isFit 0 = .ok (.aload_n 0, 1) := by decide +kernel
theorem dX11_isFit_1 : decode cX11_isFit 1 = .ok (.iload_n 1, 1) := by decide +kernel
theorem dX11_isFit_2 : decode cX11_isFit 2 = .ok (.invokevirtual 128, 3) := by decide +kernel
theorem dX11_isFit_5 : decode cX11_isFit 5 = .ok (.istore 4, 2) := by decide +kernel
theorem dX11_isFit_7 : decode cX11_isFit 7 = .ok (.iload_n 3, 1) := by decide +kernel
theorem dX11_isFit_8 : decode cX11_isFit 8 = .ok (.istore 5, 2) := by decide +kernel
theorem dX11_isFit_10 : decode cX11_isFit 10 = .ok (.iload 5, 2) := by decide +kernel
theorem dX11_isFit_12 : decode cX11_isFit 12 = .ok (.iload 4, 2) := by decide +kernel
theorem dX11_isFit_14 : decode cX11_isFit 14 = .ok (.if_icmp .ge 184, 3) := by decide +kernel
theorem dX11_isFit_17 : decode cX11_isFit 17 = .ok (.aload_n 0, 1) := by decide +kernel
theorem dX11_isFit_18 : decode cX11_isFit 18 = .ok (.getfield 31, 3) := by decide +kernel
theorem dX11_isFit_21 : decode cX11_isFit 21 = .ok (.iload 5, 2) := by decide +kernel
theorem dX11_isFit_23 : decode cX11_isFit 23 = .ok (.iaload, 1) := by decide +kernel
theorem dX11_isFit_24 : decode cX11_isFit 24 = .ok (.aload_n 0, 1) := by decide +kernel
theorem dX11_isFit_25 : decode cX11_isFit 25 = .ok (.getfield 34, 3) := by decide +kernel
theorem dX11_isFit_28 : decode cX11_isFit 28 = .ok (.iload 5, 2) := by decide +kernel
theorem dX11_isFit_30 : decode cX11_isFit 30 = .ok (.iload_n 3, 1) := by decide +kernel
theorem dX11_isFit_31 : decode cX11_isFit 31 = .ok (.isub, 1) := by decide +kernel
theorem dX11_isFit_32 : decode cX11_isFit 32 = .ok (.iaload, 1) := by decide +kernel
theorem dX11_isFit_33 : decode cX11_isFit 33 = .ok (.isub, 1) := by decide +kernel
theorem dX11_isFit_34 : decode cX11_isFit 34 = .ok (.iload_n 2, 1) := by decide +kernel
theorem dX11_isFit_35 : decode cX11_isFit 35 = .ok (.isub, 1) := by decide +kernel
theorem dX11_isFit_36 : decode cX11_isFit 36 = .ok (.bipush 7, 2) := by decide +kernel
theorem dX11_isFit_38 : decode cX11_isFit 38 = .ok (.invokestatic 79, 3) := by decide +kernel
theorem dX11_isFit_41 : decode cX11_isFit 41 = .ok (.istore 6, 2) := by decide +kernel
theorem dX11_isFit_43 : decode cX11_isFit 43 = .ok (.iload 5, 2) := by decide +kernel
theorem dX11_isFit_45 : decode cX11_isFit 45 = .ok (.aload_n 0, 1) := by decide +kernel
theorem dX11_isFit_46 : decode cX11_isFit 46 = .ok (.getfield 7, 3) := by decide +kernel
theorem dX11_isFit_49 : decode cX11_isFit 49 = .ok (.sipush 137, 3) := by decide +kernel
theorem dX11_isFit_52 : decode cX11_isFit 52 = .ok (.iaload, 1) := by decide +kernel
theorem dX11_isFit_53 : decode cX11_isFit 53 = .ok (.irem, 1) := by decide +kernel
theorem dX11_isFit_54 : decode cX11_isFit 54 = .ok (.ifCond .ne 24, 3) := by decide +kernel
theorem dX11_isFit_57 : decode cX11_isFit 57 = .ok (.iload 6, 2) := by decide +kernel
theorem dX11_isFit_59 : decode cX11_isFit 59 = .ok (.iconst 1, 1) := by decide +kernel
theorem dX11_isFit_60 : decode cX11_isFit 60 = .ok (.if_icmp .eq 16, 3) := by decide +kernel
theorem dX11_isFit_63 : decode cX11_isFit 63 = .ok (.iload 6, 2) := by decide +kernel
theorem dX11_isFit_65 : decode cX11_isFit 65 = .ok (.iconst 3, 1) := by decide +kernel
theorem dX11_isFit_66 : decode cX11_isFit 66 = .ok (.if_icmp .eq 10, 3) := by decide +kernel
theorem dX11_isFit_69 : decode cX11_isFit 69 = .ok (.iload 6, 2) := by decide +kernel
theorem dX11_isFit_71 : decode cX11_isFit 71 = .ok (.bipush 6, 2) := by decide +kernel
theorem dX11_isFit_73 : decode cX11_isFit 73 = .ok (.if_icmp .ne 5, 3) := by decide +kernel
theorem dX11_isFit_76 : decode cX11_isFit 76 = .ok (.iconst 0, 1) := by decide +kernel
theorem dX11_isFit_77 : decode cX11_isFit 77 = .ok (.ireturn, 1) := by decide +kernel
theorem dX11_isFit_78 : decode cX11_isFit 78 = .ok (.iload 5, 2) := by decide +kernel
theorem dX11_isFit_80 : decode cX11_isFit 80 = .ok (.iload_n 3, 1) := by decide +kernel
theorem dX11_isFit_81 : decode cX11_isFit 81 = .ok (.if_icmp .le 111, 3) := by decide +kernel
theorem dX11_isFit_84 : decode cX11_isFit 84 = .ok (.iload 6, 2) := by decide +kernel
theorem dX11_isFit_86 : decode cX11_isFit 86 = .ok (.ifCond .eq 9, 3) := by decide +kernel
theorem dX11_isFit_89 : decode cX11_isFit 89 = .ok (.iload 6, 2) := by decide +kernel
theorem dX11_isFit_91 : decode cX11_isFit 91 = .ok (.iconst 4, 1) := by decide +kernel
theorem dX11_isFit_92 : decode cX11_isFit 92 = .ok (.if_icmp .ne 100, 3) := by decide +kernel
theorem dX11_isFit_95 : decode cX11_isFit 95 = .ok (.aload_n 0, 1) := by decide +kernel
theorem dX11_isFit_96 : decode cX11_isFit 96 = .ok (.getfield 31, 3) := by decide +kernel
theorem dX11_isFit_99 : decode cX11_isFit 99 = .ok (.iload 5, 2) := by decide +kernel
theorem dX11_isFit_101 : decode cX11_isFit 101 = .ok (.iconst 1, 1) := by decide +kernel
theorem dX11_isFit_102 : decode cX11_isFit 102 = .ok (.isub, 1) := by decide +kernel
theorem dX11_isFit_103 : decode cX11_isFit 103 = .ok (.iaload, 1) := by decide +kernel
theorem dX11_isFit_104 : decode cX11_isFit 104 = .ok (.aload_n 0, 1) := by decide +kernel
theorem dX11_isFit_105 : decode cX11_isFit 105 = .ok (.getfield 34, 3) := by decide +kernel
theorem dX11_isFit_108 : decode cX11_isFit 108 = .ok (.iload 5, 2) := by decide +kernel
theorem dX11_isFit_110 : decode cX11_isFit 110 = .ok (.iconst 1, 1) := by decide +kernel
theorem dX11_isFit_111 : decode cX11_isFit 111 = .ok (.isub, 1) := by decide +kernel
theorem dX11_isFit_112 : decode cX11_isFit 112 = .ok (.iload_n 3, 1) := by decide +kernel
theorem dX11_isFit_113 : decode cX11_isFit 113 = .ok (.isub, 1) := by decide +kernel
theorem dX11_isFit_114 : decode cX11_isFit 114 = .ok (.iaload, 1) := by decide +kernel
theorem dX11_isFit_115 : decode cX11_isFit 115 = .ok (.isub, 1) := by decide +kernel
theorem dX11_isFit_116 : decode cX11_isFit 116 = .ok (.iload_n 2, 1) := by decide +kernel
theorem dX11_isFit_117 : decode cX11_isFit 117 = .ok (.isub, 1) := by decide +kernel
theorem dX11_isFit_118 : decode cX11_isFit 118 = .ok (.bipush 7, 2) := by decide +kernel
theorem dX11_isFit_120 : decode cX11_isFit 120 = .ok (.invokestatic 79, 3) := by decide +kernel
theorem dX11_isFit_123 : decode cX11_isFit 123 = .ok (.iload 6, 2) := by decide +kernel
theorem dX11_isFit_125 : decode cX11_isFit 125 = .ok (.if_icmp .ne 67, 3) := by decide +kernel
theorem dX11_isFit_128 : decode cX11_isFit 128 = .ok (.aload_n 0, 1) := by decide +kernel
theorem dX11_isFit_129 : decode cX11_isFit 129 = .ok (.getfield 31, 3) := by decide +kernel
theorem dX11_isFit_132 : decode cX11_isFit 132 = .ok (.iload 5, 2) := by decide +kernel
theorem dX11_isFit_134 : decode cX11_isFit 134 = .ok (.iaload, 1) := by decide +kernel
theorem dX11_isFit_135 : decode cX11_isFit 135 = .ok (.aload_n 0, 1) := by decide +kernel
theorem dX11_isFit_136 : decode cX11_isFit 136 = .ok (.getfield 31, 3) := by decide +kernel
theorem dX11_isFit_139 : decode cX11_isFit 139 = .ok (.iload 5, 2) := by decide +kernel
theorem dX11_isFit_141 : decode cX11_isFit 141 = .ok (.iconst 1, 1) := by decide +kernel
theorem dX11_isFit_142 : decode cX11_isFit 142 = .ok (.isub, 1) := by decide +kernel
theorem dX11_isFit_143 : decode cX11_isFit 143 = .ok (.iaload, 1) := by decide +kernel
theorem dX11_isFit_144 : decode cX11_isFit 144 = .ok (.isub, 1) := by decide +kernel
theorem dX11_isFit_145 : decode cX11_isFit 145 = .ok (.istore 7, 2) := by decide +kernel
theorem dX11_isFit_147 : decode cX11_isFit 147 = .ok (.aload_n 0, 1) := by decide +kernel
theorem dX11_isFit_148 : decode cX11_isFit 148 = .ok (.getfield 34, 3) := by decide +kernel
theorem dX11_isFit_151 : decode cX11_isFit 151 = .ok (.iload 5, 2) := by decide +kernel
theorem dX11_isFit_153 : decode cX11_isFit 153 = .ok (.iload_n 3, 1) := by decide +kernel
theorem dX11_isFit_154 : decode cX11_isFit 154 = .ok (.isub, 1) := by decide +kernel
theorem dX11_isFit_155 : decode cX11_isFit 155 = .ok (.iaload, 1) := by decide +kernel
theorem dX11_isFit_156 : decode cX11_isFit 156 = .ok (.aload_n 0, 1) := by decide +kernel
theorem dX11_isFit_157 : decode cX11_isFit 157 = .ok (.getfield 34, 3) := by decide +kernel
theorem dX11_isFit_160 : decode cX11_isFit 160 = .ok (.iload 5, 2) := by decide +kernel
theorem dX11_isFit_162 : decode cX11_isFit 162 = .ok (.iconst 1, 1) := by decide +kernel
theorem dX11_isFit_163 : decode cX11_isFit 163 = .ok (.isub, 1) := by decide +kernel
theorem dX11_isFit_164 : decode cX11_isFit 164 = .ok (.iload_n 3, 1) := by decide +kernel
theorem dX11_isFit_165 : decode cX11_isFit 165 = .ok (.isub, 1) := by decide +kernel
theorem dX11_isFit_166 : decode cX11_isFit 166 = .ok (.iaload, 1) := by decide +kernel
theorem dX11_isFit_167 : decode cX11_isFit 167 = .ok (.isub, 1) := by decide +kernel
theorem dX11_isFit_168 : decode cX11_isFit 168 = .ok (.istore 8, 2) := by decide +kernel
theorem dX11_isFit_170 : decode cX11_isFit 170 = .ok (.iload 7, 2) := by decide +kernel
theorem dX11_isFit_172 : decode cX11_isFit 172 = .ok (.ifCond .le 8, 3) := by decide +kernel
theorem dX11_isFit_175 : decode cX11_isFit 175 = .ok (.iload 8, 2) := by decide +kernel
theorem dX11_isFit_177 : decode cX11_isFit 177 = .ok (.ifCond .gt 13, 3) := by decide +kernel
theorem dX11_isFit_180 : decode cX11_isFit 180 = .ok (.iload 7, 2) := by decide +kernel
theorem dX11_isFit_182 : decode cX11_isFit 182 = .ok (.ifCond .ge 10, 3) := by decide +kernel
theorem dX11_isFit_185 : decode cX11_isFit 185 = .ok (.iload 8, 2) := by decide +kernel
theorem dX11_isFit_187 : decode cX11_isFit 187 = .ok (.ifCond .ge 5, 3) := by decide +kernel
theorem dX11_isFit_190 : decode cX11_isFit 190 = .ok (.iconst 0, 1) := by decide +kernel
theorem dX11_isFit_191 : decode cX11_isFit 191 = .ok (.ireturn, 1) := by decide +kernel
theorem dX11_isFit_192 : decode cX11_isFit 192 = .ok (.iinc 5 1, 3) := by decide +kernel
theorem dX11_isFit_195 : decode cX11_isFit 195 = .ok (.goto (-185), 3) := by decide +kernel
theorem dX11_isFit_198 : decode cX11_isFit 198 = .ok (.iconst 1, 1) := by decide +kernel
theorem dX11_isFit_199 : decode cX11_isFit 199 = .ok (.ireturn, 1) := by decide +kernel
set_option maxHeartbeats 4000000 in
set_option maxRecDepth 100000 in
theorem t_X11_isFit_L10 {l : Launch} {E : u_E} {K : u_K} {r : Int} {s' : u_S} (g : Wk l (XE E) { frames := 2, cells := 0, slots := 0, locals := 45 } cX11_isFit 9 yX11_isFit.cls yX11_isFit.name (some .boolean) (RZ E r s') K) {v0_1 : u_O} {v2_1 : Int} {v3_1 : Int} {v4_1 : Int} (i_v0_1 : is_Mo v0_1) (i_v2_1 : InR v2_1) (i_v3_1 : InR v3_1) (i_v4_1 : InR v4_1) {kx198 : u_S → Option (Int × u_S)} (hkx198 : ∀ (s_10 : u_S), kx198 s_10 = some (r, s') → K 0 0 198 [none, none, none, none, none, none, none, none, none] [] (Wd E s_10)) : ∀ (m : Nat) (v5_1 : Int) (s_3 : u_S), InR v5_1 → f_X11_isFit_L10 m kx198 v0_1 v2_1 v3_1 v4_1 v5_1 s_3 = some (r, s') → K 0 0 10 [some (.ref (E.1 v0_1)), none, some (.int (J v2_1)), some (.int (J v3_1)), some (.int (J v4_1)), some (.int (J v5_1)), none, none, none] [] (Wd E s_3) := by
  have g0 := g.wk
  intro m
  induction m with
  | zero =>
    intro v5_1 s_3 i_v5_1 h
    exact absurd (show (none : Option (Int × u_S)) = some (r, s') from h) (by intro z; cases z)
  | succ m ih =>
    intro v5_1 s_3 i_v5_1 h
    rw [f_X11_isFit_L10] at h
    refine r_iload g0 dX11_isFit_10 rfl ?_
    refine r_iload g0 dX11_isFit_12 rfl ?_
    refine r_icmp_ge g0 198 dX11_isFit_14 (by decide) i_v5_1 i_v4_1 (fun hc => ?_) (fun hc => ?_)
    · replace h := if_f hc h
      refine r_mask g0 (lv' := [none, none, none, none, none, none, none, none, none]) [false, false, false, false, false, false, false, false, false] rfl ?_
      exact hkx198 s_3 h
    · replace h := if_t hc h
      refine r_aload_n g0 dX11_isFit_17 rfl ?_
      refine g_Mo_plainRow g0 i_v0_1 qX11_31 dX11_isFit_18 ?_
      refine r_iload g0 dX11_isFit_21 rfl ?_
      obtain ⟨hb, h⟩ := gd_some h
      refine r_iaload g0 (is_a_Mo_plainRow i_v0_1) (n := 40) rfl i_v5_1 hb dX11_isFit_23 ?_
      refine r_aload_n g0 dX11_isFit_24 rfl ?_
      refine g_Mo_formRow g0 i_v0_1 qX11_34 dX11_isFit_25 ?_
      refine r_iload g0 dX11_isFit_28 rfl ?_
      refine r_iload_n g0 dX11_isFit_30 rfl ?_
      refine r_isub g0 dX11_isFit_31 ?_
      obtain ⟨hb, h⟩ := gd_some h
      refine r_iaload g0 (is_a_Mo_formRow i_v0_1) (n := 80) rfl (InR_wr _) hb dX11_isFit_32 ?_
      refine r_isub g0 dX11_isFit_33 ?_
      refine r_iload_n g0 dX11_isFit_34 rfl ?_
      refine r_isub g0 dX11_isFit_35 ?_
      refine r_bipush g0 dX11_isFit_36 rfl ?_
      obtain ⟨r_2, s_4, hr_2, h⟩ := bd_some h
      refine r_cSI g0 (rest := []) (c_X11_left (InR_wr _) (InR_lit rfl) hr_2) ok_X11_left mX11_79 dX11_isFit_38 ⟨Nat.le_of_ble_eq_true rfl, Nat.le_of_ble_eq_true rfl⟩ ⟨Nat.zero_le _, Nat.zero_le _⟩ rfl (Nat.le_of_ble_eq_true rfl) rfl (fun i_r_2 => ?_)
      refine r_istore g0 (lv' := [some (.ref (E.1 v0_1)), none, some (.int (J v2_1)), some (.int (J v3_1)), some (.int (J v4_1)), some (.int (J v5_1)), some (.int (J r_2)), none, none]) dX11_isFit_41 (by decide) rfl rfl ?_
      refine r_iload g0 dX11_isFit_43 rfl ?_
      refine r_aload_n g0 dX11_isFit_45 rfl ?_
      refine g_Mo_all g0 i_v0_1 qX11_7 dX11_isFit_46 ?_
      refine r_sipush g0 dX11_isFit_49 rfl ?_
      obtain ⟨hb, h⟩ := gd_some h
      refine r_iaload g0 (is_a_Mo_all i_v0_1) (n := 145) rfl (InR_lit rfl) hb dX11_isFit_52 ?_
      obtain ⟨hne, h⟩ := nz_some h
      refine r_irem g0 dX11_isFit_53 i_v5_1 (InR_rd _ _ _) hne ?_
      obtain ⟨jp_1, hdjp_1, h⟩ := jn_some h
      have hjp_1 : ∀  (s_5 : u_S), jp_1 s_5 = some (r, s') → K 0 0 78 [some (.ref (E.1 v0_1)), none, some (.int (J v2_1)), some (.int (J v3_1)), some (.int (J v4_1)), some (.int (J v5_1)), some (.int (J r_2)), none, none] [] (Wd E s_5) := by
        intro s_5 h
        subst hdjp_1
        refine r_iload g0 dX11_isFit_78 rfl ?_
        refine r_iload_n g0 dX11_isFit_80 rfl ?_
        obtain ⟨jp_2, hdjp_2, h⟩ := jn_some h
        have hjp_2 : ∀  (s_6 : u_S), jp_2 s_6 = some (r, s') → K 0 0 192 [some (.ref (E.1 v0_1)), none, some (.int (J v2_1)), some (.int (J v3_1)), some (.int (J v4_1)), some (.int (J v5_1)), none, none, none] [] (Wd E s_6) := by
          intro s_6 h
          subst hdjp_2
          refine r_iinc g0 (a := v5_1) (lv' := [some (.ref (E.1 v0_1)), none, some (.int (J v2_1)), some (.int (J v3_1)), some (.int (J v4_1)), some (.int (J (wr (v5_1 + 1)))), none, none, none]) dX11_isFit_192 (by decide) rfl rfl rfl ?_
          refine r_goto g0 10 dX11_isFit_195 (by decide) ?_
          exact ih (wr (v5_1 + 1)) s_6 (InR_wr _) h
        clear hdjp_2
        refine r_icmp_le g0 192 dX11_isFit_81 (by decide) i_v5_1 i_v3_1 (fun hc => ?_) (fun hc => ?_)
        · replace h := if_t hc h
          refine r_mask g0 (lv' := [some (.ref (E.1 v0_1)), none, some (.int (J v2_1)), some (.int (J v3_1)), some (.int (J v4_1)), some (.int (J v5_1)), none, none, none]) [true, false, true, true, true, true, false, false, false] rfl ?_
          exact hjp_2 s_5 h
        · replace h := if_f hc h
          refine r_iload g0 dX11_isFit_84 rfl ?_
          obtain ⟨jp_3, hdjp_3, h⟩ := jn_some h
          have hjp_3 : ∀  (s_7 : u_S), jp_3 s_7 = some (r, s') → K 0 0 95 [some (.ref (E.1 v0_1)), none, some (.int (J v2_1)), some (.int (J v3_1)), some (.int (J v4_1)), some (.int (J v5_1)), some (.int (J r_2)), none, none] [] (Wd E s_7) := by
            intro s_7 h
            subst hdjp_3
            refine r_aload_n g0 dX11_isFit_95 rfl ?_
            refine g_Mo_plainRow g0 i_v0_1 qX11_31 dX11_isFit_96 ?_
            refine r_iload g0 dX11_isFit_99 rfl ?_
            refine r_iconst g0 dX11_isFit_101 ?_
            refine r_isub g0 dX11_isFit_102 ?_
            obtain ⟨hb, h⟩ := gd_some h
            refine r_iaload g0 (is_a_Mo_plainRow i_v0_1) (n := 40) rfl (InR_wr _) hb dX11_isFit_103 ?_
            refine r_aload_n g0 dX11_isFit_104 rfl ?_
            refine g_Mo_formRow g0 i_v0_1 qX11_34 dX11_isFit_105 ?_
            refine r_iload g0 dX11_isFit_108 rfl ?_
            refine r_iconst g0 dX11_isFit_110 ?_
            refine r_isub g0 dX11_isFit_111 ?_
            refine r_iload_n g0 dX11_isFit_112 rfl ?_
            refine r_isub g0 dX11_isFit_113 ?_
            obtain ⟨hb, h⟩ := gd_some h
            refine r_iaload g0 (is_a_Mo_formRow i_v0_1) (n := 80) rfl (InR_wr _) hb dX11_isFit_114 ?_
            refine r_isub g0 dX11_isFit_115 ?_
            refine r_iload_n g0 dX11_isFit_116 rfl ?_
            refine r_isub g0 dX11_isFit_117 ?_
            refine r_bipush g0 dX11_isFit_118 rfl ?_
            obtain ⟨r_3, s_8, hr_3, h⟩ := bd_some h
            refine r_cSI g0 (rest := []) (c_X11_left (InR_wr _) (InR_lit rfl) hr_3) ok_X11_left mX11_79 dX11_isFit_120 ⟨Nat.le_of_ble_eq_true rfl, Nat.le_of_ble_eq_true rfl⟩ ⟨Nat.zero_le _, Nat.zero_le _⟩ rfl (Nat.le_of_ble_eq_true rfl) rfl (fun i_r_3 => ?_)
            refine r_iload g0 dX11_isFit_123 rfl ?_
            refine r_icmp_ne g0 192 dX11_isFit_125 (by decide) i_r_3 i_r_2 (fun hc => ?_) (fun hc => ?_)
            · replace h := if_f hc h
              refine r_mask g0 (lv' := [some (.ref (E.1 v0_1)), none, some (.int (J v2_1)), some (.int (J v3_1)), some (.int (J v4_1)), some (.int (J v5_1)), none, none, none]) [true, false, true, true, true, true, false, false, false] rfl ?_
              exact hjp_2 s_8 h
            · replace h := if_t hc h
              refine r_aload_n g0 dX11_isFit_128 rfl ?_
              refine g_Mo_plainRow g0 i_v0_1 qX11_31 dX11_isFit_129 ?_
              refine r_iload g0 dX11_isFit_132 rfl ?_
              obtain ⟨hb, h⟩ := gd_some h
              refine r_iaload g0 (is_a_Mo_plainRow i_v0_1) (n := 40) rfl i_v5_1 hb dX11_isFit_134 ?_
              refine r_aload_n g0 dX11_isFit_135 rfl ?_
              refine g_Mo_plainRow g0 i_v0_1 qX11_31 dX11_isFit_136 ?_
              refine r_iload g0 dX11_isFit_139 rfl ?_
              refine r_iconst g0 dX11_isFit_141 ?_
              refine r_isub g0 dX11_isFit_142 ?_
              obtain ⟨hb, h⟩ := gd_some h
              refine r_iaload g0 (is_a_Mo_plainRow i_v0_1) (n := 40) rfl (InR_wr _) hb dX11_isFit_143 ?_
              refine r_isub g0 dX11_isFit_144 ?_
              refine r_istore g0 (lv' := [some (.ref (E.1 v0_1)), none, some (.int (J v2_1)), some (.int (J v3_1)), some (.int (J v4_1)), some (.int (J v5_1)), some (.int (J r_2)), some (.int (J (wr ((rd s_8 (a_Mo_plainRow v0_1) v5_1) - (rd s_8 (a_Mo_plainRow v0_1) (wr (v5_1 - 1))))))), none]) dX11_isFit_145 (by decide) rfl rfl ?_
              refine r_aload_n g0 dX11_isFit_147 rfl ?_
              refine g_Mo_formRow g0 i_v0_1 qX11_34 dX11_isFit_148 ?_
              refine r_iload g0 dX11_isFit_151 rfl ?_
              refine r_iload_n g0 dX11_isFit_153 rfl ?_
              refine r_isub g0 dX11_isFit_154 ?_
              obtain ⟨hb, h⟩ := gd_some h
              refine r_iaload g0 (is_a_Mo_formRow i_v0_1) (n := 80) rfl (InR_wr _) hb dX11_isFit_155 ?_
              refine r_aload_n g0 dX11_isFit_156 rfl ?_
              refine g_Mo_formRow g0 i_v0_1 qX11_34 dX11_isFit_157 ?_
              refine r_iload g0 dX11_isFit_160 rfl ?_
              refine r_iconst g0 dX11_isFit_162 ?_
              refine r_isub g0 dX11_isFit_163 ?_
              refine r_iload_n g0 dX11_isFit_164 rfl ?_
              refine r_isub g0 dX11_isFit_165 ?_
              obtain ⟨hb, h⟩ := gd_some h
              refine r_iaload g0 (is_a_Mo_formRow i_v0_1) (n := 80) rfl (InR_wr _) hb dX11_isFit_166 ?_
              refine r_isub g0 dX11_isFit_167 ?_
              refine r_istore g0 (lv' := [some (.ref (E.1 v0_1)), none, some (.int (J v2_1)), some (.int (J v3_1)), some (.int (J v4_1)), some (.int (J v5_1)), some (.int (J r_2)), some (.int (J (wr ((rd s_8 (a_Mo_plainRow v0_1) v5_1) - (rd s_8 (a_Mo_plainRow v0_1) (wr (v5_1 - 1))))))), some (.int (J (wr ((rd s_8 (a_Mo_formRow v0_1) (wr (v5_1 - v3_1))) - (rd s_8 (a_Mo_formRow v0_1) (wr ((wr (v5_1 - 1)) - v3_1)))))))]) dX11_isFit_168 (by decide) rfl rfl ?_
              refine r_iload g0 dX11_isFit_170 rfl ?_
              obtain ⟨jp_4, hdjp_4, h⟩ := jn_some h
              have hjp_4 : ∀  (s_9 : u_S), jp_4 s_9 = some (r, s') → K 0 0 180 [some (.ref (E.1 v0_1)), none, some (.int (J v2_1)), some (.int (J v3_1)), some (.int (J v4_1)), some (.int (J v5_1)), none, some (.int (J (wr ((rd s_8 (a_Mo_plainRow v0_1) v5_1) - (rd s_8 (a_Mo_plainRow v0_1) (wr (v5_1 - 1))))))), some (.int (J (wr ((rd s_8 (a_Mo_formRow v0_1) (wr (v5_1 - v3_1))) - (rd s_8 (a_Mo_formRow v0_1) (wr ((wr (v5_1 - 1)) - v3_1)))))))] [] (Wd E s_9) := by
                intro s_9 h
                subst hdjp_4
                refine r_iload g0 dX11_isFit_180 rfl ?_
                refine r_if_ge g0 192 dX11_isFit_182 (by decide) (InR_wr _) (fun hc => ?_) (fun hc => ?_)
                · replace h := if_f hc h
                  refine r_mask g0 (lv' := [some (.ref (E.1 v0_1)), none, some (.int (J v2_1)), some (.int (J v3_1)), some (.int (J v4_1)), some (.int (J v5_1)), none, none, none]) [true, false, true, true, true, true, false, false, false] rfl ?_
                  exact hjp_2 s_9 h
                · replace h := if_t hc h
                  refine r_iload g0 dX11_isFit_185 rfl ?_
                  refine r_if_ge g0 192 dX11_isFit_187 (by decide) (InR_wr _) (fun hc => ?_) (fun hc => ?_)
                  · replace h := if_f hc h
                    refine r_mask g0 (lv' := [some (.ref (E.1 v0_1)), none, some (.int (J v2_1)), some (.int (J v3_1)), some (.int (J v4_1)), some (.int (J v5_1)), none, none, none]) [true, false, true, true, true, true, false, false, false] rfl ?_
                    exact hjp_2 s_9 h
                  · replace h := if_t hc h
                    refine r_iconst g0 dX11_isFit_190 ?_
                    exact z_Z g dX11_isFit_191 B01_0 h
              clear hdjp_4
              refine r_if_le g0 180 dX11_isFit_172 (by decide) (InR_wr _) (fun hc => ?_) (fun hc => ?_)
              · replace h := if_t hc h
                refine r_mask g0 (lv' := [some (.ref (E.1 v0_1)), none, some (.int (J v2_1)), some (.int (J v3_1)), some (.int (J v4_1)), some (.int (J v5_1)), none, some (.int (J (wr ((rd s_8 (a_Mo_plainRow v0_1) v5_1) - (rd s_8 (a_Mo_plainRow v0_1) (wr (v5_1 - 1))))))), some (.int (J (wr ((rd s_8 (a_Mo_formRow v0_1) (wr (v5_1 - v3_1))) - (rd s_8 (a_Mo_formRow v0_1) (wr ((wr (v5_1 - 1)) - v3_1)))))))]) [true, false, true, true, true, true, false, true, true] rfl ?_
                exact hjp_4 s_8 h
              · replace h := if_f hc h
                refine r_iload g0 dX11_isFit_175 rfl ?_
                refine r_if_gt g0 190 dX11_isFit_177 (by decide) (InR_wr _) (fun hc => ?_) (fun hc => ?_)
                · replace h := if_f hc h
                  refine r_iconst g0 dX11_isFit_190 ?_
                  exact z_Z g dX11_isFit_191 B01_0 h
                · replace h := if_t hc h
                  refine r_mask g0 (lv' := [some (.ref (E.1 v0_1)), none, some (.int (J v2_1)), some (.int (J v3_1)), some (.int (J v4_1)), some (.int (J v5_1)), none, some (.int (J (wr ((rd s_8 (a_Mo_plainRow v0_1) v5_1) - (rd s_8 (a_Mo_plainRow v0_1) (wr (v5_1 - 1))))))), some (.int (J (wr ((rd s_8 (a_Mo_formRow v0_1) (wr (v5_1 - v3_1))) - (rd s_8 (a_Mo_formRow v0_1) (wr ((wr (v5_1 - 1)) - v3_1)))))))]) [true, false, true, true, true, true, false, true, true] rfl ?_
                  exact hjp_4 s_8 h
          clear hdjp_3
          refine r_if_eq g0 95 dX11_isFit_86 (by decide) i_r_2 (fun hc => ?_) (fun hc => ?_)
          · replace h := if_t hc h
            exact hjp_3 s_5 h
          · replace h := if_f hc h
            refine r_iload g0 dX11_isFit_89 rfl ?_
            refine r_iconst g0 dX11_isFit_91 ?_
            refine r_icmp_ne g0 192 dX11_isFit_92 (by decide) i_r_2 (InR_lit rfl) (fun hc => ?_) (fun hc => ?_)
            · replace h := if_f hc h
              refine r_mask g0 (lv' := [some (.ref (E.1 v0_1)), none, some (.int (J v2_1)), some (.int (J v3_1)), some (.int (J v4_1)), some (.int (J v5_1)), none, none, none]) [true, false, true, true, true, true, false, false, false] rfl ?_
              exact hjp_2 s_5 h
            · replace h := if_t hc h
              exact hjp_3 s_5 h
      clear hdjp_1
      refine r_if_ne g0 78 dX11_isFit_54 (by decide) (InR_rem _ i_v5_1) (fun hc => ?_) (fun hc => ?_)
      · replace h := if_f hc h
        exact hjp_1 s_4 h
      · replace h := if_t hc h
        refine r_iload g0 dX11_isFit_57 rfl ?_
        refine r_iconst g0 dX11_isFit_59 ?_
        refine r_icmp_eq g0 76 dX11_isFit_60 (by decide) i_r_2 (B01.inR B01_1) (fun hc => ?_) (fun hc => ?_)
        · replace h := if_t hc h
          refine r_iconst g0 dX11_isFit_76 ?_
          exact z_Z g dX11_isFit_77 B01_0 h
        · replace h := if_f hc h
          refine r_iload g0 dX11_isFit_63 rfl ?_
          refine r_iconst g0 dX11_isFit_65 ?_
          refine r_icmp_eq g0 76 dX11_isFit_66 (by decide) i_r_2 (InR_lit rfl) (fun hc => ?_) (fun hc => ?_)
          · replace h := if_t hc h
            refine r_iconst g0 dX11_isFit_76 ?_
            exact z_Z g dX11_isFit_77 B01_0 h
          · replace h := if_f hc h
            refine r_iload g0 dX11_isFit_69 rfl ?_
            refine r_bipush g0 dX11_isFit_71 rfl ?_
            refine r_icmp_ne g0 78 dX11_isFit_73 (by decide) i_r_2 (InR_lit rfl) (fun hc => ?_) (fun hc => ?_)
            · replace h := if_f hc h
              exact hjp_1 s_4 h
            · replace h := if_t hc h
              refine r_iconst g0 dX11_isFit_76 ?_
              exact z_Z g dX11_isFit_77 B01_0 h
set_option maxHeartbeats 4000000 in
set_option maxRecDepth 100000 in
theorem c_X11_isFit {E : u_E} {l : Launch} {o : u_O} {p1 : Int} {p2 : Int} {p3 : Int} (ho : is_Mo o) (i_p1 : InR p1) (i_p2 : InR p2) (i_p3 : InR p3) {s s' : u_S} {r : Int} (h : f_X11_isFit o p1 p2 p3 s = some (r, s')) : Con l (XE E) yX11_isFit cX11_isFit 9 (some .boolean) 2 45 0 0 [.ref (E.1 o), .int (J p1), .int (J p2), .int (J p3)] (Wd E s) (RZ E r s') := by
  refine Con.of [some (.ref (E.1 o)), some (.int (J p1)), some (.int (J p2)), some (.int (J p3)), none, none, none, none, none] (by decide +kernel) rfl rfl (Nat.le_of_ble_eq_true rfl) (fun K g => ?_)
  have g0 := g.wk
  unfold f_X11_isFit at h
  refine r_aload_n g0 dX11_isFit_0 rfl ?_
  refine r_iload_n g0 dX11_isFit_1 rfl ?_
  obtain ⟨r_1, s_1, hr_1, h⟩ := bd_some h
  refine r_cVI g0 (rest := []) (c_X11_length ho i_p1 hr_1) ok_X11_length mX11_128 (recv_Mo ho) dX11_isFit_2 ⟨Nat.le_of_ble_eq_true rfl, Nat.le_of_ble_eq_true rfl⟩ ⟨Nat.zero_le _, Nat.zero_le _⟩ rfl (Nat.le_of_ble_eq_true rfl) rfl (fun i_r_1 => ?_)
  refine r_istore g0 (lv' := [some (.ref (E.1 o)), some (.int (J p1)), some (.int (J p2)), some (.int (J p3)), some (.int (J r_1)), none, none, none, none]) dX11_isFit_5 (by decide) rfl rfl ?_
  refine r_iload_n g0 dX11_isFit_7 rfl ?_
  refine r_istore g0 (lv' := [some (.ref (E.1 o)), some (.int (J p1)), some (.int (J p2)), some (.int (J p3)), some (.int (J r_1)), some (.int (J p3)), none, none, none]) dX11_isFit_8 (by decide) rfl rfl ?_
  refine r_mask g0 (lv' := [some (.ref (E.1 o)), none, some (.int (J p2)), some (.int (J p3)), some (.int (J r_1)), some (.int (J p3)), none, none, none]) [true, false, true, true, true, true, false, false, false] rfl ?_
  refine t_X11_isFit_L10 g ho i_p2 i_p3 i_r_1 ?_ FU p3 s_1 i_p3 h
  · intro s_2 h
    refine r_iconst g0 dX11_isFit_198 ?_
    exact z_Z g dX11_isFit_199 B01_1 h
theorem dX11_strettos_0 : decode cX11_strettos 0 = .ok (.iload_n 1, 1) := by decide +kernel
theorem dX11_strettos_1 : decode cX11_strettos 1 = .ok (.iload_n 2, 1) := by decide +kernel
theorem dX11_strettos_2 : decode cX11_strettos 2 = .ok (.iload_n 3, 1) := by decide +kernel
theorem dX11_strettos_3 : decode cX11_strettos 3 = .ok (.invokestatic 228, 3) := by decide +kernel
theorem dX11_strettos_6 : decode cX11_strettos 6 = .ok (.ifCond .ne 11, 3) := by decide +kernel
theorem dX11_strettos_9 : decode cX11_strettos 9 = .ok (.aload_n 0, 1) := by decide +kernel
theorem dX11_strettos_10 : decode cX11_strettos 10 = .ok (.bipush (-2), 2) := by decide +kernel
theorem dX11_strettos_12 : decode cX11_strettos 12 = .ok (.invokevirtual 97, 3) := by decide +kernel
theorem dX11_strettos_15 : decode cX11_strettos 15 = .ok (.i2l, 1) := by decide +kernel
theorem dX11_strettos_16 : decode cX11_strettos 16 = .ok (.lreturn, 1) := by decide +kernel
theorem dX11_strettos_17 : decode cX11_strettos 17 = .ok (.lconst 0, 1) := by decide +kernel
theorem dX11_strettos_18 : decode cX11_strettos 18 = .ok (.lstore 4, 2) := by decide +kernel
theorem dX11_strettos_20 : decode cX11_strettos 20 = .ok (.aload_n 0, 1) := by decide +kernel
theorem dX11_strettos_21 : decode cX11_strettos 21 = .ok (.iload_n 1, 1) := by decide +kernel
theorem dX11_strettos_22 : decode cX11_strettos 22 = .ok (.invokevirtual 128, 3) := by decide +kernel
theorem dX11_strettos_25 : decode cX11_strettos 25 = .ok (.istore 6, 2) := by decide +kernel
theorem dX11_strettos_27 : decode cX11_strettos 27 = .ok (.aload_n 0, 1) := by decide +kernel
theorem dX11_strettos_28 : decode cX11_strettos 28 = .ok (.iload_n 1, 1) := by decide +kernel
theorem dX11_strettos_29 : decode cX11_strettos 29 = .ok (.iload_n 2, 1) := by decide +kernel
theorem dX11_strettos_30 : decode cX11_strettos 30 = .ok (.invokevirtual 236, 3) := by decide +kernel
theorem dX11_strettos_33 : decode cX11_strettos 33 = .ok (.iconst 1, 1) := by decide +kernel
theorem dX11_strettos_34 : decode cX11_strettos 34 = .ok (.istore 7, 2) := by decide +kernel
theorem dX11_strettos_36 : decode cX11_strettos 36 = .ok (.iload 7, 2) := by decide +kernel
theorem dX11_strettos_38 : decode cX11_strettos 38 = .ok (.iload 6, 2) := by decide +kernel
theorem dX11_strettos_40 : decode cX11_strettos 40 = .ok (.if_icmp .ge 33, 3) := by decide +kernel
theorem dX11_strettos_43 : decode cX11_strettos 43 = .ok (.lload 4, 2) := by decide +kernel
theorem dX11_strettos_45 : decode cX11_strettos 45 = .ok (.aload_n 0, 1) := by decide +kernel
theorem dX11_strettos_46 : decode cX11_strettos 46 = .ok (.iload_n 1, 1) := by decide +kernel
theorem dX11_strettos_47 : decode cX11_strettos 47 = .ok (.iload_n 3, 1) := by decide +kernel
theorem dX11_strettos_48 : decode cX11_strettos 48 = .ok (.iload 7, 2) := by decide +kernel
theorem dX11_strettos_50 : decode cX11_strettos 50 = .ok (.invokevirtual 240, 3) := by decide +kernel
theorem dX11_strettos_53 : decode cX11_strettos 53 = .ok (.ifCond .eq 10, 3) := by decide +kernel
theorem dX11_strettos_56 : decode cX11_strettos 56 = .ok (.lconst 1, 1) := by decide +kernel
theorem dX11_strettos_57 : decode cX11_strettos 57 = .ok (.iload 7, 2) := by decide +kernel
theorem dX11_strettos_59 : decode cX11_strettos 59 = .ok (.lshl, 1) := by decide +kernel
theorem dX11_strettos_60 : decode cX11_strettos 60 = .ok (.goto 4, 3) := by decide +kernel
theorem dX11_strettos_63 : decode cX11_strettos 63 = .ok (.lconst 0, 1) := by decide +kernel
theorem dX11_strettos_64 : decode cX11_strettos 64 = .ok (.lor, 1) := by decide +kernel
theorem dX11_strettos_65 : decode cX11_strettos 65 = .ok (.lstore 4, 2) := by decide +kernel
theorem dX11_strettos_67 : decode cX11_strettos 67 = .ok (.iinc 7 1, 3) := by decide +kernel
theorem dX11_strettos_70 : decode cX11_strettos 70 = .ok (.goto (-34), 3) := by decide +kernel
theorem dX11_strettos_73 : decode cX11_strettos 73 = .ok (.lload 4, 2) := by decide +kernel
theorem dX11_strettos_75 : decode cX11_strettos 75 = .ok (.lreturn, 1) := by decide +kernel
set_option maxHeartbeats 4000000 in
set_option maxRecDepth 100000 in
theorem t_X11_strettos_L36 {l : Launch} {E : u_E} {K : u_K} {r : Int} {s' : u_S} (g : Wk l (XE E) { frames := 4, cells := 0, slots := 0, locals := 94 } cX11_strettos 8 yX11_strettos.cls yX11_strettos.name (some .long) (RJ E r s') K) {v0_1 : u_O} {v1_1 : Int} {v3_1 : Int} {v6_1 : Int} (i_v0_1 : is_Mo v0_1) (i_v1_1 : InR v1_1) (i_v3_1 : InR v3_1) (i_v6_1 : InR v6_1) {kx73 : Int → u_S → Option (Int × u_S)} (hkx73 : ∀ (v4_3 : Int) (s_8 : u_S), InL v4_3 → kx73 v4_3 s_8 = some (r, s') → K 0 0 73 [none, none, none, none, some (.long (JL v4_3)), none, none, none] [] (Wd E s_8)) : ∀ (m : Nat) (v4_2 : Int) (v7_1 : Int) (s_5 : u_S), InL v4_2 → InR v7_1 → f_X11_strettos_L36 m kx73 v0_1 v1_1 v3_1 v6_1 v4_2 v7_1 s_5 = some (r, s') → K 0 0 36 [some (.ref (E.1 v0_1)), some (.int (J v1_1)), none, some (.int (J v3_1)), some (.long (JL v4_2)), none, some (.int (J v6_1)), some (.int (J v7_1))] [] (Wd E s_5) := by
  have g0 := g.wk
  intro m
  induction m with
  | zero =>
    intro v4_2 v7_1 s_5 i_v4_2 i_v7_1 h
    exact absurd (show (none : Option (Int × u_S)) = some (r, s') from h) (by intro z; cases z)
  | succ m ih =>
    intro v4_2 v7_1 s_5 i_v4_2 i_v7_1 h
    rw [f_X11_strettos_L36] at h
    refine r_iload g0 dX11_strettos_36 rfl ?_
    refine r_iload g0 dX11_strettos_38 rfl ?_
    refine r_icmp_ge g0 73 dX11_strettos_40 (by decide) i_v7_1 i_v6_1 (fun hc => ?_) (fun hc => ?_)
    · replace h := if_f hc h
      refine r_mask g0 (lv' := [none, none, none, none, some (.long (JL v4_2)), none, none, none]) [false, false, false, false, true, false, false, false] rfl ?_
      exact hkx73 v4_2 s_5 i_v4_2 h
    · replace h := if_t hc h
      refine r_lload g0 dX11_strettos_43 rfl ?_
      refine r_aload_n g0 dX11_strettos_45 rfl ?_
      refine r_iload_n g0 dX11_strettos_46 rfl ?_
      refine r_iload_n g0 dX11_strettos_47 rfl ?_
      refine r_iload g0 dX11_strettos_48 rfl ?_
      obtain ⟨r_4, s_6, hr_4, h⟩ := bd_some h
      refine r_cVZ g0 (rest := [.long (JL v4_2)]) (c_X11_isFit i_v0_1 i_v1_1 i_v3_1 i_v7_1 hr_4) ok_X11_isFit mX11_240 (recv_Mo i_v0_1) dX11_strettos_50 ⟨Nat.le_of_ble_eq_true rfl, Nat.le_of_ble_eq_true rfl⟩ ⟨Nat.zero_le _, Nat.zero_le _⟩ rfl (Nat.le_of_ble_eq_true rfl) rfl (fun i_r_4 => ?_)
      obtain ⟨jp_1, hdjp_1, h⟩ := jn_some h
      have hjp_1 : ∀ (vt_1 : Int) (vt_2 : Int) (s_7 : u_S), InL vt_1 → InL vt_2 → jp_1 vt_1 vt_2 s_7 = some (r, s') → K 0 0 64 [some (.ref (E.1 v0_1)), some (.int (J v1_1)), none, some (.int (J v3_1)), none, none, some (.int (J v6_1)), some (.int (J v7_1))] [.long (JL vt_2), .long (JL vt_1)] (Wd E s_7) := by
        intro vt_1 vt_2 s_7 i_vt_1 i_vt_2 h
        subst hdjp_1
        refine r_lor g0 dX11_strettos_64 ?_
        refine r_lstore g0 (lv' := [some (.ref (E.1 v0_1)), some (.int (J v1_1)), none, some (.int (J v3_1)), some (.long (JL (lor vt_1 vt_2))), none, some (.int (J v6_1)), some (.int (J v7_1))]) dX11_strettos_65 (by decide) rfl rfl ?_
        refine r_iinc g0 (a := v7_1) (lv' := [some (.ref (E.1 v0_1)), some (.int (J v1_1)), none, some (.int (J v3_1)), some (.long (JL (lor vt_1 vt_2))), none, some (.int (J v6_1)), some (.int (J (wr (v7_1 + 1))))]) dX11_strettos_67 (by decide) rfl rfl rfl ?_
        refine r_goto g0 36 dX11_strettos_70 (by decide) ?_
        exact ih (lor vt_1 vt_2) (wr (v7_1 + 1)) s_7 (InL_to _) (InR_wr _) h
      clear hdjp_1
      refine r_if_eq g0 63 dX11_strettos_53 (by decide) (B01.inR i_r_4) (fun hc => ?_) (fun hc => ?_)
      · replace h := if_t hc h
        refine r_lconst g0 (v := 0) dX11_strettos_63 rfl ?_
        refine r_mask g0 (lv' := [some (.ref (E.1 v0_1)), some (.int (J v1_1)), none, some (.int (J v3_1)), none, none, some (.int (J v6_1)), some (.int (J v7_1))]) [true, true, false, true, false, false, true, true] rfl ?_
        exact hjp_1 v4_2 0 s_6 i_v4_2 (InL_lit rfl) h
      · replace h := if_f hc h
        refine r_lconst g0 (v := 1) dX11_strettos_56 rfl ?_
        refine r_iload g0 dX11_strettos_57 rfl ?_
        refine r_lshl g0 dX11_strettos_59 ?_
        refine r_goto g0 64 dX11_strettos_60 (by decide) ?_
        refine r_mask g0 (lv' := [some (.ref (E.1 v0_1)), some (.int (J v1_1)), none, some (.int (J v3_1)), none, none, some (.int (J v6_1)), some (.int (J v7_1))]) [true, true, false, true, false, false, true, true] rfl ?_
        exact hjp_1 v4_2 (lshl 1 v7_1) s_6 i_v4_2 (InL_to _) h
set_option maxHeartbeats 4000000 in
set_option maxRecDepth 100000 in
theorem c_X11_strettos {E : u_E} {l : Launch} {o : u_O} {p1 : Int} {p2 : Int} {p3 : Int} (ho : is_Mo o) (i_p1 : InR p1) (i_p2 : InR p2) (i_p3 : InR p3) {s s' : u_S} {r : Int} (h : f_X11_strettos o p1 p2 p3 s = some (r, s')) : Con l (XE E) yX11_strettos cX11_strettos 8 (some .long) 4 94 0 0 [.ref (E.1 o), .int (J p1), .int (J p2), .int (J p3)] (Wd E s) (RJ E r s') := by
  refine Con.of [some (.ref (E.1 o)), some (.int (J p1)), some (.int (J p2)), some (.int (J p3)), none, none, none, none] (by decide +kernel) rfl rfl (Nat.le_of_ble_eq_true rfl) (fun K g => ?_)
  have g0 := g.wk
  unfold f_X11_strettos at h
  refine r_iload_n g0 dX11_strettos_0 rfl ?_
  refine r_iload_n g0 dX11_strettos_1 rfl ?_
  refine r_iload_n g0 dX11_strettos_2 rfl ?_
  obtain ⟨r_1, s_1, hr_1, h⟩ := bd_some h
  refine r_cSZ g0 (rest := []) (c_X11_isMoved i_p1 i_p2 i_p3 hr_1) ok_X11_isMoved mX11_228 dX11_strettos_3 ⟨Nat.le_of_ble_eq_true rfl, Nat.le_of_ble_eq_true rfl⟩ ⟨Nat.zero_le _, Nat.zero_le _⟩ rfl (Nat.le_of_ble_eq_true rfl) rfl (fun i_r_1 => ?_)
  refine r_if_ne g0 17 dX11_strettos_6 (by decide) (B01.inR i_r_1) (fun hc => ?_) (fun hc => ?_)
  · replace h := if_f hc h
    refine r_lconst g0 (v := 0) dX11_strettos_17 rfl ?_
    refine r_lstore g0 (lv' := [some (.ref (E.1 o)), some (.int (J p1)), some (.int (J p2)), some (.int (J p3)), some (.long (JL 0)), none, none, none]) dX11_strettos_18 (by decide) rfl rfl ?_
    refine r_aload_n g0 dX11_strettos_20 rfl ?_
    refine r_iload_n g0 dX11_strettos_21 rfl ?_
    obtain ⟨r_2, s_2, hr_2, h⟩ := bd_some h
    refine r_cVI g0 (rest := []) (c_X11_length ho i_p1 hr_2) ok_X11_length mX11_128 (recv_Mo ho) dX11_strettos_22 ⟨Nat.le_of_ble_eq_true rfl, Nat.le_of_ble_eq_true rfl⟩ ⟨Nat.zero_le _, Nat.zero_le _⟩ rfl (Nat.le_of_ble_eq_true rfl) rfl (fun i_r_2 => ?_)
    refine r_istore g0 (lv' := [some (.ref (E.1 o)), some (.int (J p1)), some (.int (J p2)), some (.int (J p3)), some (.long (JL 0)), none, some (.int (J r_2)), none]) dX11_strettos_25 (by decide) rfl rfl ?_
    refine r_aload_n g0 dX11_strettos_27 rfl ?_
    refine r_iload_n g0 dX11_strettos_28 rfl ?_
    refine r_iload_n g0 dX11_strettos_29 rfl ?_
    obtain ⟨r_3, s_3, hr_3, h⟩ := bd_some h
    refine r_cVV g0 (rest := []) (c_X11_laysRows ho i_p1 i_p2 hr_3) ok_X11_laysRows mX11_236 (recv_Mo ho) dX11_strettos_30 ⟨Nat.le_of_ble_eq_true rfl, Nat.le_of_ble_eq_true rfl⟩ ⟨Nat.zero_le _, Nat.zero_le _⟩ rfl (Nat.le_of_ble_eq_true rfl) rfl ?_
    refine r_iconst g0 dX11_strettos_33 ?_
    refine r_istore g0 (lv' := [some (.ref (E.1 o)), some (.int (J p1)), some (.int (J p2)), some (.int (J p3)), some (.long (JL 0)), none, some (.int (J r_2)), some (.int (J 1))]) dX11_strettos_34 (by decide) rfl rfl ?_
    refine r_mask g0 (lv' := [some (.ref (E.1 o)), some (.int (J p1)), none, some (.int (J p3)), some (.long (JL 0)), none, some (.int (J r_2)), some (.int (J 1))]) [true, true, false, true, true, false, true, true] rfl ?_
    refine t_X11_strettos_L36 g ho i_p1 i_p3 i_r_2 ?_ FU 0 1 s_3 (InL_lit rfl) (B01.inR B01_1) h
    · intro v4_1 s_4 i_v4_1 h
      refine r_lload g0 dX11_strettos_73 rfl ?_
      exact z_J g dX11_strettos_75 i_v4_1 h
  · replace h := if_t hc h
    refine r_aload_n g0 dX11_strettos_9 rfl ?_
    refine r_bipush g0 dX11_strettos_10 rfl ?_
    obtain ⟨r_5, s_9, hr_5, h⟩ := bd_some h
    refine r_cVI g0 (rest := []) (c_X11_refuses ho (InR_lit rfl) hr_5) ok_X11_refuses mX11_97 (recv_Mo ho) dX11_strettos_12 ⟨Nat.le_of_ble_eq_true rfl, Nat.le_of_ble_eq_true rfl⟩ ⟨Nat.zero_le _, Nat.zero_le _⟩ rfl (Nat.le_of_ble_eq_true rfl) rfl (fun i_r_5 => ?_)
    refine r_i2l g0 dX11_strettos_15 i_r_5 ?_
    exact z_J g dX11_strettos_16 (InL_i i_r_5) h
