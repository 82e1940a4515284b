/-! THE CONTRACTS: the bytecode does what the functions say (by program, wip/whole/gen) -/
theorem dX11_step_0 : decode cX11_step 0 = .ok (.iload_n 1, 1) := by decide +kernel
theorem dX11_step_1 : decode cX11_step 1 = .ok (.invokestatic 82, 3) := by decide +kernel
theorem dX11_step_4 : decode cX11_step 4 = .ok (.ifCond .eq 34, 3) := by decide +kernel
theorem dX11_step_7 : decode cX11_step 7 = .ok (.iload_n 2, 1) := by decide +kernel
theorem dX11_step_8 : decode cX11_step 8 = .ok (.i2l, 1) := by decide +kernel
theorem dX11_step_9 : decode cX11_step 9 = .ok (.lconst 0, 1) := by decide +kernel
theorem dX11_step_10 : decode cX11_step 10 = .ok (.ldc2_w 88, 3) := by decide +kernel
theorem dX11_step_13 : decode cX11_step 13 = .ok (.invokestatic 61, 3) := by decide +kernel
theorem dX11_step_16 : decode cX11_step 16 = .ok (.ifCond .eq 22, 3) := by decide +kernel
theorem dX11_step_19 : decode cX11_step 19 = .ok (.iload_n 3, 1) := by decide +kernel
theorem dX11_step_20 : decode cX11_step 20 = .ok (.i2l, 1) := by decide +kernel
theorem dX11_step_21 : decode cX11_step 21 = .ok (.ldc2_w 160, 3) := by decide +kernel
theorem dX11_step_24 : decode cX11_step 24 = .ok (.ldc2_w 162, 3) := by decide +kernel
theorem dX11_step_27 : decode cX11_step 27 = .ok (.invokestatic 61, 3) := by decide +kernel
theorem dX11_step_30 : decode cX11_step 30 = .ok (.ifCond .eq 8, 3) := by decide +kernel
theorem dX11_step_33 : decode cX11_step 33 = .ok (.iload 4, 2) := by decide +kernel
theorem dX11_step_35 : decode cX11_step 35 = .ok (.ifCond .ge 11, 3) := by decide +kernel
theorem dX11_step_38 : decode cX11_step 38 = .ok (.aload_n 0, 1) := by decide +kernel
theorem dX11_step_39 : decode cX11_step 39 = .ok (.sipush (-2000), 3) := by decide +kernel
theorem dX11_step_42 : decode cX11_step 42 = .ok (.invokevirtual 164, 3) := by decide +kernel
theorem dX11_step_45 : decode cX11_step 45 = .ok (.ireturn, 1) := by decide +kernel
theorem dX11_step_46 : decode cX11_step 46 = .ok (.aload_n 0, 1) := by decide +kernel
theorem dX11_step_47 : decode cX11_step 47 = .ok (.iload_n 1, 1) := by decide +kernel
theorem dX11_step_48 : decode cX11_step 48 = .ok (.iload_n 2, 1) := by decide +kernel
theorem dX11_step_49 : decode cX11_step 49 = .ok (.iload 4, 2) := by decide +kernel
theorem dX11_step_51 : decode cX11_step 51 = .ok (.invokevirtual 167, 3) := by decide +kernel
theorem dX11_step_54 : decode cX11_step 54 = .ok (.istore 5, 2) := by decide +kernel
theorem dX11_step_56 : decode cX11_step 56 = .ok (.iload 5, 2) := by decide +kernel
theorem dX11_step_58 : decode cX11_step 58 = .ok (.sipush (-1000), 3) := by decide +kernel
theorem dX11_step_61 : decode cX11_step 61 = .ok (.if_icmp .ne 9, 3) := by decide +kernel
theorem dX11_step_64 : decode cX11_step 64 = .ok (.sipush (-1000), 3) := by decide +kernel
theorem dX11_step_67 : decode cX11_step 67 = .ok (.goto 7, 3) := by decide +kernel
theorem dX11_step_70 : decode cX11_step 70 = .ok (.iload 5, 2) := by decide +kernel
theorem dX11_step_72 : decode cX11_step 72 = .ok (.iload_n 3, 1) := by decide +kernel
theorem dX11_step_73 : decode cX11_step 73 = .ok (.iadd, 1) := by decide +kernel
theorem dX11_step_74 : decode cX11_step 74 = .ok (.ireturn, 1) := by decide +kernel
set_option maxHeartbeats 4000000 in
set_option maxRecDepth 100000 in
theorem c_X11_step {E : u_E} {l : Launch} {o : u_O} {p1 : Int} {p2 : Int} {p3 : Int} {p4 : Int} (ho : is_Mo o) (i_p1 : InR p1) (i_p2 : InR p2) (i_p3 : InR p3) (i_p4 : InR p4) {s s' : u_S} {r : Int} (h : f_X11_step o p1 p2 p3 p4 s = some (r, s')) : Con l (XE E) yX11_step cX11_step 6 (some .int) 3 71 0 0 [.ref (E.1 o), .int (J p1), .int (J p2), .int (J p3), .int (J p4)] (Wd E s) (RI E r s') := by
  refine Con.of [some (.ref (E.1 o)), some (.int (J p1)), some (.int (J p2)), some (.int (J p3)), some (.int (J p4)), none] (by decide +kernel) rfl rfl (Nat.le_of_ble_eq_true rfl) (fun K g => ?_)
  have g0 := g.wk
  unfold f_X11_step at h
  refine r_iload_n g0 dX11_step_0 rfl ?_
  obtain ⟨r_1, s_1, hr_1, h⟩ := bd_some h
  refine r_cSZ g0 (rest := []) (c_X11_isLine i_p1 hr_1) ok_X11_isLine mX11_82 dX11_step_1 ⟨Nat.le_of_ble_eq_true rfl, Nat.le_of_ble_eq_true rfl⟩ ⟨Nat.zero_le _, Nat.zero_le _⟩ rfl (Nat.le_of_ble_eq_true rfl) rfl (fun i_r_1 => ?_)
  obtain ⟨jp_1, hdjp_1, h⟩ := jn_some h
  have hjp_1 : ∀  (s_2 : u_S), jp_1 s_2 = some (r, s') → K 0 0 38 [some (.ref (E.1 o)), none, none, none, none, none] [] (Wd E s_2) := by
    intro s_2 h
    subst hdjp_1
    refine r_aload_n g0 dX11_step_38 rfl ?_
    refine r_sipush g0 dX11_step_39 rfl ?_
    obtain ⟨r_2, s_3, hr_2, h⟩ := bd_some h
    refine r_cVI g0 (rest := []) (c_X11_bad ho (InR_lit rfl) hr_2) ok_X11_bad mX11_164 (recv_Mo ho) dX11_step_42 ⟨Nat.le_of_ble_eq_true rfl, Nat.le_of_ble_eq_true rfl⟩ ⟨Nat.zero_le _, Nat.zero_le _⟩ rfl (Nat.le_of_ble_eq_true rfl) rfl (fun i_r_2 => ?_)
    exact z_I g dX11_step_45 i_r_2 h
  clear hdjp_1
  refine r_if_eq g0 38 dX11_step_4 (by decide) (B01.inR i_r_1) (fun hc => ?_) (fun hc => ?_)
  · replace h := if_t hc h
    refine r_mask g0 (lv' := [some (.ref (E.1 o)), none, none, none, none, none]) [true, false, false, false, false, false] rfl ?_
    exact hjp_1 s_1 h
  · replace h := if_f hc h
    refine r_iload_n g0 dX11_step_7 rfl ?_
    refine r_i2l g0 dX11_step_8 i_p2 ?_
    refine r_lconst g0 (v := 0) dX11_step_9 rfl ?_
    refine r_ldc2 g0 (v := 4) dX11_step_10 kX11_88 ?_
    obtain ⟨r_3, s_4, hr_3, h⟩ := bd_some h
    refine r_cSZ g0 (rest := []) (c_X11_in (InL_i i_p2) (InL_lit rfl) (InL_lit rfl) hr_3) ok_X11_in mX11_61 dX11_step_13 ⟨Nat.le_of_ble_eq_true rfl, Nat.le_of_ble_eq_true rfl⟩ ⟨Nat.zero_le _, Nat.zero_le _⟩ rfl (Nat.le_of_ble_eq_true rfl) rfl (fun i_r_3 => ?_)
    refine r_if_eq g0 38 dX11_step_16 (by decide) (B01.inR i_r_3) (fun hc => ?_) (fun hc => ?_)
    · replace h := if_t hc h
      refine r_mask g0 (lv' := [some (.ref (E.1 o)), none, none, none, none, none]) [true, false, false, false, false, false] rfl ?_
      exact hjp_1 s_4 h
    · replace h := if_f hc h
      refine r_iload_n g0 dX11_step_19 rfl ?_
      refine r_i2l g0 dX11_step_20 i_p3 ?_
      refine r_ldc2 g0 (v := (-21)) dX11_step_21 kX11_160 ?_
      refine r_ldc2 g0 (v := 21) dX11_step_24 kX11_162 ?_
      obtain ⟨r_4, s_5, hr_4, h⟩ := bd_some h
      refine r_cSZ g0 (rest := []) (c_X11_in (InL_i i_p3) (InL_lit rfl) (InL_lit rfl) hr_4) ok_X11_in mX11_61 dX11_step_27 ⟨Nat.le_of_ble_eq_true rfl, Nat.le_of_ble_eq_true rfl⟩ ⟨Nat.zero_le _, Nat.zero_le _⟩ rfl (Nat.le_of_ble_eq_true rfl) rfl (fun i_r_4 => ?_)
      refine r_if_eq g0 38 dX11_step_30 (by decide) (B01.inR i_r_4) (fun hc => ?_) (fun hc => ?_)
      · replace h := if_t hc h
        refine r_mask g0 (lv' := [some (.ref (E.1 o)), none, none, none, none, none]) [true, false, false, false, false, false] rfl ?_
        exact hjp_1 s_5 h
      · replace h := if_f hc h
        refine r_iload g0 dX11_step_33 rfl ?_
        refine r_if_ge g0 46 dX11_step_35 (by decide) i_p4 (fun hc => ?_) (fun hc => ?_)
        · replace h := if_f hc h
          refine r_aload_n g0 dX11_step_46 rfl ?_
          refine r_iload_n g0 dX11_step_47 rfl ?_
          refine r_iload_n g0 dX11_step_48 rfl ?_
          refine r_iload g0 dX11_step_49 rfl ?_
          obtain ⟨r_5, s_6, hr_5, h⟩ := bd_some h
          refine r_cVI g0 (rest := []) (c_X11_formed ho i_p1 i_p2 i_p4 hr_5) ok_X11_formed mX11_167 (recv_Mo ho) dX11_step_51 ⟨Nat.le_of_ble_eq_true rfl, Nat.le_of_ble_eq_true rfl⟩ ⟨Nat.zero_le _, Nat.zero_le _⟩ rfl (Nat.le_of_ble_eq_true rfl) rfl (fun i_r_5 => ?_)
          refine r_istore g0 (lv' := [some (.ref (E.1 o)), some (.int (J p1)), some (.int (J p2)), some (.int (J p3)), some (.int (J p4)), some (.int (J r_5))]) dX11_step_54 (by decide) rfl rfl ?_
          refine r_iload g0 dX11_step_56 rfl ?_
          refine r_sipush g0 dX11_step_58 rfl ?_
          refine r_icmp_ne g0 70 dX11_step_61 (by decide) i_r_5 (InR_lit rfl) (fun hc => ?_) (fun hc => ?_)
          · replace h := if_f hc h
            refine r_iload g0 dX11_step_70 rfl ?_
            refine r_iload_n g0 dX11_step_72 rfl ?_
            refine r_iadd g0 dX11_step_73 ?_
            exact z_I g dX11_step_74 (InR_wr _) h
          · replace h := if_t hc h
            refine r_sipush g0 dX11_step_64 rfl ?_
            refine r_goto g0 74 dX11_step_67 (by decide) ?_
            exact z_I g dX11_step_74 (InR_lit rfl) h
        · replace h := if_t hc h
          refine r_mask g0 (lv' := [some (.ref (E.1 o)), none, none, none, none, none]) [true, false, false, false, false, false] rfl ?_
          exact hjp_1 s_5 h
theorem dX11_puts_0 : decode cX11_puts 0 = .ok (.aload_n 0, 1) := by decide +kernel
theorem dX11_puts_1 : decode cX11_puts 1 = .ok (.iconst 0, 1) := by decide +kernel
theorem dX11_puts_2 : decode cX11_puts 2 = .ok (.iload_n 1, 1) := by decide +kernel
theorem dX11_puts_3 : decode cX11_puts 3 = .ok (.iastore, 1) := by decide +kernel
theorem dX11_puts_4 : decode cX11_puts 4 = .ok (.aload_n 0, 1) := by decide +kernel
theorem dX11_puts_5 : decode cX11_puts 5 = .ok (.iconst 1, 1) := by decide +kernel
theorem dX11_puts_6 : decode cX11_puts 6 = .ok (.iload_n 2, 1) := by decide +kernel
theorem dX11_puts_7 : decode cX11_puts 7 = .ok (.iastore, 1) := by decide +kernel
theorem dX11_puts_8 : decode cX11_puts 8 = .ok (.aload_n 0, 1) := by decide +kernel
theorem dX11_puts_9 : decode cX11_puts 9 = .ok (.iconst 2, 1) := by decide +kernel
theorem dX11_puts_10 : decode cX11_puts 10 = .ok (.iload_n 3, 1) := by decide +kernel
theorem dX11_puts_11 : decode cX11_puts 11 = .ok (.iastore, 1) := by decide +kernel
theorem dX11_puts_12 : decode cX11_puts 12 = .ok (.aload_n 0, 1) := by decide +kernel
theorem dX11_puts_13 : decode cX11_puts 13 = .ok (.iconst 3, 1) := by decide +kernel
theorem dX11_puts_14 : decode cX11_puts 14 = .ok (.iload 4, 2) := by decide +kernel
theorem dX11_puts_16 : decode cX11_puts 16 = .ok (.iastore, 1) := by decide +kernel
theorem dX11_puts_17 : decode cX11_puts 17 = .ok (.return_, 1) := by decide +kernel
set_option maxHeartbeats 4000000 in
set_option maxRecDepth 100000 in
theorem c_X11_puts {E : u_E} {l : Launch} {p1 : u_O} {p2 : Int} {p3 : Int} {p4 : Int} {p5 : Int} (i_p1 : is_A p1) (i_p2 : InR p2) (i_p3 : InR p3) (i_p4 : InR p4) (i_p5 : InR p5) {s s' : u_S} {r : Int} (h : f_X11_puts p1 p2 p3 p4 p5 s = some (r, s')) : Con l (XE E) yX11_puts cX11_puts 5 none 0 0 0 0 [.ref (E.1 p1), .int (J p2), .int (J p3), .int (J p4), .int (J p5)] (Wd E s) (RV E r s') := by
  refine Con.of [some (.ref (E.1 p1)), some (.int (J p2)), some (.int (J p3)), some (.int (J p4)), some (.int (J p5))] (by decide +kernel) rfl rfl (Nat.le_of_ble_eq_true rfl) (fun K g => ?_)
  have g0 := g.wk
  unfold f_X11_puts at h
  refine r_aload_n g0 dX11_puts_0 rfl ?_
  refine r_iconst g0 dX11_puts_1 ?_
  refine r_iload_n g0 dX11_puts_2 rfl ?_
  obtain ⟨hb, h⟩ := gd_some h
  refine r_iastore g0 i_p1 (n := (alen p1)) rfl (B01.inR B01_0) hb dX11_puts_3 ?_
  refine r_aload_n g0 dX11_puts_4 rfl ?_
  refine r_iconst g0 dX11_puts_5 ?_
  refine r_iload_n g0 dX11_puts_6 rfl ?_
  obtain ⟨hb, h⟩ := gd_some h
  refine r_iastore g0 i_p1 (n := (alen p1)) rfl (B01.inR B01_1) hb dX11_puts_7 ?_
  refine r_aload_n g0 dX11_puts_8 rfl ?_
  refine r_iconst g0 dX11_puts_9 ?_
  refine r_iload_n g0 dX11_puts_10 rfl ?_
  obtain ⟨hb, h⟩ := gd_some h
  refine r_iastore g0 i_p1 (n := (alen p1)) rfl (InR_lit rfl) hb dX11_puts_11 ?_
  refine r_aload_n g0 dX11_puts_12 rfl ?_
  refine r_iconst g0 dX11_puts_13 ?_
  refine r_iload g0 dX11_puts_14 rfl ?_
  obtain ⟨hb, h⟩ := gd_some h
  refine r_iastore g0 i_p1 (n := (alen p1)) rfl (InR_lit rfl) hb dX11_puts_16 ?_
  exact z_V g dX11_puts_17 h
theorem dX11_heard_0 : decode cX11_heard 0 = .ok (.iload_n 2, 1) := by decide +kernel
theorem dX11_heard_1 : decode cX11_heard 1 = .ok (.aload_n 1, 1) := by decide +kernel
theorem dX11_heard_2 : decode cX11_heard 2 = .ok (.iconst 3, 1) := by decide +kernel
theorem dX11_heard_3 : decode cX11_heard 3 = .ok (.iaload, 1) := by decide +kernel
theorem dX11_heard_4 : decode cX11_heard 4 = .ok (.if_icmp .ge 9, 3) := by decide +kernel
theorem dX11_heard_7 : decode cX11_heard 7 = .ok (.sipush (-1000), 3) := by decide +kernel
theorem dX11_heard_10 : decode cX11_heard 10 = .ok (.goto 18, 3) := by decide +kernel
theorem dX11_heard_13 : decode cX11_heard 13 = .ok (.aload_n 0, 1) := by decide +kernel
theorem dX11_heard_14 : decode cX11_heard 14 = .ok (.aload_n 1, 1) := by decide +kernel
theorem dX11_heard_15 : decode cX11_heard 15 = .ok (.iconst 0, 1) := by decide +kernel
theorem dX11_heard_16 : decode cX11_heard 16 = .ok (.iaload, 1) := by decide +kernel
theorem dX11_heard_17 : decode cX11_heard 17 = .ok (.aload_n 1, 1) := by decide +kernel
theorem dX11_heard_18 : decode cX11_heard 18 = .ok (.iconst 1, 1) := by decide +kernel
theorem dX11_heard_19 : decode cX11_heard 19 = .ok (.iaload, 1) := by decide +kernel
theorem dX11_heard_20 : decode cX11_heard 20 = .ok (.iload_n 2, 1) := by decide +kernel
theorem dX11_heard_21 : decode cX11_heard 21 = .ok (.aload_n 1, 1) := by decide +kernel
theorem dX11_heard_22 : decode cX11_heard 22 = .ok (.iconst 3, 1) := by decide +kernel
theorem dX11_heard_23 : decode cX11_heard 23 = .ok (.iaload, 1) := by decide +kernel
theorem dX11_heard_24 : decode cX11_heard 24 = .ok (.isub, 1) := by decide +kernel
theorem dX11_heard_25 : decode cX11_heard 25 = .ok (.invokevirtual 167, 3) := by decide +kernel
theorem dX11_heard_28 : decode cX11_heard 28 = .ok (.istore_n 3, 1) := by decide +kernel
theorem dX11_heard_29 : decode cX11_heard 29 = .ok (.iload_n 3, 1) := by decide +kernel
theorem dX11_heard_30 : decode cX11_heard 30 = .ok (.sipush (-1000), 3) := by decide +kernel
theorem dX11_heard_33 : decode cX11_heard 33 = .ok (.if_icmp .ne 9, 3) := by decide +kernel
theorem dX11_heard_36 : decode cX11_heard 36 = .ok (.sipush (-1000), 3) := by decide +kernel
theorem dX11_heard_39 : decode cX11_heard 39 = .ok (.goto 8, 3) := by decide +kernel
theorem dX11_heard_42 : decode cX11_heard 42 = .ok (.iload_n 3, 1) := by decide +kernel
theorem dX11_heard_43 : decode cX11_heard 43 = .ok (.aload_n 1, 1) := by decide +kernel
theorem dX11_heard_44 : decode cX11_heard 44 = .ok (.iconst 2, 1) := by decide +kernel
theorem dX11_heard_45 : decode cX11_heard 45 = .ok (.iaload, 1) := by decide +kernel
theorem dX11_heard_46 : decode cX11_heard 46 = .ok (.iadd, 1) := by decide +kernel
theorem dX11_heard_47 : decode cX11_heard 47 = .ok (.ireturn, 1) := by decide +kernel
set_option maxHeartbeats 4000000 in
set_option maxRecDepth 100000 in
theorem c_X11_heard {E : u_E} {l : Launch} {o : u_O} {p1 : u_O} {p2 : Int} (ho : is_Mo o) (i_p1 : is_A p1) (i_p2 : InR p2) {s s' : u_S} {r : Int} (h : f_X11_heard o p1 p2 s = some (r, s')) : Con l (XE E) yX11_heard cX11_heard 4 (some .int) 3 71 0 0 [.ref (E.1 o), .ref (E.1 p1), .int (J p2)] (Wd E s) (RI E r s') := by
  refine Con.of [some (.ref (E.1 o)), some (.ref (E.1 p1)), some (.int (J p2)), none] (by decide +kernel) rfl rfl (Nat.le_of_ble_eq_true rfl) (fun K g => ?_)
  have g0 := g.wk
  unfold f_X11_heard at h
  refine r_iload_n g0 dX11_heard_0 rfl ?_
  refine r_aload_n g0 dX11_heard_1 rfl ?_
  refine r_iconst g0 dX11_heard_2 ?_
  obtain ⟨hb, h⟩ := gd_some h
  refine r_iaload g0 i_p1 (n := (alen p1)) rfl (InR_lit rfl) hb dX11_heard_3 ?_
  obtain ⟨jp_1, hdjp_1, h⟩ := jn_some h
  have hjp_1 : ∀ (vt_1 : Int) (s_1 : u_S), InR vt_1 → jp_1 vt_1 s_1 = some (r, s') → K 0 0 28 [none, some (.ref (E.1 p1)), none, none] [.int (J vt_1)] (Wd E s_1) := by
    intro vt_1 s_1 i_vt_1 h
    subst hdjp_1
    refine r_istore_n g0 (lv' := [none, some (.ref (E.1 p1)), none, some (.int (J vt_1))]) dX11_heard_28 (by decide) rfl rfl ?_
    refine r_iload_n g0 dX11_heard_29 rfl ?_
    refine r_sipush g0 dX11_heard_30 rfl ?_
    refine r_icmp_ne g0 42 dX11_heard_33 (by decide) i_vt_1 (InR_lit rfl) (fun hc => ?_) (fun hc => ?_)
    · replace h := if_f hc h
      refine r_iload_n g0 dX11_heard_42 rfl ?_
      refine r_aload_n g0 dX11_heard_43 rfl ?_
      refine r_iconst g0 dX11_heard_44 ?_
      obtain ⟨hb, h⟩ := gd_some h
      refine r_iaload g0 i_p1 (n := (alen p1)) rfl (InR_lit rfl) hb dX11_heard_45 ?_
      refine r_iadd g0 dX11_heard_46 ?_
      exact z_I g dX11_heard_47 (InR_wr _) h
    · replace h := if_t hc h
      refine r_sipush g0 dX11_heard_36 rfl ?_
      refine r_goto g0 47 dX11_heard_39 (by decide) ?_
      exact z_I g dX11_heard_47 (InR_lit rfl) h
  clear hdjp_1
  refine r_icmp_ge g0 13 dX11_heard_4 (by decide) i_p2 (InR_rd _ _ _) (fun hc => ?_) (fun hc => ?_)
  · replace h := if_f hc h
    refine r_aload_n g0 dX11_heard_13 rfl ?_
    refine r_aload_n g0 dX11_heard_14 rfl ?_
    refine r_iconst g0 dX11_heard_15 ?_
    obtain ⟨hb, h⟩ := gd_some h
    refine r_iaload g0 i_p1 (n := (alen p1)) rfl (B01.inR B01_0) hb dX11_heard_16 ?_
    refine r_aload_n g0 dX11_heard_17 rfl ?_
    refine r_iconst g0 dX11_heard_18 ?_
    obtain ⟨hb, h⟩ := gd_some h
    refine r_iaload g0 i_p1 (n := (alen p1)) rfl (B01.inR B01_1) hb dX11_heard_19 ?_
    refine r_iload_n g0 dX11_heard_20 rfl ?_
    refine r_aload_n g0 dX11_heard_21 rfl ?_
    refine r_iconst g0 dX11_heard_22 ?_
    obtain ⟨hb, h⟩ := gd_some h
    refine r_iaload g0 i_p1 (n := (alen p1)) rfl (InR_lit rfl) hb dX11_heard_23 ?_
    refine r_isub g0 dX11_heard_24 ?_
    obtain ⟨r_1, s_2, hr_1, h⟩ := bd_some h
    refine r_cVI g0 (rest := []) (c_X11_formed ho (InR_rd _ _ _) (InR_rd _ _ _) (InR_wr _) hr_1) ok_X11_formed mX11_167 (recv_Mo ho) dX11_heard_25 ⟨Nat.le_of_ble_eq_true rfl, Nat.le_of_ble_eq_true rfl⟩ ⟨Nat.zero_le _, Nat.zero_le _⟩ rfl (Nat.le_of_ble_eq_true rfl) rfl (fun i_r_1 => ?_)
    refine r_mask g0 (lv' := [none, some (.ref (E.1 p1)), none, none]) [false, true, false, false] rfl ?_
    exact hjp_1 r_1 s_2 i_r_1 h
  · replace h := if_t hc h
    refine r_sipush g0 dX11_heard_7 rfl ?_
    refine r_goto g0 28 dX11_heard_10 (by decide) ?_
    refine r_mask g0 (lv' := [none, some (.ref (E.1 p1)), none, none]) [false, true, false, false] rfl ?_
    exact hjp_1 (-1000) s (InR_lit rfl) h
theorem dX11_faultsAt_0 : decode cX11_faultsAt 0 = .ok (.aload_n 0, 1) := by decide +kernel
theorem dX11_faultsAt_1 : decode cX11_faultsAt 1 = .ok (.aload_n 0, 1) := by decide +kernel
theorem dX11_faultsAt_2 : decode cX11_faultsAt 2 = .ok (.getfield 22, 3) := by decide +kernel
theorem dX11_faultsAt_5 : decode cX11_faultsAt 5 = .ok (.iload_n 1, 1) := by decide +kernel
theorem dX11_faultsAt_6 : decode cX11_faultsAt 6 = .ok (.invokevirtual 170, 3) := by decide +kernel
theorem dX11_faultsAt_9 : decode cX11_faultsAt 9 = .ok (.istore_n 2, 1) := by decide +kernel
theorem dX11_faultsAt_10 : decode cX11_faultsAt 10 = .ok (.aload_n 0, 1) := by decide +kernel
theorem dX11_faultsAt_11 : decode cX11_faultsAt 11 = .ok (.aload_n 0, 1) := by decide +kernel
theorem dX11_faultsAt_12 : decode cX11_faultsAt 12 = .ok (.getfield 25, 3) := by decide +kernel
theorem dX11_faultsAt_15 : decode cX11_faultsAt 15 = .ok (.iload_n 1, 1) := by decide +kernel
theorem dX11_faultsAt_16 : decode cX11_faultsAt 16 = .ok (.invokevirtual 170, 3) := by decide +kernel
theorem dX11_faultsAt_19 : decode cX11_faultsAt 19 = .ok (.istore_n 3, 1) := by decide +kernel
theorem dX11_faultsAt_20 : decode cX11_faultsAt 20 = .ok (.iload_n 2, 1) := by decide +kernel
theorem dX11_faultsAt_21 : decode cX11_faultsAt 21 = .ok (.sipush (-1000), 3) := by decide +kernel
theorem dX11_faultsAt_24 : decode cX11_faultsAt 24 = .ok (.if_icmp .eq 10, 3) := by decide +kernel
theorem dX11_faultsAt_27 : decode cX11_faultsAt 27 = .ok (.iload_n 3, 1) := by decide +kernel
theorem dX11_faultsAt_28 : decode cX11_faultsAt 28 = .ok (.sipush (-1000), 3) := by decide +kernel
theorem dX11_faultsAt_31 : decode cX11_faultsAt 31 = .ok (.if_icmp .ne 5, 3) := by decide +kernel
theorem dX11_faultsAt_34 : decode cX11_faultsAt 34 = .ok (.iconst 0, 1) := by decide +kernel
theorem dX11_faultsAt_35 : decode cX11_faultsAt 35 = .ok (.ireturn, 1) := by decide +kernel
theorem dX11_faultsAt_36 : decode cX11_faultsAt 36 = .ok (.iload_n 2, 1) := by decide +kernel
theorem dX11_faultsAt_37 : decode cX11_faultsAt 37 = .ok (.iload_n 3, 1) := by decide +kernel
theorem dX11_faultsAt_38 : decode cX11_faultsAt 38 = .ok (.isub, 1) := by decide +kernel
theorem dX11_faultsAt_39 : decode cX11_faultsAt 39 = .ok (.bipush 7, 2) := by decide +kernel
theorem dX11_faultsAt_41 : decode cX11_faultsAt 41 = .ok (.invokestatic 79, 3) := by decide +kernel
theorem dX11_faultsAt_44 : decode cX11_faultsAt 44 = .ok (.istore 4, 2) := by decide +kernel
theorem dX11_faultsAt_46 : decode cX11_faultsAt 46 = .ok (.iload_n 1, 1) := by decide +kernel
theorem dX11_faultsAt_47 : decode cX11_faultsAt 47 = .ok (.aload_n 0, 1) := by decide +kernel
theorem dX11_faultsAt_48 : decode cX11_faultsAt 48 = .ok (.getfield 7, 3) := by decide +kernel
theorem dX11_faultsAt_51 : decode cX11_faultsAt 51 = .ok (.sipush 137, 3) := by decide +kernel
theorem dX11_faultsAt_54 : decode cX11_faultsAt 54 = .ok (.iaload, 1) := by decide +kernel
theorem dX11_faultsAt_55 : decode cX11_faultsAt 55 = .ok (.irem, 1) := by decide +kernel
theorem dX11_faultsAt_56 : decode cX11_faultsAt 56 = .ok (.ifCond .ne 26, 3) := by decide +kernel
theorem dX11_faultsAt_59 : decode cX11_faultsAt 59 = .ok (.iload 4, 2) := by decide +kernel
theorem dX11_faultsAt_61 : decode cX11_faultsAt 61 = .ok (.iconst 1, 1) := by decide +kernel
theorem dX11_faultsAt_62 : decode cX11_faultsAt 62 = .ok (.if_icmp .eq 16, 3) := by decide +kernel
theorem dX11_faultsAt_65 : decode cX11_faultsAt 65 = .ok (.iload 4, 2) := by decide +kernel
theorem dX11_faultsAt_67 : decode cX11_faultsAt 67 = .ok (.iconst 3, 1) := by decide +kernel
theorem dX11_faultsAt_68 : decode cX11_faultsAt 68 = .ok (.if_icmp .eq 10, 3) := by decide +kernel
theorem dX11_faultsAt_71 : decode cX11_faultsAt 71 = .ok (.iload 4, 2) := by decide +kernel
theorem dX11_faultsAt_73 : decode cX11_faultsAt 73 = .ok (.bipush 6, 2) := by decide +kernel
theorem dX11_faultsAt_75 : decode cX11_faultsAt 75 = .ok (.if_icmp .ne 7, 3) := by decide +kernel
theorem dX11_faultsAt_78 : decode cX11_faultsAt 78 = .ok (.iconst 1, 1) := by decide +kernel
theorem dX11_faultsAt_79 : decode cX11_faultsAt 79 = .ok (.goto 4, 3) := by decide +kernel
theorem dX11_faultsAt_82 : decode cX11_faultsAt 82 = .ok (.iconst 0, 1) := by decide +kernel
theorem dX11_faultsAt_83 : decode cX11_faultsAt 83 = .ok (.istore 5, 2) := by decide +kernel
theorem dX11_faultsAt_85 : decode cX11_faultsAt 85 = .ok (.iload 5, 2) := by decide +kernel
theorem dX11_faultsAt_87 : decode cX11_faultsAt 87 = .ok (.iload_n 2, 1) := by decide +kernel
theorem dX11_faultsAt_88 : decode cX11_faultsAt 88 = .ok (.iload_n 3, 1) := by decide +kernel
theorem dX11_faultsAt_89 : decode cX11_faultsAt 89 = .ok (.if_icmp .ge 7, 3) := by decide +kernel
theorem dX11_faultsAt_92 : decode cX11_faultsAt 92 = .ok (.iconst 2, 1) := by decide +kernel
theorem dX11_faultsAt_93 : decode cX11_faultsAt 93 = .ok (.goto 4, 3) := by decide +kernel
theorem dX11_faultsAt_96 : decode cX11_faultsAt 96 = .ok (.iconst 0, 1) := by decide +kernel
theorem dX11_faultsAt_97 : decode cX11_faultsAt 97 = .ok (.ior, 1) := by decide +kernel
theorem dX11_faultsAt_98 : decode cX11_faultsAt 98 = .ok (.istore 5, 2) := by decide +kernel
theorem dX11_faultsAt_100 : decode cX11_faultsAt 100 = .ok (.iload_n 1, 1) := by decide +kernel
theorem dX11_faultsAt_101 : decode cX11_faultsAt 101 = .ok (.ifCond .ne 9, 3) := by decide +kernel
theorem dX11_faultsAt_104 : decode cX11_faultsAt 104 = .ok (.sipush (-1000), 3) := by decide +kernel
theorem dX11_faultsAt_107 : decode cX11_faultsAt 107 = .ok (.goto 14, 3) := by decide +kernel
theorem dX11_faultsAt_110 : decode cX11_faultsAt 110 = .ok (.aload_n 0, 1) := by decide +kernel
theorem dX11_faultsAt_111 : decode cX11_faultsAt 111 = .ok (.aload_n 0, 1) := by decide +kernel
theorem dX11_faultsAt_112 : decode cX11_faultsAt 112 = .ok (.getfield 22, 3) := by decide +kernel
theorem dX11_faultsAt_115 : decode cX11_faultsAt 115 = .ok (.iload_n 1, 1) := by decide +kernel
theorem dX11_faultsAt_116 : decode cX11_faultsAt 116 = .ok (.iconst 1, 1) := by decide +kernel
theorem dX11_faultsAt_117 : decode cX11_faultsAt 117 = .ok (.isub, 1) := by decide +kernel
theorem dX11_faultsAt_118 : decode cX11_faultsAt 118 = .ok (.invokevirtual 170, 3) := by decide +kernel
theorem dX11_faultsAt_121 : decode cX11_faultsAt 121 = .ok (.istore 6, 2) := by decide +kernel
theorem dX11_faultsAt_123 : decode cX11_faultsAt 123 = .ok (.iload_n 1, 1) := by decide +kernel
theorem dX11_faultsAt_124 : decode cX11_faultsAt 124 = .ok (.ifCond .ne 9, 3) := by decide +kernel
theorem dX11_faultsAt_127 : decode cX11_faultsAt 127 = .ok (.sipush (-1000), 3) := by decide +kernel
theorem dX11_faultsAt_130 : decode cX11_faultsAt 130 = .ok (.goto 14, 3) := by decide +kernel
theorem dX11_faultsAt_133 : decode cX11_faultsAt 133 = .ok (.aload_n 0, 1) := by decide +kernel
theorem dX11_faultsAt_134 : decode cX11_faultsAt 134 = .ok (.aload_n 0, 1) := by decide +kernel
theorem dX11_faultsAt_135 : decode cX11_faultsAt 135 = .ok (.getfield 25, 3) := by decide +kernel
theorem dX11_faultsAt_138 : decode cX11_faultsAt 138 = .ok (.iload_n 1, 1) := by decide +kernel
theorem dX11_faultsAt_139 : decode cX11_faultsAt 139 = .ok (.iconst 1, 1) := by decide +kernel
theorem dX11_faultsAt_140 : decode cX11_faultsAt 140 = .ok (.isub, 1) := by decide +kernel
theorem dX11_faultsAt_141 : decode cX11_faultsAt 141 = .ok (.invokevirtual 170, 3) := by decide +kernel
theorem dX11_faultsAt_144 : decode cX11_faultsAt 144 = .ok (.istore 7, 2) := by decide +kernel
theorem dX11_faultsAt_146 : decode cX11_faultsAt 146 = .ok (.iload 6, 2) := by decide +kernel
theorem dX11_faultsAt_148 : decode cX11_faultsAt 148 = .ok (.sipush (-1000), 3) := by decide +kernel
theorem dX11_faultsAt_151 : decode cX11_faultsAt 151 = .ok (.if_icmp .eq 83, 3) := by decide +kernel
theorem dX11_faultsAt_154 : decode cX11_faultsAt 154 = .ok (.iload 7, 2) := by decide +kernel
theorem dX11_faultsAt_156 : decode cX11_faultsAt 156 = .ok (.sipush (-1000), 3) := by decide +kernel
theorem dX11_faultsAt_159 : decode cX11_faultsAt 159 = .ok (.if_icmp .eq 75, 3) := by decide +kernel
theorem dX11_faultsAt_162 : decode cX11_faultsAt 162 = .ok (.iload_n 2, 1) := by decide +kernel
theorem dX11_faultsAt_163 : decode cX11_faultsAt 163 = .ok (.iload 6, 2) := by decide +kernel
theorem dX11_faultsAt_165 : decode cX11_faultsAt 165 = .ok (.if_icmp .le 9, 3) := by decide +kernel
theorem dX11_faultsAt_168 : decode cX11_faultsAt 168 = .ok (.iload_n 3, 1) := by decide +kernel
theorem dX11_faultsAt_169 : decode cX11_faultsAt 169 = .ok (.iload 7, 2) := by decide +kernel
theorem dX11_faultsAt_171 : decode cX11_faultsAt 171 = .ok (.if_icmp .gt 15, 3) := by decide +kernel
theorem dX11_faultsAt_174 : decode cX11_faultsAt 174 = .ok (.iload_n 2, 1) := by decide +kernel
theorem dX11_faultsAt_175 : decode cX11_faultsAt 175 = .ok (.iload 6, 2) := by decide +kernel
theorem dX11_faultsAt_177 : decode cX11_faultsAt 177 = .ok (.if_icmp .ge 13, 3) := by decide +kernel
theorem dX11_faultsAt_180 : decode cX11_faultsAt 180 = .ok (.iload_n 3, 1) := by decide +kernel
theorem dX11_faultsAt_181 : decode cX11_faultsAt 181 = .ok (.iload 7, 2) := by decide +kernel
theorem dX11_faultsAt_183 : decode cX11_faultsAt 183 = .ok (.if_icmp .ge 7, 3) := by decide +kernel
theorem dX11_faultsAt_186 : decode cX11_faultsAt 186 = .ok (.iconst 1, 1) := by decide +kernel
theorem dX11_faultsAt_187 : decode cX11_faultsAt 187 = .ok (.goto 4, 3) := by decide +kernel
theorem dX11_faultsAt_190 : decode cX11_faultsAt 190 = .ok (.iconst 0, 1) := by decide +kernel
theorem dX11_faultsAt_191 : decode cX11_faultsAt 191 = .ok (.istore 8, 2) := by decide +kernel
theorem dX11_faultsAt_193 : decode cX11_faultsAt 193 = .ok (.iload 5, 2) := by decide +kernel
theorem dX11_faultsAt_195 : decode cX11_faultsAt 195 = .ok (.iload 8, 2) := by decide +kernel
theorem dX11_faultsAt_197 : decode cX11_faultsAt 197 = .ok (.ifCond .eq 33, 3) := by decide +kernel
theorem dX11_faultsAt_200 : decode cX11_faultsAt 200 = .ok (.iload 4, 2) := by decide +kernel
theorem dX11_faultsAt_202 : decode cX11_faultsAt 202 = .ok (.ifCond .eq 9, 3) := by decide +kernel
theorem dX11_faultsAt_205 : decode cX11_faultsAt 205 = .ok (.iload 4, 2) := by decide +kernel
theorem dX11_faultsAt_207 : decode cX11_faultsAt 207 = .ok (.iconst 4, 1) := by decide +kernel
theorem dX11_faultsAt_208 : decode cX11_faultsAt 208 = .ok (.if_icmp .ne 22, 3) := by decide +kernel
theorem dX11_faultsAt_211 : decode cX11_faultsAt 211 = .ok (.iload 6, 2) := by decide +kernel
theorem dX11_faultsAt_213 : decode cX11_faultsAt 213 = .ok (.iload 7, 2) := by decide +kernel
theorem dX11_faultsAt_215 : decode cX11_faultsAt 215 = .ok (.isub, 1) := by decide +kernel
theorem dX11_faultsAt_216 : decode cX11_faultsAt 216 = .ok (.bipush 7, 2) := by decide +kernel
theorem dX11_faultsAt_218 : decode cX11_faultsAt 218 = .ok (.invokestatic 79, 3) := by decide +kernel
theorem dX11_faultsAt_221 : decode cX11_faultsAt 221 = .ok (.iload 4, 2) := by decide +kernel
theorem dX11_faultsAt_223 : decode cX11_faultsAt 223 = .ok (.if_icmp .ne 7, 3) := by decide +kernel
theorem dX11_faultsAt_226 : decode cX11_faultsAt 226 = .ok (.iconst 4, 1) := by decide +kernel
theorem dX11_faultsAt_227 : decode cX11_faultsAt 227 = .ok (.goto 4, 3) := by decide +kernel
theorem dX11_faultsAt_230 : decode cX11_faultsAt 230 = .ok (.iconst 0, 1) := by decide +kernel
theorem dX11_faultsAt_231 : decode cX11_faultsAt 231 = .ok (.ior, 1) := by decide +kernel
theorem dX11_faultsAt_232 : decode cX11_faultsAt 232 = .ok (.istore 5, 2) := by decide +kernel
theorem dX11_faultsAt_234 : decode cX11_faultsAt 234 = .ok (.iload 5, 2) := by decide +kernel
theorem dX11_faultsAt_236 : decode cX11_faultsAt 236 = .ok (.ireturn, 1) := by decide +kernel
set_option maxHeartbeats 4000000 in
set_option maxRecDepth 100000 in
theorem c_X11_faultsAt {E : u_E} {l : Launch} {o : u_O} {p1 : Int} (ho : is_Mo o) (i_p1 : InR p1) {s s' : u_S} {r : Int} (h : f_X11_faultsAt o p1 s = some (r, s')) : Con l (XE E) yX11_faultsAt cX11_faultsAt 9 (some .int) 4 94 0 0 [.ref (E.1 o), .int (J p1)] (Wd E s) (RI E r s') := by
  refine Con.of [some (.ref (E.1 o)), some (.int (J p1)), none, none, none, none, none, none, none] (by decide +kernel) rfl rfl (Nat.le_of_ble_eq_true rfl) (fun K g => ?_)
  have g0 := g.wk
  unfold f_X11_faultsAt at h
  refine r_aload_n g0 dX11_faultsAt_0 rfl ?_
  refine r_aload_n g0 dX11_faultsAt_1 rfl ?_
  refine g_Mo_upper g0 ho qX11_22 dX11_faultsAt_2 ?_
  refine r_iload_n g0 dX11_faultsAt_5 rfl ?_
  obtain ⟨r_1, s_1, hr_1, h⟩ := bd_some h
  refine r_cVI g0 (rest := []) (c_X11_heard ho (is_a_Mo_upper ho) i_p1 hr_1) ok_X11_heard mX11_170 (recv_Mo ho) dX11_faultsAt_6 ⟨Nat.le_of_ble_eq_true rfl, Nat.le_of_ble_eq_true rfl⟩ ⟨Nat.zero_le _, Nat.zero_le _⟩ rfl (Nat.le_of_ble_eq_true rfl) rfl (fun i_r_1 => ?_)
  refine r_istore_n g0 (lv' := [some (.ref (E.1 o)), some (.int (J p1)), some (.int (J r_1)), none, none, none, none, none, none]) dX11_faultsAt_9 (by decide) rfl rfl ?_
  refine r_aload_n g0 dX11_faultsAt_10 rfl ?_
  refine r_aload_n g0 dX11_faultsAt_11 rfl ?_
  refine g_Mo_lower g0 ho qX11_25 dX11_faultsAt_12 ?_
  refine r_iload_n g0 dX11_faultsAt_15 rfl ?_
  obtain ⟨r_2, s_2, hr_2, h⟩ := bd_some h
  refine r_cVI g0 (rest := []) (c_X11_heard ho (is_a_Mo_lower ho) i_p1 hr_2) ok_X11_heard mX11_170 (recv_Mo ho) dX11_faultsAt_16 ⟨Nat.le_of_ble_eq_true rfl, Nat.le_of_ble_eq_true rfl⟩ ⟨Nat.zero_le _, Nat.zero_le _⟩ rfl (Nat.le_of_ble_eq_true rfl) rfl (fun i_r_2 => ?_)
  refine r_istore_n g0 (lv' := [some (.ref (E.1 o)), some (.int (J p1)), some (.int (J r_1)), some (.int (J r_2)), none, none, none, none, none]) dX11_faultsAt_19 (by decide) rfl rfl ?_
  refine r_iload_n g0 dX11_faultsAt_20 rfl ?_
  refine r_sipush g0 dX11_faultsAt_21 rfl ?_
  refine r_icmp_eq g0 34 dX11_faultsAt_24 (by decide) i_r_1 (InR_lit rfl) (fun hc => ?_) (fun hc => ?_)
  · replace h := if_t hc h
    refine r_iconst g0 dX11_faultsAt_34 ?_
    exact z_I g dX11_faultsAt_35 (B01.inR B01_0) h
  · replace h := if_f hc h
    refine r_iload_n g0 dX11_faultsAt_27 rfl ?_
    refine r_sipush g0 dX11_faultsAt_28 rfl ?_
    refine r_icmp_ne g0 36 dX11_faultsAt_31 (by decide) i_r_2 (InR_lit rfl) (fun hc => ?_) (fun hc => ?_)
    · replace h := if_f hc h
      refine r_iload_n g0 dX11_faultsAt_36 rfl ?_
      refine r_iload_n g0 dX11_faultsAt_37 rfl ?_
      refine r_isub g0 dX11_faultsAt_38 ?_
      refine r_bipush g0 dX11_faultsAt_39 rfl ?_
      obtain ⟨r_3, s_3, hr_3, h⟩ := bd_some h
      refine r_cSI g0 (rest := []) (c_X11_left (InR_wr _) (InR_lit rfl) hr_3) ok_X11_left mX11_79 dX11_faultsAt_41 ⟨Nat.le_of_ble_eq_true rfl, Nat.le_of_ble_eq_true rfl⟩ ⟨Nat.zero_le _, Nat.zero_le _⟩ rfl (Nat.le_of_ble_eq_true rfl) rfl (fun i_r_3 => ?_)
      refine r_istore g0 (lv' := [some (.ref (E.1 o)), some (.int (J p1)), some (.int (J r_1)), some (.int (J r_2)), some (.int (J r_3)), none, none, none, none]) dX11_faultsAt_44 (by decide) rfl rfl ?_
      refine r_iload_n g0 dX11_faultsAt_46 rfl ?_
      refine r_aload_n g0 dX11_faultsAt_47 rfl ?_
      refine g_Mo_all g0 ho qX11_7 dX11_faultsAt_48 ?_
      refine r_sipush g0 dX11_faultsAt_51 rfl ?_
      obtain ⟨hb, h⟩ := gd_some h
      refine r_iaload g0 (is_a_Mo_all ho) (n := 145) rfl (InR_lit rfl) hb dX11_faultsAt_54 ?_
      obtain ⟨hne, h⟩ := nz_some h
      refine r_irem g0 dX11_faultsAt_55 i_p1 (InR_rd _ _ _) hne ?_
      obtain ⟨jp_1, hdjp_1, h⟩ := jn_some h
      have hjp_1 : ∀ (vt_1 : Int) (s_4 : u_S), B01 vt_1 → jp_1 vt_1 s_4 = some (r, s') → K 0 0 83 [some (.ref (E.1 o)), some (.int (J p1)), some (.int (J r_1)), some (.int (J r_2)), some (.int (J r_3)), none, none, none, none] [.int (J vt_1)] (Wd E s_4) := by
        intro vt_1 s_4 i_vt_1 h
        subst hdjp_1
        refine r_istore g0 (lv' := [some (.ref (E.1 o)), some (.int (J p1)), some (.int (J r_1)), some (.int (J r_2)), some (.int (J r_3)), some (.int (J vt_1)), none, none, none]) dX11_faultsAt_83 (by decide) rfl rfl ?_
        refine r_iload g0 dX11_faultsAt_85 rfl ?_
        refine r_iload_n g0 dX11_faultsAt_87 rfl ?_
        refine r_iload_n g0 dX11_faultsAt_88 rfl ?_
        obtain ⟨jp_2, hdjp_2, h⟩ := jn_some h
        have hjp_2 : ∀ (vt_2 : Int) (vt_3 : Int) (s_5 : u_S), B01 vt_2 → InR vt_3 → jp_2 vt_2 vt_3 s_5 = some (r, s') → K 0 0 97 [some (.ref (E.1 o)), some (.int (J p1)), some (.int (J r_1)), some (.int (J r_2)), some (.int (J r_3)), none, none, none, none] [.int (J vt_3), .int (J vt_2)] (Wd E s_5) := by
          intro vt_2 vt_3 s_5 i_vt_2 i_vt_3 h
          subst hdjp_2
          refine r_ior g0 dX11_faultsAt_97 ?_
          refine r_istore g0 (lv' := [some (.ref (E.1 o)), some (.int (J p1)), some (.int (J r_1)), some (.int (J r_2)), some (.int (J r_3)), some (.int (J (ior vt_2 vt_3))), none, none, none]) dX11_faultsAt_98 (by decide) rfl rfl ?_
          refine r_iload_n g0 dX11_faultsAt_100 rfl ?_
          obtain ⟨jp_3, hdjp_3, h⟩ := jn_some h
          have hjp_3 : ∀ (vt_4 : Int) (s_6 : u_S), InR vt_4 → jp_3 vt_4 s_6 = some (r, s') → K 0 0 121 [some (.ref (E.1 o)), some (.int (J p1)), some (.int (J r_1)), some (.int (J r_2)), some (.int (J r_3)), some (.int (J (ior vt_2 vt_3))), none, none, none] [.int (J vt_4)] (Wd E s_6) := by
            intro vt_4 s_6 i_vt_4 h
            subst hdjp_3
            refine r_istore g0 (lv' := [some (.ref (E.1 o)), some (.int (J p1)), some (.int (J r_1)), some (.int (J r_2)), some (.int (J r_3)), some (.int (J (ior vt_2 vt_3))), some (.int (J vt_4)), none, none]) dX11_faultsAt_121 (by decide) rfl rfl ?_
            refine r_iload_n g0 dX11_faultsAt_123 rfl ?_
            obtain ⟨jp_4, hdjp_4, h⟩ := jn_some h
            have hjp_4 : ∀ (vt_5 : Int) (s_7 : u_S), InR vt_5 → jp_4 vt_5 s_7 = some (r, s') → K 0 0 144 [none, none, some (.int (J r_1)), some (.int (J r_2)), some (.int (J r_3)), some (.int (J (ior vt_2 vt_3))), some (.int (J vt_4)), none, none] [.int (J vt_5)] (Wd E s_7) := by
              intro vt_5 s_7 i_vt_5 h
              subst hdjp_4
              refine r_istore g0 (lv' := [none, none, some (.int (J r_1)), some (.int (J r_2)), some (.int (J r_3)), some (.int (J (ior vt_2 vt_3))), some (.int (J vt_4)), some (.int (J vt_5)), none]) dX11_faultsAt_144 (by decide) rfl rfl ?_
              refine r_iload g0 dX11_faultsAt_146 rfl ?_
              refine r_sipush g0 dX11_faultsAt_148 rfl ?_
              refine r_icmp_eq g0 234 dX11_faultsAt_151 (by decide) i_vt_4 (InR_lit rfl) (fun hc => ?_) (fun hc => ?_)
              · replace h := if_t hc h
                refine r_iload g0 dX11_faultsAt_234 rfl ?_
                exact z_I g dX11_faultsAt_236 (InR_to _) h
              · replace h := if_f hc h
                refine r_iload g0 dX11_faultsAt_154 rfl ?_
                refine r_sipush g0 dX11_faultsAt_156 rfl ?_
                refine r_icmp_eq g0 234 dX11_faultsAt_159 (by decide) i_vt_5 (InR_lit rfl) (fun hc => ?_) (fun hc => ?_)
                · replace h := if_t hc h
                  refine r_iload g0 dX11_faultsAt_234 rfl ?_
                  exact z_I g dX11_faultsAt_236 (InR_to _) h
                · replace h := if_f hc h
                  refine r_iload_n g0 dX11_faultsAt_162 rfl ?_
                  refine r_iload g0 dX11_faultsAt_163 rfl ?_
                  obtain ⟨jp_5, hdjp_5, h⟩ := jn_some h
                  have hjp_5 : ∀ (vt_6 : Int) (s_8 : u_S), B01 vt_6 → jp_5 vt_6 s_8 = some (r, s') → K 0 0 191 [none, none, none, none, some (.int (J r_3)), some (.int (J (ior vt_2 vt_3))), some (.int (J vt_4)), some (.int (J vt_5)), none] [.int (J vt_6)] (Wd E s_8) := by
                    intro vt_6 s_8 i_vt_6 h
                    subst hdjp_5
                    refine r_istore g0 (lv' := [none, none, none, none, some (.int (J r_3)), some (.int (J (ior vt_2 vt_3))), some (.int (J vt_4)), some (.int (J vt_5)), some (.int (J vt_6))]) dX11_faultsAt_191 (by decide) rfl rfl ?_
                    refine r_iload g0 dX11_faultsAt_193 rfl ?_
                    refine r_iload g0 dX11_faultsAt_195 rfl ?_
                    obtain ⟨jp_6, hdjp_6, h⟩ := jn_some h
                    have hjp_6 : ∀ (vt_7 : Int) (vt_8 : Int) (s_9 : u_S), InR vt_7 → InR vt_8 → jp_6 vt_7 vt_8 s_9 = some (r, s') → K 0 0 231 [none, none, none, none, none, none, none, none, none] [.int (J vt_8), .int (J vt_7)] (Wd E s_9) := by
                      intro vt_7 vt_8 s_9 i_vt_7 i_vt_8 h
                      subst hdjp_6
                      refine r_ior g0 dX11_faultsAt_231 ?_
                      refine r_istore g0 (lv' := [none, none, none, none, none, some (.int (J (ior vt_7 vt_8))), none, none, none]) dX11_faultsAt_232 (by decide) rfl rfl ?_
                      refine r_iload g0 dX11_faultsAt_234 rfl ?_
                      exact z_I g dX11_faultsAt_236 (InR_to _) h
                    clear hdjp_6
                    obtain ⟨jp_7, hdjp_7, h⟩ := jn_some h
                    have hjp_7 : ∀ (vt_9 : Int) (s_10 : u_S), InR vt_9 → jp_7 vt_9 s_10 = some (r, s') → K 0 0 230 [none, none, none, none, none, none, none, none, none] [.int (J vt_9)] (Wd E s_10) := by
                      intro vt_9 s_10 i_vt_9 h
                      subst hdjp_7
                      refine r_iconst g0 dX11_faultsAt_230 ?_
                      exact hjp_6 vt_9 0 s_10 i_vt_9 (B01.inR B01_0) h
                    clear hdjp_7
                    refine r_if_eq g0 230 dX11_faultsAt_197 (by decide) (B01.inR i_vt_6) (fun hc => ?_) (fun hc => ?_)
                    · replace h := if_t hc h
                      refine r_mask g0 (lv' := [none, none, none, none, none, none, none, none, none]) [false, false, false, false, false, false, false, false, false] rfl ?_
                      exact hjp_7 (ior vt_2 vt_3) s_8 (InR_to _) h
                    · replace h := if_f hc h
                      refine r_iload g0 dX11_faultsAt_200 rfl ?_
                      obtain ⟨jp_8, hdjp_8, h⟩ := jn_some h
                      have hjp_8 : ∀ (vt_10 : Int) (s_11 : u_S), InR vt_10 → jp_8 vt_10 s_11 = some (r, s') → K 0 0 211 [none, none, none, none, some (.int (J r_3)), none, some (.int (J vt_4)), some (.int (J vt_5)), none] [.int (J vt_10)] (Wd E s_11) := by
                        intro vt_10 s_11 i_vt_10 h
                        subst hdjp_8
                        refine r_iload g0 dX11_faultsAt_211 rfl ?_
                        refine r_iload g0 dX11_faultsAt_213 rfl ?_
                        refine r_isub g0 dX11_faultsAt_215 ?_
                        refine r_bipush g0 dX11_faultsAt_216 rfl ?_
                        obtain ⟨r_4, s_12, hr_4, h⟩ := bd_some h
                        refine r_cSI g0 (rest := [.int (J vt_10)]) (c_X11_left (InR_wr _) (InR_lit rfl) hr_4) ok_X11_left mX11_79 dX11_faultsAt_218 ⟨Nat.le_of_ble_eq_true rfl, Nat.le_of_ble_eq_true rfl⟩ ⟨Nat.zero_le _, Nat.zero_le _⟩ rfl (Nat.le_of_ble_eq_true rfl) rfl (fun i_r_4 => ?_)
                        refine r_iload g0 dX11_faultsAt_221 rfl ?_
                        refine r_icmp_ne g0 230 dX11_faultsAt_223 (by decide) i_r_4 i_r_3 (fun hc => ?_) (fun hc => ?_)
                        · replace h := if_f hc h
                          refine r_mask g0 (lv' := [none, none, none, none, none, none, none, none, none]) [false, false, false, false, false, false, false, false, false] rfl ?_
                          exact hjp_7 vt_10 s_12 i_vt_10 h
                        · replace h := if_t hc h
                          refine r_iconst g0 dX11_faultsAt_226 ?_
                          refine r_goto g0 231 dX11_faultsAt_227 (by decide) ?_
                          refine r_mask g0 (lv' := [none, none, none, none, none, none, none, none, none]) [false, false, false, false, false, false, false, false, false] rfl ?_
                          exact hjp_6 vt_10 4 s_12 i_vt_10 (InR_lit rfl) h
                      clear hdjp_8
                      refine r_if_eq g0 211 dX11_faultsAt_202 (by decide) i_r_3 (fun hc => ?_) (fun hc => ?_)
                      · replace h := if_t hc h
                        refine r_mask g0 (lv' := [none, none, none, none, some (.int (J r_3)), none, some (.int (J vt_4)), some (.int (J vt_5)), none]) [false, false, false, false, true, false, true, true, false] rfl ?_
                        exact hjp_8 (ior vt_2 vt_3) s_8 (InR_to _) h
                      · replace h := if_f hc h
                        refine r_iload g0 dX11_faultsAt_205 rfl ?_
                        refine r_iconst g0 dX11_faultsAt_207 ?_
                        refine r_icmp_ne g0 230 dX11_faultsAt_208 (by decide) i_r_3 (InR_lit rfl) (fun hc => ?_) (fun hc => ?_)
                        · replace h := if_f hc h
                          refine r_mask g0 (lv' := [none, none, none, none, none, none, none, none, none]) [false, false, false, false, false, false, false, false, false] rfl ?_
                          exact hjp_7 (ior vt_2 vt_3) s_8 (InR_to _) h
                        · replace h := if_t hc h
                          refine r_mask g0 (lv' := [none, none, none, none, some (.int (J r_3)), none, some (.int (J vt_4)), some (.int (J vt_5)), none]) [false, false, false, false, true, false, true, true, false] rfl ?_
                          exact hjp_8 (ior vt_2 vt_3) s_8 (InR_to _) h
                  clear hdjp_5
                  obtain ⟨jp_9, hdjp_9, h⟩ := jn_some h
                  have hjp_9 : ∀  (s_13 : u_S), jp_9 s_13 = some (r, s') → K 0 0 186 [none, none, none, none, some (.int (J r_3)), some (.int (J (ior vt_2 vt_3))), some (.int (J vt_4)), some (.int (J vt_5)), none] [] (Wd E s_13) := by
                    intro s_13 h
                    subst hdjp_9
                    refine r_iconst g0 dX11_faultsAt_186 ?_
                    refine r_goto g0 191 dX11_faultsAt_187 (by decide) ?_
                    exact hjp_5 1 s_13 B01_1 h
                  clear hdjp_9
                  obtain ⟨jp_10, hdjp_10, h⟩ := jn_some h
                  have hjp_10 : ∀  (s_14 : u_S), jp_10 s_14 = some (r, s') → K 0 0 174 [none, none, some (.int (J r_1)), some (.int (J r_2)), some (.int (J r_3)), some (.int (J (ior vt_2 vt_3))), some (.int (J vt_4)), some (.int (J vt_5)), none] [] (Wd E s_14) := by
                    intro s_14 h
                    subst hdjp_10
                    refine r_iload_n g0 dX11_faultsAt_174 rfl ?_
                    refine r_iload g0 dX11_faultsAt_175 rfl ?_
                    obtain ⟨jp_11, hdjp_11, h⟩ := jn_some h
                    have hjp_11 : ∀  (s_15 : u_S), jp_11 s_15 = some (r, s') → K 0 0 190 [none, none, none, none, some (.int (J r_3)), some (.int (J (ior vt_2 vt_3))), some (.int (J vt_4)), some (.int (J vt_5)), none] [] (Wd E s_15) := by
                      intro s_15 h
                      subst hdjp_11
                      refine r_iconst g0 dX11_faultsAt_190 ?_
                      exact hjp_5 0 s_15 B01_0 h
                    clear hdjp_11
                    refine r_icmp_ge g0 190 dX11_faultsAt_177 (by decide) i_r_1 i_vt_4 (fun hc => ?_) (fun hc => ?_)
                    · replace h := if_f hc h
                      refine r_mask g0 (lv' := [none, none, none, none, some (.int (J r_3)), some (.int (J (ior vt_2 vt_3))), some (.int (J vt_4)), some (.int (J vt_5)), none]) [false, false, false, false, true, true, true, true, false] rfl ?_
                      exact hjp_11 s_14 h
                    · replace h := if_t hc h
                      refine r_iload_n g0 dX11_faultsAt_180 rfl ?_
                      refine r_iload g0 dX11_faultsAt_181 rfl ?_
                      refine r_icmp_ge g0 190 dX11_faultsAt_183 (by decide) i_r_2 i_vt_5 (fun hc => ?_) (fun hc => ?_)
                      · replace h := if_f hc h
                        refine r_mask g0 (lv' := [none, none, none, none, some (.int (J r_3)), some (.int (J (ior vt_2 vt_3))), some (.int (J vt_4)), some (.int (J vt_5)), none]) [false, false, false, false, true, true, true, true, false] rfl ?_
                        exact hjp_11 s_14 h
                      · replace h := if_t hc h
                        refine r_mask g0 (lv' := [none, none, none, none, some (.int (J r_3)), some (.int (J (ior vt_2 vt_3))), some (.int (J vt_4)), some (.int (J vt_5)), none]) [false, false, false, false, true, true, true, true, false] rfl ?_
                        exact hjp_9 s_14 h
                  clear hdjp_10
                  refine r_icmp_le g0 174 dX11_faultsAt_165 (by decide) i_r_1 i_vt_4 (fun hc => ?_) (fun hc => ?_)
                  · replace h := if_t hc h
                    exact hjp_10 s_7 h
                  · replace h := if_f hc h
                    refine r_iload_n g0 dX11_faultsAt_168 rfl ?_
                    refine r_iload g0 dX11_faultsAt_169 rfl ?_
                    refine r_icmp_gt g0 186 dX11_faultsAt_171 (by decide) i_r_2 i_vt_5 (fun hc => ?_) (fun hc => ?_)
                    · replace h := if_f hc h
                      refine r_mask g0 (lv' := [none, none, none, none, some (.int (J r_3)), some (.int (J (ior vt_2 vt_3))), some (.int (J vt_4)), some (.int (J vt_5)), none]) [false, false, false, false, true, true, true, true, false] rfl ?_
                      exact hjp_9 s_7 h
                    · replace h := if_t hc h
                      exact hjp_10 s_7 h
            clear hdjp_4
            refine r_if_ne g0 133 dX11_faultsAt_124 (by decide) i_p1 (fun hc => ?_) (fun hc => ?_)
            · replace h := if_f hc h
              refine r_aload_n g0 dX11_faultsAt_133 rfl ?_
              refine r_aload_n g0 dX11_faultsAt_134 rfl ?_
              refine g_Mo_lower g0 ho qX11_25 dX11_faultsAt_135 ?_
              refine r_iload_n g0 dX11_faultsAt_138 rfl ?_
              refine r_iconst g0 dX11_faultsAt_139 ?_
              refine r_isub g0 dX11_faultsAt_140 ?_
              obtain ⟨r_5, s_16, hr_5, h⟩ := bd_some h
              refine r_cVI g0 (rest := []) (c_X11_heard ho (is_a_Mo_lower ho) (InR_wr _) hr_5) ok_X11_heard mX11_170 (recv_Mo ho) dX11_faultsAt_141 ⟨Nat.le_of_ble_eq_true rfl, Nat.le_of_ble_eq_true rfl⟩ ⟨Nat.zero_le _, Nat.zero_le _⟩ rfl (Nat.le_of_ble_eq_true rfl) rfl (fun i_r_5 => ?_)
              refine r_mask g0 (lv' := [none, none, some (.int (J r_1)), some (.int (J r_2)), some (.int (J r_3)), some (.int (J (ior vt_2 vt_3))), some (.int (J vt_4)), none, none]) [false, false, true, true, true, true, true, false, false] rfl ?_
              exact hjp_4 r_5 s_16 i_r_5 h
            · replace h := if_t hc h
              refine r_sipush g0 dX11_faultsAt_127 rfl ?_
              refine r_goto g0 144 dX11_faultsAt_130 (by decide) ?_
              refine r_mask g0 (lv' := [none, none, some (.int (J r_1)), some (.int (J r_2)), some (.int (J r_3)), some (.int (J (ior vt_2 vt_3))), some (.int (J vt_4)), none, none]) [false, false, true, true, true, true, true, false, false] rfl ?_
              exact hjp_4 (-1000) s_6 (InR_lit rfl) h
          clear hdjp_3
          refine r_if_ne g0 110 dX11_faultsAt_101 (by decide) i_p1 (fun hc => ?_) (fun hc => ?_)
          · replace h := if_f hc h
            refine r_aload_n g0 dX11_faultsAt_110 rfl ?_
            refine r_aload_n g0 dX11_faultsAt_111 rfl ?_
            refine g_Mo_upper g0 ho qX11_22 dX11_faultsAt_112 ?_
            refine r_iload_n g0 dX11_faultsAt_115 rfl ?_
            refine r_iconst g0 dX11_faultsAt_116 ?_
            refine r_isub g0 dX11_faultsAt_117 ?_
            obtain ⟨r_6, s_17, hr_6, h⟩ := bd_some h
            refine r_cVI g0 (rest := []) (c_X11_heard ho (is_a_Mo_upper ho) (InR_wr _) hr_6) ok_X11_heard mX11_170 (recv_Mo ho) dX11_faultsAt_118 ⟨Nat.le_of_ble_eq_true rfl, Nat.le_of_ble_eq_true rfl⟩ ⟨Nat.zero_le _, Nat.zero_le _⟩ rfl (Nat.le_of_ble_eq_true rfl) rfl (fun i_r_6 => ?_)
            exact hjp_3 r_6 s_17 i_r_6 h
          · replace h := if_t hc h
            refine r_sipush g0 dX11_faultsAt_104 rfl ?_
            refine r_goto g0 121 dX11_faultsAt_107 (by decide) ?_
            exact hjp_3 (-1000) s_5 (InR_lit rfl) h
        clear hdjp_2
        refine r_icmp_ge g0 96 dX11_faultsAt_89 (by decide) i_r_1 i_r_2 (fun hc => ?_) (fun hc => ?_)
        · replace h := if_f hc h
          refine r_iconst g0 dX11_faultsAt_96 ?_
          refine r_mask g0 (lv' := [some (.ref (E.1 o)), some (.int (J p1)), some (.int (J r_1)), some (.int (J r_2)), some (.int (J r_3)), none, none, none, none]) [true, true, true, true, true, false, false, false, false] rfl ?_
          exact hjp_2 vt_1 0 s_4 i_vt_1 (B01.inR B01_0) h
        · replace h := if_t hc h
          refine r_iconst g0 dX11_faultsAt_92 ?_
          refine r_goto g0 97 dX11_faultsAt_93 (by decide) ?_
          refine r_mask g0 (lv' := [some (.ref (E.1 o)), some (.int (J p1)), some (.int (J r_1)), some (.int (J r_2)), some (.int (J r_3)), none, none, none, none]) [true, true, true, true, true, false, false, false, false] rfl ?_
          exact hjp_2 vt_1 2 s_4 i_vt_1 (InR_lit rfl) h
      clear hdjp_1
      obtain ⟨jp_12, hdjp_12, h⟩ := jn_some h
      have hjp_12 : ∀  (s_18 : u_S), jp_12 s_18 = some (r, s') → K 0 0 82 [some (.ref (E.1 o)), some (.int (J p1)), some (.int (J r_1)), some (.int (J r_2)), some (.int (J r_3)), none, none, none, none] [] (Wd E s_18) := by
        intro s_18 h
        subst hdjp_12
        refine r_iconst g0 dX11_faultsAt_82 ?_
        exact hjp_1 0 s_18 B01_0 h
      clear hdjp_12
      refine r_if_ne g0 82 dX11_faultsAt_56 (by decide) (InR_rem _ i_p1) (fun hc => ?_) (fun hc => ?_)
      · replace h := if_f hc h
        exact hjp_12 s_3 h
      · replace h := if_t hc h
        refine r_iload g0 dX11_faultsAt_59 rfl ?_
        refine r_iconst g0 dX11_faultsAt_61 ?_
        obtain ⟨jp_13, hdjp_13, h⟩ := jn_some h
        have hjp_13 : ∀  (s_19 : u_S), jp_13 s_19 = some (r, s') → K 0 0 78 [some (.ref (E.1 o)), some (.int (J p1)), some (.int (J r_1)), some (.int (J r_2)), some (.int (J r_3)), none, none, none, none] [] (Wd E s_19) := by
          intro s_19 h
          subst hdjp_13
          refine r_iconst g0 dX11_faultsAt_78 ?_
          refine r_goto g0 83 dX11_faultsAt_79 (by decide) ?_
          exact hjp_1 1 s_19 B01_1 h
        clear hdjp_13
        refine r_icmp_eq g0 78 dX11_faultsAt_62 (by decide) i_r_3 (B01.inR B01_1) (fun hc => ?_) (fun hc => ?_)
        · replace h := if_t hc h
          exact hjp_13 s_3 h
        · replace h := if_f hc h
          refine r_iload g0 dX11_faultsAt_65 rfl ?_
          refine r_iconst g0 dX11_faultsAt_67 ?_
          refine r_icmp_eq g0 78 dX11_faultsAt_68 (by decide) i_r_3 (InR_lit rfl) (fun hc => ?_) (fun hc => ?_)
          · replace h := if_t hc h
            exact hjp_13 s_3 h
          · replace h := if_f hc h
            refine r_iload g0 dX11_faultsAt_71 rfl ?_
            refine r_bipush g0 dX11_faultsAt_73 rfl ?_
            refine r_icmp_ne g0 82 dX11_faultsAt_75 (by decide) i_r_3 (InR_lit rfl) (fun hc => ?_) (fun hc => ?_)
            · replace h := if_f hc h
              exact hjp_12 s_3 h
            · replace h := if_t hc h
              exact hjp_13 s_3 h
    · replace h := if_t hc h
      refine r_iconst g0 dX11_faultsAt_34 ?_
      exact z_I g dX11_faultsAt_35 (B01.inR B01_0) h
theorem dX11_countsAll_0 : decode cX11_countsAll 0 = .ok (.aload_n 0, 1) := by decide +kernel
theorem dX11_countsAll_1 : decode cX11_countsAll 1 = .ok (.getfield 22, 3) := by decide +kernel
theorem dX11_countsAll_4 : decode cX11_countsAll 4 = .ok (.iconst 3, 1) := by decide +kernel
theorem dX11_countsAll_5 : decode cX11_countsAll 5 = .ok (.iaload, 1) := by decide +kernel
theorem dX11_countsAll_6 : decode cX11_countsAll 6 = .ok (.aload_n 0, 1) := by decide +kernel
theorem dX11_countsAll_7 : decode cX11_countsAll 7 = .ok (.getfield 25, 3) := by decide +kernel
theorem dX11_countsAll_10 : decode cX11_countsAll 10 = .ok (.iconst 3, 1) := by decide +kernel
theorem dX11_countsAll_11 : decode cX11_countsAll 11 = .ok (.iaload, 1) := by decide +kernel
theorem dX11_countsAll_12 : decode cX11_countsAll 12 = .ok (.if_icmp .le 12, 3) := by decide +kernel
theorem dX11_countsAll_15 : decode cX11_countsAll 15 = .ok (.aload_n 0, 1) := by decide +kernel
theorem dX11_countsAll_16 : decode cX11_countsAll 16 = .ok (.getfield 22, 3) := by decide +kernel
theorem dX11_countsAll_19 : decode cX11_countsAll 19 = .ok (.iconst 3, 1) := by decide +kernel
theorem dX11_countsAll_20 : decode cX11_countsAll 20 = .ok (.iaload, 1) := by decide +kernel
theorem dX11_countsAll_21 : decode cX11_countsAll 21 = .ok (.goto 9, 3) := by decide +kernel
theorem dX11_countsAll_24 : decode cX11_countsAll 24 = .ok (.aload_n 0, 1) := by decide +kernel
theorem dX11_countsAll_25 : decode cX11_countsAll 25 = .ok (.getfield 25, 3) := by decide +kernel
theorem dX11_countsAll_28 : decode cX11_countsAll 28 = .ok (.iconst 3, 1) := by decide +kernel
theorem dX11_countsAll_29 : decode cX11_countsAll 29 = .ok (.iaload, 1) := by decide +kernel
theorem dX11_countsAll_30 : decode cX11_countsAll 30 = .ok (.istore_n 1, 1) := by decide +kernel
theorem dX11_countsAll_31 : decode cX11_countsAll 31 = .ok (.aload_n 0, 1) := by decide +kernel
theorem dX11_countsAll_32 : decode cX11_countsAll 32 = .ok (.getfield 22, 3) := by decide +kernel
theorem dX11_countsAll_35 : decode cX11_countsAll 35 = .ok (.iconst 3, 1) := by decide +kernel
theorem dX11_countsAll_36 : decode cX11_countsAll 36 = .ok (.iaload, 1) := by decide +kernel
theorem dX11_countsAll_37 : decode cX11_countsAll 37 = .ok (.aload_n 0, 1) := by decide +kernel
theorem dX11_countsAll_38 : decode cX11_countsAll 38 = .ok (.aload_n 0, 1) := by decide +kernel
theorem dX11_countsAll_39 : decode cX11_countsAll 39 = .ok (.getfield 22, 3) := by decide +kernel
theorem dX11_countsAll_42 : decode cX11_countsAll 42 = .ok (.iconst 0, 1) := by decide +kernel
theorem dX11_countsAll_43 : decode cX11_countsAll 43 = .ok (.iaload, 1) := by decide +kernel
theorem dX11_countsAll_44 : decode cX11_countsAll 44 = .ok (.aload_n 0, 1) := by decide +kernel
theorem dX11_countsAll_45 : decode cX11_countsAll 45 = .ok (.getfield 22, 3) := by decide +kernel
theorem dX11_countsAll_48 : decode cX11_countsAll 48 = .ok (.iconst 1, 1) := by decide +kernel
theorem dX11_countsAll_49 : decode cX11_countsAll 49 = .ok (.iaload, 1) := by decide +kernel
theorem dX11_countsAll_50 : decode cX11_countsAll 50 = .ok (.invokevirtual 174, 3) := by decide +kernel
theorem dX11_countsAll_53 : decode cX11_countsAll 53 = .ok (.iadd, 1) := by decide +kernel
theorem dX11_countsAll_54 : decode cX11_countsAll 54 = .ok (.istore_n 2, 1) := by decide +kernel
theorem dX11_countsAll_55 : decode cX11_countsAll 55 = .ok (.aload_n 0, 1) := by decide +kernel
theorem dX11_countsAll_56 : decode cX11_countsAll 56 = .ok (.getfield 25, 3) := by decide +kernel
theorem dX11_countsAll_59 : decode cX11_countsAll 59 = .ok (.iconst 3, 1) := by decide +kernel
theorem dX11_countsAll_60 : decode cX11_countsAll 60 = .ok (.iaload, 1) := by decide +kernel
theorem dX11_countsAll_61 : decode cX11_countsAll 61 = .ok (.aload_n 0, 1) := by decide +kernel
theorem dX11_countsAll_62 : decode cX11_countsAll 62 = .ok (.aload_n 0, 1) := by decide +kernel
theorem dX11_countsAll_63 : decode cX11_countsAll 63 = .ok (.getfield 25, 3) := by decide +kernel
theorem dX11_countsAll_66 : decode cX11_countsAll 66 = .ok (.iconst 0, 1) := by decide +kernel
theorem dX11_countsAll_67 : decode cX11_countsAll 67 = .ok (.iaload, 1) := by decide +kernel
theorem dX11_countsAll_68 : decode cX11_countsAll 68 = .ok (.aload_n 0, 1) := by decide +kernel
theorem dX11_countsAll_69 : decode cX11_countsAll 69 = .ok (.getfield 25, 3) := by decide +kernel
theorem dX11_countsAll_72 : decode cX11_countsAll 72 = .ok (.iconst 1, 1) := by decide +kernel
theorem dX11_countsAll_73 : decode cX11_countsAll 73 = .ok (.iaload, 1) := by decide +kernel
theorem dX11_countsAll_74 : decode cX11_countsAll 74 = .ok (.invokevirtual 174, 3) := by decide +kernel
theorem dX11_countsAll_77 : decode cX11_countsAll 77 = .ok (.iadd, 1) := by decide +kernel
theorem dX11_countsAll_78 : decode cX11_countsAll 78 = .ok (.istore_n 3, 1) := by decide +kernel
theorem dX11_countsAll_79 : decode cX11_countsAll 79 = .ok (.iload_n 2, 1) := by decide +kernel
theorem dX11_countsAll_80 : decode cX11_countsAll 80 = .ok (.iload_n 3, 1) := by decide +kernel
theorem dX11_countsAll_81 : decode cX11_countsAll 81 = .ok (.if_icmp .ge 7, 3) := by decide +kernel
theorem dX11_countsAll_84 : decode cX11_countsAll 84 = .ok (.iload_n 2, 1) := by decide +kernel
theorem dX11_countsAll_85 : decode cX11_countsAll 85 = .ok (.goto 4, 3) := by decide +kernel
theorem dX11_countsAll_88 : decode cX11_countsAll 88 = .ok (.iload_n 3, 1) := by decide +kernel
theorem dX11_countsAll_89 : decode cX11_countsAll 89 = .ok (.istore 4, 2) := by decide +kernel
theorem dX11_countsAll_91 : decode cX11_countsAll 91 = .ok (.iconst 0, 1) := by decide +kernel
theorem dX11_countsAll_92 : decode cX11_countsAll 92 = .ok (.istore 5, 2) := by decide +kernel
theorem dX11_countsAll_94 : decode cX11_countsAll 94 = .ok (.iload 5, 2) := by decide +kernel
theorem dX11_countsAll_96 : decode cX11_countsAll 96 = .ok (.iconst 3, 1) := by decide +kernel
theorem dX11_countsAll_97 : decode cX11_countsAll 97 = .ok (.if_icmp .ge 17, 3) := by decide +kernel
theorem dX11_countsAll_100 : decode cX11_countsAll 100 = .ok (.aload_n 0, 1) := by decide +kernel
theorem dX11_countsAll_101 : decode cX11_countsAll 101 = .ok (.getfield 28, 3) := by decide +kernel
theorem dX11_countsAll_104 : decode cX11_countsAll 104 = .ok (.iload 5, 2) := by decide +kernel
theorem dX11_countsAll_106 : decode cX11_countsAll 106 = .ok (.iconst 0, 1) := by decide +kernel
theorem dX11_countsAll_107 : decode cX11_countsAll 107 = .ok (.iastore, 1) := by decide +kernel
theorem dX11_countsAll_108 : decode cX11_countsAll 108 = .ok (.iinc 5 1, 3) := by decide +kernel
theorem dX11_countsAll_111 : decode cX11_countsAll 111 = .ok (.goto (-17), 3) := by decide +kernel
theorem dX11_countsAll_114 : decode cX11_countsAll 114 = .ok (.iload_n 1, 1) := by decide +kernel
theorem dX11_countsAll_115 : decode cX11_countsAll 115 = .ok (.istore 5, 2) := by decide +kernel
theorem dX11_countsAll_117 : decode cX11_countsAll 117 = .ok (.iload 5, 2) := by decide +kernel
theorem dX11_countsAll_119 : decode cX11_countsAll 119 = .ok (.iload 4, 2) := by decide +kernel
theorem dX11_countsAll_121 : decode cX11_countsAll 121 = .ok (.if_icmp .ge 49, 3) := by decide +kernel
theorem dX11_countsAll_124 : decode cX11_countsAll 124 = .ok (.aload_n 0, 1) := by decide +kernel
theorem dX11_countsAll_125 : decode cX11_countsAll 125 = .ok (.iload 5, 2) := by decide +kernel
theorem dX11_countsAll_127 : decode cX11_countsAll 127 = .ok (.invokevirtual 177, 3) := by decide +kernel
theorem dX11_countsAll_130 : decode cX11_countsAll 130 = .ok (.istore 6, 2) := by decide +kernel
theorem dX11_countsAll_132 : decode cX11_countsAll 132 = .ok (.iconst 0, 1) := by decide +kernel
theorem dX11_countsAll_133 : decode cX11_countsAll 133 = .ok (.istore 7, 2) := by decide +kernel
theorem dX11_countsAll_135 : decode cX11_countsAll 135 = .ok (.iload 7, 2) := by decide +kernel
theorem dX11_countsAll_137 : decode cX11_countsAll 137 = .ok (.iconst 3, 1) := by decide +kernel
theorem dX11_countsAll_138 : decode cX11_countsAll 138 = .ok (.if_icmp .ge 26, 3) := by decide +kernel
theorem dX11_countsAll_141 : decode cX11_countsAll 141 = .ok (.aload_n 0, 1) := by decide +kernel
theorem dX11_countsAll_142 : decode cX11_countsAll 142 = .ok (.getfield 28, 3) := by decide +kernel
theorem dX11_countsAll_145 : decode cX11_countsAll 145 = .ok (.iload 7, 2) := by decide +kernel
theorem dX11_countsAll_147 : decode cX11_countsAll 147 = .ok (.dup2, 1) := by decide +kernel
theorem dX11_countsAll_148 : decode cX11_countsAll 148 = .ok (.iaload, 1) := by decide +kernel
theorem dX11_countsAll_149 : decode cX11_countsAll 149 = .ok (.iload 6, 2) := by decide +kernel
theorem dX11_countsAll_151 : decode cX11_countsAll 151 = .ok (.iload 7, 2) := by decide +kernel
theorem dX11_countsAll_153 : decode cX11_countsAll 153 = .ok (.ishr, 1) := by decide +kernel
theorem dX11_countsAll_154 : decode cX11_countsAll 154 = .ok (.iconst 1, 1) := by decide +kernel
theorem dX11_countsAll_155 : decode cX11_countsAll 155 = .ok (.iand, 1) := by decide +kernel
theorem dX11_countsAll_156 : decode cX11_countsAll 156 = .ok (.iadd, 1) := by decide +kernel
theorem dX11_countsAll_157 : decode cX11_countsAll 157 = .ok (.iastore, 1) := by decide +kernel
theorem dX11_countsAll_158 : decode cX11_countsAll 158 = .ok (.iinc 7 1, 3) := by decide +kernel
theorem dX11_countsAll_161 : decode cX11_countsAll 161 = .ok (.goto (-26), 3) := by decide +kernel
theorem dX11_countsAll_164 : decode cX11_countsAll 164 = .ok (.iinc 5 1, 3) := by decide +kernel
theorem dX11_countsAll_167 : decode cX11_countsAll 167 = .ok (.goto (-50), 3) := by decide +kernel
theorem dX11_countsAll_170 : decode cX11_countsAll 170 = .ok (.return_, 1) := by decide +kernel
set_option maxHeartbeats 4000000 in
set_option maxRecDepth 100000 in
theorem t_X11_countsAll_L135 {l : Launch} {E : u_E} {K : u_K} {r : Int} {s' : u_S} (g : Wk l (XE E) { frames := 5, cells := 0, slots := 0, locals := 122 } cX11_countsAll 8 yX11_countsAll.cls yX11_countsAll.name none (RV E r s') K) {v0_2 : u_O} {v4_2 : Int} {v5_2 : Int} {v6_1 : Int} (i_v0_2 : is_Mo v0_2) (i_v4_2 : InR v4_2) (i_v5_2 : InR v5_2) (i_v6_1 : InR v6_1) {kx164 : u_S → Option (Int × u_S)} (hkx164 : ∀ (s_11 : u_S), kx164 s_11 = some (r, s') → K 0 0 164 [some (.ref (E.1 v0_2)), none, none, none, some (.int (J v4_2)), some (.int (J v5_2)), none, none] [] (Wd E s_11)) : ∀ (m : Nat) (v7_1 : Int) (s_10 : u_S), InR v7_1 → f_X11_countsAll_L135 m kx164 v0_2 v4_2 v5_2 v6_1 v7_1 s_10 = some (r, s') → K 0 0 135 [some (.ref (E.1 v0_2)), none, none, none, some (.int (J v4_2)), some (.int (J v5_2)), some (.int (J v6_1)), some (.int (J v7_1))] [] (Wd E s_10) := by
  have g0 := g.wk
  intro m
  induction m with
  | zero =>
    intro v7_1 s_10 i_v7_1 h
    exact absurd (show (none : Option (Int × u_S)) = some (r, s') from h) (by intro z; cases z)
  | succ m ih =>
    intro v7_1 s_10 i_v7_1 h
    rw [f_X11_countsAll_L135] at h
    refine r_iload g0 dX11_countsAll_135 rfl ?_
    refine r_iconst g0 dX11_countsAll_137 ?_
    refine r_icmp_ge g0 164 dX11_countsAll_138 (by decide) i_v7_1 (InR_lit rfl) (fun hc => ?_) (fun hc => ?_)
    · replace h := if_f hc h
      refine r_mask g0 (lv' := [some (.ref (E.1 v0_2)), none, none, none, some (.int (J v4_2)), some (.int (J v5_2)), none, none]) [true, false, false, false, true, true, false, false] rfl ?_
      exact hkx164 s_10 h
    · replace h := if_t hc h
      refine r_aload_n g0 dX11_countsAll_141 rfl ?_
      refine g_Mo_counted g0 i_v0_2 qX11_28 dX11_countsAll_142 ?_
      refine r_iload g0 dX11_countsAll_145 rfl ?_
      refine r_dup2 g0 dX11_countsAll_147 rfl rfl ?_
      obtain ⟨hb, h⟩ := gd_some h
      refine r_iaload g0 (is_a_Mo_counted i_v0_2) (n := 3) rfl i_v7_1 hb dX11_countsAll_148 ?_
      refine r_iload g0 dX11_countsAll_149 rfl ?_
      refine r_iload g0 dX11_countsAll_151 rfl ?_
      refine r_ishr g0 dX11_countsAll_153 ?_
      refine r_iconst g0 dX11_countsAll_154 ?_
      refine r_iand g0 dX11_countsAll_155 ?_
      refine r_iadd g0 dX11_countsAll_156 ?_
      obtain ⟨hb, h⟩ := gd_some h
      refine r_iastore g0 (is_a_Mo_counted i_v0_2) (n := 3) rfl i_v7_1 hb dX11_countsAll_157 ?_
      refine r_iinc g0 (a := v7_1) (lv' := [some (.ref (E.1 v0_2)), none, none, none, some (.int (J v4_2)), some (.int (J v5_2)), some (.int (J v6_1)), some (.int (J (wr (v7_1 + 1))))]) dX11_countsAll_158 (by decide) rfl rfl rfl ?_
      refine r_goto g0 135 dX11_countsAll_161 (by decide) ?_
      exact ih (wr (v7_1 + 1)) (wt s_10 (a_Mo_counted v0_2) v7_1 (wr ((rd s_10 (a_Mo_counted v0_2) v7_1) + (iand (ishr v6_1 v7_1) 1)))) (InR_wr _) h
set_option maxHeartbeats 4000000 in
set_option maxRecDepth 100000 in
theorem t_X11_countsAll_L117 {l : Launch} {E : u_E} {K : u_K} {r : Int} {s' : u_S} (g : Wk l (XE E) { frames := 5, cells := 0, slots := 0, locals := 122 } cX11_countsAll 8 yX11_countsAll.cls yX11_countsAll.name none (RV E r s') K) {v0_1 : u_O} {v4_1 : Int} (i_v0_1 : is_Mo v0_1) (i_v4_1 : InR v4_1) {kx170 : u_S → Option (Int × u_S)} (hkx170 : ∀ (s_12 : u_S), kx170 s_12 = some (r, s') → K 0 0 170 [none, none, none, none, none, none, none, none] [] (Wd E s_12)) : ∀ (m : Nat) (v5_1 : Int) (s_7 : u_S), InR v5_1 → f_X11_countsAll_L117 m kx170 v0_1 v4_1 v5_1 s_7 = some (r, s') → K 0 0 117 [some (.ref (E.1 v0_1)), none, none, none, some (.int (J v4_1)), some (.int (J v5_1)), none, none] [] (Wd E s_7) := by
  have g0 := g.wk
  intro m
  induction m with
  | zero =>
    intro v5_1 s_7 i_v5_1 h
    exact absurd (show (none : Option (Int × u_S)) = some (r, s') from h) (by intro z; cases z)
  | succ m ih =>
    intro v5_1 s_7 i_v5_1 h
    rw [f_X11_countsAll_L117] at h
    refine r_iload g0 dX11_countsAll_117 rfl ?_
    refine r_iload g0 dX11_countsAll_119 rfl ?_
    refine r_icmp_ge g0 170 dX11_countsAll_121 (by decide) i_v5_1 i_v4_1 (fun hc => ?_) (fun hc => ?_)
    · replace h := if_f hc h
      refine r_mask g0 (lv' := [none, none, none, none, none, none, none, none]) [false, false, false, false, false, false, false, false] rfl ?_
      exact hkx170 s_7 h
    · replace h := if_t hc h
      refine r_aload_n g0 dX11_countsAll_124 rfl ?_
      refine r_iload g0 dX11_countsAll_125 rfl ?_
      obtain ⟨r_3, s_8, hr_3, h⟩ := bd_some h
      refine r_cVI g0 (rest := []) (c_X11_faultsAt i_v0_1 i_v5_1 hr_3) ok_X11_faultsAt mX11_177 (recv_Mo i_v0_1) dX11_countsAll_127 ⟨Nat.le_of_ble_eq_true rfl, Nat.le_of_ble_eq_true rfl⟩ ⟨Nat.zero_le _, Nat.zero_le _⟩ rfl (Nat.le_of_ble_eq_true rfl) rfl (fun i_r_3 => ?_)
      refine r_istore g0 (lv' := [some (.ref (E.1 v0_1)), none, none, none, some (.int (J v4_1)), some (.int (J v5_1)), some (.int (J r_3)), none]) dX11_countsAll_130 (by decide) rfl rfl ?_
      refine r_iconst g0 dX11_countsAll_132 ?_
      refine r_istore g0 (lv' := [some (.ref (E.1 v0_1)), none, none, none, some (.int (J v4_1)), some (.int (J v5_1)), some (.int (J r_3)), some (.int (J 0))]) dX11_countsAll_133 (by decide) rfl rfl ?_
      refine t_X11_countsAll_L135 g i_v0_1 i_v4_1 i_v5_1 i_r_3 ?_ FU 0 s_8 (B01.inR B01_0) h
      · intro s_9 h
        refine r_iinc g0 (a := v5_1) (lv' := [some (.ref (E.1 v0_1)), none, none, none, some (.int (J v4_1)), some (.int (J (wr (v5_1 + 1)))), none, none]) dX11_countsAll_164 (by decide) rfl rfl rfl ?_
        refine r_goto g0 117 dX11_countsAll_167 (by decide) ?_
        exact ih (wr (v5_1 + 1)) s_9 (InR_wr _) h
set_option maxHeartbeats 4000000 in
set_option maxRecDepth 100000 in
theorem t_X11_countsAll_L94 {l : Launch} {E : u_E} {K : u_K} {r : Int} {s' : u_S} (g : Wk l (XE E) { frames := 5, cells := 0, slots := 0, locals := 122 } cX11_countsAll 8 yX11_countsAll.cls yX11_countsAll.name none (RV E r s') K) {v0_3 : u_O} {v1_1 : Int} {v4_3 : Int} (i_v0_3 : is_Mo v0_3) (i_v1_1 : InR v1_1) (i_v4_3 : InR v4_3) {kx114 : u_S → Option (Int × u_S)} (hkx114 : ∀ (s_14 : u_S), kx114 s_14 = some (r, s') → K 0 0 114 [some (.ref (E.1 v0_3)), some (.int (J v1_1)), none, none, some (.int (J v4_3)), none, none, none] [] (Wd E s_14)) : ∀ (m : Nat) (v5_3 : Int) (s_13 : u_S), InR v5_3 → f_X11_countsAll_L94 m kx114 v0_3 v1_1 v4_3 v5_3 s_13 = some (r, s') → K 0 0 94 [some (.ref (E.1 v0_3)), some (.int (J v1_1)), none, none, some (.int (J v4_3)), some (.int (J v5_3)), none, none] [] (Wd E s_13) := by
  have g0 := g.wk
  intro m
  induction m with
  | zero =>
    intro v5_3 s_13 i_v5_3 h
    exact absurd (show (none : Option (Int × u_S)) = some (r, s') from h) (by intro z; cases z)
  | succ m ih =>
    intro v5_3 s_13 i_v5_3 h
    rw [f_X11_countsAll_L94] at h
    refine r_iload g0 dX11_countsAll_94 rfl ?_
    refine r_iconst g0 dX11_countsAll_96 ?_
    refine r_icmp_ge g0 114 dX11_countsAll_97 (by decide) i_v5_3 (InR_lit rfl) (fun hc => ?_) (fun hc => ?_)
    · replace h := if_f hc h
      refine r_mask g0 (lv' := [some (.ref (E.1 v0_3)), some (.int (J v1_1)), none, none, some (.int (J v4_3)), none, none, none]) [true, true, false, false, true, false, false, false] rfl ?_
      exact hkx114 s_13 h
    · replace h := if_t hc h
      refine r_aload_n g0 dX11_countsAll_100 rfl ?_
      refine g_Mo_counted g0 i_v0_3 qX11_28 dX11_countsAll_101 ?_
      refine r_iload g0 dX11_countsAll_104 rfl ?_
      refine r_iconst g0 dX11_countsAll_106 ?_
      obtain ⟨hb, h⟩ := gd_some h
      refine r_iastore g0 (is_a_Mo_counted i_v0_3) (n := 3) rfl i_v5_3 hb dX11_countsAll_107 ?_
      refine r_iinc g0 (a := v5_3) (lv' := [some (.ref (E.1 v0_3)), some (.int (J v1_1)), none, none, some (.int (J v4_3)), some (.int (J (wr (v5_3 + 1)))), none, none]) dX11_countsAll_108 (by decide) rfl rfl rfl ?_
      refine r_goto g0 94 dX11_countsAll_111 (by decide) ?_
      exact ih (wr (v5_3 + 1)) (wt s_13 (a_Mo_counted v0_3) v5_3 0) (InR_wr _) h
set_option maxHeartbeats 4000000 in
set_option maxRecDepth 100000 in
theorem c_X11_countsAll {E : u_E} {l : Launch} {o : u_O} (ho : is_Mo o) {s s' : u_S} {r : Int} (h : f_X11_countsAll o s = some (r, s')) : Con l (XE E) yX11_countsAll cX11_countsAll 8 none 5 122 0 0 [.ref (E.1 o)] (Wd E s) (RV E r s') := by
  refine Con.of [some (.ref (E.1 o)), none, none, none, none, none, none, none] (by decide +kernel) rfl rfl (Nat.le_of_ble_eq_true rfl) (fun K g => ?_)
  have g0 := g.wk
  unfold f_X11_countsAll at h
  refine r_aload_n g0 dX11_countsAll_0 rfl ?_
  refine g_Mo_upper g0 ho qX11_22 dX11_countsAll_1 ?_
  refine r_iconst g0 dX11_countsAll_4 ?_
  obtain ⟨hb, h⟩ := gd_some h
  refine r_iaload g0 (is_a_Mo_upper ho) (n := 4) rfl (InR_lit rfl) hb dX11_countsAll_5 ?_
  refine r_aload_n g0 dX11_countsAll_6 rfl ?_
  refine g_Mo_lower g0 ho qX11_25 dX11_countsAll_7 ?_
  refine r_iconst g0 dX11_countsAll_10 ?_
  obtain ⟨hb, h⟩ := gd_some h
  refine r_iaload g0 (is_a_Mo_lower ho) (n := 4) rfl (InR_lit rfl) hb dX11_countsAll_11 ?_
  obtain ⟨jp_1, hdjp_1, h⟩ := jn_some h
  have hjp_1 : ∀ (vt_1 : Int) (s_1 : u_S), InR vt_1 → jp_1 vt_1 s_1 = some (r, s') → K 0 0 30 [some (.ref (E.1 o)), none, none, none, none, none, none, none] [.int (J vt_1)] (Wd E s_1) := by
    intro vt_1 s_1 i_vt_1 h
    subst hdjp_1
    refine r_istore_n g0 (lv' := [some (.ref (E.1 o)), some (.int (J vt_1)), none, none, none, none, none, none]) dX11_countsAll_30 (by decide) rfl rfl ?_
    refine r_aload_n g0 dX11_countsAll_31 rfl ?_
    refine g_Mo_upper g0 ho qX11_22 dX11_countsAll_32 ?_
    refine r_iconst g0 dX11_countsAll_35 ?_
    obtain ⟨hb, h⟩ := gd_some h
    refine r_iaload g0 (is_a_Mo_upper ho) (n := 4) rfl (InR_lit rfl) hb dX11_countsAll_36 ?_
    refine r_aload_n g0 dX11_countsAll_37 rfl ?_
    refine r_aload_n g0 dX11_countsAll_38 rfl ?_
    refine g_Mo_upper g0 ho qX11_22 dX11_countsAll_39 ?_
    refine r_iconst g0 dX11_countsAll_42 ?_
    obtain ⟨hb, h⟩ := gd_some h
    refine r_iaload g0 (is_a_Mo_upper ho) (n := 4) rfl (B01.inR B01_0) hb dX11_countsAll_43 ?_
    refine r_aload_n g0 dX11_countsAll_44 rfl ?_
    refine g_Mo_upper g0 ho qX11_22 dX11_countsAll_45 ?_
    refine r_iconst g0 dX11_countsAll_48 ?_
    obtain ⟨hb, h⟩ := gd_some h
    refine r_iaload g0 (is_a_Mo_upper ho) (n := 4) rfl (B01.inR B01_1) hb dX11_countsAll_49 ?_
    obtain ⟨r_1, s_2, hr_1, h⟩ := bd_some h
    refine r_cVI g0 (rest := [.int (J (rd s_1 (a_Mo_upper o) 3))]) (c_X11_lasts ho (InR_rd _ _ _) (InR_rd _ _ _) hr_1) ok_X11_lasts mX11_174 (recv_Mo ho) dX11_countsAll_50 ⟨Nat.le_of_ble_eq_true rfl, Nat.le_of_ble_eq_true rfl⟩ ⟨Nat.zero_le _, Nat.zero_le _⟩ rfl (Nat.le_of_ble_eq_true rfl) rfl (fun i_r_1 => ?_)
    refine r_iadd g0 dX11_countsAll_53 ?_
    refine r_istore_n g0 (lv' := [some (.ref (E.1 o)), some (.int (J vt_1)), some (.int (J (wr ((rd s_1 (a_Mo_upper o) 3) + r_1)))), none, none, none, none, none]) dX11_countsAll_54 (by decide) rfl rfl ?_
    refine r_aload_n g0 dX11_countsAll_55 rfl ?_
    refine g_Mo_lower g0 ho qX11_25 dX11_countsAll_56 ?_
    refine r_iconst g0 dX11_countsAll_59 ?_
    obtain ⟨hb, h⟩ := gd_some h
    refine r_iaload g0 (is_a_Mo_lower ho) (n := 4) rfl (InR_lit rfl) hb dX11_countsAll_60 ?_
    refine r_aload_n g0 dX11_countsAll_61 rfl ?_
    refine r_aload_n g0 dX11_countsAll_62 rfl ?_
    refine g_Mo_lower g0 ho qX11_25 dX11_countsAll_63 ?_
    refine r_iconst g0 dX11_countsAll_66 ?_
    obtain ⟨hb, h⟩ := gd_some h
    refine r_iaload g0 (is_a_Mo_lower ho) (n := 4) rfl (B01.inR B01_0) hb dX11_countsAll_67 ?_
    refine r_aload_n g0 dX11_countsAll_68 rfl ?_
    refine g_Mo_lower g0 ho qX11_25 dX11_countsAll_69 ?_
    refine r_iconst g0 dX11_countsAll_72 ?_
    obtain ⟨hb, h⟩ := gd_some h
    refine r_iaload g0 (is_a_Mo_lower ho) (n := 4) rfl (B01.inR B01_1) hb dX11_countsAll_73 ?_
    obtain ⟨r_2, s_3, hr_2, h⟩ := bd_some h
    refine r_cVI g0 (rest := [.int (J (rd s_2 (a_Mo_lower o) 3))]) (c_X11_lasts ho (InR_rd _ _ _) (InR_rd _ _ _) hr_2) ok_X11_lasts mX11_174 (recv_Mo ho) dX11_countsAll_74 ⟨Nat.le_of_ble_eq_true rfl, Nat.le_of_ble_eq_true rfl⟩ ⟨Nat.zero_le _, Nat.zero_le _⟩ rfl (Nat.le_of_ble_eq_true rfl) rfl (fun i_r_2 => ?_)
    refine r_iadd g0 dX11_countsAll_77 ?_
    refine r_istore_n g0 (lv' := [some (.ref (E.1 o)), some (.int (J vt_1)), some (.int (J (wr ((rd s_1 (a_Mo_upper o) 3) + r_1)))), some (.int (J (wr ((rd s_2 (a_Mo_lower o) 3) + r_2)))), none, none, none, none]) dX11_countsAll_78 (by decide) rfl rfl ?_
    refine r_iload_n g0 dX11_countsAll_79 rfl ?_
    refine r_iload_n g0 dX11_countsAll_80 rfl ?_
    obtain ⟨jp_2, hdjp_2, h⟩ := jn_some h
    have hjp_2 : ∀ (vt_2 : Int) (s_4 : u_S), InR vt_2 → jp_2 vt_2 s_4 = some (r, s') → K 0 0 89 [some (.ref (E.1 o)), some (.int (J vt_1)), none, none, none, none, none, none] [.int (J vt_2)] (Wd E s_4) := by
      intro vt_2 s_4 i_vt_2 h
      subst hdjp_2
      refine r_istore g0 (lv' := [some (.ref (E.1 o)), some (.int (J vt_1)), none, none, some (.int (J vt_2)), none, none, none]) dX11_countsAll_89 (by decide) rfl rfl ?_
      refine r_iconst g0 dX11_countsAll_91 ?_
      refine r_istore g0 (lv' := [some (.ref (E.1 o)), some (.int (J vt_1)), none, none, some (.int (J vt_2)), some (.int (J 0)), none, none]) dX11_countsAll_92 (by decide) rfl rfl ?_
      refine t_X11_countsAll_L94 g ho i_vt_1 i_vt_2 ?_ FU 0 s_4 (B01.inR B01_0) h
      · intro s_5 h
        refine r_iload_n g0 dX11_countsAll_114 rfl ?_
        refine r_istore g0 (lv' := [some (.ref (E.1 o)), some (.int (J vt_1)), none, none, some (.int (J vt_2)), some (.int (J vt_1)), none, none]) dX11_countsAll_115 (by decide) rfl rfl ?_
        refine r_mask g0 (lv' := [some (.ref (E.1 o)), none, none, none, some (.int (J vt_2)), some (.int (J vt_1)), none, none]) [true, false, false, false, true, true, false, false] rfl ?_
        refine t_X11_countsAll_L117 g ho i_vt_2 ?_ FU vt_1 s_5 i_vt_1 h
        · intro s_6 h
          exact z_V g dX11_countsAll_170 h
    clear hdjp_2
    refine r_icmp_ge g0 88 dX11_countsAll_81 (by decide) (InR_wr _) (InR_wr _) (fun hc => ?_) (fun hc => ?_)
    · replace h := if_f hc h
      refine r_iload_n g0 dX11_countsAll_88 rfl ?_
      refine r_mask g0 (lv' := [some (.ref (E.1 o)), some (.int (J vt_1)), none, none, none, none, none, none]) [true, true, false, false, false, false, false, false] rfl ?_
      exact hjp_2 (wr ((rd s_2 (a_Mo_lower o) 3) + r_2)) s_3 (InR_wr _) h
    · replace h := if_t hc h
      refine r_iload_n g0 dX11_countsAll_84 rfl ?_
      refine r_goto g0 89 dX11_countsAll_85 (by decide) ?_
      refine r_mask g0 (lv' := [some (.ref (E.1 o)), some (.int (J vt_1)), none, none, none, none, none, none]) [true, true, false, false, false, false, false, false] rfl ?_
      exact hjp_2 (wr ((rd s_1 (a_Mo_upper o) 3) + r_1)) s_3 (InR_wr _) h
  clear hdjp_1
  refine r_icmp_le g0 24 dX11_countsAll_12 (by decide) (InR_rd _ _ _) (InR_rd _ _ _) (fun hc => ?_) (fun hc => ?_)
  · replace h := if_t hc h
    refine r_aload_n g0 dX11_countsAll_24 rfl ?_
    refine g_Mo_lower g0 ho qX11_25 dX11_countsAll_25 ?_
    refine r_iconst g0 dX11_countsAll_28 ?_
    obtain ⟨hb, h⟩ := gd_some h
    refine r_iaload g0 (is_a_Mo_lower ho) (n := 4) rfl (InR_lit rfl) hb dX11_countsAll_29 ?_
    exact hjp_1 (rd s (a_Mo_lower o) 3) s (InR_rd _ _ _) h
  · replace h := if_f hc h
    refine r_aload_n g0 dX11_countsAll_15 rfl ?_
    refine g_Mo_upper g0 ho qX11_22 dX11_countsAll_16 ?_
    refine r_iconst g0 dX11_countsAll_19 ?_
    obtain ⟨hb, h⟩ := gd_some h
    refine r_iaload g0 (is_a_Mo_upper ho) (n := 4) rfl (InR_lit rfl) hb dX11_countsAll_20 ?_
    refine r_goto g0 30 dX11_countsAll_21 (by decide) ?_
    exact hjp_1 (rd s (a_Mo_upper o) 3) s (InR_rd _ _ _) h
theorem dX11_isEntry_0 : decode cX11_isEntry 0 = .ok (.iload_n 1, 1) := by decide +kernel
theorem dX11_isEntry_1 : decode cX11_isEntry 1 = .ok (.i2l, 1) := by decide +kernel
theorem dX11_isEntry_2 : decode cX11_isEntry 2 = .ok (.lconst 0, 1) := by decide +kernel
theorem dX11_isEntry_3 : decode cX11_isEntry 3 = .ok (.aload_n 0, 1) := by decide +kernel
theorem dX11_isEntry_4 : decode cX11_isEntry 4 = .ok (.getfield 7, 3) := by decide +kernel
theorem dX11_isEntry_7 : decode cX11_isEntry 7 = .ok (.bipush 84, 2) := by decide +kernel
theorem dX11_isEntry_9 : decode cX11_isEntry 9 = .ok (.iaload, 1) := by decide +kernel
theorem dX11_isEntry_10 : decode cX11_isEntry 10 = .ok (.iconst 1, 1) := by decide +kernel
theorem dX11_isEntry_11 : decode cX11_isEntry 11 = .ok (.isub, 1) := by decide +kernel
theorem dX11_isEntry_12 : decode cX11_isEntry 12 = .ok (.i2l, 1) := by decide +kernel
theorem dX11_isEntry_13 : decode cX11_isEntry 13 = .ok (.invokestatic 61, 3) := by decide +kernel
theorem dX11_isEntry_16 : decode cX11_isEntry 16 = .ok (.ireturn, 1) := by decide +kernel
set_option maxHeartbeats 4000000 in
set_option maxRecDepth 100000 in
theorem c_X11_isEntry {E : u_E} {l : Launch} {o : u_O} {p1 : Int} (ho : is_Mo o) (i_p1 : InR p1) {s s' : u_S} {r : Int} (h : f_X11_isEntry o p1 s = some (r, s')) : Con l (XE E) yX11_isEntry cX11_isEntry 2 (some .boolean) 1 25 0 0 [.ref (E.1 o), .int (J p1)] (Wd E s) (RZ E r s') := by
  refine Con.of [some (.ref (E.1 o)), some (.int (J p1))] (by decide +kernel) rfl rfl (Nat.le_of_ble_eq_true rfl) (fun K g => ?_)
  have g0 := g.wk
  unfold f_X11_isEntry at h
  refine r_iload_n g0 dX11_isEntry_0 rfl ?_
  refine r_i2l g0 dX11_isEntry_1 i_p1 ?_
  refine r_lconst g0 (v := 0) dX11_isEntry_2 rfl ?_
  refine r_aload_n g0 dX11_isEntry_3 rfl ?_
  refine g_Mo_all g0 ho qX11_7 dX11_isEntry_4 ?_
  refine r_bipush g0 dX11_isEntry_7 rfl ?_
  obtain ⟨hb, h⟩ := gd_some h
  refine r_iaload g0 (is_a_Mo_all ho) (n := 145) rfl (InR_lit rfl) hb dX11_isEntry_9 ?_
  refine r_iconst g0 dX11_isEntry_10 ?_
  refine r_isub g0 dX11_isEntry_11 ?_
  refine r_i2l g0 dX11_isEntry_12 (InR_wr _) ?_
  obtain ⟨r_1, s_1, hr_1, h⟩ := bd_some h
  refine r_cSZ g0 (rest := []) (c_X11_in (InL_i i_p1) (InL_lit rfl) (InL_i (InR_wr _)) hr_1) ok_X11_in mX11_61 dX11_isEntry_13 ⟨Nat.le_of_ble_eq_true rfl, Nat.le_of_ble_eq_true rfl⟩ ⟨Nat.zero_le _, Nat.zero_le _⟩ rfl (Nat.le_of_ble_eq_true rfl) rfl (fun i_r_1 => ?_)
  exact z_Z g dX11_isEntry_16 i_r_1 h
theorem dX11_canEnter_0 : decode cX11_canEnter 0 = .ok (.iload_n 1, 1) := by decide +kernel
theorem dX11_canEnter_1 : decode cX11_canEnter 1 = .ok (.invokestatic 82, 3) := by decide +kernel
theorem dX11_canEnter_4 : decode cX11_canEnter 4 = .ok (.ifCond .eq 55, 3) := by decide +kernel
theorem dX11_canEnter_7 : decode cX11_canEnter 7 = .ok (.iload_n 2, 1) := by decide +kernel
theorem dX11_canEnter_8 : decode cX11_canEnter 8 = .ok (.i2l, 1) := by decide +kernel
theorem dX11_canEnter_9 : decode cX11_canEnter 9 = .ok (.lconst 0, 1) := by decide +kernel
theorem dX11_canEnter_10 : decode cX11_canEnter 10 = .ok (.ldc2_w 88, 3) := by decide +kernel
theorem dX11_canEnter_13 : decode cX11_canEnter 13 = .ok (.invokestatic 61, 3) := by decide +kernel
theorem dX11_canEnter_16 : decode cX11_canEnter 16 = .ok (.ifCond .eq 43, 3) := by decide +kernel
theorem dX11_canEnter_19 : decode cX11_canEnter 19 = .ok (.iload_n 3, 1) := by decide +kernel
theorem dX11_canEnter_20 : decode cX11_canEnter 20 = .ok (.i2l, 1) := by decide +kernel
theorem dX11_canEnter_21 : decode cX11_canEnter 21 = .ok (.ldc2_w 160, 3) := by decide +kernel
theorem dX11_canEnter_24 : decode cX11_canEnter 24 = .ok (.ldc2_w 162, 3) := by decide +kernel
theorem dX11_canEnter_27 : decode cX11_canEnter 27 = .ok (.invokestatic 61, 3) := by decide +kernel
theorem dX11_canEnter_30 : decode cX11_canEnter 30 = .ok (.ifCond .eq 29, 3) := by decide +kernel
theorem dX11_canEnter_33 : decode cX11_canEnter 33 = .ok (.iload 4, 2) := by decide +kernel
theorem dX11_canEnter_35 : decode cX11_canEnter 35 = .ok (.i2l, 1) := by decide +kernel
theorem dX11_canEnter_36 : decode cX11_canEnter 36 = .ok (.lconst 0, 1) := by decide +kernel
theorem dX11_canEnter_37 : decode cX11_canEnter 37 = .ok (.ldc2_w 180, 3) := by decide +kernel
theorem dX11_canEnter_40 : decode cX11_canEnter 40 = .ok (.invokestatic 61, 3) := by decide +kernel
theorem dX11_canEnter_43 : decode cX11_canEnter 43 = .ok (.ifCond .eq 16, 3) := by decide +kernel
theorem dX11_canEnter_46 : decode cX11_canEnter 46 = .ok (.iload 5, 2) := by decide +kernel
theorem dX11_canEnter_48 : decode cX11_canEnter 48 = .ok (.i2l, 1) := by decide +kernel
theorem dX11_canEnter_49 : decode cX11_canEnter 49 = .ok (.lconst 0, 1) := by decide +kernel
theorem dX11_canEnter_50 : decode cX11_canEnter 50 = .ok (.ldc2_w 59, 3) := by decide +kernel
theorem dX11_canEnter_53 : decode cX11_canEnter 53 = .ok (.invokestatic 61, 3) := by decide +kernel
theorem dX11_canEnter_56 : decode cX11_canEnter 56 = .ok (.ifCond .ne 6, 3) := by decide +kernel
theorem dX11_canEnter_59 : decode cX11_canEnter 59 = .ok (.bipush (-2), 2) := by decide +kernel
theorem dX11_canEnter_61 : decode cX11_canEnter 61 = .ok (.ireturn, 1) := by decide +kernel
theorem dX11_canEnter_62 : decode cX11_canEnter 62 = .ok (.aload_n 0, 1) := by decide +kernel
theorem dX11_canEnter_63 : decode cX11_canEnter 63 = .ok (.iload_n 1, 1) := by decide +kernel
theorem dX11_canEnter_64 : decode cX11_canEnter 64 = .ok (.invokevirtual 65, 3) := by decide +kernel
theorem dX11_canEnter_67 : decode cX11_canEnter 67 = .ok (.ifCond .ne 6, 3) := by decide +kernel
theorem dX11_canEnter_70 : decode cX11_canEnter 70 = .ok (.bipush (-3), 2) := by decide +kernel
theorem dX11_canEnter_72 : decode cX11_canEnter 72 = .ok (.ireturn, 1) := by decide +kernel
theorem dX11_canEnter_73 : decode cX11_canEnter 73 = .ok (.iload 4, 2) := by decide +kernel
theorem dX11_canEnter_75 : decode cX11_canEnter 75 = .ok (.aload_n 0, 1) := by decide +kernel
theorem dX11_canEnter_76 : decode cX11_canEnter 76 = .ok (.iload_n 1, 1) := by decide +kernel
theorem dX11_canEnter_77 : decode cX11_canEnter 77 = .ok (.iload_n 2, 1) := by decide +kernel
theorem dX11_canEnter_78 : decode cX11_canEnter 78 = .ok (.invokevirtual 174, 3) := by decide +kernel
theorem dX11_canEnter_81 : decode cX11_canEnter 81 = .ok (.iadd, 1) := by decide +kernel
theorem dX11_canEnter_82 : decode cX11_canEnter 82 = .ok (.istore 6, 2) := by decide +kernel
theorem dX11_canEnter_84 : decode cX11_canEnter 84 = .ok (.iconst 0, 1) := by decide +kernel
theorem dX11_canEnter_85 : decode cX11_canEnter 85 = .ok (.istore 7, 2) := by decide +kernel
theorem dX11_canEnter_87 : decode cX11_canEnter 87 = .ok (.iload 7, 2) := by decide +kernel
theorem dX11_canEnter_89 : decode cX11_canEnter 89 = .ok (.aload_n 0, 1) := by decide +kernel
theorem dX11_canEnter_90 : decode cX11_canEnter 90 = .ok (.getfield 7, 3) := by decide +kernel
theorem dX11_canEnter_93 : decode cX11_canEnter 93 = .ok (.bipush 84, 2) := by decide +kernel
theorem dX11_canEnter_95 : decode cX11_canEnter 95 = .ok (.iaload, 1) := by decide +kernel
theorem dX11_canEnter_96 : decode cX11_canEnter 96 = .ok (.if_icmp .ge 67, 3) := by decide +kernel
theorem dX11_canEnter_99 : decode cX11_canEnter 99 = .ok (.aload_n 0, 1) := by decide +kernel
theorem dX11_canEnter_100 : decode cX11_canEnter 100 = .ok (.iload 7, 2) := by decide +kernel
theorem dX11_canEnter_102 : decode cX11_canEnter 102 = .ok (.iconst 4, 1) := by decide +kernel
theorem dX11_canEnter_103 : decode cX11_canEnter 103 = .ok (.invokevirtual 73, 3) := by decide +kernel
theorem dX11_canEnter_106 : decode cX11_canEnter 106 = .ok (.iload 5, 2) := by decide +kernel
theorem dX11_canEnter_108 : decode cX11_canEnter 108 = .ok (.if_icmp .ne 49, 3) := by decide +kernel
theorem dX11_canEnter_111 : decode cX11_canEnter 111 = .ok (.iload 4, 2) := by decide +kernel
theorem dX11_canEnter_113 : decode cX11_canEnter 113 = .ok (.aload_n 0, 1) := by decide +kernel
theorem dX11_canEnter_114 : decode cX11_canEnter 114 = .ok (.iload 7, 2) := by decide +kernel
theorem dX11_canEnter_116 : decode cX11_canEnter 116 = .ok (.iconst 3, 1) := by decide +kernel
theorem dX11_canEnter_117 : decode cX11_canEnter 117 = .ok (.invokevirtual 73, 3) := by decide +kernel
theorem dX11_canEnter_120 : decode cX11_canEnter 120 = .ok (.aload_n 0, 1) := by decide +kernel
theorem dX11_canEnter_121 : decode cX11_canEnter 121 = .ok (.aload_n 0, 1) := by decide +kernel
theorem dX11_canEnter_122 : decode cX11_canEnter 122 = .ok (.iload 7, 2) := by decide +kernel
theorem dX11_canEnter_124 : decode cX11_canEnter 124 = .ok (.iconst 0, 1) := by decide +kernel
theorem dX11_canEnter_125 : decode cX11_canEnter 125 = .ok (.invokevirtual 73, 3) := by decide +kernel
theorem dX11_canEnter_128 : decode cX11_canEnter 128 = .ok (.aload_n 0, 1) := by decide +kernel
theorem dX11_canEnter_129 : decode cX11_canEnter 129 = .ok (.iload 7, 2) := by decide +kernel
theorem dX11_canEnter_131 : decode cX11_canEnter 131 = .ok (.iconst 1, 1) := by decide +kernel
theorem dX11_canEnter_132 : decode cX11_canEnter 132 = .ok (.invokevirtual 73, 3) := by decide +kernel
theorem dX11_canEnter_135 : decode cX11_canEnter 135 = .ok (.invokevirtual 174, 3) := by decide +kernel
theorem dX11_canEnter_138 : decode cX11_canEnter 138 = .ok (.iadd, 1) := by decide +kernel
theorem dX11_canEnter_139 : decode cX11_canEnter 139 = .ok (.if_icmp .ge 18, 3) := by decide +kernel
theorem dX11_canEnter_142 : decode cX11_canEnter 142 = .ok (.aload_n 0, 1) := by decide +kernel
theorem dX11_canEnter_143 : decode cX11_canEnter 143 = .ok (.iload 7, 2) := by decide +kernel
theorem dX11_canEnter_145 : decode cX11_canEnter 145 = .ok (.iconst 3, 1) := by decide +kernel
theorem dX11_canEnter_146 : decode cX11_canEnter 146 = .ok (.invokevirtual 73, 3) := by decide +kernel
theorem dX11_canEnter_149 : decode cX11_canEnter 149 = .ok (.iload 6, 2) := by decide +kernel
theorem dX11_canEnter_151 : decode cX11_canEnter 151 = .ok (.if_icmp .ge 6, 3) := by decide +kernel
theorem dX11_canEnter_154 : decode cX11_canEnter 154 = .ok (.bipush (-3), 2) := by decide +kernel
theorem dX11_canEnter_156 : decode cX11_canEnter 156 = .ok (.ireturn, 1) := by decide +kernel
theorem dX11_canEnter_157 : decode cX11_canEnter 157 = .ok (.iinc 7 1, 3) := by decide +kernel
theorem dX11_canEnter_160 : decode cX11_canEnter 160 = .ok (.goto (-73), 3) := by decide +kernel
theorem dX11_canEnter_163 : decode cX11_canEnter 163 = .ok (.aload_n 0, 1) := by decide +kernel
theorem dX11_canEnter_164 : decode cX11_canEnter 164 = .ok (.getfield 7, 3) := by decide +kernel
theorem dX11_canEnter_167 : decode cX11_canEnter 167 = .ok (.bipush 84, 2) := by decide +kernel
theorem dX11_canEnter_169 : decode cX11_canEnter 169 = .ok (.iaload, 1) := by decide +kernel
theorem dX11_canEnter_170 : decode cX11_canEnter 170 = .ok (.bipush 10, 2) := by decide +kernel
theorem dX11_canEnter_172 : decode cX11_canEnter 172 = .ok (.if_icmp .ne 8, 3) := by decide +kernel
theorem dX11_canEnter_175 : decode cX11_canEnter 175 = .ok (.bipush (-4), 2) := by decide +kernel
theorem dX11_canEnter_177 : decode cX11_canEnter 177 = .ok (.goto 4, 3) := by decide +kernel
theorem dX11_canEnter_180 : decode cX11_canEnter 180 = .ok (.iconst 0, 1) := by decide +kernel
theorem dX11_canEnter_181 : decode cX11_canEnter 181 = .ok (.ireturn, 1) := by decide +kernel
set_option maxHeartbeats 4000000 in
set_option maxRecDepth 100000 in
theorem t_X11_canEnter_L87 {l : Launch} {E : u_E} {K : u_K} {r : Int} {s' : u_S} (g : Wk l (XE E) { frames := 3, cells := 0, slots := 0, locals := 67 } cX11_canEnter 8 yX11_canEnter.cls yX11_canEnter.name (some .int) (RI E r s') K) {v0_1 : u_O} {v4_1 : Int} {v5_1 : Int} {v6_1 : Int} (i_v0_1 : is_Mo v0_1) (i_v4_1 : InR v4_1) (i_v5_1 : InR v5_1) (i_v6_1 : InR v6_1) {kx163 : u_S → Option (Int × u_S)} (hkx163 : ∀ (s_17 : u_S), kx163 s_17 = some (r, s') → K 0 0 163 [some (.ref (E.1 v0_1)), none, none, none, none, none, none, none] [] (Wd E s_17)) : ∀ (m : Nat) (v7_1 : Int) (s_9 : u_S), InR v7_1 → f_X11_canEnter_L87 m kx163 v0_1 v4_1 v5_1 v6_1 v7_1 s_9 = some (r, s') → K 0 0 87 [some (.ref (E.1 v0_1)), none, none, none, some (.int (J v4_1)), some (.int (J v5_1)), some (.int (J v6_1)), some (.int (J v7_1))] [] (Wd E s_9) := by
  have g0 := g.wk
  intro m
  induction m with
  | zero =>
    intro v7_1 s_9 i_v7_1 h
    exact absurd (show (none : Option (Int × u_S)) = some (r, s') from h) (by intro z; cases z)
  | succ m ih =>
    intro v7_1 s_9 i_v7_1 h
    rw [f_X11_canEnter_L87] at h
    refine r_iload g0 dX11_canEnter_87 rfl ?_
    refine r_aload_n g0 dX11_canEnter_89 rfl ?_
    refine g_Mo_all g0 i_v0_1 qX11_7 dX11_canEnter_90 ?_
    refine r_bipush g0 dX11_canEnter_93 rfl ?_
    obtain ⟨hb, h⟩ := gd_some h
    refine r_iaload g0 (is_a_Mo_all i_v0_1) (n := 145) rfl (InR_lit rfl) hb dX11_canEnter_95 ?_
    refine r_icmp_ge g0 163 dX11_canEnter_96 (by decide) i_v7_1 (InR_rd _ _ _) (fun hc => ?_) (fun hc => ?_)
    · replace h := if_f hc h
      refine r_mask g0 (lv' := [some (.ref (E.1 v0_1)), none, none, none, none, none, none, none]) [true, false, false, false, false, false, false, false] rfl ?_
      exact hkx163 s_9 h
    · replace h := if_t hc h
      refine r_aload_n g0 dX11_canEnter_99 rfl ?_
      refine r_iload g0 dX11_canEnter_100 rfl ?_
      refine r_iconst g0 dX11_canEnter_102 ?_
      obtain ⟨r_8, s_10, hr_8, h⟩ := bd_some h
      refine r_cVI g0 (rest := []) (c_X11_of i_v0_1 i_v7_1 (InR_lit rfl) hr_8) ok_X11_of mX11_73 (recv_Mo i_v0_1) dX11_canEnter_103 ⟨Nat.le_of_ble_eq_true rfl, Nat.le_of_ble_eq_true rfl⟩ ⟨Nat.zero_le _, Nat.zero_le _⟩ rfl (Nat.le_of_ble_eq_true rfl) rfl (fun i_r_8 => ?_)
      refine r_iload g0 dX11_canEnter_106 rfl ?_
      obtain ⟨jp_1, hdjp_1, h⟩ := jn_some h
      have hjp_1 : ∀  (s_11 : u_S), jp_1 s_11 = some (r, s') → K 0 0 157 [some (.ref (E.1 v0_1)), none, none, none, some (.int (J v4_1)), some (.int (J v5_1)), some (.int (J v6_1)), some (.int (J v7_1))] [] (Wd E s_11) := by
        intro s_11 h
        subst hdjp_1
        refine r_iinc g0 (a := v7_1) (lv' := [some (.ref (E.1 v0_1)), none, none, none, some (.int (J v4_1)), some (.int (J v5_1)), some (.int (J v6_1)), some (.int (J (wr (v7_1 + 1))))]) dX11_canEnter_157 (by decide) rfl rfl rfl ?_
        refine r_goto g0 87 dX11_canEnter_160 (by decide) ?_
        exact ih (wr (v7_1 + 1)) s_11 (InR_wr _) h
      clear hdjp_1
      refine r_icmp_ne g0 157 dX11_canEnter_108 (by decide) i_r_8 i_v5_1 (fun hc => ?_) (fun hc => ?_)
      · replace h := if_f hc h
        exact hjp_1 s_10 h
      · replace h := if_t hc h
        refine r_iload g0 dX11_canEnter_111 rfl ?_
        refine r_aload_n g0 dX11_canEnter_113 rfl ?_
        refine r_iload g0 dX11_canEnter_114 rfl ?_
        refine r_iconst g0 dX11_canEnter_116 ?_
        obtain ⟨r_9, s_12, hr_9, h⟩ := bd_some h
        refine r_cVI g0 (rest := [.int (J v4_1)]) (c_X11_of i_v0_1 i_v7_1 (InR_lit rfl) hr_9) ok_X11_of mX11_73 (recv_Mo i_v0_1) dX11_canEnter_117 ⟨Nat.le_of_ble_eq_true rfl, Nat.le_of_ble_eq_true rfl⟩ ⟨Nat.zero_le _, Nat.zero_le _⟩ rfl (Nat.le_of_ble_eq_true rfl) rfl (fun i_r_9 => ?_)
        refine r_aload_n g0 dX11_canEnter_120 rfl ?_
        refine r_aload_n g0 dX11_canEnter_121 rfl ?_
        refine r_iload g0 dX11_canEnter_122 rfl ?_
        refine r_iconst g0 dX11_canEnter_124 ?_
        obtain ⟨r_10, s_13, hr_10, h⟩ := bd_some h
        refine r_cVI g0 (rest := [.ref (E.1 v0_1), .int (J r_9), .int (J v4_1)]) (c_X11_of i_v0_1 i_v7_1 (B01.inR B01_0) hr_10) ok_X11_of mX11_73 (recv_Mo i_v0_1) dX11_canEnter_125 ⟨Nat.le_of_ble_eq_true rfl, Nat.le_of_ble_eq_true rfl⟩ ⟨Nat.zero_le _, Nat.zero_le _⟩ rfl (Nat.le_of_ble_eq_true rfl) rfl (fun i_r_10 => ?_)
        refine r_aload_n g0 dX11_canEnter_128 rfl ?_
        refine r_iload g0 dX11_canEnter_129 rfl ?_
        refine r_iconst g0 dX11_canEnter_131 ?_
        obtain ⟨r_11, s_14, hr_11, h⟩ := bd_some h
        refine r_cVI g0 (rest := [.int (J r_10), .ref (E.1 v0_1), .int (J r_9), .int (J v4_1)]) (c_X11_of i_v0_1 i_v7_1 (B01.inR B01_1) hr_11) ok_X11_of mX11_73 (recv_Mo i_v0_1) dX11_canEnter_132 ⟨Nat.le_of_ble_eq_true rfl, Nat.le_of_ble_eq_true rfl⟩ ⟨Nat.zero_le _, Nat.zero_le _⟩ rfl (Nat.le_of_ble_eq_true rfl) rfl (fun i_r_11 => ?_)
        obtain ⟨r_12, s_15, hr_12, h⟩ := bd_some h
        refine r_cVI g0 (rest := [.int (J r_9), .int (J v4_1)]) (c_X11_lasts i_v0_1 i_r_10 i_r_11 hr_12) ok_X11_lasts mX11_174 (recv_Mo i_v0_1) dX11_canEnter_135 ⟨Nat.le_of_ble_eq_true rfl, Nat.le_of_ble_eq_true rfl⟩ ⟨Nat.zero_le _, Nat.zero_le _⟩ rfl (Nat.le_of_ble_eq_true rfl) rfl (fun i_r_12 => ?_)
        refine r_iadd g0 dX11_canEnter_138 ?_
        refine r_icmp_ge g0 157 dX11_canEnter_139 (by decide) i_v4_1 (InR_wr _) (fun hc => ?_) (fun hc => ?_)
        · replace h := if_f hc h
          exact hjp_1 s_15 h
        · replace h := if_t hc h
          refine r_aload_n g0 dX11_canEnter_142 rfl ?_
          refine r_iload g0 dX11_canEnter_143 rfl ?_
          refine r_iconst g0 dX11_canEnter_145 ?_
          obtain ⟨r_13, s_16, hr_13, h⟩ := bd_some h
          refine r_cVI g0 (rest := []) (c_X11_of i_v0_1 i_v7_1 (InR_lit rfl) hr_13) ok_X11_of mX11_73 (recv_Mo i_v0_1) dX11_canEnter_146 ⟨Nat.le_of_ble_eq_true rfl, Nat.le_of_ble_eq_true rfl⟩ ⟨Nat.zero_le _, Nat.zero_le _⟩ rfl (Nat.le_of_ble_eq_true rfl) rfl (fun i_r_13 => ?_)
          refine r_iload g0 dX11_canEnter_149 rfl ?_
          refine r_icmp_ge g0 157 dX11_canEnter_151 (by decide) i_r_13 i_v6_1 (fun hc => ?_) (fun hc => ?_)
          · replace h := if_f hc h
            exact hjp_1 s_16 h
          · replace h := if_t hc h
            refine r_bipush g0 dX11_canEnter_154 rfl ?_
            exact z_I g dX11_canEnter_156 (InR_lit rfl) h
set_option maxHeartbeats 4000000 in
set_option maxRecDepth 100000 in
theorem c_X11_canEnter {E : u_E} {l : Launch} {o : u_O} {p1 : Int} {p2 : Int} {p3 : Int} {p4 : Int} {p5 : Int} (ho : is_Mo o) (i_p1 : InR p1) (i_p2 : InR p2) (i_p3 : InR p3) (i_p4 : InR p4) (i_p5 : InR p5) {s s' : u_S} {r : Int} (h : f_X11_canEnter o p1 p2 p3 p4 p5 s = some (r, s')) : Con l (XE E) yX11_canEnter cX11_canEnter 8 (some .int) 3 67 0 0 [.ref (E.1 o), .int (J p1), .int (J p2), .int (J p3), .int (J p4), .int (J p5)] (Wd E s) (RI E r s') := by
  refine Con.of [some (.ref (E.1 o)), some (.int (J p1)), some (.int (J p2)), some (.int (J p3)), some (.int (J p4)), some (.int (J p5)), none, none] (by decide +kernel) rfl rfl (Nat.le_of_ble_eq_true rfl) (fun K g => ?_)
  have g0 := g.wk
  unfold f_X11_canEnter at h
  refine r_iload_n g0 dX11_canEnter_0 rfl ?_
  obtain ⟨r_1, s_1, hr_1, h⟩ := bd_some h
  refine r_cSZ g0 (rest := []) (c_X11_isLine i_p1 hr_1) ok_X11_isLine mX11_82 dX11_canEnter_1 ⟨Nat.le_of_ble_eq_true rfl, Nat.le_of_ble_eq_true rfl⟩ ⟨Nat.zero_le _, Nat.zero_le _⟩ rfl (Nat.le_of_ble_eq_true rfl) rfl (fun i_r_1 => ?_)
  refine r_if_eq g0 59 dX11_canEnter_4 (by decide) (B01.inR i_r_1) (fun hc => ?_) (fun hc => ?_)
  · replace h := if_t hc h
    refine r_bipush g0 dX11_canEnter_59 rfl ?_
    exact z_I g dX11_canEnter_61 (InR_lit rfl) h
  · replace h := if_f hc h
    refine r_iload_n g0 dX11_canEnter_7 rfl ?_
    refine r_i2l g0 dX11_canEnter_8 i_p2 ?_
    refine r_lconst g0 (v := 0) dX11_canEnter_9 rfl ?_
    refine r_ldc2 g0 (v := 4) dX11_canEnter_10 kX11_88 ?_
    obtain ⟨r_2, s_2, hr_2, h⟩ := bd_some h
    refine r_cSZ g0 (rest := []) (c_X11_in (InL_i i_p2) (InL_lit rfl) (InL_lit rfl) hr_2) ok_X11_in mX11_61 dX11_canEnter_13 ⟨Nat.le_of_ble_eq_true rfl, Nat.le_of_ble_eq_true rfl⟩ ⟨Nat.zero_le _, Nat.zero_le _⟩ rfl (Nat.le_of_ble_eq_true rfl) rfl (fun i_r_2 => ?_)
    refine r_if_eq g0 59 dX11_canEnter_16 (by decide) (B01.inR i_r_2) (fun hc => ?_) (fun hc => ?_)
    · replace h := if_t hc h
      refine r_bipush g0 dX11_canEnter_59 rfl ?_
      exact z_I g dX11_canEnter_61 (InR_lit rfl) h
    · replace h := if_f hc h
      refine r_iload_n g0 dX11_canEnter_19 rfl ?_
      refine r_i2l g0 dX11_canEnter_20 i_p3 ?_
      refine r_ldc2 g0 (v := (-21)) dX11_canEnter_21 kX11_160 ?_
      refine r_ldc2 g0 (v := 21) dX11_canEnter_24 kX11_162 ?_
      obtain ⟨r_3, s_3, hr_3, h⟩ := bd_some h
      refine r_cSZ g0 (rest := []) (c_X11_in (InL_i i_p3) (InL_lit rfl) (InL_lit rfl) hr_3) ok_X11_in mX11_61 dX11_canEnter_27 ⟨Nat.le_of_ble_eq_true rfl, Nat.le_of_ble_eq_true rfl⟩ ⟨Nat.zero_le _, Nat.zero_le _⟩ rfl (Nat.le_of_ble_eq_true rfl) rfl (fun i_r_3 => ?_)
      refine r_if_eq g0 59 dX11_canEnter_30 (by decide) (B01.inR i_r_3) (fun hc => ?_) (fun hc => ?_)
      · replace h := if_t hc h
        refine r_bipush g0 dX11_canEnter_59 rfl ?_
        exact z_I g dX11_canEnter_61 (InR_lit rfl) h
      · replace h := if_f hc h
        refine r_iload g0 dX11_canEnter_33 rfl ?_
        refine r_i2l g0 dX11_canEnter_35 i_p4 ?_
        refine r_lconst g0 (v := 0) dX11_canEnter_36 rfl ?_
        refine r_ldc2 g0 (v := 199) dX11_canEnter_37 kX11_180 ?_
        obtain ⟨r_4, s_4, hr_4, h⟩ := bd_some h
        refine r_cSZ g0 (rest := []) (c_X11_in (InL_i i_p4) (InL_lit rfl) (InL_lit rfl) hr_4) ok_X11_in mX11_61 dX11_canEnter_40 ⟨Nat.le_of_ble_eq_true rfl, Nat.le_of_ble_eq_true rfl⟩ ⟨Nat.zero_le _, Nat.zero_le _⟩ rfl (Nat.le_of_ble_eq_true rfl) rfl (fun i_r_4 => ?_)
        refine r_if_eq g0 59 dX11_canEnter_43 (by decide) (B01.inR i_r_4) (fun hc => ?_) (fun hc => ?_)
        · replace h := if_t hc h
          refine r_bipush g0 dX11_canEnter_59 rfl ?_
          exact z_I g dX11_canEnter_61 (InR_lit rfl) h
        · replace h := if_f hc h
          refine r_iload g0 dX11_canEnter_46 rfl ?_
          refine r_i2l g0 dX11_canEnter_48 i_p5 ?_
          refine r_lconst g0 (v := 0) dX11_canEnter_49 rfl ?_
          refine r_ldc2 g0 (v := 3) dX11_canEnter_50 kX11_59 ?_
          obtain ⟨r_5, s_5, hr_5, h⟩ := bd_some h
          refine r_cSZ g0 (rest := []) (c_X11_in (InL_i i_p5) (InL_lit rfl) (InL_lit rfl) hr_5) ok_X11_in mX11_61 dX11_canEnter_53 ⟨Nat.le_of_ble_eq_true rfl, Nat.le_of_ble_eq_true rfl⟩ ⟨Nat.zero_le _, Nat.zero_le _⟩ rfl (Nat.le_of_ble_eq_true rfl) rfl (fun i_r_5 => ?_)
          refine r_if_ne g0 62 dX11_canEnter_56 (by decide) (B01.inR i_r_5) (fun hc => ?_) (fun hc => ?_)
          · replace h := if_f hc h
            refine r_aload_n g0 dX11_canEnter_62 rfl ?_
            refine r_iload_n g0 dX11_canEnter_63 rfl ?_
            obtain ⟨r_6, s_6, hr_6, h⟩ := bd_some h
            refine r_cVI g0 (rest := []) (c_X11_notes ho i_p1 hr_6) ok_X11_notes mX11_65 (recv_Mo ho) dX11_canEnter_64 ⟨Nat.le_of_ble_eq_true rfl, Nat.le_of_ble_eq_true rfl⟩ ⟨Nat.zero_le _, Nat.zero_le _⟩ rfl (Nat.le_of_ble_eq_true rfl) rfl (fun i_r_6 => ?_)
            refine r_if_ne g0 73 dX11_canEnter_67 (by decide) i_r_6 (fun hc => ?_) (fun hc => ?_)
            · replace h := if_f hc h
              refine r_iload g0 dX11_canEnter_73 rfl ?_
              refine r_aload_n g0 dX11_canEnter_75 rfl ?_
              refine r_iload_n g0 dX11_canEnter_76 rfl ?_
              refine r_iload_n g0 dX11_canEnter_77 rfl ?_
              obtain ⟨r_7, s_7, hr_7, h⟩ := bd_some h
              refine r_cVI g0 (rest := [.int (J p4)]) (c_X11_lasts ho i_p1 i_p2 hr_7) ok_X11_lasts mX11_174 (recv_Mo ho) dX11_canEnter_78 ⟨Nat.le_of_ble_eq_true rfl, Nat.le_of_ble_eq_true rfl⟩ ⟨Nat.zero_le _, Nat.zero_le _⟩ rfl (Nat.le_of_ble_eq_true rfl) rfl (fun i_r_7 => ?_)
              refine r_iadd g0 dX11_canEnter_81 ?_
              refine r_istore g0 (lv' := [some (.ref (E.1 o)), some (.int (J p1)), some (.int (J p2)), some (.int (J p3)), some (.int (J p4)), some (.int (J p5)), some (.int (J (wr (p4 + r_7)))), none]) dX11_canEnter_82 (by decide) rfl rfl ?_
              refine r_iconst g0 dX11_canEnter_84 ?_
              refine r_istore g0 (lv' := [some (.ref (E.1 o)), some (.int (J p1)), some (.int (J p2)), some (.int (J p3)), some (.int (J p4)), some (.int (J p5)), some (.int (J (wr (p4 + r_7)))), some (.int (J 0))]) dX11_canEnter_85 (by decide) rfl rfl ?_
              refine r_mask g0 (lv' := [some (.ref (E.1 o)), none, none, none, some (.int (J p4)), some (.int (J p5)), some (.int (J (wr (p4 + r_7)))), some (.int (J 0))]) [true, false, false, false, true, true, true, true] rfl ?_
              refine t_X11_canEnter_L87 g ho i_p4 i_p5 (InR_wr _) ?_ FU 0 s_7 (B01.inR B01_0) h
              · intro s_8 h
                refine r_aload_n g0 dX11_canEnter_163 rfl ?_
                refine g_Mo_all g0 ho qX11_7 dX11_canEnter_164 ?_
                refine r_bipush g0 dX11_canEnter_167 rfl ?_
                obtain ⟨hb, h⟩ := gd_some h
                refine r_iaload g0 (is_a_Mo_all ho) (n := 145) rfl (InR_lit rfl) hb dX11_canEnter_169 ?_
                refine r_bipush g0 dX11_canEnter_170 rfl ?_
                refine r_icmp_ne g0 180 dX11_canEnter_172 (by decide) (InR_rd _ _ _) (InR_lit rfl) (fun hc => ?_) (fun hc => ?_)
                · replace h := if_f hc h
                  refine r_iconst g0 dX11_canEnter_180 ?_
                  exact z_I g dX11_canEnter_181 (B01.inR B01_0) h
                · replace h := if_t hc h
                  refine r_bipush g0 dX11_canEnter_175 rfl ?_
                  refine r_goto g0 181 dX11_canEnter_177 (by decide) ?_
                  exact z_I g dX11_canEnter_181 (InR_lit rfl) h
            · replace h := if_t hc h
              refine r_bipush g0 dX11_canEnter_70 rfl ?_
              exact z_I g dX11_canEnter_72 (InR_lit rfl) h
          · replace h := if_t hc h
            refine r_bipush g0 dX11_canEnter_59 rfl ?_
            exact z_I g dX11_canEnter_61 (InR_lit rfl) h
theorem dX11_enterNow_0 : decode cX11_enterNow 0 = .ok (.aload_n 0, 1) := by decide +kernel
theorem dX11_enterNow_1 : decode cX11_enterNow 1 = .ok (.getfield 7, 3) := by decide +kernel
theorem dX11_enterNow_4 : decode cX11_enterNow 4 = .ok (.bipush 84, 2) := by decide +kernel
theorem dX11_enterNow_6 : decode cX11_enterNow 6 = .ok (.iaload, 1) := by decide +kernel
theorem dX11_enterNow_7 : decode cX11_enterNow 7 = .ok (.istore 6, 2) := by decide +kernel
theorem dX11_enterNow_9 : decode cX11_enterNow 9 = .ok (.aload_n 0, 1) := by decide +kernel
theorem dX11_enterNow_10 : decode cX11_enterNow 10 = .ok (.getfield 7, 3) := by decide +kernel
theorem dX11_enterNow_13 : decode cX11_enterNow 13 = .ok (.bipush 85, 2) := by decide +kernel
theorem dX11_enterNow_15 : decode cX11_enterNow 15 = .ok (.iconst 5, 1) := by decide +kernel
theorem dX11_enterNow_16 : decode cX11_enterNow 16 = .ok (.iload 6, 2) := by decide +kernel
theorem dX11_enterNow_18 : decode cX11_enterNow 18 = .ok (.imul, 1) := by decide +kernel
theorem dX11_enterNow_19 : decode cX11_enterNow 19 = .ok (.iadd, 1) := by decide +kernel
theorem dX11_enterNow_20 : decode cX11_enterNow 20 = .ok (.iload_n 1, 1) := by decide +kernel
theorem dX11_enterNow_21 : decode cX11_enterNow 21 = .ok (.iastore, 1) := by decide +kernel
theorem dX11_enterNow_22 : decode cX11_enterNow 22 = .ok (.aload_n 0, 1) := by decide +kernel
theorem dX11_enterNow_23 : decode cX11_enterNow 23 = .ok (.getfield 7, 3) := by decide +kernel
theorem dX11_enterNow_26 : decode cX11_enterNow 26 = .ok (.bipush 85, 2) := by decide +kernel
theorem dX11_enterNow_28 : decode cX11_enterNow 28 = .ok (.iconst 5, 1) := by decide +kernel
theorem dX11_enterNow_29 : decode cX11_enterNow 29 = .ok (.iload 6, 2) := by decide +kernel
theorem dX11_enterNow_31 : decode cX11_enterNow 31 = .ok (.imul, 1) := by decide +kernel
theorem dX11_enterNow_32 : decode cX11_enterNow 32 = .ok (.iadd, 1) := by decide +kernel
theorem dX11_enterNow_33 : decode cX11_enterNow 33 = .ok (.iconst 1, 1) := by decide +kernel
theorem dX11_enterNow_34 : decode cX11_enterNow 34 = .ok (.iadd, 1) := by decide +kernel
theorem dX11_enterNow_35 : decode cX11_enterNow 35 = .ok (.iload_n 2, 1) := by decide +kernel
theorem dX11_enterNow_36 : decode cX11_enterNow 36 = .ok (.iastore, 1) := by decide +kernel
theorem dX11_enterNow_37 : decode cX11_enterNow 37 = .ok (.aload_n 0, 1) := by decide +kernel
theorem dX11_enterNow_38 : decode cX11_enterNow 38 = .ok (.getfield 7, 3) := by decide +kernel
theorem dX11_enterNow_41 : decode cX11_enterNow 41 = .ok (.bipush 85, 2) := by decide +kernel
theorem dX11_enterNow_43 : decode cX11_enterNow 43 = .ok (.iconst 5, 1) := by decide +kernel
theorem dX11_enterNow_44 : decode cX11_enterNow 44 = .ok (.iload 6, 2) := by decide +kernel
theorem dX11_enterNow_46 : decode cX11_enterNow 46 = .ok (.imul, 1) := by decide +kernel
theorem dX11_enterNow_47 : decode cX11_enterNow 47 = .ok (.iadd, 1) := by decide +kernel
theorem dX11_enterNow_48 : decode cX11_enterNow 48 = .ok (.iconst 2, 1) := by decide +kernel
theorem dX11_enterNow_49 : decode cX11_enterNow 49 = .ok (.iadd, 1) := by decide +kernel
theorem dX11_enterNow_50 : decode cX11_enterNow 50 = .ok (.iload_n 3, 1) := by decide +kernel
theorem dX11_enterNow_51 : decode cX11_enterNow 51 = .ok (.iastore, 1) := by decide +kernel
theorem dX11_enterNow_52 : decode cX11_enterNow 52 = .ok (.aload_n 0, 1) := by decide +kernel
theorem dX11_enterNow_53 : decode cX11_enterNow 53 = .ok (.getfield 7, 3) := by decide +kernel
theorem dX11_enterNow_56 : decode cX11_enterNow 56 = .ok (.bipush 85, 2) := by decide +kernel
theorem dX11_enterNow_58 : decode cX11_enterNow 58 = .ok (.iconst 5, 1) := by decide +kernel
theorem dX11_enterNow_59 : decode cX11_enterNow 59 = .ok (.iload 6, 2) := by decide +kernel
theorem dX11_enterNow_61 : decode cX11_enterNow 61 = .ok (.imul, 1) := by decide +kernel
theorem dX11_enterNow_62 : decode cX11_enterNow 62 = .ok (.iadd, 1) := by decide +kernel
theorem dX11_enterNow_63 : decode cX11_enterNow 63 = .ok (.iconst 3, 1) := by decide +kernel
theorem dX11_enterNow_64 : decode cX11_enterNow 64 = .ok (.iadd, 1) := by decide +kernel
theorem dX11_enterNow_65 : decode cX11_enterNow 65 = .ok (.iload 4, 2) := by decide +kernel
theorem dX11_enterNow_67 : decode cX11_enterNow 67 = .ok (.iastore, 1) := by decide +kernel
theorem dX11_enterNow_68 : decode cX11_enterNow 68 = .ok (.aload_n 0, 1) := by decide +kernel
theorem dX11_enterNow_69 : decode cX11_enterNow 69 = .ok (.getfield 7, 3) := by decide +kernel
theorem dX11_enterNow_72 : decode cX11_enterNow 72 = .ok (.bipush 85, 2) := by decide +kernel
theorem dX11_enterNow_74 : decode cX11_enterNow 74 = .ok (.iconst 5, 1) := by decide +kernel
theorem dX11_enterNow_75 : decode cX11_enterNow 75 = .ok (.iload 6, 2) := by decide +kernel
theorem dX11_enterNow_77 : decode cX11_enterNow 77 = .ok (.imul, 1) := by decide +kernel
theorem dX11_enterNow_78 : decode cX11_enterNow 78 = .ok (.iadd, 1) := by decide +kernel
theorem dX11_enterNow_79 : decode cX11_enterNow 79 = .ok (.iconst 4, 1) := by decide +kernel
theorem dX11_enterNow_80 : decode cX11_enterNow 80 = .ok (.iadd, 1) := by decide +kernel
theorem dX11_enterNow_81 : decode cX11_enterNow 81 = .ok (.iload 5, 2) := by decide +kernel
theorem dX11_enterNow_83 : decode cX11_enterNow 83 = .ok (.iastore, 1) := by decide +kernel
theorem dX11_enterNow_84 : decode cX11_enterNow 84 = .ok (.aload_n 0, 1) := by decide +kernel
theorem dX11_enterNow_85 : decode cX11_enterNow 85 = .ok (.getfield 7, 3) := by decide +kernel
theorem dX11_enterNow_88 : decode cX11_enterNow 88 = .ok (.bipush 84, 2) := by decide +kernel
theorem dX11_enterNow_90 : decode cX11_enterNow 90 = .ok (.dup2, 1) := by decide +kernel
theorem dX11_enterNow_91 : decode cX11_enterNow 91 = .ok (.iaload, 1) := by decide +kernel
theorem dX11_enterNow_92 : decode cX11_enterNow 92 = .ok (.iconst 1, 1) := by decide +kernel
theorem dX11_enterNow_93 : decode cX11_enterNow 93 = .ok (.iadd, 1) := by decide +kernel
theorem dX11_enterNow_94 : decode cX11_enterNow 94 = .ok (.iastore, 1) := by decide +kernel
theorem dX11_enterNow_95 : decode cX11_enterNow 95 = .ok (.iload 6, 2) := by decide +kernel
theorem dX11_enterNow_97 : decode cX11_enterNow 97 = .ok (.ireturn, 1) := by decide +kernel
set_option maxHeartbeats 4000000 in
set_option maxRecDepth 100000 in
theorem c_X11_enterNow {E : u_E} {l : Launch} {o : u_O} {p1 : Int} {p2 : Int} {p3 : Int} {p4 : Int} {p5 : Int} (ho : is_Mo o) (i_p1 : InR p1) (i_p2 : InR p2) (i_p3 : InR p3) (i_p4 : InR p4) (i_p5 : InR p5) {s s' : u_S} {r : Int} (h : f_X11_enterNow o p1 p2 p3 p4 p5 s = some (r, s')) : Con l (XE E) yX11_enterNow cX11_enterNow 7 (some .int) 0 0 0 0 [.ref (E.1 o), .int (J p1), .int (J p2), .int (J p3), .int (J p4), .int (J p5)] (Wd E s) (RI E r s') := by
  refine Con.of [some (.ref (E.1 o)), some (.int (J p1)), some (.int (J p2)), some (.int (J p3)), some (.int (J p4)), some (.int (J p5)), none] (by decide +kernel) rfl rfl (Nat.le_of_ble_eq_true rfl) (fun K g => ?_)
  have g0 := g.wk
  unfold f_X11_enterNow at h
  refine r_aload_n g0 dX11_enterNow_0 rfl ?_
  refine g_Mo_all g0 ho qX11_7 dX11_enterNow_1 ?_
  refine r_bipush g0 dX11_enterNow_4 rfl ?_
  obtain ⟨hb, h⟩ := gd_some h
  refine r_iaload g0 (is_a_Mo_all ho) (n := 145) rfl (InR_lit rfl) hb dX11_enterNow_6 ?_
  refine r_istore g0 (lv' := [some (.ref (E.1 o)), some (.int (J p1)), some (.int (J p2)), some (.int (J p3)), some (.int (J p4)), some (.int (J p5)), some (.int (J (rd s (a_Mo_all o) 84)))]) dX11_enterNow_7 (by decide) rfl rfl ?_
  refine r_aload_n g0 dX11_enterNow_9 rfl ?_
  refine g_Mo_all g0 ho qX11_7 dX11_enterNow_10 ?_
  refine r_bipush g0 dX11_enterNow_13 rfl ?_
  refine r_iconst g0 dX11_enterNow_15 ?_
  refine r_iload g0 dX11_enterNow_16 rfl ?_
  refine r_imul g0 dX11_enterNow_18 ?_
  refine r_iadd g0 dX11_enterNow_19 ?_
  refine r_iload_n g0 dX11_enterNow_20 rfl ?_
  obtain ⟨hb, h⟩ := gd_some h
  refine r_iastore g0 (is_a_Mo_all ho) (n := 145) rfl (InR_wr _) hb dX11_enterNow_21 ?_
  refine r_aload_n g0 dX11_enterNow_22 rfl ?_
  refine g_Mo_all g0 ho qX11_7 dX11_enterNow_23 ?_
  refine r_bipush g0 dX11_enterNow_26 rfl ?_
  refine r_iconst g0 dX11_enterNow_28 ?_
  refine r_iload g0 dX11_enterNow_29 rfl ?_
  refine r_imul g0 dX11_enterNow_31 ?_
  refine r_iadd g0 dX11_enterNow_32 ?_
  refine r_iconst g0 dX11_enterNow_33 ?_
  refine r_iadd g0 dX11_enterNow_34 ?_
  refine r_iload_n g0 dX11_enterNow_35 rfl ?_
  obtain ⟨hb, h⟩ := gd_some h
  refine r_iastore g0 (is_a_Mo_all ho) (n := 145) rfl (InR_wr _) hb dX11_enterNow_36 ?_
  refine r_aload_n g0 dX11_enterNow_37 rfl ?_
  refine g_Mo_all g0 ho qX11_7 dX11_enterNow_38 ?_
  refine r_bipush g0 dX11_enterNow_41 rfl ?_
  refine r_iconst g0 dX11_enterNow_43 ?_
  refine r_iload g0 dX11_enterNow_44 rfl ?_
  refine r_imul g0 dX11_enterNow_46 ?_
  refine r_iadd g0 dX11_enterNow_47 ?_
  refine r_iconst g0 dX11_enterNow_48 ?_
  refine r_iadd g0 dX11_enterNow_49 ?_
  refine r_iload_n g0 dX11_enterNow_50 rfl ?_
  obtain ⟨hb, h⟩ := gd_some h
  refine r_iastore g0 (is_a_Mo_all ho) (n := 145) rfl (InR_wr _) hb dX11_enterNow_51 ?_
  refine r_aload_n g0 dX11_enterNow_52 rfl ?_
  refine g_Mo_all g0 ho qX11_7 dX11_enterNow_53 ?_
  refine r_bipush g0 dX11_enterNow_56 rfl ?_
  refine r_iconst g0 dX11_enterNow_58 ?_
  refine r_iload g0 dX11_enterNow_59 rfl ?_
  refine r_imul g0 dX11_enterNow_61 ?_
  refine r_iadd g0 dX11_enterNow_62 ?_
  refine r_iconst g0 dX11_enterNow_63 ?_
  refine r_iadd g0 dX11_enterNow_64 ?_
  refine r_iload g0 dX11_enterNow_65 rfl ?_
  obtain ⟨hb, h⟩ := gd_some h
  refine r_iastore g0 (is_a_Mo_all ho) (n := 145) rfl (InR_wr _) hb dX11_enterNow_67 ?_
  refine r_aload_n g0 dX11_enterNow_68 rfl ?_
  refine g_Mo_all g0 ho qX11_7 dX11_enterNow_69 ?_
  refine r_bipush g0 dX11_enterNow_72 rfl ?_
  refine r_iconst g0 dX11_enterNow_74 ?_
  refine r_iload g0 dX11_enterNow_75 rfl ?_
  refine r_imul g0 dX11_enterNow_77 ?_
  refine r_iadd g0 dX11_enterNow_78 ?_
  refine r_iconst g0 dX11_enterNow_79 ?_
  refine r_iadd g0 dX11_enterNow_80 ?_
  refine r_iload g0 dX11_enterNow_81 rfl ?_
  obtain ⟨hb, h⟩ := gd_some h
  refine r_iastore g0 (is_a_Mo_all ho) (n := 145) rfl (InR_wr _) hb dX11_enterNow_83 ?_
  refine r_aload_n g0 dX11_enterNow_84 rfl ?_
  refine g_Mo_all g0 ho qX11_7 dX11_enterNow_85 ?_
  refine r_bipush g0 dX11_enterNow_88 rfl ?_
  refine r_dup2 g0 dX11_enterNow_90 rfl rfl ?_
  obtain ⟨hb, h⟩ := gd_some h
  refine r_iaload g0 (is_a_Mo_all ho) (n := 145) rfl (InR_lit rfl) hb dX11_enterNow_91 ?_
  refine r_iconst g0 dX11_enterNow_92 ?_
  refine r_iadd g0 dX11_enterNow_93 ?_
  obtain ⟨hb, h⟩ := gd_some h
  refine r_iastore g0 (is_a_Mo_all ho) (n := 145) rfl (InR_lit rfl) hb dX11_enterNow_94 ?_
  refine r_iload g0 dX11_enterNow_95 rfl ?_
  exact z_I g dX11_enterNow_97 (InR_rd _ _ _) h
