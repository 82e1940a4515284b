/-! THE CONTRACTS: the bytecode does what the functions say (by program, wip/whole/gen) -/
theorem dX11_bestOf_0 : decode cX11_bestOf 0 = .ok (.iconst (-1), 1) := by decide +kernel
theorem dX11_bestOf_1 : decode cX11_bestOf 1 = .ok (.istore_n 2, 1) := by decide +kernel
theorem dX11_bestOf_2 : decode cX11_bestOf 2 = .ok (.aload_n 0, 1) := by decide +kernel
theorem dX11_bestOf_3 : decode cX11_bestOf 3 = .ok (.iconst 0, 1) := by decide +kernel
theorem dX11_bestOf_4 : decode cX11_bestOf 4 = .ok (.putfield 268, 3) := by decide +kernel
theorem dX11_bestOf_7 : decode cX11_bestOf 7 = .ok (.iconst 0, 1) := by decide +kernel
theorem dX11_bestOf_8 : decode cX11_bestOf 8 = .ok (.istore_n 3, 1) := by decide +kernel
theorem dX11_bestOf_9 : decode cX11_bestOf 9 = .ok (.iload_n 3, 1) := by decide +kernel
theorem dX11_bestOf_10 : decode cX11_bestOf 10 = .ok (.iload_n 1, 1) := by decide +kernel
theorem dX11_bestOf_11 : decode cX11_bestOf 11 = .ok (.invokestatic 252, 3) := by decide +kernel
theorem dX11_bestOf_14 : decode cX11_bestOf 14 = .ok (.if_icmp .ge 47, 3) := by decide +kernel
theorem dX11_bestOf_17 : decode cX11_bestOf 17 = .ok (.iload_n 1, 1) := by decide +kernel
theorem dX11_bestOf_18 : decode cX11_bestOf 18 = .ok (.iload_n 3, 1) := by decide +kernel
theorem dX11_bestOf_19 : decode cX11_bestOf 19 = .ok (.invokestatic 262, 3) := by decide +kernel
theorem dX11_bestOf_22 : decode cX11_bestOf 22 = .ok (.ifCond .eq 33, 3) := by decide +kernel
theorem dX11_bestOf_25 : decode cX11_bestOf 25 = .ok (.aload_n 0, 1) := by decide +kernel
theorem dX11_bestOf_26 : decode cX11_bestOf 26 = .ok (.iload_n 1, 1) := by decide +kernel
theorem dX11_bestOf_27 : decode cX11_bestOf 27 = .ok (.iload_n 3, 1) := by decide +kernel
theorem dX11_bestOf_28 : decode cX11_bestOf 28 = .ok (.invokevirtual 265, 3) := by decide +kernel
theorem dX11_bestOf_31 : decode cX11_bestOf 31 = .ok (.istore 4, 2) := by decide +kernel
theorem dX11_bestOf_33 : decode cX11_bestOf 33 = .ok (.iload_n 2, 1) := by decide +kernel
theorem dX11_bestOf_34 : decode cX11_bestOf 34 = .ok (.iconst (-1), 1) := by decide +kernel
theorem dX11_bestOf_35 : decode cX11_bestOf 35 = .ok (.if_icmp .eq 12, 3) := by decide +kernel
theorem dX11_bestOf_38 : decode cX11_bestOf 38 = .ok (.iload 4, 2) := by decide +kernel
theorem dX11_bestOf_40 : decode cX11_bestOf 40 = .ok (.aload_n 0, 1) := by decide +kernel
theorem dX11_bestOf_41 : decode cX11_bestOf 41 = .ok (.getfield 268, 3) := by decide +kernel
theorem dX11_bestOf_44 : decode cX11_bestOf 44 = .ok (.if_icmp .ge 11, 3) := by decide +kernel
theorem dX11_bestOf_47 : decode cX11_bestOf 47 = .ok (.iload_n 3, 1) := by decide +kernel
theorem dX11_bestOf_48 : decode cX11_bestOf 48 = .ok (.istore_n 2, 1) := by decide +kernel
theorem dX11_bestOf_49 : decode cX11_bestOf 49 = .ok (.aload_n 0, 1) := by decide +kernel
theorem dX11_bestOf_50 : decode cX11_bestOf 50 = .ok (.iload 4, 2) := by decide +kernel
theorem dX11_bestOf_52 : decode cX11_bestOf 52 = .ok (.putfield 268, 3) := by decide +kernel
theorem dX11_bestOf_55 : decode cX11_bestOf 55 = .ok (.iinc 3 1, 3) := by decide +kernel
theorem dX11_bestOf_58 : decode cX11_bestOf 58 = .ok (.goto (-49), 3) := by decide +kernel
theorem dX11_bestOf_61 : decode cX11_bestOf 61 = .ok (.iload_n 2, 1) := by decide +kernel
theorem dX11_bestOf_62 : decode cX11_bestOf 62 = .ok (.ireturn, 1) := by decide +kernel
set_option maxHeartbeats 4000000 in
set_option maxRecDepth 100000 in
theorem t_X11_bestOf_L9 {l : Launch} {E : u_E} {K : u_K} {r : Int} {s' : u_S} (g : Wk l (XE E) { frames := 8, cells := 0, slots := 0, locals := 196 } cX11_bestOf 5 yX11_bestOf.cls yX11_bestOf.name (some .int) (RI E r s') K) {v0_1 : u_O} {v1_1 : Int} (i_v0_1 : is_Mo v0_1) (i_v1_1 : InR v1_1) {kx61 : Int → u_S → Option (Int × u_S)} (hkx61 : ∀ (v2_4 : Int) (s_8 : u_S), InR v2_4 → kx61 v2_4 s_8 = some (r, s') → K 0 0 61 [none, none, some (.int (J v2_4)), none, none] [] (Wd E s_8)) : ∀ (m : Nat) (v2_2 : Int) (v3_1 : Int) (s_2 : u_S), InR v2_2 → InR v3_1 → f_X11_bestOf_L9 m kx61 v0_1 v1_1 v2_2 v3_1 s_2 = some (r, s') → K 0 0 9 [some (.ref (E.1 v0_1)), some (.int (J v1_1)), some (.int (J v2_2)), some (.int (J v3_1)), none] [] (Wd E s_2) := by
  have g0 := g.wk
  intro m
  induction m with
  | zero =>
    intro v2_2 v3_1 s_2 i_v2_2 i_v3_1 h
    exact absurd (show (none : Option (Int × u_S)) = some (r, s') from h) (by intro z; cases z)
  | succ m ih =>
    intro v2_2 v3_1 s_2 i_v2_2 i_v3_1 h
    rw [f_X11_bestOf_L9] at h
    refine r_iload_n g0 dX11_bestOf_9 rfl ?_
    refine r_iload_n g0 dX11_bestOf_10 rfl ?_
    obtain ⟨r_1, s_3, hr_1, h⟩ := bd_some h
    refine r_cSI g0 (rest := [.int (J v3_1)]) (c_X11_power i_v1_1 hr_1) ok_X11_power mX11_252 dX11_bestOf_11 ⟨Nat.le_of_ble_eq_true rfl, Nat.le_of_ble_eq_true rfl⟩ ⟨Nat.zero_le _, Nat.zero_le _⟩ rfl (Nat.le_of_ble_eq_true rfl) rfl (fun i_r_1 => ?_)
    refine r_icmp_ge g0 61 dX11_bestOf_14 (by decide) i_v3_1 i_r_1 (fun hc => ?_) (fun hc => ?_)
    · replace h := if_f hc h
      refine r_mask g0 (lv' := [none, none, some (.int (J v2_2)), none, none]) [false, false, true, false, false] rfl ?_
      exact hkx61 v2_2 s_3 i_v2_2 h
    · replace h := if_t hc h
      refine r_iload_n g0 dX11_bestOf_17 rfl ?_
      refine r_iload_n g0 dX11_bestOf_18 rfl ?_
      obtain ⟨r_2, s_4, hr_2, h⟩ := bd_some h
      refine r_cSZ g0 (rest := []) (c_X11_isOrder i_v1_1 i_v3_1 hr_2) ok_X11_isOrder mX11_262 dX11_bestOf_19 ⟨Nat.le_of_ble_eq_true rfl, Nat.le_of_ble_eq_true rfl⟩ ⟨Nat.zero_le _, Nat.zero_le _⟩ rfl (Nat.le_of_ble_eq_true rfl) rfl (fun i_r_2 => ?_)
      obtain ⟨jp_1, hdjp_1, h⟩ := jn_some h
      have hjp_1 : ∀ (v2_3 : Int) (s_5 : u_S), InR v2_3 → jp_1 v2_3 s_5 = some (r, s') → K 0 0 55 [some (.ref (E.1 v0_1)), some (.int (J v1_1)), some (.int (J v2_3)), some (.int (J v3_1)), none] [] (Wd E s_5) := by
        intro v2_3 s_5 i_v2_3 h
        subst hdjp_1
        refine r_iinc g0 (a := v3_1) (lv' := [some (.ref (E.1 v0_1)), some (.int (J v1_1)), some (.int (J v2_3)), some (.int (J (wr (v3_1 + 1)))), none]) dX11_bestOf_55 (by decide) rfl rfl rfl ?_
        refine r_goto g0 9 dX11_bestOf_58 (by decide) ?_
        exact ih v2_3 (wr (v3_1 + 1)) s_5 i_v2_3 (InR_wr _) h
      clear hdjp_1
      refine r_if_eq g0 55 dX11_bestOf_22 (by decide) (B01.inR i_r_2) (fun hc => ?_) (fun hc => ?_)
      · replace h := if_t hc h
        exact hjp_1 v2_2 s_4 i_v2_2 h
      · replace h := if_f hc h
        refine r_aload_n g0 dX11_bestOf_25 rfl ?_
        refine r_iload_n g0 dX11_bestOf_26 rfl ?_
        refine r_iload_n g0 dX11_bestOf_27 rfl ?_
        obtain ⟨r_3, s_6, hr_3, h⟩ := bd_some h
        refine r_cVI g0 (rest := []) (c_X11_orderFaults i_v0_1 i_v1_1 i_v3_1 hr_3) ok_X11_orderFaults mX11_265 (recv_Mo i_v0_1) dX11_bestOf_28 ⟨Nat.le_of_ble_eq_true rfl, Nat.le_of_ble_eq_true rfl⟩ ⟨Nat.zero_le _, Nat.zero_le _⟩ rfl (Nat.le_of_ble_eq_true rfl) rfl (fun i_r_3 => ?_)
        refine r_istore g0 (lv' := [some (.ref (E.1 v0_1)), some (.int (J v1_1)), some (.int (J v2_2)), some (.int (J v3_1)), some (.int (J r_3))]) dX11_bestOf_31 (by decide) rfl rfl ?_
        refine r_iload_n g0 dX11_bestOf_33 rfl ?_
        refine r_iconst g0 dX11_bestOf_34 ?_
        obtain ⟨jp_2, hdjp_2, h⟩ := jn_some h
        have hjp_2 : ∀  (s_7 : u_S), jp_2 s_7 = some (r, s') → K 0 0 47 [some (.ref (E.1 v0_1)), some (.int (J v1_1)), none, some (.int (J v3_1)), some (.int (J r_3))] [] (Wd E s_7) := by
          intro s_7 h
          subst hdjp_2
          refine r_iload_n g0 dX11_bestOf_47 rfl ?_
          refine r_istore_n g0 (lv' := [some (.ref (E.1 v0_1)), some (.int (J v1_1)), some (.int (J v3_1)), some (.int (J v3_1)), some (.int (J r_3))]) dX11_bestOf_48 (by decide) rfl rfl ?_
          refine r_aload_n g0 dX11_bestOf_49 rfl ?_
          refine r_iload g0 dX11_bestOf_50 rfl ?_
          refine p_Mo_bestFaults g0 i_v0_1 qX11_268 dX11_bestOf_52 ?_
          refine r_mask g0 (lv' := [some (.ref (E.1 v0_1)), some (.int (J v1_1)), some (.int (J v3_1)), some (.int (J v3_1)), none]) [true, true, true, true, false] rfl ?_
          exact hjp_1 v3_1 (wt s_7 v0_1 10 r_3) i_v3_1 h
        clear hdjp_2
        refine r_icmp_eq g0 47 dX11_bestOf_35 (by decide) i_v2_2 (InR_lit rfl) (fun hc => ?_) (fun hc => ?_)
        · replace h := if_t hc h
          refine r_mask g0 (lv' := [some (.ref (E.1 v0_1)), some (.int (J v1_1)), none, some (.int (J v3_1)), some (.int (J r_3))]) [true, true, false, true, true] rfl ?_
          exact hjp_2 s_6 h
        · replace h := if_f hc h
          refine r_iload g0 dX11_bestOf_38 rfl ?_
          refine r_aload_n g0 dX11_bestOf_40 rfl ?_
          refine g_Mo_bestFaults g0 i_v0_1 qX11_268 dX11_bestOf_41 ?_
          refine r_icmp_ge g0 55 dX11_bestOf_44 (by decide) i_r_3 (InR_rd _ _ _) (fun hc => ?_) (fun hc => ?_)
          · replace h := if_f hc h
            refine r_mask g0 (lv' := [some (.ref (E.1 v0_1)), some (.int (J v1_1)), some (.int (J v2_2)), some (.int (J v3_1)), none]) [true, true, true, true, false] rfl ?_
            exact hjp_1 v2_2 s_6 i_v2_2 h
          · replace h := if_t hc h
            refine r_mask g0 (lv' := [some (.ref (E.1 v0_1)), some (.int (J v1_1)), none, some (.int (J v3_1)), some (.int (J r_3))]) [true, true, false, true, true] rfl ?_
            exact hjp_2 s_6 h
set_option maxHeartbeats 4000000 in
set_option maxRecDepth 100000 in
theorem c_X11_bestOf {E : u_E} {l : Launch} {o : u_O} {p1 : Int} (ho : is_Mo o) (i_p1 : InR p1) {s s' : u_S} {r : Int} (h : f_X11_bestOf o p1 s = some (r, s')) : Con l (XE E) yX11_bestOf cX11_bestOf 5 (some .int) 8 196 0 0 [.ref (E.1 o), .int (J p1)] (Wd E s) (RI E r s') := by
  refine Con.of [some (.ref (E.1 o)), some (.int (J p1)), none, none, none] (by decide +kernel) rfl rfl (Nat.le_of_ble_eq_true rfl) (fun K g => ?_)
  have g0 := g.wk
  unfold f_X11_bestOf at h
  refine r_iconst g0 dX11_bestOf_0 ?_
  refine r_istore_n g0 (lv' := [some (.ref (E.1 o)), some (.int (J p1)), some (.int (J (-1))), none, none]) dX11_bestOf_1 (by decide) rfl rfl ?_
  refine r_aload_n g0 dX11_bestOf_2 rfl ?_
  refine r_iconst g0 dX11_bestOf_3 ?_
  refine p_Mo_bestFaults g0 ho qX11_268 dX11_bestOf_4 ?_
  refine r_iconst g0 dX11_bestOf_7 ?_
  refine r_istore_n g0 (lv' := [some (.ref (E.1 o)), some (.int (J p1)), some (.int (J (-1))), some (.int (J 0)), none]) dX11_bestOf_8 (by decide) rfl rfl ?_
  refine t_X11_bestOf_L9 g ho i_p1 ?_ FU (-1) 0 (wt s o 10 0) (InR_lit rfl) (B01.inR B01_0) h
  · intro v2_1 s_1 i_v2_1 h
    refine r_iload_n g0 dX11_bestOf_61 rfl ?_
    exact z_I g dX11_bestOf_62 i_v2_1 h
theorem dX11_best_0 : decode cX11_best 0 = .ok (.iload_n 1, 1) := by decide +kernel
theorem dX11_best_1 : decode cX11_best 1 = .ok (.i2l, 1) := by decide +kernel
theorem dX11_best_2 : decode cX11_best 2 = .ok (.ldc2_w 223, 3) := by decide +kernel
theorem dX11_best_5 : decode cX11_best 5 = .ok (.ldc2_w 88, 3) := by decide +kernel
theorem dX11_best_8 : decode cX11_best 8 = .ok (.invokestatic 61, 3) := by decide +kernel
theorem dX11_best_11 : decode cX11_best 11 = .ok (.ifCond .eq 13, 3) := by decide +kernel
theorem dX11_best_14 : decode cX11_best 14 = .ok (.iload_n 2, 1) := by decide +kernel
theorem dX11_best_15 : decode cX11_best 15 = .ok (.i2l, 1) := by decide +kernel
theorem dX11_best_16 : decode cX11_best 16 = .ok (.lconst 0, 1) := by decide +kernel
theorem dX11_best_17 : decode cX11_best 17 = .ok (.lconst 1, 1) := by decide +kernel
theorem dX11_best_18 : decode cX11_best 18 = .ok (.invokestatic 61, 3) := by decide +kernel
theorem dX11_best_21 : decode cX11_best 21 = .ok (.ifCond .ne 10, 3) := by decide +kernel
theorem dX11_best_24 : decode cX11_best 24 = .ok (.aload_n 0, 1) := by decide +kernel
theorem dX11_best_25 : decode cX11_best 25 = .ok (.bipush (-2), 2) := by decide +kernel
theorem dX11_best_27 : decode cX11_best 27 = .ok (.invokevirtual 97, 3) := by decide +kernel
theorem dX11_best_30 : decode cX11_best 30 = .ok (.ireturn, 1) := by decide +kernel
theorem dX11_best_31 : decode cX11_best 31 = .ok (.aload_n 0, 1) := by decide +kernel
theorem dX11_best_32 : decode cX11_best 32 = .ok (.iconst 0, 1) := by decide +kernel
theorem dX11_best_33 : decode cX11_best 33 = .ok (.invokevirtual 65, 3) := by decide +kernel
theorem dX11_best_36 : decode cX11_best 36 = .ok (.ifCond .ne 10, 3) := by decide +kernel
theorem dX11_best_39 : decode cX11_best 39 = .ok (.aload_n 0, 1) := by decide +kernel
theorem dX11_best_40 : decode cX11_best 40 = .ok (.bipush (-3), 2) := by decide +kernel
theorem dX11_best_42 : decode cX11_best 42 = .ok (.invokevirtual 97, 3) := by decide +kernel
theorem dX11_best_45 : decode cX11_best 45 = .ok (.ireturn, 1) := by decide +kernel
theorem dX11_best_46 : decode cX11_best 46 = .ok (.aload_n 0, 1) := by decide +kernel
theorem dX11_best_47 : decode cX11_best 47 = .ok (.iload_n 1, 1) := by decide +kernel
theorem dX11_best_48 : decode cX11_best 48 = .ok (.invokevirtual 271, 3) := by decide +kernel
theorem dX11_best_51 : decode cX11_best 51 = .ok (.istore_n 3, 1) := by decide +kernel
theorem dX11_best_52 : decode cX11_best 52 = .ok (.iload_n 2, 1) := by decide +kernel
theorem dX11_best_53 : decode cX11_best 53 = .ok (.ifCond .ne 7, 3) := by decide +kernel
theorem dX11_best_56 : decode cX11_best 56 = .ok (.iload_n 3, 1) := by decide +kernel
theorem dX11_best_57 : decode cX11_best 57 = .ok (.goto 7, 3) := by decide +kernel
theorem dX11_best_60 : decode cX11_best 60 = .ok (.aload_n 0, 1) := by decide +kernel
theorem dX11_best_61 : decode cX11_best 61 = .ok (.getfield 268, 3) := by decide +kernel
theorem dX11_best_64 : decode cX11_best 64 = .ok (.ireturn, 1) := by decide +kernel
set_option maxHeartbeats 4000000 in
set_option maxRecDepth 100000 in
theorem c_X11_best {E : u_E} {l : Launch} {o : u_O} {p1 : Int} {p2 : Int} (ho : is_Mo o) (i_p1 : InR p1) (i_p2 : InR p2) {s s' : u_S} {r : Int} (h : f_X11_best o p1 p2 s = some (r, s')) : Con l (XE E) yX11_best cX11_best 4 (some .int) 9 220 0 0 [.ref (E.1 o), .int (J p1), .int (J p2)] (Wd E s) (RI E r s') := by
  refine Con.of [some (.ref (E.1 o)), some (.int (J p1)), some (.int (J p2)), none] (by decide +kernel) rfl rfl (Nat.le_of_ble_eq_true rfl) (fun K g => ?_)
  have g0 := g.wk
  unfold f_X11_best at h
  refine r_iload_n g0 dX11_best_0 rfl ?_
  refine r_i2l g0 dX11_best_1 i_p1 ?_
  refine r_ldc2 g0 (v := 2) dX11_best_2 kX11_223 ?_
  refine r_ldc2 g0 (v := 4) dX11_best_5 kX11_88 ?_
  obtain ⟨r_1, s_1, hr_1, h⟩ := bd_some h
  refine r_cSZ g0 (rest := []) (c_X11_in (InL_i i_p1) (InL_lit rfl) (InL_lit rfl) hr_1) ok_X11_in mX11_61 dX11_best_8 ⟨Nat.le_of_ble_eq_true rfl, Nat.le_of_ble_eq_true rfl⟩ ⟨Nat.zero_le _, Nat.zero_le _⟩ rfl (Nat.le_of_ble_eq_true rfl) rfl (fun i_r_1 => ?_)
  obtain ⟨jp_1, hdjp_1, h⟩ := jn_some h
  have hjp_1 : ∀  (s_2 : u_S), jp_1 s_2 = some (r, s') → K 0 0 24 [some (.ref (E.1 o)), none, none, none] [] (Wd E s_2) := by
    intro s_2 h
    subst hdjp_1
    refine r_aload_n g0 dX11_best_24 rfl ?_
    refine r_bipush g0 dX11_best_25 rfl ?_
    obtain ⟨r_2, s_3, hr_2, h⟩ := bd_some h
    refine r_cVI g0 (rest := []) (c_X11_refuses ho (InR_lit rfl) hr_2) ok_X11_refuses mX11_97 (recv_Mo ho) dX11_best_27 ⟨Nat.le_of_ble_eq_true rfl, Nat.le_of_ble_eq_true rfl⟩ ⟨Nat.zero_le _, Nat.zero_le _⟩ rfl (Nat.le_of_ble_eq_true rfl) rfl (fun i_r_2 => ?_)
    exact z_I g dX11_best_30 i_r_2 h
  clear hdjp_1
  refine r_if_eq g0 24 dX11_best_11 (by decide) (B01.inR i_r_1) (fun hc => ?_) (fun hc => ?_)
  · replace h := if_t hc h
    refine r_mask g0 (lv' := [some (.ref (E.1 o)), none, none, none]) [true, false, false, false] rfl ?_
    exact hjp_1 s_1 h
  · replace h := if_f hc h
    refine r_iload_n g0 dX11_best_14 rfl ?_
    refine r_i2l g0 dX11_best_15 i_p2 ?_
    refine r_lconst g0 (v := 0) dX11_best_16 rfl ?_
    refine r_lconst g0 (v := 1) dX11_best_17 rfl ?_
    obtain ⟨r_3, s_4, hr_3, h⟩ := bd_some h
    refine r_cSZ g0 (rest := []) (c_X11_in (InL_i i_p2) (InL_lit rfl) (InL_lit rfl) hr_3) ok_X11_in mX11_61 dX11_best_18 ⟨Nat.le_of_ble_eq_true rfl, Nat.le_of_ble_eq_true rfl⟩ ⟨Nat.zero_le _, Nat.zero_le _⟩ rfl (Nat.le_of_ble_eq_true rfl) rfl (fun i_r_3 => ?_)
    refine r_if_ne g0 31 dX11_best_21 (by decide) (B01.inR i_r_3) (fun hc => ?_) (fun hc => ?_)
    · replace h := if_f hc h
      refine r_aload_n g0 dX11_best_31 rfl ?_
      refine r_iconst g0 dX11_best_32 ?_
      obtain ⟨r_4, s_5, hr_4, h⟩ := bd_some h
      refine r_cVI g0 (rest := []) (c_X11_notes ho (B01.inR B01_0) hr_4) ok_X11_notes mX11_65 (recv_Mo ho) dX11_best_33 ⟨Nat.le_of_ble_eq_true rfl, Nat.le_of_ble_eq_true rfl⟩ ⟨Nat.zero_le _, Nat.zero_le _⟩ rfl (Nat.le_of_ble_eq_true rfl) rfl (fun i_r_4 => ?_)
      refine r_if_ne g0 46 dX11_best_36 (by decide) i_r_4 (fun hc => ?_) (fun hc => ?_)
      · replace h := if_f hc h
        refine r_aload_n g0 dX11_best_46 rfl ?_
        refine r_iload_n g0 dX11_best_47 rfl ?_
        obtain ⟨r_5, s_6, hr_5, h⟩ := bd_some h
        refine r_cVI g0 (rest := []) (c_X11_bestOf ho i_p1 hr_5) ok_X11_bestOf mX11_271 (recv_Mo ho) dX11_best_48 ⟨Nat.le_of_ble_eq_true rfl, Nat.le_of_ble_eq_true rfl⟩ ⟨Nat.zero_le _, Nat.zero_le _⟩ rfl (Nat.le_of_ble_eq_true rfl) rfl (fun i_r_5 => ?_)
        refine r_istore_n g0 (lv' := [some (.ref (E.1 o)), some (.int (J p1)), some (.int (J p2)), some (.int (J r_5))]) dX11_best_51 (by decide) rfl rfl ?_
        refine r_iload_n g0 dX11_best_52 rfl ?_
        refine r_if_ne g0 60 dX11_best_53 (by decide) i_p2 (fun hc => ?_) (fun hc => ?_)
        · replace h := if_f hc h
          refine r_aload_n g0 dX11_best_60 rfl ?_
          refine g_Mo_bestFaults g0 ho qX11_268 dX11_best_61 ?_
          exact z_I g dX11_best_64 (InR_rd _ _ _) h
        · replace h := if_t hc h
          refine r_iload_n g0 dX11_best_56 rfl ?_
          refine r_goto g0 64 dX11_best_57 (by decide) ?_
          exact z_I g dX11_best_64 i_r_5 h
      · replace h := if_t hc h
        refine r_aload_n g0 dX11_best_39 rfl ?_
        refine r_bipush g0 dX11_best_40 rfl ?_
        obtain ⟨r_6, s_7, hr_6, h⟩ := bd_some h
        refine r_cVI g0 (rest := []) (c_X11_refuses ho (InR_lit rfl) hr_6) ok_X11_refuses mX11_97 (recv_Mo ho) dX11_best_42 ⟨Nat.le_of_ble_eq_true rfl, Nat.le_of_ble_eq_true rfl⟩ ⟨Nat.zero_le _, Nat.zero_le _⟩ rfl (Nat.le_of_ble_eq_true rfl) rfl (fun i_r_6 => ?_)
        exact z_I g dX11_best_45 i_r_6 h
    · replace h := if_t hc h
      refine r_mask g0 (lv' := [some (.ref (E.1 o)), none, none, none]) [true, false, false, false] rfl ?_
      exact hjp_1 s_4 h
theorem dX11_lays_0 : decode cX11_lays 0 = .ok (.iload_n 1, 1) := by decide +kernel
theorem dX11_lays_1 : decode cX11_lays 1 = .ok (.i2l, 1) := by decide +kernel
theorem dX11_lays_2 : decode cX11_lays 2 = .ok (.ldc2_w 223, 3) := by decide +kernel
theorem dX11_lays_5 : decode cX11_lays 5 = .ok (.ldc2_w 88, 3) := by decide +kernel
theorem dX11_lays_8 : decode cX11_lays 8 = .ok (.invokestatic 61, 3) := by decide +kernel
theorem dX11_lays_11 : decode cX11_lays 11 = .ok (.ifCond .ne 10, 3) := by decide +kernel
theorem dX11_lays_14 : decode cX11_lays 14 = .ok (.aload_n 0, 1) := by decide +kernel
theorem dX11_lays_15 : decode cX11_lays 15 = .ok (.bipush (-2), 2) := by decide +kernel
theorem dX11_lays_17 : decode cX11_lays 17 = .ok (.invokevirtual 97, 3) := by decide +kernel
theorem dX11_lays_20 : decode cX11_lays 20 = .ok (.ireturn, 1) := by decide +kernel
theorem dX11_lays_21 : decode cX11_lays 21 = .ok (.aload_n 0, 1) := by decide +kernel
theorem dX11_lays_22 : decode cX11_lays 22 = .ok (.iconst 0, 1) := by decide +kernel
theorem dX11_lays_23 : decode cX11_lays 23 = .ok (.invokevirtual 65, 3) := by decide +kernel
theorem dX11_lays_26 : decode cX11_lays 26 = .ok (.ifCond .ne 10, 3) := by decide +kernel
theorem dX11_lays_29 : decode cX11_lays 29 = .ok (.aload_n 0, 1) := by decide +kernel
theorem dX11_lays_30 : decode cX11_lays 30 = .ok (.bipush (-3), 2) := by decide +kernel
theorem dX11_lays_32 : decode cX11_lays 32 = .ok (.invokevirtual 97, 3) := by decide +kernel
theorem dX11_lays_35 : decode cX11_lays 35 = .ok (.ireturn, 1) := by decide +kernel
theorem dX11_lays_36 : decode cX11_lays 36 = .ok (.aload_n 0, 1) := by decide +kernel
theorem dX11_lays_37 : decode cX11_lays 37 = .ok (.iload_n 1, 1) := by decide +kernel
theorem dX11_lays_38 : decode cX11_lays 38 = .ok (.invokevirtual 271, 3) := by decide +kernel
theorem dX11_lays_41 : decode cX11_lays 41 = .ok (.istore_n 2, 1) := by decide +kernel
theorem dX11_lays_42 : decode cX11_lays 42 = .ok (.aload_n 0, 1) := by decide +kernel
theorem dX11_lays_43 : decode cX11_lays 43 = .ok (.invokevirtual 100, 3) := by decide +kernel
theorem dX11_lays_46 : decode cX11_lays 46 = .ok (.aload_n 0, 1) := by decide +kernel
theorem dX11_lays_47 : decode cX11_lays 47 = .ok (.getfield 7, 3) := by decide +kernel
theorem dX11_lays_50 : decode cX11_lays 50 = .ok (.bipush 84, 2) := by decide +kernel
theorem dX11_lays_52 : decode cX11_lays 52 = .ok (.iconst 0, 1) := by decide +kernel
theorem dX11_lays_53 : decode cX11_lays 53 = .ok (.iastore, 1) := by decide +kernel
theorem dX11_lays_54 : decode cX11_lays 54 = .ok (.iconst 0, 1) := by decide +kernel
theorem dX11_lays_55 : decode cX11_lays 55 = .ok (.istore_n 3, 1) := by decide +kernel
theorem dX11_lays_56 : decode cX11_lays 56 = .ok (.iload_n 3, 1) := by decide +kernel
theorem dX11_lays_57 : decode cX11_lays 57 = .ok (.iconst 2, 1) := by decide +kernel
theorem dX11_lays_58 : decode cX11_lays 58 = .ok (.iload_n 1, 1) := by decide +kernel
theorem dX11_lays_59 : decode cX11_lays 59 = .ok (.imul, 1) := by decide +kernel
theorem dX11_lays_60 : decode cX11_lays 60 = .ok (.if_icmp .ge 61, 3) := by decide +kernel
theorem dX11_lays_63 : decode cX11_lays 63 = .ok (.aload_n 0, 1) := by decide +kernel
theorem dX11_lays_64 : decode cX11_lays 64 = .ok (.aload_n 0, 1) := by decide +kernel
theorem dX11_lays_65 : decode cX11_lays 65 = .ok (.getfield 22, 3) := by decide +kernel
theorem dX11_lays_68 : decode cX11_lays 68 = .ok (.iload_n 1, 1) := by decide +kernel
theorem dX11_lays_69 : decode cX11_lays 69 = .ok (.iload_n 2, 1) := by decide +kernel
theorem dX11_lays_70 : decode cX11_lays 70 = .ok (.iload_n 3, 1) := by decide +kernel
theorem dX11_lays_71 : decode cX11_lays 71 = .ok (.invokevirtual 258, 3) := by decide +kernel
theorem dX11_lays_74 : decode cX11_lays 74 = .ok (.ifCond .eq 41, 3) := by decide +kernel
theorem dX11_lays_77 : decode cX11_lays 77 = .ok (.aload_n 0, 1) := by decide +kernel
theorem dX11_lays_78 : decode cX11_lays 78 = .ok (.aload_n 0, 1) := by decide +kernel
theorem dX11_lays_79 : decode cX11_lays 79 = .ok (.getfield 22, 3) := by decide +kernel
theorem dX11_lays_82 : decode cX11_lays 82 = .ok (.iconst 0, 1) := by decide +kernel
theorem dX11_lays_83 : decode cX11_lays 83 = .ok (.iaload, 1) := by decide +kernel
theorem dX11_lays_84 : decode cX11_lays 84 = .ok (.aload_n 0, 1) := by decide +kernel
theorem dX11_lays_85 : decode cX11_lays 85 = .ok (.getfield 22, 3) := by decide +kernel
theorem dX11_lays_88 : decode cX11_lays 88 = .ok (.iconst 1, 1) := by decide +kernel
theorem dX11_lays_89 : decode cX11_lays 89 = .ok (.iaload, 1) := by decide +kernel
theorem dX11_lays_90 : decode cX11_lays 90 = .ok (.aload_n 0, 1) := by decide +kernel
theorem dX11_lays_91 : decode cX11_lays 91 = .ok (.getfield 22, 3) := by decide +kernel
theorem dX11_lays_94 : decode cX11_lays 94 = .ok (.iconst 2, 1) := by decide +kernel
theorem dX11_lays_95 : decode cX11_lays 95 = .ok (.iaload, 1) := by decide +kernel
theorem dX11_lays_96 : decode cX11_lays 96 = .ok (.aload_n 0, 1) := by decide +kernel
theorem dX11_lays_97 : decode cX11_lays 97 = .ok (.getfield 22, 3) := by decide +kernel
theorem dX11_lays_100 : decode cX11_lays 100 = .ok (.iconst 3, 1) := by decide +kernel
theorem dX11_lays_101 : decode cX11_lays 101 = .ok (.iaload, 1) := by decide +kernel
theorem dX11_lays_102 : decode cX11_lays 102 = .ok (.iload_n 1, 1) := by decide +kernel
theorem dX11_lays_103 : decode cX11_lays 103 = .ok (.iload_n 2, 1) := by decide +kernel
theorem dX11_lays_104 : decode cX11_lays 104 = .ok (.iload_n 3, 1) := by decide +kernel
theorem dX11_lays_105 : decode cX11_lays 105 = .ok (.iconst 2, 1) := by decide +kernel
theorem dX11_lays_106 : decode cX11_lays 106 = .ok (.idiv, 1) := by decide +kernel
theorem dX11_lays_107 : decode cX11_lays 107 = .ok (.invokestatic 255, 3) := by decide +kernel
theorem dX11_lays_110 : decode cX11_lays 110 = .ok (.invokevirtual 186, 3) := by decide +kernel
theorem dX11_lays_113 : decode cX11_lays 113 = .ok (.istore 4, 2) := by decide +kernel
theorem dX11_lays_115 : decode cX11_lays 115 = .ok (.iinc 3 1, 3) := by decide +kernel
theorem dX11_lays_118 : decode cX11_lays 118 = .ok (.goto (-62), 3) := by decide +kernel
theorem dX11_lays_121 : decode cX11_lays 121 = .ok (.aload_n 0, 1) := by decide +kernel
theorem dX11_lays_122 : decode cX11_lays 122 = .ok (.getfield 7, 3) := by decide +kernel
theorem dX11_lays_125 : decode cX11_lays 125 = .ok (.bipush 84, 2) := by decide +kernel
theorem dX11_lays_127 : decode cX11_lays 127 = .ok (.iaload, 1) := by decide +kernel
theorem dX11_lays_128 : decode cX11_lays 128 = .ok (.ireturn, 1) := by decide +kernel
set_option maxHeartbeats 4000000 in
set_option maxRecDepth 100000 in
theorem t_X11_lays_L56 {l : Launch} {E : u_E} {K : u_K} {r : Int} {s' : u_S} (g : Wk l (XE E) { frames := 9, cells := 0, slots := 0, locals := 220 } cX11_lays 5 yX11_lays.cls yX11_lays.name (some .int) (RI E r s') K) {v0_1 : u_O} {v1_1 : Int} {v2_1 : Int} (i_v0_1 : is_Mo v0_1) (i_v1_1 : InR v1_1) (i_v2_1 : InR v2_1) {kx121 : u_S → Option (Int × u_S)} (hkx121 : ∀ (s_11 : u_S), kx121 s_11 = some (r, s') → K 0 0 121 [some (.ref (E.1 v0_1)), none, none, none, none] [] (Wd E s_11)) : ∀ (m : Nat) (v3_1 : Int) (s_6 : u_S), InR v3_1 → f_X11_lays_L56 m kx121 v0_1 v1_1 v2_1 v3_1 s_6 = some (r, s') → K 0 0 56 [some (.ref (E.1 v0_1)), some (.int (J v1_1)), some (.int (J v2_1)), some (.int (J v3_1)), none] [] (Wd E s_6) := by
  have g0 := g.wk
  intro m
  induction m with
  | zero =>
    intro v3_1 s_6 i_v3_1 h
    exact absurd (show (none : Option (Int × u_S)) = some (r, s') from h) (by intro z; cases z)
  | succ m ih =>
    intro v3_1 s_6 i_v3_1 h
    rw [f_X11_lays_L56] at h
    refine r_iload_n g0 dX11_lays_56 rfl ?_
    refine r_iconst g0 dX11_lays_57 ?_
    refine r_iload_n g0 dX11_lays_58 rfl ?_
    refine r_imul g0 dX11_lays_59 ?_
    refine r_icmp_ge g0 121 dX11_lays_60 (by decide) i_v3_1 (InR_wr _) (fun hc => ?_) (fun hc => ?_)
    · replace h := if_f hc h
      refine r_mask g0 (lv' := [some (.ref (E.1 v0_1)), none, none, none, none]) [true, false, false, false, false] rfl ?_
      exact hkx121 s_6 h
    · replace h := if_t hc h
      refine r_aload_n g0 dX11_lays_63 rfl ?_
      refine r_aload_n g0 dX11_lays_64 rfl ?_
      refine g_Mo_upper g0 i_v0_1 qX11_22 dX11_lays_65 ?_
      refine r_iload_n g0 dX11_lays_68 rfl ?_
      refine r_iload_n g0 dX11_lays_69 rfl ?_
      refine r_iload_n g0 dX11_lays_70 rfl ?_
      obtain ⟨r_5, s_7, hr_5, h⟩ := bd_some h
      refine r_cVZ g0 (rest := []) (c_X11_sound i_v0_1 (is_a_Mo_upper i_v0_1) i_v1_1 i_v2_1 i_v3_1 hr_5) ok_X11_sound mX11_258 (recv_Mo i_v0_1) dX11_lays_71 ⟨Nat.le_of_ble_eq_true rfl, Nat.le_of_ble_eq_true rfl⟩ ⟨Nat.zero_le _, Nat.zero_le _⟩ rfl (Nat.le_of_ble_eq_true rfl) rfl (fun i_r_5 => ?_)
      obtain ⟨jp_1, hdjp_1, h⟩ := jn_some h
      have hjp_1 : ∀  (s_8 : u_S), jp_1 s_8 = some (r, s') → K 0 0 115 [some (.ref (E.1 v0_1)), some (.int (J v1_1)), some (.int (J v2_1)), some (.int (J v3_1)), none] [] (Wd E s_8) := by
        intro s_8 h
        subst hdjp_1
        refine r_iinc g0 (a := v3_1) (lv' := [some (.ref (E.1 v0_1)), some (.int (J v1_1)), some (.int (J v2_1)), some (.int (J (wr (v3_1 + 1)))), none]) dX11_lays_115 (by decide) rfl rfl rfl ?_
        refine r_goto g0 56 dX11_lays_118 (by decide) ?_
        exact ih (wr (v3_1 + 1)) s_8 (InR_wr _) h
      clear hdjp_1
      refine r_if_eq g0 115 dX11_lays_74 (by decide) (B01.inR i_r_5) (fun hc => ?_) (fun hc => ?_)
      · replace h := if_t hc h
        exact hjp_1 s_7 h
      · replace h := if_f hc h
        refine r_aload_n g0 dX11_lays_77 rfl ?_
        refine r_aload_n g0 dX11_lays_78 rfl ?_
        refine g_Mo_upper g0 i_v0_1 qX11_22 dX11_lays_79 ?_
        refine r_iconst g0 dX11_lays_82 ?_
        obtain ⟨hb, h⟩ := gd_some h
        refine r_iaload g0 (is_a_Mo_upper i_v0_1) (n := 4) rfl (B01.inR B01_0) hb dX11_lays_83 ?_
        refine r_aload_n g0 dX11_lays_84 rfl ?_
        refine g_Mo_upper g0 i_v0_1 qX11_22 dX11_lays_85 ?_
        refine r_iconst g0 dX11_lays_88 ?_
        obtain ⟨hb, h⟩ := gd_some h
        refine r_iaload g0 (is_a_Mo_upper i_v0_1) (n := 4) rfl (B01.inR B01_1) hb dX11_lays_89 ?_
        refine r_aload_n g0 dX11_lays_90 rfl ?_
        refine g_Mo_upper g0 i_v0_1 qX11_22 dX11_lays_91 ?_
        refine r_iconst g0 dX11_lays_94 ?_
        obtain ⟨hb, h⟩ := gd_some h
        refine r_iaload g0 (is_a_Mo_upper i_v0_1) (n := 4) rfl (InR_lit rfl) hb dX11_lays_95 ?_
        refine r_aload_n g0 dX11_lays_96 rfl ?_
        refine g_Mo_upper g0 i_v0_1 qX11_22 dX11_lays_97 ?_
        refine r_iconst g0 dX11_lays_100 ?_
        obtain ⟨hb, h⟩ := gd_some h
        refine r_iaload g0 (is_a_Mo_upper i_v0_1) (n := 4) rfl (InR_lit rfl) hb dX11_lays_101 ?_
        refine r_iload_n g0 dX11_lays_102 rfl ?_
        refine r_iload_n g0 dX11_lays_103 rfl ?_
        refine r_iload_n g0 dX11_lays_104 rfl ?_
        refine r_iconst g0 dX11_lays_105 ?_
        refine r_idiv g0 dX11_lays_106 i_v3_1 (InR_lit rfl) (by decide) ?_
        obtain ⟨r_6, s_9, hr_6, h⟩ := bd_some h
        refine r_cSI g0 (rest := [.int (J (rd s_7 (a_Mo_upper v0_1) 3)), .int (J (rd s_7 (a_Mo_upper v0_1) 2)), .int (J (rd s_7 (a_Mo_upper v0_1) 1)), .int (J (rd s_7 (a_Mo_upper v0_1) 0)), .ref (E.1 v0_1)]) (c_X11_voice i_v1_1 i_v2_1 (InR_wr _) hr_6) ok_X11_voice mX11_255 dX11_lays_107 ⟨Nat.le_of_ble_eq_true rfl, Nat.le_of_ble_eq_true rfl⟩ ⟨Nat.zero_le _, Nat.zero_le _⟩ rfl (Nat.le_of_ble_eq_true rfl) rfl (fun i_r_6 => ?_)
        obtain ⟨r_7, s_10, hr_7, h⟩ := bd_some h
        refine r_cVI g0 (rest := []) (c_X11_enterNow i_v0_1 (InR_rd _ _ _) (InR_rd _ _ _) (InR_rd _ _ _) (InR_rd _ _ _) i_r_6 hr_7) ok_X11_enterNow mX11_186 (recv_Mo i_v0_1) dX11_lays_110 ⟨Nat.le_of_ble_eq_true rfl, Nat.le_of_ble_eq_true rfl⟩ ⟨Nat.zero_le _, Nat.zero_le _⟩ rfl (Nat.le_of_ble_eq_true rfl) rfl (fun i_r_7 => ?_)
        refine r_istore g0 (lv' := [some (.ref (E.1 v0_1)), some (.int (J v1_1)), some (.int (J v2_1)), some (.int (J v3_1)), some (.int (J r_7))]) dX11_lays_113 (by decide) rfl rfl ?_
        refine r_mask g0 (lv' := [some (.ref (E.1 v0_1)), some (.int (J v1_1)), some (.int (J v2_1)), some (.int (J v3_1)), none]) [true, true, true, true, false] rfl ?_
        exact hjp_1 s_10 h
set_option maxHeartbeats 4000000 in
set_option maxRecDepth 100000 in
theorem c_X11_lays {E : u_E} {l : Launch} {o : u_O} {p1 : Int} (ho : is_Mo o) (i_p1 : InR p1) {s s' : u_S} {r : Int} (h : f_X11_lays o p1 s = some (r, s')) : Con l (XE E) yX11_lays cX11_lays 5 (some .int) 9 220 0 0 [.ref (E.1 o), .int (J p1)] (Wd E s) (RI E r s') := by
  refine Con.of [some (.ref (E.1 o)), some (.int (J p1)), none, none, none] (by decide +kernel) rfl rfl (Nat.le_of_ble_eq_true rfl) (fun K g => ?_)
  have g0 := g.wk
  unfold f_X11_lays at h
  refine r_iload_n g0 dX11_lays_0 rfl ?_
  refine r_i2l g0 dX11_lays_1 i_p1 ?_
  refine r_ldc2 g0 (v := 2) dX11_lays_2 kX11_223 ?_
  refine r_ldc2 g0 (v := 4) dX11_lays_5 kX11_88 ?_
  obtain ⟨r_1, s_1, hr_1, h⟩ := bd_some h
  refine r_cSZ g0 (rest := []) (c_X11_in (InL_i i_p1) (InL_lit rfl) (InL_lit rfl) hr_1) ok_X11_in mX11_61 dX11_lays_8 ⟨Nat.le_of_ble_eq_true rfl, Nat.le_of_ble_eq_true rfl⟩ ⟨Nat.zero_le _, Nat.zero_le _⟩ rfl (Nat.le_of_ble_eq_true rfl) rfl (fun i_r_1 => ?_)
  refine r_if_ne g0 21 dX11_lays_11 (by decide) (B01.inR i_r_1) (fun hc => ?_) (fun hc => ?_)
  · replace h := if_f hc h
    refine r_aload_n g0 dX11_lays_21 rfl ?_
    refine r_iconst g0 dX11_lays_22 ?_
    obtain ⟨r_2, s_2, hr_2, h⟩ := bd_some h
    refine r_cVI g0 (rest := []) (c_X11_notes ho (B01.inR B01_0) hr_2) ok_X11_notes mX11_65 (recv_Mo ho) dX11_lays_23 ⟨Nat.le_of_ble_eq_true rfl, Nat.le_of_ble_eq_true rfl⟩ ⟨Nat.zero_le _, Nat.zero_le _⟩ rfl (Nat.le_of_ble_eq_true rfl) rfl (fun i_r_2 => ?_)
    refine r_if_ne g0 36 dX11_lays_26 (by decide) i_r_2 (fun hc => ?_) (fun hc => ?_)
    · replace h := if_f hc h
      refine r_aload_n g0 dX11_lays_36 rfl ?_
      refine r_iload_n g0 dX11_lays_37 rfl ?_
      obtain ⟨r_3, s_3, hr_3, h⟩ := bd_some h
      refine r_cVI g0 (rest := []) (c_X11_bestOf ho i_p1 hr_3) ok_X11_bestOf mX11_271 (recv_Mo ho) dX11_lays_38 ⟨Nat.le_of_ble_eq_true rfl, Nat.le_of_ble_eq_true rfl⟩ ⟨Nat.zero_le _, Nat.zero_le _⟩ rfl (Nat.le_of_ble_eq_true rfl) rfl (fun i_r_3 => ?_)
      refine r_istore_n g0 (lv' := [some (.ref (E.1 o)), some (.int (J p1)), some (.int (J r_3)), none, none]) dX11_lays_41 (by decide) rfl rfl ?_
      refine r_aload_n g0 dX11_lays_42 rfl ?_
      obtain ⟨r_4, s_4, hr_4, h⟩ := bd_some h
      refine r_cVV g0 (rest := []) (c_X11_keep ho hr_4) ok_X11_keep mX11_100 (recv_Mo ho) dX11_lays_43 ⟨Nat.le_of_ble_eq_true rfl, Nat.le_of_ble_eq_true rfl⟩ ⟨Nat.zero_le _, Nat.zero_le _⟩ rfl (Nat.le_of_ble_eq_true rfl) rfl ?_
      refine r_aload_n g0 dX11_lays_46 rfl ?_
      refine g_Mo_all g0 ho qX11_7 dX11_lays_47 ?_
      refine r_bipush g0 dX11_lays_50 rfl ?_
      refine r_iconst g0 dX11_lays_52 ?_
      obtain ⟨hb, h⟩ := gd_some h
      refine r_iastore g0 (is_a_Mo_all ho) (n := 145) rfl (InR_lit rfl) hb dX11_lays_53 ?_
      refine r_iconst g0 dX11_lays_54 ?_
      refine r_istore_n g0 (lv' := [some (.ref (E.1 o)), some (.int (J p1)), some (.int (J r_3)), some (.int (J 0)), none]) dX11_lays_55 (by decide) rfl rfl ?_
      refine t_X11_lays_L56 g ho i_p1 i_r_3 ?_ FU 0 (wt s_4 (a_Mo_all o) 84 0) (B01.inR B01_0) h
      · intro s_5 h
        refine r_aload_n g0 dX11_lays_121 rfl ?_
        refine g_Mo_all g0 ho qX11_7 dX11_lays_122 ?_
        refine r_bipush g0 dX11_lays_125 rfl ?_
        obtain ⟨hb, h⟩ := gd_some h
        refine r_iaload g0 (is_a_Mo_all ho) (n := 145) rfl (InR_lit rfl) hb dX11_lays_127 ?_
        exact z_I g dX11_lays_128 (InR_rd _ _ _) h
    · replace h := if_t hc h
      refine r_aload_n g0 dX11_lays_29 rfl ?_
      refine r_bipush g0 dX11_lays_30 rfl ?_
      obtain ⟨r_8, s_12, hr_8, h⟩ := bd_some h
      refine r_cVI g0 (rest := []) (c_X11_refuses ho (InR_lit rfl) hr_8) ok_X11_refuses mX11_97 (recv_Mo ho) dX11_lays_32 ⟨Nat.le_of_ble_eq_true rfl, Nat.le_of_ble_eq_true rfl⟩ ⟨Nat.zero_le _, Nat.zero_le _⟩ rfl (Nat.le_of_ble_eq_true rfl) rfl (fun i_r_8 => ?_)
      exact z_I g dX11_lays_35 i_r_8 h
  · replace h := if_t hc h
    refine r_aload_n g0 dX11_lays_14 rfl ?_
    refine r_bipush g0 dX11_lays_15 rfl ?_
    obtain ⟨r_9, s_13, hr_9, h⟩ := bd_some h
    refine r_cVI g0 (rest := []) (c_X11_refuses ho (InR_lit rfl) hr_9) ok_X11_refuses mX11_97 (recv_Mo ho) dX11_lays_17 ⟨Nat.le_of_ble_eq_true rfl, Nat.le_of_ble_eq_true rfl⟩ ⟨Nat.zero_le _, Nat.zero_le _⟩ rfl (Nat.le_of_ble_eq_true rfl) rfl (fun i_r_9 => ?_)
    exact z_I g dX11_lays_20 i_r_9 h
theorem dX11_isKey_0 : decode cX11_isKey 0 = .ok (.iload_n 0, 1) := by decide +kernel
theorem dX11_isKey_1 : decode cX11_isKey 1 = .ok (.i2l, 1) := by decide +kernel
theorem dX11_isKey_2 : decode cX11_isKey 2 = .ok (.lconst 0, 1) := by decide +kernel
theorem dX11_isKey_3 : decode cX11_isKey 3 = .ok (.ldc2_w 135, 3) := by decide +kernel
theorem dX11_isKey_6 : decode cX11_isKey 6 = .ok (.invokestatic 61, 3) := by decide +kernel
theorem dX11_isKey_9 : decode cX11_isKey 9 = .ok (.ireturn, 1) := by decide +kernel
set_option maxHeartbeats 4000000 in
set_option maxRecDepth 100000 in
theorem c_X11_isKey {E : u_E} {l : Launch} {p1 : Int} (i_p1 : InR p1) {s s' : u_S} {r : Int} (h : f_X11_isKey p1 s = some (r, s')) : Con l (XE E) yX11_isKey cX11_isKey 1 (some .boolean) 1 25 0 0 [.int (J p1)] (Wd E s) (RZ E r s') := by
  refine Con.of [some (.int (J p1))] (by decide +kernel) rfl rfl (Nat.le_of_ble_eq_true rfl) (fun K g => ?_)
  have g0 := g.wk
  unfold f_X11_isKey at h
  refine r_iload_n g0 dX11_isKey_0 rfl ?_
  refine r_i2l g0 dX11_isKey_1 i_p1 ?_
  refine r_lconst g0 (v := 0) dX11_isKey_2 rfl ?_
  refine r_ldc2 g0 (v := 23) dX11_isKey_3 kX11_135 ?_
  obtain ⟨r_1, s_1, hr_1, h⟩ := bd_some h
  refine r_cSZ g0 (rest := []) (c_X11_in (InL_i i_p1) (InL_lit rfl) (InL_lit rfl) hr_1) ok_X11_in mX11_61 dX11_isKey_6 ⟨Nat.le_of_ble_eq_true rfl, Nat.le_of_ble_eq_true rfl⟩ ⟨Nat.zero_le _, Nat.zero_le _⟩ rfl (Nat.le_of_ble_eq_true rfl) rfl (fun i_r_1 => ?_)
  exact z_Z g dX11_isKey_9 i_r_1 h
theorem dX11_road_0 : decode cX11_road 0 = .ok (.iload_n 0, 1) := by decide +kernel
theorem dX11_road_1 : decode cX11_road 1 = .ok (.iload_n 1, 1) := by decide +kernel
theorem dX11_road_2 : decode cX11_road 2 = .ok (.if_icmp .ge 7, 3) := by decide +kernel
theorem dX11_road_5 : decode cX11_road 5 = .ok (.iload_n 0, 1) := by decide +kernel
theorem dX11_road_6 : decode cX11_road 6 = .ok (.goto 4, 3) := by decide +kernel
theorem dX11_road_9 : decode cX11_road 9 = .ok (.iload_n 1, 1) := by decide +kernel
theorem dX11_road_10 : decode cX11_road 10 = .ok (.istore_n 2, 1) := by decide +kernel
theorem dX11_road_11 : decode cX11_road 11 = .ok (.iload_n 0, 1) := by decide +kernel
theorem dX11_road_12 : decode cX11_road 12 = .ok (.iload_n 1, 1) := by decide +kernel
theorem dX11_road_13 : decode cX11_road 13 = .ok (.if_icmp .ge 7, 3) := by decide +kernel
theorem dX11_road_16 : decode cX11_road 16 = .ok (.iload_n 1, 1) := by decide +kernel
theorem dX11_road_17 : decode cX11_road 17 = .ok (.goto 4, 3) := by decide +kernel
theorem dX11_road_20 : decode cX11_road 20 = .ok (.iload_n 0, 1) := by decide +kernel
theorem dX11_road_21 : decode cX11_road 21 = .ok (.istore_n 3, 1) := by decide +kernel
theorem dX11_road_22 : decode cX11_road 22 = .ok (.iload_n 2, 1) := by decide +kernel
theorem dX11_road_23 : decode cX11_road 23 = .ok (.bipush 12, 2) := by decide +kernel
theorem dX11_road_25 : decode cX11_road 25 = .ok (.idiv, 1) := by decide +kernel
theorem dX11_road_26 : decode cX11_road 26 = .ok (.iload_n 3, 1) := by decide +kernel
theorem dX11_road_27 : decode cX11_road 27 = .ok (.bipush 12, 2) := by decide +kernel
theorem dX11_road_29 : decode cX11_road 29 = .ok (.idiv, 1) := by decide +kernel
theorem dX11_road_30 : decode cX11_road 30 = .ok (.if_icmp .ne 7, 3) := by decide +kernel
theorem dX11_road_33 : decode cX11_road 33 = .ok (.iconst 1, 1) := by decide +kernel
theorem dX11_road_34 : decode cX11_road 34 = .ok (.goto 4, 3) := by decide +kernel
theorem dX11_road_37 : decode cX11_road 37 = .ok (.iconst 0, 1) := by decide +kernel
theorem dX11_road_38 : decode cX11_road 38 = .ok (.istore 4, 2) := by decide +kernel
theorem dX11_road_40 : decode cX11_road 40 = .ok (.iload 4, 2) := by decide +kernel
theorem dX11_road_42 : decode cX11_road 42 = .ok (.ifCond .eq 24, 3) := by decide +kernel
theorem dX11_road_45 : decode cX11_road 45 = .ok (.iload_n 3, 1) := by decide +kernel
theorem dX11_road_46 : decode cX11_road 46 = .ok (.iload_n 2, 1) := by decide +kernel
theorem dX11_road_47 : decode cX11_road 47 = .ok (.isub, 1) := by decide +kernel
theorem dX11_road_48 : decode cX11_road 48 = .ok (.iconst 1, 1) := by decide +kernel
theorem dX11_road_49 : decode cX11_road 49 = .ok (.if_icmp .eq 11, 3) := by decide +kernel
theorem dX11_road_52 : decode cX11_road 52 = .ok (.iload_n 3, 1) := by decide +kernel
theorem dX11_road_53 : decode cX11_road 53 = .ok (.iload_n 2, 1) := by decide +kernel
theorem dX11_road_54 : decode cX11_road 54 = .ok (.isub, 1) := by decide +kernel
theorem dX11_road_55 : decode cX11_road 55 = .ok (.bipush 11, 2) := by decide +kernel
theorem dX11_road_57 : decode cX11_road 57 = .ok (.if_icmp .ne 7, 3) := by decide +kernel
theorem dX11_road_60 : decode cX11_road 60 = .ok (.iconst 1, 1) := by decide +kernel
theorem dX11_road_61 : decode cX11_road 61 = .ok (.goto 4, 3) := by decide +kernel
theorem dX11_road_64 : decode cX11_road 64 = .ok (.iconst (-1), 1) := by decide +kernel
theorem dX11_road_65 : decode cX11_road 65 = .ok (.ireturn, 1) := by decide +kernel
theorem dX11_road_66 : decode cX11_road 66 = .ok (.iload_n 3, 1) := by decide +kernel
theorem dX11_road_67 : decode cX11_road 67 = .ok (.bipush 12, 2) := by decide +kernel
theorem dX11_road_69 : decode cX11_road 69 = .ok (.isub, 1) := by decide +kernel
theorem dX11_road_70 : decode cX11_road 70 = .ok (.iload_n 2, 1) := by decide +kernel
theorem dX11_road_71 : decode cX11_road 71 = .ok (.if_icmp .ne 7, 3) := by decide +kernel
theorem dX11_road_74 : decode cX11_road 74 = .ok (.iconst 1, 1) := by decide +kernel
theorem dX11_road_75 : decode cX11_road 75 = .ok (.goto 22, 3) := by decide +kernel
theorem dX11_road_78 : decode cX11_road 78 = .ok (.iload_n 3, 1) := by decide +kernel
theorem dX11_road_79 : decode cX11_road 79 = .ok (.bipush 12, 2) := by decide +kernel
theorem dX11_road_81 : decode cX11_road 81 = .ok (.isub, 1) := by decide +kernel
theorem dX11_road_82 : decode cX11_road 82 = .ok (.iload_n 2, 1) := by decide +kernel
theorem dX11_road_83 : decode cX11_road 83 = .ok (.bipush 9, 2) := by decide +kernel
theorem dX11_road_85 : decode cX11_road 85 = .ok (.iadd, 1) := by decide +kernel
theorem dX11_road_86 : decode cX11_road 86 = .ok (.bipush 12, 2) := by decide +kernel
theorem dX11_road_88 : decode cX11_road 88 = .ok (.irem, 1) := by decide +kernel
theorem dX11_road_89 : decode cX11_road 89 = .ok (.if_icmp .ne 7, 3) := by decide +kernel
theorem dX11_road_92 : decode cX11_road 92 = .ok (.iconst 2, 1) := by decide +kernel
theorem dX11_road_93 : decode cX11_road 93 = .ok (.goto 4, 3) := by decide +kernel
theorem dX11_road_96 : decode cX11_road 96 = .ok (.iconst (-1), 1) := by decide +kernel
theorem dX11_road_97 : decode cX11_road 97 = .ok (.ireturn, 1) := by decide +kernel
set_option maxHeartbeats 4000000 in
set_option maxRecDepth 100000 in
theorem c_X11_road {E : u_E} {l : Launch} {p1 : Int} {p2 : Int} (i_p1 : InR p1) (i_p2 : InR p2) {s s' : u_S} {r : Int} (h : f_X11_road p1 p2 s = some (r, s')) : Con l (XE E) yX11_road cX11_road 5 (some .int) 0 0 0 0 [.int (J p1), .int (J p2)] (Wd E s) (RI E r s') := by
  refine Con.of [some (.int (J p1)), some (.int (J p2)), none, none, none] (by decide +kernel) rfl rfl (Nat.le_of_ble_eq_true rfl) (fun K g => ?_)
  have g0 := g.wk
  unfold f_X11_road at h
  refine r_iload_n g0 dX11_road_0 rfl ?_
  refine r_iload_n g0 dX11_road_1 rfl ?_
  obtain ⟨jp_1, hdjp_1, h⟩ := jn_some h
  have hjp_1 : ∀ (vt_1 : Int) (s_1 : u_S), InR vt_1 → jp_1 vt_1 s_1 = some (r, s') → K 0 0 10 [some (.int (J p1)), some (.int (J p2)), none, none, none] [.int (J vt_1)] (Wd E s_1) := by
    intro vt_1 s_1 i_vt_1 h
    subst hdjp_1
    refine r_istore_n g0 (lv' := [some (.int (J p1)), some (.int (J p2)), some (.int (J vt_1)), none, none]) dX11_road_10 (by decide) rfl rfl ?_
    refine r_iload_n g0 dX11_road_11 rfl ?_
    refine r_iload_n g0 dX11_road_12 rfl ?_
    obtain ⟨jp_2, hdjp_2, h⟩ := jn_some h
    have hjp_2 : ∀ (vt_2 : Int) (s_2 : u_S), InR vt_2 → jp_2 vt_2 s_2 = some (r, s') → K 0 0 21 [none, none, some (.int (J vt_1)), none, none] [.int (J vt_2)] (Wd E s_2) := by
      intro vt_2 s_2 i_vt_2 h
      subst hdjp_2
      refine r_istore_n g0 (lv' := [none, none, some (.int (J vt_1)), some (.int (J vt_2)), none]) dX11_road_21 (by decide) rfl rfl ?_
      refine r_iload_n g0 dX11_road_22 rfl ?_
      refine r_bipush g0 dX11_road_23 rfl ?_
      refine r_idiv g0 dX11_road_25 i_vt_1 (InR_lit rfl) (by decide) ?_
      refine r_iload_n g0 dX11_road_26 rfl ?_
      refine r_bipush g0 dX11_road_27 rfl ?_
      refine r_idiv g0 dX11_road_29 i_vt_2 (InR_lit rfl) (by decide) ?_
      obtain ⟨jp_3, hdjp_3, h⟩ := jn_some h
      have hjp_3 : ∀ (vt_3 : Int) (s_3 : u_S), B01 vt_3 → jp_3 vt_3 s_3 = some (r, s') → K 0 0 38 [none, none, some (.int (J vt_1)), some (.int (J vt_2)), none] [.int (J vt_3)] (Wd E s_3) := by
        intro vt_3 s_3 i_vt_3 h
        subst hdjp_3
        refine r_istore g0 (lv' := [none, none, some (.int (J vt_1)), some (.int (J vt_2)), some (.int (J vt_3))]) dX11_road_38 (by decide) rfl rfl ?_
        refine r_iload g0 dX11_road_40 rfl ?_
        refine r_if_eq g0 66 dX11_road_42 (by decide) (B01.inR i_vt_3) (fun hc => ?_) (fun hc => ?_)
        · replace h := if_t hc h
          refine r_iload_n g0 dX11_road_66 rfl ?_
          refine r_bipush g0 dX11_road_67 rfl ?_
          refine r_isub g0 dX11_road_69 ?_
          refine r_iload_n g0 dX11_road_70 rfl ?_
          refine r_icmp_ne g0 78 dX11_road_71 (by decide) (InR_wr _) i_vt_1 (fun hc => ?_) (fun hc => ?_)
          · replace h := if_f hc h
            refine r_iload_n g0 dX11_road_78 rfl ?_
            refine r_bipush g0 dX11_road_79 rfl ?_
            refine r_isub g0 dX11_road_81 ?_
            refine r_iload_n g0 dX11_road_82 rfl ?_
            refine r_bipush g0 dX11_road_83 rfl ?_
            refine r_iadd g0 dX11_road_85 ?_
            refine r_bipush g0 dX11_road_86 rfl ?_
            refine r_irem g0 dX11_road_88 (InR_wr _) (InR_lit rfl) (by decide) ?_
            refine r_icmp_ne g0 96 dX11_road_89 (by decide) (InR_wr _) (InR_rem _ (InR_wr _)) (fun hc => ?_) (fun hc => ?_)
            · replace h := if_f hc h
              refine r_iconst g0 dX11_road_96 ?_
              exact z_I g dX11_road_97 (InR_lit rfl) h
            · replace h := if_t hc h
              refine r_iconst g0 dX11_road_92 ?_
              refine r_goto g0 97 dX11_road_93 (by decide) ?_
              exact z_I g dX11_road_97 (InR_lit rfl) h
          · replace h := if_t hc h
            refine r_iconst g0 dX11_road_74 ?_
            refine r_goto g0 97 dX11_road_75 (by decide) ?_
            exact z_I g dX11_road_97 (B01.inR B01_1) h
        · replace h := if_f hc h
          refine r_iload_n g0 dX11_road_45 rfl ?_
          refine r_iload_n g0 dX11_road_46 rfl ?_
          refine r_isub g0 dX11_road_47 ?_
          refine r_iconst g0 dX11_road_48 ?_
          obtain ⟨jp_4, hdjp_4, h⟩ := jn_some h
          have hjp_4 : ∀  (s_4 : u_S), jp_4 s_4 = some (r, s') → K 0 0 60 [none, none, none, none, none] [] (Wd E s_4) := by
            intro s_4 h
            subst hdjp_4
            refine r_iconst g0 dX11_road_60 ?_
            refine r_goto g0 65 dX11_road_61 (by decide) ?_
            exact z_I g dX11_road_65 (B01.inR B01_1) h
          clear hdjp_4
          refine r_icmp_eq g0 60 dX11_road_49 (by decide) (InR_wr _) (B01.inR B01_1) (fun hc => ?_) (fun hc => ?_)
          · replace h := if_t hc h
            refine r_mask g0 (lv' := [none, none, none, none, none]) [false, false, false, false, false] rfl ?_
            exact hjp_4 s_3 h
          · replace h := if_f hc h
            refine r_iload_n g0 dX11_road_52 rfl ?_
            refine r_iload_n g0 dX11_road_53 rfl ?_
            refine r_isub g0 dX11_road_54 ?_
            refine r_bipush g0 dX11_road_55 rfl ?_
            refine r_icmp_ne g0 64 dX11_road_57 (by decide) (InR_wr _) (InR_lit rfl) (fun hc => ?_) (fun hc => ?_)
            · replace h := if_f hc h
              refine r_iconst g0 dX11_road_64 ?_
              exact z_I g dX11_road_65 (InR_lit rfl) h
            · replace h := if_t hc h
              refine r_mask g0 (lv' := [none, none, none, none, none]) [false, false, false, false, false] rfl ?_
              exact hjp_4 s_3 h
      clear hdjp_3
      refine r_icmp_ne g0 37 dX11_road_30 (by decide) (InR_wr _) (InR_wr _) (fun hc => ?_) (fun hc => ?_)
      · replace h := if_f hc h
        refine r_iconst g0 dX11_road_37 ?_
        exact hjp_3 0 s_2 B01_0 h
      · replace h := if_t hc h
        refine r_iconst g0 dX11_road_33 ?_
        refine r_goto g0 38 dX11_road_34 (by decide) ?_
        exact hjp_3 1 s_2 B01_1 h
    clear hdjp_2
    refine r_icmp_ge g0 20 dX11_road_13 (by decide) i_p1 i_p2 (fun hc => ?_) (fun hc => ?_)
    · replace h := if_f hc h
      refine r_iload_n g0 dX11_road_20 rfl ?_
      refine r_mask g0 (lv' := [none, none, some (.int (J vt_1)), none, none]) [false, false, true, false, false] rfl ?_
      exact hjp_2 p1 s_1 i_p1 h
    · replace h := if_t hc h
      refine r_iload_n g0 dX11_road_16 rfl ?_
      refine r_goto g0 21 dX11_road_17 (by decide) ?_
      refine r_mask g0 (lv' := [none, none, some (.int (J vt_1)), none, none]) [false, false, true, false, false] rfl ?_
      exact hjp_2 p2 s_1 i_p2 h
  clear hdjp_1
  refine r_icmp_ge g0 9 dX11_road_2 (by decide) i_p1 i_p2 (fun hc => ?_) (fun hc => ?_)
  · replace h := if_f hc h
    refine r_iload_n g0 dX11_road_9 rfl ?_
    exact hjp_1 p2 s i_p2 h
  · replace h := if_t hc h
    refine r_iload_n g0 dX11_road_5 rfl ?_
    refine r_goto g0 10 dX11_road_6 (by decide) ?_
    exact hjp_1 p1 s i_p1 h
theorem dX11_laysWays_0 : decode cX11_laysWays 0 = .ok (.iconst 1, 1) := by decide +kernel
theorem dX11_laysWays_1 : decode cX11_laysWays 1 = .ok (.istore_n 2, 1) := by decide +kernel
theorem dX11_laysWays_2 : decode cX11_laysWays 2 = .ok (.iconst 0, 1) := by decide +kernel
theorem dX11_laysWays_3 : decode cX11_laysWays 3 = .ok (.istore_n 3, 1) := by decide +kernel
theorem dX11_laysWays_4 : decode cX11_laysWays 4 = .ok (.iload_n 3, 1) := by decide +kernel
theorem dX11_laysWays_5 : decode cX11_laysWays 5 = .ok (.bipush 24, 2) := by decide +kernel
theorem dX11_laysWays_7 : decode cX11_laysWays 7 = .ok (.if_icmp .ge 27, 3) := by decide +kernel
theorem dX11_laysWays_10 : decode cX11_laysWays 10 = .ok (.aload_n 0, 1) := by decide +kernel
theorem dX11_laysWays_11 : decode cX11_laysWays 11 = .ok (.getfield 37, 3) := by decide +kernel
theorem dX11_laysWays_14 : decode cX11_laysWays 14 = .ok (.iload_n 3, 1) := by decide +kernel
theorem dX11_laysWays_15 : decode cX11_laysWays 15 = .ok (.iload_n 3, 1) := by decide +kernel
theorem dX11_laysWays_16 : decode cX11_laysWays 16 = .ok (.iload_n 1, 1) := by decide +kernel
theorem dX11_laysWays_17 : decode cX11_laysWays 17 = .ok (.if_icmp .ne 7, 3) := by decide +kernel
theorem dX11_laysWays_20 : decode cX11_laysWays 20 = .ok (.iconst 0, 1) := by decide +kernel
theorem dX11_laysWays_21 : decode cX11_laysWays 21 = .ok (.goto 6, 3) := by decide +kernel
theorem dX11_laysWays_24 : decode cX11_laysWays 24 = .ok (.sipush 999, 3) := by decide +kernel
theorem dX11_laysWays_27 : decode cX11_laysWays 27 = .ok (.iastore, 1) := by decide +kernel
theorem dX11_laysWays_28 : decode cX11_laysWays 28 = .ok (.iinc 3 1, 3) := by decide +kernel
theorem dX11_laysWays_31 : decode cX11_laysWays 31 = .ok (.goto (-27), 3) := by decide +kernel
theorem dX11_laysWays_34 : decode cX11_laysWays 34 = .ok (.iload_n 2, 1) := by decide +kernel
theorem dX11_laysWays_35 : decode cX11_laysWays 35 = .ok (.ifCond .eq 89, 3) := by decide +kernel
theorem dX11_laysWays_38 : decode cX11_laysWays 38 = .ok (.iconst 0, 1) := by decide +kernel
theorem dX11_laysWays_39 : decode cX11_laysWays 39 = .ok (.istore_n 2, 1) := by decide +kernel
theorem dX11_laysWays_40 : decode cX11_laysWays 40 = .ok (.iconst 0, 1) := by decide +kernel
theorem dX11_laysWays_41 : decode cX11_laysWays 41 = .ok (.istore_n 3, 1) := by decide +kernel
theorem dX11_laysWays_42 : decode cX11_laysWays 42 = .ok (.iload_n 3, 1) := by decide +kernel
theorem dX11_laysWays_43 : decode cX11_laysWays 43 = .ok (.bipush 24, 2) := by decide +kernel
theorem dX11_laysWays_45 : decode cX11_laysWays 45 = .ok (.if_icmp .ge 76, 3) := by decide +kernel
theorem dX11_laysWays_48 : decode cX11_laysWays 48 = .ok (.iconst 0, 1) := by decide +kernel
theorem dX11_laysWays_49 : decode cX11_laysWays 49 = .ok (.istore 4, 2) := by decide +kernel
theorem dX11_laysWays_51 : decode cX11_laysWays 51 = .ok (.iload 4, 2) := by decide +kernel
theorem dX11_laysWays_53 : decode cX11_laysWays 53 = .ok (.bipush 24, 2) := by decide +kernel
theorem dX11_laysWays_55 : decode cX11_laysWays 55 = .ok (.if_icmp .ge 60, 3) := by decide +kernel
theorem dX11_laysWays_58 : decode cX11_laysWays 58 = .ok (.iload_n 3, 1) := by decide +kernel
theorem dX11_laysWays_59 : decode cX11_laysWays 59 = .ok (.iload 4, 2) := by decide +kernel
theorem dX11_laysWays_61 : decode cX11_laysWays 61 = .ok (.invokestatic 274, 3) := by decide +kernel
theorem dX11_laysWays_64 : decode cX11_laysWays 64 = .ok (.istore 5, 2) := by decide +kernel
theorem dX11_laysWays_66 : decode cX11_laysWays 66 = .ok (.iload 5, 2) := by decide +kernel
theorem dX11_laysWays_68 : decode cX11_laysWays 68 = .ok (.iconst (-1), 1) := by decide +kernel
theorem dX11_laysWays_69 : decode cX11_laysWays 69 = .ok (.if_icmp .eq 40, 3) := by decide +kernel
theorem dX11_laysWays_72 : decode cX11_laysWays 72 = .ok (.iload 5, 2) := by decide +kernel
theorem dX11_laysWays_74 : decode cX11_laysWays 74 = .ok (.aload_n 0, 1) := by decide +kernel
theorem dX11_laysWays_75 : decode cX11_laysWays 75 = .ok (.getfield 37, 3) := by decide +kernel
theorem dX11_laysWays_78 : decode cX11_laysWays 78 = .ok (.iload 4, 2) := by decide +kernel
theorem dX11_laysWays_80 : decode cX11_laysWays 80 = .ok (.iaload, 1) := by decide +kernel
theorem dX11_laysWays_81 : decode cX11_laysWays 81 = .ok (.iadd, 1) := by decide +kernel
theorem dX11_laysWays_82 : decode cX11_laysWays 82 = .ok (.aload_n 0, 1) := by decide +kernel
theorem dX11_laysWays_83 : decode cX11_laysWays 83 = .ok (.getfield 37, 3) := by decide +kernel
theorem dX11_laysWays_86 : decode cX11_laysWays 86 = .ok (.iload_n 3, 1) := by decide +kernel
theorem dX11_laysWays_87 : decode cX11_laysWays 87 = .ok (.iaload, 1) := by decide +kernel
theorem dX11_laysWays_88 : decode cX11_laysWays 88 = .ok (.if_icmp .ge 21, 3) := by decide +kernel
theorem dX11_laysWays_91 : decode cX11_laysWays 91 = .ok (.aload_n 0, 1) := by decide +kernel
theorem dX11_laysWays_92 : decode cX11_laysWays 92 = .ok (.getfield 37, 3) := by decide +kernel
theorem dX11_laysWays_95 : decode cX11_laysWays 95 = .ok (.iload_n 3, 1) := by decide +kernel
theorem dX11_laysWays_96 : decode cX11_laysWays 96 = .ok (.iload 5, 2) := by decide +kernel
theorem dX11_laysWays_98 : decode cX11_laysWays 98 = .ok (.aload_n 0, 1) := by decide +kernel
theorem dX11_laysWays_99 : decode cX11_laysWays 99 = .ok (.getfield 37, 3) := by decide +kernel
theorem dX11_laysWays_102 : decode cX11_laysWays 102 = .ok (.iload 4, 2) := by decide +kernel
theorem dX11_laysWays_104 : decode cX11_laysWays 104 = .ok (.iaload, 1) := by decide +kernel
theorem dX11_laysWays_105 : decode cX11_laysWays 105 = .ok (.iadd, 1) := by decide +kernel
theorem dX11_laysWays_106 : decode cX11_laysWays 106 = .ok (.iastore, 1) := by decide +kernel
theorem dX11_laysWays_107 : decode cX11_laysWays 107 = .ok (.iconst 1, 1) := by decide +kernel
theorem dX11_laysWays_108 : decode cX11_laysWays 108 = .ok (.istore_n 2, 1) := by decide +kernel
theorem dX11_laysWays_109 : decode cX11_laysWays 109 = .ok (.iinc 4 1, 3) := by decide +kernel
theorem dX11_laysWays_112 : decode cX11_laysWays 112 = .ok (.goto (-61), 3) := by decide +kernel
theorem dX11_laysWays_115 : decode cX11_laysWays 115 = .ok (.iinc 3 1, 3) := by decide +kernel
theorem dX11_laysWays_118 : decode cX11_laysWays 118 = .ok (.goto (-76), 3) := by decide +kernel
theorem dX11_laysWays_121 : decode cX11_laysWays 121 = .ok (.goto (-87), 3) := by decide +kernel
theorem dX11_laysWays_124 : decode cX11_laysWays 124 = .ok (.return_, 1) := by decide +kernel
set_option maxHeartbeats 4000000 in
set_option maxRecDepth 100000 in
theorem t_X11_laysWays_L51 {l : Launch} {E : u_E} {K : u_K} {r : Int} {s' : u_S} (g : Wk l (XE E) { frames := 1, cells := 0, slots := 0, locals := 24 } cX11_laysWays 6 yX11_laysWays.cls yX11_laysWays.name none (RV E r s') K) {v0_3 : u_O} {v3_2 : Int} (i_v0_3 : is_Mo v0_3) (i_v3_2 : InR v3_2) {kx115 : Int → u_S → Option (Int × u_S)} (hkx115 : ∀ (v2_7 : Int) (s_10 : u_S), B01 v2_7 → kx115 v2_7 s_10 = some (r, s') → K 0 0 115 [some (.ref (E.1 v0_3)), none, some (.int (J v2_7)), some (.int (J v3_2)), none, none] [] (Wd E s_10)) : ∀ (m : Nat) (v2_5 : Int) (v4_1 : Int) (s_7 : u_S), B01 v2_5 → InR v4_1 → f_X11_laysWays_L51 m kx115 v0_3 v3_2 v2_5 v4_1 s_7 = some (r, s') → K 0 0 51 [some (.ref (E.1 v0_3)), none, some (.int (J v2_5)), some (.int (J v3_2)), some (.int (J v4_1)), none] [] (Wd E s_7) := by
  have g0 := g.wk
  intro m
  induction m with
  | zero =>
    intro v2_5 v4_1 s_7 i_v2_5 i_v4_1 h
    exact absurd (show (none : Option (Int × u_S)) = some (r, s') from h) (by intro z; cases z)
  | succ m ih =>
    intro v2_5 v4_1 s_7 i_v2_5 i_v4_1 h
    rw [f_X11_laysWays_L51] at h
    refine r_iload g0 dX11_laysWays_51 rfl ?_
    refine r_bipush g0 dX11_laysWays_53 rfl ?_
    refine r_icmp_ge g0 115 dX11_laysWays_55 (by decide) i_v4_1 (InR_lit rfl) (fun hc => ?_) (fun hc => ?_)
    · replace h := if_f hc h
      refine r_mask g0 (lv' := [some (.ref (E.1 v0_3)), none, some (.int (J v2_5)), some (.int (J v3_2)), none, none]) [true, false, true, true, false, false] rfl ?_
      exact hkx115 v2_5 s_7 i_v2_5 h
    · replace h := if_t hc h
      refine r_iload_n g0 dX11_laysWays_58 rfl ?_
      refine r_iload g0 dX11_laysWays_59 rfl ?_
      obtain ⟨r_1, s_8, hr_1, h⟩ := bd_some h
      refine r_cSI g0 (rest := []) (c_X11_road i_v3_2 i_v4_1 hr_1) ok_X11_road mX11_274 dX11_laysWays_61 ⟨Nat.le_of_ble_eq_true rfl, Nat.le_of_ble_eq_true rfl⟩ ⟨Nat.zero_le _, Nat.zero_le _⟩ rfl (Nat.le_of_ble_eq_true rfl) rfl (fun i_r_1 => ?_)
      refine r_istore g0 (lv' := [some (.ref (E.1 v0_3)), none, some (.int (J v2_5)), some (.int (J v3_2)), some (.int (J v4_1)), some (.int (J r_1))]) dX11_laysWays_64 (by decide) rfl rfl ?_
      refine r_iload g0 dX11_laysWays_66 rfl ?_
      refine r_iconst g0 dX11_laysWays_68 ?_
      obtain ⟨jp_1, hdjp_1, h⟩ := jn_some h
      have hjp_1 : ∀ (v2_6 : Int) (s_9 : u_S), B01 v2_6 → jp_1 v2_6 s_9 = some (r, s') → K 0 0 109 [some (.ref (E.1 v0_3)), none, some (.int (J v2_6)), some (.int (J v3_2)), some (.int (J v4_1)), none] [] (Wd E s_9) := by
        intro v2_6 s_9 i_v2_6 h
        subst hdjp_1
        refine r_iinc g0 (a := v4_1) (lv' := [some (.ref (E.1 v0_3)), none, some (.int (J v2_6)), some (.int (J v3_2)), some (.int (J (wr (v4_1 + 1)))), none]) dX11_laysWays_109 (by decide) rfl rfl rfl ?_
        refine r_goto g0 51 dX11_laysWays_112 (by decide) ?_
        exact ih v2_6 (wr (v4_1 + 1)) s_9 i_v2_6 (InR_wr _) h
      clear hdjp_1
      refine r_icmp_eq g0 109 dX11_laysWays_69 (by decide) i_r_1 (InR_lit rfl) (fun hc => ?_) (fun hc => ?_)
      · replace h := if_t hc h
        refine r_mask g0 (lv' := [some (.ref (E.1 v0_3)), none, some (.int (J v2_5)), some (.int (J v3_2)), some (.int (J v4_1)), none]) [true, false, true, true, true, false] rfl ?_
        exact hjp_1 v2_5 s_8 i_v2_5 h
      · replace h := if_f hc h
        refine r_iload g0 dX11_laysWays_72 rfl ?_
        refine r_aload_n g0 dX11_laysWays_74 rfl ?_
        refine g_Mo_far g0 i_v0_3 qX11_37 dX11_laysWays_75 ?_
        refine r_iload g0 dX11_laysWays_78 rfl ?_
        obtain ⟨hb, h⟩ := gd_some h
        refine r_iaload g0 (is_a_Mo_far i_v0_3) (n := 24) rfl i_v4_1 hb dX11_laysWays_80 ?_
        refine r_iadd g0 dX11_laysWays_81 ?_
        refine r_aload_n g0 dX11_laysWays_82 rfl ?_
        refine g_Mo_far g0 i_v0_3 qX11_37 dX11_laysWays_83 ?_
        refine r_iload_n g0 dX11_laysWays_86 rfl ?_
        obtain ⟨hb, h⟩ := gd_some h
        refine r_iaload g0 (is_a_Mo_far i_v0_3) (n := 24) rfl i_v3_2 hb dX11_laysWays_87 ?_
        refine r_icmp_ge g0 109 dX11_laysWays_88 (by decide) (InR_wr _) (InR_rd _ _ _) (fun hc => ?_) (fun hc => ?_)
        · replace h := if_f hc h
          refine r_mask g0 (lv' := [some (.ref (E.1 v0_3)), none, some (.int (J v2_5)), some (.int (J v3_2)), some (.int (J v4_1)), none]) [true, false, true, true, true, false] rfl ?_
          exact hjp_1 v2_5 s_8 i_v2_5 h
        · replace h := if_t hc h
          refine r_aload_n g0 dX11_laysWays_91 rfl ?_
          refine g_Mo_far g0 i_v0_3 qX11_37 dX11_laysWays_92 ?_
          refine r_iload_n g0 dX11_laysWays_95 rfl ?_
          refine r_iload g0 dX11_laysWays_96 rfl ?_
          refine r_aload_n g0 dX11_laysWays_98 rfl ?_
          refine g_Mo_far g0 i_v0_3 qX11_37 dX11_laysWays_99 ?_
          refine r_iload g0 dX11_laysWays_102 rfl ?_
          obtain ⟨hb, h⟩ := gd_some h
          refine r_iaload g0 (is_a_Mo_far i_v0_3) (n := 24) rfl i_v4_1 hb dX11_laysWays_104 ?_
          refine r_iadd g0 dX11_laysWays_105 ?_
          obtain ⟨hb, h⟩ := gd_some h
          refine r_iastore g0 (is_a_Mo_far i_v0_3) (n := 24) rfl i_v3_2 hb dX11_laysWays_106 ?_
          refine r_iconst g0 dX11_laysWays_107 ?_
          refine r_istore_n g0 (lv' := [some (.ref (E.1 v0_3)), none, some (.int (J 1)), some (.int (J v3_2)), some (.int (J v4_1)), some (.int (J r_1))]) dX11_laysWays_108 (by decide) rfl rfl ?_
          refine r_mask g0 (lv' := [some (.ref (E.1 v0_3)), none, some (.int (J 1)), some (.int (J v3_2)), some (.int (J v4_1)), none]) [true, false, true, true, true, false] rfl ?_
          exact hjp_1 1 (wt s_8 (a_Mo_far v0_3) v3_2 (wr (r_1 + (rd s_8 (a_Mo_far v0_3) v4_1)))) B01_1 h
set_option maxHeartbeats 4000000 in
set_option maxRecDepth 100000 in
theorem t_X11_laysWays_L42 {l : Launch} {E : u_E} {K : u_K} {r : Int} {s' : u_S} (g : Wk l (XE E) { frames := 1, cells := 0, slots := 0, locals := 24 } cX11_laysWays 6 yX11_laysWays.cls yX11_laysWays.name none (RV E r s') K) {v0_2 : u_O} (i_v0_2 : is_Mo v0_2) {kx121 : Int → u_S → Option (Int × u_S)} (hkx121 : ∀ (v2_8 : Int) (s_11 : u_S), B01 v2_8 → kx121 v2_8 s_11 = some (r, s') → K 0 0 121 [some (.ref (E.1 v0_2)), none, some (.int (J v2_8)), none, none, none] [] (Wd E s_11)) : ∀ (m : Nat) (v2_3 : Int) (v3_1 : Int) (s_5 : u_S), B01 v2_3 → InR v3_1 → f_X11_laysWays_L42 m kx121 v0_2 v2_3 v3_1 s_5 = some (r, s') → K 0 0 42 [some (.ref (E.1 v0_2)), none, some (.int (J v2_3)), some (.int (J v3_1)), none, none] [] (Wd E s_5) := by
  have g0 := g.wk
  intro m
  induction m with
  | zero =>
    intro v2_3 v3_1 s_5 i_v2_3 i_v3_1 h
    exact absurd (show (none : Option (Int × u_S)) = some (r, s') from h) (by intro z; cases z)
  | succ m ih =>
    intro v2_3 v3_1 s_5 i_v2_3 i_v3_1 h
    rw [f_X11_laysWays_L42] at h
    refine r_iload_n g0 dX11_laysWays_42 rfl ?_
    refine r_bipush g0 dX11_laysWays_43 rfl ?_
    refine r_icmp_ge g0 121 dX11_laysWays_45 (by decide) i_v3_1 (InR_lit rfl) (fun hc => ?_) (fun hc => ?_)
    · replace h := if_f hc h
      refine r_mask g0 (lv' := [some (.ref (E.1 v0_2)), none, some (.int (J v2_3)), none, none, none]) [true, false, true, false, false, false] rfl ?_
      exact hkx121 v2_3 s_5 i_v2_3 h
    · replace h := if_t hc h
      refine r_iconst g0 dX11_laysWays_48 ?_
      refine r_istore g0 (lv' := [some (.ref (E.1 v0_2)), none, some (.int (J v2_3)), some (.int (J v3_1)), some (.int (J 0)), none]) dX11_laysWays_49 (by decide) rfl rfl ?_
      refine t_X11_laysWays_L51 g i_v0_2 i_v3_1 ?_ FU v2_3 0 s_5 i_v2_3 (B01.inR B01_0) h
      · intro v2_4 s_6 i_v2_4 h
        refine r_iinc g0 (a := v3_1) (lv' := [some (.ref (E.1 v0_2)), none, some (.int (J v2_4)), some (.int (J (wr (v3_1 + 1)))), none, none]) dX11_laysWays_115 (by decide) rfl rfl rfl ?_
        refine r_goto g0 42 dX11_laysWays_118 (by decide) ?_
        exact ih v2_4 (wr (v3_1 + 1)) s_6 i_v2_4 (InR_wr _) h
set_option maxHeartbeats 4000000 in
set_option maxRecDepth 100000 in
theorem t_X11_laysWays_L34 {l : Launch} {E : u_E} {K : u_K} {r : Int} {s' : u_S} (g : Wk l (XE E) { frames := 1, cells := 0, slots := 0, locals := 24 } cX11_laysWays 6 yX11_laysWays.cls yX11_laysWays.name none (RV E r s') K) {v0_1 : u_O} (i_v0_1 : is_Mo v0_1) {kx124 : u_S → Option (Int × u_S)} (hkx124 : ∀ (s_12 : u_S), kx124 s_12 = some (r, s') → K 0 0 124 [none, none, none, none, none, none] [] (Wd E s_12)) : ∀ (m : Nat) (v2_1 : Int) (s_3 : u_S), B01 v2_1 → f_X11_laysWays_L34 m kx124 v0_1 v2_1 s_3 = some (r, s') → K 0 0 34 [some (.ref (E.1 v0_1)), none, some (.int (J v2_1)), none, none, none] [] (Wd E s_3) := by
  have g0 := g.wk
  intro m
  induction m with
  | zero =>
    intro v2_1 s_3 i_v2_1 h
    exact absurd (show (none : Option (Int × u_S)) = some (r, s') from h) (by intro z; cases z)
  | succ m ih =>
    intro v2_1 s_3 i_v2_1 h
    rw [f_X11_laysWays_L34] at h
    refine r_iload_n g0 dX11_laysWays_34 rfl ?_
    refine r_if_eq g0 124 dX11_laysWays_35 (by decide) (B01.inR i_v2_1) (fun hc => ?_) (fun hc => ?_)
    · replace h := if_t hc h
      refine r_mask g0 (lv' := [none, none, none, none, none, none]) [false, false, false, false, false, false] rfl ?_
      exact hkx124 s_3 h
    · replace h := if_f hc h
      refine r_iconst g0 dX11_laysWays_38 ?_
      refine r_istore_n g0 (lv' := [some (.ref (E.1 v0_1)), none, some (.int (J 0)), none, none, none]) dX11_laysWays_39 (by decide) rfl rfl ?_
      refine r_iconst g0 dX11_laysWays_40 ?_
      refine r_istore_n g0 (lv' := [some (.ref (E.1 v0_1)), none, some (.int (J 0)), some (.int (J 0)), none, none]) dX11_laysWays_41 (by decide) rfl rfl ?_
      refine t_X11_laysWays_L42 g i_v0_1 ?_ FU 0 0 s_3 B01_0 (B01.inR B01_0) h
      · intro v2_2 s_4 i_v2_2 h
        refine r_goto g0 34 dX11_laysWays_121 (by decide) ?_
        exact ih v2_2 s_4 i_v2_2 h
set_option maxHeartbeats 4000000 in
set_option maxRecDepth 100000 in
theorem t_X11_laysWays_L4 {l : Launch} {E : u_E} {K : u_K} {r : Int} {s' : u_S} (g : Wk l (XE E) { frames := 1, cells := 0, slots := 0, locals := 24 } cX11_laysWays 6 yX11_laysWays.cls yX11_laysWays.name none (RV E r s') K) {v0_4 : u_O} {v1_1 : Int} {v2_9 : Int} (i_v0_4 : is_Mo v0_4) (i_v1_1 : InR v1_1) (i_v2_9 : B01 v2_9) {kx34 : u_S → Option (Int × u_S)} (hkx34 : ∀ (s_15 : u_S), kx34 s_15 = some (r, s') → K 0 0 34 [some (.ref (E.1 v0_4)), none, some (.int (J v2_9)), none, none, none] [] (Wd E s_15)) : ∀ (m : Nat) (v3_3 : Int) (s_13 : u_S), InR v3_3 → f_X11_laysWays_L4 m kx34 v0_4 v1_1 v2_9 v3_3 s_13 = some (r, s') → K 0 0 4 [some (.ref (E.1 v0_4)), some (.int (J v1_1)), some (.int (J v2_9)), some (.int (J v3_3)), none, none] [] (Wd E s_13) := by
  have g0 := g.wk
  intro m
  induction m with
  | zero =>
    intro v3_3 s_13 i_v3_3 h
    exact absurd (show (none : Option (Int × u_S)) = some (r, s') from h) (by intro z; cases z)
  | succ m ih =>
    intro v3_3 s_13 i_v3_3 h
    rw [f_X11_laysWays_L4] at h
    refine r_iload_n g0 dX11_laysWays_4 rfl ?_
    refine r_bipush g0 dX11_laysWays_5 rfl ?_
    refine r_icmp_ge g0 34 dX11_laysWays_7 (by decide) i_v3_3 (InR_lit rfl) (fun hc => ?_) (fun hc => ?_)
    · replace h := if_f hc h
      refine r_mask g0 (lv' := [some (.ref (E.1 v0_4)), none, some (.int (J v2_9)), none, none, none]) [true, false, true, false, false, false] rfl ?_
      exact hkx34 s_13 h
    · replace h := if_t hc h
      refine r_aload_n g0 dX11_laysWays_10 rfl ?_
      refine g_Mo_far g0 i_v0_4 qX11_37 dX11_laysWays_11 ?_
      refine r_iload_n g0 dX11_laysWays_14 rfl ?_
      refine r_iload_n g0 dX11_laysWays_15 rfl ?_
      refine r_iload_n g0 dX11_laysWays_16 rfl ?_
      obtain ⟨jp_2, hdjp_2, h⟩ := jn_some h
      have hjp_2 : ∀ (vt_1 : u_O) (vt_2 : Int) (vt_3 : Int) (s_14 : u_S), is_A vt_1 → InR vt_2 → InR vt_3 → jp_2 vt_1 vt_2 vt_3 s_14 = some (r, s') → K 0 0 27 [some (.ref (E.1 v0_4)), some (.int (J v1_1)), some (.int (J v2_9)), some (.int (J v3_3)), none, none] [.int (J vt_3), .int (J vt_2), .ref (E.1 vt_1)] (Wd E s_14) := by
        intro vt_1 vt_2 vt_3 s_14 i_vt_1 i_vt_2 i_vt_3 h
        subst hdjp_2
        obtain ⟨hb, h⟩ := gd_some h
        refine r_iastore g0 i_vt_1 (n := (alen vt_1)) rfl i_vt_2 hb dX11_laysWays_27 ?_
        refine r_iinc g0 (a := v3_3) (lv' := [some (.ref (E.1 v0_4)), some (.int (J v1_1)), some (.int (J v2_9)), some (.int (J (wr (v3_3 + 1)))), none, none]) dX11_laysWays_28 (by decide) rfl rfl rfl ?_
        refine r_goto g0 4 dX11_laysWays_31 (by decide) ?_
        exact ih (wr (v3_3 + 1)) (wt s_14 vt_1 vt_2 vt_3) (InR_wr _) h
      clear hdjp_2
      refine r_icmp_ne g0 24 dX11_laysWays_17 (by decide) i_v3_3 i_v1_1 (fun hc => ?_) (fun hc => ?_)
      · replace h := if_f hc h
        refine r_sipush g0 dX11_laysWays_24 rfl ?_
        exact hjp_2 (a_Mo_far v0_4) v3_3 999 s_13 (is_a_Mo_far i_v0_4) i_v3_3 (InR_lit rfl) h
      · replace h := if_t hc h
        refine r_iconst g0 dX11_laysWays_20 ?_
        refine r_goto g0 27 dX11_laysWays_21 (by decide) ?_
        exact hjp_2 (a_Mo_far v0_4) v3_3 0 s_13 (is_a_Mo_far i_v0_4) i_v3_3 (B01.inR B01_0) h
set_option maxHeartbeats 4000000 in
set_option maxRecDepth 100000 in
theorem c_X11_laysWays {E : u_E} {l : Launch} {o : u_O} {p1 : Int} (ho : is_Mo o) (i_p1 : InR p1) {s s' : u_S} {r : Int} (h : f_X11_laysWays o p1 s = some (r, s')) : Con l (XE E) yX11_laysWays cX11_laysWays 6 none 1 24 0 0 [.ref (E.1 o), .int (J p1)] (Wd E s) (RV E r s') := by
  refine Con.of [some (.ref (E.1 o)), some (.int (J p1)), none, none, none, none] (by decide +kernel) rfl rfl (Nat.le_of_ble_eq_true rfl) (fun K g => ?_)
  have g0 := g.wk
  unfold f_X11_laysWays at h
  refine r_iconst g0 dX11_laysWays_0 ?_
  refine r_istore_n g0 (lv' := [some (.ref (E.1 o)), some (.int (J p1)), some (.int (J 1)), none, none, none]) dX11_laysWays_1 (by decide) rfl rfl ?_
  refine r_iconst g0 dX11_laysWays_2 ?_
  refine r_istore_n g0 (lv' := [some (.ref (E.1 o)), some (.int (J p1)), some (.int (J 1)), some (.int (J 0)), none, none]) dX11_laysWays_3 (by decide) rfl rfl ?_
  refine t_X11_laysWays_L4 g ho i_p1 B01_1 ?_ FU 0 s (B01.inR B01_0) h
  · intro s_1 h
    refine t_X11_laysWays_L34 g ho ?_ FU 1 s_1 B01_1 h
    · intro s_2 h
      exact z_V g dX11_laysWays_124 h
theorem dX11_wayOf_0 : decode cX11_wayOf 0 = .ok (.aload_n 0, 1) := by decide +kernel
theorem dX11_wayOf_1 : decode cX11_wayOf 1 = .ok (.iload_n 2, 1) := by decide +kernel
theorem dX11_wayOf_2 : decode cX11_wayOf 2 = .ok (.invokevirtual 277, 3) := by decide +kernel
theorem dX11_wayOf_5 : decode cX11_wayOf 5 = .ok (.aload_n 0, 1) := by decide +kernel
theorem dX11_wayOf_6 : decode cX11_wayOf 6 = .ok (.getfield 37, 3) := by decide +kernel
theorem dX11_wayOf_9 : decode cX11_wayOf 9 = .ok (.iload_n 1, 1) := by decide +kernel
theorem dX11_wayOf_10 : decode cX11_wayOf 10 = .ok (.iaload, 1) := by decide +kernel
theorem dX11_wayOf_11 : decode cX11_wayOf 11 = .ok (.ireturn, 1) := by decide +kernel
set_option maxHeartbeats 4000000 in
set_option maxRecDepth 100000 in
theorem c_X11_wayOf {E : u_E} {l : Launch} {o : u_O} {p1 : Int} {p2 : Int} (ho : is_Mo o) (i_p1 : InR p1) (i_p2 : InR p2) {s s' : u_S} {r : Int} (h : f_X11_wayOf o p1 p2 s = some (r, s')) : Con l (XE E) yX11_wayOf cX11_wayOf 3 (some .int) 2 49 0 0 [.ref (E.1 o), .int (J p1), .int (J p2)] (Wd E s) (RI E r s') := by
  refine Con.of [some (.ref (E.1 o)), some (.int (J p1)), some (.int (J p2))] (by decide +kernel) rfl rfl (Nat.le_of_ble_eq_true rfl) (fun K g => ?_)
  have g0 := g.wk
  unfold f_X11_wayOf at h
  refine r_aload_n g0 dX11_wayOf_0 rfl ?_
  refine r_iload_n g0 dX11_wayOf_1 rfl ?_
  obtain ⟨r_1, s_1, hr_1, h⟩ := bd_some h
  refine r_cVV g0 (rest := []) (c_X11_laysWays ho i_p2 hr_1) ok_X11_laysWays mX11_277 (recv_Mo ho) dX11_wayOf_2 ⟨Nat.le_of_ble_eq_true rfl, Nat.le_of_ble_eq_true rfl⟩ ⟨Nat.zero_le _, Nat.zero_le _⟩ rfl (Nat.le_of_ble_eq_true rfl) rfl ?_
  refine r_aload_n g0 dX11_wayOf_5 rfl ?_
  refine g_Mo_far g0 ho qX11_37 dX11_wayOf_6 ?_
  refine r_iload_n g0 dX11_wayOf_9 rfl ?_
  obtain ⟨hb, h⟩ := gd_some h
  refine r_iaload g0 (is_a_Mo_far ho) (n := 24) rfl i_p1 hb dX11_wayOf_10 ?_
  exact z_I g dX11_wayOf_11 (InR_rd _ _ _) h
theorem dX11_way_0 : decode cX11_way 0 = .ok (.iload_n 1, 1) := by decide +kernel
theorem dX11_way_1 : decode cX11_way 1 = .ok (.invokestatic 281, 3) := by decide +kernel
theorem dX11_way_4 : decode cX11_way 4 = .ok (.ifCond .eq 19, 3) := by decide +kernel
theorem dX11_way_7 : decode cX11_way 7 = .ok (.iload_n 2, 1) := by decide +kernel
theorem dX11_way_8 : decode cX11_way 8 = .ok (.invokestatic 281, 3) := by decide +kernel
theorem dX11_way_11 : decode cX11_way 11 = .ok (.ifCond .eq 12, 3) := by decide +kernel
theorem dX11_way_14 : decode cX11_way 14 = .ok (.aload_n 0, 1) := by decide +kernel
theorem dX11_way_15 : decode cX11_way 15 = .ok (.iload_n 1, 1) := by decide +kernel
theorem dX11_way_16 : decode cX11_way 16 = .ok (.iload_n 2, 1) := by decide +kernel
theorem dX11_way_17 : decode cX11_way 17 = .ok (.invokevirtual 284, 3) := by decide +kernel
theorem dX11_way_20 : decode cX11_way 20 = .ok (.goto 9, 3) := by decide +kernel
theorem dX11_way_23 : decode cX11_way 23 = .ok (.aload_n 0, 1) := by decide +kernel
theorem dX11_way_24 : decode cX11_way 24 = .ok (.bipush (-2), 2) := by decide +kernel
theorem dX11_way_26 : decode cX11_way 26 = .ok (.invokevirtual 97, 3) := by decide +kernel
theorem dX11_way_29 : decode cX11_way 29 = .ok (.ireturn, 1) := by decide +kernel
set_option maxHeartbeats 4000000 in
set_option maxRecDepth 100000 in
theorem c_X11_way {E : u_E} {l : Launch} {o : u_O} {p1 : Int} {p2 : Int} (ho : is_Mo o) (i_p1 : InR p1) (i_p2 : InR p2) {s s' : u_S} {r : Int} (h : f_X11_way o p1 p2 s = some (r, s')) : Con l (XE E) yX11_way cX11_way 3 (some .int) 3 71 0 0 [.ref (E.1 o), .int (J p1), .int (J p2)] (Wd E s) (RI E r s') := by
  refine Con.of [some (.ref (E.1 o)), some (.int (J p1)), some (.int (J p2))] (by decide +kernel) rfl rfl (Nat.le_of_ble_eq_true rfl) (fun K g => ?_)
  have g0 := g.wk
  unfold f_X11_way at h
  refine r_iload_n g0 dX11_way_0 rfl ?_
  obtain ⟨r_1, s_1, hr_1, h⟩ := bd_some h
  refine r_cSZ g0 (rest := []) (c_X11_isKey i_p1 hr_1) ok_X11_isKey mX11_281 dX11_way_1 ⟨Nat.le_of_ble_eq_true rfl, Nat.le_of_ble_eq_true rfl⟩ ⟨Nat.zero_le _, Nat.zero_le _⟩ rfl (Nat.le_of_ble_eq_true rfl) rfl (fun i_r_1 => ?_)
  obtain ⟨jp_1, hdjp_1, h⟩ := jn_some h
  have hjp_1 : ∀  (s_2 : u_S), jp_1 s_2 = some (r, s') → K 0 0 23 [some (.ref (E.1 o)), none, none] [] (Wd E s_2) := by
    intro s_2 h
    subst hdjp_1
    refine r_aload_n g0 dX11_way_23 rfl ?_
    refine r_bipush g0 dX11_way_24 rfl ?_
    obtain ⟨r_2, s_3, hr_2, h⟩ := bd_some h
    refine r_cVI g0 (rest := []) (c_X11_refuses ho (InR_lit rfl) hr_2) ok_X11_refuses mX11_97 (recv_Mo ho) dX11_way_26 ⟨Nat.le_of_ble_eq_true rfl, Nat.le_of_ble_eq_true rfl⟩ ⟨Nat.zero_le _, Nat.zero_le _⟩ rfl (Nat.le_of_ble_eq_true rfl) rfl (fun i_r_2 => ?_)
    exact z_I g dX11_way_29 i_r_2 h
  clear hdjp_1
  refine r_if_eq g0 23 dX11_way_4 (by decide) (B01.inR i_r_1) (fun hc => ?_) (fun hc => ?_)
  · replace h := if_t hc h
    refine r_mask g0 (lv' := [some (.ref (E.1 o)), none, none]) [true, false, false] rfl ?_
    exact hjp_1 s_1 h
  · replace h := if_f hc h
    refine r_iload_n g0 dX11_way_7 rfl ?_
    obtain ⟨r_3, s_4, hr_3, h⟩ := bd_some h
    refine r_cSZ g0 (rest := []) (c_X11_isKey i_p2 hr_3) ok_X11_isKey mX11_281 dX11_way_8 ⟨Nat.le_of_ble_eq_true rfl, Nat.le_of_ble_eq_true rfl⟩ ⟨Nat.zero_le _, Nat.zero_le _⟩ rfl (Nat.le_of_ble_eq_true rfl) rfl (fun i_r_3 => ?_)
    refine r_if_eq g0 23 dX11_way_11 (by decide) (B01.inR i_r_3) (fun hc => ?_) (fun hc => ?_)
    · replace h := if_t hc h
      refine r_mask g0 (lv' := [some (.ref (E.1 o)), none, none]) [true, false, false] rfl ?_
      exact hjp_1 s_4 h
    · replace h := if_f hc h
      refine r_aload_n g0 dX11_way_14 rfl ?_
      refine r_iload_n g0 dX11_way_15 rfl ?_
      refine r_iload_n g0 dX11_way_16 rfl ?_
      obtain ⟨r_4, s_5, hr_4, h⟩ := bd_some h
      refine r_cVI g0 (rest := []) (c_X11_wayOf ho i_p1 i_p2 hr_4) ok_X11_wayOf mX11_284 (recv_Mo ho) dX11_way_17 ⟨Nat.le_of_ble_eq_true rfl, Nat.le_of_ble_eq_true rfl⟩ ⟨Nat.zero_le _, Nat.zero_le _⟩ rfl (Nat.le_of_ble_eq_true rfl) rfl (fun i_r_4 => ?_)
      refine r_goto g0 29 dX11_way_20 (by decide) ?_
      exact z_I g dX11_way_29 i_r_4 h
theorem dX11_next_0 : decode cX11_next 0 = .ok (.iload_n 1, 1) := by decide +kernel
theorem dX11_next_1 : decode cX11_next 1 = .ok (.invokestatic 281, 3) := by decide +kernel
theorem dX11_next_4 : decode cX11_next 4 = .ok (.ifCond .eq 10, 3) := by decide +kernel
theorem dX11_next_7 : decode cX11_next 7 = .ok (.iload_n 2, 1) := by decide +kernel
theorem dX11_next_8 : decode cX11_next 8 = .ok (.invokestatic 281, 3) := by decide +kernel
theorem dX11_next_11 : decode cX11_next 11 = .ok (.ifCond .ne 10, 3) := by decide +kernel
theorem dX11_next_14 : decode cX11_next 14 = .ok (.aload_n 0, 1) := by decide +kernel
theorem dX11_next_15 : decode cX11_next 15 = .ok (.bipush (-2), 2) := by decide +kernel
theorem dX11_next_17 : decode cX11_next 17 = .ok (.invokevirtual 97, 3) := by decide +kernel
theorem dX11_next_20 : decode cX11_next 20 = .ok (.ireturn, 1) := by decide +kernel
theorem dX11_next_21 : decode cX11_next 21 = .ok (.aload_n 0, 1) := by decide +kernel
theorem dX11_next_22 : decode cX11_next 22 = .ok (.iload_n 2, 1) := by decide +kernel
theorem dX11_next_23 : decode cX11_next 23 = .ok (.invokevirtual 277, 3) := by decide +kernel
theorem dX11_next_26 : decode cX11_next 26 = .ok (.iconst 0, 1) := by decide +kernel
theorem dX11_next_27 : decode cX11_next 27 = .ok (.istore_n 3, 1) := by decide +kernel
theorem dX11_next_28 : decode cX11_next 28 = .ok (.iload_n 3, 1) := by decide +kernel
theorem dX11_next_29 : decode cX11_next 29 = .ok (.bipush 24, 2) := by decide +kernel
theorem dX11_next_31 : decode cX11_next 31 = .ok (.if_icmp .ge 46, 3) := by decide +kernel
theorem dX11_next_34 : decode cX11_next 34 = .ok (.iload_n 1, 1) := by decide +kernel
theorem dX11_next_35 : decode cX11_next 35 = .ok (.iload_n 2, 1) := by decide +kernel
theorem dX11_next_36 : decode cX11_next 36 = .ok (.if_icmp .eq 41, 3) := by decide +kernel
theorem dX11_next_39 : decode cX11_next 39 = .ok (.iload_n 1, 1) := by decide +kernel
theorem dX11_next_40 : decode cX11_next 40 = .ok (.iload_n 3, 1) := by decide +kernel
theorem dX11_next_41 : decode cX11_next 41 = .ok (.invokestatic 274, 3) := by decide +kernel
theorem dX11_next_44 : decode cX11_next 44 = .ok (.iconst (-1), 1) := by decide +kernel
theorem dX11_next_45 : decode cX11_next 45 = .ok (.if_icmp .eq 26, 3) := by decide +kernel
theorem dX11_next_48 : decode cX11_next 48 = .ok (.iload_n 1, 1) := by decide +kernel
theorem dX11_next_49 : decode cX11_next 49 = .ok (.iload_n 3, 1) := by decide +kernel
theorem dX11_next_50 : decode cX11_next 50 = .ok (.invokestatic 274, 3) := by decide +kernel
theorem dX11_next_53 : decode cX11_next 53 = .ok (.aload_n 0, 1) := by decide +kernel
theorem dX11_next_54 : decode cX11_next 54 = .ok (.getfield 37, 3) := by decide +kernel
theorem dX11_next_57 : decode cX11_next 57 = .ok (.iload_n 3, 1) := by decide +kernel
theorem dX11_next_58 : decode cX11_next 58 = .ok (.iaload, 1) := by decide +kernel
theorem dX11_next_59 : decode cX11_next 59 = .ok (.iadd, 1) := by decide +kernel
theorem dX11_next_60 : decode cX11_next 60 = .ok (.aload_n 0, 1) := by decide +kernel
theorem dX11_next_61 : decode cX11_next 61 = .ok (.getfield 37, 3) := by decide +kernel
theorem dX11_next_64 : decode cX11_next 64 = .ok (.iload_n 1, 1) := by decide +kernel
theorem dX11_next_65 : decode cX11_next 65 = .ok (.iaload, 1) := by decide +kernel
theorem dX11_next_66 : decode cX11_next 66 = .ok (.if_icmp .ne 5, 3) := by decide +kernel
theorem dX11_next_69 : decode cX11_next 69 = .ok (.iload_n 3, 1) := by decide +kernel
theorem dX11_next_70 : decode cX11_next 70 = .ok (.ireturn, 1) := by decide +kernel
theorem dX11_next_71 : decode cX11_next 71 = .ok (.iinc 3 1, 3) := by decide +kernel
theorem dX11_next_74 : decode cX11_next 74 = .ok (.goto (-46), 3) := by decide +kernel
theorem dX11_next_77 : decode cX11_next 77 = .ok (.iconst (-1), 1) := by decide +kernel
theorem dX11_next_78 : decode cX11_next 78 = .ok (.ireturn, 1) := by decide +kernel
set_option maxHeartbeats 4000000 in
set_option maxRecDepth 100000 in
theorem t_X11_next_L28 {l : Launch} {E : u_E} {K : u_K} {r : Int} {s' : u_S} (g : Wk l (XE E) { frames := 2, cells := 0, slots := 0, locals := 49 } cX11_next 4 yX11_next.cls yX11_next.name (some .int) (RI E r s') K) {v0_1 : u_O} {v1_1 : Int} {v2_1 : Int} (i_v0_1 : is_Mo v0_1) (i_v1_1 : InR v1_1) (i_v2_1 : InR v2_1) {kx77 : u_S → Option (Int × u_S)} (hkx77 : ∀ (s_11 : u_S), kx77 s_11 = some (r, s') → K 0 0 77 [none, none, none, none] [] (Wd E s_11)) : ∀ (m : Nat) (v3_1 : Int) (s_7 : u_S), InR v3_1 → f_X11_next_L28 m kx77 v0_1 v1_1 v2_1 v3_1 s_7 = some (r, s') → K 0 0 28 [some (.ref (E.1 v0_1)), some (.int (J v1_1)), some (.int (J v2_1)), some (.int (J v3_1))] [] (Wd E s_7) := by
  have g0 := g.wk
  intro m
  induction m with
  | zero =>
    intro v3_1 s_7 i_v3_1 h
    exact absurd (show (none : Option (Int × u_S)) = some (r, s') from h) (by intro z; cases z)
  | succ m ih =>
    intro v3_1 s_7 i_v3_1 h
    rw [f_X11_next_L28] at h
    refine r_iload_n g0 dX11_next_28 rfl ?_
    refine r_bipush g0 dX11_next_29 rfl ?_
    refine r_icmp_ge g0 77 dX11_next_31 (by decide) i_v3_1 (InR_lit rfl) (fun hc => ?_) (fun hc => ?_)
    · replace h := if_f hc h
      refine r_mask g0 (lv' := [none, none, none, none]) [false, false, false, false] rfl ?_
      exact hkx77 s_7 h
    · replace h := if_t hc h
      refine r_iload_n g0 dX11_next_34 rfl ?_
      refine r_iload_n g0 dX11_next_35 rfl ?_
      refine r_icmp_eq g0 77 dX11_next_36 (by decide) i_v1_1 i_v2_1 (fun hc => ?_) (fun hc => ?_)
      · replace h := if_t hc h
        refine r_mask g0 (lv' := [none, none, none, none]) [false, false, false, false] rfl ?_
        exact hkx77 s_7 h
      · replace h := if_f hc h
        refine r_iload_n g0 dX11_next_39 rfl ?_
        refine r_iload_n g0 dX11_next_40 rfl ?_
        obtain ⟨r_5, s_8, hr_5, h⟩ := bd_some h
        refine r_cSI g0 (rest := []) (c_X11_road i_v1_1 i_v3_1 hr_5) ok_X11_road mX11_274 dX11_next_41 ⟨Nat.le_of_ble_eq_true rfl, Nat.le_of_ble_eq_true rfl⟩ ⟨Nat.zero_le _, Nat.zero_le _⟩ rfl (Nat.le_of_ble_eq_true rfl) rfl (fun i_r_5 => ?_)
        refine r_iconst g0 dX11_next_44 ?_
        obtain ⟨jp_2, hdjp_2, h⟩ := jn_some h
        have hjp_2 : ∀  (s_9 : u_S), jp_2 s_9 = some (r, s') → K 0 0 71 [some (.ref (E.1 v0_1)), some (.int (J v1_1)), some (.int (J v2_1)), some (.int (J v3_1))] [] (Wd E s_9) := by
          intro s_9 h
          subst hdjp_2
          refine r_iinc g0 (a := v3_1) (lv' := [some (.ref (E.1 v0_1)), some (.int (J v1_1)), some (.int (J v2_1)), some (.int (J (wr (v3_1 + 1))))]) dX11_next_71 (by decide) rfl rfl rfl ?_
          refine r_goto g0 28 dX11_next_74 (by decide) ?_
          exact ih (wr (v3_1 + 1)) s_9 (InR_wr _) h
        clear hdjp_2
        refine r_icmp_eq g0 71 dX11_next_45 (by decide) i_r_5 (InR_lit rfl) (fun hc => ?_) (fun hc => ?_)
        · replace h := if_t hc h
          exact hjp_2 s_8 h
        · replace h := if_f hc h
          refine r_iload_n g0 dX11_next_48 rfl ?_
          refine r_iload_n g0 dX11_next_49 rfl ?_
          obtain ⟨r_6, s_10, hr_6, h⟩ := bd_some h
          refine r_cSI g0 (rest := []) (c_X11_road i_v1_1 i_v3_1 hr_6) ok_X11_road mX11_274 dX11_next_50 ⟨Nat.le_of_ble_eq_true rfl, Nat.le_of_ble_eq_true rfl⟩ ⟨Nat.zero_le _, Nat.zero_le _⟩ rfl (Nat.le_of_ble_eq_true rfl) rfl (fun i_r_6 => ?_)
          refine r_aload_n g0 dX11_next_53 rfl ?_
          refine g_Mo_far g0 i_v0_1 qX11_37 dX11_next_54 ?_
          refine r_iload_n g0 dX11_next_57 rfl ?_
          obtain ⟨hb, h⟩ := gd_some h
          refine r_iaload g0 (is_a_Mo_far i_v0_1) (n := 24) rfl i_v3_1 hb dX11_next_58 ?_
          refine r_iadd g0 dX11_next_59 ?_
          refine r_aload_n g0 dX11_next_60 rfl ?_
          refine g_Mo_far g0 i_v0_1 qX11_37 dX11_next_61 ?_
          refine r_iload_n g0 dX11_next_64 rfl ?_
          obtain ⟨hb, h⟩ := gd_some h
          refine r_iaload g0 (is_a_Mo_far i_v0_1) (n := 24) rfl i_v1_1 hb dX11_next_65 ?_
          refine r_icmp_ne g0 71 dX11_next_66 (by decide) (InR_wr _) (InR_rd _ _ _) (fun hc => ?_) (fun hc => ?_)
          · replace h := if_f hc h
            exact hjp_2 s_10 h
          · replace h := if_t hc h
            refine r_iload_n g0 dX11_next_69 rfl ?_
            exact z_I g dX11_next_70 i_v3_1 h
set_option maxHeartbeats 4000000 in
set_option maxRecDepth 100000 in
theorem c_X11_next {E : u_E} {l : Launch} {o : u_O} {p1 : Int} {p2 : Int} (ho : is_Mo o) (i_p1 : InR p1) (i_p2 : InR p2) {s s' : u_S} {r : Int} (h : f_X11_next o p1 p2 s = some (r, s')) : Con l (XE E) yX11_next cX11_next 4 (some .int) 2 49 0 0 [.ref (E.1 o), .int (J p1), .int (J p2)] (Wd E s) (RI E r s') := by
  refine Con.of [some (.ref (E.1 o)), some (.int (J p1)), some (.int (J p2)), none] (by decide +kernel) rfl rfl (Nat.le_of_ble_eq_true rfl) (fun K g => ?_)
  have g0 := g.wk
  unfold f_X11_next at h
  refine r_iload_n g0 dX11_next_0 rfl ?_
  obtain ⟨r_1, s_1, hr_1, h⟩ := bd_some h
  refine r_cSZ g0 (rest := []) (c_X11_isKey i_p1 hr_1) ok_X11_isKey mX11_281 dX11_next_1 ⟨Nat.le_of_ble_eq_true rfl, Nat.le_of_ble_eq_true rfl⟩ ⟨Nat.zero_le _, Nat.zero_le _⟩ rfl (Nat.le_of_ble_eq_true rfl) rfl (fun i_r_1 => ?_)
  obtain ⟨jp_1, hdjp_1, h⟩ := jn_some h
  have hjp_1 : ∀  (s_2 : u_S), jp_1 s_2 = some (r, s') → K 0 0 14 [some (.ref (E.1 o)), none, none, none] [] (Wd E s_2) := by
    intro s_2 h
    subst hdjp_1
    refine r_aload_n g0 dX11_next_14 rfl ?_
    refine r_bipush g0 dX11_next_15 rfl ?_
    obtain ⟨r_2, s_3, hr_2, h⟩ := bd_some h
    refine r_cVI g0 (rest := []) (c_X11_refuses ho (InR_lit rfl) hr_2) ok_X11_refuses mX11_97 (recv_Mo ho) dX11_next_17 ⟨Nat.le_of_ble_eq_true rfl, Nat.le_of_ble_eq_true rfl⟩ ⟨Nat.zero_le _, Nat.zero_le _⟩ rfl (Nat.le_of_ble_eq_true rfl) rfl (fun i_r_2 => ?_)
    exact z_I g dX11_next_20 i_r_2 h
  clear hdjp_1
  refine r_if_eq g0 14 dX11_next_4 (by decide) (B01.inR i_r_1) (fun hc => ?_) (fun hc => ?_)
  · replace h := if_t hc h
    refine r_mask g0 (lv' := [some (.ref (E.1 o)), none, none, none]) [true, false, false, false] rfl ?_
    exact hjp_1 s_1 h
  · replace h := if_f hc h
    refine r_iload_n g0 dX11_next_7 rfl ?_
    obtain ⟨r_3, s_4, hr_3, h⟩ := bd_some h
    refine r_cSZ g0 (rest := []) (c_X11_isKey i_p2 hr_3) ok_X11_isKey mX11_281 dX11_next_8 ⟨Nat.le_of_ble_eq_true rfl, Nat.le_of_ble_eq_true rfl⟩ ⟨Nat.zero_le _, Nat.zero_le _⟩ rfl (Nat.le_of_ble_eq_true rfl) rfl (fun i_r_3 => ?_)
    refine r_if_ne g0 21 dX11_next_11 (by decide) (B01.inR i_r_3) (fun hc => ?_) (fun hc => ?_)
    · replace h := if_f hc h
      refine r_aload_n g0 dX11_next_21 rfl ?_
      refine r_iload_n g0 dX11_next_22 rfl ?_
      obtain ⟨r_4, s_5, hr_4, h⟩ := bd_some h
      refine r_cVV g0 (rest := []) (c_X11_laysWays ho i_p2 hr_4) ok_X11_laysWays mX11_277 (recv_Mo ho) dX11_next_23 ⟨Nat.le_of_ble_eq_true rfl, Nat.le_of_ble_eq_true rfl⟩ ⟨Nat.zero_le _, Nat.zero_le _⟩ rfl (Nat.le_of_ble_eq_true rfl) rfl ?_
      refine r_iconst g0 dX11_next_26 ?_
      refine r_istore_n g0 (lv' := [some (.ref (E.1 o)), some (.int (J p1)), some (.int (J p2)), some (.int (J 0))]) dX11_next_27 (by decide) rfl rfl ?_
      refine t_X11_next_L28 g ho i_p1 i_p2 ?_ FU 0 s_5 (B01.inR B01_0) h
      · intro s_6 h
        refine r_iconst g0 dX11_next_77 ?_
        exact z_I g dX11_next_78 (InR_lit rfl) h
    · replace h := if_t hc h
      refine r_mask g0 (lv' := [some (.ref (E.1 o)), none, none, none]) [true, false, false, false] rfl ?_
      exact hjp_1 s_4 h
theorem dX11_visited_0 : decode cX11_visited 0 = .ok (.iconst (-1), 1) := by decide +kernel
theorem dX11_visited_1 : decode cX11_visited 1 = .ok (.istore_n 2, 1) := by decide +kernel
theorem dX11_visited_2 : decode cX11_visited 2 = .ok (.iconst 0, 1) := by decide +kernel
theorem dX11_visited_3 : decode cX11_visited 3 = .ok (.istore_n 3, 1) := by decide +kernel
theorem dX11_visited_4 : decode cX11_visited 4 = .ok (.iload_n 3, 1) := by decide +kernel
theorem dX11_visited_5 : decode cX11_visited 5 = .ok (.aload_n 0, 1) := by decide +kernel
theorem dX11_visited_6 : decode cX11_visited 6 = .ok (.getfield 7, 3) := by decide +kernel
theorem dX11_visited_9 : decode cX11_visited 9 = .ok (.sipush 139, 3) := by decide +kernel
theorem dX11_visited_12 : decode cX11_visited 12 = .ok (.iaload, 1) := by decide +kernel
theorem dX11_visited_13 : decode cX11_visited 13 = .ok (.if_icmp .ge 29, 3) := by decide +kernel
theorem dX11_visited_16 : decode cX11_visited 16 = .ok (.aload_n 0, 1) := by decide +kernel
theorem dX11_visited_17 : decode cX11_visited 17 = .ok (.getfield 7, 3) := by decide +kernel
theorem dX11_visited_20 : decode cX11_visited 20 = .ok (.sipush 140, 3) := by decide +kernel
theorem dX11_visited_23 : decode cX11_visited 23 = .ok (.iload_n 3, 1) := by decide +kernel
theorem dX11_visited_24 : decode cX11_visited 24 = .ok (.iadd, 1) := by decide +kernel
theorem dX11_visited_25 : decode cX11_visited 25 = .ok (.iaload, 1) := by decide +kernel
theorem dX11_visited_26 : decode cX11_visited 26 = .ok (.iload_n 1, 1) := by decide +kernel
theorem dX11_visited_27 : decode cX11_visited 27 = .ok (.if_icmp .ne 7, 3) := by decide +kernel
theorem dX11_visited_30 : decode cX11_visited 30 = .ok (.iload_n 3, 1) := by decide +kernel
theorem dX11_visited_31 : decode cX11_visited 31 = .ok (.goto 4, 3) := by decide +kernel
theorem dX11_visited_34 : decode cX11_visited 34 = .ok (.iload_n 2, 1) := by decide +kernel
theorem dX11_visited_35 : decode cX11_visited 35 = .ok (.istore_n 2, 1) := by decide +kernel
theorem dX11_visited_36 : decode cX11_visited 36 = .ok (.iinc 3 1, 3) := by decide +kernel
theorem dX11_visited_39 : decode cX11_visited 39 = .ok (.goto (-35), 3) := by decide +kernel
theorem dX11_visited_42 : decode cX11_visited 42 = .ok (.iload_n 2, 1) := by decide +kernel
theorem dX11_visited_43 : decode cX11_visited 43 = .ok (.ireturn, 1) := by decide +kernel
set_option maxHeartbeats 4000000 in
set_option maxRecDepth 100000 in
theorem t_X11_visited_L4 {l : Launch} {E : u_E} {K : u_K} {r : Int} {s' : u_S} (g : Wk l (XE E) { frames := 0, cells := 0, slots := 0, locals := 0 } cX11_visited 4 yX11_visited.cls yX11_visited.name (some .int) (RI E r s') K) {v0_1 : u_O} {v1_1 : Int} (i_v0_1 : is_Mo v0_1) (i_v1_1 : InR v1_1) {kx42 : Int → u_S → Option (Int × u_S)} (hkx42 : ∀ (v2_3 : Int) (s_4 : u_S), InR v2_3 → kx42 v2_3 s_4 = some (r, s') → K 0 0 42 [none, none, some (.int (J v2_3)), none] [] (Wd E s_4)) : ∀ (m : Nat) (v2_2 : Int) (v3_1 : Int) (s_2 : u_S), InR v2_2 → InR v3_1 → f_X11_visited_L4 m kx42 v0_1 v1_1 v2_2 v3_1 s_2 = some (r, s') → K 0 0 4 [some (.ref (E.1 v0_1)), some (.int (J v1_1)), some (.int (J v2_2)), some (.int (J v3_1))] [] (Wd E s_2) := by
  have g0 := g.wk
  intro m
  induction m with
  | zero =>
    intro v2_2 v3_1 s_2 i_v2_2 i_v3_1 h
    exact absurd (show (none : Option (Int × u_S)) = some (r, s') from h) (by intro z; cases z)
  | succ m ih =>
    intro v2_2 v3_1 s_2 i_v2_2 i_v3_1 h
    rw [f_X11_visited_L4] at h
    refine r_iload_n g0 dX11_visited_4 rfl ?_
    refine r_aload_n g0 dX11_visited_5 rfl ?_
    refine g_Mo_all g0 i_v0_1 qX11_7 dX11_visited_6 ?_
    refine r_sipush g0 dX11_visited_9 rfl ?_
    obtain ⟨hb, h⟩ := gd_some h
    refine r_iaload g0 (is_a_Mo_all i_v0_1) (n := 145) rfl (InR_lit rfl) hb dX11_visited_12 ?_
    refine r_icmp_ge g0 42 dX11_visited_13 (by decide) i_v3_1 (InR_rd _ _ _) (fun hc => ?_) (fun hc => ?_)
    · replace h := if_f hc h
      refine r_mask g0 (lv' := [none, none, some (.int (J v2_2)), none]) [false, false, true, false] rfl ?_
      exact hkx42 v2_2 s_2 i_v2_2 h
    · replace h := if_t hc h
      refine r_aload_n g0 dX11_visited_16 rfl ?_
      refine g_Mo_all g0 i_v0_1 qX11_7 dX11_visited_17 ?_
      refine r_sipush g0 dX11_visited_20 rfl ?_
      refine r_iload_n g0 dX11_visited_23 rfl ?_
      refine r_iadd g0 dX11_visited_24 ?_
      obtain ⟨hb, h⟩ := gd_some h
      refine r_iaload g0 (is_a_Mo_all i_v0_1) (n := 145) rfl (InR_wr _) hb dX11_visited_25 ?_
      refine r_iload_n g0 dX11_visited_26 rfl ?_
      obtain ⟨jp_1, hdjp_1, h⟩ := jn_some h
      have hjp_1 : ∀ (vt_1 : Int) (s_3 : u_S), InR vt_1 → jp_1 vt_1 s_3 = some (r, s') → K 0 0 35 [some (.ref (E.1 v0_1)), some (.int (J v1_1)), none, some (.int (J v3_1))] [.int (J vt_1)] (Wd E s_3) := by
        intro vt_1 s_3 i_vt_1 h
        subst hdjp_1
        refine r_istore_n g0 (lv' := [some (.ref (E.1 v0_1)), some (.int (J v1_1)), some (.int (J vt_1)), some (.int (J v3_1))]) dX11_visited_35 (by decide) rfl rfl ?_
        refine r_iinc g0 (a := v3_1) (lv' := [some (.ref (E.1 v0_1)), some (.int (J v1_1)), some (.int (J vt_1)), some (.int (J (wr (v3_1 + 1))))]) dX11_visited_36 (by decide) rfl rfl rfl ?_
        refine r_goto g0 4 dX11_visited_39 (by decide) ?_
        exact ih vt_1 (wr (v3_1 + 1)) s_3 i_vt_1 (InR_wr _) h
      clear hdjp_1
      refine r_icmp_ne g0 34 dX11_visited_27 (by decide) (InR_rd _ _ _) i_v1_1 (fun hc => ?_) (fun hc => ?_)
      · replace h := if_f hc h
        refine r_iload_n g0 dX11_visited_34 rfl ?_
        refine r_mask g0 (lv' := [some (.ref (E.1 v0_1)), some (.int (J v1_1)), none, some (.int (J v3_1))]) [true, true, false, true] rfl ?_
        exact hjp_1 v2_2 s_2 i_v2_2 h
      · replace h := if_t hc h
        refine r_iload_n g0 dX11_visited_30 rfl ?_
        refine r_goto g0 35 dX11_visited_31 (by decide) ?_
        refine r_mask g0 (lv' := [some (.ref (E.1 v0_1)), some (.int (J v1_1)), none, some (.int (J v3_1))]) [true, true, false, true] rfl ?_
        exact hjp_1 v3_1 s_2 i_v3_1 h
set_option maxHeartbeats 4000000 in
set_option maxRecDepth 100000 in
theorem c_X11_visited {E : u_E} {l : Launch} {o : u_O} {p1 : Int} (ho : is_Mo o) (i_p1 : InR p1) {s s' : u_S} {r : Int} (h : f_X11_visited o p1 s = some (r, s')) : Con l (XE E) yX11_visited cX11_visited 4 (some .int) 0 0 0 0 [.ref (E.1 o), .int (J p1)] (Wd E s) (RI E r s') := by
  refine Con.of [some (.ref (E.1 o)), some (.int (J p1)), none, none] (by decide +kernel) rfl rfl (Nat.le_of_ble_eq_true rfl) (fun K g => ?_)
  have g0 := g.wk
  unfold f_X11_visited at h
  refine r_iconst g0 dX11_visited_0 ?_
  refine r_istore_n g0 (lv' := [some (.ref (E.1 o)), some (.int (J p1)), some (.int (J (-1))), none]) dX11_visited_1 (by decide) rfl rfl ?_
  refine r_iconst g0 dX11_visited_2 ?_
  refine r_istore_n g0 (lv' := [some (.ref (E.1 o)), some (.int (J p1)), some (.int (J (-1))), some (.int (J 0))]) dX11_visited_3 (by decide) rfl rfl ?_
  refine t_X11_visited_L4 g ho i_p1 ?_ FU (-1) 0 s (InR_lit rfl) (B01.inR B01_0) h
  · intro v2_1 s_1 i_v2_1 h
    refine r_iload_n g0 dX11_visited_42 rfl ?_
    exact z_I g dX11_visited_43 i_v2_1 h
theorem dX11_canVisit_0 : decode cX11_canVisit 0 = .ok (.iload_n 1, 1) := by decide +kernel
theorem dX11_canVisit_1 : decode cX11_canVisit 1 = .ok (.invokestatic 281, 3) := by decide +kernel
theorem dX11_canVisit_4 : decode cX11_canVisit 4 = .ok (.ifCond .ne 8, 3) := by decide +kernel
theorem dX11_canVisit_7 : decode cX11_canVisit 7 = .ok (.bipush (-2), 2) := by decide +kernel
theorem dX11_canVisit_9 : decode cX11_canVisit 9 = .ok (.goto 35, 3) := by decide +kernel
theorem dX11_canVisit_12 : decode cX11_canVisit 12 = .ok (.aload_n 0, 1) := by decide +kernel
theorem dX11_canVisit_13 : decode cX11_canVisit 13 = .ok (.iload_n 1, 1) := by decide +kernel
theorem dX11_canVisit_14 : decode cX11_canVisit 14 = .ok (.invokevirtual 287, 3) := by decide +kernel
theorem dX11_canVisit_17 : decode cX11_canVisit 17 = .ok (.iconst (-1), 1) := by decide +kernel
theorem dX11_canVisit_18 : decode cX11_canVisit 18 = .ok (.if_icmp .eq 8, 3) := by decide +kernel
theorem dX11_canVisit_21 : decode cX11_canVisit 21 = .ok (.bipush (-3), 2) := by decide +kernel
theorem dX11_canVisit_23 : decode cX11_canVisit 23 = .ok (.goto 21, 3) := by decide +kernel
theorem dX11_canVisit_26 : decode cX11_canVisit 26 = .ok (.aload_n 0, 1) := by decide +kernel
theorem dX11_canVisit_27 : decode cX11_canVisit 27 = .ok (.getfield 7, 3) := by decide +kernel
theorem dX11_canVisit_30 : decode cX11_canVisit 30 = .ok (.sipush 139, 3) := by decide +kernel
theorem dX11_canVisit_33 : decode cX11_canVisit 33 = .ok (.iaload, 1) := by decide +kernel
theorem dX11_canVisit_34 : decode cX11_canVisit 34 = .ok (.iconst 5, 1) := by decide +kernel
theorem dX11_canVisit_35 : decode cX11_canVisit 35 = .ok (.if_icmp .ne 8, 3) := by decide +kernel
theorem dX11_canVisit_38 : decode cX11_canVisit 38 = .ok (.bipush (-4), 2) := by decide +kernel
theorem dX11_canVisit_40 : decode cX11_canVisit 40 = .ok (.goto 4, 3) := by decide +kernel
theorem dX11_canVisit_43 : decode cX11_canVisit 43 = .ok (.iconst 0, 1) := by decide +kernel
theorem dX11_canVisit_44 : decode cX11_canVisit 44 = .ok (.ireturn, 1) := by decide +kernel
set_option maxHeartbeats 4000000 in
set_option maxRecDepth 100000 in
theorem c_X11_canVisit {E : u_E} {l : Launch} {o : u_O} {p1 : Int} (ho : is_Mo o) (i_p1 : InR p1) {s s' : u_S} {r : Int} (h : f_X11_canVisit o p1 s = some (r, s')) : Con l (XE E) yX11_canVisit cX11_canVisit 2 (some .int) 2 45 0 0 [.ref (E.1 o), .int (J p1)] (Wd E s) (RI E r s') := by
  refine Con.of [some (.ref (E.1 o)), some (.int (J p1))] (by decide +kernel) rfl rfl (Nat.le_of_ble_eq_true rfl) (fun K g => ?_)
  have g0 := g.wk
  unfold f_X11_canVisit at h
  refine r_iload_n g0 dX11_canVisit_0 rfl ?_
  obtain ⟨r_1, s_1, hr_1, h⟩ := bd_some h
  refine r_cSZ g0 (rest := []) (c_X11_isKey i_p1 hr_1) ok_X11_isKey mX11_281 dX11_canVisit_1 ⟨Nat.le_of_ble_eq_true rfl, Nat.le_of_ble_eq_true rfl⟩ ⟨Nat.zero_le _, Nat.zero_le _⟩ rfl (Nat.le_of_ble_eq_true rfl) rfl (fun i_r_1 => ?_)
  refine r_if_ne g0 12 dX11_canVisit_4 (by decide) (B01.inR i_r_1) (fun hc => ?_) (fun hc => ?_)
  · replace h := if_f hc h
    refine r_aload_n g0 dX11_canVisit_12 rfl ?_
    refine r_iload_n g0 dX11_canVisit_13 rfl ?_
    obtain ⟨r_2, s_2, hr_2, h⟩ := bd_some h
    refine r_cVI g0 (rest := []) (c_X11_visited ho i_p1 hr_2) ok_X11_visited mX11_287 (recv_Mo ho) dX11_canVisit_14 ⟨Nat.le_of_ble_eq_true rfl, Nat.le_of_ble_eq_true rfl⟩ ⟨Nat.zero_le _, Nat.zero_le _⟩ rfl (Nat.le_of_ble_eq_true rfl) rfl (fun i_r_2 => ?_)
    refine r_iconst g0 dX11_canVisit_17 ?_
    refine r_icmp_eq g0 26 dX11_canVisit_18 (by decide) i_r_2 (InR_lit rfl) (fun hc => ?_) (fun hc => ?_)
    · replace h := if_t hc h
      refine r_aload_n g0 dX11_canVisit_26 rfl ?_
      refine g_Mo_all g0 ho qX11_7 dX11_canVisit_27 ?_
      refine r_sipush g0 dX11_canVisit_30 rfl ?_
      obtain ⟨hb, h⟩ := gd_some h
      refine r_iaload g0 (is_a_Mo_all ho) (n := 145) rfl (InR_lit rfl) hb dX11_canVisit_33 ?_
      refine r_iconst g0 dX11_canVisit_34 ?_
      refine r_icmp_ne g0 43 dX11_canVisit_35 (by decide) (InR_rd _ _ _) (InR_lit rfl) (fun hc => ?_) (fun hc => ?_)
      · replace h := if_f hc h
        refine r_iconst g0 dX11_canVisit_43 ?_
        exact z_I g dX11_canVisit_44 (B01.inR B01_0) h
      · replace h := if_t hc h
        refine r_bipush g0 dX11_canVisit_38 rfl ?_
        refine r_goto g0 44 dX11_canVisit_40 (by decide) ?_
        exact z_I g dX11_canVisit_44 (InR_lit rfl) h
    · replace h := if_f hc h
      refine r_bipush g0 dX11_canVisit_21 rfl ?_
      refine r_goto g0 44 dX11_canVisit_23 (by decide) ?_
      exact z_I g dX11_canVisit_44 (InR_lit rfl) h
  · replace h := if_t hc h
    refine r_bipush g0 dX11_canVisit_7 rfl ?_
    refine r_goto g0 44 dX11_canVisit_9 (by decide) ?_
    exact z_I g dX11_canVisit_44 (InR_lit rfl) h
theorem dX11_visitNow_0 : decode cX11_visitNow 0 = .ok (.aload_n 0, 1) := by decide +kernel
theorem dX11_visitNow_1 : decode cX11_visitNow 1 = .ok (.getfield 7, 3) := by decide +kernel
theorem dX11_visitNow_4 : decode cX11_visitNow 4 = .ok (.sipush 140, 3) := by decide +kernel
theorem dX11_visitNow_7 : decode cX11_visitNow 7 = .ok (.aload_n 0, 1) := by decide +kernel
theorem dX11_visitNow_8 : decode cX11_visitNow 8 = .ok (.getfield 7, 3) := by decide +kernel
theorem dX11_visitNow_11 : decode cX11_visitNow 11 = .ok (.sipush 139, 3) := by decide +kernel
theorem dX11_visitNow_14 : decode cX11_visitNow 14 = .ok (.iaload, 1) := by decide +kernel
theorem dX11_visitNow_15 : decode cX11_visitNow 15 = .ok (.iadd, 1) := by decide +kernel
theorem dX11_visitNow_16 : decode cX11_visitNow 16 = .ok (.iload_n 1, 1) := by decide +kernel
theorem dX11_visitNow_17 : decode cX11_visitNow 17 = .ok (.iastore, 1) := by decide +kernel
theorem dX11_visitNow_18 : decode cX11_visitNow 18 = .ok (.aload_n 0, 1) := by decide +kernel
theorem dX11_visitNow_19 : decode cX11_visitNow 19 = .ok (.getfield 7, 3) := by decide +kernel
theorem dX11_visitNow_22 : decode cX11_visitNow 22 = .ok (.sipush 139, 3) := by decide +kernel
theorem dX11_visitNow_25 : decode cX11_visitNow 25 = .ok (.dup2, 1) := by decide +kernel
theorem dX11_visitNow_26 : decode cX11_visitNow 26 = .ok (.iaload, 1) := by decide +kernel
theorem dX11_visitNow_27 : decode cX11_visitNow 27 = .ok (.iconst 1, 1) := by decide +kernel
theorem dX11_visitNow_28 : decode cX11_visitNow 28 = .ok (.iadd, 1) := by decide +kernel
theorem dX11_visitNow_29 : decode cX11_visitNow 29 = .ok (.iastore, 1) := by decide +kernel
theorem dX11_visitNow_30 : decode cX11_visitNow 30 = .ok (.aload_n 0, 1) := by decide +kernel
theorem dX11_visitNow_31 : decode cX11_visitNow 31 = .ok (.getfield 7, 3) := by decide +kernel
theorem dX11_visitNow_34 : decode cX11_visitNow 34 = .ok (.sipush 139, 3) := by decide +kernel
theorem dX11_visitNow_37 : decode cX11_visitNow 37 = .ok (.iaload, 1) := by decide +kernel
theorem dX11_visitNow_38 : decode cX11_visitNow 38 = .ok (.ireturn, 1) := by decide +kernel
set_option maxHeartbeats 4000000 in
set_option maxRecDepth 100000 in
theorem c_X11_visitNow {E : u_E} {l : Launch} {o : u_O} {p1 : Int} (ho : is_Mo o) (i_p1 : InR p1) {s s' : u_S} {r : Int} (h : f_X11_visitNow o p1 s = some (r, s')) : Con l (XE E) yX11_visitNow cX11_visitNow 2 (some .int) 0 0 0 0 [.ref (E.1 o), .int (J p1)] (Wd E s) (RI E r s') := by
  refine Con.of [some (.ref (E.1 o)), some (.int (J p1))] (by decide +kernel) rfl rfl (Nat.le_of_ble_eq_true rfl) (fun K g => ?_)
  have g0 := g.wk
  unfold f_X11_visitNow at h
  refine r_aload_n g0 dX11_visitNow_0 rfl ?_
  refine g_Mo_all g0 ho qX11_7 dX11_visitNow_1 ?_
  refine r_sipush g0 dX11_visitNow_4 rfl ?_
  refine r_aload_n g0 dX11_visitNow_7 rfl ?_
  refine g_Mo_all g0 ho qX11_7 dX11_visitNow_8 ?_
  refine r_sipush g0 dX11_visitNow_11 rfl ?_
  obtain ⟨hb, h⟩ := gd_some h
  refine r_iaload g0 (is_a_Mo_all ho) (n := 145) rfl (InR_lit rfl) hb dX11_visitNow_14 ?_
  refine r_iadd g0 dX11_visitNow_15 ?_
  refine r_iload_n g0 dX11_visitNow_16 rfl ?_
  obtain ⟨hb, h⟩ := gd_some h
  refine r_iastore g0 (is_a_Mo_all ho) (n := 145) rfl (InR_wr _) hb dX11_visitNow_17 ?_
  refine r_aload_n g0 dX11_visitNow_18 rfl ?_
  refine g_Mo_all g0 ho qX11_7 dX11_visitNow_19 ?_
  refine r_sipush g0 dX11_visitNow_22 rfl ?_
  refine r_dup2 g0 dX11_visitNow_25 rfl rfl ?_
  obtain ⟨hb, h⟩ := gd_some h
  refine r_iaload g0 (is_a_Mo_all ho) (n := 145) rfl (InR_lit rfl) hb dX11_visitNow_26 ?_
  refine r_iconst g0 dX11_visitNow_27 ?_
  refine r_iadd g0 dX11_visitNow_28 ?_
  obtain ⟨hb, h⟩ := gd_some h
  refine r_iastore g0 (is_a_Mo_all ho) (n := 145) rfl (InR_lit rfl) hb dX11_visitNow_29 ?_
  refine r_aload_n g0 dX11_visitNow_30 rfl ?_
  refine g_Mo_all g0 ho qX11_7 dX11_visitNow_31 ?_
  refine r_sipush g0 dX11_visitNow_34 rfl ?_
  obtain ⟨hb, h⟩ := gd_some h
  refine r_iaload g0 (is_a_Mo_all ho) (n := 145) rfl (InR_lit rfl) hb dX11_visitNow_37 ?_
  exact z_I g dX11_visitNow_38 (InR_rd _ _ _) h
theorem dX11_visits_0 : decode cX11_visits 0 = .ok (.aload_n 0, 1) := by decide +kernel
theorem dX11_visits_1 : decode cX11_visits 1 = .ok (.iload_n 1, 1) := by decide +kernel
theorem dX11_visits_2 : decode cX11_visits 2 = .ok (.invokevirtual 290, 3) := by decide +kernel
theorem dX11_visits_5 : decode cX11_visits 5 = .ok (.istore_n 2, 1) := by decide +kernel
theorem dX11_visits_6 : decode cX11_visits 6 = .ok (.iload_n 2, 1) := by decide +kernel
theorem dX11_visits_7 : decode cX11_visits 7 = .ok (.ifCond .ge 9, 3) := by decide +kernel
theorem dX11_visits_10 : decode cX11_visits 10 = .ok (.aload_n 0, 1) := by decide +kernel
theorem dX11_visits_11 : decode cX11_visits 11 = .ok (.iload_n 2, 1) := by decide +kernel
theorem dX11_visits_12 : decode cX11_visits 12 = .ok (.invokevirtual 97, 3) := by decide +kernel
theorem dX11_visits_15 : decode cX11_visits 15 = .ok (.ireturn, 1) := by decide +kernel
theorem dX11_visits_16 : decode cX11_visits 16 = .ok (.aload_n 0, 1) := by decide +kernel
theorem dX11_visits_17 : decode cX11_visits 17 = .ok (.invokevirtual 100, 3) := by decide +kernel
theorem dX11_visits_20 : decode cX11_visits 20 = .ok (.aload_n 0, 1) := by decide +kernel
theorem dX11_visits_21 : decode cX11_visits 21 = .ok (.iload_n 1, 1) := by decide +kernel
theorem dX11_visits_22 : decode cX11_visits 22 = .ok (.invokevirtual 293, 3) := by decide +kernel
theorem dX11_visits_25 : decode cX11_visits 25 = .ok (.ireturn, 1) := by decide +kernel
set_option maxHeartbeats 4000000 in
set_option maxRecDepth 100000 in
theorem c_X11_visits {E : u_E} {l : Launch} {o : u_O} {p1 : Int} (ho : is_Mo o) (i_p1 : InR p1) {s s' : u_S} {r : Int} (h : f_X11_visits o p1 s = some (r, s')) : Con l (XE E) yX11_visits cX11_visits 3 (some .int) 3 66 0 0 [.ref (E.1 o), .int (J p1)] (Wd E s) (RI E r s') := by
  refine Con.of [some (.ref (E.1 o)), some (.int (J p1)), none] (by decide +kernel) rfl rfl (Nat.le_of_ble_eq_true rfl) (fun K g => ?_)
  have g0 := g.wk
  unfold f_X11_visits at h
  refine r_aload_n g0 dX11_visits_0 rfl ?_
  refine r_iload_n g0 dX11_visits_1 rfl ?_
  obtain ⟨r_1, s_1, hr_1, h⟩ := bd_some h
  refine r_cVI g0 (rest := []) (c_X11_canVisit ho i_p1 hr_1) ok_X11_canVisit mX11_290 (recv_Mo ho) dX11_visits_2 ⟨Nat.le_of_ble_eq_true rfl, Nat.le_of_ble_eq_true rfl⟩ ⟨Nat.zero_le _, Nat.zero_le _⟩ rfl (Nat.le_of_ble_eq_true rfl) rfl (fun i_r_1 => ?_)
  refine r_istore_n g0 (lv' := [some (.ref (E.1 o)), some (.int (J p1)), some (.int (J r_1))]) dX11_visits_5 (by decide) rfl rfl ?_
  refine r_iload_n g0 dX11_visits_6 rfl ?_
  refine r_if_ge g0 16 dX11_visits_7 (by decide) i_r_1 (fun hc => ?_) (fun hc => ?_)
  · replace h := if_f hc h
    refine r_aload_n g0 dX11_visits_16 rfl ?_
    obtain ⟨r_2, s_2, hr_2, h⟩ := bd_some h
    refine r_cVV g0 (rest := []) (c_X11_keep ho hr_2) ok_X11_keep mX11_100 (recv_Mo ho) dX11_visits_17 ⟨Nat.le_of_ble_eq_true rfl, Nat.le_of_ble_eq_true rfl⟩ ⟨Nat.zero_le _, Nat.zero_le _⟩ rfl (Nat.le_of_ble_eq_true rfl) rfl ?_
    refine r_aload_n g0 dX11_visits_20 rfl ?_
    refine r_iload_n g0 dX11_visits_21 rfl ?_
    obtain ⟨r_3, s_3, hr_3, h⟩ := bd_some h
    refine r_cVI g0 (rest := []) (c_X11_visitNow ho i_p1 hr_3) ok_X11_visitNow mX11_293 (recv_Mo ho) dX11_visits_22 ⟨Nat.le_of_ble_eq_true rfl, Nat.le_of_ble_eq_true rfl⟩ ⟨Nat.zero_le _, Nat.zero_le _⟩ rfl (Nat.le_of_ble_eq_true rfl) rfl (fun i_r_3 => ?_)
    exact z_I g dX11_visits_25 i_r_3 h
  · replace h := if_t hc h
    refine r_aload_n g0 dX11_visits_10 rfl ?_
    refine r_iload_n g0 dX11_visits_11 rfl ?_
    obtain ⟨r_4, s_4, hr_4, h⟩ := bd_some h
    refine r_cVI g0 (rest := []) (c_X11_refuses ho i_r_1 hr_4) ok_X11_refuses mX11_97 (recv_Mo ho) dX11_visits_12 ⟨Nat.le_of_ble_eq_true rfl, Nat.le_of_ble_eq_true rfl⟩ ⟨Nat.zero_le _, Nat.zero_le _⟩ rfl (Nat.le_of_ble_eq_true rfl) rfl (fun i_r_4 => ?_)
    exact z_I g dX11_visits_15 i_r_4 h
