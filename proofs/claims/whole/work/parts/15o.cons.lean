/-! THE CONTRACTS: the bytecode does what the functions say (by program, wip/whole/gen) -/
theorem dX11_closestOf_0 : decode cX11_closestOf 0 = .ok (.aload_n 0, 1) := by decide +kernel
theorem dX11_closestOf_1 : decode cX11_closestOf 1 = .ok (.iload_n 1, 1) := by decide +kernel
theorem dX11_closestOf_2 : decode cX11_closestOf 2 = .ok (.invokevirtual 128, 3) := by decide +kernel
theorem dX11_closestOf_5 : decode cX11_closestOf 5 = .ok (.istore_n 2, 1) := by decide +kernel
theorem dX11_closestOf_6 : decode cX11_closestOf 6 = .ok (.iconst 1, 1) := by decide +kernel
theorem dX11_closestOf_7 : decode cX11_closestOf 7 = .ok (.istore_n 3, 1) := by decide +kernel
theorem dX11_closestOf_8 : decode cX11_closestOf 8 = .ok (.iload_n 3, 1) := by decide +kernel
theorem dX11_closestOf_9 : decode cX11_closestOf 9 = .ok (.iload_n 2, 1) := by decide +kernel
theorem dX11_closestOf_10 : decode cX11_closestOf 10 = .ok (.if_icmp .ge 99, 3) := by decide +kernel
theorem dX11_closestOf_13 : decode cX11_closestOf 13 = .ok (.iconst 0, 1) := by decide +kernel
theorem dX11_closestOf_14 : decode cX11_closestOf 14 = .ok (.istore 4, 2) := by decide +kernel
theorem dX11_closestOf_16 : decode cX11_closestOf 16 = .ok (.iload 4, 2) := by decide +kernel
theorem dX11_closestOf_18 : decode cX11_closestOf 18 = .ok (.iconst 5, 1) := by decide +kernel
theorem dX11_closestOf_19 : decode cX11_closestOf 19 = .ok (.if_icmp .ge 84, 3) := by decide +kernel
theorem dX11_closestOf_22 : decode cX11_closestOf 22 = .ok (.aload_n 0, 1) := by decide +kernel
theorem dX11_closestOf_23 : decode cX11_closestOf 23 = .ok (.iload_n 1, 1) := by decide +kernel
theorem dX11_closestOf_24 : decode cX11_closestOf 24 = .ok (.iload 4, 2) := by decide +kernel
theorem dX11_closestOf_26 : decode cX11_closestOf 26 = .ok (.invokevirtual 236, 3) := by decide +kernel
theorem dX11_closestOf_29 : decode cX11_closestOf 29 = .ok (.iconst 0, 1) := by decide +kernel
theorem dX11_closestOf_30 : decode cX11_closestOf 30 = .ok (.istore 5, 2) := by decide +kernel
theorem dX11_closestOf_32 : decode cX11_closestOf 32 = .ok (.iload 5, 2) := by decide +kernel
theorem dX11_closestOf_34 : decode cX11_closestOf 34 = .ok (.bipush 42, 2) := by decide +kernel
theorem dX11_closestOf_36 : decode cX11_closestOf 36 = .ok (.if_icmp .gt 61, 3) := by decide +kernel
theorem dX11_closestOf_39 : decode cX11_closestOf 39 = .ok (.iload 5, 2) := by decide +kernel
theorem dX11_closestOf_41 : decode cX11_closestOf 41 = .ok (.iconst 2, 1) := by decide +kernel
theorem dX11_closestOf_42 : decode cX11_closestOf 42 = .ok (.irem, 1) := by decide +kernel
theorem dX11_closestOf_43 : decode cX11_closestOf 43 = .ok (.ifCond .ne 10, 3) := by decide +kernel
theorem dX11_closestOf_46 : decode cX11_closestOf 46 = .ok (.iload 5, 2) := by decide +kernel
theorem dX11_closestOf_48 : decode cX11_closestOf 48 = .ok (.iconst 2, 1) := by decide +kernel
theorem dX11_closestOf_49 : decode cX11_closestOf 49 = .ok (.idiv, 1) := by decide +kernel
theorem dX11_closestOf_50 : decode cX11_closestOf 50 = .ok (.goto 10, 3) := by decide +kernel
theorem dX11_closestOf_53 : decode cX11_closestOf 53 = .ok (.iload 5, 2) := by decide +kernel
theorem dX11_closestOf_55 : decode cX11_closestOf 55 = .ok (.iconst 1, 1) := by decide +kernel
theorem dX11_closestOf_56 : decode cX11_closestOf 56 = .ok (.iadd, 1) := by decide +kernel
theorem dX11_closestOf_57 : decode cX11_closestOf 57 = .ok (.ineg, 1) := by decide +kernel
theorem dX11_closestOf_58 : decode cX11_closestOf 58 = .ok (.iconst 2, 1) := by decide +kernel
theorem dX11_closestOf_59 : decode cX11_closestOf 59 = .ok (.idiv, 1) := by decide +kernel
theorem dX11_closestOf_60 : decode cX11_closestOf 60 = .ok (.istore 6, 2) := by decide +kernel
theorem dX11_closestOf_62 : decode cX11_closestOf 62 = .ok (.aload_n 0, 1) := by decide +kernel
theorem dX11_closestOf_63 : decode cX11_closestOf 63 = .ok (.iload_n 1, 1) := by decide +kernel
theorem dX11_closestOf_64 : decode cX11_closestOf 64 = .ok (.iload 6, 2) := by decide +kernel
theorem dX11_closestOf_66 : decode cX11_closestOf 66 = .ok (.iload_n 3, 1) := by decide +kernel
theorem dX11_closestOf_67 : decode cX11_closestOf 67 = .ok (.invokevirtual 240, 3) := by decide +kernel
theorem dX11_closestOf_70 : decode cX11_closestOf 70 = .ok (.ifCond .eq 21, 3) := by decide +kernel
theorem dX11_closestOf_73 : decode cX11_closestOf 73 = .ok (.sipush 1000, 3) := by decide +kernel
theorem dX11_closestOf_76 : decode cX11_closestOf 76 = .ok (.iload_n 3, 1) := by decide +kernel
theorem dX11_closestOf_77 : decode cX11_closestOf 77 = .ok (.imul, 1) := by decide +kernel
theorem dX11_closestOf_78 : decode cX11_closestOf 78 = .ok (.bipush 100, 2) := by decide +kernel
theorem dX11_closestOf_80 : decode cX11_closestOf 80 = .ok (.iload 4, 2) := by decide +kernel
theorem dX11_closestOf_82 : decode cX11_closestOf 82 = .ok (.imul, 1) := by decide +kernel
theorem dX11_closestOf_83 : decode cX11_closestOf 83 = .ok (.iadd, 1) := by decide +kernel
theorem dX11_closestOf_84 : decode cX11_closestOf 84 = .ok (.iload 6, 2) := by decide +kernel
theorem dX11_closestOf_86 : decode cX11_closestOf 86 = .ok (.iadd, 1) := by decide +kernel
theorem dX11_closestOf_87 : decode cX11_closestOf 87 = .ok (.bipush 21, 2) := by decide +kernel
theorem dX11_closestOf_89 : decode cX11_closestOf 89 = .ok (.iadd, 1) := by decide +kernel
theorem dX11_closestOf_90 : decode cX11_closestOf 90 = .ok (.ireturn, 1) := by decide +kernel
theorem dX11_closestOf_91 : decode cX11_closestOf 91 = .ok (.iinc 5 1, 3) := by decide +kernel
theorem dX11_closestOf_94 : decode cX11_closestOf 94 = .ok (.goto (-62), 3) := by decide +kernel
theorem dX11_closestOf_97 : decode cX11_closestOf 97 = .ok (.iinc 4 1, 3) := by decide +kernel
theorem dX11_closestOf_100 : decode cX11_closestOf 100 = .ok (.goto (-84), 3) := by decide +kernel
theorem dX11_closestOf_103 : decode cX11_closestOf 103 = .ok (.iinc 3 1, 3) := by decide +kernel
theorem dX11_closestOf_106 : decode cX11_closestOf 106 = .ok (.goto (-98), 3) := by decide +kernel
theorem dX11_closestOf_109 : decode cX11_closestOf 109 = .ok (.iconst (-1), 1) := by decide +kernel
theorem dX11_closestOf_110 : decode cX11_closestOf 110 = .ok (.ireturn, 1) := by decide +kernel
set_option maxHeartbeats 4000000 in
set_option maxRecDepth 100000 in
theorem t_X11_closestOf_L32 {l : Launch} {E : u_E} {K : u_K} {r : Int} {s' : u_S} (g : Wk l (XE E) { frames := 4, cells := 0, slots := 0, locals := 94 } cX11_closestOf 7 yX11_closestOf.cls yX11_closestOf.name (some .int) (RI E r s') K) {v0_3 : u_O} {v1_3 : Int} {v2_3 : Int} {v3_3 : Int} {v4_2 : Int} (i_v0_3 : is_Mo v0_3) (i_v1_3 : InR v1_3) (i_v2_3 : InR v2_3) (i_v3_3 : InR v3_3) (i_v4_2 : InR v4_2) {kx97 : u_S → Option (Int × u_S)} (hkx97 : ∀ (s_11 : u_S), kx97 s_11 = some (r, s') → K 0 0 97 [some (.ref (E.1 v0_3)), some (.int (J v1_3)), some (.int (J v2_3)), some (.int (J v3_3)), some (.int (J v4_2)), none, none] [] (Wd E s_11)) : ∀ (m : Nat) (v5_1 : Int) (s_8 : u_S), InR v5_1 → f_X11_closestOf_L32 m kx97 v0_3 v1_3 v2_3 v3_3 v4_2 v5_1 s_8 = some (r, s') → K 0 0 32 [some (.ref (E.1 v0_3)), some (.int (J v1_3)), some (.int (J v2_3)), some (.int (J v3_3)), some (.int (J v4_2)), some (.int (J v5_1)), none] [] (Wd E s_8) := by
  have g0 := g.wk
  intro m
  induction m with
  | zero =>
    intro v5_1 s_8 i_v5_1 h
    exact absurd (show (none : Option (Int × u_S)) = some (r, s') from h) (by intro z; cases z)
  | succ m ih =>
    intro v5_1 s_8 i_v5_1 h
    rw [f_X11_closestOf_L32] at h
    refine r_iload g0 dX11_closestOf_32 rfl ?_
    refine r_bipush g0 dX11_closestOf_34 rfl ?_
    refine r_icmp_gt g0 97 dX11_closestOf_36 (by decide) i_v5_1 (InR_lit rfl) (fun hc => ?_) (fun hc => ?_)
    · replace h := if_f hc h
      refine r_mask g0 (lv' := [some (.ref (E.1 v0_3)), some (.int (J v1_3)), some (.int (J v2_3)), some (.int (J v3_3)), some (.int (J v4_2)), none, none]) [true, true, true, true, true, false, false] rfl ?_
      exact hkx97 s_8 h
    · replace h := if_t hc h
      refine r_iload g0 dX11_closestOf_39 rfl ?_
      refine r_iconst g0 dX11_closestOf_41 ?_
      refine r_irem g0 dX11_closestOf_42 i_v5_1 (InR_lit rfl) (by decide) ?_
      obtain ⟨jp_1, hdjp_1, h⟩ := jn_some h
      have hjp_1 : ∀ (vt_1 : Int) (s_9 : u_S), InR vt_1 → jp_1 vt_1 s_9 = some (r, s') → K 0 0 60 [some (.ref (E.1 v0_3)), some (.int (J v1_3)), some (.int (J v2_3)), some (.int (J v3_3)), some (.int (J v4_2)), some (.int (J v5_1)), none] [.int (J vt_1)] (Wd E s_9) := by
        intro vt_1 s_9 i_vt_1 h
        subst hdjp_1
        refine r_istore g0 (lv' := [some (.ref (E.1 v0_3)), some (.int (J v1_3)), some (.int (J v2_3)), some (.int (J v3_3)), some (.int (J v4_2)), some (.int (J v5_1)), some (.int (J vt_1))]) dX11_closestOf_60 (by decide) rfl rfl ?_
        refine r_aload_n g0 dX11_closestOf_62 rfl ?_
        refine r_iload_n g0 dX11_closestOf_63 rfl ?_
        refine r_iload g0 dX11_closestOf_64 rfl ?_
        refine r_iload_n g0 dX11_closestOf_66 rfl ?_
        obtain ⟨r_3, s_10, hr_3, h⟩ := bd_some h
        refine r_cVZ g0 (rest := []) (c_X11_isFit i_v0_3 i_v1_3 i_vt_1 i_v3_3 hr_3) ok_X11_isFit mX11_240 (recv_Mo i_v0_3) dX11_closestOf_67 ⟨Nat.le_of_ble_eq_true rfl, Nat.le_of_ble_eq_true rfl⟩ ⟨Nat.zero_le _, Nat.zero_le _⟩ rfl (Nat.le_of_ble_eq_true rfl) rfl (fun i_r_3 => ?_)
        refine r_if_eq g0 91 dX11_closestOf_70 (by decide) (B01.inR i_r_3) (fun hc => ?_) (fun hc => ?_)
        · replace h := if_t hc h
          refine r_iinc g0 (a := v5_1) (lv' := [some (.ref (E.1 v0_3)), some (.int (J v1_3)), some (.int (J v2_3)), some (.int (J v3_3)), some (.int (J v4_2)), some (.int (J (wr (v5_1 + 1)))), some (.int (J vt_1))]) dX11_closestOf_91 (by decide) rfl rfl rfl ?_
          refine r_goto g0 32 dX11_closestOf_94 (by decide) ?_
          refine r_mask g0 (lv' := [some (.ref (E.1 v0_3)), some (.int (J v1_3)), some (.int (J v2_3)), some (.int (J v3_3)), some (.int (J v4_2)), some (.int (J (wr (v5_1 + 1)))), none]) [true, true, true, true, true, true, false] rfl ?_
          exact ih (wr (v5_1 + 1)) s_10 (InR_wr _) h
        · replace h := if_f hc h
          refine r_sipush g0 dX11_closestOf_73 rfl ?_
          refine r_iload_n g0 dX11_closestOf_76 rfl ?_
          refine r_imul g0 dX11_closestOf_77 ?_
          refine r_bipush g0 dX11_closestOf_78 rfl ?_
          refine r_iload g0 dX11_closestOf_80 rfl ?_
          refine r_imul g0 dX11_closestOf_82 ?_
          refine r_iadd g0 dX11_closestOf_83 ?_
          refine r_iload g0 dX11_closestOf_84 rfl ?_
          refine r_iadd g0 dX11_closestOf_86 ?_
          refine r_bipush g0 dX11_closestOf_87 rfl ?_
          refine r_iadd g0 dX11_closestOf_89 ?_
          exact z_I g dX11_closestOf_90 (InR_wr _) h
      clear hdjp_1
      refine r_if_ne g0 53 dX11_closestOf_43 (by decide) (InR_rem _ i_v5_1) (fun hc => ?_) (fun hc => ?_)
      · replace h := if_f hc h
        refine r_iload g0 dX11_closestOf_53 rfl ?_
        refine r_iconst g0 dX11_closestOf_55 ?_
        refine r_iadd g0 dX11_closestOf_56 ?_
        refine r_ineg g0 dX11_closestOf_57 ?_
        refine r_iconst g0 dX11_closestOf_58 ?_
        refine r_idiv g0 dX11_closestOf_59 (InR_wr _) (InR_lit rfl) (by decide) ?_
        exact hjp_1 (wr (Int.tdiv (wr (- (wr (v5_1 + 1)))) 2)) s_8 (InR_wr _) h
      · replace h := if_t hc h
        refine r_iload g0 dX11_closestOf_46 rfl ?_
        refine r_iconst g0 dX11_closestOf_48 ?_
        refine r_idiv g0 dX11_closestOf_49 i_v5_1 (InR_lit rfl) (by decide) ?_
        refine r_goto g0 60 dX11_closestOf_50 (by decide) ?_
        exact hjp_1 (wr (Int.tdiv v5_1 2)) s_8 (InR_wr _) h
set_option maxHeartbeats 4000000 in
set_option maxRecDepth 100000 in
theorem t_X11_closestOf_L16 {l : Launch} {E : u_E} {K : u_K} {r : Int} {s' : u_S} (g : Wk l (XE E) { frames := 4, cells := 0, slots := 0, locals := 94 } cX11_closestOf 7 yX11_closestOf.cls yX11_closestOf.name (some .int) (RI E r s') K) {v0_2 : u_O} {v1_2 : Int} {v2_2 : Int} {v3_2 : Int} (i_v0_2 : is_Mo v0_2) (i_v1_2 : InR v1_2) (i_v2_2 : InR v2_2) (i_v3_2 : InR v3_2) {kx103 : u_S → Option (Int × u_S)} (hkx103 : ∀ (s_12 : u_S), kx103 s_12 = some (r, s') → K 0 0 103 [some (.ref (E.1 v0_2)), some (.int (J v1_2)), some (.int (J v2_2)), some (.int (J v3_2)), none, none, none] [] (Wd E s_12)) : ∀ (m : Nat) (v4_1 : Int) (s_5 : u_S), InR v4_1 → f_X11_closestOf_L16 m kx103 v0_2 v1_2 v2_2 v3_2 v4_1 s_5 = some (r, s') → K 0 0 16 [some (.ref (E.1 v0_2)), some (.int (J v1_2)), some (.int (J v2_2)), some (.int (J v3_2)), some (.int (J v4_1)), none, none] [] (Wd E s_5) := by
  have g0 := g.wk
  intro m
  induction m with
  | zero =>
    intro v4_1 s_5 i_v4_1 h
    exact absurd (show (none : Option (Int × u_S)) = some (r, s') from h) (by intro z; cases z)
  | succ m ih =>
    intro v4_1 s_5 i_v4_1 h
    rw [f_X11_closestOf_L16] at h
    refine r_iload g0 dX11_closestOf_16 rfl ?_
    refine r_iconst g0 dX11_closestOf_18 ?_
    refine r_icmp_ge g0 103 dX11_closestOf_19 (by decide) i_v4_1 (InR_lit rfl) (fun hc => ?_) (fun hc => ?_)
    · replace h := if_f hc h
      refine r_mask g0 (lv' := [some (.ref (E.1 v0_2)), some (.int (J v1_2)), some (.int (J v2_2)), some (.int (J v3_2)), none, none, none]) [true, true, true, true, false, false, false] rfl ?_
      exact hkx103 s_5 h
    · replace h := if_t hc h
      refine r_aload_n g0 dX11_closestOf_22 rfl ?_
      refine r_iload_n g0 dX11_closestOf_23 rfl ?_
      refine r_iload g0 dX11_closestOf_24 rfl ?_
      obtain ⟨r_2, s_6, hr_2, h⟩ := bd_some h
      refine r_cVV g0 (rest := []) (c_X11_laysRows i_v0_2 i_v1_2 i_v4_1 hr_2) ok_X11_laysRows mX11_236 (recv_Mo i_v0_2) dX11_closestOf_26 ⟨Nat.le_of_ble_eq_true rfl, Nat.le_of_ble_eq_true rfl⟩ ⟨Nat.zero_le _, Nat.zero_le _⟩ rfl (Nat.le_of_ble_eq_true rfl) rfl ?_
      refine r_iconst g0 dX11_closestOf_29 ?_
      refine r_istore g0 (lv' := [some (.ref (E.1 v0_2)), some (.int (J v1_2)), some (.int (J v2_2)), some (.int (J v3_2)), some (.int (J v4_1)), some (.int (J 0)), none]) dX11_closestOf_30 (by decide) rfl rfl ?_
      refine t_X11_closestOf_L32 g i_v0_2 i_v1_2 i_v2_2 i_v3_2 i_v4_1 ?_ FU 0 s_6 (B01.inR B01_0) h
      · intro s_7 h
        refine r_iinc g0 (a := v4_1) (lv' := [some (.ref (E.1 v0_2)), some (.int (J v1_2)), some (.int (J v2_2)), some (.int (J v3_2)), some (.int (J (wr (v4_1 + 1)))), none, none]) dX11_closestOf_97 (by decide) rfl rfl rfl ?_
        refine r_goto g0 16 dX11_closestOf_100 (by decide) ?_
        exact ih (wr (v4_1 + 1)) s_7 (InR_wr _) h
set_option maxHeartbeats 4000000 in
set_option maxRecDepth 100000 in
theorem t_X11_closestOf_L8 {l : Launch} {E : u_E} {K : u_K} {r : Int} {s' : u_S} (g : Wk l (XE E) { frames := 4, cells := 0, slots := 0, locals := 94 } cX11_closestOf 7 yX11_closestOf.cls yX11_closestOf.name (some .int) (RI E r s') K) {v0_1 : u_O} {v1_1 : Int} {v2_1 : Int} (i_v0_1 : is_Mo v0_1) (i_v1_1 : InR v1_1) (i_v2_1 : InR v2_1) {kx109 : u_S → Option (Int × u_S)} (hkx109 : ∀ (s_13 : u_S), kx109 s_13 = some (r, s') → K 0 0 109 [none, none, none, none, none, none, none] [] (Wd E s_13)) : ∀ (m : Nat) (v3_1 : Int) (s_3 : u_S), InR v3_1 → f_X11_closestOf_L8 m kx109 v0_1 v1_1 v2_1 v3_1 s_3 = some (r, s') → K 0 0 8 [some (.ref (E.1 v0_1)), some (.int (J v1_1)), some (.int (J v2_1)), some (.int (J v3_1)), none, none, none] [] (Wd E s_3) := by
  have g0 := g.wk
  intro m
  induction m with
  | zero =>
    intro v3_1 s_3 i_v3_1 h
    exact absurd (show (none : Option (Int × u_S)) = some (r, s') from h) (by intro z; cases z)
  | succ m ih =>
    intro v3_1 s_3 i_v3_1 h
    rw [f_X11_closestOf_L8] at h
    refine r_iload_n g0 dX11_closestOf_8 rfl ?_
    refine r_iload_n g0 dX11_closestOf_9 rfl ?_
    refine r_icmp_ge g0 109 dX11_closestOf_10 (by decide) i_v3_1 i_v2_1 (fun hc => ?_) (fun hc => ?_)
    · replace h := if_f hc h
      refine r_mask g0 (lv' := [none, none, none, none, none, none, none]) [false, false, false, false, false, false, false] rfl ?_
      exact hkx109 s_3 h
    · replace h := if_t hc h
      refine r_iconst g0 dX11_closestOf_13 ?_
      refine r_istore g0 (lv' := [some (.ref (E.1 v0_1)), some (.int (J v1_1)), some (.int (J v2_1)), some (.int (J v3_1)), some (.int (J 0)), none, none]) dX11_closestOf_14 (by decide) rfl rfl ?_
      refine t_X11_closestOf_L16 g i_v0_1 i_v1_1 i_v2_1 i_v3_1 ?_ FU 0 s_3 (B01.inR B01_0) h
      · intro s_4 h
        refine r_iinc g0 (a := v3_1) (lv' := [some (.ref (E.1 v0_1)), some (.int (J v1_1)), some (.int (J v2_1)), some (.int (J (wr (v3_1 + 1)))), none, none, none]) dX11_closestOf_103 (by decide) rfl rfl rfl ?_
        refine r_goto g0 8 dX11_closestOf_106 (by decide) ?_
        exact ih (wr (v3_1 + 1)) s_4 (InR_wr _) h
set_option maxHeartbeats 4000000 in
set_option maxRecDepth 100000 in
theorem c_X11_closestOf {E : u_E} {l : Launch} {o : u_O} {p1 : Int} (ho : is_Mo o) (i_p1 : InR p1) {s s' : u_S} {r : Int} (h : f_X11_closestOf o p1 s = some (r, s')) : Con l (XE E) yX11_closestOf cX11_closestOf 7 (some .int) 4 94 0 0 [.ref (E.1 o), .int (J p1)] (Wd E s) (RI E r s') := by
  refine Con.of [some (.ref (E.1 o)), some (.int (J p1)), none, none, none, none, none] (by decide +kernel) rfl rfl (Nat.le_of_ble_eq_true rfl) (fun K g => ?_)
  have g0 := g.wk
  unfold f_X11_closestOf at h
  refine r_aload_n g0 dX11_closestOf_0 rfl ?_
  refine r_iload_n g0 dX11_closestOf_1 rfl ?_
  obtain ⟨r_1, s_1, hr_1, h⟩ := bd_some h
  refine r_cVI g0 (rest := []) (c_X11_length ho i_p1 hr_1) ok_X11_length mX11_128 (recv_Mo ho) dX11_closestOf_2 ⟨Nat.le_of_ble_eq_true rfl, Nat.le_of_ble_eq_true rfl⟩ ⟨Nat.zero_le _, Nat.zero_le _⟩ rfl (Nat.le_of_ble_eq_true rfl) rfl (fun i_r_1 => ?_)
  refine r_istore_n g0 (lv' := [some (.ref (E.1 o)), some (.int (J p1)), some (.int (J r_1)), none, none, none, none]) dX11_closestOf_5 (by decide) rfl rfl ?_
  refine r_iconst g0 dX11_closestOf_6 ?_
  refine r_istore_n g0 (lv' := [some (.ref (E.1 o)), some (.int (J p1)), some (.int (J r_1)), some (.int (J 1)), none, none, none]) dX11_closestOf_7 (by decide) rfl rfl ?_
  refine t_X11_closestOf_L8 g ho i_p1 i_r_1 ?_ FU 1 s_1 (B01.inR B01_1) h
  · intro s_2 h
    refine r_iconst g0 dX11_closestOf_109 ?_
    exact z_I g dX11_closestOf_110 (InR_lit rfl) h
theorem dX11_closest_0 : decode cX11_closest 0 = .ok (.iload_n 1, 1) := by decide +kernel
theorem dX11_closest_1 : decode cX11_closest 1 = .ok (.invokestatic 82, 3) := by decide +kernel
theorem dX11_closest_4 : decode cX11_closest 4 = .ok (.ifCond .eq 15, 3) := by decide +kernel
theorem dX11_closest_7 : decode cX11_closest 7 = .ok (.iload_n 2, 1) := by decide +kernel
theorem dX11_closest_8 : decode cX11_closest 8 = .ok (.i2l, 1) := by decide +kernel
theorem dX11_closest_9 : decode cX11_closest 9 = .ok (.lconst 0, 1) := by decide +kernel
theorem dX11_closest_10 : decode cX11_closest 10 = .ok (.ldc2_w 223, 3) := by decide +kernel
theorem dX11_closest_13 : decode cX11_closest 13 = .ok (.invokestatic 61, 3) := by decide +kernel
theorem dX11_closest_16 : decode cX11_closest 16 = .ok (.ifCond .ne 10, 3) := by decide +kernel
theorem dX11_closest_19 : decode cX11_closest 19 = .ok (.aload_n 0, 1) := by decide +kernel
theorem dX11_closest_20 : decode cX11_closest 20 = .ok (.bipush (-2), 2) := by decide +kernel
theorem dX11_closest_22 : decode cX11_closest 22 = .ok (.invokevirtual 97, 3) := by decide +kernel
theorem dX11_closest_25 : decode cX11_closest 25 = .ok (.ireturn, 1) := by decide +kernel
theorem dX11_closest_26 : decode cX11_closest 26 = .ok (.aload_n 0, 1) := by decide +kernel
theorem dX11_closest_27 : decode cX11_closest 27 = .ok (.iload_n 1, 1) := by decide +kernel
theorem dX11_closest_28 : decode cX11_closest 28 = .ok (.invokevirtual 243, 3) := by decide +kernel
theorem dX11_closest_31 : decode cX11_closest 31 = .ok (.istore_n 3, 1) := by decide +kernel
theorem dX11_closest_32 : decode cX11_closest 32 = .ok (.iload_n 3, 1) := by decide +kernel
theorem dX11_closest_33 : decode cX11_closest 33 = .ok (.iconst (-1), 1) := by decide +kernel
theorem dX11_closest_34 : decode cX11_closest 34 = .ok (.if_icmp .ne 7, 3) := by decide +kernel
theorem dX11_closest_37 : decode cX11_closest 37 = .ok (.iconst (-1), 1) := by decide +kernel
theorem dX11_closest_38 : decode cX11_closest 38 = .ok (.goto 34, 3) := by decide +kernel
theorem dX11_closest_41 : decode cX11_closest 41 = .ok (.iload_n 2, 1) := by decide +kernel
theorem dX11_closest_42 : decode cX11_closest 42 = .ok (.ifCond .ne 11, 3) := by decide +kernel
theorem dX11_closest_45 : decode cX11_closest 45 = .ok (.iload_n 3, 1) := by decide +kernel
theorem dX11_closest_46 : decode cX11_closest 46 = .ok (.sipush 1000, 3) := by decide +kernel
theorem dX11_closest_49 : decode cX11_closest 49 = .ok (.idiv, 1) := by decide +kernel
theorem dX11_closest_50 : decode cX11_closest 50 = .ok (.goto 22, 3) := by decide +kernel
theorem dX11_closest_53 : decode cX11_closest 53 = .ok (.iload_n 2, 1) := by decide +kernel
theorem dX11_closest_54 : decode cX11_closest 54 = .ok (.iconst 1, 1) := by decide +kernel
theorem dX11_closest_55 : decode cX11_closest 55 = .ok (.if_icmp .ne 13, 3) := by decide +kernel
theorem dX11_closest_58 : decode cX11_closest 58 = .ok (.iload_n 3, 1) := by decide +kernel
theorem dX11_closest_59 : decode cX11_closest 59 = .ok (.bipush 100, 2) := by decide +kernel
theorem dX11_closest_61 : decode cX11_closest 61 = .ok (.idiv, 1) := by decide +kernel
theorem dX11_closest_62 : decode cX11_closest 62 = .ok (.bipush 10, 2) := by decide +kernel
theorem dX11_closest_64 : decode cX11_closest 64 = .ok (.irem, 1) := by decide +kernel
theorem dX11_closest_65 : decode cX11_closest 65 = .ok (.goto 7, 3) := by decide +kernel
theorem dX11_closest_68 : decode cX11_closest 68 = .ok (.iload_n 3, 1) := by decide +kernel
theorem dX11_closest_69 : decode cX11_closest 69 = .ok (.bipush 100, 2) := by decide +kernel
theorem dX11_closest_71 : decode cX11_closest 71 = .ok (.irem, 1) := by decide +kernel
theorem dX11_closest_72 : decode cX11_closest 72 = .ok (.ireturn, 1) := by decide +kernel
set_option maxHeartbeats 4000000 in
set_option maxRecDepth 100000 in
theorem c_X11_closest {E : u_E} {l : Launch} {o : u_O} {p1 : Int} {p2 : Int} (ho : is_Mo o) (i_p1 : InR p1) (i_p2 : InR p2) {s s' : u_S} {r : Int} (h : f_X11_closest o p1 p2 s = some (r, s')) : Con l (XE E) yX11_closest cX11_closest 4 (some .int) 5 120 0 0 [.ref (E.1 o), .int (J p1), .int (J p2)] (Wd E s) (RI E r s') := by
  refine Con.of [some (.ref (E.1 o)), some (.int (J p1)), some (.int (J p2)), none] (by decide +kernel) rfl rfl (Nat.le_of_ble_eq_true rfl) (fun K g => ?_)
  have g0 := g.wk
  unfold f_X11_closest at h
  refine r_iload_n g0 dX11_closest_0 rfl ?_
  obtain ⟨r_1, s_1, hr_1, h⟩ := bd_some h
  refine r_cSZ g0 (rest := []) (c_X11_isLine i_p1 hr_1) ok_X11_isLine mX11_82 dX11_closest_1 ⟨Nat.le_of_ble_eq_true rfl, Nat.le_of_ble_eq_true rfl⟩ ⟨Nat.zero_le _, Nat.zero_le _⟩ rfl (Nat.le_of_ble_eq_true rfl) rfl (fun i_r_1 => ?_)
  obtain ⟨jp_1, hdjp_1, h⟩ := jn_some h
  have hjp_1 : ∀  (s_2 : u_S), jp_1 s_2 = some (r, s') → K 0 0 19 [some (.ref (E.1 o)), none, none, none] [] (Wd E s_2) := by
    intro s_2 h
    subst hdjp_1
    refine r_aload_n g0 dX11_closest_19 rfl ?_
    refine r_bipush g0 dX11_closest_20 rfl ?_
    obtain ⟨r_2, s_3, hr_2, h⟩ := bd_some h
    refine r_cVI g0 (rest := []) (c_X11_refuses ho (InR_lit rfl) hr_2) ok_X11_refuses mX11_97 (recv_Mo ho) dX11_closest_22 ⟨Nat.le_of_ble_eq_true rfl, Nat.le_of_ble_eq_true rfl⟩ ⟨Nat.zero_le _, Nat.zero_le _⟩ rfl (Nat.le_of_ble_eq_true rfl) rfl (fun i_r_2 => ?_)
    exact z_I g dX11_closest_25 i_r_2 h
  clear hdjp_1
  refine r_if_eq g0 19 dX11_closest_4 (by decide) (B01.inR i_r_1) (fun hc => ?_) (fun hc => ?_)
  · replace h := if_t hc h
    refine r_mask g0 (lv' := [some (.ref (E.1 o)), none, none, none]) [true, false, false, false] rfl ?_
    exact hjp_1 s_1 h
  · replace h := if_f hc h
    refine r_iload_n g0 dX11_closest_7 rfl ?_
    refine r_i2l g0 dX11_closest_8 i_p2 ?_
    refine r_lconst g0 (v := 0) dX11_closest_9 rfl ?_
    refine r_ldc2 g0 (v := 2) dX11_closest_10 kX11_223 ?_
    obtain ⟨r_3, s_4, hr_3, h⟩ := bd_some h
    refine r_cSZ g0 (rest := []) (c_X11_in (InL_i i_p2) (InL_lit rfl) (InL_lit rfl) hr_3) ok_X11_in mX11_61 dX11_closest_13 ⟨Nat.le_of_ble_eq_true rfl, Nat.le_of_ble_eq_true rfl⟩ ⟨Nat.zero_le _, Nat.zero_le _⟩ rfl (Nat.le_of_ble_eq_true rfl) rfl (fun i_r_3 => ?_)
    refine r_if_ne g0 26 dX11_closest_16 (by decide) (B01.inR i_r_3) (fun hc => ?_) (fun hc => ?_)
    · replace h := if_f hc h
      refine r_aload_n g0 dX11_closest_26 rfl ?_
      refine r_iload_n g0 dX11_closest_27 rfl ?_
      obtain ⟨r_4, s_5, hr_4, h⟩ := bd_some h
      refine r_cVI g0 (rest := []) (c_X11_closestOf ho i_p1 hr_4) ok_X11_closestOf mX11_243 (recv_Mo ho) dX11_closest_28 ⟨Nat.le_of_ble_eq_true rfl, Nat.le_of_ble_eq_true rfl⟩ ⟨Nat.zero_le _, Nat.zero_le _⟩ rfl (Nat.le_of_ble_eq_true rfl) rfl (fun i_r_4 => ?_)
      refine r_istore_n g0 (lv' := [some (.ref (E.1 o)), some (.int (J p1)), some (.int (J p2)), some (.int (J r_4))]) dX11_closest_31 (by decide) rfl rfl ?_
      refine r_iload_n g0 dX11_closest_32 rfl ?_
      refine r_iconst g0 dX11_closest_33 ?_
      refine r_icmp_ne g0 41 dX11_closest_34 (by decide) i_r_4 (InR_lit rfl) (fun hc => ?_) (fun hc => ?_)
      · replace h := if_f hc h
        refine r_iload_n g0 dX11_closest_41 rfl ?_
        refine r_if_ne g0 53 dX11_closest_42 (by decide) i_p2 (fun hc => ?_) (fun hc => ?_)
        · replace h := if_f hc h
          refine r_iload_n g0 dX11_closest_53 rfl ?_
          refine r_iconst g0 dX11_closest_54 ?_
          refine r_icmp_ne g0 68 dX11_closest_55 (by decide) i_p2 (B01.inR B01_1) (fun hc => ?_) (fun hc => ?_)
          · replace h := if_f hc h
            refine r_iload_n g0 dX11_closest_68 rfl ?_
            refine r_bipush g0 dX11_closest_69 rfl ?_
            refine r_irem g0 dX11_closest_71 i_r_4 (InR_lit rfl) (by decide) ?_
            exact z_I g dX11_closest_72 (InR_rem _ i_r_4) h
          · replace h := if_t hc h
            refine r_iload_n g0 dX11_closest_58 rfl ?_
            refine r_bipush g0 dX11_closest_59 rfl ?_
            refine r_idiv g0 dX11_closest_61 i_r_4 (InR_lit rfl) (by decide) ?_
            refine r_bipush g0 dX11_closest_62 rfl ?_
            refine r_irem g0 dX11_closest_64 (InR_wr _) (InR_lit rfl) (by decide) ?_
            refine r_goto g0 72 dX11_closest_65 (by decide) ?_
            exact z_I g dX11_closest_72 (InR_rem _ (InR_wr _)) h
        · replace h := if_t hc h
          refine r_iload_n g0 dX11_closest_45 rfl ?_
          refine r_sipush g0 dX11_closest_46 rfl ?_
          refine r_idiv g0 dX11_closest_49 i_r_4 (InR_lit rfl) (by decide) ?_
          refine r_goto g0 72 dX11_closest_50 (by decide) ?_
          exact z_I g dX11_closest_72 (InR_wr _) h
      · replace h := if_t hc h
        refine r_iconst g0 dX11_closest_37 ?_
        refine r_goto g0 72 dX11_closest_38 (by decide) ?_
        exact z_I g dX11_closest_72 (InR_lit rfl) h
    · replace h := if_t hc h
      refine r_mask g0 (lv' := [some (.ref (E.1 o)), none, none, none]) [true, false, false, false] rfl ?_
      exact hjp_1 s_4 h
theorem dX11_inverts_0 : decode cX11_inverts 0 = .ok (.aload_n 0, 1) := by decide +kernel
theorem dX11_inverts_1 : decode cX11_inverts 1 = .ok (.getfield 22, 3) := by decide +kernel
theorem dX11_inverts_4 : decode cX11_inverts 4 = .ok (.iload_n 2, 1) := by decide +kernel
theorem dX11_inverts_5 : decode cX11_inverts 5 = .ok (.iconst 0, 1) := by decide +kernel
theorem dX11_inverts_6 : decode cX11_inverts 6 = .ok (.iload_n 3, 1) := by decide +kernel
theorem dX11_inverts_7 : decode cX11_inverts 7 = .ok (.iconst 0, 1) := by decide +kernel
theorem dX11_inverts_8 : decode cX11_inverts 8 = .ok (.invokestatic 197, 3) := by decide +kernel
theorem dX11_inverts_11 : decode cX11_inverts 11 = .ok (.aload_n 0, 1) := by decide +kernel
theorem dX11_inverts_12 : decode cX11_inverts 12 = .ok (.getfield 25, 3) := by decide +kernel
theorem dX11_inverts_15 : decode cX11_inverts 15 = .ok (.iload_n 1, 1) := by decide +kernel
theorem dX11_inverts_16 : decode cX11_inverts 16 = .ok (.iconst 0, 1) := by decide +kernel
theorem dX11_inverts_17 : decode cX11_inverts 17 = .ok (.iconst 0, 1) := by decide +kernel
theorem dX11_inverts_18 : decode cX11_inverts 18 = .ok (.iconst 0, 1) := by decide +kernel
theorem dX11_inverts_19 : decode cX11_inverts 19 = .ok (.invokestatic 197, 3) := by decide +kernel
theorem dX11_inverts_22 : decode cX11_inverts 22 = .ok (.aload_n 0, 1) := by decide +kernel
theorem dX11_inverts_23 : decode cX11_inverts 23 = .ok (.invokevirtual 204, 3) := by decide +kernel
theorem dX11_inverts_26 : decode cX11_inverts 26 = .ok (.return_, 1) := by decide +kernel
set_option maxHeartbeats 4000000 in
set_option maxRecDepth 100000 in
theorem c_X11_inverts {E : u_E} {l : Launch} {o : u_O} {p1 : Int} {p2 : Int} {p3 : Int} (ho : is_Mo o) (i_p1 : InR p1) (i_p2 : InR p2) (i_p3 : InR p3) {s s' : u_S} {r : Int} (h : f_X11_inverts o p1 p2 p3 s = some (r, s')) : Con l (XE E) yX11_inverts cX11_inverts 4 none 6 149 0 0 [.ref (E.1 o), .int (J p1), .int (J p2), .int (J p3)] (Wd E s) (RV E r s') := by
  refine Con.of [some (.ref (E.1 o)), some (.int (J p1)), some (.int (J p2)), some (.int (J p3))] (by decide +kernel) rfl rfl (Nat.le_of_ble_eq_true rfl) (fun K g => ?_)
  have g0 := g.wk
  unfold f_X11_inverts at h
  refine r_aload_n g0 dX11_inverts_0 rfl ?_
  refine g_Mo_upper g0 ho qX11_22 dX11_inverts_1 ?_
  refine r_iload_n g0 dX11_inverts_4 rfl ?_
  refine r_iconst g0 dX11_inverts_5 ?_
  refine r_iload_n g0 dX11_inverts_6 rfl ?_
  refine r_iconst g0 dX11_inverts_7 ?_
  obtain ⟨r_1, s_1, hr_1, h⟩ := bd_some h
  refine r_cSV g0 (rest := []) (c_X11_puts (is_a_Mo_upper ho) i_p2 (B01.inR B01_0) i_p3 (B01.inR B01_0) hr_1) ok_X11_puts mX11_197 dX11_inverts_8 ⟨Nat.le_of_ble_eq_true rfl, Nat.le_of_ble_eq_true rfl⟩ ⟨Nat.zero_le _, Nat.zero_le _⟩ rfl (Nat.le_of_ble_eq_true rfl) rfl ?_
  refine r_aload_n g0 dX11_inverts_11 rfl ?_
  refine g_Mo_lower g0 ho qX11_25 dX11_inverts_12 ?_
  refine r_iload_n g0 dX11_inverts_15 rfl ?_
  refine r_iconst g0 dX11_inverts_16 ?_
  refine r_iconst g0 dX11_inverts_17 ?_
  refine r_iconst g0 dX11_inverts_18 ?_
  obtain ⟨r_2, s_2, hr_2, h⟩ := bd_some h
  refine r_cSV g0 (rest := []) (c_X11_puts (is_a_Mo_lower ho) i_p1 (B01.inR B01_0) (B01.inR B01_0) (B01.inR B01_0) hr_2) ok_X11_puts mX11_197 dX11_inverts_19 ⟨Nat.le_of_ble_eq_true rfl, Nat.le_of_ble_eq_true rfl⟩ ⟨Nat.zero_le _, Nat.zero_le _⟩ rfl (Nat.le_of_ble_eq_true rfl) rfl ?_
  refine r_aload_n g0 dX11_inverts_22 rfl ?_
  obtain ⟨r_3, s_3, hr_3, h⟩ := bd_some h
  refine r_cVV g0 (rest := []) (c_X11_countsAll ho hr_3) ok_X11_countsAll mX11_204 (recv_Mo ho) dX11_inverts_23 ⟨Nat.le_of_ble_eq_true rfl, Nat.le_of_ble_eq_true rfl⟩ ⟨Nat.zero_le _, Nat.zero_le _⟩ rfl (Nat.le_of_ble_eq_true rfl) rfl ?_
  exact z_V g dX11_inverts_26 h
theorem dX11_inverted_0 : decode cX11_inverted 0 = .ok (.iload_n 1, 1) := by decide +kernel
theorem dX11_inverted_1 : decode cX11_inverted 1 = .ok (.invokestatic 82, 3) := by decide +kernel
theorem dX11_inverted_4 : decode cX11_inverted 4 = .ok (.ifCond .eq 40, 3) := by decide +kernel
theorem dX11_inverted_7 : decode cX11_inverted 7 = .ok (.iload_n 2, 1) := by decide +kernel
theorem dX11_inverted_8 : decode cX11_inverted 8 = .ok (.invokestatic 82, 3) := by decide +kernel
theorem dX11_inverted_11 : decode cX11_inverted 11 = .ok (.ifCond .eq 33, 3) := by decide +kernel
theorem dX11_inverted_14 : decode cX11_inverted 14 = .ok (.iload_n 1, 1) := by decide +kernel
theorem dX11_inverted_15 : decode cX11_inverted 15 = .ok (.iload_n 2, 1) := by decide +kernel
theorem dX11_inverted_16 : decode cX11_inverted 16 = .ok (.if_icmp .eq 28, 3) := by decide +kernel
theorem dX11_inverted_19 : decode cX11_inverted 19 = .ok (.iload_n 3, 1) := by decide +kernel
theorem dX11_inverted_20 : decode cX11_inverted 20 = .ok (.i2l, 1) := by decide +kernel
theorem dX11_inverted_21 : decode cX11_inverted 21 = .ok (.lconst 0, 1) := by decide +kernel
theorem dX11_inverted_22 : decode cX11_inverted 22 = .ok (.ldc2_w 246, 3) := by decide +kernel
theorem dX11_inverted_25 : decode cX11_inverted 25 = .ok (.invokestatic 61, 3) := by decide +kernel
theorem dX11_inverted_28 : decode cX11_inverted 28 = .ok (.ifCond .eq 16, 3) := by decide +kernel
theorem dX11_inverted_31 : decode cX11_inverted 31 = .ok (.iload 4, 2) := by decide +kernel
theorem dX11_inverted_33 : decode cX11_inverted 33 = .ok (.i2l, 1) := by decide +kernel
theorem dX11_inverted_34 : decode cX11_inverted 34 = .ok (.lconst 0, 1) := by decide +kernel
theorem dX11_inverted_35 : decode cX11_inverted 35 = .ok (.ldc2_w 59, 3) := by decide +kernel
theorem dX11_inverted_38 : decode cX11_inverted 38 = .ok (.invokestatic 61, 3) := by decide +kernel
theorem dX11_inverted_41 : decode cX11_inverted 41 = .ok (.ifCond .ne 10, 3) := by decide +kernel
theorem dX11_inverted_44 : decode cX11_inverted 44 = .ok (.aload_n 0, 1) := by decide +kernel
theorem dX11_inverted_45 : decode cX11_inverted 45 = .ok (.bipush (-2), 2) := by decide +kernel
theorem dX11_inverted_47 : decode cX11_inverted 47 = .ok (.invokevirtual 97, 3) := by decide +kernel
theorem dX11_inverted_50 : decode cX11_inverted 50 = .ok (.ireturn, 1) := by decide +kernel
theorem dX11_inverted_51 : decode cX11_inverted 51 = .ok (.aload_n 0, 1) := by decide +kernel
theorem dX11_inverted_52 : decode cX11_inverted 52 = .ok (.iload_n 1, 1) := by decide +kernel
theorem dX11_inverted_53 : decode cX11_inverted 53 = .ok (.iload_n 2, 1) := by decide +kernel
theorem dX11_inverted_54 : decode cX11_inverted 54 = .ok (.iload_n 3, 1) := by decide +kernel
theorem dX11_inverted_55 : decode cX11_inverted 55 = .ok (.invokevirtual 248, 3) := by decide +kernel
theorem dX11_inverted_58 : decode cX11_inverted 58 = .ok (.iload 4, 2) := by decide +kernel
theorem dX11_inverted_60 : decode cX11_inverted 60 = .ok (.iconst 3, 1) := by decide +kernel
theorem dX11_inverted_61 : decode cX11_inverted 61 = .ok (.if_icmp .ge 13, 3) := by decide +kernel
theorem dX11_inverted_64 : decode cX11_inverted 64 = .ok (.aload_n 0, 1) := by decide +kernel
theorem dX11_inverted_65 : decode cX11_inverted 65 = .ok (.getfield 28, 3) := by decide +kernel
theorem dX11_inverted_68 : decode cX11_inverted 68 = .ok (.iload 4, 2) := by decide +kernel
theorem dX11_inverted_70 : decode cX11_inverted 70 = .ok (.iaload, 1) := by decide +kernel
theorem dX11_inverted_71 : decode cX11_inverted 71 = .ok (.goto 31, 3) := by decide +kernel
theorem dX11_inverted_74 : decode cX11_inverted 74 = .ok (.aload_n 0, 1) := by decide +kernel
theorem dX11_inverted_75 : decode cX11_inverted 75 = .ok (.getfield 28, 3) := by decide +kernel
theorem dX11_inverted_78 : decode cX11_inverted 78 = .ok (.iconst 0, 1) := by decide +kernel
theorem dX11_inverted_79 : decode cX11_inverted 79 = .ok (.iaload, 1) := by decide +kernel
theorem dX11_inverted_80 : decode cX11_inverted 80 = .ok (.aload_n 0, 1) := by decide +kernel
theorem dX11_inverted_81 : decode cX11_inverted 81 = .ok (.getfield 28, 3) := by decide +kernel
theorem dX11_inverted_84 : decode cX11_inverted 84 = .ok (.iconst 1, 1) := by decide +kernel
theorem dX11_inverted_85 : decode cX11_inverted 85 = .ok (.iaload, 1) := by decide +kernel
theorem dX11_inverted_86 : decode cX11_inverted 86 = .ok (.iadd, 1) := by decide +kernel
theorem dX11_inverted_87 : decode cX11_inverted 87 = .ok (.aload_n 0, 1) := by decide +kernel
theorem dX11_inverted_88 : decode cX11_inverted 88 = .ok (.getfield 28, 3) := by decide +kernel
theorem dX11_inverted_91 : decode cX11_inverted 91 = .ok (.iconst 2, 1) := by decide +kernel
theorem dX11_inverted_92 : decode cX11_inverted 92 = .ok (.iaload, 1) := by decide +kernel
theorem dX11_inverted_93 : decode cX11_inverted 93 = .ok (.iadd, 1) := by decide +kernel
theorem dX11_inverted_94 : decode cX11_inverted 94 = .ok (.ifCond .ne 7, 3) := by decide +kernel
theorem dX11_inverted_97 : decode cX11_inverted 97 = .ok (.iconst 1, 1) := by decide +kernel
theorem dX11_inverted_98 : decode cX11_inverted 98 = .ok (.goto 4, 3) := by decide +kernel
theorem dX11_inverted_101 : decode cX11_inverted 101 = .ok (.iconst 0, 1) := by decide +kernel
theorem dX11_inverted_102 : decode cX11_inverted 102 = .ok (.ireturn, 1) := by decide +kernel
set_option maxHeartbeats 4000000 in
set_option maxRecDepth 100000 in
theorem c_X11_inverted {E : u_E} {l : Launch} {o : u_O} {p1 : Int} {p2 : Int} {p3 : Int} {p4 : Int} (ho : is_Mo o) (i_p1 : InR p1) (i_p2 : InR p2) (i_p3 : InR p3) (i_p4 : InR p4) {s s' : u_S} {r : Int} (h : f_X11_inverted o p1 p2 p3 p4 s = some (r, s')) : Con l (XE E) yX11_inverted cX11_inverted 5 (some .int) 7 172 0 0 [.ref (E.1 o), .int (J p1), .int (J p2), .int (J p3), .int (J p4)] (Wd E s) (RI E r s') := by
  refine Con.of [some (.ref (E.1 o)), some (.int (J p1)), some (.int (J p2)), some (.int (J p3)), some (.int (J p4))] (by decide +kernel) rfl rfl (Nat.le_of_ble_eq_true rfl) (fun K g => ?_)
  have g0 := g.wk
  unfold f_X11_inverted at h
  refine r_iload_n g0 dX11_inverted_0 rfl ?_
  obtain ⟨r_1, s_1, hr_1, h⟩ := bd_some h
  refine r_cSZ g0 (rest := []) (c_X11_isLine i_p1 hr_1) ok_X11_isLine mX11_82 dX11_inverted_1 ⟨Nat.le_of_ble_eq_true rfl, Nat.le_of_ble_eq_true rfl⟩ ⟨Nat.zero_le _, Nat.zero_le _⟩ rfl (Nat.le_of_ble_eq_true rfl) rfl (fun i_r_1 => ?_)
  obtain ⟨jp_1, hdjp_1, h⟩ := jn_some h
  have hjp_1 : ∀  (s_2 : u_S), jp_1 s_2 = some (r, s') → K 0 0 44 [some (.ref (E.1 o)), none, none, none, none] [] (Wd E s_2) := by
    intro s_2 h
    subst hdjp_1
    refine r_aload_n g0 dX11_inverted_44 rfl ?_
    refine r_bipush g0 dX11_inverted_45 rfl ?_
    obtain ⟨r_2, s_3, hr_2, h⟩ := bd_some h
    refine r_cVI g0 (rest := []) (c_X11_refuses ho (InR_lit rfl) hr_2) ok_X11_refuses mX11_97 (recv_Mo ho) dX11_inverted_47 ⟨Nat.le_of_ble_eq_true rfl, Nat.le_of_ble_eq_true rfl⟩ ⟨Nat.zero_le _, Nat.zero_le _⟩ rfl (Nat.le_of_ble_eq_true rfl) rfl (fun i_r_2 => ?_)
    exact z_I g dX11_inverted_50 i_r_2 h
  clear hdjp_1
  refine r_if_eq g0 44 dX11_inverted_4 (by decide) (B01.inR i_r_1) (fun hc => ?_) (fun hc => ?_)
  · replace h := if_t hc h
    refine r_mask g0 (lv' := [some (.ref (E.1 o)), none, none, none, none]) [true, false, false, false, false] rfl ?_
    exact hjp_1 s_1 h
  · replace h := if_f hc h
    refine r_iload_n g0 dX11_inverted_7 rfl ?_
    obtain ⟨r_3, s_4, hr_3, h⟩ := bd_some h
    refine r_cSZ g0 (rest := []) (c_X11_isLine i_p2 hr_3) ok_X11_isLine mX11_82 dX11_inverted_8 ⟨Nat.le_of_ble_eq_true rfl, Nat.le_of_ble_eq_true rfl⟩ ⟨Nat.zero_le _, Nat.zero_le _⟩ rfl (Nat.le_of_ble_eq_true rfl) rfl (fun i_r_3 => ?_)
    refine r_if_eq g0 44 dX11_inverted_11 (by decide) (B01.inR i_r_3) (fun hc => ?_) (fun hc => ?_)
    · replace h := if_t hc h
      refine r_mask g0 (lv' := [some (.ref (E.1 o)), none, none, none, none]) [true, false, false, false, false] rfl ?_
      exact hjp_1 s_4 h
    · replace h := if_f hc h
      refine r_iload_n g0 dX11_inverted_14 rfl ?_
      refine r_iload_n g0 dX11_inverted_15 rfl ?_
      refine r_icmp_eq g0 44 dX11_inverted_16 (by decide) i_p1 i_p2 (fun hc => ?_) (fun hc => ?_)
      · replace h := if_t hc h
        refine r_mask g0 (lv' := [some (.ref (E.1 o)), none, none, none, none]) [true, false, false, false, false] rfl ?_
        exact hjp_1 s_4 h
      · replace h := if_f hc h
        refine r_iload_n g0 dX11_inverted_19 rfl ?_
        refine r_i2l g0 dX11_inverted_20 i_p3 ?_
        refine r_lconst g0 (v := 0) dX11_inverted_21 rfl ?_
        refine r_ldc2 g0 (v := 20) dX11_inverted_22 kX11_246 ?_
        obtain ⟨r_4, s_5, hr_4, h⟩ := bd_some h
        refine r_cSZ g0 (rest := []) (c_X11_in (InL_i i_p3) (InL_lit rfl) (InL_lit rfl) hr_4) ok_X11_in mX11_61 dX11_inverted_25 ⟨Nat.le_of_ble_eq_true rfl, Nat.le_of_ble_eq_true rfl⟩ ⟨Nat.zero_le _, Nat.zero_le _⟩ rfl (Nat.le_of_ble_eq_true rfl) rfl (fun i_r_4 => ?_)
        refine r_if_eq g0 44 dX11_inverted_28 (by decide) (B01.inR i_r_4) (fun hc => ?_) (fun hc => ?_)
        · replace h := if_t hc h
          refine r_mask g0 (lv' := [some (.ref (E.1 o)), none, none, none, none]) [true, false, false, false, false] rfl ?_
          exact hjp_1 s_5 h
        · replace h := if_f hc h
          refine r_iload g0 dX11_inverted_31 rfl ?_
          refine r_i2l g0 dX11_inverted_33 i_p4 ?_
          refine r_lconst g0 (v := 0) dX11_inverted_34 rfl ?_
          refine r_ldc2 g0 (v := 3) dX11_inverted_35 kX11_59 ?_
          obtain ⟨r_5, s_6, hr_5, h⟩ := bd_some h
          refine r_cSZ g0 (rest := []) (c_X11_in (InL_i i_p4) (InL_lit rfl) (InL_lit rfl) hr_5) ok_X11_in mX11_61 dX11_inverted_38 ⟨Nat.le_of_ble_eq_true rfl, Nat.le_of_ble_eq_true rfl⟩ ⟨Nat.zero_le _, Nat.zero_le _⟩ rfl (Nat.le_of_ble_eq_true rfl) rfl (fun i_r_5 => ?_)
          refine r_if_ne g0 51 dX11_inverted_41 (by decide) (B01.inR i_r_5) (fun hc => ?_) (fun hc => ?_)
          · replace h := if_f hc h
            refine r_aload_n g0 dX11_inverted_51 rfl ?_
            refine r_iload_n g0 dX11_inverted_52 rfl ?_
            refine r_iload_n g0 dX11_inverted_53 rfl ?_
            refine r_iload_n g0 dX11_inverted_54 rfl ?_
            obtain ⟨r_6, s_7, hr_6, h⟩ := bd_some h
            refine r_cVV g0 (rest := []) (c_X11_inverts ho i_p1 i_p2 i_p3 hr_6) ok_X11_inverts mX11_248 (recv_Mo ho) dX11_inverted_55 ⟨Nat.le_of_ble_eq_true rfl, Nat.le_of_ble_eq_true rfl⟩ ⟨Nat.zero_le _, Nat.zero_le _⟩ rfl (Nat.le_of_ble_eq_true rfl) rfl ?_
            refine r_iload g0 dX11_inverted_58 rfl ?_
            refine r_iconst g0 dX11_inverted_60 ?_
            refine r_icmp_ge g0 74 dX11_inverted_61 (by decide) i_p4 (InR_lit rfl) (fun hc => ?_) (fun hc => ?_)
            · replace h := if_f hc h
              refine r_aload_n g0 dX11_inverted_74 rfl ?_
              refine g_Mo_counted g0 ho qX11_28 dX11_inverted_75 ?_
              refine r_iconst g0 dX11_inverted_78 ?_
              obtain ⟨hb, h⟩ := gd_some h
              refine r_iaload g0 (is_a_Mo_counted ho) (n := 3) rfl (B01.inR B01_0) hb dX11_inverted_79 ?_
              refine r_aload_n g0 dX11_inverted_80 rfl ?_
              refine g_Mo_counted g0 ho qX11_28 dX11_inverted_81 ?_
              refine r_iconst g0 dX11_inverted_84 ?_
              obtain ⟨hb, h⟩ := gd_some h
              refine r_iaload g0 (is_a_Mo_counted ho) (n := 3) rfl (B01.inR B01_1) hb dX11_inverted_85 ?_
              refine r_iadd g0 dX11_inverted_86 ?_
              refine r_aload_n g0 dX11_inverted_87 rfl ?_
              refine g_Mo_counted g0 ho qX11_28 dX11_inverted_88 ?_
              refine r_iconst g0 dX11_inverted_91 ?_
              obtain ⟨hb, h⟩ := gd_some h
              refine r_iaload g0 (is_a_Mo_counted ho) (n := 3) rfl (InR_lit rfl) hb dX11_inverted_92 ?_
              refine r_iadd g0 dX11_inverted_93 ?_
              refine r_if_ne g0 101 dX11_inverted_94 (by decide) (InR_wr _) (fun hc => ?_) (fun hc => ?_)
              · replace h := if_f hc h
                refine r_iconst g0 dX11_inverted_101 ?_
                exact z_I g dX11_inverted_102 (B01.inR B01_0) h
              · replace h := if_t hc h
                refine r_iconst g0 dX11_inverted_97 ?_
                refine r_goto g0 102 dX11_inverted_98 (by decide) ?_
                exact z_I g dX11_inverted_102 (B01.inR B01_1) h
            · replace h := if_t hc h
              refine r_aload_n g0 dX11_inverted_64 rfl ?_
              refine g_Mo_counted g0 ho qX11_28 dX11_inverted_65 ?_
              refine r_iload g0 dX11_inverted_68 rfl ?_
              obtain ⟨hb, h⟩ := gd_some h
              refine r_iaload g0 (is_a_Mo_counted ho) (n := 3) rfl i_p4 hb dX11_inverted_70 ?_
              refine r_goto g0 102 dX11_inverted_71 (by decide) ?_
              exact z_I g dX11_inverted_102 (InR_rd _ _ _) h
          · replace h := if_t hc h
            refine r_mask g0 (lv' := [some (.ref (E.1 o)), none, none, none, none]) [true, false, false, false, false] rfl ?_
            exact hjp_1 s_6 h
theorem dX11_inversions_0 : decode cX11_inversions 0 = .ok (.iload_n 1, 1) := by decide +kernel
theorem dX11_inversions_1 : decode cX11_inversions 1 = .ok (.invokestatic 82, 3) := by decide +kernel
theorem dX11_inversions_4 : decode cX11_inversions 4 = .ok (.ifCond .eq 15, 3) := by decide +kernel
theorem dX11_inversions_7 : decode cX11_inversions 7 = .ok (.iload_n 2, 1) := by decide +kernel
theorem dX11_inversions_8 : decode cX11_inversions 8 = .ok (.invokestatic 82, 3) := by decide +kernel
theorem dX11_inversions_11 : decode cX11_inversions 11 = .ok (.ifCond .eq 8, 3) := by decide +kernel
theorem dX11_inversions_14 : decode cX11_inversions 14 = .ok (.iload_n 1, 1) := by decide +kernel
theorem dX11_inversions_15 : decode cX11_inversions 15 = .ok (.iload_n 2, 1) := by decide +kernel
theorem dX11_inversions_16 : decode cX11_inversions 16 = .ok (.if_icmp .ne 10, 3) := by decide +kernel
theorem dX11_inversions_19 : decode cX11_inversions 19 = .ok (.aload_n 0, 1) := by decide +kernel
theorem dX11_inversions_20 : decode cX11_inversions 20 = .ok (.bipush (-2), 2) := by decide +kernel
theorem dX11_inversions_22 : decode cX11_inversions 22 = .ok (.invokevirtual 97, 3) := by decide +kernel
theorem dX11_inversions_25 : decode cX11_inversions 25 = .ok (.ireturn, 1) := by decide +kernel
theorem dX11_inversions_26 : decode cX11_inversions 26 = .ok (.iconst 0, 1) := by decide +kernel
theorem dX11_inversions_27 : decode cX11_inversions 27 = .ok (.istore_n 3, 1) := by decide +kernel
theorem dX11_inversions_28 : decode cX11_inversions 28 = .ok (.iconst 0, 1) := by decide +kernel
theorem dX11_inversions_29 : decode cX11_inversions 29 = .ok (.istore 4, 2) := by decide +kernel
theorem dX11_inversions_31 : decode cX11_inversions 31 = .ok (.iload 4, 2) := by decide +kernel
theorem dX11_inversions_33 : decode cX11_inversions 33 = .ok (.bipush 20, 2) := by decide +kernel
theorem dX11_inversions_35 : decode cX11_inversions 35 = .ok (.if_icmp .gt 51, 3) := by decide +kernel
theorem dX11_inversions_38 : decode cX11_inversions 38 = .ok (.aload_n 0, 1) := by decide +kernel
theorem dX11_inversions_39 : decode cX11_inversions 39 = .ok (.iload_n 1, 1) := by decide +kernel
theorem dX11_inversions_40 : decode cX11_inversions 40 = .ok (.iload_n 2, 1) := by decide +kernel
theorem dX11_inversions_41 : decode cX11_inversions 41 = .ok (.iload 4, 2) := by decide +kernel
theorem dX11_inversions_43 : decode cX11_inversions 43 = .ok (.invokevirtual 248, 3) := by decide +kernel
theorem dX11_inversions_46 : decode cX11_inversions 46 = .ok (.iload_n 3, 1) := by decide +kernel
theorem dX11_inversions_47 : decode cX11_inversions 47 = .ok (.aload_n 0, 1) := by decide +kernel
theorem dX11_inversions_48 : decode cX11_inversions 48 = .ok (.getfield 28, 3) := by decide +kernel
theorem dX11_inversions_51 : decode cX11_inversions 51 = .ok (.iconst 0, 1) := by decide +kernel
theorem dX11_inversions_52 : decode cX11_inversions 52 = .ok (.iaload, 1) := by decide +kernel
theorem dX11_inversions_53 : decode cX11_inversions 53 = .ok (.aload_n 0, 1) := by decide +kernel
theorem dX11_inversions_54 : decode cX11_inversions 54 = .ok (.getfield 28, 3) := by decide +kernel
theorem dX11_inversions_57 : decode cX11_inversions 57 = .ok (.iconst 1, 1) := by decide +kernel
theorem dX11_inversions_58 : decode cX11_inversions 58 = .ok (.iaload, 1) := by decide +kernel
theorem dX11_inversions_59 : decode cX11_inversions 59 = .ok (.iadd, 1) := by decide +kernel
theorem dX11_inversions_60 : decode cX11_inversions 60 = .ok (.aload_n 0, 1) := by decide +kernel
theorem dX11_inversions_61 : decode cX11_inversions 61 = .ok (.getfield 28, 3) := by decide +kernel
theorem dX11_inversions_64 : decode cX11_inversions 64 = .ok (.iconst 2, 1) := by decide +kernel
theorem dX11_inversions_65 : decode cX11_inversions 65 = .ok (.iaload, 1) := by decide +kernel
theorem dX11_inversions_66 : decode cX11_inversions 66 = .ok (.iadd, 1) := by decide +kernel
theorem dX11_inversions_67 : decode cX11_inversions 67 = .ok (.ifCond .ne 10, 3) := by decide +kernel
theorem dX11_inversions_70 : decode cX11_inversions 70 = .ok (.iconst 1, 1) := by decide +kernel
theorem dX11_inversions_71 : decode cX11_inversions 71 = .ok (.iload 4, 2) := by decide +kernel
theorem dX11_inversions_73 : decode cX11_inversions 73 = .ok (.ishl, 1) := by decide +kernel
theorem dX11_inversions_74 : decode cX11_inversions 74 = .ok (.goto 4, 3) := by decide +kernel
theorem dX11_inversions_77 : decode cX11_inversions 77 = .ok (.iconst 0, 1) := by decide +kernel
theorem dX11_inversions_78 : decode cX11_inversions 78 = .ok (.ior, 1) := by decide +kernel
theorem dX11_inversions_79 : decode cX11_inversions 79 = .ok (.istore_n 3, 1) := by decide +kernel
theorem dX11_inversions_80 : decode cX11_inversions 80 = .ok (.iinc 4 1, 3) := by decide +kernel
theorem dX11_inversions_83 : decode cX11_inversions 83 = .ok (.goto (-52), 3) := by decide +kernel
theorem dX11_inversions_86 : decode cX11_inversions 86 = .ok (.iload_n 3, 1) := by decide +kernel
theorem dX11_inversions_87 : decode cX11_inversions 87 = .ok (.ireturn, 1) := by decide +kernel
set_option maxHeartbeats 4000000 in
set_option maxRecDepth 100000 in
theorem t_X11_inversions_L31 {l : Launch} {E : u_E} {K : u_K} {r : Int} {s' : u_S} (g : Wk l (XE E) { frames := 7, cells := 0, slots := 0, locals := 172 } cX11_inversions 5 yX11_inversions.cls yX11_inversions.name (some .int) (RI E r s') K) {v0_1 : u_O} {v1_1 : Int} {v2_1 : Int} (i_v0_1 : is_Mo v0_1) (i_v1_1 : InR v1_1) (i_v2_1 : InR v2_1) {kx86 : Int → u_S → Option (Int × u_S)} (hkx86 : ∀ (v3_3 : Int) (s_9 : u_S), InR v3_3 → kx86 v3_3 s_9 = some (r, s') → K 0 0 86 [none, none, none, some (.int (J v3_3)), none] [] (Wd E s_9)) : ∀ (m : Nat) (v3_2 : Int) (v4_1 : Int) (s_6 : u_S), InR v3_2 → InR v4_1 → f_X11_inversions_L31 m kx86 v0_1 v1_1 v2_1 v3_2 v4_1 s_6 = some (r, s') → K 0 0 31 [some (.ref (E.1 v0_1)), some (.int (J v1_1)), some (.int (J v2_1)), some (.int (J v3_2)), some (.int (J v4_1))] [] (Wd E s_6) := by
  have g0 := g.wk
  intro m
  induction m with
  | zero =>
    intro v3_2 v4_1 s_6 i_v3_2 i_v4_1 h
    exact absurd (show (none : Option (Int × u_S)) = some (r, s') from h) (by intro z; cases z)
  | succ m ih =>
    intro v3_2 v4_1 s_6 i_v3_2 i_v4_1 h
    rw [f_X11_inversions_L31] at h
    refine r_iload g0 dX11_inversions_31 rfl ?_
    refine r_bipush g0 dX11_inversions_33 rfl ?_
    refine r_icmp_gt g0 86 dX11_inversions_35 (by decide) i_v4_1 (InR_lit rfl) (fun hc => ?_) (fun hc => ?_)
    · replace h := if_f hc h
      refine r_mask g0 (lv' := [none, none, none, some (.int (J v3_2)), none]) [false, false, false, true, false] rfl ?_
      exact hkx86 v3_2 s_6 i_v3_2 h
    · replace h := if_t hc h
      refine r_aload_n g0 dX11_inversions_38 rfl ?_
      refine r_iload_n g0 dX11_inversions_39 rfl ?_
      refine r_iload_n g0 dX11_inversions_40 rfl ?_
      refine r_iload g0 dX11_inversions_41 rfl ?_
      obtain ⟨r_4, s_7, hr_4, h⟩ := bd_some h
      refine r_cVV g0 (rest := []) (c_X11_inverts i_v0_1 i_v1_1 i_v2_1 i_v4_1 hr_4) ok_X11_inverts mX11_248 (recv_Mo i_v0_1) dX11_inversions_43 ⟨Nat.le_of_ble_eq_true rfl, Nat.le_of_ble_eq_true rfl⟩ ⟨Nat.zero_le _, Nat.zero_le _⟩ rfl (Nat.le_of_ble_eq_true rfl) rfl ?_
      refine r_iload_n g0 dX11_inversions_46 rfl ?_
      refine r_aload_n g0 dX11_inversions_47 rfl ?_
      refine g_Mo_counted g0 i_v0_1 qX11_28 dX11_inversions_48 ?_
      refine r_iconst g0 dX11_inversions_51 ?_
      obtain ⟨hb, h⟩ := gd_some h
      refine r_iaload g0 (is_a_Mo_counted i_v0_1) (n := 3) rfl (B01.inR B01_0) hb dX11_inversions_52 ?_
      refine r_aload_n g0 dX11_inversions_53 rfl ?_
      refine g_Mo_counted g0 i_v0_1 qX11_28 dX11_inversions_54 ?_
      refine r_iconst g0 dX11_inversions_57 ?_
      obtain ⟨hb, h⟩ := gd_some h
      refine r_iaload g0 (is_a_Mo_counted i_v0_1) (n := 3) rfl (B01.inR B01_1) hb dX11_inversions_58 ?_
      refine r_iadd g0 dX11_inversions_59 ?_
      refine r_aload_n g0 dX11_inversions_60 rfl ?_
      refine g_Mo_counted g0 i_v0_1 qX11_28 dX11_inversions_61 ?_
      refine r_iconst g0 dX11_inversions_64 ?_
      obtain ⟨hb, h⟩ := gd_some h
      refine r_iaload g0 (is_a_Mo_counted i_v0_1) (n := 3) rfl (InR_lit rfl) hb dX11_inversions_65 ?_
      refine r_iadd g0 dX11_inversions_66 ?_
      obtain ⟨jp_2, hdjp_2, h⟩ := jn_some h
      have hjp_2 : ∀ (vt_1 : Int) (vt_2 : Int) (s_8 : u_S), InR vt_1 → InR vt_2 → jp_2 vt_1 vt_2 s_8 = some (r, s') → K 0 0 78 [some (.ref (E.1 v0_1)), some (.int (J v1_1)), some (.int (J v2_1)), none, some (.int (J v4_1))] [.int (J vt_2), .int (J vt_1)] (Wd E s_8) := by
        intro vt_1 vt_2 s_8 i_vt_1 i_vt_2 h
        subst hdjp_2
        refine r_ior g0 dX11_inversions_78 ?_
        refine r_istore_n g0 (lv' := [some (.ref (E.1 v0_1)), some (.int (J v1_1)), some (.int (J v2_1)), some (.int (J (ior vt_1 vt_2))), some (.int (J v4_1))]) dX11_inversions_79 (by decide) rfl rfl ?_
        refine r_iinc g0 (a := v4_1) (lv' := [some (.ref (E.1 v0_1)), some (.int (J v1_1)), some (.int (J v2_1)), some (.int (J (ior vt_1 vt_2))), some (.int (J (wr (v4_1 + 1))))]) dX11_inversions_80 (by decide) rfl rfl rfl ?_
        refine r_goto g0 31 dX11_inversions_83 (by decide) ?_
        exact ih (ior vt_1 vt_2) (wr (v4_1 + 1)) s_8 (InR_to _) (InR_wr _) h
      clear hdjp_2
      refine r_if_ne g0 77 dX11_inversions_67 (by decide) (InR_wr _) (fun hc => ?_) (fun hc => ?_)
      · replace h := if_f hc h
        refine r_iconst g0 dX11_inversions_77 ?_
        refine r_mask g0 (lv' := [some (.ref (E.1 v0_1)), some (.int (J v1_1)), some (.int (J v2_1)), none, some (.int (J v4_1))]) [true, true, true, false, true] rfl ?_
        exact hjp_2 v3_2 0 s_7 i_v3_2 (B01.inR B01_0) h
      · replace h := if_t hc h
        refine r_iconst g0 dX11_inversions_70 ?_
        refine r_iload g0 dX11_inversions_71 rfl ?_
        refine r_ishl g0 dX11_inversions_73 ?_
        refine r_goto g0 78 dX11_inversions_74 (by decide) ?_
        refine r_mask g0 (lv' := [some (.ref (E.1 v0_1)), some (.int (J v1_1)), some (.int (J v2_1)), none, some (.int (J v4_1))]) [true, true, true, false, true] rfl ?_
        exact hjp_2 v3_2 (ishl 1 v4_1) s_7 i_v3_2 (InR_to _) h
set_option maxHeartbeats 4000000 in
set_option maxRecDepth 100000 in
theorem c_X11_inversions {E : u_E} {l : Launch} {o : u_O} {p1 : Int} {p2 : Int} (ho : is_Mo o) (i_p1 : InR p1) (i_p2 : InR p2) {s s' : u_S} {r : Int} (h : f_X11_inversions o p1 p2 s = some (r, s')) : Con l (XE E) yX11_inversions cX11_inversions 5 (some .int) 7 172 0 0 [.ref (E.1 o), .int (J p1), .int (J p2)] (Wd E s) (RI E r s') := by
  refine Con.of [some (.ref (E.1 o)), some (.int (J p1)), some (.int (J p2)), none, none] (by decide +kernel) rfl rfl (Nat.le_of_ble_eq_true rfl) (fun K g => ?_)
  have g0 := g.wk
  unfold f_X11_inversions at h
  refine r_iload_n g0 dX11_inversions_0 rfl ?_
  obtain ⟨r_1, s_1, hr_1, h⟩ := bd_some h
  refine r_cSZ g0 (rest := []) (c_X11_isLine i_p1 hr_1) ok_X11_isLine mX11_82 dX11_inversions_1 ⟨Nat.le_of_ble_eq_true rfl, Nat.le_of_ble_eq_true rfl⟩ ⟨Nat.zero_le _, Nat.zero_le _⟩ rfl (Nat.le_of_ble_eq_true rfl) rfl (fun i_r_1 => ?_)
  obtain ⟨jp_1, hdjp_1, h⟩ := jn_some h
  have hjp_1 : ∀  (s_2 : u_S), jp_1 s_2 = some (r, s') → K 0 0 19 [some (.ref (E.1 o)), none, none, none, none] [] (Wd E s_2) := by
    intro s_2 h
    subst hdjp_1
    refine r_aload_n g0 dX11_inversions_19 rfl ?_
    refine r_bipush g0 dX11_inversions_20 rfl ?_
    obtain ⟨r_2, s_3, hr_2, h⟩ := bd_some h
    refine r_cVI g0 (rest := []) (c_X11_refuses ho (InR_lit rfl) hr_2) ok_X11_refuses mX11_97 (recv_Mo ho) dX11_inversions_22 ⟨Nat.le_of_ble_eq_true rfl, Nat.le_of_ble_eq_true rfl⟩ ⟨Nat.zero_le _, Nat.zero_le _⟩ rfl (Nat.le_of_ble_eq_true rfl) rfl (fun i_r_2 => ?_)
    exact z_I g dX11_inversions_25 i_r_2 h
  clear hdjp_1
  refine r_if_eq g0 19 dX11_inversions_4 (by decide) (B01.inR i_r_1) (fun hc => ?_) (fun hc => ?_)
  · replace h := if_t hc h
    refine r_mask g0 (lv' := [some (.ref (E.1 o)), none, none, none, none]) [true, false, false, false, false] rfl ?_
    exact hjp_1 s_1 h
  · replace h := if_f hc h
    refine r_iload_n g0 dX11_inversions_7 rfl ?_
    obtain ⟨r_3, s_4, hr_3, h⟩ := bd_some h
    refine r_cSZ g0 (rest := []) (c_X11_isLine i_p2 hr_3) ok_X11_isLine mX11_82 dX11_inversions_8 ⟨Nat.le_of_ble_eq_true rfl, Nat.le_of_ble_eq_true rfl⟩ ⟨Nat.zero_le _, Nat.zero_le _⟩ rfl (Nat.le_of_ble_eq_true rfl) rfl (fun i_r_3 => ?_)
    refine r_if_eq g0 19 dX11_inversions_11 (by decide) (B01.inR i_r_3) (fun hc => ?_) (fun hc => ?_)
    · replace h := if_t hc h
      refine r_mask g0 (lv' := [some (.ref (E.1 o)), none, none, none, none]) [true, false, false, false, false] rfl ?_
      exact hjp_1 s_4 h
    · replace h := if_f hc h
      refine r_iload_n g0 dX11_inversions_14 rfl ?_
      refine r_iload_n g0 dX11_inversions_15 rfl ?_
      refine r_icmp_ne g0 26 dX11_inversions_16 (by decide) i_p1 i_p2 (fun hc => ?_) (fun hc => ?_)
      · replace h := if_f hc h
        refine r_iconst g0 dX11_inversions_26 ?_
        refine r_istore_n g0 (lv' := [some (.ref (E.1 o)), some (.int (J p1)), some (.int (J p2)), some (.int (J 0)), none]) dX11_inversions_27 (by decide) rfl rfl ?_
        refine r_iconst g0 dX11_inversions_28 ?_
        refine r_istore g0 (lv' := [some (.ref (E.1 o)), some (.int (J p1)), some (.int (J p2)), some (.int (J 0)), some (.int (J 0))]) dX11_inversions_29 (by decide) rfl rfl ?_
        refine t_X11_inversions_L31 g ho i_p1 i_p2 ?_ FU 0 0 s_4 (B01.inR B01_0) (B01.inR B01_0) h
        · intro v3_1 s_5 i_v3_1 h
          refine r_iload_n g0 dX11_inversions_86 rfl ?_
          exact z_I g dX11_inversions_87 i_v3_1 h
      · replace h := if_t hc h
        refine r_mask g0 (lv' := [some (.ref (E.1 o)), none, none, none, none]) [true, false, false, false, false] rfl ?_
        exact hjp_1 s_4 h
theorem dX11_power_0 : decode cX11_power 0 = .ok (.iconst 1, 1) := by decide +kernel
theorem dX11_power_1 : decode cX11_power 1 = .ok (.istore_n 1, 1) := by decide +kernel
theorem dX11_power_2 : decode cX11_power 2 = .ok (.iconst 0, 1) := by decide +kernel
theorem dX11_power_3 : decode cX11_power 3 = .ok (.istore_n 2, 1) := by decide +kernel
theorem dX11_power_4 : decode cX11_power 4 = .ok (.iload_n 2, 1) := by decide +kernel
theorem dX11_power_5 : decode cX11_power 5 = .ok (.iload_n 0, 1) := by decide +kernel
theorem dX11_power_6 : decode cX11_power 6 = .ok (.if_icmp .ge 14, 3) := by decide +kernel
theorem dX11_power_9 : decode cX11_power 9 = .ok (.iload_n 1, 1) := by decide +kernel
theorem dX11_power_10 : decode cX11_power 10 = .ok (.bipush 10, 2) := by decide +kernel
theorem dX11_power_12 : decode cX11_power 12 = .ok (.imul, 1) := by decide +kernel
theorem dX11_power_13 : decode cX11_power 13 = .ok (.istore_n 1, 1) := by decide +kernel
theorem dX11_power_14 : decode cX11_power 14 = .ok (.iinc 2 1, 3) := by decide +kernel
theorem dX11_power_17 : decode cX11_power 17 = .ok (.goto (-13), 3) := by decide +kernel
theorem dX11_power_20 : decode cX11_power 20 = .ok (.iload_n 1, 1) := by decide +kernel
theorem dX11_power_21 : decode cX11_power 21 = .ok (.ireturn, 1) := by decide +kernel
set_option maxHeartbeats 4000000 in
set_option maxRecDepth 100000 in
theorem t_X11_power_L4 {l : Launch} {E : u_E} {K : u_K} {r : Int} {s' : u_S} (g : Wk l (XE E) { frames := 0, cells := 0, slots := 0, locals := 0 } cX11_power 3 yX11_power.cls yX11_power.name (some .int) (RI E r s') K) {v0_1 : Int} (i_v0_1 : InR v0_1) {kx20 : Int → u_S → Option (Int × u_S)} (hkx20 : ∀ (v1_3 : Int) (s_3 : u_S), InR v1_3 → kx20 v1_3 s_3 = some (r, s') → K 0 0 20 [none, some (.int (J v1_3)), none] [] (Wd E s_3)) : ∀ (m : Nat) (v1_2 : Int) (v2_1 : Int) (s_2 : u_S), InR v1_2 → InR v2_1 → f_X11_power_L4 m kx20 v0_1 v1_2 v2_1 s_2 = some (r, s') → K 0 0 4 [some (.int (J v0_1)), some (.int (J v1_2)), some (.int (J v2_1))] [] (Wd E s_2) := by
  have g0 := g.wk
  intro m
  induction m with
  | zero =>
    intro v1_2 v2_1 s_2 i_v1_2 i_v2_1 h
    exact absurd (show (none : Option (Int × u_S)) = some (r, s') from h) (by intro z; cases z)
  | succ m ih =>
    intro v1_2 v2_1 s_2 i_v1_2 i_v2_1 h
    rw [f_X11_power_L4] at h
    refine r_iload_n g0 dX11_power_4 rfl ?_
    refine r_iload_n g0 dX11_power_5 rfl ?_
    refine r_icmp_ge g0 20 dX11_power_6 (by decide) i_v2_1 i_v0_1 (fun hc => ?_) (fun hc => ?_)
    · replace h := if_f hc h
      refine r_mask g0 (lv' := [none, some (.int (J v1_2)), none]) [false, true, false] rfl ?_
      exact hkx20 v1_2 s_2 i_v1_2 h
    · replace h := if_t hc h
      refine r_iload_n g0 dX11_power_9 rfl ?_
      refine r_bipush g0 dX11_power_10 rfl ?_
      refine r_imul g0 dX11_power_12 ?_
      refine r_istore_n g0 (lv' := [some (.int (J v0_1)), some (.int (J (wr (v1_2 * 10)))), some (.int (J v2_1))]) dX11_power_13 (by decide) rfl rfl ?_
      refine r_iinc g0 (a := v2_1) (lv' := [some (.int (J v0_1)), some (.int (J (wr (v1_2 * 10)))), some (.int (J (wr (v2_1 + 1))))]) dX11_power_14 (by decide) rfl rfl rfl ?_
      refine r_goto g0 4 dX11_power_17 (by decide) ?_
      exact ih (wr (v1_2 * 10)) (wr (v2_1 + 1)) s_2 (InR_wr _) (InR_wr _) h
set_option maxHeartbeats 4000000 in
set_option maxRecDepth 100000 in
theorem c_X11_power {E : u_E} {l : Launch} {p1 : Int} (i_p1 : InR p1) {s s' : u_S} {r : Int} (h : f_X11_power p1 s = some (r, s')) : Con l (XE E) yX11_power cX11_power 3 (some .int) 0 0 0 0 [.int (J p1)] (Wd E s) (RI E r s') := by
  refine Con.of [some (.int (J p1)), none, none] (by decide +kernel) rfl rfl (Nat.le_of_ble_eq_true rfl) (fun K g => ?_)
  have g0 := g.wk
  unfold f_X11_power at h
  refine r_iconst g0 dX11_power_0 ?_
  refine r_istore_n g0 (lv' := [some (.int (J p1)), some (.int (J 1)), none]) dX11_power_1 (by decide) rfl rfl ?_
  refine r_iconst g0 dX11_power_2 ?_
  refine r_istore_n g0 (lv' := [some (.int (J p1)), some (.int (J 1)), some (.int (J 0))]) dX11_power_3 (by decide) rfl rfl ?_
  refine t_X11_power_L4 g i_p1 ?_ FU 1 0 s (B01.inR B01_1) (B01.inR B01_0) h
  · intro v1_1 s_1 i_v1_1 h
    refine r_iload_n g0 dX11_power_20 rfl ?_
    exact z_I g dX11_power_21 i_v1_1 h
theorem dX11_voice_0 : decode cX11_voice 0 = .ok (.iload_n 1, 1) := by decide +kernel
theorem dX11_voice_1 : decode cX11_voice 1 = .ok (.iload_n 0, 1) := by decide +kernel
theorem dX11_voice_2 : decode cX11_voice 2 = .ok (.iconst 1, 1) := by decide +kernel
theorem dX11_voice_3 : decode cX11_voice 3 = .ok (.isub, 1) := by decide +kernel
theorem dX11_voice_4 : decode cX11_voice 4 = .ok (.iload_n 2, 1) := by decide +kernel
theorem dX11_voice_5 : decode cX11_voice 5 = .ok (.isub, 1) := by decide +kernel
theorem dX11_voice_6 : decode cX11_voice 6 = .ok (.invokestatic 252, 3) := by decide +kernel
theorem dX11_voice_9 : decode cX11_voice 9 = .ok (.idiv, 1) := by decide +kernel
theorem dX11_voice_10 : decode cX11_voice 10 = .ok (.bipush 10, 2) := by decide +kernel
theorem dX11_voice_12 : decode cX11_voice 12 = .ok (.irem, 1) := by decide +kernel
theorem dX11_voice_13 : decode cX11_voice 13 = .ok (.ireturn, 1) := by decide +kernel
set_option maxHeartbeats 4000000 in
set_option maxRecDepth 100000 in
theorem c_X11_voice {E : u_E} {l : Launch} {p1 : Int} {p2 : Int} {p3 : Int} (i_p1 : InR p1) (i_p2 : InR p2) (i_p3 : InR p3) {s s' : u_S} {r : Int} (h : f_X11_voice p1 p2 p3 s = some (r, s')) : Con l (XE E) yX11_voice cX11_voice 3 (some .int) 1 22 0 0 [.int (J p1), .int (J p2), .int (J p3)] (Wd E s) (RI E r s') := by
  refine Con.of [some (.int (J p1)), some (.int (J p2)), some (.int (J p3))] (by decide +kernel) rfl rfl (Nat.le_of_ble_eq_true rfl) (fun K g => ?_)
  have g0 := g.wk
  unfold f_X11_voice at h
  refine r_iload_n g0 dX11_voice_0 rfl ?_
  refine r_iload_n g0 dX11_voice_1 rfl ?_
  refine r_iconst g0 dX11_voice_2 ?_
  refine r_isub g0 dX11_voice_3 ?_
  refine r_iload_n g0 dX11_voice_4 rfl ?_
  refine r_isub g0 dX11_voice_5 ?_
  obtain ⟨r_1, s_1, hr_1, h⟩ := bd_some h
  refine r_cSI g0 (rest := [.int (J p2)]) (c_X11_power (InR_wr _) hr_1) ok_X11_power mX11_252 dX11_voice_6 ⟨Nat.le_of_ble_eq_true rfl, Nat.le_of_ble_eq_true rfl⟩ ⟨Nat.zero_le _, Nat.zero_le _⟩ rfl (Nat.le_of_ble_eq_true rfl) rfl (fun i_r_1 => ?_)
  obtain ⟨hne, h⟩ := nz_some h
  refine r_idiv g0 dX11_voice_9 i_p2 i_r_1 hne ?_
  refine r_bipush g0 dX11_voice_10 rfl ?_
  refine r_irem g0 dX11_voice_12 (InR_wr _) (InR_lit rfl) (by decide) ?_
  exact z_I g dX11_voice_13 (InR_rem _ (InR_wr _)) h
theorem dX11_isOrder_0 : decode cX11_isOrder 0 = .ok (.iload_n 0, 1) := by decide +kernel
theorem dX11_isOrder_1 : decode cX11_isOrder 1 = .ok (.i2l, 1) := by decide +kernel
theorem dX11_isOrder_2 : decode cX11_isOrder 2 = .ok (.ldc2_w 223, 3) := by decide +kernel
theorem dX11_isOrder_5 : decode cX11_isOrder 5 = .ok (.ldc2_w 88, 3) := by decide +kernel
theorem dX11_isOrder_8 : decode cX11_isOrder 8 = .ok (.invokestatic 61, 3) := by decide +kernel
theorem dX11_isOrder_11 : decode cX11_isOrder 11 = .ok (.ifCond .eq 19, 3) := by decide +kernel
theorem dX11_isOrder_14 : decode cX11_isOrder 14 = .ok (.iload_n 1, 1) := by decide +kernel
theorem dX11_isOrder_15 : decode cX11_isOrder 15 = .ok (.i2l, 1) := by decide +kernel
theorem dX11_isOrder_16 : decode cX11_isOrder 16 = .ok (.lconst 0, 1) := by decide +kernel
theorem dX11_isOrder_17 : decode cX11_isOrder 17 = .ok (.iload_n 0, 1) := by decide +kernel
theorem dX11_isOrder_18 : decode cX11_isOrder 18 = .ok (.invokestatic 252, 3) := by decide +kernel
theorem dX11_isOrder_21 : decode cX11_isOrder 21 = .ok (.iconst 1, 1) := by decide +kernel
theorem dX11_isOrder_22 : decode cX11_isOrder 22 = .ok (.isub, 1) := by decide +kernel
theorem dX11_isOrder_23 : decode cX11_isOrder 23 = .ok (.i2l, 1) := by decide +kernel
theorem dX11_isOrder_24 : decode cX11_isOrder 24 = .ok (.invokestatic 61, 3) := by decide +kernel
theorem dX11_isOrder_27 : decode cX11_isOrder 27 = .ok (.ifCond .ne 5, 3) := by decide +kernel
theorem dX11_isOrder_30 : decode cX11_isOrder 30 = .ok (.iconst 0, 1) := by decide +kernel
theorem dX11_isOrder_31 : decode cX11_isOrder 31 = .ok (.ireturn, 1) := by decide +kernel
theorem dX11_isOrder_32 : decode cX11_isOrder 32 = .ok (.iconst 0, 1) := by decide +kernel
theorem dX11_isOrder_33 : decode cX11_isOrder 33 = .ok (.istore_n 2, 1) := by decide +kernel
theorem dX11_isOrder_34 : decode cX11_isOrder 34 = .ok (.iconst 0, 1) := by decide +kernel
theorem dX11_isOrder_35 : decode cX11_isOrder 35 = .ok (.istore_n 3, 1) := by decide +kernel
theorem dX11_isOrder_36 : decode cX11_isOrder 36 = .ok (.iload_n 3, 1) := by decide +kernel
theorem dX11_isOrder_37 : decode cX11_isOrder 37 = .ok (.iload_n 0, 1) := by decide +kernel
theorem dX11_isOrder_38 : decode cX11_isOrder 38 = .ok (.if_icmp .ge 20, 3) := by decide +kernel
theorem dX11_isOrder_41 : decode cX11_isOrder 41 = .ok (.iload_n 2, 1) := by decide +kernel
theorem dX11_isOrder_42 : decode cX11_isOrder 42 = .ok (.iconst 1, 1) := by decide +kernel
theorem dX11_isOrder_43 : decode cX11_isOrder 43 = .ok (.iload_n 0, 1) := by decide +kernel
theorem dX11_isOrder_44 : decode cX11_isOrder 44 = .ok (.iload_n 1, 1) := by decide +kernel
theorem dX11_isOrder_45 : decode cX11_isOrder 45 = .ok (.iload_n 3, 1) := by decide +kernel
theorem dX11_isOrder_46 : decode cX11_isOrder 46 = .ok (.invokestatic 255, 3) := by decide +kernel
theorem dX11_isOrder_49 : decode cX11_isOrder 49 = .ok (.ishl, 1) := by decide +kernel
theorem dX11_isOrder_50 : decode cX11_isOrder 50 = .ok (.ior, 1) := by decide +kernel
theorem dX11_isOrder_51 : decode cX11_isOrder 51 = .ok (.istore_n 2, 1) := by decide +kernel
theorem dX11_isOrder_52 : decode cX11_isOrder 52 = .ok (.iinc 3 1, 3) := by decide +kernel
theorem dX11_isOrder_55 : decode cX11_isOrder 55 = .ok (.goto (-19), 3) := by decide +kernel
theorem dX11_isOrder_58 : decode cX11_isOrder 58 = .ok (.iload_n 2, 1) := by decide +kernel
theorem dX11_isOrder_59 : decode cX11_isOrder 59 = .ok (.iconst 1, 1) := by decide +kernel
theorem dX11_isOrder_60 : decode cX11_isOrder 60 = .ok (.iload_n 0, 1) := by decide +kernel
theorem dX11_isOrder_61 : decode cX11_isOrder 61 = .ok (.ishl, 1) := by decide +kernel
theorem dX11_isOrder_62 : decode cX11_isOrder 62 = .ok (.iconst 1, 1) := by decide +kernel
theorem dX11_isOrder_63 : decode cX11_isOrder 63 = .ok (.isub, 1) := by decide +kernel
theorem dX11_isOrder_64 : decode cX11_isOrder 64 = .ok (.if_icmp .ne 7, 3) := by decide +kernel
theorem dX11_isOrder_67 : decode cX11_isOrder 67 = .ok (.iconst 1, 1) := by decide +kernel
theorem dX11_isOrder_68 : decode cX11_isOrder 68 = .ok (.goto 4, 3) := by decide +kernel
theorem dX11_isOrder_71 : decode cX11_isOrder 71 = .ok (.iconst 0, 1) := by decide +kernel
theorem dX11_isOrder_72 : decode cX11_isOrder 72 = .ok (.ireturn, 1) := by decide +kernel
set_option maxHeartbeats 4000000 in
set_option maxRecDepth 100000 in
theorem t_X11_isOrder_L36 {l : Launch} {E : u_E} {K : u_K} {r : Int} {s' : u_S} (g : Wk l (XE E) { frames := 2, cells := 0, slots := 0, locals := 44 } cX11_isOrder 4 yX11_isOrder.cls yX11_isOrder.name (some .boolean) (RZ E r s') K) {v0_1 : Int} {v1_1 : Int} (i_v0_1 : InR v0_1) (i_v1_1 : InR v1_1) {kx58 : Int → u_S → Option (Int × u_S)} (hkx58 : ∀ (v2_3 : Int) (s_7 : u_S), InR v2_3 → kx58 v2_3 s_7 = some (r, s') → K 0 0 58 [some (.int (J v0_1)), none, some (.int (J v2_3)), none] [] (Wd E s_7)) : ∀ (m : Nat) (v2_2 : Int) (v3_1 : Int) (s_5 : u_S), InR v2_2 → InR v3_1 → f_X11_isOrder_L36 m kx58 v0_1 v1_1 v2_2 v3_1 s_5 = some (r, s') → K 0 0 36 [some (.int (J v0_1)), some (.int (J v1_1)), some (.int (J v2_2)), some (.int (J v3_1))] [] (Wd E s_5) := by
  have g0 := g.wk
  intro m
  induction m with
  | zero =>
    intro v2_2 v3_1 s_5 i_v2_2 i_v3_1 h
    exact absurd (show (none : Option (Int × u_S)) = some (r, s') from h) (by intro z; cases z)
  | succ m ih =>
    intro v2_2 v3_1 s_5 i_v2_2 i_v3_1 h
    rw [f_X11_isOrder_L36] at h
    refine r_iload_n g0 dX11_isOrder_36 rfl ?_
    refine r_iload_n g0 dX11_isOrder_37 rfl ?_
    refine r_icmp_ge g0 58 dX11_isOrder_38 (by decide) i_v3_1 i_v0_1 (fun hc => ?_) (fun hc => ?_)
    · replace h := if_f hc h
      refine r_mask g0 (lv' := [some (.int (J v0_1)), none, some (.int (J v2_2)), none]) [true, false, true, false] rfl ?_
      exact hkx58 v2_2 s_5 i_v2_2 h
    · replace h := if_t hc h
      refine r_iload_n g0 dX11_isOrder_41 rfl ?_
      refine r_iconst g0 dX11_isOrder_42 ?_
      refine r_iload_n g0 dX11_isOrder_43 rfl ?_
      refine r_iload_n g0 dX11_isOrder_44 rfl ?_
      refine r_iload_n g0 dX11_isOrder_45 rfl ?_
      obtain ⟨r_4, s_6, hr_4, h⟩ := bd_some h
      refine r_cSI g0 (rest := [.int (J 1), .int (J v2_2)]) (c_X11_voice i_v0_1 i_v1_1 i_v3_1 hr_4) ok_X11_voice mX11_255 dX11_isOrder_46 ⟨Nat.le_of_ble_eq_true rfl, Nat.le_of_ble_eq_true rfl⟩ ⟨Nat.zero_le _, Nat.zero_le _⟩ rfl (Nat.le_of_ble_eq_true rfl) rfl (fun i_r_4 => ?_)
      refine r_ishl g0 dX11_isOrder_49 ?_
      refine r_ior g0 dX11_isOrder_50 ?_
      refine r_istore_n g0 (lv' := [some (.int (J v0_1)), some (.int (J v1_1)), some (.int (J (ior v2_2 (ishl 1 r_4)))), some (.int (J v3_1))]) dX11_isOrder_51 (by decide) rfl rfl ?_
      refine r_iinc g0 (a := v3_1) (lv' := [some (.int (J v0_1)), some (.int (J v1_1)), some (.int (J (ior v2_2 (ishl 1 r_4)))), some (.int (J (wr (v3_1 + 1))))]) dX11_isOrder_52 (by decide) rfl rfl rfl ?_
      refine r_goto g0 36 dX11_isOrder_55 (by decide) ?_
      exact ih (ior v2_2 (ishl 1 r_4)) (wr (v3_1 + 1)) s_6 (InR_to _) (InR_wr _) h
set_option maxHeartbeats 4000000 in
set_option maxRecDepth 100000 in
theorem c_X11_isOrder {E : u_E} {l : Launch} {p1 : Int} {p2 : Int} (i_p1 : InR p1) (i_p2 : InR p2) {s s' : u_S} {r : Int} (h : f_X11_isOrder p1 p2 s = some (r, s')) : Con l (XE E) yX11_isOrder cX11_isOrder 4 (some .boolean) 2 44 0 0 [.int (J p1), .int (J p2)] (Wd E s) (RZ E r s') := by
  refine Con.of [some (.int (J p1)), some (.int (J p2)), none, none] (by decide +kernel) rfl rfl (Nat.le_of_ble_eq_true rfl) (fun K g => ?_)
  have g0 := g.wk
  unfold f_X11_isOrder at h
  refine r_iload_n g0 dX11_isOrder_0 rfl ?_
  refine r_i2l g0 dX11_isOrder_1 i_p1 ?_
  refine r_ldc2 g0 (v := 2) dX11_isOrder_2 kX11_223 ?_
  refine r_ldc2 g0 (v := 4) dX11_isOrder_5 kX11_88 ?_
  obtain ⟨r_1, s_1, hr_1, h⟩ := bd_some h
  refine r_cSZ g0 (rest := []) (c_X11_in (InL_i i_p1) (InL_lit rfl) (InL_lit rfl) hr_1) ok_X11_in mX11_61 dX11_isOrder_8 ⟨Nat.le_of_ble_eq_true rfl, Nat.le_of_ble_eq_true rfl⟩ ⟨Nat.zero_le _, Nat.zero_le _⟩ rfl (Nat.le_of_ble_eq_true rfl) rfl (fun i_r_1 => ?_)
  refine r_if_eq g0 30 dX11_isOrder_11 (by decide) (B01.inR i_r_1) (fun hc => ?_) (fun hc => ?_)
  · replace h := if_t hc h
    refine r_iconst g0 dX11_isOrder_30 ?_
    exact z_Z g dX11_isOrder_31 B01_0 h
  · replace h := if_f hc h
    refine r_iload_n g0 dX11_isOrder_14 rfl ?_
    refine r_i2l g0 dX11_isOrder_15 i_p2 ?_
    refine r_lconst g0 (v := 0) dX11_isOrder_16 rfl ?_
    refine r_iload_n g0 dX11_isOrder_17 rfl ?_
    obtain ⟨r_2, s_2, hr_2, h⟩ := bd_some h
    refine r_cSI g0 (rest := [.long (JL 0), .long (JL p2)]) (c_X11_power i_p1 hr_2) ok_X11_power mX11_252 dX11_isOrder_18 ⟨Nat.le_of_ble_eq_true rfl, Nat.le_of_ble_eq_true rfl⟩ ⟨Nat.zero_le _, Nat.zero_le _⟩ rfl (Nat.le_of_ble_eq_true rfl) rfl (fun i_r_2 => ?_)
    refine r_iconst g0 dX11_isOrder_21 ?_
    refine r_isub g0 dX11_isOrder_22 ?_
    refine r_i2l g0 dX11_isOrder_23 (InR_wr _) ?_
    obtain ⟨r_3, s_3, hr_3, h⟩ := bd_some h
    refine r_cSZ g0 (rest := []) (c_X11_in (InL_i i_p2) (InL_lit rfl) (InL_i (InR_wr _)) hr_3) ok_X11_in mX11_61 dX11_isOrder_24 ⟨Nat.le_of_ble_eq_true rfl, Nat.le_of_ble_eq_true rfl⟩ ⟨Nat.zero_le _, Nat.zero_le _⟩ rfl (Nat.le_of_ble_eq_true rfl) rfl (fun i_r_3 => ?_)
    refine r_if_ne g0 32 dX11_isOrder_27 (by decide) (B01.inR i_r_3) (fun hc => ?_) (fun hc => ?_)
    · replace h := if_f hc h
      refine r_iconst g0 dX11_isOrder_32 ?_
      refine r_istore_n g0 (lv' := [some (.int (J p1)), some (.int (J p2)), some (.int (J 0)), none]) dX11_isOrder_33 (by decide) rfl rfl ?_
      refine r_iconst g0 dX11_isOrder_34 ?_
      refine r_istore_n g0 (lv' := [some (.int (J p1)), some (.int (J p2)), some (.int (J 0)), some (.int (J 0))]) dX11_isOrder_35 (by decide) rfl rfl ?_
      refine t_X11_isOrder_L36 g i_p1 i_p2 ?_ FU 0 0 s_3 (B01.inR B01_0) (B01.inR B01_0) h
      · intro v2_1 s_4 i_v2_1 h
        refine r_iload_n g0 dX11_isOrder_58 rfl ?_
        refine r_iconst g0 dX11_isOrder_59 ?_
        refine r_iload_n g0 dX11_isOrder_60 rfl ?_
        refine r_ishl g0 dX11_isOrder_61 ?_
        refine r_iconst g0 dX11_isOrder_62 ?_
        refine r_isub g0 dX11_isOrder_63 ?_
        refine r_icmp_ne g0 71 dX11_isOrder_64 (by decide) i_v2_1 (InR_wr _) (fun hc => ?_) (fun hc => ?_)
        · replace h := if_f hc h
          refine r_iconst g0 dX11_isOrder_71 ?_
          exact z_Z g dX11_isOrder_72 B01_0 h
        · replace h := if_t hc h
          refine r_iconst g0 dX11_isOrder_67 ?_
          refine r_goto g0 72 dX11_isOrder_68 (by decide) ?_
          exact z_Z g dX11_isOrder_72 B01_1 h
    · replace h := if_t hc h
      refine r_iconst g0 dX11_isOrder_30 ?_
      exact z_Z g dX11_isOrder_31 B01_0 h
theorem dX11_sound_0 : decode cX11_sound 0 = .ok (.iload 4, 2) := by decide +kernel
theorem dX11_sound_2 : decode cX11_sound 2 = .ok (.iconst 2, 1) := by decide +kernel
theorem dX11_sound_3 : decode cX11_sound 3 = .ok (.idiv, 1) := by decide +kernel
theorem dX11_sound_4 : decode cX11_sound 4 = .ok (.istore 5, 2) := by decide +kernel
theorem dX11_sound_6 : decode cX11_sound 6 = .ok (.bipush (-7), 2) := by decide +kernel
theorem dX11_sound_8 : decode cX11_sound 8 = .ok (.iload_n 2, 1) := by decide +kernel
theorem dX11_sound_9 : decode cX11_sound 9 = .ok (.iload_n 3, 1) := by decide +kernel
theorem dX11_sound_10 : decode cX11_sound 10 = .ok (.iload 5, 2) := by decide +kernel
theorem dX11_sound_12 : decode cX11_sound 12 = .ok (.invokestatic 255, 3) := by decide +kernel
theorem dX11_sound_15 : decode cX11_sound 15 = .ok (.imul, 1) := by decide +kernel
theorem dX11_sound_16 : decode cX11_sound 16 = .ok (.istore 6, 2) := by decide +kernel
theorem dX11_sound_18 : decode cX11_sound 18 = .ok (.iload 4, 2) := by decide +kernel
theorem dX11_sound_20 : decode cX11_sound 20 = .ok (.iconst 2, 1) := by decide +kernel
theorem dX11_sound_21 : decode cX11_sound 21 = .ok (.irem, 1) := by decide +kernel
theorem dX11_sound_22 : decode cX11_sound 22 = .ok (.iconst 1, 1) := by decide +kernel
theorem dX11_sound_23 : decode cX11_sound 23 = .ok (.if_icmp .ne 7, 3) := by decide +kernel
theorem dX11_sound_26 : decode cX11_sound 26 = .ok (.iconst 1, 1) := by decide +kernel
theorem dX11_sound_27 : decode cX11_sound 27 = .ok (.goto 4, 3) := by decide +kernel
theorem dX11_sound_30 : decode cX11_sound 30 = .ok (.iconst 0, 1) := by decide +kernel
theorem dX11_sound_31 : decode cX11_sound 31 = .ok (.istore 7, 2) := by decide +kernel
theorem dX11_sound_33 : decode cX11_sound 33 = .ok (.aload_n 0, 1) := by decide +kernel
theorem dX11_sound_34 : decode cX11_sound 34 = .ok (.iconst 0, 1) := by decide +kernel
theorem dX11_sound_35 : decode cX11_sound 35 = .ok (.invokevirtual 128, 3) := by decide +kernel
theorem dX11_sound_38 : decode cX11_sound 38 = .ok (.istore 8, 2) := by decide +kernel
theorem dX11_sound_40 : decode cX11_sound 40 = .ok (.iload 7, 2) := by decide +kernel
theorem dX11_sound_42 : decode cX11_sound 42 = .ok (.ifCond .eq 35, 3) := by decide +kernel
theorem dX11_sound_45 : decode cX11_sound 45 = .ok (.aload_n 1, 1) := by decide +kernel
theorem dX11_sound_46 : decode cX11_sound 46 = .ok (.iconst 1, 1) := by decide +kernel
theorem dX11_sound_47 : decode cX11_sound 47 = .ok (.iconst 0, 1) := by decide +kernel
theorem dX11_sound_48 : decode cX11_sound 48 = .ok (.iload 5, 2) := by decide +kernel
theorem dX11_sound_50 : decode cX11_sound 50 = .ok (.iconst 2, 1) := by decide +kernel
theorem dX11_sound_51 : decode cX11_sound 51 = .ok (.irem, 1) := by decide +kernel
theorem dX11_sound_52 : decode cX11_sound 52 = .ok (.ifCond .ne 10, 3) := by decide +kernel
theorem dX11_sound_55 : decode cX11_sound 55 = .ok (.iload 6, 2) := by decide +kernel
theorem dX11_sound_57 : decode cX11_sound 57 = .ok (.iconst 4, 1) := by decide +kernel
theorem dX11_sound_58 : decode cX11_sound 58 = .ok (.iadd, 1) := by decide +kernel
theorem dX11_sound_59 : decode cX11_sound 59 = .ok (.goto 5, 3) := by decide +kernel
theorem dX11_sound_62 : decode cX11_sound 62 = .ok (.iload 6, 2) := by decide +kernel
theorem dX11_sound_64 : decode cX11_sound 64 = .ok (.iload 5, 2) := by decide +kernel
theorem dX11_sound_66 : decode cX11_sound 66 = .ok (.iconst 1, 1) := by decide +kernel
theorem dX11_sound_67 : decode cX11_sound 67 = .ok (.iadd, 1) := by decide +kernel
theorem dX11_sound_68 : decode cX11_sound 68 = .ok (.iload 8, 2) := by decide +kernel
theorem dX11_sound_70 : decode cX11_sound 70 = .ok (.imul, 1) := by decide +kernel
theorem dX11_sound_71 : decode cX11_sound 71 = .ok (.invokestatic 197, 3) := by decide +kernel
theorem dX11_sound_74 : decode cX11_sound 74 = .ok (.goto 27, 3) := by decide +kernel
theorem dX11_sound_77 : decode cX11_sound 77 = .ok (.aload_n 1, 1) := by decide +kernel
theorem dX11_sound_78 : decode cX11_sound 78 = .ok (.iconst 0, 1) := by decide +kernel
theorem dX11_sound_79 : decode cX11_sound 79 = .ok (.iload 5, 2) := by decide +kernel
theorem dX11_sound_81 : decode cX11_sound 81 = .ok (.iconst 2, 1) := by decide +kernel
theorem dX11_sound_82 : decode cX11_sound 82 = .ok (.irem, 1) := by decide +kernel
theorem dX11_sound_83 : decode cX11_sound 83 = .ok (.ifCond .ne 7, 3) := by decide +kernel
theorem dX11_sound_86 : decode cX11_sound 86 = .ok (.iconst 0, 1) := by decide +kernel
theorem dX11_sound_87 : decode cX11_sound 87 = .ok (.goto 4, 3) := by decide +kernel
theorem dX11_sound_90 : decode cX11_sound 90 = .ok (.iconst 1, 1) := by decide +kernel
theorem dX11_sound_91 : decode cX11_sound 91 = .ok (.iload 6, 2) := by decide +kernel
theorem dX11_sound_93 : decode cX11_sound 93 = .ok (.iload 5, 2) := by decide +kernel
theorem dX11_sound_95 : decode cX11_sound 95 = .ok (.iload 8, 2) := by decide +kernel
theorem dX11_sound_97 : decode cX11_sound 97 = .ok (.imul, 1) := by decide +kernel
theorem dX11_sound_98 : decode cX11_sound 98 = .ok (.invokestatic 197, 3) := by decide +kernel
theorem dX11_sound_101 : decode cX11_sound 101 = .ok (.iload 7, 2) := by decide +kernel
theorem dX11_sound_103 : decode cX11_sound 103 = .ok (.ifCond .eq 19, 3) := by decide +kernel
theorem dX11_sound_106 : decode cX11_sound 106 = .ok (.iload 5, 2) := by decide +kernel
theorem dX11_sound_108 : decode cX11_sound 108 = .ok (.iload_n 2, 1) := by decide +kernel
theorem dX11_sound_109 : decode cX11_sound 109 = .ok (.iconst 1, 1) := by decide +kernel
theorem dX11_sound_110 : decode cX11_sound 110 = .ok (.isub, 1) := by decide +kernel
theorem dX11_sound_111 : decode cX11_sound 111 = .ok (.if_icmp .ge 15, 3) := by decide +kernel
theorem dX11_sound_114 : decode cX11_sound 114 = .ok (.aload_n 0, 1) := by decide +kernel
theorem dX11_sound_115 : decode cX11_sound 115 = .ok (.iconst 1, 1) := by decide +kernel
theorem dX11_sound_116 : decode cX11_sound 116 = .ok (.invokevirtual 65, 3) := by decide +kernel
theorem dX11_sound_119 : decode cX11_sound 119 = .ok (.ifCond .le 7, 3) := by decide +kernel
theorem dX11_sound_122 : decode cX11_sound 122 = .ok (.iconst 1, 1) := by decide +kernel
theorem dX11_sound_123 : decode cX11_sound 123 = .ok (.goto 4, 3) := by decide +kernel
theorem dX11_sound_126 : decode cX11_sound 126 = .ok (.iconst 0, 1) := by decide +kernel
theorem dX11_sound_127 : decode cX11_sound 127 = .ok (.ireturn, 1) := by decide +kernel
set_option maxHeartbeats 4000000 in
set_option maxRecDepth 100000 in
theorem c_X11_sound {E : u_E} {l : Launch} {o : u_O} {p1 : u_O} {p2 : Int} {p3 : Int} {p4 : Int} (ho : is_Mo o) (i_p1 : is_A p1) (i_p2 : InR p2) (i_p3 : InR p3) (i_p4 : InR p4) {s s' : u_S} {r : Int} (h : f_X11_sound o p1 p2 p3 p4 s = some (r, s')) : Con l (XE E) yX11_sound cX11_sound 9 (some .boolean) 2 45 0 0 [.ref (E.1 o), .ref (E.1 p1), .int (J p2), .int (J p3), .int (J p4)] (Wd E s) (RZ E r s') := by
  refine Con.of [some (.ref (E.1 o)), some (.ref (E.1 p1)), some (.int (J p2)), some (.int (J p3)), some (.int (J p4)), none, none, none, none] (by decide +kernel) rfl rfl (Nat.le_of_ble_eq_true rfl) (fun K g => ?_)
  have g0 := g.wk
  unfold f_X11_sound at h
  refine r_iload g0 dX11_sound_0 rfl ?_
  refine r_iconst g0 dX11_sound_2 ?_
  refine r_idiv g0 dX11_sound_3 i_p4 (InR_lit rfl) (by decide) ?_
  refine r_istore g0 (lv' := [some (.ref (E.1 o)), some (.ref (E.1 p1)), some (.int (J p2)), some (.int (J p3)), some (.int (J p4)), some (.int (J (wr (Int.tdiv p4 2)))), none, none, none]) dX11_sound_4 (by decide) rfl rfl ?_
  refine r_bipush g0 dX11_sound_6 rfl ?_
  refine r_iload_n g0 dX11_sound_8 rfl ?_
  refine r_iload_n g0 dX11_sound_9 rfl ?_
  refine r_iload g0 dX11_sound_10 rfl ?_
  obtain ⟨r_1, s_1, hr_1, h⟩ := bd_some h
  refine r_cSI g0 (rest := [.int (J (-7))]) (c_X11_voice i_p2 i_p3 (InR_wr _) hr_1) ok_X11_voice mX11_255 dX11_sound_12 ⟨Nat.le_of_ble_eq_true rfl, Nat.le_of_ble_eq_true rfl⟩ ⟨Nat.zero_le _, Nat.zero_le _⟩ rfl (Nat.le_of_ble_eq_true rfl) rfl (fun i_r_1 => ?_)
  refine r_imul g0 dX11_sound_15 ?_
  refine r_istore g0 (lv' := [some (.ref (E.1 o)), some (.ref (E.1 p1)), some (.int (J p2)), some (.int (J p3)), some (.int (J p4)), some (.int (J (wr (Int.tdiv p4 2)))), some (.int (J (wr ((-7) * r_1)))), none, none]) dX11_sound_16 (by decide) rfl rfl ?_
  refine r_iload g0 dX11_sound_18 rfl ?_
  refine r_iconst g0 dX11_sound_20 ?_
  refine r_irem g0 dX11_sound_21 i_p4 (InR_lit rfl) (by decide) ?_
  refine r_iconst g0 dX11_sound_22 ?_
  obtain ⟨jp_1, hdjp_1, h⟩ := jn_some h
  have hjp_1 : ∀ (vt_1 : Int) (s_2 : u_S), B01 vt_1 → jp_1 vt_1 s_2 = some (r, s') → K 0 0 31 [some (.ref (E.1 o)), some (.ref (E.1 p1)), some (.int (J p2)), none, none, some (.int (J (wr (Int.tdiv p4 2)))), some (.int (J (wr ((-7) * r_1)))), none, none] [.int (J vt_1)] (Wd E s_2) := by
    intro vt_1 s_2 i_vt_1 h
    subst hdjp_1
    refine r_istore g0 (lv' := [some (.ref (E.1 o)), some (.ref (E.1 p1)), some (.int (J p2)), none, none, some (.int (J (wr (Int.tdiv p4 2)))), some (.int (J (wr ((-7) * r_1)))), some (.int (J vt_1)), none]) dX11_sound_31 (by decide) rfl rfl ?_
    refine r_aload_n g0 dX11_sound_33 rfl ?_
    refine r_iconst g0 dX11_sound_34 ?_
    obtain ⟨r_2, s_3, hr_2, h⟩ := bd_some h
    refine r_cVI g0 (rest := []) (c_X11_length ho (B01.inR B01_0) hr_2) ok_X11_length mX11_128 (recv_Mo ho) dX11_sound_35 ⟨Nat.le_of_ble_eq_true rfl, Nat.le_of_ble_eq_true rfl⟩ ⟨Nat.zero_le _, Nat.zero_le _⟩ rfl (Nat.le_of_ble_eq_true rfl) rfl (fun i_r_2 => ?_)
    refine r_istore g0 (lv' := [some (.ref (E.1 o)), some (.ref (E.1 p1)), some (.int (J p2)), none, none, some (.int (J (wr (Int.tdiv p4 2)))), some (.int (J (wr ((-7) * r_1)))), some (.int (J vt_1)), some (.int (J r_2))]) dX11_sound_38 (by decide) rfl rfl ?_
    refine r_iload g0 dX11_sound_40 rfl ?_
    obtain ⟨jp_2, hdjp_2, h⟩ := jn_some h
    have hjp_2 : ∀  (s_4 : u_S), jp_2 s_4 = some (r, s') → K 0 0 101 [some (.ref (E.1 o)), none, some (.int (J p2)), none, none, some (.int (J (wr (Int.tdiv p4 2)))), none, some (.int (J vt_1)), none] [] (Wd E s_4) := by
      intro s_4 h
      subst hdjp_2
      refine r_iload g0 dX11_sound_101 rfl ?_
      obtain ⟨jp_3, hdjp_3, h⟩ := jn_some h
      have hjp_3 : ∀  (s_5 : u_S), jp_3 s_5 = some (r, s') → K 0 0 122 [none, none, none, none, none, none, none, none, none] [] (Wd E s_5) := by
        intro s_5 h
        subst hdjp_3
        refine r_iconst g0 dX11_sound_122 ?_
        refine r_goto g0 127 dX11_sound_123 (by decide) ?_
        exact z_Z g dX11_sound_127 B01_1 h
      clear hdjp_3
      refine r_if_eq g0 122 dX11_sound_103 (by decide) (B01.inR i_vt_1) (fun hc => ?_) (fun hc => ?_)
      · replace h := if_t hc h
        refine r_mask g0 (lv' := [none, none, none, none, none, none, none, none, none]) [false, false, false, false, false, false, false, false, false] rfl ?_
        exact hjp_3 s_4 h
      · replace h := if_f hc h
        refine r_iload g0 dX11_sound_106 rfl ?_
        refine r_iload_n g0 dX11_sound_108 rfl ?_
        refine r_iconst g0 dX11_sound_109 ?_
        refine r_isub g0 dX11_sound_110 ?_
        refine r_icmp_ge g0 126 dX11_sound_111 (by decide) (InR_wr _) (InR_wr _) (fun hc => ?_) (fun hc => ?_)
        · replace h := if_f hc h
          refine r_iconst g0 dX11_sound_126 ?_
          exact z_Z g dX11_sound_127 B01_0 h
        · replace h := if_t hc h
          refine r_aload_n g0 dX11_sound_114 rfl ?_
          refine r_iconst g0 dX11_sound_115 ?_
          obtain ⟨r_3, s_6, hr_3, h⟩ := bd_some h
          refine r_cVI g0 (rest := []) (c_X11_notes ho (B01.inR B01_1) hr_3) ok_X11_notes mX11_65 (recv_Mo ho) dX11_sound_116 ⟨Nat.le_of_ble_eq_true rfl, Nat.le_of_ble_eq_true rfl⟩ ⟨Nat.zero_le _, Nat.zero_le _⟩ rfl (Nat.le_of_ble_eq_true rfl) rfl (fun i_r_3 => ?_)
          refine r_if_le g0 126 dX11_sound_119 (by decide) i_r_3 (fun hc => ?_) (fun hc => ?_)
          · replace h := if_t hc h
            refine r_iconst g0 dX11_sound_126 ?_
            exact z_Z g dX11_sound_127 B01_0 h
          · replace h := if_f hc h
            refine r_mask g0 (lv' := [none, none, none, none, none, none, none, none, none]) [false, false, false, false, false, false, false, false, false] rfl ?_
            exact hjp_3 s_6 h
    clear hdjp_2
    refine r_if_eq g0 77 dX11_sound_42 (by decide) (B01.inR i_vt_1) (fun hc => ?_) (fun hc => ?_)
    · replace h := if_t hc h
      refine r_aload_n g0 dX11_sound_77 rfl ?_
      refine r_iconst g0 dX11_sound_78 ?_
      refine r_iload g0 dX11_sound_79 rfl ?_
      refine r_iconst g0 dX11_sound_81 ?_
      refine r_irem g0 dX11_sound_82 (InR_wr _) (InR_lit rfl) (by decide) ?_
      obtain ⟨jp_4, hdjp_4, h⟩ := jn_some h
      have hjp_4 : ∀ (vt_2 : u_O) (vt_3 : Int) (vt_4 : Int) (s_7 : u_S), is_A vt_2 → B01 vt_3 → B01 vt_4 → jp_4 vt_2 vt_3 vt_4 s_7 = some (r, s') → K 0 0 91 [some (.ref (E.1 o)), none, some (.int (J p2)), none, none, some (.int (J (wr (Int.tdiv p4 2)))), some (.int (J (wr ((-7) * r_1)))), some (.int (J vt_1)), some (.int (J r_2))] [.int (J vt_4), .int (J vt_3), .ref (E.1 vt_2)] (Wd E s_7) := by
        intro vt_2 vt_3 vt_4 s_7 i_vt_2 i_vt_3 i_vt_4 h
        subst hdjp_4
        refine r_iload g0 dX11_sound_91 rfl ?_
        refine r_iload g0 dX11_sound_93 rfl ?_
        refine r_iload g0 dX11_sound_95 rfl ?_
        refine r_imul g0 dX11_sound_97 ?_
        obtain ⟨r_4, s_8, hr_4, h⟩ := bd_some h
        refine r_cSV g0 (rest := []) (c_X11_puts i_vt_2 (B01.inR i_vt_3) (B01.inR i_vt_4) (InR_wr _) (InR_wr _) hr_4) ok_X11_puts mX11_197 dX11_sound_98 ⟨Nat.le_of_ble_eq_true rfl, Nat.le_of_ble_eq_true rfl⟩ ⟨Nat.zero_le _, Nat.zero_le _⟩ rfl (Nat.le_of_ble_eq_true rfl) rfl ?_
        refine r_mask g0 (lv' := [some (.ref (E.1 o)), none, some (.int (J p2)), none, none, some (.int (J (wr (Int.tdiv p4 2)))), none, some (.int (J vt_1)), none]) [true, false, true, false, false, true, false, true, false] rfl ?_
        exact hjp_2 s_8 h
      clear hdjp_4
      refine r_if_ne g0 90 dX11_sound_83 (by decide) (InR_rem _ (InR_wr _)) (fun hc => ?_) (fun hc => ?_)
      · replace h := if_f hc h
        refine r_iconst g0 dX11_sound_90 ?_
        refine r_mask g0 (lv' := [some (.ref (E.1 o)), none, some (.int (J p2)), none, none, some (.int (J (wr (Int.tdiv p4 2)))), some (.int (J (wr ((-7) * r_1)))), some (.int (J vt_1)), some (.int (J r_2))]) [true, false, true, false, false, true, true, true, true] rfl ?_
        exact hjp_4 p1 0 1 s_3 i_p1 B01_0 B01_1 h
      · replace h := if_t hc h
        refine r_iconst g0 dX11_sound_86 ?_
        refine r_goto g0 91 dX11_sound_87 (by decide) ?_
        refine r_mask g0 (lv' := [some (.ref (E.1 o)), none, some (.int (J p2)), none, none, some (.int (J (wr (Int.tdiv p4 2)))), some (.int (J (wr ((-7) * r_1)))), some (.int (J vt_1)), some (.int (J r_2))]) [true, false, true, false, false, true, true, true, true] rfl ?_
        exact hjp_4 p1 0 0 s_3 i_p1 B01_0 B01_0 h
    · replace h := if_f hc h
      refine r_aload_n g0 dX11_sound_45 rfl ?_
      refine r_iconst g0 dX11_sound_46 ?_
      refine r_iconst g0 dX11_sound_47 ?_
      refine r_iload g0 dX11_sound_48 rfl ?_
      refine r_iconst g0 dX11_sound_50 ?_
      refine r_irem g0 dX11_sound_51 (InR_wr _) (InR_lit rfl) (by decide) ?_
      obtain ⟨jp_5, hdjp_5, h⟩ := jn_some h
      have hjp_5 : ∀ (vt_5 : u_O) (vt_6 : Int) (vt_7 : Int) (vt_8 : Int) (s_9 : u_S), is_A vt_5 → B01 vt_6 → B01 vt_7 → InR vt_8 → jp_5 vt_5 vt_6 vt_7 vt_8 s_9 = some (r, s') → K 0 0 64 [some (.ref (E.1 o)), none, some (.int (J p2)), none, none, some (.int (J (wr (Int.tdiv p4 2)))), none, some (.int (J vt_1)), some (.int (J r_2))] [.int (J vt_8), .int (J vt_7), .int (J vt_6), .ref (E.1 vt_5)] (Wd E s_9) := by
        intro vt_5 vt_6 vt_7 vt_8 s_9 i_vt_5 i_vt_6 i_vt_7 i_vt_8 h
        subst hdjp_5
        refine r_iload g0 dX11_sound_64 rfl ?_
        refine r_iconst g0 dX11_sound_66 ?_
        refine r_iadd g0 dX11_sound_67 ?_
        refine r_iload g0 dX11_sound_68 rfl ?_
        refine r_imul g0 dX11_sound_70 ?_
        obtain ⟨r_5, s_10, hr_5, h⟩ := bd_some h
        refine r_cSV g0 (rest := []) (c_X11_puts i_vt_5 (B01.inR i_vt_6) (B01.inR i_vt_7) i_vt_8 (InR_wr _) hr_5) ok_X11_puts mX11_197 dX11_sound_71 ⟨Nat.le_of_ble_eq_true rfl, Nat.le_of_ble_eq_true rfl⟩ ⟨Nat.zero_le _, Nat.zero_le _⟩ rfl (Nat.le_of_ble_eq_true rfl) rfl ?_
        refine r_goto g0 101 dX11_sound_74 (by decide) ?_
        refine r_mask g0 (lv' := [some (.ref (E.1 o)), none, some (.int (J p2)), none, none, some (.int (J (wr (Int.tdiv p4 2)))), none, some (.int (J vt_1)), none]) [true, false, true, false, false, true, false, true, false] rfl ?_
        exact hjp_2 s_10 h
      clear hdjp_5
      refine r_if_ne g0 62 dX11_sound_52 (by decide) (InR_rem _ (InR_wr _)) (fun hc => ?_) (fun hc => ?_)
      · replace h := if_f hc h
        refine r_iload g0 dX11_sound_62 rfl ?_
        refine r_mask g0 (lv' := [some (.ref (E.1 o)), none, some (.int (J p2)), none, none, some (.int (J (wr (Int.tdiv p4 2)))), none, some (.int (J vt_1)), some (.int (J r_2))]) [true, false, true, false, false, true, false, true, true] rfl ?_
        exact hjp_5 p1 1 0 (wr ((-7) * r_1)) s_3 i_p1 B01_1 B01_0 (InR_wr _) h
      · replace h := if_t hc h
        refine r_iload g0 dX11_sound_55 rfl ?_
        refine r_iconst g0 dX11_sound_57 ?_
        refine r_iadd g0 dX11_sound_58 ?_
        refine r_goto g0 64 dX11_sound_59 (by decide) ?_
        refine r_mask g0 (lv' := [some (.ref (E.1 o)), none, some (.int (J p2)), none, none, some (.int (J (wr (Int.tdiv p4 2)))), none, some (.int (J vt_1)), some (.int (J r_2))]) [true, false, true, false, false, true, false, true, true] rfl ?_
        exact hjp_5 p1 1 0 (wr ((wr ((-7) * r_1)) + 4)) s_3 i_p1 B01_1 B01_0 (InR_wr _) h
  clear hdjp_1
  refine r_icmp_ne g0 30 dX11_sound_23 (by decide) (InR_rem _ i_p4) (B01.inR B01_1) (fun hc => ?_) (fun hc => ?_)
  · replace h := if_f hc h
    refine r_iconst g0 dX11_sound_30 ?_
    refine r_mask g0 (lv' := [some (.ref (E.1 o)), some (.ref (E.1 p1)), some (.int (J p2)), none, none, some (.int (J (wr (Int.tdiv p4 2)))), some (.int (J (wr ((-7) * r_1)))), none, none]) [true, true, true, false, false, true, true, false, false] rfl ?_
    exact hjp_1 0 s_1 B01_0 h
  · replace h := if_t hc h
    refine r_iconst g0 dX11_sound_26 ?_
    refine r_goto g0 31 dX11_sound_27 (by decide) ?_
    refine r_mask g0 (lv' := [some (.ref (E.1 o)), some (.ref (E.1 p1)), some (.int (J p2)), none, none, some (.int (J (wr (Int.tdiv p4 2)))), some (.int (J (wr ((-7) * r_1)))), none, none]) [true, true, true, false, false, true, true, false, false] rfl ?_
    exact hjp_1 1 s_1 B01_1 h
theorem dX11_orderFaults_0 : decode cX11_orderFaults 0 = .ok (.iconst 0, 1) := by decide +kernel
theorem dX11_orderFaults_1 : decode cX11_orderFaults 1 = .ok (.istore_n 3, 1) := by decide +kernel
theorem dX11_orderFaults_2 : decode cX11_orderFaults 2 = .ok (.iconst 0, 1) := by decide +kernel
theorem dX11_orderFaults_3 : decode cX11_orderFaults 3 = .ok (.istore 4, 2) := by decide +kernel
theorem dX11_orderFaults_5 : decode cX11_orderFaults 5 = .ok (.iload 4, 2) := by decide +kernel
theorem dX11_orderFaults_7 : decode cX11_orderFaults 7 = .ok (.iconst 2, 1) := by decide +kernel
theorem dX11_orderFaults_8 : decode cX11_orderFaults 8 = .ok (.iload_n 1, 1) := by decide +kernel
theorem dX11_orderFaults_9 : decode cX11_orderFaults 9 = .ok (.imul, 1) := by decide +kernel
theorem dX11_orderFaults_10 : decode cX11_orderFaults 10 = .ok (.if_icmp .ge 97, 3) := by decide +kernel
theorem dX11_orderFaults_13 : decode cX11_orderFaults 13 = .ok (.iconst 0, 1) := by decide +kernel
theorem dX11_orderFaults_14 : decode cX11_orderFaults 14 = .ok (.istore 5, 2) := by decide +kernel
theorem dX11_orderFaults_16 : decode cX11_orderFaults 16 = .ok (.iload 5, 2) := by decide +kernel
theorem dX11_orderFaults_18 : decode cX11_orderFaults 18 = .ok (.iconst 2, 1) := by decide +kernel
theorem dX11_orderFaults_19 : decode cX11_orderFaults 19 = .ok (.iload_n 1, 1) := by decide +kernel
theorem dX11_orderFaults_20 : decode cX11_orderFaults 20 = .ok (.imul, 1) := by decide +kernel
theorem dX11_orderFaults_21 : decode cX11_orderFaults 21 = .ok (.if_icmp .ge 80, 3) := by decide +kernel
theorem dX11_orderFaults_24 : decode cX11_orderFaults 24 = .ok (.iload_n 1, 1) := by decide +kernel
theorem dX11_orderFaults_25 : decode cX11_orderFaults 25 = .ok (.iload_n 2, 1) := by decide +kernel
theorem dX11_orderFaults_26 : decode cX11_orderFaults 26 = .ok (.iload 4, 2) := by decide +kernel
theorem dX11_orderFaults_28 : decode cX11_orderFaults 28 = .ok (.iconst 2, 1) := by decide +kernel
theorem dX11_orderFaults_29 : decode cX11_orderFaults 29 = .ok (.idiv, 1) := by decide +kernel
theorem dX11_orderFaults_30 : decode cX11_orderFaults 30 = .ok (.invokestatic 255, 3) := by decide +kernel
theorem dX11_orderFaults_33 : decode cX11_orderFaults 33 = .ok (.iload_n 1, 1) := by decide +kernel
theorem dX11_orderFaults_34 : decode cX11_orderFaults 34 = .ok (.iload_n 2, 1) := by decide +kernel
theorem dX11_orderFaults_35 : decode cX11_orderFaults 35 = .ok (.iload 5, 2) := by decide +kernel
theorem dX11_orderFaults_37 : decode cX11_orderFaults 37 = .ok (.iconst 2, 1) := by decide +kernel
theorem dX11_orderFaults_38 : decode cX11_orderFaults 38 = .ok (.idiv, 1) := by decide +kernel
theorem dX11_orderFaults_39 : decode cX11_orderFaults 39 = .ok (.invokestatic 255, 3) := by decide +kernel
theorem dX11_orderFaults_42 : decode cX11_orderFaults 42 = .ok (.if_icmp .ge 7, 3) := by decide +kernel
theorem dX11_orderFaults_45 : decode cX11_orderFaults 45 = .ok (.iconst 1, 1) := by decide +kernel
theorem dX11_orderFaults_46 : decode cX11_orderFaults 46 = .ok (.goto 4, 3) := by decide +kernel
theorem dX11_orderFaults_49 : decode cX11_orderFaults 49 = .ok (.iconst 0, 1) := by decide +kernel
theorem dX11_orderFaults_50 : decode cX11_orderFaults 50 = .ok (.istore 6, 2) := by decide +kernel
theorem dX11_orderFaults_52 : decode cX11_orderFaults 52 = .ok (.iload 6, 2) := by decide +kernel
theorem dX11_orderFaults_54 : decode cX11_orderFaults 54 = .ok (.ifCond .eq 41, 3) := by decide +kernel
theorem dX11_orderFaults_57 : decode cX11_orderFaults 57 = .ok (.aload_n 0, 1) := by decide +kernel
theorem dX11_orderFaults_58 : decode cX11_orderFaults 58 = .ok (.aload_n 0, 1) := by decide +kernel
theorem dX11_orderFaults_59 : decode cX11_orderFaults 59 = .ok (.getfield 22, 3) := by decide +kernel
theorem dX11_orderFaults_62 : decode cX11_orderFaults 62 = .ok (.iload_n 1, 1) := by decide +kernel
theorem dX11_orderFaults_63 : decode cX11_orderFaults 63 = .ok (.iload_n 2, 1) := by decide +kernel
theorem dX11_orderFaults_64 : decode cX11_orderFaults 64 = .ok (.iload 4, 2) := by decide +kernel
theorem dX11_orderFaults_66 : decode cX11_orderFaults 66 = .ok (.invokevirtual 258, 3) := by decide +kernel
theorem dX11_orderFaults_69 : decode cX11_orderFaults 69 = .ok (.ifCond .eq 26, 3) := by decide +kernel
theorem dX11_orderFaults_72 : decode cX11_orderFaults 72 = .ok (.aload_n 0, 1) := by decide +kernel
theorem dX11_orderFaults_73 : decode cX11_orderFaults 73 = .ok (.aload_n 0, 1) := by decide +kernel
theorem dX11_orderFaults_74 : decode cX11_orderFaults 74 = .ok (.getfield 25, 3) := by decide +kernel
theorem dX11_orderFaults_77 : decode cX11_orderFaults 77 = .ok (.iload_n 1, 1) := by decide +kernel
theorem dX11_orderFaults_78 : decode cX11_orderFaults 78 = .ok (.iload_n 2, 1) := by decide +kernel
theorem dX11_orderFaults_79 : decode cX11_orderFaults 79 = .ok (.iload 5, 2) := by decide +kernel
theorem dX11_orderFaults_81 : decode cX11_orderFaults 81 = .ok (.invokevirtual 258, 3) := by decide +kernel
theorem dX11_orderFaults_84 : decode cX11_orderFaults 84 = .ok (.ifCond .eq 11, 3) := by decide +kernel
theorem dX11_orderFaults_87 : decode cX11_orderFaults 87 = .ok (.iload_n 3, 1) := by decide +kernel
theorem dX11_orderFaults_88 : decode cX11_orderFaults 88 = .ok (.aload_n 0, 1) := by decide +kernel
theorem dX11_orderFaults_89 : decode cX11_orderFaults 89 = .ok (.iconst 3, 1) := by decide +kernel
theorem dX11_orderFaults_90 : decode cX11_orderFaults 90 = .ok (.invokevirtual 210, 3) := by decide +kernel
theorem dX11_orderFaults_93 : decode cX11_orderFaults 93 = .ok (.iadd, 1) := by decide +kernel
theorem dX11_orderFaults_94 : decode cX11_orderFaults 94 = .ok (.istore_n 3, 1) := by decide +kernel
theorem dX11_orderFaults_95 : decode cX11_orderFaults 95 = .ok (.iinc 5 1, 3) := by decide +kernel
theorem dX11_orderFaults_98 : decode cX11_orderFaults 98 = .ok (.goto (-82), 3) := by decide +kernel
theorem dX11_orderFaults_101 : decode cX11_orderFaults 101 = .ok (.iinc 4 1, 3) := by decide +kernel
theorem dX11_orderFaults_104 : decode cX11_orderFaults 104 = .ok (.goto (-99), 3) := by decide +kernel
theorem dX11_orderFaults_107 : decode cX11_orderFaults 107 = .ok (.iload_n 3, 1) := by decide +kernel
theorem dX11_orderFaults_108 : decode cX11_orderFaults 108 = .ok (.ireturn, 1) := by decide +kernel
set_option maxHeartbeats 4000000 in
set_option maxRecDepth 100000 in
theorem t_X11_orderFaults_L16 {l : Launch} {E : u_E} {K : u_K} {r : Int} {s' : u_S} (g : Wk l (XE E) { frames := 7, cells := 0, slots := 0, locals := 170 } cX11_orderFaults 7 yX11_orderFaults.cls yX11_orderFaults.name (some .int) (RI E r s') K) {v0_2 : u_O} {v1_2 : Int} {v2_2 : Int} {v4_2 : Int} (i_v0_2 : is_Mo v0_2) (i_v1_2 : InR v1_2) (i_v2_2 : InR v2_2) (i_v4_2 : InR v4_2) {kx101 : Int → u_S → Option (Int × u_S)} (hkx101 : ∀ (v3_6 : Int) (s_12 : u_S), InR v3_6 → kx101 v3_6 s_12 = some (r, s') → K 0 0 101 [some (.ref (E.1 v0_2)), some (.int (J v1_2)), some (.int (J v2_2)), some (.int (J v3_6)), some (.int (J v4_2)), none, none] [] (Wd E s_12)) : ∀ (m : Nat) (v3_4 : Int) (v5_1 : Int) (s_4 : u_S), InR v3_4 → InR v5_1 → f_X11_orderFaults_L16 m kx101 v0_2 v1_2 v2_2 v4_2 v3_4 v5_1 s_4 = some (r, s') → K 0 0 16 [some (.ref (E.1 v0_2)), some (.int (J v1_2)), some (.int (J v2_2)), some (.int (J v3_4)), some (.int (J v4_2)), some (.int (J v5_1)), none] [] (Wd E s_4) := by
  have g0 := g.wk
  intro m
  induction m with
  | zero =>
    intro v3_4 v5_1 s_4 i_v3_4 i_v5_1 h
    exact absurd (show (none : Option (Int × u_S)) = some (r, s') from h) (by intro z; cases z)
  | succ m ih =>
    intro v3_4 v5_1 s_4 i_v3_4 i_v5_1 h
    rw [f_X11_orderFaults_L16] at h
    refine r_iload g0 dX11_orderFaults_16 rfl ?_
    refine r_iconst g0 dX11_orderFaults_18 ?_
    refine r_iload_n g0 dX11_orderFaults_19 rfl ?_
    refine r_imul g0 dX11_orderFaults_20 ?_
    refine r_icmp_ge g0 101 dX11_orderFaults_21 (by decide) i_v5_1 (InR_wr _) (fun hc => ?_) (fun hc => ?_)
    · replace h := if_f hc h
      refine r_mask g0 (lv' := [some (.ref (E.1 v0_2)), some (.int (J v1_2)), some (.int (J v2_2)), some (.int (J v3_4)), some (.int (J v4_2)), none, none]) [true, true, true, true, true, false, false] rfl ?_
      exact hkx101 v3_4 s_4 i_v3_4 h
    · replace h := if_t hc h
      refine r_iload_n g0 dX11_orderFaults_24 rfl ?_
      refine r_iload_n g0 dX11_orderFaults_25 rfl ?_
      refine r_iload g0 dX11_orderFaults_26 rfl ?_
      refine r_iconst g0 dX11_orderFaults_28 ?_
      refine r_idiv g0 dX11_orderFaults_29 i_v4_2 (InR_lit rfl) (by decide) ?_
      obtain ⟨r_1, s_5, hr_1, h⟩ := bd_some h
      refine r_cSI g0 (rest := []) (c_X11_voice i_v1_2 i_v2_2 (InR_wr _) hr_1) ok_X11_voice mX11_255 dX11_orderFaults_30 ⟨Nat.le_of_ble_eq_true rfl, Nat.le_of_ble_eq_true rfl⟩ ⟨Nat.zero_le _, Nat.zero_le _⟩ rfl (Nat.le_of_ble_eq_true rfl) rfl (fun i_r_1 => ?_)
      refine r_iload_n g0 dX11_orderFaults_33 rfl ?_
      refine r_iload_n g0 dX11_orderFaults_34 rfl ?_
      refine r_iload g0 dX11_orderFaults_35 rfl ?_
      refine r_iconst g0 dX11_orderFaults_37 ?_
      refine r_idiv g0 dX11_orderFaults_38 i_v5_1 (InR_lit rfl) (by decide) ?_
      obtain ⟨r_2, s_6, hr_2, h⟩ := bd_some h
      refine r_cSI g0 (rest := [.int (J r_1)]) (c_X11_voice i_v1_2 i_v2_2 (InR_wr _) hr_2) ok_X11_voice mX11_255 dX11_orderFaults_39 ⟨Nat.le_of_ble_eq_true rfl, Nat.le_of_ble_eq_true rfl⟩ ⟨Nat.zero_le _, Nat.zero_le _⟩ rfl (Nat.le_of_ble_eq_true rfl) rfl (fun i_r_2 => ?_)
      obtain ⟨jp_1, hdjp_1, h⟩ := jn_some h
      have hjp_1 : ∀ (vt_1 : Int) (s_7 : u_S), B01 vt_1 → jp_1 vt_1 s_7 = some (r, s') → K 0 0 50 [some (.ref (E.1 v0_2)), some (.int (J v1_2)), some (.int (J v2_2)), some (.int (J v3_4)), some (.int (J v4_2)), some (.int (J v5_1)), none] [.int (J vt_1)] (Wd E s_7) := by
        intro vt_1 s_7 i_vt_1 h
        subst hdjp_1
        refine r_istore g0 (lv' := [some (.ref (E.1 v0_2)), some (.int (J v1_2)), some (.int (J v2_2)), some (.int (J v3_4)), some (.int (J v4_2)), some (.int (J v5_1)), some (.int (J vt_1))]) dX11_orderFaults_50 (by decide) rfl rfl ?_
        refine r_iload g0 dX11_orderFaults_52 rfl ?_
        obtain ⟨jp_2, hdjp_2, h⟩ := jn_some h
        have hjp_2 : ∀ (v3_5 : Int) (s_8 : u_S), InR v3_5 → jp_2 v3_5 s_8 = some (r, s') → K 0 0 95 [some (.ref (E.1 v0_2)), some (.int (J v1_2)), some (.int (J v2_2)), some (.int (J v3_5)), some (.int (J v4_2)), some (.int (J v5_1)), none] [] (Wd E s_8) := by
          intro v3_5 s_8 i_v3_5 h
          subst hdjp_2
          refine r_iinc g0 (a := v5_1) (lv' := [some (.ref (E.1 v0_2)), some (.int (J v1_2)), some (.int (J v2_2)), some (.int (J v3_5)), some (.int (J v4_2)), some (.int (J (wr (v5_1 + 1)))), none]) dX11_orderFaults_95 (by decide) rfl rfl rfl ?_
          refine r_goto g0 16 dX11_orderFaults_98 (by decide) ?_
          exact ih v3_5 (wr (v5_1 + 1)) s_8 i_v3_5 (InR_wr _) h
        clear hdjp_2
        refine r_if_eq g0 95 dX11_orderFaults_54 (by decide) (B01.inR i_vt_1) (fun hc => ?_) (fun hc => ?_)
        · replace h := if_t hc h
          refine r_mask g0 (lv' := [some (.ref (E.1 v0_2)), some (.int (J v1_2)), some (.int (J v2_2)), some (.int (J v3_4)), some (.int (J v4_2)), some (.int (J v5_1)), none]) [true, true, true, true, true, true, false] rfl ?_
          exact hjp_2 v3_4 s_7 i_v3_4 h
        · replace h := if_f hc h
          refine r_aload_n g0 dX11_orderFaults_57 rfl ?_
          refine r_aload_n g0 dX11_orderFaults_58 rfl ?_
          refine g_Mo_upper g0 i_v0_2 qX11_22 dX11_orderFaults_59 ?_
          refine r_iload_n g0 dX11_orderFaults_62 rfl ?_
          refine r_iload_n g0 dX11_orderFaults_63 rfl ?_
          refine r_iload g0 dX11_orderFaults_64 rfl ?_
          obtain ⟨r_3, s_9, hr_3, h⟩ := bd_some h
          refine r_cVZ g0 (rest := []) (c_X11_sound i_v0_2 (is_a_Mo_upper i_v0_2) i_v1_2 i_v2_2 i_v4_2 hr_3) ok_X11_sound mX11_258 (recv_Mo i_v0_2) dX11_orderFaults_66 ⟨Nat.le_of_ble_eq_true rfl, Nat.le_of_ble_eq_true rfl⟩ ⟨Nat.zero_le _, Nat.zero_le _⟩ rfl (Nat.le_of_ble_eq_true rfl) rfl (fun i_r_3 => ?_)
          refine r_if_eq g0 95 dX11_orderFaults_69 (by decide) (B01.inR i_r_3) (fun hc => ?_) (fun hc => ?_)
          · replace h := if_t hc h
            refine r_mask g0 (lv' := [some (.ref (E.1 v0_2)), some (.int (J v1_2)), some (.int (J v2_2)), some (.int (J v3_4)), some (.int (J v4_2)), some (.int (J v5_1)), none]) [true, true, true, true, true, true, false] rfl ?_
            exact hjp_2 v3_4 s_9 i_v3_4 h
          · replace h := if_f hc h
            refine r_aload_n g0 dX11_orderFaults_72 rfl ?_
            refine r_aload_n g0 dX11_orderFaults_73 rfl ?_
            refine g_Mo_lower g0 i_v0_2 qX11_25 dX11_orderFaults_74 ?_
            refine r_iload_n g0 dX11_orderFaults_77 rfl ?_
            refine r_iload_n g0 dX11_orderFaults_78 rfl ?_
            refine r_iload g0 dX11_orderFaults_79 rfl ?_
            obtain ⟨r_4, s_10, hr_4, h⟩ := bd_some h
            refine r_cVZ g0 (rest := []) (c_X11_sound i_v0_2 (is_a_Mo_lower i_v0_2) i_v1_2 i_v2_2 i_v5_1 hr_4) ok_X11_sound mX11_258 (recv_Mo i_v0_2) dX11_orderFaults_81 ⟨Nat.le_of_ble_eq_true rfl, Nat.le_of_ble_eq_true rfl⟩ ⟨Nat.zero_le _, Nat.zero_le _⟩ rfl (Nat.le_of_ble_eq_true rfl) rfl (fun i_r_4 => ?_)
            refine r_if_eq g0 95 dX11_orderFaults_84 (by decide) (B01.inR i_r_4) (fun hc => ?_) (fun hc => ?_)
            · replace h := if_t hc h
              refine r_mask g0 (lv' := [some (.ref (E.1 v0_2)), some (.int (J v1_2)), some (.int (J v2_2)), some (.int (J v3_4)), some (.int (J v4_2)), some (.int (J v5_1)), none]) [true, true, true, true, true, true, false] rfl ?_
              exact hjp_2 v3_4 s_10 i_v3_4 h
            · replace h := if_f hc h
              refine r_iload_n g0 dX11_orderFaults_87 rfl ?_
              refine r_aload_n g0 dX11_orderFaults_88 rfl ?_
              refine r_iconst g0 dX11_orderFaults_89 ?_
              obtain ⟨r_5, s_11, hr_5, h⟩ := bd_some h
              refine r_cVI g0 (rest := [.int (J v3_4)]) (c_X11_faultsOf i_v0_2 (InR_lit rfl) hr_5) ok_X11_faultsOf mX11_210 (recv_Mo i_v0_2) dX11_orderFaults_90 ⟨Nat.le_of_ble_eq_true rfl, Nat.le_of_ble_eq_true rfl⟩ ⟨Nat.zero_le _, Nat.zero_le _⟩ rfl (Nat.le_of_ble_eq_true rfl) rfl (fun i_r_5 => ?_)
              refine r_iadd g0 dX11_orderFaults_93 ?_
              refine r_istore_n g0 (lv' := [some (.ref (E.1 v0_2)), some (.int (J v1_2)), some (.int (J v2_2)), some (.int (J (wr (v3_4 + r_5)))), some (.int (J v4_2)), some (.int (J v5_1)), some (.int (J vt_1))]) dX11_orderFaults_94 (by decide) rfl rfl ?_
              refine r_mask g0 (lv' := [some (.ref (E.1 v0_2)), some (.int (J v1_2)), some (.int (J v2_2)), some (.int (J (wr (v3_4 + r_5)))), some (.int (J v4_2)), some (.int (J v5_1)), none]) [true, true, true, true, true, true, false] rfl ?_
              exact hjp_2 (wr (v3_4 + r_5)) s_11 (InR_wr _) h
      clear hdjp_1
      refine r_icmp_ge g0 49 dX11_orderFaults_42 (by decide) i_r_1 i_r_2 (fun hc => ?_) (fun hc => ?_)
      · replace h := if_f hc h
        refine r_iconst g0 dX11_orderFaults_49 ?_
        exact hjp_1 0 s_6 B01_0 h
      · replace h := if_t hc h
        refine r_iconst g0 dX11_orderFaults_45 ?_
        refine r_goto g0 50 dX11_orderFaults_46 (by decide) ?_
        exact hjp_1 1 s_6 B01_1 h
set_option maxHeartbeats 4000000 in
set_option maxRecDepth 100000 in
theorem t_X11_orderFaults_L5 {l : Launch} {E : u_E} {K : u_K} {r : Int} {s' : u_S} (g : Wk l (XE E) { frames := 7, cells := 0, slots := 0, locals := 170 } cX11_orderFaults 7 yX11_orderFaults.cls yX11_orderFaults.name (some .int) (RI E r s') K) {v0_1 : u_O} {v1_1 : Int} {v2_1 : Int} (i_v0_1 : is_Mo v0_1) (i_v1_1 : InR v1_1) (i_v2_1 : InR v2_1) {kx107 : Int → u_S → Option (Int × u_S)} (hkx107 : ∀ (v3_7 : Int) (s_13 : u_S), InR v3_7 → kx107 v3_7 s_13 = some (r, s') → K 0 0 107 [none, none, none, some (.int (J v3_7)), none, none, none] [] (Wd E s_13)) : ∀ (m : Nat) (v3_2 : Int) (v4_1 : Int) (s_2 : u_S), InR v3_2 → InR v4_1 → f_X11_orderFaults_L5 m kx107 v0_1 v1_1 v2_1 v3_2 v4_1 s_2 = some (r, s') → K 0 0 5 [some (.ref (E.1 v0_1)), some (.int (J v1_1)), some (.int (J v2_1)), some (.int (J v3_2)), some (.int (J v4_1)), none, none] [] (Wd E s_2) := by
  have g0 := g.wk
  intro m
  induction m with
  | zero =>
    intro v3_2 v4_1 s_2 i_v3_2 i_v4_1 h
    exact absurd (show (none : Option (Int × u_S)) = some (r, s') from h) (by intro z; cases z)
  | succ m ih =>
    intro v3_2 v4_1 s_2 i_v3_2 i_v4_1 h
    rw [f_X11_orderFaults_L5] at h
    refine r_iload g0 dX11_orderFaults_5 rfl ?_
    refine r_iconst g0 dX11_orderFaults_7 ?_
    refine r_iload_n g0 dX11_orderFaults_8 rfl ?_
    refine r_imul g0 dX11_orderFaults_9 ?_
    refine r_icmp_ge g0 107 dX11_orderFaults_10 (by decide) i_v4_1 (InR_wr _) (fun hc => ?_) (fun hc => ?_)
    · replace h := if_f hc h
      refine r_mask g0 (lv' := [none, none, none, some (.int (J v3_2)), none, none, none]) [false, false, false, true, false, false, false] rfl ?_
      exact hkx107 v3_2 s_2 i_v3_2 h
    · replace h := if_t hc h
      refine r_iconst g0 dX11_orderFaults_13 ?_
      refine r_istore g0 (lv' := [some (.ref (E.1 v0_1)), some (.int (J v1_1)), some (.int (J v2_1)), some (.int (J v3_2)), some (.int (J v4_1)), some (.int (J 0)), none]) dX11_orderFaults_14 (by decide) rfl rfl ?_
      refine t_X11_orderFaults_L16 g i_v0_1 i_v1_1 i_v2_1 i_v4_1 ?_ FU v3_2 0 s_2 i_v3_2 (B01.inR B01_0) h
      · intro v3_3 s_3 i_v3_3 h
        refine r_iinc g0 (a := v4_1) (lv' := [some (.ref (E.1 v0_1)), some (.int (J v1_1)), some (.int (J v2_1)), some (.int (J v3_3)), some (.int (J (wr (v4_1 + 1)))), none, none]) dX11_orderFaults_101 (by decide) rfl rfl rfl ?_
        refine r_goto g0 5 dX11_orderFaults_104 (by decide) ?_
        exact ih v3_3 (wr (v4_1 + 1)) s_3 i_v3_3 (InR_wr _) h
set_option maxHeartbeats 4000000 in
set_option maxRecDepth 100000 in
theorem c_X11_orderFaults {E : u_E} {l : Launch} {o : u_O} {p1 : Int} {p2 : Int} (ho : is_Mo o) (i_p1 : InR p1) (i_p2 : InR p2) {s s' : u_S} {r : Int} (h : f_X11_orderFaults o p1 p2 s = some (r, s')) : Con l (XE E) yX11_orderFaults cX11_orderFaults 7 (some .int) 7 170 0 0 [.ref (E.1 o), .int (J p1), .int (J p2)] (Wd E s) (RI E r s') := by
  refine Con.of [some (.ref (E.1 o)), some (.int (J p1)), some (.int (J p2)), none, none, none, none] (by decide +kernel) rfl rfl (Nat.le_of_ble_eq_true rfl) (fun K g => ?_)
  have g0 := g.wk
  unfold f_X11_orderFaults at h
  refine r_iconst g0 dX11_orderFaults_0 ?_
  refine r_istore_n g0 (lv' := [some (.ref (E.1 o)), some (.int (J p1)), some (.int (J p2)), some (.int (J 0)), none, none, none]) dX11_orderFaults_1 (by decide) rfl rfl ?_
  refine r_iconst g0 dX11_orderFaults_2 ?_
  refine r_istore g0 (lv' := [some (.ref (E.1 o)), some (.int (J p1)), some (.int (J p2)), some (.int (J 0)), some (.int (J 0)), none, none]) dX11_orderFaults_3 (by decide) rfl rfl ?_
  refine t_X11_orderFaults_L5 g ho i_p1 i_p2 ?_ FU 0 0 s (B01.inR B01_0) (B01.inR B01_0) h
  · intro v3_1 s_1 i_v3_1 h
    refine r_iload_n g0 dX11_orderFaults_107 rfl ?_
    exact z_I g dX11_orderFaults_108 i_v3_1 h
theorem dX11_order_0 : decode cX11_order 0 = .ok (.iload_n 1, 1) := by decide +kernel
theorem dX11_order_1 : decode cX11_order 1 = .ok (.iload_n 2, 1) := by decide +kernel
theorem dX11_order_2 : decode cX11_order 2 = .ok (.invokestatic 262, 3) := by decide +kernel
theorem dX11_order_5 : decode cX11_order 5 = .ok (.ifCond .ne 10, 3) := by decide +kernel
theorem dX11_order_8 : decode cX11_order 8 = .ok (.aload_n 0, 1) := by decide +kernel
theorem dX11_order_9 : decode cX11_order 9 = .ok (.bipush (-2), 2) := by decide +kernel
theorem dX11_order_11 : decode cX11_order 11 = .ok (.invokevirtual 97, 3) := by decide +kernel
theorem dX11_order_14 : decode cX11_order 14 = .ok (.ireturn, 1) := by decide +kernel
theorem dX11_order_15 : decode cX11_order 15 = .ok (.aload_n 0, 1) := by decide +kernel
theorem dX11_order_16 : decode cX11_order 16 = .ok (.iconst 0, 1) := by decide +kernel
theorem dX11_order_17 : decode cX11_order 17 = .ok (.invokevirtual 65, 3) := by decide +kernel
theorem dX11_order_20 : decode cX11_order 20 = .ok (.ifCond .ne 12, 3) := by decide +kernel
theorem dX11_order_23 : decode cX11_order 23 = .ok (.aload_n 0, 1) := by decide +kernel
theorem dX11_order_24 : decode cX11_order 24 = .ok (.bipush (-3), 2) := by decide +kernel
theorem dX11_order_26 : decode cX11_order 26 = .ok (.invokevirtual 97, 3) := by decide +kernel
theorem dX11_order_29 : decode cX11_order 29 = .ok (.goto 9, 3) := by decide +kernel
theorem dX11_order_32 : decode cX11_order 32 = .ok (.aload_n 0, 1) := by decide +kernel
theorem dX11_order_33 : decode cX11_order 33 = .ok (.iload_n 1, 1) := by decide +kernel
theorem dX11_order_34 : decode cX11_order 34 = .ok (.iload_n 2, 1) := by decide +kernel
theorem dX11_order_35 : decode cX11_order 35 = .ok (.invokevirtual 265, 3) := by decide +kernel
theorem dX11_order_38 : decode cX11_order 38 = .ok (.ireturn, 1) := by decide +kernel
set_option maxHeartbeats 4000000 in
set_option maxRecDepth 100000 in
theorem c_X11_order {E : u_E} {l : Launch} {o : u_O} {p1 : Int} {p2 : Int} (ho : is_Mo o) (i_p1 : InR p1) (i_p2 : InR p2) {s s' : u_S} {r : Int} (h : f_X11_order o p1 p2 s = some (r, s')) : Con l (XE E) yX11_order cX11_order 3 (some .int) 8 196 0 0 [.ref (E.1 o), .int (J p1), .int (J p2)] (Wd E s) (RI E r s') := by
  refine Con.of [some (.ref (E.1 o)), some (.int (J p1)), some (.int (J p2))] (by decide +kernel) rfl rfl (Nat.le_of_ble_eq_true rfl) (fun K g => ?_)
  have g0 := g.wk
  unfold f_X11_order at h
  refine r_iload_n g0 dX11_order_0 rfl ?_
  refine r_iload_n g0 dX11_order_1 rfl ?_
  obtain ⟨r_1, s_1, hr_1, h⟩ := bd_some h
  refine r_cSZ g0 (rest := []) (c_X11_isOrder i_p1 i_p2 hr_1) ok_X11_isOrder mX11_262 dX11_order_2 ⟨Nat.le_of_ble_eq_true rfl, Nat.le_of_ble_eq_true rfl⟩ ⟨Nat.zero_le _, Nat.zero_le _⟩ rfl (Nat.le_of_ble_eq_true rfl) rfl (fun i_r_1 => ?_)
  refine r_if_ne g0 15 dX11_order_5 (by decide) (B01.inR i_r_1) (fun hc => ?_) (fun hc => ?_)
  · replace h := if_f hc h
    refine r_aload_n g0 dX11_order_15 rfl ?_
    refine r_iconst g0 dX11_order_16 ?_
    obtain ⟨r_2, s_2, hr_2, h⟩ := bd_some h
    refine r_cVI g0 (rest := []) (c_X11_notes ho (B01.inR B01_0) hr_2) ok_X11_notes mX11_65 (recv_Mo ho) dX11_order_17 ⟨Nat.le_of_ble_eq_true rfl, Nat.le_of_ble_eq_true rfl⟩ ⟨Nat.zero_le _, Nat.zero_le _⟩ rfl (Nat.le_of_ble_eq_true rfl) rfl (fun i_r_2 => ?_)
    refine r_if_ne g0 32 dX11_order_20 (by decide) i_r_2 (fun hc => ?_) (fun hc => ?_)
    · replace h := if_f hc h
      refine r_aload_n g0 dX11_order_32 rfl ?_
      refine r_iload_n g0 dX11_order_33 rfl ?_
      refine r_iload_n g0 dX11_order_34 rfl ?_
      obtain ⟨r_3, s_3, hr_3, h⟩ := bd_some h
      refine r_cVI g0 (rest := []) (c_X11_orderFaults ho i_p1 i_p2 hr_3) ok_X11_orderFaults mX11_265 (recv_Mo ho) dX11_order_35 ⟨Nat.le_of_ble_eq_true rfl, Nat.le_of_ble_eq_true rfl⟩ ⟨Nat.zero_le _, Nat.zero_le _⟩ rfl (Nat.le_of_ble_eq_true rfl) rfl (fun i_r_3 => ?_)
      exact z_I g dX11_order_38 i_r_3 h
    · replace h := if_t hc h
      refine r_aload_n g0 dX11_order_23 rfl ?_
      refine r_bipush g0 dX11_order_24 rfl ?_
      obtain ⟨r_4, s_4, hr_4, h⟩ := bd_some h
      refine r_cVI g0 (rest := []) (c_X11_refuses ho (InR_lit rfl) hr_4) ok_X11_refuses mX11_97 (recv_Mo ho) dX11_order_26 ⟨Nat.le_of_ble_eq_true rfl, Nat.le_of_ble_eq_true rfl⟩ ⟨Nat.zero_le _, Nat.zero_le _⟩ rfl (Nat.le_of_ble_eq_true rfl) rfl (fun i_r_4 => ?_)
      refine r_goto g0 38 dX11_order_29 (by decide) ?_
      exact z_I g dX11_order_38 i_r_4 h
  · replace h := if_t hc h
    refine r_aload_n g0 dX11_order_8 rfl ?_
    refine r_bipush g0 dX11_order_9 rfl ?_
    obtain ⟨r_5, s_5, hr_5, h⟩ := bd_some h
    refine r_cVI g0 (rest := []) (c_X11_refuses ho (InR_lit rfl) hr_5) ok_X11_refuses mX11_97 (recv_Mo ho) dX11_order_11 ⟨Nat.le_of_ble_eq_true rfl, Nat.le_of_ble_eq_true rfl⟩ ⟨Nat.zero_le _, Nat.zero_le _⟩ rfl (Nat.le_of_ble_eq_true rfl) rfl (fun i_r_5 => ?_)
    exact z_I g dX11_order_14 i_r_5 h
