/-! THE CONTRACTS: the bytecode does what the functions say (by program, wip/whole/gen) -/
theorem dX10_inverted_0 : decode cX10_inverted 0 = .ok (.iload_n 1, 1) := by decide +kernel
theorem dX10_inverted_1 : decode cX10_inverted 1 = .ok (.iload_n 2, 1) := by decide +kernel
theorem dX10_inverted_2 : decode cX10_inverted 2 = .ok (.invokestatic 255, 3) := by decide +kernel
theorem dX10_inverted_5 : decode cX10_inverted 5 = .ok (.ifCond .eq 23, 3) := by decide +kernel
theorem dX10_inverted_8 : decode cX10_inverted 8 = .ok (.iload_n 3, 1) := by decide +kernel
theorem dX10_inverted_9 : decode cX10_inverted 9 = .ok (.iconst 0, 1) := by decide +kernel
theorem dX10_inverted_10 : decode cX10_inverted 10 = .ok (.bipush 20, 2) := by decide +kernel
theorem dX10_inverted_12 : decode cX10_inverted 12 = .ok (.invokestatic 113, 3) := by decide +kernel
theorem dX10_inverted_15 : decode cX10_inverted 15 = .ok (.ifCond .eq 13, 3) := by decide +kernel
theorem dX10_inverted_18 : decode cX10_inverted 18 = .ok (.iload 4, 2) := by decide +kernel
theorem dX10_inverted_20 : decode cX10_inverted 20 = .ok (.iconst 0, 1) := by decide +kernel
theorem dX10_inverted_21 : decode cX10_inverted 21 = .ok (.iconst 3, 1) := by decide +kernel
theorem dX10_inverted_22 : decode cX10_inverted 22 = .ok (.invokestatic 113, 3) := by decide +kernel
theorem dX10_inverted_25 : decode cX10_inverted 25 = .ok (.ifCond .ne 10, 3) := by decide +kernel
theorem dX10_inverted_28 : decode cX10_inverted 28 = .ok (.aload_n 0, 1) := by decide +kernel
theorem dX10_inverted_29 : decode cX10_inverted 29 = .ok (.bipush (-2), 2) := by decide +kernel
theorem dX10_inverted_31 : decode cX10_inverted 31 = .ok (.invokevirtual 117, 3) := by decide +kernel
theorem dX10_inverted_34 : decode cX10_inverted 34 = .ok (.ireturn, 1) := by decide +kernel
theorem dX10_inverted_35 : decode cX10_inverted 35 = .ok (.aload_n 0, 1) := by decide +kernel
theorem dX10_inverted_36 : decode cX10_inverted 36 = .ok (.iload_n 1, 1) := by decide +kernel
theorem dX10_inverted_37 : decode cX10_inverted 37 = .ok (.iload_n 2, 1) := by decide +kernel
theorem dX10_inverted_38 : decode cX10_inverted 38 = .ok (.iload_n 3, 1) := by decide +kernel
theorem dX10_inverted_39 : decode cX10_inverted 39 = .ok (.invokevirtual 259, 3) := by decide +kernel
theorem dX10_inverted_42 : decode cX10_inverted 42 = .ok (.istore 5, 2) := by decide +kernel
theorem dX10_inverted_44 : decode cX10_inverted 44 = .ok (.iload 4, 2) := by decide +kernel
theorem dX10_inverted_46 : decode cX10_inverted 46 = .ok (.iconst 3, 1) := by decide +kernel
theorem dX10_inverted_47 : decode cX10_inverted 47 = .ok (.if_icmp .ne 16, 3) := by decide +kernel
theorem dX10_inverted_50 : decode cX10_inverted 50 = .ok (.iload 5, 2) := by decide +kernel
theorem dX10_inverted_52 : decode cX10_inverted 52 = .ok (.ifCond .eq 7, 3) := by decide +kernel
theorem dX10_inverted_55 : decode cX10_inverted 55 = .ok (.iconst 1, 1) := by decide +kernel
theorem dX10_inverted_56 : decode cX10_inverted 56 = .ok (.goto 16, 3) := by decide +kernel
theorem dX10_inverted_59 : decode cX10_inverted 59 = .ok (.iconst 0, 1) := by decide +kernel
theorem dX10_inverted_60 : decode cX10_inverted 60 = .ok (.goto 12, 3) := by decide +kernel
theorem dX10_inverted_63 : decode cX10_inverted 63 = .ok (.aload_n 0, 1) := by decide +kernel
theorem dX10_inverted_64 : decode cX10_inverted 64 = .ok (.getfield 46, 3) := by decide +kernel
theorem dX10_inverted_67 : decode cX10_inverted 67 = .ok (.iload 4, 2) := by decide +kernel
theorem dX10_inverted_69 : decode cX10_inverted 69 = .ok (.invokevirtual 223, 3) := by decide +kernel
theorem dX10_inverted_72 : decode cX10_inverted 72 = .ok (.ireturn, 1) := by decide +kernel
set_option maxHeartbeats 4000000 in
set_option maxRecDepth 100000 in
theorem c_X10_inverted {E : u_E} {l : Launch} {o : u_O} {p1 : Int} {p2 : Int} {p3 : Int} {p4 : Int} (ho : is_FP o) (i_p1 : InR p1) (i_p2 : InR p2) (i_p3 : InR p3) (i_p4 : InR p4) {s s' : u_S} {r : Int} (h : f_X10_inverted o p1 p2 p3 p4 s = some (r, s')) : Con l (XE E) yX10_inverted cX10_inverted 6 (some .int) 5 125 0 0 [.ref (E.1 o), .int (J p1), .int (J p2), .int (J p3), .int (J p4)] (Wd E s) (RI E r s') := by
  refine Con.of [some (.ref (E.1 o)), some (.int (J p1)), some (.int (J p2)), some (.int (J p3)), some (.int (J p4)), none] (by decide +kernel) rfl rfl (Nat.le_of_ble_eq_true rfl) (fun K g => ?_)
  have g0 := g.wk
  unfold f_X10_inverted at h
  refine r_iload_n g0 dX10_inverted_0 rfl ?_
  refine r_iload_n g0 dX10_inverted_1 rfl ?_
  obtain ⟨r_1, s_1, hr_1, h⟩ := bd_some h
  refine r_cSZ g0 (rest := []) (c_X10_areTwoLines i_p1 i_p2 hr_1) ok_X10_areTwoLines mX10_255 dX10_inverted_2 ⟨Nat.le_of_ble_eq_true rfl, Nat.le_of_ble_eq_true rfl⟩ ⟨Nat.zero_le _, Nat.zero_le _⟩ rfl (Nat.le_of_ble_eq_true rfl) rfl (fun i_r_1 => ?_)
  obtain ⟨jp_1, hdjp_1, h⟩ := jn_some h
  have hjp_1 : ∀  (s_2 : u_S), jp_1 s_2 = some (r, s') → K 0 0 28 [some (.ref (E.1 o)), none, none, none, none, none] [] (Wd E s_2) := by
    intro s_2 h
    subst hdjp_1
    refine r_aload_n g0 dX10_inverted_28 rfl ?_
    refine r_bipush g0 dX10_inverted_29 rfl ?_
    obtain ⟨r_2, s_3, hr_2, h⟩ := bd_some h
    refine r_cVI g0 (rest := []) (c_X10_refused ho (InR_lit rfl) hr_2) ok_X10_refused mX10_117 (recv_FP ho) dX10_inverted_31 ⟨Nat.le_of_ble_eq_true rfl, Nat.le_of_ble_eq_true rfl⟩ ⟨Nat.zero_le _, Nat.zero_le _⟩ rfl (Nat.le_of_ble_eq_true rfl) rfl (fun i_r_2 => ?_)
    exact z_I g dX10_inverted_34 i_r_2 h
  clear hdjp_1
  refine r_if_eq g0 28 dX10_inverted_5 (by decide) (B01.inR i_r_1) (fun hc => ?_) (fun hc => ?_)
  · replace h := if_t hc h
    refine r_mask g0 (lv' := [some (.ref (E.1 o)), none, none, none, none, none]) [true, false, false, false, false, false] rfl ?_
    exact hjp_1 s_1 h
  · replace h := if_f hc h
    refine r_iload_n g0 dX10_inverted_8 rfl ?_
    refine r_iconst g0 dX10_inverted_9 ?_
    refine r_bipush g0 dX10_inverted_10 rfl ?_
    obtain ⟨r_3, s_4, hr_3, h⟩ := bd_some h
    refine r_cSZ g0 (rest := []) (c_X10_within i_p3 (B01.inR B01_0) (InR_lit rfl) hr_3) ok_X10_within mX10_113 dX10_inverted_12 ⟨Nat.le_of_ble_eq_true rfl, Nat.le_of_ble_eq_true rfl⟩ ⟨Nat.zero_le _, Nat.zero_le _⟩ rfl (Nat.le_of_ble_eq_true rfl) rfl (fun i_r_3 => ?_)
    refine r_if_eq g0 28 dX10_inverted_15 (by decide) (B01.inR i_r_3) (fun hc => ?_) (fun hc => ?_)
    · replace h := if_t hc h
      refine r_mask g0 (lv' := [some (.ref (E.1 o)), none, none, none, none, none]) [true, false, false, false, false, false] rfl ?_
      exact hjp_1 s_4 h
    · replace h := if_f hc h
      refine r_iload g0 dX10_inverted_18 rfl ?_
      refine r_iconst g0 dX10_inverted_20 ?_
      refine r_iconst g0 dX10_inverted_21 ?_
      obtain ⟨r_4, s_5, hr_4, h⟩ := bd_some h
      refine r_cSZ g0 (rest := []) (c_X10_within i_p4 (B01.inR B01_0) (InR_lit rfl) hr_4) ok_X10_within mX10_113 dX10_inverted_22 ⟨Nat.le_of_ble_eq_true rfl, Nat.le_of_ble_eq_true rfl⟩ ⟨Nat.zero_le _, Nat.zero_le _⟩ rfl (Nat.le_of_ble_eq_true rfl) rfl (fun i_r_4 => ?_)
      refine r_if_ne g0 35 dX10_inverted_25 (by decide) (B01.inR i_r_4) (fun hc => ?_) (fun hc => ?_)
      · replace h := if_f hc h
        refine r_aload_n g0 dX10_inverted_35 rfl ?_
        refine r_iload_n g0 dX10_inverted_36 rfl ?_
        refine r_iload_n g0 dX10_inverted_37 rfl ?_
        refine r_iload_n g0 dX10_inverted_38 rfl ?_
        obtain ⟨r_5, s_6, hr_5, h⟩ := bd_some h
        refine r_cVZ g0 (rest := []) (c_X10_invertsWell ho i_p1 i_p2 i_p3 hr_5) ok_X10_invertsWell mX10_259 (recv_FP ho) dX10_inverted_39 ⟨Nat.le_of_ble_eq_true rfl, Nat.le_of_ble_eq_true rfl⟩ ⟨Nat.zero_le _, Nat.zero_le _⟩ rfl (Nat.le_of_ble_eq_true rfl) rfl (fun i_r_5 => ?_)
        refine r_istore g0 (lv' := [some (.ref (E.1 o)), some (.int (J p1)), some (.int (J p2)), some (.int (J p3)), some (.int (J p4)), some (.int (J r_5))]) dX10_inverted_42 (by decide) rfl rfl ?_
        refine r_iload g0 dX10_inverted_44 rfl ?_
        refine r_iconst g0 dX10_inverted_46 ?_
        refine r_icmp_ne g0 63 dX10_inverted_47 (by decide) i_p4 (InR_lit rfl) (fun hc => ?_) (fun hc => ?_)
        · replace h := if_f hc h
          refine r_aload_n g0 dX10_inverted_63 rfl ?_
          refine g_FP_faults g0 ho qX10_46 dX10_inverted_64 ?_
          refine r_iload g0 dX10_inverted_67 rfl ?_
          obtain ⟨r_6, s_7, hr_6, h⟩ := bd_some h
          refine r_cVI g0 (rest := []) (c_X3_number (is_a_FP_faults ho) i_p4 hr_6) ok_X3_number mX10_223 (recv_Faults (is_a_FP_faults ho)) dX10_inverted_69 ⟨Nat.le_of_ble_eq_true rfl, Nat.le_of_ble_eq_true rfl⟩ ⟨Nat.zero_le _, Nat.zero_le _⟩ rfl (Nat.le_of_ble_eq_true rfl) rfl (fun i_r_6 => ?_)
          exact z_I g dX10_inverted_72 i_r_6 h
        · replace h := if_t hc h
          refine r_iload g0 dX10_inverted_50 rfl ?_
          refine r_if_eq g0 59 dX10_inverted_52 (by decide) (B01.inR i_r_5) (fun hc => ?_) (fun hc => ?_)
          · replace h := if_t hc h
            refine r_iconst g0 dX10_inverted_59 ?_
            refine r_goto g0 72 dX10_inverted_60 (by decide) ?_
            exact z_I g dX10_inverted_72 (B01.inR B01_0) h
          · replace h := if_f hc h
            refine r_iconst g0 dX10_inverted_55 ?_
            refine r_goto g0 72 dX10_inverted_56 (by decide) ?_
            exact z_I g dX10_inverted_72 (B01.inR B01_1) h
      · replace h := if_t hc h
        refine r_mask g0 (lv' := [some (.ref (E.1 o)), none, none, none, none, none]) [true, false, false, false, false, false] rfl ?_
        exact hjp_1 s_5 h
theorem dX10_inversions_0 : decode cX10_inversions 0 = .ok (.iload_n 1, 1) := by decide +kernel
theorem dX10_inversions_1 : decode cX10_inversions 1 = .ok (.iload_n 2, 1) := by decide +kernel
theorem dX10_inversions_2 : decode cX10_inversions 2 = .ok (.invokestatic 255, 3) := by decide +kernel
theorem dX10_inversions_5 : decode cX10_inversions 5 = .ok (.ifCond .ne 10, 3) := by decide +kernel
theorem dX10_inversions_8 : decode cX10_inversions 8 = .ok (.aload_n 0, 1) := by decide +kernel
theorem dX10_inversions_9 : decode cX10_inversions 9 = .ok (.bipush (-2), 2) := by decide +kernel
theorem dX10_inversions_11 : decode cX10_inversions 11 = .ok (.invokevirtual 117, 3) := by decide +kernel
theorem dX10_inversions_14 : decode cX10_inversions 14 = .ok (.ireturn, 1) := by decide +kernel
theorem dX10_inversions_15 : decode cX10_inversions 15 = .ok (.iconst 0, 1) := by decide +kernel
theorem dX10_inversions_16 : decode cX10_inversions 16 = .ok (.istore_n 3, 1) := by decide +kernel
theorem dX10_inversions_17 : decode cX10_inversions 17 = .ok (.iconst 0, 1) := by decide +kernel
theorem dX10_inversions_18 : decode cX10_inversions 18 = .ok (.istore 4, 2) := by decide +kernel
theorem dX10_inversions_20 : decode cX10_inversions 20 = .ok (.iload 4, 2) := by decide +kernel
theorem dX10_inversions_22 : decode cX10_inversions 22 = .ok (.bipush 20, 2) := by decide +kernel
theorem dX10_inversions_24 : decode cX10_inversions 24 = .ok (.if_icmp .gt 27, 3) := by decide +kernel
theorem dX10_inversions_27 : decode cX10_inversions 27 = .ok (.aload_n 0, 1) := by decide +kernel
theorem dX10_inversions_28 : decode cX10_inversions 28 = .ok (.iload_n 1, 1) := by decide +kernel
theorem dX10_inversions_29 : decode cX10_inversions 29 = .ok (.iload_n 2, 1) := by decide +kernel
theorem dX10_inversions_30 : decode cX10_inversions 30 = .ok (.iload 4, 2) := by decide +kernel
theorem dX10_inversions_32 : decode cX10_inversions 32 = .ok (.invokevirtual 259, 3) := by decide +kernel
theorem dX10_inversions_35 : decode cX10_inversions 35 = .ok (.ifCond .eq 10, 3) := by decide +kernel
theorem dX10_inversions_38 : decode cX10_inversions 38 = .ok (.iload_n 3, 1) := by decide +kernel
theorem dX10_inversions_39 : decode cX10_inversions 39 = .ok (.iconst 1, 1) := by decide +kernel
theorem dX10_inversions_40 : decode cX10_inversions 40 = .ok (.iload 4, 2) := by decide +kernel
theorem dX10_inversions_42 : decode cX10_inversions 42 = .ok (.ishl, 1) := by decide +kernel
theorem dX10_inversions_43 : decode cX10_inversions 43 = .ok (.ior, 1) := by decide +kernel
theorem dX10_inversions_44 : decode cX10_inversions 44 = .ok (.istore_n 3, 1) := by decide +kernel
theorem dX10_inversions_45 : decode cX10_inversions 45 = .ok (.iinc 4 1, 3) := by decide +kernel
theorem dX10_inversions_48 : decode cX10_inversions 48 = .ok (.goto (-28), 3) := by decide +kernel
theorem dX10_inversions_51 : decode cX10_inversions 51 = .ok (.iload_n 3, 1) := by decide +kernel
theorem dX10_inversions_52 : decode cX10_inversions 52 = .ok (.ireturn, 1) := by decide +kernel
set_option maxHeartbeats 4000000 in
set_option maxRecDepth 100000 in
theorem t_X10_inversions_L20 {l : Launch} {E : u_E} {K : u_K} {r : Int} {s' : u_S} (g : Wk l (XE E) { frames := 5, cells := 0, slots := 0, locals := 125 } cX10_inversions 5 yX10_inversions.cls yX10_inversions.name (some .int) (RI E r s') K) {v0_1 : u_O} {v1_1 : Int} {v2_1 : Int} (i_v0_1 : is_FP v0_1) (i_v1_1 : InR v1_1) (i_v2_1 : InR v2_1) {kx51 : Int → u_S → Option (Int × u_S)} (hkx51 : ∀ (v3_4 : Int) (s_6 : u_S), InR v3_4 → kx51 v3_4 s_6 = some (r, s') → K 0 0 51 [none, none, none, some (.int (J v3_4)), none] [] (Wd E s_6)) : ∀ (m : Nat) (v3_2 : Int) (v4_1 : Int) (s_3 : u_S), InR v3_2 → InR v4_1 → f_X10_inversions_L20 m kx51 v0_1 v1_1 v2_1 v3_2 v4_1 s_3 = some (r, s') → K 0 0 20 [some (.ref (E.1 v0_1)), some (.int (J v1_1)), some (.int (J v2_1)), some (.int (J v3_2)), some (.int (J v4_1))] [] (Wd E s_3) := by
  have g0 := g.wk
  intro m
  induction m with
  | zero =>
    intro v3_2 v4_1 s_3 i_v3_2 i_v4_1 h
    exact absurd (show (none : Option (Int × u_S)) = some (r, s') from h) (by intro z; cases z)
  | succ m ih =>
    intro v3_2 v4_1 s_3 i_v3_2 i_v4_1 h
    rw [f_X10_inversions_L20] at h
    refine r_iload g0 dX10_inversions_20 rfl ?_
    refine r_bipush g0 dX10_inversions_22 rfl ?_
    refine r_icmp_gt g0 51 dX10_inversions_24 (by decide) i_v4_1 (InR_lit rfl) (fun hc => ?_) (fun hc => ?_)
    · replace h := if_f hc h
      refine r_mask g0 (lv' := [none, none, none, some (.int (J v3_2)), none]) [false, false, false, true, false] rfl ?_
      exact hkx51 v3_2 s_3 i_v3_2 h
    · replace h := if_t hc h
      refine r_aload_n g0 dX10_inversions_27 rfl ?_
      refine r_iload_n g0 dX10_inversions_28 rfl ?_
      refine r_iload_n g0 dX10_inversions_29 rfl ?_
      refine r_iload g0 dX10_inversions_30 rfl ?_
      obtain ⟨r_2, s_4, hr_2, h⟩ := bd_some h
      refine r_cVZ g0 (rest := []) (c_X10_invertsWell i_v0_1 i_v1_1 i_v2_1 i_v4_1 hr_2) ok_X10_invertsWell mX10_259 (recv_FP i_v0_1) dX10_inversions_32 ⟨Nat.le_of_ble_eq_true rfl, Nat.le_of_ble_eq_true rfl⟩ ⟨Nat.zero_le _, Nat.zero_le _⟩ rfl (Nat.le_of_ble_eq_true rfl) rfl (fun i_r_2 => ?_)
      obtain ⟨jp_1, hdjp_1, h⟩ := jn_some h
      have hjp_1 : ∀ (v3_3 : Int) (s_5 : u_S), InR v3_3 → jp_1 v3_3 s_5 = some (r, s') → K 0 0 45 [some (.ref (E.1 v0_1)), some (.int (J v1_1)), some (.int (J v2_1)), some (.int (J v3_3)), some (.int (J v4_1))] [] (Wd E s_5) := by
        intro v3_3 s_5 i_v3_3 h
        subst hdjp_1
        refine r_iinc g0 (a := v4_1) (lv' := [some (.ref (E.1 v0_1)), some (.int (J v1_1)), some (.int (J v2_1)), some (.int (J v3_3)), some (.int (J (wr (v4_1 + 1))))]) dX10_inversions_45 (by decide) rfl rfl rfl ?_
        refine r_goto g0 20 dX10_inversions_48 (by decide) ?_
        exact ih v3_3 (wr (v4_1 + 1)) s_5 i_v3_3 (InR_wr _) h
      clear hdjp_1
      refine r_if_eq g0 45 dX10_inversions_35 (by decide) (B01.inR i_r_2) (fun hc => ?_) (fun hc => ?_)
      · replace h := if_t hc h
        exact hjp_1 v3_2 s_4 i_v3_2 h
      · replace h := if_f hc h
        refine r_iload_n g0 dX10_inversions_38 rfl ?_
        refine r_iconst g0 dX10_inversions_39 ?_
        refine r_iload g0 dX10_inversions_40 rfl ?_
        refine r_ishl g0 dX10_inversions_42 ?_
        refine r_ior g0 dX10_inversions_43 ?_
        refine r_istore_n g0 (lv' := [some (.ref (E.1 v0_1)), some (.int (J v1_1)), some (.int (J v2_1)), some (.int (J (ior v3_2 (ishl 1 v4_1)))), some (.int (J v4_1))]) dX10_inversions_44 (by decide) rfl rfl ?_
        exact hjp_1 (ior v3_2 (ishl 1 v4_1)) s_4 (InR_to _) h
set_option maxHeartbeats 4000000 in
set_option maxRecDepth 100000 in
theorem c_X10_inversions {E : u_E} {l : Launch} {o : u_O} {p1 : Int} {p2 : Int} (ho : is_FP o) (i_p1 : InR p1) (i_p2 : InR p2) {s s' : u_S} {r : Int} (h : f_X10_inversions o p1 p2 s = some (r, s')) : Con l (XE E) yX10_inversions cX10_inversions 5 (some .int) 5 125 0 0 [.ref (E.1 o), .int (J p1), .int (J p2)] (Wd E s) (RI E r s') := by
  refine Con.of [some (.ref (E.1 o)), some (.int (J p1)), some (.int (J p2)), none, none] (by decide +kernel) rfl rfl (Nat.le_of_ble_eq_true rfl) (fun K g => ?_)
  have g0 := g.wk
  unfold f_X10_inversions at h
  refine r_iload_n g0 dX10_inversions_0 rfl ?_
  refine r_iload_n g0 dX10_inversions_1 rfl ?_
  obtain ⟨r_1, s_1, hr_1, h⟩ := bd_some h
  refine r_cSZ g0 (rest := []) (c_X10_areTwoLines i_p1 i_p2 hr_1) ok_X10_areTwoLines mX10_255 dX10_inversions_2 ⟨Nat.le_of_ble_eq_true rfl, Nat.le_of_ble_eq_true rfl⟩ ⟨Nat.zero_le _, Nat.zero_le _⟩ rfl (Nat.le_of_ble_eq_true rfl) rfl (fun i_r_1 => ?_)
  refine r_if_ne g0 15 dX10_inversions_5 (by decide) (B01.inR i_r_1) (fun hc => ?_) (fun hc => ?_)
  · replace h := if_f hc h
    refine r_iconst g0 dX10_inversions_15 ?_
    refine r_istore_n g0 (lv' := [some (.ref (E.1 o)), some (.int (J p1)), some (.int (J p2)), some (.int (J 0)), none]) dX10_inversions_16 (by decide) rfl rfl ?_
    refine r_iconst g0 dX10_inversions_17 ?_
    refine r_istore g0 (lv' := [some (.ref (E.1 o)), some (.int (J p1)), some (.int (J p2)), some (.int (J 0)), some (.int (J 0))]) dX10_inversions_18 (by decide) rfl rfl ?_
    refine t_X10_inversions_L20 g ho i_p1 i_p2 ?_ FU 0 0 s_1 (B01.inR B01_0) (B01.inR B01_0) h
    · intro v3_1 s_2 i_v3_1 h
      refine r_iload_n g0 dX10_inversions_51 rfl ?_
      exact z_I g dX10_inversions_52 i_v3_1 h
  · replace h := if_t hc h
    refine r_aload_n g0 dX10_inversions_8 rfl ?_
    refine r_bipush g0 dX10_inversions_9 rfl ?_
    obtain ⟨r_3, s_7, hr_3, h⟩ := bd_some h
    refine r_cVI g0 (rest := []) (c_X10_refused ho (InR_lit rfl) hr_3) ok_X10_refused mX10_117 (recv_FP ho) dX10_inversions_11 ⟨Nat.le_of_ble_eq_true rfl, Nat.le_of_ble_eq_true rfl⟩ ⟨Nat.zero_le _, Nat.zero_le _⟩ rfl (Nat.le_of_ble_eq_true rfl) rfl (fun i_r_3 => ?_)
    exact z_I g dX10_inversions_14 i_r_3 h
theorem dX10_areRowVoices_0 : decode cX10_areRowVoices 0 = .ok (.iload_n 0, 1) := by decide +kernel
theorem dX10_areRowVoices_1 : decode cX10_areRowVoices 1 = .ok (.iconst 2, 1) := by decide +kernel
theorem dX10_areRowVoices_2 : decode cX10_areRowVoices 2 = .ok (.iconst 4, 1) := by decide +kernel
theorem dX10_areRowVoices_3 : decode cX10_areRowVoices 3 = .ok (.invokestatic 113, 3) := by decide +kernel
theorem dX10_areRowVoices_6 : decode cX10_areRowVoices 6 = .ok (.ireturn, 1) := by decide +kernel
set_option maxHeartbeats 4000000 in
set_option maxRecDepth 100000 in
theorem c_X10_areRowVoices {E : u_E} {l : Launch} {p1 : Int} (i_p1 : InR p1) {s s' : u_S} {r : Int} (h : f_X10_areRowVoices p1 s = some (r, s')) : Con l (XE E) yX10_areRowVoices cX10_areRowVoices 1 (some .boolean) 1 22 0 0 [.int (J p1)] (Wd E s) (RZ E r s') := by
  refine Con.of [some (.int (J p1))] (by decide +kernel) rfl rfl (Nat.le_of_ble_eq_true rfl) (fun K g => ?_)
  have g0 := g.wk
  unfold f_X10_areRowVoices at h
  refine r_iload_n g0 dX10_areRowVoices_0 rfl ?_
  refine r_iconst g0 dX10_areRowVoices_1 ?_
  refine r_iconst g0 dX10_areRowVoices_2 ?_
  obtain ⟨r_1, s_1, hr_1, h⟩ := bd_some h
  refine r_cSZ g0 (rest := []) (c_X10_within i_p1 (InR_lit rfl) (InR_lit rfl) hr_1) ok_X10_within mX10_113 dX10_areRowVoices_3 ⟨Nat.le_of_ble_eq_true rfl, Nat.le_of_ble_eq_true rfl⟩ ⟨Nat.zero_le _, Nat.zero_le _⟩ rfl (Nat.le_of_ble_eq_true rfl) rfl (fun i_r_1 => ?_)
  exact z_Z g dX10_areRowVoices_6 i_r_1 h
theorem dX10_takesRow_0 : decode cX10_takesRow 0 = .ok (.iload_n 1, 1) := by decide +kernel
theorem dX10_takesRow_1 : decode cX10_takesRow 1 = .ok (.invokestatic 272, 3) := by decide +kernel
theorem dX10_takesRow_4 : decode cX10_takesRow 4 = .ok (.ifCond .eq 7, 3) := by decide +kernel
theorem dX10_takesRow_7 : decode cX10_takesRow 7 = .ok (.iload_n 2, 1) := by decide +kernel
theorem dX10_takesRow_8 : decode cX10_takesRow 8 = .ok (.ifCond .ge 5, 3) := by decide +kernel
theorem dX10_takesRow_11 : decode cX10_takesRow 11 = .ok (.iconst 0, 1) := by decide +kernel
theorem dX10_takesRow_12 : decode cX10_takesRow 12 = .ok (.ireturn, 1) := by decide +kernel
theorem dX10_takesRow_13 : decode cX10_takesRow 13 = .ok (.iload_n 2, 1) := by decide +kernel
theorem dX10_takesRow_14 : decode cX10_takesRow 14 = .ok (.istore_n 3, 1) := by decide +kernel
theorem dX10_takesRow_15 : decode cX10_takesRow 15 = .ok (.iconst 0, 1) := by decide +kernel
theorem dX10_takesRow_16 : decode cX10_takesRow 16 = .ok (.istore 4, 2) := by decide +kernel
theorem dX10_takesRow_18 : decode cX10_takesRow 18 = .ok (.iload_n 1, 1) := by decide +kernel
theorem dX10_takesRow_19 : decode cX10_takesRow 19 = .ok (.iconst 1, 1) := by decide +kernel
theorem dX10_takesRow_20 : decode cX10_takesRow 20 = .ok (.isub, 1) := by decide +kernel
theorem dX10_takesRow_21 : decode cX10_takesRow 21 = .ok (.istore 5, 2) := by decide +kernel
theorem dX10_takesRow_23 : decode cX10_takesRow 23 = .ok (.iload 5, 2) := by decide +kernel
theorem dX10_takesRow_25 : decode cX10_takesRow 25 = .ok (.ifCond .lt 57, 3) := by decide +kernel
theorem dX10_takesRow_28 : decode cX10_takesRow 28 = .ok (.iload_n 3, 1) := by decide +kernel
theorem dX10_takesRow_29 : decode cX10_takesRow 29 = .ok (.bipush 10, 2) := by decide +kernel
theorem dX10_takesRow_31 : decode cX10_takesRow 31 = .ok (.irem, 1) := by decide +kernel
theorem dX10_takesRow_32 : decode cX10_takesRow 32 = .ok (.istore 6, 2) := by decide +kernel
theorem dX10_takesRow_34 : decode cX10_takesRow 34 = .ok (.iload_n 3, 1) := by decide +kernel
theorem dX10_takesRow_35 : decode cX10_takesRow 35 = .ok (.bipush 10, 2) := by decide +kernel
theorem dX10_takesRow_37 : decode cX10_takesRow 37 = .ok (.idiv, 1) := by decide +kernel
theorem dX10_takesRow_38 : decode cX10_takesRow 38 = .ok (.istore_n 3, 1) := by decide +kernel
theorem dX10_takesRow_39 : decode cX10_takesRow 39 = .ok (.iload 6, 2) := by decide +kernel
theorem dX10_takesRow_41 : decode cX10_takesRow 41 = .ok (.iload_n 1, 1) := by decide +kernel
theorem dX10_takesRow_42 : decode cX10_takesRow 42 = .ok (.if_icmp .ge 14, 3) := by decide +kernel
theorem dX10_takesRow_45 : decode cX10_takesRow 45 = .ok (.iload 4, 2) := by decide +kernel
theorem dX10_takesRow_47 : decode cX10_takesRow 47 = .ok (.iload 6, 2) := by decide +kernel
theorem dX10_takesRow_49 : decode cX10_takesRow 49 = .ok (.ishr, 1) := by decide +kernel
theorem dX10_takesRow_50 : decode cX10_takesRow 50 = .ok (.iconst 1, 1) := by decide +kernel
theorem dX10_takesRow_51 : decode cX10_takesRow 51 = .ok (.iand, 1) := by decide +kernel
theorem dX10_takesRow_52 : decode cX10_takesRow 52 = .ok (.iconst 1, 1) := by decide +kernel
theorem dX10_takesRow_53 : decode cX10_takesRow 53 = .ok (.if_icmp .ne 5, 3) := by decide +kernel
theorem dX10_takesRow_56 : decode cX10_takesRow 56 = .ok (.iconst 0, 1) := by decide +kernel
theorem dX10_takesRow_57 : decode cX10_takesRow 57 = .ok (.ireturn, 1) := by decide +kernel
theorem dX10_takesRow_58 : decode cX10_takesRow 58 = .ok (.iload 4, 2) := by decide +kernel
theorem dX10_takesRow_60 : decode cX10_takesRow 60 = .ok (.iconst 1, 1) := by decide +kernel
theorem dX10_takesRow_61 : decode cX10_takesRow 61 = .ok (.iload 6, 2) := by decide +kernel
theorem dX10_takesRow_63 : decode cX10_takesRow 63 = .ok (.ishl, 1) := by decide +kernel
theorem dX10_takesRow_64 : decode cX10_takesRow 64 = .ok (.ior, 1) := by decide +kernel
theorem dX10_takesRow_65 : decode cX10_takesRow 65 = .ok (.istore 4, 2) := by decide +kernel
theorem dX10_takesRow_67 : decode cX10_takesRow 67 = .ok (.aload_n 0, 1) := by decide +kernel
theorem dX10_takesRow_68 : decode cX10_takesRow 68 = .ok (.getfield 64, 3) := by decide +kernel
theorem dX10_takesRow_71 : decode cX10_takesRow 71 = .ok (.iload 5, 2) := by decide +kernel
theorem dX10_takesRow_73 : decode cX10_takesRow 73 = .ok (.iload 6, 2) := by decide +kernel
theorem dX10_takesRow_75 : decode cX10_takesRow 75 = .ok (.iastore, 1) := by decide +kernel
theorem dX10_takesRow_76 : decode cX10_takesRow 76 = .ok (.iinc 5 (-1), 3) := by decide +kernel
theorem dX10_takesRow_79 : decode cX10_takesRow 79 = .ok (.goto (-56), 3) := by decide +kernel
theorem dX10_takesRow_82 : decode cX10_takesRow 82 = .ok (.iload_n 3, 1) := by decide +kernel
theorem dX10_takesRow_83 : decode cX10_takesRow 83 = .ok (.ifCond .ne 7, 3) := by decide +kernel
theorem dX10_takesRow_86 : decode cX10_takesRow 86 = .ok (.iconst 1, 1) := by decide +kernel
theorem dX10_takesRow_87 : decode cX10_takesRow 87 = .ok (.goto 4, 3) := by decide +kernel
theorem dX10_takesRow_90 : decode cX10_takesRow 90 = .ok (.iconst 0, 1) := by decide +kernel
theorem dX10_takesRow_91 : decode cX10_takesRow 91 = .ok (.ireturn, 1) := by decide +kernel
set_option maxHeartbeats 4000000 in
set_option maxRecDepth 100000 in
theorem t_X10_takesRow_L23 {l : Launch} {E : u_E} {K : u_K} {r : Int} {s' : u_S} (g : Wk l (XE E) { frames := 2, cells := 0, slots := 0, locals := 42 } cX10_takesRow 7 yX10_takesRow.cls yX10_takesRow.name (some .boolean) (RZ E r s') K) {v0_1 : u_O} {v1_1 : Int} (i_v0_1 : is_FP v0_1) (i_v1_1 : InR v1_1) {kx82 : Int → u_S → Option (Int × u_S)} (hkx82 : ∀ (v3_3 : Int) (s_4 : u_S), InR v3_3 → kx82 v3_3 s_4 = some (r, s') → K 0 0 82 [none, none, none, some (.int (J v3_3)), none, none, none] [] (Wd E s_4)) : ∀ (m : Nat) (v3_2 : Int) (v4_1 : Int) (v5_1 : Int) (s_3 : u_S), InR v3_2 → InR v4_1 → InR v5_1 → f_X10_takesRow_L23 m kx82 v0_1 v1_1 v3_2 v4_1 v5_1 s_3 = some (r, s') → K 0 0 23 [some (.ref (E.1 v0_1)), some (.int (J v1_1)), none, some (.int (J v3_2)), some (.int (J v4_1)), some (.int (J v5_1)), none] [] (Wd E s_3) := by
  have g0 := g.wk
  intro m
  induction m with
  | zero =>
    intro v3_2 v4_1 v5_1 s_3 i_v3_2 i_v4_1 i_v5_1 h
    exact absurd (show (none : Option (Int × u_S)) = some (r, s') from h) (by intro z; cases z)
  | succ m ih =>
    intro v3_2 v4_1 v5_1 s_3 i_v3_2 i_v4_1 i_v5_1 h
    rw [f_X10_takesRow_L23] at h
    refine r_iload g0 dX10_takesRow_23 rfl ?_
    refine r_if_lt g0 82 dX10_takesRow_25 (by decide) i_v5_1 (fun hc => ?_) (fun hc => ?_)
    · replace h := if_t hc h
      refine r_mask g0 (lv' := [none, none, none, some (.int (J v3_2)), none, none, none]) [false, false, false, true, false, false, false] rfl ?_
      exact hkx82 v3_2 s_3 i_v3_2 h
    · replace h := if_f hc h
      refine r_iload_n g0 dX10_takesRow_28 rfl ?_
      refine r_bipush g0 dX10_takesRow_29 rfl ?_
      refine r_irem g0 dX10_takesRow_31 i_v3_2 (InR_lit rfl) (by decide) ?_
      refine r_istore g0 (lv' := [some (.ref (E.1 v0_1)), some (.int (J v1_1)), none, some (.int (J v3_2)), some (.int (J v4_1)), some (.int (J v5_1)), some (.int (J (Int.tmod v3_2 10)))]) dX10_takesRow_32 (by decide) rfl rfl ?_
      refine r_iload_n g0 dX10_takesRow_34 rfl ?_
      refine r_bipush g0 dX10_takesRow_35 rfl ?_
      refine r_idiv g0 dX10_takesRow_37 i_v3_2 (InR_lit rfl) (by decide) ?_
      refine r_istore_n g0 (lv' := [some (.ref (E.1 v0_1)), some (.int (J v1_1)), none, some (.int (J (wr (Int.tdiv v3_2 10)))), some (.int (J v4_1)), some (.int (J v5_1)), some (.int (J (Int.tmod v3_2 10)))]) dX10_takesRow_38 (by decide) rfl rfl ?_
      refine r_iload g0 dX10_takesRow_39 rfl ?_
      refine r_iload_n g0 dX10_takesRow_41 rfl ?_
      refine r_icmp_ge g0 56 dX10_takesRow_42 (by decide) (InR_rem _ i_v3_2) i_v1_1 (fun hc => ?_) (fun hc => ?_)
      · replace h := if_f hc h
        refine r_iconst g0 dX10_takesRow_56 ?_
        exact z_Z g dX10_takesRow_57 B01_0 h
      · replace h := if_t hc h
        refine r_iload g0 dX10_takesRow_45 rfl ?_
        refine r_iload g0 dX10_takesRow_47 rfl ?_
        refine r_ishr g0 dX10_takesRow_49 ?_
        refine r_iconst g0 dX10_takesRow_50 ?_
        refine r_iand g0 dX10_takesRow_51 ?_
        refine r_iconst g0 dX10_takesRow_52 ?_
        refine r_icmp_ne g0 58 dX10_takesRow_53 (by decide) (InR_to _) (B01.inR B01_1) (fun hc => ?_) (fun hc => ?_)
        · replace h := if_f hc h
          refine r_iload g0 dX10_takesRow_58 rfl ?_
          refine r_iconst g0 dX10_takesRow_60 ?_
          refine r_iload g0 dX10_takesRow_61 rfl ?_
          refine r_ishl g0 dX10_takesRow_63 ?_
          refine r_ior g0 dX10_takesRow_64 ?_
          refine r_istore g0 (lv' := [some (.ref (E.1 v0_1)), some (.int (J v1_1)), none, some (.int (J (wr (Int.tdiv v3_2 10)))), some (.int (J (ior v4_1 (ishl 1 (Int.tmod v3_2 10))))), some (.int (J v5_1)), some (.int (J (Int.tmod v3_2 10)))]) dX10_takesRow_65 (by decide) rfl rfl ?_
          refine r_aload_n g0 dX10_takesRow_67 rfl ?_
          refine g_FP_row g0 i_v0_1 qX10_64 dX10_takesRow_68 ?_
          refine r_iload g0 dX10_takesRow_71 rfl ?_
          refine r_iload g0 dX10_takesRow_73 rfl ?_
          obtain ⟨hb, h⟩ := gd_some h
          refine r_iastore g0 (is_a_FP_row i_v0_1) (n := 4) rfl i_v5_1 hb dX10_takesRow_75 ?_
          refine r_iinc g0 (a := v5_1) (lv' := [some (.ref (E.1 v0_1)), some (.int (J v1_1)), none, some (.int (J (wr (Int.tdiv v3_2 10)))), some (.int (J (ior v4_1 (ishl 1 (Int.tmod v3_2 10))))), some (.int (J (wr (v5_1 + (-1))))), some (.int (J (Int.tmod v3_2 10)))]) dX10_takesRow_76 (by decide) rfl rfl rfl ?_
          refine r_goto g0 23 dX10_takesRow_79 (by decide) ?_
          refine r_mask g0 (lv' := [some (.ref (E.1 v0_1)), some (.int (J v1_1)), none, some (.int (J (wr (Int.tdiv v3_2 10)))), some (.int (J (ior v4_1 (ishl 1 (Int.tmod v3_2 10))))), some (.int (J (wr (v5_1 + (-1))))), none]) [true, true, false, true, true, true, false] rfl ?_
          exact ih (wr (Int.tdiv v3_2 10)) (ior v4_1 (ishl 1 (Int.tmod v3_2 10))) (wr (v5_1 + (-1))) (wt s_3 (a_FP_row v0_1) v5_1 (Int.tmod v3_2 10)) (InR_wr _) (InR_to _) (InR_wr _) h
        · replace h := if_t hc h
          refine r_iconst g0 dX10_takesRow_56 ?_
          exact z_Z g dX10_takesRow_57 B01_0 h
set_option maxHeartbeats 4000000 in
set_option maxRecDepth 100000 in
theorem c_X10_takesRow {E : u_E} {l : Launch} {o : u_O} {p1 : Int} {p2 : Int} (ho : is_FP o) (i_p1 : InR p1) (i_p2 : InR p2) {s s' : u_S} {r : Int} (h : f_X10_takesRow o p1 p2 s = some (r, s')) : Con l (XE E) yX10_takesRow cX10_takesRow 7 (some .boolean) 2 42 0 0 [.ref (E.1 o), .int (J p1), .int (J p2)] (Wd E s) (RZ E r s') := by
  refine Con.of [some (.ref (E.1 o)), some (.int (J p1)), some (.int (J p2)), none, none, none, none] (by decide +kernel) rfl rfl (Nat.le_of_ble_eq_true rfl) (fun K g => ?_)
  have g0 := g.wk
  unfold f_X10_takesRow at h
  refine r_iload_n g0 dX10_takesRow_0 rfl ?_
  obtain ⟨r_1, s_1, hr_1, h⟩ := bd_some h
  refine r_cSZ g0 (rest := []) (c_X10_areRowVoices i_p1 hr_1) ok_X10_areRowVoices mX10_272 dX10_takesRow_1 ⟨Nat.le_of_ble_eq_true rfl, Nat.le_of_ble_eq_true rfl⟩ ⟨Nat.zero_le _, Nat.zero_le _⟩ rfl (Nat.le_of_ble_eq_true rfl) rfl (fun i_r_1 => ?_)
  refine r_if_eq g0 11 dX10_takesRow_4 (by decide) (B01.inR i_r_1) (fun hc => ?_) (fun hc => ?_)
  · replace h := if_t hc h
    refine r_iconst g0 dX10_takesRow_11 ?_
    exact z_Z g dX10_takesRow_12 B01_0 h
  · replace h := if_f hc h
    refine r_iload_n g0 dX10_takesRow_7 rfl ?_
    refine r_if_ge g0 13 dX10_takesRow_8 (by decide) i_p2 (fun hc => ?_) (fun hc => ?_)
    · replace h := if_f hc h
      refine r_iload_n g0 dX10_takesRow_13 rfl ?_
      refine r_istore_n g0 (lv' := [some (.ref (E.1 o)), some (.int (J p1)), some (.int (J p2)), some (.int (J p2)), none, none, none]) dX10_takesRow_14 (by decide) rfl rfl ?_
      refine r_iconst g0 dX10_takesRow_15 ?_
      refine r_istore g0 (lv' := [some (.ref (E.1 o)), some (.int (J p1)), some (.int (J p2)), some (.int (J p2)), some (.int (J 0)), none, none]) dX10_takesRow_16 (by decide) rfl rfl ?_
      refine r_iload_n g0 dX10_takesRow_18 rfl ?_
      refine r_iconst g0 dX10_takesRow_19 ?_
      refine r_isub g0 dX10_takesRow_20 ?_
      refine r_istore g0 (lv' := [some (.ref (E.1 o)), some (.int (J p1)), some (.int (J p2)), some (.int (J p2)), some (.int (J 0)), some (.int (J (wr (p1 - 1)))), none]) dX10_takesRow_21 (by decide) rfl rfl ?_
      refine r_mask g0 (lv' := [some (.ref (E.1 o)), some (.int (J p1)), none, some (.int (J p2)), some (.int (J 0)), some (.int (J (wr (p1 - 1)))), none]) [true, true, false, true, true, true, false] rfl ?_
      refine t_X10_takesRow_L23 g ho i_p1 ?_ FU p2 0 (wr (p1 - 1)) s_1 i_p2 (B01.inR B01_0) (InR_wr _) h
      · intro v3_1 s_2 i_v3_1 h
        refine r_iload_n g0 dX10_takesRow_82 rfl ?_
        refine r_if_ne g0 90 dX10_takesRow_83 (by decide) i_v3_1 (fun hc => ?_) (fun hc => ?_)
        · replace h := if_f hc h
          refine r_iconst g0 dX10_takesRow_90 ?_
          exact z_Z g dX10_takesRow_91 B01_0 h
        · replace h := if_t hc h
          refine r_iconst g0 dX10_takesRow_86 ?_
          refine r_goto g0 91 dX10_takesRow_87 (by decide) ?_
          exact z_Z g dX10_takesRow_91 B01_1 h
    · replace h := if_t hc h
      refine r_iconst g0 dX10_takesRow_11 ?_
      exact z_Z g dX10_takesRow_12 B01_0 h
theorem dX10_layRow_0 : decode cX10_layRow 0 = .ok (.aload_n 0, 1) := by decide +kernel
theorem dX10_layRow_1 : decode cX10_layRow 1 = .ok (.getfield 12, 3) := by decide +kernel
theorem dX10_layRow_4 : decode cX10_layRow 4 = .ok (.getfield 104, 3) := by decide +kernel
theorem dX10_layRow_7 : decode cX10_layRow 7 = .ok (.iconst 0, 1) := by decide +kernel
theorem dX10_layRow_8 : decode cX10_layRow 8 = .ok (.aaload, 1) := by decide +kernel
theorem dX10_layRow_9 : decode cX10_layRow 9 = .ok (.invokevirtual 140, 3) := by decide +kernel
theorem dX10_layRow_12 : decode cX10_layRow 12 = .ok (.istore_n 2, 1) := by decide +kernel
theorem dX10_layRow_13 : decode cX10_layRow 13 = .ok (.aload_n 0, 1) := by decide +kernel
theorem dX10_layRow_14 : decode cX10_layRow 14 = .ok (.getfield 60, 3) := by decide +kernel
theorem dX10_layRow_17 : decode cX10_layRow 17 = .ok (.iconst 0, 1) := by decide +kernel
theorem dX10_layRow_18 : decode cX10_layRow 18 = .ok (.putfield 285, 3) := by decide +kernel
theorem dX10_layRow_21 : decode cX10_layRow 21 = .ok (.iconst 0, 1) := by decide +kernel
theorem dX10_layRow_22 : decode cX10_layRow 22 = .ok (.istore_n 3, 1) := by decide +kernel
theorem dX10_layRow_23 : decode cX10_layRow 23 = .ok (.iload_n 3, 1) := by decide +kernel
theorem dX10_layRow_24 : decode cX10_layRow 24 = .ok (.iload_n 1, 1) := by decide +kernel
theorem dX10_layRow_25 : decode cX10_layRow 25 = .ok (.if_icmp .ge 118, 3) := by decide +kernel
theorem dX10_layRow_28 : decode cX10_layRow 28 = .ok (.iload_n 3, 1) := by decide +kernel
theorem dX10_layRow_29 : decode cX10_layRow 29 = .ok (.iconst 2, 1) := by decide +kernel
theorem dX10_layRow_30 : decode cX10_layRow 30 = .ok (.irem, 1) := by decide +kernel
theorem dX10_layRow_31 : decode cX10_layRow 31 = .ok (.ifCond .ne 7, 3) := by decide +kernel
theorem dX10_layRow_34 : decode cX10_layRow 34 = .ok (.iconst 1, 1) := by decide +kernel
theorem dX10_layRow_35 : decode cX10_layRow 35 = .ok (.goto 4, 3) := by decide +kernel
theorem dX10_layRow_38 : decode cX10_layRow 38 = .ok (.iconst 0, 1) := by decide +kernel
theorem dX10_layRow_39 : decode cX10_layRow 39 = .ok (.istore 4, 2) := by decide +kernel
theorem dX10_layRow_41 : decode cX10_layRow 41 = .ok (.bipush (-7), 2) := by decide +kernel
theorem dX10_layRow_43 : decode cX10_layRow 43 = .ok (.aload_n 0, 1) := by decide +kernel
theorem dX10_layRow_44 : decode cX10_layRow 44 = .ok (.getfield 64, 3) := by decide +kernel
theorem dX10_layRow_47 : decode cX10_layRow 47 = .ok (.iload_n 3, 1) := by decide +kernel
theorem dX10_layRow_48 : decode cX10_layRow 48 = .ok (.iaload, 1) := by decide +kernel
theorem dX10_layRow_49 : decode cX10_layRow 49 = .ok (.imul, 1) := by decide +kernel
theorem dX10_layRow_50 : decode cX10_layRow 50 = .ok (.istore 5, 2) := by decide +kernel
theorem dX10_layRow_52 : decode cX10_layRow 52 = .ok (.aload_n 0, 1) := by decide +kernel
theorem dX10_layRow_53 : decode cX10_layRow 53 = .ok (.getfield 60, 3) := by decide +kernel
theorem dX10_layRow_56 : decode cX10_layRow 56 = .ok (.iconst 0, 1) := by decide +kernel
theorem dX10_layRow_57 : decode cX10_layRow 57 = .ok (.iload 4, 2) := by decide +kernel
theorem dX10_layRow_59 : decode cX10_layRow 59 = .ok (.ifCond .eq 7, 3) := by decide +kernel
theorem dX10_layRow_62 : decode cX10_layRow 62 = .ok (.iconst 0, 1) := by decide +kernel
theorem dX10_layRow_63 : decode cX10_layRow 63 = .ok (.goto 4, 3) := by decide +kernel
theorem dX10_layRow_66 : decode cX10_layRow 66 = .ok (.iconst 1, 1) := by decide +kernel
theorem dX10_layRow_67 : decode cX10_layRow 67 = .ok (.iload 5, 2) := by decide +kernel
theorem dX10_layRow_69 : decode cX10_layRow 69 = .ok (.iload_n 3, 1) := by decide +kernel
theorem dX10_layRow_70 : decode cX10_layRow 70 = .ok (.iload_n 2, 1) := by decide +kernel
theorem dX10_layRow_71 : decode cX10_layRow 71 = .ok (.imul, 1) := by decide +kernel
theorem dX10_layRow_72 : decode cX10_layRow 72 = .ok (.aload_n 0, 1) := by decide +kernel
theorem dX10_layRow_73 : decode cX10_layRow 73 = .ok (.getfield 64, 3) := by decide +kernel
theorem dX10_layRow_76 : decode cX10_layRow 76 = .ok (.iload_n 3, 1) := by decide +kernel
theorem dX10_layRow_77 : decode cX10_layRow 77 = .ok (.iaload, 1) := by decide +kernel
theorem dX10_layRow_78 : decode cX10_layRow 78 = .ok (.invokevirtual 373, 3) := by decide +kernel
theorem dX10_layRow_81 : decode cX10_layRow 81 = .ok (.iload_n 3, 1) := by decide +kernel
theorem dX10_layRow_82 : decode cX10_layRow 82 = .ok (.iload_n 1, 1) := by decide +kernel
theorem dX10_layRow_83 : decode cX10_layRow 83 = .ok (.iconst 1, 1) := by decide +kernel
theorem dX10_layRow_84 : decode cX10_layRow 84 = .ok (.isub, 1) := by decide +kernel
theorem dX10_layRow_85 : decode cX10_layRow 85 = .ok (.if_icmp .ge 52, 3) := by decide +kernel
theorem dX10_layRow_88 : decode cX10_layRow 88 = .ok (.aload_n 0, 1) := by decide +kernel
theorem dX10_layRow_89 : decode cX10_layRow 89 = .ok (.getfield 12, 3) := by decide +kernel
theorem dX10_layRow_92 : decode cX10_layRow 92 = .ok (.getfield 104, 3) := by decide +kernel
theorem dX10_layRow_95 : decode cX10_layRow 95 = .ok (.iconst 1, 1) := by decide +kernel
theorem dX10_layRow_96 : decode cX10_layRow 96 = .ok (.aaload, 1) := by decide +kernel
theorem dX10_layRow_97 : decode cX10_layRow 97 = .ok (.invokevirtual 265, 3) := by decide +kernel
theorem dX10_layRow_100 : decode cX10_layRow 100 = .ok (.ifCond .ne 37, 3) := by decide +kernel
theorem dX10_layRow_103 : decode cX10_layRow 103 = .ok (.aload_n 0, 1) := by decide +kernel
theorem dX10_layRow_104 : decode cX10_layRow 104 = .ok (.getfield 60, 3) := by decide +kernel
theorem dX10_layRow_107 : decode cX10_layRow 107 = .ok (.iconst 1, 1) := by decide +kernel
theorem dX10_layRow_108 : decode cX10_layRow 108 = .ok (.iconst 0, 1) := by decide +kernel
theorem dX10_layRow_109 : decode cX10_layRow 109 = .ok (.iload 4, 2) := by decide +kernel
theorem dX10_layRow_111 : decode cX10_layRow 111 = .ok (.ifCond .eq 10, 3) := by decide +kernel
theorem dX10_layRow_114 : decode cX10_layRow 114 = .ok (.iload 5, 2) := by decide +kernel
theorem dX10_layRow_116 : decode cX10_layRow 116 = .ok (.iconst 4, 1) := by decide +kernel
theorem dX10_layRow_117 : decode cX10_layRow 117 = .ok (.iadd, 1) := by decide +kernel
theorem dX10_layRow_118 : decode cX10_layRow 118 = .ok (.goto 5, 3) := by decide +kernel
theorem dX10_layRow_121 : decode cX10_layRow 121 = .ok (.iload 5, 2) := by decide +kernel
theorem dX10_layRow_123 : decode cX10_layRow 123 = .ok (.iload_n 3, 1) := by decide +kernel
theorem dX10_layRow_124 : decode cX10_layRow 124 = .ok (.iconst 1, 1) := by decide +kernel
theorem dX10_layRow_125 : decode cX10_layRow 125 = .ok (.iadd, 1) := by decide +kernel
theorem dX10_layRow_126 : decode cX10_layRow 126 = .ok (.iload_n 2, 1) := by decide +kernel
theorem dX10_layRow_127 : decode cX10_layRow 127 = .ok (.imul, 1) := by decide +kernel
theorem dX10_layRow_128 : decode cX10_layRow 128 = .ok (.aload_n 0, 1) := by decide +kernel
theorem dX10_layRow_129 : decode cX10_layRow 129 = .ok (.getfield 64, 3) := by decide +kernel
theorem dX10_layRow_132 : decode cX10_layRow 132 = .ok (.iload_n 3, 1) := by decide +kernel
theorem dX10_layRow_133 : decode cX10_layRow 133 = .ok (.iaload, 1) := by decide +kernel
theorem dX10_layRow_134 : decode cX10_layRow 134 = .ok (.invokevirtual 373, 3) := by decide +kernel
theorem dX10_layRow_137 : decode cX10_layRow 137 = .ok (.iinc 3 1, 3) := by decide +kernel
theorem dX10_layRow_140 : decode cX10_layRow 140 = .ok (.goto (-117), 3) := by decide +kernel
theorem dX10_layRow_143 : decode cX10_layRow 143 = .ok (.return_, 1) := by decide +kernel
set_option maxHeartbeats 4000000 in
set_option maxRecDepth 100000 in
theorem t_X10_layRow_L23 {l : Launch} {E : u_E} {K : u_K} {r : Int} {s' : u_S} (g : Wk l (XE E) { frames := 2, cells := 0, slots := 0, locals := 50 } cX10_layRow 6 yX10_layRow.cls yX10_layRow.name none (RV E r s') K) {v0_1 : u_O} {v1_1 : Int} {v2_1 : Int} (i_v0_1 : is_FP v0_1) (i_v1_1 : InR v1_1) (i_v2_1 : InR v2_1) {kx143 : u_S → Option (Int × u_S)} (hkx143 : ∀ (s_11 : u_S), kx143 s_11 = some (r, s') → K 0 0 143 [none, none, none, none, none, none] [] (Wd E s_11)) : ∀ (m : Nat) (v3_1 : Int) (s_3 : u_S), InR v3_1 → f_X10_layRow_L23 m kx143 v0_1 v1_1 v2_1 v3_1 s_3 = some (r, s') → K 0 0 23 [some (.ref (E.1 v0_1)), some (.int (J v1_1)), some (.int (J v2_1)), some (.int (J v3_1)), none, none] [] (Wd E s_3) := by
  have g0 := g.wk
  intro m
  induction m with
  | zero =>
    intro v3_1 s_3 i_v3_1 h
    exact absurd (show (none : Option (Int × u_S)) = some (r, s') from h) (by intro z; cases z)
  | succ m ih =>
    intro v3_1 s_3 i_v3_1 h
    rw [f_X10_layRow_L23] at h
    refine r_iload_n g0 dX10_layRow_23 rfl ?_
    refine r_iload_n g0 dX10_layRow_24 rfl ?_
    refine r_icmp_ge g0 143 dX10_layRow_25 (by decide) i_v3_1 i_v1_1 (fun hc => ?_) (fun hc => ?_)
    · replace h := if_f hc h
      refine r_mask g0 (lv' := [none, none, none, none, none, none]) [false, false, false, false, false, false] rfl ?_
      exact hkx143 s_3 h
    · replace h := if_t hc h
      refine r_iload_n g0 dX10_layRow_28 rfl ?_
      refine r_iconst g0 dX10_layRow_29 ?_
      refine r_irem g0 dX10_layRow_30 i_v3_1 (InR_lit rfl) (by decide) ?_
      obtain ⟨jp_1, hdjp_1, h⟩ := jn_some h
      have hjp_1 : ∀ (vt_1 : Int) (s_4 : u_S), B01 vt_1 → jp_1 vt_1 s_4 = some (r, s') → K 0 0 39 [some (.ref (E.1 v0_1)), some (.int (J v1_1)), some (.int (J v2_1)), some (.int (J v3_1)), none, none] [.int (J vt_1)] (Wd E s_4) := by
        intro vt_1 s_4 i_vt_1 h
        subst hdjp_1
        refine r_istore g0 (lv' := [some (.ref (E.1 v0_1)), some (.int (J v1_1)), some (.int (J v2_1)), some (.int (J v3_1)), some (.int (J vt_1)), none]) dX10_layRow_39 (by decide) rfl rfl ?_
        refine r_bipush g0 dX10_layRow_41 rfl ?_
        refine r_aload_n g0 dX10_layRow_43 rfl ?_
        refine g_FP_row g0 i_v0_1 qX10_64 dX10_layRow_44 ?_
        refine r_iload_n g0 dX10_layRow_47 rfl ?_
        obtain ⟨hb, h⟩ := gd_some h
        refine r_iaload g0 (is_a_FP_row i_v0_1) (n := 4) rfl i_v3_1 hb dX10_layRow_48 ?_
        refine r_imul g0 dX10_layRow_49 ?_
        refine r_istore g0 (lv' := [some (.ref (E.1 v0_1)), some (.int (J v1_1)), some (.int (J v2_1)), some (.int (J v3_1)), some (.int (J vt_1)), some (.int (J (wr ((-7) * (rd s_4 (a_FP_row v0_1) v3_1)))))]) dX10_layRow_50 (by decide) rfl rfl ?_
        refine r_aload_n g0 dX10_layRow_52 rfl ?_
        refine g_FP_rowEntries g0 i_v0_1 qX10_60 dX10_layRow_53 ?_
        refine r_iconst g0 dX10_layRow_56 ?_
        refine r_iload g0 dX10_layRow_57 rfl ?_
        obtain ⟨jp_2, hdjp_2, h⟩ := jn_some h
        have hjp_2 : ∀ (vt_2 : u_O) (vt_3 : Int) (vt_4 : Int) (s_5 : u_S), is_Entries vt_2 → B01 vt_3 → B01 vt_4 → jp_2 vt_2 vt_3 vt_4 s_5 = some (r, s') → K 0 0 67 [some (.ref (E.1 v0_1)), some (.int (J v1_1)), some (.int (J v2_1)), some (.int (J v3_1)), some (.int (J vt_1)), some (.int (J (wr ((-7) * (rd s_4 (a_FP_row v0_1) v3_1)))))] [.int (J vt_4), .int (J vt_3), .ref (E.1 vt_2)] (Wd E s_5) := by
          intro vt_2 vt_3 vt_4 s_5 i_vt_2 i_vt_3 i_vt_4 h
          subst hdjp_2
          refine r_iload g0 dX10_layRow_67 rfl ?_
          refine r_iload_n g0 dX10_layRow_69 rfl ?_
          refine r_iload_n g0 dX10_layRow_70 rfl ?_
          refine r_imul g0 dX10_layRow_71 ?_
          refine r_aload_n g0 dX10_layRow_72 rfl ?_
          refine g_FP_row g0 i_v0_1 qX10_64 dX10_layRow_73 ?_
          refine r_iload_n g0 dX10_layRow_76 rfl ?_
          obtain ⟨hb, h⟩ := gd_some h
          refine r_iaload g0 (is_a_FP_row i_v0_1) (n := 4) rfl i_v3_1 hb dX10_layRow_77 ?_
          obtain ⟨r_2, s_6, hr_2, h⟩ := bd_some h
          refine r_cVV g0 (rest := []) (c_X1_append i_vt_2 (B01.inR i_vt_3) (B01.inR i_vt_4) (InR_wr _) (InR_wr _) (InR_rd _ _ _) hr_2) ok_X1_append mX10_373 (recv_Entries i_vt_2) dX10_layRow_78 ⟨Nat.le_of_ble_eq_true rfl, Nat.le_of_ble_eq_true rfl⟩ ⟨Nat.zero_le _, Nat.zero_le _⟩ rfl (Nat.le_of_ble_eq_true rfl) rfl ?_
          refine r_iload_n g0 dX10_layRow_81 rfl ?_
          refine r_iload_n g0 dX10_layRow_82 rfl ?_
          refine r_iconst g0 dX10_layRow_83 ?_
          refine r_isub g0 dX10_layRow_84 ?_
          obtain ⟨jp_3, hdjp_3, h⟩ := jn_some h
          have hjp_3 : ∀  (s_7 : u_S), jp_3 s_7 = some (r, s') → K 0 0 137 [some (.ref (E.1 v0_1)), some (.int (J v1_1)), some (.int (J v2_1)), some (.int (J v3_1)), none, none] [] (Wd E s_7) := by
            intro s_7 h
            subst hdjp_3
            refine r_iinc g0 (a := v3_1) (lv' := [some (.ref (E.1 v0_1)), some (.int (J v1_1)), some (.int (J v2_1)), some (.int (J (wr (v3_1 + 1)))), none, none]) dX10_layRow_137 (by decide) rfl rfl rfl ?_
            refine r_goto g0 23 dX10_layRow_140 (by decide) ?_
            exact ih (wr (v3_1 + 1)) s_7 (InR_wr _) h
          clear hdjp_3
          refine r_icmp_ge g0 137 dX10_layRow_85 (by decide) i_v3_1 (InR_wr _) (fun hc => ?_) (fun hc => ?_)
          · replace h := if_f hc h
            refine r_mask g0 (lv' := [some (.ref (E.1 v0_1)), some (.int (J v1_1)), some (.int (J v2_1)), some (.int (J v3_1)), none, none]) [true, true, true, true, false, false] rfl ?_
            exact hjp_3 s_6 h
          · replace h := if_t hc h
            refine r_aload_n g0 dX10_layRow_88 rfl ?_
            refine g_FP_plan g0 i_v0_1 qX10_12 dX10_layRow_89 ?_
            refine g_Plan_lines g0 (is_a_FP_plan i_v0_1) qX10_104 dX10_layRow_92 ?_
            refine r_iconst g0 dX10_layRow_95 ?_
            obtain ⟨hb_2, h⟩ := gd_some h
            refine r_aald_Line g0 (is_a_Plan_lines (is_a_FP_plan i_v0_1)) (B01.inR B01_1) hb_2 dX10_layRow_96 ?_
            obtain ⟨r_3, s_8, hr_3, h⟩ := bd_some h
            refine r_cVZ g0 (rest := []) (c_X5_isEmpty (is_e_Line (is_a_Plan_lines (is_a_FP_plan i_v0_1)) hb_2) hr_3) ok_X5_isEmpty mX10_265 (recv_Line (is_e_Line (is_a_Plan_lines (is_a_FP_plan i_v0_1)) hb_2)) dX10_layRow_97 ⟨Nat.le_of_ble_eq_true rfl, Nat.le_of_ble_eq_true rfl⟩ ⟨Nat.zero_le _, Nat.zero_le _⟩ rfl (Nat.le_of_ble_eq_true rfl) rfl (fun i_r_3 => ?_)
            refine r_if_ne g0 137 dX10_layRow_100 (by decide) (B01.inR i_r_3) (fun hc => ?_) (fun hc => ?_)
            · replace h := if_f hc h
              refine r_mask g0 (lv' := [some (.ref (E.1 v0_1)), some (.int (J v1_1)), some (.int (J v2_1)), some (.int (J v3_1)), none, none]) [true, true, true, true, false, false] rfl ?_
              exact hjp_3 s_8 h
            · replace h := if_t hc h
              refine r_aload_n g0 dX10_layRow_103 rfl ?_
              refine g_FP_rowEntries g0 i_v0_1 qX10_60 dX10_layRow_104 ?_
              refine r_iconst g0 dX10_layRow_107 ?_
              refine r_iconst g0 dX10_layRow_108 ?_
              refine r_iload g0 dX10_layRow_109 rfl ?_
              obtain ⟨jp_4, hdjp_4, h⟩ := jn_some h
              have hjp_4 : ∀ (vt_5 : u_O) (vt_6 : Int) (vt_7 : Int) (vt_8 : Int) (s_9 : u_S), is_Entries vt_5 → B01 vt_6 → B01 vt_7 → InR vt_8 → jp_4 vt_5 vt_6 vt_7 vt_8 s_9 = some (r, s') → K 0 0 123 [some (.ref (E.1 v0_1)), some (.int (J v1_1)), some (.int (J v2_1)), some (.int (J v3_1)), none, none] [.int (J vt_8), .int (J vt_7), .int (J vt_6), .ref (E.1 vt_5)] (Wd E s_9) := by
                intro vt_5 vt_6 vt_7 vt_8 s_9 i_vt_5 i_vt_6 i_vt_7 i_vt_8 h
                subst hdjp_4
                refine r_iload_n g0 dX10_layRow_123 rfl ?_
                refine r_iconst g0 dX10_layRow_124 ?_
                refine r_iadd g0 dX10_layRow_125 ?_
                refine r_iload_n g0 dX10_layRow_126 rfl ?_
                refine r_imul g0 dX10_layRow_127 ?_
                refine r_aload_n g0 dX10_layRow_128 rfl ?_
                refine g_FP_row g0 i_v0_1 qX10_64 dX10_layRow_129 ?_
                refine r_iload_n g0 dX10_layRow_132 rfl ?_
                obtain ⟨hb, h⟩ := gd_some h
                refine r_iaload g0 (is_a_FP_row i_v0_1) (n := 4) rfl i_v3_1 hb dX10_layRow_133 ?_
                obtain ⟨r_4, s_10, hr_4, h⟩ := bd_some h
                refine r_cVV g0 (rest := []) (c_X1_append i_vt_5 (B01.inR i_vt_6) (B01.inR i_vt_7) i_vt_8 (InR_wr _) (InR_rd _ _ _) hr_4) ok_X1_append mX10_373 (recv_Entries i_vt_5) dX10_layRow_134 ⟨Nat.le_of_ble_eq_true rfl, Nat.le_of_ble_eq_true rfl⟩ ⟨Nat.zero_le _, Nat.zero_le _⟩ rfl (Nat.le_of_ble_eq_true rfl) rfl ?_
                exact hjp_3 s_10 h
              clear hdjp_4
              refine r_if_eq g0 121 dX10_layRow_111 (by decide) (B01.inR i_vt_1) (fun hc => ?_) (fun hc => ?_)
              · replace h := if_t hc h
                refine r_iload g0 dX10_layRow_121 rfl ?_
                refine r_mask g0 (lv' := [some (.ref (E.1 v0_1)), some (.int (J v1_1)), some (.int (J v2_1)), some (.int (J v3_1)), none, none]) [true, true, true, true, false, false] rfl ?_
                exact hjp_4 (a_FP_rowEntries v0_1) 1 0 (wr ((-7) * (rd s_4 (a_FP_row v0_1) v3_1))) s_8 (is_a_FP_rowEntries i_v0_1) B01_1 B01_0 (InR_wr _) h
              · replace h := if_f hc h
                refine r_iload g0 dX10_layRow_114 rfl ?_
                refine r_iconst g0 dX10_layRow_116 ?_
                refine r_iadd g0 dX10_layRow_117 ?_
                refine r_goto g0 123 dX10_layRow_118 (by decide) ?_
                refine r_mask g0 (lv' := [some (.ref (E.1 v0_1)), some (.int (J v1_1)), some (.int (J v2_1)), some (.int (J v3_1)), none, none]) [true, true, true, true, false, false] rfl ?_
                exact hjp_4 (a_FP_rowEntries v0_1) 1 0 (wr ((wr ((-7) * (rd s_4 (a_FP_row v0_1) v3_1))) + 4)) s_8 (is_a_FP_rowEntries i_v0_1) B01_1 B01_0 (InR_wr _) h
        clear hdjp_2
        refine r_if_eq g0 66 dX10_layRow_59 (by decide) (B01.inR i_vt_1) (fun hc => ?_) (fun hc => ?_)
        · replace h := if_t hc h
          refine r_iconst g0 dX10_layRow_66 ?_
          exact hjp_2 (a_FP_rowEntries v0_1) 0 1 s_4 (is_a_FP_rowEntries i_v0_1) B01_0 B01_1 h
        · replace h := if_f hc h
          refine r_iconst g0 dX10_layRow_62 ?_
          refine r_goto g0 67 dX10_layRow_63 (by decide) ?_
          exact hjp_2 (a_FP_rowEntries v0_1) 0 0 s_4 (is_a_FP_rowEntries i_v0_1) B01_0 B01_0 h
      clear hdjp_1
      refine r_if_ne g0 38 dX10_layRow_31 (by decide) (InR_rem _ i_v3_1) (fun hc => ?_) (fun hc => ?_)
      · replace h := if_f hc h
        refine r_iconst g0 dX10_layRow_38 ?_
        exact hjp_1 0 s_3 B01_0 h
      · replace h := if_t hc h
        refine r_iconst g0 dX10_layRow_34 ?_
        refine r_goto g0 39 dX10_layRow_35 (by decide) ?_
        exact hjp_1 1 s_3 B01_1 h
set_option maxHeartbeats 4000000 in
set_option maxRecDepth 100000 in
theorem c_X10_layRow {E : u_E} {l : Launch} {o : u_O} {p1 : Int} (ho : is_FP o) (i_p1 : InR p1) {s s' : u_S} {r : Int} (h : f_X10_layRow o p1 s = some (r, s')) : Con l (XE E) yX10_layRow cX10_layRow 6 none 2 50 0 0 [.ref (E.1 o), .int (J p1)] (Wd E s) (RV E r s') := by
  refine Con.of [some (.ref (E.1 o)), some (.int (J p1)), none, none, none, none] (by decide +kernel) rfl rfl (Nat.le_of_ble_eq_true rfl) (fun K g => ?_)
  have g0 := g.wk
  unfold f_X10_layRow at h
  refine r_aload_n g0 dX10_layRow_0 rfl ?_
  refine g_FP_plan g0 ho qX10_12 dX10_layRow_1 ?_
  refine g_Plan_lines g0 (is_a_FP_plan ho) qX10_104 dX10_layRow_4 ?_
  refine r_iconst g0 dX10_layRow_7 ?_
  obtain ⟨hb, h⟩ := gd_some h
  refine r_aald_Line g0 (is_a_Plan_lines (is_a_FP_plan ho)) (B01.inR B01_0) hb dX10_layRow_8 ?_
  obtain ⟨r_1, s_1, hr_1, h⟩ := bd_some h
  refine r_cVI g0 (rest := []) (c_X5_length (is_e_Line (is_a_Plan_lines (is_a_FP_plan ho)) hb) hr_1) ok_X5_length mX10_140 (recv_Line (is_e_Line (is_a_Plan_lines (is_a_FP_plan ho)) hb)) dX10_layRow_9 ⟨Nat.le_of_ble_eq_true rfl, Nat.le_of_ble_eq_true rfl⟩ ⟨Nat.zero_le _, Nat.zero_le _⟩ rfl (Nat.le_of_ble_eq_true rfl) rfl (fun i_r_1 => ?_)
  refine r_istore_n g0 (lv' := [some (.ref (E.1 o)), some (.int (J p1)), some (.int (J r_1)), none, none, none]) dX10_layRow_12 (by decide) rfl rfl ?_
  refine r_aload_n g0 dX10_layRow_13 rfl ?_
  refine g_FP_rowEntries g0 ho qX10_60 dX10_layRow_14 ?_
  refine r_iconst g0 dX10_layRow_17 ?_
  refine p_Entries_count g0 (is_a_FP_rowEntries ho) qX10_285 dX10_layRow_18 ?_
  refine r_iconst g0 dX10_layRow_21 ?_
  refine r_istore_n g0 (lv' := [some (.ref (E.1 o)), some (.int (J p1)), some (.int (J r_1)), some (.int (J 0)), none, none]) dX10_layRow_22 (by decide) rfl rfl ?_
  refine t_X10_layRow_L23 g ho i_p1 i_r_1 ?_ FU 0 (wt s_1 (a_FP_rowEntries o) 1 0) (B01.inR B01_0) h
  · intro s_2 h
    exact z_V g dX10_layRow_143 h
theorem dX10_rowFaults_0 : decode cX10_rowFaults 0 = .ok (.aload_n 0, 1) := by decide +kernel
theorem dX10_rowFaults_1 : decode cX10_rowFaults 1 = .ok (.iload_n 1, 1) := by decide +kernel
theorem dX10_rowFaults_2 : decode cX10_rowFaults 2 = .ok (.invokevirtual 278, 3) := by decide +kernel
theorem dX10_rowFaults_5 : decode cX10_rowFaults 5 = .ok (.aload_n 0, 1) := by decide +kernel
theorem dX10_rowFaults_6 : decode cX10_rowFaults 6 = .ok (.getfield 53, 3) := by decide +kernel
theorem dX10_rowFaults_9 : decode cX10_rowFaults 9 = .ok (.aload_n 0, 1) := by decide +kernel
theorem dX10_rowFaults_10 : decode cX10_rowFaults 10 = .ok (.getfield 12, 3) := by decide +kernel
theorem dX10_rowFaults_13 : decode cX10_rowFaults 13 = .ok (.aload_n 0, 1) := by decide +kernel
theorem dX10_rowFaults_14 : decode cX10_rowFaults 14 = .ok (.getfield 60, 3) := by decide +kernel
theorem dX10_rowFaults_17 : decode cX10_rowFaults 17 = .ok (.invokevirtual 204, 3) := by decide +kernel
theorem dX10_rowFaults_20 : decode cX10_rowFaults 20 = .ok (.aload_n 0, 1) := by decide +kernel
theorem dX10_rowFaults_21 : decode cX10_rowFaults 21 = .ok (.getfield 53, 3) := by decide +kernel
theorem dX10_rowFaults_24 : decode cX10_rowFaults 24 = .ok (.aload_n 0, 1) := by decide +kernel
theorem dX10_rowFaults_25 : decode cX10_rowFaults 25 = .ok (.getfield 46, 3) := by decide +kernel
theorem dX10_rowFaults_28 : decode cX10_rowFaults 28 = .ok (.aload_n 0, 1) := by decide +kernel
theorem dX10_rowFaults_29 : decode cX10_rowFaults 29 = .ok (.getfield 12, 3) := by decide +kernel
theorem dX10_rowFaults_32 : decode cX10_rowFaults 32 = .ok (.getfield 216, 3) := by decide +kernel
theorem dX10_rowFaults_35 : decode cX10_rowFaults 35 = .ok (.invokevirtual 232, 3) := by decide +kernel
theorem dX10_rowFaults_38 : decode cX10_rowFaults 38 = .ok (.aload_n 0, 1) := by decide +kernel
theorem dX10_rowFaults_39 : decode cX10_rowFaults 39 = .ok (.getfield 46, 3) := by decide +kernel
theorem dX10_rowFaults_42 : decode cX10_rowFaults 42 = .ok (.iconst 3, 1) := by decide +kernel
theorem dX10_rowFaults_43 : decode cX10_rowFaults 43 = .ok (.invokevirtual 223, 3) := by decide +kernel
theorem dX10_rowFaults_46 : decode cX10_rowFaults 46 = .ok (.ireturn, 1) := by decide +kernel
set_option maxHeartbeats 4000000 in
set_option maxRecDepth 100000 in
theorem c_X10_rowFaults {E : u_E} {l : Launch} {o : u_O} {p1 : Int} (ho : is_FP o) (i_p1 : InR p1) {s s' : u_S} {r : Int} (h : f_X10_rowFaults o p1 s = some (r, s')) : Con l (XE E) yX10_rowFaults cX10_rowFaults 2 (some .int) 5 126 0 0 [.ref (E.1 o), .int (J p1)] (Wd E s) (RI E r s') := by
  refine Con.of [some (.ref (E.1 o)), some (.int (J p1))] (by decide +kernel) rfl rfl (Nat.le_of_ble_eq_true rfl) (fun K g => ?_)
  have g0 := g.wk
  unfold f_X10_rowFaults at h
  refine r_aload_n g0 dX10_rowFaults_0 rfl ?_
  refine r_iload_n g0 dX10_rowFaults_1 rfl ?_
  obtain ⟨r_1, s_1, hr_1, h⟩ := bd_some h
  refine r_cVV g0 (rest := []) (c_X10_layRow ho i_p1 hr_1) ok_X10_layRow mX10_278 (recv_FP ho) dX10_rowFaults_2 ⟨Nat.le_of_ble_eq_true rfl, Nat.le_of_ble_eq_true rfl⟩ ⟨Nat.zero_le _, Nat.zero_le _⟩ rfl (Nat.le_of_ble_eq_true rfl) rfl ?_
  refine r_aload_n g0 dX10_rowFaults_5 rfl ?_
  refine g_FP_chorus g0 ho qX10_53 dX10_rowFaults_6 ?_
  refine r_aload_n g0 dX10_rowFaults_9 rfl ?_
  refine g_FP_plan g0 ho qX10_12 dX10_rowFaults_10 ?_
  refine r_aload_n g0 dX10_rowFaults_13 rfl ?_
  refine g_FP_rowEntries g0 ho qX10_60 dX10_rowFaults_14 ?_
  obtain ⟨r_2, s_2, hr_2, h⟩ := bd_some h
  refine r_cVV g0 (rest := []) (c_X0_gather (is_a_FP_chorus ho) (is_a_FP_plan ho) (is_a_FP_rowEntries ho) hr_2) ok_X0_gather mX10_204 (recv_Chorus (is_a_FP_chorus ho)) dX10_rowFaults_17 ⟨Nat.le_of_ble_eq_true rfl, Nat.le_of_ble_eq_true rfl⟩ ⟨Nat.zero_le _, Nat.zero_le _⟩ rfl (Nat.le_of_ble_eq_true rfl) rfl ?_
  refine r_aload_n g0 dX10_rowFaults_20 rfl ?_
  refine g_FP_chorus g0 ho qX10_53 dX10_rowFaults_21 ?_
  refine r_aload_n g0 dX10_rowFaults_24 rfl ?_
  refine g_FP_faults g0 ho qX10_46 dX10_rowFaults_25 ?_
  refine r_aload_n g0 dX10_rowFaults_28 rfl ?_
  refine g_FP_plan g0 ho qX10_12 dX10_rowFaults_29 ?_
  refine g_Plan_meter g0 (is_a_FP_plan ho) qX10_216 dX10_rowFaults_32 ?_
  obtain ⟨r_3, s_3, hr_3, h⟩ := bd_some h
  refine r_cVV g0 (rest := []) (c_X0_countFaults (is_a_FP_chorus ho) (is_a_FP_faults ho) (InR_rd _ _ _) hr_3) ok_X0_countFaults mX10_232 (recv_Chorus (is_a_FP_chorus ho)) dX10_rowFaults_35 ⟨Nat.le_of_ble_eq_true rfl, Nat.le_of_ble_eq_true rfl⟩ ⟨Nat.zero_le _, Nat.zero_le _⟩ rfl (Nat.le_of_ble_eq_true rfl) rfl ?_
  refine r_aload_n g0 dX10_rowFaults_38 rfl ?_
  refine g_FP_faults g0 ho qX10_46 dX10_rowFaults_39 ?_
  refine r_iconst g0 dX10_rowFaults_42 ?_
  obtain ⟨r_4, s_4, hr_4, h⟩ := bd_some h
  refine r_cVI g0 (rest := []) (c_X3_number (is_a_FP_faults ho) (InR_lit rfl) hr_4) ok_X3_number mX10_223 (recv_Faults (is_a_FP_faults ho)) dX10_rowFaults_43 ⟨Nat.le_of_ble_eq_true rfl, Nat.le_of_ble_eq_true rfl⟩ ⟨Nat.zero_le _, Nat.zero_le _⟩ rfl (Nat.le_of_ble_eq_true rfl) rfl (fun i_r_4 => ?_)
  exact z_I g dX10_rowFaults_46 i_r_4 h
theorem dX10_order_0 : decode cX10_order 0 = .ok (.aload_n 0, 1) := by decide +kernel
theorem dX10_order_1 : decode cX10_order 1 = .ok (.iload_n 1, 1) := by decide +kernel
theorem dX10_order_2 : decode cX10_order 2 = .ok (.iload_n 2, 1) := by decide +kernel
theorem dX10_order_3 : decode cX10_order 3 = .ok (.invokevirtual 262, 3) := by decide +kernel
theorem dX10_order_6 : decode cX10_order 6 = .ok (.ifCond .ne 10, 3) := by decide +kernel
theorem dX10_order_9 : decode cX10_order 9 = .ok (.aload_n 0, 1) := by decide +kernel
theorem dX10_order_10 : decode cX10_order 10 = .ok (.bipush (-2), 2) := by decide +kernel
theorem dX10_order_12 : decode cX10_order 12 = .ok (.invokevirtual 117, 3) := by decide +kernel
theorem dX10_order_15 : decode cX10_order 15 = .ok (.ireturn, 1) := by decide +kernel
theorem dX10_order_16 : decode cX10_order 16 = .ok (.aload_n 0, 1) := by decide +kernel
theorem dX10_order_17 : decode cX10_order 17 = .ok (.getfield 12, 3) := by decide +kernel
theorem dX10_order_20 : decode cX10_order 20 = .ok (.getfield 104, 3) := by decide +kernel
theorem dX10_order_23 : decode cX10_order 23 = .ok (.iconst 0, 1) := by decide +kernel
theorem dX10_order_24 : decode cX10_order 24 = .ok (.aaload, 1) := by decide +kernel
theorem dX10_order_25 : decode cX10_order 25 = .ok (.invokevirtual 265, 3) := by decide +kernel
theorem dX10_order_28 : decode cX10_order 28 = .ok (.ifCond .eq 10, 3) := by decide +kernel
theorem dX10_order_31 : decode cX10_order 31 = .ok (.aload_n 0, 1) := by decide +kernel
theorem dX10_order_32 : decode cX10_order 32 = .ok (.bipush (-3), 2) := by decide +kernel
theorem dX10_order_34 : decode cX10_order 34 = .ok (.invokevirtual 117, 3) := by decide +kernel
theorem dX10_order_37 : decode cX10_order 37 = .ok (.ireturn, 1) := by decide +kernel
theorem dX10_order_38 : decode cX10_order 38 = .ok (.aload_n 0, 1) := by decide +kernel
theorem dX10_order_39 : decode cX10_order 39 = .ok (.iload_n 1, 1) := by decide +kernel
theorem dX10_order_40 : decode cX10_order 40 = .ok (.invokevirtual 269, 3) := by decide +kernel
theorem dX10_order_43 : decode cX10_order 43 = .ok (.ireturn, 1) := by decide +kernel
set_option maxHeartbeats 4000000 in
set_option maxRecDepth 100000 in
theorem c_X10_order {E : u_E} {l : Launch} {o : u_O} {p1 : Int} {p2 : Int} (ho : is_FP o) (i_p1 : InR p1) (i_p2 : InR p2) {s s' : u_S} {r : Int} (h : f_X10_order o p1 p2 s = some (r, s')) : Con l (XE E) yX10_order cX10_order 3 (some .int) 6 147 0 0 [.ref (E.1 o), .int (J p1), .int (J p2)] (Wd E s) (RI E r s') := by
  refine Con.of [some (.ref (E.1 o)), some (.int (J p1)), some (.int (J p2))] (by decide +kernel) rfl rfl (Nat.le_of_ble_eq_true rfl) (fun K g => ?_)
  have g0 := g.wk
  unfold f_X10_order at h
  refine r_aload_n g0 dX10_order_0 rfl ?_
  refine r_iload_n g0 dX10_order_1 rfl ?_
  refine r_iload_n g0 dX10_order_2 rfl ?_
  obtain ⟨r_1, s_1, hr_1, h⟩ := bd_some h
  refine r_cVZ g0 (rest := []) (c_X10_takesRow ho i_p1 i_p2 hr_1) ok_X10_takesRow mX10_262 (recv_FP ho) dX10_order_3 ⟨Nat.le_of_ble_eq_true rfl, Nat.le_of_ble_eq_true rfl⟩ ⟨Nat.zero_le _, Nat.zero_le _⟩ rfl (Nat.le_of_ble_eq_true rfl) rfl (fun i_r_1 => ?_)
  refine r_if_ne g0 16 dX10_order_6 (by decide) (B01.inR i_r_1) (fun hc => ?_) (fun hc => ?_)
  · replace h := if_f hc h
    refine r_aload_n g0 dX10_order_16 rfl ?_
    refine g_FP_plan g0 ho qX10_12 dX10_order_17 ?_
    refine g_Plan_lines g0 (is_a_FP_plan ho) qX10_104 dX10_order_20 ?_
    refine r_iconst g0 dX10_order_23 ?_
    obtain ⟨hb, h⟩ := gd_some h
    refine r_aald_Line g0 (is_a_Plan_lines (is_a_FP_plan ho)) (B01.inR B01_0) hb dX10_order_24 ?_
    obtain ⟨r_2, s_2, hr_2, h⟩ := bd_some h
    refine r_cVZ g0 (rest := []) (c_X5_isEmpty (is_e_Line (is_a_Plan_lines (is_a_FP_plan ho)) hb) hr_2) ok_X5_isEmpty mX10_265 (recv_Line (is_e_Line (is_a_Plan_lines (is_a_FP_plan ho)) hb)) dX10_order_25 ⟨Nat.le_of_ble_eq_true rfl, Nat.le_of_ble_eq_true rfl⟩ ⟨Nat.zero_le _, Nat.zero_le _⟩ rfl (Nat.le_of_ble_eq_true rfl) rfl (fun i_r_2 => ?_)
    refine r_if_eq g0 38 dX10_order_28 (by decide) (B01.inR i_r_2) (fun hc => ?_) (fun hc => ?_)
    · replace h := if_t hc h
      refine r_aload_n g0 dX10_order_38 rfl ?_
      refine r_iload_n g0 dX10_order_39 rfl ?_
      obtain ⟨r_3, s_3, hr_3, h⟩ := bd_some h
      refine r_cVI g0 (rest := []) (c_X10_rowFaults ho i_p1 hr_3) ok_X10_rowFaults mX10_269 (recv_FP ho) dX10_order_40 ⟨Nat.le_of_ble_eq_true rfl, Nat.le_of_ble_eq_true rfl⟩ ⟨Nat.zero_le _, Nat.zero_le _⟩ rfl (Nat.le_of_ble_eq_true rfl) rfl (fun i_r_3 => ?_)
      exact z_I g dX10_order_43 i_r_3 h
    · replace h := if_f hc h
      refine r_aload_n g0 dX10_order_31 rfl ?_
      refine r_bipush g0 dX10_order_32 rfl ?_
      obtain ⟨r_4, s_4, hr_4, h⟩ := bd_some h
      refine r_cVI g0 (rest := []) (c_X10_refused ho (InR_lit rfl) hr_4) ok_X10_refused mX10_117 (recv_FP ho) dX10_order_34 ⟨Nat.le_of_ble_eq_true rfl, Nat.le_of_ble_eq_true rfl⟩ ⟨Nat.zero_le _, Nat.zero_le _⟩ rfl (Nat.le_of_ble_eq_true rfl) rfl (fun i_r_4 => ?_)
      exact z_I g dX10_order_37 i_r_4 h
  · replace h := if_t hc h
    refine r_aload_n g0 dX10_order_9 rfl ?_
    refine r_bipush g0 dX10_order_10 rfl ?_
    obtain ⟨r_5, s_5, hr_5, h⟩ := bd_some h
    refine r_cVI g0 (rest := []) (c_X10_refused ho (InR_lit rfl) hr_5) ok_X10_refused mX10_117 (recv_FP ho) dX10_order_12 ⟨Nat.le_of_ble_eq_true rfl, Nat.le_of_ble_eq_true rfl⟩ ⟨Nat.zero_le _, Nat.zero_le _⟩ rfl (Nat.le_of_ble_eq_true rfl) rfl (fun i_r_5 => ?_)
    exact z_I g dX10_order_15 i_r_5 h
theorem dX10_rowNumber_0 : decode cX10_rowNumber 0 = .ok (.iconst 0, 1) := by decide +kernel
theorem dX10_rowNumber_1 : decode cX10_rowNumber 1 = .ok (.istore_n 2, 1) := by decide +kernel
theorem dX10_rowNumber_2 : decode cX10_rowNumber 2 = .ok (.iconst 0, 1) := by decide +kernel
theorem dX10_rowNumber_3 : decode cX10_rowNumber 3 = .ok (.istore_n 3, 1) := by decide +kernel
theorem dX10_rowNumber_4 : decode cX10_rowNumber 4 = .ok (.iload_n 3, 1) := by decide +kernel
theorem dX10_rowNumber_5 : decode cX10_rowNumber 5 = .ok (.iload_n 1, 1) := by decide +kernel
theorem dX10_rowNumber_6 : decode cX10_rowNumber 6 = .ok (.if_icmp .ge 21, 3) := by decide +kernel
theorem dX10_rowNumber_9 : decode cX10_rowNumber 9 = .ok (.bipush 10, 2) := by decide +kernel
theorem dX10_rowNumber_11 : decode cX10_rowNumber 11 = .ok (.iload_n 2, 1) := by decide +kernel
theorem dX10_rowNumber_12 : decode cX10_rowNumber 12 = .ok (.imul, 1) := by decide +kernel
theorem dX10_rowNumber_13 : decode cX10_rowNumber 13 = .ok (.aload_n 0, 1) := by decide +kernel
theorem dX10_rowNumber_14 : decode cX10_rowNumber 14 = .ok (.getfield 64, 3) := by decide +kernel
theorem dX10_rowNumber_17 : decode cX10_rowNumber 17 = .ok (.iload_n 3, 1) := by decide +kernel
theorem dX10_rowNumber_18 : decode cX10_rowNumber 18 = .ok (.iaload, 1) := by decide +kernel
theorem dX10_rowNumber_19 : decode cX10_rowNumber 19 = .ok (.iadd, 1) := by decide +kernel
theorem dX10_rowNumber_20 : decode cX10_rowNumber 20 = .ok (.istore_n 2, 1) := by decide +kernel
theorem dX10_rowNumber_21 : decode cX10_rowNumber 21 = .ok (.iinc 3 1, 3) := by decide +kernel
theorem dX10_rowNumber_24 : decode cX10_rowNumber 24 = .ok (.goto (-20), 3) := by decide +kernel
theorem dX10_rowNumber_27 : decode cX10_rowNumber 27 = .ok (.iload_n 2, 1) := by decide +kernel
theorem dX10_rowNumber_28 : decode cX10_rowNumber 28 = .ok (.ireturn, 1) := by decide +kernel
set_option maxHeartbeats 4000000 in
set_option maxRecDepth 100000 in
theorem t_X10_rowNumber_L4 {l : Launch} {E : u_E} {K : u_K} {r : Int} {s' : u_S} (g : Wk l (XE E) { frames := 0, cells := 0, slots := 0, locals := 0 } cX10_rowNumber 4 yX10_rowNumber.cls yX10_rowNumber.name (some .int) (RI E r s') K) {v0_1 : u_O} {v1_1 : Int} (i_v0_1 : is_FP v0_1) (i_v1_1 : InR v1_1) {kx27 : Int → u_S → Option (Int × u_S)} (hkx27 : ∀ (v2_3 : Int) (s_3 : u_S), InR v2_3 → kx27 v2_3 s_3 = some (r, s') → K 0 0 27 [none, none, some (.int (J v2_3)), none] [] (Wd E s_3)) : ∀ (m : Nat) (v2_2 : Int) (v3_1 : Int) (s_2 : u_S), InR v2_2 → InR v3_1 → f_X10_rowNumber_L4 m kx27 v0_1 v1_1 v2_2 v3_1 s_2 = some (r, s') → K 0 0 4 [some (.ref (E.1 v0_1)), some (.int (J v1_1)), some (.int (J v2_2)), some (.int (J v3_1))] [] (Wd E s_2) := by
  have g0 := g.wk
  intro m
  induction m with
  | zero =>
    intro v2_2 v3_1 s_2 i_v2_2 i_v3_1 h
    exact absurd (show (none : Option (Int × u_S)) = some (r, s') from h) (by intro z; cases z)
  | succ m ih =>
    intro v2_2 v3_1 s_2 i_v2_2 i_v3_1 h
    rw [f_X10_rowNumber_L4] at h
    refine r_iload_n g0 dX10_rowNumber_4 rfl ?_
    refine r_iload_n g0 dX10_rowNumber_5 rfl ?_
    refine r_icmp_ge g0 27 dX10_rowNumber_6 (by decide) i_v3_1 i_v1_1 (fun hc => ?_) (fun hc => ?_)
    · replace h := if_f hc h
      refine r_mask g0 (lv' := [none, none, some (.int (J v2_2)), none]) [false, false, true, false] rfl ?_
      exact hkx27 v2_2 s_2 i_v2_2 h
    · replace h := if_t hc h
      refine r_bipush g0 dX10_rowNumber_9 rfl ?_
      refine r_iload_n g0 dX10_rowNumber_11 rfl ?_
      refine r_imul g0 dX10_rowNumber_12 ?_
      refine r_aload_n g0 dX10_rowNumber_13 rfl ?_
      refine g_FP_row g0 i_v0_1 qX10_64 dX10_rowNumber_14 ?_
      refine r_iload_n g0 dX10_rowNumber_17 rfl ?_
      obtain ⟨hb, h⟩ := gd_some h
      refine r_iaload g0 (is_a_FP_row i_v0_1) (n := 4) rfl i_v3_1 hb dX10_rowNumber_18 ?_
      refine r_iadd g0 dX10_rowNumber_19 ?_
      refine r_istore_n g0 (lv' := [some (.ref (E.1 v0_1)), some (.int (J v1_1)), some (.int (J (wr ((wr (10 * v2_2)) + (rd s_2 (a_FP_row v0_1) v3_1))))), some (.int (J v3_1))]) dX10_rowNumber_20 (by decide) rfl rfl ?_
      refine r_iinc g0 (a := v3_1) (lv' := [some (.ref (E.1 v0_1)), some (.int (J v1_1)), some (.int (J (wr ((wr (10 * v2_2)) + (rd s_2 (a_FP_row v0_1) v3_1))))), some (.int (J (wr (v3_1 + 1))))]) dX10_rowNumber_21 (by decide) rfl rfl rfl ?_
      refine r_goto g0 4 dX10_rowNumber_24 (by decide) ?_
      exact ih (wr ((wr (10 * v2_2)) + (rd s_2 (a_FP_row v0_1) v3_1))) (wr (v3_1 + 1)) s_2 (InR_wr _) (InR_wr _) h
set_option maxHeartbeats 4000000 in
set_option maxRecDepth 100000 in
theorem c_X10_rowNumber {E : u_E} {l : Launch} {o : u_O} {p1 : Int} (ho : is_FP o) (i_p1 : InR p1) {s s' : u_S} {r : Int} (h : f_X10_rowNumber o p1 s = some (r, s')) : Con l (XE E) yX10_rowNumber cX10_rowNumber 4 (some .int) 0 0 0 0 [.ref (E.1 o), .int (J p1)] (Wd E s) (RI E r s') := by
  refine Con.of [some (.ref (E.1 o)), some (.int (J p1)), none, none] (by decide +kernel) rfl rfl (Nat.le_of_ble_eq_true rfl) (fun K g => ?_)
  have g0 := g.wk
  unfold f_X10_rowNumber at h
  refine r_iconst g0 dX10_rowNumber_0 ?_
  refine r_istore_n g0 (lv' := [some (.ref (E.1 o)), some (.int (J p1)), some (.int (J 0)), none]) dX10_rowNumber_1 (by decide) rfl rfl ?_
  refine r_iconst g0 dX10_rowNumber_2 ?_
  refine r_istore_n g0 (lv' := [some (.ref (E.1 o)), some (.int (J p1)), some (.int (J 0)), some (.int (J 0))]) dX10_rowNumber_3 (by decide) rfl rfl ?_
  refine t_X10_rowNumber_L4 g ho i_p1 ?_ FU 0 0 s (B01.inR B01_0) (B01.inR B01_0) h
  · intro v2_1 s_1 i_v2_1 h
    refine r_iload_n g0 dX10_rowNumber_27 rfl ?_
    exact z_I g dX10_rowNumber_28 i_v2_1 h
theorem dX10_bestRow_0 : decode cX10_bestRow 0 = .ok (.iconst 0, 1) := by decide +kernel
theorem dX10_bestRow_1 : decode cX10_bestRow 1 = .ok (.istore_n 2, 1) := by decide +kernel
theorem dX10_bestRow_2 : decode cX10_bestRow 2 = .ok (.iload_n 2, 1) := by decide +kernel
theorem dX10_bestRow_3 : decode cX10_bestRow 3 = .ok (.iload_n 1, 1) := by decide +kernel
theorem dX10_bestRow_4 : decode cX10_bestRow 4 = .ok (.if_icmp .ge 16, 3) := by decide +kernel
theorem dX10_bestRow_7 : decode cX10_bestRow 7 = .ok (.aload_n 0, 1) := by decide +kernel
theorem dX10_bestRow_8 : decode cX10_bestRow 8 = .ok (.getfield 64, 3) := by decide +kernel
theorem dX10_bestRow_11 : decode cX10_bestRow 11 = .ok (.iload_n 2, 1) := by decide +kernel
theorem dX10_bestRow_12 : decode cX10_bestRow 12 = .ok (.iload_n 2, 1) := by decide +kernel
theorem dX10_bestRow_13 : decode cX10_bestRow 13 = .ok (.iastore, 1) := by decide +kernel
theorem dX10_bestRow_14 : decode cX10_bestRow 14 = .ok (.iinc 2 1, 3) := by decide +kernel
theorem dX10_bestRow_17 : decode cX10_bestRow 17 = .ok (.goto (-15), 3) := by decide +kernel
theorem dX10_bestRow_20 : decode cX10_bestRow 20 = .ok (.aload_n 0, 1) := by decide +kernel
theorem dX10_bestRow_21 : decode cX10_bestRow 21 = .ok (.iload_n 1, 1) := by decide +kernel
theorem dX10_bestRow_22 : decode cX10_bestRow 22 = .ok (.invokevirtual 269, 3) := by decide +kernel
theorem dX10_bestRow_25 : decode cX10_bestRow 25 = .ok (.sipush 10000, 3) := by decide +kernel
theorem dX10_bestRow_28 : decode cX10_bestRow 28 = .ok (.imul, 1) := by decide +kernel
theorem dX10_bestRow_29 : decode cX10_bestRow 29 = .ok (.aload_n 0, 1) := by decide +kernel
theorem dX10_bestRow_30 : decode cX10_bestRow 30 = .ok (.iload_n 1, 1) := by decide +kernel
theorem dX10_bestRow_31 : decode cX10_bestRow 31 = .ok (.invokevirtual 376, 3) := by decide +kernel
theorem dX10_bestRow_34 : decode cX10_bestRow 34 = .ok (.iadd, 1) := by decide +kernel
theorem dX10_bestRow_35 : decode cX10_bestRow 35 = .ok (.istore_n 2, 1) := by decide +kernel
theorem dX10_bestRow_36 : decode cX10_bestRow 36 = .ok (.iconst 1, 1) := by decide +kernel
theorem dX10_bestRow_37 : decode cX10_bestRow 37 = .ok (.istore_n 3, 1) := by decide +kernel
theorem dX10_bestRow_38 : decode cX10_bestRow 38 = .ok (.iload_n 3, 1) := by decide +kernel
theorem dX10_bestRow_39 : decode cX10_bestRow 39 = .ok (.bipush 24, 2) := by decide +kernel
theorem dX10_bestRow_41 : decode cX10_bestRow 41 = .ok (.if_icmp .ge 40, 3) := by decide +kernel
theorem dX10_bestRow_44 : decode cX10_bestRow 44 = .ok (.aload_n 0, 1) := by decide +kernel
theorem dX10_bestRow_45 : decode cX10_bestRow 45 = .ok (.getfield 64, 3) := by decide +kernel
theorem dX10_bestRow_48 : decode cX10_bestRow 48 = .ok (.iload_n 1, 1) := by decide +kernel
theorem dX10_bestRow_49 : decode cX10_bestRow 49 = .ok (.invokestatic 379, 3) := by decide +kernel
theorem dX10_bestRow_52 : decode cX10_bestRow 52 = .ok (.ifCond .eq 29, 3) := by decide +kernel
theorem dX10_bestRow_55 : decode cX10_bestRow 55 = .ok (.iload_n 2, 1) := by decide +kernel
theorem dX10_bestRow_56 : decode cX10_bestRow 56 = .ok (.aload_n 0, 1) := by decide +kernel
theorem dX10_bestRow_57 : decode cX10_bestRow 57 = .ok (.iload_n 1, 1) := by decide +kernel
theorem dX10_bestRow_58 : decode cX10_bestRow 58 = .ok (.invokevirtual 269, 3) := by decide +kernel
theorem dX10_bestRow_61 : decode cX10_bestRow 61 = .ok (.sipush 10000, 3) := by decide +kernel
theorem dX10_bestRow_64 : decode cX10_bestRow 64 = .ok (.imul, 1) := by decide +kernel
theorem dX10_bestRow_65 : decode cX10_bestRow 65 = .ok (.aload_n 0, 1) := by decide +kernel
theorem dX10_bestRow_66 : decode cX10_bestRow 66 = .ok (.iload_n 1, 1) := by decide +kernel
theorem dX10_bestRow_67 : decode cX10_bestRow 67 = .ok (.invokevirtual 376, 3) := by decide +kernel
theorem dX10_bestRow_70 : decode cX10_bestRow 70 = .ok (.iadd, 1) := by decide +kernel
theorem dX10_bestRow_71 : decode cX10_bestRow 71 = .ok (.invokestatic 383, 3) := by decide +kernel
theorem dX10_bestRow_74 : decode cX10_bestRow 74 = .ok (.istore_n 2, 1) := by decide +kernel
theorem dX10_bestRow_75 : decode cX10_bestRow 75 = .ok (.iinc 3 1, 3) := by decide +kernel
theorem dX10_bestRow_78 : decode cX10_bestRow 78 = .ok (.goto (-40), 3) := by decide +kernel
theorem dX10_bestRow_81 : decode cX10_bestRow 81 = .ok (.iload_n 2, 1) := by decide +kernel
theorem dX10_bestRow_82 : decode cX10_bestRow 82 = .ok (.ireturn, 1) := by decide +kernel
set_option maxHeartbeats 4000000 in
set_option maxRecDepth 100000 in
theorem t_X10_bestRow_L38 {l : Launch} {E : u_E} {K : u_K} {r : Int} {s' : u_S} (g : Wk l (XE E) { frames := 6, cells := 0, slots := 0, locals := 147 } cX10_bestRow 4 yX10_bestRow.cls yX10_bestRow.name (some .int) (RI E r s') K) {v0_1 : u_O} {v1_1 : Int} (i_v0_1 : is_FP v0_1) (i_v1_1 : InR v1_1) {kx81 : Int → u_S → Option (Int × u_S)} (hkx81 : ∀ (v2_3 : Int) (s_10 : u_S), InR v2_3 → kx81 v2_3 s_10 = some (r, s') → K 0 0 81 [none, none, some (.int (J v2_3)), none] [] (Wd E s_10)) : ∀ (m : Nat) (v2_2 : Int) (v3_1 : Int) (s_5 : u_S), InR v2_2 → InR v3_1 → f_X10_bestRow_L38 m kx81 v0_1 v1_1 v2_2 v3_1 s_5 = some (r, s') → K 0 0 38 [some (.ref (E.1 v0_1)), some (.int (J v1_1)), some (.int (J v2_2)), some (.int (J v3_1))] [] (Wd E s_5) := by
  have g0 := g.wk
  intro m
  induction m with
  | zero =>
    intro v2_2 v3_1 s_5 i_v2_2 i_v3_1 h
    exact absurd (show (none : Option (Int × u_S)) = some (r, s') from h) (by intro z; cases z)
  | succ m ih =>
    intro v2_2 v3_1 s_5 i_v2_2 i_v3_1 h
    rw [f_X10_bestRow_L38] at h
    refine r_iload_n g0 dX10_bestRow_38 rfl ?_
    refine r_bipush g0 dX10_bestRow_39 rfl ?_
    refine r_icmp_ge g0 81 dX10_bestRow_41 (by decide) i_v3_1 (InR_lit rfl) (fun hc => ?_) (fun hc => ?_)
    · replace h := if_f hc h
      refine r_mask g0 (lv' := [none, none, some (.int (J v2_2)), none]) [false, false, true, false] rfl ?_
      exact hkx81 v2_2 s_5 i_v2_2 h
    · replace h := if_t hc h
      refine r_aload_n g0 dX10_bestRow_44 rfl ?_
      refine g_FP_row g0 i_v0_1 qX10_64 dX10_bestRow_45 ?_
      refine r_iload_n g0 dX10_bestRow_48 rfl ?_
      obtain ⟨r_3, s_6, hr_3, h⟩ := bd_some h
      refine r_cSZ g0 (rest := []) (c_X10_toNextRow (is_a_FP_row i_v0_1) i_v1_1 hr_3) ok_X10_toNextRow mX10_379 dX10_bestRow_49 ⟨Nat.le_of_ble_eq_true rfl, Nat.le_of_ble_eq_true rfl⟩ ⟨Nat.zero_le _, Nat.zero_le _⟩ rfl (Nat.le_of_ble_eq_true rfl) rfl (fun i_r_3 => ?_)
      refine r_if_eq g0 81 dX10_bestRow_52 (by decide) (B01.inR i_r_3) (fun hc => ?_) (fun hc => ?_)
      · replace h := if_t hc h
        refine r_mask g0 (lv' := [none, none, some (.int (J v2_2)), none]) [false, false, true, false] rfl ?_
        exact hkx81 v2_2 s_6 i_v2_2 h
      · replace h := if_f hc h
        refine r_iload_n g0 dX10_bestRow_55 rfl ?_
        refine r_aload_n g0 dX10_bestRow_56 rfl ?_
        refine r_iload_n g0 dX10_bestRow_57 rfl ?_
        obtain ⟨r_4, s_7, hr_4, h⟩ := bd_some h
        refine r_cVI g0 (rest := [.int (J v2_2)]) (c_X10_rowFaults i_v0_1 i_v1_1 hr_4) ok_X10_rowFaults mX10_269 (recv_FP i_v0_1) dX10_bestRow_58 ⟨Nat.le_of_ble_eq_true rfl, Nat.le_of_ble_eq_true rfl⟩ ⟨Nat.zero_le _, Nat.zero_le _⟩ rfl (Nat.le_of_ble_eq_true rfl) rfl (fun i_r_4 => ?_)
        refine r_sipush g0 dX10_bestRow_61 rfl ?_
        refine r_imul g0 dX10_bestRow_64 ?_
        refine r_aload_n g0 dX10_bestRow_65 rfl ?_
        refine r_iload_n g0 dX10_bestRow_66 rfl ?_
        obtain ⟨r_5, s_8, hr_5, h⟩ := bd_some h
        refine r_cVI g0 (rest := [.int (J (wr (r_4 * 10000))), .int (J v2_2)]) (c_X10_rowNumber i_v0_1 i_v1_1 hr_5) ok_X10_rowNumber mX10_376 (recv_FP i_v0_1) dX10_bestRow_67 ⟨Nat.le_of_ble_eq_true rfl, Nat.le_of_ble_eq_true rfl⟩ ⟨Nat.zero_le _, Nat.zero_le _⟩ rfl (Nat.le_of_ble_eq_true rfl) rfl (fun i_r_5 => ?_)
        refine r_iadd g0 dX10_bestRow_70 ?_
        obtain ⟨r_6, s_9, hr_6, h⟩ := bd_some h
        refine r_cSI g0 (rest := []) (c_J9_min_7cf53 i_v2_2 (InR_wr _) hr_6) ok_J9_min_7cf53 mX10_383 dX10_bestRow_71 ⟨Nat.le_of_ble_eq_true rfl, Nat.le_of_ble_eq_true rfl⟩ ⟨Nat.zero_le _, Nat.zero_le _⟩ rfl (Nat.le_of_ble_eq_true rfl) rfl (fun i_r_6 => ?_)
        refine r_istore_n g0 (lv' := [some (.ref (E.1 v0_1)), some (.int (J v1_1)), some (.int (J r_6)), some (.int (J v3_1))]) dX10_bestRow_74 (by decide) rfl rfl ?_
        refine r_iinc g0 (a := v3_1) (lv' := [some (.ref (E.1 v0_1)), some (.int (J v1_1)), some (.int (J r_6)), some (.int (J (wr (v3_1 + 1))))]) dX10_bestRow_75 (by decide) rfl rfl rfl ?_
        refine r_goto g0 38 dX10_bestRow_78 (by decide) ?_
        exact ih r_6 (wr (v3_1 + 1)) s_9 i_r_6 (InR_wr _) h
set_option maxHeartbeats 4000000 in
set_option maxRecDepth 100000 in
theorem t_X10_bestRow_L2 {l : Launch} {E : u_E} {K : u_K} {r : Int} {s' : u_S} (g : Wk l (XE E) { frames := 6, cells := 0, slots := 0, locals := 147 } cX10_bestRow 4 yX10_bestRow.cls yX10_bestRow.name (some .int) (RI E r s') K) {v0_2 : u_O} {v1_2 : Int} (i_v0_2 : is_FP v0_2) (i_v1_2 : InR v1_2) {kx20 : u_S → Option (Int × u_S)} (hkx20 : ∀ (s_12 : u_S), kx20 s_12 = some (r, s') → K 0 0 20 [some (.ref (E.1 v0_2)), some (.int (J v1_2)), none, none] [] (Wd E s_12)) : ∀ (m : Nat) (v2_4 : Int) (s_11 : u_S), InR v2_4 → f_X10_bestRow_L2 m kx20 v0_2 v1_2 v2_4 s_11 = some (r, s') → K 0 0 2 [some (.ref (E.1 v0_2)), some (.int (J v1_2)), some (.int (J v2_4)), none] [] (Wd E s_11) := by
  have g0 := g.wk
  intro m
  induction m with
  | zero =>
    intro v2_4 s_11 i_v2_4 h
    exact absurd (show (none : Option (Int × u_S)) = some (r, s') from h) (by intro z; cases z)
  | succ m ih =>
    intro v2_4 s_11 i_v2_4 h
    rw [f_X10_bestRow_L2] at h
    refine r_iload_n g0 dX10_bestRow_2 rfl ?_
    refine r_iload_n g0 dX10_bestRow_3 rfl ?_
    refine r_icmp_ge g0 20 dX10_bestRow_4 (by decide) i_v2_4 i_v1_2 (fun hc => ?_) (fun hc => ?_)
    · replace h := if_f hc h
      refine r_mask g0 (lv' := [some (.ref (E.1 v0_2)), some (.int (J v1_2)), none, none]) [true, true, false, false] rfl ?_
      exact hkx20 s_11 h
    · replace h := if_t hc h
      refine r_aload_n g0 dX10_bestRow_7 rfl ?_
      refine g_FP_row g0 i_v0_2 qX10_64 dX10_bestRow_8 ?_
      refine r_iload_n g0 dX10_bestRow_11 rfl ?_
      refine r_iload_n g0 dX10_bestRow_12 rfl ?_
      obtain ⟨hb, h⟩ := gd_some h
      refine r_iastore g0 (is_a_FP_row i_v0_2) (n := 4) rfl i_v2_4 hb dX10_bestRow_13 ?_
      refine r_iinc g0 (a := v2_4) (lv' := [some (.ref (E.1 v0_2)), some (.int (J v1_2)), some (.int (J (wr (v2_4 + 1)))), none]) dX10_bestRow_14 (by decide) rfl rfl rfl ?_
      refine r_goto g0 2 dX10_bestRow_17 (by decide) ?_
      exact ih (wr (v2_4 + 1)) (wt s_11 (a_FP_row v0_2) v2_4 v2_4) (InR_wr _) h
set_option maxHeartbeats 4000000 in
set_option maxRecDepth 100000 in
theorem c_X10_bestRow {E : u_E} {l : Launch} {o : u_O} {p1 : Int} (ho : is_FP o) (i_p1 : InR p1) {s s' : u_S} {r : Int} (h : f_X10_bestRow o p1 s = some (r, s')) : Con l (XE E) yX10_bestRow cX10_bestRow 4 (some .int) 6 147 0 0 [.ref (E.1 o), .int (J p1)] (Wd E s) (RI E r s') := by
  refine Con.of [some (.ref (E.1 o)), some (.int (J p1)), none, none] (by decide +kernel) rfl rfl (Nat.le_of_ble_eq_true rfl) (fun K g => ?_)
  have g0 := g.wk
  unfold f_X10_bestRow at h
  refine r_iconst g0 dX10_bestRow_0 ?_
  refine r_istore_n g0 (lv' := [some (.ref (E.1 o)), some (.int (J p1)), some (.int (J 0)), none]) dX10_bestRow_1 (by decide) rfl rfl ?_
  refine t_X10_bestRow_L2 g ho i_p1 ?_ FU 0 s (B01.inR B01_0) h
  · intro s_1 h
    refine r_aload_n g0 dX10_bestRow_20 rfl ?_
    refine r_iload_n g0 dX10_bestRow_21 rfl ?_
    obtain ⟨r_1, s_2, hr_1, h⟩ := bd_some h
    refine r_cVI g0 (rest := []) (c_X10_rowFaults ho i_p1 hr_1) ok_X10_rowFaults mX10_269 (recv_FP ho) dX10_bestRow_22 ⟨Nat.le_of_ble_eq_true rfl, Nat.le_of_ble_eq_true rfl⟩ ⟨Nat.zero_le _, Nat.zero_le _⟩ rfl (Nat.le_of_ble_eq_true rfl) rfl (fun i_r_1 => ?_)
    refine r_sipush g0 dX10_bestRow_25 rfl ?_
    refine r_imul g0 dX10_bestRow_28 ?_
    refine r_aload_n g0 dX10_bestRow_29 rfl ?_
    refine r_iload_n g0 dX10_bestRow_30 rfl ?_
    obtain ⟨r_2, s_3, hr_2, h⟩ := bd_some h
    refine r_cVI g0 (rest := [.int (J (wr (r_1 * 10000)))]) (c_X10_rowNumber ho i_p1 hr_2) ok_X10_rowNumber mX10_376 (recv_FP ho) dX10_bestRow_31 ⟨Nat.le_of_ble_eq_true rfl, Nat.le_of_ble_eq_true rfl⟩ ⟨Nat.zero_le _, Nat.zero_le _⟩ rfl (Nat.le_of_ble_eq_true rfl) rfl (fun i_r_2 => ?_)
    refine r_iadd g0 dX10_bestRow_34 ?_
    refine r_istore_n g0 (lv' := [some (.ref (E.1 o)), some (.int (J p1)), some (.int (J (wr ((wr (r_1 * 10000)) + r_2)))), none]) dX10_bestRow_35 (by decide) rfl rfl ?_
    refine r_iconst g0 dX10_bestRow_36 ?_
    refine r_istore_n g0 (lv' := [some (.ref (E.1 o)), some (.int (J p1)), some (.int (J (wr ((wr (r_1 * 10000)) + r_2)))), some (.int (J 1))]) dX10_bestRow_37 (by decide) rfl rfl ?_
    refine t_X10_bestRow_L38 g ho i_p1 ?_ FU (wr ((wr (r_1 * 10000)) + r_2)) 1 s_3 (InR_wr _) (B01.inR B01_1) h
    · intro v2_1 s_4 i_v2_1 h
      refine r_iload_n g0 dX10_bestRow_81 rfl ?_
      exact z_I g dX10_bestRow_82 i_v2_1 h
theorem dX10_best_0 : decode cX10_best 0 = .ok (.iload_n 1, 1) := by decide +kernel
theorem dX10_best_1 : decode cX10_best 1 = .ok (.invokestatic 272, 3) := by decide +kernel
theorem dX10_best_4 : decode cX10_best 4 = .ok (.ifCond .eq 12, 3) := by decide +kernel
theorem dX10_best_7 : decode cX10_best 7 = .ok (.iload_n 2, 1) := by decide +kernel
theorem dX10_best_8 : decode cX10_best 8 = .ok (.iconst 0, 1) := by decide +kernel
theorem dX10_best_9 : decode cX10_best 9 = .ok (.iconst 1, 1) := by decide +kernel
theorem dX10_best_10 : decode cX10_best 10 = .ok (.invokestatic 113, 3) := by decide +kernel
theorem dX10_best_13 : decode cX10_best 13 = .ok (.ifCond .ne 10, 3) := by decide +kernel
theorem dX10_best_16 : decode cX10_best 16 = .ok (.aload_n 0, 1) := by decide +kernel
theorem dX10_best_17 : decode cX10_best 17 = .ok (.bipush (-2), 2) := by decide +kernel
theorem dX10_best_19 : decode cX10_best 19 = .ok (.invokevirtual 117, 3) := by decide +kernel
theorem dX10_best_22 : decode cX10_best 22 = .ok (.ireturn, 1) := by decide +kernel
theorem dX10_best_23 : decode cX10_best 23 = .ok (.aload_n 0, 1) := by decide +kernel
theorem dX10_best_24 : decode cX10_best 24 = .ok (.getfield 12, 3) := by decide +kernel
theorem dX10_best_27 : decode cX10_best 27 = .ok (.getfield 104, 3) := by decide +kernel
theorem dX10_best_30 : decode cX10_best 30 = .ok (.iconst 0, 1) := by decide +kernel
theorem dX10_best_31 : decode cX10_best 31 = .ok (.aaload, 1) := by decide +kernel
theorem dX10_best_32 : decode cX10_best 32 = .ok (.invokevirtual 265, 3) := by decide +kernel
theorem dX10_best_35 : decode cX10_best 35 = .ok (.ifCond .eq 10, 3) := by decide +kernel
theorem dX10_best_38 : decode cX10_best 38 = .ok (.aload_n 0, 1) := by decide +kernel
theorem dX10_best_39 : decode cX10_best 39 = .ok (.bipush (-3), 2) := by decide +kernel
theorem dX10_best_41 : decode cX10_best 41 = .ok (.invokevirtual 117, 3) := by decide +kernel
theorem dX10_best_44 : decode cX10_best 44 = .ok (.ireturn, 1) := by decide +kernel
theorem dX10_best_45 : decode cX10_best 45 = .ok (.aload_n 0, 1) := by decide +kernel
theorem dX10_best_46 : decode cX10_best 46 = .ok (.iload_n 1, 1) := by decide +kernel
theorem dX10_best_47 : decode cX10_best 47 = .ok (.invokevirtual 275, 3) := by decide +kernel
theorem dX10_best_50 : decode cX10_best 50 = .ok (.istore_n 3, 1) := by decide +kernel
theorem dX10_best_51 : decode cX10_best 51 = .ok (.iload_n 2, 1) := by decide +kernel
theorem dX10_best_52 : decode cX10_best 52 = .ok (.ifCond .ne 11, 3) := by decide +kernel
theorem dX10_best_55 : decode cX10_best 55 = .ok (.iload_n 3, 1) := by decide +kernel
theorem dX10_best_56 : decode cX10_best 56 = .ok (.sipush 10000, 3) := by decide +kernel
theorem dX10_best_59 : decode cX10_best 59 = .ok (.irem, 1) := by decide +kernel
theorem dX10_best_60 : decode cX10_best 60 = .ok (.goto 8, 3) := by decide +kernel
theorem dX10_best_63 : decode cX10_best 63 = .ok (.iload_n 3, 1) := by decide +kernel
theorem dX10_best_64 : decode cX10_best 64 = .ok (.sipush 10000, 3) := by decide +kernel
theorem dX10_best_67 : decode cX10_best 67 = .ok (.idiv, 1) := by decide +kernel
theorem dX10_best_68 : decode cX10_best 68 = .ok (.ireturn, 1) := by decide +kernel
set_option maxHeartbeats 4000000 in
set_option maxRecDepth 100000 in
theorem c_X10_best {E : u_E} {l : Launch} {o : u_O} {p1 : Int} {p2 : Int} (ho : is_FP o) (i_p1 : InR p1) (i_p2 : InR p2) {s s' : u_S} {r : Int} (h : f_X10_best o p1 p2 s = some (r, s')) : Con l (XE E) yX10_best cX10_best 4 (some .int) 7 170 0 0 [.ref (E.1 o), .int (J p1), .int (J p2)] (Wd E s) (RI E r s') := by
  refine Con.of [some (.ref (E.1 o)), some (.int (J p1)), some (.int (J p2)), none] (by decide +kernel) rfl rfl (Nat.le_of_ble_eq_true rfl) (fun K g => ?_)
  have g0 := g.wk
  unfold f_X10_best at h
  refine r_iload_n g0 dX10_best_0 rfl ?_
  obtain ⟨r_1, s_1, hr_1, h⟩ := bd_some h
  refine r_cSZ g0 (rest := []) (c_X10_areRowVoices i_p1 hr_1) ok_X10_areRowVoices mX10_272 dX10_best_1 ⟨Nat.le_of_ble_eq_true rfl, Nat.le_of_ble_eq_true rfl⟩ ⟨Nat.zero_le _, Nat.zero_le _⟩ rfl (Nat.le_of_ble_eq_true rfl) rfl (fun i_r_1 => ?_)
  obtain ⟨jp_1, hdjp_1, h⟩ := jn_some h
  have hjp_1 : ∀  (s_2 : u_S), jp_1 s_2 = some (r, s') → K 0 0 16 [some (.ref (E.1 o)), none, none, none] [] (Wd E s_2) := by
    intro s_2 h
    subst hdjp_1
    refine r_aload_n g0 dX10_best_16 rfl ?_
    refine r_bipush g0 dX10_best_17 rfl ?_
    obtain ⟨r_2, s_3, hr_2, h⟩ := bd_some h
    refine r_cVI g0 (rest := []) (c_X10_refused ho (InR_lit rfl) hr_2) ok_X10_refused mX10_117 (recv_FP ho) dX10_best_19 ⟨Nat.le_of_ble_eq_true rfl, Nat.le_of_ble_eq_true rfl⟩ ⟨Nat.zero_le _, Nat.zero_le _⟩ rfl (Nat.le_of_ble_eq_true rfl) rfl (fun i_r_2 => ?_)
    exact z_I g dX10_best_22 i_r_2 h
  clear hdjp_1
  refine r_if_eq g0 16 dX10_best_4 (by decide) (B01.inR i_r_1) (fun hc => ?_) (fun hc => ?_)
  · replace h := if_t hc h
    refine r_mask g0 (lv' := [some (.ref (E.1 o)), none, none, none]) [true, false, false, false] rfl ?_
    exact hjp_1 s_1 h
  · replace h := if_f hc h
    refine r_iload_n g0 dX10_best_7 rfl ?_
    refine r_iconst g0 dX10_best_8 ?_
    refine r_iconst g0 dX10_best_9 ?_
    obtain ⟨r_3, s_4, hr_3, h⟩ := bd_some h
    refine r_cSZ g0 (rest := []) (c_X10_within i_p2 (B01.inR B01_0) (B01.inR B01_1) hr_3) ok_X10_within mX10_113 dX10_best_10 ⟨Nat.le_of_ble_eq_true rfl, Nat.le_of_ble_eq_true rfl⟩ ⟨Nat.zero_le _, Nat.zero_le _⟩ rfl (Nat.le_of_ble_eq_true rfl) rfl (fun i_r_3 => ?_)
    refine r_if_ne g0 23 dX10_best_13 (by decide) (B01.inR i_r_3) (fun hc => ?_) (fun hc => ?_)
    · replace h := if_f hc h
      refine r_aload_n g0 dX10_best_23 rfl ?_
      refine g_FP_plan g0 ho qX10_12 dX10_best_24 ?_
      refine g_Plan_lines g0 (is_a_FP_plan ho) qX10_104 dX10_best_27 ?_
      refine r_iconst g0 dX10_best_30 ?_
      obtain ⟨hb, h⟩ := gd_some h
      refine r_aald_Line g0 (is_a_Plan_lines (is_a_FP_plan ho)) (B01.inR B01_0) hb dX10_best_31 ?_
      obtain ⟨r_4, s_5, hr_4, h⟩ := bd_some h
      refine r_cVZ g0 (rest := []) (c_X5_isEmpty (is_e_Line (is_a_Plan_lines (is_a_FP_plan ho)) hb) hr_4) ok_X5_isEmpty mX10_265 (recv_Line (is_e_Line (is_a_Plan_lines (is_a_FP_plan ho)) hb)) dX10_best_32 ⟨Nat.le_of_ble_eq_true rfl, Nat.le_of_ble_eq_true rfl⟩ ⟨Nat.zero_le _, Nat.zero_le _⟩ rfl (Nat.le_of_ble_eq_true rfl) rfl (fun i_r_4 => ?_)
      refine r_if_eq g0 45 dX10_best_35 (by decide) (B01.inR i_r_4) (fun hc => ?_) (fun hc => ?_)
      · replace h := if_t hc h
        refine r_aload_n g0 dX10_best_45 rfl ?_
        refine r_iload_n g0 dX10_best_46 rfl ?_
        obtain ⟨r_5, s_6, hr_5, h⟩ := bd_some h
        refine r_cVI g0 (rest := []) (c_X10_bestRow ho i_p1 hr_5) ok_X10_bestRow mX10_275 (recv_FP ho) dX10_best_47 ⟨Nat.le_of_ble_eq_true rfl, Nat.le_of_ble_eq_true rfl⟩ ⟨Nat.zero_le _, Nat.zero_le _⟩ rfl (Nat.le_of_ble_eq_true rfl) rfl (fun i_r_5 => ?_)
        refine r_istore_n g0 (lv' := [some (.ref (E.1 o)), some (.int (J p1)), some (.int (J p2)), some (.int (J r_5))]) dX10_best_50 (by decide) rfl rfl ?_
        refine r_iload_n g0 dX10_best_51 rfl ?_
        refine r_if_ne g0 63 dX10_best_52 (by decide) i_p2 (fun hc => ?_) (fun hc => ?_)
        · replace h := if_f hc h
          refine r_iload_n g0 dX10_best_63 rfl ?_
          refine r_sipush g0 dX10_best_64 rfl ?_
          refine r_idiv g0 dX10_best_67 i_r_5 (InR_lit rfl) (by decide) ?_
          exact z_I g dX10_best_68 (InR_wr _) h
        · replace h := if_t hc h
          refine r_iload_n g0 dX10_best_55 rfl ?_
          refine r_sipush g0 dX10_best_56 rfl ?_
          refine r_irem g0 dX10_best_59 i_r_5 (InR_lit rfl) (by decide) ?_
          refine r_goto g0 68 dX10_best_60 (by decide) ?_
          exact z_I g dX10_best_68 (InR_rem _ i_r_5) h
      · replace h := if_f hc h
        refine r_aload_n g0 dX10_best_38 rfl ?_
        refine r_bipush g0 dX10_best_39 rfl ?_
        obtain ⟨r_6, s_7, hr_6, h⟩ := bd_some h
        refine r_cVI g0 (rest := []) (c_X10_refused ho (InR_lit rfl) hr_6) ok_X10_refused mX10_117 (recv_FP ho) dX10_best_41 ⟨Nat.le_of_ble_eq_true rfl, Nat.le_of_ble_eq_true rfl⟩ ⟨Nat.zero_le _, Nat.zero_le _⟩ rfl (Nat.le_of_ble_eq_true rfl) rfl (fun i_r_6 => ?_)
        exact z_I g dX10_best_44 i_r_6 h
    · replace h := if_t hc h
      refine r_mask g0 (lv' := [some (.ref (E.1 o)), none, none, none]) [true, false, false, false] rfl ?_
      exact hjp_1 s_4 h
theorem dX10_lays_0 : decode cX10_lays 0 = .ok (.iload_n 1, 1) := by decide +kernel
theorem dX10_lays_1 : decode cX10_lays 1 = .ok (.invokestatic 272, 3) := by decide +kernel
theorem dX10_lays_4 : decode cX10_lays 4 = .ok (.ifCond .ne 10, 3) := by decide +kernel
theorem dX10_lays_7 : decode cX10_lays 7 = .ok (.aload_n 0, 1) := by decide +kernel
theorem dX10_lays_8 : decode cX10_lays 8 = .ok (.bipush (-2), 2) := by decide +kernel
theorem dX10_lays_10 : decode cX10_lays 10 = .ok (.invokevirtual 117, 3) := by decide +kernel
theorem dX10_lays_13 : decode cX10_lays 13 = .ok (.ireturn, 1) := by decide +kernel
theorem dX10_lays_14 : decode cX10_lays 14 = .ok (.aload_n 0, 1) := by decide +kernel
theorem dX10_lays_15 : decode cX10_lays 15 = .ok (.getfield 12, 3) := by decide +kernel
theorem dX10_lays_18 : decode cX10_lays 18 = .ok (.getfield 104, 3) := by decide +kernel
theorem dX10_lays_21 : decode cX10_lays 21 = .ok (.iconst 0, 1) := by decide +kernel
theorem dX10_lays_22 : decode cX10_lays 22 = .ok (.aaload, 1) := by decide +kernel
theorem dX10_lays_23 : decode cX10_lays 23 = .ok (.invokevirtual 265, 3) := by decide +kernel
theorem dX10_lays_26 : decode cX10_lays 26 = .ok (.ifCond .eq 10, 3) := by decide +kernel
theorem dX10_lays_29 : decode cX10_lays 29 = .ok (.aload_n 0, 1) := by decide +kernel
theorem dX10_lays_30 : decode cX10_lays 30 = .ok (.bipush (-3), 2) := by decide +kernel
theorem dX10_lays_32 : decode cX10_lays 32 = .ok (.invokevirtual 117, 3) := by decide +kernel
theorem dX10_lays_35 : decode cX10_lays 35 = .ok (.ireturn, 1) := by decide +kernel
theorem dX10_lays_36 : decode cX10_lays 36 = .ok (.aload_n 0, 1) := by decide +kernel
theorem dX10_lays_37 : decode cX10_lays 37 = .ok (.getfield 16, 3) := by decide +kernel
theorem dX10_lays_40 : decode cX10_lays 40 = .ok (.aload_n 0, 1) := by decide +kernel
theorem dX10_lays_41 : decode cX10_lays 41 = .ok (.getfield 12, 3) := by decide +kernel
theorem dX10_lays_44 : decode cX10_lays 44 = .ok (.invokevirtual 75, 3) := by decide +kernel
theorem dX10_lays_47 : decode cX10_lays 47 = .ok (.aload_n 0, 1) := by decide +kernel
theorem dX10_lays_48 : decode cX10_lays 48 = .ok (.iload_n 1, 1) := by decide +kernel
theorem dX10_lays_49 : decode cX10_lays 49 = .ok (.aload_n 0, 1) := by decide +kernel
theorem dX10_lays_50 : decode cX10_lays 50 = .ok (.iload_n 1, 1) := by decide +kernel
theorem dX10_lays_51 : decode cX10_lays 51 = .ok (.invokevirtual 275, 3) := by decide +kernel
theorem dX10_lays_54 : decode cX10_lays 54 = .ok (.sipush 10000, 3) := by decide +kernel
theorem dX10_lays_57 : decode cX10_lays 57 = .ok (.irem, 1) := by decide +kernel
theorem dX10_lays_58 : decode cX10_lays 58 = .ok (.invokevirtual 262, 3) := by decide +kernel
theorem dX10_lays_61 : decode cX10_lays 61 = .ok (.pop, 1) := by decide +kernel
theorem dX10_lays_62 : decode cX10_lays 62 = .ok (.aload_n 0, 1) := by decide +kernel
theorem dX10_lays_63 : decode cX10_lays 63 = .ok (.iload_n 1, 1) := by decide +kernel
theorem dX10_lays_64 : decode cX10_lays 64 = .ok (.invokevirtual 278, 3) := by decide +kernel
theorem dX10_lays_67 : decode cX10_lays 67 = .ok (.aload_n 0, 1) := by decide +kernel
theorem dX10_lays_68 : decode cX10_lays 68 = .ok (.getfield 12, 3) := by decide +kernel
theorem dX10_lays_71 : decode cX10_lays 71 = .ok (.getfield 153, 3) := by decide +kernel
theorem dX10_lays_74 : decode cX10_lays 74 = .ok (.aload_n 0, 1) := by decide +kernel
theorem dX10_lays_75 : decode cX10_lays 75 = .ok (.getfield 60, 3) := by decide +kernel
theorem dX10_lays_78 : decode cX10_lays 78 = .ok (.invokevirtual 282, 3) := by decide +kernel
theorem dX10_lays_81 : decode cX10_lays 81 = .ok (.aload_n 0, 1) := by decide +kernel
theorem dX10_lays_82 : decode cX10_lays 82 = .ok (.aload_n 0, 1) := by decide +kernel
theorem dX10_lays_83 : decode cX10_lays 83 = .ok (.getfield 12, 3) := by decide +kernel
theorem dX10_lays_86 : decode cX10_lays 86 = .ok (.getfield 153, 3) := by decide +kernel
theorem dX10_lays_89 : decode cX10_lays 89 = .ok (.getfield 285, 3) := by decide +kernel
theorem dX10_lays_92 : decode cX10_lays 92 = .ok (.invokevirtual 83, 3) := by decide +kernel
theorem dX10_lays_95 : decode cX10_lays 95 = .ok (.ireturn, 1) := by decide +kernel
set_option maxHeartbeats 4000000 in
set_option maxRecDepth 100000 in
theorem c_X10_lays {E : u_E} {l : Launch} {o : u_O} {p1 : Int} (ho : is_FP o) (i_p1 : InR p1) {s s' : u_S} {r : Int} (h : f_X10_lays o p1 s = some (r, s')) : Con l (XE E) yX10_lays cX10_lays 2 (some .int) 7 170 0 0 [.ref (E.1 o), .int (J p1)] (Wd E s) (RI E r s') := by
  refine Con.of [some (.ref (E.1 o)), some (.int (J p1))] (by decide +kernel) rfl rfl (Nat.le_of_ble_eq_true rfl) (fun K g => ?_)
  have g0 := g.wk
  unfold f_X10_lays at h
  refine r_iload_n g0 dX10_lays_0 rfl ?_
  obtain ⟨r_1, s_1, hr_1, h⟩ := bd_some h
  refine r_cSZ g0 (rest := []) (c_X10_areRowVoices i_p1 hr_1) ok_X10_areRowVoices mX10_272 dX10_lays_1 ⟨Nat.le_of_ble_eq_true rfl, Nat.le_of_ble_eq_true rfl⟩ ⟨Nat.zero_le _, Nat.zero_le _⟩ rfl (Nat.le_of_ble_eq_true rfl) rfl (fun i_r_1 => ?_)
  refine r_if_ne g0 14 dX10_lays_4 (by decide) (B01.inR i_r_1) (fun hc => ?_) (fun hc => ?_)
  · replace h := if_f hc h
    refine r_aload_n g0 dX10_lays_14 rfl ?_
    refine g_FP_plan g0 ho qX10_12 dX10_lays_15 ?_
    refine g_Plan_lines g0 (is_a_FP_plan ho) qX10_104 dX10_lays_18 ?_
    refine r_iconst g0 dX10_lays_21 ?_
    obtain ⟨hb, h⟩ := gd_some h
    refine r_aald_Line g0 (is_a_Plan_lines (is_a_FP_plan ho)) (B01.inR B01_0) hb dX10_lays_22 ?_
    obtain ⟨r_2, s_2, hr_2, h⟩ := bd_some h
    refine r_cVZ g0 (rest := []) (c_X5_isEmpty (is_e_Line (is_a_Plan_lines (is_a_FP_plan ho)) hb) hr_2) ok_X5_isEmpty mX10_265 (recv_Line (is_e_Line (is_a_Plan_lines (is_a_FP_plan ho)) hb)) dX10_lays_23 ⟨Nat.le_of_ble_eq_true rfl, Nat.le_of_ble_eq_true rfl⟩ ⟨Nat.zero_le _, Nat.zero_le _⟩ rfl (Nat.le_of_ble_eq_true rfl) rfl (fun i_r_2 => ?_)
    refine r_if_eq g0 36 dX10_lays_26 (by decide) (B01.inR i_r_2) (fun hc => ?_) (fun hc => ?_)
    · replace h := if_t hc h
      refine r_aload_n g0 dX10_lays_36 rfl ?_
      refine g_FP_before g0 ho qX10_16 dX10_lays_37 ?_
      refine r_aload_n g0 dX10_lays_40 rfl ?_
      refine g_FP_plan g0 ho qX10_12 dX10_lays_41 ?_
      obtain ⟨r_3, s_3, hr_3, h⟩ := bd_some h
      refine r_cVV g0 (rest := []) (c_X6_copyFrom (is_a_FP_before ho) (is_a_FP_plan ho) hr_3) ok_X6_copyFrom mX10_75 (recv_Plan (is_a_FP_before ho)) dX10_lays_44 ⟨Nat.le_of_ble_eq_true rfl, Nat.le_of_ble_eq_true rfl⟩ ⟨Nat.zero_le _, Nat.zero_le _⟩ rfl (Nat.le_of_ble_eq_true rfl) rfl ?_
      refine r_aload_n g0 dX10_lays_47 rfl ?_
      refine r_iload_n g0 dX10_lays_48 rfl ?_
      refine r_aload_n g0 dX10_lays_49 rfl ?_
      refine r_iload_n g0 dX10_lays_50 rfl ?_
      obtain ⟨r_4, s_4, hr_4, h⟩ := bd_some h
      refine r_cVI g0 (rest := [.int (J p1), .ref (E.1 o)]) (c_X10_bestRow ho i_p1 hr_4) ok_X10_bestRow mX10_275 (recv_FP ho) dX10_lays_51 ⟨Nat.le_of_ble_eq_true rfl, Nat.le_of_ble_eq_true rfl⟩ ⟨Nat.zero_le _, Nat.zero_le _⟩ rfl (Nat.le_of_ble_eq_true rfl) rfl (fun i_r_4 => ?_)
      refine r_sipush g0 dX10_lays_54 rfl ?_
      refine r_irem g0 dX10_lays_57 i_r_4 (InR_lit rfl) (by decide) ?_
      obtain ⟨r_5, s_5, hr_5, h⟩ := bd_some h
      refine r_cVZ g0 (rest := []) (c_X10_takesRow ho i_p1 (InR_rem _ i_r_4) hr_5) ok_X10_takesRow mX10_262 (recv_FP ho) dX10_lays_58 ⟨Nat.le_of_ble_eq_true rfl, Nat.le_of_ble_eq_true rfl⟩ ⟨Nat.zero_le _, Nat.zero_le _⟩ rfl (Nat.le_of_ble_eq_true rfl) rfl (fun i_r_5 => ?_)
      refine r_pop g0 dX10_lays_61 rfl ?_
      refine r_aload_n g0 dX10_lays_62 rfl ?_
      refine r_iload_n g0 dX10_lays_63 rfl ?_
      obtain ⟨r_6, s_6, hr_6, h⟩ := bd_some h
      refine r_cVV g0 (rest := []) (c_X10_layRow ho i_p1 hr_6) ok_X10_layRow mX10_278 (recv_FP ho) dX10_lays_64 ⟨Nat.le_of_ble_eq_true rfl, Nat.le_of_ble_eq_true rfl⟩ ⟨Nat.zero_le _, Nat.zero_le _⟩ rfl (Nat.le_of_ble_eq_true rfl) rfl ?_
      refine r_aload_n g0 dX10_lays_67 rfl ?_
      refine g_FP_plan g0 ho qX10_12 dX10_lays_68 ?_
      refine g_Plan_entries g0 (is_a_FP_plan ho) qX10_153 dX10_lays_71 ?_
      refine r_aload_n g0 dX10_lays_74 rfl ?_
      refine g_FP_rowEntries g0 ho qX10_60 dX10_lays_75 ?_
      obtain ⟨r_7, s_7, hr_7, h⟩ := bd_some h
      refine r_cVV g0 (rest := []) (c_X1_copyFrom (is_a_Plan_entries (is_a_FP_plan ho)) (is_a_FP_rowEntries ho) hr_7) ok_X1_copyFrom mX10_282 (recv_Entries (is_a_Plan_entries (is_a_FP_plan ho))) dX10_lays_78 ⟨Nat.le_of_ble_eq_true rfl, Nat.le_of_ble_eq_true rfl⟩ ⟨Nat.zero_le _, Nat.zero_le _⟩ rfl (Nat.le_of_ble_eq_true rfl) rfl ?_
      refine r_aload_n g0 dX10_lays_81 rfl ?_
      refine r_aload_n g0 dX10_lays_82 rfl ?_
      refine g_FP_plan g0 ho qX10_12 dX10_lays_83 ?_
      refine g_Plan_entries g0 (is_a_FP_plan ho) qX10_153 dX10_lays_86 ?_
      refine g_Entries_count g0 (is_a_Plan_entries (is_a_FP_plan ho)) qX10_285 dX10_lays_89 ?_
      obtain ⟨r_8, s_8, hr_8, h⟩ := bd_some h
      refine r_cVI g0 (rest := []) (c_X10_settled ho (InR_rd _ _ _) hr_8) ok_X10_settled mX10_83 (recv_FP ho) dX10_lays_92 ⟨Nat.le_of_ble_eq_true rfl, Nat.le_of_ble_eq_true rfl⟩ ⟨Nat.zero_le _, Nat.zero_le _⟩ rfl (Nat.le_of_ble_eq_true rfl) rfl (fun i_r_8 => ?_)
      exact z_I g dX10_lays_95 i_r_8 h
    · replace h := if_f hc h
      refine r_aload_n g0 dX10_lays_29 rfl ?_
      refine r_bipush g0 dX10_lays_30 rfl ?_
      obtain ⟨r_9, s_9, hr_9, h⟩ := bd_some h
      refine r_cVI g0 (rest := []) (c_X10_refused ho (InR_lit rfl) hr_9) ok_X10_refused mX10_117 (recv_FP ho) dX10_lays_32 ⟨Nat.le_of_ble_eq_true rfl, Nat.le_of_ble_eq_true rfl⟩ ⟨Nat.zero_le _, Nat.zero_le _⟩ rfl (Nat.le_of_ble_eq_true rfl) rfl (fun i_r_9 => ?_)
      exact z_I g dX10_lays_35 i_r_9 h
  · replace h := if_t hc h
    refine r_aload_n g0 dX10_lays_7 rfl ?_
    refine r_bipush g0 dX10_lays_8 rfl ?_
    obtain ⟨r_10, s_10, hr_10, h⟩ := bd_some h
    refine r_cVI g0 (rest := []) (c_X10_refused ho (InR_lit rfl) hr_10) ok_X10_refused mX10_117 (recv_FP ho) dX10_lays_10 ⟨Nat.le_of_ble_eq_true rfl, Nat.le_of_ble_eq_true rfl⟩ ⟨Nat.zero_le _, Nat.zero_le _⟩ rfl (Nat.le_of_ble_eq_true rfl) rfl (fun i_r_10 => ?_)
    exact z_I g dX10_lays_13 i_r_10 h
theorem dX10_way_0 : decode cX10_way 0 = .ok (.iload_n 1, 1) := by decide +kernel
theorem dX10_way_1 : decode cX10_way 1 = .ok (.invokestatic 286, 3) := by decide +kernel
theorem dX10_way_4 : decode cX10_way 4 = .ok (.ifCond .eq 10, 3) := by decide +kernel
theorem dX10_way_7 : decode cX10_way 7 = .ok (.iload_n 2, 1) := by decide +kernel
theorem dX10_way_8 : decode cX10_way 8 = .ok (.invokestatic 286, 3) := by decide +kernel
theorem dX10_way_11 : decode cX10_way 11 = .ok (.ifCond .ne 10, 3) := by decide +kernel
theorem dX10_way_14 : decode cX10_way 14 = .ok (.aload_n 0, 1) := by decide +kernel
theorem dX10_way_15 : decode cX10_way 15 = .ok (.bipush (-2), 2) := by decide +kernel
theorem dX10_way_17 : decode cX10_way 17 = .ok (.invokevirtual 117, 3) := by decide +kernel
theorem dX10_way_20 : decode cX10_way 20 = .ok (.ireturn, 1) := by decide +kernel
theorem dX10_way_21 : decode cX10_way 21 = .ok (.iload_n 1, 1) := by decide +kernel
theorem dX10_way_22 : decode cX10_way 22 = .ok (.iload_n 2, 1) := by decide +kernel
theorem dX10_way_23 : decode cX10_way 23 = .ok (.invokestatic 289, 3) := by decide +kernel
theorem dX10_way_26 : decode cX10_way 26 = .ok (.ireturn, 1) := by decide +kernel
set_option maxHeartbeats 4000000 in
set_option maxRecDepth 100000 in
theorem c_X10_way {E : u_E} {l : Launch} {o : u_O} {p1 : Int} {p2 : Int} (ho : is_FP o) (i_p1 : InR p1) (i_p2 : InR p2) {s s' : u_S} {r : Int} (h : f_X10_way o p1 p2 s = some (r, s')) : Con l (XE E) yX10_way cX10_way 3 (some .int) 3 67 0 0 [.ref (E.1 o), .int (J p1), .int (J p2)] (Wd E s) (RI E r s') := by
  refine Con.of [some (.ref (E.1 o)), some (.int (J p1)), some (.int (J p2))] (by decide +kernel) rfl rfl (Nat.le_of_ble_eq_true rfl) (fun K g => ?_)
  have g0 := g.wk
  unfold f_X10_way at h
  refine r_iload_n g0 dX10_way_0 rfl ?_
  obtain ⟨r_1, s_1, hr_1, h⟩ := bd_some h
  refine r_cSZ g0 (rest := []) (c_X10_isKey i_p1 hr_1) ok_X10_isKey mX10_286 dX10_way_1 ⟨Nat.le_of_ble_eq_true rfl, Nat.le_of_ble_eq_true rfl⟩ ⟨Nat.zero_le _, Nat.zero_le _⟩ rfl (Nat.le_of_ble_eq_true rfl) rfl (fun i_r_1 => ?_)
  obtain ⟨jp_1, hdjp_1, h⟩ := jn_some h
  have hjp_1 : ∀  (s_2 : u_S), jp_1 s_2 = some (r, s') → K 0 0 14 [some (.ref (E.1 o)), none, none] [] (Wd E s_2) := by
    intro s_2 h
    subst hdjp_1
    refine r_aload_n g0 dX10_way_14 rfl ?_
    refine r_bipush g0 dX10_way_15 rfl ?_
    obtain ⟨r_2, s_3, hr_2, h⟩ := bd_some h
    refine r_cVI g0 (rest := []) (c_X10_refused ho (InR_lit rfl) hr_2) ok_X10_refused mX10_117 (recv_FP ho) dX10_way_17 ⟨Nat.le_of_ble_eq_true rfl, Nat.le_of_ble_eq_true rfl⟩ ⟨Nat.zero_le _, Nat.zero_le _⟩ rfl (Nat.le_of_ble_eq_true rfl) rfl (fun i_r_2 => ?_)
    exact z_I g dX10_way_20 i_r_2 h
  clear hdjp_1
  refine r_if_eq g0 14 dX10_way_4 (by decide) (B01.inR i_r_1) (fun hc => ?_) (fun hc => ?_)
  · replace h := if_t hc h
    refine r_mask g0 (lv' := [some (.ref (E.1 o)), none, none]) [true, false, false] rfl ?_
    exact hjp_1 s_1 h
  · replace h := if_f hc h
    refine r_iload_n g0 dX10_way_7 rfl ?_
    obtain ⟨r_3, s_4, hr_3, h⟩ := bd_some h
    refine r_cSZ g0 (rest := []) (c_X10_isKey i_p2 hr_3) ok_X10_isKey mX10_286 dX10_way_8 ⟨Nat.le_of_ble_eq_true rfl, Nat.le_of_ble_eq_true rfl⟩ ⟨Nat.zero_le _, Nat.zero_le _⟩ rfl (Nat.le_of_ble_eq_true rfl) rfl (fun i_r_3 => ?_)
    refine r_if_ne g0 21 dX10_way_11 (by decide) (B01.inR i_r_3) (fun hc => ?_) (fun hc => ?_)
    · replace h := if_f hc h
      refine r_iload_n g0 dX10_way_21 rfl ?_
      refine r_iload_n g0 dX10_way_22 rfl ?_
      obtain ⟨r_4, s_5, hr_4, h⟩ := bd_some h
      refine r_cSI g0 (rest := []) (c_X10_wayBetween i_p1 i_p2 hr_4) ok_X10_wayBetween mX10_289 dX10_way_23 ⟨Nat.le_of_ble_eq_true rfl, Nat.le_of_ble_eq_true rfl⟩ ⟨Nat.zero_le _, Nat.zero_le _⟩ rfl (Nat.le_of_ble_eq_true rfl) rfl (fun i_r_4 => ?_)
      exact z_I g dX10_way_26 i_r_4 h
    · replace h := if_t hc h
      refine r_mask g0 (lv' := [some (.ref (E.1 o)), none, none]) [true, false, false] rfl ?_
      exact hjp_1 s_4 h
theorem dX10_roadBetween_0 : decode cX10_roadBetween 0 = .ok (.iload_n 0, 1) := by decide +kernel
theorem dX10_roadBetween_1 : decode cX10_roadBetween 1 = .ok (.invokestatic 395, 3) := by decide +kernel
theorem dX10_roadBetween_4 : decode cX10_roadBetween 4 = .ok (.iload_n 1, 1) := by decide +kernel
theorem dX10_roadBetween_5 : decode cX10_roadBetween 5 = .ok (.invokestatic 395, 3) := by decide +kernel
theorem dX10_roadBetween_8 : decode cX10_roadBetween 8 = .ok (.if_icmp .ne 18, 3) := by decide +kernel
theorem dX10_roadBetween_11 : decode cX10_roadBetween 11 = .ok (.iload_n 0, 1) := by decide +kernel
theorem dX10_roadBetween_12 : decode cX10_roadBetween 12 = .ok (.iload_n 1, 1) := by decide +kernel
theorem dX10_roadBetween_13 : decode cX10_roadBetween 13 = .ok (.invokestatic 398, 3) := by decide +kernel
theorem dX10_roadBetween_16 : decode cX10_roadBetween 16 = .ok (.iconst 1, 1) := by decide +kernel
theorem dX10_roadBetween_17 : decode cX10_roadBetween 17 = .ok (.if_icmp .ne 7, 3) := by decide +kernel
theorem dX10_roadBetween_20 : decode cX10_roadBetween 20 = .ok (.iconst 1, 1) := by decide +kernel
theorem dX10_roadBetween_21 : decode cX10_roadBetween 21 = .ok (.goto 4, 3) := by decide +kernel
theorem dX10_roadBetween_24 : decode cX10_roadBetween 24 = .ok (.iconst 0, 1) := by decide +kernel
theorem dX10_roadBetween_25 : decode cX10_roadBetween 25 = .ok (.ireturn, 1) := by decide +kernel
theorem dX10_roadBetween_26 : decode cX10_roadBetween 26 = .ok (.iload_n 0, 1) := by decide +kernel
theorem dX10_roadBetween_27 : decode cX10_roadBetween 27 = .ok (.iload_n 1, 1) := by decide +kernel
theorem dX10_roadBetween_28 : decode cX10_roadBetween 28 = .ok (.invokestatic 383, 3) := by decide +kernel
theorem dX10_roadBetween_31 : decode cX10_roadBetween 31 = .ok (.istore_n 2, 1) := by decide +kernel
theorem dX10_roadBetween_32 : decode cX10_roadBetween 32 = .ok (.iload_n 0, 1) := by decide +kernel
theorem dX10_roadBetween_33 : decode cX10_roadBetween 33 = .ok (.iload_n 1, 1) := by decide +kernel
theorem dX10_roadBetween_34 : decode cX10_roadBetween 34 = .ok (.invokestatic 401, 3) := by decide +kernel
theorem dX10_roadBetween_37 : decode cX10_roadBetween 37 = .ok (.istore_n 3, 1) := by decide +kernel
theorem dX10_roadBetween_38 : decode cX10_roadBetween 38 = .ok (.iload_n 2, 1) := by decide +kernel
theorem dX10_roadBetween_39 : decode cX10_roadBetween 39 = .ok (.iload_n 3, 1) := by decide +kernel
theorem dX10_roadBetween_40 : decode cX10_roadBetween 40 = .ok (.invokestatic 398, 3) := by decide +kernel
theorem dX10_roadBetween_43 : decode cX10_roadBetween 43 = .ok (.ifCond .ne 5, 3) := by decide +kernel
theorem dX10_roadBetween_46 : decode cX10_roadBetween 46 = .ok (.iconst 1, 1) := by decide +kernel
theorem dX10_roadBetween_47 : decode cX10_roadBetween 47 = .ok (.ireturn, 1) := by decide +kernel
theorem dX10_roadBetween_48 : decode cX10_roadBetween 48 = .ok (.iload_n 2, 1) := by decide +kernel
theorem dX10_roadBetween_49 : decode cX10_roadBetween 49 = .ok (.bipush 9, 2) := by decide +kernel
theorem dX10_roadBetween_51 : decode cX10_roadBetween 51 = .ok (.iadd, 1) := by decide +kernel
theorem dX10_roadBetween_52 : decode cX10_roadBetween 52 = .ok (.iload_n 3, 1) := by decide +kernel
theorem dX10_roadBetween_53 : decode cX10_roadBetween 53 = .ok (.invokestatic 398, 3) := by decide +kernel
theorem dX10_roadBetween_56 : decode cX10_roadBetween 56 = .ok (.ifCond .ne 7, 3) := by decide +kernel
theorem dX10_roadBetween_59 : decode cX10_roadBetween 59 = .ok (.iconst 2, 1) := by decide +kernel
theorem dX10_roadBetween_60 : decode cX10_roadBetween 60 = .ok (.goto 4, 3) := by decide +kernel
theorem dX10_roadBetween_63 : decode cX10_roadBetween 63 = .ok (.iconst 0, 1) := by decide +kernel
theorem dX10_roadBetween_64 : decode cX10_roadBetween 64 = .ok (.ireturn, 1) := by decide +kernel
set_option maxHeartbeats 4000000 in
set_option maxRecDepth 100000 in
theorem c_X10_roadBetween {E : u_E} {l : Launch} {p1 : Int} {p2 : Int} (i_p1 : InR p1) (i_p2 : InR p2) {s s' : u_S} {r : Int} (h : f_X10_roadBetween p1 p2 s = some (r, s')) : Con l (XE E) yX10_roadBetween cX10_roadBetween 4 (some .int) 2 44 0 0 [.int (J p1), .int (J p2)] (Wd E s) (RI E r s') := by
  refine Con.of [some (.int (J p1)), some (.int (J p2)), none, none] (by decide +kernel) rfl rfl (Nat.le_of_ble_eq_true rfl) (fun K g => ?_)
  have g0 := g.wk
  unfold f_X10_roadBetween at h
  refine r_iload_n g0 dX10_roadBetween_0 rfl ?_
  obtain ⟨r_1, s_1, hr_1, h⟩ := bd_some h
  refine r_cSI g0 (rest := []) (c_X10_modeOf i_p1 hr_1) ok_X10_modeOf mX10_395 dX10_roadBetween_1 ⟨Nat.le_of_ble_eq_true rfl, Nat.le_of_ble_eq_true rfl⟩ ⟨Nat.zero_le _, Nat.zero_le _⟩ rfl (Nat.le_of_ble_eq_true rfl) rfl (fun i_r_1 => ?_)
  refine r_iload_n g0 dX10_roadBetween_4 rfl ?_
  obtain ⟨r_2, s_2, hr_2, h⟩ := bd_some h
  refine r_cSI g0 (rest := [.int (J r_1)]) (c_X10_modeOf i_p2 hr_2) ok_X10_modeOf mX10_395 dX10_roadBetween_5 ⟨Nat.le_of_ble_eq_true rfl, Nat.le_of_ble_eq_true rfl⟩ ⟨Nat.zero_le _, Nat.zero_le _⟩ rfl (Nat.le_of_ble_eq_true rfl) rfl (fun i_r_2 => ?_)
  refine r_icmp_ne g0 26 dX10_roadBetween_8 (by decide) i_r_1 i_r_2 (fun hc => ?_) (fun hc => ?_)
  · replace h := if_f hc h
    refine r_iload_n g0 dX10_roadBetween_26 rfl ?_
    refine r_iload_n g0 dX10_roadBetween_27 rfl ?_
    obtain ⟨r_3, s_3, hr_3, h⟩ := bd_some h
    refine r_cSI g0 (rest := []) (c_J9_min_7cf53 i_p1 i_p2 hr_3) ok_J9_min_7cf53 mX10_383 dX10_roadBetween_28 ⟨Nat.le_of_ble_eq_true rfl, Nat.le_of_ble_eq_true rfl⟩ ⟨Nat.zero_le _, Nat.zero_le _⟩ rfl (Nat.le_of_ble_eq_true rfl) rfl (fun i_r_3 => ?_)
    refine r_istore_n g0 (lv' := [some (.int (J p1)), some (.int (J p2)), some (.int (J r_3)), none]) dX10_roadBetween_31 (by decide) rfl rfl ?_
    refine r_iload_n g0 dX10_roadBetween_32 rfl ?_
    refine r_iload_n g0 dX10_roadBetween_33 rfl ?_
    obtain ⟨r_4, s_4, hr_4, h⟩ := bd_some h
    refine r_cSI g0 (rest := []) (c_J9_max_7cf53 i_p1 i_p2 hr_4) ok_J9_max_7cf53 mX10_401 dX10_roadBetween_34 ⟨Nat.le_of_ble_eq_true rfl, Nat.le_of_ble_eq_true rfl⟩ ⟨Nat.zero_le _, Nat.zero_le _⟩ rfl (Nat.le_of_ble_eq_true rfl) rfl (fun i_r_4 => ?_)
    refine r_istore_n g0 (lv' := [some (.int (J p1)), some (.int (J p2)), some (.int (J r_3)), some (.int (J r_4))]) dX10_roadBetween_37 (by decide) rfl rfl ?_
    refine r_iload_n g0 dX10_roadBetween_38 rfl ?_
    refine r_iload_n g0 dX10_roadBetween_39 rfl ?_
    obtain ⟨r_5, s_5, hr_5, h⟩ := bd_some h
    refine r_cSI g0 (rest := []) (c_X10_turns i_r_3 i_r_4 hr_5) ok_X10_turns mX10_398 dX10_roadBetween_40 ⟨Nat.le_of_ble_eq_true rfl, Nat.le_of_ble_eq_true rfl⟩ ⟨Nat.zero_le _, Nat.zero_le _⟩ rfl (Nat.le_of_ble_eq_true rfl) rfl (fun i_r_5 => ?_)
    refine r_if_ne g0 48 dX10_roadBetween_43 (by decide) i_r_5 (fun hc => ?_) (fun hc => ?_)
    · replace h := if_f hc h
      refine r_iload_n g0 dX10_roadBetween_48 rfl ?_
      refine r_bipush g0 dX10_roadBetween_49 rfl ?_
      refine r_iadd g0 dX10_roadBetween_51 ?_
      refine r_iload_n g0 dX10_roadBetween_52 rfl ?_
      obtain ⟨r_6, s_6, hr_6, h⟩ := bd_some h
      refine r_cSI g0 (rest := []) (c_X10_turns (InR_wr _) i_r_4 hr_6) ok_X10_turns mX10_398 dX10_roadBetween_53 ⟨Nat.le_of_ble_eq_true rfl, Nat.le_of_ble_eq_true rfl⟩ ⟨Nat.zero_le _, Nat.zero_le _⟩ rfl (Nat.le_of_ble_eq_true rfl) rfl (fun i_r_6 => ?_)
      refine r_if_ne g0 63 dX10_roadBetween_56 (by decide) i_r_6 (fun hc => ?_) (fun hc => ?_)
      · replace h := if_f hc h
        refine r_iconst g0 dX10_roadBetween_63 ?_
        exact z_I g dX10_roadBetween_64 (B01.inR B01_0) h
      · replace h := if_t hc h
        refine r_iconst g0 dX10_roadBetween_59 ?_
        refine r_goto g0 64 dX10_roadBetween_60 (by decide) ?_
        exact z_I g dX10_roadBetween_64 (InR_lit rfl) h
    · replace h := if_t hc h
      refine r_iconst g0 dX10_roadBetween_46 ?_
      exact z_I g dX10_roadBetween_47 (B01.inR B01_1) h
  · replace h := if_t hc h
    refine r_iload_n g0 dX10_roadBetween_11 rfl ?_
    refine r_iload_n g0 dX10_roadBetween_12 rfl ?_
    obtain ⟨r_7, s_7, hr_7, h⟩ := bd_some h
    refine r_cSI g0 (rest := []) (c_X10_turns i_p1 i_p2 hr_7) ok_X10_turns mX10_398 dX10_roadBetween_13 ⟨Nat.le_of_ble_eq_true rfl, Nat.le_of_ble_eq_true rfl⟩ ⟨Nat.zero_le _, Nat.zero_le _⟩ rfl (Nat.le_of_ble_eq_true rfl) rfl (fun i_r_7 => ?_)
    refine r_iconst g0 dX10_roadBetween_16 ?_
    refine r_icmp_ne g0 24 dX10_roadBetween_17 (by decide) i_r_7 (B01.inR B01_1) (fun hc => ?_) (fun hc => ?_)
    · replace h := if_f hc h
      refine r_iconst g0 dX10_roadBetween_24 ?_
      exact z_I g dX10_roadBetween_25 (B01.inR B01_0) h
    · replace h := if_t hc h
      refine r_iconst g0 dX10_roadBetween_20 ?_
      refine r_goto g0 25 dX10_roadBetween_21 (by decide) ?_
      exact z_I g dX10_roadBetween_25 (B01.inR B01_1) h
