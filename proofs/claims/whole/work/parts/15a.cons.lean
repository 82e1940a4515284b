/-! THE CONTRACTS: the bytecode does what the functions say (by program, wip/whole/gen) -/
theorem dJ9_min_7cf53_0 : decode cJ9_min_7cf53 0 = .ok (.iload_n 0, 1) := by decide +kernel
theorem dJ9_min_7cf53_1 : decode cJ9_min_7cf53 1 = .ok (.iload_n 1, 1) := by decide +kernel
theorem dJ9_min_7cf53_2 : decode cJ9_min_7cf53 2 = .ok (.if_icmp .gt 7, 3) := by decide +kernel
theorem dJ9_min_7cf53_5 : decode cJ9_min_7cf53 5 = .ok (.iload_n 0, 1) := by decide +kernel
theorem dJ9_min_7cf53_6 : decode cJ9_min_7cf53 6 = .ok (.goto 4, 3) := by decide +kernel
theorem dJ9_min_7cf53_9 : decode cJ9_min_7cf53 9 = .ok (.iload_n 1, 1) := by decide +kernel
theorem dJ9_min_7cf53_10 : decode cJ9_min_7cf53 10 = .ok (.ireturn, 1) := by decide +kernel
set_option maxHeartbeats 4000000 in
set_option maxRecDepth 100000 in
theorem c_J9_min_7cf53 {E : u_E} {l : Launch} {p1 : Int} {p2 : Int} (i_p1 : InR p1) (i_p2 : InR p2) {s s' : u_S} {r : Int} (h : f_J9_min_7cf53 p1 p2 s = some (r, s')) : Con l (XE E) yJ9_min_7cf53 cJ9_min_7cf53 2 (some .int) 0 0 0 0 [.int (J p1), .int (J p2)] (Wd E s) (RI E r s') := by
  refine Con.ofF [some (.int (J p1)), some (.int (J p2))] (by decide +kernel) rfl rfl (Nat.le_of_ble_eq_true rfl) (fun K g => ?_)
  have g0 := g.wk
  unfold f_J9_min_7cf53 at h
  refine r_iload_n g0 dJ9_min_7cf53_0 rfl ?_
  refine r_iload_n g0 dJ9_min_7cf53_1 rfl ?_
  refine r_icmp_gt g0 9 dJ9_min_7cf53_2 (by decide) i_p1 i_p2 (fun hc => ?_) (fun hc => ?_)
  · replace h := if_f hc h
    refine r_iload_n g0 dJ9_min_7cf53_9 rfl ?_
    exact z_I g dJ9_min_7cf53_10 i_p2 h
  · replace h := if_t hc h
    refine r_iload_n g0 dJ9_min_7cf53_5 rfl ?_
    refine r_goto g0 10 dJ9_min_7cf53_6 (by decide) ?_
    exact z_I g dJ9_min_7cf53_10 i_p1 h
theorem dX10_within_0 : decode cX10_within 0 = .ok (.iload_n 0, 1) := by decide +kernel
theorem dX10_within_1 : decode cX10_within 1 = .ok (.iload_n 1, 1) := by decide +kernel
theorem dX10_within_2 : decode cX10_within 2 = .ok (.if_icmp .lt 12, 3) := by decide +kernel
theorem dX10_within_5 : decode cX10_within 5 = .ok (.iload_n 0, 1) := by decide +kernel
theorem dX10_within_6 : decode cX10_within 6 = .ok (.iload_n 2, 1) := by decide +kernel
theorem dX10_within_7 : decode cX10_within 7 = .ok (.if_icmp .gt 7, 3) := by decide +kernel
theorem dX10_within_10 : decode cX10_within 10 = .ok (.iconst 1, 1) := by decide +kernel
theorem dX10_within_11 : decode cX10_within 11 = .ok (.goto 4, 3) := by decide +kernel
theorem dX10_within_14 : decode cX10_within 14 = .ok (.iconst 0, 1) := by decide +kernel
theorem dX10_within_15 : decode cX10_within 15 = .ok (.ireturn, 1) := by decide +kernel
set_option maxHeartbeats 4000000 in
set_option maxRecDepth 100000 in
theorem c_X10_within {E : u_E} {l : Launch} {p1 : Int} {p2 : Int} {p3 : Int} (i_p1 : InR p1) (i_p2 : InR p2) (i_p3 : InR p3) {s s' : u_S} {r : Int} (h : f_X10_within p1 p2 p3 s = some (r, s')) : Con l (XE E) yX10_within cX10_within 3 (some .boolean) 0 0 0 0 [.int (J p1), .int (J p2), .int (J p3)] (Wd E s) (RZ E r s') := by
  refine Con.of [some (.int (J p1)), some (.int (J p2)), some (.int (J p3))] (by decide +kernel) rfl rfl (Nat.le_of_ble_eq_true rfl) (fun K g => ?_)
  have g0 := g.wk
  unfold f_X10_within at h
  refine r_iload_n g0 dX10_within_0 rfl ?_
  refine r_iload_n g0 dX10_within_1 rfl ?_
  refine r_icmp_lt g0 14 dX10_within_2 (by decide) i_p1 i_p2 (fun hc => ?_) (fun hc => ?_)
  · replace h := if_t hc h
    refine r_iconst g0 dX10_within_14 ?_
    exact z_Z g dX10_within_15 B01_0 h
  · replace h := if_f hc h
    refine r_iload_n g0 dX10_within_5 rfl ?_
    refine r_iload_n g0 dX10_within_6 rfl ?_
    refine r_icmp_gt g0 14 dX10_within_7 (by decide) i_p1 i_p3 (fun hc => ?_) (fun hc => ?_)
    · replace h := if_f hc h
      refine r_iconst g0 dX10_within_14 ?_
      exact z_Z g dX10_within_15 B01_0 h
    · replace h := if_t hc h
      refine r_iconst g0 dX10_within_10 ?_
      refine r_goto g0 15 dX10_within_11 (by decide) ?_
      exact z_Z g dX10_within_15 B01_1 h
theorem dX10_isLine_0 : decode cX10_isLine 0 = .ok (.iload_n 0, 1) := by decide +kernel
theorem dX10_isLine_1 : decode cX10_isLine 1 = .ok (.iconst 0, 1) := by decide +kernel
theorem dX10_isLine_2 : decode cX10_isLine 2 = .ok (.iconst 3, 1) := by decide +kernel
theorem dX10_isLine_3 : decode cX10_isLine 3 = .ok (.invokestatic 113, 3) := by decide +kernel
theorem dX10_isLine_6 : decode cX10_isLine 6 = .ok (.ireturn, 1) := by decide +kernel
set_option maxHeartbeats 4000000 in
set_option maxRecDepth 100000 in
theorem c_X10_isLine {E : u_E} {l : Launch} {p1 : Int} (i_p1 : InR p1) {s s' : u_S} {r : Int} (h : f_X10_isLine p1 s = some (r, s')) : Con l (XE E) yX10_isLine cX10_isLine 1 (some .boolean) 1 22 0 0 [.int (J p1)] (Wd E s) (RZ E r s') := by
  refine Con.of [some (.int (J p1))] (by decide +kernel) rfl rfl (Nat.le_of_ble_eq_true rfl) (fun K g => ?_)
  have g0 := g.wk
  unfold f_X10_isLine at h
  refine r_iload_n g0 dX10_isLine_0 rfl ?_
  refine r_iconst g0 dX10_isLine_1 ?_
  refine r_iconst g0 dX10_isLine_2 ?_
  obtain ⟨r_1, s_1, hr_1, h⟩ := bd_some h
  refine r_cSZ g0 (rest := []) (c_X10_within i_p1 (B01.inR B01_0) (InR_lit rfl) hr_1) ok_X10_within mX10_113 dX10_isLine_3 ⟨Nat.le_of_ble_eq_true rfl, Nat.le_of_ble_eq_true rfl⟩ ⟨Nat.zero_le _, Nat.zero_le _⟩ rfl (Nat.le_of_ble_eq_true rfl) rfl (fun i_r_1 => ?_)
  exact z_Z g dX10_isLine_6 i_r_1 h
theorem dX5_has_0 : decode cX5_has 0 = .ok (.iload_n 1, 1) := by decide +kernel
theorem dX5_has_1 : decode cX5_has 1 = .ok (.ifCond .lt 24, 3) := by decide +kernel
theorem dX5_has_4 : decode cX5_has 4 = .ok (.iload_n 1, 1) := by decide +kernel
theorem dX5_has_5 : decode cX5_has 5 = .ok (.aload_n 0, 1) := by decide +kernel
theorem dX5_has_6 : decode cX5_has 6 = .ok (.getfield 18, 3) := by decide +kernel
theorem dX5_has_9 : decode cX5_has 9 = .ok (.if_icmp .ge 16, 3) := by decide +kernel
theorem dX5_has_12 : decode cX5_has 12 = .ok (.aload_n 0, 1) := by decide +kernel
theorem dX5_has_13 : decode cX5_has 13 = .ok (.getfield 18, 3) := by decide +kernel
theorem dX5_has_16 : decode cX5_has 16 = .ok (.bipush 10, 2) := by decide +kernel
theorem dX5_has_18 : decode cX5_has 18 = .ok (.if_icmp .gt 7, 3) := by decide +kernel
theorem dX5_has_21 : decode cX5_has 21 = .ok (.iconst 1, 1) := by decide +kernel
theorem dX5_has_22 : decode cX5_has 22 = .ok (.goto 4, 3) := by decide +kernel
theorem dX5_has_25 : decode cX5_has 25 = .ok (.iconst 0, 1) := by decide +kernel
theorem dX5_has_26 : decode cX5_has 26 = .ok (.ireturn, 1) := by decide +kernel
set_option maxHeartbeats 4000000 in
set_option maxRecDepth 100000 in
theorem c_X5_has {E : u_E} {l : Launch} {o : u_O} {p1 : Int} (ho : is_Line o) (i_p1 : InR p1) {s s' : u_S} {r : Int} (h : f_X5_has o p1 s = some (r, s')) : Con l (XE E) yX5_has cX5_has 2 (some .boolean) 0 0 0 0 [.ref (E.1 o), .int (J p1)] (Wd E s) (RZ E r s') := by
  refine Con.of [some (.ref (E.1 o)), some (.int (J p1))] (by decide +kernel) rfl rfl (Nat.le_of_ble_eq_true rfl) (fun K g => ?_)
  have g0 := g.wk
  unfold f_X5_has at h
  refine r_iload_n g0 dX5_has_0 rfl ?_
  refine r_if_lt g0 25 dX5_has_1 (by decide) i_p1 (fun hc => ?_) (fun hc => ?_)
  · replace h := if_t hc h
    refine r_iconst g0 dX5_has_25 ?_
    exact z_Z g dX5_has_26 B01_0 h
  · replace h := if_f hc h
    refine r_iload_n g0 dX5_has_4 rfl ?_
    refine r_aload_n g0 dX5_has_5 rfl ?_
    refine g_Line_count g0 ho qX5_18 dX5_has_6 ?_
    refine r_icmp_ge g0 25 dX5_has_9 (by decide) i_p1 (InR_rd _ _ _) (fun hc => ?_) (fun hc => ?_)
    · replace h := if_f hc h
      refine r_iconst g0 dX5_has_25 ?_
      exact z_Z g dX5_has_26 B01_0 h
    · replace h := if_t hc h
      refine r_aload_n g0 dX5_has_12 rfl ?_
      refine g_Line_count g0 ho qX5_18 dX5_has_13 ?_
      refine r_bipush g0 dX5_has_16 rfl ?_
      refine r_icmp_gt g0 25 dX5_has_18 (by decide) (InR_rd _ _ _) (InR_lit rfl) (fun hc => ?_) (fun hc => ?_)
      · replace h := if_f hc h
        refine r_iconst g0 dX5_has_25 ?_
        exact z_Z g dX5_has_26 B01_0 h
      · replace h := if_t hc h
        refine r_iconst g0 dX5_has_21 ?_
        refine r_goto g0 26 dX5_has_22 (by decide) ?_
        exact z_Z g dX5_has_26 B01_1 h
theorem dJ9_floorMod_7cf53_0 : decode cJ9_floorMod_7cf53 0 = .ok (.iload_n 0, 1) := by decide +kernel
theorem dJ9_floorMod_7cf53_1 : decode cJ9_floorMod_7cf53 1 = .ok (.iload_n 1, 1) := by decide +kernel
theorem dJ9_floorMod_7cf53_2 : decode cJ9_floorMod_7cf53 2 = .ok (.irem, 1) := by decide +kernel
theorem dJ9_floorMod_7cf53_3 : decode cJ9_floorMod_7cf53 3 = .ok (.istore_n 2, 1) := by decide +kernel
theorem dJ9_floorMod_7cf53_4 : decode cJ9_floorMod_7cf53 4 = .ok (.iload_n 0, 1) := by decide +kernel
theorem dJ9_floorMod_7cf53_5 : decode cJ9_floorMod_7cf53 5 = .ok (.iload_n 1, 1) := by decide +kernel
theorem dJ9_floorMod_7cf53_6 : decode cJ9_floorMod_7cf53 6 = .ok (.ixor, 1) := by decide +kernel
theorem dJ9_floorMod_7cf53_7 : decode cJ9_floorMod_7cf53 7 = .ok (.ifCond .ge 11, 3) := by decide +kernel
theorem dJ9_floorMod_7cf53_10 : decode cJ9_floorMod_7cf53 10 = .ok (.iload_n 2, 1) := by decide +kernel
theorem dJ9_floorMod_7cf53_11 : decode cJ9_floorMod_7cf53 11 = .ok (.ifCond .eq 7, 3) := by decide +kernel
theorem dJ9_floorMod_7cf53_14 : decode cJ9_floorMod_7cf53 14 = .ok (.iload_n 2, 1) := by decide +kernel
theorem dJ9_floorMod_7cf53_15 : decode cJ9_floorMod_7cf53 15 = .ok (.iload_n 1, 1) := by decide +kernel
theorem dJ9_floorMod_7cf53_16 : decode cJ9_floorMod_7cf53 16 = .ok (.iadd, 1) := by decide +kernel
theorem dJ9_floorMod_7cf53_17 : decode cJ9_floorMod_7cf53 17 = .ok (.ireturn, 1) := by decide +kernel
theorem dJ9_floorMod_7cf53_18 : decode cJ9_floorMod_7cf53 18 = .ok (.iload_n 2, 1) := by decide +kernel
theorem dJ9_floorMod_7cf53_19 : decode cJ9_floorMod_7cf53 19 = .ok (.ireturn, 1) := by decide +kernel
set_option maxHeartbeats 4000000 in
set_option maxRecDepth 100000 in
theorem c_J9_floorMod_7cf53 {E : u_E} {l : Launch} {p1 : Int} {p2 : Int} (i_p1 : InR p1) (i_p2 : InR p2) {s s' : u_S} {r : Int} (h : f_J9_floorMod_7cf53 p1 p2 s = some (r, s')) : Con l (XE E) yJ9_floorMod_7cf53 cJ9_floorMod_7cf53 3 (some .int) 0 0 0 0 [.int (J p1), .int (J p2)] (Wd E s) (RI E r s') := by
  refine Con.ofF [some (.int (J p1)), some (.int (J p2)), none] (by decide +kernel) rfl rfl (Nat.le_of_ble_eq_true rfl) (fun K g => ?_)
  have g0 := g.wk
  unfold f_J9_floorMod_7cf53 at h
  refine r_iload_n g0 dJ9_floorMod_7cf53_0 rfl ?_
  refine r_iload_n g0 dJ9_floorMod_7cf53_1 rfl ?_
  obtain ⟨hne, h⟩ := nz_some h
  refine r_irem g0 dJ9_floorMod_7cf53_2 i_p1 i_p2 hne ?_
  refine r_istore_n g0 (lv' := [some (.int (J p1)), some (.int (J p2)), some (.int (J (Int.tmod p1 p2)))]) dJ9_floorMod_7cf53_3 (by decide) rfl rfl ?_
  refine r_iload_n g0 dJ9_floorMod_7cf53_4 rfl ?_
  refine r_iload_n g0 dJ9_floorMod_7cf53_5 rfl ?_
  refine r_ixor g0 dJ9_floorMod_7cf53_6 ?_
  refine r_if_ge g0 18 dJ9_floorMod_7cf53_7 (by decide) (InR_to _) (fun hc => ?_) (fun hc => ?_)
  · replace h := if_f hc h
    refine r_iload_n g0 dJ9_floorMod_7cf53_18 rfl ?_
    exact z_I g dJ9_floorMod_7cf53_19 (InR_rem _ i_p1) h
  · replace h := if_t hc h
    refine r_iload_n g0 dJ9_floorMod_7cf53_10 rfl ?_
    refine r_if_eq g0 18 dJ9_floorMod_7cf53_11 (by decide) (InR_rem _ i_p1) (fun hc => ?_) (fun hc => ?_)
    · replace h := if_t hc h
      refine r_iload_n g0 dJ9_floorMod_7cf53_18 rfl ?_
      exact z_I g dJ9_floorMod_7cf53_19 (InR_rem _ i_p1) h
    · replace h := if_f hc h
      refine r_iload_n g0 dJ9_floorMod_7cf53_14 rfl ?_
      refine r_iload_n g0 dJ9_floorMod_7cf53_15 rfl ?_
      refine r_iadd g0 dJ9_floorMod_7cf53_16 ?_
      exact z_I g dJ9_floorMod_7cf53_17 (InR_wr _) h
theorem dX5_formedStep_0 : decode cX5_formedStep 0 = .ok (.aload_n 0, 1) := by decide +kernel
theorem dX5_formedStep_1 : decode cX5_formedStep 1 = .ok (.iload_n 2, 1) := by decide +kernel
theorem dX5_formedStep_2 : decode cX5_formedStep 2 = .ok (.invokevirtual 26, 3) := by decide +kernel
theorem dX5_formedStep_5 : decode cX5_formedStep 5 = .ok (.ifCond .ne 5, 3) := by decide +kernel
theorem dX5_formedStep_8 : decode cX5_formedStep 8 = .ok (.iconst 0, 1) := by decide +kernel
theorem dX5_formedStep_9 : decode cX5_formedStep 9 = .ok (.ireturn, 1) := by decide +kernel
theorem dX5_formedStep_10 : decode cX5_formedStep 10 = .ok (.iload_n 1, 1) := by decide +kernel
theorem dX5_formedStep_11 : decode cX5_formedStep 11 = .ok (.iconst 3, 1) := by decide +kernel
theorem dX5_formedStep_12 : decode cX5_formedStep 12 = .ok (.if_icmp .ne 17, 3) := by decide +kernel
theorem dX5_formedStep_15 : decode cX5_formedStep 15 = .ok (.aload_n 0, 1) := by decide +kernel
theorem dX5_formedStep_16 : decode cX5_formedStep 16 = .ok (.getfield 9, 3) := by decide +kernel
theorem dX5_formedStep_19 : decode cX5_formedStep 19 = .ok (.aload_n 0, 1) := by decide +kernel
theorem dX5_formedStep_20 : decode cX5_formedStep 20 = .ok (.getfield 18, 3) := by decide +kernel
theorem dX5_formedStep_23 : decode cX5_formedStep 23 = .ok (.iconst 1, 1) := by decide +kernel
theorem dX5_formedStep_24 : decode cX5_formedStep 24 = .ok (.isub, 1) := by decide +kernel
theorem dX5_formedStep_25 : decode cX5_formedStep 25 = .ok (.iload_n 2, 1) := by decide +kernel
theorem dX5_formedStep_26 : decode cX5_formedStep 26 = .ok (.isub, 1) := by decide +kernel
theorem dX5_formedStep_27 : decode cX5_formedStep 27 = .ok (.iaload, 1) := by decide +kernel
theorem dX5_formedStep_28 : decode cX5_formedStep 28 = .ok (.ireturn, 1) := by decide +kernel
theorem dX5_formedStep_29 : decode cX5_formedStep 29 = .ok (.iload_n 1, 1) := by decide +kernel
theorem dX5_formedStep_30 : decode cX5_formedStep 30 = .ok (.iconst 2, 1) := by decide +kernel
theorem dX5_formedStep_31 : decode cX5_formedStep 31 = .ok (.if_icmp .ne 19, 3) := by decide +kernel
theorem dX5_formedStep_34 : decode cX5_formedStep 34 = .ok (.iconst 2, 1) := by decide +kernel
theorem dX5_formedStep_35 : decode cX5_formedStep 35 = .ok (.aload_n 0, 1) := by decide +kernel
theorem dX5_formedStep_36 : decode cX5_formedStep 36 = .ok (.getfield 9, 3) := by decide +kernel
theorem dX5_formedStep_39 : decode cX5_formedStep 39 = .ok (.iconst 0, 1) := by decide +kernel
theorem dX5_formedStep_40 : decode cX5_formedStep 40 = .ok (.iaload, 1) := by decide +kernel
theorem dX5_formedStep_41 : decode cX5_formedStep 41 = .ok (.imul, 1) := by decide +kernel
theorem dX5_formedStep_42 : decode cX5_formedStep 42 = .ok (.aload_n 0, 1) := by decide +kernel
theorem dX5_formedStep_43 : decode cX5_formedStep 43 = .ok (.getfield 9, 3) := by decide +kernel
theorem dX5_formedStep_46 : decode cX5_formedStep 46 = .ok (.iload_n 2, 1) := by decide +kernel
theorem dX5_formedStep_47 : decode cX5_formedStep 47 = .ok (.iaload, 1) := by decide +kernel
theorem dX5_formedStep_48 : decode cX5_formedStep 48 = .ok (.isub, 1) := by decide +kernel
theorem dX5_formedStep_49 : decode cX5_formedStep 49 = .ok (.ireturn, 1) := by decide +kernel
theorem dX5_formedStep_50 : decode cX5_formedStep 50 = .ok (.iload_n 1, 1) := by decide +kernel
theorem dX5_formedStep_51 : decode cX5_formedStep 51 = .ok (.iconst 1, 1) := by decide +kernel
theorem dX5_formedStep_52 : decode cX5_formedStep 52 = .ok (.if_icmp .eq 10, 3) := by decide +kernel
theorem dX5_formedStep_55 : decode cX5_formedStep 55 = .ok (.aload_n 0, 1) := by decide +kernel
theorem dX5_formedStep_56 : decode cX5_formedStep 56 = .ok (.getfield 9, 3) := by decide +kernel
theorem dX5_formedStep_59 : decode cX5_formedStep 59 = .ok (.iload_n 2, 1) := by decide +kernel
theorem dX5_formedStep_60 : decode cX5_formedStep 60 = .ok (.iaload, 1) := by decide +kernel
theorem dX5_formedStep_61 : decode cX5_formedStep 61 = .ok (.ireturn, 1) := by decide +kernel
theorem dX5_formedStep_62 : decode cX5_formedStep 62 = .ok (.iload_n 2, 1) := by decide +kernel
theorem dX5_formedStep_63 : decode cX5_formedStep 63 = .ok (.iload_n 3, 1) := by decide +kernel
theorem dX5_formedStep_64 : decode cX5_formedStep 64 = .ok (.if_icmp .ge 25, 3) := by decide +kernel
theorem dX5_formedStep_67 : decode cX5_formedStep 67 = .ok (.aload_n 0, 1) := by decide +kernel
theorem dX5_formedStep_68 : decode cX5_formedStep 68 = .ok (.getfield 9, 3) := by decide +kernel
theorem dX5_formedStep_71 : decode cX5_formedStep 71 = .ok (.iload_n 2, 1) := by decide +kernel
theorem dX5_formedStep_72 : decode cX5_formedStep 72 = .ok (.iaload, 1) := by decide +kernel
theorem dX5_formedStep_73 : decode cX5_formedStep 73 = .ok (.iload 4, 2) := by decide +kernel
theorem dX5_formedStep_75 : decode cX5_formedStep 75 = .ok (.isub, 1) := by decide +kernel
theorem dX5_formedStep_76 : decode cX5_formedStep 76 = .ok (.bipush 7, 2) := by decide +kernel
theorem dX5_formedStep_78 : decode cX5_formedStep 78 = .ok (.invokestatic 49, 3) := by decide +kernel
theorem dX5_formedStep_81 : decode cX5_formedStep 81 = .ok (.iconst 4, 1) := by decide +kernel
theorem dX5_formedStep_82 : decode cX5_formedStep 82 = .ok (.if_icmp .ne 7, 3) := by decide +kernel
theorem dX5_formedStep_85 : decode cX5_formedStep 85 = .ok (.iconst 1, 1) := by decide +kernel
theorem dX5_formedStep_86 : decode cX5_formedStep 86 = .ok (.goto 4, 3) := by decide +kernel
theorem dX5_formedStep_89 : decode cX5_formedStep 89 = .ok (.iconst 0, 1) := by decide +kernel
theorem dX5_formedStep_90 : decode cX5_formedStep 90 = .ok (.istore 5, 2) := by decide +kernel
theorem dX5_formedStep_92 : decode cX5_formedStep 92 = .ok (.aload_n 0, 1) := by decide +kernel
theorem dX5_formedStep_93 : decode cX5_formedStep 93 = .ok (.getfield 9, 3) := by decide +kernel
theorem dX5_formedStep_96 : decode cX5_formedStep 96 = .ok (.iload_n 2, 1) := by decide +kernel
theorem dX5_formedStep_97 : decode cX5_formedStep 97 = .ok (.iaload, 1) := by decide +kernel
theorem dX5_formedStep_98 : decode cX5_formedStep 98 = .ok (.iload 5, 2) := by decide +kernel
theorem dX5_formedStep_100 : decode cX5_formedStep 100 = .ok (.ifCond .eq 7, 3) := by decide +kernel
theorem dX5_formedStep_103 : decode cX5_formedStep 103 = .ok (.iconst 3, 1) := by decide +kernel
theorem dX5_formedStep_104 : decode cX5_formedStep 104 = .ok (.goto 4, 3) := by decide +kernel
theorem dX5_formedStep_107 : decode cX5_formedStep 107 = .ok (.iconst 4, 1) := by decide +kernel
theorem dX5_formedStep_108 : decode cX5_formedStep 108 = .ok (.iadd, 1) := by decide +kernel
theorem dX5_formedStep_109 : decode cX5_formedStep 109 = .ok (.ireturn, 1) := by decide +kernel
set_option maxHeartbeats 4000000 in
set_option maxRecDepth 100000 in
theorem c_X5_formedStep {E : u_E} {l : Launch} {o : u_O} {p1 : Int} {p2 : Int} {p3 : Int} {p4 : Int} (ho : is_Line o) (i_p1 : InR p1) (i_p2 : InR p2) (i_p3 : InR p3) (i_p4 : InR p4) {s s' : u_S} {r : Int} (h : f_X5_formedStep o p1 p2 p3 p4 s = some (r, s')) : Con l (XE E) yX5_formedStep cX5_formedStep 6 (some .int) 1 22 0 0 [.ref (E.1 o), .int (J p1), .int (J p2), .int (J p3), .int (J p4)] (Wd E s) (RI E r s') := by
  refine Con.of [some (.ref (E.1 o)), some (.int (J p1)), some (.int (J p2)), some (.int (J p3)), some (.int (J p4)), none] (by decide +kernel) rfl rfl (Nat.le_of_ble_eq_true rfl) (fun K g => ?_)
  have g0 := g.wk
  unfold f_X5_formedStep at h
  refine r_aload_n g0 dX5_formedStep_0 rfl ?_
  refine r_iload_n g0 dX5_formedStep_1 rfl ?_
  obtain ⟨r_1, s_1, hr_1, h⟩ := bd_some h
  refine r_cVZ g0 (rest := []) (c_X5_has ho i_p2 hr_1) ok_X5_has mX5_26 (recv_Line ho) dX5_formedStep_2 ⟨Nat.le_of_ble_eq_true rfl, Nat.le_of_ble_eq_true rfl⟩ ⟨Nat.zero_le _, Nat.zero_le _⟩ rfl (Nat.le_of_ble_eq_true rfl) rfl (fun i_r_1 => ?_)
  refine r_if_ne g0 10 dX5_formedStep_5 (by decide) (B01.inR i_r_1) (fun hc => ?_) (fun hc => ?_)
  · replace h := if_f hc h
    refine r_iload_n g0 dX5_formedStep_10 rfl ?_
    refine r_iconst g0 dX5_formedStep_11 ?_
    refine r_icmp_ne g0 29 dX5_formedStep_12 (by decide) i_p1 (InR_lit rfl) (fun hc => ?_) (fun hc => ?_)
    · replace h := if_f hc h
      refine r_iload_n g0 dX5_formedStep_29 rfl ?_
      refine r_iconst g0 dX5_formedStep_30 ?_
      refine r_icmp_ne g0 50 dX5_formedStep_31 (by decide) i_p1 (InR_lit rfl) (fun hc => ?_) (fun hc => ?_)
      · replace h := if_f hc h
        refine r_iload_n g0 dX5_formedStep_50 rfl ?_
        refine r_iconst g0 dX5_formedStep_51 ?_
        refine r_icmp_eq g0 62 dX5_formedStep_52 (by decide) i_p1 (B01.inR B01_1) (fun hc => ?_) (fun hc => ?_)
        · replace h := if_t hc h
          refine r_iload_n g0 dX5_formedStep_62 rfl ?_
          refine r_iload_n g0 dX5_formedStep_63 rfl ?_
          obtain ⟨jp_1, hdjp_1, h⟩ := jn_some h
          have hjp_1 : ∀ (vt_1 : Int) (s_2 : u_S), B01 vt_1 → jp_1 vt_1 s_2 = some (r, s') → K 0 0 90 [some (.ref (E.1 o)), none, some (.int (J p2)), none, none, none] [.int (J vt_1)] (Wd E s_2) := by
            intro vt_1 s_2 i_vt_1 h
            subst hdjp_1
            refine r_istore g0 (lv' := [some (.ref (E.1 o)), none, some (.int (J p2)), none, none, some (.int (J vt_1))]) dX5_formedStep_90 (by decide) rfl rfl ?_
            refine r_aload_n g0 dX5_formedStep_92 rfl ?_
            refine g_Line_steps g0 ho qX5_9 dX5_formedStep_93 ?_
            refine r_iload_n g0 dX5_formedStep_96 rfl ?_
            obtain ⟨hb, h⟩ := gd_some h
            refine r_iaload g0 (is_a_Line_steps ho) (n := 10) rfl i_p2 hb dX5_formedStep_97 ?_
            refine r_iload g0 dX5_formedStep_98 rfl ?_
            obtain ⟨jp_2, hdjp_2, h⟩ := jn_some h
            have hjp_2 : ∀ (vt_2 : Int) (vt_3 : Int) (s_3 : u_S), InR vt_2 → InR vt_3 → jp_2 vt_2 vt_3 s_3 = some (r, s') → K 0 0 108 [none, none, none, none, none, none] [.int (J vt_3), .int (J vt_2)] (Wd E s_3) := by
              intro vt_2 vt_3 s_3 i_vt_2 i_vt_3 h
              subst hdjp_2
              refine r_iadd g0 dX5_formedStep_108 ?_
              exact z_I g dX5_formedStep_109 (InR_wr _) h
            clear hdjp_2
            refine r_if_eq g0 107 dX5_formedStep_100 (by decide) (B01.inR i_vt_1) (fun hc => ?_) (fun hc => ?_)
            · replace h := if_t hc h
              refine r_iconst g0 dX5_formedStep_107 ?_
              refine r_mask g0 (lv' := [none, none, none, none, none, none]) [false, false, false, false, false, false] rfl ?_
              exact hjp_2 (rd s_2 (a_Line_steps o) p2) 4 s_2 (InR_rd _ _ _) (InR_lit rfl) h
            · replace h := if_f hc h
              refine r_iconst g0 dX5_formedStep_103 ?_
              refine r_goto g0 108 dX5_formedStep_104 (by decide) ?_
              refine r_mask g0 (lv' := [none, none, none, none, none, none]) [false, false, false, false, false, false] rfl ?_
              exact hjp_2 (rd s_2 (a_Line_steps o) p2) 3 s_2 (InR_rd _ _ _) (InR_lit rfl) h
          clear hdjp_1
          obtain ⟨jp_3, hdjp_3, h⟩ := jn_some h
          have hjp_3 : ∀  (s_4 : u_S), jp_3 s_4 = some (r, s') → K 0 0 89 [some (.ref (E.1 o)), none, some (.int (J p2)), none, none, none] [] (Wd E s_4) := by
            intro s_4 h
            subst hdjp_3
            refine r_iconst g0 dX5_formedStep_89 ?_
            exact hjp_1 0 s_4 B01_0 h
          clear hdjp_3
          refine r_icmp_ge g0 89 dX5_formedStep_64 (by decide) i_p2 i_p3 (fun hc => ?_) (fun hc => ?_)
          · replace h := if_f hc h
            refine r_mask g0 (lv' := [some (.ref (E.1 o)), none, some (.int (J p2)), none, none, none]) [true, false, true, false, false, false] rfl ?_
            exact hjp_3 s_1 h
          · replace h := if_t hc h
            refine r_aload_n g0 dX5_formedStep_67 rfl ?_
            refine g_Line_steps g0 ho qX5_9 dX5_formedStep_68 ?_
            refine r_iload_n g0 dX5_formedStep_71 rfl ?_
            obtain ⟨hb, h⟩ := gd_some h
            refine r_iaload g0 (is_a_Line_steps ho) (n := 10) rfl i_p2 hb dX5_formedStep_72 ?_
            refine r_iload g0 dX5_formedStep_73 rfl ?_
            refine r_isub g0 dX5_formedStep_75 ?_
            refine r_bipush g0 dX5_formedStep_76 rfl ?_
            obtain ⟨r_2, s_5, hr_2, h⟩ := bd_some h
            refine r_cSI g0 (rest := []) (c_J9_floorMod_7cf53 (InR_wr _) (InR_lit rfl) hr_2) ok_J9_floorMod_7cf53 mX5_49 dX5_formedStep_78 ⟨Nat.le_of_ble_eq_true rfl, Nat.le_of_ble_eq_true rfl⟩ ⟨Nat.zero_le _, Nat.zero_le _⟩ rfl (Nat.le_of_ble_eq_true rfl) rfl (fun i_r_2 => ?_)
            refine r_iconst g0 dX5_formedStep_81 ?_
            refine r_icmp_ne g0 89 dX5_formedStep_82 (by decide) i_r_2 (InR_lit rfl) (fun hc => ?_) (fun hc => ?_)
            · replace h := if_f hc h
              refine r_mask g0 (lv' := [some (.ref (E.1 o)), none, some (.int (J p2)), none, none, none]) [true, false, true, false, false, false] rfl ?_
              exact hjp_3 s_5 h
            · replace h := if_t hc h
              refine r_iconst g0 dX5_formedStep_85 ?_
              refine r_goto g0 90 dX5_formedStep_86 (by decide) ?_
              refine r_mask g0 (lv' := [some (.ref (E.1 o)), none, some (.int (J p2)), none, none, none]) [true, false, true, false, false, false] rfl ?_
              exact hjp_1 1 s_5 B01_1 h
        · replace h := if_f hc h
          refine r_aload_n g0 dX5_formedStep_55 rfl ?_
          refine g_Line_steps g0 ho qX5_9 dX5_formedStep_56 ?_
          refine r_iload_n g0 dX5_formedStep_59 rfl ?_
          obtain ⟨hb, h⟩ := gd_some h
          refine r_iaload g0 (is_a_Line_steps ho) (n := 10) rfl i_p2 hb dX5_formedStep_60 ?_
          exact z_I g dX5_formedStep_61 (InR_rd _ _ _) h
      · replace h := if_t hc h
        refine r_iconst g0 dX5_formedStep_34 ?_
        refine r_aload_n g0 dX5_formedStep_35 rfl ?_
        refine g_Line_steps g0 ho qX5_9 dX5_formedStep_36 ?_
        refine r_iconst g0 dX5_formedStep_39 ?_
        obtain ⟨hb, h⟩ := gd_some h
        refine r_iaload g0 (is_a_Line_steps ho) (n := 10) rfl (B01.inR B01_0) hb dX5_formedStep_40 ?_
        refine r_imul g0 dX5_formedStep_41 ?_
        refine r_aload_n g0 dX5_formedStep_42 rfl ?_
        refine g_Line_steps g0 ho qX5_9 dX5_formedStep_43 ?_
        refine r_iload_n g0 dX5_formedStep_46 rfl ?_
        obtain ⟨hb, h⟩ := gd_some h
        refine r_iaload g0 (is_a_Line_steps ho) (n := 10) rfl i_p2 hb dX5_formedStep_47 ?_
        refine r_isub g0 dX5_formedStep_48 ?_
        exact z_I g dX5_formedStep_49 (InR_wr _) h
    · replace h := if_t hc h
      refine r_aload_n g0 dX5_formedStep_15 rfl ?_
      refine g_Line_steps g0 ho qX5_9 dX5_formedStep_16 ?_
      refine r_aload_n g0 dX5_formedStep_19 rfl ?_
      refine g_Line_count g0 ho qX5_18 dX5_formedStep_20 ?_
      refine r_iconst g0 dX5_formedStep_23 ?_
      refine r_isub g0 dX5_formedStep_24 ?_
      refine r_iload_n g0 dX5_formedStep_25 rfl ?_
      refine r_isub g0 dX5_formedStep_26 ?_
      obtain ⟨hb, h⟩ := gd_some h
      refine r_iaload g0 (is_a_Line_steps ho) (n := 10) rfl (InR_wr _) hb dX5_formedStep_27 ?_
      exact z_I g dX5_formedStep_28 (InR_rd _ _ _) h
  · replace h := if_t hc h
    refine r_iconst g0 dX5_formedStep_8 ?_
    exact z_I g dX5_formedStep_9 (B01.inR B01_0) h
theorem dX5_formedTicks_0 : decode cX5_formedTicks 0 = .ok (.aload_n 0, 1) := by decide +kernel
theorem dX5_formedTicks_1 : decode cX5_formedTicks 1 = .ok (.iload_n 2, 1) := by decide +kernel
theorem dX5_formedTicks_2 : decode cX5_formedTicks 2 = .ok (.invokevirtual 26, 3) := by decide +kernel
theorem dX5_formedTicks_5 : decode cX5_formedTicks 5 = .ok (.ifCond .ne 5, 3) := by decide +kernel
theorem dX5_formedTicks_8 : decode cX5_formedTicks 8 = .ok (.iconst 0, 1) := by decide +kernel
theorem dX5_formedTicks_9 : decode cX5_formedTicks 9 = .ok (.ireturn, 1) := by decide +kernel
theorem dX5_formedTicks_10 : decode cX5_formedTicks 10 = .ok (.iload_n 1, 1) := by decide +kernel
theorem dX5_formedTicks_11 : decode cX5_formedTicks 11 = .ok (.iconst 3, 1) := by decide +kernel
theorem dX5_formedTicks_12 : decode cX5_formedTicks 12 = .ok (.if_icmp .ne 17, 3) := by decide +kernel
theorem dX5_formedTicks_15 : decode cX5_formedTicks 15 = .ok (.aload_n 0, 1) := by decide +kernel
theorem dX5_formedTicks_16 : decode cX5_formedTicks 16 = .ok (.getfield 15, 3) := by decide +kernel
theorem dX5_formedTicks_19 : decode cX5_formedTicks 19 = .ok (.aload_n 0, 1) := by decide +kernel
theorem dX5_formedTicks_20 : decode cX5_formedTicks 20 = .ok (.getfield 18, 3) := by decide +kernel
theorem dX5_formedTicks_23 : decode cX5_formedTicks 23 = .ok (.iconst 1, 1) := by decide +kernel
theorem dX5_formedTicks_24 : decode cX5_formedTicks 24 = .ok (.isub, 1) := by decide +kernel
theorem dX5_formedTicks_25 : decode cX5_formedTicks 25 = .ok (.iload_n 2, 1) := by decide +kernel
theorem dX5_formedTicks_26 : decode cX5_formedTicks 26 = .ok (.isub, 1) := by decide +kernel
theorem dX5_formedTicks_27 : decode cX5_formedTicks 27 = .ok (.iaload, 1) := by decide +kernel
theorem dX5_formedTicks_28 : decode cX5_formedTicks 28 = .ok (.ireturn, 1) := by decide +kernel
theorem dX5_formedTicks_29 : decode cX5_formedTicks 29 = .ok (.iload_n 1, 1) := by decide +kernel
theorem dX5_formedTicks_30 : decode cX5_formedTicks 30 = .ok (.iconst 4, 1) := by decide +kernel
theorem dX5_formedTicks_31 : decode cX5_formedTicks 31 = .ok (.if_icmp .ne 14, 3) := by decide +kernel
theorem dX5_formedTicks_34 : decode cX5_formedTicks 34 = .ok (.iconst 2, 1) := by decide +kernel
theorem dX5_formedTicks_35 : decode cX5_formedTicks 35 = .ok (.aload_n 0, 1) := by decide +kernel
theorem dX5_formedTicks_36 : decode cX5_formedTicks 36 = .ok (.getfield 15, 3) := by decide +kernel
theorem dX5_formedTicks_39 : decode cX5_formedTicks 39 = .ok (.iload_n 2, 1) := by decide +kernel
theorem dX5_formedTicks_40 : decode cX5_formedTicks 40 = .ok (.iaload, 1) := by decide +kernel
theorem dX5_formedTicks_41 : decode cX5_formedTicks 41 = .ok (.imul, 1) := by decide +kernel
theorem dX5_formedTicks_42 : decode cX5_formedTicks 42 = .ok (.goto 9, 3) := by decide +kernel
theorem dX5_formedTicks_45 : decode cX5_formedTicks 45 = .ok (.aload_n 0, 1) := by decide +kernel
theorem dX5_formedTicks_46 : decode cX5_formedTicks 46 = .ok (.getfield 15, 3) := by decide +kernel
theorem dX5_formedTicks_49 : decode cX5_formedTicks 49 = .ok (.iload_n 2, 1) := by decide +kernel
theorem dX5_formedTicks_50 : decode cX5_formedTicks 50 = .ok (.iaload, 1) := by decide +kernel
theorem dX5_formedTicks_51 : decode cX5_formedTicks 51 = .ok (.ireturn, 1) := by decide +kernel
set_option maxHeartbeats 4000000 in
set_option maxRecDepth 100000 in
theorem c_X5_formedTicks {E : u_E} {l : Launch} {o : u_O} {p1 : Int} {p2 : Int} (ho : is_Line o) (i_p1 : InR p1) (i_p2 : InR p2) {s s' : u_S} {r : Int} (h : f_X5_formedTicks o p1 p2 s = some (r, s')) : Con l (XE E) yX5_formedTicks cX5_formedTicks 3 (some .int) 1 21 0 0 [.ref (E.1 o), .int (J p1), .int (J p2)] (Wd E s) (RI E r s') := by
  refine Con.of [some (.ref (E.1 o)), some (.int (J p1)), some (.int (J p2))] (by decide +kernel) rfl rfl (Nat.le_of_ble_eq_true rfl) (fun K g => ?_)
  have g0 := g.wk
  unfold f_X5_formedTicks at h
  refine r_aload_n g0 dX5_formedTicks_0 rfl ?_
  refine r_iload_n g0 dX5_formedTicks_1 rfl ?_
  obtain ⟨r_1, s_1, hr_1, h⟩ := bd_some h
  refine r_cVZ g0 (rest := []) (c_X5_has ho i_p2 hr_1) ok_X5_has mX5_26 (recv_Line ho) dX5_formedTicks_2 ⟨Nat.le_of_ble_eq_true rfl, Nat.le_of_ble_eq_true rfl⟩ ⟨Nat.zero_le _, Nat.zero_le _⟩ rfl (Nat.le_of_ble_eq_true rfl) rfl (fun i_r_1 => ?_)
  refine r_if_ne g0 10 dX5_formedTicks_5 (by decide) (B01.inR i_r_1) (fun hc => ?_) (fun hc => ?_)
  · replace h := if_f hc h
    refine r_iload_n g0 dX5_formedTicks_10 rfl ?_
    refine r_iconst g0 dX5_formedTicks_11 ?_
    refine r_icmp_ne g0 29 dX5_formedTicks_12 (by decide) i_p1 (InR_lit rfl) (fun hc => ?_) (fun hc => ?_)
    · replace h := if_f hc h
      refine r_iload_n g0 dX5_formedTicks_29 rfl ?_
      refine r_iconst g0 dX5_formedTicks_30 ?_
      refine r_icmp_ne g0 45 dX5_formedTicks_31 (by decide) i_p1 (InR_lit rfl) (fun hc => ?_) (fun hc => ?_)
      · replace h := if_f hc h
        refine r_aload_n g0 dX5_formedTicks_45 rfl ?_
        refine g_Line_ticks g0 ho qX5_15 dX5_formedTicks_46 ?_
        refine r_iload_n g0 dX5_formedTicks_49 rfl ?_
        obtain ⟨hb, h⟩ := gd_some h
        refine r_iaload g0 (is_a_Line_ticks ho) (n := 10) rfl i_p2 hb dX5_formedTicks_50 ?_
        exact z_I g dX5_formedTicks_51 (InR_rd _ _ _) h
      · replace h := if_t hc h
        refine r_iconst g0 dX5_formedTicks_34 ?_
        refine r_aload_n g0 dX5_formedTicks_35 rfl ?_
        refine g_Line_ticks g0 ho qX5_15 dX5_formedTicks_36 ?_
        refine r_iload_n g0 dX5_formedTicks_39 rfl ?_
        obtain ⟨hb, h⟩ := gd_some h
        refine r_iaload g0 (is_a_Line_ticks ho) (n := 10) rfl i_p2 hb dX5_formedTicks_40 ?_
        refine r_imul g0 dX5_formedTicks_41 ?_
        refine r_goto g0 51 dX5_formedTicks_42 (by decide) ?_
        exact z_I g dX5_formedTicks_51 (InR_wr _) h
    · replace h := if_t hc h
      refine r_aload_n g0 dX5_formedTicks_15 rfl ?_
      refine g_Line_ticks g0 ho qX5_15 dX5_formedTicks_16 ?_
      refine r_aload_n g0 dX5_formedTicks_19 rfl ?_
      refine g_Line_count g0 ho qX5_18 dX5_formedTicks_20 ?_
      refine r_iconst g0 dX5_formedTicks_23 ?_
      refine r_isub g0 dX5_formedTicks_24 ?_
      refine r_iload_n g0 dX5_formedTicks_25 rfl ?_
      refine r_isub g0 dX5_formedTicks_26 ?_
      obtain ⟨hb, h⟩ := gd_some h
      refine r_iaload g0 (is_a_Line_ticks ho) (n := 10) rfl (InR_wr _) hb dX5_formedTicks_27 ?_
      exact z_I g dX5_formedTicks_28 (InR_rd _ _ _) h
  · replace h := if_t hc h
    refine r_iconst g0 dX5_formedTicks_8 ?_
    exact z_I g dX5_formedTicks_9 (B01.inR B01_0) h
theorem dX8_append_0 : decode cX8_append 0 = .ok (.iconst 0, 1) := by decide +kernel
theorem dX8_append_1 : decode cX8_append 1 = .ok (.istore_n 3, 1) := by decide +kernel
theorem dX8_append_2 : decode cX8_append 2 = .ok (.iload_n 3, 1) := by decide +kernel
theorem dX8_append_3 : decode cX8_append 3 = .ok (.iload_n 2, 1) := by decide +kernel
theorem dX8_append_4 : decode cX8_append 4 = .ok (.if_icmp .ge 38, 3) := by decide +kernel
theorem dX8_append_7 : decode cX8_append 7 = .ok (.aload_n 0, 1) := by decide +kernel
theorem dX8_append_8 : decode cX8_append 8 = .ok (.getfield 15, 3) := by decide +kernel
theorem dX8_append_11 : decode cX8_append 11 = .ok (.bipush 80, 2) := by decide +kernel
theorem dX8_append_13 : decode cX8_append 13 = .ok (.if_icmp .ge 29, 3) := by decide +kernel
theorem dX8_append_16 : decode cX8_append 16 = .ok (.aload_n 0, 1) := by decide +kernel
theorem dX8_append_17 : decode cX8_append 17 = .ok (.getfield 9, 3) := by decide +kernel
theorem dX8_append_20 : decode cX8_append 20 = .ok (.aload_n 0, 1) := by decide +kernel
theorem dX8_append_21 : decode cX8_append 21 = .ok (.getfield 15, 3) := by decide +kernel
theorem dX8_append_24 : decode cX8_append 24 = .ok (.iload_n 1, 1) := by decide +kernel
theorem dX8_append_25 : decode cX8_append 25 = .ok (.iastore, 1) := by decide +kernel
theorem dX8_append_26 : decode cX8_append 26 = .ok (.aload_n 0, 1) := by decide +kernel
theorem dX8_append_27 : decode cX8_append 27 = .ok (.dup, 1) := by decide +kernel
theorem dX8_append_28 : decode cX8_append 28 = .ok (.getfield 15, 3) := by decide +kernel
theorem dX8_append_31 : decode cX8_append 31 = .ok (.iconst 1, 1) := by decide +kernel
theorem dX8_append_32 : decode cX8_append 32 = .ok (.iadd, 1) := by decide +kernel
theorem dX8_append_33 : decode cX8_append 33 = .ok (.putfield 15, 3) := by decide +kernel
theorem dX8_append_36 : decode cX8_append 36 = .ok (.iinc 3 1, 3) := by decide +kernel
theorem dX8_append_39 : decode cX8_append 39 = .ok (.goto (-37), 3) := by decide +kernel
theorem dX8_append_42 : decode cX8_append 42 = .ok (.return_, 1) := by decide +kernel
set_option maxHeartbeats 4000000 in
set_option maxRecDepth 100000 in
theorem t_X8_append_L2 {l : Launch} {E : u_E} {K : u_K} {r : Int} {s' : u_S} (g : Wk l (XE E) { frames := 0, cells := 0, slots := 0, locals := 0 } cX8_append 4 yX8_append.cls yX8_append.name none (RV E r s') K) {v0_1 : u_O} {v1_1 : Int} {v2_1 : Int} (i_v0_1 : is_Sound v0_1) (i_v1_1 : InR v1_1) (i_v2_1 : InR v2_1) {kx42 : u_S → Option (Int × u_S)} (hkx42 : ∀ (s_3 : u_S), kx42 s_3 = some (r, s') → K 0 0 42 [none, none, none, none] [] (Wd E s_3)) : ∀ (m : Nat) (v3_1 : Int) (s_2 : u_S), InR v3_1 → f_X8_append_L2 m kx42 v0_1 v1_1 v2_1 v3_1 s_2 = some (r, s') → K 0 0 2 [some (.ref (E.1 v0_1)), some (.int (J v1_1)), some (.int (J v2_1)), some (.int (J v3_1))] [] (Wd E s_2) := by
  have g0 := g.wk
  intro m
  induction m with
  | zero =>
    intro v3_1 s_2 i_v3_1 h
    exact absurd (show (none : Option (Int × u_S)) = some (r, s') from h) (by intro z; cases z)
  | succ m ih =>
    intro v3_1 s_2 i_v3_1 h
    rw [f_X8_append_L2] at h
    refine r_iload_n g0 dX8_append_2 rfl ?_
    refine r_iload_n g0 dX8_append_3 rfl ?_
    refine r_icmp_ge g0 42 dX8_append_4 (by decide) i_v3_1 i_v2_1 (fun hc => ?_) (fun hc => ?_)
    · replace h := if_f hc h
      refine r_mask g0 (lv' := [none, none, none, none]) [false, false, false, false] rfl ?_
      exact hkx42 s_2 h
    · replace h := if_t hc h
      refine r_aload_n g0 dX8_append_7 rfl ?_
      refine g_Sound_length g0 i_v0_1 qX8_15 dX8_append_8 ?_
      refine r_bipush g0 dX8_append_11 rfl ?_
      refine r_icmp_ge g0 42 dX8_append_13 (by decide) (InR_rd _ _ _) (InR_lit rfl) (fun hc => ?_) (fun hc => ?_)
      · replace h := if_f hc h
        refine r_mask g0 (lv' := [none, none, none, none]) [false, false, false, false] rfl ?_
        exact hkx42 s_2 h
      · replace h := if_t hc h
        refine r_aload_n g0 dX8_append_16 rfl ?_
        refine g_Sound_steps g0 i_v0_1 qX8_9 dX8_append_17 ?_
        refine r_aload_n g0 dX8_append_20 rfl ?_
        refine g_Sound_length g0 i_v0_1 qX8_15 dX8_append_21 ?_
        refine r_iload_n g0 dX8_append_24 rfl ?_
        obtain ⟨hb, h⟩ := gd_some h
        refine r_iastore g0 (is_a_Sound_steps i_v0_1) (n := 80) rfl (InR_rd _ _ _) hb dX8_append_25 ?_
        refine r_aload_n g0 dX8_append_26 rfl ?_
        refine r_dup g0 dX8_append_27 rfl ?_
        refine g_Sound_length g0 i_v0_1 qX8_15 dX8_append_28 ?_
        refine r_iconst g0 dX8_append_31 ?_
        refine r_iadd g0 dX8_append_32 ?_
        refine p_Sound_length g0 i_v0_1 qX8_15 dX8_append_33 ?_
        refine r_iinc g0 (a := v3_1) (lv' := [some (.ref (E.1 v0_1)), some (.int (J v1_1)), some (.int (J v2_1)), some (.int (J (wr (v3_1 + 1))))]) dX8_append_36 (by decide) rfl rfl rfl ?_
        refine r_goto g0 2 dX8_append_39 (by decide) ?_
        exact ih (wr (v3_1 + 1)) (wt (wt s_2 (a_Sound_steps v0_1) (rd s_2 v0_1 1) v1_1) v0_1 1 (wr ((rd (wt s_2 (a_Sound_steps v0_1) (rd s_2 v0_1 1) v1_1) v0_1 1) + 1))) (InR_wr _) h
set_option maxHeartbeats 4000000 in
set_option maxRecDepth 100000 in
theorem c_X8_append {E : u_E} {l : Launch} {o : u_O} {p1 : Int} {p2 : Int} (ho : is_Sound o) (i_p1 : InR p1) (i_p2 : InR p2) {s s' : u_S} {r : Int} (h : f_X8_append o p1 p2 s = some (r, s')) : Con l (XE E) yX8_append cX8_append 4 none 0 0 0 0 [.ref (E.1 o), .int (J p1), .int (J p2)] (Wd E s) (RV E r s') := by
  refine Con.of [some (.ref (E.1 o)), some (.int (J p1)), some (.int (J p2)), none] (by decide +kernel) rfl rfl (Nat.le_of_ble_eq_true rfl) (fun K g => ?_)
  have g0 := g.wk
  unfold f_X8_append at h
  refine r_iconst g0 dX8_append_0 ?_
  refine r_istore_n g0 (lv' := [some (.ref (E.1 o)), some (.int (J p1)), some (.int (J p2)), some (.int (J 0))]) dX8_append_1 (by decide) rfl rfl ?_
  refine t_X8_append_L2 g ho i_p1 i_p2 ?_ FU 0 s (B01.inR B01_0) h
  · intro s_1 h
    exact z_V g dX8_append_42 h
theorem dX6_form_0 : decode cX6_form 0 = .ok (.aload_n 1, 1) := by decide +kernel
theorem dX6_form_1 : decode cX6_form 1 = .ok (.iconst 0, 1) := by decide +kernel
theorem dX6_form_2 : decode cX6_form 2 = .ok (.putfield 153, 3) := by decide +kernel
theorem dX6_form_5 : decode cX6_form 5 = .ok (.iload_n 2, 1) := by decide +kernel
theorem dX6_form_6 : decode cX6_form 6 = .ok (.invokestatic 52, 3) := by decide +kernel
theorem dX6_form_9 : decode cX6_form 9 = .ok (.ifCond .ne 4, 3) := by decide +kernel
theorem dX6_form_12 : decode cX6_form 12 = .ok (.return_, 1) := by decide +kernel
theorem dX6_form_13 : decode cX6_form 13 = .ok (.aload_n 0, 1) := by decide +kernel
theorem dX6_form_14 : decode cX6_form 14 = .ok (.getfield 11, 3) := by decide +kernel
theorem dX6_form_17 : decode cX6_form 17 = .ok (.iload_n 2, 1) := by decide +kernel
theorem dX6_form_18 : decode cX6_form 18 = .ok (.aaload, 1) := by decide +kernel
theorem dX6_form_19 : decode cX6_form 19 = .ok (.astore 5, 2) := by decide +kernel
theorem dX6_form_21 : decode cX6_form 21 = .ok (.iconst 0, 1) := by decide +kernel
theorem dX6_form_22 : decode cX6_form 22 = .ok (.istore 6, 2) := by decide +kernel
theorem dX6_form_24 : decode cX6_form 24 = .ok (.iload 6, 2) := by decide +kernel
theorem dX6_form_26 : decode cX6_form 26 = .ok (.aload 5, 2) := by decide +kernel
theorem dX6_form_28 : decode cX6_form 28 = .ok (.getfield 72, 3) := by decide +kernel
theorem dX6_form_31 : decode cX6_form 31 = .ok (.if_icmp .ge 40, 3) := by decide +kernel
theorem dX6_form_34 : decode cX6_form 34 = .ok (.aload_n 1, 1) := by decide +kernel
theorem dX6_form_35 : decode cX6_form 35 = .ok (.aload 5, 2) := by decide +kernel
theorem dX6_form_37 : decode cX6_form 37 = .ok (.iload_n 3, 1) := by decide +kernel
theorem dX6_form_38 : decode cX6_form 38 = .ok (.iload 6, 2) := by decide +kernel
theorem dX6_form_40 : decode cX6_form 40 = .ok (.aload_n 0, 1) := by decide +kernel
theorem dX6_form_41 : decode cX6_form 41 = .ok (.getfield 28, 3) := by decide +kernel
theorem dX6_form_44 : decode cX6_form 44 = .ok (.aload_n 0, 1) := by decide +kernel
theorem dX6_form_45 : decode cX6_form 45 = .ok (.getfield 46, 3) := by decide +kernel
theorem dX6_form_48 : decode cX6_form 48 = .ok (.invokevirtual 157, 3) := by decide +kernel
theorem dX6_form_51 : decode cX6_form 51 = .ok (.iload 4, 2) := by decide +kernel
theorem dX6_form_53 : decode cX6_form 53 = .ok (.iadd, 1) := by decide +kernel
theorem dX6_form_54 : decode cX6_form 54 = .ok (.aload 5, 2) := by decide +kernel
theorem dX6_form_56 : decode cX6_form 56 = .ok (.iload_n 3, 1) := by decide +kernel
theorem dX6_form_57 : decode cX6_form 57 = .ok (.iload 6, 2) := by decide +kernel
theorem dX6_form_59 : decode cX6_form 59 = .ok (.invokevirtual 161, 3) := by decide +kernel
theorem dX6_form_62 : decode cX6_form 62 = .ok (.invokevirtual 164, 3) := by decide +kernel
theorem dX6_form_65 : decode cX6_form 65 = .ok (.iinc 6 1, 3) := by decide +kernel
theorem dX6_form_68 : decode cX6_form 68 = .ok (.goto (-44), 3) := by decide +kernel
theorem dX6_form_71 : decode cX6_form 71 = .ok (.return_, 1) := by decide +kernel
set_option maxHeartbeats 4000000 in
set_option maxRecDepth 100000 in
theorem t_X6_form_L24 {l : Launch} {E : u_E} {K : u_K} {r : Int} {s' : u_S} (g : Wk l (XE E) { frames := 2, cells := 0, slots := 0, locals := 47 } cX6_form 7 yX6_form.cls yX6_form.name none (RV E r s') K) {v0_1 : u_O} {v1_1 : u_O} {v3_1 : Int} {v4_1 : Int} {v5_1 : u_O} (i_v0_1 : is_Plan v0_1) (i_v1_1 : is_Sound v1_1) (i_v3_1 : InR v3_1) (i_v4_1 : InR v4_1) (i_v5_1 : is_Line v5_1) {kx71 : u_S → Option (Int × u_S)} (hkx71 : ∀ (s_7 : u_S), kx71 s_7 = some (r, s') → K 0 0 71 [none, none, none, none, none, none, none] [] (Wd E s_7)) : ∀ (m : Nat) (v6_1 : Int) (s_3 : u_S), InR v6_1 → f_X6_form_L24 m kx71 v0_1 v1_1 v3_1 v4_1 v5_1 v6_1 s_3 = some (r, s') → K 0 0 24 [some (.ref (E.1 v0_1)), some (.ref (E.1 v1_1)), none, some (.int (J v3_1)), some (.int (J v4_1)), some (.ref (E.1 v5_1)), some (.int (J v6_1))] [] (Wd E s_3) := by
  have g0 := g.wk
  intro m
  induction m with
  | zero =>
    intro v6_1 s_3 i_v6_1 h
    exact absurd (show (none : Option (Int × u_S)) = some (r, s') from h) (by intro z; cases z)
  | succ m ih =>
    intro v6_1 s_3 i_v6_1 h
    rw [f_X6_form_L24] at h
    refine r_iload g0 dX6_form_24 rfl ?_
    refine r_aload g0 dX6_form_26 rfl ?_
    refine g_Line_count g0 i_v5_1 qX6_72 dX6_form_28 ?_
    refine r_icmp_ge g0 71 dX6_form_31 (by decide) i_v6_1 (InR_rd _ _ _) (fun hc => ?_) (fun hc => ?_)
    · replace h := if_f hc h
      refine r_mask g0 (lv' := [none, none, none, none, none, none, none]) [false, false, false, false, false, false, false] rfl ?_
      exact hkx71 s_3 h
    · replace h := if_t hc h
      refine r_aload_n g0 dX6_form_34 rfl ?_
      refine r_aload g0 dX6_form_35 rfl ?_
      refine r_iload_n g0 dX6_form_37 rfl ?_
      refine r_iload g0 dX6_form_38 rfl ?_
      refine r_aload_n g0 dX6_form_40 rfl ?_
      refine g_Plan_head g0 i_v0_1 qX6_28 dX6_form_41 ?_
      refine r_aload_n g0 dX6_form_44 rfl ?_
      refine g_Plan_tonic g0 i_v0_1 qX6_46 dX6_form_45 ?_
      obtain ⟨r_2, s_4, hr_2, h⟩ := bd_some h
      refine r_cVI g0 (rest := [.ref (E.1 v1_1)]) (c_X5_formedStep i_v5_1 i_v3_1 i_v6_1 (InR_rd _ _ _) (InR_rd _ _ _) hr_2) ok_X5_formedStep mX6_157 (recv_Line i_v5_1) dX6_form_48 ⟨Nat.le_of_ble_eq_true rfl, Nat.le_of_ble_eq_true rfl⟩ ⟨Nat.zero_le _, Nat.zero_le _⟩ rfl (Nat.le_of_ble_eq_true rfl) rfl (fun i_r_2 => ?_)
      refine r_iload g0 dX6_form_51 rfl ?_
      refine r_iadd g0 dX6_form_53 ?_
      refine r_aload g0 dX6_form_54 rfl ?_
      refine r_iload_n g0 dX6_form_56 rfl ?_
      refine r_iload g0 dX6_form_57 rfl ?_
      obtain ⟨r_3, s_5, hr_3, h⟩ := bd_some h
      refine r_cVI g0 (rest := [.int (J (wr (r_2 + v4_1))), .ref (E.1 v1_1)]) (c_X5_formedTicks i_v5_1 i_v3_1 i_v6_1 hr_3) ok_X5_formedTicks mX6_161 (recv_Line i_v5_1) dX6_form_59 ⟨Nat.le_of_ble_eq_true rfl, Nat.le_of_ble_eq_true rfl⟩ ⟨Nat.zero_le _, Nat.zero_le _⟩ rfl (Nat.le_of_ble_eq_true rfl) rfl (fun i_r_3 => ?_)
      obtain ⟨r_4, s_6, hr_4, h⟩ := bd_some h
      refine r_cVV g0 (rest := []) (c_X8_append i_v1_1 (InR_wr _) i_r_3 hr_4) ok_X8_append mX6_164 (recv_Sound i_v1_1) dX6_form_62 ⟨Nat.le_of_ble_eq_true rfl, Nat.le_of_ble_eq_true rfl⟩ ⟨Nat.zero_le _, Nat.zero_le _⟩ rfl (Nat.le_of_ble_eq_true rfl) rfl ?_
      refine r_iinc g0 (a := v6_1) (lv' := [some (.ref (E.1 v0_1)), some (.ref (E.1 v1_1)), none, some (.int (J v3_1)), some (.int (J v4_1)), some (.ref (E.1 v5_1)), some (.int (J (wr (v6_1 + 1))))]) dX6_form_65 (by decide) rfl rfl rfl ?_
      refine r_goto g0 24 dX6_form_68 (by decide) ?_
      exact ih (wr (v6_1 + 1)) s_6 (InR_wr _) h
set_option maxHeartbeats 4000000 in
set_option maxRecDepth 100000 in
theorem c_X6_form {E : u_E} {l : Launch} {o : u_O} {p1 : u_O} {p2 : Int} {p3 : Int} {p4 : Int} (ho : is_Plan o) (i_p1 : is_Sound p1) (i_p2 : InR p2) (i_p3 : InR p3) (i_p4 : InR p4) {s s' : u_S} {r : Int} (h : f_X6_form o p1 p2 p3 p4 s = some (r, s')) : Con l (XE E) yX6_form cX6_form 7 none 2 47 0 0 [.ref (E.1 o), .ref (E.1 p1), .int (J p2), .int (J p3), .int (J p4)] (Wd E s) (RV E r s') := by
  refine Con.of [some (.ref (E.1 o)), some (.ref (E.1 p1)), some (.int (J p2)), some (.int (J p3)), some (.int (J p4)), none, none] (by decide +kernel) rfl rfl (Nat.le_of_ble_eq_true rfl) (fun K g => ?_)
  have g0 := g.wk
  unfold f_X6_form at h
  refine r_aload_n g0 dX6_form_0 rfl ?_
  refine r_iconst g0 dX6_form_1 ?_
  refine p_Sound_length g0 i_p1 qX6_153 dX6_form_2 ?_
  refine r_iload_n g0 dX6_form_5 rfl ?_
  obtain ⟨r_1, s_1, hr_1, h⟩ := bd_some h
  refine r_cNZ g0 (rest := []) (c_X10_isLine i_p2 hr_1) ok_X10_isLine mX6_52 dX6_form_6 ⟨Nat.le_of_ble_eq_true rfl, Nat.le_of_ble_eq_true rfl⟩ ⟨Nat.zero_le _, Nat.zero_le _⟩ rfl (Nat.le_of_ble_eq_true rfl) rfl (fun i_r_1 => ?_)
  refine r_if_ne g0 13 dX6_form_9 (by decide) (B01.inR i_r_1) (fun hc => ?_) (fun hc => ?_)
  · replace h := if_f hc h
    refine r_aload_n g0 dX6_form_13 rfl ?_
    refine g_Plan_lines g0 ho qX6_11 dX6_form_14 ?_
    refine r_iload_n g0 dX6_form_17 rfl ?_
    obtain ⟨hb, h⟩ := gd_some h
    refine r_aald_Line g0 (is_a_Plan_lines ho) i_p2 hb dX6_form_18 ?_
    refine r_astore g0 (lv' := [some (.ref (E.1 o)), some (.ref (E.1 p1)), some (.int (J p2)), some (.int (J p3)), some (.int (J p4)), some (.ref (E.1 (e_Line (a_Plan_lines o) p2))), none]) dX6_form_19 (by decide) rfl rfl ?_
    refine r_iconst g0 dX6_form_21 ?_
    refine r_istore g0 (lv' := [some (.ref (E.1 o)), some (.ref (E.1 p1)), some (.int (J p2)), some (.int (J p3)), some (.int (J p4)), some (.ref (E.1 (e_Line (a_Plan_lines o) p2))), some (.int (J 0))]) dX6_form_22 (by decide) rfl rfl ?_
    refine r_mask g0 (lv' := [some (.ref (E.1 o)), some (.ref (E.1 p1)), none, some (.int (J p3)), some (.int (J p4)), some (.ref (E.1 (e_Line (a_Plan_lines o) p2))), some (.int (J 0))]) [true, true, false, true, true, true, true] rfl ?_
    refine t_X6_form_L24 g ho i_p1 i_p3 i_p4 (is_e_Line (is_a_Plan_lines ho) hb) ?_ FU 0 s_1 (B01.inR B01_0) h
    · intro s_2 h
      exact z_V g dX6_form_71 h
  · replace h := if_t hc h
    exact z_V g dX6_form_12 h
theorem dX8_place_0 : decode cX8_place 0 = .ok (.aload_n 0, 1) := by decide +kernel
theorem dX8_place_1 : decode cX8_place 1 = .ok (.iload_n 1, 1) := by decide +kernel
theorem dX8_place_2 : decode cX8_place 2 = .ok (.putfield 19, 3) := by decide +kernel
theorem dX8_place_5 : decode cX8_place 5 = .ok (.aload_n 0, 1) := by decide +kernel
theorem dX8_place_6 : decode cX8_place 6 = .ok (.iload_n 2, 1) := by decide +kernel
theorem dX8_place_7 : decode cX8_place 7 = .ok (.putfield 22, 3) := by decide +kernel
theorem dX8_place_10 : decode cX8_place 10 = .ok (.return_, 1) := by decide +kernel
set_option maxHeartbeats 4000000 in
set_option maxRecDepth 100000 in
theorem c_X8_place {E : u_E} {l : Launch} {o : u_O} {p1 : Int} {p2 : Int} (ho : is_Sound o) (i_p1 : InR p1) (i_p2 : InR p2) {s s' : u_S} {r : Int} (h : f_X8_place o p1 p2 s = some (r, s')) : Con l (XE E) yX8_place cX8_place 3 none 0 0 0 0 [.ref (E.1 o), .int (J p1), .int (J p2)] (Wd E s) (RV E r s') := by
  refine Con.of [some (.ref (E.1 o)), some (.int (J p1)), some (.int (J p2))] (by decide +kernel) rfl rfl (Nat.le_of_ble_eq_true rfl) (fun K g => ?_)
  have g0 := g.wk
  unfold f_X8_place at h
  refine r_aload_n g0 dX8_place_0 rfl ?_
  refine r_iload_n g0 dX8_place_1 rfl ?_
  refine p_Sound_start g0 ho qX8_19 dX8_place_2 ?_
  refine r_aload_n g0 dX8_place_5 rfl ?_
  refine r_iload_n g0 dX8_place_6 rfl ?_
  refine p_Sound_voice g0 ho qX8_22 dX8_place_7 ?_
  exact z_V g dX8_place_10 h
theorem dX0_gather_0 : decode cX0_gather 0 = .ok (.aload_n 0, 1) := by decide +kernel
theorem dX0_gather_1 : decode cX0_gather 1 = .ok (.aload_n 2, 1) := by decide +kernel
theorem dX0_gather_2 : decode cX0_gather 2 = .ok (.getfield 18, 3) := by decide +kernel
theorem dX0_gather_5 : decode cX0_gather 5 = .ok (.bipush 10, 2) := by decide +kernel
theorem dX0_gather_7 : decode cX0_gather 7 = .ok (.invokestatic 24, 3) := by decide +kernel
theorem dX0_gather_10 : decode cX0_gather 10 = .ok (.putfield 30, 3) := by decide +kernel
theorem dX0_gather_13 : decode cX0_gather 13 = .ok (.iconst 0, 1) := by decide +kernel
theorem dX0_gather_14 : decode cX0_gather 14 = .ok (.istore_n 3, 1) := by decide +kernel
theorem dX0_gather_15 : decode cX0_gather 15 = .ok (.iload_n 3, 1) := by decide +kernel
theorem dX0_gather_16 : decode cX0_gather 16 = .ok (.aload_n 0, 1) := by decide +kernel
theorem dX0_gather_17 : decode cX0_gather 17 = .ok (.getfield 30, 3) := by decide +kernel
theorem dX0_gather_20 : decode cX0_gather 20 = .ok (.if_icmp .ge 61, 3) := by decide +kernel
theorem dX0_gather_23 : decode cX0_gather 23 = .ok (.aload_n 2, 1) := by decide +kernel
theorem dX0_gather_24 : decode cX0_gather 24 = .ok (.getfield 31, 3) := by decide +kernel
theorem dX0_gather_27 : decode cX0_gather 27 = .ok (.iload_n 3, 1) := by decide +kernel
theorem dX0_gather_28 : decode cX0_gather 28 = .ok (.aaload, 1) := by decide +kernel
theorem dX0_gather_29 : decode cX0_gather 29 = .ok (.astore 4, 2) := by decide +kernel
theorem dX0_gather_31 : decode cX0_gather 31 = .ok (.aload_n 1, 1) := by decide +kernel
theorem dX0_gather_32 : decode cX0_gather 32 = .ok (.aload_n 0, 1) := by decide +kernel
theorem dX0_gather_33 : decode cX0_gather 33 = .ok (.getfield 11, 3) := by decide +kernel
theorem dX0_gather_36 : decode cX0_gather 36 = .ok (.iload_n 3, 1) := by decide +kernel
theorem dX0_gather_37 : decode cX0_gather 37 = .ok (.aaload, 1) := by decide +kernel
theorem dX0_gather_38 : decode cX0_gather 38 = .ok (.aload 4, 2) := by decide +kernel
theorem dX0_gather_40 : decode cX0_gather 40 = .ok (.getfield 34, 3) := by decide +kernel
theorem dX0_gather_43 : decode cX0_gather 43 = .ok (.aload 4, 2) := by decide +kernel
theorem dX0_gather_45 : decode cX0_gather 45 = .ok (.getfield 39, 3) := by decide +kernel
theorem dX0_gather_48 : decode cX0_gather 48 = .ok (.aload 4, 2) := by decide +kernel
theorem dX0_gather_50 : decode cX0_gather 50 = .ok (.getfield 42, 3) := by decide +kernel
theorem dX0_gather_53 : decode cX0_gather 53 = .ok (.invokevirtual 45, 3) := by decide +kernel
theorem dX0_gather_56 : decode cX0_gather 56 = .ok (.aload_n 0, 1) := by decide +kernel
theorem dX0_gather_57 : decode cX0_gather 57 = .ok (.getfield 11, 3) := by decide +kernel
theorem dX0_gather_60 : decode cX0_gather 60 = .ok (.iload_n 3, 1) := by decide +kernel
theorem dX0_gather_61 : decode cX0_gather 61 = .ok (.aaload, 1) := by decide +kernel
theorem dX0_gather_62 : decode cX0_gather 62 = .ok (.aload 4, 2) := by decide +kernel
theorem dX0_gather_64 : decode cX0_gather 64 = .ok (.getfield 50, 3) := by decide +kernel
theorem dX0_gather_67 : decode cX0_gather 67 = .ok (.aload 4, 2) := by decide +kernel
theorem dX0_gather_69 : decode cX0_gather 69 = .ok (.getfield 53, 3) := by decide +kernel
theorem dX0_gather_72 : decode cX0_gather 72 = .ok (.invokevirtual 56, 3) := by decide +kernel
theorem dX0_gather_75 : decode cX0_gather 75 = .ok (.iinc 3 1, 3) := by decide +kernel
theorem dX0_gather_78 : decode cX0_gather 78 = .ok (.goto (-63), 3) := by decide +kernel
theorem dX0_gather_81 : decode cX0_gather 81 = .ok (.return_, 1) := by decide +kernel
set_option maxHeartbeats 4000000 in
set_option maxRecDepth 100000 in
theorem t_X0_gather_L15 {l : Launch} {E : u_E} {K : u_K} {r : Int} {s' : u_S} (g : Wk l (XE E) { frames := 3, cells := 0, slots := 0, locals := 73 } cX0_gather 5 yX0_gather.cls yX0_gather.name none (RV E r s') K) {v0_1 : u_O} {v1_1 : u_O} {v2_1 : u_O} (i_v0_1 : is_Chorus v0_1) (i_v1_1 : is_Plan v1_1) (i_v2_1 : is_Entries v2_1) {kx81 : u_S → Option (Int × u_S)} (hkx81 : ∀ (s_6 : u_S), kx81 s_6 = some (r, s') → K 0 0 81 [none, none, none, none, none] [] (Wd E s_6)) : ∀ (m : Nat) (v3_1 : Int) (s_3 : u_S), InR v3_1 → f_X0_gather_L15 m kx81 v0_1 v1_1 v2_1 v3_1 s_3 = some (r, s') → K 0 0 15 [some (.ref (E.1 v0_1)), some (.ref (E.1 v1_1)), some (.ref (E.1 v2_1)), some (.int (J v3_1)), none] [] (Wd E s_3) := by
  have g0 := g.wk
  intro m
  induction m with
  | zero =>
    intro v3_1 s_3 i_v3_1 h
    exact absurd (show (none : Option (Int × u_S)) = some (r, s') from h) (by intro z; cases z)
  | succ m ih =>
    intro v3_1 s_3 i_v3_1 h
    rw [f_X0_gather_L15] at h
    refine r_iload_n g0 dX0_gather_15 rfl ?_
    refine r_aload_n g0 dX0_gather_16 rfl ?_
    refine g_Chorus_count g0 i_v0_1 qX0_30 dX0_gather_17 ?_
    refine r_icmp_ge g0 81 dX0_gather_20 (by decide) i_v3_1 (InR_rd _ _ _) (fun hc => ?_) (fun hc => ?_)
    · replace h := if_f hc h
      refine r_mask g0 (lv' := [none, none, none, none, none]) [false, false, false, false, false] rfl ?_
      exact hkx81 s_3 h
    · replace h := if_t hc h
      refine r_aload_n g0 dX0_gather_23 rfl ?_
      refine g_Entries_items g0 i_v2_1 qX0_31 dX0_gather_24 ?_
      refine r_iload_n g0 dX0_gather_27 rfl ?_
      obtain ⟨hb, h⟩ := gd_some h
      refine r_aald_Entry g0 (is_a_Entries_items i_v2_1) i_v3_1 hb dX0_gather_28 ?_
      refine r_astore g0 (lv' := [some (.ref (E.1 v0_1)), some (.ref (E.1 v1_1)), some (.ref (E.1 v2_1)), some (.int (J v3_1)), some (.ref (E.1 (e_Entry (a_Entries_items v2_1) v3_1)))]) dX0_gather_29 (by decide) rfl rfl ?_
      refine r_aload_n g0 dX0_gather_31 rfl ?_
      refine r_aload_n g0 dX0_gather_32 rfl ?_
      refine g_Chorus_items g0 i_v0_1 qX0_11 dX0_gather_33 ?_
      refine r_iload_n g0 dX0_gather_36 rfl ?_
      obtain ⟨hb_2, h⟩ := gd_some h
      refine r_aald_Sound g0 (is_a_Chorus_items i_v0_1) i_v3_1 hb_2 dX0_gather_37 ?_
      refine r_aload g0 dX0_gather_38 rfl ?_
      refine g_Entry_line g0 (is_e_Entry (is_a_Entries_items i_v2_1) hb) qX0_34 dX0_gather_40 ?_
      refine r_aload g0 dX0_gather_43 rfl ?_
      refine g_Entry_form g0 (is_e_Entry (is_a_Entries_items i_v2_1) hb) qX0_39 dX0_gather_45 ?_
      refine r_aload g0 dX0_gather_48 rfl ?_
      refine g_Entry_move g0 (is_e_Entry (is_a_Entries_items i_v2_1) hb) qX0_42 dX0_gather_50 ?_
      obtain ⟨r_2, s_4, hr_2, h⟩ := bd_some h
      refine r_cVV g0 (rest := []) (c_X6_form i_v1_1 (is_e_Sound (is_a_Chorus_items i_v0_1) hb_2) (InR_rd _ _ _) (InR_rd _ _ _) (InR_rd _ _ _) hr_2) ok_X6_form mX0_45 (recv_Plan i_v1_1) dX0_gather_53 ⟨Nat.le_of_ble_eq_true rfl, Nat.le_of_ble_eq_true rfl⟩ ⟨Nat.zero_le _, Nat.zero_le _⟩ rfl (Nat.le_of_ble_eq_true rfl) rfl ?_
      refine r_aload_n g0 dX0_gather_56 rfl ?_
      refine g_Chorus_items g0 i_v0_1 qX0_11 dX0_gather_57 ?_
      refine r_iload_n g0 dX0_gather_60 rfl ?_
      obtain ⟨hb_3, h⟩ := gd_some h
      refine r_aald_Sound g0 (is_a_Chorus_items i_v0_1) i_v3_1 hb_3 dX0_gather_61 ?_
      refine r_aload g0 dX0_gather_62 rfl ?_
      refine g_Entry_start g0 (is_e_Entry (is_a_Entries_items i_v2_1) hb) qX0_50 dX0_gather_64 ?_
      refine r_aload g0 dX0_gather_67 rfl ?_
      refine g_Entry_voice g0 (is_e_Entry (is_a_Entries_items i_v2_1) hb) qX0_53 dX0_gather_69 ?_
      obtain ⟨r_3, s_5, hr_3, h⟩ := bd_some h
      refine r_cVV g0 (rest := []) (c_X8_place (is_e_Sound (is_a_Chorus_items i_v0_1) hb_3) (InR_rd _ _ _) (InR_rd _ _ _) hr_3) ok_X8_place mX0_56 (recv_Sound (is_e_Sound (is_a_Chorus_items i_v0_1) hb_3)) dX0_gather_72 ⟨Nat.le_of_ble_eq_true rfl, Nat.le_of_ble_eq_true rfl⟩ ⟨Nat.zero_le _, Nat.zero_le _⟩ rfl (Nat.le_of_ble_eq_true rfl) rfl ?_
      refine r_iinc g0 (a := v3_1) (lv' := [some (.ref (E.1 v0_1)), some (.ref (E.1 v1_1)), some (.ref (E.1 v2_1)), some (.int (J (wr (v3_1 + 1)))), some (.ref (E.1 (e_Entry (a_Entries_items v2_1) v3_1)))]) dX0_gather_75 (by decide) rfl rfl rfl ?_
      refine r_goto g0 15 dX0_gather_78 (by decide) ?_
      refine r_mask g0 (lv' := [some (.ref (E.1 v0_1)), some (.ref (E.1 v1_1)), some (.ref (E.1 v2_1)), some (.int (J (wr (v3_1 + 1)))), none]) [true, true, true, true, false] rfl ?_
      exact ih (wr (v3_1 + 1)) s_5 (InR_wr _) h
set_option maxHeartbeats 4000000 in
set_option maxRecDepth 100000 in
theorem c_X0_gather {E : u_E} {l : Launch} {o : u_O} {p1 : u_O} {p2 : u_O} (ho : is_Chorus o) (i_p1 : is_Plan p1) (i_p2 : is_Entries p2) {s s' : u_S} {r : Int} (h : f_X0_gather o p1 p2 s = some (r, s')) : Con l (XE E) yX0_gather cX0_gather 5 none 3 73 0 0 [.ref (E.1 o), .ref (E.1 p1), .ref (E.1 p2)] (Wd E s) (RV E r s') := by
  refine Con.of [some (.ref (E.1 o)), some (.ref (E.1 p1)), some (.ref (E.1 p2)), none, none] (by decide +kernel) rfl rfl (Nat.le_of_ble_eq_true rfl) (fun K g => ?_)
  have g0 := g.wk
  unfold f_X0_gather at h
  refine r_aload_n g0 dX0_gather_0 rfl ?_
  refine r_aload_n g0 dX0_gather_1 rfl ?_
  refine g_Entries_count g0 i_p2 qX0_18 dX0_gather_2 ?_
  refine r_bipush g0 dX0_gather_5 rfl ?_
  obtain ⟨r_1, s_1, hr_1, h⟩ := bd_some h
  refine r_cSI g0 (rest := [.ref (E.1 o)]) (c_J9_min_7cf53 (InR_rd _ _ _) (InR_lit rfl) hr_1) ok_J9_min_7cf53 mX0_24 dX0_gather_7 ⟨Nat.le_of_ble_eq_true rfl, Nat.le_of_ble_eq_true rfl⟩ ⟨Nat.zero_le _, Nat.zero_le _⟩ rfl (Nat.le_of_ble_eq_true rfl) rfl (fun i_r_1 => ?_)
  refine p_Chorus_count g0 ho qX0_30 dX0_gather_10 ?_
  refine r_iconst g0 dX0_gather_13 ?_
  refine r_istore_n g0 (lv' := [some (.ref (E.1 o)), some (.ref (E.1 p1)), some (.ref (E.1 p2)), some (.int (J 0)), none]) dX0_gather_14 (by decide) rfl rfl ?_
  refine t_X0_gather_L15 g ho i_p1 i_p2 ?_ FU 0 (wt s_1 o 1 r_1) (B01.inR B01_0) h
  · intro s_2 h
    exact z_V g dX0_gather_81 h
theorem dX8_isHeardAt_0 : decode cX8_isHeardAt 0 = .ok (.iload_n 1, 1) := by decide +kernel
theorem dX8_isHeardAt_1 : decode cX8_isHeardAt 1 = .ok (.aload_n 0, 1) := by decide +kernel
theorem dX8_isHeardAt_2 : decode cX8_isHeardAt 2 = .ok (.getfield 19, 3) := by decide +kernel
theorem dX8_isHeardAt_5 : decode cX8_isHeardAt 5 = .ok (.if_icmp .lt 27, 3) := by decide +kernel
theorem dX8_isHeardAt_8 : decode cX8_isHeardAt 8 = .ok (.iload_n 1, 1) := by decide +kernel
theorem dX8_isHeardAt_9 : decode cX8_isHeardAt 9 = .ok (.aload_n 0, 1) := by decide +kernel
theorem dX8_isHeardAt_10 : decode cX8_isHeardAt 10 = .ok (.getfield 19, 3) := by decide +kernel
theorem dX8_isHeardAt_13 : decode cX8_isHeardAt 13 = .ok (.isub, 1) := by decide +kernel
theorem dX8_isHeardAt_14 : decode cX8_isHeardAt 14 = .ok (.aload_n 0, 1) := by decide +kernel
theorem dX8_isHeardAt_15 : decode cX8_isHeardAt 15 = .ok (.getfield 15, 3) := by decide +kernel
theorem dX8_isHeardAt_18 : decode cX8_isHeardAt 18 = .ok (.if_icmp .ge 14, 3) := by decide +kernel
theorem dX8_isHeardAt_21 : decode cX8_isHeardAt 21 = .ok (.aload_n 0, 1) := by decide +kernel
theorem dX8_isHeardAt_22 : decode cX8_isHeardAt 22 = .ok (.getfield 19, 3) := by decide +kernel
theorem dX8_isHeardAt_25 : decode cX8_isHeardAt 25 = .ok (.ifCond .lt 7, 3) := by decide +kernel
theorem dX8_isHeardAt_28 : decode cX8_isHeardAt 28 = .ok (.iconst 1, 1) := by decide +kernel
theorem dX8_isHeardAt_29 : decode cX8_isHeardAt 29 = .ok (.goto 4, 3) := by decide +kernel
theorem dX8_isHeardAt_32 : decode cX8_isHeardAt 32 = .ok (.iconst 0, 1) := by decide +kernel
theorem dX8_isHeardAt_33 : decode cX8_isHeardAt 33 = .ok (.ireturn, 1) := by decide +kernel
set_option maxHeartbeats 4000000 in
set_option maxRecDepth 100000 in
theorem c_X8_isHeardAt {E : u_E} {l : Launch} {o : u_O} {p1 : Int} (ho : is_Sound o) (i_p1 : InR p1) {s s' : u_S} {r : Int} (h : f_X8_isHeardAt o p1 s = some (r, s')) : Con l (XE E) yX8_isHeardAt cX8_isHeardAt 2 (some .boolean) 0 0 0 0 [.ref (E.1 o), .int (J p1)] (Wd E s) (RZ E r s') := by
  refine Con.of [some (.ref (E.1 o)), some (.int (J p1))] (by decide +kernel) rfl rfl (Nat.le_of_ble_eq_true rfl) (fun K g => ?_)
  have g0 := g.wk
  unfold f_X8_isHeardAt at h
  refine r_iload_n g0 dX8_isHeardAt_0 rfl ?_
  refine r_aload_n g0 dX8_isHeardAt_1 rfl ?_
  refine g_Sound_start g0 ho qX8_19 dX8_isHeardAt_2 ?_
  refine r_icmp_lt g0 32 dX8_isHeardAt_5 (by decide) i_p1 (InR_rd _ _ _) (fun hc => ?_) (fun hc => ?_)
  · replace h := if_t hc h
    refine r_iconst g0 dX8_isHeardAt_32 ?_
    exact z_Z g dX8_isHeardAt_33 B01_0 h
  · replace h := if_f hc h
    refine r_iload_n g0 dX8_isHeardAt_8 rfl ?_
    refine r_aload_n g0 dX8_isHeardAt_9 rfl ?_
    refine g_Sound_start g0 ho qX8_19 dX8_isHeardAt_10 ?_
    refine r_isub g0 dX8_isHeardAt_13 ?_
    refine r_aload_n g0 dX8_isHeardAt_14 rfl ?_
    refine g_Sound_length g0 ho qX8_15 dX8_isHeardAt_15 ?_
    refine r_icmp_ge g0 32 dX8_isHeardAt_18 (by decide) (InR_wr _) (InR_rd _ _ _) (fun hc => ?_) (fun hc => ?_)
    · replace h := if_f hc h
      refine r_iconst g0 dX8_isHeardAt_32 ?_
      exact z_Z g dX8_isHeardAt_33 B01_0 h
    · replace h := if_t hc h
      refine r_aload_n g0 dX8_isHeardAt_21 rfl ?_
      refine g_Sound_start g0 ho qX8_19 dX8_isHeardAt_22 ?_
      refine r_if_lt g0 32 dX8_isHeardAt_25 (by decide) (InR_rd _ _ _) (fun hc => ?_) (fun hc => ?_)
      · replace h := if_t hc h
        refine r_iconst g0 dX8_isHeardAt_32 ?_
        exact z_Z g dX8_isHeardAt_33 B01_0 h
      · replace h := if_f hc h
        refine r_iconst g0 dX8_isHeardAt_28 ?_
        refine r_goto g0 33 dX8_isHeardAt_29 (by decide) ?_
        exact z_Z g dX8_isHeardAt_33 B01_1 h
theorem dX8_stepAt_0 : decode cX8_stepAt 0 = .ok (.aload_n 0, 1) := by decide +kernel
theorem dX8_stepAt_1 : decode cX8_stepAt 1 = .ok (.iload_n 1, 1) := by decide +kernel
theorem dX8_stepAt_2 : decode cX8_stepAt 2 = .ok (.invokevirtual 25, 3) := by decide +kernel
theorem dX8_stepAt_5 : decode cX8_stepAt 5 = .ok (.ifCond .eq 17, 3) := by decide +kernel
theorem dX8_stepAt_8 : decode cX8_stepAt 8 = .ok (.aload_n 0, 1) := by decide +kernel
theorem dX8_stepAt_9 : decode cX8_stepAt 9 = .ok (.getfield 9, 3) := by decide +kernel
theorem dX8_stepAt_12 : decode cX8_stepAt 12 = .ok (.iload_n 1, 1) := by decide +kernel
theorem dX8_stepAt_13 : decode cX8_stepAt 13 = .ok (.aload_n 0, 1) := by decide +kernel
theorem dX8_stepAt_14 : decode cX8_stepAt 14 = .ok (.getfield 19, 3) := by decide +kernel
theorem dX8_stepAt_17 : decode cX8_stepAt 17 = .ok (.isub, 1) := by decide +kernel
theorem dX8_stepAt_18 : decode cX8_stepAt 18 = .ok (.iaload, 1) := by decide +kernel
theorem dX8_stepAt_19 : decode cX8_stepAt 19 = .ok (.goto 6, 3) := by decide +kernel
theorem dX8_stepAt_22 : decode cX8_stepAt 22 = .ok (.sipush (-1000), 3) := by decide +kernel
theorem dX8_stepAt_25 : decode cX8_stepAt 25 = .ok (.ireturn, 1) := by decide +kernel
set_option maxHeartbeats 4000000 in
set_option maxRecDepth 100000 in
theorem c_X8_stepAt {E : u_E} {l : Launch} {o : u_O} {p1 : Int} (ho : is_Sound o) (i_p1 : InR p1) {s s' : u_S} {r : Int} (h : f_X8_stepAt o p1 s = some (r, s')) : Con l (XE E) yX8_stepAt cX8_stepAt 2 (some .int) 1 21 0 0 [.ref (E.1 o), .int (J p1)] (Wd E s) (RI E r s') := by
  refine Con.of [some (.ref (E.1 o)), some (.int (J p1))] (by decide +kernel) rfl rfl (Nat.le_of_ble_eq_true rfl) (fun K g => ?_)
  have g0 := g.wk
  unfold f_X8_stepAt at h
  refine r_aload_n g0 dX8_stepAt_0 rfl ?_
  refine r_iload_n g0 dX8_stepAt_1 rfl ?_
  obtain ⟨r_1, s_1, hr_1, h⟩ := bd_some h
  refine r_cVZ g0 (rest := []) (c_X8_isHeardAt ho i_p1 hr_1) ok_X8_isHeardAt mX8_25 (recv_Sound ho) dX8_stepAt_2 ⟨Nat.le_of_ble_eq_true rfl, Nat.le_of_ble_eq_true rfl⟩ ⟨Nat.zero_le _, Nat.zero_le _⟩ rfl (Nat.le_of_ble_eq_true rfl) rfl (fun i_r_1 => ?_)
  refine r_if_eq g0 22 dX8_stepAt_5 (by decide) (B01.inR i_r_1) (fun hc => ?_) (fun hc => ?_)
  · replace h := if_t hc h
    refine r_sipush g0 dX8_stepAt_22 rfl ?_
    exact z_I g dX8_stepAt_25 (InR_lit rfl) h
  · replace h := if_f hc h
    refine r_aload_n g0 dX8_stepAt_8 rfl ?_
    refine g_Sound_steps g0 ho qX8_9 dX8_stepAt_9 ?_
    refine r_iload_n g0 dX8_stepAt_12 rfl ?_
    refine r_aload_n g0 dX8_stepAt_13 rfl ?_
    refine g_Sound_start g0 ho qX8_19 dX8_stepAt_14 ?_
    refine r_isub g0 dX8_stepAt_17 ?_
    obtain ⟨hb, h⟩ := gd_some h
    refine r_iaload g0 (is_a_Sound_steps ho) (n := 80) rfl (InR_wr _) hb dX8_stepAt_18 ?_
    refine r_goto g0 25 dX8_stepAt_19 (by decide) ?_
    exact z_I g dX8_stepAt_25 (InR_rd _ _ _) h
theorem dX0_stepOf_0 : decode cX0_stepOf 0 = .ok (.iconst 0, 1) := by decide +kernel
theorem dX0_stepOf_1 : decode cX0_stepOf 1 = .ok (.istore_n 3, 1) := by decide +kernel
theorem dX0_stepOf_2 : decode cX0_stepOf 2 = .ok (.iload_n 3, 1) := by decide +kernel
theorem dX0_stepOf_3 : decode cX0_stepOf 3 = .ok (.aload_n 0, 1) := by decide +kernel
theorem dX0_stepOf_4 : decode cX0_stepOf 4 = .ok (.getfield 30, 3) := by decide +kernel
theorem dX0_stepOf_7 : decode cX0_stepOf 7 = .ok (.if_icmp .ge 46, 3) := by decide +kernel
theorem dX0_stepOf_10 : decode cX0_stepOf 10 = .ok (.aload_n 0, 1) := by decide +kernel
theorem dX0_stepOf_11 : decode cX0_stepOf 11 = .ok (.getfield 11, 3) := by decide +kernel
theorem dX0_stepOf_14 : decode cX0_stepOf 14 = .ok (.iload_n 3, 1) := by decide +kernel
theorem dX0_stepOf_15 : decode cX0_stepOf 15 = .ok (.aaload, 1) := by decide +kernel
theorem dX0_stepOf_16 : decode cX0_stepOf 16 = .ok (.getfield 60, 3) := by decide +kernel
theorem dX0_stepOf_19 : decode cX0_stepOf 19 = .ok (.iload_n 1, 1) := by decide +kernel
theorem dX0_stepOf_20 : decode cX0_stepOf 20 = .ok (.if_icmp .ne 27, 3) := by decide +kernel
theorem dX0_stepOf_23 : decode cX0_stepOf 23 = .ok (.aload_n 0, 1) := by decide +kernel
theorem dX0_stepOf_24 : decode cX0_stepOf 24 = .ok (.getfield 11, 3) := by decide +kernel
theorem dX0_stepOf_27 : decode cX0_stepOf 27 = .ok (.iload_n 3, 1) := by decide +kernel
theorem dX0_stepOf_28 : decode cX0_stepOf 28 = .ok (.aaload, 1) := by decide +kernel
theorem dX0_stepOf_29 : decode cX0_stepOf 29 = .ok (.iload_n 2, 1) := by decide +kernel
theorem dX0_stepOf_30 : decode cX0_stepOf 30 = .ok (.invokevirtual 61, 3) := by decide +kernel
theorem dX0_stepOf_33 : decode cX0_stepOf 33 = .ok (.ifCond .eq 14, 3) := by decide +kernel
theorem dX0_stepOf_36 : decode cX0_stepOf 36 = .ok (.aload_n 0, 1) := by decide +kernel
theorem dX0_stepOf_37 : decode cX0_stepOf 37 = .ok (.getfield 11, 3) := by decide +kernel
theorem dX0_stepOf_40 : decode cX0_stepOf 40 = .ok (.iload_n 3, 1) := by decide +kernel
theorem dX0_stepOf_41 : decode cX0_stepOf 41 = .ok (.aaload, 1) := by decide +kernel
theorem dX0_stepOf_42 : decode cX0_stepOf 42 = .ok (.iload_n 2, 1) := by decide +kernel
theorem dX0_stepOf_43 : decode cX0_stepOf 43 = .ok (.invokevirtual 65, 3) := by decide +kernel
theorem dX0_stepOf_46 : decode cX0_stepOf 46 = .ok (.ireturn, 1) := by decide +kernel
theorem dX0_stepOf_47 : decode cX0_stepOf 47 = .ok (.iinc 3 1, 3) := by decide +kernel
theorem dX0_stepOf_50 : decode cX0_stepOf 50 = .ok (.goto (-48), 3) := by decide +kernel
theorem dX0_stepOf_53 : decode cX0_stepOf 53 = .ok (.sipush (-1000), 3) := by decide +kernel
theorem dX0_stepOf_56 : decode cX0_stepOf 56 = .ok (.ireturn, 1) := by decide +kernel
set_option maxHeartbeats 4000000 in
set_option maxRecDepth 100000 in
theorem t_X0_stepOf_L2 {l : Launch} {E : u_E} {K : u_K} {r : Int} {s' : u_S} (g : Wk l (XE E) { frames := 2, cells := 0, slots := 0, locals := 42 } cX0_stepOf 4 yX0_stepOf.cls yX0_stepOf.name (some .int) (RI E r s') K) {v0_1 : u_O} {v1_1 : Int} {v2_1 : Int} (i_v0_1 : is_Chorus v0_1) (i_v1_1 : InR v1_1) (i_v2_1 : InR v2_1) {kx53 : u_S → Option (Int × u_S)} (hkx53 : ∀ (s_6 : u_S), kx53 s_6 = some (r, s') → K 0 0 53 [none, none, none, none] [] (Wd E s_6)) : ∀ (m : Nat) (v3_1 : Int) (s_2 : u_S), InR v3_1 → f_X0_stepOf_L2 m kx53 v0_1 v1_1 v2_1 v3_1 s_2 = some (r, s') → K 0 0 2 [some (.ref (E.1 v0_1)), some (.int (J v1_1)), some (.int (J v2_1)), some (.int (J v3_1))] [] (Wd E s_2) := by
  have g0 := g.wk
  intro m
  induction m with
  | zero =>
    intro v3_1 s_2 i_v3_1 h
    exact absurd (show (none : Option (Int × u_S)) = some (r, s') from h) (by intro z; cases z)
  | succ m ih =>
    intro v3_1 s_2 i_v3_1 h
    rw [f_X0_stepOf_L2] at h
    refine r_iload_n g0 dX0_stepOf_2 rfl ?_
    refine r_aload_n g0 dX0_stepOf_3 rfl ?_
    refine g_Chorus_count g0 i_v0_1 qX0_30 dX0_stepOf_4 ?_
    refine r_icmp_ge g0 53 dX0_stepOf_7 (by decide) i_v3_1 (InR_rd _ _ _) (fun hc => ?_) (fun hc => ?_)
    · replace h := if_f hc h
      refine r_mask g0 (lv' := [none, none, none, none]) [false, false, false, false] rfl ?_
      exact hkx53 s_2 h
    · replace h := if_t hc h
      refine r_aload_n g0 dX0_stepOf_10 rfl ?_
      refine g_Chorus_items g0 i_v0_1 qX0_11 dX0_stepOf_11 ?_
      refine r_iload_n g0 dX0_stepOf_14 rfl ?_
      obtain ⟨hb, h⟩ := gd_some h
      refine r_aald_Sound g0 (is_a_Chorus_items i_v0_1) i_v3_1 hb dX0_stepOf_15 ?_
      refine g_Sound_voice g0 (is_e_Sound (is_a_Chorus_items i_v0_1) hb) qX0_60 dX0_stepOf_16 ?_
      refine r_iload_n g0 dX0_stepOf_19 rfl ?_
      obtain ⟨jp_1, hdjp_1, h⟩ := jn_some h
      have hjp_1 : ∀  (s_3 : u_S), jp_1 s_3 = some (r, s') → K 0 0 47 [some (.ref (E.1 v0_1)), some (.int (J v1_1)), some (.int (J v2_1)), some (.int (J v3_1))] [] (Wd E s_3) := by
        intro s_3 h
        subst hdjp_1
        refine r_iinc g0 (a := v3_1) (lv' := [some (.ref (E.1 v0_1)), some (.int (J v1_1)), some (.int (J v2_1)), some (.int (J (wr (v3_1 + 1))))]) dX0_stepOf_47 (by decide) rfl rfl rfl ?_
        refine r_goto g0 2 dX0_stepOf_50 (by decide) ?_
        exact ih (wr (v3_1 + 1)) s_3 (InR_wr _) h
      clear hdjp_1
      refine r_icmp_ne g0 47 dX0_stepOf_20 (by decide) (InR_rd _ _ _) i_v1_1 (fun hc => ?_) (fun hc => ?_)
      · replace h := if_f hc h
        exact hjp_1 s_2 h
      · replace h := if_t hc h
        refine r_aload_n g0 dX0_stepOf_23 rfl ?_
        refine g_Chorus_items g0 i_v0_1 qX0_11 dX0_stepOf_24 ?_
        refine r_iload_n g0 dX0_stepOf_27 rfl ?_
        obtain ⟨hb_2, h⟩ := gd_some h
        refine r_aald_Sound g0 (is_a_Chorus_items i_v0_1) i_v3_1 hb_2 dX0_stepOf_28 ?_
        refine r_iload_n g0 dX0_stepOf_29 rfl ?_
        obtain ⟨r_1, s_4, hr_1, h⟩ := bd_some h
        refine r_cVZ g0 (rest := []) (c_X8_isHeardAt (is_e_Sound (is_a_Chorus_items i_v0_1) hb_2) i_v2_1 hr_1) ok_X8_isHeardAt mX0_61 (recv_Sound (is_e_Sound (is_a_Chorus_items i_v0_1) hb_2)) dX0_stepOf_30 ⟨Nat.le_of_ble_eq_true rfl, Nat.le_of_ble_eq_true rfl⟩ ⟨Nat.zero_le _, Nat.zero_le _⟩ rfl (Nat.le_of_ble_eq_true rfl) rfl (fun i_r_1 => ?_)
        refine r_if_eq g0 47 dX0_stepOf_33 (by decide) (B01.inR i_r_1) (fun hc => ?_) (fun hc => ?_)
        · replace h := if_t hc h
          exact hjp_1 s_4 h
        · replace h := if_f hc h
          refine r_aload_n g0 dX0_stepOf_36 rfl ?_
          refine g_Chorus_items g0 i_v0_1 qX0_11 dX0_stepOf_37 ?_
          refine r_iload_n g0 dX0_stepOf_40 rfl ?_
          obtain ⟨hb_3, h⟩ := gd_some h
          refine r_aald_Sound g0 (is_a_Chorus_items i_v0_1) i_v3_1 hb_3 dX0_stepOf_41 ?_
          refine r_iload_n g0 dX0_stepOf_42 rfl ?_
          obtain ⟨r_2, s_5, hr_2, h⟩ := bd_some h
          refine r_cVI g0 (rest := []) (c_X8_stepAt (is_e_Sound (is_a_Chorus_items i_v0_1) hb_3) i_v2_1 hr_2) ok_X8_stepAt mX0_65 (recv_Sound (is_e_Sound (is_a_Chorus_items i_v0_1) hb_3)) dX0_stepOf_43 ⟨Nat.le_of_ble_eq_true rfl, Nat.le_of_ble_eq_true rfl⟩ ⟨Nat.zero_le _, Nat.zero_le _⟩ rfl (Nat.le_of_ble_eq_true rfl) rfl (fun i_r_2 => ?_)
          exact z_I g dX0_stepOf_46 i_r_2 h
set_option maxHeartbeats 4000000 in
set_option maxRecDepth 100000 in
theorem c_X0_stepOf {E : u_E} {l : Launch} {o : u_O} {p1 : Int} {p2 : Int} (ho : is_Chorus o) (i_p1 : InR p1) (i_p2 : InR p2) {s s' : u_S} {r : Int} (h : f_X0_stepOf o p1 p2 s = some (r, s')) : Con l (XE E) yX0_stepOf cX0_stepOf 4 (some .int) 2 42 0 0 [.ref (E.1 o), .int (J p1), .int (J p2)] (Wd E s) (RI E r s') := by
  refine Con.of [some (.ref (E.1 o)), some (.int (J p1)), some (.int (J p2)), none] (by decide +kernel) rfl rfl (Nat.le_of_ble_eq_true rfl) (fun K g => ?_)
  have g0 := g.wk
  unfold f_X0_stepOf at h
  refine r_iconst g0 dX0_stepOf_0 ?_
  refine r_istore_n g0 (lv' := [some (.ref (E.1 o)), some (.int (J p1)), some (.int (J p2)), some (.int (J 0))]) dX0_stepOf_1 (by decide) rfl rfl ?_
  refine t_X0_stepOf_L2 g ho i_p1 i_p2 ?_ FU 0 s (B01.inR B01_0) h
  · intro s_1 h
    refine r_sipush g0 dX0_stepOf_53 rfl ?_
    exact z_I g dX0_stepOf_56 (InR_lit rfl) h
theorem dX8_end_0 : decode cX8_end 0 = .ok (.aload_n 0, 1) := by decide +kernel
theorem dX8_end_1 : decode cX8_end 1 = .ok (.getfield 19, 3) := by decide +kernel
theorem dX8_end_4 : decode cX8_end 4 = .ok (.aload_n 0, 1) := by decide +kernel
theorem dX8_end_5 : decode cX8_end 5 = .ok (.getfield 15, 3) := by decide +kernel
theorem dX8_end_8 : decode cX8_end 8 = .ok (.iadd, 1) := by decide +kernel
theorem dX8_end_9 : decode cX8_end 9 = .ok (.ireturn, 1) := by decide +kernel
set_option maxHeartbeats 4000000 in
set_option maxRecDepth 100000 in
theorem c_X8_end {E : u_E} {l : Launch} {o : u_O} (ho : is_Sound o) {s s' : u_S} {r : Int} (h : f_X8_end o s = some (r, s')) : Con l (XE E) yX8_end cX8_end 1 (some .int) 0 0 0 0 [.ref (E.1 o)] (Wd E s) (RI E r s') := by
  refine Con.of [some (.ref (E.1 o))] (by decide +kernel) rfl rfl (Nat.le_of_ble_eq_true rfl) (fun K g => ?_)
  have g0 := g.wk
  unfold f_X8_end at h
  refine r_aload_n g0 dX8_end_0 rfl ?_
  refine g_Sound_start g0 ho qX8_19 dX8_end_1 ?_
  refine r_aload_n g0 dX8_end_4 rfl ?_
  refine g_Sound_length g0 ho qX8_15 dX8_end_5 ?_
  refine r_iadd g0 dX8_end_8 ?_
  exact z_I g dX8_end_9 (InR_wr _) h
theorem dJ9_max_7cf53_0 : decode cJ9_max_7cf53 0 = .ok (.iload_n 0, 1) := by decide +kernel
theorem dJ9_max_7cf53_1 : decode cJ9_max_7cf53 1 = .ok (.iload_n 1, 1) := by decide +kernel
theorem dJ9_max_7cf53_2 : decode cJ9_max_7cf53 2 = .ok (.if_icmp .lt 7, 3) := by decide +kernel
theorem dJ9_max_7cf53_5 : decode cJ9_max_7cf53 5 = .ok (.iload_n 0, 1) := by decide +kernel
theorem dJ9_max_7cf53_6 : decode cJ9_max_7cf53 6 = .ok (.goto 4, 3) := by decide +kernel
theorem dJ9_max_7cf53_9 : decode cJ9_max_7cf53 9 = .ok (.iload_n 1, 1) := by decide +kernel
theorem dJ9_max_7cf53_10 : decode cJ9_max_7cf53 10 = .ok (.ireturn, 1) := by decide +kernel
set_option maxHeartbeats 4000000 in
set_option maxRecDepth 100000 in
theorem c_J9_max_7cf53 {E : u_E} {l : Launch} {p1 : Int} {p2 : Int} (i_p1 : InR p1) (i_p2 : InR p2) {s s' : u_S} {r : Int} (h : f_J9_max_7cf53 p1 p2 s = some (r, s')) : Con l (XE E) yJ9_max_7cf53 cJ9_max_7cf53 2 (some .int) 0 0 0 0 [.int (J p1), .int (J p2)] (Wd E s) (RI E r s') := by
  refine Con.ofF [some (.int (J p1)), some (.int (J p2))] (by decide +kernel) rfl rfl (Nat.le_of_ble_eq_true rfl) (fun K g => ?_)
  have g0 := g.wk
  unfold f_J9_max_7cf53 at h
  refine r_iload_n g0 dJ9_max_7cf53_0 rfl ?_
  refine r_iload_n g0 dJ9_max_7cf53_1 rfl ?_
  refine r_icmp_lt g0 9 dJ9_max_7cf53_2 (by decide) i_p1 i_p2 (fun hc => ?_) (fun hc => ?_)
  · replace h := if_t hc h
    refine r_iload_n g0 dJ9_max_7cf53_9 rfl ?_
    exact z_I g dJ9_max_7cf53_10 i_p2 h
  · replace h := if_f hc h
    refine r_iload_n g0 dJ9_max_7cf53_5 rfl ?_
    refine r_goto g0 10 dJ9_max_7cf53_6 (by decide) ?_
    exact z_I g dJ9_max_7cf53_10 i_p1 h
theorem dX0_end_0 : decode cX0_end 0 = .ok (.iconst 0, 1) := by decide +kernel
theorem dX0_end_1 : decode cX0_end 1 = .ok (.istore_n 1, 1) := by decide +kernel
theorem dX0_end_2 : decode cX0_end 2 = .ok (.iconst 0, 1) := by decide +kernel
theorem dX0_end_3 : decode cX0_end 3 = .ok (.istore_n 2, 1) := by decide +kernel
theorem dX0_end_4 : decode cX0_end 4 = .ok (.iload_n 2, 1) := by decide +kernel
theorem dX0_end_5 : decode cX0_end 5 = .ok (.aload_n 0, 1) := by decide +kernel
theorem dX0_end_6 : decode cX0_end 6 = .ok (.getfield 30, 3) := by decide +kernel
theorem dX0_end_9 : decode cX0_end 9 = .ok (.if_icmp .ge 23, 3) := by decide +kernel
theorem dX0_end_12 : decode cX0_end 12 = .ok (.iload_n 1, 1) := by decide +kernel
theorem dX0_end_13 : decode cX0_end 13 = .ok (.aload_n 0, 1) := by decide +kernel
theorem dX0_end_14 : decode cX0_end 14 = .ok (.getfield 11, 3) := by decide +kernel
theorem dX0_end_17 : decode cX0_end 17 = .ok (.iload_n 2, 1) := by decide +kernel
theorem dX0_end_18 : decode cX0_end 18 = .ok (.aaload, 1) := by decide +kernel
theorem dX0_end_19 : decode cX0_end 19 = .ok (.invokevirtual 69, 3) := by decide +kernel
theorem dX0_end_22 : decode cX0_end 22 = .ok (.invokestatic 73, 3) := by decide +kernel
theorem dX0_end_25 : decode cX0_end 25 = .ok (.istore_n 1, 1) := by decide +kernel
theorem dX0_end_26 : decode cX0_end 26 = .ok (.iinc 2 1, 3) := by decide +kernel
theorem dX0_end_29 : decode cX0_end 29 = .ok (.goto (-25), 3) := by decide +kernel
theorem dX0_end_32 : decode cX0_end 32 = .ok (.iload_n 1, 1) := by decide +kernel
theorem dX0_end_33 : decode cX0_end 33 = .ok (.ireturn, 1) := by decide +kernel
set_option maxHeartbeats 4000000 in
set_option maxRecDepth 100000 in
theorem t_X0_end_L4 {l : Launch} {E : u_E} {K : u_K} {r : Int} {s' : u_S} (g : Wk l (XE E) { frames := 1, cells := 0, slots := 0, locals := 21 } cX0_end 3 yX0_end.cls yX0_end.name (some .int) (RI E r s') K) {v0_1 : u_O} (i_v0_1 : is_Chorus v0_1) {kx32 : Int → u_S → Option (Int × u_S)} (hkx32 : ∀ (v1_3 : Int) (s_5 : u_S), InR v1_3 → kx32 v1_3 s_5 = some (r, s') → K 0 0 32 [none, some (.int (J v1_3)), none] [] (Wd E s_5)) : ∀ (m : Nat) (v1_2 : Int) (v2_1 : Int) (s_2 : u_S), InR v1_2 → InR v2_1 → f_X0_end_L4 m kx32 v0_1 v1_2 v2_1 s_2 = some (r, s') → K 0 0 4 [some (.ref (E.1 v0_1)), some (.int (J v1_2)), some (.int (J v2_1))] [] (Wd E s_2) := by
  have g0 := g.wk
  intro m
  induction m with
  | zero =>
    intro v1_2 v2_1 s_2 i_v1_2 i_v2_1 h
    exact absurd (show (none : Option (Int × u_S)) = some (r, s') from h) (by intro z; cases z)
  | succ m ih =>
    intro v1_2 v2_1 s_2 i_v1_2 i_v2_1 h
    rw [f_X0_end_L4] at h
    refine r_iload_n g0 dX0_end_4 rfl ?_
    refine r_aload_n g0 dX0_end_5 rfl ?_
    refine g_Chorus_count g0 i_v0_1 qX0_30 dX0_end_6 ?_
    refine r_icmp_ge g0 32 dX0_end_9 (by decide) i_v2_1 (InR_rd _ _ _) (fun hc => ?_) (fun hc => ?_)
    · replace h := if_f hc h
      refine r_mask g0 (lv' := [none, some (.int (J v1_2)), none]) [false, true, false] rfl ?_
      exact hkx32 v1_2 s_2 i_v1_2 h
    · replace h := if_t hc h
      refine r_iload_n g0 dX0_end_12 rfl ?_
      refine r_aload_n g0 dX0_end_13 rfl ?_
      refine g_Chorus_items g0 i_v0_1 qX0_11 dX0_end_14 ?_
      refine r_iload_n g0 dX0_end_17 rfl ?_
      obtain ⟨hb, h⟩ := gd_some h
      refine r_aald_Sound g0 (is_a_Chorus_items i_v0_1) i_v2_1 hb dX0_end_18 ?_
      obtain ⟨r_1, s_3, hr_1, h⟩ := bd_some h
      refine r_cVI g0 (rest := [.int (J v1_2)]) (c_X8_end (is_e_Sound (is_a_Chorus_items i_v0_1) hb) hr_1) ok_X8_end mX0_69 (recv_Sound (is_e_Sound (is_a_Chorus_items i_v0_1) hb)) dX0_end_19 ⟨Nat.le_of_ble_eq_true rfl, Nat.le_of_ble_eq_true rfl⟩ ⟨Nat.zero_le _, Nat.zero_le _⟩ rfl (Nat.le_of_ble_eq_true rfl) rfl (fun i_r_1 => ?_)
      obtain ⟨r_2, s_4, hr_2, h⟩ := bd_some h
      refine r_cSI g0 (rest := []) (c_J9_max_7cf53 i_v1_2 i_r_1 hr_2) ok_J9_max_7cf53 mX0_73 dX0_end_22 ⟨Nat.le_of_ble_eq_true rfl, Nat.le_of_ble_eq_true rfl⟩ ⟨Nat.zero_le _, Nat.zero_le _⟩ rfl (Nat.le_of_ble_eq_true rfl) rfl (fun i_r_2 => ?_)
      refine r_istore_n g0 (lv' := [some (.ref (E.1 v0_1)), some (.int (J r_2)), some (.int (J v2_1))]) dX0_end_25 (by decide) rfl rfl ?_
      refine r_iinc g0 (a := v2_1) (lv' := [some (.ref (E.1 v0_1)), some (.int (J r_2)), some (.int (J (wr (v2_1 + 1))))]) dX0_end_26 (by decide) rfl rfl rfl ?_
      refine r_goto g0 4 dX0_end_29 (by decide) ?_
      exact ih r_2 (wr (v2_1 + 1)) s_4 i_r_2 (InR_wr _) h
set_option maxHeartbeats 4000000 in
set_option maxRecDepth 100000 in
theorem c_X0_end {E : u_E} {l : Launch} {o : u_O} (ho : is_Chorus o) {s s' : u_S} {r : Int} (h : f_X0_end o s = some (r, s')) : Con l (XE E) yX0_end cX0_end 3 (some .int) 1 21 0 0 [.ref (E.1 o)] (Wd E s) (RI E r s') := by
  refine Con.of [some (.ref (E.1 o)), none, none] (by decide +kernel) rfl rfl (Nat.le_of_ble_eq_true rfl) (fun K g => ?_)
  have g0 := g.wk
  unfold f_X0_end at h
  refine r_iconst g0 dX0_end_0 ?_
  refine r_istore_n g0 (lv' := [some (.ref (E.1 o)), some (.int (J 0)), none]) dX0_end_1 (by decide) rfl rfl ?_
  refine r_iconst g0 dX0_end_2 ?_
  refine r_istore_n g0 (lv' := [some (.ref (E.1 o)), some (.int (J 0)), some (.int (J 0))]) dX0_end_3 (by decide) rfl rfl ?_
  refine t_X0_end_L4 g ho ?_ FU 0 0 s (B01.inR B01_0) (B01.inR B01_0) h
  · intro v1_1 s_1 i_v1_1 h
    refine r_iload_n g0 dX0_end_32 rfl ?_
    exact z_I g dX0_end_33 i_v1_1 h
theorem dX0_mostAtOnce_0 : decode cX0_mostAtOnce 0 = .ok (.aload_n 0, 1) := by decide +kernel
theorem dX0_mostAtOnce_1 : decode cX0_mostAtOnce 1 = .ok (.invokevirtual 76, 3) := by decide +kernel
theorem dX0_mostAtOnce_4 : decode cX0_mostAtOnce 4 = .ok (.istore_n 1, 1) := by decide +kernel
theorem dX0_mostAtOnce_5 : decode cX0_mostAtOnce 5 = .ok (.iconst 0, 1) := by decide +kernel
theorem dX0_mostAtOnce_6 : decode cX0_mostAtOnce 6 = .ok (.istore_n 2, 1) := by decide +kernel
theorem dX0_mostAtOnce_7 : decode cX0_mostAtOnce 7 = .ok (.iconst 0, 1) := by decide +kernel
theorem dX0_mostAtOnce_8 : decode cX0_mostAtOnce 8 = .ok (.istore_n 3, 1) := by decide +kernel
theorem dX0_mostAtOnce_9 : decode cX0_mostAtOnce 9 = .ok (.iload_n 3, 1) := by decide +kernel
theorem dX0_mostAtOnce_10 : decode cX0_mostAtOnce 10 = .ok (.iload_n 1, 1) := by decide +kernel
theorem dX0_mostAtOnce_11 : decode cX0_mostAtOnce 11 = .ok (.if_icmp .ge 54, 3) := by decide +kernel
theorem dX0_mostAtOnce_14 : decode cX0_mostAtOnce 14 = .ok (.iconst 0, 1) := by decide +kernel
theorem dX0_mostAtOnce_15 : decode cX0_mostAtOnce 15 = .ok (.istore 4, 2) := by decide +kernel
theorem dX0_mostAtOnce_17 : decode cX0_mostAtOnce 17 = .ok (.iconst 0, 1) := by decide +kernel
theorem dX0_mostAtOnce_18 : decode cX0_mostAtOnce 18 = .ok (.istore 5, 2) := by decide +kernel
theorem dX0_mostAtOnce_20 : decode cX0_mostAtOnce 20 = .ok (.iload 5, 2) := by decide +kernel
theorem dX0_mostAtOnce_22 : decode cX0_mostAtOnce 22 = .ok (.aload_n 0, 1) := by decide +kernel
theorem dX0_mostAtOnce_23 : decode cX0_mostAtOnce 23 = .ok (.getfield 30, 3) := by decide +kernel
theorem dX0_mostAtOnce_26 : decode cX0_mostAtOnce 26 = .ok (.if_icmp .ge 26, 3) := by decide +kernel
theorem dX0_mostAtOnce_29 : decode cX0_mostAtOnce 29 = .ok (.aload_n 0, 1) := by decide +kernel
theorem dX0_mostAtOnce_30 : decode cX0_mostAtOnce 30 = .ok (.getfield 11, 3) := by decide +kernel
theorem dX0_mostAtOnce_33 : decode cX0_mostAtOnce 33 = .ok (.iload 5, 2) := by decide +kernel
theorem dX0_mostAtOnce_35 : decode cX0_mostAtOnce 35 = .ok (.aaload, 1) := by decide +kernel
theorem dX0_mostAtOnce_36 : decode cX0_mostAtOnce 36 = .ok (.iload_n 3, 1) := by decide +kernel
theorem dX0_mostAtOnce_37 : decode cX0_mostAtOnce 37 = .ok (.invokevirtual 61, 3) := by decide +kernel
theorem dX0_mostAtOnce_40 : decode cX0_mostAtOnce 40 = .ok (.ifCond .eq 6, 3) := by decide +kernel
theorem dX0_mostAtOnce_43 : decode cX0_mostAtOnce 43 = .ok (.iinc 4 1, 3) := by decide +kernel
theorem dX0_mostAtOnce_46 : decode cX0_mostAtOnce 46 = .ok (.iinc 5 1, 3) := by decide +kernel
theorem dX0_mostAtOnce_49 : decode cX0_mostAtOnce 49 = .ok (.goto (-29), 3) := by decide +kernel
theorem dX0_mostAtOnce_52 : decode cX0_mostAtOnce 52 = .ok (.iload_n 2, 1) := by decide +kernel
theorem dX0_mostAtOnce_53 : decode cX0_mostAtOnce 53 = .ok (.iload 4, 2) := by decide +kernel
theorem dX0_mostAtOnce_55 : decode cX0_mostAtOnce 55 = .ok (.invokestatic 73, 3) := by decide +kernel
theorem dX0_mostAtOnce_58 : decode cX0_mostAtOnce 58 = .ok (.istore_n 2, 1) := by decide +kernel
theorem dX0_mostAtOnce_59 : decode cX0_mostAtOnce 59 = .ok (.iinc 3 1, 3) := by decide +kernel
theorem dX0_mostAtOnce_62 : decode cX0_mostAtOnce 62 = .ok (.goto (-53), 3) := by decide +kernel
theorem dX0_mostAtOnce_65 : decode cX0_mostAtOnce 65 = .ok (.iload_n 2, 1) := by decide +kernel
theorem dX0_mostAtOnce_66 : decode cX0_mostAtOnce 66 = .ok (.ireturn, 1) := by decide +kernel
set_option maxHeartbeats 4000000 in
set_option maxRecDepth 100000 in
theorem t_X0_mostAtOnce_L20 {l : Launch} {E : u_E} {K : u_K} {r : Int} {s' : u_S} (g : Wk l (XE E) { frames := 2, cells := 0, slots := 0, locals := 43 } cX0_mostAtOnce 6 yX0_mostAtOnce.cls yX0_mostAtOnce.name (some .int) (RI E r s') K) {v0_2 : u_O} {v1_2 : Int} {v2_3 : Int} {v3_2 : Int} (i_v0_2 : is_Chorus v0_2) (i_v1_2 : InR v1_2) (i_v2_3 : InR v2_3) (i_v3_2 : InR v3_2) {kx52 : Int → u_S → Option (Int × u_S)} (hkx52 : ∀ (v4_4 : Int) (s_9 : u_S), InR v4_4 → kx52 v4_4 s_9 = some (r, s') → K 0 0 52 [some (.ref (E.1 v0_2)), some (.int (J v1_2)), some (.int (J v2_3)), some (.int (J v3_2)), some (.int (J v4_4)), none] [] (Wd E s_9)) : ∀ (m : Nat) (v4_2 : Int) (v5_1 : Int) (s_6 : u_S), InR v4_2 → InR v5_1 → f_X0_mostAtOnce_L20 m kx52 v0_2 v1_2 v2_3 v3_2 v4_2 v5_1 s_6 = some (r, s') → K 0 0 20 [some (.ref (E.1 v0_2)), some (.int (J v1_2)), some (.int (J v2_3)), some (.int (J v3_2)), some (.int (J v4_2)), some (.int (J v5_1))] [] (Wd E s_6) := by
  have g0 := g.wk
  intro m
  induction m with
  | zero =>
    intro v4_2 v5_1 s_6 i_v4_2 i_v5_1 h
    exact absurd (show (none : Option (Int × u_S)) = some (r, s') from h) (by intro z; cases z)
  | succ m ih =>
    intro v4_2 v5_1 s_6 i_v4_2 i_v5_1 h
    rw [f_X0_mostAtOnce_L20] at h
    refine r_iload g0 dX0_mostAtOnce_20 rfl ?_
    refine r_aload_n g0 dX0_mostAtOnce_22 rfl ?_
    refine g_Chorus_count g0 i_v0_2 qX0_30 dX0_mostAtOnce_23 ?_
    refine r_icmp_ge g0 52 dX0_mostAtOnce_26 (by decide) i_v5_1 (InR_rd _ _ _) (fun hc => ?_) (fun hc => ?_)
    · replace h := if_f hc h
      refine r_mask g0 (lv' := [some (.ref (E.1 v0_2)), some (.int (J v1_2)), some (.int (J v2_3)), some (.int (J v3_2)), some (.int (J v4_2)), none]) [true, true, true, true, true, false] rfl ?_
      exact hkx52 v4_2 s_6 i_v4_2 h
    · replace h := if_t hc h
      refine r_aload_n g0 dX0_mostAtOnce_29 rfl ?_
      refine g_Chorus_items g0 i_v0_2 qX0_11 dX0_mostAtOnce_30 ?_
      refine r_iload g0 dX0_mostAtOnce_33 rfl ?_
      obtain ⟨hb, h⟩ := gd_some h
      refine r_aald_Sound g0 (is_a_Chorus_items i_v0_2) i_v5_1 hb dX0_mostAtOnce_35 ?_
      refine r_iload_n g0 dX0_mostAtOnce_36 rfl ?_
      obtain ⟨r_3, s_7, hr_3, h⟩ := bd_some h
      refine r_cVZ g0 (rest := []) (c_X8_isHeardAt (is_e_Sound (is_a_Chorus_items i_v0_2) hb) i_v3_2 hr_3) ok_X8_isHeardAt mX0_61 (recv_Sound (is_e_Sound (is_a_Chorus_items i_v0_2) hb)) dX0_mostAtOnce_37 ⟨Nat.le_of_ble_eq_true rfl, Nat.le_of_ble_eq_true rfl⟩ ⟨Nat.zero_le _, Nat.zero_le _⟩ rfl (Nat.le_of_ble_eq_true rfl) rfl (fun i_r_3 => ?_)
      obtain ⟨jp_1, hdjp_1, h⟩ := jn_some h
      have hjp_1 : ∀ (v4_3 : Int) (s_8 : u_S), InR v4_3 → jp_1 v4_3 s_8 = some (r, s') → K 0 0 46 [some (.ref (E.1 v0_2)), some (.int (J v1_2)), some (.int (J v2_3)), some (.int (J v3_2)), some (.int (J v4_3)), some (.int (J v5_1))] [] (Wd E s_8) := by
        intro v4_3 s_8 i_v4_3 h
        subst hdjp_1
        refine r_iinc g0 (a := v5_1) (lv' := [some (.ref (E.1 v0_2)), some (.int (J v1_2)), some (.int (J v2_3)), some (.int (J v3_2)), some (.int (J v4_3)), some (.int (J (wr (v5_1 + 1))))]) dX0_mostAtOnce_46 (by decide) rfl rfl rfl ?_
        refine r_goto g0 20 dX0_mostAtOnce_49 (by decide) ?_
        exact ih v4_3 (wr (v5_1 + 1)) s_8 i_v4_3 (InR_wr _) h
      clear hdjp_1
      refine r_if_eq g0 46 dX0_mostAtOnce_40 (by decide) (B01.inR i_r_3) (fun hc => ?_) (fun hc => ?_)
      · replace h := if_t hc h
        exact hjp_1 v4_2 s_7 i_v4_2 h
      · replace h := if_f hc h
        refine r_iinc g0 (a := v4_2) (lv' := [some (.ref (E.1 v0_2)), some (.int (J v1_2)), some (.int (J v2_3)), some (.int (J v3_2)), some (.int (J (wr (v4_2 + 1)))), some (.int (J v5_1))]) dX0_mostAtOnce_43 (by decide) rfl rfl rfl ?_
        exact hjp_1 (wr (v4_2 + 1)) s_7 (InR_wr _) h
set_option maxHeartbeats 4000000 in
set_option maxRecDepth 100000 in
theorem t_X0_mostAtOnce_L9 {l : Launch} {E : u_E} {K : u_K} {r : Int} {s' : u_S} (g : Wk l (XE E) { frames := 2, cells := 0, slots := 0, locals := 43 } cX0_mostAtOnce 6 yX0_mostAtOnce.cls yX0_mostAtOnce.name (some .int) (RI E r s') K) {v0_1 : u_O} {v1_1 : Int} (i_v0_1 : is_Chorus v0_1) (i_v1_1 : InR v1_1) {kx65 : Int → u_S → Option (Int × u_S)} (hkx65 : ∀ (v2_4 : Int) (s_10 : u_S), InR v2_4 → kx65 v2_4 s_10 = some (r, s') → K 0 0 65 [none, none, some (.int (J v2_4)), none, none, none] [] (Wd E s_10)) : ∀ (m : Nat) (v2_2 : Int) (v3_1 : Int) (s_3 : u_S), InR v2_2 → InR v3_1 → f_X0_mostAtOnce_L9 m kx65 v0_1 v1_1 v2_2 v3_1 s_3 = some (r, s') → K 0 0 9 [some (.ref (E.1 v0_1)), some (.int (J v1_1)), some (.int (J v2_2)), some (.int (J v3_1)), none, none] [] (Wd E s_3) := by
  have g0 := g.wk
  intro m
  induction m with
  | zero =>
    intro v2_2 v3_1 s_3 i_v2_2 i_v3_1 h
    exact absurd (show (none : Option (Int × u_S)) = some (r, s') from h) (by intro z; cases z)
  | succ m ih =>
    intro v2_2 v3_1 s_3 i_v2_2 i_v3_1 h
    rw [f_X0_mostAtOnce_L9] at h
    refine r_iload_n g0 dX0_mostAtOnce_9 rfl ?_
    refine r_iload_n g0 dX0_mostAtOnce_10 rfl ?_
    refine r_icmp_ge g0 65 dX0_mostAtOnce_11 (by decide) i_v3_1 i_v1_1 (fun hc => ?_) (fun hc => ?_)
    · replace h := if_f hc h
      refine r_mask g0 (lv' := [none, none, some (.int (J v2_2)), none, none, none]) [false, false, true, false, false, false] rfl ?_
      exact hkx65 v2_2 s_3 i_v2_2 h
    · replace h := if_t hc h
      refine r_iconst g0 dX0_mostAtOnce_14 ?_
      refine r_istore g0 (lv' := [some (.ref (E.1 v0_1)), some (.int (J v1_1)), some (.int (J v2_2)), some (.int (J v3_1)), some (.int (J 0)), none]) dX0_mostAtOnce_15 (by decide) rfl rfl ?_
      refine r_iconst g0 dX0_mostAtOnce_17 ?_
      refine r_istore g0 (lv' := [some (.ref (E.1 v0_1)), some (.int (J v1_1)), some (.int (J v2_2)), some (.int (J v3_1)), some (.int (J 0)), some (.int (J 0))]) dX0_mostAtOnce_18 (by decide) rfl rfl ?_
      refine t_X0_mostAtOnce_L20 g i_v0_1 i_v1_1 i_v2_2 i_v3_1 ?_ FU 0 0 s_3 (B01.inR B01_0) (B01.inR B01_0) h
      · intro v4_1 s_4 i_v4_1 h
        refine r_iload_n g0 dX0_mostAtOnce_52 rfl ?_
        refine r_iload g0 dX0_mostAtOnce_53 rfl ?_
        obtain ⟨r_2, s_5, hr_2, h⟩ := bd_some h
        refine r_cSI g0 (rest := []) (c_J9_max_7cf53 i_v2_2 i_v4_1 hr_2) ok_J9_max_7cf53 mX0_73 dX0_mostAtOnce_55 ⟨Nat.le_of_ble_eq_true rfl, Nat.le_of_ble_eq_true rfl⟩ ⟨Nat.zero_le _, Nat.zero_le _⟩ rfl (Nat.le_of_ble_eq_true rfl) rfl (fun i_r_2 => ?_)
        refine r_istore_n g0 (lv' := [some (.ref (E.1 v0_1)), some (.int (J v1_1)), some (.int (J r_2)), some (.int (J v3_1)), some (.int (J v4_1)), none]) dX0_mostAtOnce_58 (by decide) rfl rfl ?_
        refine r_iinc g0 (a := v3_1) (lv' := [some (.ref (E.1 v0_1)), some (.int (J v1_1)), some (.int (J r_2)), some (.int (J (wr (v3_1 + 1)))), some (.int (J v4_1)), none]) dX0_mostAtOnce_59 (by decide) rfl rfl rfl ?_
        refine r_goto g0 9 dX0_mostAtOnce_62 (by decide) ?_
        refine r_mask g0 (lv' := [some (.ref (E.1 v0_1)), some (.int (J v1_1)), some (.int (J r_2)), some (.int (J (wr (v3_1 + 1)))), none, none]) [true, true, true, true, false, false] rfl ?_
        exact ih r_2 (wr (v3_1 + 1)) s_5 i_r_2 (InR_wr _) h
set_option maxHeartbeats 4000000 in
set_option maxRecDepth 100000 in
theorem c_X0_mostAtOnce {E : u_E} {l : Launch} {o : u_O} (ho : is_Chorus o) {s s' : u_S} {r : Int} (h : f_X0_mostAtOnce o s = some (r, s')) : Con l (XE E) yX0_mostAtOnce cX0_mostAtOnce 6 (some .int) 2 43 0 0 [.ref (E.1 o)] (Wd E s) (RI E r s') := by
  refine Con.of [some (.ref (E.1 o)), none, none, none, none, none] (by decide +kernel) rfl rfl (Nat.le_of_ble_eq_true rfl) (fun K g => ?_)
  have g0 := g.wk
  unfold f_X0_mostAtOnce at h
  refine r_aload_n g0 dX0_mostAtOnce_0 rfl ?_
  obtain ⟨r_1, s_1, hr_1, h⟩ := bd_some h
  refine r_cVI g0 (rest := []) (c_X0_end ho hr_1) ok_X0_end mX0_76 (recv_Chorus ho) dX0_mostAtOnce_1 ⟨Nat.le_of_ble_eq_true rfl, Nat.le_of_ble_eq_true rfl⟩ ⟨Nat.zero_le _, Nat.zero_le _⟩ rfl (Nat.le_of_ble_eq_true rfl) rfl (fun i_r_1 => ?_)
  refine r_istore_n g0 (lv' := [some (.ref (E.1 o)), some (.int (J r_1)), none, none, none, none]) dX0_mostAtOnce_4 (by decide) rfl rfl ?_
  refine r_iconst g0 dX0_mostAtOnce_5 ?_
  refine r_istore_n g0 (lv' := [some (.ref (E.1 o)), some (.int (J r_1)), some (.int (J 0)), none, none, none]) dX0_mostAtOnce_6 (by decide) rfl rfl ?_
  refine r_iconst g0 dX0_mostAtOnce_7 ?_
  refine r_istore_n g0 (lv' := [some (.ref (E.1 o)), some (.int (J r_1)), some (.int (J 0)), some (.int (J 0)), none, none]) dX0_mostAtOnce_8 (by decide) rfl rfl ?_
  refine t_X0_mostAtOnce_L9 g ho i_r_1 ?_ FU 0 0 s_1 (B01.inR B01_0) (B01.inR B01_0) h
  · intro v2_1 s_2 i_v2_1 h
    refine r_iload_n g0 dX0_mostAtOnce_65 rfl ?_
    exact z_I g dX0_mostAtOnce_66 i_v2_1 h
theorem dX3_forget_0 : decode cX3_forget 0 = .ok (.aload_n 0, 1) := by decide +kernel
theorem dX3_forget_1 : decode cX3_forget 1 = .ok (.iconst 0, 1) := by decide +kernel
theorem dX3_forget_2 : decode cX3_forget 2 = .ok (.putfield 9, 3) := by decide +kernel
theorem dX3_forget_5 : decode cX3_forget 5 = .ok (.aload_n 0, 1) := by decide +kernel
theorem dX3_forget_6 : decode cX3_forget 6 = .ok (.iconst 0, 1) := by decide +kernel
theorem dX3_forget_7 : decode cX3_forget 7 = .ok (.putfield 15, 3) := by decide +kernel
theorem dX3_forget_10 : decode cX3_forget 10 = .ok (.aload_n 0, 1) := by decide +kernel
theorem dX3_forget_11 : decode cX3_forget 11 = .ok (.iconst 0, 1) := by decide +kernel
theorem dX3_forget_12 : decode cX3_forget 12 = .ok (.putfield 18, 3) := by decide +kernel
theorem dX3_forget_15 : decode cX3_forget 15 = .ok (.return_, 1) := by decide +kernel
set_option maxHeartbeats 4000000 in
set_option maxRecDepth 100000 in
theorem c_X3_forget {E : u_E} {l : Launch} {o : u_O} (ho : is_Faults o) {s s' : u_S} {r : Int} (h : f_X3_forget o s = some (r, s')) : Con l (XE E) yX3_forget cX3_forget 1 none 0 0 0 0 [.ref (E.1 o)] (Wd E s) (RV E r s') := by
  refine Con.of [some (.ref (E.1 o))] (by decide +kernel) rfl rfl (Nat.le_of_ble_eq_true rfl) (fun K g => ?_)
  have g0 := g.wk
  unfold f_X3_forget at h
  refine r_aload_n g0 dX3_forget_0 rfl ?_
  refine r_iconst g0 dX3_forget_1 ?_
  refine p_Faults_clashes g0 ho qX3_9 dX3_forget_2 ?_
  refine r_aload_n g0 dX3_forget_5 rfl ?_
  refine r_iconst g0 dX3_forget_6 ?_
  refine p_Faults_crossings g0 ho qX3_15 dX3_forget_7 ?_
  refine r_aload_n g0 dX3_forget_10 rfl ?_
  refine r_iconst g0 dX3_forget_11 ?_
  refine p_Faults_parallels g0 ho qX3_18 dX3_forget_12 ?_
  exact z_V g dX3_forget_15 h
theorem dX3_isHarsh_0 : decode cX3_isHarsh 0 = .ok (.iload_n 0, 1) := by decide +kernel
theorem dX3_isHarsh_1 : decode cX3_isHarsh 1 = .ok (.iload_n 1, 1) := by decide +kernel
theorem dX3_isHarsh_2 : decode cX3_isHarsh 2 = .ok (.isub, 1) := by decide +kernel
theorem dX3_isHarsh_3 : decode cX3_isHarsh 3 = .ok (.bipush 7, 2) := by decide +kernel
theorem dX3_isHarsh_5 : decode cX3_isHarsh 5 = .ok (.invokestatic 62, 3) := by decide +kernel
theorem dX3_isHarsh_8 : decode cX3_isHarsh 8 = .ok (.istore_n 2, 1) := by decide +kernel
theorem dX3_isHarsh_9 : decode cX3_isHarsh 9 = .ok (.iload_n 2, 1) := by decide +kernel
theorem dX3_isHarsh_10 : decode cX3_isHarsh 10 = .ok (.iconst 1, 1) := by decide +kernel
theorem dX3_isHarsh_11 : decode cX3_isHarsh 11 = .ok (.if_icmp .eq 14, 3) := by decide +kernel
theorem dX3_isHarsh_14 : decode cX3_isHarsh 14 = .ok (.iload_n 2, 1) := by decide +kernel
theorem dX3_isHarsh_15 : decode cX3_isHarsh 15 = .ok (.iconst 3, 1) := by decide +kernel
theorem dX3_isHarsh_16 : decode cX3_isHarsh 16 = .ok (.if_icmp .eq 9, 3) := by decide +kernel
theorem dX3_isHarsh_19 : decode cX3_isHarsh 19 = .ok (.iload_n 2, 1) := by decide +kernel
theorem dX3_isHarsh_20 : decode cX3_isHarsh 20 = .ok (.bipush 6, 2) := by decide +kernel
theorem dX3_isHarsh_22 : decode cX3_isHarsh 22 = .ok (.if_icmp .ne 7, 3) := by decide +kernel
theorem dX3_isHarsh_25 : decode cX3_isHarsh 25 = .ok (.iconst 1, 1) := by decide +kernel
theorem dX3_isHarsh_26 : decode cX3_isHarsh 26 = .ok (.goto 4, 3) := by decide +kernel
theorem dX3_isHarsh_29 : decode cX3_isHarsh 29 = .ok (.iconst 0, 1) := by decide +kernel
theorem dX3_isHarsh_30 : decode cX3_isHarsh 30 = .ok (.ireturn, 1) := by decide +kernel
set_option maxHeartbeats 4000000 in
set_option maxRecDepth 100000 in
theorem c_X3_isHarsh {E : u_E} {l : Launch} {p1 : Int} {p2 : Int} (i_p1 : InR p1) (i_p2 : InR p2) {s s' : u_S} {r : Int} (h : f_X3_isHarsh p1 p2 s = some (r, s')) : Con l (XE E) yX3_isHarsh cX3_isHarsh 3 (some .boolean) 1 22 0 0 [.int (J p1), .int (J p2)] (Wd E s) (RZ E r s') := by
  refine Con.of [some (.int (J p1)), some (.int (J p2)), none] (by decide +kernel) rfl rfl (Nat.le_of_ble_eq_true rfl) (fun K g => ?_)
  have g0 := g.wk
  unfold f_X3_isHarsh at h
  refine r_iload_n g0 dX3_isHarsh_0 rfl ?_
  refine r_iload_n g0 dX3_isHarsh_1 rfl ?_
  refine r_isub g0 dX3_isHarsh_2 ?_
  refine r_bipush g0 dX3_isHarsh_3 rfl ?_
  obtain ⟨r_1, s_1, hr_1, h⟩ := bd_some h
  refine r_cSI g0 (rest := []) (c_J9_floorMod_7cf53 (InR_wr _) (InR_lit rfl) hr_1) ok_J9_floorMod_7cf53 mX3_62 dX3_isHarsh_5 ⟨Nat.le_of_ble_eq_true rfl, Nat.le_of_ble_eq_true rfl⟩ ⟨Nat.zero_le _, Nat.zero_le _⟩ rfl (Nat.le_of_ble_eq_true rfl) rfl (fun i_r_1 => ?_)
  refine r_istore_n g0 (lv' := [some (.int (J p1)), some (.int (J p2)), some (.int (J r_1))]) dX3_isHarsh_8 (by decide) rfl rfl ?_
  refine r_iload_n g0 dX3_isHarsh_9 rfl ?_
  refine r_iconst g0 dX3_isHarsh_10 ?_
  obtain ⟨jp_1, hdjp_1, h⟩ := jn_some h
  have hjp_1 : ∀  (s_2 : u_S), jp_1 s_2 = some (r, s') → K 0 0 25 [none, none, none] [] (Wd E s_2) := by
    intro s_2 h
    subst hdjp_1
    refine r_iconst g0 dX3_isHarsh_25 ?_
    refine r_goto g0 30 dX3_isHarsh_26 (by decide) ?_
    exact z_Z g dX3_isHarsh_30 B01_1 h
  clear hdjp_1
  refine r_icmp_eq g0 25 dX3_isHarsh_11 (by decide) i_r_1 (B01.inR B01_1) (fun hc => ?_) (fun hc => ?_)
  · replace h := if_t hc h
    refine r_mask g0 (lv' := [none, none, none]) [false, false, false] rfl ?_
    exact hjp_1 s_1 h
  · replace h := if_f hc h
    refine r_iload_n g0 dX3_isHarsh_14 rfl ?_
    refine r_iconst g0 dX3_isHarsh_15 ?_
    refine r_icmp_eq g0 25 dX3_isHarsh_16 (by decide) i_r_1 (InR_lit rfl) (fun hc => ?_) (fun hc => ?_)
    · replace h := if_t hc h
      refine r_mask g0 (lv' := [none, none, none]) [false, false, false] rfl ?_
      exact hjp_1 s_1 h
    · replace h := if_f hc h
      refine r_iload_n g0 dX3_isHarsh_19 rfl ?_
      refine r_bipush g0 dX3_isHarsh_20 rfl ?_
      refine r_icmp_ne g0 29 dX3_isHarsh_22 (by decide) i_r_1 (InR_lit rfl) (fun hc => ?_) (fun hc => ?_)
      · replace h := if_f hc h
        refine r_iconst g0 dX3_isHarsh_29 ?_
        exact z_Z g dX3_isHarsh_30 B01_0 h
      · replace h := if_t hc h
        refine r_mask g0 (lv' := [none, none, none]) [false, false, false] rfl ?_
        exact hjp_1 s_1 h
theorem dX3_isParallel_0 : decode cX3_isParallel 0 = .ok (.iload_n 0, 1) := by decide +kernel
theorem dX3_isParallel_1 : decode cX3_isParallel 1 = .ok (.iload_n 2, 1) := by decide +kernel
theorem dX3_isParallel_2 : decode cX3_isParallel 2 = .ok (.if_icmp .le 12, 3) := by decide +kernel
theorem dX3_isParallel_5 : decode cX3_isParallel 5 = .ok (.iload_n 1, 1) := by decide +kernel
theorem dX3_isParallel_6 : decode cX3_isParallel 6 = .ok (.iload_n 3, 1) := by decide +kernel
theorem dX3_isParallel_7 : decode cX3_isParallel 7 = .ok (.if_icmp .le 7, 3) := by decide +kernel
theorem dX3_isParallel_10 : decode cX3_isParallel 10 = .ok (.iconst 1, 1) := by decide +kernel
theorem dX3_isParallel_11 : decode cX3_isParallel 11 = .ok (.goto 4, 3) := by decide +kernel
theorem dX3_isParallel_14 : decode cX3_isParallel 14 = .ok (.iconst 0, 1) := by decide +kernel
theorem dX3_isParallel_15 : decode cX3_isParallel 15 = .ok (.istore 4, 2) := by decide +kernel
theorem dX3_isParallel_17 : decode cX3_isParallel 17 = .ok (.iload_n 0, 1) := by decide +kernel
theorem dX3_isParallel_18 : decode cX3_isParallel 18 = .ok (.iload_n 2, 1) := by decide +kernel
theorem dX3_isParallel_19 : decode cX3_isParallel 19 = .ok (.if_icmp .ge 12, 3) := by decide +kernel
theorem dX3_isParallel_22 : decode cX3_isParallel 22 = .ok (.iload_n 1, 1) := by decide +kernel
theorem dX3_isParallel_23 : decode cX3_isParallel 23 = .ok (.iload_n 3, 1) := by decide +kernel
theorem dX3_isParallel_24 : decode cX3_isParallel 24 = .ok (.if_icmp .ge 7, 3) := by decide +kernel
theorem dX3_isParallel_27 : decode cX3_isParallel 27 = .ok (.iconst 1, 1) := by decide +kernel
theorem dX3_isParallel_28 : decode cX3_isParallel 28 = .ok (.goto 4, 3) := by decide +kernel
theorem dX3_isParallel_31 : decode cX3_isParallel 31 = .ok (.iconst 0, 1) := by decide +kernel
theorem dX3_isParallel_32 : decode cX3_isParallel 32 = .ok (.istore 5, 2) := by decide +kernel
theorem dX3_isParallel_34 : decode cX3_isParallel 34 = .ok (.iload_n 0, 1) := by decide +kernel
theorem dX3_isParallel_35 : decode cX3_isParallel 35 = .ok (.iload_n 1, 1) := by decide +kernel
theorem dX3_isParallel_36 : decode cX3_isParallel 36 = .ok (.isub, 1) := by decide +kernel
theorem dX3_isParallel_37 : decode cX3_isParallel 37 = .ok (.bipush 7, 2) := by decide +kernel
theorem dX3_isParallel_39 : decode cX3_isParallel 39 = .ok (.invokestatic 62, 3) := by decide +kernel
theorem dX3_isParallel_42 : decode cX3_isParallel 42 = .ok (.istore 6, 2) := by decide +kernel
theorem dX3_isParallel_44 : decode cX3_isParallel 44 = .ok (.iload 4, 2) := by decide +kernel
theorem dX3_isParallel_46 : decode cX3_isParallel 46 = .ok (.ifCond .ne 8, 3) := by decide +kernel
theorem dX3_isParallel_49 : decode cX3_isParallel 49 = .ok (.iload 5, 2) := by decide +kernel
theorem dX3_isParallel_51 : decode cX3_isParallel 51 = .ok (.ifCond .eq 31, 3) := by decide +kernel
theorem dX3_isParallel_54 : decode cX3_isParallel 54 = .ok (.iload 6, 2) := by decide +kernel
theorem dX3_isParallel_56 : decode cX3_isParallel 56 = .ok (.ifCond .eq 9, 3) := by decide +kernel
theorem dX3_isParallel_59 : decode cX3_isParallel 59 = .ok (.iload 6, 2) := by decide +kernel
theorem dX3_isParallel_61 : decode cX3_isParallel 61 = .ok (.iconst 4, 1) := by decide +kernel
theorem dX3_isParallel_62 : decode cX3_isParallel 62 = .ok (.if_icmp .ne 20, 3) := by decide +kernel
theorem dX3_isParallel_65 : decode cX3_isParallel 65 = .ok (.iload_n 2, 1) := by decide +kernel
theorem dX3_isParallel_66 : decode cX3_isParallel 66 = .ok (.iload_n 3, 1) := by decide +kernel
theorem dX3_isParallel_67 : decode cX3_isParallel 67 = .ok (.isub, 1) := by decide +kernel
theorem dX3_isParallel_68 : decode cX3_isParallel 68 = .ok (.bipush 7, 2) := by decide +kernel
theorem dX3_isParallel_70 : decode cX3_isParallel 70 = .ok (.invokestatic 62, 3) := by decide +kernel
theorem dX3_isParallel_73 : decode cX3_isParallel 73 = .ok (.iload 6, 2) := by decide +kernel
theorem dX3_isParallel_75 : decode cX3_isParallel 75 = .ok (.if_icmp .ne 7, 3) := by decide +kernel
theorem dX3_isParallel_78 : decode cX3_isParallel 78 = .ok (.iconst 1, 1) := by decide +kernel
theorem dX3_isParallel_79 : decode cX3_isParallel 79 = .ok (.goto 4, 3) := by decide +kernel
theorem dX3_isParallel_82 : decode cX3_isParallel 82 = .ok (.iconst 0, 1) := by decide +kernel
theorem dX3_isParallel_83 : decode cX3_isParallel 83 = .ok (.ireturn, 1) := by decide +kernel
set_option maxHeartbeats 4000000 in
set_option maxRecDepth 100000 in
theorem c_X3_isParallel {E : u_E} {l : Launch} {p1 : Int} {p2 : Int} {p3 : Int} {p4 : Int} (i_p1 : InR p1) (i_p2 : InR p2) (i_p3 : InR p3) (i_p4 : InR p4) {s s' : u_S} {r : Int} (h : f_X3_isParallel p1 p2 p3 p4 s = some (r, s')) : Con l (XE E) yX3_isParallel cX3_isParallel 7 (some .boolean) 1 22 0 0 [.int (J p1), .int (J p2), .int (J p3), .int (J p4)] (Wd E s) (RZ E r s') := by
  refine Con.of [some (.int (J p1)), some (.int (J p2)), some (.int (J p3)), some (.int (J p4)), none, none, none] (by decide +kernel) rfl rfl (Nat.le_of_ble_eq_true rfl) (fun K g => ?_)
  have g0 := g.wk
  unfold f_X3_isParallel at h
  refine r_iload_n g0 dX3_isParallel_0 rfl ?_
  refine r_iload_n g0 dX3_isParallel_1 rfl ?_
  obtain ⟨jp_1, hdjp_1, h⟩ := jn_some h
  have hjp_1 : ∀ (vt_1 : Int) (s_1 : u_S), B01 vt_1 → jp_1 vt_1 s_1 = some (r, s') → K 0 0 15 [some (.int (J p1)), some (.int (J p2)), some (.int (J p3)), some (.int (J p4)), none, none, none] [.int (J vt_1)] (Wd E s_1) := by
    intro vt_1 s_1 i_vt_1 h
    subst hdjp_1
    refine r_istore g0 (lv' := [some (.int (J p1)), some (.int (J p2)), some (.int (J p3)), some (.int (J p4)), some (.int (J vt_1)), none, none]) dX3_isParallel_15 (by decide) rfl rfl ?_
    refine r_iload_n g0 dX3_isParallel_17 rfl ?_
    refine r_iload_n g0 dX3_isParallel_18 rfl ?_
    obtain ⟨jp_2, hdjp_2, h⟩ := jn_some h
    have hjp_2 : ∀ (vt_2 : Int) (s_2 : u_S), B01 vt_2 → jp_2 vt_2 s_2 = some (r, s') → K 0 0 32 [some (.int (J p1)), some (.int (J p2)), some (.int (J p3)), some (.int (J p4)), some (.int (J vt_1)), none, none] [.int (J vt_2)] (Wd E s_2) := by
      intro vt_2 s_2 i_vt_2 h
      subst hdjp_2
      refine r_istore g0 (lv' := [some (.int (J p1)), some (.int (J p2)), some (.int (J p3)), some (.int (J p4)), some (.int (J vt_1)), some (.int (J vt_2)), none]) dX3_isParallel_32 (by decide) rfl rfl ?_
      refine r_iload_n g0 dX3_isParallel_34 rfl ?_
      refine r_iload_n g0 dX3_isParallel_35 rfl ?_
      refine r_isub g0 dX3_isParallel_36 ?_
      refine r_bipush g0 dX3_isParallel_37 rfl ?_
      obtain ⟨r_1, s_3, hr_1, h⟩ := bd_some h
      refine r_cSI g0 (rest := []) (c_J9_floorMod_7cf53 (InR_wr _) (InR_lit rfl) hr_1) ok_J9_floorMod_7cf53 mX3_62 dX3_isParallel_39 ⟨Nat.le_of_ble_eq_true rfl, Nat.le_of_ble_eq_true rfl⟩ ⟨Nat.zero_le _, Nat.zero_le _⟩ rfl (Nat.le_of_ble_eq_true rfl) rfl (fun i_r_1 => ?_)
      refine r_istore g0 (lv' := [some (.int (J p1)), some (.int (J p2)), some (.int (J p3)), some (.int (J p4)), some (.int (J vt_1)), some (.int (J vt_2)), some (.int (J r_1))]) dX3_isParallel_42 (by decide) rfl rfl ?_
      refine r_iload g0 dX3_isParallel_44 rfl ?_
      obtain ⟨jp_3, hdjp_3, h⟩ := jn_some h
      have hjp_3 : ∀  (s_4 : u_S), jp_3 s_4 = some (r, s') → K 0 0 54 [none, none, some (.int (J p3)), some (.int (J p4)), none, none, some (.int (J r_1))] [] (Wd E s_4) := by
        intro s_4 h
        subst hdjp_3
        refine r_iload g0 dX3_isParallel_54 rfl ?_
        obtain ⟨jp_4, hdjp_4, h⟩ := jn_some h
        have hjp_4 : ∀  (s_5 : u_S), jp_4 s_5 = some (r, s') → K 0 0 65 [none, none, some (.int (J p3)), some (.int (J p4)), none, none, some (.int (J r_1))] [] (Wd E s_5) := by
          intro s_5 h
          subst hdjp_4
          refine r_iload_n g0 dX3_isParallel_65 rfl ?_
          refine r_iload_n g0 dX3_isParallel_66 rfl ?_
          refine r_isub g0 dX3_isParallel_67 ?_
          refine r_bipush g0 dX3_isParallel_68 rfl ?_
          obtain ⟨r_2, s_6, hr_2, h⟩ := bd_some h
          refine r_cSI g0 (rest := []) (c_J9_floorMod_7cf53 (InR_wr _) (InR_lit rfl) hr_2) ok_J9_floorMod_7cf53 mX3_62 dX3_isParallel_70 ⟨Nat.le_of_ble_eq_true rfl, Nat.le_of_ble_eq_true rfl⟩ ⟨Nat.zero_le _, Nat.zero_le _⟩ rfl (Nat.le_of_ble_eq_true rfl) rfl (fun i_r_2 => ?_)
          refine r_iload g0 dX3_isParallel_73 rfl ?_
          refine r_icmp_ne g0 82 dX3_isParallel_75 (by decide) i_r_2 i_r_1 (fun hc => ?_) (fun hc => ?_)
          · replace h := if_f hc h
            refine r_iconst g0 dX3_isParallel_82 ?_
            exact z_Z g dX3_isParallel_83 B01_0 h
          · replace h := if_t hc h
            refine r_iconst g0 dX3_isParallel_78 ?_
            refine r_goto g0 83 dX3_isParallel_79 (by decide) ?_
            exact z_Z g dX3_isParallel_83 B01_1 h
        clear hdjp_4
        refine r_if_eq g0 65 dX3_isParallel_56 (by decide) i_r_1 (fun hc => ?_) (fun hc => ?_)
        · replace h := if_t hc h
          exact hjp_4 s_4 h
        · replace h := if_f hc h
          refine r_iload g0 dX3_isParallel_59 rfl ?_
          refine r_iconst g0 dX3_isParallel_61 ?_
          refine r_icmp_ne g0 82 dX3_isParallel_62 (by decide) i_r_1 (InR_lit rfl) (fun hc => ?_) (fun hc => ?_)
          · replace h := if_f hc h
            refine r_iconst g0 dX3_isParallel_82 ?_
            exact z_Z g dX3_isParallel_83 B01_0 h
          · replace h := if_t hc h
            exact hjp_4 s_4 h
      clear hdjp_3
      refine r_if_ne g0 54 dX3_isParallel_46 (by decide) (B01.inR i_vt_1) (fun hc => ?_) (fun hc => ?_)
      · replace h := if_f hc h
        refine r_mask g0 (lv' := [none, none, some (.int (J p3)), some (.int (J p4)), none, none, some (.int (J r_1))]) [false, false, true, true, false, false, true] rfl ?_
        exact hjp_3 s_3 h
      · replace h := if_t hc h
        refine r_iload g0 dX3_isParallel_49 rfl ?_
        refine r_if_eq g0 82 dX3_isParallel_51 (by decide) (B01.inR i_vt_2) (fun hc => ?_) (fun hc => ?_)
        · replace h := if_t hc h
          refine r_iconst g0 dX3_isParallel_82 ?_
          exact z_Z g dX3_isParallel_83 B01_0 h
        · replace h := if_f hc h
          refine r_mask g0 (lv' := [none, none, some (.int (J p3)), some (.int (J p4)), none, none, some (.int (J r_1))]) [false, false, true, true, false, false, true] rfl ?_
          exact hjp_3 s_3 h
    clear hdjp_2
    obtain ⟨jp_5, hdjp_5, h⟩ := jn_some h
    have hjp_5 : ∀  (s_7 : u_S), jp_5 s_7 = some (r, s') → K 0 0 31 [some (.int (J p1)), some (.int (J p2)), some (.int (J p3)), some (.int (J p4)), some (.int (J vt_1)), none, none] [] (Wd E s_7) := by
      intro s_7 h
      subst hdjp_5
      refine r_iconst g0 dX3_isParallel_31 ?_
      exact hjp_2 0 s_7 B01_0 h
    clear hdjp_5
    refine r_icmp_ge g0 31 dX3_isParallel_19 (by decide) i_p1 i_p3 (fun hc => ?_) (fun hc => ?_)
    · replace h := if_f hc h
      exact hjp_5 s_1 h
    · replace h := if_t hc h
      refine r_iload_n g0 dX3_isParallel_22 rfl ?_
      refine r_iload_n g0 dX3_isParallel_23 rfl ?_
      refine r_icmp_ge g0 31 dX3_isParallel_24 (by decide) i_p2 i_p4 (fun hc => ?_) (fun hc => ?_)
      · replace h := if_f hc h
        exact hjp_5 s_1 h
      · replace h := if_t hc h
        refine r_iconst g0 dX3_isParallel_27 ?_
        refine r_goto g0 32 dX3_isParallel_28 (by decide) ?_
        exact hjp_2 1 s_1 B01_1 h
  clear hdjp_1
  obtain ⟨jp_6, hdjp_6, h⟩ := jn_some h
  have hjp_6 : ∀  (s_8 : u_S), jp_6 s_8 = some (r, s') → K 0 0 14 [some (.int (J p1)), some (.int (J p2)), some (.int (J p3)), some (.int (J p4)), none, none, none] [] (Wd E s_8) := by
    intro s_8 h
    subst hdjp_6
    refine r_iconst g0 dX3_isParallel_14 ?_
    exact hjp_1 0 s_8 B01_0 h
  clear hdjp_6
  refine r_icmp_le g0 14 dX3_isParallel_2 (by decide) i_p1 i_p3 (fun hc => ?_) (fun hc => ?_)
  · replace h := if_t hc h
    exact hjp_6 s h
  · replace h := if_f hc h
    refine r_iload_n g0 dX3_isParallel_5 rfl ?_
    refine r_iload_n g0 dX3_isParallel_6 rfl ?_
    refine r_icmp_le g0 14 dX3_isParallel_7 (by decide) i_p2 i_p4 (fun hc => ?_) (fun hc => ?_)
    · replace h := if_t hc h
      exact hjp_6 s h
    · replace h := if_f hc h
      refine r_iconst g0 dX3_isParallel_10 ?_
      refine r_goto g0 15 dX3_isParallel_11 (by decide) ?_
      exact hjp_1 1 s B01_1 h
