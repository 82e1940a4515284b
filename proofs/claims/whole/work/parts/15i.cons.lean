/-! THE CONTRACTS: the bytecode does what the functions say (by program, wip/whole/gen) -/
theorem dX10_next_0 : decode cX10_next 0 = .ok (.iload_n 1, 1) := by decide +kernel
theorem dX10_next_1 : decode cX10_next 1 = .ok (.invokestatic 286, 3) := by decide +kernel
theorem dX10_next_4 : decode cX10_next 4 = .ok (.ifCond .eq 10, 3) := by decide +kernel
theorem dX10_next_7 : decode cX10_next 7 = .ok (.iload_n 2, 1) := by decide +kernel
theorem dX10_next_8 : decode cX10_next 8 = .ok (.invokestatic 286, 3) := by decide +kernel
theorem dX10_next_11 : decode cX10_next 11 = .ok (.ifCond .ne 10, 3) := by decide +kernel
theorem dX10_next_14 : decode cX10_next 14 = .ok (.aload_n 0, 1) := by decide +kernel
theorem dX10_next_15 : decode cX10_next 15 = .ok (.bipush (-2), 2) := by decide +kernel
theorem dX10_next_17 : decode cX10_next 17 = .ok (.invokevirtual 117, 3) := by decide +kernel
theorem dX10_next_20 : decode cX10_next 20 = .ok (.ireturn, 1) := by decide +kernel
theorem dX10_next_21 : decode cX10_next 21 = .ok (.iconst 0, 1) := by decide +kernel
theorem dX10_next_22 : decode cX10_next 22 = .ok (.istore_n 3, 1) := by decide +kernel
theorem dX10_next_23 : decode cX10_next 23 = .ok (.iload_n 3, 1) := by decide +kernel
theorem dX10_next_24 : decode cX10_next 24 = .ok (.bipush 24, 2) := by decide +kernel
theorem dX10_next_26 : decode cX10_next 26 = .ok (.if_icmp .ge 39, 3) := by decide +kernel
theorem dX10_next_29 : decode cX10_next 29 = .ok (.iload_n 1, 1) := by decide +kernel
theorem dX10_next_30 : decode cX10_next 30 = .ok (.iload_n 3, 1) := by decide +kernel
theorem dX10_next_31 : decode cX10_next 31 = .ok (.invokestatic 292, 3) := by decide +kernel
theorem dX10_next_34 : decode cX10_next 34 = .ok (.istore 4, 2) := by decide +kernel
theorem dX10_next_36 : decode cX10_next 36 = .ok (.iload 4, 2) := by decide +kernel
theorem dX10_next_38 : decode cX10_next 38 = .ok (.ifCond .le 21, 3) := by decide +kernel
theorem dX10_next_41 : decode cX10_next 41 = .ok (.iload 4, 2) := by decide +kernel
theorem dX10_next_43 : decode cX10_next 43 = .ok (.iload_n 3, 1) := by decide +kernel
theorem dX10_next_44 : decode cX10_next 44 = .ok (.iload_n 2, 1) := by decide +kernel
theorem dX10_next_45 : decode cX10_next 45 = .ok (.invokestatic 289, 3) := by decide +kernel
theorem dX10_next_48 : decode cX10_next 48 = .ok (.iadd, 1) := by decide +kernel
theorem dX10_next_49 : decode cX10_next 49 = .ok (.iload_n 1, 1) := by decide +kernel
theorem dX10_next_50 : decode cX10_next 50 = .ok (.iload_n 2, 1) := by decide +kernel
theorem dX10_next_51 : decode cX10_next 51 = .ok (.invokestatic 289, 3) := by decide +kernel
theorem dX10_next_54 : decode cX10_next 54 = .ok (.if_icmp .ne 5, 3) := by decide +kernel
theorem dX10_next_57 : decode cX10_next 57 = .ok (.iload_n 3, 1) := by decide +kernel
theorem dX10_next_58 : decode cX10_next 58 = .ok (.ireturn, 1) := by decide +kernel
theorem dX10_next_59 : decode cX10_next 59 = .ok (.iinc 3 1, 3) := by decide +kernel
theorem dX10_next_62 : decode cX10_next 62 = .ok (.goto (-39), 3) := by decide +kernel
theorem dX10_next_65 : decode cX10_next 65 = .ok (.iconst (-1), 1) := by decide +kernel
theorem dX10_next_66 : decode cX10_next 66 = .ok (.ireturn, 1) := by decide +kernel
set_option maxHeartbeats 4000000 in
set_option maxRecDepth 100000 in
theorem t_X10_next_L23 {l : Launch} {E : u_E} {K : u_K} {r : Int} {s' : u_S} (g : Wk l (XE E) { frames := 3, cells := 0, slots := 0, locals := 67 } cX10_next 5 yX10_next.cls yX10_next.name (some .int) (RI E r s') K) {v1_1 : Int} {v2_1 : Int} (i_v1_1 : InR v1_1) (i_v2_1 : InR v2_1) {kx65 : u_S → Option (Int × u_S)} (hkx65 : ∀ (s_11 : u_S), kx65 s_11 = some (r, s') → K 0 0 65 [none, none, none, none, none] [] (Wd E s_11)) : ∀ (m : Nat) (v3_1 : Int) (s_6 : u_S), InR v3_1 → f_X10_next_L23 m kx65 v1_1 v2_1 v3_1 s_6 = some (r, s') → K 0 0 23 [none, some (.int (J v1_1)), some (.int (J v2_1)), some (.int (J v3_1)), none] [] (Wd E s_6) := by
  have g0 := g.wk
  intro m
  induction m with
  | zero =>
    intro v3_1 s_6 i_v3_1 h
    exact absurd (show (none : Option (Int × u_S)) = some (r, s') from h) (by intro z; cases z)
  | succ m ih =>
    intro v3_1 s_6 i_v3_1 h
    rw [f_X10_next_L23] at h
    refine r_iload_n g0 dX10_next_23 rfl ?_
    refine r_bipush g0 dX10_next_24 rfl ?_
    refine r_icmp_ge g0 65 dX10_next_26 (by decide) i_v3_1 (InR_lit rfl) (fun hc => ?_) (fun hc => ?_)
    · replace h := if_f hc h
      refine r_mask g0 (lv' := [none, none, none, none, none]) [false, false, false, false, false] rfl ?_
      exact hkx65 s_6 h
    · replace h := if_t hc h
      refine r_iload_n g0 dX10_next_29 rfl ?_
      refine r_iload_n g0 dX10_next_30 rfl ?_
      obtain ⟨r_4, s_7, hr_4, h⟩ := bd_some h
      refine r_cSI g0 (rest := []) (c_X10_roadBetween i_v1_1 i_v3_1 hr_4) ok_X10_roadBetween mX10_292 dX10_next_31 ⟨Nat.le_of_ble_eq_true rfl, Nat.le_of_ble_eq_true rfl⟩ ⟨Nat.zero_le _, Nat.zero_le _⟩ rfl (Nat.le_of_ble_eq_true rfl) rfl (fun i_r_4 => ?_)
      refine r_istore g0 (lv' := [none, some (.int (J v1_1)), some (.int (J v2_1)), some (.int (J v3_1)), some (.int (J r_4))]) dX10_next_34 (by decide) rfl rfl ?_
      refine r_iload g0 dX10_next_36 rfl ?_
      obtain ⟨jp_2, hdjp_2, h⟩ := jn_some h
      have hjp_2 : ∀  (s_8 : u_S), jp_2 s_8 = some (r, s') → K 0 0 59 [none, some (.int (J v1_1)), some (.int (J v2_1)), some (.int (J v3_1)), none] [] (Wd E s_8) := by
        intro s_8 h
        subst hdjp_2
        refine r_iinc g0 (a := v3_1) (lv' := [none, some (.int (J v1_1)), some (.int (J v2_1)), some (.int (J (wr (v3_1 + 1)))), none]) dX10_next_59 (by decide) rfl rfl rfl ?_
        refine r_goto g0 23 dX10_next_62 (by decide) ?_
        exact ih (wr (v3_1 + 1)) s_8 (InR_wr _) h
      clear hdjp_2
      refine r_if_le g0 59 dX10_next_38 (by decide) i_r_4 (fun hc => ?_) (fun hc => ?_)
      · replace h := if_t hc h
        refine r_mask g0 (lv' := [none, some (.int (J v1_1)), some (.int (J v2_1)), some (.int (J v3_1)), none]) [false, true, true, true, false] rfl ?_
        exact hjp_2 s_7 h
      · replace h := if_f hc h
        refine r_iload g0 dX10_next_41 rfl ?_
        refine r_iload_n g0 dX10_next_43 rfl ?_
        refine r_iload_n g0 dX10_next_44 rfl ?_
        obtain ⟨r_5, s_9, hr_5, h⟩ := bd_some h
        refine r_cSI g0 (rest := [.int (J r_4)]) (c_X10_wayBetween i_v3_1 i_v2_1 hr_5) ok_X10_wayBetween mX10_289 dX10_next_45 ⟨Nat.le_of_ble_eq_true rfl, Nat.le_of_ble_eq_true rfl⟩ ⟨Nat.zero_le _, Nat.zero_le _⟩ rfl (Nat.le_of_ble_eq_true rfl) rfl (fun i_r_5 => ?_)
        refine r_iadd g0 dX10_next_48 ?_
        refine r_iload_n g0 dX10_next_49 rfl ?_
        refine r_iload_n g0 dX10_next_50 rfl ?_
        obtain ⟨r_6, s_10, hr_6, h⟩ := bd_some h
        refine r_cSI g0 (rest := [.int (J (wr (r_4 + r_5)))]) (c_X10_wayBetween i_v1_1 i_v2_1 hr_6) ok_X10_wayBetween mX10_289 dX10_next_51 ⟨Nat.le_of_ble_eq_true rfl, Nat.le_of_ble_eq_true rfl⟩ ⟨Nat.zero_le _, Nat.zero_le _⟩ rfl (Nat.le_of_ble_eq_true rfl) rfl (fun i_r_6 => ?_)
        refine r_icmp_ne g0 59 dX10_next_54 (by decide) (InR_wr _) i_r_6 (fun hc => ?_) (fun hc => ?_)
        · replace h := if_f hc h
          refine r_mask g0 (lv' := [none, some (.int (J v1_1)), some (.int (J v2_1)), some (.int (J v3_1)), none]) [false, true, true, true, false] rfl ?_
          exact hjp_2 s_10 h
        · replace h := if_t hc h
          refine r_iload_n g0 dX10_next_57 rfl ?_
          exact z_I g dX10_next_58 i_v3_1 h
set_option maxHeartbeats 4000000 in
set_option maxRecDepth 100000 in
theorem c_X10_next {E : u_E} {l : Launch} {o : u_O} {p1 : Int} {p2 : Int} (ho : is_FP o) (i_p1 : InR p1) (i_p2 : InR p2) {s s' : u_S} {r : Int} (h : f_X10_next o p1 p2 s = some (r, s')) : Con l (XE E) yX10_next cX10_next 5 (some .int) 3 67 0 0 [.ref (E.1 o), .int (J p1), .int (J p2)] (Wd E s) (RI E r s') := by
  refine Con.of [some (.ref (E.1 o)), some (.int (J p1)), some (.int (J p2)), none, none] (by decide +kernel) rfl rfl (Nat.le_of_ble_eq_true rfl) (fun K g => ?_)
  have g0 := g.wk
  unfold f_X10_next at h
  refine r_iload_n g0 dX10_next_0 rfl ?_
  obtain ⟨r_1, s_1, hr_1, h⟩ := bd_some h
  refine r_cSZ g0 (rest := []) (c_X10_isKey i_p1 hr_1) ok_X10_isKey mX10_286 dX10_next_1 ⟨Nat.le_of_ble_eq_true rfl, Nat.le_of_ble_eq_true rfl⟩ ⟨Nat.zero_le _, Nat.zero_le _⟩ rfl (Nat.le_of_ble_eq_true rfl) rfl (fun i_r_1 => ?_)
  obtain ⟨jp_1, hdjp_1, h⟩ := jn_some h
  have hjp_1 : ∀  (s_2 : u_S), jp_1 s_2 = some (r, s') → K 0 0 14 [some (.ref (E.1 o)), none, none, none, none] [] (Wd E s_2) := by
    intro s_2 h
    subst hdjp_1
    refine r_aload_n g0 dX10_next_14 rfl ?_
    refine r_bipush g0 dX10_next_15 rfl ?_
    obtain ⟨r_2, s_3, hr_2, h⟩ := bd_some h
    refine r_cVI g0 (rest := []) (c_X10_refused ho (InR_lit rfl) hr_2) ok_X10_refused mX10_117 (recv_FP ho) dX10_next_17 ⟨Nat.le_of_ble_eq_true rfl, Nat.le_of_ble_eq_true rfl⟩ ⟨Nat.zero_le _, Nat.zero_le _⟩ rfl (Nat.le_of_ble_eq_true rfl) rfl (fun i_r_2 => ?_)
    exact z_I g dX10_next_20 i_r_2 h
  clear hdjp_1
  refine r_if_eq g0 14 dX10_next_4 (by decide) (B01.inR i_r_1) (fun hc => ?_) (fun hc => ?_)
  · replace h := if_t hc h
    refine r_mask g0 (lv' := [some (.ref (E.1 o)), none, none, none, none]) [true, false, false, false, false] rfl ?_
    exact hjp_1 s_1 h
  · replace h := if_f hc h
    refine r_iload_n g0 dX10_next_7 rfl ?_
    obtain ⟨r_3, s_4, hr_3, h⟩ := bd_some h
    refine r_cSZ g0 (rest := []) (c_X10_isKey i_p2 hr_3) ok_X10_isKey mX10_286 dX10_next_8 ⟨Nat.le_of_ble_eq_true rfl, Nat.le_of_ble_eq_true rfl⟩ ⟨Nat.zero_le _, Nat.zero_le _⟩ rfl (Nat.le_of_ble_eq_true rfl) rfl (fun i_r_3 => ?_)
    refine r_if_ne g0 21 dX10_next_11 (by decide) (B01.inR i_r_3) (fun hc => ?_) (fun hc => ?_)
    · replace h := if_f hc h
      refine r_iconst g0 dX10_next_21 ?_
      refine r_istore_n g0 (lv' := [some (.ref (E.1 o)), some (.int (J p1)), some (.int (J p2)), some (.int (J 0)), none]) dX10_next_22 (by decide) rfl rfl ?_
      refine r_mask g0 (lv' := [none, some (.int (J p1)), some (.int (J p2)), some (.int (J 0)), none]) [false, true, true, true, false] rfl ?_
      refine t_X10_next_L23 g i_p1 i_p2 ?_ FU 0 s_4 (B01.inR B01_0) h
      · intro s_5 h
        refine r_iconst g0 dX10_next_65 ?_
        exact z_I g dX10_next_66 (InR_lit rfl) h
    · replace h := if_t hc h
      refine r_mask g0 (lv' := [some (.ref (E.1 o)), none, none, none, none]) [true, false, false, false, false] rfl ?_
      exact hjp_1 s_4 h
theorem dX10_visits_0 : decode cX10_visits 0 = .ok (.aload_n 0, 1) := by decide +kernel
theorem dX10_visits_1 : decode cX10_visits 1 = .ok (.getfield 16, 3) := by decide +kernel
theorem dX10_visits_4 : decode cX10_visits 4 = .ok (.aload_n 0, 1) := by decide +kernel
theorem dX10_visits_5 : decode cX10_visits 5 = .ok (.getfield 12, 3) := by decide +kernel
theorem dX10_visits_8 : decode cX10_visits 8 = .ok (.invokevirtual 75, 3) := by decide +kernel
theorem dX10_visits_11 : decode cX10_visits 11 = .ok (.aload_n 0, 1) := by decide +kernel
theorem dX10_visits_12 : decode cX10_visits 12 = .ok (.aload_n 0, 1) := by decide +kernel
theorem dX10_visits_13 : decode cX10_visits 13 = .ok (.getfield 12, 3) := by decide +kernel
theorem dX10_visits_16 : decode cX10_visits 16 = .ok (.iload_n 1, 1) := by decide +kernel
theorem dX10_visits_17 : decode cX10_visits 17 = .ok (.invokevirtual 295, 3) := by decide +kernel
theorem dX10_visits_20 : decode cX10_visits 20 = .ok (.invokevirtual 83, 3) := by decide +kernel
theorem dX10_visits_23 : decode cX10_visits 23 = .ok (.ireturn, 1) := by decide +kernel
set_option maxHeartbeats 4000000 in
set_option maxRecDepth 100000 in
theorem c_X10_visits {E : u_E} {l : Launch} {o : u_O} {p1 : Int} (ho : is_FP o) (i_p1 : InR p1) {s s' : u_S} {r : Int} (h : f_X10_visits o p1 s = some (r, s')) : Con l (XE E) yX10_visits cX10_visits 2 (some .int) 6 132 0 0 [.ref (E.1 o), .int (J p1)] (Wd E s) (RI E r s') := by
  refine Con.of [some (.ref (E.1 o)), some (.int (J p1))] (by decide +kernel) rfl rfl (Nat.le_of_ble_eq_true rfl) (fun K g => ?_)
  have g0 := g.wk
  unfold f_X10_visits at h
  refine r_aload_n g0 dX10_visits_0 rfl ?_
  refine g_FP_before g0 ho qX10_16 dX10_visits_1 ?_
  refine r_aload_n g0 dX10_visits_4 rfl ?_
  refine g_FP_plan g0 ho qX10_12 dX10_visits_5 ?_
  obtain ⟨r_1, s_1, hr_1, h⟩ := bd_some h
  refine r_cVV g0 (rest := []) (c_X6_copyFrom (is_a_FP_before ho) (is_a_FP_plan ho) hr_1) ok_X6_copyFrom mX10_75 (recv_Plan (is_a_FP_before ho)) dX10_visits_8 ⟨Nat.le_of_ble_eq_true rfl, Nat.le_of_ble_eq_true rfl⟩ ⟨Nat.zero_le _, Nat.zero_le _⟩ rfl (Nat.le_of_ble_eq_true rfl) rfl ?_
  refine r_aload_n g0 dX10_visits_11 rfl ?_
  refine r_aload_n g0 dX10_visits_12 rfl ?_
  refine g_FP_plan g0 ho qX10_12 dX10_visits_13 ?_
  refine r_iload_n g0 dX10_visits_16 rfl ?_
  obtain ⟨r_2, s_2, hr_2, h⟩ := bd_some h
  refine r_cVI g0 (rest := [.ref (E.1 o)]) (c_X6_addVisit (is_a_FP_plan ho) i_p1 hr_2) ok_X6_addVisit mX10_295 (recv_Plan (is_a_FP_plan ho)) dX10_visits_17 ⟨Nat.le_of_ble_eq_true rfl, Nat.le_of_ble_eq_true rfl⟩ ⟨Nat.zero_le _, Nat.zero_le _⟩ rfl (Nat.le_of_ble_eq_true rfl) rfl (fun i_r_2 => ?_)
  obtain ⟨r_3, s_3, hr_3, h⟩ := bd_some h
  refine r_cVI g0 (rest := []) (c_X10_settled ho i_r_2 hr_3) ok_X10_settled mX10_83 (recv_FP ho) dX10_visits_20 ⟨Nat.le_of_ble_eq_true rfl, Nat.le_of_ble_eq_true rfl⟩ ⟨Nat.zero_le _, Nat.zero_le _⟩ rfl (Nat.le_of_ble_eq_true rfl) rfl (fun i_r_3 => ?_)
  exact z_I g dX10_visits_23 i_r_3 h
theorem dX10_skips_0 : decode cX10_skips 0 = .ok (.aload_n 0, 1) := by decide +kernel
theorem dX10_skips_1 : decode cX10_skips 1 = .ok (.getfield 16, 3) := by decide +kernel
theorem dX10_skips_4 : decode cX10_skips 4 = .ok (.aload_n 0, 1) := by decide +kernel
theorem dX10_skips_5 : decode cX10_skips 5 = .ok (.getfield 12, 3) := by decide +kernel
theorem dX10_skips_8 : decode cX10_skips 8 = .ok (.invokevirtual 75, 3) := by decide +kernel
theorem dX10_skips_11 : decode cX10_skips 11 = .ok (.aload_n 0, 1) := by decide +kernel
theorem dX10_skips_12 : decode cX10_skips 12 = .ok (.aload_n 0, 1) := by decide +kernel
theorem dX10_skips_13 : decode cX10_skips 13 = .ok (.getfield 12, 3) := by decide +kernel
theorem dX10_skips_16 : decode cX10_skips 16 = .ok (.iload_n 1, 1) := by decide +kernel
theorem dX10_skips_17 : decode cX10_skips 17 = .ok (.invokevirtual 298, 3) := by decide +kernel
theorem dX10_skips_20 : decode cX10_skips 20 = .ok (.invokevirtual 83, 3) := by decide +kernel
theorem dX10_skips_23 : decode cX10_skips 23 = .ok (.ireturn, 1) := by decide +kernel
set_option maxHeartbeats 4000000 in
set_option maxRecDepth 100000 in
theorem c_X10_skips {E : u_E} {l : Launch} {o : u_O} {p1 : Int} (ho : is_FP o) (i_p1 : InR p1) {s s' : u_S} {r : Int} (h : f_X10_skips o p1 s = some (r, s')) : Con l (XE E) yX10_skips cX10_skips 2 (some .int) 6 132 0 0 [.ref (E.1 o), .int (J p1)] (Wd E s) (RI E r s') := by
  refine Con.of [some (.ref (E.1 o)), some (.int (J p1))] (by decide +kernel) rfl rfl (Nat.le_of_ble_eq_true rfl) (fun K g => ?_)
  have g0 := g.wk
  unfold f_X10_skips at h
  refine r_aload_n g0 dX10_skips_0 rfl ?_
  refine g_FP_before g0 ho qX10_16 dX10_skips_1 ?_
  refine r_aload_n g0 dX10_skips_4 rfl ?_
  refine g_FP_plan g0 ho qX10_12 dX10_skips_5 ?_
  obtain ⟨r_1, s_1, hr_1, h⟩ := bd_some h
  refine r_cVV g0 (rest := []) (c_X6_copyFrom (is_a_FP_before ho) (is_a_FP_plan ho) hr_1) ok_X6_copyFrom mX10_75 (recv_Plan (is_a_FP_before ho)) dX10_skips_8 ⟨Nat.le_of_ble_eq_true rfl, Nat.le_of_ble_eq_true rfl⟩ ⟨Nat.zero_le _, Nat.zero_le _⟩ rfl (Nat.le_of_ble_eq_true rfl) rfl ?_
  refine r_aload_n g0 dX10_skips_11 rfl ?_
  refine r_aload_n g0 dX10_skips_12 rfl ?_
  refine g_FP_plan g0 ho qX10_12 dX10_skips_13 ?_
  refine r_iload_n g0 dX10_skips_16 rfl ?_
  obtain ⟨r_2, s_2, hr_2, h⟩ := bd_some h
  refine r_cVI g0 (rest := [.ref (E.1 o)]) (c_X6_removeVisit (is_a_FP_plan ho) i_p1 hr_2) ok_X6_removeVisit mX10_298 (recv_Plan (is_a_FP_plan ho)) dX10_skips_17 ⟨Nat.le_of_ble_eq_true rfl, Nat.le_of_ble_eq_true rfl⟩ ⟨Nat.zero_le _, Nat.zero_le _⟩ rfl (Nat.le_of_ble_eq_true rfl) rfl (fun i_r_2 => ?_)
  obtain ⟨r_3, s_3, hr_3, h⟩ := bd_some h
  refine r_cVI g0 (rest := []) (c_X10_settled ho i_r_2 hr_3) ok_X10_settled mX10_83 (recv_FP ho) dX10_skips_20 ⟨Nat.le_of_ble_eq_true rfl, Nat.le_of_ble_eq_true rfl⟩ ⟨Nat.zero_le _, Nat.zero_le _⟩ rfl (Nat.le_of_ble_eq_true rfl) rfl (fun i_r_3 => ?_)
  exact z_I g dX10_skips_23 i_r_3 h
theorem dX10_path_0 : decode cX10_path 0 = .ok (.iload_n 1, 1) := by decide +kernel
theorem dX10_path_1 : decode cX10_path 1 = .ok (.iconst (-1), 1) := by decide +kernel
theorem dX10_path_2 : decode cX10_path 2 = .ok (.if_icmp .ge 13, 3) := by decide +kernel
theorem dX10_path_5 : decode cX10_path 5 = .ok (.aload_n 0, 1) := by decide +kernel
theorem dX10_path_6 : decode cX10_path 6 = .ok (.bipush (-2), 2) := by decide +kernel
theorem dX10_path_8 : decode cX10_path 8 = .ok (.invokevirtual 117, 3) := by decide +kernel
theorem dX10_path_11 : decode cX10_path 11 = .ok (.pop, 1) := by decide +kernel
theorem dX10_path_12 : decode cX10_path 12 = .ok (.bipush (-10), 2) := by decide +kernel
theorem dX10_path_14 : decode cX10_path 14 = .ok (.ireturn, 1) := by decide +kernel
theorem dX10_path_15 : decode cX10_path 15 = .ok (.iload_n 1, 1) := by decide +kernel
theorem dX10_path_16 : decode cX10_path 16 = .ok (.aload_n 0, 1) := by decide +kernel
theorem dX10_path_17 : decode cX10_path 17 = .ok (.getfield 12, 3) := by decide +kernel
theorem dX10_path_20 : decode cX10_path 20 = .ok (.getfield 301, 3) := by decide +kernel
theorem dX10_path_23 : decode cX10_path 23 = .ok (.if_icmp .ge 8, 3) := by decide +kernel
theorem dX10_path_26 : decode cX10_path 26 = .ok (.iload_n 1, 1) := by decide +kernel
theorem dX10_path_27 : decode cX10_path 27 = .ok (.iconst 5, 1) := by decide +kernel
theorem dX10_path_28 : decode cX10_path 28 = .ok (.if_icmp .lt 6, 3) := by decide +kernel
theorem dX10_path_31 : decode cX10_path 31 = .ok (.bipush (-5), 2) := by decide +kernel
theorem dX10_path_33 : decode cX10_path 33 = .ok (.ireturn, 1) := by decide +kernel
theorem dX10_path_34 : decode cX10_path 34 = .ok (.aload_n 0, 1) := by decide +kernel
theorem dX10_path_35 : decode cX10_path 35 = .ok (.getfield 71, 3) := by decide +kernel
theorem dX10_path_38 : decode cX10_path 38 = .ok (.aload_n 0, 1) := by decide +kernel
theorem dX10_path_39 : decode cX10_path 39 = .ok (.getfield 12, 3) := by decide +kernel
theorem dX10_path_42 : decode cX10_path 42 = .ok (.invokevirtual 304, 3) := by decide +kernel
theorem dX10_path_45 : decode cX10_path 45 = .ok (.iload_n 1, 1) := by decide +kernel
theorem dX10_path_46 : decode cX10_path 46 = .ok (.iconst (-1), 1) := by decide +kernel
theorem dX10_path_47 : decode cX10_path 47 = .ok (.if_icmp .ne 13, 3) := by decide +kernel
theorem dX10_path_50 : decode cX10_path 50 = .ok (.aload_n 0, 1) := by decide +kernel
theorem dX10_path_51 : decode cX10_path 51 = .ok (.getfield 71, 3) := by decide +kernel
theorem dX10_path_54 : decode cX10_path 54 = .ok (.getfield 307, 3) := by decide +kernel
theorem dX10_path_57 : decode cX10_path 57 = .ok (.goto 12, 3) := by decide +kernel
theorem dX10_path_60 : decode cX10_path 60 = .ok (.aload_n 0, 1) := by decide +kernel
theorem dX10_path_61 : decode cX10_path 61 = .ok (.getfield 71, 3) := by decide +kernel
theorem dX10_path_64 : decode cX10_path 64 = .ok (.getfield 309, 3) := by decide +kernel
theorem dX10_path_67 : decode cX10_path 67 = .ok (.iload_n 1, 1) := by decide +kernel
theorem dX10_path_68 : decode cX10_path 68 = .ok (.iaload, 1) := by decide +kernel
theorem dX10_path_69 : decode cX10_path 69 = .ok (.ireturn, 1) := by decide +kernel
set_option maxHeartbeats 4000000 in
set_option maxRecDepth 100000 in
theorem c_X10_path {E : u_E} {l : Launch} {o : u_O} {p1 : Int} (ho : is_FP o) (i_p1 : InR p1) {s s' : u_S} {r : Int} (h : f_X10_path o p1 s = some (r, s')) : Con l (XE E) yX10_path cX10_path 2 (some .int) 5 118 0 0 [.ref (E.1 o), .int (J p1)] (Wd E s) (RI E r s') := by
  refine Con.of [some (.ref (E.1 o)), some (.int (J p1))] (by decide +kernel) rfl rfl (Nat.le_of_ble_eq_true rfl) (fun K g => ?_)
  have g0 := g.wk
  unfold f_X10_path at h
  refine r_iload_n g0 dX10_path_0 rfl ?_
  refine r_iconst g0 dX10_path_1 ?_
  refine r_icmp_ge g0 15 dX10_path_2 (by decide) i_p1 (InR_lit rfl) (fun hc => ?_) (fun hc => ?_)
  · replace h := if_f hc h
    refine r_iload_n g0 dX10_path_15 rfl ?_
    refine r_aload_n g0 dX10_path_16 rfl ?_
    refine g_FP_plan g0 ho qX10_12 dX10_path_17 ?_
    refine g_Plan_visitCount g0 (is_a_FP_plan ho) qX10_301 dX10_path_20 ?_
    refine r_icmp_ge g0 31 dX10_path_23 (by decide) i_p1 (InR_rd _ _ _) (fun hc => ?_) (fun hc => ?_)
    · replace h := if_f hc h
      refine r_bipush g0 dX10_path_31 rfl ?_
      exact z_I g dX10_path_33 (InR_lit rfl) h
    · replace h := if_t hc h
      refine r_iload_n g0 dX10_path_26 rfl ?_
      refine r_iconst g0 dX10_path_27 ?_
      refine r_icmp_lt g0 34 dX10_path_28 (by decide) i_p1 (InR_lit rfl) (fun hc => ?_) (fun hc => ?_)
      · replace h := if_t hc h
        refine r_aload_n g0 dX10_path_34 rfl ?_
        refine g_FP_tour g0 ho qX10_71 dX10_path_35 ?_
        refine r_aload_n g0 dX10_path_38 rfl ?_
        refine g_FP_plan g0 ho qX10_12 dX10_path_39 ?_
        obtain ⟨r_1, s_1, hr_1, h⟩ := bd_some h
        refine r_cVV g0 (rest := []) (c_X9_find (is_a_FP_tour ho) (is_a_FP_plan ho) hr_1) ok_X9_find mX10_304 (recv_Tour (is_a_FP_tour ho)) dX10_path_42 ⟨Nat.le_of_ble_eq_true rfl, Nat.le_of_ble_eq_true rfl⟩ ⟨Nat.zero_le _, Nat.zero_le _⟩ rfl (Nat.le_of_ble_eq_true rfl) rfl ?_
        refine r_iload_n g0 dX10_path_45 rfl ?_
        refine r_iconst g0 dX10_path_46 ?_
        refine r_icmp_ne g0 60 dX10_path_47 (by decide) i_p1 (InR_lit rfl) (fun hc => ?_) (fun hc => ?_)
        · replace h := if_f hc h
          refine r_aload_n g0 dX10_path_60 rfl ?_
          refine g_FP_tour g0 ho qX10_71 dX10_path_61 ?_
          refine g_Tour_best g0 (is_a_FP_tour ho) qX10_309 dX10_path_64 ?_
          refine r_iload_n g0 dX10_path_67 rfl ?_
          obtain ⟨hb, h⟩ := gd_some h
          refine r_iaload g0 (is_a_Tour_best (is_a_FP_tour ho)) (n := 5) rfl i_p1 hb dX10_path_68 ?_
          exact z_I g dX10_path_69 (InR_rd _ _ _) h
        · replace h := if_t hc h
          refine r_aload_n g0 dX10_path_50 rfl ?_
          refine g_FP_tour g0 ho qX10_71 dX10_path_51 ?_
          refine g_Tour_length g0 (is_a_FP_tour ho) qX10_307 dX10_path_54 ?_
          refine r_goto g0 69 dX10_path_57 (by decide) ?_
          exact z_I g dX10_path_69 (InR_rd _ _ _) h
      · replace h := if_f hc h
        refine r_bipush g0 dX10_path_31 rfl ?_
        exact z_I g dX10_path_33 (InR_lit rfl) h
  · replace h := if_t hc h
    refine r_aload_n g0 dX10_path_5 rfl ?_
    refine r_bipush g0 dX10_path_6 rfl ?_
    obtain ⟨r_2, s_2, hr_2, h⟩ := bd_some h
    refine r_cVI g0 (rest := []) (c_X10_refused ho (InR_lit rfl) hr_2) ok_X10_refused mX10_117 (recv_FP ho) dX10_path_8 ⟨Nat.le_of_ble_eq_true rfl, Nat.le_of_ble_eq_true rfl⟩ ⟨Nat.zero_le _, Nat.zero_le _⟩ rfl (Nat.le_of_ble_eq_true rfl) rfl (fun i_r_2 => ?_)
    refine r_pop g0 dX10_path_11 rfl ?_
    refine r_bipush g0 dX10_path_12 rfl ?_
    exact z_I g dX10_path_14 (InR_lit rfl) h
theorem dX10_type_0 : decode cX10_type 0 = .ok (.iload_n 1, 1) := by decide +kernel
theorem dX10_type_1 : decode cX10_type 1 = .ok (.iconst 0, 1) := by decide +kernel
theorem dX10_type_2 : decode cX10_type 2 = .ok (.bipush 127, 2) := by decide +kernel
theorem dX10_type_4 : decode cX10_type 4 = .ok (.invokestatic 113, 3) := by decide +kernel
theorem dX10_type_7 : decode cX10_type 7 = .ok (.ifCond .ne 10, 3) := by decide +kernel
theorem dX10_type_10 : decode cX10_type 10 = .ok (.aload_n 0, 1) := by decide +kernel
theorem dX10_type_11 : decode cX10_type 11 = .ok (.bipush (-2), 2) := by decide +kernel
theorem dX10_type_13 : decode cX10_type 13 = .ok (.invokevirtual 117, 3) := by decide +kernel
theorem dX10_type_16 : decode cX10_type 16 = .ok (.ireturn, 1) := by decide +kernel
theorem dX10_type_17 : decode cX10_type 17 = .ok (.aload_n 0, 1) := by decide +kernel
theorem dX10_type_18 : decode cX10_type 18 = .ok (.getfield 29, 3) := by decide +kernel
theorem dX10_type_21 : decode cX10_type 21 = .ok (.getfield 312, 3) := by decide +kernel
theorem dX10_type_24 : decode cX10_type 24 = .ok (.bipush 120, 2) := by decide +kernel
theorem dX10_type_26 : decode cX10_type 26 = .ok (.if_icmp .lt 10, 3) := by decide +kernel
theorem dX10_type_29 : decode cX10_type 29 = .ok (.aload_n 0, 1) := by decide +kernel
theorem dX10_type_30 : decode cX10_type 30 = .ok (.bipush (-4), 2) := by decide +kernel
theorem dX10_type_32 : decode cX10_type 32 = .ok (.invokevirtual 117, 3) := by decide +kernel
theorem dX10_type_35 : decode cX10_type 35 = .ok (.ireturn, 1) := by decide +kernel
theorem dX10_type_36 : decode cX10_type 36 = .ok (.aload_n 0, 1) := by decide +kernel
theorem dX10_type_37 : decode cX10_type 37 = .ok (.getfield 29, 3) := by decide +kernel
theorem dX10_type_40 : decode cX10_type 40 = .ok (.iload_n 1, 1) := by decide +kernel
theorem dX10_type_41 : decode cX10_type 41 = .ok (.invokevirtual 313, 3) := by decide +kernel
theorem dX10_type_44 : decode cX10_type 44 = .ok (.ireturn, 1) := by decide +kernel
set_option maxHeartbeats 4000000 in
set_option maxRecDepth 100000 in
theorem c_X10_type {E : u_E} {l : Launch} {o : u_O} {p1 : Int} (ho : is_FP o) (i_p1 : InR p1) {s s' : u_S} {r : Int} (h : f_X10_type o p1 s = some (r, s')) : Con l (XE E) yX10_type cX10_type 2 (some .int) 1 22 0 0 [.ref (E.1 o), .int (J p1)] (Wd E s) (RI E r s') := by
  refine Con.of [some (.ref (E.1 o)), some (.int (J p1))] (by decide +kernel) rfl rfl (Nat.le_of_ble_eq_true rfl) (fun K g => ?_)
  have g0 := g.wk
  unfold f_X10_type at h
  refine r_iload_n g0 dX10_type_0 rfl ?_
  refine r_iconst g0 dX10_type_1 ?_
  refine r_bipush g0 dX10_type_2 rfl ?_
  obtain ⟨r_1, s_1, hr_1, h⟩ := bd_some h
  refine r_cSZ g0 (rest := []) (c_X10_within i_p1 (B01.inR B01_0) (InR_lit rfl) hr_1) ok_X10_within mX10_113 dX10_type_4 ⟨Nat.le_of_ble_eq_true rfl, Nat.le_of_ble_eq_true rfl⟩ ⟨Nat.zero_le _, Nat.zero_le _⟩ rfl (Nat.le_of_ble_eq_true rfl) rfl (fun i_r_1 => ?_)
  refine r_if_ne g0 17 dX10_type_7 (by decide) (B01.inR i_r_1) (fun hc => ?_) (fun hc => ?_)
  · replace h := if_f hc h
    refine r_aload_n g0 dX10_type_17 rfl ?_
    refine g_FP_text g0 ho qX10_29 dX10_type_18 ?_
    refine g_Reader_length g0 (is_a_FP_text ho) qX10_312 dX10_type_21 ?_
    refine r_bipush g0 dX10_type_24 rfl ?_
    refine r_icmp_lt g0 36 dX10_type_26 (by decide) (InR_rd _ _ _) (InR_lit rfl) (fun hc => ?_) (fun hc => ?_)
    · replace h := if_t hc h
      refine r_aload_n g0 dX10_type_36 rfl ?_
      refine g_FP_text g0 ho qX10_29 dX10_type_37 ?_
      refine r_iload_n g0 dX10_type_40 rfl ?_
      obtain ⟨r_2, s_2, hr_2, h⟩ := bd_some h
      refine r_cVI g0 (rest := []) (c_X7_append (is_a_FP_text ho) i_p1 hr_2) ok_X7_append mX10_313 (recv_Reader (is_a_FP_text ho)) dX10_type_41 ⟨Nat.le_of_ble_eq_true rfl, Nat.le_of_ble_eq_true rfl⟩ ⟨Nat.zero_le _, Nat.zero_le _⟩ rfl (Nat.le_of_ble_eq_true rfl) rfl (fun i_r_2 => ?_)
      exact z_I g dX10_type_44 i_r_2 h
    · replace h := if_f hc h
      refine r_aload_n g0 dX10_type_29 rfl ?_
      refine r_bipush g0 dX10_type_30 rfl ?_
      obtain ⟨r_3, s_3, hr_3, h⟩ := bd_some h
      refine r_cVI g0 (rest := []) (c_X10_refused ho (InR_lit rfl) hr_3) ok_X10_refused mX10_117 (recv_FP ho) dX10_type_32 ⟨Nat.le_of_ble_eq_true rfl, Nat.le_of_ble_eq_true rfl⟩ ⟨Nat.zero_le _, Nat.zero_le _⟩ rfl (Nat.le_of_ble_eq_true rfl) rfl (fun i_r_3 => ?_)
      exact z_I g dX10_type_35 i_r_3 h
  · replace h := if_t hc h
    refine r_aload_n g0 dX10_type_10 rfl ?_
    refine r_bipush g0 dX10_type_11 rfl ?_
    obtain ⟨r_4, s_4, hr_4, h⟩ := bd_some h
    refine r_cVI g0 (rest := []) (c_X10_refused ho (InR_lit rfl) hr_4) ok_X10_refused mX10_117 (recv_FP ho) dX10_type_13 ⟨Nat.le_of_ble_eq_true rfl, Nat.le_of_ble_eq_true rfl⟩ ⟨Nat.zero_le _, Nat.zero_le _⟩ rfl (Nat.le_of_ble_eq_true rfl) rfl (fun i_r_4 => ?_)
    exact z_I g dX10_type_16 i_r_4 h
theorem dX10_clear_0 : decode cX10_clear 0 = .ok (.aload_n 0, 1) := by decide +kernel
theorem dX10_clear_1 : decode cX10_clear 1 = .ok (.getfield 29, 3) := by decide +kernel
theorem dX10_clear_4 : decode cX10_clear 4 = .ok (.getfield 312, 3) := by decide +kernel
theorem dX10_clear_7 : decode cX10_clear 7 = .ok (.istore_n 1, 1) := by decide +kernel
theorem dX10_clear_8 : decode cX10_clear 8 = .ok (.aload_n 0, 1) := by decide +kernel
theorem dX10_clear_9 : decode cX10_clear 9 = .ok (.getfield 29, 3) := by decide +kernel
theorem dX10_clear_12 : decode cX10_clear 12 = .ok (.iconst 0, 1) := by decide +kernel
theorem dX10_clear_13 : decode cX10_clear 13 = .ok (.putfield 312, 3) := by decide +kernel
theorem dX10_clear_16 : decode cX10_clear 16 = .ok (.iload_n 1, 1) := by decide +kernel
theorem dX10_clear_17 : decode cX10_clear 17 = .ok (.ireturn, 1) := by decide +kernel
set_option maxHeartbeats 4000000 in
set_option maxRecDepth 100000 in
theorem c_X10_clear {E : u_E} {l : Launch} {o : u_O} (ho : is_FP o) {s s' : u_S} {r : Int} (h : f_X10_clear o s = some (r, s')) : Con l (XE E) yX10_clear cX10_clear 2 (some .int) 0 0 0 0 [.ref (E.1 o)] (Wd E s) (RI E r s') := by
  refine Con.of [some (.ref (E.1 o)), none] (by decide +kernel) rfl rfl (Nat.le_of_ble_eq_true rfl) (fun K g => ?_)
  have g0 := g.wk
  unfold f_X10_clear at h
  refine r_aload_n g0 dX10_clear_0 rfl ?_
  refine g_FP_text g0 ho qX10_29 dX10_clear_1 ?_
  refine g_Reader_length g0 (is_a_FP_text ho) qX10_312 dX10_clear_4 ?_
  refine r_istore_n g0 (lv' := [some (.ref (E.1 o)), some (.int (J (rd s (a_FP_text o) 4)))]) dX10_clear_7 (by decide) rfl rfl ?_
  refine r_aload_n g0 dX10_clear_8 rfl ?_
  refine g_FP_text g0 ho qX10_29 dX10_clear_9 ?_
  refine r_iconst g0 dX10_clear_12 ?_
  refine p_Reader_length g0 (is_a_FP_text ho) qX10_312 dX10_clear_13 ?_
  refine r_iload_n g0 dX10_clear_16 rfl ?_
  exact z_I g dX10_clear_17 (InR_rd _ _ _) h
theorem dX10_lineIsDone_0 : decode cX10_lineIsDone 0 = .ok (.aload_n 0, 1) := by decide +kernel
theorem dX10_lineIsDone_1 : decode cX10_lineIsDone 1 = .ok (.getfield 29, 3) := by decide +kernel
theorem dX10_lineIsDone_4 : decode cX10_lineIsDone 4 = .ok (.iload_n 1, 1) := by decide +kernel
theorem dX10_lineIsDone_5 : decode cX10_lineIsDone 5 = .ok (.invokevirtual 413, 3) := by decide +kernel
theorem dX10_lineIsDone_8 : decode cX10_lineIsDone 8 = .ok (.istore_n 3, 1) := by decide +kernel
theorem dX10_lineIsDone_9 : decode cX10_lineIsDone 9 = .ok (.aload_n 0, 1) := by decide +kernel
theorem dX10_lineIsDone_10 : decode cX10_lineIsDone 10 = .ok (.getfield 12, 3) := by decide +kernel
theorem dX10_lineIsDone_13 : decode cX10_lineIsDone 13 = .ok (.iload_n 3, 1) := by decide +kernel
theorem dX10_lineIsDone_14 : decode cX10_lineIsDone 14 = .ok (.invokevirtual 91, 3) := by decide +kernel
theorem dX10_lineIsDone_17 : decode cX10_lineIsDone 17 = .ok (.ifCond .ge 5, 3) := by decide +kernel
theorem dX10_lineIsDone_20 : decode cX10_lineIsDone 20 = .ok (.iconst 0, 1) := by decide +kernel
theorem dX10_lineIsDone_21 : decode cX10_lineIsDone 21 = .ok (.ireturn, 1) := by decide +kernel
theorem dX10_lineIsDone_22 : decode cX10_lineIsDone 22 = .ok (.iload_n 1, 1) := by decide +kernel
theorem dX10_lineIsDone_23 : decode cX10_lineIsDone 23 = .ok (.iconst 1, 1) := by decide +kernel
theorem dX10_lineIsDone_24 : decode cX10_lineIsDone 24 = .ok (.iadd, 1) := by decide +kernel
theorem dX10_lineIsDone_25 : decode cX10_lineIsDone 25 = .ok (.istore 4, 2) := by decide +kernel
theorem dX10_lineIsDone_27 : decode cX10_lineIsDone 27 = .ok (.iload 4, 2) := by decide +kernel
theorem dX10_lineIsDone_29 : decode cX10_lineIsDone 29 = .ok (.iconst 1, 1) := by decide +kernel
theorem dX10_lineIsDone_30 : decode cX10_lineIsDone 30 = .ok (.iadd, 1) := by decide +kernel
theorem dX10_lineIsDone_31 : decode cX10_lineIsDone 31 = .ok (.iload_n 2, 1) := by decide +kernel
theorem dX10_lineIsDone_32 : decode cX10_lineIsDone 32 = .ok (.if_icmp .ge 42, 3) := by decide +kernel
theorem dX10_lineIsDone_35 : decode cX10_lineIsDone 35 = .ok (.aload_n 0, 1) := by decide +kernel
theorem dX10_lineIsDone_36 : decode cX10_lineIsDone 36 = .ok (.getfield 12, 3) := by decide +kernel
theorem dX10_lineIsDone_39 : decode cX10_lineIsDone 39 = .ok (.iload_n 3, 1) := by decide +kernel
theorem dX10_lineIsDone_40 : decode cX10_lineIsDone 40 = .ok (.aload_n 0, 1) := by decide +kernel
theorem dX10_lineIsDone_41 : decode cX10_lineIsDone 41 = .ok (.getfield 29, 3) := by decide +kernel
theorem dX10_lineIsDone_44 : decode cX10_lineIsDone 44 = .ok (.iload 4, 2) := by decide +kernel
theorem dX10_lineIsDone_46 : decode cX10_lineIsDone 46 = .ok (.invokevirtual 413, 3) := by decide +kernel
theorem dX10_lineIsDone_49 : decode cX10_lineIsDone 49 = .ok (.aload_n 0, 1) := by decide +kernel
theorem dX10_lineIsDone_50 : decode cX10_lineIsDone 50 = .ok (.getfield 29, 3) := by decide +kernel
theorem dX10_lineIsDone_53 : decode cX10_lineIsDone 53 = .ok (.iload 4, 2) := by decide +kernel
theorem dX10_lineIsDone_55 : decode cX10_lineIsDone 55 = .ok (.iconst 1, 1) := by decide +kernel
theorem dX10_lineIsDone_56 : decode cX10_lineIsDone 56 = .ok (.iadd, 1) := by decide +kernel
theorem dX10_lineIsDone_57 : decode cX10_lineIsDone 57 = .ok (.invokevirtual 413, 3) := by decide +kernel
theorem dX10_lineIsDone_60 : decode cX10_lineIsDone 60 = .ok (.invokevirtual 79, 3) := by decide +kernel
theorem dX10_lineIsDone_63 : decode cX10_lineIsDone 63 = .ok (.ifCond .ge 5, 3) := by decide +kernel
theorem dX10_lineIsDone_66 : decode cX10_lineIsDone 66 = .ok (.iconst 0, 1) := by decide +kernel
theorem dX10_lineIsDone_67 : decode cX10_lineIsDone 67 = .ok (.ireturn, 1) := by decide +kernel
theorem dX10_lineIsDone_68 : decode cX10_lineIsDone 68 = .ok (.iinc 4 2, 3) := by decide +kernel
theorem dX10_lineIsDone_71 : decode cX10_lineIsDone 71 = .ok (.goto (-44), 3) := by decide +kernel
theorem dX10_lineIsDone_74 : decode cX10_lineIsDone 74 = .ok (.iconst 1, 1) := by decide +kernel
theorem dX10_lineIsDone_75 : decode cX10_lineIsDone 75 = .ok (.ireturn, 1) := by decide +kernel
set_option maxHeartbeats 4000000 in
set_option maxRecDepth 100000 in
theorem t_X10_lineIsDone_L27 {l : Launch} {E : u_E} {K : u_K} {r : Int} {s' : u_S} (g : Wk l (XE E) { frames := 3, cells := 0, slots := 0, locals := 65 } cX10_lineIsDone 5 yX10_lineIsDone.cls yX10_lineIsDone.name (some .boolean) (RZ E r s') K) {v0_1 : u_O} {v2_1 : Int} {v3_1 : Int} (i_v0_1 : is_FP v0_1) (i_v2_1 : InR v2_1) (i_v3_1 : InR v3_1) {kx74 : u_S → Option (Int × u_S)} (hkx74 : ∀ (s_8 : u_S), kx74 s_8 = some (r, s') → K 0 0 74 [none, none, none, none, none] [] (Wd E s_8)) : ∀ (m : Nat) (v4_1 : Int) (s_4 : u_S), InR v4_1 → f_X10_lineIsDone_L27 m kx74 v0_1 v2_1 v3_1 v4_1 s_4 = some (r, s') → K 0 0 27 [some (.ref (E.1 v0_1)), none, some (.int (J v2_1)), some (.int (J v3_1)), some (.int (J v4_1))] [] (Wd E s_4) := by
  have g0 := g.wk
  intro m
  induction m with
  | zero =>
    intro v4_1 s_4 i_v4_1 h
    exact absurd (show (none : Option (Int × u_S)) = some (r, s') from h) (by intro z; cases z)
  | succ m ih =>
    intro v4_1 s_4 i_v4_1 h
    rw [f_X10_lineIsDone_L27] at h
    refine r_iload g0 dX10_lineIsDone_27 rfl ?_
    refine r_iconst g0 dX10_lineIsDone_29 ?_
    refine r_iadd g0 dX10_lineIsDone_30 ?_
    refine r_iload_n g0 dX10_lineIsDone_31 rfl ?_
    refine r_icmp_ge g0 74 dX10_lineIsDone_32 (by decide) (InR_wr _) i_v2_1 (fun hc => ?_) (fun hc => ?_)
    · replace h := if_f hc h
      refine r_mask g0 (lv' := [none, none, none, none, none]) [false, false, false, false, false] rfl ?_
      exact hkx74 s_4 h
    · replace h := if_t hc h
      refine r_aload_n g0 dX10_lineIsDone_35 rfl ?_
      refine g_FP_plan g0 i_v0_1 qX10_12 dX10_lineIsDone_36 ?_
      refine r_iload_n g0 dX10_lineIsDone_39 rfl ?_
      refine r_aload_n g0 dX10_lineIsDone_40 rfl ?_
      refine g_FP_text g0 i_v0_1 qX10_29 dX10_lineIsDone_41 ?_
      refine r_iload g0 dX10_lineIsDone_44 rfl ?_
      obtain ⟨r_3, s_5, hr_3, h⟩ := bd_some h
      refine r_cVI g0 (rest := [.int (J v3_1), .ref (E.1 (a_FP_plan v0_1))]) (c_X7_number (is_a_FP_text i_v0_1) i_v4_1 hr_3) ok_X7_number mX10_413 (recv_Reader (is_a_FP_text i_v0_1)) dX10_lineIsDone_46 ⟨Nat.le_of_ble_eq_true rfl, Nat.le_of_ble_eq_true rfl⟩ ⟨Nat.zero_le _, Nat.zero_le _⟩ rfl (Nat.le_of_ble_eq_true rfl) rfl (fun i_r_3 => ?_)
      refine r_aload_n g0 dX10_lineIsDone_49 rfl ?_
      refine g_FP_text g0 i_v0_1 qX10_29 dX10_lineIsDone_50 ?_
      refine r_iload g0 dX10_lineIsDone_53 rfl ?_
      refine r_iconst g0 dX10_lineIsDone_55 ?_
      refine r_iadd g0 dX10_lineIsDone_56 ?_
      obtain ⟨r_4, s_6, hr_4, h⟩ := bd_some h
      refine r_cVI g0 (rest := [.int (J r_3), .int (J v3_1), .ref (E.1 (a_FP_plan v0_1))]) (c_X7_number (is_a_FP_text i_v0_1) (InR_wr _) hr_4) ok_X7_number mX10_413 (recv_Reader (is_a_FP_text i_v0_1)) dX10_lineIsDone_57 ⟨Nat.le_of_ble_eq_true rfl, Nat.le_of_ble_eq_true rfl⟩ ⟨Nat.zero_le _, Nat.zero_le _⟩ rfl (Nat.le_of_ble_eq_true rfl) rfl (fun i_r_4 => ?_)
      obtain ⟨r_5, s_7, hr_5, h⟩ := bd_some h
      refine r_cVI g0 (rest := []) (c_X6_addNote (is_a_FP_plan i_v0_1) i_v3_1 i_r_3 i_r_4 hr_5) ok_X6_addNote mX10_79 (recv_Plan (is_a_FP_plan i_v0_1)) dX10_lineIsDone_60 ⟨Nat.le_of_ble_eq_true rfl, Nat.le_of_ble_eq_true rfl⟩ ⟨Nat.zero_le _, Nat.zero_le _⟩ rfl (Nat.le_of_ble_eq_true rfl) rfl (fun i_r_5 => ?_)
      refine r_if_ge g0 68 dX10_lineIsDone_63 (by decide) i_r_5 (fun hc => ?_) (fun hc => ?_)
      · replace h := if_f hc h
        refine r_iinc g0 (a := v4_1) (lv' := [some (.ref (E.1 v0_1)), none, some (.int (J v2_1)), some (.int (J v3_1)), some (.int (J (wr (v4_1 + 2))))]) dX10_lineIsDone_68 (by decide) rfl rfl rfl ?_
        refine r_goto g0 27 dX10_lineIsDone_71 (by decide) ?_
        exact ih (wr (v4_1 + 2)) s_7 (InR_wr _) h
      · replace h := if_t hc h
        refine r_iconst g0 dX10_lineIsDone_66 ?_
        exact z_Z g dX10_lineIsDone_67 B01_0 h
set_option maxHeartbeats 4000000 in
set_option maxRecDepth 100000 in
theorem c_X10_lineIsDone {E : u_E} {l : Launch} {o : u_O} {p1 : Int} {p2 : Int} (ho : is_FP o) (i_p1 : InR p1) (i_p2 : InR p2) {s s' : u_S} {r : Int} (h : f_X10_lineIsDone o p1 p2 s = some (r, s')) : Con l (XE E) yX10_lineIsDone cX10_lineIsDone 5 (some .boolean) 3 65 0 0 [.ref (E.1 o), .int (J p1), .int (J p2)] (Wd E s) (RZ E r s') := by
  refine Con.of [some (.ref (E.1 o)), some (.int (J p1)), some (.int (J p2)), none, none] (by decide +kernel) rfl rfl (Nat.le_of_ble_eq_true rfl) (fun K g => ?_)
  have g0 := g.wk
  unfold f_X10_lineIsDone at h
  refine r_aload_n g0 dX10_lineIsDone_0 rfl ?_
  refine g_FP_text g0 ho qX10_29 dX10_lineIsDone_1 ?_
  refine r_iload_n g0 dX10_lineIsDone_4 rfl ?_
  obtain ⟨r_1, s_1, hr_1, h⟩ := bd_some h
  refine r_cVI g0 (rest := []) (c_X7_number (is_a_FP_text ho) i_p1 hr_1) ok_X7_number mX10_413 (recv_Reader (is_a_FP_text ho)) dX10_lineIsDone_5 ⟨Nat.le_of_ble_eq_true rfl, Nat.le_of_ble_eq_true rfl⟩ ⟨Nat.zero_le _, Nat.zero_le _⟩ rfl (Nat.le_of_ble_eq_true rfl) rfl (fun i_r_1 => ?_)
  refine r_istore_n g0 (lv' := [some (.ref (E.1 o)), some (.int (J p1)), some (.int (J p2)), some (.int (J r_1)), none]) dX10_lineIsDone_8 (by decide) rfl rfl ?_
  refine r_aload_n g0 dX10_lineIsDone_9 rfl ?_
  refine g_FP_plan g0 ho qX10_12 dX10_lineIsDone_10 ?_
  refine r_iload_n g0 dX10_lineIsDone_13 rfl ?_
  obtain ⟨r_2, s_2, hr_2, h⟩ := bd_some h
  refine r_cVI g0 (rest := []) (c_X6_emptyLine (is_a_FP_plan ho) i_r_1 hr_2) ok_X6_emptyLine mX10_91 (recv_Plan (is_a_FP_plan ho)) dX10_lineIsDone_14 ⟨Nat.le_of_ble_eq_true rfl, Nat.le_of_ble_eq_true rfl⟩ ⟨Nat.zero_le _, Nat.zero_le _⟩ rfl (Nat.le_of_ble_eq_true rfl) rfl (fun i_r_2 => ?_)
  refine r_if_ge g0 22 dX10_lineIsDone_17 (by decide) i_r_2 (fun hc => ?_) (fun hc => ?_)
  · replace h := if_f hc h
    refine r_iload_n g0 dX10_lineIsDone_22 rfl ?_
    refine r_iconst g0 dX10_lineIsDone_23 ?_
    refine r_iadd g0 dX10_lineIsDone_24 ?_
    refine r_istore g0 (lv' := [some (.ref (E.1 o)), some (.int (J p1)), some (.int (J p2)), some (.int (J r_1)), some (.int (J (wr (p1 + 1))))]) dX10_lineIsDone_25 (by decide) rfl rfl ?_
    refine r_mask g0 (lv' := [some (.ref (E.1 o)), none, some (.int (J p2)), some (.int (J r_1)), some (.int (J (wr (p1 + 1))))]) [true, false, true, true, true] rfl ?_
    refine t_X10_lineIsDone_L27 g ho i_p2 i_r_1 ?_ FU (wr (p1 + 1)) s_2 (InR_wr _) h
    · intro s_3 h
      refine r_iconst g0 dX10_lineIsDone_74 ?_
      exact z_Z g dX10_lineIsDone_75 B01_1 h
  · replace h := if_t hc h
    refine r_iconst g0 dX10_lineIsDone_20 ?_
    exact z_Z g dX10_lineIsDone_21 B01_0 h
theorem dX10_visitsAreDone_0 : decode cX10_visitsAreDone 0 = .ok (.aload_n 0, 1) := by decide +kernel
theorem dX10_visitsAreDone_1 : decode cX10_visitsAreDone 1 = .ok (.getfield 12, 3) := by decide +kernel
theorem dX10_visitsAreDone_4 : decode cX10_visitsAreDone 4 = .ok (.iconst 0, 1) := by decide +kernel
theorem dX10_visitsAreDone_5 : decode cX10_visitsAreDone 5 = .ok (.putfield 301, 3) := by decide +kernel
theorem dX10_visitsAreDone_8 : decode cX10_visitsAreDone 8 = .ok (.iload_n 1, 1) := by decide +kernel
theorem dX10_visitsAreDone_9 : decode cX10_visitsAreDone 9 = .ok (.istore_n 3, 1) := by decide +kernel
theorem dX10_visitsAreDone_10 : decode cX10_visitsAreDone 10 = .ok (.iload_n 3, 1) := by decide +kernel
theorem dX10_visitsAreDone_11 : decode cX10_visitsAreDone 11 = .ok (.iload_n 2, 1) := by decide +kernel
theorem dX10_visitsAreDone_12 : decode cX10_visitsAreDone 12 = .ok (.if_icmp .ge 29, 3) := by decide +kernel
theorem dX10_visitsAreDone_15 : decode cX10_visitsAreDone 15 = .ok (.aload_n 0, 1) := by decide +kernel
theorem dX10_visitsAreDone_16 : decode cX10_visitsAreDone 16 = .ok (.getfield 12, 3) := by decide +kernel
theorem dX10_visitsAreDone_19 : decode cX10_visitsAreDone 19 = .ok (.aload_n 0, 1) := by decide +kernel
theorem dX10_visitsAreDone_20 : decode cX10_visitsAreDone 20 = .ok (.getfield 29, 3) := by decide +kernel
theorem dX10_visitsAreDone_23 : decode cX10_visitsAreDone 23 = .ok (.iload_n 3, 1) := by decide +kernel
theorem dX10_visitsAreDone_24 : decode cX10_visitsAreDone 24 = .ok (.invokevirtual 413, 3) := by decide +kernel
theorem dX10_visitsAreDone_27 : decode cX10_visitsAreDone 27 = .ok (.invokevirtual 295, 3) := by decide +kernel
theorem dX10_visitsAreDone_30 : decode cX10_visitsAreDone 30 = .ok (.ifCond .ge 5, 3) := by decide +kernel
theorem dX10_visitsAreDone_33 : decode cX10_visitsAreDone 33 = .ok (.iconst 0, 1) := by decide +kernel
theorem dX10_visitsAreDone_34 : decode cX10_visitsAreDone 34 = .ok (.ireturn, 1) := by decide +kernel
theorem dX10_visitsAreDone_35 : decode cX10_visitsAreDone 35 = .ok (.iinc 3 1, 3) := by decide +kernel
theorem dX10_visitsAreDone_38 : decode cX10_visitsAreDone 38 = .ok (.goto (-28), 3) := by decide +kernel
theorem dX10_visitsAreDone_41 : decode cX10_visitsAreDone 41 = .ok (.iconst 1, 1) := by decide +kernel
theorem dX10_visitsAreDone_42 : decode cX10_visitsAreDone 42 = .ok (.ireturn, 1) := by decide +kernel
set_option maxHeartbeats 4000000 in
set_option maxRecDepth 100000 in
theorem t_X10_visitsAreDone_L10 {l : Launch} {E : u_E} {K : u_K} {r : Int} {s' : u_S} (g : Wk l (XE E) { frames := 3, cells := 0, slots := 0, locals := 63 } cX10_visitsAreDone 4 yX10_visitsAreDone.cls yX10_visitsAreDone.name (some .boolean) (RZ E r s') K) {v0_1 : u_O} {v2_1 : Int} (i_v0_1 : is_FP v0_1) (i_v2_1 : InR v2_1) {kx41 : u_S → Option (Int × u_S)} (hkx41 : ∀ (s_5 : u_S), kx41 s_5 = some (r, s') → K 0 0 41 [none, none, none, none] [] (Wd E s_5)) : ∀ (m : Nat) (v3_1 : Int) (s_2 : u_S), InR v3_1 → f_X10_visitsAreDone_L10 m kx41 v0_1 v2_1 v3_1 s_2 = some (r, s') → K 0 0 10 [some (.ref (E.1 v0_1)), none, some (.int (J v2_1)), some (.int (J v3_1))] [] (Wd E s_2) := by
  have g0 := g.wk
  intro m
  induction m with
  | zero =>
    intro v3_1 s_2 i_v3_1 h
    exact absurd (show (none : Option (Int × u_S)) = some (r, s') from h) (by intro z; cases z)
  | succ m ih =>
    intro v3_1 s_2 i_v3_1 h
    rw [f_X10_visitsAreDone_L10] at h
    refine r_iload_n g0 dX10_visitsAreDone_10 rfl ?_
    refine r_iload_n g0 dX10_visitsAreDone_11 rfl ?_
    refine r_icmp_ge g0 41 dX10_visitsAreDone_12 (by decide) i_v3_1 i_v2_1 (fun hc => ?_) (fun hc => ?_)
    · replace h := if_f hc h
      refine r_mask g0 (lv' := [none, none, none, none]) [false, false, false, false] rfl ?_
      exact hkx41 s_2 h
    · replace h := if_t hc h
      refine r_aload_n g0 dX10_visitsAreDone_15 rfl ?_
      refine g_FP_plan g0 i_v0_1 qX10_12 dX10_visitsAreDone_16 ?_
      refine r_aload_n g0 dX10_visitsAreDone_19 rfl ?_
      refine g_FP_text g0 i_v0_1 qX10_29 dX10_visitsAreDone_20 ?_
      refine r_iload_n g0 dX10_visitsAreDone_23 rfl ?_
      obtain ⟨r_1, s_3, hr_1, h⟩ := bd_some h
      refine r_cVI g0 (rest := [.ref (E.1 (a_FP_plan v0_1))]) (c_X7_number (is_a_FP_text i_v0_1) i_v3_1 hr_1) ok_X7_number mX10_413 (recv_Reader (is_a_FP_text i_v0_1)) dX10_visitsAreDone_24 ⟨Nat.le_of_ble_eq_true rfl, Nat.le_of_ble_eq_true rfl⟩ ⟨Nat.zero_le _, Nat.zero_le _⟩ rfl (Nat.le_of_ble_eq_true rfl) rfl (fun i_r_1 => ?_)
      obtain ⟨r_2, s_4, hr_2, h⟩ := bd_some h
      refine r_cVI g0 (rest := []) (c_X6_addVisit (is_a_FP_plan i_v0_1) i_r_1 hr_2) ok_X6_addVisit mX10_295 (recv_Plan (is_a_FP_plan i_v0_1)) dX10_visitsAreDone_27 ⟨Nat.le_of_ble_eq_true rfl, Nat.le_of_ble_eq_true rfl⟩ ⟨Nat.zero_le _, Nat.zero_le _⟩ rfl (Nat.le_of_ble_eq_true rfl) rfl (fun i_r_2 => ?_)
      refine r_if_ge g0 35 dX10_visitsAreDone_30 (by decide) i_r_2 (fun hc => ?_) (fun hc => ?_)
      · replace h := if_f hc h
        refine r_iinc g0 (a := v3_1) (lv' := [some (.ref (E.1 v0_1)), none, some (.int (J v2_1)), some (.int (J (wr (v3_1 + 1))))]) dX10_visitsAreDone_35 (by decide) rfl rfl rfl ?_
        refine r_goto g0 10 dX10_visitsAreDone_38 (by decide) ?_
        exact ih (wr (v3_1 + 1)) s_4 (InR_wr _) h
      · replace h := if_t hc h
        refine r_iconst g0 dX10_visitsAreDone_33 ?_
        exact z_Z g dX10_visitsAreDone_34 B01_0 h
set_option maxHeartbeats 4000000 in
set_option maxRecDepth 100000 in
theorem c_X10_visitsAreDone {E : u_E} {l : Launch} {o : u_O} {p1 : Int} {p2 : Int} (ho : is_FP o) (i_p1 : InR p1) (i_p2 : InR p2) {s s' : u_S} {r : Int} (h : f_X10_visitsAreDone o p1 p2 s = some (r, s')) : Con l (XE E) yX10_visitsAreDone cX10_visitsAreDone 4 (some .boolean) 3 63 0 0 [.ref (E.1 o), .int (J p1), .int (J p2)] (Wd E s) (RZ E r s') := by
  refine Con.of [some (.ref (E.1 o)), some (.int (J p1)), some (.int (J p2)), none] (by decide +kernel) rfl rfl (Nat.le_of_ble_eq_true rfl) (fun K g => ?_)
  have g0 := g.wk
  unfold f_X10_visitsAreDone at h
  refine r_aload_n g0 dX10_visitsAreDone_0 rfl ?_
  refine g_FP_plan g0 ho qX10_12 dX10_visitsAreDone_1 ?_
  refine r_iconst g0 dX10_visitsAreDone_4 ?_
  refine p_Plan_visitCount g0 (is_a_FP_plan ho) qX10_301 dX10_visitsAreDone_5 ?_
  refine r_iload_n g0 dX10_visitsAreDone_8 rfl ?_
  refine r_istore_n g0 (lv' := [some (.ref (E.1 o)), some (.int (J p1)), some (.int (J p2)), some (.int (J p1))]) dX10_visitsAreDone_9 (by decide) rfl rfl ?_
  refine r_mask g0 (lv' := [some (.ref (E.1 o)), none, some (.int (J p2)), some (.int (J p1))]) [true, false, true, true] rfl ?_
  refine t_X10_visitsAreDone_L10 g ho i_p2 ?_ FU p1 (wt s (a_FP_plan o) 3 0) i_p1 h
  · intro s_1 h
    refine r_iconst g0 dX10_visitsAreDone_41 ?_
    exact z_Z g dX10_visitsAreDone_42 B01_1 h
theorem dX10_isDone_0 : decode cX10_isDone 0 = .ok (.aload_n 0, 1) := by decide +kernel
theorem dX10_isDone_1 : decode cX10_isDone 1 = .ok (.getfield 29, 3) := by decide +kernel
theorem dX10_isDone_4 : decode cX10_isDone 4 = .ok (.iload_n 1, 1) := by decide +kernel
theorem dX10_isDone_5 : decode cX10_isDone 5 = .ok (.invokevirtual 404, 3) := by decide +kernel
theorem dX10_isDone_8 : decode cX10_isDone 8 = .ok (.istore_n 2, 1) := by decide +kernel
theorem dX10_isDone_9 : decode cX10_isDone 9 = .ok (.aload_n 0, 1) := by decide +kernel
theorem dX10_isDone_10 : decode cX10_isDone 10 = .ok (.getfield 29, 3) := by decide +kernel
theorem dX10_isDone_13 : decode cX10_isDone 13 = .ok (.iload_n 1, 1) := by decide +kernel
theorem dX10_isDone_14 : decode cX10_isDone 14 = .ok (.iconst 1, 1) := by decide +kernel
theorem dX10_isDone_15 : decode cX10_isDone 15 = .ok (.iadd, 1) := by decide +kernel
theorem dX10_isDone_16 : decode cX10_isDone 16 = .ok (.invokevirtual 404, 3) := by decide +kernel
theorem dX10_isDone_19 : decode cX10_isDone 19 = .ok (.istore_n 3, 1) := by decide +kernel
theorem dX10_isDone_20 : decode cX10_isDone 20 = .ok (.aload_n 0, 1) := by decide +kernel
theorem dX10_isDone_21 : decode cX10_isDone 21 = .ok (.getfield 29, 3) := by decide +kernel
theorem dX10_isDone_24 : decode cX10_isDone 24 = .ok (.iload_n 1, 1) := by decide +kernel
theorem dX10_isDone_25 : decode cX10_isDone 25 = .ok (.invokevirtual 407, 3) := by decide +kernel
theorem dX10_isDone_28 : decode cX10_isDone 28 = .ok (.lookupswitch 198 #[(101, 59), (104, 123), (108, 52), (109, 173), (116, 148)], 52) := by decide +kernel
theorem dX10_isDone_80 : decode cX10_isDone 80 = .ok (.aload_n 0, 1) := by decide +kernel
theorem dX10_isDone_81 : decode cX10_isDone 81 = .ok (.iload_n 2, 1) := by decide +kernel
theorem dX10_isDone_82 : decode cX10_isDone 82 = .ok (.iload_n 3, 1) := by decide +kernel
theorem dX10_isDone_83 : decode cX10_isDone 83 = .ok (.invokevirtual 410, 3) := by decide +kernel
theorem dX10_isDone_86 : decode cX10_isDone 86 = .ok (.ireturn, 1) := by decide +kernel
theorem dX10_isDone_87 : decode cX10_isDone 87 = .ok (.aload_n 0, 1) := by decide +kernel
theorem dX10_isDone_88 : decode cX10_isDone 88 = .ok (.getfield 12, 3) := by decide +kernel
theorem dX10_isDone_91 : decode cX10_isDone 91 = .ok (.aload_n 0, 1) := by decide +kernel
theorem dX10_isDone_92 : decode cX10_isDone 92 = .ok (.getfield 29, 3) := by decide +kernel
theorem dX10_isDone_95 : decode cX10_isDone 95 = .ok (.iload_n 2, 1) := by decide +kernel
theorem dX10_isDone_96 : decode cX10_isDone 96 = .ok (.invokevirtual 413, 3) := by decide +kernel
theorem dX10_isDone_99 : decode cX10_isDone 99 = .ok (.aload_n 0, 1) := by decide +kernel
theorem dX10_isDone_100 : decode cX10_isDone 100 = .ok (.getfield 29, 3) := by decide +kernel
theorem dX10_isDone_103 : decode cX10_isDone 103 = .ok (.iload_n 2, 1) := by decide +kernel
theorem dX10_isDone_104 : decode cX10_isDone 104 = .ok (.iconst 1, 1) := by decide +kernel
theorem dX10_isDone_105 : decode cX10_isDone 105 = .ok (.iadd, 1) := by decide +kernel
theorem dX10_isDone_106 : decode cX10_isDone 106 = .ok (.invokevirtual 413, 3) := by decide +kernel
theorem dX10_isDone_109 : decode cX10_isDone 109 = .ok (.aload_n 0, 1) := by decide +kernel
theorem dX10_isDone_110 : decode cX10_isDone 110 = .ok (.getfield 29, 3) := by decide +kernel
theorem dX10_isDone_113 : decode cX10_isDone 113 = .ok (.iload_n 2, 1) := by decide +kernel
theorem dX10_isDone_114 : decode cX10_isDone 114 = .ok (.iconst 2, 1) := by decide +kernel
theorem dX10_isDone_115 : decode cX10_isDone 115 = .ok (.iadd, 1) := by decide +kernel
theorem dX10_isDone_116 : decode cX10_isDone 116 = .ok (.invokevirtual 413, 3) := by decide +kernel
theorem dX10_isDone_119 : decode cX10_isDone 119 = .ok (.aload_n 0, 1) := by decide +kernel
theorem dX10_isDone_120 : decode cX10_isDone 120 = .ok (.getfield 29, 3) := by decide +kernel
theorem dX10_isDone_123 : decode cX10_isDone 123 = .ok (.iload_n 2, 1) := by decide +kernel
theorem dX10_isDone_124 : decode cX10_isDone 124 = .ok (.iconst 3, 1) := by decide +kernel
theorem dX10_isDone_125 : decode cX10_isDone 125 = .ok (.iadd, 1) := by decide +kernel
theorem dX10_isDone_126 : decode cX10_isDone 126 = .ok (.invokevirtual 413, 3) := by decide +kernel
theorem dX10_isDone_129 : decode cX10_isDone 129 = .ok (.aload_n 0, 1) := by decide +kernel
theorem dX10_isDone_130 : decode cX10_isDone 130 = .ok (.getfield 29, 3) := by decide +kernel
theorem dX10_isDone_133 : decode cX10_isDone 133 = .ok (.iload_n 2, 1) := by decide +kernel
theorem dX10_isDone_134 : decode cX10_isDone 134 = .ok (.iconst 4, 1) := by decide +kernel
theorem dX10_isDone_135 : decode cX10_isDone 135 = .ok (.iadd, 1) := by decide +kernel
theorem dX10_isDone_136 : decode cX10_isDone 136 = .ok (.invokevirtual 413, 3) := by decide +kernel
theorem dX10_isDone_139 : decode cX10_isDone 139 = .ok (.invokevirtual 173, 3) := by decide +kernel
theorem dX10_isDone_142 : decode cX10_isDone 142 = .ok (.ifCond .lt 7, 3) := by decide +kernel
theorem dX10_isDone_145 : decode cX10_isDone 145 = .ok (.iconst 1, 1) := by decide +kernel
theorem dX10_isDone_146 : decode cX10_isDone 146 = .ok (.goto 4, 3) := by decide +kernel
theorem dX10_isDone_149 : decode cX10_isDone 149 = .ok (.iconst 0, 1) := by decide +kernel
theorem dX10_isDone_150 : decode cX10_isDone 150 = .ok (.ireturn, 1) := by decide +kernel
theorem dX10_isDone_151 : decode cX10_isDone 151 = .ok (.aload_n 0, 1) := by decide +kernel
theorem dX10_isDone_152 : decode cX10_isDone 152 = .ok (.getfield 12, 3) := by decide +kernel
theorem dX10_isDone_155 : decode cX10_isDone 155 = .ok (.iconst 0, 1) := by decide +kernel
theorem dX10_isDone_156 : decode cX10_isDone 156 = .ok (.aload_n 0, 1) := by decide +kernel
theorem dX10_isDone_157 : decode cX10_isDone 157 = .ok (.getfield 29, 3) := by decide +kernel
theorem dX10_isDone_160 : decode cX10_isDone 160 = .ok (.iload_n 2, 1) := by decide +kernel
theorem dX10_isDone_161 : decode cX10_isDone 161 = .ok (.invokevirtual 413, 3) := by decide +kernel
theorem dX10_isDone_164 : decode cX10_isDone 164 = .ok (.invokevirtual 97, 3) := by decide +kernel
theorem dX10_isDone_167 : decode cX10_isDone 167 = .ok (.ifCond .lt 7, 3) := by decide +kernel
theorem dX10_isDone_170 : decode cX10_isDone 170 = .ok (.iconst 1, 1) := by decide +kernel
theorem dX10_isDone_171 : decode cX10_isDone 171 = .ok (.goto 4, 3) := by decide +kernel
theorem dX10_isDone_174 : decode cX10_isDone 174 = .ok (.iconst 0, 1) := by decide +kernel
theorem dX10_isDone_175 : decode cX10_isDone 175 = .ok (.ireturn, 1) := by decide +kernel
theorem dX10_isDone_176 : decode cX10_isDone 176 = .ok (.aload_n 0, 1) := by decide +kernel
theorem dX10_isDone_177 : decode cX10_isDone 177 = .ok (.getfield 12, 3) := by decide +kernel
theorem dX10_isDone_180 : decode cX10_isDone 180 = .ok (.iconst 1, 1) := by decide +kernel
theorem dX10_isDone_181 : decode cX10_isDone 181 = .ok (.aload_n 0, 1) := by decide +kernel
theorem dX10_isDone_182 : decode cX10_isDone 182 = .ok (.getfield 29, 3) := by decide +kernel
theorem dX10_isDone_185 : decode cX10_isDone 185 = .ok (.iload_n 2, 1) := by decide +kernel
theorem dX10_isDone_186 : decode cX10_isDone 186 = .ok (.invokevirtual 413, 3) := by decide +kernel
theorem dX10_isDone_189 : decode cX10_isDone 189 = .ok (.invokevirtual 97, 3) := by decide +kernel
theorem dX10_isDone_192 : decode cX10_isDone 192 = .ok (.ifCond .lt 7, 3) := by decide +kernel
theorem dX10_isDone_195 : decode cX10_isDone 195 = .ok (.iconst 1, 1) := by decide +kernel
theorem dX10_isDone_196 : decode cX10_isDone 196 = .ok (.goto 4, 3) := by decide +kernel
theorem dX10_isDone_199 : decode cX10_isDone 199 = .ok (.iconst 0, 1) := by decide +kernel
theorem dX10_isDone_200 : decode cX10_isDone 200 = .ok (.ireturn, 1) := by decide +kernel
theorem dX10_isDone_201 : decode cX10_isDone 201 = .ok (.aload_n 0, 1) := by decide +kernel
theorem dX10_isDone_202 : decode cX10_isDone 202 = .ok (.getfield 12, 3) := by decide +kernel
theorem dX10_isDone_205 : decode cX10_isDone 205 = .ok (.iconst 2, 1) := by decide +kernel
theorem dX10_isDone_206 : decode cX10_isDone 206 = .ok (.aload_n 0, 1) := by decide +kernel
theorem dX10_isDone_207 : decode cX10_isDone 207 = .ok (.getfield 29, 3) := by decide +kernel
theorem dX10_isDone_210 : decode cX10_isDone 210 = .ok (.iload_n 2, 1) := by decide +kernel
theorem dX10_isDone_211 : decode cX10_isDone 211 = .ok (.invokevirtual 413, 3) := by decide +kernel
theorem dX10_isDone_214 : decode cX10_isDone 214 = .ok (.invokevirtual 97, 3) := by decide +kernel
theorem dX10_isDone_217 : decode cX10_isDone 217 = .ok (.ifCond .lt 7, 3) := by decide +kernel
theorem dX10_isDone_220 : decode cX10_isDone 220 = .ok (.iconst 1, 1) := by decide +kernel
theorem dX10_isDone_221 : decode cX10_isDone 221 = .ok (.goto 4, 3) := by decide +kernel
theorem dX10_isDone_224 : decode cX10_isDone 224 = .ok (.iconst 0, 1) := by decide +kernel
theorem dX10_isDone_225 : decode cX10_isDone 225 = .ok (.ireturn, 1) := by decide +kernel
theorem dX10_isDone_226 : decode cX10_isDone 226 = .ok (.aload_n 0, 1) := by decide +kernel
theorem dX10_isDone_227 : decode cX10_isDone 227 = .ok (.iload_n 2, 1) := by decide +kernel
theorem dX10_isDone_228 : decode cX10_isDone 228 = .ok (.iload_n 3, 1) := by decide +kernel
theorem dX10_isDone_229 : decode cX10_isDone 229 = .ok (.invokevirtual 414, 3) := by decide +kernel
theorem dX10_isDone_232 : decode cX10_isDone 232 = .ok (.ireturn, 1) := by decide +kernel
set_option maxHeartbeats 4000000 in
set_option maxRecDepth 100000 in
theorem c_X10_isDone {E : u_E} {l : Launch} {o : u_O} {p1 : Int} (ho : is_FP o) (i_p1 : InR p1) {s s' : u_S} {r : Int} (h : f_X10_isDone o p1 s = some (r, s')) : Con l (XE E) yX10_isDone cX10_isDone 4 (some .boolean) 5 116 0 0 [.ref (E.1 o), .int (J p1)] (Wd E s) (RZ E r s') := by
  refine Con.of [some (.ref (E.1 o)), some (.int (J p1)), none, none] (by decide +kernel) rfl rfl (Nat.le_of_ble_eq_true rfl) (fun K g => ?_)
  have g0 := g.wk
  unfold f_X10_isDone at h
  refine r_aload_n g0 dX10_isDone_0 rfl ?_
  refine g_FP_text g0 ho qX10_29 dX10_isDone_1 ?_
  refine r_iload_n g0 dX10_isDone_4 rfl ?_
  obtain ⟨r_1, s_1, hr_1, h⟩ := bd_some h
  refine r_cVI g0 (rest := []) (c_X7_firstNumber (is_a_FP_text ho) i_p1 hr_1) ok_X7_firstNumber mX10_404 (recv_Reader (is_a_FP_text ho)) dX10_isDone_5 ⟨Nat.le_of_ble_eq_true rfl, Nat.le_of_ble_eq_true rfl⟩ ⟨Nat.zero_le _, Nat.zero_le _⟩ rfl (Nat.le_of_ble_eq_true rfl) rfl (fun i_r_1 => ?_)
  refine r_istore_n g0 (lv' := [some (.ref (E.1 o)), some (.int (J p1)), some (.int (J r_1)), none]) dX10_isDone_8 (by decide) rfl rfl ?_
  refine r_aload_n g0 dX10_isDone_9 rfl ?_
  refine g_FP_text g0 ho qX10_29 dX10_isDone_10 ?_
  refine r_iload_n g0 dX10_isDone_13 rfl ?_
  refine r_iconst g0 dX10_isDone_14 ?_
  refine r_iadd g0 dX10_isDone_15 ?_
  obtain ⟨r_2, s_2, hr_2, h⟩ := bd_some h
  refine r_cVI g0 (rest := []) (c_X7_firstNumber (is_a_FP_text ho) (InR_wr _) hr_2) ok_X7_firstNumber mX10_404 (recv_Reader (is_a_FP_text ho)) dX10_isDone_16 ⟨Nat.le_of_ble_eq_true rfl, Nat.le_of_ble_eq_true rfl⟩ ⟨Nat.zero_le _, Nat.zero_le _⟩ rfl (Nat.le_of_ble_eq_true rfl) rfl (fun i_r_2 => ?_)
  refine r_istore_n g0 (lv' := [some (.ref (E.1 o)), some (.int (J p1)), some (.int (J r_1)), some (.int (J r_2))]) dX10_isDone_19 (by decide) rfl rfl ?_
  refine r_aload_n g0 dX10_isDone_20 rfl ?_
  refine g_FP_text g0 ho qX10_29 dX10_isDone_21 ?_
  refine r_iload_n g0 dX10_isDone_24 rfl ?_
  obtain ⟨r_3, s_3, hr_3, h⟩ := bd_some h
  refine r_cVI g0 (rest := []) (c_X7_letter (is_a_FP_text ho) i_p1 hr_3) ok_X7_letter mX10_407 (recv_Reader (is_a_FP_text ho)) dX10_isDone_25 ⟨Nat.le_of_ble_eq_true rfl, Nat.le_of_ble_eq_true rfl⟩ ⟨Nat.zero_le _, Nat.zero_le _⟩ rfl (Nat.le_of_ble_eq_true rfl) rfl (fun i_r_3 => ?_)
  by_cases hc101 : r_3 = 101
  · replace h := if_t hc101 h
    refine r_lsw g0 (off := 59) 87 dX10_isDone_28 i_r_3 (by decide) (by simp [Op.lookupswitch.offset_cons, Op.lookupswitch.offset_nil, hc101]) (by decide) ?_
    refine r_aload_n g0 dX10_isDone_87 rfl ?_
    refine g_FP_plan g0 ho qX10_12 dX10_isDone_88 ?_
    refine r_aload_n g0 dX10_isDone_91 rfl ?_
    refine g_FP_text g0 ho qX10_29 dX10_isDone_92 ?_
    refine r_iload_n g0 dX10_isDone_95 rfl ?_
    obtain ⟨r_5, s_5, hr_5, h⟩ := bd_some h
    refine r_cVI g0 (rest := [.ref (E.1 (a_FP_plan o))]) (c_X7_number (is_a_FP_text ho) i_r_1 hr_5) ok_X7_number mX10_413 (recv_Reader (is_a_FP_text ho)) dX10_isDone_96 ⟨Nat.le_of_ble_eq_true rfl, Nat.le_of_ble_eq_true rfl⟩ ⟨Nat.zero_le _, Nat.zero_le _⟩ rfl (Nat.le_of_ble_eq_true rfl) rfl (fun i_r_5 => ?_)
    refine r_aload_n g0 dX10_isDone_99 rfl ?_
    refine g_FP_text g0 ho qX10_29 dX10_isDone_100 ?_
    refine r_iload_n g0 dX10_isDone_103 rfl ?_
    refine r_iconst g0 dX10_isDone_104 ?_
    refine r_iadd g0 dX10_isDone_105 ?_
    obtain ⟨r_6, s_6, hr_6, h⟩ := bd_some h
    refine r_cVI g0 (rest := [.int (J r_5), .ref (E.1 (a_FP_plan o))]) (c_X7_number (is_a_FP_text ho) (InR_wr _) hr_6) ok_X7_number mX10_413 (recv_Reader (is_a_FP_text ho)) dX10_isDone_106 ⟨Nat.le_of_ble_eq_true rfl, Nat.le_of_ble_eq_true rfl⟩ ⟨Nat.zero_le _, Nat.zero_le _⟩ rfl (Nat.le_of_ble_eq_true rfl) rfl (fun i_r_6 => ?_)
    refine r_aload_n g0 dX10_isDone_109 rfl ?_
    refine g_FP_text g0 ho qX10_29 dX10_isDone_110 ?_
    refine r_iload_n g0 dX10_isDone_113 rfl ?_
    refine r_iconst g0 dX10_isDone_114 ?_
    refine r_iadd g0 dX10_isDone_115 ?_
    obtain ⟨r_7, s_7, hr_7, h⟩ := bd_some h
    refine r_cVI g0 (rest := [.int (J r_6), .int (J r_5), .ref (E.1 (a_FP_plan o))]) (c_X7_number (is_a_FP_text ho) (InR_wr _) hr_7) ok_X7_number mX10_413 (recv_Reader (is_a_FP_text ho)) dX10_isDone_116 ⟨Nat.le_of_ble_eq_true rfl, Nat.le_of_ble_eq_true rfl⟩ ⟨Nat.zero_le _, Nat.zero_le _⟩ rfl (Nat.le_of_ble_eq_true rfl) rfl (fun i_r_7 => ?_)
    refine r_aload_n g0 dX10_isDone_119 rfl ?_
    refine g_FP_text g0 ho qX10_29 dX10_isDone_120 ?_
    refine r_iload_n g0 dX10_isDone_123 rfl ?_
    refine r_iconst g0 dX10_isDone_124 ?_
    refine r_iadd g0 dX10_isDone_125 ?_
    obtain ⟨r_8, s_8, hr_8, h⟩ := bd_some h
    refine r_cVI g0 (rest := [.int (J r_7), .int (J r_6), .int (J r_5), .ref (E.1 (a_FP_plan o))]) (c_X7_number (is_a_FP_text ho) (InR_wr _) hr_8) ok_X7_number mX10_413 (recv_Reader (is_a_FP_text ho)) dX10_isDone_126 ⟨Nat.le_of_ble_eq_true rfl, Nat.le_of_ble_eq_true rfl⟩ ⟨Nat.zero_le _, Nat.zero_le _⟩ rfl (Nat.le_of_ble_eq_true rfl) rfl (fun i_r_8 => ?_)
    refine r_aload_n g0 dX10_isDone_129 rfl ?_
    refine g_FP_text g0 ho qX10_29 dX10_isDone_130 ?_
    refine r_iload_n g0 dX10_isDone_133 rfl ?_
    refine r_iconst g0 dX10_isDone_134 ?_
    refine r_iadd g0 dX10_isDone_135 ?_
    obtain ⟨r_9, s_9, hr_9, h⟩ := bd_some h
    refine r_cVI g0 (rest := [.int (J r_8), .int (J r_7), .int (J r_6), .int (J r_5), .ref (E.1 (a_FP_plan o))]) (c_X7_number (is_a_FP_text ho) (InR_wr _) hr_9) ok_X7_number mX10_413 (recv_Reader (is_a_FP_text ho)) dX10_isDone_136 ⟨Nat.le_of_ble_eq_true rfl, Nat.le_of_ble_eq_true rfl⟩ ⟨Nat.zero_le _, Nat.zero_le _⟩ rfl (Nat.le_of_ble_eq_true rfl) rfl (fun i_r_9 => ?_)
    obtain ⟨r_10, s_10, hr_10, h⟩ := bd_some h
    refine r_cVI g0 (rest := []) (c_X6_addEntry (is_a_FP_plan ho) i_r_5 i_r_6 i_r_7 i_r_8 i_r_9 hr_10) ok_X6_addEntry mX10_173 (recv_Plan (is_a_FP_plan ho)) dX10_isDone_139 ⟨Nat.le_of_ble_eq_true rfl, Nat.le_of_ble_eq_true rfl⟩ ⟨Nat.zero_le _, Nat.zero_le _⟩ rfl (Nat.le_of_ble_eq_true rfl) rfl (fun i_r_10 => ?_)
    refine r_if_lt g0 149 dX10_isDone_142 (by decide) i_r_10 (fun hc => ?_) (fun hc => ?_)
    · replace h := if_t hc h
      refine r_iconst g0 dX10_isDone_149 ?_
      exact z_Z g dX10_isDone_150 B01_0 h
    · replace h := if_f hc h
      refine r_iconst g0 dX10_isDone_145 ?_
      refine r_goto g0 150 dX10_isDone_146 (by decide) ?_
      exact z_Z g dX10_isDone_150 B01_1 h
  replace h := if_f hc101 h
  by_cases hc104 : r_3 = 104
  · replace h := if_t hc104 h
    refine r_lsw g0 (off := 123) 151 dX10_isDone_28 i_r_3 (by decide) (by simp [Op.lookupswitch.offset_cons, Op.lookupswitch.offset_nil, hc104]) (by decide) ?_
    refine r_aload_n g0 dX10_isDone_151 rfl ?_
    refine g_FP_plan g0 ho qX10_12 dX10_isDone_152 ?_
    refine r_iconst g0 dX10_isDone_155 ?_
    refine r_aload_n g0 dX10_isDone_156 rfl ?_
    refine g_FP_text g0 ho qX10_29 dX10_isDone_157 ?_
    refine r_iload_n g0 dX10_isDone_160 rfl ?_
    obtain ⟨r_11, s_11, hr_11, h⟩ := bd_some h
    refine r_cVI g0 (rest := [.int (J 0), .ref (E.1 (a_FP_plan o))]) (c_X7_number (is_a_FP_text ho) i_r_1 hr_11) ok_X7_number mX10_413 (recv_Reader (is_a_FP_text ho)) dX10_isDone_161 ⟨Nat.le_of_ble_eq_true rfl, Nat.le_of_ble_eq_true rfl⟩ ⟨Nat.zero_le _, Nat.zero_le _⟩ rfl (Nat.le_of_ble_eq_true rfl) rfl (fun i_r_11 => ?_)
    obtain ⟨r_12, s_12, hr_12, h⟩ := bd_some h
    refine r_cVI g0 (rest := []) (c_X6_setValue (is_a_FP_plan ho) (B01.inR B01_0) i_r_11 hr_12) ok_X6_setValue mX10_97 (recv_Plan (is_a_FP_plan ho)) dX10_isDone_164 ⟨Nat.le_of_ble_eq_true rfl, Nat.le_of_ble_eq_true rfl⟩ ⟨Nat.zero_le _, Nat.zero_le _⟩ rfl (Nat.le_of_ble_eq_true rfl) rfl (fun i_r_12 => ?_)
    refine r_if_lt g0 174 dX10_isDone_167 (by decide) i_r_12 (fun hc => ?_) (fun hc => ?_)
    · replace h := if_t hc h
      refine r_iconst g0 dX10_isDone_174 ?_
      exact z_Z g dX10_isDone_175 B01_0 h
    · replace h := if_f hc h
      refine r_iconst g0 dX10_isDone_170 ?_
      refine r_goto g0 175 dX10_isDone_171 (by decide) ?_
      exact z_Z g dX10_isDone_175 B01_1 h
  replace h := if_f hc104 h
  by_cases hc108 : r_3 = 108
  · replace h := if_t hc108 h
    refine r_lsw g0 (off := 52) 80 dX10_isDone_28 i_r_3 (by decide) (by simp [Op.lookupswitch.offset_cons, Op.lookupswitch.offset_nil, hc108]) (by decide) ?_
    refine r_aload_n g0 dX10_isDone_80 rfl ?_
    refine r_iload_n g0 dX10_isDone_81 rfl ?_
    refine r_iload_n g0 dX10_isDone_82 rfl ?_
    obtain ⟨r_13, s_13, hr_13, h⟩ := bd_some h
    refine r_cVZ g0 (rest := []) (c_X10_lineIsDone ho i_r_1 i_r_2 hr_13) ok_X10_lineIsDone mX10_410 (recv_FP ho) dX10_isDone_83 ⟨Nat.le_of_ble_eq_true rfl, Nat.le_of_ble_eq_true rfl⟩ ⟨Nat.zero_le _, Nat.zero_le _⟩ rfl (Nat.le_of_ble_eq_true rfl) rfl (fun i_r_13 => ?_)
    exact z_Z g dX10_isDone_86 i_r_13 h
  replace h := if_f hc108 h
  by_cases hc109 : r_3 = 109
  · replace h := if_t hc109 h
    refine r_lsw g0 (off := 173) 201 dX10_isDone_28 i_r_3 (by decide) (by simp [Op.lookupswitch.offset_cons, Op.lookupswitch.offset_nil, hc109]) (by decide) ?_
    refine r_aload_n g0 dX10_isDone_201 rfl ?_
    refine g_FP_plan g0 ho qX10_12 dX10_isDone_202 ?_
    refine r_iconst g0 dX10_isDone_205 ?_
    refine r_aload_n g0 dX10_isDone_206 rfl ?_
    refine g_FP_text g0 ho qX10_29 dX10_isDone_207 ?_
    refine r_iload_n g0 dX10_isDone_210 rfl ?_
    obtain ⟨r_14, s_14, hr_14, h⟩ := bd_some h
    refine r_cVI g0 (rest := [.int (J 2), .ref (E.1 (a_FP_plan o))]) (c_X7_number (is_a_FP_text ho) i_r_1 hr_14) ok_X7_number mX10_413 (recv_Reader (is_a_FP_text ho)) dX10_isDone_211 ⟨Nat.le_of_ble_eq_true rfl, Nat.le_of_ble_eq_true rfl⟩ ⟨Nat.zero_le _, Nat.zero_le _⟩ rfl (Nat.le_of_ble_eq_true rfl) rfl (fun i_r_14 => ?_)
    obtain ⟨r_15, s_15, hr_15, h⟩ := bd_some h
    refine r_cVI g0 (rest := []) (c_X6_setValue (is_a_FP_plan ho) (InR_lit rfl) i_r_14 hr_15) ok_X6_setValue mX10_97 (recv_Plan (is_a_FP_plan ho)) dX10_isDone_214 ⟨Nat.le_of_ble_eq_true rfl, Nat.le_of_ble_eq_true rfl⟩ ⟨Nat.zero_le _, Nat.zero_le _⟩ rfl (Nat.le_of_ble_eq_true rfl) rfl (fun i_r_15 => ?_)
    refine r_if_lt g0 224 dX10_isDone_217 (by decide) i_r_15 (fun hc => ?_) (fun hc => ?_)
    · replace h := if_t hc h
      refine r_iconst g0 dX10_isDone_224 ?_
      exact z_Z g dX10_isDone_225 B01_0 h
    · replace h := if_f hc h
      refine r_iconst g0 dX10_isDone_220 ?_
      refine r_goto g0 225 dX10_isDone_221 (by decide) ?_
      exact z_Z g dX10_isDone_225 B01_1 h
  replace h := if_f hc109 h
  by_cases hc116 : r_3 = 116
  · replace h := if_t hc116 h
    refine r_lsw g0 (off := 148) 176 dX10_isDone_28 i_r_3 (by decide) (by simp [Op.lookupswitch.offset_cons, Op.lookupswitch.offset_nil, hc116]) (by decide) ?_
    refine r_aload_n g0 dX10_isDone_176 rfl ?_
    refine g_FP_plan g0 ho qX10_12 dX10_isDone_177 ?_
    refine r_iconst g0 dX10_isDone_180 ?_
    refine r_aload_n g0 dX10_isDone_181 rfl ?_
    refine g_FP_text g0 ho qX10_29 dX10_isDone_182 ?_
    refine r_iload_n g0 dX10_isDone_185 rfl ?_
    obtain ⟨r_16, s_16, hr_16, h⟩ := bd_some h
    refine r_cVI g0 (rest := [.int (J 1), .ref (E.1 (a_FP_plan o))]) (c_X7_number (is_a_FP_text ho) i_r_1 hr_16) ok_X7_number mX10_413 (recv_Reader (is_a_FP_text ho)) dX10_isDone_186 ⟨Nat.le_of_ble_eq_true rfl, Nat.le_of_ble_eq_true rfl⟩ ⟨Nat.zero_le _, Nat.zero_le _⟩ rfl (Nat.le_of_ble_eq_true rfl) rfl (fun i_r_16 => ?_)
    obtain ⟨r_17, s_17, hr_17, h⟩ := bd_some h
    refine r_cVI g0 (rest := []) (c_X6_setValue (is_a_FP_plan ho) (B01.inR B01_1) i_r_16 hr_17) ok_X6_setValue mX10_97 (recv_Plan (is_a_FP_plan ho)) dX10_isDone_189 ⟨Nat.le_of_ble_eq_true rfl, Nat.le_of_ble_eq_true rfl⟩ ⟨Nat.zero_le _, Nat.zero_le _⟩ rfl (Nat.le_of_ble_eq_true rfl) rfl (fun i_r_17 => ?_)
    refine r_if_lt g0 199 dX10_isDone_192 (by decide) i_r_17 (fun hc => ?_) (fun hc => ?_)
    · replace h := if_t hc h
      refine r_iconst g0 dX10_isDone_199 ?_
      exact z_Z g dX10_isDone_200 B01_0 h
    · replace h := if_f hc h
      refine r_iconst g0 dX10_isDone_195 ?_
      refine r_goto g0 200 dX10_isDone_196 (by decide) ?_
      exact z_Z g dX10_isDone_200 B01_1 h
  replace h := if_f hc116 h
  refine r_lsw g0 (off := 198) 226 dX10_isDone_28 i_r_3 (by decide) (by simp [Op.lookupswitch.offset_cons, Op.lookupswitch.offset_nil, Ne.symm hc101, Ne.symm hc104, Ne.symm hc108, Ne.symm hc109, Ne.symm hc116]) (by decide) ?_
  refine r_aload_n g0 dX10_isDone_226 rfl ?_
  refine r_iload_n g0 dX10_isDone_227 rfl ?_
  refine r_iload_n g0 dX10_isDone_228 rfl ?_
  obtain ⟨r_4, s_4, hr_4, h⟩ := bd_some h
  refine r_cVZ g0 (rest := []) (c_X10_visitsAreDone ho i_r_1 i_r_2 hr_4) ok_X10_visitsAreDone mX10_414 (recv_FP ho) dX10_isDone_229 ⟨Nat.le_of_ble_eq_true rfl, Nat.le_of_ble_eq_true rfl⟩ ⟨Nat.zero_le _, Nat.zero_le _⟩ rfl (Nat.le_of_ble_eq_true rfl) rfl (fun i_r_4 => ?_)
  exact z_Z g dX10_isDone_232 i_r_4 h
theorem dX10_reads_0 : decode cX10_reads 0 = .ok (.aload_n 0, 1) := by decide +kernel
theorem dX10_reads_1 : decode cX10_reads 1 = .ok (.getfield 29, 3) := by decide +kernel
theorem dX10_reads_4 : decode cX10_reads 4 = .ok (.invokevirtual 316, 3) := by decide +kernel
theorem dX10_reads_7 : decode cX10_reads 7 = .ok (.istore_n 1, 1) := by decide +kernel
theorem dX10_reads_8 : decode cX10_reads 8 = .ok (.iload_n 1, 1) := by decide +kernel
theorem dX10_reads_9 : decode cX10_reads 9 = .ok (.iconst (-1), 1) := by decide +kernel
theorem dX10_reads_10 : decode cX10_reads 10 = .ok (.if_icmp .eq 8, 3) := by decide +kernel
theorem dX10_reads_13 : decode cX10_reads 13 = .ok (.bipush (-10), 2) := by decide +kernel
theorem dX10_reads_15 : decode cX10_reads 15 = .ok (.iload_n 1, 1) := by decide +kernel
theorem dX10_reads_16 : decode cX10_reads 16 = .ok (.isub, 1) := by decide +kernel
theorem dX10_reads_17 : decode cX10_reads 17 = .ok (.ireturn, 1) := by decide +kernel
theorem dX10_reads_18 : decode cX10_reads 18 = .ok (.aload_n 0, 1) := by decide +kernel
theorem dX10_reads_19 : decode cX10_reads 19 = .ok (.getfield 16, 3) := by decide +kernel
theorem dX10_reads_22 : decode cX10_reads 22 = .ok (.aload_n 0, 1) := by decide +kernel
theorem dX10_reads_23 : decode cX10_reads 23 = .ok (.getfield 12, 3) := by decide +kernel
theorem dX10_reads_26 : decode cX10_reads 26 = .ok (.invokevirtual 75, 3) := by decide +kernel
theorem dX10_reads_29 : decode cX10_reads 29 = .ok (.iconst 0, 1) := by decide +kernel
theorem dX10_reads_30 : decode cX10_reads 30 = .ok (.istore_n 2, 1) := by decide +kernel
theorem dX10_reads_31 : decode cX10_reads 31 = .ok (.iload_n 2, 1) := by decide +kernel
theorem dX10_reads_32 : decode cX10_reads 32 = .ok (.aload_n 0, 1) := by decide +kernel
theorem dX10_reads_33 : decode cX10_reads 33 = .ok (.getfield 29, 3) := by decide +kernel
theorem dX10_reads_36 : decode cX10_reads 36 = .ok (.getfield 319, 3) := by decide +kernel
theorem dX10_reads_39 : decode cX10_reads 39 = .ok (.if_icmp .ge 34, 3) := by decide +kernel
theorem dX10_reads_42 : decode cX10_reads 42 = .ok (.aload_n 0, 1) := by decide +kernel
theorem dX10_reads_43 : decode cX10_reads 43 = .ok (.iload_n 2, 1) := by decide +kernel
theorem dX10_reads_44 : decode cX10_reads 44 = .ok (.invokevirtual 322, 3) := by decide +kernel
theorem dX10_reads_47 : decode cX10_reads 47 = .ok (.ifCond .ne 20, 3) := by decide +kernel
theorem dX10_reads_50 : decode cX10_reads 50 = .ok (.aload_n 0, 1) := by decide +kernel
theorem dX10_reads_51 : decode cX10_reads 51 = .ok (.getfield 12, 3) := by decide +kernel
theorem dX10_reads_54 : decode cX10_reads 54 = .ok (.aload_n 0, 1) := by decide +kernel
theorem dX10_reads_55 : decode cX10_reads 55 = .ok (.getfield 16, 3) := by decide +kernel
theorem dX10_reads_58 : decode cX10_reads 58 = .ok (.invokevirtual 75, 3) := by decide +kernel
theorem dX10_reads_61 : decode cX10_reads 61 = .ok (.sipush (-1000), 3) := by decide +kernel
theorem dX10_reads_64 : decode cX10_reads 64 = .ok (.iload_n 2, 1) := by decide +kernel
theorem dX10_reads_65 : decode cX10_reads 65 = .ok (.isub, 1) := by decide +kernel
theorem dX10_reads_66 : decode cX10_reads 66 = .ok (.ireturn, 1) := by decide +kernel
theorem dX10_reads_67 : decode cX10_reads 67 = .ok (.iinc 2 1, 3) := by decide +kernel
theorem dX10_reads_70 : decode cX10_reads 70 = .ok (.goto (-39), 3) := by decide +kernel
theorem dX10_reads_73 : decode cX10_reads 73 = .ok (.aload_n 0, 1) := by decide +kernel
theorem dX10_reads_74 : decode cX10_reads 74 = .ok (.aload_n 0, 1) := by decide +kernel
theorem dX10_reads_75 : decode cX10_reads 75 = .ok (.getfield 29, 3) := by decide +kernel
theorem dX10_reads_78 : decode cX10_reads 78 = .ok (.getfield 319, 3) := by decide +kernel
theorem dX10_reads_81 : decode cX10_reads 81 = .ok (.invokevirtual 83, 3) := by decide +kernel
theorem dX10_reads_84 : decode cX10_reads 84 = .ok (.ireturn, 1) := by decide +kernel
set_option maxHeartbeats 4000000 in
set_option maxRecDepth 100000 in
theorem t_X10_reads_L31 {l : Launch} {E : u_E} {K : u_K} {r : Int} {s' : u_S} (g : Wk l (XE E) { frames := 7, cells := 0, slots := 0, locals := 148 } cX10_reads 3 yX10_reads.cls yX10_reads.name (some .int) (RI E r s') K) {v0_1 : u_O} (i_v0_1 : is_FP v0_1) {kx73 : u_S → Option (Int × u_S)} (hkx73 : ∀ (s_8 : u_S), kx73 s_8 = some (r, s') → K 0 0 73 [some (.ref (E.1 v0_1)), none, none] [] (Wd E s_8)) : ∀ (m : Nat) (v2_1 : Int) (s_5 : u_S), InR v2_1 → f_X10_reads_L31 m kx73 v0_1 v2_1 s_5 = some (r, s') → K 0 0 31 [some (.ref (E.1 v0_1)), none, some (.int (J v2_1))] [] (Wd E s_5) := by
  have g0 := g.wk
  intro m
  induction m with
  | zero =>
    intro v2_1 s_5 i_v2_1 h
    exact absurd (show (none : Option (Int × u_S)) = some (r, s') from h) (by intro z; cases z)
  | succ m ih =>
    intro v2_1 s_5 i_v2_1 h
    rw [f_X10_reads_L31] at h
    refine r_iload_n g0 dX10_reads_31 rfl ?_
    refine r_aload_n g0 dX10_reads_32 rfl ?_
    refine g_FP_text g0 i_v0_1 qX10_29 dX10_reads_33 ?_
    refine g_Reader_orders g0 (is_a_FP_text i_v0_1) qX10_319 dX10_reads_36 ?_
    refine r_icmp_ge g0 73 dX10_reads_39 (by decide) i_v2_1 (InR_rd _ _ _) (fun hc => ?_) (fun hc => ?_)
    · replace h := if_f hc h
      refine r_mask g0 (lv' := [some (.ref (E.1 v0_1)), none, none]) [true, false, false] rfl ?_
      exact hkx73 s_5 h
    · replace h := if_t hc h
      refine r_aload_n g0 dX10_reads_42 rfl ?_
      refine r_iload_n g0 dX10_reads_43 rfl ?_
      obtain ⟨r_4, s_6, hr_4, h⟩ := bd_some h
      refine r_cVZ g0 (rest := []) (c_X10_isDone i_v0_1 i_v2_1 hr_4) ok_X10_isDone mX10_322 (recv_FP i_v0_1) dX10_reads_44 ⟨Nat.le_of_ble_eq_true rfl, Nat.le_of_ble_eq_true rfl⟩ ⟨Nat.zero_le _, Nat.zero_le _⟩ rfl (Nat.le_of_ble_eq_true rfl) rfl (fun i_r_4 => ?_)
      refine r_if_ne g0 67 dX10_reads_47 (by decide) (B01.inR i_r_4) (fun hc => ?_) (fun hc => ?_)
      · replace h := if_f hc h
        refine r_iinc g0 (a := v2_1) (lv' := [some (.ref (E.1 v0_1)), none, some (.int (J (wr (v2_1 + 1))))]) dX10_reads_67 (by decide) rfl rfl rfl ?_
        refine r_goto g0 31 dX10_reads_70 (by decide) ?_
        exact ih (wr (v2_1 + 1)) s_6 (InR_wr _) h
      · replace h := if_t hc h
        refine r_aload_n g0 dX10_reads_50 rfl ?_
        refine g_FP_plan g0 i_v0_1 qX10_12 dX10_reads_51 ?_
        refine r_aload_n g0 dX10_reads_54 rfl ?_
        refine g_FP_before g0 i_v0_1 qX10_16 dX10_reads_55 ?_
        obtain ⟨r_5, s_7, hr_5, h⟩ := bd_some h
        refine r_cVV g0 (rest := []) (c_X6_copyFrom (is_a_FP_plan i_v0_1) (is_a_FP_before i_v0_1) hr_5) ok_X6_copyFrom mX10_75 (recv_Plan (is_a_FP_plan i_v0_1)) dX10_reads_58 ⟨Nat.le_of_ble_eq_true rfl, Nat.le_of_ble_eq_true rfl⟩ ⟨Nat.zero_le _, Nat.zero_le _⟩ rfl (Nat.le_of_ble_eq_true rfl) rfl ?_
        refine r_sipush g0 dX10_reads_61 rfl ?_
        refine r_iload_n g0 dX10_reads_64 rfl ?_
        refine r_isub g0 dX10_reads_65 ?_
        exact z_I g dX10_reads_66 (InR_wr _) h
set_option maxHeartbeats 4000000 in
set_option maxRecDepth 100000 in
theorem c_X10_reads {E : u_E} {l : Launch} {o : u_O} (ho : is_FP o) {s s' : u_S} {r : Int} (h : f_X10_reads o s = some (r, s')) : Con l (XE E) yX10_reads cX10_reads 3 (some .int) 7 148 0 0 [.ref (E.1 o)] (Wd E s) (RI E r s') := by
  refine Con.of [some (.ref (E.1 o)), none, none] (by decide +kernel) rfl rfl (Nat.le_of_ble_eq_true rfl) (fun K g => ?_)
  have g0 := g.wk
  unfold f_X10_reads at h
  refine r_aload_n g0 dX10_reads_0 rfl ?_
  refine g_FP_text g0 ho qX10_29 dX10_reads_1 ?_
  obtain ⟨r_1, s_1, hr_1, h⟩ := bd_some h
  refine r_cVI g0 (rest := []) (c_X7_parse (is_a_FP_text ho) hr_1) ok_X7_parse mX10_316 (recv_Reader (is_a_FP_text ho)) dX10_reads_4 ⟨Nat.le_of_ble_eq_true rfl, Nat.le_of_ble_eq_true rfl⟩ ⟨Nat.zero_le _, Nat.zero_le _⟩ rfl (Nat.le_of_ble_eq_true rfl) rfl (fun i_r_1 => ?_)
  refine r_istore_n g0 (lv' := [some (.ref (E.1 o)), some (.int (J r_1)), none]) dX10_reads_7 (by decide) rfl rfl ?_
  refine r_iload_n g0 dX10_reads_8 rfl ?_
  refine r_iconst g0 dX10_reads_9 ?_
  refine r_icmp_eq g0 18 dX10_reads_10 (by decide) i_r_1 (InR_lit rfl) (fun hc => ?_) (fun hc => ?_)
  · replace h := if_t hc h
    refine r_aload_n g0 dX10_reads_18 rfl ?_
    refine g_FP_before g0 ho qX10_16 dX10_reads_19 ?_
    refine r_aload_n g0 dX10_reads_22 rfl ?_
    refine g_FP_plan g0 ho qX10_12 dX10_reads_23 ?_
    obtain ⟨r_2, s_2, hr_2, h⟩ := bd_some h
    refine r_cVV g0 (rest := []) (c_X6_copyFrom (is_a_FP_before ho) (is_a_FP_plan ho) hr_2) ok_X6_copyFrom mX10_75 (recv_Plan (is_a_FP_before ho)) dX10_reads_26 ⟨Nat.le_of_ble_eq_true rfl, Nat.le_of_ble_eq_true rfl⟩ ⟨Nat.zero_le _, Nat.zero_le _⟩ rfl (Nat.le_of_ble_eq_true rfl) rfl ?_
    refine r_iconst g0 dX10_reads_29 ?_
    refine r_istore_n g0 (lv' := [some (.ref (E.1 o)), some (.int (J r_1)), some (.int (J 0))]) dX10_reads_30 (by decide) rfl rfl ?_
    refine r_mask g0 (lv' := [some (.ref (E.1 o)), none, some (.int (J 0))]) [true, false, true] rfl ?_
    refine t_X10_reads_L31 g ho ?_ FU 0 s_2 (B01.inR B01_0) h
    · intro s_3 h
      refine r_aload_n g0 dX10_reads_73 rfl ?_
      refine r_aload_n g0 dX10_reads_74 rfl ?_
      refine g_FP_text g0 ho qX10_29 dX10_reads_75 ?_
      refine g_Reader_orders g0 (is_a_FP_text ho) qX10_319 dX10_reads_78 ?_
      obtain ⟨r_3, s_4, hr_3, h⟩ := bd_some h
      refine r_cVI g0 (rest := []) (c_X10_settled ho (InR_rd _ _ _) hr_3) ok_X10_settled mX10_83 (recv_FP ho) dX10_reads_81 ⟨Nat.le_of_ble_eq_true rfl, Nat.le_of_ble_eq_true rfl⟩ ⟨Nat.zero_le _, Nat.zero_le _⟩ rfl (Nat.le_of_ble_eq_true rfl) rfl (fun i_r_3 => ?_)
      exact z_I g dX10_reads_84 i_r_3 h
  · replace h := if_f hc h
    refine r_bipush g0 dX10_reads_13 rfl ?_
    refine r_iload_n g0 dX10_reads_15 rfl ?_
    refine r_isub g0 dX10_reads_16 ?_
    exact z_I g dX10_reads_17 (InR_wr _) h
theorem dX10_back_0 : decode cX10_back 0 = .ok (.aload_n 0, 1) := by decide +kernel
theorem dX10_back_1 : decode cX10_back 1 = .ok (.getfield 22, 3) := by decide +kernel
theorem dX10_back_4 : decode cX10_back 4 = .ok (.aload_n 0, 1) := by decide +kernel
theorem dX10_back_5 : decode cX10_back 5 = .ok (.getfield 12, 3) := by decide +kernel
theorem dX10_back_8 : decode cX10_back 8 = .ok (.invokevirtual 325, 3) := by decide +kernel
theorem dX10_back_11 : decode cX10_back 11 = .ok (.ifCond .ne 10, 3) := by decide +kernel
theorem dX10_back_14 : decode cX10_back 14 = .ok (.aload_n 0, 1) := by decide +kernel
theorem dX10_back_15 : decode cX10_back 15 = .ok (.bipush (-3), 2) := by decide +kernel
theorem dX10_back_17 : decode cX10_back 17 = .ok (.invokevirtual 117, 3) := by decide +kernel
theorem dX10_back_20 : decode cX10_back 20 = .ok (.ireturn, 1) := by decide +kernel
theorem dX10_back_21 : decode cX10_back 21 = .ok (.aload_n 0, 1) := by decide +kernel
theorem dX10_back_22 : decode cX10_back 22 = .ok (.getfield 22, 3) := by decide +kernel
theorem dX10_back_25 : decode cX10_back 25 = .ok (.getfield 329, 3) := by decide +kernel
theorem dX10_back_28 : decode cX10_back 28 = .ok (.ireturn, 1) := by decide +kernel
set_option maxHeartbeats 4000000 in
set_option maxRecDepth 100000 in
theorem c_X10_back {E : u_E} {l : Launch} {o : u_O} (ho : is_FP o) {s s' : u_S} {r : Int} (h : f_X10_back o s = some (r, s')) : Con l (XE E) yX10_back cX10_back 1 (some .int) 5 111 0 0 [.ref (E.1 o)] (Wd E s) (RI E r s') := by
  refine Con.of [some (.ref (E.1 o))] (by decide +kernel) rfl rfl (Nat.le_of_ble_eq_true rfl) (fun K g => ?_)
  have g0 := g.wk
  unfold f_X10_back at h
  refine r_aload_n g0 dX10_back_0 rfl ?_
  refine g_FP_history g0 ho qX10_22 dX10_back_1 ?_
  refine r_aload_n g0 dX10_back_4 rfl ?_
  refine g_FP_plan g0 ho qX10_12 dX10_back_5 ?_
  obtain ⟨r_1, s_1, hr_1, h⟩ := bd_some h
  refine r_cVZ g0 (rest := []) (c_X4_giveBack (is_a_FP_history ho) (is_a_FP_plan ho) hr_1) ok_X4_giveBack mX10_325 (recv_History (is_a_FP_history ho)) dX10_back_8 ⟨Nat.le_of_ble_eq_true rfl, Nat.le_of_ble_eq_true rfl⟩ ⟨Nat.zero_le _, Nat.zero_le _⟩ rfl (Nat.le_of_ble_eq_true rfl) rfl (fun i_r_1 => ?_)
  refine r_if_ne g0 21 dX10_back_11 (by decide) (B01.inR i_r_1) (fun hc => ?_) (fun hc => ?_)
  · replace h := if_f hc h
    refine r_aload_n g0 dX10_back_21 rfl ?_
    refine g_FP_history g0 ho qX10_22 dX10_back_22 ?_
    refine g_History_count g0 (is_a_FP_history ho) qX10_329 dX10_back_25 ?_
    exact z_I g dX10_back_28 (InR_rd _ _ _) h
  · replace h := if_t hc h
    refine r_aload_n g0 dX10_back_14 rfl ?_
    refine r_bipush g0 dX10_back_15 rfl ?_
    obtain ⟨r_2, s_2, hr_2, h⟩ := bd_some h
    refine r_cVI g0 (rest := []) (c_X10_refused ho (InR_lit rfl) hr_2) ok_X10_refused mX10_117 (recv_FP ho) dX10_back_17 ⟨Nat.le_of_ble_eq_true rfl, Nat.le_of_ble_eq_true rfl⟩ ⟨Nat.zero_le _, Nat.zero_le _⟩ rfl (Nat.le_of_ble_eq_true rfl) rfl (fun i_r_2 => ?_)
    exact z_I g dX10_back_20 i_r_2 h
theorem dX10_told_0 : decode cX10_told 0 = .ok (.iload_n 1, 1) := by decide +kernel
theorem dX10_told_1 : decode cX10_told 1 = .ok (.tableswitch 141 0 10 #[59, 64, 69, 74, 82, 93, 101, 109, 117, 125, 133], 59) := by decide +kernel
theorem dX10_told_60 : decode cX10_told 60 = .ok (.aload_n 0, 1) := by decide +kernel
theorem dX10_told_61 : decode cX10_told 61 = .ok (.getfield 330, 3) := by decide +kernel
theorem dX10_told_64 : decode cX10_told 64 = .ok (.ireturn, 1) := by decide +kernel
theorem dX10_told_65 : decode cX10_told 65 = .ok (.aload_n 0, 1) := by decide +kernel
theorem dX10_told_66 : decode cX10_told 66 = .ok (.getfield 333, 3) := by decide +kernel
theorem dX10_told_69 : decode cX10_told 69 = .ok (.ireturn, 1) := by decide +kernel
theorem dX10_told_70 : decode cX10_told 70 = .ok (.aload_n 0, 1) := by decide +kernel
theorem dX10_told_71 : decode cX10_told 71 = .ok (.getfield 336, 3) := by decide +kernel
theorem dX10_told_74 : decode cX10_told 74 = .ok (.ireturn, 1) := by decide +kernel
theorem dX10_told_75 : decode cX10_told 75 = .ok (.aload_n 0, 1) := by decide +kernel
theorem dX10_told_76 : decode cX10_told 76 = .ok (.getfield 29, 3) := by decide +kernel
theorem dX10_told_79 : decode cX10_told 79 = .ok (.getfield 312, 3) := by decide +kernel
theorem dX10_told_82 : decode cX10_told 82 = .ok (.ireturn, 1) := by decide +kernel
theorem dX10_told_83 : decode cX10_told 83 = .ok (.aload_n 0, 1) := by decide +kernel
theorem dX10_told_84 : decode cX10_told 84 = .ok (.getfield 12, 3) := by decide +kernel
theorem dX10_told_87 : decode cX10_told 87 = .ok (.getfield 153, 3) := by decide +kernel
theorem dX10_told_90 : decode cX10_told 90 = .ok (.getfield 285, 3) := by decide +kernel
theorem dX10_told_93 : decode cX10_told 93 = .ok (.ireturn, 1) := by decide +kernel
theorem dX10_told_94 : decode cX10_told 94 = .ok (.aload_n 0, 1) := by decide +kernel
theorem dX10_told_95 : decode cX10_told 95 = .ok (.getfield 12, 3) := by decide +kernel
theorem dX10_told_98 : decode cX10_told 98 = .ok (.getfield 129, 3) := by decide +kernel
theorem dX10_told_101 : decode cX10_told 101 = .ok (.ireturn, 1) := by decide +kernel
theorem dX10_told_102 : decode cX10_told 102 = .ok (.aload_n 0, 1) := by decide +kernel
theorem dX10_told_103 : decode cX10_told 103 = .ok (.getfield 12, 3) := by decide +kernel
theorem dX10_told_106 : decode cX10_told 106 = .ok (.getfield 133, 3) := by decide +kernel
theorem dX10_told_109 : decode cX10_told 109 = .ok (.ireturn, 1) := by decide +kernel
theorem dX10_told_110 : decode cX10_told 110 = .ok (.aload_n 0, 1) := by decide +kernel
theorem dX10_told_111 : decode cX10_told 111 = .ok (.getfield 12, 3) := by decide +kernel
theorem dX10_told_114 : decode cX10_told 114 = .ok (.getfield 216, 3) := by decide +kernel
theorem dX10_told_117 : decode cX10_told 117 = .ok (.ireturn, 1) := by decide +kernel
theorem dX10_told_118 : decode cX10_told 118 = .ok (.aload_n 0, 1) := by decide +kernel
theorem dX10_told_119 : decode cX10_told 119 = .ok (.getfield 12, 3) := by decide +kernel
theorem dX10_told_122 : decode cX10_told 122 = .ok (.getfield 339, 3) := by decide +kernel
theorem dX10_told_125 : decode cX10_told 125 = .ok (.ireturn, 1) := by decide +kernel
theorem dX10_told_126 : decode cX10_told 126 = .ok (.aload_n 0, 1) := by decide +kernel
theorem dX10_told_127 : decode cX10_told 127 = .ok (.getfield 12, 3) := by decide +kernel
theorem dX10_told_130 : decode cX10_told 130 = .ok (.getfield 301, 3) := by decide +kernel
theorem dX10_told_133 : decode cX10_told 133 = .ok (.ireturn, 1) := by decide +kernel
theorem dX10_told_134 : decode cX10_told 134 = .ok (.aload_n 0, 1) := by decide +kernel
theorem dX10_told_135 : decode cX10_told 135 = .ok (.getfield 22, 3) := by decide +kernel
theorem dX10_told_138 : decode cX10_told 138 = .ok (.getfield 329, 3) := by decide +kernel
theorem dX10_told_141 : decode cX10_told 141 = .ok (.ireturn, 1) := by decide +kernel
theorem dX10_told_142 : decode cX10_told 142 = .ok (.aload_n 0, 1) := by decide +kernel
theorem dX10_told_143 : decode cX10_told 143 = .ok (.bipush (-2), 2) := by decide +kernel
theorem dX10_told_145 : decode cX10_told 145 = .ok (.invokevirtual 117, 3) := by decide +kernel
theorem dX10_told_148 : decode cX10_told 148 = .ok (.ireturn, 1) := by decide +kernel
set_option maxHeartbeats 4000000 in
set_option maxRecDepth 100000 in
theorem c_X10_told {E : u_E} {l : Launch} {o : u_O} {p1 : Int} (ho : is_FP o) (i_p1 : InR p1) {s s' : u_S} {r : Int} (h : f_X10_told o p1 s = some (r, s')) : Con l (XE E) yX10_told cX10_told 2 (some .int) 1 21 0 0 [.ref (E.1 o), .int (J p1)] (Wd E s) (RI E r s') := by
  refine Con.of [some (.ref (E.1 o)), some (.int (J p1))] (by decide +kernel) rfl rfl (Nat.le_of_ble_eq_true rfl) (fun K g => ?_)
  have g0 := g.wk
  unfold f_X10_told at h
  refine r_iload_n g0 dX10_told_0 rfl ?_
  by_cases hc0 : p1 = 0
  · replace h := if_t hc0 h
    refine r_tsIn g0 60 dX10_told_1 i_p1 (by rw [hc0]; decide) (by rw [hc0]; decide) (by rw [hc0]; rfl) (by decide) ?_
    refine r_aload_n g0 dX10_told_60 rfl ?_
    refine g_FP_bads g0 ho qX10_330 dX10_told_61 ?_
    exact z_I g dX10_told_64 (InR_rd _ _ _) h
  replace h := if_f hc0 h
  by_cases hc1 : p1 = 1
  · replace h := if_t hc1 h
    refine r_tsIn g0 65 dX10_told_1 i_p1 (by rw [hc1]; decide) (by rw [hc1]; decide) (by rw [hc1]; rfl) (by decide) ?_
    refine r_aload_n g0 dX10_told_65 rfl ?_
    refine g_FP_noes g0 ho qX10_333 dX10_told_66 ?_
    exact z_I g dX10_told_69 (InR_rd _ _ _) h
  replace h := if_f hc1 h
  by_cases hc2 : p1 = 2
  · replace h := if_t hc2 h
    refine r_tsIn g0 70 dX10_told_1 i_p1 (by rw [hc2]; decide) (by rw [hc2]; decide) (by rw [hc2]; rfl) (by decide) ?_
    refine r_aload_n g0 dX10_told_70 rfl ?_
    refine g_FP_fulls g0 ho qX10_336 dX10_told_71 ?_
    exact z_I g dX10_told_74 (InR_rd _ _ _) h
  replace h := if_f hc2 h
  by_cases hc3 : p1 = 3
  · replace h := if_t hc3 h
    refine r_tsIn g0 75 dX10_told_1 i_p1 (by rw [hc3]; decide) (by rw [hc3]; decide) (by rw [hc3]; rfl) (by decide) ?_
    refine r_aload_n g0 dX10_told_75 rfl ?_
    refine g_FP_text g0 ho qX10_29 dX10_told_76 ?_
    refine g_Reader_length g0 (is_a_FP_text ho) qX10_312 dX10_told_79 ?_
    exact z_I g dX10_told_82 (InR_rd _ _ _) h
  replace h := if_f hc3 h
  by_cases hc4 : p1 = 4
  · replace h := if_t hc4 h
    refine r_tsIn g0 83 dX10_told_1 i_p1 (by rw [hc4]; decide) (by rw [hc4]; decide) (by rw [hc4]; rfl) (by decide) ?_
    refine r_aload_n g0 dX10_told_83 rfl ?_
    refine g_FP_plan g0 ho qX10_12 dX10_told_84 ?_
    refine g_Plan_entries g0 (is_a_FP_plan ho) qX10_153 dX10_told_87 ?_
    refine g_Entries_count g0 (is_a_Plan_entries (is_a_FP_plan ho)) qX10_285 dX10_told_90 ?_
    exact z_I g dX10_told_93 (InR_rd _ _ _) h
  replace h := if_f hc4 h
  by_cases hc5 : p1 = 5
  · replace h := if_t hc5 h
    refine r_tsIn g0 94 dX10_told_1 i_p1 (by rw [hc5]; decide) (by rw [hc5]; decide) (by rw [hc5]; rfl) (by decide) ?_
    refine r_aload_n g0 dX10_told_94 rfl ?_
    refine g_FP_plan g0 ho qX10_12 dX10_told_95 ?_
    refine g_Plan_head g0 (is_a_FP_plan ho) qX10_129 dX10_told_98 ?_
    exact z_I g dX10_told_101 (InR_rd _ _ _) h
  replace h := if_f hc5 h
  by_cases hc6 : p1 = 6
  · replace h := if_t hc6 h
    refine r_tsIn g0 102 dX10_told_1 i_p1 (by rw [hc6]; decide) (by rw [hc6]; decide) (by rw [hc6]; rfl) (by decide) ?_
    refine r_aload_n g0 dX10_told_102 rfl ?_
    refine g_FP_plan g0 ho qX10_12 dX10_told_103 ?_
    refine g_Plan_tonic g0 (is_a_FP_plan ho) qX10_133 dX10_told_106 ?_
    exact z_I g dX10_told_109 (InR_rd _ _ _) h
  replace h := if_f hc6 h
  by_cases hc7 : p1 = 7
  · replace h := if_t hc7 h
    refine r_tsIn g0 110 dX10_told_1 i_p1 (by rw [hc7]; decide) (by rw [hc7]; decide) (by rw [hc7]; rfl) (by decide) ?_
    refine r_aload_n g0 dX10_told_110 rfl ?_
    refine g_FP_plan g0 ho qX10_12 dX10_told_111 ?_
    refine g_Plan_meter g0 (is_a_FP_plan ho) qX10_216 dX10_told_114 ?_
    exact z_I g dX10_told_117 (InR_rd _ _ _) h
  replace h := if_f hc7 h
  by_cases hc8 : p1 = 8
  · replace h := if_t hc8 h
    refine r_tsIn g0 118 dX10_told_1 i_p1 (by rw [hc8]; decide) (by rw [hc8]; decide) (by rw [hc8]; rfl) (by decide) ?_
    refine r_aload_n g0 dX10_told_118 rfl ?_
    refine g_FP_plan g0 ho qX10_12 dX10_told_119 ?_
    refine g_Plan_home g0 (is_a_FP_plan ho) qX10_339 dX10_told_122 ?_
    exact z_I g dX10_told_125 (InR_rd _ _ _) h
  replace h := if_f hc8 h
  by_cases hc9 : p1 = 9
  · replace h := if_t hc9 h
    refine r_tsIn g0 126 dX10_told_1 i_p1 (by rw [hc9]; decide) (by rw [hc9]; decide) (by rw [hc9]; rfl) (by decide) ?_
    refine r_aload_n g0 dX10_told_126 rfl ?_
    refine g_FP_plan g0 ho qX10_12 dX10_told_127 ?_
    refine g_Plan_visitCount g0 (is_a_FP_plan ho) qX10_301 dX10_told_130 ?_
    exact z_I g dX10_told_133 (InR_rd _ _ _) h
  replace h := if_f hc9 h
  by_cases hc10 : p1 = 10
  · replace h := if_t hc10 h
    refine r_tsIn g0 134 dX10_told_1 i_p1 (by rw [hc10]; decide) (by rw [hc10]; decide) (by rw [hc10]; rfl) (by decide) ?_
    refine r_aload_n g0 dX10_told_134 rfl ?_
    refine g_FP_history g0 ho qX10_22 dX10_told_135 ?_
    refine g_History_count g0 (is_a_FP_history ho) qX10_329 dX10_told_138 ?_
    exact z_I g dX10_told_141 (InR_rd _ _ _) h
  replace h := if_f hc10 h
  refine r_tsOut g0 142 dX10_told_1 i_p1 (by omega) (by decide) ?_
  refine r_aload_n g0 dX10_told_142 rfl ?_
  refine r_bipush g0 dX10_told_143 rfl ?_
  obtain ⟨r_1, s_1, hr_1, h⟩ := bd_some h
  refine r_cVI g0 (rest := []) (c_X10_refused ho (InR_lit rfl) hr_1) ok_X10_refused mX10_117 (recv_FP ho) dX10_told_145 ⟨Nat.le_of_ble_eq_true rfl, Nat.le_of_ble_eq_true rfl⟩ ⟨Nat.zero_le _, Nat.zero_le _⟩ rfl (Nat.le_of_ble_eq_true rfl) rfl (fun i_r_1 => ?_)
  exact z_I g dX10_told_148 i_r_1 h
theorem dX10_lineDigest_0 : decode cX10_lineDigest 0 = .ok (.ldc2_w 344, 3) := by decide +kernel
theorem dX10_lineDigest_3 : decode cX10_lineDigest 3 = .ok (.lload_n 1, 1) := by decide +kernel
theorem dX10_lineDigest_4 : decode cX10_lineDigest 4 = .ok (.lmul, 1) := by decide +kernel
theorem dX10_lineDigest_5 : decode cX10_lineDigest 5 = .ok (.aload_n 0, 1) := by decide +kernel
theorem dX10_lineDigest_6 : decode cX10_lineDigest 6 = .ok (.iload_n 3, 1) := by decide +kernel
theorem dX10_lineDigest_7 : decode cX10_lineDigest 7 = .ok (.iconst 0, 1) := by decide +kernel
theorem dX10_lineDigest_8 : decode cX10_lineDigest 8 = .ok (.invokevirtual 362, 3) := by decide +kernel
theorem dX10_lineDigest_11 : decode cX10_lineDigest 11 = .ok (.i2l, 1) := by decide +kernel
theorem dX10_lineDigest_12 : decode cX10_lineDigest 12 = .ok (.ladd, 1) := by decide +kernel
theorem dX10_lineDigest_13 : decode cX10_lineDigest 13 = .ok (.lstore 4, 2) := by decide +kernel
theorem dX10_lineDigest_15 : decode cX10_lineDigest 15 = .ok (.ldc2_w 344, 3) := by decide +kernel
theorem dX10_lineDigest_18 : decode cX10_lineDigest 18 = .ok (.lload 4, 2) := by decide +kernel
theorem dX10_lineDigest_20 : decode cX10_lineDigest 20 = .ok (.lmul, 1) := by decide +kernel
theorem dX10_lineDigest_21 : decode cX10_lineDigest 21 = .ok (.aload_n 0, 1) := by decide +kernel
theorem dX10_lineDigest_22 : decode cX10_lineDigest 22 = .ok (.iload_n 3, 1) := by decide +kernel
theorem dX10_lineDigest_23 : decode cX10_lineDigest 23 = .ok (.iconst 1, 1) := by decide +kernel
theorem dX10_lineDigest_24 : decode cX10_lineDigest 24 = .ok (.invokevirtual 362, 3) := by decide +kernel
theorem dX10_lineDigest_27 : decode cX10_lineDigest 27 = .ok (.i2l, 1) := by decide +kernel
theorem dX10_lineDigest_28 : decode cX10_lineDigest 28 = .ok (.ladd, 1) := by decide +kernel
theorem dX10_lineDigest_29 : decode cX10_lineDigest 29 = .ok (.lstore 4, 2) := by decide +kernel
theorem dX10_lineDigest_31 : decode cX10_lineDigest 31 = .ok (.iconst 0, 1) := by decide +kernel
theorem dX10_lineDigest_32 : decode cX10_lineDigest 32 = .ok (.istore 6, 2) := by decide +kernel
theorem dX10_lineDigest_34 : decode cX10_lineDigest 34 = .ok (.iload 6, 2) := by decide +kernel
theorem dX10_lineDigest_36 : decode cX10_lineDigest 36 = .ok (.aload_n 0, 1) := by decide +kernel
theorem dX10_lineDigest_37 : decode cX10_lineDigest 37 = .ok (.getfield 12, 3) := by decide +kernel
theorem dX10_lineDigest_40 : decode cX10_lineDigest 40 = .ok (.getfield 104, 3) := by decide +kernel
theorem dX10_lineDigest_43 : decode cX10_lineDigest 43 = .ok (.iload_n 3, 1) := by decide +kernel
theorem dX10_lineDigest_44 : decode cX10_lineDigest 44 = .ok (.aaload, 1) := by decide +kernel
theorem dX10_lineDigest_45 : decode cX10_lineDigest 45 = .ok (.getfield 144, 3) := by decide +kernel
theorem dX10_lineDigest_48 : decode cX10_lineDigest 48 = .ok (.if_icmp .ge 43, 3) := by decide +kernel
theorem dX10_lineDigest_51 : decode cX10_lineDigest 51 = .ok (.iconst 0, 1) := by decide +kernel
theorem dX10_lineDigest_52 : decode cX10_lineDigest 52 = .ok (.istore 7, 2) := by decide +kernel
theorem dX10_lineDigest_54 : decode cX10_lineDigest 54 = .ok (.iload 7, 2) := by decide +kernel
theorem dX10_lineDigest_56 : decode cX10_lineDigest 56 = .ok (.iconst 3, 1) := by decide +kernel
theorem dX10_lineDigest_57 : decode cX10_lineDigest 57 = .ok (.if_icmp .gt 28, 3) := by decide +kernel
theorem dX10_lineDigest_60 : decode cX10_lineDigest 60 = .ok (.ldc2_w 344, 3) := by decide +kernel
theorem dX10_lineDigest_63 : decode cX10_lineDigest 63 = .ok (.lload 4, 2) := by decide +kernel
theorem dX10_lineDigest_65 : decode cX10_lineDigest 65 = .ok (.lmul, 1) := by decide +kernel
theorem dX10_lineDigest_66 : decode cX10_lineDigest 66 = .ok (.aload_n 0, 1) := by decide +kernel
theorem dX10_lineDigest_67 : decode cX10_lineDigest 67 = .ok (.iload_n 3, 1) := by decide +kernel
theorem dX10_lineDigest_68 : decode cX10_lineDigest 68 = .ok (.iload 6, 2) := by decide +kernel
theorem dX10_lineDigest_70 : decode cX10_lineDigest 70 = .ok (.iload 7, 2) := by decide +kernel
theorem dX10_lineDigest_72 : decode cX10_lineDigest 72 = .ok (.invokevirtual 364, 3) := by decide +kernel
theorem dX10_lineDigest_75 : decode cX10_lineDigest 75 = .ok (.i2l, 1) := by decide +kernel
theorem dX10_lineDigest_76 : decode cX10_lineDigest 76 = .ok (.ladd, 1) := by decide +kernel
theorem dX10_lineDigest_77 : decode cX10_lineDigest 77 = .ok (.lstore 4, 2) := by decide +kernel
theorem dX10_lineDigest_79 : decode cX10_lineDigest 79 = .ok (.iinc 7 1, 3) := by decide +kernel
theorem dX10_lineDigest_82 : decode cX10_lineDigest 82 = .ok (.goto (-28), 3) := by decide +kernel
theorem dX10_lineDigest_85 : decode cX10_lineDigest 85 = .ok (.iinc 6 1, 3) := by decide +kernel
theorem dX10_lineDigest_88 : decode cX10_lineDigest 88 = .ok (.goto (-54), 3) := by decide +kernel
theorem dX10_lineDigest_91 : decode cX10_lineDigest 91 = .ok (.lload 4, 2) := by decide +kernel
theorem dX10_lineDigest_93 : decode cX10_lineDigest 93 = .ok (.lreturn, 1) := by decide +kernel
set_option maxHeartbeats 4000000 in
set_option maxRecDepth 100000 in
theorem t_X10_lineDigest_L54 {l : Launch} {E : u_E} {K : u_K} {r : Int} {s' : u_S} (g : Wk l (XE E) { frames := 4, cells := 0, slots := 0, locals := 87 } cX10_lineDigest 8 yX10_lineDigest.cls yX10_lineDigest.name (some .long) (RJ E r s') K) {v0_2 : u_O} {v3_2 : Int} {v6_2 : Int} (i_v0_2 : is_FP v0_2) (i_v3_2 : InR v3_2) (i_v6_2 : InR v6_2) {kx85 : Int → u_S → Option (Int × u_S)} (hkx85 : ∀ (v4_5 : Int) (s_8 : u_S), InL v4_5 → kx85 v4_5 s_8 = some (r, s') → K 0 0 85 [some (.ref (E.1 v0_2)), none, none, some (.int (J v3_2)), some (.long (JL v4_5)), none, some (.int (J v6_2)), none] [] (Wd E s_8)) : ∀ (m : Nat) (v4_4 : Int) (v7_1 : Int) (s_6 : u_S), InL v4_4 → InR v7_1 → f_X10_lineDigest_L54 m kx85 v0_2 v3_2 v6_2 v4_4 v7_1 s_6 = some (r, s') → K 0 0 54 [some (.ref (E.1 v0_2)), none, none, some (.int (J v3_2)), some (.long (JL v4_4)), none, some (.int (J v6_2)), some (.int (J v7_1))] [] (Wd E s_6) := by
  have g0 := g.wk
  intro m
  induction m with
  | zero =>
    intro v4_4 v7_1 s_6 i_v4_4 i_v7_1 h
    exact absurd (show (none : Option (Int × u_S)) = some (r, s') from h) (by intro z; cases z)
  | succ m ih =>
    intro v4_4 v7_1 s_6 i_v4_4 i_v7_1 h
    rw [f_X10_lineDigest_L54] at h
    refine r_iload g0 dX10_lineDigest_54 rfl ?_
    refine r_iconst g0 dX10_lineDigest_56 ?_
    refine r_icmp_gt g0 85 dX10_lineDigest_57 (by decide) i_v7_1 (InR_lit rfl) (fun hc => ?_) (fun hc => ?_)
    · replace h := if_f hc h
      refine r_mask g0 (lv' := [some (.ref (E.1 v0_2)), none, none, some (.int (J v3_2)), some (.long (JL v4_4)), none, some (.int (J v6_2)), none]) [true, false, false, true, true, false, true, false] rfl ?_
      exact hkx85 v4_4 s_6 i_v4_4 h
    · replace h := if_t hc h
      refine r_ldc2 g0 (v := 31) dX10_lineDigest_60 kX10_344 ?_
      refine r_lload g0 dX10_lineDigest_63 rfl ?_
      refine r_lmul g0 dX10_lineDigest_65 ?_
      refine r_aload_n g0 dX10_lineDigest_66 rfl ?_
      refine r_iload_n g0 dX10_lineDigest_67 rfl ?_
      refine r_iload g0 dX10_lineDigest_68 rfl ?_
      refine r_iload g0 dX10_lineDigest_70 rfl ?_
      obtain ⟨r_3, s_7, hr_3, h⟩ := bd_some h
      refine r_cVI g0 (rest := [.long (JL (wl (31 * v4_4)))]) (c_X10_noteOf i_v0_2 i_v3_2 i_v6_2 i_v7_1 hr_3) ok_X10_noteOf mX10_364 (recv_FP i_v0_2) dX10_lineDigest_72 ⟨Nat.le_of_ble_eq_true rfl, Nat.le_of_ble_eq_true rfl⟩ ⟨Nat.zero_le _, Nat.zero_le _⟩ rfl (Nat.le_of_ble_eq_true rfl) rfl (fun i_r_3 => ?_)
      refine r_i2l g0 dX10_lineDigest_75 i_r_3 ?_
      refine r_ladd g0 dX10_lineDigest_76 ?_
      refine r_lstore g0 (lv' := [some (.ref (E.1 v0_2)), none, none, some (.int (J v3_2)), some (.long (JL (wl ((wl (31 * v4_4)) + r_3)))), none, some (.int (J v6_2)), some (.int (J v7_1))]) dX10_lineDigest_77 (by decide) rfl rfl ?_
      refine r_iinc g0 (a := v7_1) (lv' := [some (.ref (E.1 v0_2)), none, none, some (.int (J v3_2)), some (.long (JL (wl ((wl (31 * v4_4)) + r_3)))), none, some (.int (J v6_2)), some (.int (J (wr (v7_1 + 1))))]) dX10_lineDigest_79 (by decide) rfl rfl rfl ?_
      refine r_goto g0 54 dX10_lineDigest_82 (by decide) ?_
      exact ih (wl ((wl (31 * v4_4)) + r_3)) (wr (v7_1 + 1)) s_7 (InL_wl _) (InR_wr _) h
set_option maxHeartbeats 4000000 in
set_option maxRecDepth 100000 in
theorem t_X10_lineDigest_L34 {l : Launch} {E : u_E} {K : u_K} {r : Int} {s' : u_S} (g : Wk l (XE E) { frames := 4, cells := 0, slots := 0, locals := 87 } cX10_lineDigest 8 yX10_lineDigest.cls yX10_lineDigest.name (some .long) (RJ E r s') K) {v0_1 : u_O} {v3_1 : Int} (i_v0_1 : is_FP v0_1) (i_v3_1 : InR v3_1) {kx91 : Int → u_S → Option (Int × u_S)} (hkx91 : ∀ (v4_6 : Int) (s_9 : u_S), InL v4_6 → kx91 v4_6 s_9 = some (r, s') → K 0 0 91 [none, none, none, none, some (.long (JL v4_6)), none, none, none] [] (Wd E s_9)) : ∀ (m : Nat) (v4_2 : Int) (v6_1 : Int) (s_4 : u_S), InL v4_2 → InR v6_1 → f_X10_lineDigest_L34 m kx91 v0_1 v3_1 v4_2 v6_1 s_4 = some (r, s') → K 0 0 34 [some (.ref (E.1 v0_1)), none, none, some (.int (J v3_1)), some (.long (JL v4_2)), none, some (.int (J v6_1)), none] [] (Wd E s_4) := by
  have g0 := g.wk
  intro m
  induction m with
  | zero =>
    intro v4_2 v6_1 s_4 i_v4_2 i_v6_1 h
    exact absurd (show (none : Option (Int × u_S)) = some (r, s') from h) (by intro z; cases z)
  | succ m ih =>
    intro v4_2 v6_1 s_4 i_v4_2 i_v6_1 h
    rw [f_X10_lineDigest_L34] at h
    refine r_iload g0 dX10_lineDigest_34 rfl ?_
    refine r_aload_n g0 dX10_lineDigest_36 rfl ?_
    refine g_FP_plan g0 i_v0_1 qX10_12 dX10_lineDigest_37 ?_
    refine g_Plan_lines g0 (is_a_FP_plan i_v0_1) qX10_104 dX10_lineDigest_40 ?_
    refine r_iload_n g0 dX10_lineDigest_43 rfl ?_
    obtain ⟨hb, h⟩ := gd_some h
    refine r_aald_Line g0 (is_a_Plan_lines (is_a_FP_plan i_v0_1)) i_v3_1 hb dX10_lineDigest_44 ?_
    refine g_Line_count g0 (is_e_Line (is_a_Plan_lines (is_a_FP_plan i_v0_1)) hb) qX10_144 dX10_lineDigest_45 ?_
    refine r_icmp_ge g0 91 dX10_lineDigest_48 (by decide) i_v6_1 (InR_rd _ _ _) (fun hc => ?_) (fun hc => ?_)
    · replace h := if_f hc h
      refine r_mask g0 (lv' := [none, none, none, none, some (.long (JL v4_2)), none, none, none]) [false, false, false, false, true, false, false, false] rfl ?_
      exact hkx91 v4_2 s_4 i_v4_2 h
    · replace h := if_t hc h
      refine r_iconst g0 dX10_lineDigest_51 ?_
      refine r_istore g0 (lv' := [some (.ref (E.1 v0_1)), none, none, some (.int (J v3_1)), some (.long (JL v4_2)), none, some (.int (J v6_1)), some (.int (J 0))]) dX10_lineDigest_52 (by decide) rfl rfl ?_
      refine t_X10_lineDigest_L54 g i_v0_1 i_v3_1 i_v6_1 ?_ FU v4_2 0 s_4 i_v4_2 (B01.inR B01_0) h
      · intro v4_3 s_5 i_v4_3 h
        refine r_iinc g0 (a := v6_1) (lv' := [some (.ref (E.1 v0_1)), none, none, some (.int (J v3_1)), some (.long (JL v4_3)), none, some (.int (J (wr (v6_1 + 1)))), none]) dX10_lineDigest_85 (by decide) rfl rfl rfl ?_
        refine r_goto g0 34 dX10_lineDigest_88 (by decide) ?_
        exact ih v4_3 (wr (v6_1 + 1)) s_5 i_v4_3 (InR_wr _) h
set_option maxHeartbeats 4000000 in
set_option maxRecDepth 100000 in
theorem c_X10_lineDigest {E : u_E} {l : Launch} {o : u_O} {p1 : Int} {p2 : Int} (ho : is_FP o) (i_p1 : InL p1) (i_p2 : InR p2) {s s' : u_S} {r : Int} (h : f_X10_lineDigest o p1 p2 s = some (r, s')) : Con l (XE E) yX10_lineDigest cX10_lineDigest 8 (some .long) 4 87 0 0 [.ref (E.1 o), .long (JL p1), .int (J p2)] (Wd E s) (RJ E r s') := by
  refine Con.of [some (.ref (E.1 o)), some (.long (JL p1)), none, some (.int (J p2)), none, none, none, none] (by decide +kernel) rfl rfl (Nat.le_of_ble_eq_true rfl) (fun K g => ?_)
  have g0 := g.wk
  unfold f_X10_lineDigest at h
  refine r_ldc2 g0 (v := 31) dX10_lineDigest_0 kX10_344 ?_
  refine r_lload_n g0 dX10_lineDigest_3 rfl ?_
  refine r_lmul g0 dX10_lineDigest_4 ?_
  refine r_aload_n g0 dX10_lineDigest_5 rfl ?_
  refine r_iload_n g0 dX10_lineDigest_6 rfl ?_
  refine r_iconst g0 dX10_lineDigest_7 ?_
  obtain ⟨r_1, s_1, hr_1, h⟩ := bd_some h
  refine r_cVI g0 (rest := [.long (JL (wl (31 * p1)))]) (c_X10_line ho i_p2 (B01.inR B01_0) hr_1) ok_X10_line mX10_362 (recv_FP ho) dX10_lineDigest_8 ⟨Nat.le_of_ble_eq_true rfl, Nat.le_of_ble_eq_true rfl⟩ ⟨Nat.zero_le _, Nat.zero_le _⟩ rfl (Nat.le_of_ble_eq_true rfl) rfl (fun i_r_1 => ?_)
  refine r_i2l g0 dX10_lineDigest_11 i_r_1 ?_
  refine r_ladd g0 dX10_lineDigest_12 ?_
  refine r_lstore g0 (lv' := [some (.ref (E.1 o)), some (.long (JL p1)), none, some (.int (J p2)), some (.long (JL (wl ((wl (31 * p1)) + r_1)))), none, none, none]) dX10_lineDigest_13 (by decide) rfl rfl ?_
  refine r_ldc2 g0 (v := 31) dX10_lineDigest_15 kX10_344 ?_
  refine r_lload g0 dX10_lineDigest_18 rfl ?_
  refine r_lmul g0 dX10_lineDigest_20 ?_
  refine r_aload_n g0 dX10_lineDigest_21 rfl ?_
  refine r_iload_n g0 dX10_lineDigest_22 rfl ?_
  refine r_iconst g0 dX10_lineDigest_23 ?_
  obtain ⟨r_2, s_2, hr_2, h⟩ := bd_some h
  refine r_cVI g0 (rest := [.long (JL (wl (31 * (wl ((wl (31 * p1)) + r_1)))))]) (c_X10_line ho i_p2 (B01.inR B01_1) hr_2) ok_X10_line mX10_362 (recv_FP ho) dX10_lineDigest_24 ⟨Nat.le_of_ble_eq_true rfl, Nat.le_of_ble_eq_true rfl⟩ ⟨Nat.zero_le _, Nat.zero_le _⟩ rfl (Nat.le_of_ble_eq_true rfl) rfl (fun i_r_2 => ?_)
  refine r_i2l g0 dX10_lineDigest_27 i_r_2 ?_
  refine r_ladd g0 dX10_lineDigest_28 ?_
  refine r_lstore g0 (lv' := [some (.ref (E.1 o)), some (.long (JL p1)), none, some (.int (J p2)), some (.long (JL (wl ((wl (31 * (wl ((wl (31 * p1)) + r_1)))) + r_2)))), none, none, none]) dX10_lineDigest_29 (by decide) rfl rfl ?_
  refine r_iconst g0 dX10_lineDigest_31 ?_
  refine r_istore g0 (lv' := [some (.ref (E.1 o)), some (.long (JL p1)), none, some (.int (J p2)), some (.long (JL (wl ((wl (31 * (wl ((wl (31 * p1)) + r_1)))) + r_2)))), none, some (.int (J 0)), none]) dX10_lineDigest_32 (by decide) rfl rfl ?_
  refine r_mask g0 (lv' := [some (.ref (E.1 o)), none, none, some (.int (J p2)), some (.long (JL (wl ((wl (31 * (wl ((wl (31 * p1)) + r_1)))) + r_2)))), none, some (.int (J 0)), none]) [true, false, false, true, true, false, true, false] rfl ?_
  refine t_X10_lineDigest_L34 g ho i_p2 ?_ FU (wl ((wl (31 * (wl ((wl (31 * p1)) + r_1)))) + r_2)) 0 s_2 (InL_wl _) (B01.inR B01_0) h
  · intro v4_1 s_3 i_v4_1 h
    refine r_lload g0 dX10_lineDigest_91 rfl ?_
    exact z_J g dX10_lineDigest_93 i_v4_1 h
