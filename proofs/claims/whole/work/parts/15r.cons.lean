/-! THE CONTRACTS: the bytecode does what the functions say (by program, wip/whole/gen) -/
theorem dX11_takesAll_0 : decode cX11_takesAll 0 = .ok (.iconst 0, 1) := by decide +kernel
theorem dX11_takesAll_1 : decode cX11_takesAll 1 = .ok (.istore_n 3, 1) := by decide +kernel
theorem dX11_takesAll_2 : decode cX11_takesAll 2 = .ok (.iload_n 3, 1) := by decide +kernel
theorem dX11_takesAll_3 : decode cX11_takesAll 3 = .ok (.iload_n 1, 1) := by decide +kernel
theorem dX11_takesAll_4 : decode cX11_takesAll 4 = .ok (.if_icmp .ge 38, 3) := by decide +kernel
theorem dX11_takesAll_7 : decode cX11_takesAll 7 = .ok (.aload_n 0, 1) := by decide +kernel
theorem dX11_takesAll_8 : decode cX11_takesAll 8 = .ok (.iload_n 3, 1) := by decide +kernel
theorem dX11_takesAll_9 : decode cX11_takesAll 9 = .ok (.iload_n 2, 1) := by decide +kernel
theorem dX11_takesAll_10 : decode cX11_takesAll 10 = .ok (.if_icmp .ne 7, 3) := by decide +kernel
theorem dX11_takesAll_13 : decode cX11_takesAll 13 = .ok (.iconst 1, 1) := by decide +kernel
theorem dX11_takesAll_14 : decode cX11_takesAll 14 = .ok (.goto 4, 3) := by decide +kernel
theorem dX11_takesAll_17 : decode cX11_takesAll 17 = .ok (.iconst 0, 1) := by decide +kernel
theorem dX11_takesAll_18 : decode cX11_takesAll 18 = .ok (.invokevirtual 333, 3) := by decide +kernel
theorem dX11_takesAll_21 : decode cX11_takesAll 21 = .ok (.ifCond .ne 5, 3) := by decide +kernel
theorem dX11_takesAll_24 : decode cX11_takesAll 24 = .ok (.iconst 0, 1) := by decide +kernel
theorem dX11_takesAll_25 : decode cX11_takesAll 25 = .ok (.ireturn, 1) := by decide +kernel
theorem dX11_takesAll_26 : decode cX11_takesAll 26 = .ok (.aload_n 0, 1) := by decide +kernel
theorem dX11_takesAll_27 : decode cX11_takesAll 27 = .ok (.getfield 52, 3) := by decide +kernel
theorem dX11_takesAll_30 : decode cX11_takesAll 30 = .ok (.iload_n 3, 1) := by decide +kernel
theorem dX11_takesAll_31 : decode cX11_takesAll 31 = .ok (.aload_n 0, 1) := by decide +kernel
theorem dX11_takesAll_32 : decode cX11_takesAll 32 = .ok (.getfield 327, 3) := by decide +kernel
theorem dX11_takesAll_35 : decode cX11_takesAll 35 = .ok (.iastore, 1) := by decide +kernel
theorem dX11_takesAll_36 : decode cX11_takesAll 36 = .ok (.iinc 3 1, 3) := by decide +kernel
theorem dX11_takesAll_39 : decode cX11_takesAll 39 = .ok (.goto (-37), 3) := by decide +kernel
theorem dX11_takesAll_42 : decode cX11_takesAll 42 = .ok (.iconst 1, 1) := by decide +kernel
theorem dX11_takesAll_43 : decode cX11_takesAll 43 = .ok (.ireturn, 1) := by decide +kernel
set_option maxHeartbeats 4000000 in
set_option maxRecDepth 100000 in
theorem t_X11_takesAll_L2 {l : Launch} {E : u_E} {K : u_K} {r : Int} {s' : u_S} (g : Wk l (XE E) { frames := 3, cells := 0, slots := 0, locals := 71 } cX11_takesAll 4 yX11_takesAll.cls yX11_takesAll.name (some .boolean) (RZ E r s') K) {v0_1 : u_O} {v1_1 : Int} {v2_1 : Int} (i_v0_1 : is_Mo v0_1) (i_v1_1 : InR v1_1) (i_v2_1 : InR v2_1) {kx42 : u_S → Option (Int × u_S)} (hkx42 : ∀ (s_5 : u_S), kx42 s_5 = some (r, s') → K 0 0 42 [none, none, none, none] [] (Wd E s_5)) : ∀ (m : Nat) (v3_1 : Int) (s_2 : u_S), InR v3_1 → f_X11_takesAll_L2 m kx42 v0_1 v1_1 v2_1 v3_1 s_2 = some (r, s') → K 0 0 2 [some (.ref (E.1 v0_1)), some (.int (J v1_1)), some (.int (J v2_1)), some (.int (J v3_1))] [] (Wd E s_2) := by
  have g0 := g.wk
  intro m
  induction m with
  | zero =>
    intro v3_1 s_2 i_v3_1 h
    exact absurd (show (none : Option (Int × u_S)) = some (r, s') from h) (by intro z; cases z)
  | succ m ih =>
    intro v3_1 s_2 i_v3_1 h
    rw [f_X11_takesAll_L2] at h
    refine r_iload_n g0 dX11_takesAll_2 rfl ?_
    refine r_iload_n g0 dX11_takesAll_3 rfl ?_
    refine r_icmp_ge g0 42 dX11_takesAll_4 (by decide) i_v3_1 i_v1_1 (fun hc => ?_) (fun hc => ?_)
    · replace h := if_f hc h
      refine r_mask g0 (lv' := [none, none, none, none]) [false, false, false, false] rfl ?_
      exact hkx42 s_2 h
    · replace h := if_t hc h
      refine r_aload_n g0 dX11_takesAll_7 rfl ?_
      refine r_iload_n g0 dX11_takesAll_8 rfl ?_
      refine r_iload_n g0 dX11_takesAll_9 rfl ?_
      obtain ⟨jp_1, hdjp_1, h⟩ := jn_some h
      have hjp_1 : ∀ (vt_1 : u_O) (vt_2 : Int) (s_3 : u_S), is_Mo vt_1 → B01 vt_2 → jp_1 vt_1 vt_2 s_3 = some (r, s') → K 0 0 18 [some (.ref (E.1 v0_1)), some (.int (J v1_1)), some (.int (J v2_1)), some (.int (J v3_1))] [.int (J vt_2), .ref (E.1 vt_1)] (Wd E s_3) := by
        intro vt_1 vt_2 s_3 i_vt_1 i_vt_2 h
        subst hdjp_1
        obtain ⟨r_1, s_4, hr_1, h⟩ := bd_some h
        refine r_cVZ g0 (rest := []) (c_X11_takes i_vt_1 i_vt_2 hr_1) ok_X11_takes mX11_333 (recv_Mo i_vt_1) dX11_takesAll_18 ⟨Nat.le_of_ble_eq_true rfl, Nat.le_of_ble_eq_true rfl⟩ ⟨Nat.zero_le _, Nat.zero_le _⟩ rfl (Nat.le_of_ble_eq_true rfl) rfl (fun i_r_1 => ?_)
        refine r_if_ne g0 26 dX11_takesAll_21 (by decide) (B01.inR i_r_1) (fun hc => ?_) (fun hc => ?_)
        · replace h := if_f hc h
          refine r_aload_n g0 dX11_takesAll_26 rfl ?_
          refine g_Mo_numbers g0 i_v0_1 qX11_52 dX11_takesAll_27 ?_
          refine r_iload_n g0 dX11_takesAll_30 rfl ?_
          refine r_aload_n g0 dX11_takesAll_31 rfl ?_
          refine g_Mo_value g0 i_v0_1 qX11_327 dX11_takesAll_32 ?_
          obtain ⟨hb, h⟩ := gd_some h
          refine r_iastore g0 (is_a_Mo_numbers i_v0_1) (n := 5) rfl i_v3_1 hb dX11_takesAll_35 ?_
          refine r_iinc g0 (a := v3_1) (lv' := [some (.ref (E.1 v0_1)), some (.int (J v1_1)), some (.int (J v2_1)), some (.int (J (wr (v3_1 + 1))))]) dX11_takesAll_36 (by decide) rfl rfl rfl ?_
          refine r_goto g0 2 dX11_takesAll_39 (by decide) ?_
          exact ih (wr (v3_1 + 1)) (wt s_4 (a_Mo_numbers v0_1) v3_1 (rd s_4 v0_1 18)) (InR_wr _) h
        · replace h := if_t hc h
          refine r_iconst g0 dX11_takesAll_24 ?_
          exact z_Z g dX11_takesAll_25 B01_0 h
      clear hdjp_1
      refine r_icmp_ne g0 17 dX11_takesAll_10 (by decide) i_v3_1 i_v2_1 (fun hc => ?_) (fun hc => ?_)
      · replace h := if_f hc h
        refine r_iconst g0 dX11_takesAll_17 ?_
        exact hjp_1 v0_1 0 s_2 i_v0_1 B01_0 h
      · replace h := if_t hc h
        refine r_iconst g0 dX11_takesAll_13 ?_
        refine r_goto g0 18 dX11_takesAll_14 (by decide) ?_
        exact hjp_1 v0_1 1 s_2 i_v0_1 B01_1 h
set_option maxHeartbeats 4000000 in
set_option maxRecDepth 100000 in
theorem c_X11_takesAll {E : u_E} {l : Launch} {o : u_O} {p1 : Int} {p2 : Int} (ho : is_Mo o) (i_p1 : InR p1) (i_p2 : InR p2) {s s' : u_S} {r : Int} (h : f_X11_takesAll o p1 p2 s = some (r, s')) : Con l (XE E) yX11_takesAll cX11_takesAll 4 (some .boolean) 3 71 0 0 [.ref (E.1 o), .int (J p1), .int (J p2)] (Wd E s) (RZ E r s') := by
  refine Con.of [some (.ref (E.1 o)), some (.int (J p1)), some (.int (J p2)), none] (by decide +kernel) rfl rfl (Nat.le_of_ble_eq_true rfl) (fun K g => ?_)
  have g0 := g.wk
  unfold f_X11_takesAll at h
  refine r_iconst g0 dX11_takesAll_0 ?_
  refine r_istore_n g0 (lv' := [some (.ref (E.1 o)), some (.int (J p1)), some (.int (J p2)), some (.int (J 0))]) dX11_takesAll_1 (by decide) rfl rfl ?_
  refine t_X11_takesAll_L2 g ho i_p1 i_p2 ?_ FU 0 s (B01.inR B01_0) h
  · intro s_1 h
    refine r_iconst g0 dX11_takesAll_42 ?_
    exact z_Z g dX11_takesAll_43 B01_1 h
theorem dX11_readsNotes_0 : decode cX11_readsNotes 0 = .ok (.iconst 1, 1) := by decide +kernel
theorem dX11_readsNotes_1 : decode cX11_readsNotes 1 = .ok (.istore_n 3, 1) := by decide +kernel
theorem dX11_readsNotes_2 : decode cX11_readsNotes 2 = .ok (.iload_n 3, 1) := by decide +kernel
theorem dX11_readsNotes_3 : decode cX11_readsNotes 3 = .ok (.ifCond .eq 104, 3) := by decide +kernel
theorem dX11_readsNotes_6 : decode cX11_readsNotes 6 = .ok (.aload_n 0, 1) := by decide +kernel
theorem dX11_readsNotes_7 : decode cX11_readsNotes 7 = .ok (.dup, 1) := by decide +kernel
theorem dX11_readsNotes_8 : decode cX11_readsNotes 8 = .ok (.getfield 317, 3) := by decide +kernel
theorem dX11_readsNotes_11 : decode cX11_readsNotes 11 = .ok (.iconst 1, 1) := by decide +kernel
theorem dX11_readsNotes_12 : decode cX11_readsNotes 12 = .ok (.iadd, 1) := by decide +kernel
theorem dX11_readsNotes_13 : decode cX11_readsNotes 13 = .ok (.putfield 317, 3) := by decide +kernel
theorem dX11_readsNotes_16 : decode cX11_readsNotes 16 = .ok (.aload_n 0, 1) := by decide +kernel
theorem dX11_readsNotes_17 : decode cX11_readsNotes 17 = .ok (.iconst 2, 1) := by decide +kernel
theorem dX11_readsNotes_18 : decode cX11_readsNotes 18 = .ok (.iconst (-1), 1) := by decide +kernel
theorem dX11_readsNotes_19 : decode cX11_readsNotes 19 = .ok (.invokevirtual 337, 3) := by decide +kernel
theorem dX11_readsNotes_22 : decode cX11_readsNotes 22 = .ok (.ifCond .ne 5, 3) := by decide +kernel
theorem dX11_readsNotes_25 : decode cX11_readsNotes 25 = .ok (.iconst 0, 1) := by decide +kernel
theorem dX11_readsNotes_26 : decode cX11_readsNotes 26 = .ok (.ireturn, 1) := by decide +kernel
theorem dX11_readsNotes_27 : decode cX11_readsNotes 27 = .ok (.iload_n 2, 1) := by decide +kernel
theorem dX11_readsNotes_28 : decode cX11_readsNotes 28 = .ok (.ifCond .eq 61, 3) := by decide +kernel
theorem dX11_readsNotes_31 : decode cX11_readsNotes 31 = .ok (.aload_n 0, 1) := by decide +kernel
theorem dX11_readsNotes_32 : decode cX11_readsNotes 32 = .ok (.getfield 340, 3) := by decide +kernel
theorem dX11_readsNotes_35 : decode cX11_readsNotes 35 = .ok (.ifCond .ne 54, 3) := by decide +kernel
theorem dX11_readsNotes_38 : decode cX11_readsNotes 38 = .ok (.aload_n 0, 1) := by decide +kernel
theorem dX11_readsNotes_39 : decode cX11_readsNotes 39 = .ok (.aload_n 0, 1) := by decide +kernel
theorem dX11_readsNotes_40 : decode cX11_readsNotes 40 = .ok (.iload_n 1, 1) := by decide +kernel
theorem dX11_readsNotes_41 : decode cX11_readsNotes 41 = .ok (.aload_n 0, 1) := by decide +kernel
theorem dX11_readsNotes_42 : decode cX11_readsNotes 42 = .ok (.getfield 52, 3) := by decide +kernel
theorem dX11_readsNotes_45 : decode cX11_readsNotes 45 = .ok (.iconst 0, 1) := by decide +kernel
theorem dX11_readsNotes_46 : decode cX11_readsNotes 46 = .ok (.iaload, 1) := by decide +kernel
theorem dX11_readsNotes_47 : decode cX11_readsNotes 47 = .ok (.aload_n 0, 1) := by decide +kernel
theorem dX11_readsNotes_48 : decode cX11_readsNotes 48 = .ok (.getfield 52, 3) := by decide +kernel
theorem dX11_readsNotes_51 : decode cX11_readsNotes 51 = .ok (.iconst 1, 1) := by decide +kernel
theorem dX11_readsNotes_52 : decode cX11_readsNotes 52 = .ok (.iaload, 1) := by decide +kernel
theorem dX11_readsNotes_53 : decode cX11_readsNotes 53 = .ok (.invokevirtual 93, 3) := by decide +kernel
theorem dX11_readsNotes_56 : decode cX11_readsNotes 56 = .ok (.putfield 340, 3) := by decide +kernel
theorem dX11_readsNotes_59 : decode cX11_readsNotes 59 = .ok (.aload_n 0, 1) := by decide +kernel
theorem dX11_readsNotes_60 : decode cX11_readsNotes 60 = .ok (.getfield 340, 3) := by decide +kernel
theorem dX11_readsNotes_63 : decode cX11_readsNotes 63 = .ok (.ifCond .ne 23, 3) := by decide +kernel
theorem dX11_readsNotes_66 : decode cX11_readsNotes 66 = .ok (.aload_n 0, 1) := by decide +kernel
theorem dX11_readsNotes_67 : decode cX11_readsNotes 67 = .ok (.iload_n 1, 1) := by decide +kernel
theorem dX11_readsNotes_68 : decode cX11_readsNotes 68 = .ok (.aload_n 0, 1) := by decide +kernel
theorem dX11_readsNotes_69 : decode cX11_readsNotes 69 = .ok (.getfield 52, 3) := by decide +kernel
theorem dX11_readsNotes_72 : decode cX11_readsNotes 72 = .ok (.iconst 0, 1) := by decide +kernel
theorem dX11_readsNotes_73 : decode cX11_readsNotes 73 = .ok (.iaload, 1) := by decide +kernel
theorem dX11_readsNotes_74 : decode cX11_readsNotes 74 = .ok (.aload_n 0, 1) := by decide +kernel
theorem dX11_readsNotes_75 : decode cX11_readsNotes 75 = .ok (.getfield 52, 3) := by decide +kernel
theorem dX11_readsNotes_78 : decode cX11_readsNotes 78 = .ok (.iconst 1, 1) := by decide +kernel
theorem dX11_readsNotes_79 : decode cX11_readsNotes 79 = .ok (.iaload, 1) := by decide +kernel
theorem dX11_readsNotes_80 : decode cX11_readsNotes 80 = .ok (.invokevirtual 103, 3) := by decide +kernel
theorem dX11_readsNotes_83 : decode cX11_readsNotes 83 = .ok (.goto 4, 3) := by decide +kernel
theorem dX11_readsNotes_86 : decode cX11_readsNotes 86 = .ok (.iconst 0, 1) := by decide +kernel
theorem dX11_readsNotes_87 : decode cX11_readsNotes 87 = .ok (.istore 4, 2) := by decide +kernel
theorem dX11_readsNotes_89 : decode cX11_readsNotes 89 = .ok (.aload_n 0, 1) := by decide +kernel
theorem dX11_readsNotes_90 : decode cX11_readsNotes 90 = .ok (.invokevirtual 324, 3) := by decide +kernel
theorem dX11_readsNotes_93 : decode cX11_readsNotes 93 = .ok (.bipush 44, 2) := by decide +kernel
theorem dX11_readsNotes_95 : decode cX11_readsNotes 95 = .ok (.if_icmp .ne 7, 3) := by decide +kernel
theorem dX11_readsNotes_98 : decode cX11_readsNotes 98 = .ok (.iconst 1, 1) := by decide +kernel
theorem dX11_readsNotes_99 : decode cX11_readsNotes 99 = .ok (.goto 4, 3) := by decide +kernel
theorem dX11_readsNotes_102 : decode cX11_readsNotes 102 = .ok (.iconst 0, 1) := by decide +kernel
theorem dX11_readsNotes_103 : decode cX11_readsNotes 103 = .ok (.istore_n 3, 1) := by decide +kernel
theorem dX11_readsNotes_104 : decode cX11_readsNotes 104 = .ok (.goto (-102), 3) := by decide +kernel
theorem dX11_readsNotes_107 : decode cX11_readsNotes 107 = .ok (.iconst 1, 1) := by decide +kernel
theorem dX11_readsNotes_108 : decode cX11_readsNotes 108 = .ok (.ireturn, 1) := by decide +kernel
set_option maxHeartbeats 4000000 in
set_option maxRecDepth 100000 in
theorem t_X11_readsNotes_L2 {l : Launch} {E : u_E} {K : u_K} {r : Int} {s' : u_S} (g : Wk l (XE E) { frames := 4, cells := 0, slots := 0, locals := 94 } cX11_readsNotes 5 yX11_readsNotes.cls yX11_readsNotes.name (some .boolean) (RZ E r s') K) {v0_1 : u_O} {v1_1 : Int} {v2_1 : Int} (i_v0_1 : is_Mo v0_1) (i_v1_1 : InR v1_1) (i_v2_1 : B01 v2_1) {kx107 : u_S → Option (Int × u_S)} (hkx107 : ∀ (s_10 : u_S), kx107 s_10 = some (r, s') → K 0 0 107 [none, none, none, none, none] [] (Wd E s_10)) : ∀ (m : Nat) (v3_1 : Int) (s_2 : u_S), B01 v3_1 → f_X11_readsNotes_L2 m kx107 v0_1 v1_1 v2_1 v3_1 s_2 = some (r, s') → K 0 0 2 [some (.ref (E.1 v0_1)), some (.int (J v1_1)), some (.int (J v2_1)), some (.int (J v3_1)), none] [] (Wd E s_2) := by
  have g0 := g.wk
  intro m
  induction m with
  | zero =>
    intro v3_1 s_2 i_v3_1 h
    exact absurd (show (none : Option (Int × u_S)) = some (r, s') from h) (by intro z; cases z)
  | succ m ih =>
    intro v3_1 s_2 i_v3_1 h
    rw [f_X11_readsNotes_L2] at h
    refine r_iload_n g0 dX11_readsNotes_2 rfl ?_
    refine r_if_eq g0 107 dX11_readsNotes_3 (by decide) (B01.inR i_v3_1) (fun hc => ?_) (fun hc => ?_)
    · replace h := if_t hc h
      refine r_mask g0 (lv' := [none, none, none, none, none]) [false, false, false, false, false] rfl ?_
      exact hkx107 s_2 h
    · replace h := if_f hc h
      refine r_aload_n g0 dX11_readsNotes_6 rfl ?_
      refine r_dup g0 dX11_readsNotes_7 rfl ?_
      refine g_Mo_place g0 i_v0_1 qX11_317 dX11_readsNotes_8 ?_
      refine r_iconst g0 dX11_readsNotes_11 ?_
      refine r_iadd g0 dX11_readsNotes_12 ?_
      refine p_Mo_place g0 i_v0_1 qX11_317 dX11_readsNotes_13 ?_
      refine r_aload_n g0 dX11_readsNotes_16 rfl ?_
      refine r_iconst g0 dX11_readsNotes_17 ?_
      refine r_iconst g0 dX11_readsNotes_18 ?_
      obtain ⟨r_1, s_3, hr_1, h⟩ := bd_some h
      refine r_cVZ g0 (rest := []) (c_X11_takesAll i_v0_1 (InR_lit rfl) (InR_lit rfl) hr_1) ok_X11_takesAll mX11_337 (recv_Mo i_v0_1) dX11_readsNotes_19 ⟨Nat.le_of_ble_eq_true rfl, Nat.le_of_ble_eq_true rfl⟩ ⟨Nat.zero_le _, Nat.zero_le _⟩ rfl (Nat.le_of_ble_eq_true rfl) rfl (fun i_r_1 => ?_)
      refine r_if_ne g0 27 dX11_readsNotes_22 (by decide) (B01.inR i_r_1) (fun hc => ?_) (fun hc => ?_)
      · replace h := if_f hc h
        refine r_iload_n g0 dX11_readsNotes_27 rfl ?_
        obtain ⟨jp_1, hdjp_1, h⟩ := jn_some h
        have hjp_1 : ∀  (s_4 : u_S), jp_1 s_4 = some (r, s') → K 0 0 89 [some (.ref (E.1 v0_1)), some (.int (J v1_1)), some (.int (J v2_1)), none, none] [] (Wd E s_4) := by
          intro s_4 h
          subst hdjp_1
          refine r_aload_n g0 dX11_readsNotes_89 rfl ?_
          obtain ⟨r_2, s_5, hr_2, h⟩ := bd_some h
          refine r_cVI g0 (rest := []) (c_X11_here i_v0_1 hr_2) ok_X11_here mX11_324 (recv_Mo i_v0_1) dX11_readsNotes_90 ⟨Nat.le_of_ble_eq_true rfl, Nat.le_of_ble_eq_true rfl⟩ ⟨Nat.zero_le _, Nat.zero_le _⟩ rfl (Nat.le_of_ble_eq_true rfl) rfl (fun i_r_2 => ?_)
          refine r_bipush g0 dX11_readsNotes_93 rfl ?_
          obtain ⟨jp_2, hdjp_2, h⟩ := jn_some h
          have hjp_2 : ∀ (vt_1 : Int) (s_6 : u_S), B01 vt_1 → jp_2 vt_1 s_6 = some (r, s') → K 0 0 103 [some (.ref (E.1 v0_1)), some (.int (J v1_1)), some (.int (J v2_1)), none, none] [.int (J vt_1)] (Wd E s_6) := by
            intro vt_1 s_6 i_vt_1 h
            subst hdjp_2
            refine r_istore_n g0 (lv' := [some (.ref (E.1 v0_1)), some (.int (J v1_1)), some (.int (J v2_1)), some (.int (J vt_1)), none]) dX11_readsNotes_103 (by decide) rfl rfl ?_
            refine r_goto g0 2 dX11_readsNotes_104 (by decide) ?_
            exact ih vt_1 s_6 i_vt_1 h
          clear hdjp_2
          refine r_icmp_ne g0 102 dX11_readsNotes_95 (by decide) i_r_2 (InR_lit rfl) (fun hc => ?_) (fun hc => ?_)
          · replace h := if_f hc h
            refine r_iconst g0 dX11_readsNotes_102 ?_
            exact hjp_2 0 s_5 B01_0 h
          · replace h := if_t hc h
            refine r_iconst g0 dX11_readsNotes_98 ?_
            refine r_goto g0 103 dX11_readsNotes_99 (by decide) ?_
            exact hjp_2 1 s_5 B01_1 h
        clear hdjp_1
        refine r_if_eq g0 89 dX11_readsNotes_28 (by decide) (B01.inR i_v2_1) (fun hc => ?_) (fun hc => ?_)
        · replace h := if_t hc h
          refine r_mask g0 (lv' := [some (.ref (E.1 v0_1)), some (.int (J v1_1)), some (.int (J v2_1)), none, none]) [true, true, true, false, false] rfl ?_
          exact hjp_1 s_3 h
        · replace h := if_f hc h
          refine r_aload_n g0 dX11_readsNotes_31 rfl ?_
          refine g_Mo_not g0 i_v0_1 qX11_340 dX11_readsNotes_32 ?_
          refine r_if_ne g0 89 dX11_readsNotes_35 (by decide) (InR_rd _ _ _) (fun hc => ?_) (fun hc => ?_)
          · replace h := if_f hc h
            refine r_mask g0 (lv' := [some (.ref (E.1 v0_1)), some (.int (J v1_1)), some (.int (J v2_1)), none, none]) [true, true, true, false, false] rfl ?_
            exact hjp_1 s_3 h
          · replace h := if_t hc h
            refine r_aload_n g0 dX11_readsNotes_38 rfl ?_
            refine r_aload_n g0 dX11_readsNotes_39 rfl ?_
            refine r_iload_n g0 dX11_readsNotes_40 rfl ?_
            refine r_aload_n g0 dX11_readsNotes_41 rfl ?_
            refine g_Mo_numbers g0 i_v0_1 qX11_52 dX11_readsNotes_42 ?_
            refine r_iconst g0 dX11_readsNotes_45 ?_
            obtain ⟨hb, h⟩ := gd_some h
            refine r_iaload g0 (is_a_Mo_numbers i_v0_1) (n := 5) rfl (B01.inR B01_0) hb dX11_readsNotes_46 ?_
            refine r_aload_n g0 dX11_readsNotes_47 rfl ?_
            refine g_Mo_numbers g0 i_v0_1 qX11_52 dX11_readsNotes_48 ?_
            refine r_iconst g0 dX11_readsNotes_51 ?_
            obtain ⟨hb, h⟩ := gd_some h
            refine r_iaload g0 (is_a_Mo_numbers i_v0_1) (n := 5) rfl (B01.inR B01_1) hb dX11_readsNotes_52 ?_
            obtain ⟨r_3, s_7, hr_3, h⟩ := bd_some h
            refine r_cVI g0 (rest := [.ref (E.1 v0_1)]) (c_X11_canNote i_v0_1 i_v1_1 (InR_rd _ _ _) (InR_rd _ _ _) hr_3) ok_X11_canNote mX11_93 (recv_Mo i_v0_1) dX11_readsNotes_53 ⟨Nat.le_of_ble_eq_true rfl, Nat.le_of_ble_eq_true rfl⟩ ⟨Nat.zero_le _, Nat.zero_le _⟩ rfl (Nat.le_of_ble_eq_true rfl) rfl (fun i_r_3 => ?_)
            refine p_Mo_not g0 i_v0_1 qX11_340 dX11_readsNotes_56 ?_
            refine r_aload_n g0 dX11_readsNotes_59 rfl ?_
            refine g_Mo_not g0 i_v0_1 qX11_340 dX11_readsNotes_60 ?_
            obtain ⟨jp_3, hdjp_3, h⟩ := jn_some h
            have hjp_3 : ∀ (vt_2 : Int) (s_8 : u_S), InR vt_2 → jp_3 vt_2 s_8 = some (r, s') → K 0 0 87 [some (.ref (E.1 v0_1)), some (.int (J v1_1)), some (.int (J v2_1)), none, none] [.int (J vt_2)] (Wd E s_8) := by
              intro vt_2 s_8 i_vt_2 h
              subst hdjp_3
              refine r_istore g0 (lv' := [some (.ref (E.1 v0_1)), some (.int (J v1_1)), some (.int (J v2_1)), none, some (.int (J vt_2))]) dX11_readsNotes_87 (by decide) rfl rfl ?_
              refine r_mask g0 (lv' := [some (.ref (E.1 v0_1)), some (.int (J v1_1)), some (.int (J v2_1)), none, none]) [true, true, true, false, false] rfl ?_
              exact hjp_1 s_8 h
            clear hdjp_3
            refine r_if_ne g0 86 dX11_readsNotes_63 (by decide) (InR_rd _ _ _) (fun hc => ?_) (fun hc => ?_)
            · replace h := if_f hc h
              refine r_iconst g0 dX11_readsNotes_86 ?_
              refine r_mask g0 (lv' := [some (.ref (E.1 v0_1)), some (.int (J v1_1)), some (.int (J v2_1)), none, none]) [true, true, true, false, false] rfl ?_
              exact hjp_3 0 (wt s_7 v0_1 19 r_3) (B01.inR B01_0) h
            · replace h := if_t hc h
              refine r_aload_n g0 dX11_readsNotes_66 rfl ?_
              refine r_iload_n g0 dX11_readsNotes_67 rfl ?_
              refine r_aload_n g0 dX11_readsNotes_68 rfl ?_
              refine g_Mo_numbers g0 i_v0_1 qX11_52 dX11_readsNotes_69 ?_
              refine r_iconst g0 dX11_readsNotes_72 ?_
              obtain ⟨hb, h⟩ := gd_some h
              refine r_iaload g0 (is_a_Mo_numbers i_v0_1) (n := 5) rfl (B01.inR B01_0) hb dX11_readsNotes_73 ?_
              refine r_aload_n g0 dX11_readsNotes_74 rfl ?_
              refine g_Mo_numbers g0 i_v0_1 qX11_52 dX11_readsNotes_75 ?_
              refine r_iconst g0 dX11_readsNotes_78 ?_
              obtain ⟨hb, h⟩ := gd_some h
              refine r_iaload g0 (is_a_Mo_numbers i_v0_1) (n := 5) rfl (B01.inR B01_1) hb dX11_readsNotes_79 ?_
              obtain ⟨r_4, s_9, hr_4, h⟩ := bd_some h
              refine r_cVI g0 (rest := []) (c_X11_noteNow i_v0_1 i_v1_1 (InR_rd _ _ _) (InR_rd _ _ _) hr_4) ok_X11_noteNow mX11_103 (recv_Mo i_v0_1) dX11_readsNotes_80 ⟨Nat.le_of_ble_eq_true rfl, Nat.le_of_ble_eq_true rfl⟩ ⟨Nat.zero_le _, Nat.zero_le _⟩ rfl (Nat.le_of_ble_eq_true rfl) rfl (fun i_r_4 => ?_)
              refine r_goto g0 87 dX11_readsNotes_83 (by decide) ?_
              refine r_mask g0 (lv' := [some (.ref (E.1 v0_1)), some (.int (J v1_1)), some (.int (J v2_1)), none, none]) [true, true, true, false, false] rfl ?_
              exact hjp_3 r_4 s_9 i_r_4 h
      · replace h := if_t hc h
        refine r_iconst g0 dX11_readsNotes_25 ?_
        exact z_Z g dX11_readsNotes_26 B01_0 h
set_option maxHeartbeats 4000000 in
set_option maxRecDepth 100000 in
theorem c_X11_readsNotes {E : u_E} {l : Launch} {o : u_O} {p1 : Int} {p2 : Int} (ho : is_Mo o) (i_p1 : InR p1) (i_p2 : B01 p2) {s s' : u_S} {r : Int} (h : f_X11_readsNotes o p1 p2 s = some (r, s')) : Con l (XE E) yX11_readsNotes cX11_readsNotes 5 (some .boolean) 4 94 0 0 [.ref (E.1 o), .int (J p1), .int (J p2)] (Wd E s) (RZ E r s') := by
  refine Con.of [some (.ref (E.1 o)), some (.int (J p1)), some (.int (J p2)), none, none] (by decide +kernel) rfl rfl (Nat.le_of_ble_eq_true rfl) (fun K g => ?_)
  have g0 := g.wk
  unfold f_X11_readsNotes at h
  refine r_iconst g0 dX11_readsNotes_0 ?_
  refine r_istore_n g0 (lv' := [some (.ref (E.1 o)), some (.int (J p1)), some (.int (J p2)), some (.int (J 1)), none]) dX11_readsNotes_1 (by decide) rfl rfl ?_
  refine t_X11_readsNotes_L2 g ho i_p1 i_p2 ?_ FU 1 s B01_1 h
  · intro s_1 h
    refine r_iconst g0 dX11_readsNotes_107 ?_
    exact z_Z g dX11_readsNotes_108 B01_1 h
theorem dX11_readsLine_0 : decode cX11_readsLine 0 = .ok (.aload_n 0, 1) := by decide +kernel
theorem dX11_readsLine_1 : decode cX11_readsLine 1 = .ok (.iconst 1, 1) := by decide +kernel
theorem dX11_readsLine_2 : decode cX11_readsLine 2 = .ok (.iconst (-1), 1) := by decide +kernel
theorem dX11_readsLine_3 : decode cX11_readsLine 3 = .ok (.invokevirtual 337, 3) := by decide +kernel
theorem dX11_readsLine_6 : decode cX11_readsLine 6 = .ok (.ifCond .ne 5, 3) := by decide +kernel
theorem dX11_readsLine_9 : decode cX11_readsLine 9 = .ok (.iconst 0, 1) := by decide +kernel
theorem dX11_readsLine_10 : decode cX11_readsLine 10 = .ok (.ireturn, 1) := by decide +kernel
theorem dX11_readsLine_11 : decode cX11_readsLine 11 = .ok (.aload_n 0, 1) := by decide +kernel
theorem dX11_readsLine_12 : decode cX11_readsLine 12 = .ok (.getfield 52, 3) := by decide +kernel
theorem dX11_readsLine_15 : decode cX11_readsLine 15 = .ok (.iconst 0, 1) := by decide +kernel
theorem dX11_readsLine_16 : decode cX11_readsLine 16 = .ok (.iaload, 1) := by decide +kernel
theorem dX11_readsLine_17 : decode cX11_readsLine 17 = .ok (.istore_n 2, 1) := by decide +kernel
theorem dX11_readsLine_18 : decode cX11_readsLine 18 = .ok (.iload_n 1, 1) := by decide +kernel
theorem dX11_readsLine_19 : decode cX11_readsLine 19 = .ok (.ifCond .eq 29, 3) := by decide +kernel
theorem dX11_readsLine_22 : decode cX11_readsLine 22 = .ok (.aload_n 0, 1) := by decide +kernel
theorem dX11_readsLine_23 : decode cX11_readsLine 23 = .ok (.aload_n 0, 1) := by decide +kernel
theorem dX11_readsLine_24 : decode cX11_readsLine 24 = .ok (.iload_n 2, 1) := by decide +kernel
theorem dX11_readsLine_25 : decode cX11_readsLine 25 = .ok (.invokevirtual 106, 3) := by decide +kernel
theorem dX11_readsLine_28 : decode cX11_readsLine 28 = .ok (.putfield 340, 3) := by decide +kernel
theorem dX11_readsLine_31 : decode cX11_readsLine 31 = .ok (.aload_n 0, 1) := by decide +kernel
theorem dX11_readsLine_32 : decode cX11_readsLine 32 = .ok (.getfield 340, 3) := by decide +kernel
theorem dX11_readsLine_35 : decode cX11_readsLine 35 = .ok (.ifCond .ne 11, 3) := by decide +kernel
theorem dX11_readsLine_38 : decode cX11_readsLine 38 = .ok (.aload_n 0, 1) := by decide +kernel
theorem dX11_readsLine_39 : decode cX11_readsLine 39 = .ok (.iload_n 2, 1) := by decide +kernel
theorem dX11_readsLine_40 : decode cX11_readsLine 40 = .ok (.invokevirtual 109, 3) := by decide +kernel
theorem dX11_readsLine_43 : decode cX11_readsLine 43 = .ok (.goto 4, 3) := by decide +kernel
theorem dX11_readsLine_46 : decode cX11_readsLine 46 = .ok (.iconst 0, 1) := by decide +kernel
theorem dX11_readsLine_47 : decode cX11_readsLine 47 = .ok (.istore_n 3, 1) := by decide +kernel
theorem dX11_readsLine_48 : decode cX11_readsLine 48 = .ok (.aload_n 0, 1) := by decide +kernel
theorem dX11_readsLine_49 : decode cX11_readsLine 49 = .ok (.invokevirtual 324, 3) := by decide +kernel
theorem dX11_readsLine_52 : decode cX11_readsLine 52 = .ok (.bipush 58, 2) := by decide +kernel
theorem dX11_readsLine_54 : decode cX11_readsLine 54 = .ok (.if_icmp .ne 12, 3) := by decide +kernel
theorem dX11_readsLine_57 : decode cX11_readsLine 57 = .ok (.aload_n 0, 1) := by decide +kernel
theorem dX11_readsLine_58 : decode cX11_readsLine 58 = .ok (.iload_n 2, 1) := by decide +kernel
theorem dX11_readsLine_59 : decode cX11_readsLine 59 = .ok (.iload_n 1, 1) := by decide +kernel
theorem dX11_readsLine_60 : decode cX11_readsLine 60 = .ok (.invokevirtual 343, 3) := by decide +kernel
theorem dX11_readsLine_63 : decode cX11_readsLine 63 = .ok (.ifCond .eq 7, 3) := by decide +kernel
theorem dX11_readsLine_66 : decode cX11_readsLine 66 = .ok (.iconst 1, 1) := by decide +kernel
theorem dX11_readsLine_67 : decode cX11_readsLine 67 = .ok (.goto 4, 3) := by decide +kernel
theorem dX11_readsLine_70 : decode cX11_readsLine 70 = .ok (.iconst 0, 1) := by decide +kernel
theorem dX11_readsLine_71 : decode cX11_readsLine 71 = .ok (.ireturn, 1) := by decide +kernel
set_option maxHeartbeats 4000000 in
set_option maxRecDepth 100000 in
theorem c_X11_readsLine {E : u_E} {l : Launch} {o : u_O} {p1 : Int} (ho : is_Mo o) (i_p1 : B01 p1) {s s' : u_S} {r : Int} (h : f_X11_readsLine o p1 s = some (r, s')) : Con l (XE E) yX11_readsLine cX11_readsLine 4 (some .boolean) 5 118 0 0 [.ref (E.1 o), .int (J p1)] (Wd E s) (RZ E r s') := by
  refine Con.of [some (.ref (E.1 o)), some (.int (J p1)), none, none] (by decide +kernel) rfl rfl (Nat.le_of_ble_eq_true rfl) (fun K g => ?_)
  have g0 := g.wk
  unfold f_X11_readsLine at h
  refine r_aload_n g0 dX11_readsLine_0 rfl ?_
  refine r_iconst g0 dX11_readsLine_1 ?_
  refine r_iconst g0 dX11_readsLine_2 ?_
  obtain ⟨r_1, s_1, hr_1, h⟩ := bd_some h
  refine r_cVZ g0 (rest := []) (c_X11_takesAll ho (B01.inR B01_1) (InR_lit rfl) hr_1) ok_X11_takesAll mX11_337 (recv_Mo ho) dX11_readsLine_3 ⟨Nat.le_of_ble_eq_true rfl, Nat.le_of_ble_eq_true rfl⟩ ⟨Nat.zero_le _, Nat.zero_le _⟩ rfl (Nat.le_of_ble_eq_true rfl) rfl (fun i_r_1 => ?_)
  refine r_if_ne g0 11 dX11_readsLine_6 (by decide) (B01.inR i_r_1) (fun hc => ?_) (fun hc => ?_)
  · replace h := if_f hc h
    refine r_aload_n g0 dX11_readsLine_11 rfl ?_
    refine g_Mo_numbers g0 ho qX11_52 dX11_readsLine_12 ?_
    refine r_iconst g0 dX11_readsLine_15 ?_
    obtain ⟨hb, h⟩ := gd_some h
    refine r_iaload g0 (is_a_Mo_numbers ho) (n := 5) rfl (B01.inR B01_0) hb dX11_readsLine_16 ?_
    refine r_istore_n g0 (lv' := [some (.ref (E.1 o)), some (.int (J p1)), some (.int (J (rd s_1 (a_Mo_numbers o) 0))), none]) dX11_readsLine_17 (by decide) rfl rfl ?_
    refine r_iload_n g0 dX11_readsLine_18 rfl ?_
    obtain ⟨jp_1, hdjp_1, h⟩ := jn_some h
    have hjp_1 : ∀  (s_2 : u_S), jp_1 s_2 = some (r, s') → K 0 0 48 [some (.ref (E.1 o)), some (.int (J p1)), some (.int (J (rd s_1 (a_Mo_numbers o) 0))), none] [] (Wd E s_2) := by
      intro s_2 h
      subst hdjp_1
      refine r_aload_n g0 dX11_readsLine_48 rfl ?_
      obtain ⟨r_2, s_3, hr_2, h⟩ := bd_some h
      refine r_cVI g0 (rest := []) (c_X11_here ho hr_2) ok_X11_here mX11_324 (recv_Mo ho) dX11_readsLine_49 ⟨Nat.le_of_ble_eq_true rfl, Nat.le_of_ble_eq_true rfl⟩ ⟨Nat.zero_le _, Nat.zero_le _⟩ rfl (Nat.le_of_ble_eq_true rfl) rfl (fun i_r_2 => ?_)
      refine r_bipush g0 dX11_readsLine_52 rfl ?_
      obtain ⟨jp_2, hdjp_2, h⟩ := jn_some h
      have hjp_2 : ∀  (s_4 : u_S), jp_2 s_4 = some (r, s') → K 0 0 66 [none, none, none, none] [] (Wd E s_4) := by
        intro s_4 h
        subst hdjp_2
        refine r_iconst g0 dX11_readsLine_66 ?_
        refine r_goto g0 71 dX11_readsLine_67 (by decide) ?_
        exact z_Z g dX11_readsLine_71 B01_1 h
      clear hdjp_2
      refine r_icmp_ne g0 66 dX11_readsLine_54 (by decide) i_r_2 (InR_lit rfl) (fun hc => ?_) (fun hc => ?_)
      · replace h := if_f hc h
        refine r_mask g0 (lv' := [none, none, none, none]) [false, false, false, false] rfl ?_
        exact hjp_2 s_3 h
      · replace h := if_t hc h
        refine r_aload_n g0 dX11_readsLine_57 rfl ?_
        refine r_iload_n g0 dX11_readsLine_58 rfl ?_
        refine r_iload_n g0 dX11_readsLine_59 rfl ?_
        obtain ⟨r_3, s_5, hr_3, h⟩ := bd_some h
        refine r_cVZ g0 (rest := []) (c_X11_readsNotes ho (InR_rd _ _ _) i_p1 hr_3) ok_X11_readsNotes mX11_343 (recv_Mo ho) dX11_readsLine_60 ⟨Nat.le_of_ble_eq_true rfl, Nat.le_of_ble_eq_true rfl⟩ ⟨Nat.zero_le _, Nat.zero_le _⟩ rfl (Nat.le_of_ble_eq_true rfl) rfl (fun i_r_3 => ?_)
        refine r_if_eq g0 70 dX11_readsLine_63 (by decide) (B01.inR i_r_3) (fun hc => ?_) (fun hc => ?_)
        · replace h := if_t hc h
          refine r_iconst g0 dX11_readsLine_70 ?_
          exact z_Z g dX11_readsLine_71 B01_0 h
        · replace h := if_f hc h
          refine r_mask g0 (lv' := [none, none, none, none]) [false, false, false, false] rfl ?_
          exact hjp_2 s_5 h
    clear hdjp_1
    refine r_if_eq g0 48 dX11_readsLine_19 (by decide) (B01.inR i_p1) (fun hc => ?_) (fun hc => ?_)
    · replace h := if_t hc h
      exact hjp_1 s_1 h
    · replace h := if_f hc h
      refine r_aload_n g0 dX11_readsLine_22 rfl ?_
      refine r_aload_n g0 dX11_readsLine_23 rfl ?_
      refine r_iload_n g0 dX11_readsLine_24 rfl ?_
      obtain ⟨r_4, s_6, hr_4, h⟩ := bd_some h
      refine r_cVI g0 (rest := [.ref (E.1 o)]) (c_X11_canEmpty ho (InR_rd _ _ _) hr_4) ok_X11_canEmpty mX11_106 (recv_Mo ho) dX11_readsLine_25 ⟨Nat.le_of_ble_eq_true rfl, Nat.le_of_ble_eq_true rfl⟩ ⟨Nat.zero_le _, Nat.zero_le _⟩ rfl (Nat.le_of_ble_eq_true rfl) rfl (fun i_r_4 => ?_)
      refine p_Mo_not g0 ho qX11_340 dX11_readsLine_28 ?_
      refine r_aload_n g0 dX11_readsLine_31 rfl ?_
      refine g_Mo_not g0 ho qX11_340 dX11_readsLine_32 ?_
      obtain ⟨jp_3, hdjp_3, h⟩ := jn_some h
      have hjp_3 : ∀ (vt_1 : Int) (s_7 : u_S), InR vt_1 → jp_3 vt_1 s_7 = some (r, s') → K 0 0 47 [some (.ref (E.1 o)), some (.int (J p1)), some (.int (J (rd s_1 (a_Mo_numbers o) 0))), none] [.int (J vt_1)] (Wd E s_7) := by
        intro vt_1 s_7 i_vt_1 h
        subst hdjp_3
        refine r_istore_n g0 (lv' := [some (.ref (E.1 o)), some (.int (J p1)), some (.int (J (rd s_1 (a_Mo_numbers o) 0))), some (.int (J vt_1))]) dX11_readsLine_47 (by decide) rfl rfl ?_
        refine r_mask g0 (lv' := [some (.ref (E.1 o)), some (.int (J p1)), some (.int (J (rd s_1 (a_Mo_numbers o) 0))), none]) [true, true, true, false] rfl ?_
        exact hjp_1 s_7 h
      clear hdjp_3
      refine r_if_ne g0 46 dX11_readsLine_35 (by decide) (InR_rd _ _ _) (fun hc => ?_) (fun hc => ?_)
      · replace h := if_f hc h
        refine r_iconst g0 dX11_readsLine_46 ?_
        exact hjp_3 0 (wt s_6 o 19 r_4) (B01.inR B01_0) h
      · replace h := if_t hc h
        refine r_aload_n g0 dX11_readsLine_38 rfl ?_
        refine r_iload_n g0 dX11_readsLine_39 rfl ?_
        obtain ⟨r_5, s_8, hr_5, h⟩ := bd_some h
        refine r_cVI g0 (rest := []) (c_X11_emptyNow ho (InR_rd _ _ _) hr_5) ok_X11_emptyNow mX11_109 (recv_Mo ho) dX11_readsLine_40 ⟨Nat.le_of_ble_eq_true rfl, Nat.le_of_ble_eq_true rfl⟩ ⟨Nat.zero_le _, Nat.zero_le _⟩ rfl (Nat.le_of_ble_eq_true rfl) rfl (fun i_r_5 => ?_)
        refine r_goto g0 47 dX11_readsLine_43 (by decide) ?_
        exact hjp_3 r_5 s_8 i_r_5 h
  · replace h := if_t hc h
    refine r_iconst g0 dX11_readsLine_9 ?_
    exact z_Z g dX11_readsLine_10 B01_0 h
theorem dX11_readsKeys_0 : decode cX11_readsKeys 0 = .ok (.iload_n 1, 1) := by decide +kernel
theorem dX11_readsKeys_1 : decode cX11_readsKeys 1 = .ok (.ifCond .eq 12, 3) := by decide +kernel
theorem dX11_readsKeys_4 : decode cX11_readsKeys 4 = .ok (.aload_n 0, 1) := by decide +kernel
theorem dX11_readsKeys_5 : decode cX11_readsKeys 5 = .ok (.getfield 7, 3) := by decide +kernel
theorem dX11_readsKeys_8 : decode cX11_readsKeys 8 = .ok (.sipush 139, 3) := by decide +kernel
theorem dX11_readsKeys_11 : decode cX11_readsKeys 11 = .ok (.iconst 0, 1) := by decide +kernel
theorem dX11_readsKeys_12 : decode cX11_readsKeys 12 = .ok (.iastore, 1) := by decide +kernel
theorem dX11_readsKeys_13 : decode cX11_readsKeys 13 = .ok (.aload_n 0, 1) := by decide +kernel
theorem dX11_readsKeys_14 : decode cX11_readsKeys 14 = .ok (.invokevirtual 324, 3) := by decide +kernel
theorem dX11_readsKeys_17 : decode cX11_readsKeys 17 = .ok (.i2l, 1) := by decide +kernel
theorem dX11_readsKeys_18 : decode cX11_readsKeys 18 = .ok (.ldc2_w 320, 3) := by decide +kernel
theorem dX11_readsKeys_21 : decode cX11_readsKeys 21 = .ok (.ldc2_w 322, 3) := by decide +kernel
theorem dX11_readsKeys_24 : decode cX11_readsKeys 24 = .ok (.invokestatic 61, 3) := by decide +kernel
theorem dX11_readsKeys_27 : decode cX11_readsKeys 27 = .ok (.ifCond .eq 64, 3) := by decide +kernel
theorem dX11_readsKeys_30 : decode cX11_readsKeys 30 = .ok (.aload_n 0, 1) := by decide +kernel
theorem dX11_readsKeys_31 : decode cX11_readsKeys 31 = .ok (.iconst 1, 1) := by decide +kernel
theorem dX11_readsKeys_32 : decode cX11_readsKeys 32 = .ok (.iconst (-1), 1) := by decide +kernel
theorem dX11_readsKeys_33 : decode cX11_readsKeys 33 = .ok (.invokevirtual 337, 3) := by decide +kernel
theorem dX11_readsKeys_36 : decode cX11_readsKeys 36 = .ok (.ifCond .ne 5, 3) := by decide +kernel
theorem dX11_readsKeys_39 : decode cX11_readsKeys 39 = .ok (.iconst 0, 1) := by decide +kernel
theorem dX11_readsKeys_40 : decode cX11_readsKeys 40 = .ok (.ireturn, 1) := by decide +kernel
theorem dX11_readsKeys_41 : decode cX11_readsKeys 41 = .ok (.iload_n 1, 1) := by decide +kernel
theorem dX11_readsKeys_42 : decode cX11_readsKeys 42 = .ok (.ifCond .eq (-29), 3) := by decide +kernel
theorem dX11_readsKeys_45 : decode cX11_readsKeys 45 = .ok (.aload_n 0, 1) := by decide +kernel
theorem dX11_readsKeys_46 : decode cX11_readsKeys 46 = .ok (.getfield 340, 3) := by decide +kernel
theorem dX11_readsKeys_49 : decode cX11_readsKeys 49 = .ok (.ifCond .ne (-36), 3) := by decide +kernel
theorem dX11_readsKeys_52 : decode cX11_readsKeys 52 = .ok (.aload_n 0, 1) := by decide +kernel
theorem dX11_readsKeys_53 : decode cX11_readsKeys 53 = .ok (.aload_n 0, 1) := by decide +kernel
theorem dX11_readsKeys_54 : decode cX11_readsKeys 54 = .ok (.aload_n 0, 1) := by decide +kernel
theorem dX11_readsKeys_55 : decode cX11_readsKeys 55 = .ok (.getfield 52, 3) := by decide +kernel
theorem dX11_readsKeys_58 : decode cX11_readsKeys 58 = .ok (.iconst 0, 1) := by decide +kernel
theorem dX11_readsKeys_59 : decode cX11_readsKeys 59 = .ok (.iaload, 1) := by decide +kernel
theorem dX11_readsKeys_60 : decode cX11_readsKeys 60 = .ok (.invokevirtual 290, 3) := by decide +kernel
theorem dX11_readsKeys_63 : decode cX11_readsKeys 63 = .ok (.putfield 340, 3) := by decide +kernel
theorem dX11_readsKeys_66 : decode cX11_readsKeys 66 = .ok (.aload_n 0, 1) := by decide +kernel
theorem dX11_readsKeys_67 : decode cX11_readsKeys 67 = .ok (.getfield 340, 3) := by decide +kernel
theorem dX11_readsKeys_70 : decode cX11_readsKeys 70 = .ok (.ifCond .ne 16, 3) := by decide +kernel
theorem dX11_readsKeys_73 : decode cX11_readsKeys 73 = .ok (.aload_n 0, 1) := by decide +kernel
theorem dX11_readsKeys_74 : decode cX11_readsKeys 74 = .ok (.aload_n 0, 1) := by decide +kernel
theorem dX11_readsKeys_75 : decode cX11_readsKeys 75 = .ok (.getfield 52, 3) := by decide +kernel
theorem dX11_readsKeys_78 : decode cX11_readsKeys 78 = .ok (.iconst 0, 1) := by decide +kernel
theorem dX11_readsKeys_79 : decode cX11_readsKeys 79 = .ok (.iaload, 1) := by decide +kernel
theorem dX11_readsKeys_80 : decode cX11_readsKeys 80 = .ok (.invokevirtual 293, 3) := by decide +kernel
theorem dX11_readsKeys_83 : decode cX11_readsKeys 83 = .ok (.goto 4, 3) := by decide +kernel
theorem dX11_readsKeys_86 : decode cX11_readsKeys 86 = .ok (.iconst 0, 1) := by decide +kernel
theorem dX11_readsKeys_87 : decode cX11_readsKeys 87 = .ok (.istore_n 2, 1) := by decide +kernel
theorem dX11_readsKeys_88 : decode cX11_readsKeys 88 = .ok (.goto (-75), 3) := by decide +kernel
theorem dX11_readsKeys_91 : decode cX11_readsKeys 91 = .ok (.iconst 1, 1) := by decide +kernel
theorem dX11_readsKeys_92 : decode cX11_readsKeys 92 = .ok (.ireturn, 1) := by decide +kernel
set_option maxHeartbeats 4000000 in
set_option maxRecDepth 100000 in
theorem t_X11_readsKeys_L13 {l : Launch} {E : u_E} {K : u_K} {r : Int} {s' : u_S} (g : Wk l (XE E) { frames := 4, cells := 0, slots := 0, locals := 94 } cX11_readsKeys 3 yX11_readsKeys.cls yX11_readsKeys.name (some .boolean) (RZ E r s') K) {v0_1 : u_O} {v1_1 : Int} (i_v0_1 : is_Mo v0_1) (i_v1_1 : B01 v1_1) {kx91 : u_S → Option (Int × u_S)} (hkx91 : ∀ (s_10 : u_S), kx91 s_10 = some (r, s') → K 0 0 91 [none, none, none] [] (Wd E s_10)) : ∀ (m : Nat) (s_3 : u_S), f_X11_readsKeys_L13 m kx91 v0_1 v1_1 s_3 = some (r, s') → K 0 0 13 [some (.ref (E.1 v0_1)), some (.int (J v1_1)), none] [] (Wd E s_3) := by
  have g0 := g.wk
  intro m
  induction m with
  | zero =>
    intro s_3 h
    exact absurd (show (none : Option (Int × u_S)) = some (r, s') from h) (by intro z; cases z)
  | succ m ih =>
    intro s_3 h
    rw [f_X11_readsKeys_L13] at h
    refine r_aload_n g0 dX11_readsKeys_13 rfl ?_
    obtain ⟨r_1, s_4, hr_1, h⟩ := bd_some h
    refine r_cVI g0 (rest := []) (c_X11_here i_v0_1 hr_1) ok_X11_here mX11_324 (recv_Mo i_v0_1) dX11_readsKeys_14 ⟨Nat.le_of_ble_eq_true rfl, Nat.le_of_ble_eq_true rfl⟩ ⟨Nat.zero_le _, Nat.zero_le _⟩ rfl (Nat.le_of_ble_eq_true rfl) rfl (fun i_r_1 => ?_)
    refine r_i2l g0 dX11_readsKeys_17 i_r_1 ?_
    refine r_ldc2 g0 (v := 48) dX11_readsKeys_18 kX11_320 ?_
    refine r_ldc2 g0 (v := 57) dX11_readsKeys_21 kX11_322 ?_
    obtain ⟨r_2, s_5, hr_2, h⟩ := bd_some h
    refine r_cSZ g0 (rest := []) (c_X11_in (InL_i i_r_1) (InL_lit rfl) (InL_lit rfl) hr_2) ok_X11_in mX11_61 dX11_readsKeys_24 ⟨Nat.le_of_ble_eq_true rfl, Nat.le_of_ble_eq_true rfl⟩ ⟨Nat.zero_le _, Nat.zero_le _⟩ rfl (Nat.le_of_ble_eq_true rfl) rfl (fun i_r_2 => ?_)
    refine r_if_eq g0 91 dX11_readsKeys_27 (by decide) (B01.inR i_r_2) (fun hc => ?_) (fun hc => ?_)
    · replace h := if_t hc h
      refine r_mask g0 (lv' := [none, none, none]) [false, false, false] rfl ?_
      exact hkx91 s_5 h
    · replace h := if_f hc h
      refine r_aload_n g0 dX11_readsKeys_30 rfl ?_
      refine r_iconst g0 dX11_readsKeys_31 ?_
      refine r_iconst g0 dX11_readsKeys_32 ?_
      obtain ⟨r_3, s_6, hr_3, h⟩ := bd_some h
      refine r_cVZ g0 (rest := []) (c_X11_takesAll i_v0_1 (B01.inR B01_1) (InR_lit rfl) hr_3) ok_X11_takesAll mX11_337 (recv_Mo i_v0_1) dX11_readsKeys_33 ⟨Nat.le_of_ble_eq_true rfl, Nat.le_of_ble_eq_true rfl⟩ ⟨Nat.zero_le _, Nat.zero_le _⟩ rfl (Nat.le_of_ble_eq_true rfl) rfl (fun i_r_3 => ?_)
      refine r_if_ne g0 41 dX11_readsKeys_36 (by decide) (B01.inR i_r_3) (fun hc => ?_) (fun hc => ?_)
      · replace h := if_f hc h
        refine r_iload_n g0 dX11_readsKeys_41 rfl ?_
        refine r_if_eq g0 13 dX11_readsKeys_42 (by decide) (B01.inR i_v1_1) (fun hc => ?_) (fun hc => ?_)
        · replace h := if_t hc h
          exact ih s_6 h
        · replace h := if_f hc h
          refine r_aload_n g0 dX11_readsKeys_45 rfl ?_
          refine g_Mo_not g0 i_v0_1 qX11_340 dX11_readsKeys_46 ?_
          refine r_if_ne g0 13 dX11_readsKeys_49 (by decide) (InR_rd _ _ _) (fun hc => ?_) (fun hc => ?_)
          · replace h := if_f hc h
            exact ih s_6 h
          · replace h := if_t hc h
            refine r_aload_n g0 dX11_readsKeys_52 rfl ?_
            refine r_aload_n g0 dX11_readsKeys_53 rfl ?_
            refine r_aload_n g0 dX11_readsKeys_54 rfl ?_
            refine g_Mo_numbers g0 i_v0_1 qX11_52 dX11_readsKeys_55 ?_
            refine r_iconst g0 dX11_readsKeys_58 ?_
            obtain ⟨hb, h⟩ := gd_some h
            refine r_iaload g0 (is_a_Mo_numbers i_v0_1) (n := 5) rfl (B01.inR B01_0) hb dX11_readsKeys_59 ?_
            obtain ⟨r_4, s_7, hr_4, h⟩ := bd_some h
            refine r_cVI g0 (rest := [.ref (E.1 v0_1)]) (c_X11_canVisit i_v0_1 (InR_rd _ _ _) hr_4) ok_X11_canVisit mX11_290 (recv_Mo i_v0_1) dX11_readsKeys_60 ⟨Nat.le_of_ble_eq_true rfl, Nat.le_of_ble_eq_true rfl⟩ ⟨Nat.zero_le _, Nat.zero_le _⟩ rfl (Nat.le_of_ble_eq_true rfl) rfl (fun i_r_4 => ?_)
            refine p_Mo_not g0 i_v0_1 qX11_340 dX11_readsKeys_63 ?_
            refine r_aload_n g0 dX11_readsKeys_66 rfl ?_
            refine g_Mo_not g0 i_v0_1 qX11_340 dX11_readsKeys_67 ?_
            obtain ⟨jp_2, hdjp_2, h⟩ := jn_some h
            have hjp_2 : ∀ (vt_1 : Int) (s_8 : u_S), InR vt_1 → jp_2 vt_1 s_8 = some (r, s') → K 0 0 87 [some (.ref (E.1 v0_1)), some (.int (J v1_1)), none] [.int (J vt_1)] (Wd E s_8) := by
              intro vt_1 s_8 i_vt_1 h
              subst hdjp_2
              refine r_istore_n g0 (lv' := [some (.ref (E.1 v0_1)), some (.int (J v1_1)), some (.int (J vt_1))]) dX11_readsKeys_87 (by decide) rfl rfl ?_
              refine r_goto g0 13 dX11_readsKeys_88 (by decide) ?_
              refine r_mask g0 (lv' := [some (.ref (E.1 v0_1)), some (.int (J v1_1)), none]) [true, true, false] rfl ?_
              exact ih s_8 h
            clear hdjp_2
            refine r_if_ne g0 86 dX11_readsKeys_70 (by decide) (InR_rd _ _ _) (fun hc => ?_) (fun hc => ?_)
            · replace h := if_f hc h
              refine r_iconst g0 dX11_readsKeys_86 ?_
              exact hjp_2 0 (wt s_7 v0_1 19 r_4) (B01.inR B01_0) h
            · replace h := if_t hc h
              refine r_aload_n g0 dX11_readsKeys_73 rfl ?_
              refine r_aload_n g0 dX11_readsKeys_74 rfl ?_
              refine g_Mo_numbers g0 i_v0_1 qX11_52 dX11_readsKeys_75 ?_
              refine r_iconst g0 dX11_readsKeys_78 ?_
              obtain ⟨hb, h⟩ := gd_some h
              refine r_iaload g0 (is_a_Mo_numbers i_v0_1) (n := 5) rfl (B01.inR B01_0) hb dX11_readsKeys_79 ?_
              obtain ⟨r_5, s_9, hr_5, h⟩ := bd_some h
              refine r_cVI g0 (rest := []) (c_X11_visitNow i_v0_1 (InR_rd _ _ _) hr_5) ok_X11_visitNow mX11_293 (recv_Mo i_v0_1) dX11_readsKeys_80 ⟨Nat.le_of_ble_eq_true rfl, Nat.le_of_ble_eq_true rfl⟩ ⟨Nat.zero_le _, Nat.zero_le _⟩ rfl (Nat.le_of_ble_eq_true rfl) rfl (fun i_r_5 => ?_)
              refine r_goto g0 87 dX11_readsKeys_83 (by decide) ?_
              exact hjp_2 r_5 s_9 i_r_5 h
      · replace h := if_t hc h
        refine r_iconst g0 dX11_readsKeys_39 ?_
        exact z_Z g dX11_readsKeys_40 B01_0 h
set_option maxHeartbeats 4000000 in
set_option maxRecDepth 100000 in
theorem c_X11_readsKeys {E : u_E} {l : Launch} {o : u_O} {p1 : Int} (ho : is_Mo o) (i_p1 : B01 p1) {s s' : u_S} {r : Int} (h : f_X11_readsKeys o p1 s = some (r, s')) : Con l (XE E) yX11_readsKeys cX11_readsKeys 3 (some .boolean) 4 94 0 0 [.ref (E.1 o), .int (J p1)] (Wd E s) (RZ E r s') := by
  refine Con.of [some (.ref (E.1 o)), some (.int (J p1)), none] (by decide +kernel) rfl rfl (Nat.le_of_ble_eq_true rfl) (fun K g => ?_)
  have g0 := g.wk
  unfold f_X11_readsKeys at h
  refine r_iload_n g0 dX11_readsKeys_0 rfl ?_
  obtain ⟨jp_1, hdjp_1, h⟩ := jn_some h
  have hjp_1 : ∀  (s_1 : u_S), jp_1 s_1 = some (r, s') → K 0 0 13 [some (.ref (E.1 o)), some (.int (J p1)), none] [] (Wd E s_1) := by
    intro s_1 h
    subst hdjp_1
    refine t_X11_readsKeys_L13 g ho i_p1 ?_ FU s_1 h
    · intro s_2 h
      refine r_iconst g0 dX11_readsKeys_91 ?_
      exact z_Z g dX11_readsKeys_92 B01_1 h
  clear hdjp_1
  refine r_if_eq g0 13 dX11_readsKeys_1 (by decide) (B01.inR i_p1) (fun hc => ?_) (fun hc => ?_)
  · replace h := if_t hc h
    exact hjp_1 s h
  · replace h := if_f hc h
    refine r_aload_n g0 dX11_readsKeys_4 rfl ?_
    refine g_Mo_all g0 ho qX11_7 dX11_readsKeys_5 ?_
    refine r_sipush g0 dX11_readsKeys_8 rfl ?_
    refine r_iconst g0 dX11_readsKeys_11 ?_
    obtain ⟨hb, h⟩ := gd_some h
    refine r_iastore g0 (is_a_Mo_all ho) (n := 145) rfl (InR_lit rfl) hb dX11_readsKeys_12 ?_
    exact hjp_1 (wt s (a_Mo_all o) 139 0) h
theorem dX11_readsEntry_0 : decode cX11_readsEntry 0 = .ok (.aload_n 0, 1) := by decide +kernel
theorem dX11_readsEntry_1 : decode cX11_readsEntry 1 = .ok (.iconst 5, 1) := by decide +kernel
theorem dX11_readsEntry_2 : decode cX11_readsEntry 2 = .ok (.iconst 2, 1) := by decide +kernel
theorem dX11_readsEntry_3 : decode cX11_readsEntry 3 = .ok (.invokevirtual 337, 3) := by decide +kernel
theorem dX11_readsEntry_6 : decode cX11_readsEntry 6 = .ok (.ifCond .ne 5, 3) := by decide +kernel
theorem dX11_readsEntry_9 : decode cX11_readsEntry 9 = .ok (.iconst 0, 1) := by decide +kernel
theorem dX11_readsEntry_10 : decode cX11_readsEntry 10 = .ok (.ireturn, 1) := by decide +kernel
theorem dX11_readsEntry_11 : decode cX11_readsEntry 11 = .ok (.iload_n 1, 1) := by decide +kernel
theorem dX11_readsEntry_12 : decode cX11_readsEntry 12 = .ok (.ifCond .eq 87, 3) := by decide +kernel
theorem dX11_readsEntry_15 : decode cX11_readsEntry 15 = .ok (.aload_n 0, 1) := by decide +kernel
theorem dX11_readsEntry_16 : decode cX11_readsEntry 16 = .ok (.aload_n 0, 1) := by decide +kernel
theorem dX11_readsEntry_17 : decode cX11_readsEntry 17 = .ok (.aload_n 0, 1) := by decide +kernel
theorem dX11_readsEntry_18 : decode cX11_readsEntry 18 = .ok (.getfield 52, 3) := by decide +kernel
theorem dX11_readsEntry_21 : decode cX11_readsEntry 21 = .ok (.iconst 0, 1) := by decide +kernel
theorem dX11_readsEntry_22 : decode cX11_readsEntry 22 = .ok (.iaload, 1) := by decide +kernel
theorem dX11_readsEntry_23 : decode cX11_readsEntry 23 = .ok (.aload_n 0, 1) := by decide +kernel
theorem dX11_readsEntry_24 : decode cX11_readsEntry 24 = .ok (.getfield 52, 3) := by decide +kernel
theorem dX11_readsEntry_27 : decode cX11_readsEntry 27 = .ok (.iconst 1, 1) := by decide +kernel
theorem dX11_readsEntry_28 : decode cX11_readsEntry 28 = .ok (.iaload, 1) := by decide +kernel
theorem dX11_readsEntry_29 : decode cX11_readsEntry 29 = .ok (.aload_n 0, 1) := by decide +kernel
theorem dX11_readsEntry_30 : decode cX11_readsEntry 30 = .ok (.getfield 52, 3) := by decide +kernel
theorem dX11_readsEntry_33 : decode cX11_readsEntry 33 = .ok (.iconst 2, 1) := by decide +kernel
theorem dX11_readsEntry_34 : decode cX11_readsEntry 34 = .ok (.iaload, 1) := by decide +kernel
theorem dX11_readsEntry_35 : decode cX11_readsEntry 35 = .ok (.aload_n 0, 1) := by decide +kernel
theorem dX11_readsEntry_36 : decode cX11_readsEntry 36 = .ok (.getfield 52, 3) := by decide +kernel
theorem dX11_readsEntry_39 : decode cX11_readsEntry 39 = .ok (.iconst 3, 1) := by decide +kernel
theorem dX11_readsEntry_40 : decode cX11_readsEntry 40 = .ok (.iaload, 1) := by decide +kernel
theorem dX11_readsEntry_41 : decode cX11_readsEntry 41 = .ok (.aload_n 0, 1) := by decide +kernel
theorem dX11_readsEntry_42 : decode cX11_readsEntry 42 = .ok (.getfield 52, 3) := by decide +kernel
theorem dX11_readsEntry_45 : decode cX11_readsEntry 45 = .ok (.iconst 4, 1) := by decide +kernel
theorem dX11_readsEntry_46 : decode cX11_readsEntry 46 = .ok (.iaload, 1) := by decide +kernel
theorem dX11_readsEntry_47 : decode cX11_readsEntry 47 = .ok (.invokevirtual 182, 3) := by decide +kernel
theorem dX11_readsEntry_50 : decode cX11_readsEntry 50 = .ok (.putfield 340, 3) := by decide +kernel
theorem dX11_readsEntry_53 : decode cX11_readsEntry 53 = .ok (.aload_n 0, 1) := by decide +kernel
theorem dX11_readsEntry_54 : decode cX11_readsEntry 54 = .ok (.getfield 340, 3) := by decide +kernel
theorem dX11_readsEntry_57 : decode cX11_readsEntry 57 = .ok (.ifCond .ne 40, 3) := by decide +kernel
theorem dX11_readsEntry_60 : decode cX11_readsEntry 60 = .ok (.aload_n 0, 1) := by decide +kernel
theorem dX11_readsEntry_61 : decode cX11_readsEntry 61 = .ok (.aload_n 0, 1) := by decide +kernel
theorem dX11_readsEntry_62 : decode cX11_readsEntry 62 = .ok (.getfield 52, 3) := by decide +kernel
theorem dX11_readsEntry_65 : decode cX11_readsEntry 65 = .ok (.iconst 0, 1) := by decide +kernel
theorem dX11_readsEntry_66 : decode cX11_readsEntry 66 = .ok (.iaload, 1) := by decide +kernel
theorem dX11_readsEntry_67 : decode cX11_readsEntry 67 = .ok (.aload_n 0, 1) := by decide +kernel
theorem dX11_readsEntry_68 : decode cX11_readsEntry 68 = .ok (.getfield 52, 3) := by decide +kernel
theorem dX11_readsEntry_71 : decode cX11_readsEntry 71 = .ok (.iconst 1, 1) := by decide +kernel
theorem dX11_readsEntry_72 : decode cX11_readsEntry 72 = .ok (.iaload, 1) := by decide +kernel
theorem dX11_readsEntry_73 : decode cX11_readsEntry 73 = .ok (.aload_n 0, 1) := by decide +kernel
theorem dX11_readsEntry_74 : decode cX11_readsEntry 74 = .ok (.getfield 52, 3) := by decide +kernel
theorem dX11_readsEntry_77 : decode cX11_readsEntry 77 = .ok (.iconst 2, 1) := by decide +kernel
theorem dX11_readsEntry_78 : decode cX11_readsEntry 78 = .ok (.iaload, 1) := by decide +kernel
theorem dX11_readsEntry_79 : decode cX11_readsEntry 79 = .ok (.aload_n 0, 1) := by decide +kernel
theorem dX11_readsEntry_80 : decode cX11_readsEntry 80 = .ok (.getfield 52, 3) := by decide +kernel
theorem dX11_readsEntry_83 : decode cX11_readsEntry 83 = .ok (.iconst 3, 1) := by decide +kernel
theorem dX11_readsEntry_84 : decode cX11_readsEntry 84 = .ok (.iaload, 1) := by decide +kernel
theorem dX11_readsEntry_85 : decode cX11_readsEntry 85 = .ok (.aload_n 0, 1) := by decide +kernel
theorem dX11_readsEntry_86 : decode cX11_readsEntry 86 = .ok (.getfield 52, 3) := by decide +kernel
theorem dX11_readsEntry_89 : decode cX11_readsEntry 89 = .ok (.iconst 4, 1) := by decide +kernel
theorem dX11_readsEntry_90 : decode cX11_readsEntry 90 = .ok (.iaload, 1) := by decide +kernel
theorem dX11_readsEntry_91 : decode cX11_readsEntry 91 = .ok (.invokevirtual 186, 3) := by decide +kernel
theorem dX11_readsEntry_94 : decode cX11_readsEntry 94 = .ok (.goto 4, 3) := by decide +kernel
theorem dX11_readsEntry_97 : decode cX11_readsEntry 97 = .ok (.iconst 0, 1) := by decide +kernel
theorem dX11_readsEntry_98 : decode cX11_readsEntry 98 = .ok (.istore_n 2, 1) := by decide +kernel
theorem dX11_readsEntry_99 : decode cX11_readsEntry 99 = .ok (.iconst 1, 1) := by decide +kernel
theorem dX11_readsEntry_100 : decode cX11_readsEntry 100 = .ok (.ireturn, 1) := by decide +kernel
set_option maxHeartbeats 4000000 in
set_option maxRecDepth 100000 in
theorem c_X11_readsEntry {E : u_E} {l : Launch} {o : u_O} {p1 : Int} (ho : is_Mo o) (i_p1 : B01 p1) {s s' : u_S} {r : Int} (h : f_X11_readsEntry o p1 s = some (r, s')) : Con l (XE E) yX11_readsEntry cX11_readsEntry 3 (some .boolean) 4 94 0 0 [.ref (E.1 o), .int (J p1)] (Wd E s) (RZ E r s') := by
  refine Con.of [some (.ref (E.1 o)), some (.int (J p1)), none] (by decide +kernel) rfl rfl (Nat.le_of_ble_eq_true rfl) (fun K g => ?_)
  have g0 := g.wk
  unfold f_X11_readsEntry at h
  refine r_aload_n g0 dX11_readsEntry_0 rfl ?_
  refine r_iconst g0 dX11_readsEntry_1 ?_
  refine r_iconst g0 dX11_readsEntry_2 ?_
  obtain ⟨r_1, s_1, hr_1, h⟩ := bd_some h
  refine r_cVZ g0 (rest := []) (c_X11_takesAll ho (InR_lit rfl) (InR_lit rfl) hr_1) ok_X11_takesAll mX11_337 (recv_Mo ho) dX11_readsEntry_3 ⟨Nat.le_of_ble_eq_true rfl, Nat.le_of_ble_eq_true rfl⟩ ⟨Nat.zero_le _, Nat.zero_le _⟩ rfl (Nat.le_of_ble_eq_true rfl) rfl (fun i_r_1 => ?_)
  refine r_if_ne g0 11 dX11_readsEntry_6 (by decide) (B01.inR i_r_1) (fun hc => ?_) (fun hc => ?_)
  · replace h := if_f hc h
    refine r_iload_n g0 dX11_readsEntry_11 rfl ?_
    refine r_if_eq g0 99 dX11_readsEntry_12 (by decide) (B01.inR i_p1) (fun hc => ?_) (fun hc => ?_)
    · replace h := if_t hc h
      refine r_iconst g0 dX11_readsEntry_99 ?_
      exact z_Z g dX11_readsEntry_100 B01_1 h
    · replace h := if_f hc h
      refine r_aload_n g0 dX11_readsEntry_15 rfl ?_
      refine r_aload_n g0 dX11_readsEntry_16 rfl ?_
      refine r_aload_n g0 dX11_readsEntry_17 rfl ?_
      refine g_Mo_numbers g0 ho qX11_52 dX11_readsEntry_18 ?_
      refine r_iconst g0 dX11_readsEntry_21 ?_
      obtain ⟨hb, h⟩ := gd_some h
      refine r_iaload g0 (is_a_Mo_numbers ho) (n := 5) rfl (B01.inR B01_0) hb dX11_readsEntry_22 ?_
      refine r_aload_n g0 dX11_readsEntry_23 rfl ?_
      refine g_Mo_numbers g0 ho qX11_52 dX11_readsEntry_24 ?_
      refine r_iconst g0 dX11_readsEntry_27 ?_
      obtain ⟨hb, h⟩ := gd_some h
      refine r_iaload g0 (is_a_Mo_numbers ho) (n := 5) rfl (B01.inR B01_1) hb dX11_readsEntry_28 ?_
      refine r_aload_n g0 dX11_readsEntry_29 rfl ?_
      refine g_Mo_numbers g0 ho qX11_52 dX11_readsEntry_30 ?_
      refine r_iconst g0 dX11_readsEntry_33 ?_
      obtain ⟨hb, h⟩ := gd_some h
      refine r_iaload g0 (is_a_Mo_numbers ho) (n := 5) rfl (InR_lit rfl) hb dX11_readsEntry_34 ?_
      refine r_aload_n g0 dX11_readsEntry_35 rfl ?_
      refine g_Mo_numbers g0 ho qX11_52 dX11_readsEntry_36 ?_
      refine r_iconst g0 dX11_readsEntry_39 ?_
      obtain ⟨hb, h⟩ := gd_some h
      refine r_iaload g0 (is_a_Mo_numbers ho) (n := 5) rfl (InR_lit rfl) hb dX11_readsEntry_40 ?_
      refine r_aload_n g0 dX11_readsEntry_41 rfl ?_
      refine g_Mo_numbers g0 ho qX11_52 dX11_readsEntry_42 ?_
      refine r_iconst g0 dX11_readsEntry_45 ?_
      obtain ⟨hb, h⟩ := gd_some h
      refine r_iaload g0 (is_a_Mo_numbers ho) (n := 5) rfl (InR_lit rfl) hb dX11_readsEntry_46 ?_
      obtain ⟨r_2, s_2, hr_2, h⟩ := bd_some h
      refine r_cVI g0 (rest := [.ref (E.1 o)]) (c_X11_canEnter ho (InR_rd _ _ _) (InR_rd _ _ _) (InR_rd _ _ _) (InR_rd _ _ _) (InR_rd _ _ _) hr_2) ok_X11_canEnter mX11_182 (recv_Mo ho) dX11_readsEntry_47 ⟨Nat.le_of_ble_eq_true rfl, Nat.le_of_ble_eq_true rfl⟩ ⟨Nat.zero_le _, Nat.zero_le _⟩ rfl (Nat.le_of_ble_eq_true rfl) rfl (fun i_r_2 => ?_)
      refine p_Mo_not g0 ho qX11_340 dX11_readsEntry_50 ?_
      refine r_aload_n g0 dX11_readsEntry_53 rfl ?_
      refine g_Mo_not g0 ho qX11_340 dX11_readsEntry_54 ?_
      obtain ⟨jp_1, hdjp_1, h⟩ := jn_some h
      have hjp_1 : ∀ (vt_1 : Int) (s_3 : u_S), InR vt_1 → jp_1 vt_1 s_3 = some (r, s') → K 0 0 98 [none, none, none] [.int (J vt_1)] (Wd E s_3) := by
        intro vt_1 s_3 i_vt_1 h
        subst hdjp_1
        refine r_istore_n g0 (lv' := [none, none, some (.int (J vt_1))]) dX11_readsEntry_98 (by decide) rfl rfl ?_
        refine r_iconst g0 dX11_readsEntry_99 ?_
        exact z_Z g dX11_readsEntry_100 B01_1 h
      clear hdjp_1
      refine r_if_ne g0 97 dX11_readsEntry_57 (by decide) (InR_rd _ _ _) (fun hc => ?_) (fun hc => ?_)
      · replace h := if_f hc h
        refine r_iconst g0 dX11_readsEntry_97 ?_
        refine r_mask g0 (lv' := [none, none, none]) [false, false, false] rfl ?_
        exact hjp_1 0 (wt s_2 o 19 r_2) (B01.inR B01_0) h
      · replace h := if_t hc h
        refine r_aload_n g0 dX11_readsEntry_60 rfl ?_
        refine r_aload_n g0 dX11_readsEntry_61 rfl ?_
        refine g_Mo_numbers g0 ho qX11_52 dX11_readsEntry_62 ?_
        refine r_iconst g0 dX11_readsEntry_65 ?_
        obtain ⟨hb, h⟩ := gd_some h
        refine r_iaload g0 (is_a_Mo_numbers ho) (n := 5) rfl (B01.inR B01_0) hb dX11_readsEntry_66 ?_
        refine r_aload_n g0 dX11_readsEntry_67 rfl ?_
        refine g_Mo_numbers g0 ho qX11_52 dX11_readsEntry_68 ?_
        refine r_iconst g0 dX11_readsEntry_71 ?_
        obtain ⟨hb, h⟩ := gd_some h
        refine r_iaload g0 (is_a_Mo_numbers ho) (n := 5) rfl (B01.inR B01_1) hb dX11_readsEntry_72 ?_
        refine r_aload_n g0 dX11_readsEntry_73 rfl ?_
        refine g_Mo_numbers g0 ho qX11_52 dX11_readsEntry_74 ?_
        refine r_iconst g0 dX11_readsEntry_77 ?_
        obtain ⟨hb, h⟩ := gd_some h
        refine r_iaload g0 (is_a_Mo_numbers ho) (n := 5) rfl (InR_lit rfl) hb dX11_readsEntry_78 ?_
        refine r_aload_n g0 dX11_readsEntry_79 rfl ?_
        refine g_Mo_numbers g0 ho qX11_52 dX11_readsEntry_80 ?_
        refine r_iconst g0 dX11_readsEntry_83 ?_
        obtain ⟨hb, h⟩ := gd_some h
        refine r_iaload g0 (is_a_Mo_numbers ho) (n := 5) rfl (InR_lit rfl) hb dX11_readsEntry_84 ?_
        refine r_aload_n g0 dX11_readsEntry_85 rfl ?_
        refine g_Mo_numbers g0 ho qX11_52 dX11_readsEntry_86 ?_
        refine r_iconst g0 dX11_readsEntry_89 ?_
        obtain ⟨hb, h⟩ := gd_some h
        refine r_iaload g0 (is_a_Mo_numbers ho) (n := 5) rfl (InR_lit rfl) hb dX11_readsEntry_90 ?_
        obtain ⟨r_3, s_4, hr_3, h⟩ := bd_some h
        refine r_cVI g0 (rest := []) (c_X11_enterNow ho (InR_rd _ _ _) (InR_rd _ _ _) (InR_rd _ _ _) (InR_rd _ _ _) (InR_rd _ _ _) hr_3) ok_X11_enterNow mX11_186 (recv_Mo ho) dX11_readsEntry_91 ⟨Nat.le_of_ble_eq_true rfl, Nat.le_of_ble_eq_true rfl⟩ ⟨Nat.zero_le _, Nat.zero_le _⟩ rfl (Nat.le_of_ble_eq_true rfl) rfl (fun i_r_3 => ?_)
        refine r_goto g0 98 dX11_readsEntry_94 (by decide) ?_
        refine r_mask g0 (lv' := [none, none, none]) [false, false, false] rfl ?_
        exact hjp_1 r_3 s_4 i_r_3 h
  · replace h := if_t hc h
    refine r_iconst g0 dX11_readsEntry_9 ?_
    exact z_Z g dX11_readsEntry_10 B01_0 h
theorem dX11_readsSetting_0 : decode cX11_readsSetting 0 = .ok (.aload_n 0, 1) := by decide +kernel
theorem dX11_readsSetting_1 : decode cX11_readsSetting 1 = .ok (.iconst 1, 1) := by decide +kernel
theorem dX11_readsSetting_2 : decode cX11_readsSetting 2 = .ok (.iconst (-1), 1) := by decide +kernel
theorem dX11_readsSetting_3 : decode cX11_readsSetting 3 = .ok (.invokevirtual 337, 3) := by decide +kernel
theorem dX11_readsSetting_6 : decode cX11_readsSetting 6 = .ok (.ifCond .ne 5, 3) := by decide +kernel
theorem dX11_readsSetting_9 : decode cX11_readsSetting 9 = .ok (.iconst 0, 1) := by decide +kernel
theorem dX11_readsSetting_10 : decode cX11_readsSetting 10 = .ok (.ireturn, 1) := by decide +kernel
theorem dX11_readsSetting_11 : decode cX11_readsSetting 11 = .ok (.iload_n 1, 1) := by decide +kernel
theorem dX11_readsSetting_12 : decode cX11_readsSetting 12 = .ok (.bipush 104, 2) := by decide +kernel
theorem dX11_readsSetting_14 : decode cX11_readsSetting 14 = .ok (.if_icmp .ne 7, 3) := by decide +kernel
theorem dX11_readsSetting_17 : decode cX11_readsSetting 17 = .ok (.iconst 0, 1) := by decide +kernel
theorem dX11_readsSetting_18 : decode cX11_readsSetting 18 = .ok (.goto 14, 3) := by decide +kernel
theorem dX11_readsSetting_21 : decode cX11_readsSetting 21 = .ok (.iload_n 1, 1) := by decide +kernel
theorem dX11_readsSetting_22 : decode cX11_readsSetting 22 = .ok (.bipush 116, 2) := by decide +kernel
theorem dX11_readsSetting_24 : decode cX11_readsSetting 24 = .ok (.if_icmp .ne 7, 3) := by decide +kernel
theorem dX11_readsSetting_27 : decode cX11_readsSetting 27 = .ok (.iconst 1, 1) := by decide +kernel
theorem dX11_readsSetting_28 : decode cX11_readsSetting 28 = .ok (.goto 4, 3) := by decide +kernel
theorem dX11_readsSetting_31 : decode cX11_readsSetting 31 = .ok (.iconst 2, 1) := by decide +kernel
theorem dX11_readsSetting_32 : decode cX11_readsSetting 32 = .ok (.istore_n 3, 1) := by decide +kernel
theorem dX11_readsSetting_33 : decode cX11_readsSetting 33 = .ok (.iload_n 2, 1) := by decide +kernel
theorem dX11_readsSetting_34 : decode cX11_readsSetting 34 = .ok (.ifCond .eq 50, 3) := by decide +kernel
theorem dX11_readsSetting_37 : decode cX11_readsSetting 37 = .ok (.aload_n 0, 1) := by decide +kernel
theorem dX11_readsSetting_38 : decode cX11_readsSetting 38 = .ok (.iload_n 3, 1) := by decide +kernel
theorem dX11_readsSetting_39 : decode cX11_readsSetting 39 = .ok (.aload_n 0, 1) := by decide +kernel
theorem dX11_readsSetting_40 : decode cX11_readsSetting 40 = .ok (.getfield 52, 3) := by decide +kernel
theorem dX11_readsSetting_43 : decode cX11_readsSetting 43 = .ok (.iconst 0, 1) := by decide +kernel
theorem dX11_readsSetting_44 : decode cX11_readsSetting 44 = .ok (.iaload, 1) := by decide +kernel
theorem dX11_readsSetting_45 : decode cX11_readsSetting 45 = .ok (.invokestatic 137, 3) := by decide +kernel
theorem dX11_readsSetting_48 : decode cX11_readsSetting 48 = .ok (.ifCond .eq 7, 3) := by decide +kernel
theorem dX11_readsSetting_51 : decode cX11_readsSetting 51 = .ok (.iconst 0, 1) := by decide +kernel
theorem dX11_readsSetting_52 : decode cX11_readsSetting 52 = .ok (.goto 5, 3) := by decide +kernel
theorem dX11_readsSetting_55 : decode cX11_readsSetting 55 = .ok (.bipush (-2), 2) := by decide +kernel
theorem dX11_readsSetting_57 : decode cX11_readsSetting 57 = .ok (.putfield 340, 3) := by decide +kernel
theorem dX11_readsSetting_60 : decode cX11_readsSetting 60 = .ok (.aload_n 0, 1) := by decide +kernel
theorem dX11_readsSetting_61 : decode cX11_readsSetting 61 = .ok (.getfield 340, 3) := by decide +kernel
theorem dX11_readsSetting_64 : decode cX11_readsSetting 64 = .ok (.ifCond .ne 17, 3) := by decide +kernel
theorem dX11_readsSetting_67 : decode cX11_readsSetting 67 = .ok (.aload_n 0, 1) := by decide +kernel
theorem dX11_readsSetting_68 : decode cX11_readsSetting 68 = .ok (.iload_n 3, 1) := by decide +kernel
theorem dX11_readsSetting_69 : decode cX11_readsSetting 69 = .ok (.aload_n 0, 1) := by decide +kernel
theorem dX11_readsSetting_70 : decode cX11_readsSetting 70 = .ok (.getfield 52, 3) := by decide +kernel
theorem dX11_readsSetting_73 : decode cX11_readsSetting 73 = .ok (.iconst 0, 1) := by decide +kernel
theorem dX11_readsSetting_74 : decode cX11_readsSetting 74 = .ok (.iaload, 1) := by decide +kernel
theorem dX11_readsSetting_75 : decode cX11_readsSetting 75 = .ok (.invokevirtual 141, 3) := by decide +kernel
theorem dX11_readsSetting_78 : decode cX11_readsSetting 78 = .ok (.goto 4, 3) := by decide +kernel
theorem dX11_readsSetting_81 : decode cX11_readsSetting 81 = .ok (.iconst 0, 1) := by decide +kernel
theorem dX11_readsSetting_82 : decode cX11_readsSetting 82 = .ok (.istore 4, 2) := by decide +kernel
theorem dX11_readsSetting_84 : decode cX11_readsSetting 84 = .ok (.iconst 1, 1) := by decide +kernel
theorem dX11_readsSetting_85 : decode cX11_readsSetting 85 = .ok (.ireturn, 1) := by decide +kernel
set_option maxHeartbeats 4000000 in
set_option maxRecDepth 100000 in
theorem c_X11_readsSetting {E : u_E} {l : Launch} {o : u_O} {p1 : Int} {p2 : Int} (ho : is_Mo o) (i_p1 : InR p1) (i_p2 : B01 p2) {s s' : u_S} {r : Int} (h : f_X11_readsSetting o p1 p2 s = some (r, s')) : Con l (XE E) yX11_readsSetting cX11_readsSetting 5 (some .boolean) 4 94 0 0 [.ref (E.1 o), .int (J p1), .int (J p2)] (Wd E s) (RZ E r s') := by
  refine Con.of [some (.ref (E.1 o)), some (.int (J p1)), some (.int (J p2)), none, none] (by decide +kernel) rfl rfl (Nat.le_of_ble_eq_true rfl) (fun K g => ?_)
  have g0 := g.wk
  unfold f_X11_readsSetting at h
  refine r_aload_n g0 dX11_readsSetting_0 rfl ?_
  refine r_iconst g0 dX11_readsSetting_1 ?_
  refine r_iconst g0 dX11_readsSetting_2 ?_
  obtain ⟨r_1, s_1, hr_1, h⟩ := bd_some h
  refine r_cVZ g0 (rest := []) (c_X11_takesAll ho (B01.inR B01_1) (InR_lit rfl) hr_1) ok_X11_takesAll mX11_337 (recv_Mo ho) dX11_readsSetting_3 ⟨Nat.le_of_ble_eq_true rfl, Nat.le_of_ble_eq_true rfl⟩ ⟨Nat.zero_le _, Nat.zero_le _⟩ rfl (Nat.le_of_ble_eq_true rfl) rfl (fun i_r_1 => ?_)
  refine r_if_ne g0 11 dX11_readsSetting_6 (by decide) (B01.inR i_r_1) (fun hc => ?_) (fun hc => ?_)
  · replace h := if_f hc h
    refine r_iload_n g0 dX11_readsSetting_11 rfl ?_
    refine r_bipush g0 dX11_readsSetting_12 rfl ?_
    obtain ⟨jp_1, hdjp_1, h⟩ := jn_some h
    have hjp_1 : ∀ (vt_1 : Int) (s_2 : u_S), InR vt_1 → jp_1 vt_1 s_2 = some (r, s') → K 0 0 32 [some (.ref (E.1 o)), none, some (.int (J p2)), none, none] [.int (J vt_1)] (Wd E s_2) := by
      intro vt_1 s_2 i_vt_1 h
      subst hdjp_1
      refine r_istore_n g0 (lv' := [some (.ref (E.1 o)), none, some (.int (J p2)), some (.int (J vt_1)), none]) dX11_readsSetting_32 (by decide) rfl rfl ?_
      refine r_iload_n g0 dX11_readsSetting_33 rfl ?_
      refine r_if_eq g0 84 dX11_readsSetting_34 (by decide) (B01.inR i_p2) (fun hc => ?_) (fun hc => ?_)
      · replace h := if_t hc h
        refine r_iconst g0 dX11_readsSetting_84 ?_
        exact z_Z g dX11_readsSetting_85 B01_1 h
      · replace h := if_f hc h
        refine r_aload_n g0 dX11_readsSetting_37 rfl ?_
        refine r_iload_n g0 dX11_readsSetting_38 rfl ?_
        refine r_aload_n g0 dX11_readsSetting_39 rfl ?_
        refine g_Mo_numbers g0 ho qX11_52 dX11_readsSetting_40 ?_
        refine r_iconst g0 dX11_readsSetting_43 ?_
        obtain ⟨hb, h⟩ := gd_some h
        refine r_iaload g0 (is_a_Mo_numbers ho) (n := 5) rfl (B01.inR B01_0) hb dX11_readsSetting_44 ?_
        obtain ⟨r_2, s_3, hr_2, h⟩ := bd_some h
        refine r_cSZ g0 (rest := [.ref (E.1 o)]) (c_X11_isSetting i_vt_1 (InR_rd _ _ _) hr_2) ok_X11_isSetting mX11_137 dX11_readsSetting_45 ⟨Nat.le_of_ble_eq_true rfl, Nat.le_of_ble_eq_true rfl⟩ ⟨Nat.zero_le _, Nat.zero_le _⟩ rfl (Nat.le_of_ble_eq_true rfl) rfl (fun i_r_2 => ?_)
        obtain ⟨jp_2, hdjp_2, h⟩ := jn_some h
        have hjp_2 : ∀ (vt_2 : u_O) (vt_3 : Int) (s_4 : u_S), is_Mo vt_2 → InR vt_3 → jp_2 vt_2 vt_3 s_4 = some (r, s') → K 0 0 57 [some (.ref (E.1 o)), none, none, some (.int (J vt_1)), none] [.int (J vt_3), .ref (E.1 vt_2)] (Wd E s_4) := by
          intro vt_2 vt_3 s_4 i_vt_2 i_vt_3 h
          subst hdjp_2
          refine p_Mo_not g0 i_vt_2 qX11_340 dX11_readsSetting_57 ?_
          refine r_aload_n g0 dX11_readsSetting_60 rfl ?_
          refine g_Mo_not g0 ho qX11_340 dX11_readsSetting_61 ?_
          obtain ⟨jp_3, hdjp_3, h⟩ := jn_some h
          have hjp_3 : ∀ (vt_4 : Int) (s_5 : u_S), InR vt_4 → jp_3 vt_4 s_5 = some (r, s') → K 0 0 82 [none, none, none, none, none] [.int (J vt_4)] (Wd E s_5) := by
            intro vt_4 s_5 i_vt_4 h
            subst hdjp_3
            refine r_istore g0 (lv' := [none, none, none, none, some (.int (J vt_4))]) dX11_readsSetting_82 (by decide) rfl rfl ?_
            refine r_iconst g0 dX11_readsSetting_84 ?_
            exact z_Z g dX11_readsSetting_85 B01_1 h
          clear hdjp_3
          refine r_if_ne g0 81 dX11_readsSetting_64 (by decide) (InR_rd _ _ _) (fun hc => ?_) (fun hc => ?_)
          · replace h := if_f hc h
            refine r_iconst g0 dX11_readsSetting_81 ?_
            refine r_mask g0 (lv' := [none, none, none, none, none]) [false, false, false, false, false] rfl ?_
            exact hjp_3 0 (wt s_4 vt_2 19 vt_3) (B01.inR B01_0) h
          · replace h := if_t hc h
            refine r_aload_n g0 dX11_readsSetting_67 rfl ?_
            refine r_iload_n g0 dX11_readsSetting_68 rfl ?_
            refine r_aload_n g0 dX11_readsSetting_69 rfl ?_
            refine g_Mo_numbers g0 ho qX11_52 dX11_readsSetting_70 ?_
            refine r_iconst g0 dX11_readsSetting_73 ?_
            obtain ⟨hb, h⟩ := gd_some h
            refine r_iaload g0 (is_a_Mo_numbers ho) (n := 5) rfl (B01.inR B01_0) hb dX11_readsSetting_74 ?_
            obtain ⟨r_3, s_6, hr_3, h⟩ := bd_some h
            refine r_cVI g0 (rest := []) (c_X11_setNow ho i_vt_1 (InR_rd _ _ _) hr_3) ok_X11_setNow mX11_141 (recv_Mo ho) dX11_readsSetting_75 ⟨Nat.le_of_ble_eq_true rfl, Nat.le_of_ble_eq_true rfl⟩ ⟨Nat.zero_le _, Nat.zero_le _⟩ rfl (Nat.le_of_ble_eq_true rfl) rfl (fun i_r_3 => ?_)
            refine r_goto g0 82 dX11_readsSetting_78 (by decide) ?_
            refine r_mask g0 (lv' := [none, none, none, none, none]) [false, false, false, false, false] rfl ?_
            exact hjp_3 r_3 s_6 i_r_3 h
        clear hdjp_2
        refine r_if_eq g0 55 dX11_readsSetting_48 (by decide) (B01.inR i_r_2) (fun hc => ?_) (fun hc => ?_)
        · replace h := if_t hc h
          refine r_bipush g0 dX11_readsSetting_55 rfl ?_
          refine r_mask g0 (lv' := [some (.ref (E.1 o)), none, none, some (.int (J vt_1)), none]) [true, false, false, true, false] rfl ?_
          exact hjp_2 o (-2) s_3 ho (InR_lit rfl) h
        · replace h := if_f hc h
          refine r_iconst g0 dX11_readsSetting_51 ?_
          refine r_goto g0 57 dX11_readsSetting_52 (by decide) ?_
          refine r_mask g0 (lv' := [some (.ref (E.1 o)), none, none, some (.int (J vt_1)), none]) [true, false, false, true, false] rfl ?_
          exact hjp_2 o 0 s_3 ho (B01.inR B01_0) h
    clear hdjp_1
    refine r_icmp_ne g0 21 dX11_readsSetting_14 (by decide) i_p1 (InR_lit rfl) (fun hc => ?_) (fun hc => ?_)
    · replace h := if_f hc h
      refine r_iload_n g0 dX11_readsSetting_21 rfl ?_
      refine r_bipush g0 dX11_readsSetting_22 rfl ?_
      refine r_icmp_ne g0 31 dX11_readsSetting_24 (by decide) i_p1 (InR_lit rfl) (fun hc => ?_) (fun hc => ?_)
      · replace h := if_f hc h
        refine r_iconst g0 dX11_readsSetting_31 ?_
        refine r_mask g0 (lv' := [some (.ref (E.1 o)), none, some (.int (J p2)), none, none]) [true, false, true, false, false] rfl ?_
        exact hjp_1 2 s_1 (InR_lit rfl) h
      · replace h := if_t hc h
        refine r_iconst g0 dX11_readsSetting_27 ?_
        refine r_goto g0 32 dX11_readsSetting_28 (by decide) ?_
        refine r_mask g0 (lv' := [some (.ref (E.1 o)), none, some (.int (J p2)), none, none]) [true, false, true, false, false] rfl ?_
        exact hjp_1 1 s_1 (B01.inR B01_1) h
    · replace h := if_t hc h
      refine r_iconst g0 dX11_readsSetting_17 ?_
      refine r_goto g0 32 dX11_readsSetting_18 (by decide) ?_
      refine r_mask g0 (lv' := [some (.ref (E.1 o)), none, some (.int (J p2)), none, none]) [true, false, true, false, false] rfl ?_
      exact hjp_1 0 s_1 (B01.inR B01_0) h
  · replace h := if_t hc h
    refine r_iconst g0 dX11_readsSetting_9 ?_
    exact z_Z g dX11_readsSetting_10 B01_0 h
theorem dX11_readsOrder_0 : decode cX11_readsOrder 0 = .ok (.aload_n 0, 1) := by decide +kernel
theorem dX11_readsOrder_1 : decode cX11_readsOrder 1 = .ok (.invokevirtual 324, 3) := by decide +kernel
theorem dX11_readsOrder_4 : decode cX11_readsOrder 4 = .ok (.istore_n 2, 1) := by decide +kernel
theorem dX11_readsOrder_5 : decode cX11_readsOrder 5 = .ok (.iload_n 2, 1) := by decide +kernel
theorem dX11_readsOrder_6 : decode cX11_readsOrder 6 = .ok (.bipush 108, 2) := by decide +kernel
theorem dX11_readsOrder_8 : decode cX11_readsOrder 8 = .ok (.if_icmp .eq 35, 3) := by decide +kernel
theorem dX11_readsOrder_11 : decode cX11_readsOrder 11 = .ok (.iload_n 2, 1) := by decide +kernel
theorem dX11_readsOrder_12 : decode cX11_readsOrder 12 = .ok (.bipush 101, 2) := by decide +kernel
theorem dX11_readsOrder_14 : decode cX11_readsOrder 14 = .ok (.if_icmp .eq 29, 3) := by decide +kernel
theorem dX11_readsOrder_17 : decode cX11_readsOrder 17 = .ok (.iload_n 2, 1) := by decide +kernel
theorem dX11_readsOrder_18 : decode cX11_readsOrder 18 = .ok (.bipush 104, 2) := by decide +kernel
theorem dX11_readsOrder_20 : decode cX11_readsOrder 20 = .ok (.if_icmp .eq 23, 3) := by decide +kernel
theorem dX11_readsOrder_23 : decode cX11_readsOrder 23 = .ok (.iload_n 2, 1) := by decide +kernel
theorem dX11_readsOrder_24 : decode cX11_readsOrder 24 = .ok (.bipush 116, 2) := by decide +kernel
theorem dX11_readsOrder_26 : decode cX11_readsOrder 26 = .ok (.if_icmp .eq 17, 3) := by decide +kernel
theorem dX11_readsOrder_29 : decode cX11_readsOrder 29 = .ok (.iload_n 2, 1) := by decide +kernel
theorem dX11_readsOrder_30 : decode cX11_readsOrder 30 = .ok (.bipush 109, 2) := by decide +kernel
theorem dX11_readsOrder_32 : decode cX11_readsOrder 32 = .ok (.if_icmp .eq 11, 3) := by decide +kernel
theorem dX11_readsOrder_35 : decode cX11_readsOrder 35 = .ok (.iload_n 2, 1) := by decide +kernel
theorem dX11_readsOrder_36 : decode cX11_readsOrder 36 = .ok (.bipush 107, 2) := by decide +kernel
theorem dX11_readsOrder_38 : decode cX11_readsOrder 38 = .ok (.if_icmp .eq 5, 3) := by decide +kernel
theorem dX11_readsOrder_41 : decode cX11_readsOrder 41 = .ok (.iconst 0, 1) := by decide +kernel
theorem dX11_readsOrder_42 : decode cX11_readsOrder 42 = .ok (.ireturn, 1) := by decide +kernel
theorem dX11_readsOrder_43 : decode cX11_readsOrder 43 = .ok (.aload_n 0, 1) := by decide +kernel
theorem dX11_readsOrder_44 : decode cX11_readsOrder 44 = .ok (.dup, 1) := by decide +kernel
theorem dX11_readsOrder_45 : decode cX11_readsOrder 45 = .ok (.getfield 317, 3) := by decide +kernel
theorem dX11_readsOrder_48 : decode cX11_readsOrder 48 = .ok (.iconst 1, 1) := by decide +kernel
theorem dX11_readsOrder_49 : decode cX11_readsOrder 49 = .ok (.iadd, 1) := by decide +kernel
theorem dX11_readsOrder_50 : decode cX11_readsOrder 50 = .ok (.putfield 317, 3) := by decide +kernel
theorem dX11_readsOrder_53 : decode cX11_readsOrder 53 = .ok (.iload_n 2, 1) := by decide +kernel
theorem dX11_readsOrder_54 : decode cX11_readsOrder 54 = .ok (.bipush 108, 2) := by decide +kernel
theorem dX11_readsOrder_56 : decode cX11_readsOrder 56 = .ok (.if_icmp .ne 11, 3) := by decide +kernel
theorem dX11_readsOrder_59 : decode cX11_readsOrder 59 = .ok (.aload_n 0, 1) := by decide +kernel
theorem dX11_readsOrder_60 : decode cX11_readsOrder 60 = .ok (.iload_n 1, 1) := by decide +kernel
theorem dX11_readsOrder_61 : decode cX11_readsOrder 61 = .ok (.invokevirtual 347, 3) := by decide +kernel
theorem dX11_readsOrder_64 : decode cX11_readsOrder 64 = .ok (.goto 37, 3) := by decide +kernel
theorem dX11_readsOrder_67 : decode cX11_readsOrder 67 = .ok (.iload_n 2, 1) := by decide +kernel
theorem dX11_readsOrder_68 : decode cX11_readsOrder 68 = .ok (.bipush 101, 2) := by decide +kernel
theorem dX11_readsOrder_70 : decode cX11_readsOrder 70 = .ok (.if_icmp .ne 11, 3) := by decide +kernel
theorem dX11_readsOrder_73 : decode cX11_readsOrder 73 = .ok (.aload_n 0, 1) := by decide +kernel
theorem dX11_readsOrder_74 : decode cX11_readsOrder 74 = .ok (.iload_n 1, 1) := by decide +kernel
theorem dX11_readsOrder_75 : decode cX11_readsOrder 75 = .ok (.invokevirtual 350, 3) := by decide +kernel
theorem dX11_readsOrder_78 : decode cX11_readsOrder 78 = .ok (.goto 23, 3) := by decide +kernel
theorem dX11_readsOrder_81 : decode cX11_readsOrder 81 = .ok (.iload_n 2, 1) := by decide +kernel
theorem dX11_readsOrder_82 : decode cX11_readsOrder 82 = .ok (.bipush 107, 2) := by decide +kernel
theorem dX11_readsOrder_84 : decode cX11_readsOrder 84 = .ok (.if_icmp .ne 11, 3) := by decide +kernel
theorem dX11_readsOrder_87 : decode cX11_readsOrder 87 = .ok (.aload_n 0, 1) := by decide +kernel
theorem dX11_readsOrder_88 : decode cX11_readsOrder 88 = .ok (.iload_n 1, 1) := by decide +kernel
theorem dX11_readsOrder_89 : decode cX11_readsOrder 89 = .ok (.invokevirtual 353, 3) := by decide +kernel
theorem dX11_readsOrder_92 : decode cX11_readsOrder 92 = .ok (.goto 9, 3) := by decide +kernel
theorem dX11_readsOrder_95 : decode cX11_readsOrder 95 = .ok (.aload_n 0, 1) := by decide +kernel
theorem dX11_readsOrder_96 : decode cX11_readsOrder 96 = .ok (.iload_n 2, 1) := by decide +kernel
theorem dX11_readsOrder_97 : decode cX11_readsOrder 97 = .ok (.iload_n 1, 1) := by decide +kernel
theorem dX11_readsOrder_98 : decode cX11_readsOrder 98 = .ok (.invokevirtual 356, 3) := by decide +kernel
theorem dX11_readsOrder_101 : decode cX11_readsOrder 101 = .ok (.istore_n 3, 1) := by decide +kernel
theorem dX11_readsOrder_102 : decode cX11_readsOrder 102 = .ok (.iload_n 3, 1) := by decide +kernel
theorem dX11_readsOrder_103 : decode cX11_readsOrder 103 = .ok (.ifCond .eq 12, 3) := by decide +kernel
theorem dX11_readsOrder_106 : decode cX11_readsOrder 106 = .ok (.aload_n 0, 1) := by decide +kernel
theorem dX11_readsOrder_107 : decode cX11_readsOrder 107 = .ok (.invokevirtual 324, 3) := by decide +kernel
theorem dX11_readsOrder_110 : decode cX11_readsOrder 110 = .ok (.bipush 59, 2) := by decide +kernel
theorem dX11_readsOrder_112 : decode cX11_readsOrder 112 = .ok (.if_icmp .eq 5, 3) := by decide +kernel
theorem dX11_readsOrder_115 : decode cX11_readsOrder 115 = .ok (.iconst 0, 1) := by decide +kernel
theorem dX11_readsOrder_116 : decode cX11_readsOrder 116 = .ok (.ireturn, 1) := by decide +kernel
theorem dX11_readsOrder_117 : decode cX11_readsOrder 117 = .ok (.aload_n 0, 1) := by decide +kernel
theorem dX11_readsOrder_118 : decode cX11_readsOrder 118 = .ok (.dup, 1) := by decide +kernel
theorem dX11_readsOrder_119 : decode cX11_readsOrder 119 = .ok (.getfield 317, 3) := by decide +kernel
theorem dX11_readsOrder_122 : decode cX11_readsOrder 122 = .ok (.iconst 1, 1) := by decide +kernel
theorem dX11_readsOrder_123 : decode cX11_readsOrder 123 = .ok (.iadd, 1) := by decide +kernel
theorem dX11_readsOrder_124 : decode cX11_readsOrder 124 = .ok (.putfield 317, 3) := by decide +kernel
theorem dX11_readsOrder_127 : decode cX11_readsOrder 127 = .ok (.iconst 1, 1) := by decide +kernel
theorem dX11_readsOrder_128 : decode cX11_readsOrder 128 = .ok (.ireturn, 1) := by decide +kernel
set_option maxHeartbeats 4000000 in
set_option maxRecDepth 100000 in
theorem c_X11_readsOrder {E : u_E} {l : Launch} {o : u_O} {p1 : Int} (ho : is_Mo o) (i_p1 : B01 p1) {s s' : u_S} {r : Int} (h : f_X11_readsOrder o p1 s = some (r, s')) : Con l (XE E) yX11_readsOrder cX11_readsOrder 4 (some .boolean) 6 141 0 0 [.ref (E.1 o), .int (J p1)] (Wd E s) (RZ E r s') := by
  refine Con.of [some (.ref (E.1 o)), some (.int (J p1)), none, none] (by decide +kernel) rfl rfl (Nat.le_of_ble_eq_true rfl) (fun K g => ?_)
  have g0 := g.wk
  unfold f_X11_readsOrder at h
  refine r_aload_n g0 dX11_readsOrder_0 rfl ?_
  obtain ⟨r_1, s_1, hr_1, h⟩ := bd_some h
  refine r_cVI g0 (rest := []) (c_X11_here ho hr_1) ok_X11_here mX11_324 (recv_Mo ho) dX11_readsOrder_1 ⟨Nat.le_of_ble_eq_true rfl, Nat.le_of_ble_eq_true rfl⟩ ⟨Nat.zero_le _, Nat.zero_le _⟩ rfl (Nat.le_of_ble_eq_true rfl) rfl (fun i_r_1 => ?_)
  refine r_istore_n g0 (lv' := [some (.ref (E.1 o)), some (.int (J p1)), some (.int (J r_1)), none]) dX11_readsOrder_4 (by decide) rfl rfl ?_
  refine r_iload_n g0 dX11_readsOrder_5 rfl ?_
  refine r_bipush g0 dX11_readsOrder_6 rfl ?_
  obtain ⟨jp_1, hdjp_1, h⟩ := jn_some h
  have hjp_1 : ∀  (s_2 : u_S), jp_1 s_2 = some (r, s') → K 0 0 43 [some (.ref (E.1 o)), some (.int (J p1)), some (.int (J r_1)), none] [] (Wd E s_2) := by
    intro s_2 h
    subst hdjp_1
    refine r_aload_n g0 dX11_readsOrder_43 rfl ?_
    refine r_dup g0 dX11_readsOrder_44 rfl ?_
    refine g_Mo_place g0 ho qX11_317 dX11_readsOrder_45 ?_
    refine r_iconst g0 dX11_readsOrder_48 ?_
    refine r_iadd g0 dX11_readsOrder_49 ?_
    refine p_Mo_place g0 ho qX11_317 dX11_readsOrder_50 ?_
    refine r_iload_n g0 dX11_readsOrder_53 rfl ?_
    refine r_bipush g0 dX11_readsOrder_54 rfl ?_
    obtain ⟨jp_2, hdjp_2, h⟩ := jn_some h
    have hjp_2 : ∀ (vt_1 : Int) (s_3 : u_S), B01 vt_1 → jp_2 vt_1 s_3 = some (r, s') → K 0 0 101 [some (.ref (E.1 o)), none, none, none] [.int (J vt_1)] (Wd E s_3) := by
      intro vt_1 s_3 i_vt_1 h
      subst hdjp_2
      refine r_istore_n g0 (lv' := [some (.ref (E.1 o)), none, none, some (.int (J vt_1))]) dX11_readsOrder_101 (by decide) rfl rfl ?_
      refine r_iload_n g0 dX11_readsOrder_102 rfl ?_
      refine r_if_eq g0 115 dX11_readsOrder_103 (by decide) (B01.inR i_vt_1) (fun hc => ?_) (fun hc => ?_)
      · replace h := if_t hc h
        refine r_iconst g0 dX11_readsOrder_115 ?_
        exact z_Z g dX11_readsOrder_116 B01_0 h
      · replace h := if_f hc h
        refine r_aload_n g0 dX11_readsOrder_106 rfl ?_
        obtain ⟨r_2, s_4, hr_2, h⟩ := bd_some h
        refine r_cVI g0 (rest := []) (c_X11_here ho hr_2) ok_X11_here mX11_324 (recv_Mo ho) dX11_readsOrder_107 ⟨Nat.le_of_ble_eq_true rfl, Nat.le_of_ble_eq_true rfl⟩ ⟨Nat.zero_le _, Nat.zero_le _⟩ rfl (Nat.le_of_ble_eq_true rfl) rfl (fun i_r_2 => ?_)
        refine r_bipush g0 dX11_readsOrder_110 rfl ?_
        refine r_icmp_eq g0 117 dX11_readsOrder_112 (by decide) i_r_2 (InR_lit rfl) (fun hc => ?_) (fun hc => ?_)
        · replace h := if_t hc h
          refine r_aload_n g0 dX11_readsOrder_117 rfl ?_
          refine r_dup g0 dX11_readsOrder_118 rfl ?_
          refine g_Mo_place g0 ho qX11_317 dX11_readsOrder_119 ?_
          refine r_iconst g0 dX11_readsOrder_122 ?_
          refine r_iadd g0 dX11_readsOrder_123 ?_
          refine p_Mo_place g0 ho qX11_317 dX11_readsOrder_124 ?_
          refine r_iconst g0 dX11_readsOrder_127 ?_
          exact z_Z g dX11_readsOrder_128 B01_1 h
        · replace h := if_f hc h
          refine r_iconst g0 dX11_readsOrder_115 ?_
          exact z_Z g dX11_readsOrder_116 B01_0 h
    clear hdjp_2
    refine r_icmp_ne g0 67 dX11_readsOrder_56 (by decide) i_r_1 (InR_lit rfl) (fun hc => ?_) (fun hc => ?_)
    · replace h := if_f hc h
      refine r_iload_n g0 dX11_readsOrder_67 rfl ?_
      refine r_bipush g0 dX11_readsOrder_68 rfl ?_
      refine r_icmp_ne g0 81 dX11_readsOrder_70 (by decide) i_r_1 (InR_lit rfl) (fun hc => ?_) (fun hc => ?_)
      · replace h := if_f hc h
        refine r_iload_n g0 dX11_readsOrder_81 rfl ?_
        refine r_bipush g0 dX11_readsOrder_82 rfl ?_
        refine r_icmp_ne g0 95 dX11_readsOrder_84 (by decide) i_r_1 (InR_lit rfl) (fun hc => ?_) (fun hc => ?_)
        · replace h := if_f hc h
          refine r_aload_n g0 dX11_readsOrder_95 rfl ?_
          refine r_iload_n g0 dX11_readsOrder_96 rfl ?_
          refine r_iload_n g0 dX11_readsOrder_97 rfl ?_
          obtain ⟨r_3, s_5, hr_3, h⟩ := bd_some h
          refine r_cVZ g0 (rest := []) (c_X11_readsSetting ho i_r_1 i_p1 hr_3) ok_X11_readsSetting mX11_356 (recv_Mo ho) dX11_readsOrder_98 ⟨Nat.le_of_ble_eq_true rfl, Nat.le_of_ble_eq_true rfl⟩ ⟨Nat.zero_le _, Nat.zero_le _⟩ rfl (Nat.le_of_ble_eq_true rfl) rfl (fun i_r_3 => ?_)
          refine r_mask g0 (lv' := [some (.ref (E.1 o)), none, none, none]) [true, false, false, false] rfl ?_
          exact hjp_2 r_3 s_5 i_r_3 h
        · replace h := if_t hc h
          refine r_aload_n g0 dX11_readsOrder_87 rfl ?_
          refine r_iload_n g0 dX11_readsOrder_88 rfl ?_
          obtain ⟨r_4, s_6, hr_4, h⟩ := bd_some h
          refine r_cVZ g0 (rest := []) (c_X11_readsKeys ho i_p1 hr_4) ok_X11_readsKeys mX11_353 (recv_Mo ho) dX11_readsOrder_89 ⟨Nat.le_of_ble_eq_true rfl, Nat.le_of_ble_eq_true rfl⟩ ⟨Nat.zero_le _, Nat.zero_le _⟩ rfl (Nat.le_of_ble_eq_true rfl) rfl (fun i_r_4 => ?_)
          refine r_goto g0 101 dX11_readsOrder_92 (by decide) ?_
          refine r_mask g0 (lv' := [some (.ref (E.1 o)), none, none, none]) [true, false, false, false] rfl ?_
          exact hjp_2 r_4 s_6 i_r_4 h
      · replace h := if_t hc h
        refine r_aload_n g0 dX11_readsOrder_73 rfl ?_
        refine r_iload_n g0 dX11_readsOrder_74 rfl ?_
        obtain ⟨r_5, s_7, hr_5, h⟩ := bd_some h
        refine r_cVZ g0 (rest := []) (c_X11_readsEntry ho i_p1 hr_5) ok_X11_readsEntry mX11_350 (recv_Mo ho) dX11_readsOrder_75 ⟨Nat.le_of_ble_eq_true rfl, Nat.le_of_ble_eq_true rfl⟩ ⟨Nat.zero_le _, Nat.zero_le _⟩ rfl (Nat.le_of_ble_eq_true rfl) rfl (fun i_r_5 => ?_)
        refine r_goto g0 101 dX11_readsOrder_78 (by decide) ?_
        refine r_mask g0 (lv' := [some (.ref (E.1 o)), none, none, none]) [true, false, false, false] rfl ?_
        exact hjp_2 r_5 s_7 i_r_5 h
    · replace h := if_t hc h
      refine r_aload_n g0 dX11_readsOrder_59 rfl ?_
      refine r_iload_n g0 dX11_readsOrder_60 rfl ?_
      obtain ⟨r_6, s_8, hr_6, h⟩ := bd_some h
      refine r_cVZ g0 (rest := []) (c_X11_readsLine ho i_p1 hr_6) ok_X11_readsLine mX11_347 (recv_Mo ho) dX11_readsOrder_61 ⟨Nat.le_of_ble_eq_true rfl, Nat.le_of_ble_eq_true rfl⟩ ⟨Nat.zero_le _, Nat.zero_le _⟩ rfl (Nat.le_of_ble_eq_true rfl) rfl (fun i_r_6 => ?_)
      refine r_goto g0 101 dX11_readsOrder_64 (by decide) ?_
      refine r_mask g0 (lv' := [some (.ref (E.1 o)), none, none, none]) [true, false, false, false] rfl ?_
      exact hjp_2 r_6 s_8 i_r_6 h
  clear hdjp_1
  refine r_icmp_eq g0 43 dX11_readsOrder_8 (by decide) i_r_1 (InR_lit rfl) (fun hc => ?_) (fun hc => ?_)
  · replace h := if_t hc h
    exact hjp_1 s_1 h
  · replace h := if_f hc h
    refine r_iload_n g0 dX11_readsOrder_11 rfl ?_
    refine r_bipush g0 dX11_readsOrder_12 rfl ?_
    refine r_icmp_eq g0 43 dX11_readsOrder_14 (by decide) i_r_1 (InR_lit rfl) (fun hc => ?_) (fun hc => ?_)
    · replace h := if_t hc h
      exact hjp_1 s_1 h
    · replace h := if_f hc h
      refine r_iload_n g0 dX11_readsOrder_17 rfl ?_
      refine r_bipush g0 dX11_readsOrder_18 rfl ?_
      refine r_icmp_eq g0 43 dX11_readsOrder_20 (by decide) i_r_1 (InR_lit rfl) (fun hc => ?_) (fun hc => ?_)
      · replace h := if_t hc h
        exact hjp_1 s_1 h
      · replace h := if_f hc h
        refine r_iload_n g0 dX11_readsOrder_23 rfl ?_
        refine r_bipush g0 dX11_readsOrder_24 rfl ?_
        refine r_icmp_eq g0 43 dX11_readsOrder_26 (by decide) i_r_1 (InR_lit rfl) (fun hc => ?_) (fun hc => ?_)
        · replace h := if_t hc h
          exact hjp_1 s_1 h
        · replace h := if_f hc h
          refine r_iload_n g0 dX11_readsOrder_29 rfl ?_
          refine r_bipush g0 dX11_readsOrder_30 rfl ?_
          refine r_icmp_eq g0 43 dX11_readsOrder_32 (by decide) i_r_1 (InR_lit rfl) (fun hc => ?_) (fun hc => ?_)
          · replace h := if_t hc h
            exact hjp_1 s_1 h
          · replace h := if_f hc h
            refine r_iload_n g0 dX11_readsOrder_35 rfl ?_
            refine r_bipush g0 dX11_readsOrder_36 rfl ?_
            refine r_icmp_eq g0 43 dX11_readsOrder_38 (by decide) i_r_1 (InR_lit rfl) (fun hc => ?_) (fun hc => ?_)
            · replace h := if_t hc h
              exact hjp_1 s_1 h
            · replace h := if_f hc h
              refine r_iconst g0 dX11_readsOrder_41 ?_
              exact z_Z g dX11_readsOrder_42 B01_0 h
theorem dX11_keepsAside_0 : decode cX11_keepsAside 0 = .ok (.iconst 0, 1) := by decide +kernel
theorem dX11_keepsAside_1 : decode cX11_keepsAside 1 = .ok (.istore_n 1, 1) := by decide +kernel
theorem dX11_keepsAside_2 : decode cX11_keepsAside 2 = .ok (.iload_n 1, 1) := by decide +kernel
theorem dX11_keepsAside_3 : decode cX11_keepsAside 3 = .ok (.sipush 145, 3) := by decide +kernel
theorem dX11_keepsAside_6 : decode cX11_keepsAside 6 = .ok (.if_icmp .ge 35, 3) := by decide +kernel
theorem dX11_keepsAside_9 : decode cX11_keepsAside 9 = .ok (.aload_n 0, 1) := by decide +kernel
theorem dX11_keepsAside_10 : decode cX11_keepsAside 10 = .ok (.getfield 7, 3) := by decide +kernel
theorem dX11_keepsAside_13 : decode cX11_keepsAside 13 = .ok (.iload_n 1, 1) := by decide +kernel
theorem dX11_keepsAside_14 : decode cX11_keepsAside 14 = .ok (.iaload, 1) := by decide +kernel
theorem dX11_keepsAside_15 : decode cX11_keepsAside 15 = .ok (.istore_n 2, 1) := by decide +kernel
theorem dX11_keepsAside_16 : decode cX11_keepsAside 16 = .ok (.aload_n 0, 1) := by decide +kernel
theorem dX11_keepsAside_17 : decode cX11_keepsAside 17 = .ok (.getfield 7, 3) := by decide +kernel
theorem dX11_keepsAside_20 : decode cX11_keepsAside 20 = .ok (.iload_n 1, 1) := by decide +kernel
theorem dX11_keepsAside_21 : decode cX11_keepsAside 21 = .ok (.aload_n 0, 1) := by decide +kernel
theorem dX11_keepsAside_22 : decode cX11_keepsAside 22 = .ok (.getfield 16, 3) := by decide +kernel
theorem dX11_keepsAside_25 : decode cX11_keepsAside 25 = .ok (.iload_n 1, 1) := by decide +kernel
theorem dX11_keepsAside_26 : decode cX11_keepsAside 26 = .ok (.iaload, 1) := by decide +kernel
theorem dX11_keepsAside_27 : decode cX11_keepsAside 27 = .ok (.iastore, 1) := by decide +kernel
theorem dX11_keepsAside_28 : decode cX11_keepsAside 28 = .ok (.aload_n 0, 1) := by decide +kernel
theorem dX11_keepsAside_29 : decode cX11_keepsAside 29 = .ok (.getfield 16, 3) := by decide +kernel
theorem dX11_keepsAside_32 : decode cX11_keepsAside 32 = .ok (.iload_n 1, 1) := by decide +kernel
theorem dX11_keepsAside_33 : decode cX11_keepsAside 33 = .ok (.iload_n 2, 1) := by decide +kernel
theorem dX11_keepsAside_34 : decode cX11_keepsAside 34 = .ok (.iastore, 1) := by decide +kernel
theorem dX11_keepsAside_35 : decode cX11_keepsAside 35 = .ok (.iinc 1 1, 3) := by decide +kernel
theorem dX11_keepsAside_38 : decode cX11_keepsAside 38 = .ok (.goto (-36), 3) := by decide +kernel
theorem dX11_keepsAside_41 : decode cX11_keepsAside 41 = .ok (.aload_n 0, 1) := by decide +kernel
theorem dX11_keepsAside_42 : decode cX11_keepsAside 42 = .ok (.invokevirtual 100, 3) := by decide +kernel
theorem dX11_keepsAside_45 : decode cX11_keepsAside 45 = .ok (.iconst 0, 1) := by decide +kernel
theorem dX11_keepsAside_46 : decode cX11_keepsAside 46 = .ok (.istore_n 1, 1) := by decide +kernel
theorem dX11_keepsAside_47 : decode cX11_keepsAside 47 = .ok (.iload_n 1, 1) := by decide +kernel
theorem dX11_keepsAside_48 : decode cX11_keepsAside 48 = .ok (.sipush 145, 3) := by decide +kernel
theorem dX11_keepsAside_51 : decode cX11_keepsAside 51 = .ok (.if_icmp .ge 21, 3) := by decide +kernel
theorem dX11_keepsAside_54 : decode cX11_keepsAside 54 = .ok (.aload_n 0, 1) := by decide +kernel
theorem dX11_keepsAside_55 : decode cX11_keepsAside 55 = .ok (.getfield 7, 3) := by decide +kernel
theorem dX11_keepsAside_58 : decode cX11_keepsAside 58 = .ok (.iload_n 1, 1) := by decide +kernel
theorem dX11_keepsAside_59 : decode cX11_keepsAside 59 = .ok (.aload_n 0, 1) := by decide +kernel
theorem dX11_keepsAside_60 : decode cX11_keepsAside 60 = .ok (.getfield 16, 3) := by decide +kernel
theorem dX11_keepsAside_63 : decode cX11_keepsAside 63 = .ok (.iload_n 1, 1) := by decide +kernel
theorem dX11_keepsAside_64 : decode cX11_keepsAside 64 = .ok (.iaload, 1) := by decide +kernel
theorem dX11_keepsAside_65 : decode cX11_keepsAside 65 = .ok (.iastore, 1) := by decide +kernel
theorem dX11_keepsAside_66 : decode cX11_keepsAside 66 = .ok (.iinc 1 1, 3) := by decide +kernel
theorem dX11_keepsAside_69 : decode cX11_keepsAside 69 = .ok (.goto (-22), 3) := by decide +kernel
theorem dX11_keepsAside_72 : decode cX11_keepsAside 72 = .ok (.return_, 1) := by decide +kernel
set_option maxHeartbeats 4000000 in
set_option maxRecDepth 100000 in
theorem t_X11_keepsAside_L47 {l : Launch} {E : u_E} {K : u_K} {r : Int} {s' : u_S} (g : Wk l (XE E) { frames := 1, cells := 0, slots := 0, locals := 21 } cX11_keepsAside 3 yX11_keepsAside.cls yX11_keepsAside.name none (RV E r s') K) {v0_1 : u_O} (i_v0_1 : is_Mo v0_1) {kx72 : u_S → Option (Int × u_S)} (hkx72 : ∀ (s_5 : u_S), kx72 s_5 = some (r, s') → K 0 0 72 [none, none, none] [] (Wd E s_5)) : ∀ (m : Nat) (v1_1 : Int) (s_4 : u_S), InR v1_1 → f_X11_keepsAside_L47 m kx72 v0_1 v1_1 s_4 = some (r, s') → K 0 0 47 [some (.ref (E.1 v0_1)), some (.int (J v1_1)), none] [] (Wd E s_4) := by
  have g0 := g.wk
  intro m
  induction m with
  | zero =>
    intro v1_1 s_4 i_v1_1 h
    exact absurd (show (none : Option (Int × u_S)) = some (r, s') from h) (by intro z; cases z)
  | succ m ih =>
    intro v1_1 s_4 i_v1_1 h
    rw [f_X11_keepsAside_L47] at h
    refine r_iload_n g0 dX11_keepsAside_47 rfl ?_
    refine r_sipush g0 dX11_keepsAside_48 rfl ?_
    refine r_icmp_ge g0 72 dX11_keepsAside_51 (by decide) i_v1_1 (InR_lit rfl) (fun hc => ?_) (fun hc => ?_)
    · replace h := if_f hc h
      refine r_mask g0 (lv' := [none, none, none]) [false, false, false] rfl ?_
      exact hkx72 s_4 h
    · replace h := if_t hc h
      refine r_aload_n g0 dX11_keepsAside_54 rfl ?_
      refine g_Mo_all g0 i_v0_1 qX11_7 dX11_keepsAside_55 ?_
      refine r_iload_n g0 dX11_keepsAside_58 rfl ?_
      refine r_aload_n g0 dX11_keepsAside_59 rfl ?_
      refine g_Mo_aside g0 i_v0_1 qX11_16 dX11_keepsAside_60 ?_
      refine r_iload_n g0 dX11_keepsAside_63 rfl ?_
      obtain ⟨hb, h⟩ := gd_some h
      refine r_iaload g0 (is_a_Mo_aside i_v0_1) (n := 145) rfl i_v1_1 hb dX11_keepsAside_64 ?_
      obtain ⟨hb, h⟩ := gd_some h
      refine r_iastore g0 (is_a_Mo_all i_v0_1) (n := 145) rfl i_v1_1 hb dX11_keepsAside_65 ?_
      refine r_iinc g0 (a := v1_1) (lv' := [some (.ref (E.1 v0_1)), some (.int (J (wr (v1_1 + 1)))), none]) dX11_keepsAside_66 (by decide) rfl rfl rfl ?_
      refine r_goto g0 47 dX11_keepsAside_69 (by decide) ?_
      exact ih (wr (v1_1 + 1)) (wt s_4 (a_Mo_all v0_1) v1_1 (rd s_4 (a_Mo_aside v0_1) v1_1)) (InR_wr _) h
set_option maxHeartbeats 4000000 in
set_option maxRecDepth 100000 in
theorem t_X11_keepsAside_L2 {l : Launch} {E : u_E} {K : u_K} {r : Int} {s' : u_S} (g : Wk l (XE E) { frames := 1, cells := 0, slots := 0, locals := 21 } cX11_keepsAside 3 yX11_keepsAside.cls yX11_keepsAside.name none (RV E r s') K) {v0_2 : u_O} (i_v0_2 : is_Mo v0_2) {kx41 : u_S → Option (Int × u_S)} (hkx41 : ∀ (s_7 : u_S), kx41 s_7 = some (r, s') → K 0 0 41 [some (.ref (E.1 v0_2)), none, none] [] (Wd E s_7)) : ∀ (m : Nat) (v1_2 : Int) (s_6 : u_S), InR v1_2 → f_X11_keepsAside_L2 m kx41 v0_2 v1_2 s_6 = some (r, s') → K 0 0 2 [some (.ref (E.1 v0_2)), some (.int (J v1_2)), none] [] (Wd E s_6) := by
  have g0 := g.wk
  intro m
  induction m with
  | zero =>
    intro v1_2 s_6 i_v1_2 h
    exact absurd (show (none : Option (Int × u_S)) = some (r, s') from h) (by intro z; cases z)
  | succ m ih =>
    intro v1_2 s_6 i_v1_2 h
    rw [f_X11_keepsAside_L2] at h
    refine r_iload_n g0 dX11_keepsAside_2 rfl ?_
    refine r_sipush g0 dX11_keepsAside_3 rfl ?_
    refine r_icmp_ge g0 41 dX11_keepsAside_6 (by decide) i_v1_2 (InR_lit rfl) (fun hc => ?_) (fun hc => ?_)
    · replace h := if_f hc h
      refine r_mask g0 (lv' := [some (.ref (E.1 v0_2)), none, none]) [true, false, false] rfl ?_
      exact hkx41 s_6 h
    · replace h := if_t hc h
      refine r_aload_n g0 dX11_keepsAside_9 rfl ?_
      refine g_Mo_all g0 i_v0_2 qX11_7 dX11_keepsAside_10 ?_
      refine r_iload_n g0 dX11_keepsAside_13 rfl ?_
      obtain ⟨hb, h⟩ := gd_some h
      refine r_iaload g0 (is_a_Mo_all i_v0_2) (n := 145) rfl i_v1_2 hb dX11_keepsAside_14 ?_
      refine r_istore_n g0 (lv' := [some (.ref (E.1 v0_2)), some (.int (J v1_2)), some (.int (J (rd s_6 (a_Mo_all v0_2) v1_2)))]) dX11_keepsAside_15 (by decide) rfl rfl ?_
      refine r_aload_n g0 dX11_keepsAside_16 rfl ?_
      refine g_Mo_all g0 i_v0_2 qX11_7 dX11_keepsAside_17 ?_
      refine r_iload_n g0 dX11_keepsAside_20 rfl ?_
      refine r_aload_n g0 dX11_keepsAside_21 rfl ?_
      refine g_Mo_aside g0 i_v0_2 qX11_16 dX11_keepsAside_22 ?_
      refine r_iload_n g0 dX11_keepsAside_25 rfl ?_
      obtain ⟨hb, h⟩ := gd_some h
      refine r_iaload g0 (is_a_Mo_aside i_v0_2) (n := 145) rfl i_v1_2 hb dX11_keepsAside_26 ?_
      obtain ⟨hb, h⟩ := gd_some h
      refine r_iastore g0 (is_a_Mo_all i_v0_2) (n := 145) rfl i_v1_2 hb dX11_keepsAside_27 ?_
      refine r_aload_n g0 dX11_keepsAside_28 rfl ?_
      refine g_Mo_aside g0 i_v0_2 qX11_16 dX11_keepsAside_29 ?_
      refine r_iload_n g0 dX11_keepsAside_32 rfl ?_
      refine r_iload_n g0 dX11_keepsAside_33 rfl ?_
      obtain ⟨hb, h⟩ := gd_some h
      refine r_iastore g0 (is_a_Mo_aside i_v0_2) (n := 145) rfl i_v1_2 hb dX11_keepsAside_34 ?_
      refine r_iinc g0 (a := v1_2) (lv' := [some (.ref (E.1 v0_2)), some (.int (J (wr (v1_2 + 1)))), some (.int (J (rd s_6 (a_Mo_all v0_2) v1_2)))]) dX11_keepsAside_35 (by decide) rfl rfl rfl ?_
      refine r_goto g0 2 dX11_keepsAside_38 (by decide) ?_
      refine r_mask g0 (lv' := [some (.ref (E.1 v0_2)), some (.int (J (wr (v1_2 + 1)))), none]) [true, true, false] rfl ?_
      exact ih (wr (v1_2 + 1)) (wt (wt s_6 (a_Mo_all v0_2) v1_2 (rd s_6 (a_Mo_aside v0_2) v1_2)) (a_Mo_aside v0_2) v1_2 (rd s_6 (a_Mo_all v0_2) v1_2)) (InR_wr _) h
set_option maxHeartbeats 4000000 in
set_option maxRecDepth 100000 in
theorem c_X11_keepsAside {E : u_E} {l : Launch} {o : u_O} (ho : is_Mo o) {s s' : u_S} {r : Int} (h : f_X11_keepsAside o s = some (r, s')) : Con l (XE E) yX11_keepsAside cX11_keepsAside 3 none 1 21 0 0 [.ref (E.1 o)] (Wd E s) (RV E r s') := by
  refine Con.of [some (.ref (E.1 o)), none, none] (by decide +kernel) rfl rfl (Nat.le_of_ble_eq_true rfl) (fun K g => ?_)
  have g0 := g.wk
  unfold f_X11_keepsAside at h
  refine r_iconst g0 dX11_keepsAside_0 ?_
  refine r_istore_n g0 (lv' := [some (.ref (E.1 o)), some (.int (J 0)), none]) dX11_keepsAside_1 (by decide) rfl rfl ?_
  refine t_X11_keepsAside_L2 g ho ?_ FU 0 s (B01.inR B01_0) h
  · intro s_1 h
    refine r_aload_n g0 dX11_keepsAside_41 rfl ?_
    obtain ⟨r_1, s_2, hr_1, h⟩ := bd_some h
    refine r_cVV g0 (rest := []) (c_X11_keep ho hr_1) ok_X11_keep mX11_100 (recv_Mo ho) dX11_keepsAside_42 ⟨Nat.le_of_ble_eq_true rfl, Nat.le_of_ble_eq_true rfl⟩ ⟨Nat.zero_le _, Nat.zero_le _⟩ rfl (Nat.le_of_ble_eq_true rfl) rfl ?_
    refine r_iconst g0 dX11_keepsAside_45 ?_
    refine r_istore_n g0 (lv' := [some (.ref (E.1 o)), some (.int (J 0)), none]) dX11_keepsAside_46 (by decide) rfl rfl ?_
    refine t_X11_keepsAside_L47 g ho ?_ FU 0 s_2 (B01.inR B01_0) h
    · intro s_3 h
      exact z_V g dX11_keepsAside_72 h
theorem dX11_reads_0 : decode cX11_reads 0 = .ok (.aload_n 0, 1) := by decide +kernel
theorem dX11_reads_1 : decode cX11_reads 1 = .ok (.iconst 0, 1) := by decide +kernel
theorem dX11_reads_2 : decode cX11_reads 2 = .ok (.putfield 317, 3) := by decide +kernel
theorem dX11_reads_5 : decode cX11_reads 5 = .ok (.aload_n 0, 1) := by decide +kernel
theorem dX11_reads_6 : decode cX11_reads 6 = .ok (.iconst 0, 1) := by decide +kernel
theorem dX11_reads_7 : decode cX11_reads 7 = .ok (.invokevirtual 359, 3) := by decide +kernel
theorem dX11_reads_10 : decode cX11_reads 10 = .ok (.istore_n 1, 1) := by decide +kernel
theorem dX11_reads_11 : decode cX11_reads 11 = .ok (.iload_n 1, 1) := by decide +kernel
theorem dX11_reads_12 : decode cX11_reads 12 = .ok (.ifCond .eq 20, 3) := by decide +kernel
theorem dX11_reads_15 : decode cX11_reads 15 = .ok (.aload_n 0, 1) := by decide +kernel
theorem dX11_reads_16 : decode cX11_reads 16 = .ok (.invokevirtual 324, 3) := by decide +kernel
theorem dX11_reads_19 : decode cX11_reads 19 = .ok (.iconst (-1), 1) := by decide +kernel
theorem dX11_reads_20 : decode cX11_reads 20 = .ok (.if_icmp .eq 12, 3) := by decide +kernel
theorem dX11_reads_23 : decode cX11_reads 23 = .ok (.aload_n 0, 1) := by decide +kernel
theorem dX11_reads_24 : decode cX11_reads 24 = .ok (.iconst 0, 1) := by decide +kernel
theorem dX11_reads_25 : decode cX11_reads 25 = .ok (.invokevirtual 359, 3) := by decide +kernel
theorem dX11_reads_28 : decode cX11_reads 28 = .ok (.istore_n 1, 1) := by decide +kernel
theorem dX11_reads_29 : decode cX11_reads 29 = .ok (.goto (-18), 3) := by decide +kernel
theorem dX11_reads_32 : decode cX11_reads 32 = .ok (.iload_n 1, 1) := by decide +kernel
theorem dX11_reads_33 : decode cX11_reads 33 = .ok (.ifCond .ne 11, 3) := by decide +kernel
theorem dX11_reads_36 : decode cX11_reads 36 = .ok (.bipush (-10), 2) := by decide +kernel
theorem dX11_reads_38 : decode cX11_reads 38 = .ok (.aload_n 0, 1) := by decide +kernel
theorem dX11_reads_39 : decode cX11_reads 39 = .ok (.getfield 317, 3) := by decide +kernel
theorem dX11_reads_42 : decode cX11_reads 42 = .ok (.isub, 1) := by decide +kernel
theorem dX11_reads_43 : decode cX11_reads 43 = .ok (.ireturn, 1) := by decide +kernel
theorem dX11_reads_44 : decode cX11_reads 44 = .ok (.iconst 0, 1) := by decide +kernel
theorem dX11_reads_45 : decode cX11_reads 45 = .ok (.istore_n 2, 1) := by decide +kernel
theorem dX11_reads_46 : decode cX11_reads 46 = .ok (.iload_n 2, 1) := by decide +kernel
theorem dX11_reads_47 : decode cX11_reads 47 = .ok (.sipush 145, 3) := by decide +kernel
theorem dX11_reads_50 : decode cX11_reads 50 = .ok (.if_icmp .ge 21, 3) := by decide +kernel
theorem dX11_reads_53 : decode cX11_reads 53 = .ok (.aload_n 0, 1) := by decide +kernel
theorem dX11_reads_54 : decode cX11_reads 54 = .ok (.getfield 16, 3) := by decide +kernel
theorem dX11_reads_57 : decode cX11_reads 57 = .ok (.iload_n 2, 1) := by decide +kernel
theorem dX11_reads_58 : decode cX11_reads 58 = .ok (.aload_n 0, 1) := by decide +kernel
theorem dX11_reads_59 : decode cX11_reads 59 = .ok (.getfield 7, 3) := by decide +kernel
theorem dX11_reads_62 : decode cX11_reads 62 = .ok (.iload_n 2, 1) := by decide +kernel
theorem dX11_reads_63 : decode cX11_reads 63 = .ok (.iaload, 1) := by decide +kernel
theorem dX11_reads_64 : decode cX11_reads 64 = .ok (.iastore, 1) := by decide +kernel
theorem dX11_reads_65 : decode cX11_reads 65 = .ok (.iinc 2 1, 3) := by decide +kernel
theorem dX11_reads_68 : decode cX11_reads 68 = .ok (.goto (-22), 3) := by decide +kernel
theorem dX11_reads_71 : decode cX11_reads 71 = .ok (.iconst 0, 1) := by decide +kernel
theorem dX11_reads_72 : decode cX11_reads 72 = .ok (.istore_n 2, 1) := by decide +kernel
theorem dX11_reads_73 : decode cX11_reads 73 = .ok (.aload_n 0, 1) := by decide +kernel
theorem dX11_reads_74 : decode cX11_reads 74 = .ok (.iconst 0, 1) := by decide +kernel
theorem dX11_reads_75 : decode cX11_reads 75 = .ok (.putfield 317, 3) := by decide +kernel
theorem dX11_reads_78 : decode cX11_reads 78 = .ok (.aload_n 0, 1) := by decide +kernel
theorem dX11_reads_79 : decode cX11_reads 79 = .ok (.iconst 0, 1) := by decide +kernel
theorem dX11_reads_80 : decode cX11_reads 80 = .ok (.putfield 340, 3) := by decide +kernel
theorem dX11_reads_83 : decode cX11_reads 83 = .ok (.aload_n 0, 1) := by decide +kernel
theorem dX11_reads_84 : decode cX11_reads 84 = .ok (.invokevirtual 324, 3) := by decide +kernel
theorem dX11_reads_87 : decode cX11_reads 87 = .ok (.iconst (-1), 1) := by decide +kernel
theorem dX11_reads_88 : decode cX11_reads 88 = .ok (.if_icmp .eq 55, 3) := by decide +kernel
theorem dX11_reads_91 : decode cX11_reads 91 = .ok (.aload_n 0, 1) := by decide +kernel
theorem dX11_reads_92 : decode cX11_reads 92 = .ok (.iconst 1, 1) := by decide +kernel
theorem dX11_reads_93 : decode cX11_reads 93 = .ok (.invokevirtual 359, 3) := by decide +kernel
theorem dX11_reads_96 : decode cX11_reads 96 = .ok (.istore_n 1, 1) := by decide +kernel
theorem dX11_reads_97 : decode cX11_reads 97 = .ok (.aload_n 0, 1) := by decide +kernel
theorem dX11_reads_98 : decode cX11_reads 98 = .ok (.getfield 340, 3) := by decide +kernel
theorem dX11_reads_101 : decode cX11_reads 101 = .ok (.ifCond .ge 36, 3) := by decide +kernel
theorem dX11_reads_104 : decode cX11_reads 104 = .ok (.iconst 0, 1) := by decide +kernel
theorem dX11_reads_105 : decode cX11_reads 105 = .ok (.istore_n 3, 1) := by decide +kernel
theorem dX11_reads_106 : decode cX11_reads 106 = .ok (.iload_n 3, 1) := by decide +kernel
theorem dX11_reads_107 : decode cX11_reads 107 = .ok (.sipush 145, 3) := by decide +kernel
theorem dX11_reads_110 : decode cX11_reads 110 = .ok (.if_icmp .ge 21, 3) := by decide +kernel
theorem dX11_reads_113 : decode cX11_reads 113 = .ok (.aload_n 0, 1) := by decide +kernel
theorem dX11_reads_114 : decode cX11_reads 114 = .ok (.getfield 7, 3) := by decide +kernel
theorem dX11_reads_117 : decode cX11_reads 117 = .ok (.iload_n 3, 1) := by decide +kernel
theorem dX11_reads_118 : decode cX11_reads 118 = .ok (.aload_n 0, 1) := by decide +kernel
theorem dX11_reads_119 : decode cX11_reads 119 = .ok (.getfield 16, 3) := by decide +kernel
theorem dX11_reads_122 : decode cX11_reads 122 = .ok (.iload_n 3, 1) := by decide +kernel
theorem dX11_reads_123 : decode cX11_reads 123 = .ok (.iaload, 1) := by decide +kernel
theorem dX11_reads_124 : decode cX11_reads 124 = .ok (.iastore, 1) := by decide +kernel
theorem dX11_reads_125 : decode cX11_reads 125 = .ok (.iinc 3 1, 3) := by decide +kernel
theorem dX11_reads_128 : decode cX11_reads 128 = .ok (.goto (-22), 3) := by decide +kernel
theorem dX11_reads_131 : decode cX11_reads 131 = .ok (.sipush (-1000), 3) := by decide +kernel
theorem dX11_reads_134 : decode cX11_reads 134 = .ok (.iload_n 2, 1) := by decide +kernel
theorem dX11_reads_135 : decode cX11_reads 135 = .ok (.isub, 1) := by decide +kernel
theorem dX11_reads_136 : decode cX11_reads 136 = .ok (.ireturn, 1) := by decide +kernel
theorem dX11_reads_137 : decode cX11_reads 137 = .ok (.iinc 2 1, 3) := by decide +kernel
theorem dX11_reads_140 : decode cX11_reads 140 = .ok (.goto (-57), 3) := by decide +kernel
theorem dX11_reads_143 : decode cX11_reads 143 = .ok (.aload_n 0, 1) := by decide +kernel
theorem dX11_reads_144 : decode cX11_reads 144 = .ok (.invokevirtual 362, 3) := by decide +kernel
theorem dX11_reads_147 : decode cX11_reads 147 = .ok (.iload_n 2, 1) := by decide +kernel
theorem dX11_reads_148 : decode cX11_reads 148 = .ok (.ireturn, 1) := by decide +kernel
set_option maxHeartbeats 4000000 in
set_option maxRecDepth 100000 in
theorem t_X11_reads_L106 {l : Launch} {E : u_E} {K : u_K} {r : Int} {s' : u_S} (g : Wk l (XE E) { frames := 7, cells := 0, slots := 0, locals := 164 } cX11_reads 4 yX11_reads.cls yX11_reads.name (some .int) (RI E r s') K) {v0_2 : u_O} {v2_3 : Int} (i_v0_2 : is_Mo v0_2) (i_v2_3 : InR v2_3) {kx131 : u_S → Option (Int × u_S)} (hkx131 : ∀ (s_11 : u_S), kx131 s_11 = some (r, s') → K 0 0 131 [none, none, some (.int (J v2_3)), none] [] (Wd E s_11)) : ∀ (m : Nat) (v3_1 : Int) (s_10 : u_S), InR v3_1 → f_X11_reads_L106 m kx131 v0_2 v2_3 v3_1 s_10 = some (r, s') → K 0 0 106 [some (.ref (E.1 v0_2)), none, some (.int (J v2_3)), some (.int (J v3_1))] [] (Wd E s_10) := by
  have g0 := g.wk
  intro m
  induction m with
  | zero =>
    intro v3_1 s_10 i_v3_1 h
    exact absurd (show (none : Option (Int × u_S)) = some (r, s') from h) (by intro z; cases z)
  | succ m ih =>
    intro v3_1 s_10 i_v3_1 h
    rw [f_X11_reads_L106] at h
    refine r_iload_n g0 dX11_reads_106 rfl ?_
    refine r_sipush g0 dX11_reads_107 rfl ?_
    refine r_icmp_ge g0 131 dX11_reads_110 (by decide) i_v3_1 (InR_lit rfl) (fun hc => ?_) (fun hc => ?_)
    · replace h := if_f hc h
      refine r_mask g0 (lv' := [none, none, some (.int (J v2_3)), none]) [false, false, true, false] rfl ?_
      exact hkx131 s_10 h
    · replace h := if_t hc h
      refine r_aload_n g0 dX11_reads_113 rfl ?_
      refine g_Mo_all g0 i_v0_2 qX11_7 dX11_reads_114 ?_
      refine r_iload_n g0 dX11_reads_117 rfl ?_
      refine r_aload_n g0 dX11_reads_118 rfl ?_
      refine g_Mo_aside g0 i_v0_2 qX11_16 dX11_reads_119 ?_
      refine r_iload_n g0 dX11_reads_122 rfl ?_
      obtain ⟨hb, h⟩ := gd_some h
      refine r_iaload g0 (is_a_Mo_aside i_v0_2) (n := 145) rfl i_v3_1 hb dX11_reads_123 ?_
      obtain ⟨hb, h⟩ := gd_some h
      refine r_iastore g0 (is_a_Mo_all i_v0_2) (n := 145) rfl i_v3_1 hb dX11_reads_124 ?_
      refine r_iinc g0 (a := v3_1) (lv' := [some (.ref (E.1 v0_2)), none, some (.int (J v2_3)), some (.int (J (wr (v3_1 + 1))))]) dX11_reads_125 (by decide) rfl rfl rfl ?_
      refine r_goto g0 106 dX11_reads_128 (by decide) ?_
      exact ih (wr (v3_1 + 1)) (wt s_10 (a_Mo_all v0_2) v3_1 (rd s_10 (a_Mo_aside v0_2) v3_1)) (InR_wr _) h
set_option maxHeartbeats 4000000 in
set_option maxRecDepth 100000 in
theorem t_X11_reads_L83 {l : Launch} {E : u_E} {K : u_K} {r : Int} {s' : u_S} (g : Wk l (XE E) { frames := 7, cells := 0, slots := 0, locals := 164 } cX11_reads 4 yX11_reads.cls yX11_reads.name (some .int) (RI E r s') K) {v0_1 : u_O} (i_v0_1 : is_Mo v0_1) {kx143 : Int → u_S → Option (Int × u_S)} (hkx143 : ∀ (v2_4 : Int) (s_12 : u_S), InR v2_4 → kx143 v2_4 s_12 = some (r, s') → K 0 0 143 [some (.ref (E.1 v0_1)), none, some (.int (J v2_4)), none] [] (Wd E s_12)) : ∀ (m : Nat) (v2_2 : Int) (s_6 : u_S), InR v2_2 → f_X11_reads_L83 m kx143 v0_1 v2_2 s_6 = some (r, s') → K 0 0 83 [some (.ref (E.1 v0_1)), none, some (.int (J v2_2)), none] [] (Wd E s_6) := by
  have g0 := g.wk
  intro m
  induction m with
  | zero =>
    intro v2_2 s_6 i_v2_2 h
    exact absurd (show (none : Option (Int × u_S)) = some (r, s') from h) (by intro z; cases z)
  | succ m ih =>
    intro v2_2 s_6 i_v2_2 h
    rw [f_X11_reads_L83] at h
    refine r_aload_n g0 dX11_reads_83 rfl ?_
    obtain ⟨r_3, s_7, hr_3, h⟩ := bd_some h
    refine r_cVI g0 (rest := []) (c_X11_here i_v0_1 hr_3) ok_X11_here mX11_324 (recv_Mo i_v0_1) dX11_reads_84 ⟨Nat.le_of_ble_eq_true rfl, Nat.le_of_ble_eq_true rfl⟩ ⟨Nat.zero_le _, Nat.zero_le _⟩ rfl (Nat.le_of_ble_eq_true rfl) rfl (fun i_r_3 => ?_)
    refine r_iconst g0 dX11_reads_87 ?_
    refine r_icmp_eq g0 143 dX11_reads_88 (by decide) i_r_3 (InR_lit rfl) (fun hc => ?_) (fun hc => ?_)
    · replace h := if_t hc h
      exact hkx143 v2_2 s_7 i_v2_2 h
    · replace h := if_f hc h
      refine r_aload_n g0 dX11_reads_91 rfl ?_
      refine r_iconst g0 dX11_reads_92 ?_
      obtain ⟨r_4, s_8, hr_4, h⟩ := bd_some h
      refine r_cVZ g0 (rest := []) (c_X11_readsOrder i_v0_1 B01_1 hr_4) ok_X11_readsOrder mX11_359 (recv_Mo i_v0_1) dX11_reads_93 ⟨Nat.le_of_ble_eq_true rfl, Nat.le_of_ble_eq_true rfl⟩ ⟨Nat.zero_le _, Nat.zero_le _⟩ rfl (Nat.le_of_ble_eq_true rfl) rfl (fun i_r_4 => ?_)
      refine r_istore_n g0 (lv' := [some (.ref (E.1 v0_1)), some (.int (J r_4)), some (.int (J v2_2)), none]) dX11_reads_96 (by decide) rfl rfl ?_
      refine r_aload_n g0 dX11_reads_97 rfl ?_
      refine g_Mo_not g0 i_v0_1 qX11_340 dX11_reads_98 ?_
      refine r_if_ge g0 137 dX11_reads_101 (by decide) (InR_rd _ _ _) (fun hc => ?_) (fun hc => ?_)
      · replace h := if_f hc h
        refine r_iinc g0 (a := v2_2) (lv' := [some (.ref (E.1 v0_1)), some (.int (J r_4)), some (.int (J (wr (v2_2 + 1)))), none]) dX11_reads_137 (by decide) rfl rfl rfl ?_
        refine r_goto g0 83 dX11_reads_140 (by decide) ?_
        refine r_mask g0 (lv' := [some (.ref (E.1 v0_1)), none, some (.int (J (wr (v2_2 + 1)))), none]) [true, false, true, false] rfl ?_
        exact ih (wr (v2_2 + 1)) s_8 (InR_wr _) h
      · replace h := if_t hc h
        refine r_iconst g0 dX11_reads_104 ?_
        refine r_istore_n g0 (lv' := [some (.ref (E.1 v0_1)), some (.int (J r_4)), some (.int (J v2_2)), some (.int (J 0))]) dX11_reads_105 (by decide) rfl rfl ?_
        refine r_mask g0 (lv' := [some (.ref (E.1 v0_1)), none, some (.int (J v2_2)), some (.int (J 0))]) [true, false, true, true] rfl ?_
        refine t_X11_reads_L106 g i_v0_1 i_v2_2 ?_ FU 0 s_8 (B01.inR B01_0) h
        · intro s_9 h
          refine r_sipush g0 dX11_reads_131 rfl ?_
          refine r_iload_n g0 dX11_reads_134 rfl ?_
          refine r_isub g0 dX11_reads_135 ?_
          exact z_I g dX11_reads_136 (InR_wr _) h
set_option maxHeartbeats 4000000 in
set_option maxRecDepth 100000 in
theorem t_X11_reads_L46 {l : Launch} {E : u_E} {K : u_K} {r : Int} {s' : u_S} (g : Wk l (XE E) { frames := 7, cells := 0, slots := 0, locals := 164 } cX11_reads 4 yX11_reads.cls yX11_reads.name (some .int) (RI E r s') K) {v0_3 : u_O} (i_v0_3 : is_Mo v0_3) {kx71 : u_S → Option (Int × u_S)} (hkx71 : ∀ (s_14 : u_S), kx71 s_14 = some (r, s') → K 0 0 71 [some (.ref (E.1 v0_3)), none, none, none] [] (Wd E s_14)) : ∀ (m : Nat) (v2_5 : Int) (s_13 : u_S), InR v2_5 → f_X11_reads_L46 m kx71 v0_3 v2_5 s_13 = some (r, s') → K 0 0 46 [some (.ref (E.1 v0_3)), none, some (.int (J v2_5)), none] [] (Wd E s_13) := by
  have g0 := g.wk
  intro m
  induction m with
  | zero =>
    intro v2_5 s_13 i_v2_5 h
    exact absurd (show (none : Option (Int × u_S)) = some (r, s') from h) (by intro z; cases z)
  | succ m ih =>
    intro v2_5 s_13 i_v2_5 h
    rw [f_X11_reads_L46] at h
    refine r_iload_n g0 dX11_reads_46 rfl ?_
    refine r_sipush g0 dX11_reads_47 rfl ?_
    refine r_icmp_ge g0 71 dX11_reads_50 (by decide) i_v2_5 (InR_lit rfl) (fun hc => ?_) (fun hc => ?_)
    · replace h := if_f hc h
      refine r_mask g0 (lv' := [some (.ref (E.1 v0_3)), none, none, none]) [true, false, false, false] rfl ?_
      exact hkx71 s_13 h
    · replace h := if_t hc h
      refine r_aload_n g0 dX11_reads_53 rfl ?_
      refine g_Mo_aside g0 i_v0_3 qX11_16 dX11_reads_54 ?_
      refine r_iload_n g0 dX11_reads_57 rfl ?_
      refine r_aload_n g0 dX11_reads_58 rfl ?_
      refine g_Mo_all g0 i_v0_3 qX11_7 dX11_reads_59 ?_
      refine r_iload_n g0 dX11_reads_62 rfl ?_
      obtain ⟨hb, h⟩ := gd_some h
      refine r_iaload g0 (is_a_Mo_all i_v0_3) (n := 145) rfl i_v2_5 hb dX11_reads_63 ?_
      obtain ⟨hb, h⟩ := gd_some h
      refine r_iastore g0 (is_a_Mo_aside i_v0_3) (n := 145) rfl i_v2_5 hb dX11_reads_64 ?_
      refine r_iinc g0 (a := v2_5) (lv' := [some (.ref (E.1 v0_3)), none, some (.int (J (wr (v2_5 + 1)))), none]) dX11_reads_65 (by decide) rfl rfl rfl ?_
      refine r_goto g0 46 dX11_reads_68 (by decide) ?_
      exact ih (wr (v2_5 + 1)) (wt s_13 (a_Mo_aside v0_3) v2_5 (rd s_13 (a_Mo_all v0_3) v2_5)) (InR_wr _) h
set_option maxHeartbeats 4000000 in
set_option maxRecDepth 100000 in
theorem t_X11_reads_L11 {l : Launch} {E : u_E} {K : u_K} {r : Int} {s' : u_S} (g : Wk l (XE E) { frames := 7, cells := 0, slots := 0, locals := 164 } cX11_reads 4 yX11_reads.cls yX11_reads.name (some .int) (RI E r s') K) {v0_4 : u_O} (i_v0_4 : is_Mo v0_4) {kx32 : Int → u_S → Option (Int × u_S)} (hkx32 : ∀ (v1_3 : Int) (s_18 : u_S), B01 v1_3 → kx32 v1_3 s_18 = some (r, s') → K 0 0 32 [some (.ref (E.1 v0_4)), some (.int (J v1_3)), none, none] [] (Wd E s_18)) : ∀ (m : Nat) (v1_2 : Int) (s_15 : u_S), B01 v1_2 → f_X11_reads_L11 m kx32 v0_4 v1_2 s_15 = some (r, s') → K 0 0 11 [some (.ref (E.1 v0_4)), some (.int (J v1_2)), none, none] [] (Wd E s_15) := by
  have g0 := g.wk
  intro m
  induction m with
  | zero =>
    intro v1_2 s_15 i_v1_2 h
    exact absurd (show (none : Option (Int × u_S)) = some (r, s') from h) (by intro z; cases z)
  | succ m ih =>
    intro v1_2 s_15 i_v1_2 h
    rw [f_X11_reads_L11] at h
    refine r_iload_n g0 dX11_reads_11 rfl ?_
    refine r_if_eq g0 32 dX11_reads_12 (by decide) (B01.inR i_v1_2) (fun hc => ?_) (fun hc => ?_)
    · replace h := if_t hc h
      exact hkx32 v1_2 s_15 i_v1_2 h
    · replace h := if_f hc h
      refine r_aload_n g0 dX11_reads_15 rfl ?_
      obtain ⟨r_5, s_16, hr_5, h⟩ := bd_some h
      refine r_cVI g0 (rest := []) (c_X11_here i_v0_4 hr_5) ok_X11_here mX11_324 (recv_Mo i_v0_4) dX11_reads_16 ⟨Nat.le_of_ble_eq_true rfl, Nat.le_of_ble_eq_true rfl⟩ ⟨Nat.zero_le _, Nat.zero_le _⟩ rfl (Nat.le_of_ble_eq_true rfl) rfl (fun i_r_5 => ?_)
      refine r_iconst g0 dX11_reads_19 ?_
      refine r_icmp_eq g0 32 dX11_reads_20 (by decide) i_r_5 (InR_lit rfl) (fun hc => ?_) (fun hc => ?_)
      · replace h := if_t hc h
        exact hkx32 v1_2 s_16 i_v1_2 h
      · replace h := if_f hc h
        refine r_aload_n g0 dX11_reads_23 rfl ?_
        refine r_iconst g0 dX11_reads_24 ?_
        obtain ⟨r_6, s_17, hr_6, h⟩ := bd_some h
        refine r_cVZ g0 (rest := []) (c_X11_readsOrder i_v0_4 B01_0 hr_6) ok_X11_readsOrder mX11_359 (recv_Mo i_v0_4) dX11_reads_25 ⟨Nat.le_of_ble_eq_true rfl, Nat.le_of_ble_eq_true rfl⟩ ⟨Nat.zero_le _, Nat.zero_le _⟩ rfl (Nat.le_of_ble_eq_true rfl) rfl (fun i_r_6 => ?_)
        refine r_istore_n g0 (lv' := [some (.ref (E.1 v0_4)), some (.int (J r_6)), none, none]) dX11_reads_28 (by decide) rfl rfl ?_
        refine r_goto g0 11 dX11_reads_29 (by decide) ?_
        exact ih r_6 s_17 i_r_6 h
set_option maxHeartbeats 4000000 in
set_option maxRecDepth 100000 in
theorem c_X11_reads {E : u_E} {l : Launch} {o : u_O} (ho : is_Mo o) {s s' : u_S} {r : Int} (h : f_X11_reads o s = some (r, s')) : Con l (XE E) yX11_reads cX11_reads 4 (some .int) 7 164 0 0 [.ref (E.1 o)] (Wd E s) (RI E r s') := by
  refine Con.of [some (.ref (E.1 o)), none, none, none] (by decide +kernel) rfl rfl (Nat.le_of_ble_eq_true rfl) (fun K g => ?_)
  have g0 := g.wk
  unfold f_X11_reads at h
  refine r_aload_n g0 dX11_reads_0 rfl ?_
  refine r_iconst g0 dX11_reads_1 ?_
  refine p_Mo_place g0 ho qX11_317 dX11_reads_2 ?_
  refine r_aload_n g0 dX11_reads_5 rfl ?_
  refine r_iconst g0 dX11_reads_6 ?_
  obtain ⟨r_1, s_1, hr_1, h⟩ := bd_some h
  refine r_cVZ g0 (rest := []) (c_X11_readsOrder ho B01_0 hr_1) ok_X11_readsOrder mX11_359 (recv_Mo ho) dX11_reads_7 ⟨Nat.le_of_ble_eq_true rfl, Nat.le_of_ble_eq_true rfl⟩ ⟨Nat.zero_le _, Nat.zero_le _⟩ rfl (Nat.le_of_ble_eq_true rfl) rfl (fun i_r_1 => ?_)
  refine r_istore_n g0 (lv' := [some (.ref (E.1 o)), some (.int (J r_1)), none, none]) dX11_reads_10 (by decide) rfl rfl ?_
  refine t_X11_reads_L11 g ho ?_ FU r_1 s_1 i_r_1 h
  · intro v1_1 s_2 i_v1_1 h
    refine r_iload_n g0 dX11_reads_32 rfl ?_
    refine r_if_ne g0 44 dX11_reads_33 (by decide) (B01.inR i_v1_1) (fun hc => ?_) (fun hc => ?_)
    · replace h := if_f hc h
      refine r_iconst g0 dX11_reads_44 ?_
      refine r_istore_n g0 (lv' := [some (.ref (E.1 o)), some (.int (J v1_1)), some (.int (J 0)), none]) dX11_reads_45 (by decide) rfl rfl ?_
      refine r_mask g0 (lv' := [some (.ref (E.1 o)), none, some (.int (J 0)), none]) [true, false, true, false] rfl ?_
      refine t_X11_reads_L46 g ho ?_ FU 0 s_2 (B01.inR B01_0) h
      · intro s_3 h
        refine r_iconst g0 dX11_reads_71 ?_
        refine r_istore_n g0 (lv' := [some (.ref (E.1 o)), none, some (.int (J 0)), none]) dX11_reads_72 (by decide) rfl rfl ?_
        refine r_aload_n g0 dX11_reads_73 rfl ?_
        refine r_iconst g0 dX11_reads_74 ?_
        refine p_Mo_place g0 ho qX11_317 dX11_reads_75 ?_
        refine r_aload_n g0 dX11_reads_78 rfl ?_
        refine r_iconst g0 dX11_reads_79 ?_
        refine p_Mo_not g0 ho qX11_340 dX11_reads_80 ?_
        refine t_X11_reads_L83 g ho ?_ FU 0 (wt (wt s_3 o 17 0) o 19 0) (B01.inR B01_0) h
        · intro v2_1 s_4 i_v2_1 h
          refine r_aload_n g0 dX11_reads_143 rfl ?_
          obtain ⟨r_2, s_5, hr_2, h⟩ := bd_some h
          refine r_cVV g0 (rest := []) (c_X11_keepsAside ho hr_2) ok_X11_keepsAside mX11_362 (recv_Mo ho) dX11_reads_144 ⟨Nat.le_of_ble_eq_true rfl, Nat.le_of_ble_eq_true rfl⟩ ⟨Nat.zero_le _, Nat.zero_le _⟩ rfl (Nat.le_of_ble_eq_true rfl) rfl ?_
          refine r_iload_n g0 dX11_reads_147 rfl ?_
          exact z_I g dX11_reads_148 i_v2_1 h
    · replace h := if_t hc h
      refine r_bipush g0 dX11_reads_36 rfl ?_
      refine r_aload_n g0 dX11_reads_38 rfl ?_
      refine g_Mo_place g0 ho qX11_317 dX11_reads_39 ?_
      refine r_isub g0 dX11_reads_42 ?_
      exact z_I g dX11_reads_43 (InR_wr _) h
