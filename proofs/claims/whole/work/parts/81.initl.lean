/-! what links the constructors (by program, wip/whole/gen/inits.py) -/
theorem clL_7 : Cond.classLink RL 7 RX10 ∈ lw_G := (lw_G_in (List.mem_of_getElem? (i := 110) (by decide +kernel)) (by decide +kernel))
theorem insX10 : Cond.instantiable RX10 14 ∈ lw_G := (lw_G_in (List.mem_of_getElem? (i := 111) (by decide +kernel)) (by decide +kernel))
theorem miL_9 : OKI RL 9 yX10_init := ⟨(lw_G_in (List.mem_of_getElem? (i := 112) (by decide +kernel)) (by decide +kernel)), (lw_G_in (List.mem_of_getElem? (i := 113) (by decide +kernel)) (by decide +kernel)), rfl⟩
theorem iniX10 : Cond.initialized RX10 ∈ lw_G := (lw_G_in (List.mem_of_getElem? (i := 97) (by decide +kernel)) (by decide +kernel))
theorem oiX10 : OKc yX10_init cX10_init 1 none 0 := ⟨(lw_G_in (List.mem_of_getElem? (i := 97) (by decide +kernel)) (by decide +kernel)), (lw_G_in (List.mem_of_getElem? (i := 114) (by decide +kernel)) (by decide +kernel)), by decide +kernel, by decide +kernel, by decide +kernel⟩
theorem obX10 : Cond.methodLink RX10 3 objectInit ∈ lw_G := (lw_G_in (List.mem_of_getElem? (i := 115) (by decide +kernel)) (by decide +kernel))
theorem clX10_9 : Cond.classLink RX10 9 RX6 ∈ lw_G := (lw_G_in (List.mem_of_getElem? (i := 118) (by decide +kernel)) (by decide +kernel))
theorem insX6 : Cond.instantiable RX6 8 ∈ lw_G := (lw_G_in (List.mem_of_getElem? (i := 119) (by decide +kernel)) (by decide +kernel))
theorem miX10_11 : OKI RX10 11 yX6_init := ⟨(lw_G_in (List.mem_of_getElem? (i := 120) (by decide +kernel)) (by decide +kernel)), (lw_G_in (List.mem_of_getElem? (i := 121) (by decide +kernel)) (by decide +kernel)), rfl⟩
theorem iniX6 : Cond.initialized RX6 ∈ lw_G := (lw_G_in (List.mem_of_getElem? (i := 98) (by decide +kernel)) (by decide +kernel))
theorem oiX6 : OKc yX6_init cX6_init 2 none 0 := ⟨(lw_G_in (List.mem_of_getElem? (i := 98) (by decide +kernel)) (by decide +kernel)), (lw_G_in (List.mem_of_getElem? (i := 122) (by decide +kernel)) (by decide +kernel)), by decide +kernel, by decide +kernel, by decide +kernel⟩
theorem obX6 : Cond.methodLink RX6 3 objectInit ∈ lw_G := (lw_G_in (List.mem_of_getElem? (i := 123) (by decide +kernel)) (by decide +kernel))
theorem clX6_9 : Cond.classLink RX6 9 RX5 ∈ lw_G := (lw_G_in (List.mem_of_getElem? (i := 124) (by decide +kernel)) (by decide +kernel))
theorem clX6_17 : Cond.classLink RX6 17 RX1 ∈ lw_G := (lw_G_in (List.mem_of_getElem? (i := 126) (by decide +kernel)) (by decide +kernel))
theorem insX1 : Cond.instantiable RX1 2 ∈ lw_G := (lw_G_in (List.mem_of_getElem? (i := 127) (by decide +kernel)) (by decide +kernel))
theorem miX6_19 : OKI RX6 19 yX1_init := ⟨(lw_G_in (List.mem_of_getElem? (i := 128) (by decide +kernel)) (by decide +kernel)), (lw_G_in (List.mem_of_getElem? (i := 129) (by decide +kernel)) (by decide +kernel)), rfl⟩
theorem iniX1 : Cond.initialized RX1 ∈ lw_G := (lw_G_in (List.mem_of_getElem? (i := 99) (by decide +kernel)) (by decide +kernel))
theorem oiX1 : OKc yX1_init cX1_init 2 none 0 := ⟨(lw_G_in (List.mem_of_getElem? (i := 99) (by decide +kernel)) (by decide +kernel)), (lw_G_in (List.mem_of_getElem? (i := 130) (by decide +kernel)) (by decide +kernel)), by decide +kernel, by decide +kernel, by decide +kernel⟩
theorem obX1 : Cond.methodLink RX1 3 objectInit ∈ lw_G := (lw_G_in (List.mem_of_getElem? (i := 131) (by decide +kernel)) (by decide +kernel))
theorem clX1_9 : Cond.classLink RX1 9 RX2 ∈ lw_G := (lw_G_in (List.mem_of_getElem? (i := 132) (by decide +kernel)) (by decide +kernel))
theorem insX2 : Cond.instantiable RX2 5 ∈ lw_G := (lw_G_in (List.mem_of_getElem? (i := 134) (by decide +kernel)) (by decide +kernel))
theorem miX1_17 : OKIN RX1 RX10 17 yX2_init := ⟨List.mem_filter.mpr ⟨List.mem_of_getElem? (i := 135) (by decide +kernel), by decide +kernel⟩, (lw_G_in (List.mem_of_getElem? (i := 136) (by decide +kernel)) (by decide +kernel)), rfl⟩
theorem iniX2 : Cond.initialized RX2 ∈ lw_G := (lw_G_in (List.mem_of_getElem? (i := 100) (by decide +kernel)) (by decide +kernel))
theorem oiX2 : OKc yX2_init cX2_init 1 none 0 := ⟨(lw_G_in (List.mem_of_getElem? (i := 100) (by decide +kernel)) (by decide +kernel)), (lw_G_in (List.mem_of_getElem? (i := 137) (by decide +kernel)) (by decide +kernel)), by decide +kernel, by decide +kernel, by decide +kernel⟩
theorem obX2 : Cond.methodLink RX2 1 objectInit ∈ lw_G := (lw_G_in (List.mem_of_getElem? (i := 138) (by decide +kernel)) (by decide +kernel))
theorem insX5 : Cond.instantiable RX5 3 ∈ lw_G := (lw_G_in (List.mem_of_getElem? (i := 183) (by decide +kernel)) (by decide +kernel))
theorem miX6_35 : OKIN RX6 RX10 35 yX5_init := ⟨List.mem_filter.mpr ⟨List.mem_of_getElem? (i := 184) (by decide +kernel), by decide +kernel⟩, (lw_G_in (List.mem_of_getElem? (i := 185) (by decide +kernel)) (by decide +kernel)), rfl⟩
theorem iniX5 : Cond.initialized RX5 ∈ lw_G := (lw_G_in (List.mem_of_getElem? (i := 101) (by decide +kernel)) (by decide +kernel))
theorem oiX5 : OKc yX5_init cX5_init 1 none 0 := ⟨(lw_G_in (List.mem_of_getElem? (i := 101) (by decide +kernel)) (by decide +kernel)), (lw_G_in (List.mem_of_getElem? (i := 186) (by decide +kernel)) (by decide +kernel)), by decide +kernel, by decide +kernel, by decide +kernel⟩
theorem obX5 : Cond.methodLink RX5 3 objectInit ∈ lw_G := (lw_G_in (List.mem_of_getElem? (i := 187) (by decide +kernel)) (by decide +kernel))
theorem clX10_19 : Cond.classLink RX10 19 RX4 ∈ lw_G := (lw_G_in (List.mem_of_getElem? (i := 236) (by decide +kernel)) (by decide +kernel))
theorem insX4 : Cond.instantiable RX4 3 ∈ lw_G := (lw_G_in (List.mem_of_getElem? (i := 237) (by decide +kernel)) (by decide +kernel))
theorem miX10_21 : OKI RX10 21 yX4_init := ⟨(lw_G_in (List.mem_of_getElem? (i := 238) (by decide +kernel)) (by decide +kernel)), (lw_G_in (List.mem_of_getElem? (i := 239) (by decide +kernel)) (by decide +kernel)), rfl⟩
theorem iniX4 : Cond.initialized RX4 ∈ lw_G := (lw_G_in (List.mem_of_getElem? (i := 102) (by decide +kernel)) (by decide +kernel))
theorem oiX4 : OKc yX4_init cX4_init 2 none 0 := ⟨(lw_G_in (List.mem_of_getElem? (i := 102) (by decide +kernel)) (by decide +kernel)), (lw_G_in (List.mem_of_getElem? (i := 240) (by decide +kernel)) (by decide +kernel)), by decide +kernel, by decide +kernel, by decide +kernel⟩
theorem obX4 : Cond.methodLink RX4 3 objectInit ∈ lw_G := (lw_G_in (List.mem_of_getElem? (i := 241) (by decide +kernel)) (by decide +kernel))
theorem clX4_9 : Cond.classLink RX4 9 RX6 ∈ lw_G := (lw_G_in (List.mem_of_getElem? (i := 242) (by decide +kernel)) (by decide +kernel))
theorem miX4_17 : OKI RX4 17 yX6_init := ⟨(lw_G_in (List.mem_of_getElem? (i := 244) (by decide +kernel)) (by decide +kernel)), (lw_G_in (List.mem_of_getElem? (i := 121) (by decide +kernel)) (by decide +kernel)), rfl⟩
theorem clX10_26 : Cond.classLink RX10 26 RX7 ∈ lw_G := (lw_G_in (List.mem_of_getElem? (i := 256) (by decide +kernel)) (by decide +kernel))
theorem insX7 : Cond.instantiable RX7 9 ∈ lw_G := (lw_G_in (List.mem_of_getElem? (i := 257) (by decide +kernel)) (by decide +kernel))
theorem miX10_28 : OKIN RX10 RX10 28 yX7_init := ⟨List.mem_filter.mpr ⟨List.mem_of_getElem? (i := 258) (by decide +kernel), by decide +kernel⟩, (lw_G_in (List.mem_of_getElem? (i := 259) (by decide +kernel)) (by decide +kernel)), rfl⟩
theorem iniX7 : Cond.initialized RX7 ∈ lw_G := (lw_G_in (List.mem_of_getElem? (i := 103) (by decide +kernel)) (by decide +kernel))
theorem oiX7 : OKc yX7_init cX7_init 1 none 0 := ⟨(lw_G_in (List.mem_of_getElem? (i := 103) (by decide +kernel)) (by decide +kernel)), (lw_G_in (List.mem_of_getElem? (i := 260) (by decide +kernel)) (by decide +kernel)), by decide +kernel, by decide +kernel, by decide +kernel⟩
theorem obX7 : Cond.methodLink RX7 3 objectInit ∈ lw_G := (lw_G_in (List.mem_of_getElem? (i := 261) (by decide +kernel)) (by decide +kernel))
theorem clX10_33 : Cond.classLink RX10 33 RX8 ∈ lw_G := (lw_G_in (List.mem_of_getElem? (i := 292) (by decide +kernel)) (by decide +kernel))
theorem insX8 : Cond.instantiable RX8 4 ∈ lw_G := (lw_G_in (List.mem_of_getElem? (i := 293) (by decide +kernel)) (by decide +kernel))
theorem miX10_35 : OKIN RX10 RX10 35 yX8_init := ⟨List.mem_filter.mpr ⟨List.mem_of_getElem? (i := 294) (by decide +kernel), by decide +kernel⟩, (lw_G_in (List.mem_of_getElem? (i := 295) (by decide +kernel)) (by decide +kernel)), rfl⟩
theorem iniX8 : Cond.initialized RX8 ∈ lw_G := (lw_G_in (List.mem_of_getElem? (i := 104) (by decide +kernel)) (by decide +kernel))
theorem oiX8 : OKc yX8_init cX8_init 1 none 0 := ⟨(lw_G_in (List.mem_of_getElem? (i := 104) (by decide +kernel)) (by decide +kernel)), (lw_G_in (List.mem_of_getElem? (i := 296) (by decide +kernel)) (by decide +kernel)), by decide +kernel, by decide +kernel, by decide +kernel⟩
theorem obX8 : Cond.methodLink RX8 3 objectInit ∈ lw_G := (lw_G_in (List.mem_of_getElem? (i := 297) (by decide +kernel)) (by decide +kernel))
theorem clX10_43 : Cond.classLink RX10 43 RX3 ∈ lw_G := (lw_G_in (List.mem_of_getElem? (i := 315) (by decide +kernel)) (by decide +kernel))
theorem insX3 : Cond.instantiable RX3 3 ∈ lw_G := (lw_G_in (List.mem_of_getElem? (i := 316) (by decide +kernel)) (by decide +kernel))
theorem miX10_45 : OKIN RX10 RX10 45 yX3_init := ⟨List.mem_filter.mpr ⟨List.mem_of_getElem? (i := 317) (by decide +kernel), by decide +kernel⟩, (lw_G_in (List.mem_of_getElem? (i := 318) (by decide +kernel)) (by decide +kernel)), rfl⟩
theorem iniX3 : Cond.initialized RX3 ∈ lw_G := (lw_G_in (List.mem_of_getElem? (i := 105) (by decide +kernel)) (by decide +kernel))
theorem oiX3 : OKc yX3_init cX3_init 1 none 0 := ⟨(lw_G_in (List.mem_of_getElem? (i := 105) (by decide +kernel)) (by decide +kernel)), (lw_G_in (List.mem_of_getElem? (i := 319) (by decide +kernel)) (by decide +kernel)), by decide +kernel, by decide +kernel, by decide +kernel⟩
theorem obX3 : Cond.methodLink RX3 3 objectInit ∈ lw_G := (lw_G_in (List.mem_of_getElem? (i := 320) (by decide +kernel)) (by decide +kernel))
theorem clX10_50 : Cond.classLink RX10 50 RX0 ∈ lw_G := (lw_G_in (List.mem_of_getElem? (i := 331) (by decide +kernel)) (by decide +kernel))
theorem insX0 : Cond.instantiable RX0 2 ∈ lw_G := (lw_G_in (List.mem_of_getElem? (i := 332) (by decide +kernel)) (by decide +kernel))
theorem miX10_52 : OKI RX10 52 yX0_init := ⟨(lw_G_in (List.mem_of_getElem? (i := 333) (by decide +kernel)) (by decide +kernel)), (lw_G_in (List.mem_of_getElem? (i := 334) (by decide +kernel)) (by decide +kernel)), rfl⟩
theorem iniX0 : Cond.initialized RX0 ∈ lw_G := (lw_G_in (List.mem_of_getElem? (i := 106) (by decide +kernel)) (by decide +kernel))
theorem oiX0 : OKc yX0_init cX0_init 2 none 0 := ⟨(lw_G_in (List.mem_of_getElem? (i := 106) (by decide +kernel)) (by decide +kernel)), (lw_G_in (List.mem_of_getElem? (i := 335) (by decide +kernel)) (by decide +kernel)), by decide +kernel, by decide +kernel, by decide +kernel⟩
theorem obX0 : Cond.methodLink RX0 3 objectInit ∈ lw_G := (lw_G_in (List.mem_of_getElem? (i := 336) (by decide +kernel)) (by decide +kernel))
theorem clX0_9 : Cond.classLink RX0 9 RX8 ∈ lw_G := (lw_G_in (List.mem_of_getElem? (i := 337) (by decide +kernel)) (by decide +kernel))
theorem miX0_17 : OKIN RX0 RX10 17 yX8_init := ⟨List.mem_filter.mpr ⟨List.mem_of_getElem? (i := 339) (by decide +kernel), by decide +kernel⟩, (lw_G_in (List.mem_of_getElem? (i := 295) (by decide +kernel)) (by decide +kernel)), rfl⟩
theorem clX10_57 : Cond.classLink RX10 57 RX1 ∈ lw_G := (lw_G_in (List.mem_of_getElem? (i := 348) (by decide +kernel)) (by decide +kernel))
theorem miX10_59 : OKI RX10 59 yX1_init := ⟨(lw_G_in (List.mem_of_getElem? (i := 349) (by decide +kernel)) (by decide +kernel)), (lw_G_in (List.mem_of_getElem? (i := 129) (by decide +kernel)) (by decide +kernel)), rfl⟩
theorem clX10_68 : Cond.classLink RX10 68 RX9 ∈ lw_G := (lw_G_in (List.mem_of_getElem? (i := 350) (by decide +kernel)) (by decide +kernel))
theorem insX9 : Cond.instantiable RX9 3 ∈ lw_G := (lw_G_in (List.mem_of_getElem? (i := 351) (by decide +kernel)) (by decide +kernel))
theorem miX10_70 : OKIN RX10 RX10 70 yX9_init := ⟨List.mem_filter.mpr ⟨List.mem_of_getElem? (i := 352) (by decide +kernel), by decide +kernel⟩, (lw_G_in (List.mem_of_getElem? (i := 353) (by decide +kernel)) (by decide +kernel)), rfl⟩
theorem iniX9 : Cond.initialized RX9 ∈ lw_G := (lw_G_in (List.mem_of_getElem? (i := 107) (by decide +kernel)) (by decide +kernel))
theorem oiX9 : OKc yX9_init cX9_init 1 none 0 := ⟨(lw_G_in (List.mem_of_getElem? (i := 107) (by decide +kernel)) (by decide +kernel)), (lw_G_in (List.mem_of_getElem? (i := 354) (by decide +kernel)) (by decide +kernel)), by decide +kernel, by decide +kernel, by decide +kernel⟩
theorem obX9 : Cond.methodLink RX9 3 objectInit ∈ lw_G := (lw_G_in (List.mem_of_getElem? (i := 355) (by decide +kernel)) (by decide +kernel))
theorem clL_10 : Cond.classLink RL 10 RX11 ∈ lw_G := (lw_G_in (List.mem_of_getElem? (i := 1036) (by decide +kernel)) (by decide +kernel))
theorem insX11 : Cond.instantiable RX11 21 ∈ lw_G := (lw_G_in (List.mem_of_getElem? (i := 1037) (by decide +kernel)) (by decide +kernel))
theorem miL_12 : OKI RL 12 yX11_init := ⟨(lw_G_in (List.mem_of_getElem? (i := 1038) (by decide +kernel)) (by decide +kernel)), (lw_G_in (List.mem_of_getElem? (i := 1039) (by decide +kernel)) (by decide +kernel)), rfl⟩
theorem iniX11 : Cond.initialized RX11 ∈ lw_G := (lw_G_in (List.mem_of_getElem? (i := 108) (by decide +kernel)) (by decide +kernel))
theorem oiX11 : OKc yX11_init cX11_init 1 none 0 := ⟨(lw_G_in (List.mem_of_getElem? (i := 108) (by decide +kernel)) (by decide +kernel)), (lw_G_in (List.mem_of_getElem? (i := 1040) (by decide +kernel)) (by decide +kernel)), by decide +kernel, by decide +kernel, by decide +kernel⟩
theorem obX11 : Cond.methodLink RX11 1 objectInit ∈ lw_G := (lw_G_in (List.mem_of_getElem? (i := 1041) (by decide +kernel)) (by decide +kernel))
theorem ob_i : Cond.instanceMethod objectInit ∈ lw_G := (lw_G_in (List.mem_of_getElem? (i := 116) (by decide +kernel)) (by decide +kernel))
theorem ob_c : Cond.code objectInit ⟨#[0xb1]⟩ 1 none ∈ lw_G := (lw_G_in (List.mem_of_getElem? (i := 117) (by decide +kernel)) (by decide +kernel))
theorem arr_i : Cond.arrayClass .int ∈ lw_G := (lw_G_in (List.mem_of_getElem? (i := 200) (by decide +kernel)) (by decide +kernel))
theorem dX0_init_0 : decode cX0_init 0 = .ok (.aload_n 0, 1) := by decide +kernel
theorem dX0_init_1 : decode cX0_init 1 = .ok (.invokespecial 3, 3) := by decide +kernel
theorem dX0_init_4 : decode cX0_init 4 = .ok (.aload_n 0, 1) := by decide +kernel
theorem dX0_init_5 : decode cX0_init 5 = .ok (.bipush 10, 2) := by decide +kernel
theorem dX0_init_7 : decode cX0_init 7 = .ok (.anewarray 9, 3) := by decide +kernel
theorem dX0_init_10 : decode cX0_init 10 = .ok (.putfield 11, 3) := by decide +kernel
theorem dX0_init_13 : decode cX0_init 13 = .ok (.iconst 0, 1) := by decide +kernel
theorem dX0_init_14 : decode cX0_init 14 = .ok (.istore_n 1, 1) := by decide +kernel
theorem dX0_init_15 : decode cX0_init 15 = .ok (.iload_n 1, 1) := by decide +kernel
theorem dX0_init_16 : decode cX0_init 16 = .ok (.bipush 10, 2) := by decide +kernel
theorem dX0_init_18 : decode cX0_init 18 = .ok (.if_icmp .ge 22, 3) := by decide +kernel
theorem dX0_init_21 : decode cX0_init 21 = .ok (.aload_n 0, 1) := by decide +kernel
theorem dX0_init_22 : decode cX0_init 22 = .ok (.getfield 11, 3) := by decide +kernel
theorem dX0_init_25 : decode cX0_init 25 = .ok (.iload_n 1, 1) := by decide +kernel
theorem dX0_init_26 : decode cX0_init 26 = .ok (.new 9, 3) := by decide +kernel
theorem dX0_init_29 : decode cX0_init 29 = .ok (.dup, 1) := by decide +kernel
theorem dX0_init_30 : decode cX0_init 30 = .ok (.invokespecial 17, 3) := by decide +kernel
theorem dX0_init_33 : decode cX0_init 33 = .ok (.aastore, 1) := by decide +kernel
theorem dX0_init_34 : decode cX0_init 34 = .ok (.iinc 1 1, 3) := by decide +kernel
theorem dX0_init_37 : decode cX0_init 37 = .ok (.goto (-22), 3) := by decide +kernel
theorem dX0_init_40 : decode cX0_init 40 = .ok (.return_, 1) := by decide +kernel
theorem dX1_init_0 : decode cX1_init 0 = .ok (.aload_n 0, 1) := by decide +kernel
theorem dX1_init_1 : decode cX1_init 1 = .ok (.invokespecial 3, 3) := by decide +kernel
theorem dX1_init_4 : decode cX1_init 4 = .ok (.aload_n 0, 1) := by decide +kernel
theorem dX1_init_5 : decode cX1_init 5 = .ok (.bipush 10, 2) := by decide +kernel
theorem dX1_init_7 : decode cX1_init 7 = .ok (.anewarray 9, 3) := by decide +kernel
theorem dX1_init_10 : decode cX1_init 10 = .ok (.putfield 11, 3) := by decide +kernel
theorem dX1_init_13 : decode cX1_init 13 = .ok (.iconst 0, 1) := by decide +kernel
theorem dX1_init_14 : decode cX1_init 14 = .ok (.istore_n 1, 1) := by decide +kernel
theorem dX1_init_15 : decode cX1_init 15 = .ok (.iload_n 1, 1) := by decide +kernel
theorem dX1_init_16 : decode cX1_init 16 = .ok (.bipush 10, 2) := by decide +kernel
theorem dX1_init_18 : decode cX1_init 18 = .ok (.if_icmp .ge 22, 3) := by decide +kernel
theorem dX1_init_21 : decode cX1_init 21 = .ok (.aload_n 0, 1) := by decide +kernel
theorem dX1_init_22 : decode cX1_init 22 = .ok (.getfield 11, 3) := by decide +kernel
theorem dX1_init_25 : decode cX1_init 25 = .ok (.iload_n 1, 1) := by decide +kernel
theorem dX1_init_26 : decode cX1_init 26 = .ok (.new 9, 3) := by decide +kernel
theorem dX1_init_29 : decode cX1_init 29 = .ok (.dup, 1) := by decide +kernel
theorem dX1_init_30 : decode cX1_init 30 = .ok (.invokespecial 17, 3) := by decide +kernel
theorem dX1_init_33 : decode cX1_init 33 = .ok (.aastore, 1) := by decide +kernel
theorem dX1_init_34 : decode cX1_init 34 = .ok (.iinc 1 1, 3) := by decide +kernel
theorem dX1_init_37 : decode cX1_init 37 = .ok (.goto (-22), 3) := by decide +kernel
theorem dX1_init_40 : decode cX1_init 40 = .ok (.return_, 1) := by decide +kernel
theorem dX2_init_0 : decode cX2_init 0 = .ok (.aload_n 0, 1) := by decide +kernel
theorem dX2_init_1 : decode cX2_init 1 = .ok (.invokespecial 1, 3) := by decide +kernel
theorem dX2_init_4 : decode cX2_init 4 = .ok (.return_, 1) := by decide +kernel
theorem dX3_init_0 : decode cX3_init 0 = .ok (.aload_n 0, 1) := by decide +kernel
theorem dX3_init_1 : decode cX3_init 1 = .ok (.invokespecial 3, 3) := by decide +kernel
theorem dX3_init_4 : decode cX3_init 4 = .ok (.return_, 1) := by decide +kernel
theorem dX4_init_0 : decode cX4_init 0 = .ok (.aload_n 0, 1) := by decide +kernel
theorem dX4_init_1 : decode cX4_init 1 = .ok (.invokespecial 3, 3) := by decide +kernel
theorem dX4_init_4 : decode cX4_init 4 = .ok (.aload_n 0, 1) := by decide +kernel
theorem dX4_init_5 : decode cX4_init 5 = .ok (.iconst 5, 1) := by decide +kernel
theorem dX4_init_6 : decode cX4_init 6 = .ok (.anewarray 9, 3) := by decide +kernel
theorem dX4_init_9 : decode cX4_init 9 = .ok (.putfield 11, 3) := by decide +kernel
theorem dX4_init_12 : decode cX4_init 12 = .ok (.iconst 0, 1) := by decide +kernel
theorem dX4_init_13 : decode cX4_init 13 = .ok (.istore_n 1, 1) := by decide +kernel
theorem dX4_init_14 : decode cX4_init 14 = .ok (.iload_n 1, 1) := by decide +kernel
theorem dX4_init_15 : decode cX4_init 15 = .ok (.iconst 5, 1) := by decide +kernel
theorem dX4_init_16 : decode cX4_init 16 = .ok (.if_icmp .ge 22, 3) := by decide +kernel
theorem dX4_init_19 : decode cX4_init 19 = .ok (.aload_n 0, 1) := by decide +kernel
theorem dX4_init_20 : decode cX4_init 20 = .ok (.getfield 11, 3) := by decide +kernel
theorem dX4_init_23 : decode cX4_init 23 = .ok (.iload_n 1, 1) := by decide +kernel
theorem dX4_init_24 : decode cX4_init 24 = .ok (.new 9, 3) := by decide +kernel
theorem dX4_init_27 : decode cX4_init 27 = .ok (.dup, 1) := by decide +kernel
theorem dX4_init_28 : decode cX4_init 28 = .ok (.invokespecial 17, 3) := by decide +kernel
theorem dX4_init_31 : decode cX4_init 31 = .ok (.aastore, 1) := by decide +kernel
theorem dX4_init_32 : decode cX4_init 32 = .ok (.iinc 1 1, 3) := by decide +kernel
theorem dX4_init_35 : decode cX4_init 35 = .ok (.goto (-21), 3) := by decide +kernel
theorem dX4_init_38 : decode cX4_init 38 = .ok (.return_, 1) := by decide +kernel
theorem dX5_init_0 : decode cX5_init 0 = .ok (.aload_n 0, 1) := by decide +kernel
theorem dX5_init_1 : decode cX5_init 1 = .ok (.invokespecial 3, 3) := by decide +kernel
theorem dX5_init_4 : decode cX5_init 4 = .ok (.aload_n 0, 1) := by decide +kernel
theorem dX5_init_5 : decode cX5_init 5 = .ok (.bipush 10, 2) := by decide +kernel
theorem dX5_init_7 : decode cX5_init 7 = .ok (.newarray .int, 2) := by decide +kernel
theorem dX5_init_9 : decode cX5_init 9 = .ok (.putfield 9, 3) := by decide +kernel
theorem dX5_init_12 : decode cX5_init 12 = .ok (.aload_n 0, 1) := by decide +kernel
theorem dX5_init_13 : decode cX5_init 13 = .ok (.bipush 10, 2) := by decide +kernel
theorem dX5_init_15 : decode cX5_init 15 = .ok (.newarray .int, 2) := by decide +kernel
theorem dX5_init_17 : decode cX5_init 17 = .ok (.putfield 15, 3) := by decide +kernel
theorem dX5_init_20 : decode cX5_init 20 = .ok (.return_, 1) := by decide +kernel
theorem dX6_init_0 : decode cX6_init 0 = .ok (.aload_n 0, 1) := by decide +kernel
theorem dX6_init_1 : decode cX6_init 1 = .ok (.invokespecial 3, 3) := by decide +kernel
theorem dX6_init_4 : decode cX6_init 4 = .ok (.aload_n 0, 1) := by decide +kernel
theorem dX6_init_5 : decode cX6_init 5 = .ok (.iconst 4, 1) := by decide +kernel
theorem dX6_init_6 : decode cX6_init 6 = .ok (.anewarray 9, 3) := by decide +kernel
theorem dX6_init_9 : decode cX6_init 9 = .ok (.putfield 11, 3) := by decide +kernel
theorem dX6_init_12 : decode cX6_init 12 = .ok (.aload_n 0, 1) := by decide +kernel
theorem dX6_init_13 : decode cX6_init 13 = .ok (.new 17, 3) := by decide +kernel
theorem dX6_init_16 : decode cX6_init 16 = .ok (.dup, 1) := by decide +kernel
theorem dX6_init_17 : decode cX6_init 17 = .ok (.invokespecial 19, 3) := by decide +kernel
theorem dX6_init_20 : decode cX6_init 20 = .ok (.putfield 20, 3) := by decide +kernel
theorem dX6_init_23 : decode cX6_init 23 = .ok (.aload_n 0, 1) := by decide +kernel
theorem dX6_init_24 : decode cX6_init 24 = .ok (.iconst 5, 1) := by decide +kernel
theorem dX6_init_25 : decode cX6_init 25 = .ok (.newarray .int, 2) := by decide +kernel
theorem dX6_init_27 : decode cX6_init 27 = .ok (.putfield 24, 3) := by decide +kernel
theorem dX6_init_30 : decode cX6_init 30 = .ok (.aload_n 0, 1) := by decide +kernel
theorem dX6_init_31 : decode cX6_init 31 = .ok (.iconst 3, 1) := by decide +kernel
theorem dX6_init_32 : decode cX6_init 32 = .ok (.putfield 28, 3) := by decide +kernel
theorem dX6_init_35 : decode cX6_init 35 = .ok (.aload_n 0, 1) := by decide +kernel
theorem dX6_init_36 : decode cX6_init 36 = .ok (.iconst 4, 1) := by decide +kernel
theorem dX6_init_37 : decode cX6_init 37 = .ok (.putfield 32, 3) := by decide +kernel
theorem dX6_init_40 : decode cX6_init 40 = .ok (.iconst 0, 1) := by decide +kernel
theorem dX6_init_41 : decode cX6_init 41 = .ok (.istore_n 1, 1) := by decide +kernel
theorem dX6_init_42 : decode cX6_init 42 = .ok (.iload_n 1, 1) := by decide +kernel
theorem dX6_init_43 : decode cX6_init 43 = .ok (.iconst 4, 1) := by decide +kernel
theorem dX6_init_44 : decode cX6_init 44 = .ok (.if_icmp .ge 22, 3) := by decide +kernel
theorem dX6_init_47 : decode cX6_init 47 = .ok (.aload_n 0, 1) := by decide +kernel
theorem dX6_init_48 : decode cX6_init 48 = .ok (.getfield 11, 3) := by decide +kernel
theorem dX6_init_51 : decode cX6_init 51 = .ok (.iload_n 1, 1) := by decide +kernel
theorem dX6_init_52 : decode cX6_init 52 = .ok (.new 9, 3) := by decide +kernel
theorem dX6_init_55 : decode cX6_init 55 = .ok (.dup, 1) := by decide +kernel
theorem dX6_init_56 : decode cX6_init 56 = .ok (.invokespecial 35, 3) := by decide +kernel
theorem dX6_init_59 : decode cX6_init 59 = .ok (.aastore, 1) := by decide +kernel
theorem dX6_init_60 : decode cX6_init 60 = .ok (.iinc 1 1, 3) := by decide +kernel
theorem dX6_init_63 : decode cX6_init 63 = .ok (.goto (-21), 3) := by decide +kernel
theorem dX6_init_66 : decode cX6_init 66 = .ok (.return_, 1) := by decide +kernel
theorem dX7_init_0 : decode cX7_init 0 = .ok (.aload_n 0, 1) := by decide +kernel
theorem dX7_init_1 : decode cX7_init 1 = .ok (.invokespecial 3, 3) := by decide +kernel
theorem dX7_init_4 : decode cX7_init 4 = .ok (.aload_n 0, 1) := by decide +kernel
theorem dX7_init_5 : decode cX7_init 5 = .ok (.bipush 120, 2) := by decide +kernel
theorem dX7_init_7 : decode cX7_init 7 = .ok (.newarray .int, 2) := by decide +kernel
theorem dX7_init_9 : decode cX7_init 9 = .ok (.putfield 9, 3) := by decide +kernel
theorem dX7_init_12 : decode cX7_init 12 = .ok (.aload_n 0, 1) := by decide +kernel
theorem dX7_init_13 : decode cX7_init 13 = .ok (.bipush 120, 2) := by decide +kernel
theorem dX7_init_15 : decode cX7_init 15 = .ok (.newarray .int, 2) := by decide +kernel
theorem dX7_init_17 : decode cX7_init 17 = .ok (.putfield 15, 3) := by decide +kernel
theorem dX7_init_20 : decode cX7_init 20 = .ok (.aload_n 0, 1) := by decide +kernel
theorem dX7_init_21 : decode cX7_init 21 = .ok (.bipush 120, 2) := by decide +kernel
theorem dX7_init_23 : decode cX7_init 23 = .ok (.newarray .int, 2) := by decide +kernel
theorem dX7_init_25 : decode cX7_init 25 = .ok (.putfield 18, 3) := by decide +kernel
theorem dX7_init_28 : decode cX7_init 28 = .ok (.aload_n 0, 1) := by decide +kernel
theorem dX7_init_29 : decode cX7_init 29 = .ok (.bipush 120, 2) := by decide +kernel
theorem dX7_init_31 : decode cX7_init 31 = .ok (.newarray .int, 2) := by decide +kernel
theorem dX7_init_33 : decode cX7_init 33 = .ok (.putfield 21, 3) := by decide +kernel
theorem dX7_init_36 : decode cX7_init 36 = .ok (.return_, 1) := by decide +kernel
theorem dX8_init_0 : decode cX8_init 0 = .ok (.aload_n 0, 1) := by decide +kernel
theorem dX8_init_1 : decode cX8_init 1 = .ok (.invokespecial 3, 3) := by decide +kernel
theorem dX8_init_4 : decode cX8_init 4 = .ok (.aload_n 0, 1) := by decide +kernel
theorem dX8_init_5 : decode cX8_init 5 = .ok (.bipush 80, 2) := by decide +kernel
theorem dX8_init_7 : decode cX8_init 7 = .ok (.newarray .int, 2) := by decide +kernel
theorem dX8_init_9 : decode cX8_init 9 = .ok (.putfield 9, 3) := by decide +kernel
theorem dX8_init_12 : decode cX8_init 12 = .ok (.return_, 1) := by decide +kernel
theorem dX9_init_0 : decode cX9_init 0 = .ok (.aload_n 0, 1) := by decide +kernel
theorem dX9_init_1 : decode cX9_init 1 = .ok (.invokespecial 3, 3) := by decide +kernel
theorem dX9_init_4 : decode cX9_init 4 = .ok (.aload_n 0, 1) := by decide +kernel
theorem dX9_init_5 : decode cX9_init 5 = .ok (.iconst 5, 1) := by decide +kernel
theorem dX9_init_6 : decode cX9_init 6 = .ok (.newarray .int, 2) := by decide +kernel
theorem dX9_init_8 : decode cX9_init 8 = .ok (.putfield 9, 3) := by decide +kernel
theorem dX9_init_11 : decode cX9_init 11 = .ok (.aload_n 0, 1) := by decide +kernel
theorem dX9_init_12 : decode cX9_init 12 = .ok (.iconst 5, 1) := by decide +kernel
theorem dX9_init_13 : decode cX9_init 13 = .ok (.newarray .int, 2) := by decide +kernel
theorem dX9_init_15 : decode cX9_init 15 = .ok (.putfield 15, 3) := by decide +kernel
theorem dX9_init_18 : decode cX9_init 18 = .ok (.return_, 1) := by decide +kernel
theorem dX10_init_0 : decode cX10_init 0 = .ok (.aload_n 0, 1) := by decide +kernel
theorem dX10_init_1 : decode cX10_init 1 = .ok (.invokespecial 3, 3) := by decide +kernel
theorem dX10_init_4 : decode cX10_init 4 = .ok (.aload_n 0, 1) := by decide +kernel
theorem dX10_init_5 : decode cX10_init 5 = .ok (.new 9, 3) := by decide +kernel
theorem dX10_init_8 : decode cX10_init 8 = .ok (.dup, 1) := by decide +kernel
theorem dX10_init_9 : decode cX10_init 9 = .ok (.invokespecial 11, 3) := by decide +kernel
theorem dX10_init_12 : decode cX10_init 12 = .ok (.putfield 12, 3) := by decide +kernel
theorem dX10_init_15 : decode cX10_init 15 = .ok (.aload_n 0, 1) := by decide +kernel
theorem dX10_init_16 : decode cX10_init 16 = .ok (.new 9, 3) := by decide +kernel
theorem dX10_init_19 : decode cX10_init 19 = .ok (.dup, 1) := by decide +kernel
theorem dX10_init_20 : decode cX10_init 20 = .ok (.invokespecial 11, 3) := by decide +kernel
theorem dX10_init_23 : decode cX10_init 23 = .ok (.putfield 16, 3) := by decide +kernel
theorem dX10_init_26 : decode cX10_init 26 = .ok (.aload_n 0, 1) := by decide +kernel
theorem dX10_init_27 : decode cX10_init 27 = .ok (.new 19, 3) := by decide +kernel
theorem dX10_init_30 : decode cX10_init 30 = .ok (.dup, 1) := by decide +kernel
theorem dX10_init_31 : decode cX10_init 31 = .ok (.invokespecial 21, 3) := by decide +kernel
theorem dX10_init_34 : decode cX10_init 34 = .ok (.putfield 22, 3) := by decide +kernel
theorem dX10_init_37 : decode cX10_init 37 = .ok (.aload_n 0, 1) := by decide +kernel
theorem dX10_init_38 : decode cX10_init 38 = .ok (.new 26, 3) := by decide +kernel
theorem dX10_init_41 : decode cX10_init 41 = .ok (.dup, 1) := by decide +kernel
theorem dX10_init_42 : decode cX10_init 42 = .ok (.invokespecial 28, 3) := by decide +kernel
theorem dX10_init_45 : decode cX10_init 45 = .ok (.putfield 29, 3) := by decide +kernel
theorem dX10_init_48 : decode cX10_init 48 = .ok (.aload_n 0, 1) := by decide +kernel
theorem dX10_init_49 : decode cX10_init 49 = .ok (.new 33, 3) := by decide +kernel
theorem dX10_init_52 : decode cX10_init 52 = .ok (.dup, 1) := by decide +kernel
theorem dX10_init_53 : decode cX10_init 53 = .ok (.invokespecial 35, 3) := by decide +kernel
theorem dX10_init_56 : decode cX10_init 56 = .ok (.putfield 36, 3) := by decide +kernel
theorem dX10_init_59 : decode cX10_init 59 = .ok (.aload_n 0, 1) := by decide +kernel
theorem dX10_init_60 : decode cX10_init 60 = .ok (.new 33, 3) := by decide +kernel
theorem dX10_init_63 : decode cX10_init 63 = .ok (.dup, 1) := by decide +kernel
theorem dX10_init_64 : decode cX10_init 64 = .ok (.invokespecial 35, 3) := by decide +kernel
theorem dX10_init_67 : decode cX10_init 67 = .ok (.putfield 40, 3) := by decide +kernel
theorem dX10_init_70 : decode cX10_init 70 = .ok (.aload_n 0, 1) := by decide +kernel
theorem dX10_init_71 : decode cX10_init 71 = .ok (.new 43, 3) := by decide +kernel
theorem dX10_init_74 : decode cX10_init 74 = .ok (.dup, 1) := by decide +kernel
theorem dX10_init_75 : decode cX10_init 75 = .ok (.invokespecial 45, 3) := by decide +kernel
theorem dX10_init_78 : decode cX10_init 78 = .ok (.putfield 46, 3) := by decide +kernel
theorem dX10_init_81 : decode cX10_init 81 = .ok (.aload_n 0, 1) := by decide +kernel
theorem dX10_init_82 : decode cX10_init 82 = .ok (.new 50, 3) := by decide +kernel
theorem dX10_init_85 : decode cX10_init 85 = .ok (.dup, 1) := by decide +kernel
theorem dX10_init_86 : decode cX10_init 86 = .ok (.invokespecial 52, 3) := by decide +kernel
theorem dX10_init_89 : decode cX10_init 89 = .ok (.putfield 53, 3) := by decide +kernel
theorem dX10_init_92 : decode cX10_init 92 = .ok (.aload_n 0, 1) := by decide +kernel
theorem dX10_init_93 : decode cX10_init 93 = .ok (.new 57, 3) := by decide +kernel
theorem dX10_init_96 : decode cX10_init 96 = .ok (.dup, 1) := by decide +kernel
theorem dX10_init_97 : decode cX10_init 97 = .ok (.invokespecial 59, 3) := by decide +kernel
theorem dX10_init_100 : decode cX10_init 100 = .ok (.putfield 60, 3) := by decide +kernel
theorem dX10_init_103 : decode cX10_init 103 = .ok (.aload_n 0, 1) := by decide +kernel
theorem dX10_init_104 : decode cX10_init 104 = .ok (.iconst 4, 1) := by decide +kernel
theorem dX10_init_105 : decode cX10_init 105 = .ok (.newarray .int, 2) := by decide +kernel
theorem dX10_init_107 : decode cX10_init 107 = .ok (.putfield 64, 3) := by decide +kernel
theorem dX10_init_110 : decode cX10_init 110 = .ok (.aload_n 0, 1) := by decide +kernel
theorem dX10_init_111 : decode cX10_init 111 = .ok (.new 68, 3) := by decide +kernel
theorem dX10_init_114 : decode cX10_init 114 = .ok (.dup, 1) := by decide +kernel
theorem dX10_init_115 : decode cX10_init 115 = .ok (.invokespecial 70, 3) := by decide +kernel
theorem dX10_init_118 : decode cX10_init 118 = .ok (.putfield 71, 3) := by decide +kernel
theorem dX10_init_121 : decode cX10_init 121 = .ok (.return_, 1) := by decide +kernel
theorem dX11_init_0 : decode cX11_init 0 = .ok (.aload_n 0, 1) := by decide +kernel
theorem dX11_init_1 : decode cX11_init 1 = .ok (.invokespecial 1, 3) := by decide +kernel
theorem dX11_init_4 : decode cX11_init 4 = .ok (.aload_n 0, 1) := by decide +kernel
theorem dX11_init_5 : decode cX11_init 5 = .ok (.sipush 145, 3) := by decide +kernel
theorem dX11_init_8 : decode cX11_init 8 = .ok (.newarray .int, 2) := by decide +kernel
theorem dX11_init_10 : decode cX11_init 10 = .ok (.putfield 7, 3) := by decide +kernel
theorem dX11_init_13 : decode cX11_init 13 = .ok (.aload_n 0, 1) := by decide +kernel
theorem dX11_init_14 : decode cX11_init 14 = .ok (.sipush 725, 3) := by decide +kernel
theorem dX11_init_17 : decode cX11_init 17 = .ok (.newarray .int, 2) := by decide +kernel
theorem dX11_init_19 : decode cX11_init 19 = .ok (.putfield 13, 3) := by decide +kernel
theorem dX11_init_22 : decode cX11_init 22 = .ok (.aload_n 0, 1) := by decide +kernel
theorem dX11_init_23 : decode cX11_init 23 = .ok (.sipush 145, 3) := by decide +kernel
theorem dX11_init_26 : decode cX11_init 26 = .ok (.newarray .int, 2) := by decide +kernel
theorem dX11_init_28 : decode cX11_init 28 = .ok (.putfield 16, 3) := by decide +kernel
theorem dX11_init_31 : decode cX11_init 31 = .ok (.aload_n 0, 1) := by decide +kernel
theorem dX11_init_32 : decode cX11_init 32 = .ok (.iconst 3, 1) := by decide +kernel
theorem dX11_init_33 : decode cX11_init 33 = .ok (.newarray .int, 2) := by decide +kernel
theorem dX11_init_35 : decode cX11_init 35 = .ok (.putfield 19, 3) := by decide +kernel
theorem dX11_init_38 : decode cX11_init 38 = .ok (.aload_n 0, 1) := by decide +kernel
theorem dX11_init_39 : decode cX11_init 39 = .ok (.iconst 4, 1) := by decide +kernel
theorem dX11_init_40 : decode cX11_init 40 = .ok (.newarray .int, 2) := by decide +kernel
theorem dX11_init_42 : decode cX11_init 42 = .ok (.putfield 22, 3) := by decide +kernel
theorem dX11_init_45 : decode cX11_init 45 = .ok (.aload_n 0, 1) := by decide +kernel
theorem dX11_init_46 : decode cX11_init 46 = .ok (.iconst 4, 1) := by decide +kernel
theorem dX11_init_47 : decode cX11_init 47 = .ok (.newarray .int, 2) := by decide +kernel
theorem dX11_init_49 : decode cX11_init 49 = .ok (.putfield 25, 3) := by decide +kernel
theorem dX11_init_52 : decode cX11_init 52 = .ok (.aload_n 0, 1) := by decide +kernel
theorem dX11_init_53 : decode cX11_init 53 = .ok (.iconst 3, 1) := by decide +kernel
theorem dX11_init_54 : decode cX11_init 54 = .ok (.newarray .int, 2) := by decide +kernel
theorem dX11_init_56 : decode cX11_init 56 = .ok (.putfield 28, 3) := by decide +kernel
theorem dX11_init_59 : decode cX11_init 59 = .ok (.aload_n 0, 1) := by decide +kernel
theorem dX11_init_60 : decode cX11_init 60 = .ok (.bipush 40, 2) := by decide +kernel
theorem dX11_init_62 : decode cX11_init 62 = .ok (.newarray .int, 2) := by decide +kernel
theorem dX11_init_64 : decode cX11_init 64 = .ok (.putfield 31, 3) := by decide +kernel
theorem dX11_init_67 : decode cX11_init 67 = .ok (.aload_n 0, 1) := by decide +kernel
theorem dX11_init_68 : decode cX11_init 68 = .ok (.bipush 80, 2) := by decide +kernel
theorem dX11_init_70 : decode cX11_init 70 = .ok (.newarray .int, 2) := by decide +kernel
theorem dX11_init_72 : decode cX11_init 72 = .ok (.putfield 34, 3) := by decide +kernel
theorem dX11_init_75 : decode cX11_init 75 = .ok (.aload_n 0, 1) := by decide +kernel
theorem dX11_init_76 : decode cX11_init 76 = .ok (.bipush 24, 2) := by decide +kernel
theorem dX11_init_78 : decode cX11_init 78 = .ok (.newarray .int, 2) := by decide +kernel
theorem dX11_init_80 : decode cX11_init 80 = .ok (.putfield 37, 3) := by decide +kernel
theorem dX11_init_83 : decode cX11_init 83 = .ok (.aload_n 0, 1) := by decide +kernel
theorem dX11_init_84 : decode cX11_init 84 = .ok (.bipush 36, 2) := by decide +kernel
theorem dX11_init_86 : decode cX11_init 86 = .ok (.newarray .int, 2) := by decide +kernel
theorem dX11_init_88 : decode cX11_init 88 = .ok (.putfield 40, 3) := by decide +kernel
theorem dX11_init_91 : decode cX11_init 91 = .ok (.aload_n 0, 1) := by decide +kernel
theorem dX11_init_92 : decode cX11_init 92 = .ok (.iconst 5, 1) := by decide +kernel
theorem dX11_init_93 : decode cX11_init 93 = .ok (.newarray .int, 2) := by decide +kernel
theorem dX11_init_95 : decode cX11_init 95 = .ok (.putfield 43, 3) := by decide +kernel
theorem dX11_init_98 : decode cX11_init 98 = .ok (.aload_n 0, 1) := by decide +kernel
theorem dX11_init_99 : decode cX11_init 99 = .ok (.iconst 5, 1) := by decide +kernel
theorem dX11_init_100 : decode cX11_init 100 = .ok (.newarray .int, 2) := by decide +kernel
theorem dX11_init_102 : decode cX11_init 102 = .ok (.putfield 46, 3) := by decide +kernel
theorem dX11_init_105 : decode cX11_init 105 = .ok (.aload_n 0, 1) := by decide +kernel
theorem dX11_init_106 : decode cX11_init 106 = .ok (.bipush 120, 2) := by decide +kernel
theorem dX11_init_108 : decode cX11_init 108 = .ok (.newarray .int, 2) := by decide +kernel
theorem dX11_init_110 : decode cX11_init 110 = .ok (.putfield 49, 3) := by decide +kernel
theorem dX11_init_113 : decode cX11_init 113 = .ok (.aload_n 0, 1) := by decide +kernel
theorem dX11_init_114 : decode cX11_init 114 = .ok (.iconst 5, 1) := by decide +kernel
theorem dX11_init_115 : decode cX11_init 115 = .ok (.newarray .int, 2) := by decide +kernel
theorem dX11_init_117 : decode cX11_init 117 = .ok (.putfield 52, 3) := by decide +kernel
theorem dX11_init_120 : decode cX11_init 120 = .ok (.aload_n 0, 1) := by decide +kernel
theorem dX11_init_121 : decode cX11_init 121 = .ok (.getfield 7, 3) := by decide +kernel
theorem dX11_init_124 : decode cX11_init 124 = .ok (.sipush 135, 3) := by decide +kernel
theorem dX11_init_127 : decode cX11_init 127 = .ok (.iconst 3, 1) := by decide +kernel
theorem dX11_init_128 : decode cX11_init 128 = .ok (.iastore, 1) := by decide +kernel
theorem dX11_init_129 : decode cX11_init 129 = .ok (.aload_n 0, 1) := by decide +kernel
theorem dX11_init_130 : decode cX11_init 130 = .ok (.getfield 7, 3) := by decide +kernel
theorem dX11_init_133 : decode cX11_init 133 = .ok (.sipush 137, 3) := by decide +kernel
theorem dX11_init_136 : decode cX11_init 136 = .ok (.iconst 4, 1) := by decide +kernel
theorem dX11_init_137 : decode cX11_init 137 = .ok (.iastore, 1) := by decide +kernel
theorem dX11_init_138 : decode cX11_init 138 = .ok (.return_, 1) := by decide +kernel
