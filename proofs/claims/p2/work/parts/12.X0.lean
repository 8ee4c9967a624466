/-! instructions, fields, calls -/
def dl_X0_init_0 : List (Nat × Instr × Nat) := [(0, .aload_n 0, 1), (1, .invokespecial 3, 3), (4, .aload_n 0, 1), (5, .new 9, 3), (8, .dup, 1), (9, .invokespecial 11, 3), (12, .putfield 12, 3), (15, .aload_n 0, 1), (16, .new 9, 3), (19, .dup, 1), (20, .invokespecial 11, 3), (23, .putfield 18, 3), (26, .aload_n 0, 1), (27, .new 9, 3), (30, .dup, 1), (31, .invokespecial 11, 3), (34, .putfield 21, 3), (37, .aload_n 0, 1), (38, .new 9, 3), (41, .dup, 1), (42, .invokespecial 11, 3), (45, .putfield 24, 3), (48, .aload_n 0, 1), (49, .new 9, 3), (52, .dup, 1), (53, .invokespecial 11, 3), (56, .putfield 27, 3), (59, .return_, 1)]
theorem da_X0_init_0 : dcAll M_X0_init.2.1 dl_X0_init_0 = true := by decide +kernel
theorem q_X0_init_0 : decode M_X0_init.2.1 0 = .ok (.aload_n 0, 1) ∧ 0 + 1 = 1 := ⟨dcAll_e (i := 0) da_X0_init_0 rfl, rfl⟩
theorem q_X0_init_1 : decode M_X0_init.2.1 1 = .ok (.invokespecial 3, 3) ∧ 1 + 3 = 4 := ⟨dcAll_e (i := 1) da_X0_init_0 rfl, rfl⟩
theorem o_RX0_3 : Cond.methodLink RX0 3 Lib.objectInit ∈ en_tbl := by decide +kernel
theorem q_X0_init_4 : decode M_X0_init.2.1 4 = .ok (.aload_n 0, 1) ∧ 4 + 1 = 5 := ⟨dcAll_e (i := 2) da_X0_init_0 rfl, rfl⟩
theorem q_X0_init_5 : decode M_X0_init.2.1 5 = .ok (.new 9, 3) ∧ 5 + 3 = 8 := ⟨dcAll_e (i := 3) da_X0_init_0 rfl, rfl⟩
theorem n_RX0_9 : en_N RX0 9 1 3 [.int 0, .int 0, .null] := ⟨RX1, TX1, tyX1, rfl, by decide +kernel, by decide +kernel, in_X1, uw_X1, tyX1_ok, fun j hj => by match j, hj with | 0, _ => rfl | 1, _ => rfl | 2, _ => rfl | j + 3, h => omega⟩
theorem q_X0_init_8 : decode M_X0_init.2.1 8 = .ok (.dup, 1) ∧ 8 + 1 = 9 := ⟨dcAll_e (i := 4) da_X0_init_0 rfl, rfl⟩
theorem q_X0_init_9 : decode M_X0_init.2.1 9 = .ok (.invokespecial 11, 3) ∧ 9 + 3 = 12 := ⟨dcAll_e (i := 5) da_X0_init_0 rfl, rfl⟩
theorem cd_X1_init : Cond.code M_X1_init.1 M_X1_init.2.1 M_X1_init.2.2.1 M_X1_init.2.2.2.1 ∈ en_tbl := inT1 38 rfl rfl
theorem g_X0_init_9 : en_CN M_X0_init M_X1_init 11 0 "EnclosedDigits" := ⟨⟨by decide +kernel, in_X1, cd_X1_init⟩, ⟨by decide, by decide, by decide +kernel⟩, by decide, by decide⟩
theorem w_X1_init : Cond.instanceMethod M_X1_init.1 ∈ en_tbl := inT1 37 rfl rfl
theorem q_X0_init_12 : decode M_X0_init.2.1 12 = .ok (.putfield 12, 3) ∧ 12 + 3 = 15 := ⟨dcAll_e (i := 6) da_X0_init_0 rfl, rfl⟩
theorem p_RX0_12 : en_Fp RX0 12 0 0 true (.object "EnclosedDigits$Big") := ⟨RX0, TX0, 5, tyX0, rfl, by decide, rfl, inT1 58 rfl rfl, uw_X0, tyX0_ok, nmX0, rfl, by decide +kernel⟩
theorem q_X0_init_15 : decode M_X0_init.2.1 15 = .ok (.aload_n 0, 1) ∧ 15 + 1 = 16 := ⟨dcAll_e (i := 7) da_X0_init_0 rfl, rfl⟩
theorem q_X0_init_16 : decode M_X0_init.2.1 16 = .ok (.new 9, 3) ∧ 16 + 3 = 19 := ⟨dcAll_e (i := 8) da_X0_init_0 rfl, rfl⟩
theorem q_X0_init_19 : decode M_X0_init.2.1 19 = .ok (.dup, 1) ∧ 19 + 1 = 20 := ⟨dcAll_e (i := 9) da_X0_init_0 rfl, rfl⟩
theorem q_X0_init_20 : decode M_X0_init.2.1 20 = .ok (.invokespecial 11, 3) ∧ 20 + 3 = 23 := ⟨dcAll_e (i := 10) da_X0_init_0 rfl, rfl⟩
theorem g_X0_init_20 : en_CN M_X0_init M_X1_init 11 0 "EnclosedDigits" := ⟨⟨by decide +kernel, in_X1, cd_X1_init⟩, ⟨by decide, by decide, by decide +kernel⟩, by decide, by decide⟩
theorem q_X0_init_23 : decode M_X0_init.2.1 23 = .ok (.putfield 18, 3) ∧ 23 + 3 = 26 := ⟨dcAll_e (i := 11) da_X0_init_0 rfl, rfl⟩
theorem p_RX0_18 : en_Fp RX0 18 0 1 true (.object "EnclosedDigits$Big") := ⟨RX0, TX0, 5, tyX0, rfl, by decide, rfl, inT1 59 rfl rfl, uw_X0, tyX0_ok, nmX0, rfl, by decide +kernel⟩
theorem q_X0_init_26 : decode M_X0_init.2.1 26 = .ok (.aload_n 0, 1) ∧ 26 + 1 = 27 := ⟨dcAll_e (i := 12) da_X0_init_0 rfl, rfl⟩
theorem q_X0_init_27 : decode M_X0_init.2.1 27 = .ok (.new 9, 3) ∧ 27 + 3 = 30 := ⟨dcAll_e (i := 13) da_X0_init_0 rfl, rfl⟩
theorem q_X0_init_30 : decode M_X0_init.2.1 30 = .ok (.dup, 1) ∧ 30 + 1 = 31 := ⟨dcAll_e (i := 14) da_X0_init_0 rfl, rfl⟩
theorem q_X0_init_31 : decode M_X0_init.2.1 31 = .ok (.invokespecial 11, 3) ∧ 31 + 3 = 34 := ⟨dcAll_e (i := 15) da_X0_init_0 rfl, rfl⟩
theorem g_X0_init_31 : en_CN M_X0_init M_X1_init 11 0 "EnclosedDigits" := ⟨⟨by decide +kernel, in_X1, cd_X1_init⟩, ⟨by decide, by decide, by decide +kernel⟩, by decide, by decide⟩
theorem q_X0_init_34 : decode M_X0_init.2.1 34 = .ok (.putfield 21, 3) ∧ 34 + 3 = 37 := ⟨dcAll_e (i := 16) da_X0_init_0 rfl, rfl⟩
theorem p_RX0_21 : en_Fp RX0 21 0 2 true (.object "EnclosedDigits$Big") := ⟨RX0, TX0, 5, tyX0, rfl, by decide, rfl, inT1 60 rfl rfl, uw_X0, tyX0_ok, nmX0, rfl, by decide +kernel⟩
theorem q_X0_init_37 : decode M_X0_init.2.1 37 = .ok (.aload_n 0, 1) ∧ 37 + 1 = 38 := ⟨dcAll_e (i := 17) da_X0_init_0 rfl, rfl⟩
theorem q_X0_init_38 : decode M_X0_init.2.1 38 = .ok (.new 9, 3) ∧ 38 + 3 = 41 := ⟨dcAll_e (i := 18) da_X0_init_0 rfl, rfl⟩
theorem q_X0_init_41 : decode M_X0_init.2.1 41 = .ok (.dup, 1) ∧ 41 + 1 = 42 := ⟨dcAll_e (i := 19) da_X0_init_0 rfl, rfl⟩
theorem q_X0_init_42 : decode M_X0_init.2.1 42 = .ok (.invokespecial 11, 3) ∧ 42 + 3 = 45 := ⟨dcAll_e (i := 20) da_X0_init_0 rfl, rfl⟩
theorem g_X0_init_42 : en_CN M_X0_init M_X1_init 11 0 "EnclosedDigits" := ⟨⟨by decide +kernel, in_X1, cd_X1_init⟩, ⟨by decide, by decide, by decide +kernel⟩, by decide, by decide⟩
theorem q_X0_init_45 : decode M_X0_init.2.1 45 = .ok (.putfield 24, 3) ∧ 45 + 3 = 48 := ⟨dcAll_e (i := 21) da_X0_init_0 rfl, rfl⟩
theorem p_RX0_24 : en_Fp RX0 24 0 3 true (.object "EnclosedDigits$Big") := ⟨RX0, TX0, 5, tyX0, rfl, by decide, rfl, inT1 61 rfl rfl, uw_X0, tyX0_ok, nmX0, rfl, by decide +kernel⟩
theorem q_X0_init_48 : decode M_X0_init.2.1 48 = .ok (.aload_n 0, 1) ∧ 48 + 1 = 49 := ⟨dcAll_e (i := 22) da_X0_init_0 rfl, rfl⟩
theorem q_X0_init_49 : decode M_X0_init.2.1 49 = .ok (.new 9, 3) ∧ 49 + 3 = 52 := ⟨dcAll_e (i := 23) da_X0_init_0 rfl, rfl⟩
theorem q_X0_init_52 : decode M_X0_init.2.1 52 = .ok (.dup, 1) ∧ 52 + 1 = 53 := ⟨dcAll_e (i := 24) da_X0_init_0 rfl, rfl⟩
theorem q_X0_init_53 : decode M_X0_init.2.1 53 = .ok (.invokespecial 11, 3) ∧ 53 + 3 = 56 := ⟨dcAll_e (i := 25) da_X0_init_0 rfl, rfl⟩
theorem g_X0_init_53 : en_CN M_X0_init M_X1_init 11 0 "EnclosedDigits" := ⟨⟨by decide +kernel, in_X1, cd_X1_init⟩, ⟨by decide, by decide, by decide +kernel⟩, by decide, by decide⟩
theorem q_X0_init_56 : decode M_X0_init.2.1 56 = .ok (.putfield 27, 3) ∧ 56 + 3 = 59 := ⟨dcAll_e (i := 26) da_X0_init_0 rfl, rfl⟩
theorem p_RX0_27 : en_Fp RX0 27 0 4 true (.object "EnclosedDigits$Big") := ⟨RX0, TX0, 5, tyX0, rfl, by decide, rfl, inT1 62 rfl rfl, uw_X0, tyX0_ok, nmX0, rfl, by decide +kernel⟩
theorem q_X0_init_59 : decode M_X0_init.2.1 59 = .ok (.return_, 1) ∧ 59 + 1 = 60 := ⟨dcAll_e (i := 27) da_X0_init_0 rfl, rfl⟩
def dl_X0_divide_0 : List (Nat × Instr × Nat) := [(0, .aload_n 0, 1), (1, .getfield 12, 3), (4, .aload_n 1, 1), (5, .invokevirtual 30, 3), (8, .aload_n 0, 1), (9, .getfield 18, 3), (12, .aload_n 2, 1), (13, .invokevirtual 30, 3), (16, .aload_n 0, 1), (17, .getfield 12, 3), (20, .aload_n 1, 1), (21, .getfield 34, 3), (24, .invokestatic 38, 3), (27, .putfield 34, 3), (30, .aload_n 3, 1), (31, .invokevirtual 44, 3), (34, .aload_n 0, 1), (35, .getfield 12, 3), (38, .getfield 47, 3), (41, .aload_n 0, 1), (42, .getfield 18, 3), (45, .getfield 47, 3), (48, .isub, 1), (49, .iconst 1, 1), (50, .iadd, 1), (51, .istore 5, 2), (53, .aload_n 0, 1), (54, .getfield 18, 3), (57, .getfield 47, 3), (60, .ifCond .ne 13, 3), (63, .aload_n 0, 1), (64, .getfield 12, 3), (67, .invokevirtual 44, 3), (70, .goto 169, 3), (73, .aload_n 0, 1), (74, .getfield 18, 3), (77, .getfield 47, 3), (80, .iconst 1, 1), (81, .if_icmp .ne 34, 3), (84, .aload_n 3, 1)]
theorem da_X0_divide_0 : dcAll M_X0_divide.2.1 dl_X0_divide_0 = true := by decide +kernel
def dl_X0_divide_1 : List (Nat × Instr × Nat) := [(85, .aload_n 0, 1), (86, .getfield 12, 3), (89, .invokevirtual 30, 3), (92, .aload_n 0, 1), (93, .getfield 12, 3), (96, .aload_n 3, 1), (97, .aload_n 0, 1), (98, .getfield 18, 3), (101, .iconst 0, 1), (102, .invokevirtual 50, 3), (105, .i2l, 1), (106, .invokevirtual 53, 3), (109, .invokevirtual 57, 3), (112, .goto 127, 3), (115, .iload 5, 2), (117, .ifCond .le 122, 3), (120, .ldc 61, 2), (122, .aload_n 0, 1), (123, .getfield 18, 3), (126, .aload_n 0, 1), (127, .getfield 18, 3), (130, .getfield 47, 3), (133, .iconst 1, 1), (134, .isub, 1), (135, .invokevirtual 50, 3), (138, .iconst 1, 1), (139, .iadd, 1), (140, .idiv, 1), (141, .istore 6, 2), (143, .aload_n 0, 1), (144, .getfield 12, 3), (147, .aload_n 0, 1), (148, .getfield 12, 3), (151, .getfield 47, 3), (154, .iconst 1, 1), (155, .iadd, 1), (156, .invokevirtual 62, 3), (159, .aload_n 0, 1), (160, .getfield 12, 3), (163, .iload 6, 2)]
theorem da_X0_divide_1 : dcAll M_X0_divide.2.1 dl_X0_divide_1 = true := by decide +kernel
def dl_X0_divide_2 : List (Nat × Instr × Nat) := [(165, .i2l, 1), (166, .invokevirtual 66, 3), (169, .aload_n 0, 1), (170, .getfield 18, 3), (173, .iload 6, 2), (175, .i2l, 1), (176, .invokevirtual 66, 3), (179, .aload_n 3, 1), (180, .iload 5, 2), (182, .invokevirtual 62, 3), (185, .iload 5, 2), (187, .iconst 1, 1), (188, .isub, 1), (189, .istore 7, 2), (191, .iload 7, 2), (193, .ifCond .lt 22, 3), (196, .aload_n 3, 1), (197, .getfield 69, 3), (200, .iload 7, 2), (202, .aload_n 0, 1), (203, .iload 7, 2), (205, .invokevirtual 73, 3), (208, .iastore, 1), (209, .iinc 7 (-1), 3), (212, .goto (-21), 3), (215, .aload_n 3, 1), (216, .iconst 1, 1), (217, .invokevirtual 76, 3), (220, .aload_n 0, 1), (221, .getfield 12, 3), (224, .iconst 1, 1), (225, .invokevirtual 76, 3), (228, .aload_n 0, 1), (229, .getfield 12, 3), (232, .iload 6, 2), (234, .i2l, 1), (235, .invokevirtual 53, 3), (238, .pop2, 1), (239, .aload 4, 2), (241, .aload_n 0, 1)]
theorem da_X0_divide_2 : dcAll M_X0_divide.2.1 dl_X0_divide_2 = true := by decide +kernel
def dl_X0_divide_3 : List (Nat × Instr × Nat) := [(242, .getfield 12, 3), (245, .invokevirtual 30, 3), (248, .return_, 1)]
theorem da_X0_divide_3 : dcAll M_X0_divide.2.1 dl_X0_divide_3 = true := by decide +kernel
theorem q_X0_divide_0 : decode M_X0_divide.2.1 0 = .ok (.aload_n 0, 1) ∧ 0 + 1 = 1 := ⟨dcAll_e (i := 0) da_X0_divide_0 rfl, rfl⟩
theorem q_X0_divide_1 : decode M_X0_divide.2.1 1 = .ok (.getfield 12, 3) ∧ 1 + 3 = 4 := ⟨dcAll_e (i := 1) da_X0_divide_0 rfl, rfl⟩
theorem f_RX0_12 : en_F RX0 12 0 0 := ⟨RX0, TX0, 5, rfl, by decide, rfl, inT1 58 rfl rfl, uw_X0⟩
theorem q_X0_divide_4 : decode M_X0_divide.2.1 4 = .ok (.aload_n 1, 1) ∧ 4 + 1 = 5 := ⟨dcAll_e (i := 2) da_X0_divide_0 rfl, rfl⟩
theorem q_X0_divide_5 : decode M_X0_divide.2.1 5 = .ok (.invokevirtual 30, 3) ∧ 5 + 3 = 8 := ⟨dcAll_e (i := 3) da_X0_divide_0 rfl, rfl⟩
theorem cd_X1_copy : Cond.code M_X1_copy.1 M_X1_copy.2.1 M_X1_copy.2.2.1 M_X1_copy.2.2.2.1 ∈ en_tbl := inT2 151 rfl rfl
theorem g_X0_divide_5 : en_C M_X0_divide M_X1_copy 30 1 := ⟨⟨inT2 164 rfl rfl, in_X1, cd_X1_copy⟩, ⟨by decide, by decide, by decide +kernel⟩, by decide, by decide⟩
theorem w_X1_copy : Cond.instanceMethod M_X1_copy.1 ∈ en_tbl ∧ Cond.selects M_X1_copy.1.cls M_X1_copy.1 M_X1_copy.1 ∈ en_tbl := ⟨inT2 149 rfl rfl, inT2 150 rfl rfl⟩
theorem q_X0_divide_8 : decode M_X0_divide.2.1 8 = .ok (.aload_n 0, 1) ∧ 8 + 1 = 9 := ⟨dcAll_e (i := 4) da_X0_divide_0 rfl, rfl⟩
theorem q_X0_divide_9 : decode M_X0_divide.2.1 9 = .ok (.getfield 18, 3) ∧ 9 + 3 = 12 := ⟨dcAll_e (i := 5) da_X0_divide_0 rfl, rfl⟩
theorem f_RX0_18 : en_F RX0 18 0 1 := ⟨RX0, TX0, 5, rfl, by decide, rfl, inT1 59 rfl rfl, uw_X0⟩
theorem q_X0_divide_12 : decode M_X0_divide.2.1 12 = .ok (.aload_n 2, 1) ∧ 12 + 1 = 13 := ⟨dcAll_e (i := 6) da_X0_divide_0 rfl, rfl⟩
theorem q_X0_divide_13 : decode M_X0_divide.2.1 13 = .ok (.invokevirtual 30, 3) ∧ 13 + 3 = 16 := ⟨dcAll_e (i := 7) da_X0_divide_0 rfl, rfl⟩
theorem g_X0_divide_13 : en_C M_X0_divide M_X1_copy 30 1 := ⟨⟨inT2 164 rfl rfl, in_X1, cd_X1_copy⟩, ⟨by decide, by decide, by decide +kernel⟩, by decide, by decide⟩
theorem q_X0_divide_16 : decode M_X0_divide.2.1 16 = .ok (.aload_n 0, 1) ∧ 16 + 1 = 17 := ⟨dcAll_e (i := 8) da_X0_divide_0 rfl, rfl⟩
theorem q_X0_divide_17 : decode M_X0_divide.2.1 17 = .ok (.getfield 12, 3) ∧ 17 + 3 = 20 := ⟨dcAll_e (i := 9) da_X0_divide_0 rfl, rfl⟩
theorem q_X0_divide_20 : decode M_X0_divide.2.1 20 = .ok (.aload_n 1, 1) ∧ 20 + 1 = 21 := ⟨dcAll_e (i := 10) da_X0_divide_0 rfl, rfl⟩
theorem q_X0_divide_21 : decode M_X0_divide.2.1 21 = .ok (.getfield 34, 3) ∧ 21 + 3 = 24 := ⟨dcAll_e (i := 11) da_X0_divide_0 rfl, rfl⟩
theorem f_RX0_34 : en_F RX0 34 1 0 := ⟨RX1, TX1, 3, rfl, by decide, rfl, inT1 40 rfl rfl, uw_X1⟩
theorem q_X0_divide_24 : decode M_X0_divide.2.1 24 = .ok (.invokestatic 38, 3) ∧ 24 + 3 = 27 := ⟨dcAll_e (i := 12) da_X0_divide_0 rfl, rfl⟩
theorem a_RX0_38 : Cond.methodLink RX0 38 Lib.Math.abs.name ∈ en_tbl := by decide +kernel
theorem q_X0_divide_27 : decode M_X0_divide.2.1 27 = .ok (.putfield 34, 3) ∧ 27 + 3 = 30 := ⟨dcAll_e (i := 13) da_X0_divide_0 rfl, rfl⟩
theorem p_RX0_34 : en_Fp RX0 34 1 0 false .int := ⟨RX1, TX1, 3, tyX1, rfl, by decide, rfl, inT1 40 rfl rfl, uw_X1, tyX1_ok, nmX1, rfl, by decide +kernel⟩
theorem q_X0_divide_30 : decode M_X0_divide.2.1 30 = .ok (.aload_n 3, 1) ∧ 30 + 1 = 31 := ⟨dcAll_e (i := 14) da_X0_divide_0 rfl, rfl⟩
theorem q_X0_divide_31 : decode M_X0_divide.2.1 31 = .ok (.invokevirtual 44, 3) ∧ 31 + 3 = 34 := ⟨dcAll_e (i := 15) da_X0_divide_0 rfl, rfl⟩
theorem g_X0_divide_31 : en_C M_X0_divide M_X1_clear 44 0 := ⟨⟨inT2 168 rfl rfl, in_X1, cd_X1_clear⟩, ⟨by decide, by decide, by decide +kernel⟩, by decide, by decide⟩
theorem q_X0_divide_34 : decode M_X0_divide.2.1 34 = .ok (.aload_n 0, 1) ∧ 34 + 1 = 35 := ⟨dcAll_e (i := 16) da_X0_divide_0 rfl, rfl⟩
theorem q_X0_divide_35 : decode M_X0_divide.2.1 35 = .ok (.getfield 12, 3) ∧ 35 + 3 = 38 := ⟨dcAll_e (i := 17) da_X0_divide_0 rfl, rfl⟩
theorem q_X0_divide_38 : decode M_X0_divide.2.1 38 = .ok (.getfield 47, 3) ∧ 38 + 3 = 41 := ⟨dcAll_e (i := 18) da_X0_divide_0 rfl, rfl⟩
theorem f_RX0_47 : en_F RX0 47 1 1 := ⟨RX1, TX1, 3, rfl, by decide, rfl, inT1 47 rfl rfl, uw_X1⟩
theorem q_X0_divide_41 : decode M_X0_divide.2.1 41 = .ok (.aload_n 0, 1) ∧ 41 + 1 = 42 := ⟨dcAll_e (i := 19) da_X0_divide_0 rfl, rfl⟩
theorem q_X0_divide_42 : decode M_X0_divide.2.1 42 = .ok (.getfield 18, 3) ∧ 42 + 3 = 45 := ⟨dcAll_e (i := 20) da_X0_divide_0 rfl, rfl⟩
theorem q_X0_divide_45 : decode M_X0_divide.2.1 45 = .ok (.getfield 47, 3) ∧ 45 + 3 = 48 := ⟨dcAll_e (i := 21) da_X0_divide_0 rfl, rfl⟩
theorem q_X0_divide_48 : decode M_X0_divide.2.1 48 = .ok (.isub, 1) ∧ 48 + 1 = 49 := ⟨dcAll_e (i := 22) da_X0_divide_0 rfl, rfl⟩
theorem q_X0_divide_49 : decode M_X0_divide.2.1 49 = .ok (.iconst 1, 1) ∧ 49 + 1 = 50 := ⟨dcAll_e (i := 23) da_X0_divide_0 rfl, rfl⟩
theorem q_X0_divide_50 : decode M_X0_divide.2.1 50 = .ok (.iadd, 1) ∧ 50 + 1 = 51 := ⟨dcAll_e (i := 24) da_X0_divide_0 rfl, rfl⟩
theorem q_X0_divide_51 : decode M_X0_divide.2.1 51 = .ok (.istore 5, 2) ∧ 51 + 2 = 53 := ⟨dcAll_e (i := 25) da_X0_divide_0 rfl, rfl⟩
theorem q_X0_divide_53 : decode M_X0_divide.2.1 53 = .ok (.aload_n 0, 1) ∧ 53 + 1 = 54 := ⟨dcAll_e (i := 26) da_X0_divide_0 rfl, rfl⟩
theorem q_X0_divide_54 : decode M_X0_divide.2.1 54 = .ok (.getfield 18, 3) ∧ 54 + 3 = 57 := ⟨dcAll_e (i := 27) da_X0_divide_0 rfl, rfl⟩
theorem q_X0_divide_57 : decode M_X0_divide.2.1 57 = .ok (.getfield 47, 3) ∧ 57 + 3 = 60 := ⟨dcAll_e (i := 28) da_X0_divide_0 rfl, rfl⟩
theorem q_X0_divide_60 : decode M_X0_divide.2.1 60 = .ok (.ifCond .ne 13, 3) ∧ 60 + 3 = 63 ∧ ((60 : Nat) : Int) + 13 = ((73 : Nat) : Int) := ⟨dcAll_e (i := 29) da_X0_divide_0 rfl, rfl, rfl⟩
theorem q_X0_divide_63 : decode M_X0_divide.2.1 63 = .ok (.aload_n 0, 1) ∧ 63 + 1 = 64 := ⟨dcAll_e (i := 30) da_X0_divide_0 rfl, rfl⟩
theorem q_X0_divide_64 : decode M_X0_divide.2.1 64 = .ok (.getfield 12, 3) ∧ 64 + 3 = 67 := ⟨dcAll_e (i := 31) da_X0_divide_0 rfl, rfl⟩
theorem q_X0_divide_67 : decode M_X0_divide.2.1 67 = .ok (.invokevirtual 44, 3) ∧ 67 + 3 = 70 := ⟨dcAll_e (i := 32) da_X0_divide_0 rfl, rfl⟩
theorem g_X0_divide_67 : en_C M_X0_divide M_X1_clear 44 0 := ⟨⟨inT2 168 rfl rfl, in_X1, cd_X1_clear⟩, ⟨by decide, by decide, by decide +kernel⟩, by decide, by decide⟩
theorem q_X0_divide_70 : decode M_X0_divide.2.1 70 = .ok (.goto 169, 3) ∧ 70 + 3 = 73 ∧ ((70 : Nat) : Int) + 169 = ((239 : Nat) : Int) := ⟨dcAll_e (i := 33) da_X0_divide_0 rfl, rfl, rfl⟩
theorem q_X0_divide_73 : decode M_X0_divide.2.1 73 = .ok (.aload_n 0, 1) ∧ 73 + 1 = 74 := ⟨dcAll_e (i := 34) da_X0_divide_0 rfl, rfl⟩
theorem q_X0_divide_74 : decode M_X0_divide.2.1 74 = .ok (.getfield 18, 3) ∧ 74 + 3 = 77 := ⟨dcAll_e (i := 35) da_X0_divide_0 rfl, rfl⟩
theorem q_X0_divide_77 : decode M_X0_divide.2.1 77 = .ok (.getfield 47, 3) ∧ 77 + 3 = 80 := ⟨dcAll_e (i := 36) da_X0_divide_0 rfl, rfl⟩
theorem q_X0_divide_80 : decode M_X0_divide.2.1 80 = .ok (.iconst 1, 1) ∧ 80 + 1 = 81 := ⟨dcAll_e (i := 37) da_X0_divide_0 rfl, rfl⟩
theorem q_X0_divide_81 : decode M_X0_divide.2.1 81 = .ok (.if_icmp .ne 34, 3) ∧ 81 + 3 = 84 ∧ ((81 : Nat) : Int) + 34 = ((115 : Nat) : Int) := ⟨dcAll_e (i := 38) da_X0_divide_0 rfl, rfl, rfl⟩
theorem q_X0_divide_84 : decode M_X0_divide.2.1 84 = .ok (.aload_n 3, 1) ∧ 84 + 1 = 85 := ⟨dcAll_e (i := 39) da_X0_divide_0 rfl, rfl⟩
theorem q_X0_divide_85 : decode M_X0_divide.2.1 85 = .ok (.aload_n 0, 1) ∧ 85 + 1 = 86 := ⟨dcAll_e (i := 0) da_X0_divide_1 rfl, rfl⟩
theorem q_X0_divide_86 : decode M_X0_divide.2.1 86 = .ok (.getfield 12, 3) ∧ 86 + 3 = 89 := ⟨dcAll_e (i := 1) da_X0_divide_1 rfl, rfl⟩
theorem q_X0_divide_89 : decode M_X0_divide.2.1 89 = .ok (.invokevirtual 30, 3) ∧ 89 + 3 = 92 := ⟨dcAll_e (i := 2) da_X0_divide_1 rfl, rfl⟩
theorem g_X0_divide_89 : en_C M_X0_divide M_X1_copy 30 1 := ⟨⟨inT2 164 rfl rfl, in_X1, cd_X1_copy⟩, ⟨by decide, by decide, by decide +kernel⟩, by decide, by decide⟩
theorem q_X0_divide_92 : decode M_X0_divide.2.1 92 = .ok (.aload_n 0, 1) ∧ 92 + 1 = 93 := ⟨dcAll_e (i := 3) da_X0_divide_1 rfl, rfl⟩
theorem q_X0_divide_93 : decode M_X0_divide.2.1 93 = .ok (.getfield 12, 3) ∧ 93 + 3 = 96 := ⟨dcAll_e (i := 4) da_X0_divide_1 rfl, rfl⟩
theorem q_X0_divide_96 : decode M_X0_divide.2.1 96 = .ok (.aload_n 3, 1) ∧ 96 + 1 = 97 := ⟨dcAll_e (i := 5) da_X0_divide_1 rfl, rfl⟩
theorem q_X0_divide_97 : decode M_X0_divide.2.1 97 = .ok (.aload_n 0, 1) ∧ 97 + 1 = 98 := ⟨dcAll_e (i := 6) da_X0_divide_1 rfl, rfl⟩
theorem q_X0_divide_98 : decode M_X0_divide.2.1 98 = .ok (.getfield 18, 3) ∧ 98 + 3 = 101 := ⟨dcAll_e (i := 7) da_X0_divide_1 rfl, rfl⟩
theorem q_X0_divide_101 : decode M_X0_divide.2.1 101 = .ok (.iconst 0, 1) ∧ 101 + 1 = 102 := ⟨dcAll_e (i := 8) da_X0_divide_1 rfl, rfl⟩
theorem q_X0_divide_102 : decode M_X0_divide.2.1 102 = .ok (.invokevirtual 50, 3) ∧ 102 + 3 = 105 := ⟨dcAll_e (i := 9) da_X0_divide_1 rfl, rfl⟩
theorem g_X0_divide_102 : en_C M_X0_divide M_X1_limbAt 50 1 := ⟨⟨inT2 169 rfl rfl, in_X1, cd_X1_limbAt⟩, ⟨by decide, by decide, by decide +kernel⟩, by decide, by decide⟩
theorem q_X0_divide_105 : decode M_X0_divide.2.1 105 = .ok (.i2l, 1) ∧ 105 + 1 = 106 := ⟨dcAll_e (i := 10) da_X0_divide_1 rfl, rfl⟩
theorem q_X0_divide_106 : decode M_X0_divide.2.1 106 = .ok (.invokevirtual 53, 3) ∧ 106 + 3 = 109 := ⟨dcAll_e (i := 11) da_X0_divide_1 rfl, rfl⟩
theorem g_X0_divide_106 : en_C M_X0_divide M_X1_divideSmall 53 1 := ⟨⟨inT2 173 rfl rfl, in_X1, cd_X1_divideSmall⟩, ⟨by decide, by decide, by decide +kernel⟩, by decide, by decide⟩
theorem q_X0_divide_109 : decode M_X0_divide.2.1 109 = .ok (.invokevirtual 57, 3) ∧ 109 + 3 = 112 := ⟨dcAll_e (i := 12) da_X0_divide_1 rfl, rfl⟩
theorem cd_X1_setLong : Cond.code M_X1_setLong.1 M_X1_setLong.2.1 M_X1_setLong.2.2.1 M_X1_setLong.2.2.2.1 ∈ en_tbl := inT2 93 rfl rfl
theorem g_X0_divide_109 : en_C M_X0_divide M_X1_setLong 57 1 := ⟨⟨inT2 177 rfl rfl, in_X1, cd_X1_setLong⟩, ⟨by decide, by decide, by decide +kernel⟩, by decide, by decide⟩
theorem w_X1_setLong : Cond.instanceMethod M_X1_setLong.1 ∈ en_tbl ∧ Cond.selects M_X1_setLong.1.cls M_X1_setLong.1 M_X1_setLong.1 ∈ en_tbl := ⟨inT2 91 rfl rfl, inT2 92 rfl rfl⟩
theorem q_X0_divide_112 : decode M_X0_divide.2.1 112 = .ok (.goto 127, 3) ∧ 112 + 3 = 115 ∧ ((112 : Nat) : Int) + 127 = ((239 : Nat) : Int) := ⟨dcAll_e (i := 13) da_X0_divide_1 rfl, rfl, rfl⟩
theorem q_X0_divide_115 : decode M_X0_divide.2.1 115 = .ok (.iload 5, 2) ∧ 115 + 2 = 117 := ⟨dcAll_e (i := 14) da_X0_divide_1 rfl, rfl⟩
theorem q_X0_divide_117 : decode M_X0_divide.2.1 117 = .ok (.ifCond .le 122, 3) ∧ 117 + 3 = 120 ∧ ((117 : Nat) : Int) + 122 = ((239 : Nat) : Int) := ⟨dcAll_e (i := 15) da_X0_divide_1 rfl, rfl, rfl⟩
theorem q_X0_divide_120 : decode M_X0_divide.2.1 120 = .ok (.ldc 61, 2) ∧ 120 + 2 = 122 := ⟨dcAll_e (i := 16) da_X0_divide_1 rfl, rfl⟩
theorem k_RX0_61 : Cond.constant RX0 61 (nI 1000000000) ∈ en_tbl := by decide +kernel
theorem q_X0_divide_122 : decode M_X0_divide.2.1 122 = .ok (.aload_n 0, 1) ∧ 122 + 1 = 123 := ⟨dcAll_e (i := 17) da_X0_divide_1 rfl, rfl⟩
theorem q_X0_divide_123 : decode M_X0_divide.2.1 123 = .ok (.getfield 18, 3) ∧ 123 + 3 = 126 := ⟨dcAll_e (i := 18) da_X0_divide_1 rfl, rfl⟩
theorem q_X0_divide_126 : decode M_X0_divide.2.1 126 = .ok (.aload_n 0, 1) ∧ 126 + 1 = 127 := ⟨dcAll_e (i := 19) da_X0_divide_1 rfl, rfl⟩
theorem q_X0_divide_127 : decode M_X0_divide.2.1 127 = .ok (.getfield 18, 3) ∧ 127 + 3 = 130 := ⟨dcAll_e (i := 20) da_X0_divide_1 rfl, rfl⟩
theorem q_X0_divide_130 : decode M_X0_divide.2.1 130 = .ok (.getfield 47, 3) ∧ 130 + 3 = 133 := ⟨dcAll_e (i := 21) da_X0_divide_1 rfl, rfl⟩
theorem q_X0_divide_133 : decode M_X0_divide.2.1 133 = .ok (.iconst 1, 1) ∧ 133 + 1 = 134 := ⟨dcAll_e (i := 22) da_X0_divide_1 rfl, rfl⟩
theorem q_X0_divide_134 : decode M_X0_divide.2.1 134 = .ok (.isub, 1) ∧ 134 + 1 = 135 := ⟨dcAll_e (i := 23) da_X0_divide_1 rfl, rfl⟩
theorem q_X0_divide_135 : decode M_X0_divide.2.1 135 = .ok (.invokevirtual 50, 3) ∧ 135 + 3 = 138 := ⟨dcAll_e (i := 24) da_X0_divide_1 rfl, rfl⟩
theorem g_X0_divide_135 : en_C M_X0_divide M_X1_limbAt 50 1 := ⟨⟨inT2 169 rfl rfl, in_X1, cd_X1_limbAt⟩, ⟨by decide, by decide, by decide +kernel⟩, by decide, by decide⟩
theorem q_X0_divide_138 : decode M_X0_divide.2.1 138 = .ok (.iconst 1, 1) ∧ 138 + 1 = 139 := ⟨dcAll_e (i := 25) da_X0_divide_1 rfl, rfl⟩
theorem q_X0_divide_139 : decode M_X0_divide.2.1 139 = .ok (.iadd, 1) ∧ 139 + 1 = 140 := ⟨dcAll_e (i := 26) da_X0_divide_1 rfl, rfl⟩
theorem q_X0_divide_140 : decode M_X0_divide.2.1 140 = .ok (.idiv, 1) ∧ 140 + 1 = 141 := ⟨dcAll_e (i := 27) da_X0_divide_1 rfl, rfl⟩
theorem q_X0_divide_141 : decode M_X0_divide.2.1 141 = .ok (.istore 6, 2) ∧ 141 + 2 = 143 := ⟨dcAll_e (i := 28) da_X0_divide_1 rfl, rfl⟩
theorem q_X0_divide_143 : decode M_X0_divide.2.1 143 = .ok (.aload_n 0, 1) ∧ 143 + 1 = 144 := ⟨dcAll_e (i := 29) da_X0_divide_1 rfl, rfl⟩
theorem q_X0_divide_144 : decode M_X0_divide.2.1 144 = .ok (.getfield 12, 3) ∧ 144 + 3 = 147 := ⟨dcAll_e (i := 30) da_X0_divide_1 rfl, rfl⟩
theorem q_X0_divide_147 : decode M_X0_divide.2.1 147 = .ok (.aload_n 0, 1) ∧ 147 + 1 = 148 := ⟨dcAll_e (i := 31) da_X0_divide_1 rfl, rfl⟩
theorem q_X0_divide_148 : decode M_X0_divide.2.1 148 = .ok (.getfield 12, 3) ∧ 148 + 3 = 151 := ⟨dcAll_e (i := 32) da_X0_divide_1 rfl, rfl⟩
theorem q_X0_divide_151 : decode M_X0_divide.2.1 151 = .ok (.getfield 47, 3) ∧ 151 + 3 = 154 := ⟨dcAll_e (i := 33) da_X0_divide_1 rfl, rfl⟩
theorem q_X0_divide_154 : decode M_X0_divide.2.1 154 = .ok (.iconst 1, 1) ∧ 154 + 1 = 155 := ⟨dcAll_e (i := 34) da_X0_divide_1 rfl, rfl⟩
theorem q_X0_divide_155 : decode M_X0_divide.2.1 155 = .ok (.iadd, 1) ∧ 155 + 1 = 156 := ⟨dcAll_e (i := 35) da_X0_divide_1 rfl, rfl⟩
theorem q_X0_divide_156 : decode M_X0_divide.2.1 156 = .ok (.invokevirtual 62, 3) ∧ 156 + 3 = 159 := ⟨dcAll_e (i := 36) da_X0_divide_1 rfl, rfl⟩
theorem g_X0_divide_156 : en_C M_X0_divide M_X1_extend 62 1 := ⟨⟨inT2 179 rfl rfl, in_X1, cd_X1_extend⟩, ⟨by decide, by decide, by decide +kernel⟩, by decide, by decide⟩
theorem q_X0_divide_159 : decode M_X0_divide.2.1 159 = .ok (.aload_n 0, 1) ∧ 159 + 1 = 160 := ⟨dcAll_e (i := 37) da_X0_divide_1 rfl, rfl⟩
theorem q_X0_divide_160 : decode M_X0_divide.2.1 160 = .ok (.getfield 12, 3) ∧ 160 + 3 = 163 := ⟨dcAll_e (i := 38) da_X0_divide_1 rfl, rfl⟩
theorem q_X0_divide_163 : decode M_X0_divide.2.1 163 = .ok (.iload 6, 2) ∧ 163 + 2 = 165 := ⟨dcAll_e (i := 39) da_X0_divide_1 rfl, rfl⟩
theorem q_X0_divide_165 : decode M_X0_divide.2.1 165 = .ok (.i2l, 1) ∧ 165 + 1 = 166 := ⟨dcAll_e (i := 0) da_X0_divide_2 rfl, rfl⟩
theorem q_X0_divide_166 : decode M_X0_divide.2.1 166 = .ok (.invokevirtual 66, 3) ∧ 166 + 3 = 169 := ⟨dcAll_e (i := 1) da_X0_divide_2 rfl, rfl⟩
theorem g_X0_divide_166 : en_C M_X0_divide M_X1_multiplyLimbs 66 1 := ⟨⟨inT2 180 rfl rfl, in_X1, cd_X1_multiplyLimbs⟩, ⟨by decide, by decide, by decide +kernel⟩, by decide, by decide⟩
theorem q_X0_divide_169 : decode M_X0_divide.2.1 169 = .ok (.aload_n 0, 1) ∧ 169 + 1 = 170 := ⟨dcAll_e (i := 2) da_X0_divide_2 rfl, rfl⟩
theorem q_X0_divide_170 : decode M_X0_divide.2.1 170 = .ok (.getfield 18, 3) ∧ 170 + 3 = 173 := ⟨dcAll_e (i := 3) da_X0_divide_2 rfl, rfl⟩
theorem q_X0_divide_173 : decode M_X0_divide.2.1 173 = .ok (.iload 6, 2) ∧ 173 + 2 = 175 := ⟨dcAll_e (i := 4) da_X0_divide_2 rfl, rfl⟩
theorem q_X0_divide_175 : decode M_X0_divide.2.1 175 = .ok (.i2l, 1) ∧ 175 + 1 = 176 := ⟨dcAll_e (i := 5) da_X0_divide_2 rfl, rfl⟩
theorem q_X0_divide_176 : decode M_X0_divide.2.1 176 = .ok (.invokevirtual 66, 3) ∧ 176 + 3 = 179 := ⟨dcAll_e (i := 6) da_X0_divide_2 rfl, rfl⟩
theorem g_X0_divide_176 : en_C M_X0_divide M_X1_multiplyLimbs 66 1 := ⟨⟨inT2 180 rfl rfl, in_X1, cd_X1_multiplyLimbs⟩, ⟨by decide, by decide, by decide +kernel⟩, by decide, by decide⟩
theorem q_X0_divide_179 : decode M_X0_divide.2.1 179 = .ok (.aload_n 3, 1) ∧ 179 + 1 = 180 := ⟨dcAll_e (i := 7) da_X0_divide_2 rfl, rfl⟩
theorem q_X0_divide_180 : decode M_X0_divide.2.1 180 = .ok (.iload 5, 2) ∧ 180 + 2 = 182 := ⟨dcAll_e (i := 8) da_X0_divide_2 rfl, rfl⟩
theorem q_X0_divide_182 : decode M_X0_divide.2.1 182 = .ok (.invokevirtual 62, 3) ∧ 182 + 3 = 185 := ⟨dcAll_e (i := 9) da_X0_divide_2 rfl, rfl⟩
theorem g_X0_divide_182 : en_C M_X0_divide M_X1_extend 62 1 := ⟨⟨inT2 179 rfl rfl, in_X1, cd_X1_extend⟩, ⟨by decide, by decide, by decide +kernel⟩, by decide, by decide⟩
theorem q_X0_divide_185 : decode M_X0_divide.2.1 185 = .ok (.iload 5, 2) ∧ 185 + 2 = 187 := ⟨dcAll_e (i := 10) da_X0_divide_2 rfl, rfl⟩
theorem q_X0_divide_187 : decode M_X0_divide.2.1 187 = .ok (.iconst 1, 1) ∧ 187 + 1 = 188 := ⟨dcAll_e (i := 11) da_X0_divide_2 rfl, rfl⟩
theorem q_X0_divide_188 : decode M_X0_divide.2.1 188 = .ok (.isub, 1) ∧ 188 + 1 = 189 := ⟨dcAll_e (i := 12) da_X0_divide_2 rfl, rfl⟩
theorem q_X0_divide_189 : decode M_X0_divide.2.1 189 = .ok (.istore 7, 2) ∧ 189 + 2 = 191 := ⟨dcAll_e (i := 13) da_X0_divide_2 rfl, rfl⟩
theorem q_X0_divide_191 : decode M_X0_divide.2.1 191 = .ok (.iload 7, 2) ∧ 191 + 2 = 193 := ⟨dcAll_e (i := 14) da_X0_divide_2 rfl, rfl⟩
theorem q_X0_divide_193 : decode M_X0_divide.2.1 193 = .ok (.ifCond .lt 22, 3) ∧ 193 + 3 = 196 ∧ ((193 : Nat) : Int) + 22 = ((215 : Nat) : Int) := ⟨dcAll_e (i := 15) da_X0_divide_2 rfl, rfl, rfl⟩
theorem q_X0_divide_196 : decode M_X0_divide.2.1 196 = .ok (.aload_n 3, 1) ∧ 196 + 1 = 197 := ⟨dcAll_e (i := 16) da_X0_divide_2 rfl, rfl⟩
theorem q_X0_divide_197 : decode M_X0_divide.2.1 197 = .ok (.getfield 69, 3) ∧ 197 + 3 = 200 := ⟨dcAll_e (i := 17) da_X0_divide_2 rfl, rfl⟩
theorem f_RX0_69 : en_F RX0 69 1 2 := ⟨RX1, TX1, 3, rfl, by decide, rfl, inT1 49 rfl rfl, uw_X1⟩
theorem q_X0_divide_200 : decode M_X0_divide.2.1 200 = .ok (.iload 7, 2) ∧ 200 + 2 = 202 := ⟨dcAll_e (i := 18) da_X0_divide_2 rfl, rfl⟩
theorem q_X0_divide_202 : decode M_X0_divide.2.1 202 = .ok (.aload_n 0, 1) ∧ 202 + 1 = 203 := ⟨dcAll_e (i := 19) da_X0_divide_2 rfl, rfl⟩
theorem q_X0_divide_203 : decode M_X0_divide.2.1 203 = .ok (.iload 7, 2) ∧ 203 + 2 = 205 := ⟨dcAll_e (i := 20) da_X0_divide_2 rfl, rfl⟩
theorem q_X0_divide_205 : decode M_X0_divide.2.1 205 = .ok (.invokevirtual 73, 3) ∧ 205 + 3 = 208 := ⟨dcAll_e (i := 21) da_X0_divide_2 rfl, rfl⟩
theorem cd_X0_takeAway : Cond.code M_X0_takeAway.1 M_X0_takeAway.2.1 M_X0_takeAway.2.2.1 M_X0_takeAway.2.2.2.1 ∈ en_tbl := inT2 184 rfl rfl
theorem g_X0_divide_205 : en_C M_X0_divide M_X0_takeAway 73 1 := ⟨⟨inT2 181 rfl rfl, in_X0, cd_X0_takeAway⟩, ⟨by decide, by decide, by decide +kernel⟩, by decide, by decide⟩
theorem w_X0_takeAway : Cond.instanceMethod M_X0_takeAway.1 ∈ en_tbl ∧ Cond.selects M_X0_takeAway.1.cls M_X0_takeAway.1 M_X0_takeAway.1 ∈ en_tbl := ⟨inT2 183 rfl rfl, by decide +kernel⟩
theorem q_X0_divide_208 : decode M_X0_divide.2.1 208 = .ok (.iastore, 1) ∧ 208 + 1 = 209 := ⟨dcAll_e (i := 22) da_X0_divide_2 rfl, rfl⟩
theorem q_X0_divide_209 : decode M_X0_divide.2.1 209 = .ok (.iinc 7 (-1), 3) ∧ 209 + 3 = 212 := ⟨dcAll_e (i := 23) da_X0_divide_2 rfl, rfl⟩
theorem q_X0_divide_212 : decode M_X0_divide.2.1 212 = .ok (.goto (-21), 3) ∧ 212 + 3 = 215 ∧ ((212 : Nat) : Int) + (-21) = ((191 : Nat) : Int) := ⟨dcAll_e (i := 24) da_X0_divide_2 rfl, rfl, rfl⟩
theorem q_X0_divide_215 : decode M_X0_divide.2.1 215 = .ok (.aload_n 3, 1) ∧ 215 + 1 = 216 := ⟨dcAll_e (i := 25) da_X0_divide_2 rfl, rfl⟩
theorem q_X0_divide_216 : decode M_X0_divide.2.1 216 = .ok (.iconst 1, 1) ∧ 216 + 1 = 217 := ⟨dcAll_e (i := 26) da_X0_divide_2 rfl, rfl⟩
theorem q_X0_divide_217 : decode M_X0_divide.2.1 217 = .ok (.invokevirtual 76, 3) ∧ 217 + 3 = 220 := ⟨dcAll_e (i := 27) da_X0_divide_2 rfl, rfl⟩
theorem g_X0_divide_217 : en_C M_X0_divide M_X1_trim 76 1 := ⟨⟨inT2 194 rfl rfl, in_X1, cd_X1_trim⟩, ⟨by decide, by decide, by decide +kernel⟩, by decide, by decide⟩
theorem q_X0_divide_220 : decode M_X0_divide.2.1 220 = .ok (.aload_n 0, 1) ∧ 220 + 1 = 221 := ⟨dcAll_e (i := 28) da_X0_divide_2 rfl, rfl⟩
theorem q_X0_divide_221 : decode M_X0_divide.2.1 221 = .ok (.getfield 12, 3) ∧ 221 + 3 = 224 := ⟨dcAll_e (i := 29) da_X0_divide_2 rfl, rfl⟩
theorem q_X0_divide_224 : decode M_X0_divide.2.1 224 = .ok (.iconst 1, 1) ∧ 224 + 1 = 225 := ⟨dcAll_e (i := 30) da_X0_divide_2 rfl, rfl⟩
theorem q_X0_divide_225 : decode M_X0_divide.2.1 225 = .ok (.invokevirtual 76, 3) ∧ 225 + 3 = 228 := ⟨dcAll_e (i := 31) da_X0_divide_2 rfl, rfl⟩
theorem g_X0_divide_225 : en_C M_X0_divide M_X1_trim 76 1 := ⟨⟨inT2 194 rfl rfl, in_X1, cd_X1_trim⟩, ⟨by decide, by decide, by decide +kernel⟩, by decide, by decide⟩
theorem q_X0_divide_228 : decode M_X0_divide.2.1 228 = .ok (.aload_n 0, 1) ∧ 228 + 1 = 229 := ⟨dcAll_e (i := 32) da_X0_divide_2 rfl, rfl⟩
theorem q_X0_divide_229 : decode M_X0_divide.2.1 229 = .ok (.getfield 12, 3) ∧ 229 + 3 = 232 := ⟨dcAll_e (i := 33) da_X0_divide_2 rfl, rfl⟩
theorem q_X0_divide_232 : decode M_X0_divide.2.1 232 = .ok (.iload 6, 2) ∧ 232 + 2 = 234 := ⟨dcAll_e (i := 34) da_X0_divide_2 rfl, rfl⟩
theorem q_X0_divide_234 : decode M_X0_divide.2.1 234 = .ok (.i2l, 1) ∧ 234 + 1 = 235 := ⟨dcAll_e (i := 35) da_X0_divide_2 rfl, rfl⟩
theorem q_X0_divide_235 : decode M_X0_divide.2.1 235 = .ok (.invokevirtual 53, 3) ∧ 235 + 3 = 238 := ⟨dcAll_e (i := 36) da_X0_divide_2 rfl, rfl⟩
theorem g_X0_divide_235 : en_C M_X0_divide M_X1_divideSmall 53 1 := ⟨⟨inT2 173 rfl rfl, in_X1, cd_X1_divideSmall⟩, ⟨by decide, by decide, by decide +kernel⟩, by decide, by decide⟩
theorem q_X0_divide_238 : decode M_X0_divide.2.1 238 = .ok (.pop2, 1) ∧ 238 + 1 = 239 := ⟨dcAll_e (i := 37) da_X0_divide_2 rfl, rfl⟩
theorem q_X0_divide_239 : decode M_X0_divide.2.1 239 = .ok (.aload 4, 2) ∧ 239 + 2 = 241 := ⟨dcAll_e (i := 38) da_X0_divide_2 rfl, rfl⟩
theorem q_X0_divide_241 : decode M_X0_divide.2.1 241 = .ok (.aload_n 0, 1) ∧ 241 + 1 = 242 := ⟨dcAll_e (i := 39) da_X0_divide_2 rfl, rfl⟩
theorem q_X0_divide_242 : decode M_X0_divide.2.1 242 = .ok (.getfield 12, 3) ∧ 242 + 3 = 245 := ⟨dcAll_e (i := 0) da_X0_divide_3 rfl, rfl⟩
theorem q_X0_divide_245 : decode M_X0_divide.2.1 245 = .ok (.invokevirtual 30, 3) ∧ 245 + 3 = 248 := ⟨dcAll_e (i := 1) da_X0_divide_3 rfl, rfl⟩
theorem g_X0_divide_245 : en_C M_X0_divide M_X1_copy 30 1 := ⟨⟨inT2 164 rfl rfl, in_X1, cd_X1_copy⟩, ⟨by decide, by decide, by decide +kernel⟩, by decide, by decide⟩
theorem q_X0_divide_248 : decode M_X0_divide.2.1 248 = .ok (.return_, 1) ∧ 248 + 1 = 249 := ⟨dcAll_e (i := 2) da_X0_divide_3 rfl, rfl⟩
def dl_X0_takeAway_0 : List (Nat × Instr × Nat) := [(0, .aload_n 0, 1), (1, .getfield 18, 3), (4, .getfield 47, 3), (7, .istore_n 2, 1), (8, .iload_n 2, 1), (9, .iconst 2, 1), (10, .if_icmp .lt 16, 3), (13, .iload_n 2, 1), (14, .iload_n 1, 1), (15, .iadd, 1), (16, .aload_n 0, 1), (17, .getfield 12, 3), (20, .getfield 47, 3), (23, .if_icmp .lt 5, 3), (26, .iconst 0, 1), (27, .ireturn, 1), (28, .aload_n 0, 1), (29, .iload_n 2, 1), (30, .iload_n 2, 1), (31, .iload_n 1, 1), (32, .iadd, 1), (33, .invokevirtual 79, 3), (36, .lstore_n 3, 1), (37, .lconst 0, 1), (38, .lstore 5, 2), (40, .iconst 0, 1), (41, .istore 7, 2), (43, .iload 7, 2), (45, .iload_n 2, 1), (46, .if_icmp .ge 96, 3), (49, .lload_n 3, 1), (50, .aload_n 0, 1), (51, .getfield 18, 3), (54, .getfield 69, 3), (57, .iload 7, 2), (59, .iaload, 1), (60, .i2l, 1), (61, .lmul, 1), (62, .lload 5, 2), (64, .ladd, 1)]
theorem da_X0_takeAway_0 : dcAll M_X0_takeAway.2.1 dl_X0_takeAway_0 = true := by decide +kernel
def dl_X0_takeAway_1 : List (Nat × Instr × Nat) := [(65, .lstore 8, 2), (67, .lload 8, 2), (69, .ldc2_w 83, 3), (72, .ldiv, 1), (73, .lstore 5, 2), (75, .aload_n 0, 1), (76, .getfield 12, 3), (79, .getfield 69, 3), (82, .iload 7, 2), (84, .iload_n 1, 1), (85, .iadd, 1), (86, .iaload, 1), (87, .i2l, 1), (88, .lload 8, 2), (90, .lload 5, 2), (92, .ldc2_w 83, 3), (95, .lmul, 1), (96, .lsub, 1), (97, .lsub, 1), (98, .lstore 10, 2), (100, .lload 10, 2), (102, .lconst 0, 1), (103, .lcmp, 1), (104, .ifCond .ge 17, 3), (107, .lload 10, 2), (109, .ldc2_w 83, 3), (112, .ladd, 1), (113, .lstore 10, 2), (115, .lload 5, 2), (117, .lconst 1, 1), (118, .ladd, 1), (119, .lstore 5, 2), (121, .aload_n 0, 1), (122, .getfield 12, 3), (125, .getfield 69, 3), (128, .iload 7, 2), (130, .iload_n 1, 1), (131, .iadd, 1), (132, .lload 10, 2), (134, .l2i, 1)]
theorem da_X0_takeAway_1 : dcAll M_X0_takeAway.2.1 dl_X0_takeAway_1 = true := by decide +kernel
def dl_X0_takeAway_2 : List (Nat × Instr × Nat) := [(135, .iastore, 1), (136, .iinc 7 1, 3), (139, .goto (-96), 3), (142, .aload_n 0, 1), (143, .getfield 12, 3), (146, .getfield 69, 3), (149, .iload_n 2, 1), (150, .iload_n 1, 1), (151, .iadd, 1), (152, .iaload, 1), (153, .i2l, 1), (154, .lload 5, 2), (156, .lsub, 1), (157, .lstore 7, 2), (159, .aload_n 0, 1), (160, .getfield 12, 3), (163, .getfield 69, 3), (166, .iload_n 2, 1), (167, .iload_n 1, 1), (168, .iadd, 1), (169, .lload 7, 2), (171, .l2i, 1), (172, .iastore, 1), (173, .lload 7, 2), (175, .lconst 0, 1), (176, .lcmp, 1), (177, .ifCond .ge 13, 3), (180, .aload_n 0, 1), (181, .iload_n 2, 1), (182, .iload_n 1, 1), (183, .invokevirtual 85, 3), (186, .lload_n 3, 1), (187, .lconst 1, 1), (188, .lsub, 1), (189, .lstore_n 3, 1), (190, .lload_n 3, 1), (191, .l2i, 1), (192, .ireturn, 1)]
theorem da_X0_takeAway_2 : dcAll M_X0_takeAway.2.1 dl_X0_takeAway_2 = true := by decide +kernel
theorem q_X0_takeAway_0 : decode M_X0_takeAway.2.1 0 = .ok (.aload_n 0, 1) ∧ 0 + 1 = 1 := ⟨dcAll_e (i := 0) da_X0_takeAway_0 rfl, rfl⟩
theorem q_X0_takeAway_1 : decode M_X0_takeAway.2.1 1 = .ok (.getfield 18, 3) ∧ 1 + 3 = 4 := ⟨dcAll_e (i := 1) da_X0_takeAway_0 rfl, rfl⟩
theorem q_X0_takeAway_4 : decode M_X0_takeAway.2.1 4 = .ok (.getfield 47, 3) ∧ 4 + 3 = 7 := ⟨dcAll_e (i := 2) da_X0_takeAway_0 rfl, rfl⟩
theorem q_X0_takeAway_7 : decode M_X0_takeAway.2.1 7 = .ok (.istore_n 2, 1) ∧ 7 + 1 = 8 := ⟨dcAll_e (i := 3) da_X0_takeAway_0 rfl, rfl⟩
theorem q_X0_takeAway_8 : decode M_X0_takeAway.2.1 8 = .ok (.iload_n 2, 1) ∧ 8 + 1 = 9 := ⟨dcAll_e (i := 4) da_X0_takeAway_0 rfl, rfl⟩
theorem q_X0_takeAway_9 : decode M_X0_takeAway.2.1 9 = .ok (.iconst 2, 1) ∧ 9 + 1 = 10 := ⟨dcAll_e (i := 5) da_X0_takeAway_0 rfl, rfl⟩
theorem q_X0_takeAway_10 : decode M_X0_takeAway.2.1 10 = .ok (.if_icmp .lt 16, 3) ∧ 10 + 3 = 13 ∧ ((10 : Nat) : Int) + 16 = ((26 : Nat) : Int) := ⟨dcAll_e (i := 6) da_X0_takeAway_0 rfl, rfl, rfl⟩
theorem q_X0_takeAway_13 : decode M_X0_takeAway.2.1 13 = .ok (.iload_n 2, 1) ∧ 13 + 1 = 14 := ⟨dcAll_e (i := 7) da_X0_takeAway_0 rfl, rfl⟩
theorem q_X0_takeAway_14 : decode M_X0_takeAway.2.1 14 = .ok (.iload_n 1, 1) ∧ 14 + 1 = 15 := ⟨dcAll_e (i := 8) da_X0_takeAway_0 rfl, rfl⟩
theorem q_X0_takeAway_15 : decode M_X0_takeAway.2.1 15 = .ok (.iadd, 1) ∧ 15 + 1 = 16 := ⟨dcAll_e (i := 9) da_X0_takeAway_0 rfl, rfl⟩
theorem q_X0_takeAway_16 : decode M_X0_takeAway.2.1 16 = .ok (.aload_n 0, 1) ∧ 16 + 1 = 17 := ⟨dcAll_e (i := 10) da_X0_takeAway_0 rfl, rfl⟩
theorem q_X0_takeAway_17 : decode M_X0_takeAway.2.1 17 = .ok (.getfield 12, 3) ∧ 17 + 3 = 20 := ⟨dcAll_e (i := 11) da_X0_takeAway_0 rfl, rfl⟩
theorem q_X0_takeAway_20 : decode M_X0_takeAway.2.1 20 = .ok (.getfield 47, 3) ∧ 20 + 3 = 23 := ⟨dcAll_e (i := 12) da_X0_takeAway_0 rfl, rfl⟩
theorem q_X0_takeAway_23 : decode M_X0_takeAway.2.1 23 = .ok (.if_icmp .lt 5, 3) ∧ 23 + 3 = 26 ∧ ((23 : Nat) : Int) + 5 = ((28 : Nat) : Int) := ⟨dcAll_e (i := 13) da_X0_takeAway_0 rfl, rfl, rfl⟩
theorem q_X0_takeAway_26 : decode M_X0_takeAway.2.1 26 = .ok (.iconst 0, 1) ∧ 26 + 1 = 27 := ⟨dcAll_e (i := 14) da_X0_takeAway_0 rfl, rfl⟩
theorem q_X0_takeAway_27 : decode M_X0_takeAway.2.1 27 = .ok (.ireturn, 1) ∧ 27 + 1 = 28 := ⟨dcAll_e (i := 15) da_X0_takeAway_0 rfl, rfl⟩
theorem q_X0_takeAway_28 : decode M_X0_takeAway.2.1 28 = .ok (.aload_n 0, 1) ∧ 28 + 1 = 29 := ⟨dcAll_e (i := 16) da_X0_takeAway_0 rfl, rfl⟩
theorem q_X0_takeAway_29 : decode M_X0_takeAway.2.1 29 = .ok (.iload_n 2, 1) ∧ 29 + 1 = 30 := ⟨dcAll_e (i := 17) da_X0_takeAway_0 rfl, rfl⟩
theorem q_X0_takeAway_30 : decode M_X0_takeAway.2.1 30 = .ok (.iload_n 2, 1) ∧ 30 + 1 = 31 := ⟨dcAll_e (i := 18) da_X0_takeAway_0 rfl, rfl⟩
theorem q_X0_takeAway_31 : decode M_X0_takeAway.2.1 31 = .ok (.iload_n 1, 1) ∧ 31 + 1 = 32 := ⟨dcAll_e (i := 19) da_X0_takeAway_0 rfl, rfl⟩
theorem q_X0_takeAway_32 : decode M_X0_takeAway.2.1 32 = .ok (.iadd, 1) ∧ 32 + 1 = 33 := ⟨dcAll_e (i := 20) da_X0_takeAway_0 rfl, rfl⟩
theorem q_X0_takeAway_33 : decode M_X0_takeAway.2.1 33 = .ok (.invokevirtual 79, 3) ∧ 33 + 3 = 36 := ⟨dcAll_e (i := 21) da_X0_takeAway_0 rfl, rfl⟩
theorem cd_X0_guessLimb : Cond.code M_X0_guessLimb.1 M_X0_guessLimb.2.1 M_X0_guessLimb.2.2.1 M_X0_guessLimb.2.2.2.1 ∈ en_tbl := inT2 188 rfl rfl
theorem g_X0_takeAway_33 : en_C M_X0_takeAway M_X0_guessLimb 79 2 := ⟨⟨inT2 185 rfl rfl, in_X0, cd_X0_guessLimb⟩, ⟨by decide, by decide, by decide +kernel⟩, by decide, by decide⟩
theorem w_X0_guessLimb : Cond.instanceMethod M_X0_guessLimb.1 ∈ en_tbl ∧ Cond.selects M_X0_guessLimb.1.cls M_X0_guessLimb.1 M_X0_guessLimb.1 ∈ en_tbl := ⟨inT2 187 rfl rfl, by decide +kernel⟩
theorem q_X0_takeAway_36 : decode M_X0_takeAway.2.1 36 = .ok (.lstore_n 3, 1) ∧ 36 + 1 = 37 := ⟨dcAll_e (i := 22) da_X0_takeAway_0 rfl, rfl⟩
theorem q_X0_takeAway_37 : decode M_X0_takeAway.2.1 37 = .ok (.lconst 0, 1) ∧ 37 + 1 = 38 := ⟨dcAll_e (i := 23) da_X0_takeAway_0 rfl, rfl⟩
theorem q_X0_takeAway_38 : decode M_X0_takeAway.2.1 38 = .ok (.lstore 5, 2) ∧ 38 + 2 = 40 := ⟨dcAll_e (i := 24) da_X0_takeAway_0 rfl, rfl⟩
theorem q_X0_takeAway_40 : decode M_X0_takeAway.2.1 40 = .ok (.iconst 0, 1) ∧ 40 + 1 = 41 := ⟨dcAll_e (i := 25) da_X0_takeAway_0 rfl, rfl⟩
theorem q_X0_takeAway_41 : decode M_X0_takeAway.2.1 41 = .ok (.istore 7, 2) ∧ 41 + 2 = 43 := ⟨dcAll_e (i := 26) da_X0_takeAway_0 rfl, rfl⟩
theorem q_X0_takeAway_43 : decode M_X0_takeAway.2.1 43 = .ok (.iload 7, 2) ∧ 43 + 2 = 45 := ⟨dcAll_e (i := 27) da_X0_takeAway_0 rfl, rfl⟩
theorem q_X0_takeAway_45 : decode M_X0_takeAway.2.1 45 = .ok (.iload_n 2, 1) ∧ 45 + 1 = 46 := ⟨dcAll_e (i := 28) da_X0_takeAway_0 rfl, rfl⟩
theorem q_X0_takeAway_46 : decode M_X0_takeAway.2.1 46 = .ok (.if_icmp .ge 96, 3) ∧ 46 + 3 = 49 ∧ ((46 : Nat) : Int) + 96 = ((142 : Nat) : Int) := ⟨dcAll_e (i := 29) da_X0_takeAway_0 rfl, rfl, rfl⟩
theorem q_X0_takeAway_49 : decode M_X0_takeAway.2.1 49 = .ok (.lload_n 3, 1) ∧ 49 + 1 = 50 := ⟨dcAll_e (i := 30) da_X0_takeAway_0 rfl, rfl⟩
theorem q_X0_takeAway_50 : decode M_X0_takeAway.2.1 50 = .ok (.aload_n 0, 1) ∧ 50 + 1 = 51 := ⟨dcAll_e (i := 31) da_X0_takeAway_0 rfl, rfl⟩
theorem q_X0_takeAway_51 : decode M_X0_takeAway.2.1 51 = .ok (.getfield 18, 3) ∧ 51 + 3 = 54 := ⟨dcAll_e (i := 32) da_X0_takeAway_0 rfl, rfl⟩
theorem q_X0_takeAway_54 : decode M_X0_takeAway.2.1 54 = .ok (.getfield 69, 3) ∧ 54 + 3 = 57 := ⟨dcAll_e (i := 33) da_X0_takeAway_0 rfl, rfl⟩
theorem q_X0_takeAway_57 : decode M_X0_takeAway.2.1 57 = .ok (.iload 7, 2) ∧ 57 + 2 = 59 := ⟨dcAll_e (i := 34) da_X0_takeAway_0 rfl, rfl⟩
theorem q_X0_takeAway_59 : decode M_X0_takeAway.2.1 59 = .ok (.iaload, 1) ∧ 59 + 1 = 60 := ⟨dcAll_e (i := 35) da_X0_takeAway_0 rfl, rfl⟩
theorem q_X0_takeAway_60 : decode M_X0_takeAway.2.1 60 = .ok (.i2l, 1) ∧ 60 + 1 = 61 := ⟨dcAll_e (i := 36) da_X0_takeAway_0 rfl, rfl⟩
theorem q_X0_takeAway_61 : decode M_X0_takeAway.2.1 61 = .ok (.lmul, 1) ∧ 61 + 1 = 62 := ⟨dcAll_e (i := 37) da_X0_takeAway_0 rfl, rfl⟩
theorem q_X0_takeAway_62 : decode M_X0_takeAway.2.1 62 = .ok (.lload 5, 2) ∧ 62 + 2 = 64 := ⟨dcAll_e (i := 38) da_X0_takeAway_0 rfl, rfl⟩
theorem q_X0_takeAway_64 : decode M_X0_takeAway.2.1 64 = .ok (.ladd, 1) ∧ 64 + 1 = 65 := ⟨dcAll_e (i := 39) da_X0_takeAway_0 rfl, rfl⟩
theorem q_X0_takeAway_65 : decode M_X0_takeAway.2.1 65 = .ok (.lstore 8, 2) ∧ 65 + 2 = 67 := ⟨dcAll_e (i := 0) da_X0_takeAway_1 rfl, rfl⟩
theorem q_X0_takeAway_67 : decode M_X0_takeAway.2.1 67 = .ok (.lload 8, 2) ∧ 67 + 2 = 69 := ⟨dcAll_e (i := 1) da_X0_takeAway_1 rfl, rfl⟩
theorem q_X0_takeAway_69 : decode M_X0_takeAway.2.1 69 = .ok (.ldc2_w 83, 3) ∧ 69 + 3 = 72 := ⟨dcAll_e (i := 2) da_X0_takeAway_1 rfl, rfl⟩
theorem k_RX0_83 : Cond.constantLong RX0 83 (lN 1000000000) ∈ en_tbl := by decide +kernel
theorem q_X0_takeAway_72 : decode M_X0_takeAway.2.1 72 = .ok (.ldiv, 1) ∧ 72 + 1 = 73 := ⟨dcAll_e (i := 3) da_X0_takeAway_1 rfl, rfl⟩
theorem q_X0_takeAway_73 : decode M_X0_takeAway.2.1 73 = .ok (.lstore 5, 2) ∧ 73 + 2 = 75 := ⟨dcAll_e (i := 4) da_X0_takeAway_1 rfl, rfl⟩
theorem q_X0_takeAway_75 : decode M_X0_takeAway.2.1 75 = .ok (.aload_n 0, 1) ∧ 75 + 1 = 76 := ⟨dcAll_e (i := 5) da_X0_takeAway_1 rfl, rfl⟩
theorem q_X0_takeAway_76 : decode M_X0_takeAway.2.1 76 = .ok (.getfield 12, 3) ∧ 76 + 3 = 79 := ⟨dcAll_e (i := 6) da_X0_takeAway_1 rfl, rfl⟩
theorem q_X0_takeAway_79 : decode M_X0_takeAway.2.1 79 = .ok (.getfield 69, 3) ∧ 79 + 3 = 82 := ⟨dcAll_e (i := 7) da_X0_takeAway_1 rfl, rfl⟩
theorem q_X0_takeAway_82 : decode M_X0_takeAway.2.1 82 = .ok (.iload 7, 2) ∧ 82 + 2 = 84 := ⟨dcAll_e (i := 8) da_X0_takeAway_1 rfl, rfl⟩
theorem q_X0_takeAway_84 : decode M_X0_takeAway.2.1 84 = .ok (.iload_n 1, 1) ∧ 84 + 1 = 85 := ⟨dcAll_e (i := 9) da_X0_takeAway_1 rfl, rfl⟩
theorem q_X0_takeAway_85 : decode M_X0_takeAway.2.1 85 = .ok (.iadd, 1) ∧ 85 + 1 = 86 := ⟨dcAll_e (i := 10) da_X0_takeAway_1 rfl, rfl⟩
theorem q_X0_takeAway_86 : decode M_X0_takeAway.2.1 86 = .ok (.iaload, 1) ∧ 86 + 1 = 87 := ⟨dcAll_e (i := 11) da_X0_takeAway_1 rfl, rfl⟩
theorem q_X0_takeAway_87 : decode M_X0_takeAway.2.1 87 = .ok (.i2l, 1) ∧ 87 + 1 = 88 := ⟨dcAll_e (i := 12) da_X0_takeAway_1 rfl, rfl⟩
theorem q_X0_takeAway_88 : decode M_X0_takeAway.2.1 88 = .ok (.lload 8, 2) ∧ 88 + 2 = 90 := ⟨dcAll_e (i := 13) da_X0_takeAway_1 rfl, rfl⟩
theorem q_X0_takeAway_90 : decode M_X0_takeAway.2.1 90 = .ok (.lload 5, 2) ∧ 90 + 2 = 92 := ⟨dcAll_e (i := 14) da_X0_takeAway_1 rfl, rfl⟩
theorem q_X0_takeAway_92 : decode M_X0_takeAway.2.1 92 = .ok (.ldc2_w 83, 3) ∧ 92 + 3 = 95 := ⟨dcAll_e (i := 15) da_X0_takeAway_1 rfl, rfl⟩
theorem q_X0_takeAway_95 : decode M_X0_takeAway.2.1 95 = .ok (.lmul, 1) ∧ 95 + 1 = 96 := ⟨dcAll_e (i := 16) da_X0_takeAway_1 rfl, rfl⟩
theorem q_X0_takeAway_96 : decode M_X0_takeAway.2.1 96 = .ok (.lsub, 1) ∧ 96 + 1 = 97 := ⟨dcAll_e (i := 17) da_X0_takeAway_1 rfl, rfl⟩
theorem q_X0_takeAway_97 : decode M_X0_takeAway.2.1 97 = .ok (.lsub, 1) ∧ 97 + 1 = 98 := ⟨dcAll_e (i := 18) da_X0_takeAway_1 rfl, rfl⟩
theorem q_X0_takeAway_98 : decode M_X0_takeAway.2.1 98 = .ok (.lstore 10, 2) ∧ 98 + 2 = 100 := ⟨dcAll_e (i := 19) da_X0_takeAway_1 rfl, rfl⟩
theorem q_X0_takeAway_100 : decode M_X0_takeAway.2.1 100 = .ok (.lload 10, 2) ∧ 100 + 2 = 102 := ⟨dcAll_e (i := 20) da_X0_takeAway_1 rfl, rfl⟩
theorem q_X0_takeAway_102 : decode M_X0_takeAway.2.1 102 = .ok (.lconst 0, 1) ∧ 102 + 1 = 103 := ⟨dcAll_e (i := 21) da_X0_takeAway_1 rfl, rfl⟩
theorem q_X0_takeAway_103 : decode M_X0_takeAway.2.1 103 = .ok (.lcmp, 1) ∧ 103 + 1 = 104 := ⟨dcAll_e (i := 22) da_X0_takeAway_1 rfl, rfl⟩
theorem q_X0_takeAway_104 : decode M_X0_takeAway.2.1 104 = .ok (.ifCond .ge 17, 3) ∧ 104 + 3 = 107 ∧ ((104 : Nat) : Int) + 17 = ((121 : Nat) : Int) := ⟨dcAll_e (i := 23) da_X0_takeAway_1 rfl, rfl, rfl⟩
theorem q_X0_takeAway_107 : decode M_X0_takeAway.2.1 107 = .ok (.lload 10, 2) ∧ 107 + 2 = 109 := ⟨dcAll_e (i := 24) da_X0_takeAway_1 rfl, rfl⟩
theorem q_X0_takeAway_109 : decode M_X0_takeAway.2.1 109 = .ok (.ldc2_w 83, 3) ∧ 109 + 3 = 112 := ⟨dcAll_e (i := 25) da_X0_takeAway_1 rfl, rfl⟩
theorem q_X0_takeAway_112 : decode M_X0_takeAway.2.1 112 = .ok (.ladd, 1) ∧ 112 + 1 = 113 := ⟨dcAll_e (i := 26) da_X0_takeAway_1 rfl, rfl⟩
theorem q_X0_takeAway_113 : decode M_X0_takeAway.2.1 113 = .ok (.lstore 10, 2) ∧ 113 + 2 = 115 := ⟨dcAll_e (i := 27) da_X0_takeAway_1 rfl, rfl⟩
theorem q_X0_takeAway_115 : decode M_X0_takeAway.2.1 115 = .ok (.lload 5, 2) ∧ 115 + 2 = 117 := ⟨dcAll_e (i := 28) da_X0_takeAway_1 rfl, rfl⟩
theorem q_X0_takeAway_117 : decode M_X0_takeAway.2.1 117 = .ok (.lconst 1, 1) ∧ 117 + 1 = 118 := ⟨dcAll_e (i := 29) da_X0_takeAway_1 rfl, rfl⟩
theorem q_X0_takeAway_118 : decode M_X0_takeAway.2.1 118 = .ok (.ladd, 1) ∧ 118 + 1 = 119 := ⟨dcAll_e (i := 30) da_X0_takeAway_1 rfl, rfl⟩
theorem q_X0_takeAway_119 : decode M_X0_takeAway.2.1 119 = .ok (.lstore 5, 2) ∧ 119 + 2 = 121 := ⟨dcAll_e (i := 31) da_X0_takeAway_1 rfl, rfl⟩
theorem q_X0_takeAway_121 : decode M_X0_takeAway.2.1 121 = .ok (.aload_n 0, 1) ∧ 121 + 1 = 122 := ⟨dcAll_e (i := 32) da_X0_takeAway_1 rfl, rfl⟩
theorem q_X0_takeAway_122 : decode M_X0_takeAway.2.1 122 = .ok (.getfield 12, 3) ∧ 122 + 3 = 125 := ⟨dcAll_e (i := 33) da_X0_takeAway_1 rfl, rfl⟩
theorem q_X0_takeAway_125 : decode M_X0_takeAway.2.1 125 = .ok (.getfield 69, 3) ∧ 125 + 3 = 128 := ⟨dcAll_e (i := 34) da_X0_takeAway_1 rfl, rfl⟩
theorem q_X0_takeAway_128 : decode M_X0_takeAway.2.1 128 = .ok (.iload 7, 2) ∧ 128 + 2 = 130 := ⟨dcAll_e (i := 35) da_X0_takeAway_1 rfl, rfl⟩
theorem q_X0_takeAway_130 : decode M_X0_takeAway.2.1 130 = .ok (.iload_n 1, 1) ∧ 130 + 1 = 131 := ⟨dcAll_e (i := 36) da_X0_takeAway_1 rfl, rfl⟩
theorem q_X0_takeAway_131 : decode M_X0_takeAway.2.1 131 = .ok (.iadd, 1) ∧ 131 + 1 = 132 := ⟨dcAll_e (i := 37) da_X0_takeAway_1 rfl, rfl⟩
theorem q_X0_takeAway_132 : decode M_X0_takeAway.2.1 132 = .ok (.lload 10, 2) ∧ 132 + 2 = 134 := ⟨dcAll_e (i := 38) da_X0_takeAway_1 rfl, rfl⟩
theorem q_X0_takeAway_134 : decode M_X0_takeAway.2.1 134 = .ok (.l2i, 1) ∧ 134 + 1 = 135 := ⟨dcAll_e (i := 39) da_X0_takeAway_1 rfl, rfl⟩
theorem q_X0_takeAway_135 : decode M_X0_takeAway.2.1 135 = .ok (.iastore, 1) ∧ 135 + 1 = 136 := ⟨dcAll_e (i := 0) da_X0_takeAway_2 rfl, rfl⟩
theorem q_X0_takeAway_136 : decode M_X0_takeAway.2.1 136 = .ok (.iinc 7 1, 3) ∧ 136 + 3 = 139 := ⟨dcAll_e (i := 1) da_X0_takeAway_2 rfl, rfl⟩
theorem q_X0_takeAway_139 : decode M_X0_takeAway.2.1 139 = .ok (.goto (-96), 3) ∧ 139 + 3 = 142 ∧ ((139 : Nat) : Int) + (-96) = ((43 : Nat) : Int) := ⟨dcAll_e (i := 2) da_X0_takeAway_2 rfl, rfl, rfl⟩
theorem q_X0_takeAway_142 : decode M_X0_takeAway.2.1 142 = .ok (.aload_n 0, 1) ∧ 142 + 1 = 143 := ⟨dcAll_e (i := 3) da_X0_takeAway_2 rfl, rfl⟩
theorem q_X0_takeAway_143 : decode M_X0_takeAway.2.1 143 = .ok (.getfield 12, 3) ∧ 143 + 3 = 146 := ⟨dcAll_e (i := 4) da_X0_takeAway_2 rfl, rfl⟩
theorem q_X0_takeAway_146 : decode M_X0_takeAway.2.1 146 = .ok (.getfield 69, 3) ∧ 146 + 3 = 149 := ⟨dcAll_e (i := 5) da_X0_takeAway_2 rfl, rfl⟩
theorem q_X0_takeAway_149 : decode M_X0_takeAway.2.1 149 = .ok (.iload_n 2, 1) ∧ 149 + 1 = 150 := ⟨dcAll_e (i := 6) da_X0_takeAway_2 rfl, rfl⟩
theorem q_X0_takeAway_150 : decode M_X0_takeAway.2.1 150 = .ok (.iload_n 1, 1) ∧ 150 + 1 = 151 := ⟨dcAll_e (i := 7) da_X0_takeAway_2 rfl, rfl⟩
theorem q_X0_takeAway_151 : decode M_X0_takeAway.2.1 151 = .ok (.iadd, 1) ∧ 151 + 1 = 152 := ⟨dcAll_e (i := 8) da_X0_takeAway_2 rfl, rfl⟩
theorem q_X0_takeAway_152 : decode M_X0_takeAway.2.1 152 = .ok (.iaload, 1) ∧ 152 + 1 = 153 := ⟨dcAll_e (i := 9) da_X0_takeAway_2 rfl, rfl⟩
theorem q_X0_takeAway_153 : decode M_X0_takeAway.2.1 153 = .ok (.i2l, 1) ∧ 153 + 1 = 154 := ⟨dcAll_e (i := 10) da_X0_takeAway_2 rfl, rfl⟩
theorem q_X0_takeAway_154 : decode M_X0_takeAway.2.1 154 = .ok (.lload 5, 2) ∧ 154 + 2 = 156 := ⟨dcAll_e (i := 11) da_X0_takeAway_2 rfl, rfl⟩
theorem q_X0_takeAway_156 : decode M_X0_takeAway.2.1 156 = .ok (.lsub, 1) ∧ 156 + 1 = 157 := ⟨dcAll_e (i := 12) da_X0_takeAway_2 rfl, rfl⟩
theorem q_X0_takeAway_157 : decode M_X0_takeAway.2.1 157 = .ok (.lstore 7, 2) ∧ 157 + 2 = 159 := ⟨dcAll_e (i := 13) da_X0_takeAway_2 rfl, rfl⟩
theorem q_X0_takeAway_159 : decode M_X0_takeAway.2.1 159 = .ok (.aload_n 0, 1) ∧ 159 + 1 = 160 := ⟨dcAll_e (i := 14) da_X0_takeAway_2 rfl, rfl⟩
theorem q_X0_takeAway_160 : decode M_X0_takeAway.2.1 160 = .ok (.getfield 12, 3) ∧ 160 + 3 = 163 := ⟨dcAll_e (i := 15) da_X0_takeAway_2 rfl, rfl⟩
theorem q_X0_takeAway_163 : decode M_X0_takeAway.2.1 163 = .ok (.getfield 69, 3) ∧ 163 + 3 = 166 := ⟨dcAll_e (i := 16) da_X0_takeAway_2 rfl, rfl⟩
theorem q_X0_takeAway_166 : decode M_X0_takeAway.2.1 166 = .ok (.iload_n 2, 1) ∧ 166 + 1 = 167 := ⟨dcAll_e (i := 17) da_X0_takeAway_2 rfl, rfl⟩
theorem q_X0_takeAway_167 : decode M_X0_takeAway.2.1 167 = .ok (.iload_n 1, 1) ∧ 167 + 1 = 168 := ⟨dcAll_e (i := 18) da_X0_takeAway_2 rfl, rfl⟩
theorem q_X0_takeAway_168 : decode M_X0_takeAway.2.1 168 = .ok (.iadd, 1) ∧ 168 + 1 = 169 := ⟨dcAll_e (i := 19) da_X0_takeAway_2 rfl, rfl⟩
theorem q_X0_takeAway_169 : decode M_X0_takeAway.2.1 169 = .ok (.lload 7, 2) ∧ 169 + 2 = 171 := ⟨dcAll_e (i := 20) da_X0_takeAway_2 rfl, rfl⟩
theorem q_X0_takeAway_171 : decode M_X0_takeAway.2.1 171 = .ok (.l2i, 1) ∧ 171 + 1 = 172 := ⟨dcAll_e (i := 21) da_X0_takeAway_2 rfl, rfl⟩
theorem q_X0_takeAway_172 : decode M_X0_takeAway.2.1 172 = .ok (.iastore, 1) ∧ 172 + 1 = 173 := ⟨dcAll_e (i := 22) da_X0_takeAway_2 rfl, rfl⟩
theorem q_X0_takeAway_173 : decode M_X0_takeAway.2.1 173 = .ok (.lload 7, 2) ∧ 173 + 2 = 175 := ⟨dcAll_e (i := 23) da_X0_takeAway_2 rfl, rfl⟩
theorem q_X0_takeAway_175 : decode M_X0_takeAway.2.1 175 = .ok (.lconst 0, 1) ∧ 175 + 1 = 176 := ⟨dcAll_e (i := 24) da_X0_takeAway_2 rfl, rfl⟩
theorem q_X0_takeAway_176 : decode M_X0_takeAway.2.1 176 = .ok (.lcmp, 1) ∧ 176 + 1 = 177 := ⟨dcAll_e (i := 25) da_X0_takeAway_2 rfl, rfl⟩
theorem q_X0_takeAway_177 : decode M_X0_takeAway.2.1 177 = .ok (.ifCond .ge 13, 3) ∧ 177 + 3 = 180 ∧ ((177 : Nat) : Int) + 13 = ((190 : Nat) : Int) := ⟨dcAll_e (i := 26) da_X0_takeAway_2 rfl, rfl, rfl⟩
theorem q_X0_takeAway_180 : decode M_X0_takeAway.2.1 180 = .ok (.aload_n 0, 1) ∧ 180 + 1 = 181 := ⟨dcAll_e (i := 27) da_X0_takeAway_2 rfl, rfl⟩
theorem q_X0_takeAway_181 : decode M_X0_takeAway.2.1 181 = .ok (.iload_n 2, 1) ∧ 181 + 1 = 182 := ⟨dcAll_e (i := 28) da_X0_takeAway_2 rfl, rfl⟩
theorem q_X0_takeAway_182 : decode M_X0_takeAway.2.1 182 = .ok (.iload_n 1, 1) ∧ 182 + 1 = 183 := ⟨dcAll_e (i := 29) da_X0_takeAway_2 rfl, rfl⟩
theorem q_X0_takeAway_183 : decode M_X0_takeAway.2.1 183 = .ok (.invokevirtual 85, 3) ∧ 183 + 3 = 186 := ⟨dcAll_e (i := 30) da_X0_takeAway_2 rfl, rfl⟩
theorem cd_X0_giveBack : Cond.code M_X0_giveBack.1 M_X0_giveBack.2.1 M_X0_giveBack.2.2.1 M_X0_giveBack.2.2.2.1 ∈ en_tbl := inT2 193 rfl rfl
theorem g_X0_takeAway_183 : en_C M_X0_takeAway M_X0_giveBack 85 2 := ⟨⟨inT2 190 rfl rfl, in_X0, cd_X0_giveBack⟩, ⟨by decide, by decide, by decide +kernel⟩, by decide, by decide⟩
theorem w_X0_giveBack : Cond.instanceMethod M_X0_giveBack.1 ∈ en_tbl ∧ Cond.selects M_X0_giveBack.1.cls M_X0_giveBack.1 M_X0_giveBack.1 ∈ en_tbl := ⟨inT2 192 rfl rfl, by decide +kernel⟩
theorem q_X0_takeAway_186 : decode M_X0_takeAway.2.1 186 = .ok (.lload_n 3, 1) ∧ 186 + 1 = 187 := ⟨dcAll_e (i := 31) da_X0_takeAway_2 rfl, rfl⟩
theorem q_X0_takeAway_187 : decode M_X0_takeAway.2.1 187 = .ok (.lconst 1, 1) ∧ 187 + 1 = 188 := ⟨dcAll_e (i := 32) da_X0_takeAway_2 rfl, rfl⟩
theorem q_X0_takeAway_188 : decode M_X0_takeAway.2.1 188 = .ok (.lsub, 1) ∧ 188 + 1 = 189 := ⟨dcAll_e (i := 33) da_X0_takeAway_2 rfl, rfl⟩
theorem q_X0_takeAway_189 : decode M_X0_takeAway.2.1 189 = .ok (.lstore_n 3, 1) ∧ 189 + 1 = 190 := ⟨dcAll_e (i := 34) da_X0_takeAway_2 rfl, rfl⟩
theorem q_X0_takeAway_190 : decode M_X0_takeAway.2.1 190 = .ok (.lload_n 3, 1) ∧ 190 + 1 = 191 := ⟨dcAll_e (i := 35) da_X0_takeAway_2 rfl, rfl⟩
theorem q_X0_takeAway_191 : decode M_X0_takeAway.2.1 191 = .ok (.l2i, 1) ∧ 191 + 1 = 192 := ⟨dcAll_e (i := 36) da_X0_takeAway_2 rfl, rfl⟩
theorem q_X0_takeAway_192 : decode M_X0_takeAway.2.1 192 = .ok (.ireturn, 1) ∧ 192 + 1 = 193 := ⟨dcAll_e (i := 37) da_X0_takeAway_2 rfl, rfl⟩
def dl_X0_guessLimb_0 : List (Nat × Instr × Nat) := [(0, .aload_n 0, 1), (1, .getfield 18, 3), (4, .getfield 69, 3), (7, .iload_n 1, 1), (8, .iconst 1, 1), (9, .isub, 1), (10, .iaload, 1), (11, .i2l, 1), (12, .lstore_n 3, 1), (13, .aload_n 0, 1), (14, .getfield 18, 3), (17, .getfield 69, 3), (20, .iload_n 1, 1), (21, .iconst 2, 1), (22, .isub, 1), (23, .iaload, 1), (24, .i2l, 1), (25, .lstore 5, 2), (27, .lload_n 3, 1), (28, .lconst 0, 1), (29, .lcmp, 1), (30, .ifCond .gt 5, 3), (33, .lconst 0, 1), (34, .lreturn, 1), (35, .aload_n 0, 1), (36, .getfield 12, 3), (39, .getfield 69, 3), (42, .iload_n 2, 1), (43, .iaload, 1), (44, .i2l, 1), (45, .ldc2_w 83, 3), (48, .lmul, 1), (49, .aload_n 0, 1), (50, .getfield 12, 3), (53, .getfield 69, 3), (56, .iload_n 2, 1), (57, .iconst 1, 1), (58, .isub, 1), (59, .iaload, 1), (60, .i2l, 1)]
theorem da_X0_guessLimb_0 : dcAll M_X0_guessLimb.2.1 dl_X0_guessLimb_0 = true := by decide +kernel
def dl_X0_guessLimb_1 : List (Nat × Instr × Nat) := [(61, .ladd, 1), (62, .lstore 7, 2), (64, .aload_n 0, 1), (65, .getfield 12, 3), (68, .getfield 69, 3), (71, .iload_n 2, 1), (72, .iconst 2, 1), (73, .isub, 1), (74, .iaload, 1), (75, .i2l, 1), (76, .lstore 9, 2), (78, .lload 7, 2), (80, .lload_n 3, 1), (81, .ldiv, 1), (82, .lstore 11, 2), (84, .lload 7, 2), (86, .lload 11, 2), (88, .lload_n 3, 1), (89, .lmul, 1), (90, .lsub, 1), (91, .lstore 13, 2), (93, .iconst 0, 1), (94, .istore 15, 2), (96, .iload 15, 2), (98, .iconst 4, 1), (99, .if_icmp .ge 60, 3), (102, .lload 13, 2), (104, .ldc2_w 83, 3), (107, .lcmp, 1), (108, .ifCond .ge 51, 3), (111, .lload 11, 2), (113, .ldc2_w 83, 3), (116, .lcmp, 1), (117, .ifCond .ge 24, 3), (120, .lload 11, 2), (122, .lload 5, 2), (124, .lmul, 1), (125, .lload 13, 2), (127, .ldc2_w 83, 3), (130, .lmul, 1)]
theorem da_X0_guessLimb_1 : dcAll M_X0_guessLimb.2.1 dl_X0_guessLimb_1 = true := by decide +kernel
def dl_X0_guessLimb_2 : List (Nat × Instr × Nat) := [(131, .lload 9, 2), (133, .ladd, 1), (134, .lcmp, 1), (135, .ifCond .gt 6, 3), (138, .goto 21, 3), (141, .lload 11, 2), (143, .lconst 1, 1), (144, .lsub, 1), (145, .lstore 11, 2), (147, .lload 13, 2), (149, .lload_n 3, 1), (150, .ladd, 1), (151, .lstore 13, 2), (153, .iinc 15 1, 3), (156, .goto (-60), 3), (159, .lload 11, 2), (161, .lreturn, 1)]
theorem da_X0_guessLimb_2 : dcAll M_X0_guessLimb.2.1 dl_X0_guessLimb_2 = true := by decide +kernel
theorem q_X0_guessLimb_0 : decode M_X0_guessLimb.2.1 0 = .ok (.aload_n 0, 1) ∧ 0 + 1 = 1 := ⟨dcAll_e (i := 0) da_X0_guessLimb_0 rfl, rfl⟩
theorem q_X0_guessLimb_1 : decode M_X0_guessLimb.2.1 1 = .ok (.getfield 18, 3) ∧ 1 + 3 = 4 := ⟨dcAll_e (i := 1) da_X0_guessLimb_0 rfl, rfl⟩
theorem q_X0_guessLimb_4 : decode M_X0_guessLimb.2.1 4 = .ok (.getfield 69, 3) ∧ 4 + 3 = 7 := ⟨dcAll_e (i := 2) da_X0_guessLimb_0 rfl, rfl⟩
theorem q_X0_guessLimb_7 : decode M_X0_guessLimb.2.1 7 = .ok (.iload_n 1, 1) ∧ 7 + 1 = 8 := ⟨dcAll_e (i := 3) da_X0_guessLimb_0 rfl, rfl⟩
theorem q_X0_guessLimb_8 : decode M_X0_guessLimb.2.1 8 = .ok (.iconst 1, 1) ∧ 8 + 1 = 9 := ⟨dcAll_e (i := 4) da_X0_guessLimb_0 rfl, rfl⟩
theorem q_X0_guessLimb_9 : decode M_X0_guessLimb.2.1 9 = .ok (.isub, 1) ∧ 9 + 1 = 10 := ⟨dcAll_e (i := 5) da_X0_guessLimb_0 rfl, rfl⟩
theorem q_X0_guessLimb_10 : decode M_X0_guessLimb.2.1 10 = .ok (.iaload, 1) ∧ 10 + 1 = 11 := ⟨dcAll_e (i := 6) da_X0_guessLimb_0 rfl, rfl⟩
theorem q_X0_guessLimb_11 : decode M_X0_guessLimb.2.1 11 = .ok (.i2l, 1) ∧ 11 + 1 = 12 := ⟨dcAll_e (i := 7) da_X0_guessLimb_0 rfl, rfl⟩
theorem q_X0_guessLimb_12 : decode M_X0_guessLimb.2.1 12 = .ok (.lstore_n 3, 1) ∧ 12 + 1 = 13 := ⟨dcAll_e (i := 8) da_X0_guessLimb_0 rfl, rfl⟩
theorem q_X0_guessLimb_13 : decode M_X0_guessLimb.2.1 13 = .ok (.aload_n 0, 1) ∧ 13 + 1 = 14 := ⟨dcAll_e (i := 9) da_X0_guessLimb_0 rfl, rfl⟩
theorem q_X0_guessLimb_14 : decode M_X0_guessLimb.2.1 14 = .ok (.getfield 18, 3) ∧ 14 + 3 = 17 := ⟨dcAll_e (i := 10) da_X0_guessLimb_0 rfl, rfl⟩
theorem q_X0_guessLimb_17 : decode M_X0_guessLimb.2.1 17 = .ok (.getfield 69, 3) ∧ 17 + 3 = 20 := ⟨dcAll_e (i := 11) da_X0_guessLimb_0 rfl, rfl⟩
theorem q_X0_guessLimb_20 : decode M_X0_guessLimb.2.1 20 = .ok (.iload_n 1, 1) ∧ 20 + 1 = 21 := ⟨dcAll_e (i := 12) da_X0_guessLimb_0 rfl, rfl⟩
theorem q_X0_guessLimb_21 : decode M_X0_guessLimb.2.1 21 = .ok (.iconst 2, 1) ∧ 21 + 1 = 22 := ⟨dcAll_e (i := 13) da_X0_guessLimb_0 rfl, rfl⟩
theorem q_X0_guessLimb_22 : decode M_X0_guessLimb.2.1 22 = .ok (.isub, 1) ∧ 22 + 1 = 23 := ⟨dcAll_e (i := 14) da_X0_guessLimb_0 rfl, rfl⟩
theorem q_X0_guessLimb_23 : decode M_X0_guessLimb.2.1 23 = .ok (.iaload, 1) ∧ 23 + 1 = 24 := ⟨dcAll_e (i := 15) da_X0_guessLimb_0 rfl, rfl⟩
theorem q_X0_guessLimb_24 : decode M_X0_guessLimb.2.1 24 = .ok (.i2l, 1) ∧ 24 + 1 = 25 := ⟨dcAll_e (i := 16) da_X0_guessLimb_0 rfl, rfl⟩
theorem q_X0_guessLimb_25 : decode M_X0_guessLimb.2.1 25 = .ok (.lstore 5, 2) ∧ 25 + 2 = 27 := ⟨dcAll_e (i := 17) da_X0_guessLimb_0 rfl, rfl⟩
theorem q_X0_guessLimb_27 : decode M_X0_guessLimb.2.1 27 = .ok (.lload_n 3, 1) ∧ 27 + 1 = 28 := ⟨dcAll_e (i := 18) da_X0_guessLimb_0 rfl, rfl⟩
theorem q_X0_guessLimb_28 : decode M_X0_guessLimb.2.1 28 = .ok (.lconst 0, 1) ∧ 28 + 1 = 29 := ⟨dcAll_e (i := 19) da_X0_guessLimb_0 rfl, rfl⟩
theorem q_X0_guessLimb_29 : decode M_X0_guessLimb.2.1 29 = .ok (.lcmp, 1) ∧ 29 + 1 = 30 := ⟨dcAll_e (i := 20) da_X0_guessLimb_0 rfl, rfl⟩
theorem q_X0_guessLimb_30 : decode M_X0_guessLimb.2.1 30 = .ok (.ifCond .gt 5, 3) ∧ 30 + 3 = 33 ∧ ((30 : Nat) : Int) + 5 = ((35 : Nat) : Int) := ⟨dcAll_e (i := 21) da_X0_guessLimb_0 rfl, rfl, rfl⟩
theorem q_X0_guessLimb_33 : decode M_X0_guessLimb.2.1 33 = .ok (.lconst 0, 1) ∧ 33 + 1 = 34 := ⟨dcAll_e (i := 22) da_X0_guessLimb_0 rfl, rfl⟩
theorem q_X0_guessLimb_34 : decode M_X0_guessLimb.2.1 34 = .ok (.lreturn, 1) ∧ 34 + 1 = 35 := ⟨dcAll_e (i := 23) da_X0_guessLimb_0 rfl, rfl⟩
theorem q_X0_guessLimb_35 : decode M_X0_guessLimb.2.1 35 = .ok (.aload_n 0, 1) ∧ 35 + 1 = 36 := ⟨dcAll_e (i := 24) da_X0_guessLimb_0 rfl, rfl⟩
theorem q_X0_guessLimb_36 : decode M_X0_guessLimb.2.1 36 = .ok (.getfield 12, 3) ∧ 36 + 3 = 39 := ⟨dcAll_e (i := 25) da_X0_guessLimb_0 rfl, rfl⟩
theorem q_X0_guessLimb_39 : decode M_X0_guessLimb.2.1 39 = .ok (.getfield 69, 3) ∧ 39 + 3 = 42 := ⟨dcAll_e (i := 26) da_X0_guessLimb_0 rfl, rfl⟩
theorem q_X0_guessLimb_42 : decode M_X0_guessLimb.2.1 42 = .ok (.iload_n 2, 1) ∧ 42 + 1 = 43 := ⟨dcAll_e (i := 27) da_X0_guessLimb_0 rfl, rfl⟩
theorem q_X0_guessLimb_43 : decode M_X0_guessLimb.2.1 43 = .ok (.iaload, 1) ∧ 43 + 1 = 44 := ⟨dcAll_e (i := 28) da_X0_guessLimb_0 rfl, rfl⟩
theorem q_X0_guessLimb_44 : decode M_X0_guessLimb.2.1 44 = .ok (.i2l, 1) ∧ 44 + 1 = 45 := ⟨dcAll_e (i := 29) da_X0_guessLimb_0 rfl, rfl⟩
theorem q_X0_guessLimb_45 : decode M_X0_guessLimb.2.1 45 = .ok (.ldc2_w 83, 3) ∧ 45 + 3 = 48 := ⟨dcAll_e (i := 30) da_X0_guessLimb_0 rfl, rfl⟩
theorem q_X0_guessLimb_48 : decode M_X0_guessLimb.2.1 48 = .ok (.lmul, 1) ∧ 48 + 1 = 49 := ⟨dcAll_e (i := 31) da_X0_guessLimb_0 rfl, rfl⟩
theorem q_X0_guessLimb_49 : decode M_X0_guessLimb.2.1 49 = .ok (.aload_n 0, 1) ∧ 49 + 1 = 50 := ⟨dcAll_e (i := 32) da_X0_guessLimb_0 rfl, rfl⟩
theorem q_X0_guessLimb_50 : decode M_X0_guessLimb.2.1 50 = .ok (.getfield 12, 3) ∧ 50 + 3 = 53 := ⟨dcAll_e (i := 33) da_X0_guessLimb_0 rfl, rfl⟩
theorem q_X0_guessLimb_53 : decode M_X0_guessLimb.2.1 53 = .ok (.getfield 69, 3) ∧ 53 + 3 = 56 := ⟨dcAll_e (i := 34) da_X0_guessLimb_0 rfl, rfl⟩
theorem q_X0_guessLimb_56 : decode M_X0_guessLimb.2.1 56 = .ok (.iload_n 2, 1) ∧ 56 + 1 = 57 := ⟨dcAll_e (i := 35) da_X0_guessLimb_0 rfl, rfl⟩
theorem q_X0_guessLimb_57 : decode M_X0_guessLimb.2.1 57 = .ok (.iconst 1, 1) ∧ 57 + 1 = 58 := ⟨dcAll_e (i := 36) da_X0_guessLimb_0 rfl, rfl⟩
theorem q_X0_guessLimb_58 : decode M_X0_guessLimb.2.1 58 = .ok (.isub, 1) ∧ 58 + 1 = 59 := ⟨dcAll_e (i := 37) da_X0_guessLimb_0 rfl, rfl⟩
theorem q_X0_guessLimb_59 : decode M_X0_guessLimb.2.1 59 = .ok (.iaload, 1) ∧ 59 + 1 = 60 := ⟨dcAll_e (i := 38) da_X0_guessLimb_0 rfl, rfl⟩
theorem q_X0_guessLimb_60 : decode M_X0_guessLimb.2.1 60 = .ok (.i2l, 1) ∧ 60 + 1 = 61 := ⟨dcAll_e (i := 39) da_X0_guessLimb_0 rfl, rfl⟩
theorem q_X0_guessLimb_61 : decode M_X0_guessLimb.2.1 61 = .ok (.ladd, 1) ∧ 61 + 1 = 62 := ⟨dcAll_e (i := 0) da_X0_guessLimb_1 rfl, rfl⟩
theorem q_X0_guessLimb_62 : decode M_X0_guessLimb.2.1 62 = .ok (.lstore 7, 2) ∧ 62 + 2 = 64 := ⟨dcAll_e (i := 1) da_X0_guessLimb_1 rfl, rfl⟩
theorem q_X0_guessLimb_64 : decode M_X0_guessLimb.2.1 64 = .ok (.aload_n 0, 1) ∧ 64 + 1 = 65 := ⟨dcAll_e (i := 2) da_X0_guessLimb_1 rfl, rfl⟩
theorem q_X0_guessLimb_65 : decode M_X0_guessLimb.2.1 65 = .ok (.getfield 12, 3) ∧ 65 + 3 = 68 := ⟨dcAll_e (i := 3) da_X0_guessLimb_1 rfl, rfl⟩
theorem q_X0_guessLimb_68 : decode M_X0_guessLimb.2.1 68 = .ok (.getfield 69, 3) ∧ 68 + 3 = 71 := ⟨dcAll_e (i := 4) da_X0_guessLimb_1 rfl, rfl⟩
theorem q_X0_guessLimb_71 : decode M_X0_guessLimb.2.1 71 = .ok (.iload_n 2, 1) ∧ 71 + 1 = 72 := ⟨dcAll_e (i := 5) da_X0_guessLimb_1 rfl, rfl⟩
theorem q_X0_guessLimb_72 : decode M_X0_guessLimb.2.1 72 = .ok (.iconst 2, 1) ∧ 72 + 1 = 73 := ⟨dcAll_e (i := 6) da_X0_guessLimb_1 rfl, rfl⟩
theorem q_X0_guessLimb_73 : decode M_X0_guessLimb.2.1 73 = .ok (.isub, 1) ∧ 73 + 1 = 74 := ⟨dcAll_e (i := 7) da_X0_guessLimb_1 rfl, rfl⟩
theorem q_X0_guessLimb_74 : decode M_X0_guessLimb.2.1 74 = .ok (.iaload, 1) ∧ 74 + 1 = 75 := ⟨dcAll_e (i := 8) da_X0_guessLimb_1 rfl, rfl⟩
theorem q_X0_guessLimb_75 : decode M_X0_guessLimb.2.1 75 = .ok (.i2l, 1) ∧ 75 + 1 = 76 := ⟨dcAll_e (i := 9) da_X0_guessLimb_1 rfl, rfl⟩
theorem q_X0_guessLimb_76 : decode M_X0_guessLimb.2.1 76 = .ok (.lstore 9, 2) ∧ 76 + 2 = 78 := ⟨dcAll_e (i := 10) da_X0_guessLimb_1 rfl, rfl⟩
theorem q_X0_guessLimb_78 : decode M_X0_guessLimb.2.1 78 = .ok (.lload 7, 2) ∧ 78 + 2 = 80 := ⟨dcAll_e (i := 11) da_X0_guessLimb_1 rfl, rfl⟩
theorem q_X0_guessLimb_80 : decode M_X0_guessLimb.2.1 80 = .ok (.lload_n 3, 1) ∧ 80 + 1 = 81 := ⟨dcAll_e (i := 12) da_X0_guessLimb_1 rfl, rfl⟩
theorem q_X0_guessLimb_81 : decode M_X0_guessLimb.2.1 81 = .ok (.ldiv, 1) ∧ 81 + 1 = 82 := ⟨dcAll_e (i := 13) da_X0_guessLimb_1 rfl, rfl⟩
theorem q_X0_guessLimb_82 : decode M_X0_guessLimb.2.1 82 = .ok (.lstore 11, 2) ∧ 82 + 2 = 84 := ⟨dcAll_e (i := 14) da_X0_guessLimb_1 rfl, rfl⟩
theorem q_X0_guessLimb_84 : decode M_X0_guessLimb.2.1 84 = .ok (.lload 7, 2) ∧ 84 + 2 = 86 := ⟨dcAll_e (i := 15) da_X0_guessLimb_1 rfl, rfl⟩
theorem q_X0_guessLimb_86 : decode M_X0_guessLimb.2.1 86 = .ok (.lload 11, 2) ∧ 86 + 2 = 88 := ⟨dcAll_e (i := 16) da_X0_guessLimb_1 rfl, rfl⟩
theorem q_X0_guessLimb_88 : decode M_X0_guessLimb.2.1 88 = .ok (.lload_n 3, 1) ∧ 88 + 1 = 89 := ⟨dcAll_e (i := 17) da_X0_guessLimb_1 rfl, rfl⟩
theorem q_X0_guessLimb_89 : decode M_X0_guessLimb.2.1 89 = .ok (.lmul, 1) ∧ 89 + 1 = 90 := ⟨dcAll_e (i := 18) da_X0_guessLimb_1 rfl, rfl⟩
theorem q_X0_guessLimb_90 : decode M_X0_guessLimb.2.1 90 = .ok (.lsub, 1) ∧ 90 + 1 = 91 := ⟨dcAll_e (i := 19) da_X0_guessLimb_1 rfl, rfl⟩
theorem q_X0_guessLimb_91 : decode M_X0_guessLimb.2.1 91 = .ok (.lstore 13, 2) ∧ 91 + 2 = 93 := ⟨dcAll_e (i := 20) da_X0_guessLimb_1 rfl, rfl⟩
theorem q_X0_guessLimb_93 : decode M_X0_guessLimb.2.1 93 = .ok (.iconst 0, 1) ∧ 93 + 1 = 94 := ⟨dcAll_e (i := 21) da_X0_guessLimb_1 rfl, rfl⟩
theorem q_X0_guessLimb_94 : decode M_X0_guessLimb.2.1 94 = .ok (.istore 15, 2) ∧ 94 + 2 = 96 := ⟨dcAll_e (i := 22) da_X0_guessLimb_1 rfl, rfl⟩
theorem q_X0_guessLimb_96 : decode M_X0_guessLimb.2.1 96 = .ok (.iload 15, 2) ∧ 96 + 2 = 98 := ⟨dcAll_e (i := 23) da_X0_guessLimb_1 rfl, rfl⟩
theorem q_X0_guessLimb_98 : decode M_X0_guessLimb.2.1 98 = .ok (.iconst 4, 1) ∧ 98 + 1 = 99 := ⟨dcAll_e (i := 24) da_X0_guessLimb_1 rfl, rfl⟩
theorem q_X0_guessLimb_99 : decode M_X0_guessLimb.2.1 99 = .ok (.if_icmp .ge 60, 3) ∧ 99 + 3 = 102 ∧ ((99 : Nat) : Int) + 60 = ((159 : Nat) : Int) := ⟨dcAll_e (i := 25) da_X0_guessLimb_1 rfl, rfl, rfl⟩
theorem q_X0_guessLimb_102 : decode M_X0_guessLimb.2.1 102 = .ok (.lload 13, 2) ∧ 102 + 2 = 104 := ⟨dcAll_e (i := 26) da_X0_guessLimb_1 rfl, rfl⟩
theorem q_X0_guessLimb_104 : decode M_X0_guessLimb.2.1 104 = .ok (.ldc2_w 83, 3) ∧ 104 + 3 = 107 := ⟨dcAll_e (i := 27) da_X0_guessLimb_1 rfl, rfl⟩
theorem q_X0_guessLimb_107 : decode M_X0_guessLimb.2.1 107 = .ok (.lcmp, 1) ∧ 107 + 1 = 108 := ⟨dcAll_e (i := 28) da_X0_guessLimb_1 rfl, rfl⟩
theorem q_X0_guessLimb_108 : decode M_X0_guessLimb.2.1 108 = .ok (.ifCond .ge 51, 3) ∧ 108 + 3 = 111 ∧ ((108 : Nat) : Int) + 51 = ((159 : Nat) : Int) := ⟨dcAll_e (i := 29) da_X0_guessLimb_1 rfl, rfl, rfl⟩
theorem q_X0_guessLimb_111 : decode M_X0_guessLimb.2.1 111 = .ok (.lload 11, 2) ∧ 111 + 2 = 113 := ⟨dcAll_e (i := 30) da_X0_guessLimb_1 rfl, rfl⟩
theorem q_X0_guessLimb_113 : decode M_X0_guessLimb.2.1 113 = .ok (.ldc2_w 83, 3) ∧ 113 + 3 = 116 := ⟨dcAll_e (i := 31) da_X0_guessLimb_1 rfl, rfl⟩
theorem q_X0_guessLimb_116 : decode M_X0_guessLimb.2.1 116 = .ok (.lcmp, 1) ∧ 116 + 1 = 117 := ⟨dcAll_e (i := 32) da_X0_guessLimb_1 rfl, rfl⟩
theorem q_X0_guessLimb_117 : decode M_X0_guessLimb.2.1 117 = .ok (.ifCond .ge 24, 3) ∧ 117 + 3 = 120 ∧ ((117 : Nat) : Int) + 24 = ((141 : Nat) : Int) := ⟨dcAll_e (i := 33) da_X0_guessLimb_1 rfl, rfl, rfl⟩
theorem q_X0_guessLimb_120 : decode M_X0_guessLimb.2.1 120 = .ok (.lload 11, 2) ∧ 120 + 2 = 122 := ⟨dcAll_e (i := 34) da_X0_guessLimb_1 rfl, rfl⟩
theorem q_X0_guessLimb_122 : decode M_X0_guessLimb.2.1 122 = .ok (.lload 5, 2) ∧ 122 + 2 = 124 := ⟨dcAll_e (i := 35) da_X0_guessLimb_1 rfl, rfl⟩
theorem q_X0_guessLimb_124 : decode M_X0_guessLimb.2.1 124 = .ok (.lmul, 1) ∧ 124 + 1 = 125 := ⟨dcAll_e (i := 36) da_X0_guessLimb_1 rfl, rfl⟩
theorem q_X0_guessLimb_125 : decode M_X0_guessLimb.2.1 125 = .ok (.lload 13, 2) ∧ 125 + 2 = 127 := ⟨dcAll_e (i := 37) da_X0_guessLimb_1 rfl, rfl⟩
theorem q_X0_guessLimb_127 : decode M_X0_guessLimb.2.1 127 = .ok (.ldc2_w 83, 3) ∧ 127 + 3 = 130 := ⟨dcAll_e (i := 38) da_X0_guessLimb_1 rfl, rfl⟩
theorem q_X0_guessLimb_130 : decode M_X0_guessLimb.2.1 130 = .ok (.lmul, 1) ∧ 130 + 1 = 131 := ⟨dcAll_e (i := 39) da_X0_guessLimb_1 rfl, rfl⟩
theorem q_X0_guessLimb_131 : decode M_X0_guessLimb.2.1 131 = .ok (.lload 9, 2) ∧ 131 + 2 = 133 := ⟨dcAll_e (i := 0) da_X0_guessLimb_2 rfl, rfl⟩
theorem q_X0_guessLimb_133 : decode M_X0_guessLimb.2.1 133 = .ok (.ladd, 1) ∧ 133 + 1 = 134 := ⟨dcAll_e (i := 1) da_X0_guessLimb_2 rfl, rfl⟩
theorem q_X0_guessLimb_134 : decode M_X0_guessLimb.2.1 134 = .ok (.lcmp, 1) ∧ 134 + 1 = 135 := ⟨dcAll_e (i := 2) da_X0_guessLimb_2 rfl, rfl⟩
theorem q_X0_guessLimb_135 : decode M_X0_guessLimb.2.1 135 = .ok (.ifCond .gt 6, 3) ∧ 135 + 3 = 138 ∧ ((135 : Nat) : Int) + 6 = ((141 : Nat) : Int) := ⟨dcAll_e (i := 3) da_X0_guessLimb_2 rfl, rfl, rfl⟩
theorem q_X0_guessLimb_138 : decode M_X0_guessLimb.2.1 138 = .ok (.goto 21, 3) ∧ 138 + 3 = 141 ∧ ((138 : Nat) : Int) + 21 = ((159 : Nat) : Int) := ⟨dcAll_e (i := 4) da_X0_guessLimb_2 rfl, rfl, rfl⟩
theorem q_X0_guessLimb_141 : decode M_X0_guessLimb.2.1 141 = .ok (.lload 11, 2) ∧ 141 + 2 = 143 := ⟨dcAll_e (i := 5) da_X0_guessLimb_2 rfl, rfl⟩
theorem q_X0_guessLimb_143 : decode M_X0_guessLimb.2.1 143 = .ok (.lconst 1, 1) ∧ 143 + 1 = 144 := ⟨dcAll_e (i := 6) da_X0_guessLimb_2 rfl, rfl⟩
theorem q_X0_guessLimb_144 : decode M_X0_guessLimb.2.1 144 = .ok (.lsub, 1) ∧ 144 + 1 = 145 := ⟨dcAll_e (i := 7) da_X0_guessLimb_2 rfl, rfl⟩
theorem q_X0_guessLimb_145 : decode M_X0_guessLimb.2.1 145 = .ok (.lstore 11, 2) ∧ 145 + 2 = 147 := ⟨dcAll_e (i := 8) da_X0_guessLimb_2 rfl, rfl⟩
theorem q_X0_guessLimb_147 : decode M_X0_guessLimb.2.1 147 = .ok (.lload 13, 2) ∧ 147 + 2 = 149 := ⟨dcAll_e (i := 9) da_X0_guessLimb_2 rfl, rfl⟩
theorem q_X0_guessLimb_149 : decode M_X0_guessLimb.2.1 149 = .ok (.lload_n 3, 1) ∧ 149 + 1 = 150 := ⟨dcAll_e (i := 10) da_X0_guessLimb_2 rfl, rfl⟩
theorem q_X0_guessLimb_150 : decode M_X0_guessLimb.2.1 150 = .ok (.ladd, 1) ∧ 150 + 1 = 151 := ⟨dcAll_e (i := 11) da_X0_guessLimb_2 rfl, rfl⟩
theorem q_X0_guessLimb_151 : decode M_X0_guessLimb.2.1 151 = .ok (.lstore 13, 2) ∧ 151 + 2 = 153 := ⟨dcAll_e (i := 12) da_X0_guessLimb_2 rfl, rfl⟩
theorem q_X0_guessLimb_153 : decode M_X0_guessLimb.2.1 153 = .ok (.iinc 15 1, 3) ∧ 153 + 3 = 156 := ⟨dcAll_e (i := 13) da_X0_guessLimb_2 rfl, rfl⟩
theorem q_X0_guessLimb_156 : decode M_X0_guessLimb.2.1 156 = .ok (.goto (-60), 3) ∧ 156 + 3 = 159 ∧ ((156 : Nat) : Int) + (-60) = ((96 : Nat) : Int) := ⟨dcAll_e (i := 14) da_X0_guessLimb_2 rfl, rfl, rfl⟩
theorem q_X0_guessLimb_159 : decode M_X0_guessLimb.2.1 159 = .ok (.lload 11, 2) ∧ 159 + 2 = 161 := ⟨dcAll_e (i := 15) da_X0_guessLimb_2 rfl, rfl⟩
theorem q_X0_guessLimb_161 : decode M_X0_guessLimb.2.1 161 = .ok (.lreturn, 1) ∧ 161 + 1 = 162 := ⟨dcAll_e (i := 16) da_X0_guessLimb_2 rfl, rfl⟩
def dl_X0_giveBack_0 : List (Nat × Instr × Nat) := [(0, .iconst 0, 1), (1, .istore_n 3, 1), (2, .iconst 0, 1), (3, .istore 4, 2), (5, .iload 4, 2), (7, .iload_n 1, 1), (8, .if_icmp .ge 68, 3), (11, .aload_n 0, 1), (12, .getfield 12, 3), (15, .getfield 69, 3), (18, .iload 4, 2), (20, .iload_n 2, 1), (21, .iadd, 1), (22, .iaload, 1), (23, .aload_n 0, 1), (24, .getfield 18, 3), (27, .getfield 69, 3), (30, .iload 4, 2), (32, .iaload, 1), (33, .iadd, 1), (34, .iload_n 3, 1), (35, .iadd, 1), (36, .istore 5, 2), (38, .iload 5, 2), (40, .ldc 61, 2), (42, .if_icmp .lt 7, 3), (45, .iconst 1, 1), (46, .goto 4, 3), (49, .iconst 0, 1), (50, .istore_n 3, 1), (51, .aload_n 0, 1), (52, .getfield 12, 3), (55, .getfield 69, 3), (58, .iload 4, 2), (60, .iload_n 2, 1), (61, .iadd, 1), (62, .iload 5, 2), (64, .iload_n 3, 1), (65, .ldc 61, 2), (67, .imul, 1)]
theorem da_X0_giveBack_0 : dcAll M_X0_giveBack.2.1 dl_X0_giveBack_0 = true := by decide +kernel
def dl_X0_giveBack_1 : List (Nat × Instr × Nat) := [(68, .isub, 1), (69, .iastore, 1), (70, .iinc 4 1, 3), (73, .goto (-68), 3), (76, .aload_n 0, 1), (77, .getfield 12, 3), (80, .getfield 69, 3), (83, .iload_n 1, 1), (84, .iload_n 2, 1), (85, .iadd, 1), (86, .dup2, 1), (87, .iaload, 1), (88, .iload_n 3, 1), (89, .iadd, 1), (90, .iastore, 1), (91, .return_, 1)]
theorem da_X0_giveBack_1 : dcAll M_X0_giveBack.2.1 dl_X0_giveBack_1 = true := by decide +kernel
theorem q_X0_giveBack_0 : decode M_X0_giveBack.2.1 0 = .ok (.iconst 0, 1) ∧ 0 + 1 = 1 := ⟨dcAll_e (i := 0) da_X0_giveBack_0 rfl, rfl⟩
theorem q_X0_giveBack_1 : decode M_X0_giveBack.2.1 1 = .ok (.istore_n 3, 1) ∧ 1 + 1 = 2 := ⟨dcAll_e (i := 1) da_X0_giveBack_0 rfl, rfl⟩
theorem q_X0_giveBack_2 : decode M_X0_giveBack.2.1 2 = .ok (.iconst 0, 1) ∧ 2 + 1 = 3 := ⟨dcAll_e (i := 2) da_X0_giveBack_0 rfl, rfl⟩
theorem q_X0_giveBack_3 : decode M_X0_giveBack.2.1 3 = .ok (.istore 4, 2) ∧ 3 + 2 = 5 := ⟨dcAll_e (i := 3) da_X0_giveBack_0 rfl, rfl⟩
theorem q_X0_giveBack_5 : decode M_X0_giveBack.2.1 5 = .ok (.iload 4, 2) ∧ 5 + 2 = 7 := ⟨dcAll_e (i := 4) da_X0_giveBack_0 rfl, rfl⟩
theorem q_X0_giveBack_7 : decode M_X0_giveBack.2.1 7 = .ok (.iload_n 1, 1) ∧ 7 + 1 = 8 := ⟨dcAll_e (i := 5) da_X0_giveBack_0 rfl, rfl⟩
theorem q_X0_giveBack_8 : decode M_X0_giveBack.2.1 8 = .ok (.if_icmp .ge 68, 3) ∧ 8 + 3 = 11 ∧ ((8 : Nat) : Int) + 68 = ((76 : Nat) : Int) := ⟨dcAll_e (i := 6) da_X0_giveBack_0 rfl, rfl, rfl⟩
theorem q_X0_giveBack_11 : decode M_X0_giveBack.2.1 11 = .ok (.aload_n 0, 1) ∧ 11 + 1 = 12 := ⟨dcAll_e (i := 7) da_X0_giveBack_0 rfl, rfl⟩
theorem q_X0_giveBack_12 : decode M_X0_giveBack.2.1 12 = .ok (.getfield 12, 3) ∧ 12 + 3 = 15 := ⟨dcAll_e (i := 8) da_X0_giveBack_0 rfl, rfl⟩
theorem q_X0_giveBack_15 : decode M_X0_giveBack.2.1 15 = .ok (.getfield 69, 3) ∧ 15 + 3 = 18 := ⟨dcAll_e (i := 9) da_X0_giveBack_0 rfl, rfl⟩
theorem q_X0_giveBack_18 : decode M_X0_giveBack.2.1 18 = .ok (.iload 4, 2) ∧ 18 + 2 = 20 := ⟨dcAll_e (i := 10) da_X0_giveBack_0 rfl, rfl⟩
theorem q_X0_giveBack_20 : decode M_X0_giveBack.2.1 20 = .ok (.iload_n 2, 1) ∧ 20 + 1 = 21 := ⟨dcAll_e (i := 11) da_X0_giveBack_0 rfl, rfl⟩
theorem q_X0_giveBack_21 : decode M_X0_giveBack.2.1 21 = .ok (.iadd, 1) ∧ 21 + 1 = 22 := ⟨dcAll_e (i := 12) da_X0_giveBack_0 rfl, rfl⟩
theorem q_X0_giveBack_22 : decode M_X0_giveBack.2.1 22 = .ok (.iaload, 1) ∧ 22 + 1 = 23 := ⟨dcAll_e (i := 13) da_X0_giveBack_0 rfl, rfl⟩
theorem q_X0_giveBack_23 : decode M_X0_giveBack.2.1 23 = .ok (.aload_n 0, 1) ∧ 23 + 1 = 24 := ⟨dcAll_e (i := 14) da_X0_giveBack_0 rfl, rfl⟩
theorem q_X0_giveBack_24 : decode M_X0_giveBack.2.1 24 = .ok (.getfield 18, 3) ∧ 24 + 3 = 27 := ⟨dcAll_e (i := 15) da_X0_giveBack_0 rfl, rfl⟩
theorem q_X0_giveBack_27 : decode M_X0_giveBack.2.1 27 = .ok (.getfield 69, 3) ∧ 27 + 3 = 30 := ⟨dcAll_e (i := 16) da_X0_giveBack_0 rfl, rfl⟩
theorem q_X0_giveBack_30 : decode M_X0_giveBack.2.1 30 = .ok (.iload 4, 2) ∧ 30 + 2 = 32 := ⟨dcAll_e (i := 17) da_X0_giveBack_0 rfl, rfl⟩
theorem q_X0_giveBack_32 : decode M_X0_giveBack.2.1 32 = .ok (.iaload, 1) ∧ 32 + 1 = 33 := ⟨dcAll_e (i := 18) da_X0_giveBack_0 rfl, rfl⟩
theorem q_X0_giveBack_33 : decode M_X0_giveBack.2.1 33 = .ok (.iadd, 1) ∧ 33 + 1 = 34 := ⟨dcAll_e (i := 19) da_X0_giveBack_0 rfl, rfl⟩
theorem q_X0_giveBack_34 : decode M_X0_giveBack.2.1 34 = .ok (.iload_n 3, 1) ∧ 34 + 1 = 35 := ⟨dcAll_e (i := 20) da_X0_giveBack_0 rfl, rfl⟩
theorem q_X0_giveBack_35 : decode M_X0_giveBack.2.1 35 = .ok (.iadd, 1) ∧ 35 + 1 = 36 := ⟨dcAll_e (i := 21) da_X0_giveBack_0 rfl, rfl⟩
theorem q_X0_giveBack_36 : decode M_X0_giveBack.2.1 36 = .ok (.istore 5, 2) ∧ 36 + 2 = 38 := ⟨dcAll_e (i := 22) da_X0_giveBack_0 rfl, rfl⟩
theorem q_X0_giveBack_38 : decode M_X0_giveBack.2.1 38 = .ok (.iload 5, 2) ∧ 38 + 2 = 40 := ⟨dcAll_e (i := 23) da_X0_giveBack_0 rfl, rfl⟩
theorem q_X0_giveBack_40 : decode M_X0_giveBack.2.1 40 = .ok (.ldc 61, 2) ∧ 40 + 2 = 42 := ⟨dcAll_e (i := 24) da_X0_giveBack_0 rfl, rfl⟩
theorem q_X0_giveBack_42 : decode M_X0_giveBack.2.1 42 = .ok (.if_icmp .lt 7, 3) ∧ 42 + 3 = 45 ∧ ((42 : Nat) : Int) + 7 = ((49 : Nat) : Int) := ⟨dcAll_e (i := 25) da_X0_giveBack_0 rfl, rfl, rfl⟩
theorem q_X0_giveBack_45 : decode M_X0_giveBack.2.1 45 = .ok (.iconst 1, 1) ∧ 45 + 1 = 46 := ⟨dcAll_e (i := 26) da_X0_giveBack_0 rfl, rfl⟩
theorem q_X0_giveBack_46 : decode M_X0_giveBack.2.1 46 = .ok (.goto 4, 3) ∧ 46 + 3 = 49 ∧ ((46 : Nat) : Int) + 4 = ((50 : Nat) : Int) := ⟨dcAll_e (i := 27) da_X0_giveBack_0 rfl, rfl, rfl⟩
theorem q_X0_giveBack_49 : decode M_X0_giveBack.2.1 49 = .ok (.iconst 0, 1) ∧ 49 + 1 = 50 := ⟨dcAll_e (i := 28) da_X0_giveBack_0 rfl, rfl⟩
theorem q_X0_giveBack_50 : decode M_X0_giveBack.2.1 50 = .ok (.istore_n 3, 1) ∧ 50 + 1 = 51 := ⟨dcAll_e (i := 29) da_X0_giveBack_0 rfl, rfl⟩
theorem q_X0_giveBack_51 : decode M_X0_giveBack.2.1 51 = .ok (.aload_n 0, 1) ∧ 51 + 1 = 52 := ⟨dcAll_e (i := 30) da_X0_giveBack_0 rfl, rfl⟩
theorem q_X0_giveBack_52 : decode M_X0_giveBack.2.1 52 = .ok (.getfield 12, 3) ∧ 52 + 3 = 55 := ⟨dcAll_e (i := 31) da_X0_giveBack_0 rfl, rfl⟩
theorem q_X0_giveBack_55 : decode M_X0_giveBack.2.1 55 = .ok (.getfield 69, 3) ∧ 55 + 3 = 58 := ⟨dcAll_e (i := 32) da_X0_giveBack_0 rfl, rfl⟩
theorem q_X0_giveBack_58 : decode M_X0_giveBack.2.1 58 = .ok (.iload 4, 2) ∧ 58 + 2 = 60 := ⟨dcAll_e (i := 33) da_X0_giveBack_0 rfl, rfl⟩
theorem q_X0_giveBack_60 : decode M_X0_giveBack.2.1 60 = .ok (.iload_n 2, 1) ∧ 60 + 1 = 61 := ⟨dcAll_e (i := 34) da_X0_giveBack_0 rfl, rfl⟩
theorem q_X0_giveBack_61 : decode M_X0_giveBack.2.1 61 = .ok (.iadd, 1) ∧ 61 + 1 = 62 := ⟨dcAll_e (i := 35) da_X0_giveBack_0 rfl, rfl⟩
theorem q_X0_giveBack_62 : decode M_X0_giveBack.2.1 62 = .ok (.iload 5, 2) ∧ 62 + 2 = 64 := ⟨dcAll_e (i := 36) da_X0_giveBack_0 rfl, rfl⟩
theorem q_X0_giveBack_64 : decode M_X0_giveBack.2.1 64 = .ok (.iload_n 3, 1) ∧ 64 + 1 = 65 := ⟨dcAll_e (i := 37) da_X0_giveBack_0 rfl, rfl⟩
theorem q_X0_giveBack_65 : decode M_X0_giveBack.2.1 65 = .ok (.ldc 61, 2) ∧ 65 + 2 = 67 := ⟨dcAll_e (i := 38) da_X0_giveBack_0 rfl, rfl⟩
theorem q_X0_giveBack_67 : decode M_X0_giveBack.2.1 67 = .ok (.imul, 1) ∧ 67 + 1 = 68 := ⟨dcAll_e (i := 39) da_X0_giveBack_0 rfl, rfl⟩
theorem q_X0_giveBack_68 : decode M_X0_giveBack.2.1 68 = .ok (.isub, 1) ∧ 68 + 1 = 69 := ⟨dcAll_e (i := 0) da_X0_giveBack_1 rfl, rfl⟩
theorem q_X0_giveBack_69 : decode M_X0_giveBack.2.1 69 = .ok (.iastore, 1) ∧ 69 + 1 = 70 := ⟨dcAll_e (i := 1) da_X0_giveBack_1 rfl, rfl⟩
theorem q_X0_giveBack_70 : decode M_X0_giveBack.2.1 70 = .ok (.iinc 4 1, 3) ∧ 70 + 3 = 73 := ⟨dcAll_e (i := 2) da_X0_giveBack_1 rfl, rfl⟩
theorem q_X0_giveBack_73 : decode M_X0_giveBack.2.1 73 = .ok (.goto (-68), 3) ∧ 73 + 3 = 76 ∧ ((73 : Nat) : Int) + (-68) = ((5 : Nat) : Int) := ⟨dcAll_e (i := 3) da_X0_giveBack_1 rfl, rfl, rfl⟩
theorem q_X0_giveBack_76 : decode M_X0_giveBack.2.1 76 = .ok (.aload_n 0, 1) ∧ 76 + 1 = 77 := ⟨dcAll_e (i := 4) da_X0_giveBack_1 rfl, rfl⟩
theorem q_X0_giveBack_77 : decode M_X0_giveBack.2.1 77 = .ok (.getfield 12, 3) ∧ 77 + 3 = 80 := ⟨dcAll_e (i := 5) da_X0_giveBack_1 rfl, rfl⟩
theorem q_X0_giveBack_80 : decode M_X0_giveBack.2.1 80 = .ok (.getfield 69, 3) ∧ 80 + 3 = 83 := ⟨dcAll_e (i := 6) da_X0_giveBack_1 rfl, rfl⟩
theorem q_X0_giveBack_83 : decode M_X0_giveBack.2.1 83 = .ok (.iload_n 1, 1) ∧ 83 + 1 = 84 := ⟨dcAll_e (i := 7) da_X0_giveBack_1 rfl, rfl⟩
theorem q_X0_giveBack_84 : decode M_X0_giveBack.2.1 84 = .ok (.iload_n 2, 1) ∧ 84 + 1 = 85 := ⟨dcAll_e (i := 8) da_X0_giveBack_1 rfl, rfl⟩
theorem q_X0_giveBack_85 : decode M_X0_giveBack.2.1 85 = .ok (.iadd, 1) ∧ 85 + 1 = 86 := ⟨dcAll_e (i := 9) da_X0_giveBack_1 rfl, rfl⟩
theorem q_X0_giveBack_86 : decode M_X0_giveBack.2.1 86 = .ok (.dup2, 1) ∧ 86 + 1 = 87 := ⟨dcAll_e (i := 10) da_X0_giveBack_1 rfl, rfl⟩
theorem q_X0_giveBack_87 : decode M_X0_giveBack.2.1 87 = .ok (.iaload, 1) ∧ 87 + 1 = 88 := ⟨dcAll_e (i := 11) da_X0_giveBack_1 rfl, rfl⟩
theorem q_X0_giveBack_88 : decode M_X0_giveBack.2.1 88 = .ok (.iload_n 3, 1) ∧ 88 + 1 = 89 := ⟨dcAll_e (i := 12) da_X0_giveBack_1 rfl, rfl⟩
theorem q_X0_giveBack_89 : decode M_X0_giveBack.2.1 89 = .ok (.iadd, 1) ∧ 89 + 1 = 90 := ⟨dcAll_e (i := 13) da_X0_giveBack_1 rfl, rfl⟩
theorem q_X0_giveBack_90 : decode M_X0_giveBack.2.1 90 = .ok (.iastore, 1) ∧ 90 + 1 = 91 := ⟨dcAll_e (i := 14) da_X0_giveBack_1 rfl, rfl⟩
theorem q_X0_giveBack_91 : decode M_X0_giveBack.2.1 91 = .ok (.return_, 1) ∧ 91 + 1 = 92 := ⟨dcAll_e (i := 15) da_X0_giveBack_1 rfl, rfl⟩
def dl_X0_squareRoot_0 : List (Nat × Instr × Nat) := [(0, .aload_n 2, 1), (1, .invokevirtual 44, 3), (4, .aload_n 1, 1), (5, .getfield 34, 3), (8, .ifCond .gt 5, 3), (11, .iconst 0, 1), (12, .ireturn, 1), (13, .aload_n 1, 1), (14, .getfield 47, 3), (17, .iconst 1, 1), (18, .isub, 1), (19, .iconst 2, 1), (20, .idiv, 1), (21, .istore_n 3, 1), (22, .iconst 1, 1), (23, .istore 4, 2), (25, .aload_n 2, 1), (26, .aload_n 1, 1), (27, .iload_n 3, 1), (28, .invokestatic 89, 3), (31, .invokevirtual 57, 3), (34, .iconst 0, 1), (35, .istore 5, 2), (37, .iload 5, 2), (39, .sipush 200, 3), (42, .if_icmp .ge 127, 3), (45, .aload_n 0, 1), (46, .getfield 21, 3), (49, .aload_n 1, 1), (50, .invokevirtual 30, 3), (53, .aload_n 0, 1), (54, .getfield 21, 3), (57, .iconst 2, 1), (58, .iload_n 3, 1), (59, .imul, 1), (60, .bipush 9, 2), (62, .imul, 1), (63, .iconst (-1), 1), (64, .invokevirtual 93, 3), (67, .aload_n 0, 1)]
theorem da_X0_squareRoot_0 : dcAll M_X0_squareRoot.2.1 dl_X0_squareRoot_0 = true := by decide +kernel
def dl_X0_squareRoot_1 : List (Nat × Instr × Nat) := [(68, .aload_n 0, 1), (69, .getfield 21, 3), (72, .aload_n 2, 1), (73, .aload_n 0, 1), (74, .getfield 24, 3), (77, .aload_n 0, 1), (78, .getfield 27, 3), (81, .invokevirtual 96, 3), (84, .aload_n 0, 1), (85, .getfield 24, 3), (88, .aload_n 2, 1), (89, .invokevirtual 100, 3), (92, .aload_n 0, 1), (93, .getfield 24, 3), (96, .ldc2_w 103, 3), (99, .invokevirtual 53, 3), (102, .pop2, 1), (103, .aload_n 0, 1), (104, .getfield 24, 3), (107, .aload_n 2, 1), (108, .invokevirtual 105, 3), (111, .ifCond .ge 14, 3), (114, .aload_n 2, 1), (115, .aload_n 0, 1), (116, .getfield 24, 3), (119, .invokevirtual 30, 3), (122, .goto 41, 3), (125, .iload_n 3, 1), (126, .ifCond .le 43, 3), (129, .iload 4, 2), (131, .iload_n 3, 1), (132, .invokestatic 109, 3), (135, .istore 6, 2), (137, .aload_n 2, 1), (138, .iconst 1, 1), (139, .invokevirtual 113, 3), (142, .aload_n 2, 1), (143, .iload 6, 2), (145, .bipush 9, 2), (147, .imul, 1)]
theorem da_X0_squareRoot_1 : dcAll M_X0_squareRoot.2.1 dl_X0_squareRoot_1 = true := by decide +kernel
def dl_X0_squareRoot_2 : List (Nat × Instr × Nat) := [(148, .invokevirtual 116, 3), (151, .iload 4, 2), (153, .iload 6, 2), (155, .iadd, 1), (156, .istore 4, 2), (158, .iload_n 3, 1), (159, .iload 6, 2), (161, .isub, 1), (162, .istore_n 3, 1), (163, .iinc 5 1, 3), (166, .goto (-129), 3), (169, .aload_n 0, 1), (170, .getfield 24, 3), (173, .aload_n 2, 1), (174, .aload_n 2, 1), (175, .invokevirtual 119, 3), (178, .aload_n 0, 1), (179, .getfield 24, 3), (182, .aload_n 1, 1), (183, .invokevirtual 105, 3), (186, .ifCond .ge 7, 3), (189, .iconst 1, 1), (190, .goto 4, 3), (193, .iconst 0, 1), (194, .ireturn, 1)]
theorem da_X0_squareRoot_2 : dcAll M_X0_squareRoot.2.1 dl_X0_squareRoot_2 = true := by decide +kernel
theorem q_X0_squareRoot_0 : decode M_X0_squareRoot.2.1 0 = .ok (.aload_n 2, 1) ∧ 0 + 1 = 1 := ⟨dcAll_e (i := 0) da_X0_squareRoot_0 rfl, rfl⟩
theorem q_X0_squareRoot_1 : decode M_X0_squareRoot.2.1 1 = .ok (.invokevirtual 44, 3) ∧ 1 + 3 = 4 := ⟨dcAll_e (i := 1) da_X0_squareRoot_0 rfl, rfl⟩
theorem g_X0_squareRoot_1 : en_C M_X0_squareRoot M_X1_clear 44 0 := ⟨⟨inT2 168 rfl rfl, in_X1, cd_X1_clear⟩, ⟨by decide, by decide, by decide +kernel⟩, by decide, by decide⟩
theorem q_X0_squareRoot_4 : decode M_X0_squareRoot.2.1 4 = .ok (.aload_n 1, 1) ∧ 4 + 1 = 5 := ⟨dcAll_e (i := 2) da_X0_squareRoot_0 rfl, rfl⟩
theorem q_X0_squareRoot_5 : decode M_X0_squareRoot.2.1 5 = .ok (.getfield 34, 3) ∧ 5 + 3 = 8 := ⟨dcAll_e (i := 3) da_X0_squareRoot_0 rfl, rfl⟩
theorem q_X0_squareRoot_8 : decode M_X0_squareRoot.2.1 8 = .ok (.ifCond .gt 5, 3) ∧ 8 + 3 = 11 ∧ ((8 : Nat) : Int) + 5 = ((13 : Nat) : Int) := ⟨dcAll_e (i := 4) da_X0_squareRoot_0 rfl, rfl, rfl⟩
theorem q_X0_squareRoot_11 : decode M_X0_squareRoot.2.1 11 = .ok (.iconst 0, 1) ∧ 11 + 1 = 12 := ⟨dcAll_e (i := 5) da_X0_squareRoot_0 rfl, rfl⟩
theorem q_X0_squareRoot_12 : decode M_X0_squareRoot.2.1 12 = .ok (.ireturn, 1) ∧ 12 + 1 = 13 := ⟨dcAll_e (i := 6) da_X0_squareRoot_0 rfl, rfl⟩
theorem q_X0_squareRoot_13 : decode M_X0_squareRoot.2.1 13 = .ok (.aload_n 1, 1) ∧ 13 + 1 = 14 := ⟨dcAll_e (i := 7) da_X0_squareRoot_0 rfl, rfl⟩
theorem q_X0_squareRoot_14 : decode M_X0_squareRoot.2.1 14 = .ok (.getfield 47, 3) ∧ 14 + 3 = 17 := ⟨dcAll_e (i := 8) da_X0_squareRoot_0 rfl, rfl⟩
theorem q_X0_squareRoot_17 : decode M_X0_squareRoot.2.1 17 = .ok (.iconst 1, 1) ∧ 17 + 1 = 18 := ⟨dcAll_e (i := 9) da_X0_squareRoot_0 rfl, rfl⟩
theorem q_X0_squareRoot_18 : decode M_X0_squareRoot.2.1 18 = .ok (.isub, 1) ∧ 18 + 1 = 19 := ⟨dcAll_e (i := 10) da_X0_squareRoot_0 rfl, rfl⟩
theorem q_X0_squareRoot_19 : decode M_X0_squareRoot.2.1 19 = .ok (.iconst 2, 1) ∧ 19 + 1 = 20 := ⟨dcAll_e (i := 11) da_X0_squareRoot_0 rfl, rfl⟩
theorem q_X0_squareRoot_20 : decode M_X0_squareRoot.2.1 20 = .ok (.idiv, 1) ∧ 20 + 1 = 21 := ⟨dcAll_e (i := 12) da_X0_squareRoot_0 rfl, rfl⟩
theorem q_X0_squareRoot_21 : decode M_X0_squareRoot.2.1 21 = .ok (.istore_n 3, 1) ∧ 21 + 1 = 22 := ⟨dcAll_e (i := 13) da_X0_squareRoot_0 rfl, rfl⟩
theorem q_X0_squareRoot_22 : decode M_X0_squareRoot.2.1 22 = .ok (.iconst 1, 1) ∧ 22 + 1 = 23 := ⟨dcAll_e (i := 14) da_X0_squareRoot_0 rfl, rfl⟩
theorem q_X0_squareRoot_23 : decode M_X0_squareRoot.2.1 23 = .ok (.istore 4, 2) ∧ 23 + 2 = 25 := ⟨dcAll_e (i := 15) da_X0_squareRoot_0 rfl, rfl⟩
theorem q_X0_squareRoot_25 : decode M_X0_squareRoot.2.1 25 = .ok (.aload_n 2, 1) ∧ 25 + 1 = 26 := ⟨dcAll_e (i := 16) da_X0_squareRoot_0 rfl, rfl⟩
theorem q_X0_squareRoot_26 : decode M_X0_squareRoot.2.1 26 = .ok (.aload_n 1, 1) ∧ 26 + 1 = 27 := ⟨dcAll_e (i := 17) da_X0_squareRoot_0 rfl, rfl⟩
theorem q_X0_squareRoot_27 : decode M_X0_squareRoot.2.1 27 = .ok (.iload_n 3, 1) ∧ 27 + 1 = 28 := ⟨dcAll_e (i := 18) da_X0_squareRoot_0 rfl, rfl⟩
theorem q_X0_squareRoot_28 : decode M_X0_squareRoot.2.1 28 = .ok (.invokestatic 89, 3) ∧ 28 + 3 = 31 := ⟨dcAll_e (i := 19) da_X0_squareRoot_0 rfl, rfl⟩
theorem cd_X0_startAbove : Cond.code M_X0_startAbove.1 M_X0_startAbove.2.1 M_X0_startAbove.2.2.1 M_X0_startAbove.2.2.2.1 ∈ en_tbl := inT3 34 rfl rfl
theorem g_X0_squareRoot_28 : en_C M_X0_squareRoot M_X0_startAbove 89 2 := ⟨⟨inT3 32 rfl rfl, in_X0, cd_X0_startAbove⟩, ⟨by decide, by decide, by decide +kernel⟩, by decide, by decide⟩
theorem w_X0_startAbove : Cond.static M_X0_startAbove.1 ∈ en_tbl := inT3 33 rfl rfl
theorem q_X0_squareRoot_31 : decode M_X0_squareRoot.2.1 31 = .ok (.invokevirtual 57, 3) ∧ 31 + 3 = 34 := ⟨dcAll_e (i := 20) da_X0_squareRoot_0 rfl, rfl⟩
theorem g_X0_squareRoot_31 : en_C M_X0_squareRoot M_X1_setLong 57 1 := ⟨⟨inT2 177 rfl rfl, in_X1, cd_X1_setLong⟩, ⟨by decide, by decide, by decide +kernel⟩, by decide, by decide⟩
theorem q_X0_squareRoot_34 : decode M_X0_squareRoot.2.1 34 = .ok (.iconst 0, 1) ∧ 34 + 1 = 35 := ⟨dcAll_e (i := 21) da_X0_squareRoot_0 rfl, rfl⟩
theorem q_X0_squareRoot_35 : decode M_X0_squareRoot.2.1 35 = .ok (.istore 5, 2) ∧ 35 + 2 = 37 := ⟨dcAll_e (i := 22) da_X0_squareRoot_0 rfl, rfl⟩
theorem q_X0_squareRoot_37 : decode M_X0_squareRoot.2.1 37 = .ok (.iload 5, 2) ∧ 37 + 2 = 39 := ⟨dcAll_e (i := 23) da_X0_squareRoot_0 rfl, rfl⟩
theorem q_X0_squareRoot_39 : decode M_X0_squareRoot.2.1 39 = .ok (.sipush 200, 3) ∧ 39 + 3 = 42 := ⟨dcAll_e (i := 24) da_X0_squareRoot_0 rfl, rfl⟩
theorem q_X0_squareRoot_42 : decode M_X0_squareRoot.2.1 42 = .ok (.if_icmp .ge 127, 3) ∧ 42 + 3 = 45 ∧ ((42 : Nat) : Int) + 127 = ((169 : Nat) : Int) := ⟨dcAll_e (i := 25) da_X0_squareRoot_0 rfl, rfl, rfl⟩
theorem q_X0_squareRoot_45 : decode M_X0_squareRoot.2.1 45 = .ok (.aload_n 0, 1) ∧ 45 + 1 = 46 := ⟨dcAll_e (i := 26) da_X0_squareRoot_0 rfl, rfl⟩
theorem q_X0_squareRoot_46 : decode M_X0_squareRoot.2.1 46 = .ok (.getfield 21, 3) ∧ 46 + 3 = 49 := ⟨dcAll_e (i := 27) da_X0_squareRoot_0 rfl, rfl⟩
theorem f_RX0_21 : en_F RX0 21 0 2 := ⟨RX0, TX0, 5, rfl, by decide, rfl, inT1 60 rfl rfl, uw_X0⟩
theorem q_X0_squareRoot_49 : decode M_X0_squareRoot.2.1 49 = .ok (.aload_n 1, 1) ∧ 49 + 1 = 50 := ⟨dcAll_e (i := 28) da_X0_squareRoot_0 rfl, rfl⟩
theorem q_X0_squareRoot_50 : decode M_X0_squareRoot.2.1 50 = .ok (.invokevirtual 30, 3) ∧ 50 + 3 = 53 := ⟨dcAll_e (i := 29) da_X0_squareRoot_0 rfl, rfl⟩
theorem g_X0_squareRoot_50 : en_C M_X0_squareRoot M_X1_copy 30 1 := ⟨⟨inT2 164 rfl rfl, in_X1, cd_X1_copy⟩, ⟨by decide, by decide, by decide +kernel⟩, by decide, by decide⟩
theorem q_X0_squareRoot_53 : decode M_X0_squareRoot.2.1 53 = .ok (.aload_n 0, 1) ∧ 53 + 1 = 54 := ⟨dcAll_e (i := 30) da_X0_squareRoot_0 rfl, rfl⟩
theorem q_X0_squareRoot_54 : decode M_X0_squareRoot.2.1 54 = .ok (.getfield 21, 3) ∧ 54 + 3 = 57 := ⟨dcAll_e (i := 31) da_X0_squareRoot_0 rfl, rfl⟩
theorem q_X0_squareRoot_57 : decode M_X0_squareRoot.2.1 57 = .ok (.iconst 2, 1) ∧ 57 + 1 = 58 := ⟨dcAll_e (i := 32) da_X0_squareRoot_0 rfl, rfl⟩
theorem q_X0_squareRoot_58 : decode M_X0_squareRoot.2.1 58 = .ok (.iload_n 3, 1) ∧ 58 + 1 = 59 := ⟨dcAll_e (i := 33) da_X0_squareRoot_0 rfl, rfl⟩
theorem q_X0_squareRoot_59 : decode M_X0_squareRoot.2.1 59 = .ok (.imul, 1) ∧ 59 + 1 = 60 := ⟨dcAll_e (i := 34) da_X0_squareRoot_0 rfl, rfl⟩
theorem q_X0_squareRoot_60 : decode M_X0_squareRoot.2.1 60 = .ok (.bipush 9, 2) ∧ 60 + 2 = 62 := ⟨dcAll_e (i := 35) da_X0_squareRoot_0 rfl, rfl⟩
theorem q_X0_squareRoot_62 : decode M_X0_squareRoot.2.1 62 = .ok (.imul, 1) ∧ 62 + 1 = 63 := ⟨dcAll_e (i := 36) da_X0_squareRoot_0 rfl, rfl⟩
theorem q_X0_squareRoot_63 : decode M_X0_squareRoot.2.1 63 = .ok (.iconst (-1), 1) ∧ 63 + 1 = 64 := ⟨dcAll_e (i := 37) da_X0_squareRoot_0 rfl, rfl⟩
theorem q_X0_squareRoot_64 : decode M_X0_squareRoot.2.1 64 = .ok (.invokevirtual 93, 3) ∧ 64 + 3 = 67 := ⟨dcAll_e (i := 38) da_X0_squareRoot_0 rfl, rfl⟩
theorem cd_X1_shrink : Cond.code M_X1_shrink.1 M_X1_shrink.2.1 M_X1_shrink.2.2.1 M_X1_shrink.2.2.2.1 ∈ en_tbl := inT3 9 rfl rfl
theorem g_X0_squareRoot_64 : en_C M_X0_squareRoot M_X1_shrink 93 2 := ⟨⟨inT3 35 rfl rfl, in_X1, cd_X1_shrink⟩, ⟨by decide, by decide, by decide +kernel⟩, by decide, by decide⟩
theorem w_X1_shrink : Cond.instanceMethod M_X1_shrink.1 ∈ en_tbl ∧ Cond.selects M_X1_shrink.1.cls M_X1_shrink.1 M_X1_shrink.1 ∈ en_tbl := ⟨inT3 7 rfl rfl, inT3 8 rfl rfl⟩
theorem q_X0_squareRoot_67 : decode M_X0_squareRoot.2.1 67 = .ok (.aload_n 0, 1) ∧ 67 + 1 = 68 := ⟨dcAll_e (i := 39) da_X0_squareRoot_0 rfl, rfl⟩
theorem q_X0_squareRoot_68 : decode M_X0_squareRoot.2.1 68 = .ok (.aload_n 0, 1) ∧ 68 + 1 = 69 := ⟨dcAll_e (i := 0) da_X0_squareRoot_1 rfl, rfl⟩
theorem q_X0_squareRoot_69 : decode M_X0_squareRoot.2.1 69 = .ok (.getfield 21, 3) ∧ 69 + 3 = 72 := ⟨dcAll_e (i := 1) da_X0_squareRoot_1 rfl, rfl⟩
theorem q_X0_squareRoot_72 : decode M_X0_squareRoot.2.1 72 = .ok (.aload_n 2, 1) ∧ 72 + 1 = 73 := ⟨dcAll_e (i := 2) da_X0_squareRoot_1 rfl, rfl⟩
theorem q_X0_squareRoot_73 : decode M_X0_squareRoot.2.1 73 = .ok (.aload_n 0, 1) ∧ 73 + 1 = 74 := ⟨dcAll_e (i := 3) da_X0_squareRoot_1 rfl, rfl⟩
theorem q_X0_squareRoot_74 : decode M_X0_squareRoot.2.1 74 = .ok (.getfield 24, 3) ∧ 74 + 3 = 77 := ⟨dcAll_e (i := 4) da_X0_squareRoot_1 rfl, rfl⟩
theorem f_RX0_24 : en_F RX0 24 0 3 := ⟨RX0, TX0, 5, rfl, by decide, rfl, inT1 61 rfl rfl, uw_X0⟩
theorem q_X0_squareRoot_77 : decode M_X0_squareRoot.2.1 77 = .ok (.aload_n 0, 1) ∧ 77 + 1 = 78 := ⟨dcAll_e (i := 5) da_X0_squareRoot_1 rfl, rfl⟩
theorem q_X0_squareRoot_78 : decode M_X0_squareRoot.2.1 78 = .ok (.getfield 27, 3) ∧ 78 + 3 = 81 := ⟨dcAll_e (i := 6) da_X0_squareRoot_1 rfl, rfl⟩
theorem f_RX0_27 : en_F RX0 27 0 4 := ⟨RX0, TX0, 5, rfl, by decide, rfl, inT1 62 rfl rfl, uw_X0⟩
theorem q_X0_squareRoot_81 : decode M_X0_squareRoot.2.1 81 = .ok (.invokevirtual 96, 3) ∧ 81 + 3 = 84 := ⟨dcAll_e (i := 7) da_X0_squareRoot_1 rfl, rfl⟩
theorem cd_X0_divide : Cond.code M_X0_divide.1 M_X0_divide.2.1 M_X0_divide.2.2.1 M_X0_divide.2.2.2.1 ∈ en_tbl := inT2 163 rfl rfl
theorem g_X0_squareRoot_81 : en_C M_X0_squareRoot M_X0_divide 96 4 := ⟨⟨inT3 36 rfl rfl, in_X0, cd_X0_divide⟩, ⟨by decide, by decide, by decide +kernel⟩, by decide, by decide⟩
theorem w_X0_divide : Cond.instanceMethod M_X0_divide.1 ∈ en_tbl ∧ Cond.selects M_X0_divide.1.cls M_X0_divide.1 M_X0_divide.1 ∈ en_tbl := ⟨inT2 161 rfl rfl, inT2 162 rfl rfl⟩
theorem q_X0_squareRoot_84 : decode M_X0_squareRoot.2.1 84 = .ok (.aload_n 0, 1) ∧ 84 + 1 = 85 := ⟨dcAll_e (i := 8) da_X0_squareRoot_1 rfl, rfl⟩
theorem q_X0_squareRoot_85 : decode M_X0_squareRoot.2.1 85 = .ok (.getfield 24, 3) ∧ 85 + 3 = 88 := ⟨dcAll_e (i := 9) da_X0_squareRoot_1 rfl, rfl⟩
theorem q_X0_squareRoot_88 : decode M_X0_squareRoot.2.1 88 = .ok (.aload_n 2, 1) ∧ 88 + 1 = 89 := ⟨dcAll_e (i := 10) da_X0_squareRoot_1 rfl, rfl⟩
theorem q_X0_squareRoot_89 : decode M_X0_squareRoot.2.1 89 = .ok (.invokevirtual 100, 3) ∧ 89 + 3 = 92 := ⟨dcAll_e (i := 11) da_X0_squareRoot_1 rfl, rfl⟩
theorem g_X0_squareRoot_89 : en_C M_X0_squareRoot M_X1_add 100 1 := ⟨⟨inT3 37 rfl rfl, in_X1, cd_X1_add⟩, ⟨by decide, by decide, by decide +kernel⟩, by decide, by decide⟩
theorem q_X0_squareRoot_92 : decode M_X0_squareRoot.2.1 92 = .ok (.aload_n 0, 1) ∧ 92 + 1 = 93 := ⟨dcAll_e (i := 12) da_X0_squareRoot_1 rfl, rfl⟩
theorem q_X0_squareRoot_93 : decode M_X0_squareRoot.2.1 93 = .ok (.getfield 24, 3) ∧ 93 + 3 = 96 := ⟨dcAll_e (i := 13) da_X0_squareRoot_1 rfl, rfl⟩
theorem q_X0_squareRoot_96 : decode M_X0_squareRoot.2.1 96 = .ok (.ldc2_w 103, 3) ∧ 96 + 3 = 99 := ⟨dcAll_e (i := 14) da_X0_squareRoot_1 rfl, rfl⟩
theorem k_RX0_103 : Cond.constantLong RX0 103 (lN 2) ∈ en_tbl := by decide +kernel
theorem q_X0_squareRoot_99 : decode M_X0_squareRoot.2.1 99 = .ok (.invokevirtual 53, 3) ∧ 99 + 3 = 102 := ⟨dcAll_e (i := 15) da_X0_squareRoot_1 rfl, rfl⟩
theorem g_X0_squareRoot_99 : en_C M_X0_squareRoot M_X1_divideSmall 53 1 := ⟨⟨inT2 173 rfl rfl, in_X1, cd_X1_divideSmall⟩, ⟨by decide, by decide, by decide +kernel⟩, by decide, by decide⟩
theorem q_X0_squareRoot_102 : decode M_X0_squareRoot.2.1 102 = .ok (.pop2, 1) ∧ 102 + 1 = 103 := ⟨dcAll_e (i := 16) da_X0_squareRoot_1 rfl, rfl⟩
theorem q_X0_squareRoot_103 : decode M_X0_squareRoot.2.1 103 = .ok (.aload_n 0, 1) ∧ 103 + 1 = 104 := ⟨dcAll_e (i := 17) da_X0_squareRoot_1 rfl, rfl⟩
theorem q_X0_squareRoot_104 : decode M_X0_squareRoot.2.1 104 = .ok (.getfield 24, 3) ∧ 104 + 3 = 107 := ⟨dcAll_e (i := 18) da_X0_squareRoot_1 rfl, rfl⟩
theorem q_X0_squareRoot_107 : decode M_X0_squareRoot.2.1 107 = .ok (.aload_n 2, 1) ∧ 107 + 1 = 108 := ⟨dcAll_e (i := 19) da_X0_squareRoot_1 rfl, rfl⟩
theorem q_X0_squareRoot_108 : decode M_X0_squareRoot.2.1 108 = .ok (.invokevirtual 105, 3) ∧ 108 + 3 = 111 := ⟨dcAll_e (i := 20) da_X0_squareRoot_1 rfl, rfl⟩
theorem cd_X1_compare : Cond.code M_X1_compare.1 M_X1_compare.2.1 M_X1_compare.2.2.1 M_X1_compare.2.2.2.1 ∈ en_tbl := inT3 19 rfl rfl
theorem g_X0_squareRoot_108 : en_C M_X0_squareRoot M_X1_compare 105 1 := ⟨⟨inT3 39 rfl rfl, in_X1, cd_X1_compare⟩, ⟨by decide, by decide, by decide +kernel⟩, by decide, by decide⟩
theorem w_X1_compare : Cond.instanceMethod M_X1_compare.1 ∈ en_tbl ∧ Cond.selects M_X1_compare.1.cls M_X1_compare.1 M_X1_compare.1 ∈ en_tbl := ⟨inT3 17 rfl rfl, inT3 18 rfl rfl⟩
theorem q_X0_squareRoot_111 : decode M_X0_squareRoot.2.1 111 = .ok (.ifCond .ge 14, 3) ∧ 111 + 3 = 114 ∧ ((111 : Nat) : Int) + 14 = ((125 : Nat) : Int) := ⟨dcAll_e (i := 21) da_X0_squareRoot_1 rfl, rfl, rfl⟩
theorem q_X0_squareRoot_114 : decode M_X0_squareRoot.2.1 114 = .ok (.aload_n 2, 1) ∧ 114 + 1 = 115 := ⟨dcAll_e (i := 22) da_X0_squareRoot_1 rfl, rfl⟩
theorem q_X0_squareRoot_115 : decode M_X0_squareRoot.2.1 115 = .ok (.aload_n 0, 1) ∧ 115 + 1 = 116 := ⟨dcAll_e (i := 23) da_X0_squareRoot_1 rfl, rfl⟩
theorem q_X0_squareRoot_116 : decode M_X0_squareRoot.2.1 116 = .ok (.getfield 24, 3) ∧ 116 + 3 = 119 := ⟨dcAll_e (i := 24) da_X0_squareRoot_1 rfl, rfl⟩
theorem q_X0_squareRoot_119 : decode M_X0_squareRoot.2.1 119 = .ok (.invokevirtual 30, 3) ∧ 119 + 3 = 122 := ⟨dcAll_e (i := 25) da_X0_squareRoot_1 rfl, rfl⟩
theorem g_X0_squareRoot_119 : en_C M_X0_squareRoot M_X1_copy 30 1 := ⟨⟨inT2 164 rfl rfl, in_X1, cd_X1_copy⟩, ⟨by decide, by decide, by decide +kernel⟩, by decide, by decide⟩
theorem q_X0_squareRoot_122 : decode M_X0_squareRoot.2.1 122 = .ok (.goto 41, 3) ∧ 122 + 3 = 125 ∧ ((122 : Nat) : Int) + 41 = ((163 : Nat) : Int) := ⟨dcAll_e (i := 26) da_X0_squareRoot_1 rfl, rfl, rfl⟩
theorem q_X0_squareRoot_125 : decode M_X0_squareRoot.2.1 125 = .ok (.iload_n 3, 1) ∧ 125 + 1 = 126 := ⟨dcAll_e (i := 27) da_X0_squareRoot_1 rfl, rfl⟩
theorem q_X0_squareRoot_126 : decode M_X0_squareRoot.2.1 126 = .ok (.ifCond .le 43, 3) ∧ 126 + 3 = 129 ∧ ((126 : Nat) : Int) + 43 = ((169 : Nat) : Int) := ⟨dcAll_e (i := 28) da_X0_squareRoot_1 rfl, rfl, rfl⟩
theorem q_X0_squareRoot_129 : decode M_X0_squareRoot.2.1 129 = .ok (.iload 4, 2) ∧ 129 + 2 = 131 := ⟨dcAll_e (i := 29) da_X0_squareRoot_1 rfl, rfl⟩
theorem q_X0_squareRoot_131 : decode M_X0_squareRoot.2.1 131 = .ok (.iload_n 3, 1) ∧ 131 + 1 = 132 := ⟨dcAll_e (i := 30) da_X0_squareRoot_1 rfl, rfl⟩
theorem q_X0_squareRoot_132 : decode M_X0_squareRoot.2.1 132 = .ok (.invokestatic 109, 3) ∧ 132 + 3 = 135 := ⟨dcAll_e (i := 31) da_X0_squareRoot_1 rfl, rfl⟩
theorem a_RX0_109 : Cond.methodLink RX0 109 Lib.Math.min.name ∈ en_tbl := by decide +kernel
theorem q_X0_squareRoot_135 : decode M_X0_squareRoot.2.1 135 = .ok (.istore 6, 2) ∧ 135 + 2 = 137 := ⟨dcAll_e (i := 32) da_X0_squareRoot_1 rfl, rfl⟩
theorem q_X0_squareRoot_137 : decode M_X0_squareRoot.2.1 137 = .ok (.aload_n 2, 1) ∧ 137 + 1 = 138 := ⟨dcAll_e (i := 33) da_X0_squareRoot_1 rfl, rfl⟩
theorem q_X0_squareRoot_138 : decode M_X0_squareRoot.2.1 138 = .ok (.iconst 1, 1) ∧ 138 + 1 = 139 := ⟨dcAll_e (i := 34) da_X0_squareRoot_1 rfl, rfl⟩
theorem q_X0_squareRoot_139 : decode M_X0_squareRoot.2.1 139 = .ok (.invokevirtual 113, 3) ∧ 139 + 3 = 142 := ⟨dcAll_e (i := 35) da_X0_squareRoot_1 rfl, rfl⟩
theorem g_X0_squareRoot_139 : en_C M_X0_squareRoot M_X1_grow 113 1 := ⟨⟨inT3 41 rfl rfl, in_X1, cd_X1_grow⟩, ⟨by decide, by decide, by decide +kernel⟩, by decide, by decide⟩
theorem q_X0_squareRoot_142 : decode M_X0_squareRoot.2.1 142 = .ok (.aload_n 2, 1) ∧ 142 + 1 = 143 := ⟨dcAll_e (i := 36) da_X0_squareRoot_1 rfl, rfl⟩
theorem q_X0_squareRoot_143 : decode M_X0_squareRoot.2.1 143 = .ok (.iload 6, 2) ∧ 143 + 2 = 145 := ⟨dcAll_e (i := 37) da_X0_squareRoot_1 rfl, rfl⟩
theorem q_X0_squareRoot_145 : decode M_X0_squareRoot.2.1 145 = .ok (.bipush 9, 2) ∧ 145 + 2 = 147 := ⟨dcAll_e (i := 38) da_X0_squareRoot_1 rfl, rfl⟩
theorem q_X0_squareRoot_147 : decode M_X0_squareRoot.2.1 147 = .ok (.imul, 1) ∧ 147 + 1 = 148 := ⟨dcAll_e (i := 39) da_X0_squareRoot_1 rfl, rfl⟩
theorem q_X0_squareRoot_148 : decode M_X0_squareRoot.2.1 148 = .ok (.invokevirtual 116, 3) ∧ 148 + 3 = 151 := ⟨dcAll_e (i := 0) da_X0_squareRoot_2 rfl, rfl⟩
theorem cd_X1_shiftUp : Cond.code M_X1_shiftUp.1 M_X1_shiftUp.2.1 M_X1_shiftUp.2.2.1 M_X1_shiftUp.2.2.2.1 ∈ en_tbl := inT2 130 rfl rfl
theorem g_X0_squareRoot_148 : en_C M_X0_squareRoot M_X1_shiftUp 116 1 := ⟨⟨inT3 42 rfl rfl, in_X1, cd_X1_shiftUp⟩, ⟨by decide, by decide, by decide +kernel⟩, by decide, by decide⟩
theorem w_X1_shiftUp : Cond.instanceMethod M_X1_shiftUp.1 ∈ en_tbl ∧ Cond.selects M_X1_shiftUp.1.cls M_X1_shiftUp.1 M_X1_shiftUp.1 ∈ en_tbl := ⟨inT2 128 rfl rfl, inT2 129 rfl rfl⟩
theorem q_X0_squareRoot_151 : decode M_X0_squareRoot.2.1 151 = .ok (.iload 4, 2) ∧ 151 + 2 = 153 := ⟨dcAll_e (i := 1) da_X0_squareRoot_2 rfl, rfl⟩
theorem q_X0_squareRoot_153 : decode M_X0_squareRoot.2.1 153 = .ok (.iload 6, 2) ∧ 153 + 2 = 155 := ⟨dcAll_e (i := 2) da_X0_squareRoot_2 rfl, rfl⟩
theorem q_X0_squareRoot_155 : decode M_X0_squareRoot.2.1 155 = .ok (.iadd, 1) ∧ 155 + 1 = 156 := ⟨dcAll_e (i := 3) da_X0_squareRoot_2 rfl, rfl⟩
theorem q_X0_squareRoot_156 : decode M_X0_squareRoot.2.1 156 = .ok (.istore 4, 2) ∧ 156 + 2 = 158 := ⟨dcAll_e (i := 4) da_X0_squareRoot_2 rfl, rfl⟩
theorem q_X0_squareRoot_158 : decode M_X0_squareRoot.2.1 158 = .ok (.iload_n 3, 1) ∧ 158 + 1 = 159 := ⟨dcAll_e (i := 5) da_X0_squareRoot_2 rfl, rfl⟩
theorem q_X0_squareRoot_159 : decode M_X0_squareRoot.2.1 159 = .ok (.iload 6, 2) ∧ 159 + 2 = 161 := ⟨dcAll_e (i := 6) da_X0_squareRoot_2 rfl, rfl⟩
theorem q_X0_squareRoot_161 : decode M_X0_squareRoot.2.1 161 = .ok (.isub, 1) ∧ 161 + 1 = 162 := ⟨dcAll_e (i := 7) da_X0_squareRoot_2 rfl, rfl⟩
theorem q_X0_squareRoot_162 : decode M_X0_squareRoot.2.1 162 = .ok (.istore_n 3, 1) ∧ 162 + 1 = 163 := ⟨dcAll_e (i := 8) da_X0_squareRoot_2 rfl, rfl⟩
theorem q_X0_squareRoot_163 : decode M_X0_squareRoot.2.1 163 = .ok (.iinc 5 1, 3) ∧ 163 + 3 = 166 := ⟨dcAll_e (i := 9) da_X0_squareRoot_2 rfl, rfl⟩
theorem q_X0_squareRoot_166 : decode M_X0_squareRoot.2.1 166 = .ok (.goto (-129), 3) ∧ 166 + 3 = 169 ∧ ((166 : Nat) : Int) + (-129) = ((37 : Nat) : Int) := ⟨dcAll_e (i := 10) da_X0_squareRoot_2 rfl, rfl, rfl⟩
theorem q_X0_squareRoot_169 : decode M_X0_squareRoot.2.1 169 = .ok (.aload_n 0, 1) ∧ 169 + 1 = 170 := ⟨dcAll_e (i := 11) da_X0_squareRoot_2 rfl, rfl⟩
theorem q_X0_squareRoot_170 : decode M_X0_squareRoot.2.1 170 = .ok (.getfield 24, 3) ∧ 170 + 3 = 173 := ⟨dcAll_e (i := 12) da_X0_squareRoot_2 rfl, rfl⟩
theorem q_X0_squareRoot_173 : decode M_X0_squareRoot.2.1 173 = .ok (.aload_n 2, 1) ∧ 173 + 1 = 174 := ⟨dcAll_e (i := 13) da_X0_squareRoot_2 rfl, rfl⟩
theorem q_X0_squareRoot_174 : decode M_X0_squareRoot.2.1 174 = .ok (.aload_n 2, 1) ∧ 174 + 1 = 175 := ⟨dcAll_e (i := 14) da_X0_squareRoot_2 rfl, rfl⟩
theorem q_X0_squareRoot_175 : decode M_X0_squareRoot.2.1 175 = .ok (.invokevirtual 119, 3) ∧ 175 + 3 = 178 := ⟨dcAll_e (i := 15) da_X0_squareRoot_2 rfl, rfl⟩
theorem cd_X1_setProduct : Cond.code M_X1_setProduct.1 M_X1_setProduct.2.1 M_X1_setProduct.2.2.1 M_X1_setProduct.2.2.2.1 ∈ en_tbl := inT3 46 rfl rfl
theorem g_X0_squareRoot_175 : en_C M_X0_squareRoot M_X1_setProduct 119 2 := ⟨⟨inT3 43 rfl rfl, in_X1, cd_X1_setProduct⟩, ⟨by decide, by decide, by decide +kernel⟩, by decide, by decide⟩
theorem w_X1_setProduct : Cond.instanceMethod M_X1_setProduct.1 ∈ en_tbl ∧ Cond.selects M_X1_setProduct.1.cls M_X1_setProduct.1 M_X1_setProduct.1 ∈ en_tbl := ⟨inT3 44 rfl rfl, inT3 45 rfl rfl⟩
theorem q_X0_squareRoot_178 : decode M_X0_squareRoot.2.1 178 = .ok (.aload_n 0, 1) ∧ 178 + 1 = 179 := ⟨dcAll_e (i := 16) da_X0_squareRoot_2 rfl, rfl⟩
theorem q_X0_squareRoot_179 : decode M_X0_squareRoot.2.1 179 = .ok (.getfield 24, 3) ∧ 179 + 3 = 182 := ⟨dcAll_e (i := 17) da_X0_squareRoot_2 rfl, rfl⟩
theorem q_X0_squareRoot_182 : decode M_X0_squareRoot.2.1 182 = .ok (.aload_n 1, 1) ∧ 182 + 1 = 183 := ⟨dcAll_e (i := 18) da_X0_squareRoot_2 rfl, rfl⟩
theorem q_X0_squareRoot_183 : decode M_X0_squareRoot.2.1 183 = .ok (.invokevirtual 105, 3) ∧ 183 + 3 = 186 := ⟨dcAll_e (i := 19) da_X0_squareRoot_2 rfl, rfl⟩
theorem g_X0_squareRoot_183 : en_C M_X0_squareRoot M_X1_compare 105 1 := ⟨⟨inT3 39 rfl rfl, in_X1, cd_X1_compare⟩, ⟨by decide, by decide, by decide +kernel⟩, by decide, by decide⟩
theorem q_X0_squareRoot_186 : decode M_X0_squareRoot.2.1 186 = .ok (.ifCond .ge 7, 3) ∧ 186 + 3 = 189 ∧ ((186 : Nat) : Int) + 7 = ((193 : Nat) : Int) := ⟨dcAll_e (i := 20) da_X0_squareRoot_2 rfl, rfl, rfl⟩
theorem q_X0_squareRoot_189 : decode M_X0_squareRoot.2.1 189 = .ok (.iconst 1, 1) ∧ 189 + 1 = 190 := ⟨dcAll_e (i := 21) da_X0_squareRoot_2 rfl, rfl⟩
theorem q_X0_squareRoot_190 : decode M_X0_squareRoot.2.1 190 = .ok (.goto 4, 3) ∧ 190 + 3 = 193 ∧ ((190 : Nat) : Int) + 4 = ((194 : Nat) : Int) := ⟨dcAll_e (i := 22) da_X0_squareRoot_2 rfl, rfl, rfl⟩
theorem q_X0_squareRoot_193 : decode M_X0_squareRoot.2.1 193 = .ok (.iconst 0, 1) ∧ 193 + 1 = 194 := ⟨dcAll_e (i := 23) da_X0_squareRoot_2 rfl, rfl⟩
theorem q_X0_squareRoot_194 : decode M_X0_squareRoot.2.1 194 = .ok (.ireturn, 1) ∧ 194 + 1 = 195 := ⟨dcAll_e (i := 24) da_X0_squareRoot_2 rfl, rfl⟩
def dl_X0_startAbove_0 : List (Nat × Instr × Nat) := [(0, .aload_n 0, 1), (1, .iconst 2, 1), (2, .iload_n 1, 1), (3, .imul, 1), (4, .iconst 1, 1), (5, .iadd, 1), (6, .invokevirtual 50, 3), (9, .i2l, 1), (10, .ldc2_w 83, 3), (13, .lmul, 1), (14, .aload_n 0, 1), (15, .iconst 2, 1), (16, .iload_n 1, 1), (17, .imul, 1), (18, .invokevirtual 50, 3), (21, .i2l, 1), (22, .ladd, 1), (23, .lstore_n 2, 1), (24, .lconst 0, 1), (25, .lstore 4, 2), (27, .bipush 29, 2), (29, .istore 6, 2), (31, .iload 6, 2), (33, .ifCond .lt 32, 3), (36, .lload 4, 2), (38, .lconst 1, 1), (39, .iload 6, 2), (41, .lshl, 1), (42, .ladd, 1), (43, .lstore 7, 2), (45, .lload 7, 2), (47, .lload 7, 2), (49, .lmul, 1), (50, .lload_n 2, 1), (51, .lcmp, 1), (52, .ifCond .gt 7, 3), (55, .lload 7, 2), (57, .lstore 4, 2), (59, .iinc 6 (-1), 3), (62, .goto (-31), 3)]
theorem da_X0_startAbove_0 : dcAll M_X0_startAbove.2.1 dl_X0_startAbove_0 = true := by decide +kernel
def dl_X0_startAbove_1 : List (Nat × Instr × Nat) := [(65, .lload 4, 2), (67, .lconst 1, 1), (68, .ladd, 1), (69, .lreturn, 1)]
theorem da_X0_startAbove_1 : dcAll M_X0_startAbove.2.1 dl_X0_startAbove_1 = true := by decide +kernel
theorem q_X0_startAbove_0 : decode M_X0_startAbove.2.1 0 = .ok (.aload_n 0, 1) ∧ 0 + 1 = 1 := ⟨dcAll_e (i := 0) da_X0_startAbove_0 rfl, rfl⟩
theorem q_X0_startAbove_1 : decode M_X0_startAbove.2.1 1 = .ok (.iconst 2, 1) ∧ 1 + 1 = 2 := ⟨dcAll_e (i := 1) da_X0_startAbove_0 rfl, rfl⟩
theorem q_X0_startAbove_2 : decode M_X0_startAbove.2.1 2 = .ok (.iload_n 1, 1) ∧ 2 + 1 = 3 := ⟨dcAll_e (i := 2) da_X0_startAbove_0 rfl, rfl⟩
theorem q_X0_startAbove_3 : decode M_X0_startAbove.2.1 3 = .ok (.imul, 1) ∧ 3 + 1 = 4 := ⟨dcAll_e (i := 3) da_X0_startAbove_0 rfl, rfl⟩
theorem q_X0_startAbove_4 : decode M_X0_startAbove.2.1 4 = .ok (.iconst 1, 1) ∧ 4 + 1 = 5 := ⟨dcAll_e (i := 4) da_X0_startAbove_0 rfl, rfl⟩
theorem q_X0_startAbove_5 : decode M_X0_startAbove.2.1 5 = .ok (.iadd, 1) ∧ 5 + 1 = 6 := ⟨dcAll_e (i := 5) da_X0_startAbove_0 rfl, rfl⟩
theorem q_X0_startAbove_6 : decode M_X0_startAbove.2.1 6 = .ok (.invokevirtual 50, 3) ∧ 6 + 3 = 9 := ⟨dcAll_e (i := 6) da_X0_startAbove_0 rfl, rfl⟩
theorem g_X0_startAbove_6 : en_C M_X0_startAbove M_X1_limbAt 50 1 := ⟨⟨inT2 169 rfl rfl, in_X1, cd_X1_limbAt⟩, ⟨by decide, by decide, by decide +kernel⟩, by decide, by decide⟩
theorem q_X0_startAbove_9 : decode M_X0_startAbove.2.1 9 = .ok (.i2l, 1) ∧ 9 + 1 = 10 := ⟨dcAll_e (i := 7) da_X0_startAbove_0 rfl, rfl⟩
theorem q_X0_startAbove_10 : decode M_X0_startAbove.2.1 10 = .ok (.ldc2_w 83, 3) ∧ 10 + 3 = 13 := ⟨dcAll_e (i := 8) da_X0_startAbove_0 rfl, rfl⟩
theorem q_X0_startAbove_13 : decode M_X0_startAbove.2.1 13 = .ok (.lmul, 1) ∧ 13 + 1 = 14 := ⟨dcAll_e (i := 9) da_X0_startAbove_0 rfl, rfl⟩
theorem q_X0_startAbove_14 : decode M_X0_startAbove.2.1 14 = .ok (.aload_n 0, 1) ∧ 14 + 1 = 15 := ⟨dcAll_e (i := 10) da_X0_startAbove_0 rfl, rfl⟩
theorem q_X0_startAbove_15 : decode M_X0_startAbove.2.1 15 = .ok (.iconst 2, 1) ∧ 15 + 1 = 16 := ⟨dcAll_e (i := 11) da_X0_startAbove_0 rfl, rfl⟩
theorem q_X0_startAbove_16 : decode M_X0_startAbove.2.1 16 = .ok (.iload_n 1, 1) ∧ 16 + 1 = 17 := ⟨dcAll_e (i := 12) da_X0_startAbove_0 rfl, rfl⟩
theorem q_X0_startAbove_17 : decode M_X0_startAbove.2.1 17 = .ok (.imul, 1) ∧ 17 + 1 = 18 := ⟨dcAll_e (i := 13) da_X0_startAbove_0 rfl, rfl⟩
theorem q_X0_startAbove_18 : decode M_X0_startAbove.2.1 18 = .ok (.invokevirtual 50, 3) ∧ 18 + 3 = 21 := ⟨dcAll_e (i := 14) da_X0_startAbove_0 rfl, rfl⟩
theorem g_X0_startAbove_18 : en_C M_X0_startAbove M_X1_limbAt 50 1 := ⟨⟨inT2 169 rfl rfl, in_X1, cd_X1_limbAt⟩, ⟨by decide, by decide, by decide +kernel⟩, by decide, by decide⟩
theorem q_X0_startAbove_21 : decode M_X0_startAbove.2.1 21 = .ok (.i2l, 1) ∧ 21 + 1 = 22 := ⟨dcAll_e (i := 15) da_X0_startAbove_0 rfl, rfl⟩
theorem q_X0_startAbove_22 : decode M_X0_startAbove.2.1 22 = .ok (.ladd, 1) ∧ 22 + 1 = 23 := ⟨dcAll_e (i := 16) da_X0_startAbove_0 rfl, rfl⟩
theorem q_X0_startAbove_23 : decode M_X0_startAbove.2.1 23 = .ok (.lstore_n 2, 1) ∧ 23 + 1 = 24 := ⟨dcAll_e (i := 17) da_X0_startAbove_0 rfl, rfl⟩
theorem q_X0_startAbove_24 : decode M_X0_startAbove.2.1 24 = .ok (.lconst 0, 1) ∧ 24 + 1 = 25 := ⟨dcAll_e (i := 18) da_X0_startAbove_0 rfl, rfl⟩
theorem q_X0_startAbove_25 : decode M_X0_startAbove.2.1 25 = .ok (.lstore 4, 2) ∧ 25 + 2 = 27 := ⟨dcAll_e (i := 19) da_X0_startAbove_0 rfl, rfl⟩
theorem q_X0_startAbove_27 : decode M_X0_startAbove.2.1 27 = .ok (.bipush 29, 2) ∧ 27 + 2 = 29 := ⟨dcAll_e (i := 20) da_X0_startAbove_0 rfl, rfl⟩
theorem q_X0_startAbove_29 : decode M_X0_startAbove.2.1 29 = .ok (.istore 6, 2) ∧ 29 + 2 = 31 := ⟨dcAll_e (i := 21) da_X0_startAbove_0 rfl, rfl⟩
theorem q_X0_startAbove_31 : decode M_X0_startAbove.2.1 31 = .ok (.iload 6, 2) ∧ 31 + 2 = 33 := ⟨dcAll_e (i := 22) da_X0_startAbove_0 rfl, rfl⟩
theorem q_X0_startAbove_33 : decode M_X0_startAbove.2.1 33 = .ok (.ifCond .lt 32, 3) ∧ 33 + 3 = 36 ∧ ((33 : Nat) : Int) + 32 = ((65 : Nat) : Int) := ⟨dcAll_e (i := 23) da_X0_startAbove_0 rfl, rfl, rfl⟩
theorem q_X0_startAbove_36 : decode M_X0_startAbove.2.1 36 = .ok (.lload 4, 2) ∧ 36 + 2 = 38 := ⟨dcAll_e (i := 24) da_X0_startAbove_0 rfl, rfl⟩
theorem q_X0_startAbove_38 : decode M_X0_startAbove.2.1 38 = .ok (.lconst 1, 1) ∧ 38 + 1 = 39 := ⟨dcAll_e (i := 25) da_X0_startAbove_0 rfl, rfl⟩
theorem q_X0_startAbove_39 : decode M_X0_startAbove.2.1 39 = .ok (.iload 6, 2) ∧ 39 + 2 = 41 := ⟨dcAll_e (i := 26) da_X0_startAbove_0 rfl, rfl⟩
theorem q_X0_startAbove_41 : decode M_X0_startAbove.2.1 41 = .ok (.lshl, 1) ∧ 41 + 1 = 42 := ⟨dcAll_e (i := 27) da_X0_startAbove_0 rfl, rfl⟩
theorem q_X0_startAbove_42 : decode M_X0_startAbove.2.1 42 = .ok (.ladd, 1) ∧ 42 + 1 = 43 := ⟨dcAll_e (i := 28) da_X0_startAbove_0 rfl, rfl⟩
theorem q_X0_startAbove_43 : decode M_X0_startAbove.2.1 43 = .ok (.lstore 7, 2) ∧ 43 + 2 = 45 := ⟨dcAll_e (i := 29) da_X0_startAbove_0 rfl, rfl⟩
theorem q_X0_startAbove_45 : decode M_X0_startAbove.2.1 45 = .ok (.lload 7, 2) ∧ 45 + 2 = 47 := ⟨dcAll_e (i := 30) da_X0_startAbove_0 rfl, rfl⟩
theorem q_X0_startAbove_47 : decode M_X0_startAbove.2.1 47 = .ok (.lload 7, 2) ∧ 47 + 2 = 49 := ⟨dcAll_e (i := 31) da_X0_startAbove_0 rfl, rfl⟩
theorem q_X0_startAbove_49 : decode M_X0_startAbove.2.1 49 = .ok (.lmul, 1) ∧ 49 + 1 = 50 := ⟨dcAll_e (i := 32) da_X0_startAbove_0 rfl, rfl⟩
theorem q_X0_startAbove_50 : decode M_X0_startAbove.2.1 50 = .ok (.lload_n 2, 1) ∧ 50 + 1 = 51 := ⟨dcAll_e (i := 33) da_X0_startAbove_0 rfl, rfl⟩
theorem q_X0_startAbove_51 : decode M_X0_startAbove.2.1 51 = .ok (.lcmp, 1) ∧ 51 + 1 = 52 := ⟨dcAll_e (i := 34) da_X0_startAbove_0 rfl, rfl⟩
theorem q_X0_startAbove_52 : decode M_X0_startAbove.2.1 52 = .ok (.ifCond .gt 7, 3) ∧ 52 + 3 = 55 ∧ ((52 : Nat) : Int) + 7 = ((59 : Nat) : Int) := ⟨dcAll_e (i := 35) da_X0_startAbove_0 rfl, rfl, rfl⟩
theorem q_X0_startAbove_55 : decode M_X0_startAbove.2.1 55 = .ok (.lload 7, 2) ∧ 55 + 2 = 57 := ⟨dcAll_e (i := 36) da_X0_startAbove_0 rfl, rfl⟩
theorem q_X0_startAbove_57 : decode M_X0_startAbove.2.1 57 = .ok (.lstore 4, 2) ∧ 57 + 2 = 59 := ⟨dcAll_e (i := 37) da_X0_startAbove_0 rfl, rfl⟩
theorem q_X0_startAbove_59 : decode M_X0_startAbove.2.1 59 = .ok (.iinc 6 (-1), 3) ∧ 59 + 3 = 62 := ⟨dcAll_e (i := 38) da_X0_startAbove_0 rfl, rfl⟩
theorem q_X0_startAbove_62 : decode M_X0_startAbove.2.1 62 = .ok (.goto (-31), 3) ∧ 62 + 3 = 65 ∧ ((62 : Nat) : Int) + (-31) = ((31 : Nat) : Int) := ⟨dcAll_e (i := 39) da_X0_startAbove_0 rfl, rfl, rfl⟩
theorem q_X0_startAbove_65 : decode M_X0_startAbove.2.1 65 = .ok (.lload 4, 2) ∧ 65 + 2 = 67 := ⟨dcAll_e (i := 0) da_X0_startAbove_1 rfl, rfl⟩
theorem q_X0_startAbove_67 : decode M_X0_startAbove.2.1 67 = .ok (.lconst 1, 1) ∧ 67 + 1 = 68 := ⟨dcAll_e (i := 1) da_X0_startAbove_1 rfl, rfl⟩
theorem q_X0_startAbove_68 : decode M_X0_startAbove.2.1 68 = .ok (.ladd, 1) ∧ 68 + 1 = 69 := ⟨dcAll_e (i := 2) da_X0_startAbove_1 rfl, rfl⟩
theorem q_X0_startAbove_69 : decode M_X0_startAbove.2.1 69 = .ok (.lreturn, 1) ∧ 69 + 1 = 70 := ⟨dcAll_e (i := 3) da_X0_startAbove_1 rfl, rfl⟩
