/-! instructions, fields, calls -/
def dl_X2_init_0 : List (Nat × Instr × Nat) := [(0, .aload_n 0, 1), (1, .invokespecial 3, 3), (4, .aload_n 0, 1), (5, .new 9, 3), (8, .dup, 1), (9, .invokespecial 11, 3), (12, .putfield 12, 3), (15, .aload_n 0, 1), (16, .new 18, 3), (19, .dup, 1), (20, .invokespecial 20, 3), (23, .putfield 21, 3), (26, .aload_n 0, 1), (27, .new 25, 3), (30, .dup, 1), (31, .invokespecial 27, 3), (34, .putfield 28, 3), (37, .aload_n 0, 1), (38, .new 25, 3), (41, .dup, 1), (42, .invokespecial 27, 3), (45, .putfield 32, 3), (48, .aload_n 0, 1), (49, .new 25, 3), (52, .dup, 1), (53, .invokespecial 27, 3), (56, .putfield 35, 3), (59, .aload_n 0, 1), (60, .new 25, 3), (63, .dup, 1), (64, .invokespecial 27, 3), (67, .putfield 38, 3), (70, .aload_n 0, 1), (71, .new 25, 3), (74, .dup, 1), (75, .invokespecial 27, 3), (78, .putfield 41, 3), (81, .return_, 1)]
theorem da_X2_init_0 : dcAll M_X2_init.2.1 dl_X2_init_0 = true := by decide +kernel
theorem q_X2_init_0 : decode M_X2_init.2.1 0 = .ok (.aload_n 0, 1) ∧ 0 + 1 = 1 := ⟨dcAll_e (i := 0) da_X2_init_0 rfl, rfl⟩
theorem q_X2_init_1 : decode M_X2_init.2.1 1 = .ok (.invokespecial 3, 3) ∧ 1 + 3 = 4 := ⟨dcAll_e (i := 1) da_X2_init_0 rfl, rfl⟩
theorem o_RX2_3 : Cond.methodLink RX2 3 Lib.objectInit ∈ en_tbl := by decide +kernel
theorem q_X2_init_4 : decode M_X2_init.2.1 4 = .ok (.aload_n 0, 1) ∧ 4 + 1 = 5 := ⟨dcAll_e (i := 2) da_X2_init_0 rfl, rfl⟩
theorem q_X2_init_5 : decode M_X2_init.2.1 5 = .ok (.new 9, 3) ∧ 5 + 3 = 8 := ⟨dcAll_e (i := 3) da_X2_init_0 rfl, rfl⟩
theorem n_RX2_9 : en_N RX2 9 0 5 [.null, .null, .null, .null, .null] := ⟨RX0, TX0, tyX0, rfl, by decide +kernel, by decide +kernel, in_X0, uw_X0, tyX0_ok, fun j hj => by match j, hj with | 0, _ => rfl | 1, _ => rfl | 2, _ => rfl | 3, _ => rfl | 4, _ => rfl | j + 5, h => omega⟩
theorem q_X2_init_8 : decode M_X2_init.2.1 8 = .ok (.dup, 1) ∧ 8 + 1 = 9 := ⟨dcAll_e (i := 4) da_X2_init_0 rfl, rfl⟩
theorem q_X2_init_9 : decode M_X2_init.2.1 9 = .ok (.invokespecial 11, 3) ∧ 9 + 3 = 12 := ⟨dcAll_e (i := 5) da_X2_init_0 rfl, rfl⟩
theorem cd_X0_init : Cond.code M_X0_init.1 M_X0_init.2.1 M_X0_init.2.2.1 M_X0_init.2.2.2.1 ∈ en_tbl := inT1 32 rfl rfl
theorem g_X2_init_9 : en_CN M_X2_init M_X0_init 11 0 "EnclosedDigits" := ⟨⟨by decide +kernel, in_X0, cd_X0_init⟩, ⟨by decide, by decide, by decide +kernel⟩, by decide, by decide⟩
theorem w_X0_init : Cond.instanceMethod M_X0_init.1 ∈ en_tbl := inT1 31 rfl rfl
theorem q_X2_init_12 : decode M_X2_init.2.1 12 = .ok (.putfield 12, 3) ∧ 12 + 3 = 15 := ⟨dcAll_e (i := 6) da_X2_init_0 rfl, rfl⟩
theorem p_RX2_12 : en_Fp RX2 12 2 0 true (.object "EnclosedDigits$Bench") := ⟨RX2, TX2, 7, tyX2, rfl, by decide, rfl, inT1 100 rfl rfl, uw_X2, tyX2_ok, nmX2, rfl, by decide +kernel⟩
theorem q_X2_init_15 : decode M_X2_init.2.1 15 = .ok (.aload_n 0, 1) ∧ 15 + 1 = 16 := ⟨dcAll_e (i := 7) da_X2_init_0 rfl, rfl⟩
theorem q_X2_init_16 : decode M_X2_init.2.1 16 = .ok (.new 18, 3) ∧ 16 + 3 = 19 := ⟨dcAll_e (i := 8) da_X2_init_0 rfl, rfl⟩
theorem n_RX2_18 : en_N RX2 18 4 5 [.null, .null, .null, .null, .null] := ⟨RX4, TX4, tyX4, rfl, by decide +kernel, by decide +kernel, in_X4, uw_X4, tyX4_ok, fun j hj => by match j, hj with | 0, _ => rfl | 1, _ => rfl | 2, _ => rfl | 3, _ => rfl | 4, _ => rfl | j + 5, h => omega⟩
theorem q_X2_init_19 : decode M_X2_init.2.1 19 = .ok (.dup, 1) ∧ 19 + 1 = 20 := ⟨dcAll_e (i := 9) da_X2_init_0 rfl, rfl⟩
theorem q_X2_init_20 : decode M_X2_init.2.1 20 = .ok (.invokespecial 20, 3) ∧ 20 + 3 = 23 := ⟨dcAll_e (i := 10) da_X2_init_0 rfl, rfl⟩
theorem cd_X4_init : Cond.code M_X4_init.1 M_X4_init.2.1 M_X4_init.2.2.1 M_X4_init.2.2.2.1 ∈ en_tbl := inT1 78 rfl rfl
theorem g_X2_init_20 : en_CN M_X2_init M_X4_init 20 0 "EnclosedDigits" := ⟨⟨by decide +kernel, in_X4, cd_X4_init⟩, ⟨by decide, by decide, by decide +kernel⟩, by decide, by decide⟩
theorem w_X4_init : Cond.instanceMethod M_X4_init.1 ∈ en_tbl := inT1 77 rfl rfl
theorem q_X2_init_23 : decode M_X2_init.2.1 23 = .ok (.putfield 21, 3) ∧ 23 + 3 = 26 := ⟨dcAll_e (i := 11) da_X2_init_0 rfl, rfl⟩
theorem p_RX2_21 : en_Fp RX2 21 2 1 true (.object "EnclosedDigits$Series") := ⟨RX2, TX2, 7, tyX2, rfl, by decide, rfl, inT1 102 rfl rfl, uw_X2, tyX2_ok, nmX2, rfl, by decide +kernel⟩
theorem q_X2_init_26 : decode M_X2_init.2.1 26 = .ok (.aload_n 0, 1) ∧ 26 + 1 = 27 := ⟨dcAll_e (i := 12) da_X2_init_0 rfl, rfl⟩
theorem q_X2_init_27 : decode M_X2_init.2.1 27 = .ok (.new 25, 3) ∧ 27 + 3 = 30 := ⟨dcAll_e (i := 13) da_X2_init_0 rfl, rfl⟩
theorem n_RX2_25 : en_N RX2 25 1 3 [.int 0, .int 0, .null] := ⟨RX1, TX1, tyX1, rfl, by decide +kernel, by decide +kernel, in_X1, uw_X1, tyX1_ok, fun j hj => by match j, hj with | 0, _ => rfl | 1, _ => rfl | 2, _ => rfl | j + 3, h => omega⟩
theorem q_X2_init_30 : decode M_X2_init.2.1 30 = .ok (.dup, 1) ∧ 30 + 1 = 31 := ⟨dcAll_e (i := 14) da_X2_init_0 rfl, rfl⟩
theorem q_X2_init_31 : decode M_X2_init.2.1 31 = .ok (.invokespecial 27, 3) ∧ 31 + 3 = 34 := ⟨dcAll_e (i := 15) da_X2_init_0 rfl, rfl⟩
theorem g_X2_init_31 : en_CN M_X2_init M_X1_init 27 0 "EnclosedDigits" := ⟨⟨by decide +kernel, in_X1, cd_X1_init⟩, ⟨by decide, by decide, by decide +kernel⟩, by decide, by decide⟩
theorem q_X2_init_34 : decode M_X2_init.2.1 34 = .ok (.putfield 28, 3) ∧ 34 + 3 = 37 := ⟨dcAll_e (i := 16) da_X2_init_0 rfl, rfl⟩
theorem p_RX2_28 : en_Fp RX2 28 2 2 true (.object "EnclosedDigits$Big") := ⟨RX2, TX2, 7, tyX2, rfl, by decide, rfl, inT1 103 rfl rfl, uw_X2, tyX2_ok, nmX2, rfl, by decide +kernel⟩
theorem q_X2_init_37 : decode M_X2_init.2.1 37 = .ok (.aload_n 0, 1) ∧ 37 + 1 = 38 := ⟨dcAll_e (i := 17) da_X2_init_0 rfl, rfl⟩
theorem q_X2_init_38 : decode M_X2_init.2.1 38 = .ok (.new 25, 3) ∧ 38 + 3 = 41 := ⟨dcAll_e (i := 18) da_X2_init_0 rfl, rfl⟩
theorem q_X2_init_41 : decode M_X2_init.2.1 41 = .ok (.dup, 1) ∧ 41 + 1 = 42 := ⟨dcAll_e (i := 19) da_X2_init_0 rfl, rfl⟩
theorem q_X2_init_42 : decode M_X2_init.2.1 42 = .ok (.invokespecial 27, 3) ∧ 42 + 3 = 45 := ⟨dcAll_e (i := 20) da_X2_init_0 rfl, rfl⟩
theorem g_X2_init_42 : en_CN M_X2_init M_X1_init 27 0 "EnclosedDigits" := ⟨⟨by decide +kernel, in_X1, cd_X1_init⟩, ⟨by decide, by decide, by decide +kernel⟩, by decide, by decide⟩
theorem q_X2_init_45 : decode M_X2_init.2.1 45 = .ok (.putfield 32, 3) ∧ 45 + 3 = 48 := ⟨dcAll_e (i := 21) da_X2_init_0 rfl, rfl⟩
theorem p_RX2_32 : en_Fp RX2 32 2 3 true (.object "EnclosedDigits$Big") := ⟨RX2, TX2, 7, tyX2, rfl, by decide, rfl, inT1 104 rfl rfl, uw_X2, tyX2_ok, nmX2, rfl, by decide +kernel⟩
theorem q_X2_init_48 : decode M_X2_init.2.1 48 = .ok (.aload_n 0, 1) ∧ 48 + 1 = 49 := ⟨dcAll_e (i := 22) da_X2_init_0 rfl, rfl⟩
theorem q_X2_init_49 : decode M_X2_init.2.1 49 = .ok (.new 25, 3) ∧ 49 + 3 = 52 := ⟨dcAll_e (i := 23) da_X2_init_0 rfl, rfl⟩
theorem q_X2_init_52 : decode M_X2_init.2.1 52 = .ok (.dup, 1) ∧ 52 + 1 = 53 := ⟨dcAll_e (i := 24) da_X2_init_0 rfl, rfl⟩
theorem q_X2_init_53 : decode M_X2_init.2.1 53 = .ok (.invokespecial 27, 3) ∧ 53 + 3 = 56 := ⟨dcAll_e (i := 25) da_X2_init_0 rfl, rfl⟩
theorem g_X2_init_53 : en_CN M_X2_init M_X1_init 27 0 "EnclosedDigits" := ⟨⟨by decide +kernel, in_X1, cd_X1_init⟩, ⟨by decide, by decide, by decide +kernel⟩, by decide, by decide⟩
theorem q_X2_init_56 : decode M_X2_init.2.1 56 = .ok (.putfield 35, 3) ∧ 56 + 3 = 59 := ⟨dcAll_e (i := 26) da_X2_init_0 rfl, rfl⟩
theorem p_RX2_35 : en_Fp RX2 35 2 4 true (.object "EnclosedDigits$Big") := ⟨RX2, TX2, 7, tyX2, rfl, by decide, rfl, inT1 105 rfl rfl, uw_X2, tyX2_ok, nmX2, rfl, by decide +kernel⟩
theorem q_X2_init_59 : decode M_X2_init.2.1 59 = .ok (.aload_n 0, 1) ∧ 59 + 1 = 60 := ⟨dcAll_e (i := 27) da_X2_init_0 rfl, rfl⟩
theorem q_X2_init_60 : decode M_X2_init.2.1 60 = .ok (.new 25, 3) ∧ 60 + 3 = 63 := ⟨dcAll_e (i := 28) da_X2_init_0 rfl, rfl⟩
theorem q_X2_init_63 : decode M_X2_init.2.1 63 = .ok (.dup, 1) ∧ 63 + 1 = 64 := ⟨dcAll_e (i := 29) da_X2_init_0 rfl, rfl⟩
theorem q_X2_init_64 : decode M_X2_init.2.1 64 = .ok (.invokespecial 27, 3) ∧ 64 + 3 = 67 := ⟨dcAll_e (i := 30) da_X2_init_0 rfl, rfl⟩
theorem g_X2_init_64 : en_CN M_X2_init M_X1_init 27 0 "EnclosedDigits" := ⟨⟨by decide +kernel, in_X1, cd_X1_init⟩, ⟨by decide, by decide, by decide +kernel⟩, by decide, by decide⟩
theorem q_X2_init_67 : decode M_X2_init.2.1 67 = .ok (.putfield 38, 3) ∧ 67 + 3 = 70 := ⟨dcAll_e (i := 31) da_X2_init_0 rfl, rfl⟩
theorem p_RX2_38 : en_Fp RX2 38 2 5 true (.object "EnclosedDigits$Big") := ⟨RX2, TX2, 7, tyX2, rfl, by decide, rfl, inT1 106 rfl rfl, uw_X2, tyX2_ok, nmX2, rfl, by decide +kernel⟩
theorem q_X2_init_70 : decode M_X2_init.2.1 70 = .ok (.aload_n 0, 1) ∧ 70 + 1 = 71 := ⟨dcAll_e (i := 32) da_X2_init_0 rfl, rfl⟩
theorem q_X2_init_71 : decode M_X2_init.2.1 71 = .ok (.new 25, 3) ∧ 71 + 3 = 74 := ⟨dcAll_e (i := 33) da_X2_init_0 rfl, rfl⟩
theorem q_X2_init_74 : decode M_X2_init.2.1 74 = .ok (.dup, 1) ∧ 74 + 1 = 75 := ⟨dcAll_e (i := 34) da_X2_init_0 rfl, rfl⟩
theorem q_X2_init_75 : decode M_X2_init.2.1 75 = .ok (.invokespecial 27, 3) ∧ 75 + 3 = 78 := ⟨dcAll_e (i := 35) da_X2_init_0 rfl, rfl⟩
theorem g_X2_init_75 : en_CN M_X2_init M_X1_init 27 0 "EnclosedDigits" := ⟨⟨by decide +kernel, in_X1, cd_X1_init⟩, ⟨by decide, by decide, by decide +kernel⟩, by decide, by decide⟩
theorem q_X2_init_78 : decode M_X2_init.2.1 78 = .ok (.putfield 41, 3) ∧ 78 + 3 = 81 := ⟨dcAll_e (i := 36) da_X2_init_0 rfl, rfl⟩
theorem p_RX2_41 : en_Fp RX2 41 2 6 true (.object "EnclosedDigits$Big") := ⟨RX2, TX2, 7, tyX2, rfl, by decide, rfl, inT1 107 rfl rfl, uw_X2, tyX2_ok, nmX2, rfl, by decide +kernel⟩
theorem q_X2_init_81 : decode M_X2_init.2.1 81 = .ok (.return_, 1) ∧ 81 + 1 = 82 := ⟨dcAll_e (i := 37) da_X2_init_0 rfl, rfl⟩
def dl_X2_enclosed_0 : List (Nat × Instr × Nat) := [(0, .iload_n 2, 1), (1, .ifCond .lt 9, 3), (4, .iload_n 2, 1), (5, .aload_n 1, 1), (6, .arraylength, 1), (7, .if_icmp .lt 5, 3), (10, .aconst_null, 1), (11, .areturn, 1), (12, .aload_n 1, 1), (13, .iload_n 2, 1), (14, .iload_n 3, 1), (15, .invokestatic 44, 3), (18, .lstore 4, 2), (20, .iconst 0, 1), (21, .istore 6, 2), (23, .iload 6, 2), (25, .iload_n 2, 1), (26, .if_icmp .gt 289, 3), (29, .aload_n 1, 1), (30, .iload 6, 2), (32, .aaload, 1), (33, .astore 7, 2), (35, .aload 7, 2), (37, .ifnull 272, 3), (40, .lload 4, 2), (42, .iload 6, 2), (44, .invokestatic 48, 3), (47, .ifCond .ne 6, 3), (50, .goto 259, 3), (53, .aload_n 1, 1), (54, .aload 7, 2), (56, .getfield 52, 3), (59, .iload 6, 2), (61, .invokestatic 58, 3), (64, .astore 8, 2), (66, .aload_n 1, 1), (67, .aload 7, 2), (69, .getfield 62, 3), (72, .iload 6, 2), (74, .invokestatic 58, 3)]
theorem da_X2_enclosed_0 : dcAll M_X2_enclosed.2.1 dl_X2_enclosed_0 = true := by decide +kernel
def dl_X2_enclosed_1 : List (Nat × Instr × Nat) := [(77, .astore 9, 2), (79, .aload 7, 2), (81, .iload_n 3, 1), (82, .putfield 65, 3), (85, .aload 7, 2), (87, .aload 7, 2), (89, .getfield 68, 3), (92, .iconst 5, 1), (93, .if_icmp .lt 23, 3), (96, .aload 8, 2), (98, .invokestatic 71, 3), (101, .ifCond .ne 11, 3), (104, .aload 9, 2), (106, .invokestatic 71, 3), (109, .ifCond .eq 7, 3), (112, .iconst 1, 1), (113, .goto 4, 3), (116, .iconst 0, 1), (117, .putfield 75, 3), (120, .aload 7, 2), (122, .getfield 75, 3), (125, .ifCond .eq 6, 3), (128, .goto 181, 3), (131, .aload 7, 2), (133, .getfield 68, 3), (136, .tableswitch 122 0 7 #[48, 57, 67, 67, 67, 86, 98, 110], 48), (184, .aload 7, 2), (186, .iload_n 3, 1), (187, .invokestatic 79, 3), (190, .goto 79, 3), (193, .aload_n 0, 1), (194, .aload 7, 2), (196, .iload_n 3, 1), (197, .invokevirtual 83, 3), (200, .goto 69, 3), (203, .aload_n 0, 1), (204, .getfield 21, 3), (207, .aload 7, 2), (209, .iload_n 3, 1), (210, .invokevirtual 86, 3)]
theorem da_X2_enclosed_1 : dcAll M_X2_enclosed.2.1 dl_X2_enclosed_1 = true := by decide +kernel
def dl_X2_enclosed_2 : List (Nat × Instr × Nat) := [(213, .aload 7, 2), (215, .iload_n 3, 1), (216, .invokestatic 89, 3), (219, .goto 50, 3), (222, .aload_n 0, 1), (223, .aload 7, 2), (225, .aload 8, 2), (227, .iload_n 3, 1), (228, .invokevirtual 92, 3), (231, .goto 38, 3), (234, .aload 7, 2), (236, .aload 8, 2), (238, .aload 9, 2), (240, .invokestatic 96, 3), (243, .goto 26, 3), (246, .aload 7, 2), (248, .aload 8, 2), (250, .aload 9, 2), (252, .invokestatic 100, 3), (255, .goto 14, 3), (258, .aload_n 0, 1), (259, .aload 7, 2), (261, .aload 8, 2), (263, .aload 9, 2), (265, .iload_n 3, 1), (266, .invokevirtual 103, 3), (269, .aload 7, 2), (271, .aload 7, 2), (273, .getfield 75, 3), (276, .ifCond .ne 25, 3), (279, .aload 7, 2), (281, .getfield 107, 3), (284, .invokestatic 110, 3), (287, .ifCond .ne 14, 3), (290, .aload 7, 2), (292, .getfield 114, 3), (295, .invokestatic 110, 3), (298, .ifCond .eq 7, 3), (301, .iconst 1, 1), (302, .goto 4, 3)]
theorem da_X2_enclosed_2 : dcAll M_X2_enclosed.2.1 dl_X2_enclosed_2 = true := by decide +kernel
def dl_X2_enclosed_3 : List (Nat × Instr × Nat) := [(305, .iconst 0, 1), (306, .putfield 75, 3), (309, .iinc 6 1, 3), (312, .goto (-289), 3), (315, .aload_n 1, 1), (316, .iload_n 2, 1), (317, .aaload, 1), (318, .areturn, 1)]
theorem da_X2_enclosed_3 : dcAll M_X2_enclosed.2.1 dl_X2_enclosed_3 = true := by decide +kernel
theorem q_X2_enclosed_0 : decode M_X2_enclosed.2.1 0 = .ok (.iload_n 2, 1) ∧ 0 + 1 = 1 := ⟨dcAll_e (i := 0) da_X2_enclosed_0 rfl, rfl⟩
theorem q_X2_enclosed_1 : decode M_X2_enclosed.2.1 1 = .ok (.ifCond .lt 9, 3) ∧ 1 + 3 = 4 ∧ ((1 : Nat) : Int) + 9 = ((10 : Nat) : Int) := ⟨dcAll_e (i := 1) da_X2_enclosed_0 rfl, rfl, rfl⟩
theorem q_X2_enclosed_4 : decode M_X2_enclosed.2.1 4 = .ok (.iload_n 2, 1) ∧ 4 + 1 = 5 := ⟨dcAll_e (i := 2) da_X2_enclosed_0 rfl, rfl⟩
theorem q_X2_enclosed_5 : decode M_X2_enclosed.2.1 5 = .ok (.aload_n 1, 1) ∧ 5 + 1 = 6 := ⟨dcAll_e (i := 3) da_X2_enclosed_0 rfl, rfl⟩
theorem q_X2_enclosed_6 : decode M_X2_enclosed.2.1 6 = .ok (.arraylength, 1) ∧ 6 + 1 = 7 := ⟨dcAll_e (i := 4) da_X2_enclosed_0 rfl, rfl⟩
theorem q_X2_enclosed_7 : decode M_X2_enclosed.2.1 7 = .ok (.if_icmp .lt 5, 3) ∧ 7 + 3 = 10 ∧ ((7 : Nat) : Int) + 5 = ((12 : Nat) : Int) := ⟨dcAll_e (i := 5) da_X2_enclosed_0 rfl, rfl, rfl⟩
theorem q_X2_enclosed_10 : decode M_X2_enclosed.2.1 10 = .ok (.aconst_null, 1) ∧ 10 + 1 = 11 := ⟨dcAll_e (i := 6) da_X2_enclosed_0 rfl, rfl⟩
theorem q_X2_enclosed_11 : decode M_X2_enclosed.2.1 11 = .ok (.areturn, 1) ∧ 11 + 1 = 12 := ⟨dcAll_e (i := 7) da_X2_enclosed_0 rfl, rfl⟩
theorem q_X2_enclosed_12 : decode M_X2_enclosed.2.1 12 = .ok (.aload_n 1, 1) ∧ 12 + 1 = 13 := ⟨dcAll_e (i := 8) da_X2_enclosed_0 rfl, rfl⟩
theorem q_X2_enclosed_13 : decode M_X2_enclosed.2.1 13 = .ok (.iload_n 2, 1) ∧ 13 + 1 = 14 := ⟨dcAll_e (i := 9) da_X2_enclosed_0 rfl, rfl⟩
theorem q_X2_enclosed_14 : decode M_X2_enclosed.2.1 14 = .ok (.iload_n 3, 1) ∧ 14 + 1 = 15 := ⟨dcAll_e (i := 10) da_X2_enclosed_0 rfl, rfl⟩
theorem q_X2_enclosed_15 : decode M_X2_enclosed.2.1 15 = .ok (.invokestatic 44, 3) ∧ 15 + 3 = 18 := ⟨dcAll_e (i := 11) da_X2_enclosed_0 rfl, rfl⟩
theorem cd_X2_neededFor : Cond.code M_X2_neededFor.1 M_X2_neededFor.2.1 M_X2_neededFor.2.2.1 M_X2_neededFor.2.2.2.1 ∈ en_tbl := inT2 76 rfl rfl
theorem g_X2_enclosed_15 : en_C M_X2_enclosed M_X2_neededFor 44 3 := ⟨⟨inT2 74 rfl rfl, in_X2, cd_X2_neededFor⟩, ⟨by decide, by decide, by decide +kernel⟩, by decide, by decide⟩
theorem w_X2_neededFor : Cond.static M_X2_neededFor.1 ∈ en_tbl := inT2 75 rfl rfl
theorem q_X2_enclosed_18 : decode M_X2_enclosed.2.1 18 = .ok (.lstore 4, 2) ∧ 18 + 2 = 20 := ⟨dcAll_e (i := 12) da_X2_enclosed_0 rfl, rfl⟩
theorem q_X2_enclosed_20 : decode M_X2_enclosed.2.1 20 = .ok (.iconst 0, 1) ∧ 20 + 1 = 21 := ⟨dcAll_e (i := 13) da_X2_enclosed_0 rfl, rfl⟩
theorem q_X2_enclosed_21 : decode M_X2_enclosed.2.1 21 = .ok (.istore 6, 2) ∧ 21 + 2 = 23 := ⟨dcAll_e (i := 14) da_X2_enclosed_0 rfl, rfl⟩
theorem q_X2_enclosed_23 : decode M_X2_enclosed.2.1 23 = .ok (.iload 6, 2) ∧ 23 + 2 = 25 := ⟨dcAll_e (i := 15) da_X2_enclosed_0 rfl, rfl⟩
theorem q_X2_enclosed_25 : decode M_X2_enclosed.2.1 25 = .ok (.iload_n 2, 1) ∧ 25 + 1 = 26 := ⟨dcAll_e (i := 16) da_X2_enclosed_0 rfl, rfl⟩
theorem q_X2_enclosed_26 : decode M_X2_enclosed.2.1 26 = .ok (.if_icmp .gt 289, 3) ∧ 26 + 3 = 29 ∧ ((26 : Nat) : Int) + 289 = ((315 : Nat) : Int) := ⟨dcAll_e (i := 17) da_X2_enclosed_0 rfl, rfl, rfl⟩
theorem q_X2_enclosed_29 : decode M_X2_enclosed.2.1 29 = .ok (.aload_n 1, 1) ∧ 29 + 1 = 30 := ⟨dcAll_e (i := 18) da_X2_enclosed_0 rfl, rfl⟩
theorem q_X2_enclosed_30 : decode M_X2_enclosed.2.1 30 = .ok (.iload 6, 2) ∧ 30 + 2 = 32 := ⟨dcAll_e (i := 19) da_X2_enclosed_0 rfl, rfl⟩
theorem q_X2_enclosed_32 : decode M_X2_enclosed.2.1 32 = .ok (.aaload, 1) ∧ 32 + 1 = 33 := ⟨dcAll_e (i := 20) da_X2_enclosed_0 rfl, rfl⟩
theorem q_X2_enclosed_33 : decode M_X2_enclosed.2.1 33 = .ok (.astore 7, 2) ∧ 33 + 2 = 35 := ⟨dcAll_e (i := 21) da_X2_enclosed_0 rfl, rfl⟩
theorem q_X2_enclosed_35 : decode M_X2_enclosed.2.1 35 = .ok (.aload 7, 2) ∧ 35 + 2 = 37 := ⟨dcAll_e (i := 22) da_X2_enclosed_0 rfl, rfl⟩
theorem q_X2_enclosed_37 : decode M_X2_enclosed.2.1 37 = .ok (.ifnull 272, 3) ∧ 37 + 3 = 40 ∧ ((37 : Nat) : Int) + 272 = ((309 : Nat) : Int) := ⟨dcAll_e (i := 23) da_X2_enclosed_0 rfl, rfl, rfl⟩
theorem q_X2_enclosed_40 : decode M_X2_enclosed.2.1 40 = .ok (.lload 4, 2) ∧ 40 + 2 = 42 := ⟨dcAll_e (i := 24) da_X2_enclosed_0 rfl, rfl⟩
theorem q_X2_enclosed_42 : decode M_X2_enclosed.2.1 42 = .ok (.iload 6, 2) ∧ 42 + 2 = 44 := ⟨dcAll_e (i := 25) da_X2_enclosed_0 rfl, rfl⟩
theorem q_X2_enclosed_44 : decode M_X2_enclosed.2.1 44 = .ok (.invokestatic 48, 3) ∧ 44 + 3 = 47 := ⟨dcAll_e (i := 26) da_X2_enclosed_0 rfl, rfl⟩
theorem cd_X2_isMarked : Cond.code M_X2_isMarked.1 M_X2_isMarked.2.1 M_X2_isMarked.2.2.1 M_X2_isMarked.2.2.2.1 ∈ en_tbl := inT2 79 rfl rfl
theorem g_X2_enclosed_44 : en_C M_X2_enclosed M_X2_isMarked 48 2 := ⟨⟨inT2 77 rfl rfl, in_X2, cd_X2_isMarked⟩, ⟨by decide, by decide, by decide +kernel⟩, by decide, by decide⟩
theorem w_X2_isMarked : Cond.static M_X2_isMarked.1 ∈ en_tbl := inT2 78 rfl rfl
theorem q_X2_enclosed_47 : decode M_X2_enclosed.2.1 47 = .ok (.ifCond .ne 6, 3) ∧ 47 + 3 = 50 ∧ ((47 : Nat) : Int) + 6 = ((53 : Nat) : Int) := ⟨dcAll_e (i := 27) da_X2_enclosed_0 rfl, rfl, rfl⟩
theorem q_X2_enclosed_50 : decode M_X2_enclosed.2.1 50 = .ok (.goto 259, 3) ∧ 50 + 3 = 53 ∧ ((50 : Nat) : Int) + 259 = ((309 : Nat) : Int) := ⟨dcAll_e (i := 28) da_X2_enclosed_0 rfl, rfl, rfl⟩
theorem q_X2_enclosed_53 : decode M_X2_enclosed.2.1 53 = .ok (.aload_n 1, 1) ∧ 53 + 1 = 54 := ⟨dcAll_e (i := 29) da_X2_enclosed_0 rfl, rfl⟩
theorem q_X2_enclosed_54 : decode M_X2_enclosed.2.1 54 = .ok (.aload 7, 2) ∧ 54 + 2 = 56 := ⟨dcAll_e (i := 30) da_X2_enclosed_0 rfl, rfl⟩
theorem q_X2_enclosed_56 : decode M_X2_enclosed.2.1 56 = .ok (.getfield 52, 3) ∧ 56 + 3 = 59 := ⟨dcAll_e (i := 31) da_X2_enclosed_0 rfl, rfl⟩
theorem f_RX2_52 : en_F RX2 52 5 3 := ⟨RX5, TX5, 11, rfl, by decide, rfl, inT1 218 rfl rfl, uw_X5⟩
theorem q_X2_enclosed_59 : decode M_X2_enclosed.2.1 59 = .ok (.iload 6, 2) ∧ 59 + 2 = 61 := ⟨dcAll_e (i := 32) da_X2_enclosed_0 rfl, rfl⟩
theorem q_X2_enclosed_61 : decode M_X2_enclosed.2.1 61 = .ok (.invokestatic 58, 3) ∧ 61 + 3 = 64 := ⟨dcAll_e (i := 33) da_X2_enclosed_0 rfl, rfl⟩
theorem cd_X2_partOf : Cond.code M_X2_partOf.1 M_X2_partOf.2.1 M_X2_partOf.2.2.1 M_X2_partOf.2.2.2.1 ∈ en_tbl := inT2 83 rfl rfl
theorem g_X2_enclosed_61 : en_C M_X2_enclosed M_X2_partOf 58 3 := ⟨⟨inT2 81 rfl rfl, in_X2, cd_X2_partOf⟩, ⟨by decide, by decide, by decide +kernel⟩, by decide, by decide⟩
theorem w_X2_partOf : Cond.static M_X2_partOf.1 ∈ en_tbl := inT2 82 rfl rfl
theorem q_X2_enclosed_64 : decode M_X2_enclosed.2.1 64 = .ok (.astore 8, 2) ∧ 64 + 2 = 66 := ⟨dcAll_e (i := 34) da_X2_enclosed_0 rfl, rfl⟩
theorem q_X2_enclosed_66 : decode M_X2_enclosed.2.1 66 = .ok (.aload_n 1, 1) ∧ 66 + 1 = 67 := ⟨dcAll_e (i := 35) da_X2_enclosed_0 rfl, rfl⟩
theorem q_X2_enclosed_67 : decode M_X2_enclosed.2.1 67 = .ok (.aload 7, 2) ∧ 67 + 2 = 69 := ⟨dcAll_e (i := 36) da_X2_enclosed_0 rfl, rfl⟩
theorem q_X2_enclosed_69 : decode M_X2_enclosed.2.1 69 = .ok (.getfield 62, 3) ∧ 69 + 3 = 72 := ⟨dcAll_e (i := 37) da_X2_enclosed_0 rfl, rfl⟩
theorem f_RX2_62 : en_F RX2 62 5 4 := ⟨RX5, TX5, 11, rfl, by decide, rfl, inT1 220 rfl rfl, uw_X5⟩
theorem q_X2_enclosed_72 : decode M_X2_enclosed.2.1 72 = .ok (.iload 6, 2) ∧ 72 + 2 = 74 := ⟨dcAll_e (i := 38) da_X2_enclosed_0 rfl, rfl⟩
theorem q_X2_enclosed_74 : decode M_X2_enclosed.2.1 74 = .ok (.invokestatic 58, 3) ∧ 74 + 3 = 77 := ⟨dcAll_e (i := 39) da_X2_enclosed_0 rfl, rfl⟩
theorem g_X2_enclosed_74 : en_C M_X2_enclosed M_X2_partOf 58 3 := ⟨⟨inT2 81 rfl rfl, in_X2, cd_X2_partOf⟩, ⟨by decide, by decide, by decide +kernel⟩, by decide, by decide⟩
theorem q_X2_enclosed_77 : decode M_X2_enclosed.2.1 77 = .ok (.astore 9, 2) ∧ 77 + 2 = 79 := ⟨dcAll_e (i := 0) da_X2_enclosed_1 rfl, rfl⟩
theorem q_X2_enclosed_79 : decode M_X2_enclosed.2.1 79 = .ok (.aload 7, 2) ∧ 79 + 2 = 81 := ⟨dcAll_e (i := 1) da_X2_enclosed_1 rfl, rfl⟩
theorem q_X2_enclosed_81 : decode M_X2_enclosed.2.1 81 = .ok (.iload_n 3, 1) ∧ 81 + 1 = 82 := ⟨dcAll_e (i := 2) da_X2_enclosed_1 rfl, rfl⟩
theorem q_X2_enclosed_82 : decode M_X2_enclosed.2.1 82 = .ok (.putfield 65, 3) ∧ 82 + 3 = 85 := ⟨dcAll_e (i := 3) da_X2_enclosed_1 rfl, rfl⟩
theorem p_RX2_65 : en_Fp RX2 65 5 5 false .int := ⟨RX5, TX5, 11, tyX5, rfl, by decide, rfl, inT1 223 rfl rfl, uw_X5, tyX5_ok, nmX5, rfl, by decide +kernel⟩
theorem q_X2_enclosed_85 : decode M_X2_enclosed.2.1 85 = .ok (.aload 7, 2) ∧ 85 + 2 = 87 := ⟨dcAll_e (i := 4) da_X2_enclosed_1 rfl, rfl⟩
theorem q_X2_enclosed_87 : decode M_X2_enclosed.2.1 87 = .ok (.aload 7, 2) ∧ 87 + 2 = 89 := ⟨dcAll_e (i := 5) da_X2_enclosed_1 rfl, rfl⟩
theorem q_X2_enclosed_89 : decode M_X2_enclosed.2.1 89 = .ok (.getfield 68, 3) ∧ 89 + 3 = 92 := ⟨dcAll_e (i := 6) da_X2_enclosed_1 rfl, rfl⟩
theorem f_RX2_68 : en_F RX2 68 5 0 := ⟨RX5, TX5, 11, rfl, by decide, rfl, inT1 211 rfl rfl, uw_X5⟩
theorem q_X2_enclosed_92 : decode M_X2_enclosed.2.1 92 = .ok (.iconst 5, 1) ∧ 92 + 1 = 93 := ⟨dcAll_e (i := 7) da_X2_enclosed_1 rfl, rfl⟩
theorem q_X2_enclosed_93 : decode M_X2_enclosed.2.1 93 = .ok (.if_icmp .lt 23, 3) ∧ 93 + 3 = 96 ∧ ((93 : Nat) : Int) + 23 = ((116 : Nat) : Int) := ⟨dcAll_e (i := 8) da_X2_enclosed_1 rfl, rfl, rfl⟩
theorem q_X2_enclosed_96 : decode M_X2_enclosed.2.1 96 = .ok (.aload 8, 2) ∧ 96 + 2 = 98 := ⟨dcAll_e (i := 9) da_X2_enclosed_1 rfl, rfl⟩
theorem q_X2_enclosed_98 : decode M_X2_enclosed.2.1 98 = .ok (.invokestatic 71, 3) ∧ 98 + 3 = 101 := ⟨dcAll_e (i := 10) da_X2_enclosed_1 rfl, rfl⟩
theorem cd_X2_isOpen : Cond.code M_X2_isOpen.1 M_X2_isOpen.2.1 M_X2_isOpen.2.2.1 M_X2_isOpen.2.2.2.1 ∈ en_tbl := inT2 86 rfl rfl
theorem g_X2_enclosed_98 : en_C M_X2_enclosed M_X2_isOpen 71 1 := ⟨⟨inT2 84 rfl rfl, in_X2, cd_X2_isOpen⟩, ⟨by decide, by decide, by decide +kernel⟩, by decide, by decide⟩
theorem w_X2_isOpen : Cond.static M_X2_isOpen.1 ∈ en_tbl := inT2 85 rfl rfl
theorem q_X2_enclosed_101 : decode M_X2_enclosed.2.1 101 = .ok (.ifCond .ne 11, 3) ∧ 101 + 3 = 104 ∧ ((101 : Nat) : Int) + 11 = ((112 : Nat) : Int) := ⟨dcAll_e (i := 11) da_X2_enclosed_1 rfl, rfl, rfl⟩
theorem q_X2_enclosed_104 : decode M_X2_enclosed.2.1 104 = .ok (.aload 9, 2) ∧ 104 + 2 = 106 := ⟨dcAll_e (i := 12) da_X2_enclosed_1 rfl, rfl⟩
theorem q_X2_enclosed_106 : decode M_X2_enclosed.2.1 106 = .ok (.invokestatic 71, 3) ∧ 106 + 3 = 109 := ⟨dcAll_e (i := 13) da_X2_enclosed_1 rfl, rfl⟩
theorem g_X2_enclosed_106 : en_C M_X2_enclosed M_X2_isOpen 71 1 := ⟨⟨inT2 84 rfl rfl, in_X2, cd_X2_isOpen⟩, ⟨by decide, by decide, by decide +kernel⟩, by decide, by decide⟩
theorem q_X2_enclosed_109 : decode M_X2_enclosed.2.1 109 = .ok (.ifCond .eq 7, 3) ∧ 109 + 3 = 112 ∧ ((109 : Nat) : Int) + 7 = ((116 : Nat) : Int) := ⟨dcAll_e (i := 14) da_X2_enclosed_1 rfl, rfl, rfl⟩
theorem q_X2_enclosed_112 : decode M_X2_enclosed.2.1 112 = .ok (.iconst 1, 1) ∧ 112 + 1 = 113 := ⟨dcAll_e (i := 15) da_X2_enclosed_1 rfl, rfl⟩
theorem q_X2_enclosed_113 : decode M_X2_enclosed.2.1 113 = .ok (.goto 4, 3) ∧ 113 + 3 = 116 ∧ ((113 : Nat) : Int) + 4 = ((117 : Nat) : Int) := ⟨dcAll_e (i := 16) da_X2_enclosed_1 rfl, rfl, rfl⟩
theorem q_X2_enclosed_116 : decode M_X2_enclosed.2.1 116 = .ok (.iconst 0, 1) ∧ 116 + 1 = 117 := ⟨dcAll_e (i := 17) da_X2_enclosed_1 rfl, rfl⟩
theorem q_X2_enclosed_117 : decode M_X2_enclosed.2.1 117 = .ok (.putfield 75, 3) ∧ 117 + 3 = 120 := ⟨dcAll_e (i := 18) da_X2_enclosed_1 rfl, rfl⟩
theorem p_RX2_75 : en_Fp RX2 75 5 6 false .boolean := ⟨RX5, TX5, 11, tyX5, rfl, by decide, rfl, inT1 224 rfl rfl, uw_X5, tyX5_ok, nmX5, rfl, by decide +kernel⟩
theorem q_X2_enclosed_120 : decode M_X2_enclosed.2.1 120 = .ok (.aload 7, 2) ∧ 120 + 2 = 122 := ⟨dcAll_e (i := 19) da_X2_enclosed_1 rfl, rfl⟩
theorem q_X2_enclosed_122 : decode M_X2_enclosed.2.1 122 = .ok (.getfield 75, 3) ∧ 122 + 3 = 125 := ⟨dcAll_e (i := 20) da_X2_enclosed_1 rfl, rfl⟩
theorem f_RX2_75 : en_F RX2 75 5 6 := ⟨RX5, TX5, 11, rfl, by decide, rfl, inT1 224 rfl rfl, uw_X5⟩
theorem q_X2_enclosed_125 : decode M_X2_enclosed.2.1 125 = .ok (.ifCond .eq 6, 3) ∧ 125 + 3 = 128 ∧ ((125 : Nat) : Int) + 6 = ((131 : Nat) : Int) := ⟨dcAll_e (i := 21) da_X2_enclosed_1 rfl, rfl, rfl⟩
theorem q_X2_enclosed_128 : decode M_X2_enclosed.2.1 128 = .ok (.goto 181, 3) ∧ 128 + 3 = 131 ∧ ((128 : Nat) : Int) + 181 = ((309 : Nat) : Int) := ⟨dcAll_e (i := 22) da_X2_enclosed_1 rfl, rfl, rfl⟩
theorem q_X2_enclosed_131 : decode M_X2_enclosed.2.1 131 = .ok (.aload 7, 2) ∧ 131 + 2 = 133 := ⟨dcAll_e (i := 23) da_X2_enclosed_1 rfl, rfl⟩
theorem q_X2_enclosed_133 : decode M_X2_enclosed.2.1 133 = .ok (.getfield 68, 3) ∧ 133 + 3 = 136 := ⟨dcAll_e (i := 24) da_X2_enclosed_1 rfl, rfl⟩
theorem q_X2_enclosed_136 : decode M_X2_enclosed.2.1 136 = .ok (.tableswitch 122 0 7 #[48, 57, 67, 67, 67, 86, 98, 110], 48) := dcAll_e (i := 25) da_X2_enclosed_1 rfl
theorem q_X2_enclosed_184 : decode M_X2_enclosed.2.1 184 = .ok (.aload 7, 2) ∧ 184 + 2 = 186 := ⟨dcAll_e (i := 26) da_X2_enclosed_1 rfl, rfl⟩
theorem q_X2_enclosed_186 : decode M_X2_enclosed.2.1 186 = .ok (.iload_n 3, 1) ∧ 186 + 1 = 187 := ⟨dcAll_e (i := 27) da_X2_enclosed_1 rfl, rfl⟩
theorem q_X2_enclosed_187 : decode M_X2_enclosed.2.1 187 = .ok (.invokestatic 79, 3) ∧ 187 + 3 = 190 := ⟨dcAll_e (i := 28) da_X2_enclosed_1 rfl, rfl⟩
theorem cd_X2_fillWhole : Cond.code M_X2_fillWhole.1 M_X2_fillWhole.2.1 M_X2_fillWhole.2.2.1 M_X2_fillWhole.2.2.2.1 ∈ en_tbl := inT2 89 rfl rfl
theorem g_X2_enclosed_187 : en_C M_X2_enclosed M_X2_fillWhole 79 2 := ⟨⟨inT2 87 rfl rfl, in_X2, cd_X2_fillWhole⟩, ⟨by decide, by decide, by decide +kernel⟩, by decide, by decide⟩
theorem w_X2_fillWhole : Cond.static M_X2_fillWhole.1 ∈ en_tbl := inT2 88 rfl rfl
theorem q_X2_enclosed_190 : decode M_X2_enclosed.2.1 190 = .ok (.goto 79, 3) ∧ 190 + 3 = 193 ∧ ((190 : Nat) : Int) + 79 = ((269 : Nat) : Int) := ⟨dcAll_e (i := 29) da_X2_enclosed_1 rfl, rfl, rfl⟩
theorem q_X2_enclosed_193 : decode M_X2_enclosed.2.1 193 = .ok (.aload_n 0, 1) ∧ 193 + 1 = 194 := ⟨dcAll_e (i := 30) da_X2_enclosed_1 rfl, rfl⟩
theorem q_X2_enclosed_194 : decode M_X2_enclosed.2.1 194 = .ok (.aload 7, 2) ∧ 194 + 2 = 196 := ⟨dcAll_e (i := 31) da_X2_enclosed_1 rfl, rfl⟩
theorem q_X2_enclosed_196 : decode M_X2_enclosed.2.1 196 = .ok (.iload_n 3, 1) ∧ 196 + 1 = 197 := ⟨dcAll_e (i := 32) da_X2_enclosed_1 rfl, rfl⟩
theorem q_X2_enclosed_197 : decode M_X2_enclosed.2.1 197 = .ok (.invokevirtual 83, 3) ∧ 197 + 3 = 200 := ⟨dcAll_e (i := 33) da_X2_enclosed_1 rfl, rfl⟩
theorem cd_X2_fillRatio : Cond.code M_X2_fillRatio.1 M_X2_fillRatio.2.1 M_X2_fillRatio.2.2.1 M_X2_fillRatio.2.2.2.1 ∈ en_tbl := inT2 155 rfl rfl
theorem g_X2_enclosed_197 : en_C M_X2_enclosed M_X2_fillRatio 83 2 := ⟨⟨inT2 152 rfl rfl, in_X2, cd_X2_fillRatio⟩, ⟨by decide, by decide, by decide +kernel⟩, by decide, by decide⟩
theorem w_X2_fillRatio : Cond.instanceMethod M_X2_fillRatio.1 ∈ en_tbl ∧ Cond.selects M_X2_fillRatio.1.cls M_X2_fillRatio.1 M_X2_fillRatio.1 ∈ en_tbl := ⟨inT2 154 rfl rfl, by decide +kernel⟩
theorem q_X2_enclosed_200 : decode M_X2_enclosed.2.1 200 = .ok (.goto 69, 3) ∧ 200 + 3 = 203 ∧ ((200 : Nat) : Int) + 69 = ((269 : Nat) : Int) := ⟨dcAll_e (i := 34) da_X2_enclosed_1 rfl, rfl, rfl⟩
theorem q_X2_enclosed_203 : decode M_X2_enclosed.2.1 203 = .ok (.aload_n 0, 1) ∧ 203 + 1 = 204 := ⟨dcAll_e (i := 35) da_X2_enclosed_1 rfl, rfl⟩
theorem q_X2_enclosed_204 : decode M_X2_enclosed.2.1 204 = .ok (.getfield 21, 3) ∧ 204 + 3 = 207 := ⟨dcAll_e (i := 36) da_X2_enclosed_1 rfl, rfl⟩
theorem f_RX2_21 : en_F RX2 21 2 1 := ⟨RX2, TX2, 7, rfl, by decide, rfl, inT1 102 rfl rfl, uw_X2⟩
theorem q_X2_enclosed_207 : decode M_X2_enclosed.2.1 207 = .ok (.aload 7, 2) ∧ 207 + 2 = 209 := ⟨dcAll_e (i := 37) da_X2_enclosed_1 rfl, rfl⟩
theorem q_X2_enclosed_209 : decode M_X2_enclosed.2.1 209 = .ok (.iload_n 3, 1) ∧ 209 + 1 = 210 := ⟨dcAll_e (i := 38) da_X2_enclosed_1 rfl, rfl⟩
theorem q_X2_enclosed_210 : decode M_X2_enclosed.2.1 210 = .ok (.invokevirtual 86, 3) ∧ 210 + 3 = 213 := ⟨dcAll_e (i := 39) da_X2_enclosed_1 rfl, rfl⟩
theorem cd_X4_refine : Cond.code M_X4_refine.1 M_X4_refine.2.1 M_X4_refine.2.2.1 M_X4_refine.2.2.2.1 ∈ en_tbl := inT2 203 rfl rfl
theorem g_X2_enclosed_210 : en_C M_X2_enclosed M_X4_refine 86 2 := ⟨⟨inT2 200 rfl rfl, in_X4, cd_X4_refine⟩, ⟨by decide, by decide, by decide +kernel⟩, by decide, by decide⟩
theorem w_X4_refine : Cond.instanceMethod M_X4_refine.1 ∈ en_tbl ∧ Cond.selects M_X4_refine.1.cls M_X4_refine.1 M_X4_refine.1 ∈ en_tbl := ⟨inT2 201 rfl rfl, inT2 202 rfl rfl⟩
theorem q_X2_enclosed_213 : decode M_X2_enclosed.2.1 213 = .ok (.aload 7, 2) ∧ 213 + 2 = 215 := ⟨dcAll_e (i := 0) da_X2_enclosed_2 rfl, rfl⟩
theorem q_X2_enclosed_215 : decode M_X2_enclosed.2.1 215 = .ok (.iload_n 3, 1) ∧ 215 + 1 = 216 := ⟨dcAll_e (i := 1) da_X2_enclosed_2 rfl, rfl⟩
theorem q_X2_enclosed_216 : decode M_X2_enclosed.2.1 216 = .ok (.invokestatic 89, 3) ∧ 216 + 3 = 219 := ⟨dcAll_e (i := 2) da_X2_enclosed_2 rfl, rfl⟩
theorem cd_X2_fillFromFine : Cond.code M_X2_fillFromFine.1 M_X2_fillFromFine.2.1 M_X2_fillFromFine.2.2.1 M_X2_fillFromFine.2.2.2.1 ∈ en_tbl := inT3 22 rfl rfl
theorem g_X2_enclosed_216 : en_C M_X2_enclosed M_X2_fillFromFine 89 2 := ⟨⟨inT3 20 rfl rfl, in_X2, cd_X2_fillFromFine⟩, ⟨by decide, by decide, by decide +kernel⟩, by decide, by decide⟩
theorem w_X2_fillFromFine : Cond.static M_X2_fillFromFine.1 ∈ en_tbl := inT3 21 rfl rfl
theorem q_X2_enclosed_219 : decode M_X2_enclosed.2.1 219 = .ok (.goto 50, 3) ∧ 219 + 3 = 222 ∧ ((219 : Nat) : Int) + 50 = ((269 : Nat) : Int) := ⟨dcAll_e (i := 3) da_X2_enclosed_2 rfl, rfl, rfl⟩
theorem q_X2_enclosed_222 : decode M_X2_enclosed.2.1 222 = .ok (.aload_n 0, 1) ∧ 222 + 1 = 223 := ⟨dcAll_e (i := 4) da_X2_enclosed_2 rfl, rfl⟩
theorem q_X2_enclosed_223 : decode M_X2_enclosed.2.1 223 = .ok (.aload 7, 2) ∧ 223 + 2 = 225 := ⟨dcAll_e (i := 5) da_X2_enclosed_2 rfl, rfl⟩
theorem q_X2_enclosed_225 : decode M_X2_enclosed.2.1 225 = .ok (.aload 8, 2) ∧ 225 + 2 = 227 := ⟨dcAll_e (i := 6) da_X2_enclosed_2 rfl, rfl⟩
theorem q_X2_enclosed_227 : decode M_X2_enclosed.2.1 227 = .ok (.iload_n 3, 1) ∧ 227 + 1 = 228 := ⟨dcAll_e (i := 7) da_X2_enclosed_2 rfl, rfl⟩
theorem q_X2_enclosed_228 : decode M_X2_enclosed.2.1 228 = .ok (.invokevirtual 92, 3) ∧ 228 + 3 = 231 := ⟨dcAll_e (i := 8) da_X2_enclosed_2 rfl, rfl⟩
theorem cd_X2_fillRoot : Cond.code M_X2_fillRoot.1 M_X2_fillRoot.2.1 M_X2_fillRoot.2.2.1 M_X2_fillRoot.2.2.2.1 ∈ en_tbl := inT3 27 rfl rfl
theorem g_X2_enclosed_228 : en_C M_X2_enclosed M_X2_fillRoot 92 3 := ⟨⟨inT3 24 rfl rfl, in_X2, cd_X2_fillRoot⟩, ⟨by decide, by decide, by decide +kernel⟩, by decide, by decide⟩
theorem w_X2_fillRoot : Cond.instanceMethod M_X2_fillRoot.1 ∈ en_tbl ∧ Cond.selects M_X2_fillRoot.1.cls M_X2_fillRoot.1 M_X2_fillRoot.1 ∈ en_tbl := ⟨inT3 26 rfl rfl, by decide +kernel⟩
theorem q_X2_enclosed_231 : decode M_X2_enclosed.2.1 231 = .ok (.goto 38, 3) ∧ 231 + 3 = 234 ∧ ((231 : Nat) : Int) + 38 = ((269 : Nat) : Int) := ⟨dcAll_e (i := 9) da_X2_enclosed_2 rfl, rfl, rfl⟩
theorem q_X2_enclosed_234 : decode M_X2_enclosed.2.1 234 = .ok (.aload 7, 2) ∧ 234 + 2 = 236 := ⟨dcAll_e (i := 10) da_X2_enclosed_2 rfl, rfl⟩
theorem q_X2_enclosed_236 : decode M_X2_enclosed.2.1 236 = .ok (.aload 8, 2) ∧ 236 + 2 = 238 := ⟨dcAll_e (i := 11) da_X2_enclosed_2 rfl, rfl⟩
theorem q_X2_enclosed_238 : decode M_X2_enclosed.2.1 238 = .ok (.aload 9, 2) ∧ 238 + 2 = 240 := ⟨dcAll_e (i := 12) da_X2_enclosed_2 rfl, rfl⟩
theorem q_X2_enclosed_240 : decode M_X2_enclosed.2.1 240 = .ok (.invokestatic 96, 3) ∧ 240 + 3 = 243 := ⟨dcAll_e (i := 13) da_X2_enclosed_2 rfl, rfl⟩
theorem cd_X2_fillSum : Cond.code M_X2_fillSum.1 M_X2_fillSum.2.1 M_X2_fillSum.2.2.1 M_X2_fillSum.2.2.2.1 ∈ en_tbl := inT3 53 rfl rfl
theorem g_X2_enclosed_240 : en_C M_X2_enclosed M_X2_fillSum 96 3 := ⟨⟨inT3 51 rfl rfl, in_X2, cd_X2_fillSum⟩, ⟨by decide, by decide, by decide +kernel⟩, by decide, by decide⟩
theorem w_X2_fillSum : Cond.static M_X2_fillSum.1 ∈ en_tbl := inT3 52 rfl rfl
theorem q_X2_enclosed_243 : decode M_X2_enclosed.2.1 243 = .ok (.goto 26, 3) ∧ 243 + 3 = 246 ∧ ((243 : Nat) : Int) + 26 = ((269 : Nat) : Int) := ⟨dcAll_e (i := 14) da_X2_enclosed_2 rfl, rfl, rfl⟩
theorem q_X2_enclosed_246 : decode M_X2_enclosed.2.1 246 = .ok (.aload 7, 2) ∧ 246 + 2 = 248 := ⟨dcAll_e (i := 15) da_X2_enclosed_2 rfl, rfl⟩
theorem q_X2_enclosed_248 : decode M_X2_enclosed.2.1 248 = .ok (.aload 8, 2) ∧ 248 + 2 = 250 := ⟨dcAll_e (i := 16) da_X2_enclosed_2 rfl, rfl⟩
theorem q_X2_enclosed_250 : decode M_X2_enclosed.2.1 250 = .ok (.aload 9, 2) ∧ 250 + 2 = 252 := ⟨dcAll_e (i := 17) da_X2_enclosed_2 rfl, rfl⟩
theorem q_X2_enclosed_252 : decode M_X2_enclosed.2.1 252 = .ok (.invokestatic 100, 3) ∧ 252 + 3 = 255 := ⟨dcAll_e (i := 18) da_X2_enclosed_2 rfl, rfl⟩
theorem cd_X2_fillDifference : Cond.code M_X2_fillDifference.1 M_X2_fillDifference.2.1 M_X2_fillDifference.2.2.1 M_X2_fillDifference.2.2.2.1 ∈ en_tbl := inT3 57 rfl rfl
theorem g_X2_enclosed_252 : en_C M_X2_enclosed M_X2_fillDifference 100 3 := ⟨⟨inT3 55 rfl rfl, in_X2, cd_X2_fillDifference⟩, ⟨by decide, by decide, by decide +kernel⟩, by decide, by decide⟩
theorem w_X2_fillDifference : Cond.static M_X2_fillDifference.1 ∈ en_tbl := inT3 56 rfl rfl
theorem q_X2_enclosed_255 : decode M_X2_enclosed.2.1 255 = .ok (.goto 14, 3) ∧ 255 + 3 = 258 ∧ ((255 : Nat) : Int) + 14 = ((269 : Nat) : Int) := ⟨dcAll_e (i := 19) da_X2_enclosed_2 rfl, rfl, rfl⟩
theorem q_X2_enclosed_258 : decode M_X2_enclosed.2.1 258 = .ok (.aload_n 0, 1) ∧ 258 + 1 = 259 := ⟨dcAll_e (i := 20) da_X2_enclosed_2 rfl, rfl⟩
theorem q_X2_enclosed_259 : decode M_X2_enclosed.2.1 259 = .ok (.aload 7, 2) ∧ 259 + 2 = 261 := ⟨dcAll_e (i := 21) da_X2_enclosed_2 rfl, rfl⟩
theorem q_X2_enclosed_261 : decode M_X2_enclosed.2.1 261 = .ok (.aload 8, 2) ∧ 261 + 2 = 263 := ⟨dcAll_e (i := 22) da_X2_enclosed_2 rfl, rfl⟩
theorem q_X2_enclosed_263 : decode M_X2_enclosed.2.1 263 = .ok (.aload 9, 2) ∧ 263 + 2 = 265 := ⟨dcAll_e (i := 23) da_X2_enclosed_2 rfl, rfl⟩
theorem q_X2_enclosed_265 : decode M_X2_enclosed.2.1 265 = .ok (.iload_n 3, 1) ∧ 265 + 1 = 266 := ⟨dcAll_e (i := 24) da_X2_enclosed_2 rfl, rfl⟩
theorem q_X2_enclosed_266 : decode M_X2_enclosed.2.1 266 = .ok (.invokevirtual 103, 3) ∧ 266 + 3 = 269 := ⟨dcAll_e (i := 25) da_X2_enclosed_2 rfl, rfl⟩
theorem cd_X2_fillCorners : Cond.code M_X2_fillCorners.1 M_X2_fillCorners.2.1 M_X2_fillCorners.2.2.1 M_X2_fillCorners.2.2.2.1 ∈ en_tbl := inT3 62 rfl rfl
theorem g_X2_enclosed_266 : en_C M_X2_enclosed M_X2_fillCorners 103 4 := ⟨⟨inT3 59 rfl rfl, in_X2, cd_X2_fillCorners⟩, ⟨by decide, by decide, by decide +kernel⟩, by decide, by decide⟩
theorem w_X2_fillCorners : Cond.instanceMethod M_X2_fillCorners.1 ∈ en_tbl ∧ Cond.selects M_X2_fillCorners.1.cls M_X2_fillCorners.1 M_X2_fillCorners.1 ∈ en_tbl := ⟨inT3 61 rfl rfl, by decide +kernel⟩
theorem q_X2_enclosed_269 : decode M_X2_enclosed.2.1 269 = .ok (.aload 7, 2) ∧ 269 + 2 = 271 := ⟨dcAll_e (i := 26) da_X2_enclosed_2 rfl, rfl⟩
theorem q_X2_enclosed_271 : decode M_X2_enclosed.2.1 271 = .ok (.aload 7, 2) ∧ 271 + 2 = 273 := ⟨dcAll_e (i := 27) da_X2_enclosed_2 rfl, rfl⟩
theorem q_X2_enclosed_273 : decode M_X2_enclosed.2.1 273 = .ok (.getfield 75, 3) ∧ 273 + 3 = 276 := ⟨dcAll_e (i := 28) da_X2_enclosed_2 rfl, rfl⟩
theorem q_X2_enclosed_276 : decode M_X2_enclosed.2.1 276 = .ok (.ifCond .ne 25, 3) ∧ 276 + 3 = 279 ∧ ((276 : Nat) : Int) + 25 = ((301 : Nat) : Int) := ⟨dcAll_e (i := 29) da_X2_enclosed_2 rfl, rfl, rfl⟩
theorem q_X2_enclosed_279 : decode M_X2_enclosed.2.1 279 = .ok (.aload 7, 2) ∧ 279 + 2 = 281 := ⟨dcAll_e (i := 30) da_X2_enclosed_2 rfl, rfl⟩
theorem q_X2_enclosed_281 : decode M_X2_enclosed.2.1 281 = .ok (.getfield 107, 3) ∧ 281 + 3 = 284 := ⟨dcAll_e (i := 31) da_X2_enclosed_2 rfl, rfl⟩
theorem f_RX2_107 : en_F RX2 107 5 7 := ⟨RX5, TX5, 11, rfl, by decide, rfl, inT1 227 rfl rfl, uw_X5⟩
theorem q_X2_enclosed_284 : decode M_X2_enclosed.2.1 284 = .ok (.invokestatic 110, 3) ∧ 284 + 3 = 287 := ⟨dcAll_e (i := 32) da_X2_enclosed_2 rfl, rfl⟩
theorem cd_X2_isTooLong : Cond.code M_X2_isTooLong.1 M_X2_isTooLong.2.1 M_X2_isTooLong.2.2.1 M_X2_isTooLong.2.2.2.1 ∈ en_tbl := inT3 70 rfl rfl
theorem g_X2_enclosed_284 : en_C M_X2_enclosed M_X2_isTooLong 110 1 := ⟨⟨inT3 68 rfl rfl, in_X2, cd_X2_isTooLong⟩, ⟨by decide, by decide, by decide +kernel⟩, by decide, by decide⟩
theorem w_X2_isTooLong : Cond.static M_X2_isTooLong.1 ∈ en_tbl := inT3 69 rfl rfl
theorem q_X2_enclosed_287 : decode M_X2_enclosed.2.1 287 = .ok (.ifCond .ne 14, 3) ∧ 287 + 3 = 290 ∧ ((287 : Nat) : Int) + 14 = ((301 : Nat) : Int) := ⟨dcAll_e (i := 33) da_X2_enclosed_2 rfl, rfl, rfl⟩
theorem q_X2_enclosed_290 : decode M_X2_enclosed.2.1 290 = .ok (.aload 7, 2) ∧ 290 + 2 = 292 := ⟨dcAll_e (i := 34) da_X2_enclosed_2 rfl, rfl⟩
theorem q_X2_enclosed_292 : decode M_X2_enclosed.2.1 292 = .ok (.getfield 114, 3) ∧ 292 + 3 = 295 := ⟨dcAll_e (i := 35) da_X2_enclosed_2 rfl, rfl⟩
theorem f_RX2_114 : en_F RX2 114 5 8 := ⟨RX5, TX5, 11, rfl, by decide, rfl, inT1 230 rfl rfl, uw_X5⟩
theorem q_X2_enclosed_295 : decode M_X2_enclosed.2.1 295 = .ok (.invokestatic 110, 3) ∧ 295 + 3 = 298 := ⟨dcAll_e (i := 36) da_X2_enclosed_2 rfl, rfl⟩
theorem g_X2_enclosed_295 : en_C M_X2_enclosed M_X2_isTooLong 110 1 := ⟨⟨inT3 68 rfl rfl, in_X2, cd_X2_isTooLong⟩, ⟨by decide, by decide, by decide +kernel⟩, by decide, by decide⟩
theorem q_X2_enclosed_298 : decode M_X2_enclosed.2.1 298 = .ok (.ifCond .eq 7, 3) ∧ 298 + 3 = 301 ∧ ((298 : Nat) : Int) + 7 = ((305 : Nat) : Int) := ⟨dcAll_e (i := 37) da_X2_enclosed_2 rfl, rfl, rfl⟩
theorem q_X2_enclosed_301 : decode M_X2_enclosed.2.1 301 = .ok (.iconst 1, 1) ∧ 301 + 1 = 302 := ⟨dcAll_e (i := 38) da_X2_enclosed_2 rfl, rfl⟩
theorem q_X2_enclosed_302 : decode M_X2_enclosed.2.1 302 = .ok (.goto 4, 3) ∧ 302 + 3 = 305 ∧ ((302 : Nat) : Int) + 4 = ((306 : Nat) : Int) := ⟨dcAll_e (i := 39) da_X2_enclosed_2 rfl, rfl, rfl⟩
theorem q_X2_enclosed_305 : decode M_X2_enclosed.2.1 305 = .ok (.iconst 0, 1) ∧ 305 + 1 = 306 := ⟨dcAll_e (i := 0) da_X2_enclosed_3 rfl, rfl⟩
theorem q_X2_enclosed_306 : decode M_X2_enclosed.2.1 306 = .ok (.putfield 75, 3) ∧ 306 + 3 = 309 := ⟨dcAll_e (i := 1) da_X2_enclosed_3 rfl, rfl⟩
theorem q_X2_enclosed_309 : decode M_X2_enclosed.2.1 309 = .ok (.iinc 6 1, 3) ∧ 309 + 3 = 312 := ⟨dcAll_e (i := 2) da_X2_enclosed_3 rfl, rfl⟩
theorem q_X2_enclosed_312 : decode M_X2_enclosed.2.1 312 = .ok (.goto (-289), 3) ∧ 312 + 3 = 315 ∧ ((312 : Nat) : Int) + (-289) = ((23 : Nat) : Int) := ⟨dcAll_e (i := 3) da_X2_enclosed_3 rfl, rfl, rfl⟩
theorem q_X2_enclosed_315 : decode M_X2_enclosed.2.1 315 = .ok (.aload_n 1, 1) ∧ 315 + 1 = 316 := ⟨dcAll_e (i := 4) da_X2_enclosed_3 rfl, rfl⟩
theorem q_X2_enclosed_316 : decode M_X2_enclosed.2.1 316 = .ok (.iload_n 2, 1) ∧ 316 + 1 = 317 := ⟨dcAll_e (i := 5) da_X2_enclosed_3 rfl, rfl⟩
theorem q_X2_enclosed_317 : decode M_X2_enclosed.2.1 317 = .ok (.aaload, 1) ∧ 317 + 1 = 318 := ⟨dcAll_e (i := 6) da_X2_enclosed_3 rfl, rfl⟩
theorem q_X2_enclosed_318 : decode M_X2_enclosed.2.1 318 = .ok (.areturn, 1) ∧ 318 + 1 = 319 := ⟨dcAll_e (i := 7) da_X2_enclosed_3 rfl, rfl⟩
def dl_X2_neededFor_0 : List (Nat × Instr × Nat) := [(0, .lconst 1, 1), (1, .iload_n 1, 1), (2, .lshl, 1), (3, .lstore_n 3, 1), (4, .iload_n 1, 1), (5, .istore 5, 2), (7, .iload 5, 2), (9, .ifCond .lt 82, 3), (12, .aload_n 0, 1), (13, .iload 5, 2), (15, .aaload, 1), (16, .astore 6, 2), (18, .aload 6, 2), (20, .ifnull 65, 3), (23, .lload_n 3, 1), (24, .iload 5, 2), (26, .invokestatic 48, 3), (29, .ifCond .ne 6, 3), (32, .goto 53, 3), (35, .aload 6, 2), (37, .getfield 65, 3), (40, .iload_n 2, 1), (41, .if_icmp .ne 17, 3), (44, .lload_n 3, 1), (45, .lconst 1, 1), (46, .iload 5, 2), (48, .lshl, 1), (49, .ldc2_w 117, 3), (52, .lxor, 1), (53, .land, 1), (54, .lstore_n 3, 1), (55, .goto 30, 3), (58, .aload 6, 2), (60, .getfield 68, 3), (63, .iconst 5, 1), (64, .if_icmp .lt 21, 3), (67, .lload_n 3, 1), (68, .lconst 1, 1), (69, .aload 6, 2), (71, .getfield 52, 3)]
theorem da_X2_neededFor_0 : dcAll M_X2_neededFor.2.1 dl_X2_neededFor_0 = true := by decide +kernel
def dl_X2_neededFor_1 : List (Nat × Instr × Nat) := [(74, .lshl, 1), (75, .lconst 1, 1), (76, .aload 6, 2), (78, .getfield 62, 3), (81, .lshl, 1), (82, .lor, 1), (83, .lor, 1), (84, .lstore_n 3, 1), (85, .iinc 5 (-1), 3), (88, .goto (-81), 3), (91, .lload_n 3, 1), (92, .lreturn, 1)]
theorem da_X2_neededFor_1 : dcAll M_X2_neededFor.2.1 dl_X2_neededFor_1 = true := by decide +kernel
theorem q_X2_neededFor_0 : decode M_X2_neededFor.2.1 0 = .ok (.lconst 1, 1) ∧ 0 + 1 = 1 := ⟨dcAll_e (i := 0) da_X2_neededFor_0 rfl, rfl⟩
theorem q_X2_neededFor_1 : decode M_X2_neededFor.2.1 1 = .ok (.iload_n 1, 1) ∧ 1 + 1 = 2 := ⟨dcAll_e (i := 1) da_X2_neededFor_0 rfl, rfl⟩
theorem q_X2_neededFor_2 : decode M_X2_neededFor.2.1 2 = .ok (.lshl, 1) ∧ 2 + 1 = 3 := ⟨dcAll_e (i := 2) da_X2_neededFor_0 rfl, rfl⟩
theorem q_X2_neededFor_3 : decode M_X2_neededFor.2.1 3 = .ok (.lstore_n 3, 1) ∧ 3 + 1 = 4 := ⟨dcAll_e (i := 3) da_X2_neededFor_0 rfl, rfl⟩
theorem q_X2_neededFor_4 : decode M_X2_neededFor.2.1 4 = .ok (.iload_n 1, 1) ∧ 4 + 1 = 5 := ⟨dcAll_e (i := 4) da_X2_neededFor_0 rfl, rfl⟩
theorem q_X2_neededFor_5 : decode M_X2_neededFor.2.1 5 = .ok (.istore 5, 2) ∧ 5 + 2 = 7 := ⟨dcAll_e (i := 5) da_X2_neededFor_0 rfl, rfl⟩
theorem q_X2_neededFor_7 : decode M_X2_neededFor.2.1 7 = .ok (.iload 5, 2) ∧ 7 + 2 = 9 := ⟨dcAll_e (i := 6) da_X2_neededFor_0 rfl, rfl⟩
theorem q_X2_neededFor_9 : decode M_X2_neededFor.2.1 9 = .ok (.ifCond .lt 82, 3) ∧ 9 + 3 = 12 ∧ ((9 : Nat) : Int) + 82 = ((91 : Nat) : Int) := ⟨dcAll_e (i := 7) da_X2_neededFor_0 rfl, rfl, rfl⟩
theorem q_X2_neededFor_12 : decode M_X2_neededFor.2.1 12 = .ok (.aload_n 0, 1) ∧ 12 + 1 = 13 := ⟨dcAll_e (i := 8) da_X2_neededFor_0 rfl, rfl⟩
theorem q_X2_neededFor_13 : decode M_X2_neededFor.2.1 13 = .ok (.iload 5, 2) ∧ 13 + 2 = 15 := ⟨dcAll_e (i := 9) da_X2_neededFor_0 rfl, rfl⟩
theorem q_X2_neededFor_15 : decode M_X2_neededFor.2.1 15 = .ok (.aaload, 1) ∧ 15 + 1 = 16 := ⟨dcAll_e (i := 10) da_X2_neededFor_0 rfl, rfl⟩
theorem q_X2_neededFor_16 : decode M_X2_neededFor.2.1 16 = .ok (.astore 6, 2) ∧ 16 + 2 = 18 := ⟨dcAll_e (i := 11) da_X2_neededFor_0 rfl, rfl⟩
theorem q_X2_neededFor_18 : decode M_X2_neededFor.2.1 18 = .ok (.aload 6, 2) ∧ 18 + 2 = 20 := ⟨dcAll_e (i := 12) da_X2_neededFor_0 rfl, rfl⟩
theorem q_X2_neededFor_20 : decode M_X2_neededFor.2.1 20 = .ok (.ifnull 65, 3) ∧ 20 + 3 = 23 ∧ ((20 : Nat) : Int) + 65 = ((85 : Nat) : Int) := ⟨dcAll_e (i := 13) da_X2_neededFor_0 rfl, rfl, rfl⟩
theorem q_X2_neededFor_23 : decode M_X2_neededFor.2.1 23 = .ok (.lload_n 3, 1) ∧ 23 + 1 = 24 := ⟨dcAll_e (i := 14) da_X2_neededFor_0 rfl, rfl⟩
theorem q_X2_neededFor_24 : decode M_X2_neededFor.2.1 24 = .ok (.iload 5, 2) ∧ 24 + 2 = 26 := ⟨dcAll_e (i := 15) da_X2_neededFor_0 rfl, rfl⟩
theorem q_X2_neededFor_26 : decode M_X2_neededFor.2.1 26 = .ok (.invokestatic 48, 3) ∧ 26 + 3 = 29 := ⟨dcAll_e (i := 16) da_X2_neededFor_0 rfl, rfl⟩
theorem g_X2_neededFor_26 : en_C M_X2_neededFor M_X2_isMarked 48 2 := ⟨⟨inT2 77 rfl rfl, in_X2, cd_X2_isMarked⟩, ⟨by decide, by decide, by decide +kernel⟩, by decide, by decide⟩
theorem q_X2_neededFor_29 : decode M_X2_neededFor.2.1 29 = .ok (.ifCond .ne 6, 3) ∧ 29 + 3 = 32 ∧ ((29 : Nat) : Int) + 6 = ((35 : Nat) : Int) := ⟨dcAll_e (i := 17) da_X2_neededFor_0 rfl, rfl, rfl⟩
theorem q_X2_neededFor_32 : decode M_X2_neededFor.2.1 32 = .ok (.goto 53, 3) ∧ 32 + 3 = 35 ∧ ((32 : Nat) : Int) + 53 = ((85 : Nat) : Int) := ⟨dcAll_e (i := 18) da_X2_neededFor_0 rfl, rfl, rfl⟩
theorem q_X2_neededFor_35 : decode M_X2_neededFor.2.1 35 = .ok (.aload 6, 2) ∧ 35 + 2 = 37 := ⟨dcAll_e (i := 19) da_X2_neededFor_0 rfl, rfl⟩
theorem q_X2_neededFor_37 : decode M_X2_neededFor.2.1 37 = .ok (.getfield 65, 3) ∧ 37 + 3 = 40 := ⟨dcAll_e (i := 20) da_X2_neededFor_0 rfl, rfl⟩
theorem f_RX2_65 : en_F RX2 65 5 5 := ⟨RX5, TX5, 11, rfl, by decide, rfl, inT1 223 rfl rfl, uw_X5⟩
theorem q_X2_neededFor_40 : decode M_X2_neededFor.2.1 40 = .ok (.iload_n 2, 1) ∧ 40 + 1 = 41 := ⟨dcAll_e (i := 21) da_X2_neededFor_0 rfl, rfl⟩
theorem q_X2_neededFor_41 : decode M_X2_neededFor.2.1 41 = .ok (.if_icmp .ne 17, 3) ∧ 41 + 3 = 44 ∧ ((41 : Nat) : Int) + 17 = ((58 : Nat) : Int) := ⟨dcAll_e (i := 22) da_X2_neededFor_0 rfl, rfl, rfl⟩
theorem q_X2_neededFor_44 : decode M_X2_neededFor.2.1 44 = .ok (.lload_n 3, 1) ∧ 44 + 1 = 45 := ⟨dcAll_e (i := 23) da_X2_neededFor_0 rfl, rfl⟩
theorem q_X2_neededFor_45 : decode M_X2_neededFor.2.1 45 = .ok (.lconst 1, 1) ∧ 45 + 1 = 46 := ⟨dcAll_e (i := 24) da_X2_neededFor_0 rfl, rfl⟩
theorem q_X2_neededFor_46 : decode M_X2_neededFor.2.1 46 = .ok (.iload 5, 2) ∧ 46 + 2 = 48 := ⟨dcAll_e (i := 25) da_X2_neededFor_0 rfl, rfl⟩
theorem q_X2_neededFor_48 : decode M_X2_neededFor.2.1 48 = .ok (.lshl, 1) ∧ 48 + 1 = 49 := ⟨dcAll_e (i := 26) da_X2_neededFor_0 rfl, rfl⟩
theorem q_X2_neededFor_49 : decode M_X2_neededFor.2.1 49 = .ok (.ldc2_w 117, 3) ∧ 49 + 3 = 52 := ⟨dcAll_e (i := 27) da_X2_neededFor_0 rfl, rfl⟩
theorem k_RX2_117 : Cond.constantLong RX2 117 (-1) ∈ en_tbl := by decide +kernel
theorem q_X2_neededFor_52 : decode M_X2_neededFor.2.1 52 = .ok (.lxor, 1) ∧ 52 + 1 = 53 := ⟨dcAll_e (i := 28) da_X2_neededFor_0 rfl, rfl⟩
theorem q_X2_neededFor_53 : decode M_X2_neededFor.2.1 53 = .ok (.land, 1) ∧ 53 + 1 = 54 := ⟨dcAll_e (i := 29) da_X2_neededFor_0 rfl, rfl⟩
theorem q_X2_neededFor_54 : decode M_X2_neededFor.2.1 54 = .ok (.lstore_n 3, 1) ∧ 54 + 1 = 55 := ⟨dcAll_e (i := 30) da_X2_neededFor_0 rfl, rfl⟩
theorem q_X2_neededFor_55 : decode M_X2_neededFor.2.1 55 = .ok (.goto 30, 3) ∧ 55 + 3 = 58 ∧ ((55 : Nat) : Int) + 30 = ((85 : Nat) : Int) := ⟨dcAll_e (i := 31) da_X2_neededFor_0 rfl, rfl, rfl⟩
theorem q_X2_neededFor_58 : decode M_X2_neededFor.2.1 58 = .ok (.aload 6, 2) ∧ 58 + 2 = 60 := ⟨dcAll_e (i := 32) da_X2_neededFor_0 rfl, rfl⟩
theorem q_X2_neededFor_60 : decode M_X2_neededFor.2.1 60 = .ok (.getfield 68, 3) ∧ 60 + 3 = 63 := ⟨dcAll_e (i := 33) da_X2_neededFor_0 rfl, rfl⟩
theorem q_X2_neededFor_63 : decode M_X2_neededFor.2.1 63 = .ok (.iconst 5, 1) ∧ 63 + 1 = 64 := ⟨dcAll_e (i := 34) da_X2_neededFor_0 rfl, rfl⟩
theorem q_X2_neededFor_64 : decode M_X2_neededFor.2.1 64 = .ok (.if_icmp .lt 21, 3) ∧ 64 + 3 = 67 ∧ ((64 : Nat) : Int) + 21 = ((85 : Nat) : Int) := ⟨dcAll_e (i := 35) da_X2_neededFor_0 rfl, rfl, rfl⟩
theorem q_X2_neededFor_67 : decode M_X2_neededFor.2.1 67 = .ok (.lload_n 3, 1) ∧ 67 + 1 = 68 := ⟨dcAll_e (i := 36) da_X2_neededFor_0 rfl, rfl⟩
theorem q_X2_neededFor_68 : decode M_X2_neededFor.2.1 68 = .ok (.lconst 1, 1) ∧ 68 + 1 = 69 := ⟨dcAll_e (i := 37) da_X2_neededFor_0 rfl, rfl⟩
theorem q_X2_neededFor_69 : decode M_X2_neededFor.2.1 69 = .ok (.aload 6, 2) ∧ 69 + 2 = 71 := ⟨dcAll_e (i := 38) da_X2_neededFor_0 rfl, rfl⟩
theorem q_X2_neededFor_71 : decode M_X2_neededFor.2.1 71 = .ok (.getfield 52, 3) ∧ 71 + 3 = 74 := ⟨dcAll_e (i := 39) da_X2_neededFor_0 rfl, rfl⟩
theorem q_X2_neededFor_74 : decode M_X2_neededFor.2.1 74 = .ok (.lshl, 1) ∧ 74 + 1 = 75 := ⟨dcAll_e (i := 0) da_X2_neededFor_1 rfl, rfl⟩
theorem q_X2_neededFor_75 : decode M_X2_neededFor.2.1 75 = .ok (.lconst 1, 1) ∧ 75 + 1 = 76 := ⟨dcAll_e (i := 1) da_X2_neededFor_1 rfl, rfl⟩
theorem q_X2_neededFor_76 : decode M_X2_neededFor.2.1 76 = .ok (.aload 6, 2) ∧ 76 + 2 = 78 := ⟨dcAll_e (i := 2) da_X2_neededFor_1 rfl, rfl⟩
theorem q_X2_neededFor_78 : decode M_X2_neededFor.2.1 78 = .ok (.getfield 62, 3) ∧ 78 + 3 = 81 := ⟨dcAll_e (i := 3) da_X2_neededFor_1 rfl, rfl⟩
theorem q_X2_neededFor_81 : decode M_X2_neededFor.2.1 81 = .ok (.lshl, 1) ∧ 81 + 1 = 82 := ⟨dcAll_e (i := 4) da_X2_neededFor_1 rfl, rfl⟩
theorem q_X2_neededFor_82 : decode M_X2_neededFor.2.1 82 = .ok (.lor, 1) ∧ 82 + 1 = 83 := ⟨dcAll_e (i := 5) da_X2_neededFor_1 rfl, rfl⟩
theorem q_X2_neededFor_83 : decode M_X2_neededFor.2.1 83 = .ok (.lor, 1) ∧ 83 + 1 = 84 := ⟨dcAll_e (i := 6) da_X2_neededFor_1 rfl, rfl⟩
theorem q_X2_neededFor_84 : decode M_X2_neededFor.2.1 84 = .ok (.lstore_n 3, 1) ∧ 84 + 1 = 85 := ⟨dcAll_e (i := 7) da_X2_neededFor_1 rfl, rfl⟩
theorem q_X2_neededFor_85 : decode M_X2_neededFor.2.1 85 = .ok (.iinc 5 (-1), 3) ∧ 85 + 3 = 88 := ⟨dcAll_e (i := 8) da_X2_neededFor_1 rfl, rfl⟩
theorem q_X2_neededFor_88 : decode M_X2_neededFor.2.1 88 = .ok (.goto (-81), 3) ∧ 88 + 3 = 91 ∧ ((88 : Nat) : Int) + (-81) = ((7 : Nat) : Int) := ⟨dcAll_e (i := 9) da_X2_neededFor_1 rfl, rfl, rfl⟩
theorem q_X2_neededFor_91 : decode M_X2_neededFor.2.1 91 = .ok (.lload_n 3, 1) ∧ 91 + 1 = 92 := ⟨dcAll_e (i := 10) da_X2_neededFor_1 rfl, rfl⟩
theorem q_X2_neededFor_92 : decode M_X2_neededFor.2.1 92 = .ok (.lreturn, 1) ∧ 92 + 1 = 93 := ⟨dcAll_e (i := 11) da_X2_neededFor_1 rfl, rfl⟩
def dl_X2_isMarked_0 : List (Nat × Instr × Nat) := [(0, .lload_n 0, 1), (1, .iload_n 2, 1), (2, .lushr, 1), (3, .lconst 1, 1), (4, .land, 1), (5, .lconst 0, 1), (6, .lcmp, 1), (7, .ifCond .eq 7, 3), (10, .iconst 1, 1), (11, .goto 4, 3), (14, .iconst 0, 1), (15, .ireturn, 1)]
theorem da_X2_isMarked_0 : dcAll M_X2_isMarked.2.1 dl_X2_isMarked_0 = true := by decide +kernel
theorem q_X2_isMarked_0 : decode M_X2_isMarked.2.1 0 = .ok (.lload_n 0, 1) ∧ 0 + 1 = 1 := ⟨dcAll_e (i := 0) da_X2_isMarked_0 rfl, rfl⟩
theorem q_X2_isMarked_1 : decode M_X2_isMarked.2.1 1 = .ok (.iload_n 2, 1) ∧ 1 + 1 = 2 := ⟨dcAll_e (i := 1) da_X2_isMarked_0 rfl, rfl⟩
theorem q_X2_isMarked_2 : decode M_X2_isMarked.2.1 2 = .ok (.lushr, 1) ∧ 2 + 1 = 3 := ⟨dcAll_e (i := 2) da_X2_isMarked_0 rfl, rfl⟩
theorem q_X2_isMarked_3 : decode M_X2_isMarked.2.1 3 = .ok (.lconst 1, 1) ∧ 3 + 1 = 4 := ⟨dcAll_e (i := 3) da_X2_isMarked_0 rfl, rfl⟩
theorem q_X2_isMarked_4 : decode M_X2_isMarked.2.1 4 = .ok (.land, 1) ∧ 4 + 1 = 5 := ⟨dcAll_e (i := 4) da_X2_isMarked_0 rfl, rfl⟩
theorem q_X2_isMarked_5 : decode M_X2_isMarked.2.1 5 = .ok (.lconst 0, 1) ∧ 5 + 1 = 6 := ⟨dcAll_e (i := 5) da_X2_isMarked_0 rfl, rfl⟩
theorem q_X2_isMarked_6 : decode M_X2_isMarked.2.1 6 = .ok (.lcmp, 1) ∧ 6 + 1 = 7 := ⟨dcAll_e (i := 6) da_X2_isMarked_0 rfl, rfl⟩
theorem q_X2_isMarked_7 : decode M_X2_isMarked.2.1 7 = .ok (.ifCond .eq 7, 3) ∧ 7 + 3 = 10 ∧ ((7 : Nat) : Int) + 7 = ((14 : Nat) : Int) := ⟨dcAll_e (i := 7) da_X2_isMarked_0 rfl, rfl, rfl⟩
theorem q_X2_isMarked_10 : decode M_X2_isMarked.2.1 10 = .ok (.iconst 1, 1) ∧ 10 + 1 = 11 := ⟨dcAll_e (i := 8) da_X2_isMarked_0 rfl, rfl⟩
theorem q_X2_isMarked_11 : decode M_X2_isMarked.2.1 11 = .ok (.goto 4, 3) ∧ 11 + 3 = 14 ∧ ((11 : Nat) : Int) + 4 = ((15 : Nat) : Int) := ⟨dcAll_e (i := 9) da_X2_isMarked_0 rfl, rfl, rfl⟩
theorem q_X2_isMarked_14 : decode M_X2_isMarked.2.1 14 = .ok (.iconst 0, 1) ∧ 14 + 1 = 15 := ⟨dcAll_e (i := 10) da_X2_isMarked_0 rfl, rfl⟩
theorem q_X2_isMarked_15 : decode M_X2_isMarked.2.1 15 = .ok (.ireturn, 1) ∧ 15 + 1 = 16 := ⟨dcAll_e (i := 11) da_X2_isMarked_0 rfl, rfl⟩
def dl_X2_partOf_0 : List (Nat × Instr × Nat) := [(0, .iload_n 1, 1), (1, .ifCond .lt 14, 3), (4, .iload_n 1, 1), (5, .iload_n 2, 1), (6, .if_icmp .ge 9, 3), (9, .iload_n 1, 1), (10, .aload_n 0, 1), (11, .arraylength, 1), (12, .if_icmp .lt 7, 3), (15, .aconst_null, 1), (16, .goto 6, 3), (19, .aload_n 0, 1), (20, .iload_n 1, 1), (21, .aaload, 1), (22, .areturn, 1)]
theorem da_X2_partOf_0 : dcAll M_X2_partOf.2.1 dl_X2_partOf_0 = true := by decide +kernel
theorem q_X2_partOf_0 : decode M_X2_partOf.2.1 0 = .ok (.iload_n 1, 1) ∧ 0 + 1 = 1 := ⟨dcAll_e (i := 0) da_X2_partOf_0 rfl, rfl⟩
theorem q_X2_partOf_1 : decode M_X2_partOf.2.1 1 = .ok (.ifCond .lt 14, 3) ∧ 1 + 3 = 4 ∧ ((1 : Nat) : Int) + 14 = ((15 : Nat) : Int) := ⟨dcAll_e (i := 1) da_X2_partOf_0 rfl, rfl, rfl⟩
theorem q_X2_partOf_4 : decode M_X2_partOf.2.1 4 = .ok (.iload_n 1, 1) ∧ 4 + 1 = 5 := ⟨dcAll_e (i := 2) da_X2_partOf_0 rfl, rfl⟩
theorem q_X2_partOf_5 : decode M_X2_partOf.2.1 5 = .ok (.iload_n 2, 1) ∧ 5 + 1 = 6 := ⟨dcAll_e (i := 3) da_X2_partOf_0 rfl, rfl⟩
theorem q_X2_partOf_6 : decode M_X2_partOf.2.1 6 = .ok (.if_icmp .ge 9, 3) ∧ 6 + 3 = 9 ∧ ((6 : Nat) : Int) + 9 = ((15 : Nat) : Int) := ⟨dcAll_e (i := 4) da_X2_partOf_0 rfl, rfl, rfl⟩
theorem q_X2_partOf_9 : decode M_X2_partOf.2.1 9 = .ok (.iload_n 1, 1) ∧ 9 + 1 = 10 := ⟨dcAll_e (i := 5) da_X2_partOf_0 rfl, rfl⟩
theorem q_X2_partOf_10 : decode M_X2_partOf.2.1 10 = .ok (.aload_n 0, 1) ∧ 10 + 1 = 11 := ⟨dcAll_e (i := 6) da_X2_partOf_0 rfl, rfl⟩
theorem q_X2_partOf_11 : decode M_X2_partOf.2.1 11 = .ok (.arraylength, 1) ∧ 11 + 1 = 12 := ⟨dcAll_e (i := 7) da_X2_partOf_0 rfl, rfl⟩
theorem q_X2_partOf_12 : decode M_X2_partOf.2.1 12 = .ok (.if_icmp .lt 7, 3) ∧ 12 + 3 = 15 ∧ ((12 : Nat) : Int) + 7 = ((19 : Nat) : Int) := ⟨dcAll_e (i := 8) da_X2_partOf_0 rfl, rfl, rfl⟩
theorem q_X2_partOf_15 : decode M_X2_partOf.2.1 15 = .ok (.aconst_null, 1) ∧ 15 + 1 = 16 := ⟨dcAll_e (i := 9) da_X2_partOf_0 rfl, rfl⟩
theorem q_X2_partOf_16 : decode M_X2_partOf.2.1 16 = .ok (.goto 6, 3) ∧ 16 + 3 = 19 ∧ ((16 : Nat) : Int) + 6 = ((22 : Nat) : Int) := ⟨dcAll_e (i := 10) da_X2_partOf_0 rfl, rfl, rfl⟩
theorem q_X2_partOf_19 : decode M_X2_partOf.2.1 19 = .ok (.aload_n 0, 1) ∧ 19 + 1 = 20 := ⟨dcAll_e (i := 11) da_X2_partOf_0 rfl, rfl⟩
theorem q_X2_partOf_20 : decode M_X2_partOf.2.1 20 = .ok (.iload_n 1, 1) ∧ 20 + 1 = 21 := ⟨dcAll_e (i := 12) da_X2_partOf_0 rfl, rfl⟩
theorem q_X2_partOf_21 : decode M_X2_partOf.2.1 21 = .ok (.aaload, 1) ∧ 21 + 1 = 22 := ⟨dcAll_e (i := 13) da_X2_partOf_0 rfl, rfl⟩
theorem q_X2_partOf_22 : decode M_X2_partOf.2.1 22 = .ok (.areturn, 1) ∧ 22 + 1 = 23 := ⟨dcAll_e (i := 14) da_X2_partOf_0 rfl, rfl⟩
def dl_X2_isOpen_0 : List (Nat × Instr × Nat) := [(0, .aload_n 0, 1), (1, .ifnull 10, 3), (4, .aload_n 0, 1), (5, .getfield 75, 3), (8, .ifCond .eq 7, 3), (11, .iconst 1, 1), (12, .goto 4, 3), (15, .iconst 0, 1), (16, .ireturn, 1)]
theorem da_X2_isOpen_0 : dcAll M_X2_isOpen.2.1 dl_X2_isOpen_0 = true := by decide +kernel
theorem q_X2_isOpen_0 : decode M_X2_isOpen.2.1 0 = .ok (.aload_n 0, 1) ∧ 0 + 1 = 1 := ⟨dcAll_e (i := 0) da_X2_isOpen_0 rfl, rfl⟩
theorem q_X2_isOpen_1 : decode M_X2_isOpen.2.1 1 = .ok (.ifnull 10, 3) ∧ 1 + 3 = 4 ∧ ((1 : Nat) : Int) + 10 = ((11 : Nat) : Int) := ⟨dcAll_e (i := 1) da_X2_isOpen_0 rfl, rfl, rfl⟩
theorem q_X2_isOpen_4 : decode M_X2_isOpen.2.1 4 = .ok (.aload_n 0, 1) ∧ 4 + 1 = 5 := ⟨dcAll_e (i := 2) da_X2_isOpen_0 rfl, rfl⟩
theorem q_X2_isOpen_5 : decode M_X2_isOpen.2.1 5 = .ok (.getfield 75, 3) ∧ 5 + 3 = 8 := ⟨dcAll_e (i := 3) da_X2_isOpen_0 rfl, rfl⟩
theorem q_X2_isOpen_8 : decode M_X2_isOpen.2.1 8 = .ok (.ifCond .eq 7, 3) ∧ 8 + 3 = 11 ∧ ((8 : Nat) : Int) + 7 = ((15 : Nat) : Int) := ⟨dcAll_e (i := 4) da_X2_isOpen_0 rfl, rfl, rfl⟩
theorem q_X2_isOpen_11 : decode M_X2_isOpen.2.1 11 = .ok (.iconst 1, 1) ∧ 11 + 1 = 12 := ⟨dcAll_e (i := 5) da_X2_isOpen_0 rfl, rfl⟩
theorem q_X2_isOpen_12 : decode M_X2_isOpen.2.1 12 = .ok (.goto 4, 3) ∧ 12 + 3 = 15 ∧ ((12 : Nat) : Int) + 4 = ((16 : Nat) : Int) := ⟨dcAll_e (i := 6) da_X2_isOpen_0 rfl, rfl, rfl⟩
theorem q_X2_isOpen_15 : decode M_X2_isOpen.2.1 15 = .ok (.iconst 0, 1) ∧ 15 + 1 = 16 := ⟨dcAll_e (i := 7) da_X2_isOpen_0 rfl, rfl⟩
theorem q_X2_isOpen_16 : decode M_X2_isOpen.2.1 16 = .ok (.ireturn, 1) ∧ 16 + 1 = 17 := ⟨dcAll_e (i := 8) da_X2_isOpen_0 rfl, rfl⟩
def dl_X2_isExact_0 : List (Nat × Instr × Nat) := [(0, .aload_n 0, 1), (1, .getfield 107, 3), (4, .aload_n 0, 1), (5, .getfield 114, 3), (8, .invokevirtual 119, 3), (11, .ifCond .ne 7, 3), (14, .iconst 1, 1), (15, .goto 4, 3), (18, .iconst 0, 1), (19, .ireturn, 1)]
theorem da_X2_isExact_0 : dcAll M_X2_isExact.2.1 dl_X2_isExact_0 = true := by decide +kernel
theorem q_X2_isExact_0 : decode M_X2_isExact.2.1 0 = .ok (.aload_n 0, 1) ∧ 0 + 1 = 1 := ⟨dcAll_e (i := 0) da_X2_isExact_0 rfl, rfl⟩
theorem q_X2_isExact_1 : decode M_X2_isExact.2.1 1 = .ok (.getfield 107, 3) ∧ 1 + 3 = 4 := ⟨dcAll_e (i := 1) da_X2_isExact_0 rfl, rfl⟩
theorem q_X2_isExact_4 : decode M_X2_isExact.2.1 4 = .ok (.aload_n 0, 1) ∧ 4 + 1 = 5 := ⟨dcAll_e (i := 2) da_X2_isExact_0 rfl, rfl⟩
theorem q_X2_isExact_5 : decode M_X2_isExact.2.1 5 = .ok (.getfield 114, 3) ∧ 5 + 3 = 8 := ⟨dcAll_e (i := 3) da_X2_isExact_0 rfl, rfl⟩
theorem q_X2_isExact_8 : decode M_X2_isExact.2.1 8 = .ok (.invokevirtual 119, 3) ∧ 8 + 3 = 11 := ⟨dcAll_e (i := 4) da_X2_isExact_0 rfl, rfl⟩
theorem g_X2_isExact_8 : en_C M_X2_isExact M_X1_compare 119 1 := ⟨⟨inT3 50 rfl rfl, in_X1, cd_X1_compare⟩, ⟨by decide, by decide, by decide +kernel⟩, by decide, by decide⟩
theorem q_X2_isExact_11 : decode M_X2_isExact.2.1 11 = .ok (.ifCond .ne 7, 3) ∧ 11 + 3 = 14 ∧ ((11 : Nat) : Int) + 7 = ((18 : Nat) : Int) := ⟨dcAll_e (i := 5) da_X2_isExact_0 rfl, rfl, rfl⟩
theorem q_X2_isExact_14 : decode M_X2_isExact.2.1 14 = .ok (.iconst 1, 1) ∧ 14 + 1 = 15 := ⟨dcAll_e (i := 6) da_X2_isExact_0 rfl, rfl⟩
theorem q_X2_isExact_15 : decode M_X2_isExact.2.1 15 = .ok (.goto 4, 3) ∧ 15 + 3 = 18 ∧ ((15 : Nat) : Int) + 4 = ((19 : Nat) : Int) := ⟨dcAll_e (i := 7) da_X2_isExact_0 rfl, rfl, rfl⟩
theorem q_X2_isExact_18 : decode M_X2_isExact.2.1 18 = .ok (.iconst 0, 1) ∧ 18 + 1 = 19 := ⟨dcAll_e (i := 8) da_X2_isExact_0 rfl, rfl⟩
theorem q_X2_isExact_19 : decode M_X2_isExact.2.1 19 = .ok (.ireturn, 1) ∧ 19 + 1 = 20 := ⟨dcAll_e (i := 9) da_X2_isExact_0 rfl, rfl⟩
def dl_X2_isTooLong_0 : List (Nat × Instr × Nat) := [(0, .aload_n 0, 1), (1, .invokevirtual 123, 3), (4, .sipush 800, 3), (7, .if_icmp .le 7, 3), (10, .iconst 1, 1), (11, .goto 4, 3), (14, .iconst 0, 1), (15, .ireturn, 1)]
theorem da_X2_isTooLong_0 : dcAll M_X2_isTooLong.2.1 dl_X2_isTooLong_0 = true := by decide +kernel
theorem q_X2_isTooLong_0 : decode M_X2_isTooLong.2.1 0 = .ok (.aload_n 0, 1) ∧ 0 + 1 = 1 := ⟨dcAll_e (i := 0) da_X2_isTooLong_0 rfl, rfl⟩
theorem q_X2_isTooLong_1 : decode M_X2_isTooLong.2.1 1 = .ok (.invokevirtual 123, 3) ∧ 1 + 3 = 4 := ⟨dcAll_e (i := 1) da_X2_isTooLong_0 rfl, rfl⟩
theorem cd_X1_digitCount : Cond.code M_X1_digitCount.1 M_X1_digitCount.2.1 M_X1_digitCount.2.2.1 M_X1_digitCount.2.2.2.1 ∈ en_tbl := inT3 74 rfl rfl
theorem g_X2_isTooLong_1 : en_C M_X2_isTooLong M_X1_digitCount 123 0 := ⟨⟨inT3 71 rfl rfl, in_X1, cd_X1_digitCount⟩, ⟨by decide, by decide, by decide +kernel⟩, by decide, by decide⟩
theorem w_X1_digitCount : Cond.instanceMethod M_X1_digitCount.1 ∈ en_tbl ∧ Cond.selects M_X1_digitCount.1.cls M_X1_digitCount.1 M_X1_digitCount.1 ∈ en_tbl := ⟨inT3 72 rfl rfl, inT3 73 rfl rfl⟩
theorem q_X2_isTooLong_4 : decode M_X2_isTooLong.2.1 4 = .ok (.sipush 800, 3) ∧ 4 + 3 = 7 := ⟨dcAll_e (i := 2) da_X2_isTooLong_0 rfl, rfl⟩
theorem q_X2_isTooLong_7 : decode M_X2_isTooLong.2.1 7 = .ok (.if_icmp .le 7, 3) ∧ 7 + 3 = 10 ∧ ((7 : Nat) : Int) + 7 = ((14 : Nat) : Int) := ⟨dcAll_e (i := 3) da_X2_isTooLong_0 rfl, rfl, rfl⟩
theorem q_X2_isTooLong_10 : decode M_X2_isTooLong.2.1 10 = .ok (.iconst 1, 1) ∧ 10 + 1 = 11 := ⟨dcAll_e (i := 4) da_X2_isTooLong_0 rfl, rfl⟩
theorem q_X2_isTooLong_11 : decode M_X2_isTooLong.2.1 11 = .ok (.goto 4, 3) ∧ 11 + 3 = 14 ∧ ((11 : Nat) : Int) + 4 = ((15 : Nat) : Int) := ⟨dcAll_e (i := 5) da_X2_isTooLong_0 rfl, rfl, rfl⟩
theorem q_X2_isTooLong_14 : decode M_X2_isTooLong.2.1 14 = .ok (.iconst 0, 1) ∧ 14 + 1 = 15 := ⟨dcAll_e (i := 6) da_X2_isTooLong_0 rfl, rfl⟩
theorem q_X2_isTooLong_15 : decode M_X2_isTooLong.2.1 15 = .ok (.ireturn, 1) ∧ 15 + 1 = 16 := ⟨dcAll_e (i := 7) da_X2_isTooLong_0 rfl, rfl⟩
def dl_X2_fillWhole_0 : List (Nat × Instr × Nat) := [(0, .aload_n 0, 1), (1, .getfield 107, 3), (4, .aload_n 0, 1), (5, .getfield 127, 3), (8, .invokevirtual 131, 3), (11, .aload_n 0, 1), (12, .getfield 107, 3), (15, .iload_n 1, 1), (16, .invokevirtual 135, 3), (19, .aload_n 0, 1), (20, .getfield 114, 3), (23, .aload_n 0, 1), (24, .getfield 107, 3), (27, .invokevirtual 139, 3), (30, .return_, 1)]
theorem da_X2_fillWhole_0 : dcAll M_X2_fillWhole.2.1 dl_X2_fillWhole_0 = true := by decide +kernel
theorem q_X2_fillWhole_0 : decode M_X2_fillWhole.2.1 0 = .ok (.aload_n 0, 1) ∧ 0 + 1 = 1 := ⟨dcAll_e (i := 0) da_X2_fillWhole_0 rfl, rfl⟩
theorem q_X2_fillWhole_1 : decode M_X2_fillWhole.2.1 1 = .ok (.getfield 107, 3) ∧ 1 + 3 = 4 := ⟨dcAll_e (i := 1) da_X2_fillWhole_0 rfl, rfl⟩
theorem q_X2_fillWhole_4 : decode M_X2_fillWhole.2.1 4 = .ok (.aload_n 0, 1) ∧ 4 + 1 = 5 := ⟨dcAll_e (i := 2) da_X2_fillWhole_0 rfl, rfl⟩
theorem q_X2_fillWhole_5 : decode M_X2_fillWhole.2.1 5 = .ok (.getfield 127, 3) ∧ 5 + 3 = 8 := ⟨dcAll_e (i := 3) da_X2_fillWhole_0 rfl, rfl⟩
theorem f_RX2_127 : en_F RX2 127 5 1 := ⟨RX5, TX5, 11, rfl, by decide, rfl, inT1 214 rfl rfl, uw_X5⟩
theorem q_X2_fillWhole_8 : decode M_X2_fillWhole.2.1 8 = .ok (.invokevirtual 131, 3) ∧ 8 + 3 = 11 := ⟨dcAll_e (i := 4) da_X2_fillWhole_0 rfl, rfl⟩
theorem g_X2_fillWhole_8 : en_C M_X2_fillWhole M_X1_setLong 131 1 := ⟨⟨inT2 90 rfl rfl, in_X1, cd_X1_setLong⟩, ⟨by decide, by decide, by decide +kernel⟩, by decide, by decide⟩
theorem q_X2_fillWhole_11 : decode M_X2_fillWhole.2.1 11 = .ok (.aload_n 0, 1) ∧ 11 + 1 = 12 := ⟨dcAll_e (i := 5) da_X2_fillWhole_0 rfl, rfl⟩
theorem q_X2_fillWhole_12 : decode M_X2_fillWhole.2.1 12 = .ok (.getfield 107, 3) ∧ 12 + 3 = 15 := ⟨dcAll_e (i := 6) da_X2_fillWhole_0 rfl, rfl⟩
theorem q_X2_fillWhole_15 : decode M_X2_fillWhole.2.1 15 = .ok (.iload_n 1, 1) ∧ 15 + 1 = 16 := ⟨dcAll_e (i := 7) da_X2_fillWhole_0 rfl, rfl⟩
theorem q_X2_fillWhole_16 : decode M_X2_fillWhole.2.1 16 = .ok (.invokevirtual 135, 3) ∧ 16 + 3 = 19 := ⟨dcAll_e (i := 8) da_X2_fillWhole_0 rfl, rfl⟩
theorem g_X2_fillWhole_16 : en_C M_X2_fillWhole M_X1_shiftUp 135 1 := ⟨⟨inT2 127 rfl rfl, in_X1, cd_X1_shiftUp⟩, ⟨by decide, by decide, by decide +kernel⟩, by decide, by decide⟩
theorem q_X2_fillWhole_19 : decode M_X2_fillWhole.2.1 19 = .ok (.aload_n 0, 1) ∧ 19 + 1 = 20 := ⟨dcAll_e (i := 9) da_X2_fillWhole_0 rfl, rfl⟩
theorem q_X2_fillWhole_20 : decode M_X2_fillWhole.2.1 20 = .ok (.getfield 114, 3) ∧ 20 + 3 = 23 := ⟨dcAll_e (i := 10) da_X2_fillWhole_0 rfl, rfl⟩
theorem q_X2_fillWhole_23 : decode M_X2_fillWhole.2.1 23 = .ok (.aload_n 0, 1) ∧ 23 + 1 = 24 := ⟨dcAll_e (i := 11) da_X2_fillWhole_0 rfl, rfl⟩
theorem q_X2_fillWhole_24 : decode M_X2_fillWhole.2.1 24 = .ok (.getfield 107, 3) ∧ 24 + 3 = 27 := ⟨dcAll_e (i := 12) da_X2_fillWhole_0 rfl, rfl⟩
theorem q_X2_fillWhole_27 : decode M_X2_fillWhole.2.1 27 = .ok (.invokevirtual 139, 3) ∧ 27 + 3 = 30 := ⟨dcAll_e (i := 13) da_X2_fillWhole_0 rfl, rfl⟩
theorem g_X2_fillWhole_27 : en_C M_X2_fillWhole M_X1_copy 139 1 := ⟨⟨inT2 148 rfl rfl, in_X1, cd_X1_copy⟩, ⟨by decide, by decide, by decide +kernel⟩, by decide, by decide⟩
theorem q_X2_fillWhole_30 : decode M_X2_fillWhole.2.1 30 = .ok (.return_, 1) ∧ 30 + 1 = 31 := ⟨dcAll_e (i := 14) da_X2_fillWhole_0 rfl, rfl⟩
def dl_X2_fillRatio_0 : List (Nat × Instr × Nat) := [(0, .aload_n 0, 1), (1, .getfield 35, 3), (4, .aload_n 1, 1), (5, .getfield 127, 3), (8, .invokevirtual 131, 3), (11, .aload_n 0, 1), (12, .getfield 35, 3), (15, .iload_n 2, 1), (16, .invokevirtual 135, 3), (19, .aload_n 0, 1), (20, .getfield 38, 3), (23, .aload_n 1, 1), (24, .getfield 143, 3), (27, .invokevirtual 131, 3), (30, .aload_n 0, 1), (31, .aload_n 0, 1), (32, .getfield 35, 3), (35, .aload_n 0, 1), (36, .getfield 38, 3), (39, .invokevirtual 146, 3), (42, .aload_n 1, 1), (43, .getfield 107, 3), (46, .aload_n 0, 1), (47, .getfield 28, 3), (50, .invokevirtual 139, 3), (53, .aload_n 1, 1), (54, .getfield 114, 3), (57, .aload_n 0, 1), (58, .getfield 32, 3), (61, .invokevirtual 139, 3), (64, .return_, 1)]
theorem da_X2_fillRatio_0 : dcAll M_X2_fillRatio.2.1 dl_X2_fillRatio_0 = true := by decide +kernel
theorem q_X2_fillRatio_0 : decode M_X2_fillRatio.2.1 0 = .ok (.aload_n 0, 1) ∧ 0 + 1 = 1 := ⟨dcAll_e (i := 0) da_X2_fillRatio_0 rfl, rfl⟩
theorem q_X2_fillRatio_1 : decode M_X2_fillRatio.2.1 1 = .ok (.getfield 35, 3) ∧ 1 + 3 = 4 := ⟨dcAll_e (i := 1) da_X2_fillRatio_0 rfl, rfl⟩
theorem f_RX2_35 : en_F RX2 35 2 4 := ⟨RX2, TX2, 7, rfl, by decide, rfl, inT1 105 rfl rfl, uw_X2⟩
theorem q_X2_fillRatio_4 : decode M_X2_fillRatio.2.1 4 = .ok (.aload_n 1, 1) ∧ 4 + 1 = 5 := ⟨dcAll_e (i := 2) da_X2_fillRatio_0 rfl, rfl⟩
theorem q_X2_fillRatio_5 : decode M_X2_fillRatio.2.1 5 = .ok (.getfield 127, 3) ∧ 5 + 3 = 8 := ⟨dcAll_e (i := 3) da_X2_fillRatio_0 rfl, rfl⟩
theorem q_X2_fillRatio_8 : decode M_X2_fillRatio.2.1 8 = .ok (.invokevirtual 131, 3) ∧ 8 + 3 = 11 := ⟨dcAll_e (i := 4) da_X2_fillRatio_0 rfl, rfl⟩
theorem g_X2_fillRatio_8 : en_C M_X2_fillRatio M_X1_setLong 131 1 := ⟨⟨inT2 90 rfl rfl, in_X1, cd_X1_setLong⟩, ⟨by decide, by decide, by decide +kernel⟩, by decide, by decide⟩
theorem q_X2_fillRatio_11 : decode M_X2_fillRatio.2.1 11 = .ok (.aload_n 0, 1) ∧ 11 + 1 = 12 := ⟨dcAll_e (i := 5) da_X2_fillRatio_0 rfl, rfl⟩
theorem q_X2_fillRatio_12 : decode M_X2_fillRatio.2.1 12 = .ok (.getfield 35, 3) ∧ 12 + 3 = 15 := ⟨dcAll_e (i := 6) da_X2_fillRatio_0 rfl, rfl⟩
theorem q_X2_fillRatio_15 : decode M_X2_fillRatio.2.1 15 = .ok (.iload_n 2, 1) ∧ 15 + 1 = 16 := ⟨dcAll_e (i := 7) da_X2_fillRatio_0 rfl, rfl⟩
theorem q_X2_fillRatio_16 : decode M_X2_fillRatio.2.1 16 = .ok (.invokevirtual 135, 3) ∧ 16 + 3 = 19 := ⟨dcAll_e (i := 8) da_X2_fillRatio_0 rfl, rfl⟩
theorem g_X2_fillRatio_16 : en_C M_X2_fillRatio M_X1_shiftUp 135 1 := ⟨⟨inT2 127 rfl rfl, in_X1, cd_X1_shiftUp⟩, ⟨by decide, by decide, by decide +kernel⟩, by decide, by decide⟩
theorem q_X2_fillRatio_19 : decode M_X2_fillRatio.2.1 19 = .ok (.aload_n 0, 1) ∧ 19 + 1 = 20 := ⟨dcAll_e (i := 9) da_X2_fillRatio_0 rfl, rfl⟩
theorem q_X2_fillRatio_20 : decode M_X2_fillRatio.2.1 20 = .ok (.getfield 38, 3) ∧ 20 + 3 = 23 := ⟨dcAll_e (i := 10) da_X2_fillRatio_0 rfl, rfl⟩
theorem f_RX2_38 : en_F RX2 38 2 5 := ⟨RX2, TX2, 7, rfl, by decide, rfl, inT1 106 rfl rfl, uw_X2⟩
theorem q_X2_fillRatio_23 : decode M_X2_fillRatio.2.1 23 = .ok (.aload_n 1, 1) ∧ 23 + 1 = 24 := ⟨dcAll_e (i := 11) da_X2_fillRatio_0 rfl, rfl⟩
theorem q_X2_fillRatio_24 : decode M_X2_fillRatio.2.1 24 = .ok (.getfield 143, 3) ∧ 24 + 3 = 27 := ⟨dcAll_e (i := 12) da_X2_fillRatio_0 rfl, rfl⟩
theorem f_RX2_143 : en_F RX2 143 5 2 := ⟨RX5, TX5, 11, rfl, by decide, rfl, inT1 217 rfl rfl, uw_X5⟩
theorem q_X2_fillRatio_27 : decode M_X2_fillRatio.2.1 27 = .ok (.invokevirtual 131, 3) ∧ 27 + 3 = 30 := ⟨dcAll_e (i := 13) da_X2_fillRatio_0 rfl, rfl⟩
theorem g_X2_fillRatio_27 : en_C M_X2_fillRatio M_X1_setLong 131 1 := ⟨⟨inT2 90 rfl rfl, in_X1, cd_X1_setLong⟩, ⟨by decide, by decide, by decide +kernel⟩, by decide, by decide⟩
theorem q_X2_fillRatio_30 : decode M_X2_fillRatio.2.1 30 = .ok (.aload_n 0, 1) ∧ 30 + 1 = 31 := ⟨dcAll_e (i := 14) da_X2_fillRatio_0 rfl, rfl⟩
theorem q_X2_fillRatio_31 : decode M_X2_fillRatio.2.1 31 = .ok (.aload_n 0, 1) ∧ 31 + 1 = 32 := ⟨dcAll_e (i := 15) da_X2_fillRatio_0 rfl, rfl⟩
theorem q_X2_fillRatio_32 : decode M_X2_fillRatio.2.1 32 = .ok (.getfield 35, 3) ∧ 32 + 3 = 35 := ⟨dcAll_e (i := 16) da_X2_fillRatio_0 rfl, rfl⟩
theorem q_X2_fillRatio_35 : decode M_X2_fillRatio.2.1 35 = .ok (.aload_n 0, 1) ∧ 35 + 1 = 36 := ⟨dcAll_e (i := 17) da_X2_fillRatio_0 rfl, rfl⟩
theorem q_X2_fillRatio_36 : decode M_X2_fillRatio.2.1 36 = .ok (.getfield 38, 3) ∧ 36 + 3 = 39 := ⟨dcAll_e (i := 18) da_X2_fillRatio_0 rfl, rfl⟩
theorem q_X2_fillRatio_39 : decode M_X2_fillRatio.2.1 39 = .ok (.invokevirtual 146, 3) ∧ 39 + 3 = 42 := ⟨dcAll_e (i := 19) da_X2_fillRatio_0 rfl, rfl⟩
theorem cd_X2_divideBothWays : Cond.code M_X2_divideBothWays.1 M_X2_divideBothWays.2.1 M_X2_divideBothWays.2.2.1 M_X2_divideBothWays.2.2.2.1 ∈ en_tbl := inT2 159 rfl rfl
theorem g_X2_fillRatio_39 : en_C M_X2_fillRatio M_X2_divideBothWays 146 2 := ⟨⟨inT2 156 rfl rfl, in_X2, cd_X2_divideBothWays⟩, ⟨by decide, by decide, by decide +kernel⟩, by decide, by decide⟩
theorem w_X2_divideBothWays : Cond.instanceMethod M_X2_divideBothWays.1 ∈ en_tbl ∧ Cond.selects M_X2_divideBothWays.1.cls M_X2_divideBothWays.1 M_X2_divideBothWays.1 ∈ en_tbl := ⟨inT2 158 rfl rfl, by decide +kernel⟩
theorem q_X2_fillRatio_42 : decode M_X2_fillRatio.2.1 42 = .ok (.aload_n 1, 1) ∧ 42 + 1 = 43 := ⟨dcAll_e (i := 20) da_X2_fillRatio_0 rfl, rfl⟩
theorem q_X2_fillRatio_43 : decode M_X2_fillRatio.2.1 43 = .ok (.getfield 107, 3) ∧ 43 + 3 = 46 := ⟨dcAll_e (i := 21) da_X2_fillRatio_0 rfl, rfl⟩
theorem q_X2_fillRatio_46 : decode M_X2_fillRatio.2.1 46 = .ok (.aload_n 0, 1) ∧ 46 + 1 = 47 := ⟨dcAll_e (i := 22) da_X2_fillRatio_0 rfl, rfl⟩
theorem q_X2_fillRatio_47 : decode M_X2_fillRatio.2.1 47 = .ok (.getfield 28, 3) ∧ 47 + 3 = 50 := ⟨dcAll_e (i := 23) da_X2_fillRatio_0 rfl, rfl⟩
theorem f_RX2_28 : en_F RX2 28 2 2 := ⟨RX2, TX2, 7, rfl, by decide, rfl, inT1 103 rfl rfl, uw_X2⟩
theorem q_X2_fillRatio_50 : decode M_X2_fillRatio.2.1 50 = .ok (.invokevirtual 139, 3) ∧ 50 + 3 = 53 := ⟨dcAll_e (i := 24) da_X2_fillRatio_0 rfl, rfl⟩
theorem g_X2_fillRatio_50 : en_C M_X2_fillRatio M_X1_copy 139 1 := ⟨⟨inT2 148 rfl rfl, in_X1, cd_X1_copy⟩, ⟨by decide, by decide, by decide +kernel⟩, by decide, by decide⟩
theorem q_X2_fillRatio_53 : decode M_X2_fillRatio.2.1 53 = .ok (.aload_n 1, 1) ∧ 53 + 1 = 54 := ⟨dcAll_e (i := 25) da_X2_fillRatio_0 rfl, rfl⟩
theorem q_X2_fillRatio_54 : decode M_X2_fillRatio.2.1 54 = .ok (.getfield 114, 3) ∧ 54 + 3 = 57 := ⟨dcAll_e (i := 26) da_X2_fillRatio_0 rfl, rfl⟩
theorem q_X2_fillRatio_57 : decode M_X2_fillRatio.2.1 57 = .ok (.aload_n 0, 1) ∧ 57 + 1 = 58 := ⟨dcAll_e (i := 27) da_X2_fillRatio_0 rfl, rfl⟩
theorem q_X2_fillRatio_58 : decode M_X2_fillRatio.2.1 58 = .ok (.getfield 32, 3) ∧ 58 + 3 = 61 := ⟨dcAll_e (i := 28) da_X2_fillRatio_0 rfl, rfl⟩
theorem f_RX2_32 : en_F RX2 32 2 3 := ⟨RX2, TX2, 7, rfl, by decide, rfl, inT1 104 rfl rfl, uw_X2⟩
theorem q_X2_fillRatio_61 : decode M_X2_fillRatio.2.1 61 = .ok (.invokevirtual 139, 3) ∧ 61 + 3 = 64 := ⟨dcAll_e (i := 29) da_X2_fillRatio_0 rfl, rfl⟩
theorem g_X2_fillRatio_61 : en_C M_X2_fillRatio M_X1_copy 139 1 := ⟨⟨inT2 148 rfl rfl, in_X1, cd_X1_copy⟩, ⟨by decide, by decide, by decide +kernel⟩, by decide, by decide⟩
theorem q_X2_fillRatio_64 : decode M_X2_fillRatio.2.1 64 = .ok (.return_, 1) ∧ 64 + 1 = 65 := ⟨dcAll_e (i := 30) da_X2_fillRatio_0 rfl, rfl⟩
def dl_X2_fillFromFine_0 : List (Nat × Instr × Nat) := [(0, .aload_n 0, 1), (1, .getfield 107, 3), (4, .aload_n 0, 1), (5, .getfield 150, 3), (8, .invokevirtual 139, 3), (11, .aload_n 0, 1), (12, .getfield 107, 3), (15, .aload_n 0, 1), (16, .getfield 153, 3), (19, .iload_n 1, 1), (20, .isub, 1), (21, .iconst (-1), 1), (22, .invokevirtual 156, 3), (25, .aload_n 0, 1), (26, .getfield 114, 3), (29, .aload_n 0, 1), (30, .getfield 107, 3), (33, .invokevirtual 139, 3), (36, .aload_n 0, 1), (37, .getfield 114, 3), (40, .iconst 1, 1), (41, .invokevirtual 160, 3), (44, .return_, 1)]
theorem da_X2_fillFromFine_0 : dcAll M_X2_fillFromFine.2.1 dl_X2_fillFromFine_0 = true := by decide +kernel
theorem q_X2_fillFromFine_0 : decode M_X2_fillFromFine.2.1 0 = .ok (.aload_n 0, 1) ∧ 0 + 1 = 1 := ⟨dcAll_e (i := 0) da_X2_fillFromFine_0 rfl, rfl⟩
theorem q_X2_fillFromFine_1 : decode M_X2_fillFromFine.2.1 1 = .ok (.getfield 107, 3) ∧ 1 + 3 = 4 := ⟨dcAll_e (i := 1) da_X2_fillFromFine_0 rfl, rfl⟩
theorem q_X2_fillFromFine_4 : decode M_X2_fillFromFine.2.1 4 = .ok (.aload_n 0, 1) ∧ 4 + 1 = 5 := ⟨dcAll_e (i := 2) da_X2_fillFromFine_0 rfl, rfl⟩
theorem q_X2_fillFromFine_5 : decode M_X2_fillFromFine.2.1 5 = .ok (.getfield 150, 3) ∧ 5 + 3 = 8 := ⟨dcAll_e (i := 3) da_X2_fillFromFine_0 rfl, rfl⟩
theorem f_RX2_150 : en_F RX2 150 5 10 := ⟨RX5, TX5, 11, rfl, by decide, rfl, inT1 237 rfl rfl, uw_X5⟩
theorem q_X2_fillFromFine_8 : decode M_X2_fillFromFine.2.1 8 = .ok (.invokevirtual 139, 3) ∧ 8 + 3 = 11 := ⟨dcAll_e (i := 4) da_X2_fillFromFine_0 rfl, rfl⟩
theorem g_X2_fillFromFine_8 : en_C M_X2_fillFromFine M_X1_copy 139 1 := ⟨⟨inT2 148 rfl rfl, in_X1, cd_X1_copy⟩, ⟨by decide, by decide, by decide +kernel⟩, by decide, by decide⟩
theorem q_X2_fillFromFine_11 : decode M_X2_fillFromFine.2.1 11 = .ok (.aload_n 0, 1) ∧ 11 + 1 = 12 := ⟨dcAll_e (i := 5) da_X2_fillFromFine_0 rfl, rfl⟩
theorem q_X2_fillFromFine_12 : decode M_X2_fillFromFine.2.1 12 = .ok (.getfield 107, 3) ∧ 12 + 3 = 15 := ⟨dcAll_e (i := 6) da_X2_fillFromFine_0 rfl, rfl⟩
theorem q_X2_fillFromFine_15 : decode M_X2_fillFromFine.2.1 15 = .ok (.aload_n 0, 1) ∧ 15 + 1 = 16 := ⟨dcAll_e (i := 7) da_X2_fillFromFine_0 rfl, rfl⟩
theorem q_X2_fillFromFine_16 : decode M_X2_fillFromFine.2.1 16 = .ok (.getfield 153, 3) ∧ 16 + 3 = 19 := ⟨dcAll_e (i := 8) da_X2_fillFromFine_0 rfl, rfl⟩
theorem f_RX2_153 : en_F RX2 153 5 9 := ⟨RX5, TX5, 11, rfl, by decide, rfl, inT1 234 rfl rfl, uw_X5⟩
theorem q_X2_fillFromFine_19 : decode M_X2_fillFromFine.2.1 19 = .ok (.iload_n 1, 1) ∧ 19 + 1 = 20 := ⟨dcAll_e (i := 9) da_X2_fillFromFine_0 rfl, rfl⟩
theorem q_X2_fillFromFine_20 : decode M_X2_fillFromFine.2.1 20 = .ok (.isub, 1) ∧ 20 + 1 = 21 := ⟨dcAll_e (i := 10) da_X2_fillFromFine_0 rfl, rfl⟩
theorem q_X2_fillFromFine_21 : decode M_X2_fillFromFine.2.1 21 = .ok (.iconst (-1), 1) ∧ 21 + 1 = 22 := ⟨dcAll_e (i := 11) da_X2_fillFromFine_0 rfl, rfl⟩
theorem q_X2_fillFromFine_22 : decode M_X2_fillFromFine.2.1 22 = .ok (.invokevirtual 156, 3) ∧ 22 + 3 = 25 := ⟨dcAll_e (i := 12) da_X2_fillFromFine_0 rfl, rfl⟩
theorem g_X2_fillFromFine_22 : en_C M_X2_fillFromFine M_X1_shrink 156 2 := ⟨⟨inT3 23 rfl rfl, in_X1, cd_X1_shrink⟩, ⟨by decide, by decide, by decide +kernel⟩, by decide, by decide⟩
theorem q_X2_fillFromFine_25 : decode M_X2_fillFromFine.2.1 25 = .ok (.aload_n 0, 1) ∧ 25 + 1 = 26 := ⟨dcAll_e (i := 13) da_X2_fillFromFine_0 rfl, rfl⟩
theorem q_X2_fillFromFine_26 : decode M_X2_fillFromFine.2.1 26 = .ok (.getfield 114, 3) ∧ 26 + 3 = 29 := ⟨dcAll_e (i := 14) da_X2_fillFromFine_0 rfl, rfl⟩
theorem q_X2_fillFromFine_29 : decode M_X2_fillFromFine.2.1 29 = .ok (.aload_n 0, 1) ∧ 29 + 1 = 30 := ⟨dcAll_e (i := 15) da_X2_fillFromFine_0 rfl, rfl⟩
theorem q_X2_fillFromFine_30 : decode M_X2_fillFromFine.2.1 30 = .ok (.getfield 107, 3) ∧ 30 + 3 = 33 := ⟨dcAll_e (i := 16) da_X2_fillFromFine_0 rfl, rfl⟩
theorem q_X2_fillFromFine_33 : decode M_X2_fillFromFine.2.1 33 = .ok (.invokevirtual 139, 3) ∧ 33 + 3 = 36 := ⟨dcAll_e (i := 17) da_X2_fillFromFine_0 rfl, rfl⟩
theorem g_X2_fillFromFine_33 : en_C M_X2_fillFromFine M_X1_copy 139 1 := ⟨⟨inT2 148 rfl rfl, in_X1, cd_X1_copy⟩, ⟨by decide, by decide, by decide +kernel⟩, by decide, by decide⟩
theorem q_X2_fillFromFine_36 : decode M_X2_fillFromFine.2.1 36 = .ok (.aload_n 0, 1) ∧ 36 + 1 = 37 := ⟨dcAll_e (i := 18) da_X2_fillFromFine_0 rfl, rfl⟩
theorem q_X2_fillFromFine_37 : decode M_X2_fillFromFine.2.1 37 = .ok (.getfield 114, 3) ∧ 37 + 3 = 40 := ⟨dcAll_e (i := 19) da_X2_fillFromFine_0 rfl, rfl⟩
theorem q_X2_fillFromFine_40 : decode M_X2_fillFromFine.2.1 40 = .ok (.iconst 1, 1) ∧ 40 + 1 = 41 := ⟨dcAll_e (i := 20) da_X2_fillFromFine_0 rfl, rfl⟩
theorem q_X2_fillFromFine_41 : decode M_X2_fillFromFine.2.1 41 = .ok (.invokevirtual 160, 3) ∧ 41 + 3 = 44 := ⟨dcAll_e (i := 21) da_X2_fillFromFine_0 rfl, rfl⟩
theorem g_X2_fillFromFine_41 : en_C M_X2_fillFromFine M_X1_grow 160 1 := ⟨⟨inT2 195 rfl rfl, in_X1, cd_X1_grow⟩, ⟨by decide, by decide, by decide +kernel⟩, by decide, by decide⟩
theorem q_X2_fillFromFine_44 : decode M_X2_fillFromFine.2.1 44 = .ok (.return_, 1) ∧ 44 + 1 = 45 := ⟨dcAll_e (i := 22) da_X2_fillFromFine_0 rfl, rfl⟩
def dl_X2_fillSum_0 : List (Nat × Instr × Nat) := [(0, .aload_n 0, 1), (1, .getfield 107, 3), (4, .aload_n 1, 1), (5, .getfield 107, 3), (8, .invokevirtual 139, 3), (11, .aload_n 0, 1), (12, .getfield 107, 3), (15, .aload_n 2, 1), (16, .getfield 107, 3), (19, .invokevirtual 163, 3), (22, .aload_n 0, 1), (23, .getfield 114, 3), (26, .aload_n 1, 1), (27, .getfield 114, 3), (30, .invokevirtual 139, 3), (33, .aload_n 0, 1), (34, .getfield 114, 3), (37, .aload_n 2, 1), (38, .getfield 114, 3), (41, .invokevirtual 163, 3), (44, .return_, 1)]
theorem da_X2_fillSum_0 : dcAll M_X2_fillSum.2.1 dl_X2_fillSum_0 = true := by decide +kernel
theorem q_X2_fillSum_0 : decode M_X2_fillSum.2.1 0 = .ok (.aload_n 0, 1) ∧ 0 + 1 = 1 := ⟨dcAll_e (i := 0) da_X2_fillSum_0 rfl, rfl⟩
theorem q_X2_fillSum_1 : decode M_X2_fillSum.2.1 1 = .ok (.getfield 107, 3) ∧ 1 + 3 = 4 := ⟨dcAll_e (i := 1) da_X2_fillSum_0 rfl, rfl⟩
theorem q_X2_fillSum_4 : decode M_X2_fillSum.2.1 4 = .ok (.aload_n 1, 1) ∧ 4 + 1 = 5 := ⟨dcAll_e (i := 2) da_X2_fillSum_0 rfl, rfl⟩
theorem q_X2_fillSum_5 : decode M_X2_fillSum.2.1 5 = .ok (.getfield 107, 3) ∧ 5 + 3 = 8 := ⟨dcAll_e (i := 3) da_X2_fillSum_0 rfl, rfl⟩
theorem q_X2_fillSum_8 : decode M_X2_fillSum.2.1 8 = .ok (.invokevirtual 139, 3) ∧ 8 + 3 = 11 := ⟨dcAll_e (i := 4) da_X2_fillSum_0 rfl, rfl⟩
theorem g_X2_fillSum_8 : en_C M_X2_fillSum M_X1_copy 139 1 := ⟨⟨inT2 148 rfl rfl, in_X1, cd_X1_copy⟩, ⟨by decide, by decide, by decide +kernel⟩, by decide, by decide⟩
theorem q_X2_fillSum_11 : decode M_X2_fillSum.2.1 11 = .ok (.aload_n 0, 1) ∧ 11 + 1 = 12 := ⟨dcAll_e (i := 5) da_X2_fillSum_0 rfl, rfl⟩
theorem q_X2_fillSum_12 : decode M_X2_fillSum.2.1 12 = .ok (.getfield 107, 3) ∧ 12 + 3 = 15 := ⟨dcAll_e (i := 6) da_X2_fillSum_0 rfl, rfl⟩
theorem q_X2_fillSum_15 : decode M_X2_fillSum.2.1 15 = .ok (.aload_n 2, 1) ∧ 15 + 1 = 16 := ⟨dcAll_e (i := 7) da_X2_fillSum_0 rfl, rfl⟩
theorem q_X2_fillSum_16 : decode M_X2_fillSum.2.1 16 = .ok (.getfield 107, 3) ∧ 16 + 3 = 19 := ⟨dcAll_e (i := 8) da_X2_fillSum_0 rfl, rfl⟩
theorem q_X2_fillSum_19 : decode M_X2_fillSum.2.1 19 = .ok (.invokevirtual 163, 3) ∧ 19 + 3 = 22 := ⟨dcAll_e (i := 9) da_X2_fillSum_0 rfl, rfl⟩
theorem g_X2_fillSum_19 : en_C M_X2_fillSum M_X1_add 163 1 := ⟨⟨inT3 54 rfl rfl, in_X1, cd_X1_add⟩, ⟨by decide, by decide, by decide +kernel⟩, by decide, by decide⟩
theorem q_X2_fillSum_22 : decode M_X2_fillSum.2.1 22 = .ok (.aload_n 0, 1) ∧ 22 + 1 = 23 := ⟨dcAll_e (i := 10) da_X2_fillSum_0 rfl, rfl⟩
theorem q_X2_fillSum_23 : decode M_X2_fillSum.2.1 23 = .ok (.getfield 114, 3) ∧ 23 + 3 = 26 := ⟨dcAll_e (i := 11) da_X2_fillSum_0 rfl, rfl⟩
theorem q_X2_fillSum_26 : decode M_X2_fillSum.2.1 26 = .ok (.aload_n 1, 1) ∧ 26 + 1 = 27 := ⟨dcAll_e (i := 12) da_X2_fillSum_0 rfl, rfl⟩
theorem q_X2_fillSum_27 : decode M_X2_fillSum.2.1 27 = .ok (.getfield 114, 3) ∧ 27 + 3 = 30 := ⟨dcAll_e (i := 13) da_X2_fillSum_0 rfl, rfl⟩
theorem q_X2_fillSum_30 : decode M_X2_fillSum.2.1 30 = .ok (.invokevirtual 139, 3) ∧ 30 + 3 = 33 := ⟨dcAll_e (i := 14) da_X2_fillSum_0 rfl, rfl⟩
theorem g_X2_fillSum_30 : en_C M_X2_fillSum M_X1_copy 139 1 := ⟨⟨inT2 148 rfl rfl, in_X1, cd_X1_copy⟩, ⟨by decide, by decide, by decide +kernel⟩, by decide, by decide⟩
theorem q_X2_fillSum_33 : decode M_X2_fillSum.2.1 33 = .ok (.aload_n 0, 1) ∧ 33 + 1 = 34 := ⟨dcAll_e (i := 15) da_X2_fillSum_0 rfl, rfl⟩
theorem q_X2_fillSum_34 : decode M_X2_fillSum.2.1 34 = .ok (.getfield 114, 3) ∧ 34 + 3 = 37 := ⟨dcAll_e (i := 16) da_X2_fillSum_0 rfl, rfl⟩
theorem q_X2_fillSum_37 : decode M_X2_fillSum.2.1 37 = .ok (.aload_n 2, 1) ∧ 37 + 1 = 38 := ⟨dcAll_e (i := 17) da_X2_fillSum_0 rfl, rfl⟩
theorem q_X2_fillSum_38 : decode M_X2_fillSum.2.1 38 = .ok (.getfield 114, 3) ∧ 38 + 3 = 41 := ⟨dcAll_e (i := 18) da_X2_fillSum_0 rfl, rfl⟩
theorem q_X2_fillSum_41 : decode M_X2_fillSum.2.1 41 = .ok (.invokevirtual 163, 3) ∧ 41 + 3 = 44 := ⟨dcAll_e (i := 19) da_X2_fillSum_0 rfl, rfl⟩
theorem g_X2_fillSum_41 : en_C M_X2_fillSum M_X1_add 163 1 := ⟨⟨inT3 54 rfl rfl, in_X1, cd_X1_add⟩, ⟨by decide, by decide, by decide +kernel⟩, by decide, by decide⟩
theorem q_X2_fillSum_44 : decode M_X2_fillSum.2.1 44 = .ok (.return_, 1) ∧ 44 + 1 = 45 := ⟨dcAll_e (i := 20) da_X2_fillSum_0 rfl, rfl⟩
def dl_X2_fillDifference_0 : List (Nat × Instr × Nat) := [(0, .aload_n 0, 1), (1, .getfield 107, 3), (4, .aload_n 1, 1), (5, .getfield 107, 3), (8, .invokevirtual 139, 3), (11, .aload_n 0, 1), (12, .getfield 107, 3), (15, .aload_n 2, 1), (16, .getfield 114, 3), (19, .invokevirtual 166, 3), (22, .aload_n 0, 1), (23, .getfield 114, 3), (26, .aload_n 1, 1), (27, .getfield 114, 3), (30, .invokevirtual 139, 3), (33, .aload_n 0, 1), (34, .getfield 114, 3), (37, .aload_n 2, 1), (38, .getfield 107, 3), (41, .invokevirtual 166, 3), (44, .return_, 1)]
theorem da_X2_fillDifference_0 : dcAll M_X2_fillDifference.2.1 dl_X2_fillDifference_0 = true := by decide +kernel
theorem q_X2_fillDifference_0 : decode M_X2_fillDifference.2.1 0 = .ok (.aload_n 0, 1) ∧ 0 + 1 = 1 := ⟨dcAll_e (i := 0) da_X2_fillDifference_0 rfl, rfl⟩
theorem q_X2_fillDifference_1 : decode M_X2_fillDifference.2.1 1 = .ok (.getfield 107, 3) ∧ 1 + 3 = 4 := ⟨dcAll_e (i := 1) da_X2_fillDifference_0 rfl, rfl⟩
theorem q_X2_fillDifference_4 : decode M_X2_fillDifference.2.1 4 = .ok (.aload_n 1, 1) ∧ 4 + 1 = 5 := ⟨dcAll_e (i := 2) da_X2_fillDifference_0 rfl, rfl⟩
theorem q_X2_fillDifference_5 : decode M_X2_fillDifference.2.1 5 = .ok (.getfield 107, 3) ∧ 5 + 3 = 8 := ⟨dcAll_e (i := 3) da_X2_fillDifference_0 rfl, rfl⟩
theorem q_X2_fillDifference_8 : decode M_X2_fillDifference.2.1 8 = .ok (.invokevirtual 139, 3) ∧ 8 + 3 = 11 := ⟨dcAll_e (i := 4) da_X2_fillDifference_0 rfl, rfl⟩
theorem g_X2_fillDifference_8 : en_C M_X2_fillDifference M_X1_copy 139 1 := ⟨⟨inT2 148 rfl rfl, in_X1, cd_X1_copy⟩, ⟨by decide, by decide, by decide +kernel⟩, by decide, by decide⟩
theorem q_X2_fillDifference_11 : decode M_X2_fillDifference.2.1 11 = .ok (.aload_n 0, 1) ∧ 11 + 1 = 12 := ⟨dcAll_e (i := 5) da_X2_fillDifference_0 rfl, rfl⟩
theorem q_X2_fillDifference_12 : decode M_X2_fillDifference.2.1 12 = .ok (.getfield 107, 3) ∧ 12 + 3 = 15 := ⟨dcAll_e (i := 6) da_X2_fillDifference_0 rfl, rfl⟩
theorem q_X2_fillDifference_15 : decode M_X2_fillDifference.2.1 15 = .ok (.aload_n 2, 1) ∧ 15 + 1 = 16 := ⟨dcAll_e (i := 7) da_X2_fillDifference_0 rfl, rfl⟩
theorem q_X2_fillDifference_16 : decode M_X2_fillDifference.2.1 16 = .ok (.getfield 114, 3) ∧ 16 + 3 = 19 := ⟨dcAll_e (i := 8) da_X2_fillDifference_0 rfl, rfl⟩
theorem q_X2_fillDifference_19 : decode M_X2_fillDifference.2.1 19 = .ok (.invokevirtual 166, 3) ∧ 19 + 3 = 22 := ⟨dcAll_e (i := 9) da_X2_fillDifference_0 rfl, rfl⟩
theorem g_X2_fillDifference_19 : en_C M_X2_fillDifference M_X1_subtract 166 1 := ⟨⟨inT3 58 rfl rfl, in_X1, cd_X1_subtract⟩, ⟨by decide, by decide, by decide +kernel⟩, by decide, by decide⟩
theorem q_X2_fillDifference_22 : decode M_X2_fillDifference.2.1 22 = .ok (.aload_n 0, 1) ∧ 22 + 1 = 23 := ⟨dcAll_e (i := 10) da_X2_fillDifference_0 rfl, rfl⟩
theorem q_X2_fillDifference_23 : decode M_X2_fillDifference.2.1 23 = .ok (.getfield 114, 3) ∧ 23 + 3 = 26 := ⟨dcAll_e (i := 11) da_X2_fillDifference_0 rfl, rfl⟩
theorem q_X2_fillDifference_26 : decode M_X2_fillDifference.2.1 26 = .ok (.aload_n 1, 1) ∧ 26 + 1 = 27 := ⟨dcAll_e (i := 12) da_X2_fillDifference_0 rfl, rfl⟩
theorem q_X2_fillDifference_27 : decode M_X2_fillDifference.2.1 27 = .ok (.getfield 114, 3) ∧ 27 + 3 = 30 := ⟨dcAll_e (i := 13) da_X2_fillDifference_0 rfl, rfl⟩
theorem q_X2_fillDifference_30 : decode M_X2_fillDifference.2.1 30 = .ok (.invokevirtual 139, 3) ∧ 30 + 3 = 33 := ⟨dcAll_e (i := 14) da_X2_fillDifference_0 rfl, rfl⟩
theorem g_X2_fillDifference_30 : en_C M_X2_fillDifference M_X1_copy 139 1 := ⟨⟨inT2 148 rfl rfl, in_X1, cd_X1_copy⟩, ⟨by decide, by decide, by decide +kernel⟩, by decide, by decide⟩
theorem q_X2_fillDifference_33 : decode M_X2_fillDifference.2.1 33 = .ok (.aload_n 0, 1) ∧ 33 + 1 = 34 := ⟨dcAll_e (i := 15) da_X2_fillDifference_0 rfl, rfl⟩
theorem q_X2_fillDifference_34 : decode M_X2_fillDifference.2.1 34 = .ok (.getfield 114, 3) ∧ 34 + 3 = 37 := ⟨dcAll_e (i := 16) da_X2_fillDifference_0 rfl, rfl⟩
theorem q_X2_fillDifference_37 : decode M_X2_fillDifference.2.1 37 = .ok (.aload_n 2, 1) ∧ 37 + 1 = 38 := ⟨dcAll_e (i := 17) da_X2_fillDifference_0 rfl, rfl⟩
theorem q_X2_fillDifference_38 : decode M_X2_fillDifference.2.1 38 = .ok (.getfield 107, 3) ∧ 38 + 3 = 41 := ⟨dcAll_e (i := 18) da_X2_fillDifference_0 rfl, rfl⟩
theorem q_X2_fillDifference_41 : decode M_X2_fillDifference.2.1 41 = .ok (.invokevirtual 166, 3) ∧ 41 + 3 = 44 := ⟨dcAll_e (i := 19) da_X2_fillDifference_0 rfl, rfl⟩
theorem g_X2_fillDifference_41 : en_C M_X2_fillDifference M_X1_subtract 166 1 := ⟨⟨inT3 58 rfl rfl, in_X1, cd_X1_subtract⟩, ⟨by decide, by decide, by decide +kernel⟩, by decide, by decide⟩
theorem q_X2_fillDifference_44 : decode M_X2_fillDifference.2.1 44 = .ok (.return_, 1) ∧ 44 + 1 = 45 := ⟨dcAll_e (i := 20) da_X2_fillDifference_0 rfl, rfl⟩
def dl_X2_fillRoot_0 : List (Nat × Instr × Nat) := [(0, .aload_n 2, 1), (1, .getfield 114, 3), (4, .getfield 169, 3), (7, .ifCond .ge 9, 3), (10, .aload_n 1, 1), (11, .iconst 1, 1), (12, .putfield 75, 3), (15, .return_, 1), (16, .aload_n 0, 1), (17, .getfield 35, 3), (20, .aload_n 2, 1), (21, .getfield 107, 3), (24, .invokevirtual 139, 3), (27, .aload_n 0, 1), (28, .getfield 35, 3), (31, .iload_n 3, 1), (32, .invokevirtual 135, 3), (35, .aload_n 0, 1), (36, .getfield 12, 3), (39, .aload_n 0, 1), (40, .getfield 35, 3), (43, .aload_n 1, 1), (44, .getfield 107, 3), (47, .invokevirtual 172, 3), (50, .istore 4, 2), (52, .aload_n 1, 1), (53, .getfield 114, 3), (56, .aload_n 1, 1), (57, .getfield 107, 3), (60, .invokevirtual 139, 3), (63, .aload_n 2, 1), (64, .invokestatic 176, 3), (67, .ifCond .ne 39, 3), (70, .aload_n 0, 1), (71, .getfield 35, 3), (74, .aload_n 2, 1), (75, .getfield 114, 3), (78, .invokevirtual 139, 3), (81, .aload_n 0, 1), (82, .getfield 35, 3)]
theorem da_X2_fillRoot_0 : dcAll M_X2_fillRoot.2.1 dl_X2_fillRoot_0 = true := by decide +kernel
def dl_X2_fillRoot_1 : List (Nat × Instr × Nat) := [(85, .iload_n 3, 1), (86, .invokevirtual 135, 3), (89, .aload_n 0, 1), (90, .getfield 12, 3), (93, .aload_n 0, 1), (94, .getfield 35, 3), (97, .aload_n 1, 1), (98, .getfield 114, 3), (101, .invokevirtual 172, 3), (104, .istore 4, 2), (106, .iload 4, 2), (108, .ifCond .eq 11, 3), (111, .aload_n 1, 1), (112, .getfield 114, 3), (115, .iconst 1, 1), (116, .invokevirtual 160, 3), (119, .return_, 1)]
theorem da_X2_fillRoot_1 : dcAll M_X2_fillRoot.2.1 dl_X2_fillRoot_1 = true := by decide +kernel
theorem q_X2_fillRoot_0 : decode M_X2_fillRoot.2.1 0 = .ok (.aload_n 2, 1) ∧ 0 + 1 = 1 := ⟨dcAll_e (i := 0) da_X2_fillRoot_0 rfl, rfl⟩
theorem q_X2_fillRoot_1 : decode M_X2_fillRoot.2.1 1 = .ok (.getfield 114, 3) ∧ 1 + 3 = 4 := ⟨dcAll_e (i := 1) da_X2_fillRoot_0 rfl, rfl⟩
theorem q_X2_fillRoot_4 : decode M_X2_fillRoot.2.1 4 = .ok (.getfield 169, 3) ∧ 4 + 3 = 7 := ⟨dcAll_e (i := 2) da_X2_fillRoot_0 rfl, rfl⟩
theorem f_RX2_169 : en_F RX2 169 1 0 := ⟨RX1, TX1, 3, rfl, by decide, rfl, inT1 45 rfl rfl, uw_X1⟩
theorem q_X2_fillRoot_7 : decode M_X2_fillRoot.2.1 7 = .ok (.ifCond .ge 9, 3) ∧ 7 + 3 = 10 ∧ ((7 : Nat) : Int) + 9 = ((16 : Nat) : Int) := ⟨dcAll_e (i := 3) da_X2_fillRoot_0 rfl, rfl, rfl⟩
theorem q_X2_fillRoot_10 : decode M_X2_fillRoot.2.1 10 = .ok (.aload_n 1, 1) ∧ 10 + 1 = 11 := ⟨dcAll_e (i := 4) da_X2_fillRoot_0 rfl, rfl⟩
theorem q_X2_fillRoot_11 : decode M_X2_fillRoot.2.1 11 = .ok (.iconst 1, 1) ∧ 11 + 1 = 12 := ⟨dcAll_e (i := 5) da_X2_fillRoot_0 rfl, rfl⟩
theorem q_X2_fillRoot_12 : decode M_X2_fillRoot.2.1 12 = .ok (.putfield 75, 3) ∧ 12 + 3 = 15 := ⟨dcAll_e (i := 6) da_X2_fillRoot_0 rfl, rfl⟩
theorem q_X2_fillRoot_15 : decode M_X2_fillRoot.2.1 15 = .ok (.return_, 1) ∧ 15 + 1 = 16 := ⟨dcAll_e (i := 7) da_X2_fillRoot_0 rfl, rfl⟩
theorem q_X2_fillRoot_16 : decode M_X2_fillRoot.2.1 16 = .ok (.aload_n 0, 1) ∧ 16 + 1 = 17 := ⟨dcAll_e (i := 8) da_X2_fillRoot_0 rfl, rfl⟩
theorem q_X2_fillRoot_17 : decode M_X2_fillRoot.2.1 17 = .ok (.getfield 35, 3) ∧ 17 + 3 = 20 := ⟨dcAll_e (i := 9) da_X2_fillRoot_0 rfl, rfl⟩
theorem q_X2_fillRoot_20 : decode M_X2_fillRoot.2.1 20 = .ok (.aload_n 2, 1) ∧ 20 + 1 = 21 := ⟨dcAll_e (i := 10) da_X2_fillRoot_0 rfl, rfl⟩
theorem q_X2_fillRoot_21 : decode M_X2_fillRoot.2.1 21 = .ok (.getfield 107, 3) ∧ 21 + 3 = 24 := ⟨dcAll_e (i := 11) da_X2_fillRoot_0 rfl, rfl⟩
theorem q_X2_fillRoot_24 : decode M_X2_fillRoot.2.1 24 = .ok (.invokevirtual 139, 3) ∧ 24 + 3 = 27 := ⟨dcAll_e (i := 12) da_X2_fillRoot_0 rfl, rfl⟩
theorem g_X2_fillRoot_24 : en_C M_X2_fillRoot M_X1_copy 139 1 := ⟨⟨inT2 148 rfl rfl, in_X1, cd_X1_copy⟩, ⟨by decide, by decide, by decide +kernel⟩, by decide, by decide⟩
theorem q_X2_fillRoot_27 : decode M_X2_fillRoot.2.1 27 = .ok (.aload_n 0, 1) ∧ 27 + 1 = 28 := ⟨dcAll_e (i := 13) da_X2_fillRoot_0 rfl, rfl⟩
theorem q_X2_fillRoot_28 : decode M_X2_fillRoot.2.1 28 = .ok (.getfield 35, 3) ∧ 28 + 3 = 31 := ⟨dcAll_e (i := 14) da_X2_fillRoot_0 rfl, rfl⟩
theorem q_X2_fillRoot_31 : decode M_X2_fillRoot.2.1 31 = .ok (.iload_n 3, 1) ∧ 31 + 1 = 32 := ⟨dcAll_e (i := 15) da_X2_fillRoot_0 rfl, rfl⟩
theorem q_X2_fillRoot_32 : decode M_X2_fillRoot.2.1 32 = .ok (.invokevirtual 135, 3) ∧ 32 + 3 = 35 := ⟨dcAll_e (i := 16) da_X2_fillRoot_0 rfl, rfl⟩
theorem g_X2_fillRoot_32 : en_C M_X2_fillRoot M_X1_shiftUp 135 1 := ⟨⟨inT2 127 rfl rfl, in_X1, cd_X1_shiftUp⟩, ⟨by decide, by decide, by decide +kernel⟩, by decide, by decide⟩
theorem q_X2_fillRoot_35 : decode M_X2_fillRoot.2.1 35 = .ok (.aload_n 0, 1) ∧ 35 + 1 = 36 := ⟨dcAll_e (i := 17) da_X2_fillRoot_0 rfl, rfl⟩
theorem q_X2_fillRoot_36 : decode M_X2_fillRoot.2.1 36 = .ok (.getfield 12, 3) ∧ 36 + 3 = 39 := ⟨dcAll_e (i := 18) da_X2_fillRoot_0 rfl, rfl⟩
theorem f_RX2_12 : en_F RX2 12 2 0 := ⟨RX2, TX2, 7, rfl, by decide, rfl, inT1 100 rfl rfl, uw_X2⟩
theorem q_X2_fillRoot_39 : decode M_X2_fillRoot.2.1 39 = .ok (.aload_n 0, 1) ∧ 39 + 1 = 40 := ⟨dcAll_e (i := 19) da_X2_fillRoot_0 rfl, rfl⟩
theorem q_X2_fillRoot_40 : decode M_X2_fillRoot.2.1 40 = .ok (.getfield 35, 3) ∧ 40 + 3 = 43 := ⟨dcAll_e (i := 20) da_X2_fillRoot_0 rfl, rfl⟩
theorem q_X2_fillRoot_43 : decode M_X2_fillRoot.2.1 43 = .ok (.aload_n 1, 1) ∧ 43 + 1 = 44 := ⟨dcAll_e (i := 21) da_X2_fillRoot_0 rfl, rfl⟩
theorem q_X2_fillRoot_44 : decode M_X2_fillRoot.2.1 44 = .ok (.getfield 107, 3) ∧ 44 + 3 = 47 := ⟨dcAll_e (i := 22) da_X2_fillRoot_0 rfl, rfl⟩
theorem q_X2_fillRoot_47 : decode M_X2_fillRoot.2.1 47 = .ok (.invokevirtual 172, 3) ∧ 47 + 3 = 50 := ⟨dcAll_e (i := 23) da_X2_fillRoot_0 rfl, rfl⟩
theorem cd_X0_squareRoot : Cond.code M_X0_squareRoot.1 M_X0_squareRoot.2.1 M_X0_squareRoot.2.2.1 M_X0_squareRoot.2.2.2.1 ∈ en_tbl := inT3 31 rfl rfl
theorem g_X2_fillRoot_47 : en_C M_X2_fillRoot M_X0_squareRoot 172 2 := ⟨⟨inT3 28 rfl rfl, in_X0, cd_X0_squareRoot⟩, ⟨by decide, by decide, by decide +kernel⟩, by decide, by decide⟩
theorem w_X0_squareRoot : Cond.instanceMethod M_X0_squareRoot.1 ∈ en_tbl ∧ Cond.selects M_X0_squareRoot.1.cls M_X0_squareRoot.1 M_X0_squareRoot.1 ∈ en_tbl := ⟨inT3 29 rfl rfl, inT3 30 rfl rfl⟩
theorem q_X2_fillRoot_50 : decode M_X2_fillRoot.2.1 50 = .ok (.istore 4, 2) ∧ 50 + 2 = 52 := ⟨dcAll_e (i := 24) da_X2_fillRoot_0 rfl, rfl⟩
theorem q_X2_fillRoot_52 : decode M_X2_fillRoot.2.1 52 = .ok (.aload_n 1, 1) ∧ 52 + 1 = 53 := ⟨dcAll_e (i := 25) da_X2_fillRoot_0 rfl, rfl⟩
theorem q_X2_fillRoot_53 : decode M_X2_fillRoot.2.1 53 = .ok (.getfield 114, 3) ∧ 53 + 3 = 56 := ⟨dcAll_e (i := 26) da_X2_fillRoot_0 rfl, rfl⟩
theorem q_X2_fillRoot_56 : decode M_X2_fillRoot.2.1 56 = .ok (.aload_n 1, 1) ∧ 56 + 1 = 57 := ⟨dcAll_e (i := 27) da_X2_fillRoot_0 rfl, rfl⟩
theorem q_X2_fillRoot_57 : decode M_X2_fillRoot.2.1 57 = .ok (.getfield 107, 3) ∧ 57 + 3 = 60 := ⟨dcAll_e (i := 28) da_X2_fillRoot_0 rfl, rfl⟩
theorem q_X2_fillRoot_60 : decode M_X2_fillRoot.2.1 60 = .ok (.invokevirtual 139, 3) ∧ 60 + 3 = 63 := ⟨dcAll_e (i := 29) da_X2_fillRoot_0 rfl, rfl⟩
theorem g_X2_fillRoot_60 : en_C M_X2_fillRoot M_X1_copy 139 1 := ⟨⟨inT2 148 rfl rfl, in_X1, cd_X1_copy⟩, ⟨by decide, by decide, by decide +kernel⟩, by decide, by decide⟩
theorem q_X2_fillRoot_63 : decode M_X2_fillRoot.2.1 63 = .ok (.aload_n 2, 1) ∧ 63 + 1 = 64 := ⟨dcAll_e (i := 30) da_X2_fillRoot_0 rfl, rfl⟩
theorem q_X2_fillRoot_64 : decode M_X2_fillRoot.2.1 64 = .ok (.invokestatic 176, 3) ∧ 64 + 3 = 67 := ⟨dcAll_e (i := 31) da_X2_fillRoot_0 rfl, rfl⟩
theorem cd_X2_isExact : Cond.code M_X2_isExact.1 M_X2_isExact.2.1 M_X2_isExact.2.2.1 M_X2_isExact.2.2.2.1 ∈ en_tbl := inT3 49 rfl rfl
theorem g_X2_fillRoot_64 : en_C M_X2_fillRoot M_X2_isExact 176 1 := ⟨⟨inT3 47 rfl rfl, in_X2, cd_X2_isExact⟩, ⟨by decide, by decide, by decide +kernel⟩, by decide, by decide⟩
theorem w_X2_isExact : Cond.static M_X2_isExact.1 ∈ en_tbl := inT3 48 rfl rfl
theorem q_X2_fillRoot_67 : decode M_X2_fillRoot.2.1 67 = .ok (.ifCond .ne 39, 3) ∧ 67 + 3 = 70 ∧ ((67 : Nat) : Int) + 39 = ((106 : Nat) : Int) := ⟨dcAll_e (i := 32) da_X2_fillRoot_0 rfl, rfl, rfl⟩
theorem q_X2_fillRoot_70 : decode M_X2_fillRoot.2.1 70 = .ok (.aload_n 0, 1) ∧ 70 + 1 = 71 := ⟨dcAll_e (i := 33) da_X2_fillRoot_0 rfl, rfl⟩
theorem q_X2_fillRoot_71 : decode M_X2_fillRoot.2.1 71 = .ok (.getfield 35, 3) ∧ 71 + 3 = 74 := ⟨dcAll_e (i := 34) da_X2_fillRoot_0 rfl, rfl⟩
theorem q_X2_fillRoot_74 : decode M_X2_fillRoot.2.1 74 = .ok (.aload_n 2, 1) ∧ 74 + 1 = 75 := ⟨dcAll_e (i := 35) da_X2_fillRoot_0 rfl, rfl⟩
theorem q_X2_fillRoot_75 : decode M_X2_fillRoot.2.1 75 = .ok (.getfield 114, 3) ∧ 75 + 3 = 78 := ⟨dcAll_e (i := 36) da_X2_fillRoot_0 rfl, rfl⟩
theorem q_X2_fillRoot_78 : decode M_X2_fillRoot.2.1 78 = .ok (.invokevirtual 139, 3) ∧ 78 + 3 = 81 := ⟨dcAll_e (i := 37) da_X2_fillRoot_0 rfl, rfl⟩
theorem g_X2_fillRoot_78 : en_C M_X2_fillRoot M_X1_copy 139 1 := ⟨⟨inT2 148 rfl rfl, in_X1, cd_X1_copy⟩, ⟨by decide, by decide, by decide +kernel⟩, by decide, by decide⟩
theorem q_X2_fillRoot_81 : decode M_X2_fillRoot.2.1 81 = .ok (.aload_n 0, 1) ∧ 81 + 1 = 82 := ⟨dcAll_e (i := 38) da_X2_fillRoot_0 rfl, rfl⟩
theorem q_X2_fillRoot_82 : decode M_X2_fillRoot.2.1 82 = .ok (.getfield 35, 3) ∧ 82 + 3 = 85 := ⟨dcAll_e (i := 39) da_X2_fillRoot_0 rfl, rfl⟩
theorem q_X2_fillRoot_85 : decode M_X2_fillRoot.2.1 85 = .ok (.iload_n 3, 1) ∧ 85 + 1 = 86 := ⟨dcAll_e (i := 0) da_X2_fillRoot_1 rfl, rfl⟩
theorem q_X2_fillRoot_86 : decode M_X2_fillRoot.2.1 86 = .ok (.invokevirtual 135, 3) ∧ 86 + 3 = 89 := ⟨dcAll_e (i := 1) da_X2_fillRoot_1 rfl, rfl⟩
theorem g_X2_fillRoot_86 : en_C M_X2_fillRoot M_X1_shiftUp 135 1 := ⟨⟨inT2 127 rfl rfl, in_X1, cd_X1_shiftUp⟩, ⟨by decide, by decide, by decide +kernel⟩, by decide, by decide⟩
theorem q_X2_fillRoot_89 : decode M_X2_fillRoot.2.1 89 = .ok (.aload_n 0, 1) ∧ 89 + 1 = 90 := ⟨dcAll_e (i := 2) da_X2_fillRoot_1 rfl, rfl⟩
theorem q_X2_fillRoot_90 : decode M_X2_fillRoot.2.1 90 = .ok (.getfield 12, 3) ∧ 90 + 3 = 93 := ⟨dcAll_e (i := 3) da_X2_fillRoot_1 rfl, rfl⟩
theorem q_X2_fillRoot_93 : decode M_X2_fillRoot.2.1 93 = .ok (.aload_n 0, 1) ∧ 93 + 1 = 94 := ⟨dcAll_e (i := 4) da_X2_fillRoot_1 rfl, rfl⟩
theorem q_X2_fillRoot_94 : decode M_X2_fillRoot.2.1 94 = .ok (.getfield 35, 3) ∧ 94 + 3 = 97 := ⟨dcAll_e (i := 5) da_X2_fillRoot_1 rfl, rfl⟩
theorem q_X2_fillRoot_97 : decode M_X2_fillRoot.2.1 97 = .ok (.aload_n 1, 1) ∧ 97 + 1 = 98 := ⟨dcAll_e (i := 6) da_X2_fillRoot_1 rfl, rfl⟩
theorem q_X2_fillRoot_98 : decode M_X2_fillRoot.2.1 98 = .ok (.getfield 114, 3) ∧ 98 + 3 = 101 := ⟨dcAll_e (i := 7) da_X2_fillRoot_1 rfl, rfl⟩
theorem q_X2_fillRoot_101 : decode M_X2_fillRoot.2.1 101 = .ok (.invokevirtual 172, 3) ∧ 101 + 3 = 104 := ⟨dcAll_e (i := 8) da_X2_fillRoot_1 rfl, rfl⟩
theorem g_X2_fillRoot_101 : en_C M_X2_fillRoot M_X0_squareRoot 172 2 := ⟨⟨inT3 28 rfl rfl, in_X0, cd_X0_squareRoot⟩, ⟨by decide, by decide, by decide +kernel⟩, by decide, by decide⟩
theorem q_X2_fillRoot_104 : decode M_X2_fillRoot.2.1 104 = .ok (.istore 4, 2) ∧ 104 + 2 = 106 := ⟨dcAll_e (i := 9) da_X2_fillRoot_1 rfl, rfl⟩
theorem q_X2_fillRoot_106 : decode M_X2_fillRoot.2.1 106 = .ok (.iload 4, 2) ∧ 106 + 2 = 108 := ⟨dcAll_e (i := 10) da_X2_fillRoot_1 rfl, rfl⟩
theorem q_X2_fillRoot_108 : decode M_X2_fillRoot.2.1 108 = .ok (.ifCond .eq 11, 3) ∧ 108 + 3 = 111 ∧ ((108 : Nat) : Int) + 11 = ((119 : Nat) : Int) := ⟨dcAll_e (i := 11) da_X2_fillRoot_1 rfl, rfl, rfl⟩
theorem q_X2_fillRoot_111 : decode M_X2_fillRoot.2.1 111 = .ok (.aload_n 1, 1) ∧ 111 + 1 = 112 := ⟨dcAll_e (i := 12) da_X2_fillRoot_1 rfl, rfl⟩
theorem q_X2_fillRoot_112 : decode M_X2_fillRoot.2.1 112 = .ok (.getfield 114, 3) ∧ 112 + 3 = 115 := ⟨dcAll_e (i := 13) da_X2_fillRoot_1 rfl, rfl⟩
theorem q_X2_fillRoot_115 : decode M_X2_fillRoot.2.1 115 = .ok (.iconst 1, 1) ∧ 115 + 1 = 116 := ⟨dcAll_e (i := 14) da_X2_fillRoot_1 rfl, rfl⟩
theorem q_X2_fillRoot_116 : decode M_X2_fillRoot.2.1 116 = .ok (.invokevirtual 160, 3) ∧ 116 + 3 = 119 := ⟨dcAll_e (i := 15) da_X2_fillRoot_1 rfl, rfl⟩
theorem g_X2_fillRoot_116 : en_C M_X2_fillRoot M_X1_grow 160 1 := ⟨⟨inT2 195 rfl rfl, in_X1, cd_X1_grow⟩, ⟨by decide, by decide, by decide +kernel⟩, by decide, by decide⟩
theorem q_X2_fillRoot_119 : decode M_X2_fillRoot.2.1 119 = .ok (.return_, 1) ∧ 119 + 1 = 120 := ⟨dcAll_e (i := 16) da_X2_fillRoot_1 rfl, rfl⟩
def dl_X2_fillCorners_0 : List (Nat × Instr × Nat) := [(0, .aload_n 1, 1), (1, .getfield 68, 3), (4, .bipush 8, 2), (6, .if_icmp .eq 7, 3), (9, .iconst 1, 1), (10, .goto 4, 3), (13, .iconst 0, 1), (14, .istore 5, 2), (16, .iload 5, 2), (18, .ifCond .eq 29, 3), (21, .aload_n 3, 1), (22, .getfield 107, 3), (25, .getfield 169, 3), (28, .ifCond .gt 19, 3), (31, .aload_n 3, 1), (32, .getfield 114, 3), (35, .getfield 169, 3), (38, .ifCond .lt 9, 3), (41, .aload_n 1, 1), (42, .iconst 1, 1), (43, .putfield 75, 3), (46, .return_, 1), (47, .aload_n 2, 1), (48, .invokestatic 176, 3), (51, .ifCond .eq 7, 3), (54, .iconst 1, 1), (55, .goto 4, 3), (58, .iconst 2, 1), (59, .istore 6, 2), (61, .aload_n 3, 1), (62, .invokestatic 176, 3), (65, .ifCond .eq 7, 3), (68, .iconst 1, 1), (69, .goto 4, 3), (72, .iconst 2, 1), (73, .istore 7, 2), (75, .iconst 0, 1), (76, .istore 8, 2), (78, .iload 8, 2), (80, .iload 6, 2)]
theorem da_X2_fillCorners_0 : dcAll M_X2_fillCorners.2.1 dl_X2_fillCorners_0 = true := by decide +kernel
def dl_X2_fillCorners_1 : List (Nat × Instr × Nat) := [(82, .if_icmp .ge 173, 3), (85, .iconst 0, 1), (86, .istore 9, 2), (88, .iload 9, 2), (90, .iload 7, 2), (92, .if_icmp .ge 157, 3), (95, .iload 8, 2), (97, .ifCond .ne 10, 3), (100, .aload_n 2, 1), (101, .getfield 107, 3), (104, .goto 7, 3), (107, .aload_n 2, 1), (108, .getfield 114, 3), (111, .astore 10, 2), (113, .iload 9, 2), (115, .ifCond .ne 10, 3), (118, .aload_n 3, 1), (119, .getfield 107, 3), (122, .goto 7, 3), (125, .aload_n 3, 1), (126, .getfield 114, 3), (129, .astore 11, 2), (131, .iload 5, 2), (133, .ifCond .eq 34, 3), (136, .aload_n 0, 1), (137, .getfield 35, 3), (140, .aload 10, 2), (142, .invokevirtual 139, 3), (145, .aload_n 0, 1), (146, .getfield 35, 3), (149, .iload 4, 2), (151, .invokevirtual 135, 3), (154, .aload_n 0, 1), (155, .aload_n 0, 1), (156, .getfield 35, 3), (159, .aload 11, 2), (161, .invokevirtual 146, 3), (164, .goto 13, 3), (167, .aload_n 0, 1), (168, .aload 10, 2)]
theorem da_X2_fillCorners_1 : dcAll M_X2_fillCorners.2.1 dl_X2_fillCorners_1 = true := by decide +kernel
def dl_X2_fillCorners_2 : List (Nat × Instr × Nat) := [(170, .aload 11, 2), (172, .iload 4, 2), (174, .invokevirtual 179, 3), (177, .iload 8, 2), (179, .iload 9, 2), (181, .iadd, 1), (182, .ifCond .eq 17, 3), (185, .aload_n 0, 1), (186, .getfield 28, 3), (189, .aload_n 1, 1), (190, .getfield 107, 3), (193, .invokevirtual 119, 3), (196, .ifCond .ge 14, 3), (199, .aload_n 1, 1), (200, .getfield 107, 3), (203, .aload_n 0, 1), (204, .getfield 28, 3), (207, .invokevirtual 139, 3), (210, .iload 8, 2), (212, .iload 9, 2), (214, .iadd, 1), (215, .ifCond .eq 17, 3), (218, .aload_n 0, 1), (219, .getfield 32, 3), (222, .aload_n 1, 1), (223, .getfield 114, 3), (226, .invokevirtual 119, 3), (229, .ifCond .le 14, 3), (232, .aload_n 1, 1), (233, .getfield 114, 3), (236, .aload_n 0, 1), (237, .getfield 32, 3), (240, .invokevirtual 139, 3), (243, .iinc 9 1, 3), (246, .goto (-158), 3), (249, .iinc 8 1, 3), (252, .goto (-174), 3), (255, .return_, 1)]
theorem da_X2_fillCorners_2 : dcAll M_X2_fillCorners.2.1 dl_X2_fillCorners_2 = true := by decide +kernel
theorem q_X2_fillCorners_0 : decode M_X2_fillCorners.2.1 0 = .ok (.aload_n 1, 1) ∧ 0 + 1 = 1 := ⟨dcAll_e (i := 0) da_X2_fillCorners_0 rfl, rfl⟩
theorem q_X2_fillCorners_1 : decode M_X2_fillCorners.2.1 1 = .ok (.getfield 68, 3) ∧ 1 + 3 = 4 := ⟨dcAll_e (i := 1) da_X2_fillCorners_0 rfl, rfl⟩
theorem q_X2_fillCorners_4 : decode M_X2_fillCorners.2.1 4 = .ok (.bipush 8, 2) ∧ 4 + 2 = 6 := ⟨dcAll_e (i := 2) da_X2_fillCorners_0 rfl, rfl⟩
theorem q_X2_fillCorners_6 : decode M_X2_fillCorners.2.1 6 = .ok (.if_icmp .eq 7, 3) ∧ 6 + 3 = 9 ∧ ((6 : Nat) : Int) + 7 = ((13 : Nat) : Int) := ⟨dcAll_e (i := 3) da_X2_fillCorners_0 rfl, rfl, rfl⟩
theorem q_X2_fillCorners_9 : decode M_X2_fillCorners.2.1 9 = .ok (.iconst 1, 1) ∧ 9 + 1 = 10 := ⟨dcAll_e (i := 4) da_X2_fillCorners_0 rfl, rfl⟩
theorem q_X2_fillCorners_10 : decode M_X2_fillCorners.2.1 10 = .ok (.goto 4, 3) ∧ 10 + 3 = 13 ∧ ((10 : Nat) : Int) + 4 = ((14 : Nat) : Int) := ⟨dcAll_e (i := 5) da_X2_fillCorners_0 rfl, rfl, rfl⟩
theorem q_X2_fillCorners_13 : decode M_X2_fillCorners.2.1 13 = .ok (.iconst 0, 1) ∧ 13 + 1 = 14 := ⟨dcAll_e (i := 6) da_X2_fillCorners_0 rfl, rfl⟩
theorem q_X2_fillCorners_14 : decode M_X2_fillCorners.2.1 14 = .ok (.istore 5, 2) ∧ 14 + 2 = 16 := ⟨dcAll_e (i := 7) da_X2_fillCorners_0 rfl, rfl⟩
theorem q_X2_fillCorners_16 : decode M_X2_fillCorners.2.1 16 = .ok (.iload 5, 2) ∧ 16 + 2 = 18 := ⟨dcAll_e (i := 8) da_X2_fillCorners_0 rfl, rfl⟩
theorem q_X2_fillCorners_18 : decode M_X2_fillCorners.2.1 18 = .ok (.ifCond .eq 29, 3) ∧ 18 + 3 = 21 ∧ ((18 : Nat) : Int) + 29 = ((47 : Nat) : Int) := ⟨dcAll_e (i := 9) da_X2_fillCorners_0 rfl, rfl, rfl⟩
theorem q_X2_fillCorners_21 : decode M_X2_fillCorners.2.1 21 = .ok (.aload_n 3, 1) ∧ 21 + 1 = 22 := ⟨dcAll_e (i := 10) da_X2_fillCorners_0 rfl, rfl⟩
theorem q_X2_fillCorners_22 : decode M_X2_fillCorners.2.1 22 = .ok (.getfield 107, 3) ∧ 22 + 3 = 25 := ⟨dcAll_e (i := 11) da_X2_fillCorners_0 rfl, rfl⟩
theorem q_X2_fillCorners_25 : decode M_X2_fillCorners.2.1 25 = .ok (.getfield 169, 3) ∧ 25 + 3 = 28 := ⟨dcAll_e (i := 12) da_X2_fillCorners_0 rfl, rfl⟩
theorem q_X2_fillCorners_28 : decode M_X2_fillCorners.2.1 28 = .ok (.ifCond .gt 19, 3) ∧ 28 + 3 = 31 ∧ ((28 : Nat) : Int) + 19 = ((47 : Nat) : Int) := ⟨dcAll_e (i := 13) da_X2_fillCorners_0 rfl, rfl, rfl⟩
theorem q_X2_fillCorners_31 : decode M_X2_fillCorners.2.1 31 = .ok (.aload_n 3, 1) ∧ 31 + 1 = 32 := ⟨dcAll_e (i := 14) da_X2_fillCorners_0 rfl, rfl⟩
theorem q_X2_fillCorners_32 : decode M_X2_fillCorners.2.1 32 = .ok (.getfield 114, 3) ∧ 32 + 3 = 35 := ⟨dcAll_e (i := 15) da_X2_fillCorners_0 rfl, rfl⟩
theorem q_X2_fillCorners_35 : decode M_X2_fillCorners.2.1 35 = .ok (.getfield 169, 3) ∧ 35 + 3 = 38 := ⟨dcAll_e (i := 16) da_X2_fillCorners_0 rfl, rfl⟩
theorem q_X2_fillCorners_38 : decode M_X2_fillCorners.2.1 38 = .ok (.ifCond .lt 9, 3) ∧ 38 + 3 = 41 ∧ ((38 : Nat) : Int) + 9 = ((47 : Nat) : Int) := ⟨dcAll_e (i := 17) da_X2_fillCorners_0 rfl, rfl, rfl⟩
theorem q_X2_fillCorners_41 : decode M_X2_fillCorners.2.1 41 = .ok (.aload_n 1, 1) ∧ 41 + 1 = 42 := ⟨dcAll_e (i := 18) da_X2_fillCorners_0 rfl, rfl⟩
theorem q_X2_fillCorners_42 : decode M_X2_fillCorners.2.1 42 = .ok (.iconst 1, 1) ∧ 42 + 1 = 43 := ⟨dcAll_e (i := 19) da_X2_fillCorners_0 rfl, rfl⟩
theorem q_X2_fillCorners_43 : decode M_X2_fillCorners.2.1 43 = .ok (.putfield 75, 3) ∧ 43 + 3 = 46 := ⟨dcAll_e (i := 20) da_X2_fillCorners_0 rfl, rfl⟩
theorem q_X2_fillCorners_46 : decode M_X2_fillCorners.2.1 46 = .ok (.return_, 1) ∧ 46 + 1 = 47 := ⟨dcAll_e (i := 21) da_X2_fillCorners_0 rfl, rfl⟩
theorem q_X2_fillCorners_47 : decode M_X2_fillCorners.2.1 47 = .ok (.aload_n 2, 1) ∧ 47 + 1 = 48 := ⟨dcAll_e (i := 22) da_X2_fillCorners_0 rfl, rfl⟩
theorem q_X2_fillCorners_48 : decode M_X2_fillCorners.2.1 48 = .ok (.invokestatic 176, 3) ∧ 48 + 3 = 51 := ⟨dcAll_e (i := 23) da_X2_fillCorners_0 rfl, rfl⟩
theorem g_X2_fillCorners_48 : en_C M_X2_fillCorners M_X2_isExact 176 1 := ⟨⟨inT3 47 rfl rfl, in_X2, cd_X2_isExact⟩, ⟨by decide, by decide, by decide +kernel⟩, by decide, by decide⟩
theorem q_X2_fillCorners_51 : decode M_X2_fillCorners.2.1 51 = .ok (.ifCond .eq 7, 3) ∧ 51 + 3 = 54 ∧ ((51 : Nat) : Int) + 7 = ((58 : Nat) : Int) := ⟨dcAll_e (i := 24) da_X2_fillCorners_0 rfl, rfl, rfl⟩
theorem q_X2_fillCorners_54 : decode M_X2_fillCorners.2.1 54 = .ok (.iconst 1, 1) ∧ 54 + 1 = 55 := ⟨dcAll_e (i := 25) da_X2_fillCorners_0 rfl, rfl⟩
theorem q_X2_fillCorners_55 : decode M_X2_fillCorners.2.1 55 = .ok (.goto 4, 3) ∧ 55 + 3 = 58 ∧ ((55 : Nat) : Int) + 4 = ((59 : Nat) : Int) := ⟨dcAll_e (i := 26) da_X2_fillCorners_0 rfl, rfl, rfl⟩
theorem q_X2_fillCorners_58 : decode M_X2_fillCorners.2.1 58 = .ok (.iconst 2, 1) ∧ 58 + 1 = 59 := ⟨dcAll_e (i := 27) da_X2_fillCorners_0 rfl, rfl⟩
theorem q_X2_fillCorners_59 : decode M_X2_fillCorners.2.1 59 = .ok (.istore 6, 2) ∧ 59 + 2 = 61 := ⟨dcAll_e (i := 28) da_X2_fillCorners_0 rfl, rfl⟩
theorem q_X2_fillCorners_61 : decode M_X2_fillCorners.2.1 61 = .ok (.aload_n 3, 1) ∧ 61 + 1 = 62 := ⟨dcAll_e (i := 29) da_X2_fillCorners_0 rfl, rfl⟩
theorem q_X2_fillCorners_62 : decode M_X2_fillCorners.2.1 62 = .ok (.invokestatic 176, 3) ∧ 62 + 3 = 65 := ⟨dcAll_e (i := 30) da_X2_fillCorners_0 rfl, rfl⟩
theorem g_X2_fillCorners_62 : en_C M_X2_fillCorners M_X2_isExact 176 1 := ⟨⟨inT3 47 rfl rfl, in_X2, cd_X2_isExact⟩, ⟨by decide, by decide, by decide +kernel⟩, by decide, by decide⟩
theorem q_X2_fillCorners_65 : decode M_X2_fillCorners.2.1 65 = .ok (.ifCond .eq 7, 3) ∧ 65 + 3 = 68 ∧ ((65 : Nat) : Int) + 7 = ((72 : Nat) : Int) := ⟨dcAll_e (i := 31) da_X2_fillCorners_0 rfl, rfl, rfl⟩
theorem q_X2_fillCorners_68 : decode M_X2_fillCorners.2.1 68 = .ok (.iconst 1, 1) ∧ 68 + 1 = 69 := ⟨dcAll_e (i := 32) da_X2_fillCorners_0 rfl, rfl⟩
theorem q_X2_fillCorners_69 : decode M_X2_fillCorners.2.1 69 = .ok (.goto 4, 3) ∧ 69 + 3 = 72 ∧ ((69 : Nat) : Int) + 4 = ((73 : Nat) : Int) := ⟨dcAll_e (i := 33) da_X2_fillCorners_0 rfl, rfl, rfl⟩
theorem q_X2_fillCorners_72 : decode M_X2_fillCorners.2.1 72 = .ok (.iconst 2, 1) ∧ 72 + 1 = 73 := ⟨dcAll_e (i := 34) da_X2_fillCorners_0 rfl, rfl⟩
theorem q_X2_fillCorners_73 : decode M_X2_fillCorners.2.1 73 = .ok (.istore 7, 2) ∧ 73 + 2 = 75 := ⟨dcAll_e (i := 35) da_X2_fillCorners_0 rfl, rfl⟩
theorem q_X2_fillCorners_75 : decode M_X2_fillCorners.2.1 75 = .ok (.iconst 0, 1) ∧ 75 + 1 = 76 := ⟨dcAll_e (i := 36) da_X2_fillCorners_0 rfl, rfl⟩
theorem q_X2_fillCorners_76 : decode M_X2_fillCorners.2.1 76 = .ok (.istore 8, 2) ∧ 76 + 2 = 78 := ⟨dcAll_e (i := 37) da_X2_fillCorners_0 rfl, rfl⟩
theorem q_X2_fillCorners_78 : decode M_X2_fillCorners.2.1 78 = .ok (.iload 8, 2) ∧ 78 + 2 = 80 := ⟨dcAll_e (i := 38) da_X2_fillCorners_0 rfl, rfl⟩
theorem q_X2_fillCorners_80 : decode M_X2_fillCorners.2.1 80 = .ok (.iload 6, 2) ∧ 80 + 2 = 82 := ⟨dcAll_e (i := 39) da_X2_fillCorners_0 rfl, rfl⟩
theorem q_X2_fillCorners_82 : decode M_X2_fillCorners.2.1 82 = .ok (.if_icmp .ge 173, 3) ∧ 82 + 3 = 85 ∧ ((82 : Nat) : Int) + 173 = ((255 : Nat) : Int) := ⟨dcAll_e (i := 0) da_X2_fillCorners_1 rfl, rfl, rfl⟩
theorem q_X2_fillCorners_85 : decode M_X2_fillCorners.2.1 85 = .ok (.iconst 0, 1) ∧ 85 + 1 = 86 := ⟨dcAll_e (i := 1) da_X2_fillCorners_1 rfl, rfl⟩
theorem q_X2_fillCorners_86 : decode M_X2_fillCorners.2.1 86 = .ok (.istore 9, 2) ∧ 86 + 2 = 88 := ⟨dcAll_e (i := 2) da_X2_fillCorners_1 rfl, rfl⟩
theorem q_X2_fillCorners_88 : decode M_X2_fillCorners.2.1 88 = .ok (.iload 9, 2) ∧ 88 + 2 = 90 := ⟨dcAll_e (i := 3) da_X2_fillCorners_1 rfl, rfl⟩
theorem q_X2_fillCorners_90 : decode M_X2_fillCorners.2.1 90 = .ok (.iload 7, 2) ∧ 90 + 2 = 92 := ⟨dcAll_e (i := 4) da_X2_fillCorners_1 rfl, rfl⟩
theorem q_X2_fillCorners_92 : decode M_X2_fillCorners.2.1 92 = .ok (.if_icmp .ge 157, 3) ∧ 92 + 3 = 95 ∧ ((92 : Nat) : Int) + 157 = ((249 : Nat) : Int) := ⟨dcAll_e (i := 5) da_X2_fillCorners_1 rfl, rfl, rfl⟩
theorem q_X2_fillCorners_95 : decode M_X2_fillCorners.2.1 95 = .ok (.iload 8, 2) ∧ 95 + 2 = 97 := ⟨dcAll_e (i := 6) da_X2_fillCorners_1 rfl, rfl⟩
theorem q_X2_fillCorners_97 : decode M_X2_fillCorners.2.1 97 = .ok (.ifCond .ne 10, 3) ∧ 97 + 3 = 100 ∧ ((97 : Nat) : Int) + 10 = ((107 : Nat) : Int) := ⟨dcAll_e (i := 7) da_X2_fillCorners_1 rfl, rfl, rfl⟩
theorem q_X2_fillCorners_100 : decode M_X2_fillCorners.2.1 100 = .ok (.aload_n 2, 1) ∧ 100 + 1 = 101 := ⟨dcAll_e (i := 8) da_X2_fillCorners_1 rfl, rfl⟩
theorem q_X2_fillCorners_101 : decode M_X2_fillCorners.2.1 101 = .ok (.getfield 107, 3) ∧ 101 + 3 = 104 := ⟨dcAll_e (i := 9) da_X2_fillCorners_1 rfl, rfl⟩
theorem q_X2_fillCorners_104 : decode M_X2_fillCorners.2.1 104 = .ok (.goto 7, 3) ∧ 104 + 3 = 107 ∧ ((104 : Nat) : Int) + 7 = ((111 : Nat) : Int) := ⟨dcAll_e (i := 10) da_X2_fillCorners_1 rfl, rfl, rfl⟩
theorem q_X2_fillCorners_107 : decode M_X2_fillCorners.2.1 107 = .ok (.aload_n 2, 1) ∧ 107 + 1 = 108 := ⟨dcAll_e (i := 11) da_X2_fillCorners_1 rfl, rfl⟩
theorem q_X2_fillCorners_108 : decode M_X2_fillCorners.2.1 108 = .ok (.getfield 114, 3) ∧ 108 + 3 = 111 := ⟨dcAll_e (i := 12) da_X2_fillCorners_1 rfl, rfl⟩
theorem q_X2_fillCorners_111 : decode M_X2_fillCorners.2.1 111 = .ok (.astore 10, 2) ∧ 111 + 2 = 113 := ⟨dcAll_e (i := 13) da_X2_fillCorners_1 rfl, rfl⟩
theorem q_X2_fillCorners_113 : decode M_X2_fillCorners.2.1 113 = .ok (.iload 9, 2) ∧ 113 + 2 = 115 := ⟨dcAll_e (i := 14) da_X2_fillCorners_1 rfl, rfl⟩
theorem q_X2_fillCorners_115 : decode M_X2_fillCorners.2.1 115 = .ok (.ifCond .ne 10, 3) ∧ 115 + 3 = 118 ∧ ((115 : Nat) : Int) + 10 = ((125 : Nat) : Int) := ⟨dcAll_e (i := 15) da_X2_fillCorners_1 rfl, rfl, rfl⟩
theorem q_X2_fillCorners_118 : decode M_X2_fillCorners.2.1 118 = .ok (.aload_n 3, 1) ∧ 118 + 1 = 119 := ⟨dcAll_e (i := 16) da_X2_fillCorners_1 rfl, rfl⟩
theorem q_X2_fillCorners_119 : decode M_X2_fillCorners.2.1 119 = .ok (.getfield 107, 3) ∧ 119 + 3 = 122 := ⟨dcAll_e (i := 17) da_X2_fillCorners_1 rfl, rfl⟩
theorem q_X2_fillCorners_122 : decode M_X2_fillCorners.2.1 122 = .ok (.goto 7, 3) ∧ 122 + 3 = 125 ∧ ((122 : Nat) : Int) + 7 = ((129 : Nat) : Int) := ⟨dcAll_e (i := 18) da_X2_fillCorners_1 rfl, rfl, rfl⟩
theorem q_X2_fillCorners_125 : decode M_X2_fillCorners.2.1 125 = .ok (.aload_n 3, 1) ∧ 125 + 1 = 126 := ⟨dcAll_e (i := 19) da_X2_fillCorners_1 rfl, rfl⟩
theorem q_X2_fillCorners_126 : decode M_X2_fillCorners.2.1 126 = .ok (.getfield 114, 3) ∧ 126 + 3 = 129 := ⟨dcAll_e (i := 20) da_X2_fillCorners_1 rfl, rfl⟩
theorem q_X2_fillCorners_129 : decode M_X2_fillCorners.2.1 129 = .ok (.astore 11, 2) ∧ 129 + 2 = 131 := ⟨dcAll_e (i := 21) da_X2_fillCorners_1 rfl, rfl⟩
theorem q_X2_fillCorners_131 : decode M_X2_fillCorners.2.1 131 = .ok (.iload 5, 2) ∧ 131 + 2 = 133 := ⟨dcAll_e (i := 22) da_X2_fillCorners_1 rfl, rfl⟩
theorem q_X2_fillCorners_133 : decode M_X2_fillCorners.2.1 133 = .ok (.ifCond .eq 34, 3) ∧ 133 + 3 = 136 ∧ ((133 : Nat) : Int) + 34 = ((167 : Nat) : Int) := ⟨dcAll_e (i := 23) da_X2_fillCorners_1 rfl, rfl, rfl⟩
theorem q_X2_fillCorners_136 : decode M_X2_fillCorners.2.1 136 = .ok (.aload_n 0, 1) ∧ 136 + 1 = 137 := ⟨dcAll_e (i := 24) da_X2_fillCorners_1 rfl, rfl⟩
theorem q_X2_fillCorners_137 : decode M_X2_fillCorners.2.1 137 = .ok (.getfield 35, 3) ∧ 137 + 3 = 140 := ⟨dcAll_e (i := 25) da_X2_fillCorners_1 rfl, rfl⟩
theorem q_X2_fillCorners_140 : decode M_X2_fillCorners.2.1 140 = .ok (.aload 10, 2) ∧ 140 + 2 = 142 := ⟨dcAll_e (i := 26) da_X2_fillCorners_1 rfl, rfl⟩
theorem q_X2_fillCorners_142 : decode M_X2_fillCorners.2.1 142 = .ok (.invokevirtual 139, 3) ∧ 142 + 3 = 145 := ⟨dcAll_e (i := 27) da_X2_fillCorners_1 rfl, rfl⟩
theorem g_X2_fillCorners_142 : en_C M_X2_fillCorners M_X1_copy 139 1 := ⟨⟨inT2 148 rfl rfl, in_X1, cd_X1_copy⟩, ⟨by decide, by decide, by decide +kernel⟩, by decide, by decide⟩
theorem q_X2_fillCorners_145 : decode M_X2_fillCorners.2.1 145 = .ok (.aload_n 0, 1) ∧ 145 + 1 = 146 := ⟨dcAll_e (i := 28) da_X2_fillCorners_1 rfl, rfl⟩
theorem q_X2_fillCorners_146 : decode M_X2_fillCorners.2.1 146 = .ok (.getfield 35, 3) ∧ 146 + 3 = 149 := ⟨dcAll_e (i := 29) da_X2_fillCorners_1 rfl, rfl⟩
theorem q_X2_fillCorners_149 : decode M_X2_fillCorners.2.1 149 = .ok (.iload 4, 2) ∧ 149 + 2 = 151 := ⟨dcAll_e (i := 30) da_X2_fillCorners_1 rfl, rfl⟩
theorem q_X2_fillCorners_151 : decode M_X2_fillCorners.2.1 151 = .ok (.invokevirtual 135, 3) ∧ 151 + 3 = 154 := ⟨dcAll_e (i := 31) da_X2_fillCorners_1 rfl, rfl⟩
theorem g_X2_fillCorners_151 : en_C M_X2_fillCorners M_X1_shiftUp 135 1 := ⟨⟨inT2 127 rfl rfl, in_X1, cd_X1_shiftUp⟩, ⟨by decide, by decide, by decide +kernel⟩, by decide, by decide⟩
theorem q_X2_fillCorners_154 : decode M_X2_fillCorners.2.1 154 = .ok (.aload_n 0, 1) ∧ 154 + 1 = 155 := ⟨dcAll_e (i := 32) da_X2_fillCorners_1 rfl, rfl⟩
theorem q_X2_fillCorners_155 : decode M_X2_fillCorners.2.1 155 = .ok (.aload_n 0, 1) ∧ 155 + 1 = 156 := ⟨dcAll_e (i := 33) da_X2_fillCorners_1 rfl, rfl⟩
theorem q_X2_fillCorners_156 : decode M_X2_fillCorners.2.1 156 = .ok (.getfield 35, 3) ∧ 156 + 3 = 159 := ⟨dcAll_e (i := 34) da_X2_fillCorners_1 rfl, rfl⟩
theorem q_X2_fillCorners_159 : decode M_X2_fillCorners.2.1 159 = .ok (.aload 11, 2) ∧ 159 + 2 = 161 := ⟨dcAll_e (i := 35) da_X2_fillCorners_1 rfl, rfl⟩
theorem q_X2_fillCorners_161 : decode M_X2_fillCorners.2.1 161 = .ok (.invokevirtual 146, 3) ∧ 161 + 3 = 164 := ⟨dcAll_e (i := 36) da_X2_fillCorners_1 rfl, rfl⟩
theorem g_X2_fillCorners_161 : en_C M_X2_fillCorners M_X2_divideBothWays 146 2 := ⟨⟨inT2 156 rfl rfl, in_X2, cd_X2_divideBothWays⟩, ⟨by decide, by decide, by decide +kernel⟩, by decide, by decide⟩
theorem q_X2_fillCorners_164 : decode M_X2_fillCorners.2.1 164 = .ok (.goto 13, 3) ∧ 164 + 3 = 167 ∧ ((164 : Nat) : Int) + 13 = ((177 : Nat) : Int) := ⟨dcAll_e (i := 37) da_X2_fillCorners_1 rfl, rfl, rfl⟩
theorem q_X2_fillCorners_167 : decode M_X2_fillCorners.2.1 167 = .ok (.aload_n 0, 1) ∧ 167 + 1 = 168 := ⟨dcAll_e (i := 38) da_X2_fillCorners_1 rfl, rfl⟩
theorem q_X2_fillCorners_168 : decode M_X2_fillCorners.2.1 168 = .ok (.aload 10, 2) ∧ 168 + 2 = 170 := ⟨dcAll_e (i := 39) da_X2_fillCorners_1 rfl, rfl⟩
theorem q_X2_fillCorners_170 : decode M_X2_fillCorners.2.1 170 = .ok (.aload 11, 2) ∧ 170 + 2 = 172 := ⟨dcAll_e (i := 0) da_X2_fillCorners_2 rfl, rfl⟩
theorem q_X2_fillCorners_172 : decode M_X2_fillCorners.2.1 172 = .ok (.iload 4, 2) ∧ 172 + 2 = 174 := ⟨dcAll_e (i := 1) da_X2_fillCorners_2 rfl, rfl⟩
theorem q_X2_fillCorners_174 : decode M_X2_fillCorners.2.1 174 = .ok (.invokevirtual 179, 3) ∧ 174 + 3 = 177 := ⟨dcAll_e (i := 2) da_X2_fillCorners_2 rfl, rfl⟩
theorem cd_X2_multiplyBothWays : Cond.code M_X2_multiplyBothWays.1 M_X2_multiplyBothWays.2.1 M_X2_multiplyBothWays.2.2.1 M_X2_multiplyBothWays.2.2.2.1 ∈ en_tbl := inT3 66 rfl rfl
theorem g_X2_fillCorners_174 : en_C M_X2_fillCorners M_X2_multiplyBothWays 179 3 := ⟨⟨inT3 63 rfl rfl, in_X2, cd_X2_multiplyBothWays⟩, ⟨by decide, by decide, by decide +kernel⟩, by decide, by decide⟩
theorem w_X2_multiplyBothWays : Cond.instanceMethod M_X2_multiplyBothWays.1 ∈ en_tbl ∧ Cond.selects M_X2_multiplyBothWays.1.cls M_X2_multiplyBothWays.1 M_X2_multiplyBothWays.1 ∈ en_tbl := ⟨inT3 65 rfl rfl, by decide +kernel⟩
theorem q_X2_fillCorners_177 : decode M_X2_fillCorners.2.1 177 = .ok (.iload 8, 2) ∧ 177 + 2 = 179 := ⟨dcAll_e (i := 3) da_X2_fillCorners_2 rfl, rfl⟩
theorem q_X2_fillCorners_179 : decode M_X2_fillCorners.2.1 179 = .ok (.iload 9, 2) ∧ 179 + 2 = 181 := ⟨dcAll_e (i := 4) da_X2_fillCorners_2 rfl, rfl⟩
theorem q_X2_fillCorners_181 : decode M_X2_fillCorners.2.1 181 = .ok (.iadd, 1) ∧ 181 + 1 = 182 := ⟨dcAll_e (i := 5) da_X2_fillCorners_2 rfl, rfl⟩
theorem q_X2_fillCorners_182 : decode M_X2_fillCorners.2.1 182 = .ok (.ifCond .eq 17, 3) ∧ 182 + 3 = 185 ∧ ((182 : Nat) : Int) + 17 = ((199 : Nat) : Int) := ⟨dcAll_e (i := 6) da_X2_fillCorners_2 rfl, rfl, rfl⟩
theorem q_X2_fillCorners_185 : decode M_X2_fillCorners.2.1 185 = .ok (.aload_n 0, 1) ∧ 185 + 1 = 186 := ⟨dcAll_e (i := 7) da_X2_fillCorners_2 rfl, rfl⟩
theorem q_X2_fillCorners_186 : decode M_X2_fillCorners.2.1 186 = .ok (.getfield 28, 3) ∧ 186 + 3 = 189 := ⟨dcAll_e (i := 8) da_X2_fillCorners_2 rfl, rfl⟩
theorem q_X2_fillCorners_189 : decode M_X2_fillCorners.2.1 189 = .ok (.aload_n 1, 1) ∧ 189 + 1 = 190 := ⟨dcAll_e (i := 9) da_X2_fillCorners_2 rfl, rfl⟩
theorem q_X2_fillCorners_190 : decode M_X2_fillCorners.2.1 190 = .ok (.getfield 107, 3) ∧ 190 + 3 = 193 := ⟨dcAll_e (i := 10) da_X2_fillCorners_2 rfl, rfl⟩
theorem q_X2_fillCorners_193 : decode M_X2_fillCorners.2.1 193 = .ok (.invokevirtual 119, 3) ∧ 193 + 3 = 196 := ⟨dcAll_e (i := 11) da_X2_fillCorners_2 rfl, rfl⟩
theorem g_X2_fillCorners_193 : en_C M_X2_fillCorners M_X1_compare 119 1 := ⟨⟨inT3 50 rfl rfl, in_X1, cd_X1_compare⟩, ⟨by decide, by decide, by decide +kernel⟩, by decide, by decide⟩
theorem q_X2_fillCorners_196 : decode M_X2_fillCorners.2.1 196 = .ok (.ifCond .ge 14, 3) ∧ 196 + 3 = 199 ∧ ((196 : Nat) : Int) + 14 = ((210 : Nat) : Int) := ⟨dcAll_e (i := 12) da_X2_fillCorners_2 rfl, rfl, rfl⟩
theorem q_X2_fillCorners_199 : decode M_X2_fillCorners.2.1 199 = .ok (.aload_n 1, 1) ∧ 199 + 1 = 200 := ⟨dcAll_e (i := 13) da_X2_fillCorners_2 rfl, rfl⟩
theorem q_X2_fillCorners_200 : decode M_X2_fillCorners.2.1 200 = .ok (.getfield 107, 3) ∧ 200 + 3 = 203 := ⟨dcAll_e (i := 14) da_X2_fillCorners_2 rfl, rfl⟩
theorem q_X2_fillCorners_203 : decode M_X2_fillCorners.2.1 203 = .ok (.aload_n 0, 1) ∧ 203 + 1 = 204 := ⟨dcAll_e (i := 15) da_X2_fillCorners_2 rfl, rfl⟩
theorem q_X2_fillCorners_204 : decode M_X2_fillCorners.2.1 204 = .ok (.getfield 28, 3) ∧ 204 + 3 = 207 := ⟨dcAll_e (i := 16) da_X2_fillCorners_2 rfl, rfl⟩
theorem q_X2_fillCorners_207 : decode M_X2_fillCorners.2.1 207 = .ok (.invokevirtual 139, 3) ∧ 207 + 3 = 210 := ⟨dcAll_e (i := 17) da_X2_fillCorners_2 rfl, rfl⟩
theorem g_X2_fillCorners_207 : en_C M_X2_fillCorners M_X1_copy 139 1 := ⟨⟨inT2 148 rfl rfl, in_X1, cd_X1_copy⟩, ⟨by decide, by decide, by decide +kernel⟩, by decide, by decide⟩
theorem q_X2_fillCorners_210 : decode M_X2_fillCorners.2.1 210 = .ok (.iload 8, 2) ∧ 210 + 2 = 212 := ⟨dcAll_e (i := 18) da_X2_fillCorners_2 rfl, rfl⟩
theorem q_X2_fillCorners_212 : decode M_X2_fillCorners.2.1 212 = .ok (.iload 9, 2) ∧ 212 + 2 = 214 := ⟨dcAll_e (i := 19) da_X2_fillCorners_2 rfl, rfl⟩
theorem q_X2_fillCorners_214 : decode M_X2_fillCorners.2.1 214 = .ok (.iadd, 1) ∧ 214 + 1 = 215 := ⟨dcAll_e (i := 20) da_X2_fillCorners_2 rfl, rfl⟩
theorem q_X2_fillCorners_215 : decode M_X2_fillCorners.2.1 215 = .ok (.ifCond .eq 17, 3) ∧ 215 + 3 = 218 ∧ ((215 : Nat) : Int) + 17 = ((232 : Nat) : Int) := ⟨dcAll_e (i := 21) da_X2_fillCorners_2 rfl, rfl, rfl⟩
theorem q_X2_fillCorners_218 : decode M_X2_fillCorners.2.1 218 = .ok (.aload_n 0, 1) ∧ 218 + 1 = 219 := ⟨dcAll_e (i := 22) da_X2_fillCorners_2 rfl, rfl⟩
theorem q_X2_fillCorners_219 : decode M_X2_fillCorners.2.1 219 = .ok (.getfield 32, 3) ∧ 219 + 3 = 222 := ⟨dcAll_e (i := 23) da_X2_fillCorners_2 rfl, rfl⟩
theorem q_X2_fillCorners_222 : decode M_X2_fillCorners.2.1 222 = .ok (.aload_n 1, 1) ∧ 222 + 1 = 223 := ⟨dcAll_e (i := 24) da_X2_fillCorners_2 rfl, rfl⟩
theorem q_X2_fillCorners_223 : decode M_X2_fillCorners.2.1 223 = .ok (.getfield 114, 3) ∧ 223 + 3 = 226 := ⟨dcAll_e (i := 25) da_X2_fillCorners_2 rfl, rfl⟩
theorem q_X2_fillCorners_226 : decode M_X2_fillCorners.2.1 226 = .ok (.invokevirtual 119, 3) ∧ 226 + 3 = 229 := ⟨dcAll_e (i := 26) da_X2_fillCorners_2 rfl, rfl⟩
theorem g_X2_fillCorners_226 : en_C M_X2_fillCorners M_X1_compare 119 1 := ⟨⟨inT3 50 rfl rfl, in_X1, cd_X1_compare⟩, ⟨by decide, by decide, by decide +kernel⟩, by decide, by decide⟩
theorem q_X2_fillCorners_229 : decode M_X2_fillCorners.2.1 229 = .ok (.ifCond .le 14, 3) ∧ 229 + 3 = 232 ∧ ((229 : Nat) : Int) + 14 = ((243 : Nat) : Int) := ⟨dcAll_e (i := 27) da_X2_fillCorners_2 rfl, rfl, rfl⟩
theorem q_X2_fillCorners_232 : decode M_X2_fillCorners.2.1 232 = .ok (.aload_n 1, 1) ∧ 232 + 1 = 233 := ⟨dcAll_e (i := 28) da_X2_fillCorners_2 rfl, rfl⟩
theorem q_X2_fillCorners_233 : decode M_X2_fillCorners.2.1 233 = .ok (.getfield 114, 3) ∧ 233 + 3 = 236 := ⟨dcAll_e (i := 29) da_X2_fillCorners_2 rfl, rfl⟩
theorem q_X2_fillCorners_236 : decode M_X2_fillCorners.2.1 236 = .ok (.aload_n 0, 1) ∧ 236 + 1 = 237 := ⟨dcAll_e (i := 30) da_X2_fillCorners_2 rfl, rfl⟩
theorem q_X2_fillCorners_237 : decode M_X2_fillCorners.2.1 237 = .ok (.getfield 32, 3) ∧ 237 + 3 = 240 := ⟨dcAll_e (i := 31) da_X2_fillCorners_2 rfl, rfl⟩
theorem q_X2_fillCorners_240 : decode M_X2_fillCorners.2.1 240 = .ok (.invokevirtual 139, 3) ∧ 240 + 3 = 243 := ⟨dcAll_e (i := 32) da_X2_fillCorners_2 rfl, rfl⟩
theorem g_X2_fillCorners_240 : en_C M_X2_fillCorners M_X1_copy 139 1 := ⟨⟨inT2 148 rfl rfl, in_X1, cd_X1_copy⟩, ⟨by decide, by decide, by decide +kernel⟩, by decide, by decide⟩
theorem q_X2_fillCorners_243 : decode M_X2_fillCorners.2.1 243 = .ok (.iinc 9 1, 3) ∧ 243 + 3 = 246 := ⟨dcAll_e (i := 33) da_X2_fillCorners_2 rfl, rfl⟩
theorem q_X2_fillCorners_246 : decode M_X2_fillCorners.2.1 246 = .ok (.goto (-158), 3) ∧ 246 + 3 = 249 ∧ ((246 : Nat) : Int) + (-158) = ((88 : Nat) : Int) := ⟨dcAll_e (i := 34) da_X2_fillCorners_2 rfl, rfl, rfl⟩
theorem q_X2_fillCorners_249 : decode M_X2_fillCorners.2.1 249 = .ok (.iinc 8 1, 3) ∧ 249 + 3 = 252 := ⟨dcAll_e (i := 35) da_X2_fillCorners_2 rfl, rfl⟩
theorem q_X2_fillCorners_252 : decode M_X2_fillCorners.2.1 252 = .ok (.goto (-174), 3) ∧ 252 + 3 = 255 ∧ ((252 : Nat) : Int) + (-174) = ((78 : Nat) : Int) := ⟨dcAll_e (i := 36) da_X2_fillCorners_2 rfl, rfl, rfl⟩
theorem q_X2_fillCorners_255 : decode M_X2_fillCorners.2.1 255 = .ok (.return_, 1) ∧ 255 + 1 = 256 := ⟨dcAll_e (i := 37) da_X2_fillCorners_2 rfl, rfl⟩
def dl_X2_multiplyBothWays_0 : List (Nat × Instr × Nat) := [(0, .aload_n 0, 1), (1, .getfield 28, 3), (4, .aload_n 1, 1), (5, .aload_n 2, 1), (6, .invokevirtual 183, 3), (9, .aload_n 0, 1), (10, .getfield 32, 3), (13, .aload_n 0, 1), (14, .getfield 28, 3), (17, .invokevirtual 139, 3), (20, .aload_n 0, 1), (21, .getfield 28, 3), (24, .iload_n 3, 1), (25, .iconst (-1), 1), (26, .invokevirtual 156, 3), (29, .aload_n 0, 1), (30, .getfield 32, 3), (33, .iload_n 3, 1), (34, .iconst 1, 1), (35, .invokevirtual 156, 3), (38, .return_, 1)]
theorem da_X2_multiplyBothWays_0 : dcAll M_X2_multiplyBothWays.2.1 dl_X2_multiplyBothWays_0 = true := by decide +kernel
theorem q_X2_multiplyBothWays_0 : decode M_X2_multiplyBothWays.2.1 0 = .ok (.aload_n 0, 1) ∧ 0 + 1 = 1 := ⟨dcAll_e (i := 0) da_X2_multiplyBothWays_0 rfl, rfl⟩
theorem q_X2_multiplyBothWays_1 : decode M_X2_multiplyBothWays.2.1 1 = .ok (.getfield 28, 3) ∧ 1 + 3 = 4 := ⟨dcAll_e (i := 1) da_X2_multiplyBothWays_0 rfl, rfl⟩
theorem q_X2_multiplyBothWays_4 : decode M_X2_multiplyBothWays.2.1 4 = .ok (.aload_n 1, 1) ∧ 4 + 1 = 5 := ⟨dcAll_e (i := 2) da_X2_multiplyBothWays_0 rfl, rfl⟩
theorem q_X2_multiplyBothWays_5 : decode M_X2_multiplyBothWays.2.1 5 = .ok (.aload_n 2, 1) ∧ 5 + 1 = 6 := ⟨dcAll_e (i := 3) da_X2_multiplyBothWays_0 rfl, rfl⟩
theorem q_X2_multiplyBothWays_6 : decode M_X2_multiplyBothWays.2.1 6 = .ok (.invokevirtual 183, 3) ∧ 6 + 3 = 9 := ⟨dcAll_e (i := 4) da_X2_multiplyBothWays_0 rfl, rfl⟩
theorem g_X2_multiplyBothWays_6 : en_C M_X2_multiplyBothWays M_X1_setProduct 183 2 := ⟨⟨inT3 67 rfl rfl, in_X1, cd_X1_setProduct⟩, ⟨by decide, by decide, by decide +kernel⟩, by decide, by decide⟩
theorem q_X2_multiplyBothWays_9 : decode M_X2_multiplyBothWays.2.1 9 = .ok (.aload_n 0, 1) ∧ 9 + 1 = 10 := ⟨dcAll_e (i := 5) da_X2_multiplyBothWays_0 rfl, rfl⟩
theorem q_X2_multiplyBothWays_10 : decode M_X2_multiplyBothWays.2.1 10 = .ok (.getfield 32, 3) ∧ 10 + 3 = 13 := ⟨dcAll_e (i := 6) da_X2_multiplyBothWays_0 rfl, rfl⟩
theorem q_X2_multiplyBothWays_13 : decode M_X2_multiplyBothWays.2.1 13 = .ok (.aload_n 0, 1) ∧ 13 + 1 = 14 := ⟨dcAll_e (i := 7) da_X2_multiplyBothWays_0 rfl, rfl⟩
theorem q_X2_multiplyBothWays_14 : decode M_X2_multiplyBothWays.2.1 14 = .ok (.getfield 28, 3) ∧ 14 + 3 = 17 := ⟨dcAll_e (i := 8) da_X2_multiplyBothWays_0 rfl, rfl⟩
theorem q_X2_multiplyBothWays_17 : decode M_X2_multiplyBothWays.2.1 17 = .ok (.invokevirtual 139, 3) ∧ 17 + 3 = 20 := ⟨dcAll_e (i := 9) da_X2_multiplyBothWays_0 rfl, rfl⟩
theorem g_X2_multiplyBothWays_17 : en_C M_X2_multiplyBothWays M_X1_copy 139 1 := ⟨⟨inT2 148 rfl rfl, in_X1, cd_X1_copy⟩, ⟨by decide, by decide, by decide +kernel⟩, by decide, by decide⟩
theorem q_X2_multiplyBothWays_20 : decode M_X2_multiplyBothWays.2.1 20 = .ok (.aload_n 0, 1) ∧ 20 + 1 = 21 := ⟨dcAll_e (i := 10) da_X2_multiplyBothWays_0 rfl, rfl⟩
theorem q_X2_multiplyBothWays_21 : decode M_X2_multiplyBothWays.2.1 21 = .ok (.getfield 28, 3) ∧ 21 + 3 = 24 := ⟨dcAll_e (i := 11) da_X2_multiplyBothWays_0 rfl, rfl⟩
theorem q_X2_multiplyBothWays_24 : decode M_X2_multiplyBothWays.2.1 24 = .ok (.iload_n 3, 1) ∧ 24 + 1 = 25 := ⟨dcAll_e (i := 12) da_X2_multiplyBothWays_0 rfl, rfl⟩
theorem q_X2_multiplyBothWays_25 : decode M_X2_multiplyBothWays.2.1 25 = .ok (.iconst (-1), 1) ∧ 25 + 1 = 26 := ⟨dcAll_e (i := 13) da_X2_multiplyBothWays_0 rfl, rfl⟩
theorem q_X2_multiplyBothWays_26 : decode M_X2_multiplyBothWays.2.1 26 = .ok (.invokevirtual 156, 3) ∧ 26 + 3 = 29 := ⟨dcAll_e (i := 14) da_X2_multiplyBothWays_0 rfl, rfl⟩
theorem g_X2_multiplyBothWays_26 : en_C M_X2_multiplyBothWays M_X1_shrink 156 2 := ⟨⟨inT3 23 rfl rfl, in_X1, cd_X1_shrink⟩, ⟨by decide, by decide, by decide +kernel⟩, by decide, by decide⟩
theorem q_X2_multiplyBothWays_29 : decode M_X2_multiplyBothWays.2.1 29 = .ok (.aload_n 0, 1) ∧ 29 + 1 = 30 := ⟨dcAll_e (i := 15) da_X2_multiplyBothWays_0 rfl, rfl⟩
theorem q_X2_multiplyBothWays_30 : decode M_X2_multiplyBothWays.2.1 30 = .ok (.getfield 32, 3) ∧ 30 + 3 = 33 := ⟨dcAll_e (i := 16) da_X2_multiplyBothWays_0 rfl, rfl⟩
theorem q_X2_multiplyBothWays_33 : decode M_X2_multiplyBothWays.2.1 33 = .ok (.iload_n 3, 1) ∧ 33 + 1 = 34 := ⟨dcAll_e (i := 17) da_X2_multiplyBothWays_0 rfl, rfl⟩
theorem q_X2_multiplyBothWays_34 : decode M_X2_multiplyBothWays.2.1 34 = .ok (.iconst 1, 1) ∧ 34 + 1 = 35 := ⟨dcAll_e (i := 18) da_X2_multiplyBothWays_0 rfl, rfl⟩
theorem q_X2_multiplyBothWays_35 : decode M_X2_multiplyBothWays.2.1 35 = .ok (.invokevirtual 156, 3) ∧ 35 + 3 = 38 := ⟨dcAll_e (i := 19) da_X2_multiplyBothWays_0 rfl, rfl⟩
theorem g_X2_multiplyBothWays_35 : en_C M_X2_multiplyBothWays M_X1_shrink 156 2 := ⟨⟨inT3 23 rfl rfl, in_X1, cd_X1_shrink⟩, ⟨by decide, by decide, by decide +kernel⟩, by decide, by decide⟩
theorem q_X2_multiplyBothWays_38 : decode M_X2_multiplyBothWays.2.1 38 = .ok (.return_, 1) ∧ 38 + 1 = 39 := ⟨dcAll_e (i := 20) da_X2_multiplyBothWays_0 rfl, rfl⟩
def dl_X2_divideBothWays_0 : List (Nat × Instr × Nat) := [(0, .aload_n 1, 1), (1, .getfield 169, 3), (4, .aload_n 2, 1), (5, .getfield 169, 3), (8, .imul, 1), (9, .istore_n 3, 1), (10, .aload_n 0, 1), (11, .getfield 12, 3), (14, .aload_n 1, 1), (15, .aload_n 2, 1), (16, .aload_n 0, 1), (17, .getfield 28, 3), (20, .aload_n 0, 1), (21, .getfield 41, 3), (24, .invokevirtual 186, 3), (27, .aload_n 0, 1), (28, .getfield 28, 3), (31, .dup, 1), (32, .getfield 169, 3), (35, .iload_n 3, 1), (36, .imul, 1), (37, .putfield 169, 3), (40, .aload_n 0, 1), (41, .getfield 32, 3), (44, .aload_n 0, 1), (45, .getfield 28, 3), (48, .invokevirtual 139, 3), (51, .aload_n 0, 1), (52, .getfield 41, 3), (55, .getfield 169, 3), (58, .ifCond .eq 26, 3), (61, .iload_n 3, 1), (62, .ifCond .ge 10, 3), (65, .aload_n 0, 1), (66, .getfield 28, 3), (69, .goto 7, 3), (72, .aload_n 0, 1), (73, .getfield 32, 3), (76, .astore 4, 2), (78, .aload 4, 2)]
theorem da_X2_divideBothWays_0 : dcAll M_X2_divideBothWays.2.1 dl_X2_divideBothWays_0 = true := by decide +kernel
def dl_X2_divideBothWays_1 : List (Nat × Instr × Nat) := [(80, .iload_n 3, 1), (81, .invokevirtual 160, 3), (84, .return_, 1)]
theorem da_X2_divideBothWays_1 : dcAll M_X2_divideBothWays.2.1 dl_X2_divideBothWays_1 = true := by decide +kernel
theorem q_X2_divideBothWays_0 : decode M_X2_divideBothWays.2.1 0 = .ok (.aload_n 1, 1) ∧ 0 + 1 = 1 := ⟨dcAll_e (i := 0) da_X2_divideBothWays_0 rfl, rfl⟩
theorem q_X2_divideBothWays_1 : decode M_X2_divideBothWays.2.1 1 = .ok (.getfield 169, 3) ∧ 1 + 3 = 4 := ⟨dcAll_e (i := 1) da_X2_divideBothWays_0 rfl, rfl⟩
theorem q_X2_divideBothWays_4 : decode M_X2_divideBothWays.2.1 4 = .ok (.aload_n 2, 1) ∧ 4 + 1 = 5 := ⟨dcAll_e (i := 2) da_X2_divideBothWays_0 rfl, rfl⟩
theorem q_X2_divideBothWays_5 : decode M_X2_divideBothWays.2.1 5 = .ok (.getfield 169, 3) ∧ 5 + 3 = 8 := ⟨dcAll_e (i := 3) da_X2_divideBothWays_0 rfl, rfl⟩
theorem q_X2_divideBothWays_8 : decode M_X2_divideBothWays.2.1 8 = .ok (.imul, 1) ∧ 8 + 1 = 9 := ⟨dcAll_e (i := 4) da_X2_divideBothWays_0 rfl, rfl⟩
theorem q_X2_divideBothWays_9 : decode M_X2_divideBothWays.2.1 9 = .ok (.istore_n 3, 1) ∧ 9 + 1 = 10 := ⟨dcAll_e (i := 5) da_X2_divideBothWays_0 rfl, rfl⟩
theorem q_X2_divideBothWays_10 : decode M_X2_divideBothWays.2.1 10 = .ok (.aload_n 0, 1) ∧ 10 + 1 = 11 := ⟨dcAll_e (i := 6) da_X2_divideBothWays_0 rfl, rfl⟩
theorem q_X2_divideBothWays_11 : decode M_X2_divideBothWays.2.1 11 = .ok (.getfield 12, 3) ∧ 11 + 3 = 14 := ⟨dcAll_e (i := 7) da_X2_divideBothWays_0 rfl, rfl⟩
theorem q_X2_divideBothWays_14 : decode M_X2_divideBothWays.2.1 14 = .ok (.aload_n 1, 1) ∧ 14 + 1 = 15 := ⟨dcAll_e (i := 8) da_X2_divideBothWays_0 rfl, rfl⟩
theorem q_X2_divideBothWays_15 : decode M_X2_divideBothWays.2.1 15 = .ok (.aload_n 2, 1) ∧ 15 + 1 = 16 := ⟨dcAll_e (i := 9) da_X2_divideBothWays_0 rfl, rfl⟩
theorem q_X2_divideBothWays_16 : decode M_X2_divideBothWays.2.1 16 = .ok (.aload_n 0, 1) ∧ 16 + 1 = 17 := ⟨dcAll_e (i := 10) da_X2_divideBothWays_0 rfl, rfl⟩
theorem q_X2_divideBothWays_17 : decode M_X2_divideBothWays.2.1 17 = .ok (.getfield 28, 3) ∧ 17 + 3 = 20 := ⟨dcAll_e (i := 11) da_X2_divideBothWays_0 rfl, rfl⟩
theorem q_X2_divideBothWays_20 : decode M_X2_divideBothWays.2.1 20 = .ok (.aload_n 0, 1) ∧ 20 + 1 = 21 := ⟨dcAll_e (i := 12) da_X2_divideBothWays_0 rfl, rfl⟩
theorem q_X2_divideBothWays_21 : decode M_X2_divideBothWays.2.1 21 = .ok (.getfield 41, 3) ∧ 21 + 3 = 24 := ⟨dcAll_e (i := 13) da_X2_divideBothWays_0 rfl, rfl⟩
theorem f_RX2_41 : en_F RX2 41 2 6 := ⟨RX2, TX2, 7, rfl, by decide, rfl, inT1 107 rfl rfl, uw_X2⟩
theorem q_X2_divideBothWays_24 : decode M_X2_divideBothWays.2.1 24 = .ok (.invokevirtual 186, 3) ∧ 24 + 3 = 27 := ⟨dcAll_e (i := 14) da_X2_divideBothWays_0 rfl, rfl⟩
theorem g_X2_divideBothWays_24 : en_C M_X2_divideBothWays M_X0_divide 186 4 := ⟨⟨inT2 160 rfl rfl, in_X0, cd_X0_divide⟩, ⟨by decide, by decide, by decide +kernel⟩, by decide, by decide⟩
theorem q_X2_divideBothWays_27 : decode M_X2_divideBothWays.2.1 27 = .ok (.aload_n 0, 1) ∧ 27 + 1 = 28 := ⟨dcAll_e (i := 15) da_X2_divideBothWays_0 rfl, rfl⟩
theorem q_X2_divideBothWays_28 : decode M_X2_divideBothWays.2.1 28 = .ok (.getfield 28, 3) ∧ 28 + 3 = 31 := ⟨dcAll_e (i := 16) da_X2_divideBothWays_0 rfl, rfl⟩
theorem q_X2_divideBothWays_31 : decode M_X2_divideBothWays.2.1 31 = .ok (.dup, 1) ∧ 31 + 1 = 32 := ⟨dcAll_e (i := 17) da_X2_divideBothWays_0 rfl, rfl⟩
theorem q_X2_divideBothWays_32 : decode M_X2_divideBothWays.2.1 32 = .ok (.getfield 169, 3) ∧ 32 + 3 = 35 := ⟨dcAll_e (i := 18) da_X2_divideBothWays_0 rfl, rfl⟩
theorem q_X2_divideBothWays_35 : decode M_X2_divideBothWays.2.1 35 = .ok (.iload_n 3, 1) ∧ 35 + 1 = 36 := ⟨dcAll_e (i := 19) da_X2_divideBothWays_0 rfl, rfl⟩
theorem q_X2_divideBothWays_36 : decode M_X2_divideBothWays.2.1 36 = .ok (.imul, 1) ∧ 36 + 1 = 37 := ⟨dcAll_e (i := 20) da_X2_divideBothWays_0 rfl, rfl⟩
theorem q_X2_divideBothWays_37 : decode M_X2_divideBothWays.2.1 37 = .ok (.putfield 169, 3) ∧ 37 + 3 = 40 := ⟨dcAll_e (i := 21) da_X2_divideBothWays_0 rfl, rfl⟩
theorem p_RX2_169 : en_Fp RX2 169 1 0 false .int := ⟨RX1, TX1, 3, tyX1, rfl, by decide, rfl, inT1 45 rfl rfl, uw_X1, tyX1_ok, nmX1, rfl, by decide +kernel⟩
theorem q_X2_divideBothWays_40 : decode M_X2_divideBothWays.2.1 40 = .ok (.aload_n 0, 1) ∧ 40 + 1 = 41 := ⟨dcAll_e (i := 22) da_X2_divideBothWays_0 rfl, rfl⟩
theorem q_X2_divideBothWays_41 : decode M_X2_divideBothWays.2.1 41 = .ok (.getfield 32, 3) ∧ 41 + 3 = 44 := ⟨dcAll_e (i := 23) da_X2_divideBothWays_0 rfl, rfl⟩
theorem q_X2_divideBothWays_44 : decode M_X2_divideBothWays.2.1 44 = .ok (.aload_n 0, 1) ∧ 44 + 1 = 45 := ⟨dcAll_e (i := 24) da_X2_divideBothWays_0 rfl, rfl⟩
theorem q_X2_divideBothWays_45 : decode M_X2_divideBothWays.2.1 45 = .ok (.getfield 28, 3) ∧ 45 + 3 = 48 := ⟨dcAll_e (i := 25) da_X2_divideBothWays_0 rfl, rfl⟩
theorem q_X2_divideBothWays_48 : decode M_X2_divideBothWays.2.1 48 = .ok (.invokevirtual 139, 3) ∧ 48 + 3 = 51 := ⟨dcAll_e (i := 26) da_X2_divideBothWays_0 rfl, rfl⟩
theorem g_X2_divideBothWays_48 : en_C M_X2_divideBothWays M_X1_copy 139 1 := ⟨⟨inT2 148 rfl rfl, in_X1, cd_X1_copy⟩, ⟨by decide, by decide, by decide +kernel⟩, by decide, by decide⟩
theorem q_X2_divideBothWays_51 : decode M_X2_divideBothWays.2.1 51 = .ok (.aload_n 0, 1) ∧ 51 + 1 = 52 := ⟨dcAll_e (i := 27) da_X2_divideBothWays_0 rfl, rfl⟩
theorem q_X2_divideBothWays_52 : decode M_X2_divideBothWays.2.1 52 = .ok (.getfield 41, 3) ∧ 52 + 3 = 55 := ⟨dcAll_e (i := 28) da_X2_divideBothWays_0 rfl, rfl⟩
theorem q_X2_divideBothWays_55 : decode M_X2_divideBothWays.2.1 55 = .ok (.getfield 169, 3) ∧ 55 + 3 = 58 := ⟨dcAll_e (i := 29) da_X2_divideBothWays_0 rfl, rfl⟩
theorem q_X2_divideBothWays_58 : decode M_X2_divideBothWays.2.1 58 = .ok (.ifCond .eq 26, 3) ∧ 58 + 3 = 61 ∧ ((58 : Nat) : Int) + 26 = ((84 : Nat) : Int) := ⟨dcAll_e (i := 30) da_X2_divideBothWays_0 rfl, rfl, rfl⟩
theorem q_X2_divideBothWays_61 : decode M_X2_divideBothWays.2.1 61 = .ok (.iload_n 3, 1) ∧ 61 + 1 = 62 := ⟨dcAll_e (i := 31) da_X2_divideBothWays_0 rfl, rfl⟩
theorem q_X2_divideBothWays_62 : decode M_X2_divideBothWays.2.1 62 = .ok (.ifCond .ge 10, 3) ∧ 62 + 3 = 65 ∧ ((62 : Nat) : Int) + 10 = ((72 : Nat) : Int) := ⟨dcAll_e (i := 32) da_X2_divideBothWays_0 rfl, rfl, rfl⟩
theorem q_X2_divideBothWays_65 : decode M_X2_divideBothWays.2.1 65 = .ok (.aload_n 0, 1) ∧ 65 + 1 = 66 := ⟨dcAll_e (i := 33) da_X2_divideBothWays_0 rfl, rfl⟩
theorem q_X2_divideBothWays_66 : decode M_X2_divideBothWays.2.1 66 = .ok (.getfield 28, 3) ∧ 66 + 3 = 69 := ⟨dcAll_e (i := 34) da_X2_divideBothWays_0 rfl, rfl⟩
theorem q_X2_divideBothWays_69 : decode M_X2_divideBothWays.2.1 69 = .ok (.goto 7, 3) ∧ 69 + 3 = 72 ∧ ((69 : Nat) : Int) + 7 = ((76 : Nat) : Int) := ⟨dcAll_e (i := 35) da_X2_divideBothWays_0 rfl, rfl, rfl⟩
theorem q_X2_divideBothWays_72 : decode M_X2_divideBothWays.2.1 72 = .ok (.aload_n 0, 1) ∧ 72 + 1 = 73 := ⟨dcAll_e (i := 36) da_X2_divideBothWays_0 rfl, rfl⟩
theorem q_X2_divideBothWays_73 : decode M_X2_divideBothWays.2.1 73 = .ok (.getfield 32, 3) ∧ 73 + 3 = 76 := ⟨dcAll_e (i := 37) da_X2_divideBothWays_0 rfl, rfl⟩
theorem q_X2_divideBothWays_76 : decode M_X2_divideBothWays.2.1 76 = .ok (.astore 4, 2) ∧ 76 + 2 = 78 := ⟨dcAll_e (i := 38) da_X2_divideBothWays_0 rfl, rfl⟩
theorem q_X2_divideBothWays_78 : decode M_X2_divideBothWays.2.1 78 = .ok (.aload 4, 2) ∧ 78 + 2 = 80 := ⟨dcAll_e (i := 39) da_X2_divideBothWays_0 rfl, rfl⟩
theorem q_X2_divideBothWays_80 : decode M_X2_divideBothWays.2.1 80 = .ok (.iload_n 3, 1) ∧ 80 + 1 = 81 := ⟨dcAll_e (i := 0) da_X2_divideBothWays_1 rfl, rfl⟩
theorem q_X2_divideBothWays_81 : decode M_X2_divideBothWays.2.1 81 = .ok (.invokevirtual 160, 3) ∧ 81 + 3 = 84 := ⟨dcAll_e (i := 1) da_X2_divideBothWays_1 rfl, rfl⟩
theorem g_X2_divideBothWays_81 : en_C M_X2_divideBothWays M_X1_grow 160 1 := ⟨⟨inT2 195 rfl rfl, in_X1, cd_X1_grow⟩, ⟨by decide, by decide, by decide +kernel⟩, by decide, by decide⟩
theorem q_X2_divideBothWays_84 : decode M_X2_divideBothWays.2.1 84 = .ok (.return_, 1) ∧ 84 + 1 = 85 := ⟨dcAll_e (i := 2) da_X2_divideBothWays_1 rfl, rfl⟩
