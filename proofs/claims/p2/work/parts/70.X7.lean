/-! instructions, fields, calls -/
def dl_X7_init_0 : List (Nat × Instr × Nat) := [(0, .aload_n 0, 1), (1, .invokespecial 1, 3), (4, .aload_n 0, 1), (5, .ldc 7, 2), (7, .newarray .int, 2), (9, .putfield 8, 3), (12, .aload_n 0, 1), (13, .sipush 140, 3), (16, .newarray .int, 2), (18, .putfield 14, 3), (21, .aload_n 0, 1), (22, .sipush 140, 3), (25, .newarray .int, 2), (27, .putfield 17, 3), (30, .aload_n 0, 1), (31, .bipush 60, 2), (33, .newarray .int, 2), (35, .putfield 20, 3), (38, .aload_n 0, 1), (39, .bipush 60, 2), (41, .newarray .long, 2), (43, .putfield 23, 3), (46, .aload_n 0, 1), (47, .bipush 60, 2), (49, .newarray .long, 2), (51, .putfield 27, 3), (54, .aload_n 0, 1), (55, .bipush 60, 2), (57, .newarray .boolean, 2), (59, .putfield 30, 3), (62, .aload_n 0, 1), (63, .bipush 60, 2), (65, .newarray .boolean, 2), (67, .putfield 34, 3), (70, .aload_n 0, 1), (71, .bipush 40, 2), (73, .newarray .long, 2), (75, .putfield 37, 3), (78, .aload_n 0, 1), (79, .bipush 40, 2)]
theorem da_X7_init_0 : dcAll M_X7_init.2.1 dl_X7_init_0 = true := by decide +kernel
def dl_X7_init_1 : List (Nat × Instr × Nat) := [(81, .newarray .long, 2), (83, .putfield 40, 3), (86, .return_, 1)]
theorem da_X7_init_1 : dcAll M_X7_init.2.1 dl_X7_init_1 = true := by decide +kernel
theorem q_X7_init_0 : decode M_X7_init.2.1 0 = .ok (.aload_n 0, 1) ∧ 0 + 1 = 1 := ⟨dcAll_e (i := 0) da_X7_init_0 rfl, rfl⟩
theorem q_X7_init_1 : decode M_X7_init.2.1 1 = .ok (.invokespecial 1, 3) ∧ 1 + 3 = 4 := ⟨dcAll_e (i := 1) da_X7_init_0 rfl, rfl⟩
theorem o_RX7_1 : Cond.methodLink RX7 1 Lib.objectInit ∈ en_tbl := by decide +kernel
theorem q_X7_init_4 : decode M_X7_init.2.1 4 = .ok (.aload_n 0, 1) ∧ 4 + 1 = 5 := ⟨dcAll_e (i := 2) da_X7_init_0 rfl, rfl⟩
theorem q_X7_init_5 : decode M_X7_init.2.1 5 = .ok (.ldc 7, 2) ∧ 5 + 2 = 7 := ⟨dcAll_e (i := 3) da_X7_init_0 rfl, rfl⟩
theorem k_RX7_7 : Cond.constant RX7 7 (nI 44800) ∈ en_tbl := by decide +kernel
theorem q_X7_init_7 : decode M_X7_init.2.1 7 = .ok (.newarray .int, 2) ∧ 7 + 2 = 9 := ⟨dcAll_e (i := 4) da_X7_init_0 rfl, rfl⟩
theorem q_X7_init_9 : decode M_X7_init.2.1 9 = .ok (.putfield 8, 3) ∧ 9 + 3 = 12 := ⟨dcAll_e (i := 5) da_X7_init_0 rfl, rfl⟩
theorem p_RX7_8 : en_Fp RX7 8 7 1 true (.array .int) := ⟨RX7, TX7, 15, tyX7, rfl, by decide, rfl, inT3 168 rfl rfl, uw_X7, tyX7_ok, nmX7, rfl, by decide +kernel⟩
theorem q_X7_init_12 : decode M_X7_init.2.1 12 = .ok (.aload_n 0, 1) ∧ 12 + 1 = 13 := ⟨dcAll_e (i := 6) da_X7_init_0 rfl, rfl⟩
theorem q_X7_init_13 : decode M_X7_init.2.1 13 = .ok (.sipush 140, 3) ∧ 13 + 3 = 16 := ⟨dcAll_e (i := 7) da_X7_init_0 rfl, rfl⟩
theorem q_X7_init_16 : decode M_X7_init.2.1 16 = .ok (.newarray .int, 2) ∧ 16 + 2 = 18 := ⟨dcAll_e (i := 8) da_X7_init_0 rfl, rfl⟩
theorem q_X7_init_18 : decode M_X7_init.2.1 18 = .ok (.putfield 14, 3) ∧ 18 + 3 = 21 := ⟨dcAll_e (i := 9) da_X7_init_0 rfl, rfl⟩
theorem p_RX7_14 : en_Fp RX7 14 7 2 true (.array .int) := ⟨RX7, TX7, 15, tyX7, rfl, by decide, rfl, inT3 169 rfl rfl, uw_X7, tyX7_ok, nmX7, rfl, by decide +kernel⟩
theorem q_X7_init_21 : decode M_X7_init.2.1 21 = .ok (.aload_n 0, 1) ∧ 21 + 1 = 22 := ⟨dcAll_e (i := 10) da_X7_init_0 rfl, rfl⟩
theorem q_X7_init_22 : decode M_X7_init.2.1 22 = .ok (.sipush 140, 3) ∧ 22 + 3 = 25 := ⟨dcAll_e (i := 11) da_X7_init_0 rfl, rfl⟩
theorem q_X7_init_25 : decode M_X7_init.2.1 25 = .ok (.newarray .int, 2) ∧ 25 + 2 = 27 := ⟨dcAll_e (i := 12) da_X7_init_0 rfl, rfl⟩
theorem q_X7_init_27 : decode M_X7_init.2.1 27 = .ok (.putfield 17, 3) ∧ 27 + 3 = 30 := ⟨dcAll_e (i := 13) da_X7_init_0 rfl, rfl⟩
theorem p_RX7_17 : en_Fp RX7 17 7 3 true (.array .int) := ⟨RX7, TX7, 15, tyX7, rfl, by decide, rfl, inT3 170 rfl rfl, uw_X7, tyX7_ok, nmX7, rfl, by decide +kernel⟩
theorem q_X7_init_30 : decode M_X7_init.2.1 30 = .ok (.aload_n 0, 1) ∧ 30 + 1 = 31 := ⟨dcAll_e (i := 14) da_X7_init_0 rfl, rfl⟩
theorem q_X7_init_31 : decode M_X7_init.2.1 31 = .ok (.bipush 60, 2) ∧ 31 + 2 = 33 := ⟨dcAll_e (i := 15) da_X7_init_0 rfl, rfl⟩
theorem q_X7_init_33 : decode M_X7_init.2.1 33 = .ok (.newarray .int, 2) ∧ 33 + 2 = 35 := ⟨dcAll_e (i := 16) da_X7_init_0 rfl, rfl⟩
theorem q_X7_init_35 : decode M_X7_init.2.1 35 = .ok (.putfield 20, 3) ∧ 35 + 3 = 38 := ⟨dcAll_e (i := 17) da_X7_init_0 rfl, rfl⟩
theorem p_RX7_20 : en_Fp RX7 20 7 4 true (.array .int) := ⟨RX7, TX7, 15, tyX7, rfl, by decide, rfl, inT3 171 rfl rfl, uw_X7, tyX7_ok, nmX7, rfl, by decide +kernel⟩
theorem q_X7_init_38 : decode M_X7_init.2.1 38 = .ok (.aload_n 0, 1) ∧ 38 + 1 = 39 := ⟨dcAll_e (i := 18) da_X7_init_0 rfl, rfl⟩
theorem q_X7_init_39 : decode M_X7_init.2.1 39 = .ok (.bipush 60, 2) ∧ 39 + 2 = 41 := ⟨dcAll_e (i := 19) da_X7_init_0 rfl, rfl⟩
theorem q_X7_init_41 : decode M_X7_init.2.1 41 = .ok (.newarray .long, 2) ∧ 41 + 2 = 43 := ⟨dcAll_e (i := 20) da_X7_init_0 rfl, rfl⟩
theorem q_X7_init_43 : decode M_X7_init.2.1 43 = .ok (.putfield 23, 3) ∧ 43 + 3 = 46 := ⟨dcAll_e (i := 21) da_X7_init_0 rfl, rfl⟩
theorem p_RX7_23 : en_Fp RX7 23 7 5 true (.array .long) := ⟨RX7, TX7, 15, tyX7, rfl, by decide, rfl, inT3 172 rfl rfl, uw_X7, tyX7_ok, nmX7, rfl, by decide +kernel⟩
theorem q_X7_init_46 : decode M_X7_init.2.1 46 = .ok (.aload_n 0, 1) ∧ 46 + 1 = 47 := ⟨dcAll_e (i := 22) da_X7_init_0 rfl, rfl⟩
theorem q_X7_init_47 : decode M_X7_init.2.1 47 = .ok (.bipush 60, 2) ∧ 47 + 2 = 49 := ⟨dcAll_e (i := 23) da_X7_init_0 rfl, rfl⟩
theorem q_X7_init_49 : decode M_X7_init.2.1 49 = .ok (.newarray .long, 2) ∧ 49 + 2 = 51 := ⟨dcAll_e (i := 24) da_X7_init_0 rfl, rfl⟩
theorem q_X7_init_51 : decode M_X7_init.2.1 51 = .ok (.putfield 27, 3) ∧ 51 + 3 = 54 := ⟨dcAll_e (i := 25) da_X7_init_0 rfl, rfl⟩
theorem p_RX7_27 : en_Fp RX7 27 7 6 true (.array .long) := ⟨RX7, TX7, 15, tyX7, rfl, by decide, rfl, inT3 173 rfl rfl, uw_X7, tyX7_ok, nmX7, rfl, by decide +kernel⟩
theorem q_X7_init_54 : decode M_X7_init.2.1 54 = .ok (.aload_n 0, 1) ∧ 54 + 1 = 55 := ⟨dcAll_e (i := 26) da_X7_init_0 rfl, rfl⟩
theorem q_X7_init_55 : decode M_X7_init.2.1 55 = .ok (.bipush 60, 2) ∧ 55 + 2 = 57 := ⟨dcAll_e (i := 27) da_X7_init_0 rfl, rfl⟩
theorem q_X7_init_57 : decode M_X7_init.2.1 57 = .ok (.newarray .boolean, 2) ∧ 57 + 2 = 59 := ⟨dcAll_e (i := 28) da_X7_init_0 rfl, rfl⟩
theorem q_X7_init_59 : decode M_X7_init.2.1 59 = .ok (.putfield 30, 3) ∧ 59 + 3 = 62 := ⟨dcAll_e (i := 29) da_X7_init_0 rfl, rfl⟩
theorem p_RX7_30 : en_Fp RX7 30 7 7 true (.array .boolean) := ⟨RX7, TX7, 15, tyX7, rfl, by decide, rfl, inT3 174 rfl rfl, uw_X7, tyX7_ok, nmX7, rfl, by decide +kernel⟩
theorem q_X7_init_62 : decode M_X7_init.2.1 62 = .ok (.aload_n 0, 1) ∧ 62 + 1 = 63 := ⟨dcAll_e (i := 30) da_X7_init_0 rfl, rfl⟩
theorem q_X7_init_63 : decode M_X7_init.2.1 63 = .ok (.bipush 60, 2) ∧ 63 + 2 = 65 := ⟨dcAll_e (i := 31) da_X7_init_0 rfl, rfl⟩
theorem q_X7_init_65 : decode M_X7_init.2.1 65 = .ok (.newarray .boolean, 2) ∧ 65 + 2 = 67 := ⟨dcAll_e (i := 32) da_X7_init_0 rfl, rfl⟩
theorem q_X7_init_67 : decode M_X7_init.2.1 67 = .ok (.putfield 34, 3) ∧ 67 + 3 = 70 := ⟨dcAll_e (i := 33) da_X7_init_0 rfl, rfl⟩
theorem p_RX7_34 : en_Fp RX7 34 7 8 true (.array .boolean) := ⟨RX7, TX7, 15, tyX7, rfl, by decide, rfl, inT3 175 rfl rfl, uw_X7, tyX7_ok, nmX7, rfl, by decide +kernel⟩
theorem q_X7_init_70 : decode M_X7_init.2.1 70 = .ok (.aload_n 0, 1) ∧ 70 + 1 = 71 := ⟨dcAll_e (i := 34) da_X7_init_0 rfl, rfl⟩
theorem q_X7_init_71 : decode M_X7_init.2.1 71 = .ok (.bipush 40, 2) ∧ 71 + 2 = 73 := ⟨dcAll_e (i := 35) da_X7_init_0 rfl, rfl⟩
theorem q_X7_init_73 : decode M_X7_init.2.1 73 = .ok (.newarray .long, 2) ∧ 73 + 2 = 75 := ⟨dcAll_e (i := 36) da_X7_init_0 rfl, rfl⟩
theorem q_X7_init_75 : decode M_X7_init.2.1 75 = .ok (.putfield 37, 3) ∧ 75 + 3 = 78 := ⟨dcAll_e (i := 37) da_X7_init_0 rfl, rfl⟩
theorem p_RX7_37 : en_Fp RX7 37 7 11 true (.array .long) := ⟨RX7, TX7, 15, tyX7, rfl, by decide, rfl, inT3 178 rfl rfl, uw_X7, tyX7_ok, nmX7, rfl, by decide +kernel⟩
theorem q_X7_init_78 : decode M_X7_init.2.1 78 = .ok (.aload_n 0, 1) ∧ 78 + 1 = 79 := ⟨dcAll_e (i := 38) da_X7_init_0 rfl, rfl⟩
theorem q_X7_init_79 : decode M_X7_init.2.1 79 = .ok (.bipush 40, 2) ∧ 79 + 2 = 81 := ⟨dcAll_e (i := 39) da_X7_init_0 rfl, rfl⟩
theorem q_X7_init_81 : decode M_X7_init.2.1 81 = .ok (.newarray .long, 2) ∧ 81 + 2 = 83 := ⟨dcAll_e (i := 0) da_X7_init_1 rfl, rfl⟩
theorem q_X7_init_83 : decode M_X7_init.2.1 83 = .ok (.putfield 40, 3) ∧ 83 + 3 = 86 := ⟨dcAll_e (i := 1) da_X7_init_1 rfl, rfl⟩
theorem p_RX7_40 : en_Fp RX7 40 7 14 true (.array .long) := ⟨RX7, TX7, 15, tyX7, rfl, by decide, rfl, inT3 181 rfl rfl, uw_X7, tyX7_ok, nmX7, rfl, by decide +kernel⟩
theorem q_X7_init_86 : decode M_X7_init.2.1 86 = .ok (.return_, 1) ∧ 86 + 1 = 87 := ⟨dcAll_e (i := 2) da_X7_init_1 rfl, rfl⟩
def dl_X7_setTo_0 : List (Nat × Instr × Nat) := [(0, .aload_n 0, 1), (1, .getfield 14, 3), (4, .iload_n 1, 1), (5, .iconst 0, 1), (6, .iastore, 1), (7, .aload_n 0, 1), (8, .getfield 17, 3), (11, .iload_n 1, 1), (12, .lload_n 2, 1), (13, .lconst 0, 1), (14, .lcmp, 1), (15, .ifCond .le 7, 3), (18, .iconst 1, 1), (19, .goto 14, 3), (22, .lload_n 2, 1), (23, .lconst 0, 1), (24, .lcmp, 1), (25, .ifCond .ge 7, 3), (28, .iconst (-1), 1), (29, .goto 4, 3), (32, .iconst 0, 1), (33, .iastore, 1), (34, .lload_n 2, 1), (35, .lconst 0, 1), (36, .lcmp, 1), (37, .ifCond .le 8, 3), (40, .lload_n 2, 1), (41, .lneg, 1), (42, .goto 4, 3), (45, .lload_n 2, 1), (46, .lstore 4, 2), (48, .lload 4, 2), (50, .lconst 0, 1), (51, .lcmp, 1), (52, .ifCond .eq 49, 3), (55, .aload_n 0, 1), (56, .getfield 8, 3), (59, .sipush 320, 3), (62, .iload_n 1, 1), (63, .imul, 1)]
theorem da_X7_setTo_0 : dcAll M_X7_setTo.2.1 dl_X7_setTo_0 = true := by decide +kernel
def dl_X7_setTo_1 : List (Nat × Instr × Nat) := [(64, .aload_n 0, 1), (65, .getfield 14, 3), (68, .iload_n 1, 1), (69, .iaload, 1), (70, .iadd, 1), (71, .lload 4, 2), (73, .ldc2_w 47, 3), (76, .lrem, 1), (77, .lneg, 1), (78, .l2i, 1), (79, .iastore, 1), (80, .aload_n 0, 1), (81, .getfield 14, 3), (84, .iload_n 1, 1), (85, .dup2, 1), (86, .iaload, 1), (87, .iconst 1, 1), (88, .iadd, 1), (89, .iastore, 1), (90, .lload 4, 2), (92, .ldc2_w 47, 3), (95, .ldiv, 1), (96, .lstore 4, 2), (98, .goto (-50), 3), (101, .return_, 1)]
theorem da_X7_setTo_1 : dcAll M_X7_setTo.2.1 dl_X7_setTo_1 = true := by decide +kernel
theorem q_X7_setTo_0 : decode M_X7_setTo.2.1 0 = .ok (.aload_n 0, 1) ∧ 0 + 1 = 1 := ⟨dcAll_e (i := 0) da_X7_setTo_0 rfl, rfl⟩
theorem q_X7_setTo_1 : decode M_X7_setTo.2.1 1 = .ok (.getfield 14, 3) ∧ 1 + 3 = 4 := ⟨dcAll_e (i := 1) da_X7_setTo_0 rfl, rfl⟩
theorem f_RX7_14 : en_F RX7 14 7 2 := ⟨RX7, TX7, 15, rfl, by decide, rfl, inT3 169 rfl rfl, uw_X7⟩
theorem q_X7_setTo_4 : decode M_X7_setTo.2.1 4 = .ok (.iload_n 1, 1) ∧ 4 + 1 = 5 := ⟨dcAll_e (i := 2) da_X7_setTo_0 rfl, rfl⟩
theorem q_X7_setTo_5 : decode M_X7_setTo.2.1 5 = .ok (.iconst 0, 1) ∧ 5 + 1 = 6 := ⟨dcAll_e (i := 3) da_X7_setTo_0 rfl, rfl⟩
theorem q_X7_setTo_6 : decode M_X7_setTo.2.1 6 = .ok (.iastore, 1) ∧ 6 + 1 = 7 := ⟨dcAll_e (i := 4) da_X7_setTo_0 rfl, rfl⟩
theorem q_X7_setTo_7 : decode M_X7_setTo.2.1 7 = .ok (.aload_n 0, 1) ∧ 7 + 1 = 8 := ⟨dcAll_e (i := 5) da_X7_setTo_0 rfl, rfl⟩
theorem q_X7_setTo_8 : decode M_X7_setTo.2.1 8 = .ok (.getfield 17, 3) ∧ 8 + 3 = 11 := ⟨dcAll_e (i := 6) da_X7_setTo_0 rfl, rfl⟩
theorem f_RX7_17 : en_F RX7 17 7 3 := ⟨RX7, TX7, 15, rfl, by decide, rfl, inT3 170 rfl rfl, uw_X7⟩
theorem q_X7_setTo_11 : decode M_X7_setTo.2.1 11 = .ok (.iload_n 1, 1) ∧ 11 + 1 = 12 := ⟨dcAll_e (i := 7) da_X7_setTo_0 rfl, rfl⟩
theorem q_X7_setTo_12 : decode M_X7_setTo.2.1 12 = .ok (.lload_n 2, 1) ∧ 12 + 1 = 13 := ⟨dcAll_e (i := 8) da_X7_setTo_0 rfl, rfl⟩
theorem q_X7_setTo_13 : decode M_X7_setTo.2.1 13 = .ok (.lconst 0, 1) ∧ 13 + 1 = 14 := ⟨dcAll_e (i := 9) da_X7_setTo_0 rfl, rfl⟩
theorem q_X7_setTo_14 : decode M_X7_setTo.2.1 14 = .ok (.lcmp, 1) ∧ 14 + 1 = 15 := ⟨dcAll_e (i := 10) da_X7_setTo_0 rfl, rfl⟩
theorem q_X7_setTo_15 : decode M_X7_setTo.2.1 15 = .ok (.ifCond .le 7, 3) ∧ 15 + 3 = 18 ∧ ((15 : Nat) : Int) + 7 = ((22 : Nat) : Int) := ⟨dcAll_e (i := 11) da_X7_setTo_0 rfl, rfl, rfl⟩
theorem q_X7_setTo_18 : decode M_X7_setTo.2.1 18 = .ok (.iconst 1, 1) ∧ 18 + 1 = 19 := ⟨dcAll_e (i := 12) da_X7_setTo_0 rfl, rfl⟩
theorem q_X7_setTo_19 : decode M_X7_setTo.2.1 19 = .ok (.goto 14, 3) ∧ 19 + 3 = 22 ∧ ((19 : Nat) : Int) + 14 = ((33 : Nat) : Int) := ⟨dcAll_e (i := 13) da_X7_setTo_0 rfl, rfl, rfl⟩
theorem q_X7_setTo_22 : decode M_X7_setTo.2.1 22 = .ok (.lload_n 2, 1) ∧ 22 + 1 = 23 := ⟨dcAll_e (i := 14) da_X7_setTo_0 rfl, rfl⟩
theorem q_X7_setTo_23 : decode M_X7_setTo.2.1 23 = .ok (.lconst 0, 1) ∧ 23 + 1 = 24 := ⟨dcAll_e (i := 15) da_X7_setTo_0 rfl, rfl⟩
theorem q_X7_setTo_24 : decode M_X7_setTo.2.1 24 = .ok (.lcmp, 1) ∧ 24 + 1 = 25 := ⟨dcAll_e (i := 16) da_X7_setTo_0 rfl, rfl⟩
theorem q_X7_setTo_25 : decode M_X7_setTo.2.1 25 = .ok (.ifCond .ge 7, 3) ∧ 25 + 3 = 28 ∧ ((25 : Nat) : Int) + 7 = ((32 : Nat) : Int) := ⟨dcAll_e (i := 17) da_X7_setTo_0 rfl, rfl, rfl⟩
theorem q_X7_setTo_28 : decode M_X7_setTo.2.1 28 = .ok (.iconst (-1), 1) ∧ 28 + 1 = 29 := ⟨dcAll_e (i := 18) da_X7_setTo_0 rfl, rfl⟩
theorem q_X7_setTo_29 : decode M_X7_setTo.2.1 29 = .ok (.goto 4, 3) ∧ 29 + 3 = 32 ∧ ((29 : Nat) : Int) + 4 = ((33 : Nat) : Int) := ⟨dcAll_e (i := 19) da_X7_setTo_0 rfl, rfl, rfl⟩
theorem q_X7_setTo_32 : decode M_X7_setTo.2.1 32 = .ok (.iconst 0, 1) ∧ 32 + 1 = 33 := ⟨dcAll_e (i := 20) da_X7_setTo_0 rfl, rfl⟩
theorem q_X7_setTo_33 : decode M_X7_setTo.2.1 33 = .ok (.iastore, 1) ∧ 33 + 1 = 34 := ⟨dcAll_e (i := 21) da_X7_setTo_0 rfl, rfl⟩
theorem q_X7_setTo_34 : decode M_X7_setTo.2.1 34 = .ok (.lload_n 2, 1) ∧ 34 + 1 = 35 := ⟨dcAll_e (i := 22) da_X7_setTo_0 rfl, rfl⟩
theorem q_X7_setTo_35 : decode M_X7_setTo.2.1 35 = .ok (.lconst 0, 1) ∧ 35 + 1 = 36 := ⟨dcAll_e (i := 23) da_X7_setTo_0 rfl, rfl⟩
theorem q_X7_setTo_36 : decode M_X7_setTo.2.1 36 = .ok (.lcmp, 1) ∧ 36 + 1 = 37 := ⟨dcAll_e (i := 24) da_X7_setTo_0 rfl, rfl⟩
theorem q_X7_setTo_37 : decode M_X7_setTo.2.1 37 = .ok (.ifCond .le 8, 3) ∧ 37 + 3 = 40 ∧ ((37 : Nat) : Int) + 8 = ((45 : Nat) : Int) := ⟨dcAll_e (i := 25) da_X7_setTo_0 rfl, rfl, rfl⟩
theorem q_X7_setTo_40 : decode M_X7_setTo.2.1 40 = .ok (.lload_n 2, 1) ∧ 40 + 1 = 41 := ⟨dcAll_e (i := 26) da_X7_setTo_0 rfl, rfl⟩
theorem q_X7_setTo_41 : decode M_X7_setTo.2.1 41 = .ok (.lneg, 1) ∧ 41 + 1 = 42 := ⟨dcAll_e (i := 27) da_X7_setTo_0 rfl, rfl⟩
theorem q_X7_setTo_42 : decode M_X7_setTo.2.1 42 = .ok (.goto 4, 3) ∧ 42 + 3 = 45 ∧ ((42 : Nat) : Int) + 4 = ((46 : Nat) : Int) := ⟨dcAll_e (i := 28) da_X7_setTo_0 rfl, rfl, rfl⟩
theorem q_X7_setTo_45 : decode M_X7_setTo.2.1 45 = .ok (.lload_n 2, 1) ∧ 45 + 1 = 46 := ⟨dcAll_e (i := 29) da_X7_setTo_0 rfl, rfl⟩
theorem q_X7_setTo_46 : decode M_X7_setTo.2.1 46 = .ok (.lstore 4, 2) ∧ 46 + 2 = 48 := ⟨dcAll_e (i := 30) da_X7_setTo_0 rfl, rfl⟩
theorem q_X7_setTo_48 : decode M_X7_setTo.2.1 48 = .ok (.lload 4, 2) ∧ 48 + 2 = 50 := ⟨dcAll_e (i := 31) da_X7_setTo_0 rfl, rfl⟩
theorem q_X7_setTo_50 : decode M_X7_setTo.2.1 50 = .ok (.lconst 0, 1) ∧ 50 + 1 = 51 := ⟨dcAll_e (i := 32) da_X7_setTo_0 rfl, rfl⟩
theorem q_X7_setTo_51 : decode M_X7_setTo.2.1 51 = .ok (.lcmp, 1) ∧ 51 + 1 = 52 := ⟨dcAll_e (i := 33) da_X7_setTo_0 rfl, rfl⟩
theorem q_X7_setTo_52 : decode M_X7_setTo.2.1 52 = .ok (.ifCond .eq 49, 3) ∧ 52 + 3 = 55 ∧ ((52 : Nat) : Int) + 49 = ((101 : Nat) : Int) := ⟨dcAll_e (i := 34) da_X7_setTo_0 rfl, rfl, rfl⟩
theorem q_X7_setTo_55 : decode M_X7_setTo.2.1 55 = .ok (.aload_n 0, 1) ∧ 55 + 1 = 56 := ⟨dcAll_e (i := 35) da_X7_setTo_0 rfl, rfl⟩
theorem q_X7_setTo_56 : decode M_X7_setTo.2.1 56 = .ok (.getfield 8, 3) ∧ 56 + 3 = 59 := ⟨dcAll_e (i := 36) da_X7_setTo_0 rfl, rfl⟩
theorem f_RX7_8 : en_F RX7 8 7 1 := ⟨RX7, TX7, 15, rfl, by decide, rfl, inT3 168 rfl rfl, uw_X7⟩
theorem q_X7_setTo_59 : decode M_X7_setTo.2.1 59 = .ok (.sipush 320, 3) ∧ 59 + 3 = 62 := ⟨dcAll_e (i := 37) da_X7_setTo_0 rfl, rfl⟩
theorem q_X7_setTo_62 : decode M_X7_setTo.2.1 62 = .ok (.iload_n 1, 1) ∧ 62 + 1 = 63 := ⟨dcAll_e (i := 38) da_X7_setTo_0 rfl, rfl⟩
theorem q_X7_setTo_63 : decode M_X7_setTo.2.1 63 = .ok (.imul, 1) ∧ 63 + 1 = 64 := ⟨dcAll_e (i := 39) da_X7_setTo_0 rfl, rfl⟩
theorem q_X7_setTo_64 : decode M_X7_setTo.2.1 64 = .ok (.aload_n 0, 1) ∧ 64 + 1 = 65 := ⟨dcAll_e (i := 0) da_X7_setTo_1 rfl, rfl⟩
theorem q_X7_setTo_65 : decode M_X7_setTo.2.1 65 = .ok (.getfield 14, 3) ∧ 65 + 3 = 68 := ⟨dcAll_e (i := 1) da_X7_setTo_1 rfl, rfl⟩
theorem q_X7_setTo_68 : decode M_X7_setTo.2.1 68 = .ok (.iload_n 1, 1) ∧ 68 + 1 = 69 := ⟨dcAll_e (i := 2) da_X7_setTo_1 rfl, rfl⟩
theorem q_X7_setTo_69 : decode M_X7_setTo.2.1 69 = .ok (.iaload, 1) ∧ 69 + 1 = 70 := ⟨dcAll_e (i := 3) da_X7_setTo_1 rfl, rfl⟩
theorem q_X7_setTo_70 : decode M_X7_setTo.2.1 70 = .ok (.iadd, 1) ∧ 70 + 1 = 71 := ⟨dcAll_e (i := 4) da_X7_setTo_1 rfl, rfl⟩
theorem q_X7_setTo_71 : decode M_X7_setTo.2.1 71 = .ok (.lload 4, 2) ∧ 71 + 2 = 73 := ⟨dcAll_e (i := 5) da_X7_setTo_1 rfl, rfl⟩
theorem q_X7_setTo_73 : decode M_X7_setTo.2.1 73 = .ok (.ldc2_w 47, 3) ∧ 73 + 3 = 76 := ⟨dcAll_e (i := 6) da_X7_setTo_1 rfl, rfl⟩
theorem k_RX7_47 : Cond.constantLong RX7 47 (lN 1000000000) ∈ en_tbl := by decide +kernel
theorem q_X7_setTo_76 : decode M_X7_setTo.2.1 76 = .ok (.lrem, 1) ∧ 76 + 1 = 77 := ⟨dcAll_e (i := 7) da_X7_setTo_1 rfl, rfl⟩
theorem q_X7_setTo_77 : decode M_X7_setTo.2.1 77 = .ok (.lneg, 1) ∧ 77 + 1 = 78 := ⟨dcAll_e (i := 8) da_X7_setTo_1 rfl, rfl⟩
theorem q_X7_setTo_78 : decode M_X7_setTo.2.1 78 = .ok (.l2i, 1) ∧ 78 + 1 = 79 := ⟨dcAll_e (i := 9) da_X7_setTo_1 rfl, rfl⟩
theorem q_X7_setTo_79 : decode M_X7_setTo.2.1 79 = .ok (.iastore, 1) ∧ 79 + 1 = 80 := ⟨dcAll_e (i := 10) da_X7_setTo_1 rfl, rfl⟩
theorem q_X7_setTo_80 : decode M_X7_setTo.2.1 80 = .ok (.aload_n 0, 1) ∧ 80 + 1 = 81 := ⟨dcAll_e (i := 11) da_X7_setTo_1 rfl, rfl⟩
theorem q_X7_setTo_81 : decode M_X7_setTo.2.1 81 = .ok (.getfield 14, 3) ∧ 81 + 3 = 84 := ⟨dcAll_e (i := 12) da_X7_setTo_1 rfl, rfl⟩
theorem q_X7_setTo_84 : decode M_X7_setTo.2.1 84 = .ok (.iload_n 1, 1) ∧ 84 + 1 = 85 := ⟨dcAll_e (i := 13) da_X7_setTo_1 rfl, rfl⟩
theorem q_X7_setTo_85 : decode M_X7_setTo.2.1 85 = .ok (.dup2, 1) ∧ 85 + 1 = 86 := ⟨dcAll_e (i := 14) da_X7_setTo_1 rfl, rfl⟩
theorem q_X7_setTo_86 : decode M_X7_setTo.2.1 86 = .ok (.iaload, 1) ∧ 86 + 1 = 87 := ⟨dcAll_e (i := 15) da_X7_setTo_1 rfl, rfl⟩
theorem q_X7_setTo_87 : decode M_X7_setTo.2.1 87 = .ok (.iconst 1, 1) ∧ 87 + 1 = 88 := ⟨dcAll_e (i := 16) da_X7_setTo_1 rfl, rfl⟩
theorem q_X7_setTo_88 : decode M_X7_setTo.2.1 88 = .ok (.iadd, 1) ∧ 88 + 1 = 89 := ⟨dcAll_e (i := 17) da_X7_setTo_1 rfl, rfl⟩
theorem q_X7_setTo_89 : decode M_X7_setTo.2.1 89 = .ok (.iastore, 1) ∧ 89 + 1 = 90 := ⟨dcAll_e (i := 18) da_X7_setTo_1 rfl, rfl⟩
theorem q_X7_setTo_90 : decode M_X7_setTo.2.1 90 = .ok (.lload 4, 2) ∧ 90 + 2 = 92 := ⟨dcAll_e (i := 19) da_X7_setTo_1 rfl, rfl⟩
theorem q_X7_setTo_92 : decode M_X7_setTo.2.1 92 = .ok (.ldc2_w 47, 3) ∧ 92 + 3 = 95 := ⟨dcAll_e (i := 20) da_X7_setTo_1 rfl, rfl⟩
theorem q_X7_setTo_95 : decode M_X7_setTo.2.1 95 = .ok (.ldiv, 1) ∧ 95 + 1 = 96 := ⟨dcAll_e (i := 21) da_X7_setTo_1 rfl, rfl⟩
theorem q_X7_setTo_96 : decode M_X7_setTo.2.1 96 = .ok (.lstore 4, 2) ∧ 96 + 2 = 98 := ⟨dcAll_e (i := 22) da_X7_setTo_1 rfl, rfl⟩
theorem q_X7_setTo_98 : decode M_X7_setTo.2.1 98 = .ok (.goto (-50), 3) ∧ 98 + 3 = 101 ∧ ((98 : Nat) : Int) + (-50) = ((48 : Nat) : Int) := ⟨dcAll_e (i := 23) da_X7_setTo_1 rfl, rfl, rfl⟩
theorem q_X7_setTo_101 : decode M_X7_setTo.2.1 101 = .ok (.return_, 1) ∧ 101 + 1 = 102 := ⟨dcAll_e (i := 24) da_X7_setTo_1 rfl, rfl⟩
def dl_X7_copyTo_0 : List (Nat × Instr × Nat) := [(0, .aload_n 0, 1), (1, .getfield 14, 3), (4, .iload_n 2, 1), (5, .aload_n 0, 1), (6, .getfield 14, 3), (9, .iload_n 1, 1), (10, .iaload, 1), (11, .iastore, 1), (12, .aload_n 0, 1), (13, .getfield 17, 3), (16, .iload_n 2, 1), (17, .aload_n 0, 1), (18, .getfield 17, 3), (21, .iload_n 1, 1), (22, .iaload, 1), (23, .iastore, 1), (24, .iconst 0, 1), (25, .istore_n 3, 1), (26, .iload_n 3, 1), (27, .aload_n 0, 1), (28, .getfield 14, 3), (31, .iload_n 1, 1), (32, .iaload, 1), (33, .if_icmp .ge 33, 3), (36, .aload_n 0, 1), (37, .getfield 8, 3), (40, .sipush 320, 3), (43, .iload_n 2, 1), (44, .imul, 1), (45, .iload_n 3, 1), (46, .iadd, 1), (47, .aload_n 0, 1), (48, .getfield 8, 3), (51, .sipush 320, 3), (54, .iload_n 1, 1), (55, .imul, 1), (56, .iload_n 3, 1), (57, .iadd, 1), (58, .iaload, 1), (59, .iastore, 1)]
theorem da_X7_copyTo_0 : dcAll M_X7_copyTo.2.1 dl_X7_copyTo_0 = true := by decide +kernel
def dl_X7_copyTo_1 : List (Nat × Instr × Nat) := [(60, .iinc 3 1, 3), (63, .goto (-37), 3), (66, .return_, 1)]
theorem da_X7_copyTo_1 : dcAll M_X7_copyTo.2.1 dl_X7_copyTo_1 = true := by decide +kernel
theorem q_X7_copyTo_0 : decode M_X7_copyTo.2.1 0 = .ok (.aload_n 0, 1) ∧ 0 + 1 = 1 := ⟨dcAll_e (i := 0) da_X7_copyTo_0 rfl, rfl⟩
theorem q_X7_copyTo_1 : decode M_X7_copyTo.2.1 1 = .ok (.getfield 14, 3) ∧ 1 + 3 = 4 := ⟨dcAll_e (i := 1) da_X7_copyTo_0 rfl, rfl⟩
theorem q_X7_copyTo_4 : decode M_X7_copyTo.2.1 4 = .ok (.iload_n 2, 1) ∧ 4 + 1 = 5 := ⟨dcAll_e (i := 2) da_X7_copyTo_0 rfl, rfl⟩
theorem q_X7_copyTo_5 : decode M_X7_copyTo.2.1 5 = .ok (.aload_n 0, 1) ∧ 5 + 1 = 6 := ⟨dcAll_e (i := 3) da_X7_copyTo_0 rfl, rfl⟩
theorem q_X7_copyTo_6 : decode M_X7_copyTo.2.1 6 = .ok (.getfield 14, 3) ∧ 6 + 3 = 9 := ⟨dcAll_e (i := 4) da_X7_copyTo_0 rfl, rfl⟩
theorem q_X7_copyTo_9 : decode M_X7_copyTo.2.1 9 = .ok (.iload_n 1, 1) ∧ 9 + 1 = 10 := ⟨dcAll_e (i := 5) da_X7_copyTo_0 rfl, rfl⟩
theorem q_X7_copyTo_10 : decode M_X7_copyTo.2.1 10 = .ok (.iaload, 1) ∧ 10 + 1 = 11 := ⟨dcAll_e (i := 6) da_X7_copyTo_0 rfl, rfl⟩
theorem q_X7_copyTo_11 : decode M_X7_copyTo.2.1 11 = .ok (.iastore, 1) ∧ 11 + 1 = 12 := ⟨dcAll_e (i := 7) da_X7_copyTo_0 rfl, rfl⟩
theorem q_X7_copyTo_12 : decode M_X7_copyTo.2.1 12 = .ok (.aload_n 0, 1) ∧ 12 + 1 = 13 := ⟨dcAll_e (i := 8) da_X7_copyTo_0 rfl, rfl⟩
theorem q_X7_copyTo_13 : decode M_X7_copyTo.2.1 13 = .ok (.getfield 17, 3) ∧ 13 + 3 = 16 := ⟨dcAll_e (i := 9) da_X7_copyTo_0 rfl, rfl⟩
theorem q_X7_copyTo_16 : decode M_X7_copyTo.2.1 16 = .ok (.iload_n 2, 1) ∧ 16 + 1 = 17 := ⟨dcAll_e (i := 10) da_X7_copyTo_0 rfl, rfl⟩
theorem q_X7_copyTo_17 : decode M_X7_copyTo.2.1 17 = .ok (.aload_n 0, 1) ∧ 17 + 1 = 18 := ⟨dcAll_e (i := 11) da_X7_copyTo_0 rfl, rfl⟩
theorem q_X7_copyTo_18 : decode M_X7_copyTo.2.1 18 = .ok (.getfield 17, 3) ∧ 18 + 3 = 21 := ⟨dcAll_e (i := 12) da_X7_copyTo_0 rfl, rfl⟩
theorem q_X7_copyTo_21 : decode M_X7_copyTo.2.1 21 = .ok (.iload_n 1, 1) ∧ 21 + 1 = 22 := ⟨dcAll_e (i := 13) da_X7_copyTo_0 rfl, rfl⟩
theorem q_X7_copyTo_22 : decode M_X7_copyTo.2.1 22 = .ok (.iaload, 1) ∧ 22 + 1 = 23 := ⟨dcAll_e (i := 14) da_X7_copyTo_0 rfl, rfl⟩
theorem q_X7_copyTo_23 : decode M_X7_copyTo.2.1 23 = .ok (.iastore, 1) ∧ 23 + 1 = 24 := ⟨dcAll_e (i := 15) da_X7_copyTo_0 rfl, rfl⟩
theorem q_X7_copyTo_24 : decode M_X7_copyTo.2.1 24 = .ok (.iconst 0, 1) ∧ 24 + 1 = 25 := ⟨dcAll_e (i := 16) da_X7_copyTo_0 rfl, rfl⟩
theorem q_X7_copyTo_25 : decode M_X7_copyTo.2.1 25 = .ok (.istore_n 3, 1) ∧ 25 + 1 = 26 := ⟨dcAll_e (i := 17) da_X7_copyTo_0 rfl, rfl⟩
theorem q_X7_copyTo_26 : decode M_X7_copyTo.2.1 26 = .ok (.iload_n 3, 1) ∧ 26 + 1 = 27 := ⟨dcAll_e (i := 18) da_X7_copyTo_0 rfl, rfl⟩
theorem q_X7_copyTo_27 : decode M_X7_copyTo.2.1 27 = .ok (.aload_n 0, 1) ∧ 27 + 1 = 28 := ⟨dcAll_e (i := 19) da_X7_copyTo_0 rfl, rfl⟩
theorem q_X7_copyTo_28 : decode M_X7_copyTo.2.1 28 = .ok (.getfield 14, 3) ∧ 28 + 3 = 31 := ⟨dcAll_e (i := 20) da_X7_copyTo_0 rfl, rfl⟩
theorem q_X7_copyTo_31 : decode M_X7_copyTo.2.1 31 = .ok (.iload_n 1, 1) ∧ 31 + 1 = 32 := ⟨dcAll_e (i := 21) da_X7_copyTo_0 rfl, rfl⟩
theorem q_X7_copyTo_32 : decode M_X7_copyTo.2.1 32 = .ok (.iaload, 1) ∧ 32 + 1 = 33 := ⟨dcAll_e (i := 22) da_X7_copyTo_0 rfl, rfl⟩
theorem q_X7_copyTo_33 : decode M_X7_copyTo.2.1 33 = .ok (.if_icmp .ge 33, 3) ∧ 33 + 3 = 36 ∧ ((33 : Nat) : Int) + 33 = ((66 : Nat) : Int) := ⟨dcAll_e (i := 23) da_X7_copyTo_0 rfl, rfl, rfl⟩
theorem q_X7_copyTo_36 : decode M_X7_copyTo.2.1 36 = .ok (.aload_n 0, 1) ∧ 36 + 1 = 37 := ⟨dcAll_e (i := 24) da_X7_copyTo_0 rfl, rfl⟩
theorem q_X7_copyTo_37 : decode M_X7_copyTo.2.1 37 = .ok (.getfield 8, 3) ∧ 37 + 3 = 40 := ⟨dcAll_e (i := 25) da_X7_copyTo_0 rfl, rfl⟩
theorem q_X7_copyTo_40 : decode M_X7_copyTo.2.1 40 = .ok (.sipush 320, 3) ∧ 40 + 3 = 43 := ⟨dcAll_e (i := 26) da_X7_copyTo_0 rfl, rfl⟩
theorem q_X7_copyTo_43 : decode M_X7_copyTo.2.1 43 = .ok (.iload_n 2, 1) ∧ 43 + 1 = 44 := ⟨dcAll_e (i := 27) da_X7_copyTo_0 rfl, rfl⟩
theorem q_X7_copyTo_44 : decode M_X7_copyTo.2.1 44 = .ok (.imul, 1) ∧ 44 + 1 = 45 := ⟨dcAll_e (i := 28) da_X7_copyTo_0 rfl, rfl⟩
theorem q_X7_copyTo_45 : decode M_X7_copyTo.2.1 45 = .ok (.iload_n 3, 1) ∧ 45 + 1 = 46 := ⟨dcAll_e (i := 29) da_X7_copyTo_0 rfl, rfl⟩
theorem q_X7_copyTo_46 : decode M_X7_copyTo.2.1 46 = .ok (.iadd, 1) ∧ 46 + 1 = 47 := ⟨dcAll_e (i := 30) da_X7_copyTo_0 rfl, rfl⟩
theorem q_X7_copyTo_47 : decode M_X7_copyTo.2.1 47 = .ok (.aload_n 0, 1) ∧ 47 + 1 = 48 := ⟨dcAll_e (i := 31) da_X7_copyTo_0 rfl, rfl⟩
theorem q_X7_copyTo_48 : decode M_X7_copyTo.2.1 48 = .ok (.getfield 8, 3) ∧ 48 + 3 = 51 := ⟨dcAll_e (i := 32) da_X7_copyTo_0 rfl, rfl⟩
theorem q_X7_copyTo_51 : decode M_X7_copyTo.2.1 51 = .ok (.sipush 320, 3) ∧ 51 + 3 = 54 := ⟨dcAll_e (i := 33) da_X7_copyTo_0 rfl, rfl⟩
theorem q_X7_copyTo_54 : decode M_X7_copyTo.2.1 54 = .ok (.iload_n 1, 1) ∧ 54 + 1 = 55 := ⟨dcAll_e (i := 34) da_X7_copyTo_0 rfl, rfl⟩
theorem q_X7_copyTo_55 : decode M_X7_copyTo.2.1 55 = .ok (.imul, 1) ∧ 55 + 1 = 56 := ⟨dcAll_e (i := 35) da_X7_copyTo_0 rfl, rfl⟩
theorem q_X7_copyTo_56 : decode M_X7_copyTo.2.1 56 = .ok (.iload_n 3, 1) ∧ 56 + 1 = 57 := ⟨dcAll_e (i := 36) da_X7_copyTo_0 rfl, rfl⟩
theorem q_X7_copyTo_57 : decode M_X7_copyTo.2.1 57 = .ok (.iadd, 1) ∧ 57 + 1 = 58 := ⟨dcAll_e (i := 37) da_X7_copyTo_0 rfl, rfl⟩
theorem q_X7_copyTo_58 : decode M_X7_copyTo.2.1 58 = .ok (.iaload, 1) ∧ 58 + 1 = 59 := ⟨dcAll_e (i := 38) da_X7_copyTo_0 rfl, rfl⟩
theorem q_X7_copyTo_59 : decode M_X7_copyTo.2.1 59 = .ok (.iastore, 1) ∧ 59 + 1 = 60 := ⟨dcAll_e (i := 39) da_X7_copyTo_0 rfl, rfl⟩
theorem q_X7_copyTo_60 : decode M_X7_copyTo.2.1 60 = .ok (.iinc 3 1, 3) ∧ 60 + 3 = 63 := ⟨dcAll_e (i := 0) da_X7_copyTo_1 rfl, rfl⟩
theorem q_X7_copyTo_63 : decode M_X7_copyTo.2.1 63 = .ok (.goto (-37), 3) ∧ 63 + 3 = 66 ∧ ((63 : Nat) : Int) + (-37) = ((26 : Nat) : Int) := ⟨dcAll_e (i := 1) da_X7_copyTo_1 rfl, rfl, rfl⟩
theorem q_X7_copyTo_66 : decode M_X7_copyTo.2.1 66 = .ok (.return_, 1) ∧ 66 + 1 = 67 := ⟨dcAll_e (i := 2) da_X7_copyTo_1 rfl, rfl⟩
def dl_X7_trim_0 : List (Nat × Instr × Nat) := [(0, .iload_n 2, 1), (1, .istore_n 3, 1), (2, .iload_n 3, 1), (3, .ifCond .le 26, 3), (6, .aload_n 0, 1), (7, .getfield 8, 3), (10, .sipush 320, 3), (13, .iload_n 1, 1), (14, .imul, 1), (15, .iload_n 3, 1), (16, .iadd, 1), (17, .iconst 1, 1), (18, .isub, 1), (19, .iaload, 1), (20, .ifCond .ne 9, 3), (23, .iinc 3 (-1), 3), (26, .goto (-24), 3), (29, .aload_n 0, 1), (30, .getfield 14, 3), (33, .iload_n 1, 1), (34, .iload_n 3, 1), (35, .iastore, 1), (36, .aload_n 0, 1), (37, .getfield 17, 3), (40, .iload_n 1, 1), (41, .iload_n 3, 1), (42, .ifCond .ne 7, 3), (45, .iconst 0, 1), (46, .goto 9, 3), (49, .aload_n 0, 1), (50, .getfield 17, 3), (53, .iload_n 1, 1), (54, .iaload, 1), (55, .iastore, 1), (56, .return_, 1)]
theorem da_X7_trim_0 : dcAll M_X7_trim.2.1 dl_X7_trim_0 = true := by decide +kernel
theorem q_X7_trim_0 : decode M_X7_trim.2.1 0 = .ok (.iload_n 2, 1) ∧ 0 + 1 = 1 := ⟨dcAll_e (i := 0) da_X7_trim_0 rfl, rfl⟩
theorem q_X7_trim_1 : decode M_X7_trim.2.1 1 = .ok (.istore_n 3, 1) ∧ 1 + 1 = 2 := ⟨dcAll_e (i := 1) da_X7_trim_0 rfl, rfl⟩
theorem q_X7_trim_2 : decode M_X7_trim.2.1 2 = .ok (.iload_n 3, 1) ∧ 2 + 1 = 3 := ⟨dcAll_e (i := 2) da_X7_trim_0 rfl, rfl⟩
theorem q_X7_trim_3 : decode M_X7_trim.2.1 3 = .ok (.ifCond .le 26, 3) ∧ 3 + 3 = 6 ∧ ((3 : Nat) : Int) + 26 = ((29 : Nat) : Int) := ⟨dcAll_e (i := 3) da_X7_trim_0 rfl, rfl, rfl⟩
theorem q_X7_trim_6 : decode M_X7_trim.2.1 6 = .ok (.aload_n 0, 1) ∧ 6 + 1 = 7 := ⟨dcAll_e (i := 4) da_X7_trim_0 rfl, rfl⟩
theorem q_X7_trim_7 : decode M_X7_trim.2.1 7 = .ok (.getfield 8, 3) ∧ 7 + 3 = 10 := ⟨dcAll_e (i := 5) da_X7_trim_0 rfl, rfl⟩
theorem q_X7_trim_10 : decode M_X7_trim.2.1 10 = .ok (.sipush 320, 3) ∧ 10 + 3 = 13 := ⟨dcAll_e (i := 6) da_X7_trim_0 rfl, rfl⟩
theorem q_X7_trim_13 : decode M_X7_trim.2.1 13 = .ok (.iload_n 1, 1) ∧ 13 + 1 = 14 := ⟨dcAll_e (i := 7) da_X7_trim_0 rfl, rfl⟩
theorem q_X7_trim_14 : decode M_X7_trim.2.1 14 = .ok (.imul, 1) ∧ 14 + 1 = 15 := ⟨dcAll_e (i := 8) da_X7_trim_0 rfl, rfl⟩
theorem q_X7_trim_15 : decode M_X7_trim.2.1 15 = .ok (.iload_n 3, 1) ∧ 15 + 1 = 16 := ⟨dcAll_e (i := 9) da_X7_trim_0 rfl, rfl⟩
theorem q_X7_trim_16 : decode M_X7_trim.2.1 16 = .ok (.iadd, 1) ∧ 16 + 1 = 17 := ⟨dcAll_e (i := 10) da_X7_trim_0 rfl, rfl⟩
theorem q_X7_trim_17 : decode M_X7_trim.2.1 17 = .ok (.iconst 1, 1) ∧ 17 + 1 = 18 := ⟨dcAll_e (i := 11) da_X7_trim_0 rfl, rfl⟩
theorem q_X7_trim_18 : decode M_X7_trim.2.1 18 = .ok (.isub, 1) ∧ 18 + 1 = 19 := ⟨dcAll_e (i := 12) da_X7_trim_0 rfl, rfl⟩
theorem q_X7_trim_19 : decode M_X7_trim.2.1 19 = .ok (.iaload, 1) ∧ 19 + 1 = 20 := ⟨dcAll_e (i := 13) da_X7_trim_0 rfl, rfl⟩
theorem q_X7_trim_20 : decode M_X7_trim.2.1 20 = .ok (.ifCond .ne 9, 3) ∧ 20 + 3 = 23 ∧ ((20 : Nat) : Int) + 9 = ((29 : Nat) : Int) := ⟨dcAll_e (i := 14) da_X7_trim_0 rfl, rfl, rfl⟩
theorem q_X7_trim_23 : decode M_X7_trim.2.1 23 = .ok (.iinc 3 (-1), 3) ∧ 23 + 3 = 26 := ⟨dcAll_e (i := 15) da_X7_trim_0 rfl, rfl⟩
theorem q_X7_trim_26 : decode M_X7_trim.2.1 26 = .ok (.goto (-24), 3) ∧ 26 + 3 = 29 ∧ ((26 : Nat) : Int) + (-24) = ((2 : Nat) : Int) := ⟨dcAll_e (i := 16) da_X7_trim_0 rfl, rfl, rfl⟩
theorem q_X7_trim_29 : decode M_X7_trim.2.1 29 = .ok (.aload_n 0, 1) ∧ 29 + 1 = 30 := ⟨dcAll_e (i := 17) da_X7_trim_0 rfl, rfl⟩
theorem q_X7_trim_30 : decode M_X7_trim.2.1 30 = .ok (.getfield 14, 3) ∧ 30 + 3 = 33 := ⟨dcAll_e (i := 18) da_X7_trim_0 rfl, rfl⟩
theorem q_X7_trim_33 : decode M_X7_trim.2.1 33 = .ok (.iload_n 1, 1) ∧ 33 + 1 = 34 := ⟨dcAll_e (i := 19) da_X7_trim_0 rfl, rfl⟩
theorem q_X7_trim_34 : decode M_X7_trim.2.1 34 = .ok (.iload_n 3, 1) ∧ 34 + 1 = 35 := ⟨dcAll_e (i := 20) da_X7_trim_0 rfl, rfl⟩
theorem q_X7_trim_35 : decode M_X7_trim.2.1 35 = .ok (.iastore, 1) ∧ 35 + 1 = 36 := ⟨dcAll_e (i := 21) da_X7_trim_0 rfl, rfl⟩
theorem q_X7_trim_36 : decode M_X7_trim.2.1 36 = .ok (.aload_n 0, 1) ∧ 36 + 1 = 37 := ⟨dcAll_e (i := 22) da_X7_trim_0 rfl, rfl⟩
theorem q_X7_trim_37 : decode M_X7_trim.2.1 37 = .ok (.getfield 17, 3) ∧ 37 + 3 = 40 := ⟨dcAll_e (i := 23) da_X7_trim_0 rfl, rfl⟩
theorem q_X7_trim_40 : decode M_X7_trim.2.1 40 = .ok (.iload_n 1, 1) ∧ 40 + 1 = 41 := ⟨dcAll_e (i := 24) da_X7_trim_0 rfl, rfl⟩
theorem q_X7_trim_41 : decode M_X7_trim.2.1 41 = .ok (.iload_n 3, 1) ∧ 41 + 1 = 42 := ⟨dcAll_e (i := 25) da_X7_trim_0 rfl, rfl⟩
theorem q_X7_trim_42 : decode M_X7_trim.2.1 42 = .ok (.ifCond .ne 7, 3) ∧ 42 + 3 = 45 ∧ ((42 : Nat) : Int) + 7 = ((49 : Nat) : Int) := ⟨dcAll_e (i := 26) da_X7_trim_0 rfl, rfl, rfl⟩
theorem q_X7_trim_45 : decode M_X7_trim.2.1 45 = .ok (.iconst 0, 1) ∧ 45 + 1 = 46 := ⟨dcAll_e (i := 27) da_X7_trim_0 rfl, rfl⟩
theorem q_X7_trim_46 : decode M_X7_trim.2.1 46 = .ok (.goto 9, 3) ∧ 46 + 3 = 49 ∧ ((46 : Nat) : Int) + 9 = ((55 : Nat) : Int) := ⟨dcAll_e (i := 28) da_X7_trim_0 rfl, rfl, rfl⟩
theorem q_X7_trim_49 : decode M_X7_trim.2.1 49 = .ok (.aload_n 0, 1) ∧ 49 + 1 = 50 := ⟨dcAll_e (i := 29) da_X7_trim_0 rfl, rfl⟩
theorem q_X7_trim_50 : decode M_X7_trim.2.1 50 = .ok (.getfield 17, 3) ∧ 50 + 3 = 53 := ⟨dcAll_e (i := 30) da_X7_trim_0 rfl, rfl⟩
theorem q_X7_trim_53 : decode M_X7_trim.2.1 53 = .ok (.iload_n 1, 1) ∧ 53 + 1 = 54 := ⟨dcAll_e (i := 31) da_X7_trim_0 rfl, rfl⟩
theorem q_X7_trim_54 : decode M_X7_trim.2.1 54 = .ok (.iaload, 1) ∧ 54 + 1 = 55 := ⟨dcAll_e (i := 32) da_X7_trim_0 rfl, rfl⟩
theorem q_X7_trim_55 : decode M_X7_trim.2.1 55 = .ok (.iastore, 1) ∧ 55 + 1 = 56 := ⟨dcAll_e (i := 33) da_X7_trim_0 rfl, rfl⟩
theorem q_X7_trim_56 : decode M_X7_trim.2.1 56 = .ok (.return_, 1) ∧ 56 + 1 = 57 := ⟨dcAll_e (i := 34) da_X7_trim_0 rfl, rfl⟩
def dl_X7_compareSizes_0 : List (Nat × Instr × Nat) := [(0, .aload_n 0, 1), (1, .getfield 14, 3), (4, .iload_n 1, 1), (5, .iaload, 1), (6, .aload_n 0, 1), (7, .getfield 14, 3), (10, .iload_n 2, 1), (11, .iaload, 1), (12, .if_icmp .eq 17, 3), (15, .aload_n 0, 1), (16, .getfield 14, 3), (19, .iload_n 1, 1), (20, .iaload, 1), (21, .aload_n 0, 1), (22, .getfield 14, 3), (25, .iload_n 2, 1), (26, .iaload, 1), (27, .isub, 1), (28, .ireturn, 1), (29, .aload_n 0, 1), (30, .getfield 14, 3), (33, .iload_n 1, 1), (34, .iaload, 1), (35, .iconst 1, 1), (36, .isub, 1), (37, .istore_n 3, 1), (38, .iload_n 3, 1), (39, .ifCond .lt 36, 3), (42, .aload_n 0, 1), (43, .getfield 8, 3), (46, .sipush 320, 3), (49, .iload_n 1, 1), (50, .imul, 1), (51, .iload_n 3, 1), (52, .iadd, 1), (53, .iaload, 1), (54, .aload_n 0, 1), (55, .getfield 8, 3), (58, .sipush 320, 3), (61, .iload_n 2, 1)]
theorem da_X7_compareSizes_0 : dcAll M_X7_compareSizes.2.1 dl_X7_compareSizes_0 = true := by decide +kernel
def dl_X7_compareSizes_1 : List (Nat × Instr × Nat) := [(62, .imul, 1), (63, .iload_n 3, 1), (64, .iadd, 1), (65, .iaload, 1), (66, .if_icmp .ne 9, 3), (69, .iinc 3 (-1), 3), (72, .goto (-34), 3), (75, .iload_n 3, 1), (76, .ifCond .ge 7, 3), (79, .iconst 0, 1), (80, .goto 28, 3), (83, .aload_n 0, 1), (84, .getfield 8, 3), (87, .sipush 320, 3), (90, .iload_n 1, 1), (91, .imul, 1), (92, .iload_n 3, 1), (93, .iadd, 1), (94, .iaload, 1), (95, .aload_n 0, 1), (96, .getfield 8, 3), (99, .sipush 320, 3), (102, .iload_n 2, 1), (103, .imul, 1), (104, .iload_n 3, 1), (105, .iadd, 1), (106, .iaload, 1), (107, .isub, 1), (108, .ireturn, 1)]
theorem da_X7_compareSizes_1 : dcAll M_X7_compareSizes.2.1 dl_X7_compareSizes_1 = true := by decide +kernel
theorem q_X7_compareSizes_0 : decode M_X7_compareSizes.2.1 0 = .ok (.aload_n 0, 1) ∧ 0 + 1 = 1 := ⟨dcAll_e (i := 0) da_X7_compareSizes_0 rfl, rfl⟩
theorem q_X7_compareSizes_1 : decode M_X7_compareSizes.2.1 1 = .ok (.getfield 14, 3) ∧ 1 + 3 = 4 := ⟨dcAll_e (i := 1) da_X7_compareSizes_0 rfl, rfl⟩
theorem q_X7_compareSizes_4 : decode M_X7_compareSizes.2.1 4 = .ok (.iload_n 1, 1) ∧ 4 + 1 = 5 := ⟨dcAll_e (i := 2) da_X7_compareSizes_0 rfl, rfl⟩
theorem q_X7_compareSizes_5 : decode M_X7_compareSizes.2.1 5 = .ok (.iaload, 1) ∧ 5 + 1 = 6 := ⟨dcAll_e (i := 3) da_X7_compareSizes_0 rfl, rfl⟩
theorem q_X7_compareSizes_6 : decode M_X7_compareSizes.2.1 6 = .ok (.aload_n 0, 1) ∧ 6 + 1 = 7 := ⟨dcAll_e (i := 4) da_X7_compareSizes_0 rfl, rfl⟩
theorem q_X7_compareSizes_7 : decode M_X7_compareSizes.2.1 7 = .ok (.getfield 14, 3) ∧ 7 + 3 = 10 := ⟨dcAll_e (i := 5) da_X7_compareSizes_0 rfl, rfl⟩
theorem q_X7_compareSizes_10 : decode M_X7_compareSizes.2.1 10 = .ok (.iload_n 2, 1) ∧ 10 + 1 = 11 := ⟨dcAll_e (i := 6) da_X7_compareSizes_0 rfl, rfl⟩
theorem q_X7_compareSizes_11 : decode M_X7_compareSizes.2.1 11 = .ok (.iaload, 1) ∧ 11 + 1 = 12 := ⟨dcAll_e (i := 7) da_X7_compareSizes_0 rfl, rfl⟩
theorem q_X7_compareSizes_12 : decode M_X7_compareSizes.2.1 12 = .ok (.if_icmp .eq 17, 3) ∧ 12 + 3 = 15 ∧ ((12 : Nat) : Int) + 17 = ((29 : Nat) : Int) := ⟨dcAll_e (i := 8) da_X7_compareSizes_0 rfl, rfl, rfl⟩
theorem q_X7_compareSizes_15 : decode M_X7_compareSizes.2.1 15 = .ok (.aload_n 0, 1) ∧ 15 + 1 = 16 := ⟨dcAll_e (i := 9) da_X7_compareSizes_0 rfl, rfl⟩
theorem q_X7_compareSizes_16 : decode M_X7_compareSizes.2.1 16 = .ok (.getfield 14, 3) ∧ 16 + 3 = 19 := ⟨dcAll_e (i := 10) da_X7_compareSizes_0 rfl, rfl⟩
theorem q_X7_compareSizes_19 : decode M_X7_compareSizes.2.1 19 = .ok (.iload_n 1, 1) ∧ 19 + 1 = 20 := ⟨dcAll_e (i := 11) da_X7_compareSizes_0 rfl, rfl⟩
theorem q_X7_compareSizes_20 : decode M_X7_compareSizes.2.1 20 = .ok (.iaload, 1) ∧ 20 + 1 = 21 := ⟨dcAll_e (i := 12) da_X7_compareSizes_0 rfl, rfl⟩
theorem q_X7_compareSizes_21 : decode M_X7_compareSizes.2.1 21 = .ok (.aload_n 0, 1) ∧ 21 + 1 = 22 := ⟨dcAll_e (i := 13) da_X7_compareSizes_0 rfl, rfl⟩
theorem q_X7_compareSizes_22 : decode M_X7_compareSizes.2.1 22 = .ok (.getfield 14, 3) ∧ 22 + 3 = 25 := ⟨dcAll_e (i := 14) da_X7_compareSizes_0 rfl, rfl⟩
theorem q_X7_compareSizes_25 : decode M_X7_compareSizes.2.1 25 = .ok (.iload_n 2, 1) ∧ 25 + 1 = 26 := ⟨dcAll_e (i := 15) da_X7_compareSizes_0 rfl, rfl⟩
theorem q_X7_compareSizes_26 : decode M_X7_compareSizes.2.1 26 = .ok (.iaload, 1) ∧ 26 + 1 = 27 := ⟨dcAll_e (i := 16) da_X7_compareSizes_0 rfl, rfl⟩
theorem q_X7_compareSizes_27 : decode M_X7_compareSizes.2.1 27 = .ok (.isub, 1) ∧ 27 + 1 = 28 := ⟨dcAll_e (i := 17) da_X7_compareSizes_0 rfl, rfl⟩
theorem q_X7_compareSizes_28 : decode M_X7_compareSizes.2.1 28 = .ok (.ireturn, 1) ∧ 28 + 1 = 29 := ⟨dcAll_e (i := 18) da_X7_compareSizes_0 rfl, rfl⟩
theorem q_X7_compareSizes_29 : decode M_X7_compareSizes.2.1 29 = .ok (.aload_n 0, 1) ∧ 29 + 1 = 30 := ⟨dcAll_e (i := 19) da_X7_compareSizes_0 rfl, rfl⟩
theorem q_X7_compareSizes_30 : decode M_X7_compareSizes.2.1 30 = .ok (.getfield 14, 3) ∧ 30 + 3 = 33 := ⟨dcAll_e (i := 20) da_X7_compareSizes_0 rfl, rfl⟩
theorem q_X7_compareSizes_33 : decode M_X7_compareSizes.2.1 33 = .ok (.iload_n 1, 1) ∧ 33 + 1 = 34 := ⟨dcAll_e (i := 21) da_X7_compareSizes_0 rfl, rfl⟩
theorem q_X7_compareSizes_34 : decode M_X7_compareSizes.2.1 34 = .ok (.iaload, 1) ∧ 34 + 1 = 35 := ⟨dcAll_e (i := 22) da_X7_compareSizes_0 rfl, rfl⟩
theorem q_X7_compareSizes_35 : decode M_X7_compareSizes.2.1 35 = .ok (.iconst 1, 1) ∧ 35 + 1 = 36 := ⟨dcAll_e (i := 23) da_X7_compareSizes_0 rfl, rfl⟩
theorem q_X7_compareSizes_36 : decode M_X7_compareSizes.2.1 36 = .ok (.isub, 1) ∧ 36 + 1 = 37 := ⟨dcAll_e (i := 24) da_X7_compareSizes_0 rfl, rfl⟩
theorem q_X7_compareSizes_37 : decode M_X7_compareSizes.2.1 37 = .ok (.istore_n 3, 1) ∧ 37 + 1 = 38 := ⟨dcAll_e (i := 25) da_X7_compareSizes_0 rfl, rfl⟩
theorem q_X7_compareSizes_38 : decode M_X7_compareSizes.2.1 38 = .ok (.iload_n 3, 1) ∧ 38 + 1 = 39 := ⟨dcAll_e (i := 26) da_X7_compareSizes_0 rfl, rfl⟩
theorem q_X7_compareSizes_39 : decode M_X7_compareSizes.2.1 39 = .ok (.ifCond .lt 36, 3) ∧ 39 + 3 = 42 ∧ ((39 : Nat) : Int) + 36 = ((75 : Nat) : Int) := ⟨dcAll_e (i := 27) da_X7_compareSizes_0 rfl, rfl, rfl⟩
theorem q_X7_compareSizes_42 : decode M_X7_compareSizes.2.1 42 = .ok (.aload_n 0, 1) ∧ 42 + 1 = 43 := ⟨dcAll_e (i := 28) da_X7_compareSizes_0 rfl, rfl⟩
theorem q_X7_compareSizes_43 : decode M_X7_compareSizes.2.1 43 = .ok (.getfield 8, 3) ∧ 43 + 3 = 46 := ⟨dcAll_e (i := 29) da_X7_compareSizes_0 rfl, rfl⟩
theorem q_X7_compareSizes_46 : decode M_X7_compareSizes.2.1 46 = .ok (.sipush 320, 3) ∧ 46 + 3 = 49 := ⟨dcAll_e (i := 30) da_X7_compareSizes_0 rfl, rfl⟩
theorem q_X7_compareSizes_49 : decode M_X7_compareSizes.2.1 49 = .ok (.iload_n 1, 1) ∧ 49 + 1 = 50 := ⟨dcAll_e (i := 31) da_X7_compareSizes_0 rfl, rfl⟩
theorem q_X7_compareSizes_50 : decode M_X7_compareSizes.2.1 50 = .ok (.imul, 1) ∧ 50 + 1 = 51 := ⟨dcAll_e (i := 32) da_X7_compareSizes_0 rfl, rfl⟩
theorem q_X7_compareSizes_51 : decode M_X7_compareSizes.2.1 51 = .ok (.iload_n 3, 1) ∧ 51 + 1 = 52 := ⟨dcAll_e (i := 33) da_X7_compareSizes_0 rfl, rfl⟩
theorem q_X7_compareSizes_52 : decode M_X7_compareSizes.2.1 52 = .ok (.iadd, 1) ∧ 52 + 1 = 53 := ⟨dcAll_e (i := 34) da_X7_compareSizes_0 rfl, rfl⟩
theorem q_X7_compareSizes_53 : decode M_X7_compareSizes.2.1 53 = .ok (.iaload, 1) ∧ 53 + 1 = 54 := ⟨dcAll_e (i := 35) da_X7_compareSizes_0 rfl, rfl⟩
theorem q_X7_compareSizes_54 : decode M_X7_compareSizes.2.1 54 = .ok (.aload_n 0, 1) ∧ 54 + 1 = 55 := ⟨dcAll_e (i := 36) da_X7_compareSizes_0 rfl, rfl⟩
theorem q_X7_compareSizes_55 : decode M_X7_compareSizes.2.1 55 = .ok (.getfield 8, 3) ∧ 55 + 3 = 58 := ⟨dcAll_e (i := 37) da_X7_compareSizes_0 rfl, rfl⟩
theorem q_X7_compareSizes_58 : decode M_X7_compareSizes.2.1 58 = .ok (.sipush 320, 3) ∧ 58 + 3 = 61 := ⟨dcAll_e (i := 38) da_X7_compareSizes_0 rfl, rfl⟩
theorem q_X7_compareSizes_61 : decode M_X7_compareSizes.2.1 61 = .ok (.iload_n 2, 1) ∧ 61 + 1 = 62 := ⟨dcAll_e (i := 39) da_X7_compareSizes_0 rfl, rfl⟩
theorem q_X7_compareSizes_62 : decode M_X7_compareSizes.2.1 62 = .ok (.imul, 1) ∧ 62 + 1 = 63 := ⟨dcAll_e (i := 0) da_X7_compareSizes_1 rfl, rfl⟩
theorem q_X7_compareSizes_63 : decode M_X7_compareSizes.2.1 63 = .ok (.iload_n 3, 1) ∧ 63 + 1 = 64 := ⟨dcAll_e (i := 1) da_X7_compareSizes_1 rfl, rfl⟩
theorem q_X7_compareSizes_64 : decode M_X7_compareSizes.2.1 64 = .ok (.iadd, 1) ∧ 64 + 1 = 65 := ⟨dcAll_e (i := 2) da_X7_compareSizes_1 rfl, rfl⟩
theorem q_X7_compareSizes_65 : decode M_X7_compareSizes.2.1 65 = .ok (.iaload, 1) ∧ 65 + 1 = 66 := ⟨dcAll_e (i := 3) da_X7_compareSizes_1 rfl, rfl⟩
theorem q_X7_compareSizes_66 : decode M_X7_compareSizes.2.1 66 = .ok (.if_icmp .ne 9, 3) ∧ 66 + 3 = 69 ∧ ((66 : Nat) : Int) + 9 = ((75 : Nat) : Int) := ⟨dcAll_e (i := 4) da_X7_compareSizes_1 rfl, rfl, rfl⟩
theorem q_X7_compareSizes_69 : decode M_X7_compareSizes.2.1 69 = .ok (.iinc 3 (-1), 3) ∧ 69 + 3 = 72 := ⟨dcAll_e (i := 5) da_X7_compareSizes_1 rfl, rfl⟩
theorem q_X7_compareSizes_72 : decode M_X7_compareSizes.2.1 72 = .ok (.goto (-34), 3) ∧ 72 + 3 = 75 ∧ ((72 : Nat) : Int) + (-34) = ((38 : Nat) : Int) := ⟨dcAll_e (i := 6) da_X7_compareSizes_1 rfl, rfl, rfl⟩
theorem q_X7_compareSizes_75 : decode M_X7_compareSizes.2.1 75 = .ok (.iload_n 3, 1) ∧ 75 + 1 = 76 := ⟨dcAll_e (i := 7) da_X7_compareSizes_1 rfl, rfl⟩
theorem q_X7_compareSizes_76 : decode M_X7_compareSizes.2.1 76 = .ok (.ifCond .ge 7, 3) ∧ 76 + 3 = 79 ∧ ((76 : Nat) : Int) + 7 = ((83 : Nat) : Int) := ⟨dcAll_e (i := 8) da_X7_compareSizes_1 rfl, rfl, rfl⟩
theorem q_X7_compareSizes_79 : decode M_X7_compareSizes.2.1 79 = .ok (.iconst 0, 1) ∧ 79 + 1 = 80 := ⟨dcAll_e (i := 9) da_X7_compareSizes_1 rfl, rfl⟩
theorem q_X7_compareSizes_80 : decode M_X7_compareSizes.2.1 80 = .ok (.goto 28, 3) ∧ 80 + 3 = 83 ∧ ((80 : Nat) : Int) + 28 = ((108 : Nat) : Int) := ⟨dcAll_e (i := 10) da_X7_compareSizes_1 rfl, rfl, rfl⟩
theorem q_X7_compareSizes_83 : decode M_X7_compareSizes.2.1 83 = .ok (.aload_n 0, 1) ∧ 83 + 1 = 84 := ⟨dcAll_e (i := 11) da_X7_compareSizes_1 rfl, rfl⟩
theorem q_X7_compareSizes_84 : decode M_X7_compareSizes.2.1 84 = .ok (.getfield 8, 3) ∧ 84 + 3 = 87 := ⟨dcAll_e (i := 12) da_X7_compareSizes_1 rfl, rfl⟩
theorem q_X7_compareSizes_87 : decode M_X7_compareSizes.2.1 87 = .ok (.sipush 320, 3) ∧ 87 + 3 = 90 := ⟨dcAll_e (i := 13) da_X7_compareSizes_1 rfl, rfl⟩
theorem q_X7_compareSizes_90 : decode M_X7_compareSizes.2.1 90 = .ok (.iload_n 1, 1) ∧ 90 + 1 = 91 := ⟨dcAll_e (i := 14) da_X7_compareSizes_1 rfl, rfl⟩
theorem q_X7_compareSizes_91 : decode M_X7_compareSizes.2.1 91 = .ok (.imul, 1) ∧ 91 + 1 = 92 := ⟨dcAll_e (i := 15) da_X7_compareSizes_1 rfl, rfl⟩
theorem q_X7_compareSizes_92 : decode M_X7_compareSizes.2.1 92 = .ok (.iload_n 3, 1) ∧ 92 + 1 = 93 := ⟨dcAll_e (i := 16) da_X7_compareSizes_1 rfl, rfl⟩
theorem q_X7_compareSizes_93 : decode M_X7_compareSizes.2.1 93 = .ok (.iadd, 1) ∧ 93 + 1 = 94 := ⟨dcAll_e (i := 17) da_X7_compareSizes_1 rfl, rfl⟩
theorem q_X7_compareSizes_94 : decode M_X7_compareSizes.2.1 94 = .ok (.iaload, 1) ∧ 94 + 1 = 95 := ⟨dcAll_e (i := 18) da_X7_compareSizes_1 rfl, rfl⟩
theorem q_X7_compareSizes_95 : decode M_X7_compareSizes.2.1 95 = .ok (.aload_n 0, 1) ∧ 95 + 1 = 96 := ⟨dcAll_e (i := 19) da_X7_compareSizes_1 rfl, rfl⟩
theorem q_X7_compareSizes_96 : decode M_X7_compareSizes.2.1 96 = .ok (.getfield 8, 3) ∧ 96 + 3 = 99 := ⟨dcAll_e (i := 20) da_X7_compareSizes_1 rfl, rfl⟩
theorem q_X7_compareSizes_99 : decode M_X7_compareSizes.2.1 99 = .ok (.sipush 320, 3) ∧ 99 + 3 = 102 := ⟨dcAll_e (i := 21) da_X7_compareSizes_1 rfl, rfl⟩
theorem q_X7_compareSizes_102 : decode M_X7_compareSizes.2.1 102 = .ok (.iload_n 2, 1) ∧ 102 + 1 = 103 := ⟨dcAll_e (i := 22) da_X7_compareSizes_1 rfl, rfl⟩
theorem q_X7_compareSizes_103 : decode M_X7_compareSizes.2.1 103 = .ok (.imul, 1) ∧ 103 + 1 = 104 := ⟨dcAll_e (i := 23) da_X7_compareSizes_1 rfl, rfl⟩
theorem q_X7_compareSizes_104 : decode M_X7_compareSizes.2.1 104 = .ok (.iload_n 3, 1) ∧ 104 + 1 = 105 := ⟨dcAll_e (i := 24) da_X7_compareSizes_1 rfl, rfl⟩
theorem q_X7_compareSizes_105 : decode M_X7_compareSizes.2.1 105 = .ok (.iadd, 1) ∧ 105 + 1 = 106 := ⟨dcAll_e (i := 25) da_X7_compareSizes_1 rfl, rfl⟩
theorem q_X7_compareSizes_106 : decode M_X7_compareSizes.2.1 106 = .ok (.iaload, 1) ∧ 106 + 1 = 107 := ⟨dcAll_e (i := 26) da_X7_compareSizes_1 rfl, rfl⟩
theorem q_X7_compareSizes_107 : decode M_X7_compareSizes.2.1 107 = .ok (.isub, 1) ∧ 107 + 1 = 108 := ⟨dcAll_e (i := 27) da_X7_compareSizes_1 rfl, rfl⟩
theorem q_X7_compareSizes_108 : decode M_X7_compareSizes.2.1 108 = .ok (.ireturn, 1) ∧ 108 + 1 = 109 := ⟨dcAll_e (i := 28) da_X7_compareSizes_1 rfl, rfl⟩
def dl_X7_compareTo_0 : List (Nat × Instr × Nat) := [(0, .aload_n 0, 1), (1, .getfield 17, 3), (4, .iload_n 1, 1), (5, .iaload, 1), (6, .aload_n 0, 1), (7, .getfield 17, 3), (10, .iload_n 2, 1), (11, .iaload, 1), (12, .if_icmp .eq 17, 3), (15, .aload_n 0, 1), (16, .getfield 17, 3), (19, .iload_n 1, 1), (20, .iaload, 1), (21, .aload_n 0, 1), (22, .getfield 17, 3), (25, .iload_n 2, 1), (26, .iaload, 1), (27, .isub, 1), (28, .ireturn, 1), (29, .aload_n 0, 1), (30, .getfield 17, 3), (33, .iload_n 1, 1), (34, .iaload, 1), (35, .ifCond .ge 12, 3), (38, .aload_n 0, 1), (39, .iload_n 2, 1), (40, .iload_n 1, 1), (41, .invokevirtual 49, 3), (44, .goto 9, 3), (47, .aload_n 0, 1), (48, .iload_n 1, 1), (49, .iload_n 2, 1), (50, .invokevirtual 49, 3), (53, .ireturn, 1)]
theorem da_X7_compareTo_0 : dcAll M_X7_compareTo.2.1 dl_X7_compareTo_0 = true := by decide +kernel
theorem q_X7_compareTo_0 : decode M_X7_compareTo.2.1 0 = .ok (.aload_n 0, 1) ∧ 0 + 1 = 1 := ⟨dcAll_e (i := 0) da_X7_compareTo_0 rfl, rfl⟩
theorem q_X7_compareTo_1 : decode M_X7_compareTo.2.1 1 = .ok (.getfield 17, 3) ∧ 1 + 3 = 4 := ⟨dcAll_e (i := 1) da_X7_compareTo_0 rfl, rfl⟩
theorem q_X7_compareTo_4 : decode M_X7_compareTo.2.1 4 = .ok (.iload_n 1, 1) ∧ 4 + 1 = 5 := ⟨dcAll_e (i := 2) da_X7_compareTo_0 rfl, rfl⟩
theorem q_X7_compareTo_5 : decode M_X7_compareTo.2.1 5 = .ok (.iaload, 1) ∧ 5 + 1 = 6 := ⟨dcAll_e (i := 3) da_X7_compareTo_0 rfl, rfl⟩
theorem q_X7_compareTo_6 : decode M_X7_compareTo.2.1 6 = .ok (.aload_n 0, 1) ∧ 6 + 1 = 7 := ⟨dcAll_e (i := 4) da_X7_compareTo_0 rfl, rfl⟩
theorem q_X7_compareTo_7 : decode M_X7_compareTo.2.1 7 = .ok (.getfield 17, 3) ∧ 7 + 3 = 10 := ⟨dcAll_e (i := 5) da_X7_compareTo_0 rfl, rfl⟩
theorem q_X7_compareTo_10 : decode M_X7_compareTo.2.1 10 = .ok (.iload_n 2, 1) ∧ 10 + 1 = 11 := ⟨dcAll_e (i := 6) da_X7_compareTo_0 rfl, rfl⟩
theorem q_X7_compareTo_11 : decode M_X7_compareTo.2.1 11 = .ok (.iaload, 1) ∧ 11 + 1 = 12 := ⟨dcAll_e (i := 7) da_X7_compareTo_0 rfl, rfl⟩
theorem q_X7_compareTo_12 : decode M_X7_compareTo.2.1 12 = .ok (.if_icmp .eq 17, 3) ∧ 12 + 3 = 15 ∧ ((12 : Nat) : Int) + 17 = ((29 : Nat) : Int) := ⟨dcAll_e (i := 8) da_X7_compareTo_0 rfl, rfl, rfl⟩
theorem q_X7_compareTo_15 : decode M_X7_compareTo.2.1 15 = .ok (.aload_n 0, 1) ∧ 15 + 1 = 16 := ⟨dcAll_e (i := 9) da_X7_compareTo_0 rfl, rfl⟩
theorem q_X7_compareTo_16 : decode M_X7_compareTo.2.1 16 = .ok (.getfield 17, 3) ∧ 16 + 3 = 19 := ⟨dcAll_e (i := 10) da_X7_compareTo_0 rfl, rfl⟩
theorem q_X7_compareTo_19 : decode M_X7_compareTo.2.1 19 = .ok (.iload_n 1, 1) ∧ 19 + 1 = 20 := ⟨dcAll_e (i := 11) da_X7_compareTo_0 rfl, rfl⟩
theorem q_X7_compareTo_20 : decode M_X7_compareTo.2.1 20 = .ok (.iaload, 1) ∧ 20 + 1 = 21 := ⟨dcAll_e (i := 12) da_X7_compareTo_0 rfl, rfl⟩
theorem q_X7_compareTo_21 : decode M_X7_compareTo.2.1 21 = .ok (.aload_n 0, 1) ∧ 21 + 1 = 22 := ⟨dcAll_e (i := 13) da_X7_compareTo_0 rfl, rfl⟩
theorem q_X7_compareTo_22 : decode M_X7_compareTo.2.1 22 = .ok (.getfield 17, 3) ∧ 22 + 3 = 25 := ⟨dcAll_e (i := 14) da_X7_compareTo_0 rfl, rfl⟩
theorem q_X7_compareTo_25 : decode M_X7_compareTo.2.1 25 = .ok (.iload_n 2, 1) ∧ 25 + 1 = 26 := ⟨dcAll_e (i := 15) da_X7_compareTo_0 rfl, rfl⟩
theorem q_X7_compareTo_26 : decode M_X7_compareTo.2.1 26 = .ok (.iaload, 1) ∧ 26 + 1 = 27 := ⟨dcAll_e (i := 16) da_X7_compareTo_0 rfl, rfl⟩
theorem q_X7_compareTo_27 : decode M_X7_compareTo.2.1 27 = .ok (.isub, 1) ∧ 27 + 1 = 28 := ⟨dcAll_e (i := 17) da_X7_compareTo_0 rfl, rfl⟩
theorem q_X7_compareTo_28 : decode M_X7_compareTo.2.1 28 = .ok (.ireturn, 1) ∧ 28 + 1 = 29 := ⟨dcAll_e (i := 18) da_X7_compareTo_0 rfl, rfl⟩
theorem q_X7_compareTo_29 : decode M_X7_compareTo.2.1 29 = .ok (.aload_n 0, 1) ∧ 29 + 1 = 30 := ⟨dcAll_e (i := 19) da_X7_compareTo_0 rfl, rfl⟩
theorem q_X7_compareTo_30 : decode M_X7_compareTo.2.1 30 = .ok (.getfield 17, 3) ∧ 30 + 3 = 33 := ⟨dcAll_e (i := 20) da_X7_compareTo_0 rfl, rfl⟩
theorem q_X7_compareTo_33 : decode M_X7_compareTo.2.1 33 = .ok (.iload_n 1, 1) ∧ 33 + 1 = 34 := ⟨dcAll_e (i := 21) da_X7_compareTo_0 rfl, rfl⟩
theorem q_X7_compareTo_34 : decode M_X7_compareTo.2.1 34 = .ok (.iaload, 1) ∧ 34 + 1 = 35 := ⟨dcAll_e (i := 22) da_X7_compareTo_0 rfl, rfl⟩
theorem q_X7_compareTo_35 : decode M_X7_compareTo.2.1 35 = .ok (.ifCond .ge 12, 3) ∧ 35 + 3 = 38 ∧ ((35 : Nat) : Int) + 12 = ((47 : Nat) : Int) := ⟨dcAll_e (i := 23) da_X7_compareTo_0 rfl, rfl, rfl⟩
theorem q_X7_compareTo_38 : decode M_X7_compareTo.2.1 38 = .ok (.aload_n 0, 1) ∧ 38 + 1 = 39 := ⟨dcAll_e (i := 24) da_X7_compareTo_0 rfl, rfl⟩
theorem q_X7_compareTo_39 : decode M_X7_compareTo.2.1 39 = .ok (.iload_n 2, 1) ∧ 39 + 1 = 40 := ⟨dcAll_e (i := 25) da_X7_compareTo_0 rfl, rfl⟩
theorem q_X7_compareTo_40 : decode M_X7_compareTo.2.1 40 = .ok (.iload_n 1, 1) ∧ 40 + 1 = 41 := ⟨dcAll_e (i := 26) da_X7_compareTo_0 rfl, rfl⟩
theorem q_X7_compareTo_41 : decode M_X7_compareTo.2.1 41 = .ok (.invokevirtual 49, 3) ∧ 41 + 3 = 44 := ⟨dcAll_e (i := 27) da_X7_compareTo_0 rfl, rfl⟩
theorem cd_X7_compareSizes : Cond.code M_X7_compareSizes.1 M_X7_compareSizes.2.1 M_X7_compareSizes.2.2.1 M_X7_compareSizes.2.2.2.1 ∈ en_tbl := inT4 73 rfl rfl
theorem g_X7_compareTo_41 : en_C M_X7_compareTo M_X7_compareSizes 49 2 := ⟨⟨inT4 70 rfl rfl, in_X7, cd_X7_compareSizes⟩, ⟨by decide, by decide, by decide +kernel⟩, by decide, by decide⟩
theorem w_X7_compareSizes : Cond.instanceMethod M_X7_compareSizes.1 ∈ en_tbl ∧ Cond.selects M_X7_compareSizes.1.cls M_X7_compareSizes.1 M_X7_compareSizes.1 ∈ en_tbl := ⟨inT4 72 rfl rfl, by decide +kernel⟩
theorem q_X7_compareTo_44 : decode M_X7_compareTo.2.1 44 = .ok (.goto 9, 3) ∧ 44 + 3 = 47 ∧ ((44 : Nat) : Int) + 9 = ((53 : Nat) : Int) := ⟨dcAll_e (i := 28) da_X7_compareTo_0 rfl, rfl, rfl⟩
theorem q_X7_compareTo_47 : decode M_X7_compareTo.2.1 47 = .ok (.aload_n 0, 1) ∧ 47 + 1 = 48 := ⟨dcAll_e (i := 29) da_X7_compareTo_0 rfl, rfl⟩
theorem q_X7_compareTo_48 : decode M_X7_compareTo.2.1 48 = .ok (.iload_n 1, 1) ∧ 48 + 1 = 49 := ⟨dcAll_e (i := 30) da_X7_compareTo_0 rfl, rfl⟩
theorem q_X7_compareTo_49 : decode M_X7_compareTo.2.1 49 = .ok (.iload_n 2, 1) ∧ 49 + 1 = 50 := ⟨dcAll_e (i := 31) da_X7_compareTo_0 rfl, rfl⟩
theorem q_X7_compareTo_50 : decode M_X7_compareTo.2.1 50 = .ok (.invokevirtual 49, 3) ∧ 50 + 3 = 53 := ⟨dcAll_e (i := 32) da_X7_compareTo_0 rfl, rfl⟩
theorem g_X7_compareTo_50 : en_C M_X7_compareTo M_X7_compareSizes 49 2 := ⟨⟨inT4 70 rfl rfl, in_X7, cd_X7_compareSizes⟩, ⟨by decide, by decide, by decide +kernel⟩, by decide, by decide⟩
theorem q_X7_compareTo_53 : decode M_X7_compareTo.2.1 53 = .ok (.ireturn, 1) ∧ 53 + 1 = 54 := ⟨dcAll_e (i := 33) da_X7_compareTo_0 rfl, rfl⟩
def dl_X7_addTo_0 : List (Nat × Instr × Nat) := [(0, .aload_n 0, 1), (1, .getfield 17, 3), (4, .iload_n 2, 1), (5, .iaload, 1), (6, .istore 5, 2), (8, .aload_n 0, 1), (9, .getfield 17, 3), (12, .iload_n 3, 1), (13, .iaload, 1), (14, .iload 4, 2), (16, .imul, 1), (17, .istore 6, 2), (19, .iload 6, 2), (21, .ifCond .ne 12, 3), (24, .aload_n 0, 1), (25, .iload_n 2, 1), (26, .iload_n 1, 1), (27, .invokevirtual 53, 3), (30, .goto 80, 3), (33, .iload 5, 2), (35, .ifCond .ne 20, 3), (38, .aload_n 0, 1), (39, .iload_n 3, 1), (40, .iload_n 1, 1), (41, .invokevirtual 53, 3), (44, .aload_n 0, 1), (45, .getfield 17, 3), (48, .iload_n 1, 1), (49, .iload 6, 2), (51, .iastore, 1), (52, .goto 58, 3), (55, .iload 5, 2), (57, .iload 6, 2), (59, .if_icmp .ne 21, 3), (62, .aload_n 0, 1), (63, .iload_n 1, 1), (64, .iload_n 2, 1), (65, .iload_n 3, 1), (66, .invokevirtual 57, 3), (69, .aload_n 0, 1)]
theorem da_X7_addTo_0 : dcAll M_X7_addTo.2.1 dl_X7_addTo_0 = true := by decide +kernel
def dl_X7_addTo_1 : List (Nat × Instr × Nat) := [(70, .getfield 17, 3), (73, .iload_n 1, 1), (74, .iload 5, 2), (76, .iastore, 1), (77, .goto 33, 3), (80, .aload_n 0, 1), (81, .iload_n 2, 1), (82, .iload_n 3, 1), (83, .invokevirtual 49, 3), (86, .ifCond .lt 15, 3), (89, .aload_n 0, 1), (90, .iload_n 1, 1), (91, .iload_n 2, 1), (92, .iload_n 3, 1), (93, .iload 5, 2), (95, .invokevirtual 61, 3), (98, .goto 12, 3), (101, .aload_n 0, 1), (102, .iload_n 1, 1), (103, .iload_n 3, 1), (104, .iload_n 2, 1), (105, .iload 6, 2), (107, .invokevirtual 61, 3), (110, .return_, 1)]
theorem da_X7_addTo_1 : dcAll M_X7_addTo.2.1 dl_X7_addTo_1 = true := by decide +kernel
theorem q_X7_addTo_0 : decode M_X7_addTo.2.1 0 = .ok (.aload_n 0, 1) ∧ 0 + 1 = 1 := ⟨dcAll_e (i := 0) da_X7_addTo_0 rfl, rfl⟩
theorem q_X7_addTo_1 : decode M_X7_addTo.2.1 1 = .ok (.getfield 17, 3) ∧ 1 + 3 = 4 := ⟨dcAll_e (i := 1) da_X7_addTo_0 rfl, rfl⟩
theorem q_X7_addTo_4 : decode M_X7_addTo.2.1 4 = .ok (.iload_n 2, 1) ∧ 4 + 1 = 5 := ⟨dcAll_e (i := 2) da_X7_addTo_0 rfl, rfl⟩
theorem q_X7_addTo_5 : decode M_X7_addTo.2.1 5 = .ok (.iaload, 1) ∧ 5 + 1 = 6 := ⟨dcAll_e (i := 3) da_X7_addTo_0 rfl, rfl⟩
theorem q_X7_addTo_6 : decode M_X7_addTo.2.1 6 = .ok (.istore 5, 2) ∧ 6 + 2 = 8 := ⟨dcAll_e (i := 4) da_X7_addTo_0 rfl, rfl⟩
theorem q_X7_addTo_8 : decode M_X7_addTo.2.1 8 = .ok (.aload_n 0, 1) ∧ 8 + 1 = 9 := ⟨dcAll_e (i := 5) da_X7_addTo_0 rfl, rfl⟩
theorem q_X7_addTo_9 : decode M_X7_addTo.2.1 9 = .ok (.getfield 17, 3) ∧ 9 + 3 = 12 := ⟨dcAll_e (i := 6) da_X7_addTo_0 rfl, rfl⟩
theorem q_X7_addTo_12 : decode M_X7_addTo.2.1 12 = .ok (.iload_n 3, 1) ∧ 12 + 1 = 13 := ⟨dcAll_e (i := 7) da_X7_addTo_0 rfl, rfl⟩
theorem q_X7_addTo_13 : decode M_X7_addTo.2.1 13 = .ok (.iaload, 1) ∧ 13 + 1 = 14 := ⟨dcAll_e (i := 8) da_X7_addTo_0 rfl, rfl⟩
theorem q_X7_addTo_14 : decode M_X7_addTo.2.1 14 = .ok (.iload 4, 2) ∧ 14 + 2 = 16 := ⟨dcAll_e (i := 9) da_X7_addTo_0 rfl, rfl⟩
theorem q_X7_addTo_16 : decode M_X7_addTo.2.1 16 = .ok (.imul, 1) ∧ 16 + 1 = 17 := ⟨dcAll_e (i := 10) da_X7_addTo_0 rfl, rfl⟩
theorem q_X7_addTo_17 : decode M_X7_addTo.2.1 17 = .ok (.istore 6, 2) ∧ 17 + 2 = 19 := ⟨dcAll_e (i := 11) da_X7_addTo_0 rfl, rfl⟩
theorem q_X7_addTo_19 : decode M_X7_addTo.2.1 19 = .ok (.iload 6, 2) ∧ 19 + 2 = 21 := ⟨dcAll_e (i := 12) da_X7_addTo_0 rfl, rfl⟩
theorem q_X7_addTo_21 : decode M_X7_addTo.2.1 21 = .ok (.ifCond .ne 12, 3) ∧ 21 + 3 = 24 ∧ ((21 : Nat) : Int) + 12 = ((33 : Nat) : Int) := ⟨dcAll_e (i := 13) da_X7_addTo_0 rfl, rfl, rfl⟩
theorem q_X7_addTo_24 : decode M_X7_addTo.2.1 24 = .ok (.aload_n 0, 1) ∧ 24 + 1 = 25 := ⟨dcAll_e (i := 14) da_X7_addTo_0 rfl, rfl⟩
theorem q_X7_addTo_25 : decode M_X7_addTo.2.1 25 = .ok (.iload_n 2, 1) ∧ 25 + 1 = 26 := ⟨dcAll_e (i := 15) da_X7_addTo_0 rfl, rfl⟩
theorem q_X7_addTo_26 : decode M_X7_addTo.2.1 26 = .ok (.iload_n 1, 1) ∧ 26 + 1 = 27 := ⟨dcAll_e (i := 16) da_X7_addTo_0 rfl, rfl⟩
theorem q_X7_addTo_27 : decode M_X7_addTo.2.1 27 = .ok (.invokevirtual 53, 3) ∧ 27 + 3 = 30 := ⟨dcAll_e (i := 17) da_X7_addTo_0 rfl, rfl⟩
theorem cd_X7_copyTo : Cond.code M_X7_copyTo.1 M_X7_copyTo.2.1 M_X7_copyTo.2.2.1 M_X7_copyTo.2.2.2.1 ∈ en_tbl := inT4 61 rfl rfl
theorem g_X7_addTo_27 : en_C M_X7_addTo M_X7_copyTo 53 2 := ⟨⟨inT4 58 rfl rfl, in_X7, cd_X7_copyTo⟩, ⟨by decide, by decide, by decide +kernel⟩, by decide, by decide⟩
theorem w_X7_copyTo : Cond.instanceMethod M_X7_copyTo.1 ∈ en_tbl ∧ Cond.selects M_X7_copyTo.1.cls M_X7_copyTo.1 M_X7_copyTo.1 ∈ en_tbl := ⟨inT4 60 rfl rfl, by decide +kernel⟩
theorem q_X7_addTo_30 : decode M_X7_addTo.2.1 30 = .ok (.goto 80, 3) ∧ 30 + 3 = 33 ∧ ((30 : Nat) : Int) + 80 = ((110 : Nat) : Int) := ⟨dcAll_e (i := 18) da_X7_addTo_0 rfl, rfl, rfl⟩
theorem q_X7_addTo_33 : decode M_X7_addTo.2.1 33 = .ok (.iload 5, 2) ∧ 33 + 2 = 35 := ⟨dcAll_e (i := 19) da_X7_addTo_0 rfl, rfl⟩
theorem q_X7_addTo_35 : decode M_X7_addTo.2.1 35 = .ok (.ifCond .ne 20, 3) ∧ 35 + 3 = 38 ∧ ((35 : Nat) : Int) + 20 = ((55 : Nat) : Int) := ⟨dcAll_e (i := 20) da_X7_addTo_0 rfl, rfl, rfl⟩
theorem q_X7_addTo_38 : decode M_X7_addTo.2.1 38 = .ok (.aload_n 0, 1) ∧ 38 + 1 = 39 := ⟨dcAll_e (i := 21) da_X7_addTo_0 rfl, rfl⟩
theorem q_X7_addTo_39 : decode M_X7_addTo.2.1 39 = .ok (.iload_n 3, 1) ∧ 39 + 1 = 40 := ⟨dcAll_e (i := 22) da_X7_addTo_0 rfl, rfl⟩
theorem q_X7_addTo_40 : decode M_X7_addTo.2.1 40 = .ok (.iload_n 1, 1) ∧ 40 + 1 = 41 := ⟨dcAll_e (i := 23) da_X7_addTo_0 rfl, rfl⟩
theorem q_X7_addTo_41 : decode M_X7_addTo.2.1 41 = .ok (.invokevirtual 53, 3) ∧ 41 + 3 = 44 := ⟨dcAll_e (i := 24) da_X7_addTo_0 rfl, rfl⟩
theorem g_X7_addTo_41 : en_C M_X7_addTo M_X7_copyTo 53 2 := ⟨⟨inT4 58 rfl rfl, in_X7, cd_X7_copyTo⟩, ⟨by decide, by decide, by decide +kernel⟩, by decide, by decide⟩
theorem q_X7_addTo_44 : decode M_X7_addTo.2.1 44 = .ok (.aload_n 0, 1) ∧ 44 + 1 = 45 := ⟨dcAll_e (i := 25) da_X7_addTo_0 rfl, rfl⟩
theorem q_X7_addTo_45 : decode M_X7_addTo.2.1 45 = .ok (.getfield 17, 3) ∧ 45 + 3 = 48 := ⟨dcAll_e (i := 26) da_X7_addTo_0 rfl, rfl⟩
theorem q_X7_addTo_48 : decode M_X7_addTo.2.1 48 = .ok (.iload_n 1, 1) ∧ 48 + 1 = 49 := ⟨dcAll_e (i := 27) da_X7_addTo_0 rfl, rfl⟩
theorem q_X7_addTo_49 : decode M_X7_addTo.2.1 49 = .ok (.iload 6, 2) ∧ 49 + 2 = 51 := ⟨dcAll_e (i := 28) da_X7_addTo_0 rfl, rfl⟩
theorem q_X7_addTo_51 : decode M_X7_addTo.2.1 51 = .ok (.iastore, 1) ∧ 51 + 1 = 52 := ⟨dcAll_e (i := 29) da_X7_addTo_0 rfl, rfl⟩
theorem q_X7_addTo_52 : decode M_X7_addTo.2.1 52 = .ok (.goto 58, 3) ∧ 52 + 3 = 55 ∧ ((52 : Nat) : Int) + 58 = ((110 : Nat) : Int) := ⟨dcAll_e (i := 30) da_X7_addTo_0 rfl, rfl, rfl⟩
theorem q_X7_addTo_55 : decode M_X7_addTo.2.1 55 = .ok (.iload 5, 2) ∧ 55 + 2 = 57 := ⟨dcAll_e (i := 31) da_X7_addTo_0 rfl, rfl⟩
theorem q_X7_addTo_57 : decode M_X7_addTo.2.1 57 = .ok (.iload 6, 2) ∧ 57 + 2 = 59 := ⟨dcAll_e (i := 32) da_X7_addTo_0 rfl, rfl⟩
theorem q_X7_addTo_59 : decode M_X7_addTo.2.1 59 = .ok (.if_icmp .ne 21, 3) ∧ 59 + 3 = 62 ∧ ((59 : Nat) : Int) + 21 = ((80 : Nat) : Int) := ⟨dcAll_e (i := 33) da_X7_addTo_0 rfl, rfl, rfl⟩
theorem q_X7_addTo_62 : decode M_X7_addTo.2.1 62 = .ok (.aload_n 0, 1) ∧ 62 + 1 = 63 := ⟨dcAll_e (i := 34) da_X7_addTo_0 rfl, rfl⟩
theorem q_X7_addTo_63 : decode M_X7_addTo.2.1 63 = .ok (.iload_n 1, 1) ∧ 63 + 1 = 64 := ⟨dcAll_e (i := 35) da_X7_addTo_0 rfl, rfl⟩
theorem q_X7_addTo_64 : decode M_X7_addTo.2.1 64 = .ok (.iload_n 2, 1) ∧ 64 + 1 = 65 := ⟨dcAll_e (i := 36) da_X7_addTo_0 rfl, rfl⟩
theorem q_X7_addTo_65 : decode M_X7_addTo.2.1 65 = .ok (.iload_n 3, 1) ∧ 65 + 1 = 66 := ⟨dcAll_e (i := 37) da_X7_addTo_0 rfl, rfl⟩
theorem q_X7_addTo_66 : decode M_X7_addTo.2.1 66 = .ok (.invokevirtual 57, 3) ∧ 66 + 3 = 69 := ⟨dcAll_e (i := 38) da_X7_addTo_0 rfl, rfl⟩
theorem cd_X7_addSizes : Cond.code M_X7_addSizes.1 M_X7_addSizes.2.1 M_X7_addSizes.2.2.1 M_X7_addSizes.2.2.2.1 ∈ en_tbl := inT4 94 rfl rfl
theorem g_X7_addTo_66 : en_C M_X7_addTo M_X7_addSizes 57 3 := ⟨⟨inT4 91 rfl rfl, in_X7, cd_X7_addSizes⟩, ⟨by decide, by decide, by decide +kernel⟩, by decide, by decide⟩
theorem w_X7_addSizes : Cond.instanceMethod M_X7_addSizes.1 ∈ en_tbl ∧ Cond.selects M_X7_addSizes.1.cls M_X7_addSizes.1 M_X7_addSizes.1 ∈ en_tbl := ⟨inT4 93 rfl rfl, by decide +kernel⟩
theorem q_X7_addTo_69 : decode M_X7_addTo.2.1 69 = .ok (.aload_n 0, 1) ∧ 69 + 1 = 70 := ⟨dcAll_e (i := 39) da_X7_addTo_0 rfl, rfl⟩
theorem q_X7_addTo_70 : decode M_X7_addTo.2.1 70 = .ok (.getfield 17, 3) ∧ 70 + 3 = 73 := ⟨dcAll_e (i := 0) da_X7_addTo_1 rfl, rfl⟩
theorem q_X7_addTo_73 : decode M_X7_addTo.2.1 73 = .ok (.iload_n 1, 1) ∧ 73 + 1 = 74 := ⟨dcAll_e (i := 1) da_X7_addTo_1 rfl, rfl⟩
theorem q_X7_addTo_74 : decode M_X7_addTo.2.1 74 = .ok (.iload 5, 2) ∧ 74 + 2 = 76 := ⟨dcAll_e (i := 2) da_X7_addTo_1 rfl, rfl⟩
theorem q_X7_addTo_76 : decode M_X7_addTo.2.1 76 = .ok (.iastore, 1) ∧ 76 + 1 = 77 := ⟨dcAll_e (i := 3) da_X7_addTo_1 rfl, rfl⟩
theorem q_X7_addTo_77 : decode M_X7_addTo.2.1 77 = .ok (.goto 33, 3) ∧ 77 + 3 = 80 ∧ ((77 : Nat) : Int) + 33 = ((110 : Nat) : Int) := ⟨dcAll_e (i := 4) da_X7_addTo_1 rfl, rfl, rfl⟩
theorem q_X7_addTo_80 : decode M_X7_addTo.2.1 80 = .ok (.aload_n 0, 1) ∧ 80 + 1 = 81 := ⟨dcAll_e (i := 5) da_X7_addTo_1 rfl, rfl⟩
theorem q_X7_addTo_81 : decode M_X7_addTo.2.1 81 = .ok (.iload_n 2, 1) ∧ 81 + 1 = 82 := ⟨dcAll_e (i := 6) da_X7_addTo_1 rfl, rfl⟩
theorem q_X7_addTo_82 : decode M_X7_addTo.2.1 82 = .ok (.iload_n 3, 1) ∧ 82 + 1 = 83 := ⟨dcAll_e (i := 7) da_X7_addTo_1 rfl, rfl⟩
theorem q_X7_addTo_83 : decode M_X7_addTo.2.1 83 = .ok (.invokevirtual 49, 3) ∧ 83 + 3 = 86 := ⟨dcAll_e (i := 8) da_X7_addTo_1 rfl, rfl⟩
theorem g_X7_addTo_83 : en_C M_X7_addTo M_X7_compareSizes 49 2 := ⟨⟨inT4 70 rfl rfl, in_X7, cd_X7_compareSizes⟩, ⟨by decide, by decide, by decide +kernel⟩, by decide, by decide⟩
theorem q_X7_addTo_86 : decode M_X7_addTo.2.1 86 = .ok (.ifCond .lt 15, 3) ∧ 86 + 3 = 89 ∧ ((86 : Nat) : Int) + 15 = ((101 : Nat) : Int) := ⟨dcAll_e (i := 9) da_X7_addTo_1 rfl, rfl, rfl⟩
theorem q_X7_addTo_89 : decode M_X7_addTo.2.1 89 = .ok (.aload_n 0, 1) ∧ 89 + 1 = 90 := ⟨dcAll_e (i := 10) da_X7_addTo_1 rfl, rfl⟩
theorem q_X7_addTo_90 : decode M_X7_addTo.2.1 90 = .ok (.iload_n 1, 1) ∧ 90 + 1 = 91 := ⟨dcAll_e (i := 11) da_X7_addTo_1 rfl, rfl⟩
theorem q_X7_addTo_91 : decode M_X7_addTo.2.1 91 = .ok (.iload_n 2, 1) ∧ 91 + 1 = 92 := ⟨dcAll_e (i := 12) da_X7_addTo_1 rfl, rfl⟩
theorem q_X7_addTo_92 : decode M_X7_addTo.2.1 92 = .ok (.iload_n 3, 1) ∧ 92 + 1 = 93 := ⟨dcAll_e (i := 13) da_X7_addTo_1 rfl, rfl⟩
theorem q_X7_addTo_93 : decode M_X7_addTo.2.1 93 = .ok (.iload 5, 2) ∧ 93 + 2 = 95 := ⟨dcAll_e (i := 14) da_X7_addTo_1 rfl, rfl⟩
theorem q_X7_addTo_95 : decode M_X7_addTo.2.1 95 = .ok (.invokevirtual 61, 3) ∧ 95 + 3 = 98 := ⟨dcAll_e (i := 15) da_X7_addTo_1 rfl, rfl⟩
theorem cd_X7_takeSizes : Cond.code M_X7_takeSizes.1 M_X7_takeSizes.2.1 M_X7_takeSizes.2.2.1 M_X7_takeSizes.2.2.2.1 ∈ en_tbl := inT4 98 rfl rfl
theorem g_X7_addTo_95 : en_C M_X7_addTo M_X7_takeSizes 61 4 := ⟨⟨inT4 95 rfl rfl, in_X7, cd_X7_takeSizes⟩, ⟨by decide, by decide, by decide +kernel⟩, by decide, by decide⟩
theorem w_X7_takeSizes : Cond.instanceMethod M_X7_takeSizes.1 ∈ en_tbl ∧ Cond.selects M_X7_takeSizes.1.cls M_X7_takeSizes.1 M_X7_takeSizes.1 ∈ en_tbl := ⟨inT4 97 rfl rfl, by decide +kernel⟩
theorem q_X7_addTo_98 : decode M_X7_addTo.2.1 98 = .ok (.goto 12, 3) ∧ 98 + 3 = 101 ∧ ((98 : Nat) : Int) + 12 = ((110 : Nat) : Int) := ⟨dcAll_e (i := 16) da_X7_addTo_1 rfl, rfl, rfl⟩
theorem q_X7_addTo_101 : decode M_X7_addTo.2.1 101 = .ok (.aload_n 0, 1) ∧ 101 + 1 = 102 := ⟨dcAll_e (i := 17) da_X7_addTo_1 rfl, rfl⟩
theorem q_X7_addTo_102 : decode M_X7_addTo.2.1 102 = .ok (.iload_n 1, 1) ∧ 102 + 1 = 103 := ⟨dcAll_e (i := 18) da_X7_addTo_1 rfl, rfl⟩
theorem q_X7_addTo_103 : decode M_X7_addTo.2.1 103 = .ok (.iload_n 3, 1) ∧ 103 + 1 = 104 := ⟨dcAll_e (i := 19) da_X7_addTo_1 rfl, rfl⟩
theorem q_X7_addTo_104 : decode M_X7_addTo.2.1 104 = .ok (.iload_n 2, 1) ∧ 104 + 1 = 105 := ⟨dcAll_e (i := 20) da_X7_addTo_1 rfl, rfl⟩
theorem q_X7_addTo_105 : decode M_X7_addTo.2.1 105 = .ok (.iload 6, 2) ∧ 105 + 2 = 107 := ⟨dcAll_e (i := 21) da_X7_addTo_1 rfl, rfl⟩
theorem q_X7_addTo_107 : decode M_X7_addTo.2.1 107 = .ok (.invokevirtual 61, 3) ∧ 107 + 3 = 110 := ⟨dcAll_e (i := 22) da_X7_addTo_1 rfl, rfl⟩
theorem g_X7_addTo_107 : en_C M_X7_addTo M_X7_takeSizes 61 4 := ⟨⟨inT4 95 rfl rfl, in_X7, cd_X7_takeSizes⟩, ⟨by decide, by decide, by decide +kernel⟩, by decide, by decide⟩
theorem q_X7_addTo_110 : decode M_X7_addTo.2.1 110 = .ok (.return_, 1) ∧ 110 + 1 = 111 := ⟨dcAll_e (i := 23) da_X7_addTo_1 rfl, rfl⟩
def dl_X7_addSizes_0 : List (Nat × Instr × Nat) := [(0, .aload_n 0, 1), (1, .getfield 14, 3), (4, .iload_n 2, 1), (5, .iaload, 1), (6, .aload_n 0, 1), (7, .getfield 14, 3), (10, .iload_n 3, 1), (11, .iaload, 1), (12, .if_icmp .le 12, 3), (15, .aload_n 0, 1), (16, .getfield 14, 3), (19, .iload_n 2, 1), (20, .iaload, 1), (21, .goto 9, 3), (24, .aload_n 0, 1), (25, .getfield 14, 3), (28, .iload_n 3, 1), (29, .iaload, 1), (30, .istore 4, 2), (32, .aload_n 0, 1), (33, .getfield 14, 3), (36, .iload_n 2, 1), (37, .iaload, 1), (38, .istore 5, 2), (40, .aload_n 0, 1), (41, .getfield 14, 3), (44, .iload_n 3, 1), (45, .iaload, 1), (46, .istore 6, 2), (48, .iconst 0, 1), (49, .istore 7, 2), (51, .iconst 0, 1), (52, .istore 8, 2), (54, .iload 8, 2), (56, .iload 4, 2), (58, .if_icmp .ge 106, 3), (61, .iload 7, 2), (63, .iload 8, 2), (65, .iload 5, 2), (67, .if_icmp .ge 19, 3)]
theorem da_X7_addSizes_0 : dcAll M_X7_addSizes.2.1 dl_X7_addSizes_0 = true := by decide +kernel
def dl_X7_addSizes_1 : List (Nat × Instr × Nat) := [(70, .aload_n 0, 1), (71, .getfield 8, 3), (74, .sipush 320, 3), (77, .iload_n 2, 1), (78, .imul, 1), (79, .iload 8, 2), (81, .iadd, 1), (82, .iaload, 1), (83, .goto 4, 3), (86, .iconst 0, 1), (87, .iadd, 1), (88, .iload 8, 2), (90, .iload 6, 2), (92, .if_icmp .ge 19, 3), (95, .aload_n 0, 1), (96, .getfield 8, 3), (99, .sipush 320, 3), (102, .iload_n 3, 1), (103, .imul, 1), (104, .iload 8, 2), (106, .iadd, 1), (107, .iaload, 1), (108, .goto 4, 3), (111, .iconst 0, 1), (112, .iadd, 1), (113, .istore 9, 2), (115, .iload 9, 2), (117, .ldc 65, 2), (119, .if_icmp .lt 7, 3), (122, .iconst 1, 1), (123, .goto 4, 3), (126, .iconst 0, 1), (127, .istore 7, 2), (129, .aload_n 0, 1), (130, .getfield 8, 3), (133, .sipush 320, 3), (136, .iload_n 1, 1), (137, .imul, 1), (138, .iload 8, 2), (140, .iadd, 1)]
theorem da_X7_addSizes_1 : dcAll M_X7_addSizes.2.1 dl_X7_addSizes_1 = true := by decide +kernel
def dl_X7_addSizes_2 : List (Nat × Instr × Nat) := [(141, .iload 7, 2), (143, .iconst 1, 1), (144, .if_icmp .ne 11, 3), (147, .iload 9, 2), (149, .ldc 65, 2), (151, .isub, 1), (152, .goto 5, 3), (155, .iload 9, 2), (157, .iastore, 1), (158, .iinc 8 1, 3), (161, .goto (-107), 3), (164, .aload_n 0, 1), (165, .getfield 8, 3), (168, .sipush 320, 3), (171, .iload_n 1, 1), (172, .imul, 1), (173, .iload 4, 2), (175, .iadd, 1), (176, .iload 7, 2), (178, .iastore, 1), (179, .aload_n 0, 1), (180, .getfield 14, 3), (183, .iload_n 1, 1), (184, .iload 4, 2), (186, .iload 7, 2), (188, .iadd, 1), (189, .iastore, 1), (190, .return_, 1)]
theorem da_X7_addSizes_2 : dcAll M_X7_addSizes.2.1 dl_X7_addSizes_2 = true := by decide +kernel
theorem q_X7_addSizes_0 : decode M_X7_addSizes.2.1 0 = .ok (.aload_n 0, 1) ∧ 0 + 1 = 1 := ⟨dcAll_e (i := 0) da_X7_addSizes_0 rfl, rfl⟩
theorem q_X7_addSizes_1 : decode M_X7_addSizes.2.1 1 = .ok (.getfield 14, 3) ∧ 1 + 3 = 4 := ⟨dcAll_e (i := 1) da_X7_addSizes_0 rfl, rfl⟩
theorem q_X7_addSizes_4 : decode M_X7_addSizes.2.1 4 = .ok (.iload_n 2, 1) ∧ 4 + 1 = 5 := ⟨dcAll_e (i := 2) da_X7_addSizes_0 rfl, rfl⟩
theorem q_X7_addSizes_5 : decode M_X7_addSizes.2.1 5 = .ok (.iaload, 1) ∧ 5 + 1 = 6 := ⟨dcAll_e (i := 3) da_X7_addSizes_0 rfl, rfl⟩
theorem q_X7_addSizes_6 : decode M_X7_addSizes.2.1 6 = .ok (.aload_n 0, 1) ∧ 6 + 1 = 7 := ⟨dcAll_e (i := 4) da_X7_addSizes_0 rfl, rfl⟩
theorem q_X7_addSizes_7 : decode M_X7_addSizes.2.1 7 = .ok (.getfield 14, 3) ∧ 7 + 3 = 10 := ⟨dcAll_e (i := 5) da_X7_addSizes_0 rfl, rfl⟩
theorem q_X7_addSizes_10 : decode M_X7_addSizes.2.1 10 = .ok (.iload_n 3, 1) ∧ 10 + 1 = 11 := ⟨dcAll_e (i := 6) da_X7_addSizes_0 rfl, rfl⟩
theorem q_X7_addSizes_11 : decode M_X7_addSizes.2.1 11 = .ok (.iaload, 1) ∧ 11 + 1 = 12 := ⟨dcAll_e (i := 7) da_X7_addSizes_0 rfl, rfl⟩
theorem q_X7_addSizes_12 : decode M_X7_addSizes.2.1 12 = .ok (.if_icmp .le 12, 3) ∧ 12 + 3 = 15 ∧ ((12 : Nat) : Int) + 12 = ((24 : Nat) : Int) := ⟨dcAll_e (i := 8) da_X7_addSizes_0 rfl, rfl, rfl⟩
theorem q_X7_addSizes_15 : decode M_X7_addSizes.2.1 15 = .ok (.aload_n 0, 1) ∧ 15 + 1 = 16 := ⟨dcAll_e (i := 9) da_X7_addSizes_0 rfl, rfl⟩
theorem q_X7_addSizes_16 : decode M_X7_addSizes.2.1 16 = .ok (.getfield 14, 3) ∧ 16 + 3 = 19 := ⟨dcAll_e (i := 10) da_X7_addSizes_0 rfl, rfl⟩
theorem q_X7_addSizes_19 : decode M_X7_addSizes.2.1 19 = .ok (.iload_n 2, 1) ∧ 19 + 1 = 20 := ⟨dcAll_e (i := 11) da_X7_addSizes_0 rfl, rfl⟩
theorem q_X7_addSizes_20 : decode M_X7_addSizes.2.1 20 = .ok (.iaload, 1) ∧ 20 + 1 = 21 := ⟨dcAll_e (i := 12) da_X7_addSizes_0 rfl, rfl⟩
theorem q_X7_addSizes_21 : decode M_X7_addSizes.2.1 21 = .ok (.goto 9, 3) ∧ 21 + 3 = 24 ∧ ((21 : Nat) : Int) + 9 = ((30 : Nat) : Int) := ⟨dcAll_e (i := 13) da_X7_addSizes_0 rfl, rfl, rfl⟩
theorem q_X7_addSizes_24 : decode M_X7_addSizes.2.1 24 = .ok (.aload_n 0, 1) ∧ 24 + 1 = 25 := ⟨dcAll_e (i := 14) da_X7_addSizes_0 rfl, rfl⟩
theorem q_X7_addSizes_25 : decode M_X7_addSizes.2.1 25 = .ok (.getfield 14, 3) ∧ 25 + 3 = 28 := ⟨dcAll_e (i := 15) da_X7_addSizes_0 rfl, rfl⟩
theorem q_X7_addSizes_28 : decode M_X7_addSizes.2.1 28 = .ok (.iload_n 3, 1) ∧ 28 + 1 = 29 := ⟨dcAll_e (i := 16) da_X7_addSizes_0 rfl, rfl⟩
theorem q_X7_addSizes_29 : decode M_X7_addSizes.2.1 29 = .ok (.iaload, 1) ∧ 29 + 1 = 30 := ⟨dcAll_e (i := 17) da_X7_addSizes_0 rfl, rfl⟩
theorem q_X7_addSizes_30 : decode M_X7_addSizes.2.1 30 = .ok (.istore 4, 2) ∧ 30 + 2 = 32 := ⟨dcAll_e (i := 18) da_X7_addSizes_0 rfl, rfl⟩
theorem q_X7_addSizes_32 : decode M_X7_addSizes.2.1 32 = .ok (.aload_n 0, 1) ∧ 32 + 1 = 33 := ⟨dcAll_e (i := 19) da_X7_addSizes_0 rfl, rfl⟩
theorem q_X7_addSizes_33 : decode M_X7_addSizes.2.1 33 = .ok (.getfield 14, 3) ∧ 33 + 3 = 36 := ⟨dcAll_e (i := 20) da_X7_addSizes_0 rfl, rfl⟩
theorem q_X7_addSizes_36 : decode M_X7_addSizes.2.1 36 = .ok (.iload_n 2, 1) ∧ 36 + 1 = 37 := ⟨dcAll_e (i := 21) da_X7_addSizes_0 rfl, rfl⟩
theorem q_X7_addSizes_37 : decode M_X7_addSizes.2.1 37 = .ok (.iaload, 1) ∧ 37 + 1 = 38 := ⟨dcAll_e (i := 22) da_X7_addSizes_0 rfl, rfl⟩
theorem q_X7_addSizes_38 : decode M_X7_addSizes.2.1 38 = .ok (.istore 5, 2) ∧ 38 + 2 = 40 := ⟨dcAll_e (i := 23) da_X7_addSizes_0 rfl, rfl⟩
theorem q_X7_addSizes_40 : decode M_X7_addSizes.2.1 40 = .ok (.aload_n 0, 1) ∧ 40 + 1 = 41 := ⟨dcAll_e (i := 24) da_X7_addSizes_0 rfl, rfl⟩
theorem q_X7_addSizes_41 : decode M_X7_addSizes.2.1 41 = .ok (.getfield 14, 3) ∧ 41 + 3 = 44 := ⟨dcAll_e (i := 25) da_X7_addSizes_0 rfl, rfl⟩
theorem q_X7_addSizes_44 : decode M_X7_addSizes.2.1 44 = .ok (.iload_n 3, 1) ∧ 44 + 1 = 45 := ⟨dcAll_e (i := 26) da_X7_addSizes_0 rfl, rfl⟩
theorem q_X7_addSizes_45 : decode M_X7_addSizes.2.1 45 = .ok (.iaload, 1) ∧ 45 + 1 = 46 := ⟨dcAll_e (i := 27) da_X7_addSizes_0 rfl, rfl⟩
theorem q_X7_addSizes_46 : decode M_X7_addSizes.2.1 46 = .ok (.istore 6, 2) ∧ 46 + 2 = 48 := ⟨dcAll_e (i := 28) da_X7_addSizes_0 rfl, rfl⟩
theorem q_X7_addSizes_48 : decode M_X7_addSizes.2.1 48 = .ok (.iconst 0, 1) ∧ 48 + 1 = 49 := ⟨dcAll_e (i := 29) da_X7_addSizes_0 rfl, rfl⟩
theorem q_X7_addSizes_49 : decode M_X7_addSizes.2.1 49 = .ok (.istore 7, 2) ∧ 49 + 2 = 51 := ⟨dcAll_e (i := 30) da_X7_addSizes_0 rfl, rfl⟩
theorem q_X7_addSizes_51 : decode M_X7_addSizes.2.1 51 = .ok (.iconst 0, 1) ∧ 51 + 1 = 52 := ⟨dcAll_e (i := 31) da_X7_addSizes_0 rfl, rfl⟩
theorem q_X7_addSizes_52 : decode M_X7_addSizes.2.1 52 = .ok (.istore 8, 2) ∧ 52 + 2 = 54 := ⟨dcAll_e (i := 32) da_X7_addSizes_0 rfl, rfl⟩
theorem q_X7_addSizes_54 : decode M_X7_addSizes.2.1 54 = .ok (.iload 8, 2) ∧ 54 + 2 = 56 := ⟨dcAll_e (i := 33) da_X7_addSizes_0 rfl, rfl⟩
theorem q_X7_addSizes_56 : decode M_X7_addSizes.2.1 56 = .ok (.iload 4, 2) ∧ 56 + 2 = 58 := ⟨dcAll_e (i := 34) da_X7_addSizes_0 rfl, rfl⟩
theorem q_X7_addSizes_58 : decode M_X7_addSizes.2.1 58 = .ok (.if_icmp .ge 106, 3) ∧ 58 + 3 = 61 ∧ ((58 : Nat) : Int) + 106 = ((164 : Nat) : Int) := ⟨dcAll_e (i := 35) da_X7_addSizes_0 rfl, rfl, rfl⟩
theorem q_X7_addSizes_61 : decode M_X7_addSizes.2.1 61 = .ok (.iload 7, 2) ∧ 61 + 2 = 63 := ⟨dcAll_e (i := 36) da_X7_addSizes_0 rfl, rfl⟩
theorem q_X7_addSizes_63 : decode M_X7_addSizes.2.1 63 = .ok (.iload 8, 2) ∧ 63 + 2 = 65 := ⟨dcAll_e (i := 37) da_X7_addSizes_0 rfl, rfl⟩
theorem q_X7_addSizes_65 : decode M_X7_addSizes.2.1 65 = .ok (.iload 5, 2) ∧ 65 + 2 = 67 := ⟨dcAll_e (i := 38) da_X7_addSizes_0 rfl, rfl⟩
theorem q_X7_addSizes_67 : decode M_X7_addSizes.2.1 67 = .ok (.if_icmp .ge 19, 3) ∧ 67 + 3 = 70 ∧ ((67 : Nat) : Int) + 19 = ((86 : Nat) : Int) := ⟨dcAll_e (i := 39) da_X7_addSizes_0 rfl, rfl, rfl⟩
theorem q_X7_addSizes_70 : decode M_X7_addSizes.2.1 70 = .ok (.aload_n 0, 1) ∧ 70 + 1 = 71 := ⟨dcAll_e (i := 0) da_X7_addSizes_1 rfl, rfl⟩
theorem q_X7_addSizes_71 : decode M_X7_addSizes.2.1 71 = .ok (.getfield 8, 3) ∧ 71 + 3 = 74 := ⟨dcAll_e (i := 1) da_X7_addSizes_1 rfl, rfl⟩
theorem q_X7_addSizes_74 : decode M_X7_addSizes.2.1 74 = .ok (.sipush 320, 3) ∧ 74 + 3 = 77 := ⟨dcAll_e (i := 2) da_X7_addSizes_1 rfl, rfl⟩
theorem q_X7_addSizes_77 : decode M_X7_addSizes.2.1 77 = .ok (.iload_n 2, 1) ∧ 77 + 1 = 78 := ⟨dcAll_e (i := 3) da_X7_addSizes_1 rfl, rfl⟩
theorem q_X7_addSizes_78 : decode M_X7_addSizes.2.1 78 = .ok (.imul, 1) ∧ 78 + 1 = 79 := ⟨dcAll_e (i := 4) da_X7_addSizes_1 rfl, rfl⟩
theorem q_X7_addSizes_79 : decode M_X7_addSizes.2.1 79 = .ok (.iload 8, 2) ∧ 79 + 2 = 81 := ⟨dcAll_e (i := 5) da_X7_addSizes_1 rfl, rfl⟩
theorem q_X7_addSizes_81 : decode M_X7_addSizes.2.1 81 = .ok (.iadd, 1) ∧ 81 + 1 = 82 := ⟨dcAll_e (i := 6) da_X7_addSizes_1 rfl, rfl⟩
theorem q_X7_addSizes_82 : decode M_X7_addSizes.2.1 82 = .ok (.iaload, 1) ∧ 82 + 1 = 83 := ⟨dcAll_e (i := 7) da_X7_addSizes_1 rfl, rfl⟩
theorem q_X7_addSizes_83 : decode M_X7_addSizes.2.1 83 = .ok (.goto 4, 3) ∧ 83 + 3 = 86 ∧ ((83 : Nat) : Int) + 4 = ((87 : Nat) : Int) := ⟨dcAll_e (i := 8) da_X7_addSizes_1 rfl, rfl, rfl⟩
theorem q_X7_addSizes_86 : decode M_X7_addSizes.2.1 86 = .ok (.iconst 0, 1) ∧ 86 + 1 = 87 := ⟨dcAll_e (i := 9) da_X7_addSizes_1 rfl, rfl⟩
theorem q_X7_addSizes_87 : decode M_X7_addSizes.2.1 87 = .ok (.iadd, 1) ∧ 87 + 1 = 88 := ⟨dcAll_e (i := 10) da_X7_addSizes_1 rfl, rfl⟩
theorem q_X7_addSizes_88 : decode M_X7_addSizes.2.1 88 = .ok (.iload 8, 2) ∧ 88 + 2 = 90 := ⟨dcAll_e (i := 11) da_X7_addSizes_1 rfl, rfl⟩
theorem q_X7_addSizes_90 : decode M_X7_addSizes.2.1 90 = .ok (.iload 6, 2) ∧ 90 + 2 = 92 := ⟨dcAll_e (i := 12) da_X7_addSizes_1 rfl, rfl⟩
theorem q_X7_addSizes_92 : decode M_X7_addSizes.2.1 92 = .ok (.if_icmp .ge 19, 3) ∧ 92 + 3 = 95 ∧ ((92 : Nat) : Int) + 19 = ((111 : Nat) : Int) := ⟨dcAll_e (i := 13) da_X7_addSizes_1 rfl, rfl, rfl⟩
theorem q_X7_addSizes_95 : decode M_X7_addSizes.2.1 95 = .ok (.aload_n 0, 1) ∧ 95 + 1 = 96 := ⟨dcAll_e (i := 14) da_X7_addSizes_1 rfl, rfl⟩
theorem q_X7_addSizes_96 : decode M_X7_addSizes.2.1 96 = .ok (.getfield 8, 3) ∧ 96 + 3 = 99 := ⟨dcAll_e (i := 15) da_X7_addSizes_1 rfl, rfl⟩
theorem q_X7_addSizes_99 : decode M_X7_addSizes.2.1 99 = .ok (.sipush 320, 3) ∧ 99 + 3 = 102 := ⟨dcAll_e (i := 16) da_X7_addSizes_1 rfl, rfl⟩
theorem q_X7_addSizes_102 : decode M_X7_addSizes.2.1 102 = .ok (.iload_n 3, 1) ∧ 102 + 1 = 103 := ⟨dcAll_e (i := 17) da_X7_addSizes_1 rfl, rfl⟩
theorem q_X7_addSizes_103 : decode M_X7_addSizes.2.1 103 = .ok (.imul, 1) ∧ 103 + 1 = 104 := ⟨dcAll_e (i := 18) da_X7_addSizes_1 rfl, rfl⟩
theorem q_X7_addSizes_104 : decode M_X7_addSizes.2.1 104 = .ok (.iload 8, 2) ∧ 104 + 2 = 106 := ⟨dcAll_e (i := 19) da_X7_addSizes_1 rfl, rfl⟩
theorem q_X7_addSizes_106 : decode M_X7_addSizes.2.1 106 = .ok (.iadd, 1) ∧ 106 + 1 = 107 := ⟨dcAll_e (i := 20) da_X7_addSizes_1 rfl, rfl⟩
theorem q_X7_addSizes_107 : decode M_X7_addSizes.2.1 107 = .ok (.iaload, 1) ∧ 107 + 1 = 108 := ⟨dcAll_e (i := 21) da_X7_addSizes_1 rfl, rfl⟩
theorem q_X7_addSizes_108 : decode M_X7_addSizes.2.1 108 = .ok (.goto 4, 3) ∧ 108 + 3 = 111 ∧ ((108 : Nat) : Int) + 4 = ((112 : Nat) : Int) := ⟨dcAll_e (i := 22) da_X7_addSizes_1 rfl, rfl, rfl⟩
theorem q_X7_addSizes_111 : decode M_X7_addSizes.2.1 111 = .ok (.iconst 0, 1) ∧ 111 + 1 = 112 := ⟨dcAll_e (i := 23) da_X7_addSizes_1 rfl, rfl⟩
theorem q_X7_addSizes_112 : decode M_X7_addSizes.2.1 112 = .ok (.iadd, 1) ∧ 112 + 1 = 113 := ⟨dcAll_e (i := 24) da_X7_addSizes_1 rfl, rfl⟩
theorem q_X7_addSizes_113 : decode M_X7_addSizes.2.1 113 = .ok (.istore 9, 2) ∧ 113 + 2 = 115 := ⟨dcAll_e (i := 25) da_X7_addSizes_1 rfl, rfl⟩
theorem q_X7_addSizes_115 : decode M_X7_addSizes.2.1 115 = .ok (.iload 9, 2) ∧ 115 + 2 = 117 := ⟨dcAll_e (i := 26) da_X7_addSizes_1 rfl, rfl⟩
theorem q_X7_addSizes_117 : decode M_X7_addSizes.2.1 117 = .ok (.ldc 65, 2) ∧ 117 + 2 = 119 := ⟨dcAll_e (i := 27) da_X7_addSizes_1 rfl, rfl⟩
theorem k_RX7_65 : Cond.constant RX7 65 (nI 1000000000) ∈ en_tbl := by decide +kernel
theorem q_X7_addSizes_119 : decode M_X7_addSizes.2.1 119 = .ok (.if_icmp .lt 7, 3) ∧ 119 + 3 = 122 ∧ ((119 : Nat) : Int) + 7 = ((126 : Nat) : Int) := ⟨dcAll_e (i := 28) da_X7_addSizes_1 rfl, rfl, rfl⟩
theorem q_X7_addSizes_122 : decode M_X7_addSizes.2.1 122 = .ok (.iconst 1, 1) ∧ 122 + 1 = 123 := ⟨dcAll_e (i := 29) da_X7_addSizes_1 rfl, rfl⟩
theorem q_X7_addSizes_123 : decode M_X7_addSizes.2.1 123 = .ok (.goto 4, 3) ∧ 123 + 3 = 126 ∧ ((123 : Nat) : Int) + 4 = ((127 : Nat) : Int) := ⟨dcAll_e (i := 30) da_X7_addSizes_1 rfl, rfl, rfl⟩
theorem q_X7_addSizes_126 : decode M_X7_addSizes.2.1 126 = .ok (.iconst 0, 1) ∧ 126 + 1 = 127 := ⟨dcAll_e (i := 31) da_X7_addSizes_1 rfl, rfl⟩
theorem q_X7_addSizes_127 : decode M_X7_addSizes.2.1 127 = .ok (.istore 7, 2) ∧ 127 + 2 = 129 := ⟨dcAll_e (i := 32) da_X7_addSizes_1 rfl, rfl⟩
theorem q_X7_addSizes_129 : decode M_X7_addSizes.2.1 129 = .ok (.aload_n 0, 1) ∧ 129 + 1 = 130 := ⟨dcAll_e (i := 33) da_X7_addSizes_1 rfl, rfl⟩
theorem q_X7_addSizes_130 : decode M_X7_addSizes.2.1 130 = .ok (.getfield 8, 3) ∧ 130 + 3 = 133 := ⟨dcAll_e (i := 34) da_X7_addSizes_1 rfl, rfl⟩
theorem q_X7_addSizes_133 : decode M_X7_addSizes.2.1 133 = .ok (.sipush 320, 3) ∧ 133 + 3 = 136 := ⟨dcAll_e (i := 35) da_X7_addSizes_1 rfl, rfl⟩
theorem q_X7_addSizes_136 : decode M_X7_addSizes.2.1 136 = .ok (.iload_n 1, 1) ∧ 136 + 1 = 137 := ⟨dcAll_e (i := 36) da_X7_addSizes_1 rfl, rfl⟩
theorem q_X7_addSizes_137 : decode M_X7_addSizes.2.1 137 = .ok (.imul, 1) ∧ 137 + 1 = 138 := ⟨dcAll_e (i := 37) da_X7_addSizes_1 rfl, rfl⟩
theorem q_X7_addSizes_138 : decode M_X7_addSizes.2.1 138 = .ok (.iload 8, 2) ∧ 138 + 2 = 140 := ⟨dcAll_e (i := 38) da_X7_addSizes_1 rfl, rfl⟩
theorem q_X7_addSizes_140 : decode M_X7_addSizes.2.1 140 = .ok (.iadd, 1) ∧ 140 + 1 = 141 := ⟨dcAll_e (i := 39) da_X7_addSizes_1 rfl, rfl⟩
theorem q_X7_addSizes_141 : decode M_X7_addSizes.2.1 141 = .ok (.iload 7, 2) ∧ 141 + 2 = 143 := ⟨dcAll_e (i := 0) da_X7_addSizes_2 rfl, rfl⟩
theorem q_X7_addSizes_143 : decode M_X7_addSizes.2.1 143 = .ok (.iconst 1, 1) ∧ 143 + 1 = 144 := ⟨dcAll_e (i := 1) da_X7_addSizes_2 rfl, rfl⟩
theorem q_X7_addSizes_144 : decode M_X7_addSizes.2.1 144 = .ok (.if_icmp .ne 11, 3) ∧ 144 + 3 = 147 ∧ ((144 : Nat) : Int) + 11 = ((155 : Nat) : Int) := ⟨dcAll_e (i := 2) da_X7_addSizes_2 rfl, rfl, rfl⟩
theorem q_X7_addSizes_147 : decode M_X7_addSizes.2.1 147 = .ok (.iload 9, 2) ∧ 147 + 2 = 149 := ⟨dcAll_e (i := 3) da_X7_addSizes_2 rfl, rfl⟩
theorem q_X7_addSizes_149 : decode M_X7_addSizes.2.1 149 = .ok (.ldc 65, 2) ∧ 149 + 2 = 151 := ⟨dcAll_e (i := 4) da_X7_addSizes_2 rfl, rfl⟩
theorem q_X7_addSizes_151 : decode M_X7_addSizes.2.1 151 = .ok (.isub, 1) ∧ 151 + 1 = 152 := ⟨dcAll_e (i := 5) da_X7_addSizes_2 rfl, rfl⟩
theorem q_X7_addSizes_152 : decode M_X7_addSizes.2.1 152 = .ok (.goto 5, 3) ∧ 152 + 3 = 155 ∧ ((152 : Nat) : Int) + 5 = ((157 : Nat) : Int) := ⟨dcAll_e (i := 6) da_X7_addSizes_2 rfl, rfl, rfl⟩
theorem q_X7_addSizes_155 : decode M_X7_addSizes.2.1 155 = .ok (.iload 9, 2) ∧ 155 + 2 = 157 := ⟨dcAll_e (i := 7) da_X7_addSizes_2 rfl, rfl⟩
theorem q_X7_addSizes_157 : decode M_X7_addSizes.2.1 157 = .ok (.iastore, 1) ∧ 157 + 1 = 158 := ⟨dcAll_e (i := 8) da_X7_addSizes_2 rfl, rfl⟩
theorem q_X7_addSizes_158 : decode M_X7_addSizes.2.1 158 = .ok (.iinc 8 1, 3) ∧ 158 + 3 = 161 := ⟨dcAll_e (i := 9) da_X7_addSizes_2 rfl, rfl⟩
theorem q_X7_addSizes_161 : decode M_X7_addSizes.2.1 161 = .ok (.goto (-107), 3) ∧ 161 + 3 = 164 ∧ ((161 : Nat) : Int) + (-107) = ((54 : Nat) : Int) := ⟨dcAll_e (i := 10) da_X7_addSizes_2 rfl, rfl, rfl⟩
theorem q_X7_addSizes_164 : decode M_X7_addSizes.2.1 164 = .ok (.aload_n 0, 1) ∧ 164 + 1 = 165 := ⟨dcAll_e (i := 11) da_X7_addSizes_2 rfl, rfl⟩
theorem q_X7_addSizes_165 : decode M_X7_addSizes.2.1 165 = .ok (.getfield 8, 3) ∧ 165 + 3 = 168 := ⟨dcAll_e (i := 12) da_X7_addSizes_2 rfl, rfl⟩
theorem q_X7_addSizes_168 : decode M_X7_addSizes.2.1 168 = .ok (.sipush 320, 3) ∧ 168 + 3 = 171 := ⟨dcAll_e (i := 13) da_X7_addSizes_2 rfl, rfl⟩
theorem q_X7_addSizes_171 : decode M_X7_addSizes.2.1 171 = .ok (.iload_n 1, 1) ∧ 171 + 1 = 172 := ⟨dcAll_e (i := 14) da_X7_addSizes_2 rfl, rfl⟩
theorem q_X7_addSizes_172 : decode M_X7_addSizes.2.1 172 = .ok (.imul, 1) ∧ 172 + 1 = 173 := ⟨dcAll_e (i := 15) da_X7_addSizes_2 rfl, rfl⟩
theorem q_X7_addSizes_173 : decode M_X7_addSizes.2.1 173 = .ok (.iload 4, 2) ∧ 173 + 2 = 175 := ⟨dcAll_e (i := 16) da_X7_addSizes_2 rfl, rfl⟩
theorem q_X7_addSizes_175 : decode M_X7_addSizes.2.1 175 = .ok (.iadd, 1) ∧ 175 + 1 = 176 := ⟨dcAll_e (i := 17) da_X7_addSizes_2 rfl, rfl⟩
theorem q_X7_addSizes_176 : decode M_X7_addSizes.2.1 176 = .ok (.iload 7, 2) ∧ 176 + 2 = 178 := ⟨dcAll_e (i := 18) da_X7_addSizes_2 rfl, rfl⟩
theorem q_X7_addSizes_178 : decode M_X7_addSizes.2.1 178 = .ok (.iastore, 1) ∧ 178 + 1 = 179 := ⟨dcAll_e (i := 19) da_X7_addSizes_2 rfl, rfl⟩
theorem q_X7_addSizes_179 : decode M_X7_addSizes.2.1 179 = .ok (.aload_n 0, 1) ∧ 179 + 1 = 180 := ⟨dcAll_e (i := 20) da_X7_addSizes_2 rfl, rfl⟩
theorem q_X7_addSizes_180 : decode M_X7_addSizes.2.1 180 = .ok (.getfield 14, 3) ∧ 180 + 3 = 183 := ⟨dcAll_e (i := 21) da_X7_addSizes_2 rfl, rfl⟩
theorem q_X7_addSizes_183 : decode M_X7_addSizes.2.1 183 = .ok (.iload_n 1, 1) ∧ 183 + 1 = 184 := ⟨dcAll_e (i := 22) da_X7_addSizes_2 rfl, rfl⟩
theorem q_X7_addSizes_184 : decode M_X7_addSizes.2.1 184 = .ok (.iload 4, 2) ∧ 184 + 2 = 186 := ⟨dcAll_e (i := 23) da_X7_addSizes_2 rfl, rfl⟩
theorem q_X7_addSizes_186 : decode M_X7_addSizes.2.1 186 = .ok (.iload 7, 2) ∧ 186 + 2 = 188 := ⟨dcAll_e (i := 24) da_X7_addSizes_2 rfl, rfl⟩
theorem q_X7_addSizes_188 : decode M_X7_addSizes.2.1 188 = .ok (.iadd, 1) ∧ 188 + 1 = 189 := ⟨dcAll_e (i := 25) da_X7_addSizes_2 rfl, rfl⟩
theorem q_X7_addSizes_189 : decode M_X7_addSizes.2.1 189 = .ok (.iastore, 1) ∧ 189 + 1 = 190 := ⟨dcAll_e (i := 26) da_X7_addSizes_2 rfl, rfl⟩
theorem q_X7_addSizes_190 : decode M_X7_addSizes.2.1 190 = .ok (.return_, 1) ∧ 190 + 1 = 191 := ⟨dcAll_e (i := 27) da_X7_addSizes_2 rfl, rfl⟩
def dl_X7_takeSizes_0 : List (Nat × Instr × Nat) := [(0, .aload_n 0, 1), (1, .getfield 14, 3), (4, .iload_n 2, 1), (5, .iaload, 1), (6, .istore 5, 2), (8, .aload_n 0, 1), (9, .getfield 14, 3), (12, .iload_n 3, 1), (13, .iaload, 1), (14, .istore 6, 2), (16, .iconst 0, 1), (17, .istore 7, 2), (19, .iconst 0, 1), (20, .istore 8, 2), (22, .iload 8, 2), (24, .iload 5, 2), (26, .if_icmp .ge 92, 3), (29, .aload_n 0, 1), (30, .getfield 8, 3), (33, .sipush 320, 3), (36, .iload_n 2, 1), (37, .imul, 1), (38, .iload 8, 2), (40, .iadd, 1), (41, .iaload, 1), (42, .iload 7, 2), (44, .isub, 1), (45, .iload 8, 2), (47, .iload 6, 2), (49, .if_icmp .ge 19, 3), (52, .aload_n 0, 1), (53, .getfield 8, 3), (56, .sipush 320, 3), (59, .iload_n 3, 1), (60, .imul, 1), (61, .iload 8, 2), (63, .iadd, 1), (64, .iaload, 1), (65, .goto 4, 3), (68, .iconst 0, 1)]
theorem da_X7_takeSizes_0 : dcAll M_X7_takeSizes.2.1 dl_X7_takeSizes_0 = true := by decide +kernel
def dl_X7_takeSizes_1 : List (Nat × Instr × Nat) := [(69, .isub, 1), (70, .istore 9, 2), (72, .iload 9, 2), (74, .ifCond .ge 7, 3), (77, .iconst 1, 1), (78, .goto 4, 3), (81, .iconst 0, 1), (82, .istore 7, 2), (84, .aload_n 0, 1), (85, .getfield 8, 3), (88, .sipush 320, 3), (91, .iload_n 1, 1), (92, .imul, 1), (93, .iload 8, 2), (95, .iadd, 1), (96, .iload 9, 2), (98, .ifCond .ge 11, 3), (101, .iload 9, 2), (103, .ldc 65, 2), (105, .iadd, 1), (106, .goto 5, 3), (109, .iload 9, 2), (111, .iastore, 1), (112, .iinc 8 1, 3), (115, .goto (-93), 3), (118, .aload_n 0, 1), (119, .getfield 17, 3), (122, .iload_n 1, 1), (123, .iload 4, 2), (125, .iastore, 1), (126, .aload_n 0, 1), (127, .iload_n 1, 1), (128, .iload 5, 2), (130, .invokevirtual 66, 3), (133, .return_, 1)]
theorem da_X7_takeSizes_1 : dcAll M_X7_takeSizes.2.1 dl_X7_takeSizes_1 = true := by decide +kernel
theorem q_X7_takeSizes_0 : decode M_X7_takeSizes.2.1 0 = .ok (.aload_n 0, 1) ∧ 0 + 1 = 1 := ⟨dcAll_e (i := 0) da_X7_takeSizes_0 rfl, rfl⟩
theorem q_X7_takeSizes_1 : decode M_X7_takeSizes.2.1 1 = .ok (.getfield 14, 3) ∧ 1 + 3 = 4 := ⟨dcAll_e (i := 1) da_X7_takeSizes_0 rfl, rfl⟩
theorem q_X7_takeSizes_4 : decode M_X7_takeSizes.2.1 4 = .ok (.iload_n 2, 1) ∧ 4 + 1 = 5 := ⟨dcAll_e (i := 2) da_X7_takeSizes_0 rfl, rfl⟩
theorem q_X7_takeSizes_5 : decode M_X7_takeSizes.2.1 5 = .ok (.iaload, 1) ∧ 5 + 1 = 6 := ⟨dcAll_e (i := 3) da_X7_takeSizes_0 rfl, rfl⟩
theorem q_X7_takeSizes_6 : decode M_X7_takeSizes.2.1 6 = .ok (.istore 5, 2) ∧ 6 + 2 = 8 := ⟨dcAll_e (i := 4) da_X7_takeSizes_0 rfl, rfl⟩
theorem q_X7_takeSizes_8 : decode M_X7_takeSizes.2.1 8 = .ok (.aload_n 0, 1) ∧ 8 + 1 = 9 := ⟨dcAll_e (i := 5) da_X7_takeSizes_0 rfl, rfl⟩
theorem q_X7_takeSizes_9 : decode M_X7_takeSizes.2.1 9 = .ok (.getfield 14, 3) ∧ 9 + 3 = 12 := ⟨dcAll_e (i := 6) da_X7_takeSizes_0 rfl, rfl⟩
theorem q_X7_takeSizes_12 : decode M_X7_takeSizes.2.1 12 = .ok (.iload_n 3, 1) ∧ 12 + 1 = 13 := ⟨dcAll_e (i := 7) da_X7_takeSizes_0 rfl, rfl⟩
theorem q_X7_takeSizes_13 : decode M_X7_takeSizes.2.1 13 = .ok (.iaload, 1) ∧ 13 + 1 = 14 := ⟨dcAll_e (i := 8) da_X7_takeSizes_0 rfl, rfl⟩
theorem q_X7_takeSizes_14 : decode M_X7_takeSizes.2.1 14 = .ok (.istore 6, 2) ∧ 14 + 2 = 16 := ⟨dcAll_e (i := 9) da_X7_takeSizes_0 rfl, rfl⟩
theorem q_X7_takeSizes_16 : decode M_X7_takeSizes.2.1 16 = .ok (.iconst 0, 1) ∧ 16 + 1 = 17 := ⟨dcAll_e (i := 10) da_X7_takeSizes_0 rfl, rfl⟩
theorem q_X7_takeSizes_17 : decode M_X7_takeSizes.2.1 17 = .ok (.istore 7, 2) ∧ 17 + 2 = 19 := ⟨dcAll_e (i := 11) da_X7_takeSizes_0 rfl, rfl⟩
theorem q_X7_takeSizes_19 : decode M_X7_takeSizes.2.1 19 = .ok (.iconst 0, 1) ∧ 19 + 1 = 20 := ⟨dcAll_e (i := 12) da_X7_takeSizes_0 rfl, rfl⟩
theorem q_X7_takeSizes_20 : decode M_X7_takeSizes.2.1 20 = .ok (.istore 8, 2) ∧ 20 + 2 = 22 := ⟨dcAll_e (i := 13) da_X7_takeSizes_0 rfl, rfl⟩
theorem q_X7_takeSizes_22 : decode M_X7_takeSizes.2.1 22 = .ok (.iload 8, 2) ∧ 22 + 2 = 24 := ⟨dcAll_e (i := 14) da_X7_takeSizes_0 rfl, rfl⟩
theorem q_X7_takeSizes_24 : decode M_X7_takeSizes.2.1 24 = .ok (.iload 5, 2) ∧ 24 + 2 = 26 := ⟨dcAll_e (i := 15) da_X7_takeSizes_0 rfl, rfl⟩
theorem q_X7_takeSizes_26 : decode M_X7_takeSizes.2.1 26 = .ok (.if_icmp .ge 92, 3) ∧ 26 + 3 = 29 ∧ ((26 : Nat) : Int) + 92 = ((118 : Nat) : Int) := ⟨dcAll_e (i := 16) da_X7_takeSizes_0 rfl, rfl, rfl⟩
theorem q_X7_takeSizes_29 : decode M_X7_takeSizes.2.1 29 = .ok (.aload_n 0, 1) ∧ 29 + 1 = 30 := ⟨dcAll_e (i := 17) da_X7_takeSizes_0 rfl, rfl⟩
theorem q_X7_takeSizes_30 : decode M_X7_takeSizes.2.1 30 = .ok (.getfield 8, 3) ∧ 30 + 3 = 33 := ⟨dcAll_e (i := 18) da_X7_takeSizes_0 rfl, rfl⟩
theorem q_X7_takeSizes_33 : decode M_X7_takeSizes.2.1 33 = .ok (.sipush 320, 3) ∧ 33 + 3 = 36 := ⟨dcAll_e (i := 19) da_X7_takeSizes_0 rfl, rfl⟩
theorem q_X7_takeSizes_36 : decode M_X7_takeSizes.2.1 36 = .ok (.iload_n 2, 1) ∧ 36 + 1 = 37 := ⟨dcAll_e (i := 20) da_X7_takeSizes_0 rfl, rfl⟩
theorem q_X7_takeSizes_37 : decode M_X7_takeSizes.2.1 37 = .ok (.imul, 1) ∧ 37 + 1 = 38 := ⟨dcAll_e (i := 21) da_X7_takeSizes_0 rfl, rfl⟩
theorem q_X7_takeSizes_38 : decode M_X7_takeSizes.2.1 38 = .ok (.iload 8, 2) ∧ 38 + 2 = 40 := ⟨dcAll_e (i := 22) da_X7_takeSizes_0 rfl, rfl⟩
theorem q_X7_takeSizes_40 : decode M_X7_takeSizes.2.1 40 = .ok (.iadd, 1) ∧ 40 + 1 = 41 := ⟨dcAll_e (i := 23) da_X7_takeSizes_0 rfl, rfl⟩
theorem q_X7_takeSizes_41 : decode M_X7_takeSizes.2.1 41 = .ok (.iaload, 1) ∧ 41 + 1 = 42 := ⟨dcAll_e (i := 24) da_X7_takeSizes_0 rfl, rfl⟩
theorem q_X7_takeSizes_42 : decode M_X7_takeSizes.2.1 42 = .ok (.iload 7, 2) ∧ 42 + 2 = 44 := ⟨dcAll_e (i := 25) da_X7_takeSizes_0 rfl, rfl⟩
theorem q_X7_takeSizes_44 : decode M_X7_takeSizes.2.1 44 = .ok (.isub, 1) ∧ 44 + 1 = 45 := ⟨dcAll_e (i := 26) da_X7_takeSizes_0 rfl, rfl⟩
theorem q_X7_takeSizes_45 : decode M_X7_takeSizes.2.1 45 = .ok (.iload 8, 2) ∧ 45 + 2 = 47 := ⟨dcAll_e (i := 27) da_X7_takeSizes_0 rfl, rfl⟩
theorem q_X7_takeSizes_47 : decode M_X7_takeSizes.2.1 47 = .ok (.iload 6, 2) ∧ 47 + 2 = 49 := ⟨dcAll_e (i := 28) da_X7_takeSizes_0 rfl, rfl⟩
theorem q_X7_takeSizes_49 : decode M_X7_takeSizes.2.1 49 = .ok (.if_icmp .ge 19, 3) ∧ 49 + 3 = 52 ∧ ((49 : Nat) : Int) + 19 = ((68 : Nat) : Int) := ⟨dcAll_e (i := 29) da_X7_takeSizes_0 rfl, rfl, rfl⟩
theorem q_X7_takeSizes_52 : decode M_X7_takeSizes.2.1 52 = .ok (.aload_n 0, 1) ∧ 52 + 1 = 53 := ⟨dcAll_e (i := 30) da_X7_takeSizes_0 rfl, rfl⟩
theorem q_X7_takeSizes_53 : decode M_X7_takeSizes.2.1 53 = .ok (.getfield 8, 3) ∧ 53 + 3 = 56 := ⟨dcAll_e (i := 31) da_X7_takeSizes_0 rfl, rfl⟩
theorem q_X7_takeSizes_56 : decode M_X7_takeSizes.2.1 56 = .ok (.sipush 320, 3) ∧ 56 + 3 = 59 := ⟨dcAll_e (i := 32) da_X7_takeSizes_0 rfl, rfl⟩
theorem q_X7_takeSizes_59 : decode M_X7_takeSizes.2.1 59 = .ok (.iload_n 3, 1) ∧ 59 + 1 = 60 := ⟨dcAll_e (i := 33) da_X7_takeSizes_0 rfl, rfl⟩
theorem q_X7_takeSizes_60 : decode M_X7_takeSizes.2.1 60 = .ok (.imul, 1) ∧ 60 + 1 = 61 := ⟨dcAll_e (i := 34) da_X7_takeSizes_0 rfl, rfl⟩
theorem q_X7_takeSizes_61 : decode M_X7_takeSizes.2.1 61 = .ok (.iload 8, 2) ∧ 61 + 2 = 63 := ⟨dcAll_e (i := 35) da_X7_takeSizes_0 rfl, rfl⟩
theorem q_X7_takeSizes_63 : decode M_X7_takeSizes.2.1 63 = .ok (.iadd, 1) ∧ 63 + 1 = 64 := ⟨dcAll_e (i := 36) da_X7_takeSizes_0 rfl, rfl⟩
theorem q_X7_takeSizes_64 : decode M_X7_takeSizes.2.1 64 = .ok (.iaload, 1) ∧ 64 + 1 = 65 := ⟨dcAll_e (i := 37) da_X7_takeSizes_0 rfl, rfl⟩
theorem q_X7_takeSizes_65 : decode M_X7_takeSizes.2.1 65 = .ok (.goto 4, 3) ∧ 65 + 3 = 68 ∧ ((65 : Nat) : Int) + 4 = ((69 : Nat) : Int) := ⟨dcAll_e (i := 38) da_X7_takeSizes_0 rfl, rfl, rfl⟩
theorem q_X7_takeSizes_68 : decode M_X7_takeSizes.2.1 68 = .ok (.iconst 0, 1) ∧ 68 + 1 = 69 := ⟨dcAll_e (i := 39) da_X7_takeSizes_0 rfl, rfl⟩
theorem q_X7_takeSizes_69 : decode M_X7_takeSizes.2.1 69 = .ok (.isub, 1) ∧ 69 + 1 = 70 := ⟨dcAll_e (i := 0) da_X7_takeSizes_1 rfl, rfl⟩
theorem q_X7_takeSizes_70 : decode M_X7_takeSizes.2.1 70 = .ok (.istore 9, 2) ∧ 70 + 2 = 72 := ⟨dcAll_e (i := 1) da_X7_takeSizes_1 rfl, rfl⟩
theorem q_X7_takeSizes_72 : decode M_X7_takeSizes.2.1 72 = .ok (.iload 9, 2) ∧ 72 + 2 = 74 := ⟨dcAll_e (i := 2) da_X7_takeSizes_1 rfl, rfl⟩
theorem q_X7_takeSizes_74 : decode M_X7_takeSizes.2.1 74 = .ok (.ifCond .ge 7, 3) ∧ 74 + 3 = 77 ∧ ((74 : Nat) : Int) + 7 = ((81 : Nat) : Int) := ⟨dcAll_e (i := 3) da_X7_takeSizes_1 rfl, rfl, rfl⟩
theorem q_X7_takeSizes_77 : decode M_X7_takeSizes.2.1 77 = .ok (.iconst 1, 1) ∧ 77 + 1 = 78 := ⟨dcAll_e (i := 4) da_X7_takeSizes_1 rfl, rfl⟩
theorem q_X7_takeSizes_78 : decode M_X7_takeSizes.2.1 78 = .ok (.goto 4, 3) ∧ 78 + 3 = 81 ∧ ((78 : Nat) : Int) + 4 = ((82 : Nat) : Int) := ⟨dcAll_e (i := 5) da_X7_takeSizes_1 rfl, rfl, rfl⟩
theorem q_X7_takeSizes_81 : decode M_X7_takeSizes.2.1 81 = .ok (.iconst 0, 1) ∧ 81 + 1 = 82 := ⟨dcAll_e (i := 6) da_X7_takeSizes_1 rfl, rfl⟩
theorem q_X7_takeSizes_82 : decode M_X7_takeSizes.2.1 82 = .ok (.istore 7, 2) ∧ 82 + 2 = 84 := ⟨dcAll_e (i := 7) da_X7_takeSizes_1 rfl, rfl⟩
theorem q_X7_takeSizes_84 : decode M_X7_takeSizes.2.1 84 = .ok (.aload_n 0, 1) ∧ 84 + 1 = 85 := ⟨dcAll_e (i := 8) da_X7_takeSizes_1 rfl, rfl⟩
theorem q_X7_takeSizes_85 : decode M_X7_takeSizes.2.1 85 = .ok (.getfield 8, 3) ∧ 85 + 3 = 88 := ⟨dcAll_e (i := 9) da_X7_takeSizes_1 rfl, rfl⟩
theorem q_X7_takeSizes_88 : decode M_X7_takeSizes.2.1 88 = .ok (.sipush 320, 3) ∧ 88 + 3 = 91 := ⟨dcAll_e (i := 10) da_X7_takeSizes_1 rfl, rfl⟩
theorem q_X7_takeSizes_91 : decode M_X7_takeSizes.2.1 91 = .ok (.iload_n 1, 1) ∧ 91 + 1 = 92 := ⟨dcAll_e (i := 11) da_X7_takeSizes_1 rfl, rfl⟩
theorem q_X7_takeSizes_92 : decode M_X7_takeSizes.2.1 92 = .ok (.imul, 1) ∧ 92 + 1 = 93 := ⟨dcAll_e (i := 12) da_X7_takeSizes_1 rfl, rfl⟩
theorem q_X7_takeSizes_93 : decode M_X7_takeSizes.2.1 93 = .ok (.iload 8, 2) ∧ 93 + 2 = 95 := ⟨dcAll_e (i := 13) da_X7_takeSizes_1 rfl, rfl⟩
theorem q_X7_takeSizes_95 : decode M_X7_takeSizes.2.1 95 = .ok (.iadd, 1) ∧ 95 + 1 = 96 := ⟨dcAll_e (i := 14) da_X7_takeSizes_1 rfl, rfl⟩
theorem q_X7_takeSizes_96 : decode M_X7_takeSizes.2.1 96 = .ok (.iload 9, 2) ∧ 96 + 2 = 98 := ⟨dcAll_e (i := 15) da_X7_takeSizes_1 rfl, rfl⟩
theorem q_X7_takeSizes_98 : decode M_X7_takeSizes.2.1 98 = .ok (.ifCond .ge 11, 3) ∧ 98 + 3 = 101 ∧ ((98 : Nat) : Int) + 11 = ((109 : Nat) : Int) := ⟨dcAll_e (i := 16) da_X7_takeSizes_1 rfl, rfl, rfl⟩
theorem q_X7_takeSizes_101 : decode M_X7_takeSizes.2.1 101 = .ok (.iload 9, 2) ∧ 101 + 2 = 103 := ⟨dcAll_e (i := 17) da_X7_takeSizes_1 rfl, rfl⟩
theorem q_X7_takeSizes_103 : decode M_X7_takeSizes.2.1 103 = .ok (.ldc 65, 2) ∧ 103 + 2 = 105 := ⟨dcAll_e (i := 18) da_X7_takeSizes_1 rfl, rfl⟩
theorem q_X7_takeSizes_105 : decode M_X7_takeSizes.2.1 105 = .ok (.iadd, 1) ∧ 105 + 1 = 106 := ⟨dcAll_e (i := 19) da_X7_takeSizes_1 rfl, rfl⟩
theorem q_X7_takeSizes_106 : decode M_X7_takeSizes.2.1 106 = .ok (.goto 5, 3) ∧ 106 + 3 = 109 ∧ ((106 : Nat) : Int) + 5 = ((111 : Nat) : Int) := ⟨dcAll_e (i := 20) da_X7_takeSizes_1 rfl, rfl, rfl⟩
theorem q_X7_takeSizes_109 : decode M_X7_takeSizes.2.1 109 = .ok (.iload 9, 2) ∧ 109 + 2 = 111 := ⟨dcAll_e (i := 21) da_X7_takeSizes_1 rfl, rfl⟩
theorem q_X7_takeSizes_111 : decode M_X7_takeSizes.2.1 111 = .ok (.iastore, 1) ∧ 111 + 1 = 112 := ⟨dcAll_e (i := 22) da_X7_takeSizes_1 rfl, rfl⟩
theorem q_X7_takeSizes_112 : decode M_X7_takeSizes.2.1 112 = .ok (.iinc 8 1, 3) ∧ 112 + 3 = 115 := ⟨dcAll_e (i := 23) da_X7_takeSizes_1 rfl, rfl⟩
theorem q_X7_takeSizes_115 : decode M_X7_takeSizes.2.1 115 = .ok (.goto (-93), 3) ∧ 115 + 3 = 118 ∧ ((115 : Nat) : Int) + (-93) = ((22 : Nat) : Int) := ⟨dcAll_e (i := 24) da_X7_takeSizes_1 rfl, rfl, rfl⟩
theorem q_X7_takeSizes_118 : decode M_X7_takeSizes.2.1 118 = .ok (.aload_n 0, 1) ∧ 118 + 1 = 119 := ⟨dcAll_e (i := 25) da_X7_takeSizes_1 rfl, rfl⟩
theorem q_X7_takeSizes_119 : decode M_X7_takeSizes.2.1 119 = .ok (.getfield 17, 3) ∧ 119 + 3 = 122 := ⟨dcAll_e (i := 26) da_X7_takeSizes_1 rfl, rfl⟩
theorem q_X7_takeSizes_122 : decode M_X7_takeSizes.2.1 122 = .ok (.iload_n 1, 1) ∧ 122 + 1 = 123 := ⟨dcAll_e (i := 27) da_X7_takeSizes_1 rfl, rfl⟩
theorem q_X7_takeSizes_123 : decode M_X7_takeSizes.2.1 123 = .ok (.iload 4, 2) ∧ 123 + 2 = 125 := ⟨dcAll_e (i := 28) da_X7_takeSizes_1 rfl, rfl⟩
theorem q_X7_takeSizes_125 : decode M_X7_takeSizes.2.1 125 = .ok (.iastore, 1) ∧ 125 + 1 = 126 := ⟨dcAll_e (i := 29) da_X7_takeSizes_1 rfl, rfl⟩
theorem q_X7_takeSizes_126 : decode M_X7_takeSizes.2.1 126 = .ok (.aload_n 0, 1) ∧ 126 + 1 = 127 := ⟨dcAll_e (i := 30) da_X7_takeSizes_1 rfl, rfl⟩
theorem q_X7_takeSizes_127 : decode M_X7_takeSizes.2.1 127 = .ok (.iload_n 1, 1) ∧ 127 + 1 = 128 := ⟨dcAll_e (i := 31) da_X7_takeSizes_1 rfl, rfl⟩
theorem q_X7_takeSizes_128 : decode M_X7_takeSizes.2.1 128 = .ok (.iload 5, 2) ∧ 128 + 2 = 130 := ⟨dcAll_e (i := 32) da_X7_takeSizes_1 rfl, rfl⟩
theorem q_X7_takeSizes_130 : decode M_X7_takeSizes.2.1 130 = .ok (.invokevirtual 66, 3) ∧ 130 + 3 = 133 := ⟨dcAll_e (i := 33) da_X7_takeSizes_1 rfl, rfl⟩
theorem cd_X7_trim : Cond.code M_X7_trim.1 M_X7_trim.2.1 M_X7_trim.2.2.1 M_X7_trim.2.2.2.1 ∈ en_tbl := inT4 57 rfl rfl
theorem g_X7_takeSizes_130 : en_C M_X7_takeSizes M_X7_trim 66 2 := ⟨⟨inT4 54 rfl rfl, in_X7, cd_X7_trim⟩, ⟨by decide, by decide, by decide +kernel⟩, by decide, by decide⟩
theorem w_X7_trim : Cond.instanceMethod M_X7_trim.1 ∈ en_tbl ∧ Cond.selects M_X7_trim.1.cls M_X7_trim.1 M_X7_trim.1 ∈ en_tbl := ⟨inT4 56 rfl rfl, by decide +kernel⟩
theorem q_X7_takeSizes_133 : decode M_X7_takeSizes.2.1 133 = .ok (.return_, 1) ∧ 133 + 1 = 134 := ⟨dcAll_e (i := 34) da_X7_takeSizes_1 rfl, rfl⟩
def dl_X7_multiply_0 : List (Nat × Instr × Nat) := [(0, .aload_n 0, 1), (1, .getfield 14, 3), (4, .iload_n 2, 1), (5, .iaload, 1), (6, .aload_n 0, 1), (7, .getfield 14, 3), (10, .iload_n 3, 1), (11, .iaload, 1), (12, .iadd, 1), (13, .istore 4, 2), (15, .iconst 0, 1), (16, .istore 5, 2), (18, .iload 5, 2), (20, .iload 4, 2), (22, .if_icmp .ge 23, 3), (25, .aload_n 0, 1), (26, .getfield 8, 3), (29, .sipush 320, 3), (32, .iload_n 1, 1), (33, .imul, 1), (34, .iload 5, 2), (36, .iadd, 1), (37, .iconst 0, 1), (38, .iastore, 1), (39, .iinc 5 1, 3), (42, .goto (-24), 3), (45, .iconst 0, 1), (46, .istore 5, 2), (48, .iload 5, 2), (50, .aload_n 0, 1), (51, .getfield 14, 3), (54, .iload_n 2, 1), (55, .iaload, 1), (56, .if_icmp .ge 142, 3), (59, .lconst 0, 1), (60, .lstore 6, 2), (62, .aload_n 0, 1), (63, .getfield 8, 3), (66, .sipush 320, 3), (69, .iload_n 2, 1)]
theorem da_X7_multiply_0 : dcAll M_X7_multiply.2.1 dl_X7_multiply_0 = true := by decide +kernel
def dl_X7_multiply_1 : List (Nat × Instr × Nat) := [(70, .imul, 1), (71, .iload 5, 2), (73, .iadd, 1), (74, .iaload, 1), (75, .i2l, 1), (76, .lstore 8, 2), (78, .iconst 0, 1), (79, .istore 10, 2), (81, .iload 10, 2), (83, .aload_n 0, 1), (84, .getfield 14, 3), (87, .iload_n 3, 1), (88, .iaload, 1), (89, .if_icmp .ge 80, 3), (92, .aload_n 0, 1), (93, .getfield 8, 3), (96, .sipush 320, 3), (99, .iload_n 1, 1), (100, .imul, 1), (101, .iload 5, 2), (103, .iadd, 1), (104, .iload 10, 2), (106, .iadd, 1), (107, .iaload, 1), (108, .i2l, 1), (109, .lload 8, 2), (111, .aload_n 0, 1), (112, .getfield 8, 3), (115, .sipush 320, 3), (118, .iload_n 3, 1), (119, .imul, 1), (120, .iload 10, 2), (122, .iadd, 1), (123, .iaload, 1), (124, .i2l, 1), (125, .lmul, 1), (126, .ladd, 1), (127, .lload 6, 2), (129, .ladd, 1), (130, .lstore 11, 2)]
theorem da_X7_multiply_1 : dcAll M_X7_multiply.2.1 dl_X7_multiply_1 = true := by decide +kernel
def dl_X7_multiply_2 : List (Nat × Instr × Nat) := [(132, .aload_n 0, 1), (133, .getfield 8, 3), (136, .sipush 320, 3), (139, .iload_n 1, 1), (140, .imul, 1), (141, .iload 5, 2), (143, .iadd, 1), (144, .iload 10, 2), (146, .iadd, 1), (147, .lload 11, 2), (149, .ldc2_w 47, 3), (152, .lrem, 1), (153, .l2i, 1), (154, .iastore, 1), (155, .lload 11, 2), (157, .ldc2_w 47, 3), (160, .ldiv, 1), (161, .lstore 6, 2), (163, .iinc 10 1, 3), (166, .goto (-85), 3), (169, .aload_n 0, 1), (170, .getfield 8, 3), (173, .sipush 320, 3), (176, .iload_n 1, 1), (177, .imul, 1), (178, .iload 5, 2), (180, .iadd, 1), (181, .aload_n 0, 1), (182, .getfield 14, 3), (185, .iload_n 3, 1), (186, .iaload, 1), (187, .iadd, 1), (188, .lload 6, 2), (190, .l2i, 1), (191, .iastore, 1), (192, .iinc 5 1, 3), (195, .goto (-147), 3), (198, .aload_n 0, 1), (199, .getfield 17, 3), (202, .iload_n 1, 1)]
theorem da_X7_multiply_2 : dcAll M_X7_multiply.2.1 dl_X7_multiply_2 = true := by decide +kernel
def dl_X7_multiply_3 : List (Nat × Instr × Nat) := [(203, .aload_n 0, 1), (204, .getfield 17, 3), (207, .iload_n 2, 1), (208, .iaload, 1), (209, .aload_n 0, 1), (210, .getfield 17, 3), (213, .iload_n 3, 1), (214, .iaload, 1), (215, .imul, 1), (216, .iastore, 1), (217, .aload_n 0, 1), (218, .iload_n 1, 1), (219, .iload 4, 2), (221, .invokevirtual 66, 3), (224, .return_, 1)]
theorem da_X7_multiply_3 : dcAll M_X7_multiply.2.1 dl_X7_multiply_3 = true := by decide +kernel
theorem q_X7_multiply_0 : decode M_X7_multiply.2.1 0 = .ok (.aload_n 0, 1) ∧ 0 + 1 = 1 := ⟨dcAll_e (i := 0) da_X7_multiply_0 rfl, rfl⟩
theorem q_X7_multiply_1 : decode M_X7_multiply.2.1 1 = .ok (.getfield 14, 3) ∧ 1 + 3 = 4 := ⟨dcAll_e (i := 1) da_X7_multiply_0 rfl, rfl⟩
theorem q_X7_multiply_4 : decode M_X7_multiply.2.1 4 = .ok (.iload_n 2, 1) ∧ 4 + 1 = 5 := ⟨dcAll_e (i := 2) da_X7_multiply_0 rfl, rfl⟩
theorem q_X7_multiply_5 : decode M_X7_multiply.2.1 5 = .ok (.iaload, 1) ∧ 5 + 1 = 6 := ⟨dcAll_e (i := 3) da_X7_multiply_0 rfl, rfl⟩
theorem q_X7_multiply_6 : decode M_X7_multiply.2.1 6 = .ok (.aload_n 0, 1) ∧ 6 + 1 = 7 := ⟨dcAll_e (i := 4) da_X7_multiply_0 rfl, rfl⟩
theorem q_X7_multiply_7 : decode M_X7_multiply.2.1 7 = .ok (.getfield 14, 3) ∧ 7 + 3 = 10 := ⟨dcAll_e (i := 5) da_X7_multiply_0 rfl, rfl⟩
theorem q_X7_multiply_10 : decode M_X7_multiply.2.1 10 = .ok (.iload_n 3, 1) ∧ 10 + 1 = 11 := ⟨dcAll_e (i := 6) da_X7_multiply_0 rfl, rfl⟩
theorem q_X7_multiply_11 : decode M_X7_multiply.2.1 11 = .ok (.iaload, 1) ∧ 11 + 1 = 12 := ⟨dcAll_e (i := 7) da_X7_multiply_0 rfl, rfl⟩
theorem q_X7_multiply_12 : decode M_X7_multiply.2.1 12 = .ok (.iadd, 1) ∧ 12 + 1 = 13 := ⟨dcAll_e (i := 8) da_X7_multiply_0 rfl, rfl⟩
theorem q_X7_multiply_13 : decode M_X7_multiply.2.1 13 = .ok (.istore 4, 2) ∧ 13 + 2 = 15 := ⟨dcAll_e (i := 9) da_X7_multiply_0 rfl, rfl⟩
theorem q_X7_multiply_15 : decode M_X7_multiply.2.1 15 = .ok (.iconst 0, 1) ∧ 15 + 1 = 16 := ⟨dcAll_e (i := 10) da_X7_multiply_0 rfl, rfl⟩
theorem q_X7_multiply_16 : decode M_X7_multiply.2.1 16 = .ok (.istore 5, 2) ∧ 16 + 2 = 18 := ⟨dcAll_e (i := 11) da_X7_multiply_0 rfl, rfl⟩
theorem q_X7_multiply_18 : decode M_X7_multiply.2.1 18 = .ok (.iload 5, 2) ∧ 18 + 2 = 20 := ⟨dcAll_e (i := 12) da_X7_multiply_0 rfl, rfl⟩
theorem q_X7_multiply_20 : decode M_X7_multiply.2.1 20 = .ok (.iload 4, 2) ∧ 20 + 2 = 22 := ⟨dcAll_e (i := 13) da_X7_multiply_0 rfl, rfl⟩
theorem q_X7_multiply_22 : decode M_X7_multiply.2.1 22 = .ok (.if_icmp .ge 23, 3) ∧ 22 + 3 = 25 ∧ ((22 : Nat) : Int) + 23 = ((45 : Nat) : Int) := ⟨dcAll_e (i := 14) da_X7_multiply_0 rfl, rfl, rfl⟩
theorem q_X7_multiply_25 : decode M_X7_multiply.2.1 25 = .ok (.aload_n 0, 1) ∧ 25 + 1 = 26 := ⟨dcAll_e (i := 15) da_X7_multiply_0 rfl, rfl⟩
theorem q_X7_multiply_26 : decode M_X7_multiply.2.1 26 = .ok (.getfield 8, 3) ∧ 26 + 3 = 29 := ⟨dcAll_e (i := 16) da_X7_multiply_0 rfl, rfl⟩
theorem q_X7_multiply_29 : decode M_X7_multiply.2.1 29 = .ok (.sipush 320, 3) ∧ 29 + 3 = 32 := ⟨dcAll_e (i := 17) da_X7_multiply_0 rfl, rfl⟩
theorem q_X7_multiply_32 : decode M_X7_multiply.2.1 32 = .ok (.iload_n 1, 1) ∧ 32 + 1 = 33 := ⟨dcAll_e (i := 18) da_X7_multiply_0 rfl, rfl⟩
theorem q_X7_multiply_33 : decode M_X7_multiply.2.1 33 = .ok (.imul, 1) ∧ 33 + 1 = 34 := ⟨dcAll_e (i := 19) da_X7_multiply_0 rfl, rfl⟩
theorem q_X7_multiply_34 : decode M_X7_multiply.2.1 34 = .ok (.iload 5, 2) ∧ 34 + 2 = 36 := ⟨dcAll_e (i := 20) da_X7_multiply_0 rfl, rfl⟩
theorem q_X7_multiply_36 : decode M_X7_multiply.2.1 36 = .ok (.iadd, 1) ∧ 36 + 1 = 37 := ⟨dcAll_e (i := 21) da_X7_multiply_0 rfl, rfl⟩
theorem q_X7_multiply_37 : decode M_X7_multiply.2.1 37 = .ok (.iconst 0, 1) ∧ 37 + 1 = 38 := ⟨dcAll_e (i := 22) da_X7_multiply_0 rfl, rfl⟩
theorem q_X7_multiply_38 : decode M_X7_multiply.2.1 38 = .ok (.iastore, 1) ∧ 38 + 1 = 39 := ⟨dcAll_e (i := 23) da_X7_multiply_0 rfl, rfl⟩
theorem q_X7_multiply_39 : decode M_X7_multiply.2.1 39 = .ok (.iinc 5 1, 3) ∧ 39 + 3 = 42 := ⟨dcAll_e (i := 24) da_X7_multiply_0 rfl, rfl⟩
theorem q_X7_multiply_42 : decode M_X7_multiply.2.1 42 = .ok (.goto (-24), 3) ∧ 42 + 3 = 45 ∧ ((42 : Nat) : Int) + (-24) = ((18 : Nat) : Int) := ⟨dcAll_e (i := 25) da_X7_multiply_0 rfl, rfl, rfl⟩
theorem q_X7_multiply_45 : decode M_X7_multiply.2.1 45 = .ok (.iconst 0, 1) ∧ 45 + 1 = 46 := ⟨dcAll_e (i := 26) da_X7_multiply_0 rfl, rfl⟩
theorem q_X7_multiply_46 : decode M_X7_multiply.2.1 46 = .ok (.istore 5, 2) ∧ 46 + 2 = 48 := ⟨dcAll_e (i := 27) da_X7_multiply_0 rfl, rfl⟩
theorem q_X7_multiply_48 : decode M_X7_multiply.2.1 48 = .ok (.iload 5, 2) ∧ 48 + 2 = 50 := ⟨dcAll_e (i := 28) da_X7_multiply_0 rfl, rfl⟩
theorem q_X7_multiply_50 : decode M_X7_multiply.2.1 50 = .ok (.aload_n 0, 1) ∧ 50 + 1 = 51 := ⟨dcAll_e (i := 29) da_X7_multiply_0 rfl, rfl⟩
theorem q_X7_multiply_51 : decode M_X7_multiply.2.1 51 = .ok (.getfield 14, 3) ∧ 51 + 3 = 54 := ⟨dcAll_e (i := 30) da_X7_multiply_0 rfl, rfl⟩
theorem q_X7_multiply_54 : decode M_X7_multiply.2.1 54 = .ok (.iload_n 2, 1) ∧ 54 + 1 = 55 := ⟨dcAll_e (i := 31) da_X7_multiply_0 rfl, rfl⟩
theorem q_X7_multiply_55 : decode M_X7_multiply.2.1 55 = .ok (.iaload, 1) ∧ 55 + 1 = 56 := ⟨dcAll_e (i := 32) da_X7_multiply_0 rfl, rfl⟩
theorem q_X7_multiply_56 : decode M_X7_multiply.2.1 56 = .ok (.if_icmp .ge 142, 3) ∧ 56 + 3 = 59 ∧ ((56 : Nat) : Int) + 142 = ((198 : Nat) : Int) := ⟨dcAll_e (i := 33) da_X7_multiply_0 rfl, rfl, rfl⟩
theorem q_X7_multiply_59 : decode M_X7_multiply.2.1 59 = .ok (.lconst 0, 1) ∧ 59 + 1 = 60 := ⟨dcAll_e (i := 34) da_X7_multiply_0 rfl, rfl⟩
theorem q_X7_multiply_60 : decode M_X7_multiply.2.1 60 = .ok (.lstore 6, 2) ∧ 60 + 2 = 62 := ⟨dcAll_e (i := 35) da_X7_multiply_0 rfl, rfl⟩
theorem q_X7_multiply_62 : decode M_X7_multiply.2.1 62 = .ok (.aload_n 0, 1) ∧ 62 + 1 = 63 := ⟨dcAll_e (i := 36) da_X7_multiply_0 rfl, rfl⟩
theorem q_X7_multiply_63 : decode M_X7_multiply.2.1 63 = .ok (.getfield 8, 3) ∧ 63 + 3 = 66 := ⟨dcAll_e (i := 37) da_X7_multiply_0 rfl, rfl⟩
theorem q_X7_multiply_66 : decode M_X7_multiply.2.1 66 = .ok (.sipush 320, 3) ∧ 66 + 3 = 69 := ⟨dcAll_e (i := 38) da_X7_multiply_0 rfl, rfl⟩
theorem q_X7_multiply_69 : decode M_X7_multiply.2.1 69 = .ok (.iload_n 2, 1) ∧ 69 + 1 = 70 := ⟨dcAll_e (i := 39) da_X7_multiply_0 rfl, rfl⟩
theorem q_X7_multiply_70 : decode M_X7_multiply.2.1 70 = .ok (.imul, 1) ∧ 70 + 1 = 71 := ⟨dcAll_e (i := 0) da_X7_multiply_1 rfl, rfl⟩
theorem q_X7_multiply_71 : decode M_X7_multiply.2.1 71 = .ok (.iload 5, 2) ∧ 71 + 2 = 73 := ⟨dcAll_e (i := 1) da_X7_multiply_1 rfl, rfl⟩
theorem q_X7_multiply_73 : decode M_X7_multiply.2.1 73 = .ok (.iadd, 1) ∧ 73 + 1 = 74 := ⟨dcAll_e (i := 2) da_X7_multiply_1 rfl, rfl⟩
theorem q_X7_multiply_74 : decode M_X7_multiply.2.1 74 = .ok (.iaload, 1) ∧ 74 + 1 = 75 := ⟨dcAll_e (i := 3) da_X7_multiply_1 rfl, rfl⟩
theorem q_X7_multiply_75 : decode M_X7_multiply.2.1 75 = .ok (.i2l, 1) ∧ 75 + 1 = 76 := ⟨dcAll_e (i := 4) da_X7_multiply_1 rfl, rfl⟩
theorem q_X7_multiply_76 : decode M_X7_multiply.2.1 76 = .ok (.lstore 8, 2) ∧ 76 + 2 = 78 := ⟨dcAll_e (i := 5) da_X7_multiply_1 rfl, rfl⟩
theorem q_X7_multiply_78 : decode M_X7_multiply.2.1 78 = .ok (.iconst 0, 1) ∧ 78 + 1 = 79 := ⟨dcAll_e (i := 6) da_X7_multiply_1 rfl, rfl⟩
theorem q_X7_multiply_79 : decode M_X7_multiply.2.1 79 = .ok (.istore 10, 2) ∧ 79 + 2 = 81 := ⟨dcAll_e (i := 7) da_X7_multiply_1 rfl, rfl⟩
theorem q_X7_multiply_81 : decode M_X7_multiply.2.1 81 = .ok (.iload 10, 2) ∧ 81 + 2 = 83 := ⟨dcAll_e (i := 8) da_X7_multiply_1 rfl, rfl⟩
theorem q_X7_multiply_83 : decode M_X7_multiply.2.1 83 = .ok (.aload_n 0, 1) ∧ 83 + 1 = 84 := ⟨dcAll_e (i := 9) da_X7_multiply_1 rfl, rfl⟩
theorem q_X7_multiply_84 : decode M_X7_multiply.2.1 84 = .ok (.getfield 14, 3) ∧ 84 + 3 = 87 := ⟨dcAll_e (i := 10) da_X7_multiply_1 rfl, rfl⟩
theorem q_X7_multiply_87 : decode M_X7_multiply.2.1 87 = .ok (.iload_n 3, 1) ∧ 87 + 1 = 88 := ⟨dcAll_e (i := 11) da_X7_multiply_1 rfl, rfl⟩
theorem q_X7_multiply_88 : decode M_X7_multiply.2.1 88 = .ok (.iaload, 1) ∧ 88 + 1 = 89 := ⟨dcAll_e (i := 12) da_X7_multiply_1 rfl, rfl⟩
theorem q_X7_multiply_89 : decode M_X7_multiply.2.1 89 = .ok (.if_icmp .ge 80, 3) ∧ 89 + 3 = 92 ∧ ((89 : Nat) : Int) + 80 = ((169 : Nat) : Int) := ⟨dcAll_e (i := 13) da_X7_multiply_1 rfl, rfl, rfl⟩
theorem q_X7_multiply_92 : decode M_X7_multiply.2.1 92 = .ok (.aload_n 0, 1) ∧ 92 + 1 = 93 := ⟨dcAll_e (i := 14) da_X7_multiply_1 rfl, rfl⟩
theorem q_X7_multiply_93 : decode M_X7_multiply.2.1 93 = .ok (.getfield 8, 3) ∧ 93 + 3 = 96 := ⟨dcAll_e (i := 15) da_X7_multiply_1 rfl, rfl⟩
theorem q_X7_multiply_96 : decode M_X7_multiply.2.1 96 = .ok (.sipush 320, 3) ∧ 96 + 3 = 99 := ⟨dcAll_e (i := 16) da_X7_multiply_1 rfl, rfl⟩
theorem q_X7_multiply_99 : decode M_X7_multiply.2.1 99 = .ok (.iload_n 1, 1) ∧ 99 + 1 = 100 := ⟨dcAll_e (i := 17) da_X7_multiply_1 rfl, rfl⟩
theorem q_X7_multiply_100 : decode M_X7_multiply.2.1 100 = .ok (.imul, 1) ∧ 100 + 1 = 101 := ⟨dcAll_e (i := 18) da_X7_multiply_1 rfl, rfl⟩
theorem q_X7_multiply_101 : decode M_X7_multiply.2.1 101 = .ok (.iload 5, 2) ∧ 101 + 2 = 103 := ⟨dcAll_e (i := 19) da_X7_multiply_1 rfl, rfl⟩
theorem q_X7_multiply_103 : decode M_X7_multiply.2.1 103 = .ok (.iadd, 1) ∧ 103 + 1 = 104 := ⟨dcAll_e (i := 20) da_X7_multiply_1 rfl, rfl⟩
theorem q_X7_multiply_104 : decode M_X7_multiply.2.1 104 = .ok (.iload 10, 2) ∧ 104 + 2 = 106 := ⟨dcAll_e (i := 21) da_X7_multiply_1 rfl, rfl⟩
theorem q_X7_multiply_106 : decode M_X7_multiply.2.1 106 = .ok (.iadd, 1) ∧ 106 + 1 = 107 := ⟨dcAll_e (i := 22) da_X7_multiply_1 rfl, rfl⟩
theorem q_X7_multiply_107 : decode M_X7_multiply.2.1 107 = .ok (.iaload, 1) ∧ 107 + 1 = 108 := ⟨dcAll_e (i := 23) da_X7_multiply_1 rfl, rfl⟩
theorem q_X7_multiply_108 : decode M_X7_multiply.2.1 108 = .ok (.i2l, 1) ∧ 108 + 1 = 109 := ⟨dcAll_e (i := 24) da_X7_multiply_1 rfl, rfl⟩
theorem q_X7_multiply_109 : decode M_X7_multiply.2.1 109 = .ok (.lload 8, 2) ∧ 109 + 2 = 111 := ⟨dcAll_e (i := 25) da_X7_multiply_1 rfl, rfl⟩
theorem q_X7_multiply_111 : decode M_X7_multiply.2.1 111 = .ok (.aload_n 0, 1) ∧ 111 + 1 = 112 := ⟨dcAll_e (i := 26) da_X7_multiply_1 rfl, rfl⟩
theorem q_X7_multiply_112 : decode M_X7_multiply.2.1 112 = .ok (.getfield 8, 3) ∧ 112 + 3 = 115 := ⟨dcAll_e (i := 27) da_X7_multiply_1 rfl, rfl⟩
theorem q_X7_multiply_115 : decode M_X7_multiply.2.1 115 = .ok (.sipush 320, 3) ∧ 115 + 3 = 118 := ⟨dcAll_e (i := 28) da_X7_multiply_1 rfl, rfl⟩
theorem q_X7_multiply_118 : decode M_X7_multiply.2.1 118 = .ok (.iload_n 3, 1) ∧ 118 + 1 = 119 := ⟨dcAll_e (i := 29) da_X7_multiply_1 rfl, rfl⟩
theorem q_X7_multiply_119 : decode M_X7_multiply.2.1 119 = .ok (.imul, 1) ∧ 119 + 1 = 120 := ⟨dcAll_e (i := 30) da_X7_multiply_1 rfl, rfl⟩
theorem q_X7_multiply_120 : decode M_X7_multiply.2.1 120 = .ok (.iload 10, 2) ∧ 120 + 2 = 122 := ⟨dcAll_e (i := 31) da_X7_multiply_1 rfl, rfl⟩
theorem q_X7_multiply_122 : decode M_X7_multiply.2.1 122 = .ok (.iadd, 1) ∧ 122 + 1 = 123 := ⟨dcAll_e (i := 32) da_X7_multiply_1 rfl, rfl⟩
theorem q_X7_multiply_123 : decode M_X7_multiply.2.1 123 = .ok (.iaload, 1) ∧ 123 + 1 = 124 := ⟨dcAll_e (i := 33) da_X7_multiply_1 rfl, rfl⟩
theorem q_X7_multiply_124 : decode M_X7_multiply.2.1 124 = .ok (.i2l, 1) ∧ 124 + 1 = 125 := ⟨dcAll_e (i := 34) da_X7_multiply_1 rfl, rfl⟩
theorem q_X7_multiply_125 : decode M_X7_multiply.2.1 125 = .ok (.lmul, 1) ∧ 125 + 1 = 126 := ⟨dcAll_e (i := 35) da_X7_multiply_1 rfl, rfl⟩
theorem q_X7_multiply_126 : decode M_X7_multiply.2.1 126 = .ok (.ladd, 1) ∧ 126 + 1 = 127 := ⟨dcAll_e (i := 36) da_X7_multiply_1 rfl, rfl⟩
theorem q_X7_multiply_127 : decode M_X7_multiply.2.1 127 = .ok (.lload 6, 2) ∧ 127 + 2 = 129 := ⟨dcAll_e (i := 37) da_X7_multiply_1 rfl, rfl⟩
theorem q_X7_multiply_129 : decode M_X7_multiply.2.1 129 = .ok (.ladd, 1) ∧ 129 + 1 = 130 := ⟨dcAll_e (i := 38) da_X7_multiply_1 rfl, rfl⟩
theorem q_X7_multiply_130 : decode M_X7_multiply.2.1 130 = .ok (.lstore 11, 2) ∧ 130 + 2 = 132 := ⟨dcAll_e (i := 39) da_X7_multiply_1 rfl, rfl⟩
theorem q_X7_multiply_132 : decode M_X7_multiply.2.1 132 = .ok (.aload_n 0, 1) ∧ 132 + 1 = 133 := ⟨dcAll_e (i := 0) da_X7_multiply_2 rfl, rfl⟩
theorem q_X7_multiply_133 : decode M_X7_multiply.2.1 133 = .ok (.getfield 8, 3) ∧ 133 + 3 = 136 := ⟨dcAll_e (i := 1) da_X7_multiply_2 rfl, rfl⟩
theorem q_X7_multiply_136 : decode M_X7_multiply.2.1 136 = .ok (.sipush 320, 3) ∧ 136 + 3 = 139 := ⟨dcAll_e (i := 2) da_X7_multiply_2 rfl, rfl⟩
theorem q_X7_multiply_139 : decode M_X7_multiply.2.1 139 = .ok (.iload_n 1, 1) ∧ 139 + 1 = 140 := ⟨dcAll_e (i := 3) da_X7_multiply_2 rfl, rfl⟩
theorem q_X7_multiply_140 : decode M_X7_multiply.2.1 140 = .ok (.imul, 1) ∧ 140 + 1 = 141 := ⟨dcAll_e (i := 4) da_X7_multiply_2 rfl, rfl⟩
theorem q_X7_multiply_141 : decode M_X7_multiply.2.1 141 = .ok (.iload 5, 2) ∧ 141 + 2 = 143 := ⟨dcAll_e (i := 5) da_X7_multiply_2 rfl, rfl⟩
theorem q_X7_multiply_143 : decode M_X7_multiply.2.1 143 = .ok (.iadd, 1) ∧ 143 + 1 = 144 := ⟨dcAll_e (i := 6) da_X7_multiply_2 rfl, rfl⟩
theorem q_X7_multiply_144 : decode M_X7_multiply.2.1 144 = .ok (.iload 10, 2) ∧ 144 + 2 = 146 := ⟨dcAll_e (i := 7) da_X7_multiply_2 rfl, rfl⟩
theorem q_X7_multiply_146 : decode M_X7_multiply.2.1 146 = .ok (.iadd, 1) ∧ 146 + 1 = 147 := ⟨dcAll_e (i := 8) da_X7_multiply_2 rfl, rfl⟩
theorem q_X7_multiply_147 : decode M_X7_multiply.2.1 147 = .ok (.lload 11, 2) ∧ 147 + 2 = 149 := ⟨dcAll_e (i := 9) da_X7_multiply_2 rfl, rfl⟩
theorem q_X7_multiply_149 : decode M_X7_multiply.2.1 149 = .ok (.ldc2_w 47, 3) ∧ 149 + 3 = 152 := ⟨dcAll_e (i := 10) da_X7_multiply_2 rfl, rfl⟩
theorem q_X7_multiply_152 : decode M_X7_multiply.2.1 152 = .ok (.lrem, 1) ∧ 152 + 1 = 153 := ⟨dcAll_e (i := 11) da_X7_multiply_2 rfl, rfl⟩
theorem q_X7_multiply_153 : decode M_X7_multiply.2.1 153 = .ok (.l2i, 1) ∧ 153 + 1 = 154 := ⟨dcAll_e (i := 12) da_X7_multiply_2 rfl, rfl⟩
theorem q_X7_multiply_154 : decode M_X7_multiply.2.1 154 = .ok (.iastore, 1) ∧ 154 + 1 = 155 := ⟨dcAll_e (i := 13) da_X7_multiply_2 rfl, rfl⟩
theorem q_X7_multiply_155 : decode M_X7_multiply.2.1 155 = .ok (.lload 11, 2) ∧ 155 + 2 = 157 := ⟨dcAll_e (i := 14) da_X7_multiply_2 rfl, rfl⟩
theorem q_X7_multiply_157 : decode M_X7_multiply.2.1 157 = .ok (.ldc2_w 47, 3) ∧ 157 + 3 = 160 := ⟨dcAll_e (i := 15) da_X7_multiply_2 rfl, rfl⟩
theorem q_X7_multiply_160 : decode M_X7_multiply.2.1 160 = .ok (.ldiv, 1) ∧ 160 + 1 = 161 := ⟨dcAll_e (i := 16) da_X7_multiply_2 rfl, rfl⟩
theorem q_X7_multiply_161 : decode M_X7_multiply.2.1 161 = .ok (.lstore 6, 2) ∧ 161 + 2 = 163 := ⟨dcAll_e (i := 17) da_X7_multiply_2 rfl, rfl⟩
theorem q_X7_multiply_163 : decode M_X7_multiply.2.1 163 = .ok (.iinc 10 1, 3) ∧ 163 + 3 = 166 := ⟨dcAll_e (i := 18) da_X7_multiply_2 rfl, rfl⟩
theorem q_X7_multiply_166 : decode M_X7_multiply.2.1 166 = .ok (.goto (-85), 3) ∧ 166 + 3 = 169 ∧ ((166 : Nat) : Int) + (-85) = ((81 : Nat) : Int) := ⟨dcAll_e (i := 19) da_X7_multiply_2 rfl, rfl, rfl⟩
theorem q_X7_multiply_169 : decode M_X7_multiply.2.1 169 = .ok (.aload_n 0, 1) ∧ 169 + 1 = 170 := ⟨dcAll_e (i := 20) da_X7_multiply_2 rfl, rfl⟩
theorem q_X7_multiply_170 : decode M_X7_multiply.2.1 170 = .ok (.getfield 8, 3) ∧ 170 + 3 = 173 := ⟨dcAll_e (i := 21) da_X7_multiply_2 rfl, rfl⟩
theorem q_X7_multiply_173 : decode M_X7_multiply.2.1 173 = .ok (.sipush 320, 3) ∧ 173 + 3 = 176 := ⟨dcAll_e (i := 22) da_X7_multiply_2 rfl, rfl⟩
theorem q_X7_multiply_176 : decode M_X7_multiply.2.1 176 = .ok (.iload_n 1, 1) ∧ 176 + 1 = 177 := ⟨dcAll_e (i := 23) da_X7_multiply_2 rfl, rfl⟩
theorem q_X7_multiply_177 : decode M_X7_multiply.2.1 177 = .ok (.imul, 1) ∧ 177 + 1 = 178 := ⟨dcAll_e (i := 24) da_X7_multiply_2 rfl, rfl⟩
theorem q_X7_multiply_178 : decode M_X7_multiply.2.1 178 = .ok (.iload 5, 2) ∧ 178 + 2 = 180 := ⟨dcAll_e (i := 25) da_X7_multiply_2 rfl, rfl⟩
theorem q_X7_multiply_180 : decode M_X7_multiply.2.1 180 = .ok (.iadd, 1) ∧ 180 + 1 = 181 := ⟨dcAll_e (i := 26) da_X7_multiply_2 rfl, rfl⟩
theorem q_X7_multiply_181 : decode M_X7_multiply.2.1 181 = .ok (.aload_n 0, 1) ∧ 181 + 1 = 182 := ⟨dcAll_e (i := 27) da_X7_multiply_2 rfl, rfl⟩
theorem q_X7_multiply_182 : decode M_X7_multiply.2.1 182 = .ok (.getfield 14, 3) ∧ 182 + 3 = 185 := ⟨dcAll_e (i := 28) da_X7_multiply_2 rfl, rfl⟩
theorem q_X7_multiply_185 : decode M_X7_multiply.2.1 185 = .ok (.iload_n 3, 1) ∧ 185 + 1 = 186 := ⟨dcAll_e (i := 29) da_X7_multiply_2 rfl, rfl⟩
theorem q_X7_multiply_186 : decode M_X7_multiply.2.1 186 = .ok (.iaload, 1) ∧ 186 + 1 = 187 := ⟨dcAll_e (i := 30) da_X7_multiply_2 rfl, rfl⟩
theorem q_X7_multiply_187 : decode M_X7_multiply.2.1 187 = .ok (.iadd, 1) ∧ 187 + 1 = 188 := ⟨dcAll_e (i := 31) da_X7_multiply_2 rfl, rfl⟩
theorem q_X7_multiply_188 : decode M_X7_multiply.2.1 188 = .ok (.lload 6, 2) ∧ 188 + 2 = 190 := ⟨dcAll_e (i := 32) da_X7_multiply_2 rfl, rfl⟩
theorem q_X7_multiply_190 : decode M_X7_multiply.2.1 190 = .ok (.l2i, 1) ∧ 190 + 1 = 191 := ⟨dcAll_e (i := 33) da_X7_multiply_2 rfl, rfl⟩
theorem q_X7_multiply_191 : decode M_X7_multiply.2.1 191 = .ok (.iastore, 1) ∧ 191 + 1 = 192 := ⟨dcAll_e (i := 34) da_X7_multiply_2 rfl, rfl⟩
theorem q_X7_multiply_192 : decode M_X7_multiply.2.1 192 = .ok (.iinc 5 1, 3) ∧ 192 + 3 = 195 := ⟨dcAll_e (i := 35) da_X7_multiply_2 rfl, rfl⟩
theorem q_X7_multiply_195 : decode M_X7_multiply.2.1 195 = .ok (.goto (-147), 3) ∧ 195 + 3 = 198 ∧ ((195 : Nat) : Int) + (-147) = ((48 : Nat) : Int) := ⟨dcAll_e (i := 36) da_X7_multiply_2 rfl, rfl, rfl⟩
theorem q_X7_multiply_198 : decode M_X7_multiply.2.1 198 = .ok (.aload_n 0, 1) ∧ 198 + 1 = 199 := ⟨dcAll_e (i := 37) da_X7_multiply_2 rfl, rfl⟩
theorem q_X7_multiply_199 : decode M_X7_multiply.2.1 199 = .ok (.getfield 17, 3) ∧ 199 + 3 = 202 := ⟨dcAll_e (i := 38) da_X7_multiply_2 rfl, rfl⟩
theorem q_X7_multiply_202 : decode M_X7_multiply.2.1 202 = .ok (.iload_n 1, 1) ∧ 202 + 1 = 203 := ⟨dcAll_e (i := 39) da_X7_multiply_2 rfl, rfl⟩
theorem q_X7_multiply_203 : decode M_X7_multiply.2.1 203 = .ok (.aload_n 0, 1) ∧ 203 + 1 = 204 := ⟨dcAll_e (i := 0) da_X7_multiply_3 rfl, rfl⟩
theorem q_X7_multiply_204 : decode M_X7_multiply.2.1 204 = .ok (.getfield 17, 3) ∧ 204 + 3 = 207 := ⟨dcAll_e (i := 1) da_X7_multiply_3 rfl, rfl⟩
theorem q_X7_multiply_207 : decode M_X7_multiply.2.1 207 = .ok (.iload_n 2, 1) ∧ 207 + 1 = 208 := ⟨dcAll_e (i := 2) da_X7_multiply_3 rfl, rfl⟩
theorem q_X7_multiply_208 : decode M_X7_multiply.2.1 208 = .ok (.iaload, 1) ∧ 208 + 1 = 209 := ⟨dcAll_e (i := 3) da_X7_multiply_3 rfl, rfl⟩
theorem q_X7_multiply_209 : decode M_X7_multiply.2.1 209 = .ok (.aload_n 0, 1) ∧ 209 + 1 = 210 := ⟨dcAll_e (i := 4) da_X7_multiply_3 rfl, rfl⟩
theorem q_X7_multiply_210 : decode M_X7_multiply.2.1 210 = .ok (.getfield 17, 3) ∧ 210 + 3 = 213 := ⟨dcAll_e (i := 5) da_X7_multiply_3 rfl, rfl⟩
theorem q_X7_multiply_213 : decode M_X7_multiply.2.1 213 = .ok (.iload_n 3, 1) ∧ 213 + 1 = 214 := ⟨dcAll_e (i := 6) da_X7_multiply_3 rfl, rfl⟩
theorem q_X7_multiply_214 : decode M_X7_multiply.2.1 214 = .ok (.iaload, 1) ∧ 214 + 1 = 215 := ⟨dcAll_e (i := 7) da_X7_multiply_3 rfl, rfl⟩
theorem q_X7_multiply_215 : decode M_X7_multiply.2.1 215 = .ok (.imul, 1) ∧ 215 + 1 = 216 := ⟨dcAll_e (i := 8) da_X7_multiply_3 rfl, rfl⟩
theorem q_X7_multiply_216 : decode M_X7_multiply.2.1 216 = .ok (.iastore, 1) ∧ 216 + 1 = 217 := ⟨dcAll_e (i := 9) da_X7_multiply_3 rfl, rfl⟩
theorem q_X7_multiply_217 : decode M_X7_multiply.2.1 217 = .ok (.aload_n 0, 1) ∧ 217 + 1 = 218 := ⟨dcAll_e (i := 10) da_X7_multiply_3 rfl, rfl⟩
theorem q_X7_multiply_218 : decode M_X7_multiply.2.1 218 = .ok (.iload_n 1, 1) ∧ 218 + 1 = 219 := ⟨dcAll_e (i := 11) da_X7_multiply_3 rfl, rfl⟩
theorem q_X7_multiply_219 : decode M_X7_multiply.2.1 219 = .ok (.iload 4, 2) ∧ 219 + 2 = 221 := ⟨dcAll_e (i := 12) da_X7_multiply_3 rfl, rfl⟩
theorem q_X7_multiply_221 : decode M_X7_multiply.2.1 221 = .ok (.invokevirtual 66, 3) ∧ 221 + 3 = 224 := ⟨dcAll_e (i := 13) da_X7_multiply_3 rfl, rfl⟩
theorem g_X7_multiply_221 : en_C M_X7_multiply M_X7_trim 66 2 := ⟨⟨inT4 54 rfl rfl, in_X7, cd_X7_trim⟩, ⟨by decide, by decide, by decide +kernel⟩, by decide, by decide⟩
theorem q_X7_multiply_224 : decode M_X7_multiply.2.1 224 = .ok (.return_, 1) ∧ 224 + 1 = 225 := ⟨dcAll_e (i := 14) da_X7_multiply_3 rfl, rfl⟩
def dl_X7_timesSmall_0 : List (Nat × Instr × Nat) := [(0, .lconst 0, 1), (1, .lstore 4, 2), (3, .iconst 0, 1), (4, .istore 6, 2), (6, .iload 6, 2), (8, .aload_n 0, 1), (9, .getfield 14, 3), (12, .iload_n 1, 1), (13, .iaload, 1), (14, .if_icmp .ge 58, 3), (17, .aload_n 0, 1), (18, .getfield 8, 3), (21, .sipush 320, 3), (24, .iload_n 1, 1), (25, .imul, 1), (26, .iload 6, 2), (28, .iadd, 1), (29, .iaload, 1), (30, .i2l, 1), (31, .lload_n 2, 1), (32, .lmul, 1), (33, .lload 4, 2), (35, .ladd, 1), (36, .lstore 7, 2), (38, .aload_n 0, 1), (39, .getfield 8, 3), (42, .sipush 320, 3), (45, .iload_n 1, 1), (46, .imul, 1), (47, .iload 6, 2), (49, .iadd, 1), (50, .lload 7, 2), (52, .ldc2_w 47, 3), (55, .lrem, 1), (56, .l2i, 1), (57, .iastore, 1), (58, .lload 7, 2), (60, .ldc2_w 47, 3), (63, .ldiv, 1), (64, .lstore 4, 2)]
theorem da_X7_timesSmall_0 : dcAll M_X7_timesSmall.2.1 dl_X7_timesSmall_0 = true := by decide +kernel
def dl_X7_timesSmall_1 : List (Nat × Instr × Nat) := [(66, .iinc 6 1, 3), (69, .goto (-63), 3), (72, .lload 4, 2), (74, .lconst 0, 1), (75, .lcmp, 1), (76, .ifCond .le 33, 3), (79, .aload_n 0, 1), (80, .getfield 8, 3), (83, .sipush 320, 3), (86, .iload_n 1, 1), (87, .imul, 1), (88, .aload_n 0, 1), (89, .getfield 14, 3), (92, .iload_n 1, 1), (93, .iaload, 1), (94, .iadd, 1), (95, .lload 4, 2), (97, .l2i, 1), (98, .iastore, 1), (99, .aload_n 0, 1), (100, .getfield 14, 3), (103, .iload_n 1, 1), (104, .dup2, 1), (105, .iaload, 1), (106, .iconst 1, 1), (107, .iadd, 1), (108, .iastore, 1), (109, .lload_n 2, 1), (110, .lconst 0, 1), (111, .lcmp, 1), (112, .ifCond .ne 14, 3), (115, .aload_n 0, 1), (116, .iload_n 1, 1), (117, .aload_n 0, 1), (118, .getfield 14, 3), (121, .iload_n 1, 1), (122, .iaload, 1), (123, .invokevirtual 66, 3), (126, .return_, 1)]
theorem da_X7_timesSmall_1 : dcAll M_X7_timesSmall.2.1 dl_X7_timesSmall_1 = true := by decide +kernel
theorem q_X7_timesSmall_0 : decode M_X7_timesSmall.2.1 0 = .ok (.lconst 0, 1) ∧ 0 + 1 = 1 := ⟨dcAll_e (i := 0) da_X7_timesSmall_0 rfl, rfl⟩
theorem q_X7_timesSmall_1 : decode M_X7_timesSmall.2.1 1 = .ok (.lstore 4, 2) ∧ 1 + 2 = 3 := ⟨dcAll_e (i := 1) da_X7_timesSmall_0 rfl, rfl⟩
theorem q_X7_timesSmall_3 : decode M_X7_timesSmall.2.1 3 = .ok (.iconst 0, 1) ∧ 3 + 1 = 4 := ⟨dcAll_e (i := 2) da_X7_timesSmall_0 rfl, rfl⟩
theorem q_X7_timesSmall_4 : decode M_X7_timesSmall.2.1 4 = .ok (.istore 6, 2) ∧ 4 + 2 = 6 := ⟨dcAll_e (i := 3) da_X7_timesSmall_0 rfl, rfl⟩
theorem q_X7_timesSmall_6 : decode M_X7_timesSmall.2.1 6 = .ok (.iload 6, 2) ∧ 6 + 2 = 8 := ⟨dcAll_e (i := 4) da_X7_timesSmall_0 rfl, rfl⟩
theorem q_X7_timesSmall_8 : decode M_X7_timesSmall.2.1 8 = .ok (.aload_n 0, 1) ∧ 8 + 1 = 9 := ⟨dcAll_e (i := 5) da_X7_timesSmall_0 rfl, rfl⟩
theorem q_X7_timesSmall_9 : decode M_X7_timesSmall.2.1 9 = .ok (.getfield 14, 3) ∧ 9 + 3 = 12 := ⟨dcAll_e (i := 6) da_X7_timesSmall_0 rfl, rfl⟩
theorem q_X7_timesSmall_12 : decode M_X7_timesSmall.2.1 12 = .ok (.iload_n 1, 1) ∧ 12 + 1 = 13 := ⟨dcAll_e (i := 7) da_X7_timesSmall_0 rfl, rfl⟩
theorem q_X7_timesSmall_13 : decode M_X7_timesSmall.2.1 13 = .ok (.iaload, 1) ∧ 13 + 1 = 14 := ⟨dcAll_e (i := 8) da_X7_timesSmall_0 rfl, rfl⟩
theorem q_X7_timesSmall_14 : decode M_X7_timesSmall.2.1 14 = .ok (.if_icmp .ge 58, 3) ∧ 14 + 3 = 17 ∧ ((14 : Nat) : Int) + 58 = ((72 : Nat) : Int) := ⟨dcAll_e (i := 9) da_X7_timesSmall_0 rfl, rfl, rfl⟩
theorem q_X7_timesSmall_17 : decode M_X7_timesSmall.2.1 17 = .ok (.aload_n 0, 1) ∧ 17 + 1 = 18 := ⟨dcAll_e (i := 10) da_X7_timesSmall_0 rfl, rfl⟩
theorem q_X7_timesSmall_18 : decode M_X7_timesSmall.2.1 18 = .ok (.getfield 8, 3) ∧ 18 + 3 = 21 := ⟨dcAll_e (i := 11) da_X7_timesSmall_0 rfl, rfl⟩
theorem q_X7_timesSmall_21 : decode M_X7_timesSmall.2.1 21 = .ok (.sipush 320, 3) ∧ 21 + 3 = 24 := ⟨dcAll_e (i := 12) da_X7_timesSmall_0 rfl, rfl⟩
theorem q_X7_timesSmall_24 : decode M_X7_timesSmall.2.1 24 = .ok (.iload_n 1, 1) ∧ 24 + 1 = 25 := ⟨dcAll_e (i := 13) da_X7_timesSmall_0 rfl, rfl⟩
theorem q_X7_timesSmall_25 : decode M_X7_timesSmall.2.1 25 = .ok (.imul, 1) ∧ 25 + 1 = 26 := ⟨dcAll_e (i := 14) da_X7_timesSmall_0 rfl, rfl⟩
theorem q_X7_timesSmall_26 : decode M_X7_timesSmall.2.1 26 = .ok (.iload 6, 2) ∧ 26 + 2 = 28 := ⟨dcAll_e (i := 15) da_X7_timesSmall_0 rfl, rfl⟩
theorem q_X7_timesSmall_28 : decode M_X7_timesSmall.2.1 28 = .ok (.iadd, 1) ∧ 28 + 1 = 29 := ⟨dcAll_e (i := 16) da_X7_timesSmall_0 rfl, rfl⟩
theorem q_X7_timesSmall_29 : decode M_X7_timesSmall.2.1 29 = .ok (.iaload, 1) ∧ 29 + 1 = 30 := ⟨dcAll_e (i := 17) da_X7_timesSmall_0 rfl, rfl⟩
theorem q_X7_timesSmall_30 : decode M_X7_timesSmall.2.1 30 = .ok (.i2l, 1) ∧ 30 + 1 = 31 := ⟨dcAll_e (i := 18) da_X7_timesSmall_0 rfl, rfl⟩
theorem q_X7_timesSmall_31 : decode M_X7_timesSmall.2.1 31 = .ok (.lload_n 2, 1) ∧ 31 + 1 = 32 := ⟨dcAll_e (i := 19) da_X7_timesSmall_0 rfl, rfl⟩
theorem q_X7_timesSmall_32 : decode M_X7_timesSmall.2.1 32 = .ok (.lmul, 1) ∧ 32 + 1 = 33 := ⟨dcAll_e (i := 20) da_X7_timesSmall_0 rfl, rfl⟩
theorem q_X7_timesSmall_33 : decode M_X7_timesSmall.2.1 33 = .ok (.lload 4, 2) ∧ 33 + 2 = 35 := ⟨dcAll_e (i := 21) da_X7_timesSmall_0 rfl, rfl⟩
theorem q_X7_timesSmall_35 : decode M_X7_timesSmall.2.1 35 = .ok (.ladd, 1) ∧ 35 + 1 = 36 := ⟨dcAll_e (i := 22) da_X7_timesSmall_0 rfl, rfl⟩
theorem q_X7_timesSmall_36 : decode M_X7_timesSmall.2.1 36 = .ok (.lstore 7, 2) ∧ 36 + 2 = 38 := ⟨dcAll_e (i := 23) da_X7_timesSmall_0 rfl, rfl⟩
theorem q_X7_timesSmall_38 : decode M_X7_timesSmall.2.1 38 = .ok (.aload_n 0, 1) ∧ 38 + 1 = 39 := ⟨dcAll_e (i := 24) da_X7_timesSmall_0 rfl, rfl⟩
theorem q_X7_timesSmall_39 : decode M_X7_timesSmall.2.1 39 = .ok (.getfield 8, 3) ∧ 39 + 3 = 42 := ⟨dcAll_e (i := 25) da_X7_timesSmall_0 rfl, rfl⟩
theorem q_X7_timesSmall_42 : decode M_X7_timesSmall.2.1 42 = .ok (.sipush 320, 3) ∧ 42 + 3 = 45 := ⟨dcAll_e (i := 26) da_X7_timesSmall_0 rfl, rfl⟩
theorem q_X7_timesSmall_45 : decode M_X7_timesSmall.2.1 45 = .ok (.iload_n 1, 1) ∧ 45 + 1 = 46 := ⟨dcAll_e (i := 27) da_X7_timesSmall_0 rfl, rfl⟩
theorem q_X7_timesSmall_46 : decode M_X7_timesSmall.2.1 46 = .ok (.imul, 1) ∧ 46 + 1 = 47 := ⟨dcAll_e (i := 28) da_X7_timesSmall_0 rfl, rfl⟩
theorem q_X7_timesSmall_47 : decode M_X7_timesSmall.2.1 47 = .ok (.iload 6, 2) ∧ 47 + 2 = 49 := ⟨dcAll_e (i := 29) da_X7_timesSmall_0 rfl, rfl⟩
theorem q_X7_timesSmall_49 : decode M_X7_timesSmall.2.1 49 = .ok (.iadd, 1) ∧ 49 + 1 = 50 := ⟨dcAll_e (i := 30) da_X7_timesSmall_0 rfl, rfl⟩
theorem q_X7_timesSmall_50 : decode M_X7_timesSmall.2.1 50 = .ok (.lload 7, 2) ∧ 50 + 2 = 52 := ⟨dcAll_e (i := 31) da_X7_timesSmall_0 rfl, rfl⟩
theorem q_X7_timesSmall_52 : decode M_X7_timesSmall.2.1 52 = .ok (.ldc2_w 47, 3) ∧ 52 + 3 = 55 := ⟨dcAll_e (i := 32) da_X7_timesSmall_0 rfl, rfl⟩
theorem q_X7_timesSmall_55 : decode M_X7_timesSmall.2.1 55 = .ok (.lrem, 1) ∧ 55 + 1 = 56 := ⟨dcAll_e (i := 33) da_X7_timesSmall_0 rfl, rfl⟩
theorem q_X7_timesSmall_56 : decode M_X7_timesSmall.2.1 56 = .ok (.l2i, 1) ∧ 56 + 1 = 57 := ⟨dcAll_e (i := 34) da_X7_timesSmall_0 rfl, rfl⟩
theorem q_X7_timesSmall_57 : decode M_X7_timesSmall.2.1 57 = .ok (.iastore, 1) ∧ 57 + 1 = 58 := ⟨dcAll_e (i := 35) da_X7_timesSmall_0 rfl, rfl⟩
theorem q_X7_timesSmall_58 : decode M_X7_timesSmall.2.1 58 = .ok (.lload 7, 2) ∧ 58 + 2 = 60 := ⟨dcAll_e (i := 36) da_X7_timesSmall_0 rfl, rfl⟩
theorem q_X7_timesSmall_60 : decode M_X7_timesSmall.2.1 60 = .ok (.ldc2_w 47, 3) ∧ 60 + 3 = 63 := ⟨dcAll_e (i := 37) da_X7_timesSmall_0 rfl, rfl⟩
theorem q_X7_timesSmall_63 : decode M_X7_timesSmall.2.1 63 = .ok (.ldiv, 1) ∧ 63 + 1 = 64 := ⟨dcAll_e (i := 38) da_X7_timesSmall_0 rfl, rfl⟩
theorem q_X7_timesSmall_64 : decode M_X7_timesSmall.2.1 64 = .ok (.lstore 4, 2) ∧ 64 + 2 = 66 := ⟨dcAll_e (i := 39) da_X7_timesSmall_0 rfl, rfl⟩
theorem q_X7_timesSmall_66 : decode M_X7_timesSmall.2.1 66 = .ok (.iinc 6 1, 3) ∧ 66 + 3 = 69 := ⟨dcAll_e (i := 0) da_X7_timesSmall_1 rfl, rfl⟩
theorem q_X7_timesSmall_69 : decode M_X7_timesSmall.2.1 69 = .ok (.goto (-63), 3) ∧ 69 + 3 = 72 ∧ ((69 : Nat) : Int) + (-63) = ((6 : Nat) : Int) := ⟨dcAll_e (i := 1) da_X7_timesSmall_1 rfl, rfl, rfl⟩
theorem q_X7_timesSmall_72 : decode M_X7_timesSmall.2.1 72 = .ok (.lload 4, 2) ∧ 72 + 2 = 74 := ⟨dcAll_e (i := 2) da_X7_timesSmall_1 rfl, rfl⟩
theorem q_X7_timesSmall_74 : decode M_X7_timesSmall.2.1 74 = .ok (.lconst 0, 1) ∧ 74 + 1 = 75 := ⟨dcAll_e (i := 3) da_X7_timesSmall_1 rfl, rfl⟩
theorem q_X7_timesSmall_75 : decode M_X7_timesSmall.2.1 75 = .ok (.lcmp, 1) ∧ 75 + 1 = 76 := ⟨dcAll_e (i := 4) da_X7_timesSmall_1 rfl, rfl⟩
theorem q_X7_timesSmall_76 : decode M_X7_timesSmall.2.1 76 = .ok (.ifCond .le 33, 3) ∧ 76 + 3 = 79 ∧ ((76 : Nat) : Int) + 33 = ((109 : Nat) : Int) := ⟨dcAll_e (i := 5) da_X7_timesSmall_1 rfl, rfl, rfl⟩
theorem q_X7_timesSmall_79 : decode M_X7_timesSmall.2.1 79 = .ok (.aload_n 0, 1) ∧ 79 + 1 = 80 := ⟨dcAll_e (i := 6) da_X7_timesSmall_1 rfl, rfl⟩
theorem q_X7_timesSmall_80 : decode M_X7_timesSmall.2.1 80 = .ok (.getfield 8, 3) ∧ 80 + 3 = 83 := ⟨dcAll_e (i := 7) da_X7_timesSmall_1 rfl, rfl⟩
theorem q_X7_timesSmall_83 : decode M_X7_timesSmall.2.1 83 = .ok (.sipush 320, 3) ∧ 83 + 3 = 86 := ⟨dcAll_e (i := 8) da_X7_timesSmall_1 rfl, rfl⟩
theorem q_X7_timesSmall_86 : decode M_X7_timesSmall.2.1 86 = .ok (.iload_n 1, 1) ∧ 86 + 1 = 87 := ⟨dcAll_e (i := 9) da_X7_timesSmall_1 rfl, rfl⟩
theorem q_X7_timesSmall_87 : decode M_X7_timesSmall.2.1 87 = .ok (.imul, 1) ∧ 87 + 1 = 88 := ⟨dcAll_e (i := 10) da_X7_timesSmall_1 rfl, rfl⟩
theorem q_X7_timesSmall_88 : decode M_X7_timesSmall.2.1 88 = .ok (.aload_n 0, 1) ∧ 88 + 1 = 89 := ⟨dcAll_e (i := 11) da_X7_timesSmall_1 rfl, rfl⟩
theorem q_X7_timesSmall_89 : decode M_X7_timesSmall.2.1 89 = .ok (.getfield 14, 3) ∧ 89 + 3 = 92 := ⟨dcAll_e (i := 12) da_X7_timesSmall_1 rfl, rfl⟩
theorem q_X7_timesSmall_92 : decode M_X7_timesSmall.2.1 92 = .ok (.iload_n 1, 1) ∧ 92 + 1 = 93 := ⟨dcAll_e (i := 13) da_X7_timesSmall_1 rfl, rfl⟩
theorem q_X7_timesSmall_93 : decode M_X7_timesSmall.2.1 93 = .ok (.iaload, 1) ∧ 93 + 1 = 94 := ⟨dcAll_e (i := 14) da_X7_timesSmall_1 rfl, rfl⟩
theorem q_X7_timesSmall_94 : decode M_X7_timesSmall.2.1 94 = .ok (.iadd, 1) ∧ 94 + 1 = 95 := ⟨dcAll_e (i := 15) da_X7_timesSmall_1 rfl, rfl⟩
theorem q_X7_timesSmall_95 : decode M_X7_timesSmall.2.1 95 = .ok (.lload 4, 2) ∧ 95 + 2 = 97 := ⟨dcAll_e (i := 16) da_X7_timesSmall_1 rfl, rfl⟩
theorem q_X7_timesSmall_97 : decode M_X7_timesSmall.2.1 97 = .ok (.l2i, 1) ∧ 97 + 1 = 98 := ⟨dcAll_e (i := 17) da_X7_timesSmall_1 rfl, rfl⟩
theorem q_X7_timesSmall_98 : decode M_X7_timesSmall.2.1 98 = .ok (.iastore, 1) ∧ 98 + 1 = 99 := ⟨dcAll_e (i := 18) da_X7_timesSmall_1 rfl, rfl⟩
theorem q_X7_timesSmall_99 : decode M_X7_timesSmall.2.1 99 = .ok (.aload_n 0, 1) ∧ 99 + 1 = 100 := ⟨dcAll_e (i := 19) da_X7_timesSmall_1 rfl, rfl⟩
theorem q_X7_timesSmall_100 : decode M_X7_timesSmall.2.1 100 = .ok (.getfield 14, 3) ∧ 100 + 3 = 103 := ⟨dcAll_e (i := 20) da_X7_timesSmall_1 rfl, rfl⟩
theorem q_X7_timesSmall_103 : decode M_X7_timesSmall.2.1 103 = .ok (.iload_n 1, 1) ∧ 103 + 1 = 104 := ⟨dcAll_e (i := 21) da_X7_timesSmall_1 rfl, rfl⟩
theorem q_X7_timesSmall_104 : decode M_X7_timesSmall.2.1 104 = .ok (.dup2, 1) ∧ 104 + 1 = 105 := ⟨dcAll_e (i := 22) da_X7_timesSmall_1 rfl, rfl⟩
theorem q_X7_timesSmall_105 : decode M_X7_timesSmall.2.1 105 = .ok (.iaload, 1) ∧ 105 + 1 = 106 := ⟨dcAll_e (i := 23) da_X7_timesSmall_1 rfl, rfl⟩
theorem q_X7_timesSmall_106 : decode M_X7_timesSmall.2.1 106 = .ok (.iconst 1, 1) ∧ 106 + 1 = 107 := ⟨dcAll_e (i := 24) da_X7_timesSmall_1 rfl, rfl⟩
theorem q_X7_timesSmall_107 : decode M_X7_timesSmall.2.1 107 = .ok (.iadd, 1) ∧ 107 + 1 = 108 := ⟨dcAll_e (i := 25) da_X7_timesSmall_1 rfl, rfl⟩
theorem q_X7_timesSmall_108 : decode M_X7_timesSmall.2.1 108 = .ok (.iastore, 1) ∧ 108 + 1 = 109 := ⟨dcAll_e (i := 26) da_X7_timesSmall_1 rfl, rfl⟩
theorem q_X7_timesSmall_109 : decode M_X7_timesSmall.2.1 109 = .ok (.lload_n 2, 1) ∧ 109 + 1 = 110 := ⟨dcAll_e (i := 27) da_X7_timesSmall_1 rfl, rfl⟩
theorem q_X7_timesSmall_110 : decode M_X7_timesSmall.2.1 110 = .ok (.lconst 0, 1) ∧ 110 + 1 = 111 := ⟨dcAll_e (i := 28) da_X7_timesSmall_1 rfl, rfl⟩
theorem q_X7_timesSmall_111 : decode M_X7_timesSmall.2.1 111 = .ok (.lcmp, 1) ∧ 111 + 1 = 112 := ⟨dcAll_e (i := 29) da_X7_timesSmall_1 rfl, rfl⟩
theorem q_X7_timesSmall_112 : decode M_X7_timesSmall.2.1 112 = .ok (.ifCond .ne 14, 3) ∧ 112 + 3 = 115 ∧ ((112 : Nat) : Int) + 14 = ((126 : Nat) : Int) := ⟨dcAll_e (i := 30) da_X7_timesSmall_1 rfl, rfl, rfl⟩
theorem q_X7_timesSmall_115 : decode M_X7_timesSmall.2.1 115 = .ok (.aload_n 0, 1) ∧ 115 + 1 = 116 := ⟨dcAll_e (i := 31) da_X7_timesSmall_1 rfl, rfl⟩
theorem q_X7_timesSmall_116 : decode M_X7_timesSmall.2.1 116 = .ok (.iload_n 1, 1) ∧ 116 + 1 = 117 := ⟨dcAll_e (i := 32) da_X7_timesSmall_1 rfl, rfl⟩
theorem q_X7_timesSmall_117 : decode M_X7_timesSmall.2.1 117 = .ok (.aload_n 0, 1) ∧ 117 + 1 = 118 := ⟨dcAll_e (i := 33) da_X7_timesSmall_1 rfl, rfl⟩
theorem q_X7_timesSmall_118 : decode M_X7_timesSmall.2.1 118 = .ok (.getfield 14, 3) ∧ 118 + 3 = 121 := ⟨dcAll_e (i := 34) da_X7_timesSmall_1 rfl, rfl⟩
theorem q_X7_timesSmall_121 : decode M_X7_timesSmall.2.1 121 = .ok (.iload_n 1, 1) ∧ 121 + 1 = 122 := ⟨dcAll_e (i := 35) da_X7_timesSmall_1 rfl, rfl⟩
theorem q_X7_timesSmall_122 : decode M_X7_timesSmall.2.1 122 = .ok (.iaload, 1) ∧ 122 + 1 = 123 := ⟨dcAll_e (i := 36) da_X7_timesSmall_1 rfl, rfl⟩
theorem q_X7_timesSmall_123 : decode M_X7_timesSmall.2.1 123 = .ok (.invokevirtual 66, 3) ∧ 123 + 3 = 126 := ⟨dcAll_e (i := 37) da_X7_timesSmall_1 rfl, rfl⟩
theorem g_X7_timesSmall_123 : en_C M_X7_timesSmall M_X7_trim 66 2 := ⟨⟨inT4 54 rfl rfl, in_X7, cd_X7_trim⟩, ⟨by decide, by decide, by decide +kernel⟩, by decide, by decide⟩
theorem q_X7_timesSmall_126 : decode M_X7_timesSmall.2.1 126 = .ok (.return_, 1) ∧ 126 + 1 = 127 := ⟨dcAll_e (i := 38) da_X7_timesSmall_1 rfl, rfl⟩
def dl_X7_bySmall_0 : List (Nat × Instr × Nat) := [(0, .lconst 0, 1), (1, .lstore 4, 2), (3, .aload_n 0, 1), (4, .getfield 14, 3), (7, .iload_n 1, 1), (8, .iaload, 1), (9, .iconst 1, 1), (10, .isub, 1), (11, .istore 6, 2), (13, .iload 6, 2), (15, .ifCond .lt 56, 3), (18, .lload 4, 2), (20, .ldc2_w 47, 3), (23, .lmul, 1), (24, .aload_n 0, 1), (25, .getfield 8, 3), (28, .sipush 320, 3), (31, .iload_n 1, 1), (32, .imul, 1), (33, .iload 6, 2), (35, .iadd, 1), (36, .iaload, 1), (37, .i2l, 1), (38, .ladd, 1), (39, .lstore 7, 2), (41, .aload_n 0, 1), (42, .getfield 8, 3), (45, .sipush 320, 3), (48, .iload_n 1, 1), (49, .imul, 1), (50, .iload 6, 2), (52, .iadd, 1), (53, .lload 7, 2), (55, .lload_n 2, 1), (56, .ldiv, 1), (57, .l2i, 1), (58, .iastore, 1), (59, .lload 7, 2), (61, .lload_n 2, 1), (62, .lrem, 1)]
theorem da_X7_bySmall_0 : dcAll M_X7_bySmall.2.1 dl_X7_bySmall_0 = true := by decide +kernel
def dl_X7_bySmall_1 : List (Nat × Instr × Nat) := [(63, .lstore 4, 2), (65, .iinc 6 (-1), 3), (68, .goto (-55), 3), (71, .aload_n 0, 1), (72, .iload_n 1, 1), (73, .aload_n 0, 1), (74, .getfield 14, 3), (77, .iload_n 1, 1), (78, .iaload, 1), (79, .invokevirtual 66, 3), (82, .lload 4, 2), (84, .lreturn, 1)]
theorem da_X7_bySmall_1 : dcAll M_X7_bySmall.2.1 dl_X7_bySmall_1 = true := by decide +kernel
theorem q_X7_bySmall_0 : decode M_X7_bySmall.2.1 0 = .ok (.lconst 0, 1) ∧ 0 + 1 = 1 := ⟨dcAll_e (i := 0) da_X7_bySmall_0 rfl, rfl⟩
theorem q_X7_bySmall_1 : decode M_X7_bySmall.2.1 1 = .ok (.lstore 4, 2) ∧ 1 + 2 = 3 := ⟨dcAll_e (i := 1) da_X7_bySmall_0 rfl, rfl⟩
theorem q_X7_bySmall_3 : decode M_X7_bySmall.2.1 3 = .ok (.aload_n 0, 1) ∧ 3 + 1 = 4 := ⟨dcAll_e (i := 2) da_X7_bySmall_0 rfl, rfl⟩
theorem q_X7_bySmall_4 : decode M_X7_bySmall.2.1 4 = .ok (.getfield 14, 3) ∧ 4 + 3 = 7 := ⟨dcAll_e (i := 3) da_X7_bySmall_0 rfl, rfl⟩
theorem q_X7_bySmall_7 : decode M_X7_bySmall.2.1 7 = .ok (.iload_n 1, 1) ∧ 7 + 1 = 8 := ⟨dcAll_e (i := 4) da_X7_bySmall_0 rfl, rfl⟩
theorem q_X7_bySmall_8 : decode M_X7_bySmall.2.1 8 = .ok (.iaload, 1) ∧ 8 + 1 = 9 := ⟨dcAll_e (i := 5) da_X7_bySmall_0 rfl, rfl⟩
theorem q_X7_bySmall_9 : decode M_X7_bySmall.2.1 9 = .ok (.iconst 1, 1) ∧ 9 + 1 = 10 := ⟨dcAll_e (i := 6) da_X7_bySmall_0 rfl, rfl⟩
theorem q_X7_bySmall_10 : decode M_X7_bySmall.2.1 10 = .ok (.isub, 1) ∧ 10 + 1 = 11 := ⟨dcAll_e (i := 7) da_X7_bySmall_0 rfl, rfl⟩
theorem q_X7_bySmall_11 : decode M_X7_bySmall.2.1 11 = .ok (.istore 6, 2) ∧ 11 + 2 = 13 := ⟨dcAll_e (i := 8) da_X7_bySmall_0 rfl, rfl⟩
theorem q_X7_bySmall_13 : decode M_X7_bySmall.2.1 13 = .ok (.iload 6, 2) ∧ 13 + 2 = 15 := ⟨dcAll_e (i := 9) da_X7_bySmall_0 rfl, rfl⟩
theorem q_X7_bySmall_15 : decode M_X7_bySmall.2.1 15 = .ok (.ifCond .lt 56, 3) ∧ 15 + 3 = 18 ∧ ((15 : Nat) : Int) + 56 = ((71 : Nat) : Int) := ⟨dcAll_e (i := 10) da_X7_bySmall_0 rfl, rfl, rfl⟩
theorem q_X7_bySmall_18 : decode M_X7_bySmall.2.1 18 = .ok (.lload 4, 2) ∧ 18 + 2 = 20 := ⟨dcAll_e (i := 11) da_X7_bySmall_0 rfl, rfl⟩
theorem q_X7_bySmall_20 : decode M_X7_bySmall.2.1 20 = .ok (.ldc2_w 47, 3) ∧ 20 + 3 = 23 := ⟨dcAll_e (i := 12) da_X7_bySmall_0 rfl, rfl⟩
theorem q_X7_bySmall_23 : decode M_X7_bySmall.2.1 23 = .ok (.lmul, 1) ∧ 23 + 1 = 24 := ⟨dcAll_e (i := 13) da_X7_bySmall_0 rfl, rfl⟩
theorem q_X7_bySmall_24 : decode M_X7_bySmall.2.1 24 = .ok (.aload_n 0, 1) ∧ 24 + 1 = 25 := ⟨dcAll_e (i := 14) da_X7_bySmall_0 rfl, rfl⟩
theorem q_X7_bySmall_25 : decode M_X7_bySmall.2.1 25 = .ok (.getfield 8, 3) ∧ 25 + 3 = 28 := ⟨dcAll_e (i := 15) da_X7_bySmall_0 rfl, rfl⟩
theorem q_X7_bySmall_28 : decode M_X7_bySmall.2.1 28 = .ok (.sipush 320, 3) ∧ 28 + 3 = 31 := ⟨dcAll_e (i := 16) da_X7_bySmall_0 rfl, rfl⟩
theorem q_X7_bySmall_31 : decode M_X7_bySmall.2.1 31 = .ok (.iload_n 1, 1) ∧ 31 + 1 = 32 := ⟨dcAll_e (i := 17) da_X7_bySmall_0 rfl, rfl⟩
theorem q_X7_bySmall_32 : decode M_X7_bySmall.2.1 32 = .ok (.imul, 1) ∧ 32 + 1 = 33 := ⟨dcAll_e (i := 18) da_X7_bySmall_0 rfl, rfl⟩
theorem q_X7_bySmall_33 : decode M_X7_bySmall.2.1 33 = .ok (.iload 6, 2) ∧ 33 + 2 = 35 := ⟨dcAll_e (i := 19) da_X7_bySmall_0 rfl, rfl⟩
theorem q_X7_bySmall_35 : decode M_X7_bySmall.2.1 35 = .ok (.iadd, 1) ∧ 35 + 1 = 36 := ⟨dcAll_e (i := 20) da_X7_bySmall_0 rfl, rfl⟩
theorem q_X7_bySmall_36 : decode M_X7_bySmall.2.1 36 = .ok (.iaload, 1) ∧ 36 + 1 = 37 := ⟨dcAll_e (i := 21) da_X7_bySmall_0 rfl, rfl⟩
theorem q_X7_bySmall_37 : decode M_X7_bySmall.2.1 37 = .ok (.i2l, 1) ∧ 37 + 1 = 38 := ⟨dcAll_e (i := 22) da_X7_bySmall_0 rfl, rfl⟩
theorem q_X7_bySmall_38 : decode M_X7_bySmall.2.1 38 = .ok (.ladd, 1) ∧ 38 + 1 = 39 := ⟨dcAll_e (i := 23) da_X7_bySmall_0 rfl, rfl⟩
theorem q_X7_bySmall_39 : decode M_X7_bySmall.2.1 39 = .ok (.lstore 7, 2) ∧ 39 + 2 = 41 := ⟨dcAll_e (i := 24) da_X7_bySmall_0 rfl, rfl⟩
theorem q_X7_bySmall_41 : decode M_X7_bySmall.2.1 41 = .ok (.aload_n 0, 1) ∧ 41 + 1 = 42 := ⟨dcAll_e (i := 25) da_X7_bySmall_0 rfl, rfl⟩
theorem q_X7_bySmall_42 : decode M_X7_bySmall.2.1 42 = .ok (.getfield 8, 3) ∧ 42 + 3 = 45 := ⟨dcAll_e (i := 26) da_X7_bySmall_0 rfl, rfl⟩
theorem q_X7_bySmall_45 : decode M_X7_bySmall.2.1 45 = .ok (.sipush 320, 3) ∧ 45 + 3 = 48 := ⟨dcAll_e (i := 27) da_X7_bySmall_0 rfl, rfl⟩
theorem q_X7_bySmall_48 : decode M_X7_bySmall.2.1 48 = .ok (.iload_n 1, 1) ∧ 48 + 1 = 49 := ⟨dcAll_e (i := 28) da_X7_bySmall_0 rfl, rfl⟩
theorem q_X7_bySmall_49 : decode M_X7_bySmall.2.1 49 = .ok (.imul, 1) ∧ 49 + 1 = 50 := ⟨dcAll_e (i := 29) da_X7_bySmall_0 rfl, rfl⟩
theorem q_X7_bySmall_50 : decode M_X7_bySmall.2.1 50 = .ok (.iload 6, 2) ∧ 50 + 2 = 52 := ⟨dcAll_e (i := 30) da_X7_bySmall_0 rfl, rfl⟩
theorem q_X7_bySmall_52 : decode M_X7_bySmall.2.1 52 = .ok (.iadd, 1) ∧ 52 + 1 = 53 := ⟨dcAll_e (i := 31) da_X7_bySmall_0 rfl, rfl⟩
theorem q_X7_bySmall_53 : decode M_X7_bySmall.2.1 53 = .ok (.lload 7, 2) ∧ 53 + 2 = 55 := ⟨dcAll_e (i := 32) da_X7_bySmall_0 rfl, rfl⟩
theorem q_X7_bySmall_55 : decode M_X7_bySmall.2.1 55 = .ok (.lload_n 2, 1) ∧ 55 + 1 = 56 := ⟨dcAll_e (i := 33) da_X7_bySmall_0 rfl, rfl⟩
theorem q_X7_bySmall_56 : decode M_X7_bySmall.2.1 56 = .ok (.ldiv, 1) ∧ 56 + 1 = 57 := ⟨dcAll_e (i := 34) da_X7_bySmall_0 rfl, rfl⟩
theorem q_X7_bySmall_57 : decode M_X7_bySmall.2.1 57 = .ok (.l2i, 1) ∧ 57 + 1 = 58 := ⟨dcAll_e (i := 35) da_X7_bySmall_0 rfl, rfl⟩
theorem q_X7_bySmall_58 : decode M_X7_bySmall.2.1 58 = .ok (.iastore, 1) ∧ 58 + 1 = 59 := ⟨dcAll_e (i := 36) da_X7_bySmall_0 rfl, rfl⟩
theorem q_X7_bySmall_59 : decode M_X7_bySmall.2.1 59 = .ok (.lload 7, 2) ∧ 59 + 2 = 61 := ⟨dcAll_e (i := 37) da_X7_bySmall_0 rfl, rfl⟩
theorem q_X7_bySmall_61 : decode M_X7_bySmall.2.1 61 = .ok (.lload_n 2, 1) ∧ 61 + 1 = 62 := ⟨dcAll_e (i := 38) da_X7_bySmall_0 rfl, rfl⟩
theorem q_X7_bySmall_62 : decode M_X7_bySmall.2.1 62 = .ok (.lrem, 1) ∧ 62 + 1 = 63 := ⟨dcAll_e (i := 39) da_X7_bySmall_0 rfl, rfl⟩
theorem q_X7_bySmall_63 : decode M_X7_bySmall.2.1 63 = .ok (.lstore 4, 2) ∧ 63 + 2 = 65 := ⟨dcAll_e (i := 0) da_X7_bySmall_1 rfl, rfl⟩
theorem q_X7_bySmall_65 : decode M_X7_bySmall.2.1 65 = .ok (.iinc 6 (-1), 3) ∧ 65 + 3 = 68 := ⟨dcAll_e (i := 1) da_X7_bySmall_1 rfl, rfl⟩
theorem q_X7_bySmall_68 : decode M_X7_bySmall.2.1 68 = .ok (.goto (-55), 3) ∧ 68 + 3 = 71 ∧ ((68 : Nat) : Int) + (-55) = ((13 : Nat) : Int) := ⟨dcAll_e (i := 2) da_X7_bySmall_1 rfl, rfl, rfl⟩
theorem q_X7_bySmall_71 : decode M_X7_bySmall.2.1 71 = .ok (.aload_n 0, 1) ∧ 71 + 1 = 72 := ⟨dcAll_e (i := 3) da_X7_bySmall_1 rfl, rfl⟩
theorem q_X7_bySmall_72 : decode M_X7_bySmall.2.1 72 = .ok (.iload_n 1, 1) ∧ 72 + 1 = 73 := ⟨dcAll_e (i := 4) da_X7_bySmall_1 rfl, rfl⟩
theorem q_X7_bySmall_73 : decode M_X7_bySmall.2.1 73 = .ok (.aload_n 0, 1) ∧ 73 + 1 = 74 := ⟨dcAll_e (i := 5) da_X7_bySmall_1 rfl, rfl⟩
theorem q_X7_bySmall_74 : decode M_X7_bySmall.2.1 74 = .ok (.getfield 14, 3) ∧ 74 + 3 = 77 := ⟨dcAll_e (i := 6) da_X7_bySmall_1 rfl, rfl⟩
theorem q_X7_bySmall_77 : decode M_X7_bySmall.2.1 77 = .ok (.iload_n 1, 1) ∧ 77 + 1 = 78 := ⟨dcAll_e (i := 7) da_X7_bySmall_1 rfl, rfl⟩
theorem q_X7_bySmall_78 : decode M_X7_bySmall.2.1 78 = .ok (.iaload, 1) ∧ 78 + 1 = 79 := ⟨dcAll_e (i := 8) da_X7_bySmall_1 rfl, rfl⟩
theorem q_X7_bySmall_79 : decode M_X7_bySmall.2.1 79 = .ok (.invokevirtual 66, 3) ∧ 79 + 3 = 82 := ⟨dcAll_e (i := 9) da_X7_bySmall_1 rfl, rfl⟩
theorem g_X7_bySmall_79 : en_C M_X7_bySmall M_X7_trim 66 2 := ⟨⟨inT4 54 rfl rfl, in_X7, cd_X7_trim⟩, ⟨by decide, by decide, by decide +kernel⟩, by decide, by decide⟩
theorem q_X7_bySmall_82 : decode M_X7_bySmall.2.1 82 = .ok (.lload 4, 2) ∧ 82 + 2 = 84 := ⟨dcAll_e (i := 10) da_X7_bySmall_1 rfl, rfl⟩
theorem q_X7_bySmall_84 : decode M_X7_bySmall.2.1 84 = .ok (.lreturn, 1) ∧ 84 + 1 = 85 := ⟨dcAll_e (i := 11) da_X7_bySmall_1 rfl, rfl⟩
def dl_X7_divide_0 : List (Nat × Instr × Nat) := [(0, .aload_n 0, 1), (1, .getfield 14, 3), (4, .iload_n 1, 1), (5, .iconst 0, 1), (6, .iastore, 1), (7, .aload_n 0, 1), (8, .getfield 17, 3), (11, .iload_n 1, 1), (12, .iconst 0, 1), (13, .iastore, 1), (14, .aload_n 0, 1), (15, .iload_n 2, 1), (16, .iload_n 3, 1), (17, .invokevirtual 49, 3), (20, .ifCond .ge 4, 3), (23, .return_, 1), (24, .ldc 65, 2), (26, .aload_n 0, 1), (27, .getfield 8, 3), (30, .sipush 320, 3), (33, .iload_n 3, 1), (34, .imul, 1), (35, .aload_n 0, 1), (36, .getfield 14, 3), (39, .iload_n 3, 1), (40, .iaload, 1), (41, .iadd, 1), (42, .iconst 1, 1), (43, .isub, 1), (44, .iaload, 1), (45, .iconst 1, 1), (46, .iadd, 1), (47, .idiv, 1), (48, .istore 4, 2), (50, .aload_n 0, 1), (51, .iload_n 2, 1), (52, .iload 4, 2), (54, .i2l, 1), (55, .invokevirtual 69, 3), (58, .aload_n 0, 1)]
theorem da_X7_divide_0 : dcAll M_X7_divide.2.1 dl_X7_divide_0 = true := by decide +kernel
def dl_X7_divide_1 : List (Nat × Instr × Nat) := [(59, .iload_n 3, 1), (60, .iload 4, 2), (62, .i2l, 1), (63, .invokevirtual 69, 3), (66, .aload_n 0, 1), (67, .getfield 14, 3), (70, .iload_n 3, 1), (71, .iaload, 1), (72, .istore 5, 2), (74, .aload_n 0, 1), (75, .getfield 14, 3), (78, .iload_n 2, 1), (79, .iaload, 1), (80, .istore 6, 2), (82, .aload_n 0, 1), (83, .getfield 17, 3), (86, .iload_n 2, 1), (87, .iaload, 1), (88, .istore 7, 2), (90, .aload_n 0, 1), (91, .getfield 8, 3), (94, .sipush 320, 3), (97, .iload_n 2, 1), (98, .imul, 1), (99, .iload 6, 2), (101, .iadd, 1), (102, .iconst 0, 1), (103, .iastore, 1), (104, .iload 6, 2), (106, .iload 5, 2), (108, .isub, 1), (109, .istore 8, 2), (111, .iload 8, 2), (113, .ifCond .lt 32, 3), (116, .aload_n 0, 1), (117, .getfield 8, 3), (120, .sipush 320, 3), (123, .iload_n 1, 1), (124, .imul, 1), (125, .iload 8, 2)]
theorem da_X7_divide_1 : dcAll M_X7_divide.2.1 dl_X7_divide_1 = true := by decide +kernel
def dl_X7_divide_2 : List (Nat × Instr × Nat) := [(127, .iadd, 1), (128, .aload_n 0, 1), (129, .iload_n 2, 1), (130, .iload_n 3, 1), (131, .iload 8, 2), (133, .iload 5, 2), (135, .invokevirtual 73, 3), (138, .iastore, 1), (139, .iinc 8 (-1), 3), (142, .goto (-31), 3), (145, .aload_n 0, 1), (146, .getfield 17, 3), (149, .iload_n 1, 1), (150, .iconst 1, 1), (151, .iastore, 1), (152, .aload_n 0, 1), (153, .iload_n 1, 1), (154, .iload 6, 2), (156, .iload 5, 2), (158, .isub, 1), (159, .iconst 1, 1), (160, .iadd, 1), (161, .invokevirtual 66, 3), (164, .aload_n 0, 1), (165, .getfield 17, 3), (168, .iload_n 2, 1), (169, .iload 7, 2), (171, .iastore, 1), (172, .aload_n 0, 1), (173, .iload_n 2, 1), (174, .iload 5, 2), (176, .invokevirtual 66, 3), (179, .aload_n 0, 1), (180, .iload_n 2, 1), (181, .iload 4, 2), (183, .i2l, 1), (184, .invokevirtual 77, 3), (187, .aload_n 0, 1), (188, .iload_n 3, 1), (189, .iload 4, 2)]
theorem da_X7_divide_2 : dcAll M_X7_divide.2.1 dl_X7_divide_2 = true := by decide +kernel
def dl_X7_divide_3 : List (Nat × Instr × Nat) := [(191, .i2l, 1), (192, .invokevirtual 77, 3), (195, .ladd, 1), (196, .lstore 8, 2), (198, .return_, 1)]
theorem da_X7_divide_3 : dcAll M_X7_divide.2.1 dl_X7_divide_3 = true := by decide +kernel
theorem q_X7_divide_0 : decode M_X7_divide.2.1 0 = .ok (.aload_n 0, 1) ∧ 0 + 1 = 1 := ⟨dcAll_e (i := 0) da_X7_divide_0 rfl, rfl⟩
theorem q_X7_divide_1 : decode M_X7_divide.2.1 1 = .ok (.getfield 14, 3) ∧ 1 + 3 = 4 := ⟨dcAll_e (i := 1) da_X7_divide_0 rfl, rfl⟩
theorem q_X7_divide_4 : decode M_X7_divide.2.1 4 = .ok (.iload_n 1, 1) ∧ 4 + 1 = 5 := ⟨dcAll_e (i := 2) da_X7_divide_0 rfl, rfl⟩
theorem q_X7_divide_5 : decode M_X7_divide.2.1 5 = .ok (.iconst 0, 1) ∧ 5 + 1 = 6 := ⟨dcAll_e (i := 3) da_X7_divide_0 rfl, rfl⟩
theorem q_X7_divide_6 : decode M_X7_divide.2.1 6 = .ok (.iastore, 1) ∧ 6 + 1 = 7 := ⟨dcAll_e (i := 4) da_X7_divide_0 rfl, rfl⟩
theorem q_X7_divide_7 : decode M_X7_divide.2.1 7 = .ok (.aload_n 0, 1) ∧ 7 + 1 = 8 := ⟨dcAll_e (i := 5) da_X7_divide_0 rfl, rfl⟩
theorem q_X7_divide_8 : decode M_X7_divide.2.1 8 = .ok (.getfield 17, 3) ∧ 8 + 3 = 11 := ⟨dcAll_e (i := 6) da_X7_divide_0 rfl, rfl⟩
theorem q_X7_divide_11 : decode M_X7_divide.2.1 11 = .ok (.iload_n 1, 1) ∧ 11 + 1 = 12 := ⟨dcAll_e (i := 7) da_X7_divide_0 rfl, rfl⟩
theorem q_X7_divide_12 : decode M_X7_divide.2.1 12 = .ok (.iconst 0, 1) ∧ 12 + 1 = 13 := ⟨dcAll_e (i := 8) da_X7_divide_0 rfl, rfl⟩
theorem q_X7_divide_13 : decode M_X7_divide.2.1 13 = .ok (.iastore, 1) ∧ 13 + 1 = 14 := ⟨dcAll_e (i := 9) da_X7_divide_0 rfl, rfl⟩
theorem q_X7_divide_14 : decode M_X7_divide.2.1 14 = .ok (.aload_n 0, 1) ∧ 14 + 1 = 15 := ⟨dcAll_e (i := 10) da_X7_divide_0 rfl, rfl⟩
theorem q_X7_divide_15 : decode M_X7_divide.2.1 15 = .ok (.iload_n 2, 1) ∧ 15 + 1 = 16 := ⟨dcAll_e (i := 11) da_X7_divide_0 rfl, rfl⟩
theorem q_X7_divide_16 : decode M_X7_divide.2.1 16 = .ok (.iload_n 3, 1) ∧ 16 + 1 = 17 := ⟨dcAll_e (i := 12) da_X7_divide_0 rfl, rfl⟩
theorem q_X7_divide_17 : decode M_X7_divide.2.1 17 = .ok (.invokevirtual 49, 3) ∧ 17 + 3 = 20 := ⟨dcAll_e (i := 13) da_X7_divide_0 rfl, rfl⟩
theorem g_X7_divide_17 : en_C M_X7_divide M_X7_compareSizes 49 2 := ⟨⟨inT4 70 rfl rfl, in_X7, cd_X7_compareSizes⟩, ⟨by decide, by decide, by decide +kernel⟩, by decide, by decide⟩
theorem q_X7_divide_20 : decode M_X7_divide.2.1 20 = .ok (.ifCond .ge 4, 3) ∧ 20 + 3 = 23 ∧ ((20 : Nat) : Int) + 4 = ((24 : Nat) : Int) := ⟨dcAll_e (i := 14) da_X7_divide_0 rfl, rfl, rfl⟩
theorem q_X7_divide_23 : decode M_X7_divide.2.1 23 = .ok (.return_, 1) ∧ 23 + 1 = 24 := ⟨dcAll_e (i := 15) da_X7_divide_0 rfl, rfl⟩
theorem q_X7_divide_24 : decode M_X7_divide.2.1 24 = .ok (.ldc 65, 2) ∧ 24 + 2 = 26 := ⟨dcAll_e (i := 16) da_X7_divide_0 rfl, rfl⟩
theorem q_X7_divide_26 : decode M_X7_divide.2.1 26 = .ok (.aload_n 0, 1) ∧ 26 + 1 = 27 := ⟨dcAll_e (i := 17) da_X7_divide_0 rfl, rfl⟩
theorem q_X7_divide_27 : decode M_X7_divide.2.1 27 = .ok (.getfield 8, 3) ∧ 27 + 3 = 30 := ⟨dcAll_e (i := 18) da_X7_divide_0 rfl, rfl⟩
theorem q_X7_divide_30 : decode M_X7_divide.2.1 30 = .ok (.sipush 320, 3) ∧ 30 + 3 = 33 := ⟨dcAll_e (i := 19) da_X7_divide_0 rfl, rfl⟩
theorem q_X7_divide_33 : decode M_X7_divide.2.1 33 = .ok (.iload_n 3, 1) ∧ 33 + 1 = 34 := ⟨dcAll_e (i := 20) da_X7_divide_0 rfl, rfl⟩
theorem q_X7_divide_34 : decode M_X7_divide.2.1 34 = .ok (.imul, 1) ∧ 34 + 1 = 35 := ⟨dcAll_e (i := 21) da_X7_divide_0 rfl, rfl⟩
theorem q_X7_divide_35 : decode M_X7_divide.2.1 35 = .ok (.aload_n 0, 1) ∧ 35 + 1 = 36 := ⟨dcAll_e (i := 22) da_X7_divide_0 rfl, rfl⟩
theorem q_X7_divide_36 : decode M_X7_divide.2.1 36 = .ok (.getfield 14, 3) ∧ 36 + 3 = 39 := ⟨dcAll_e (i := 23) da_X7_divide_0 rfl, rfl⟩
theorem q_X7_divide_39 : decode M_X7_divide.2.1 39 = .ok (.iload_n 3, 1) ∧ 39 + 1 = 40 := ⟨dcAll_e (i := 24) da_X7_divide_0 rfl, rfl⟩
theorem q_X7_divide_40 : decode M_X7_divide.2.1 40 = .ok (.iaload, 1) ∧ 40 + 1 = 41 := ⟨dcAll_e (i := 25) da_X7_divide_0 rfl, rfl⟩
theorem q_X7_divide_41 : decode M_X7_divide.2.1 41 = .ok (.iadd, 1) ∧ 41 + 1 = 42 := ⟨dcAll_e (i := 26) da_X7_divide_0 rfl, rfl⟩
theorem q_X7_divide_42 : decode M_X7_divide.2.1 42 = .ok (.iconst 1, 1) ∧ 42 + 1 = 43 := ⟨dcAll_e (i := 27) da_X7_divide_0 rfl, rfl⟩
theorem q_X7_divide_43 : decode M_X7_divide.2.1 43 = .ok (.isub, 1) ∧ 43 + 1 = 44 := ⟨dcAll_e (i := 28) da_X7_divide_0 rfl, rfl⟩
theorem q_X7_divide_44 : decode M_X7_divide.2.1 44 = .ok (.iaload, 1) ∧ 44 + 1 = 45 := ⟨dcAll_e (i := 29) da_X7_divide_0 rfl, rfl⟩
theorem q_X7_divide_45 : decode M_X7_divide.2.1 45 = .ok (.iconst 1, 1) ∧ 45 + 1 = 46 := ⟨dcAll_e (i := 30) da_X7_divide_0 rfl, rfl⟩
theorem q_X7_divide_46 : decode M_X7_divide.2.1 46 = .ok (.iadd, 1) ∧ 46 + 1 = 47 := ⟨dcAll_e (i := 31) da_X7_divide_0 rfl, rfl⟩
theorem q_X7_divide_47 : decode M_X7_divide.2.1 47 = .ok (.idiv, 1) ∧ 47 + 1 = 48 := ⟨dcAll_e (i := 32) da_X7_divide_0 rfl, rfl⟩
theorem q_X7_divide_48 : decode M_X7_divide.2.1 48 = .ok (.istore 4, 2) ∧ 48 + 2 = 50 := ⟨dcAll_e (i := 33) da_X7_divide_0 rfl, rfl⟩
theorem q_X7_divide_50 : decode M_X7_divide.2.1 50 = .ok (.aload_n 0, 1) ∧ 50 + 1 = 51 := ⟨dcAll_e (i := 34) da_X7_divide_0 rfl, rfl⟩
theorem q_X7_divide_51 : decode M_X7_divide.2.1 51 = .ok (.iload_n 2, 1) ∧ 51 + 1 = 52 := ⟨dcAll_e (i := 35) da_X7_divide_0 rfl, rfl⟩
theorem q_X7_divide_52 : decode M_X7_divide.2.1 52 = .ok (.iload 4, 2) ∧ 52 + 2 = 54 := ⟨dcAll_e (i := 36) da_X7_divide_0 rfl, rfl⟩
theorem q_X7_divide_54 : decode M_X7_divide.2.1 54 = .ok (.i2l, 1) ∧ 54 + 1 = 55 := ⟨dcAll_e (i := 37) da_X7_divide_0 rfl, rfl⟩
theorem q_X7_divide_55 : decode M_X7_divide.2.1 55 = .ok (.invokevirtual 69, 3) ∧ 55 + 3 = 58 := ⟨dcAll_e (i := 38) da_X7_divide_0 rfl, rfl⟩
theorem cd_X7_timesSmall : Cond.code M_X7_timesSmall.1 M_X7_timesSmall.2.1 M_X7_timesSmall.2.2.1 M_X7_timesSmall.2.2.2.1 ∈ en_tbl := inT4 78 rfl rfl
theorem g_X7_divide_55 : en_C M_X7_divide M_X7_timesSmall 69 2 := ⟨⟨inT4 75 rfl rfl, in_X7, cd_X7_timesSmall⟩, ⟨by decide, by decide, by decide +kernel⟩, by decide, by decide⟩
theorem w_X7_timesSmall : Cond.instanceMethod M_X7_timesSmall.1 ∈ en_tbl ∧ Cond.selects M_X7_timesSmall.1.cls M_X7_timesSmall.1 M_X7_timesSmall.1 ∈ en_tbl := ⟨inT4 77 rfl rfl, by decide +kernel⟩
theorem q_X7_divide_58 : decode M_X7_divide.2.1 58 = .ok (.aload_n 0, 1) ∧ 58 + 1 = 59 := ⟨dcAll_e (i := 39) da_X7_divide_0 rfl, rfl⟩
theorem q_X7_divide_59 : decode M_X7_divide.2.1 59 = .ok (.iload_n 3, 1) ∧ 59 + 1 = 60 := ⟨dcAll_e (i := 0) da_X7_divide_1 rfl, rfl⟩
theorem q_X7_divide_60 : decode M_X7_divide.2.1 60 = .ok (.iload 4, 2) ∧ 60 + 2 = 62 := ⟨dcAll_e (i := 1) da_X7_divide_1 rfl, rfl⟩
theorem q_X7_divide_62 : decode M_X7_divide.2.1 62 = .ok (.i2l, 1) ∧ 62 + 1 = 63 := ⟨dcAll_e (i := 2) da_X7_divide_1 rfl, rfl⟩
theorem q_X7_divide_63 : decode M_X7_divide.2.1 63 = .ok (.invokevirtual 69, 3) ∧ 63 + 3 = 66 := ⟨dcAll_e (i := 3) da_X7_divide_1 rfl, rfl⟩
theorem g_X7_divide_63 : en_C M_X7_divide M_X7_timesSmall 69 2 := ⟨⟨inT4 75 rfl rfl, in_X7, cd_X7_timesSmall⟩, ⟨by decide, by decide, by decide +kernel⟩, by decide, by decide⟩
theorem q_X7_divide_66 : decode M_X7_divide.2.1 66 = .ok (.aload_n 0, 1) ∧ 66 + 1 = 67 := ⟨dcAll_e (i := 4) da_X7_divide_1 rfl, rfl⟩
theorem q_X7_divide_67 : decode M_X7_divide.2.1 67 = .ok (.getfield 14, 3) ∧ 67 + 3 = 70 := ⟨dcAll_e (i := 5) da_X7_divide_1 rfl, rfl⟩
theorem q_X7_divide_70 : decode M_X7_divide.2.1 70 = .ok (.iload_n 3, 1) ∧ 70 + 1 = 71 := ⟨dcAll_e (i := 6) da_X7_divide_1 rfl, rfl⟩
theorem q_X7_divide_71 : decode M_X7_divide.2.1 71 = .ok (.iaload, 1) ∧ 71 + 1 = 72 := ⟨dcAll_e (i := 7) da_X7_divide_1 rfl, rfl⟩
theorem q_X7_divide_72 : decode M_X7_divide.2.1 72 = .ok (.istore 5, 2) ∧ 72 + 2 = 74 := ⟨dcAll_e (i := 8) da_X7_divide_1 rfl, rfl⟩
theorem q_X7_divide_74 : decode M_X7_divide.2.1 74 = .ok (.aload_n 0, 1) ∧ 74 + 1 = 75 := ⟨dcAll_e (i := 9) da_X7_divide_1 rfl, rfl⟩
theorem q_X7_divide_75 : decode M_X7_divide.2.1 75 = .ok (.getfield 14, 3) ∧ 75 + 3 = 78 := ⟨dcAll_e (i := 10) da_X7_divide_1 rfl, rfl⟩
theorem q_X7_divide_78 : decode M_X7_divide.2.1 78 = .ok (.iload_n 2, 1) ∧ 78 + 1 = 79 := ⟨dcAll_e (i := 11) da_X7_divide_1 rfl, rfl⟩
theorem q_X7_divide_79 : decode M_X7_divide.2.1 79 = .ok (.iaload, 1) ∧ 79 + 1 = 80 := ⟨dcAll_e (i := 12) da_X7_divide_1 rfl, rfl⟩
theorem q_X7_divide_80 : decode M_X7_divide.2.1 80 = .ok (.istore 6, 2) ∧ 80 + 2 = 82 := ⟨dcAll_e (i := 13) da_X7_divide_1 rfl, rfl⟩
theorem q_X7_divide_82 : decode M_X7_divide.2.1 82 = .ok (.aload_n 0, 1) ∧ 82 + 1 = 83 := ⟨dcAll_e (i := 14) da_X7_divide_1 rfl, rfl⟩
theorem q_X7_divide_83 : decode M_X7_divide.2.1 83 = .ok (.getfield 17, 3) ∧ 83 + 3 = 86 := ⟨dcAll_e (i := 15) da_X7_divide_1 rfl, rfl⟩
theorem q_X7_divide_86 : decode M_X7_divide.2.1 86 = .ok (.iload_n 2, 1) ∧ 86 + 1 = 87 := ⟨dcAll_e (i := 16) da_X7_divide_1 rfl, rfl⟩
theorem q_X7_divide_87 : decode M_X7_divide.2.1 87 = .ok (.iaload, 1) ∧ 87 + 1 = 88 := ⟨dcAll_e (i := 17) da_X7_divide_1 rfl, rfl⟩
theorem q_X7_divide_88 : decode M_X7_divide.2.1 88 = .ok (.istore 7, 2) ∧ 88 + 2 = 90 := ⟨dcAll_e (i := 18) da_X7_divide_1 rfl, rfl⟩
theorem q_X7_divide_90 : decode M_X7_divide.2.1 90 = .ok (.aload_n 0, 1) ∧ 90 + 1 = 91 := ⟨dcAll_e (i := 19) da_X7_divide_1 rfl, rfl⟩
theorem q_X7_divide_91 : decode M_X7_divide.2.1 91 = .ok (.getfield 8, 3) ∧ 91 + 3 = 94 := ⟨dcAll_e (i := 20) da_X7_divide_1 rfl, rfl⟩
theorem q_X7_divide_94 : decode M_X7_divide.2.1 94 = .ok (.sipush 320, 3) ∧ 94 + 3 = 97 := ⟨dcAll_e (i := 21) da_X7_divide_1 rfl, rfl⟩
theorem q_X7_divide_97 : decode M_X7_divide.2.1 97 = .ok (.iload_n 2, 1) ∧ 97 + 1 = 98 := ⟨dcAll_e (i := 22) da_X7_divide_1 rfl, rfl⟩
theorem q_X7_divide_98 : decode M_X7_divide.2.1 98 = .ok (.imul, 1) ∧ 98 + 1 = 99 := ⟨dcAll_e (i := 23) da_X7_divide_1 rfl, rfl⟩
theorem q_X7_divide_99 : decode M_X7_divide.2.1 99 = .ok (.iload 6, 2) ∧ 99 + 2 = 101 := ⟨dcAll_e (i := 24) da_X7_divide_1 rfl, rfl⟩
theorem q_X7_divide_101 : decode M_X7_divide.2.1 101 = .ok (.iadd, 1) ∧ 101 + 1 = 102 := ⟨dcAll_e (i := 25) da_X7_divide_1 rfl, rfl⟩
theorem q_X7_divide_102 : decode M_X7_divide.2.1 102 = .ok (.iconst 0, 1) ∧ 102 + 1 = 103 := ⟨dcAll_e (i := 26) da_X7_divide_1 rfl, rfl⟩
theorem q_X7_divide_103 : decode M_X7_divide.2.1 103 = .ok (.iastore, 1) ∧ 103 + 1 = 104 := ⟨dcAll_e (i := 27) da_X7_divide_1 rfl, rfl⟩
theorem q_X7_divide_104 : decode M_X7_divide.2.1 104 = .ok (.iload 6, 2) ∧ 104 + 2 = 106 := ⟨dcAll_e (i := 28) da_X7_divide_1 rfl, rfl⟩
theorem q_X7_divide_106 : decode M_X7_divide.2.1 106 = .ok (.iload 5, 2) ∧ 106 + 2 = 108 := ⟨dcAll_e (i := 29) da_X7_divide_1 rfl, rfl⟩
theorem q_X7_divide_108 : decode M_X7_divide.2.1 108 = .ok (.isub, 1) ∧ 108 + 1 = 109 := ⟨dcAll_e (i := 30) da_X7_divide_1 rfl, rfl⟩
theorem q_X7_divide_109 : decode M_X7_divide.2.1 109 = .ok (.istore 8, 2) ∧ 109 + 2 = 111 := ⟨dcAll_e (i := 31) da_X7_divide_1 rfl, rfl⟩
theorem q_X7_divide_111 : decode M_X7_divide.2.1 111 = .ok (.iload 8, 2) ∧ 111 + 2 = 113 := ⟨dcAll_e (i := 32) da_X7_divide_1 rfl, rfl⟩
theorem q_X7_divide_113 : decode M_X7_divide.2.1 113 = .ok (.ifCond .lt 32, 3) ∧ 113 + 3 = 116 ∧ ((113 : Nat) : Int) + 32 = ((145 : Nat) : Int) := ⟨dcAll_e (i := 33) da_X7_divide_1 rfl, rfl, rfl⟩
theorem q_X7_divide_116 : decode M_X7_divide.2.1 116 = .ok (.aload_n 0, 1) ∧ 116 + 1 = 117 := ⟨dcAll_e (i := 34) da_X7_divide_1 rfl, rfl⟩
theorem q_X7_divide_117 : decode M_X7_divide.2.1 117 = .ok (.getfield 8, 3) ∧ 117 + 3 = 120 := ⟨dcAll_e (i := 35) da_X7_divide_1 rfl, rfl⟩
theorem q_X7_divide_120 : decode M_X7_divide.2.1 120 = .ok (.sipush 320, 3) ∧ 120 + 3 = 123 := ⟨dcAll_e (i := 36) da_X7_divide_1 rfl, rfl⟩
theorem q_X7_divide_123 : decode M_X7_divide.2.1 123 = .ok (.iload_n 1, 1) ∧ 123 + 1 = 124 := ⟨dcAll_e (i := 37) da_X7_divide_1 rfl, rfl⟩
theorem q_X7_divide_124 : decode M_X7_divide.2.1 124 = .ok (.imul, 1) ∧ 124 + 1 = 125 := ⟨dcAll_e (i := 38) da_X7_divide_1 rfl, rfl⟩
theorem q_X7_divide_125 : decode M_X7_divide.2.1 125 = .ok (.iload 8, 2) ∧ 125 + 2 = 127 := ⟨dcAll_e (i := 39) da_X7_divide_1 rfl, rfl⟩
theorem q_X7_divide_127 : decode M_X7_divide.2.1 127 = .ok (.iadd, 1) ∧ 127 + 1 = 128 := ⟨dcAll_e (i := 0) da_X7_divide_2 rfl, rfl⟩
theorem q_X7_divide_128 : decode M_X7_divide.2.1 128 = .ok (.aload_n 0, 1) ∧ 128 + 1 = 129 := ⟨dcAll_e (i := 1) da_X7_divide_2 rfl, rfl⟩
theorem q_X7_divide_129 : decode M_X7_divide.2.1 129 = .ok (.iload_n 2, 1) ∧ 129 + 1 = 130 := ⟨dcAll_e (i := 2) da_X7_divide_2 rfl, rfl⟩
theorem q_X7_divide_130 : decode M_X7_divide.2.1 130 = .ok (.iload_n 3, 1) ∧ 130 + 1 = 131 := ⟨dcAll_e (i := 3) da_X7_divide_2 rfl, rfl⟩
theorem q_X7_divide_131 : decode M_X7_divide.2.1 131 = .ok (.iload 8, 2) ∧ 131 + 2 = 133 := ⟨dcAll_e (i := 4) da_X7_divide_2 rfl, rfl⟩
theorem q_X7_divide_133 : decode M_X7_divide.2.1 133 = .ok (.iload 5, 2) ∧ 133 + 2 = 135 := ⟨dcAll_e (i := 5) da_X7_divide_2 rfl, rfl⟩
theorem q_X7_divide_135 : decode M_X7_divide.2.1 135 = .ok (.invokevirtual 73, 3) ∧ 135 + 3 = 138 := ⟨dcAll_e (i := 6) da_X7_divide_2 rfl, rfl⟩
theorem cd_X7_placeOf : Cond.code M_X7_placeOf.1 M_X7_placeOf.2.1 M_X7_placeOf.2.2.1 M_X7_placeOf.2.2.2.1 ∈ en_tbl := inT4 82 rfl rfl
theorem g_X7_divide_135 : en_C M_X7_divide M_X7_placeOf 73 4 := ⟨⟨inT4 79 rfl rfl, in_X7, cd_X7_placeOf⟩, ⟨by decide, by decide, by decide +kernel⟩, by decide, by decide⟩
theorem w_X7_placeOf : Cond.instanceMethod M_X7_placeOf.1 ∈ en_tbl ∧ Cond.selects M_X7_placeOf.1.cls M_X7_placeOf.1 M_X7_placeOf.1 ∈ en_tbl := ⟨inT4 81 rfl rfl, by decide +kernel⟩
theorem q_X7_divide_138 : decode M_X7_divide.2.1 138 = .ok (.iastore, 1) ∧ 138 + 1 = 139 := ⟨dcAll_e (i := 7) da_X7_divide_2 rfl, rfl⟩
theorem q_X7_divide_139 : decode M_X7_divide.2.1 139 = .ok (.iinc 8 (-1), 3) ∧ 139 + 3 = 142 := ⟨dcAll_e (i := 8) da_X7_divide_2 rfl, rfl⟩
theorem q_X7_divide_142 : decode M_X7_divide.2.1 142 = .ok (.goto (-31), 3) ∧ 142 + 3 = 145 ∧ ((142 : Nat) : Int) + (-31) = ((111 : Nat) : Int) := ⟨dcAll_e (i := 9) da_X7_divide_2 rfl, rfl, rfl⟩
theorem q_X7_divide_145 : decode M_X7_divide.2.1 145 = .ok (.aload_n 0, 1) ∧ 145 + 1 = 146 := ⟨dcAll_e (i := 10) da_X7_divide_2 rfl, rfl⟩
theorem q_X7_divide_146 : decode M_X7_divide.2.1 146 = .ok (.getfield 17, 3) ∧ 146 + 3 = 149 := ⟨dcAll_e (i := 11) da_X7_divide_2 rfl, rfl⟩
theorem q_X7_divide_149 : decode M_X7_divide.2.1 149 = .ok (.iload_n 1, 1) ∧ 149 + 1 = 150 := ⟨dcAll_e (i := 12) da_X7_divide_2 rfl, rfl⟩
theorem q_X7_divide_150 : decode M_X7_divide.2.1 150 = .ok (.iconst 1, 1) ∧ 150 + 1 = 151 := ⟨dcAll_e (i := 13) da_X7_divide_2 rfl, rfl⟩
theorem q_X7_divide_151 : decode M_X7_divide.2.1 151 = .ok (.iastore, 1) ∧ 151 + 1 = 152 := ⟨dcAll_e (i := 14) da_X7_divide_2 rfl, rfl⟩
theorem q_X7_divide_152 : decode M_X7_divide.2.1 152 = .ok (.aload_n 0, 1) ∧ 152 + 1 = 153 := ⟨dcAll_e (i := 15) da_X7_divide_2 rfl, rfl⟩
theorem q_X7_divide_153 : decode M_X7_divide.2.1 153 = .ok (.iload_n 1, 1) ∧ 153 + 1 = 154 := ⟨dcAll_e (i := 16) da_X7_divide_2 rfl, rfl⟩
theorem q_X7_divide_154 : decode M_X7_divide.2.1 154 = .ok (.iload 6, 2) ∧ 154 + 2 = 156 := ⟨dcAll_e (i := 17) da_X7_divide_2 rfl, rfl⟩
theorem q_X7_divide_156 : decode M_X7_divide.2.1 156 = .ok (.iload 5, 2) ∧ 156 + 2 = 158 := ⟨dcAll_e (i := 18) da_X7_divide_2 rfl, rfl⟩
theorem q_X7_divide_158 : decode M_X7_divide.2.1 158 = .ok (.isub, 1) ∧ 158 + 1 = 159 := ⟨dcAll_e (i := 19) da_X7_divide_2 rfl, rfl⟩
theorem q_X7_divide_159 : decode M_X7_divide.2.1 159 = .ok (.iconst 1, 1) ∧ 159 + 1 = 160 := ⟨dcAll_e (i := 20) da_X7_divide_2 rfl, rfl⟩
theorem q_X7_divide_160 : decode M_X7_divide.2.1 160 = .ok (.iadd, 1) ∧ 160 + 1 = 161 := ⟨dcAll_e (i := 21) da_X7_divide_2 rfl, rfl⟩
theorem q_X7_divide_161 : decode M_X7_divide.2.1 161 = .ok (.invokevirtual 66, 3) ∧ 161 + 3 = 164 := ⟨dcAll_e (i := 22) da_X7_divide_2 rfl, rfl⟩
theorem g_X7_divide_161 : en_C M_X7_divide M_X7_trim 66 2 := ⟨⟨inT4 54 rfl rfl, in_X7, cd_X7_trim⟩, ⟨by decide, by decide, by decide +kernel⟩, by decide, by decide⟩
theorem q_X7_divide_164 : decode M_X7_divide.2.1 164 = .ok (.aload_n 0, 1) ∧ 164 + 1 = 165 := ⟨dcAll_e (i := 23) da_X7_divide_2 rfl, rfl⟩
theorem q_X7_divide_165 : decode M_X7_divide.2.1 165 = .ok (.getfield 17, 3) ∧ 165 + 3 = 168 := ⟨dcAll_e (i := 24) da_X7_divide_2 rfl, rfl⟩
theorem q_X7_divide_168 : decode M_X7_divide.2.1 168 = .ok (.iload_n 2, 1) ∧ 168 + 1 = 169 := ⟨dcAll_e (i := 25) da_X7_divide_2 rfl, rfl⟩
theorem q_X7_divide_169 : decode M_X7_divide.2.1 169 = .ok (.iload 7, 2) ∧ 169 + 2 = 171 := ⟨dcAll_e (i := 26) da_X7_divide_2 rfl, rfl⟩
theorem q_X7_divide_171 : decode M_X7_divide.2.1 171 = .ok (.iastore, 1) ∧ 171 + 1 = 172 := ⟨dcAll_e (i := 27) da_X7_divide_2 rfl, rfl⟩
theorem q_X7_divide_172 : decode M_X7_divide.2.1 172 = .ok (.aload_n 0, 1) ∧ 172 + 1 = 173 := ⟨dcAll_e (i := 28) da_X7_divide_2 rfl, rfl⟩
theorem q_X7_divide_173 : decode M_X7_divide.2.1 173 = .ok (.iload_n 2, 1) ∧ 173 + 1 = 174 := ⟨dcAll_e (i := 29) da_X7_divide_2 rfl, rfl⟩
theorem q_X7_divide_174 : decode M_X7_divide.2.1 174 = .ok (.iload 5, 2) ∧ 174 + 2 = 176 := ⟨dcAll_e (i := 30) da_X7_divide_2 rfl, rfl⟩
theorem q_X7_divide_176 : decode M_X7_divide.2.1 176 = .ok (.invokevirtual 66, 3) ∧ 176 + 3 = 179 := ⟨dcAll_e (i := 31) da_X7_divide_2 rfl, rfl⟩
theorem g_X7_divide_176 : en_C M_X7_divide M_X7_trim 66 2 := ⟨⟨inT4 54 rfl rfl, in_X7, cd_X7_trim⟩, ⟨by decide, by decide, by decide +kernel⟩, by decide, by decide⟩
theorem q_X7_divide_179 : decode M_X7_divide.2.1 179 = .ok (.aload_n 0, 1) ∧ 179 + 1 = 180 := ⟨dcAll_e (i := 32) da_X7_divide_2 rfl, rfl⟩
theorem q_X7_divide_180 : decode M_X7_divide.2.1 180 = .ok (.iload_n 2, 1) ∧ 180 + 1 = 181 := ⟨dcAll_e (i := 33) da_X7_divide_2 rfl, rfl⟩
theorem q_X7_divide_181 : decode M_X7_divide.2.1 181 = .ok (.iload 4, 2) ∧ 181 + 2 = 183 := ⟨dcAll_e (i := 34) da_X7_divide_2 rfl, rfl⟩
theorem q_X7_divide_183 : decode M_X7_divide.2.1 183 = .ok (.i2l, 1) ∧ 183 + 1 = 184 := ⟨dcAll_e (i := 35) da_X7_divide_2 rfl, rfl⟩
theorem q_X7_divide_184 : decode M_X7_divide.2.1 184 = .ok (.invokevirtual 77, 3) ∧ 184 + 3 = 187 := ⟨dcAll_e (i := 36) da_X7_divide_2 rfl, rfl⟩
theorem cd_X7_bySmall : Cond.code M_X7_bySmall.1 M_X7_bySmall.2.1 M_X7_bySmall.2.2.1 M_X7_bySmall.2.2.2.1 ∈ en_tbl := inT4 86 rfl rfl
theorem g_X7_divide_184 : en_C M_X7_divide M_X7_bySmall 77 2 := ⟨⟨inT4 83 rfl rfl, in_X7, cd_X7_bySmall⟩, ⟨by decide, by decide, by decide +kernel⟩, by decide, by decide⟩
theorem w_X7_bySmall : Cond.instanceMethod M_X7_bySmall.1 ∈ en_tbl ∧ Cond.selects M_X7_bySmall.1.cls M_X7_bySmall.1 M_X7_bySmall.1 ∈ en_tbl := ⟨inT4 85 rfl rfl, by decide +kernel⟩
theorem q_X7_divide_187 : decode M_X7_divide.2.1 187 = .ok (.aload_n 0, 1) ∧ 187 + 1 = 188 := ⟨dcAll_e (i := 37) da_X7_divide_2 rfl, rfl⟩
theorem q_X7_divide_188 : decode M_X7_divide.2.1 188 = .ok (.iload_n 3, 1) ∧ 188 + 1 = 189 := ⟨dcAll_e (i := 38) da_X7_divide_2 rfl, rfl⟩
theorem q_X7_divide_189 : decode M_X7_divide.2.1 189 = .ok (.iload 4, 2) ∧ 189 + 2 = 191 := ⟨dcAll_e (i := 39) da_X7_divide_2 rfl, rfl⟩
theorem q_X7_divide_191 : decode M_X7_divide.2.1 191 = .ok (.i2l, 1) ∧ 191 + 1 = 192 := ⟨dcAll_e (i := 0) da_X7_divide_3 rfl, rfl⟩
theorem q_X7_divide_192 : decode M_X7_divide.2.1 192 = .ok (.invokevirtual 77, 3) ∧ 192 + 3 = 195 := ⟨dcAll_e (i := 1) da_X7_divide_3 rfl, rfl⟩
theorem g_X7_divide_192 : en_C M_X7_divide M_X7_bySmall 77 2 := ⟨⟨inT4 83 rfl rfl, in_X7, cd_X7_bySmall⟩, ⟨by decide, by decide, by decide +kernel⟩, by decide, by decide⟩
theorem q_X7_divide_195 : decode M_X7_divide.2.1 195 = .ok (.ladd, 1) ∧ 195 + 1 = 196 := ⟨dcAll_e (i := 2) da_X7_divide_3 rfl, rfl⟩
theorem q_X7_divide_196 : decode M_X7_divide.2.1 196 = .ok (.lstore 8, 2) ∧ 196 + 2 = 198 := ⟨dcAll_e (i := 3) da_X7_divide_3 rfl, rfl⟩
theorem q_X7_divide_198 : decode M_X7_divide.2.1 198 = .ok (.return_, 1) ∧ 198 + 1 = 199 := ⟨dcAll_e (i := 4) da_X7_divide_3 rfl, rfl⟩
def dl_X7_placeOf_0 : List (Nat × Instr × Nat) := [(0, .sipush 320, 3), (3, .iload_n 1, 1), (4, .imul, 1), (5, .iload_n 3, 1), (6, .iadd, 1), (7, .istore 5, 2), (9, .sipush 320, 3), (12, .iload_n 2, 1), (13, .imul, 1), (14, .istore 6, 2), (16, .aload_n 0, 1), (17, .getfield 8, 3), (20, .iload 5, 2), (22, .iload 4, 2), (24, .iadd, 1), (25, .iaload, 1), (26, .i2l, 1), (27, .ldc2_w 47, 3), (30, .lmul, 1), (31, .aload_n 0, 1), (32, .getfield 8, 3), (35, .iload 5, 2), (37, .iload 4, 2), (39, .iadd, 1), (40, .iconst 1, 1), (41, .isub, 1), (42, .iaload, 1), (43, .i2l, 1), (44, .ladd, 1), (45, .lstore 7, 2), (47, .aload_n 0, 1), (48, .getfield 8, 3), (51, .iload 6, 2), (53, .iload 4, 2), (55, .iadd, 1), (56, .iconst 1, 1), (57, .isub, 1), (58, .iaload, 1), (59, .i2l, 1), (60, .lstore 9, 2)]
theorem da_X7_placeOf_0 : dcAll M_X7_placeOf.2.1 dl_X7_placeOf_0 = true := by decide +kernel
def dl_X7_placeOf_1 : List (Nat × Instr × Nat) := [(62, .lload 7, 2), (64, .lload 9, 2), (66, .ldiv, 1), (67, .lstore 11, 2), (69, .lload 7, 2), (71, .lload 9, 2), (73, .lrem, 1), (74, .lstore 13, 2), (76, .iload 4, 2), (78, .iconst 1, 1), (79, .if_icmp .le 19, 3), (82, .aload_n 0, 1), (83, .getfield 8, 3), (86, .iload 6, 2), (88, .iload 4, 2), (90, .iadd, 1), (91, .iconst 2, 1), (92, .isub, 1), (93, .iaload, 1), (94, .i2l, 1), (95, .goto 4, 3), (98, .lconst 0, 1), (99, .lstore 15, 2), (101, .iload 4, 2), (103, .iconst 1, 1), (104, .if_icmp .le 19, 3), (107, .aload_n 0, 1), (108, .getfield 8, 3), (111, .iload 5, 2), (113, .iload 4, 2), (115, .iadd, 1), (116, .iconst 2, 1), (117, .isub, 1), (118, .iaload, 1), (119, .i2l, 1), (120, .goto 4, 3), (123, .lconst 0, 1), (124, .lstore 17, 2), (126, .lload 11, 2), (128, .ldc2_w 47, 3)]
theorem da_X7_placeOf_1 : dcAll M_X7_placeOf.2.1 dl_X7_placeOf_1 = true := by decide +kernel
def dl_X7_placeOf_2 : List (Nat × Instr × Nat) := [(131, .lcmp, 1), (132, .ifCond .ge 30, 3), (135, .lload 13, 2), (137, .ldc2_w 47, 3), (140, .lcmp, 1), (141, .ifCond .ge 37, 3), (144, .lload 11, 2), (146, .lload 15, 2), (148, .lmul, 1), (149, .lload 13, 2), (151, .ldc2_w 47, 3), (154, .lmul, 1), (155, .lload 17, 2), (157, .ladd, 1), (158, .lcmp, 1), (159, .ifCond .le 19, 3), (162, .lload 11, 2), (164, .lconst 1, 1), (165, .lsub, 1), (166, .lstore 11, 2), (168, .lload 13, 2), (170, .lload 9, 2), (172, .ladd, 1), (173, .lstore 13, 2), (175, .goto (-49), 3), (178, .lconst 0, 1), (179, .lstore 19, 2), (181, .iconst 0, 1), (182, .istore 21, 2), (184, .iload 21, 2), (186, .iload 4, 2), (188, .if_icmp .ge 92, 3), (191, .aload_n 0, 1), (192, .getfield 8, 3), (195, .iload 5, 2), (197, .iload 21, 2), (199, .iadd, 1), (200, .iaload, 1), (201, .i2l, 1), (202, .lload 11, 2)]
theorem da_X7_placeOf_2 : dcAll M_X7_placeOf.2.1 dl_X7_placeOf_2 = true := by decide +kernel
def dl_X7_placeOf_3 : List (Nat × Instr × Nat) := [(204, .aload_n 0, 1), (205, .getfield 8, 3), (208, .iload 6, 2), (210, .iload 21, 2), (212, .iadd, 1), (213, .iaload, 1), (214, .i2l, 1), (215, .lmul, 1), (216, .lsub, 1), (217, .lload 19, 2), (219, .ladd, 1), (220, .lstore 22, 2), (222, .lload 22, 2), (224, .ldc2_w 47, 3), (227, .lrem, 1), (228, .lstore 24, 2), (230, .lload 24, 2), (232, .lconst 0, 1), (233, .lcmp, 1), (234, .ifCond .ge 12, 3), (237, .lload 24, 2), (239, .ldc2_w 47, 3), (242, .ladd, 1), (243, .goto 5, 3), (246, .lload 24, 2), (248, .lstore 24, 2), (250, .aload_n 0, 1), (251, .getfield 8, 3), (254, .iload 5, 2), (256, .iload 21, 2), (258, .iadd, 1), (259, .lload 24, 2), (261, .l2i, 1), (262, .iastore, 1), (263, .lload 22, 2), (265, .lload 24, 2), (267, .lsub, 1), (268, .ldc2_w 47, 3), (271, .ldiv, 1), (272, .lstore 19, 2)]
theorem da_X7_placeOf_3 : dcAll M_X7_placeOf.2.1 dl_X7_placeOf_3 = true := by decide +kernel
def dl_X7_placeOf_4 : List (Nat × Instr × Nat) := [(274, .iinc 21 1, 3), (277, .goto (-93), 3), (280, .aload_n 0, 1), (281, .getfield 8, 3), (284, .iload 5, 2), (286, .iload 4, 2), (288, .iadd, 1), (289, .iaload, 1), (290, .i2l, 1), (291, .lload 19, 2), (293, .ladd, 1), (294, .lstore 21, 2), (296, .lload 21, 2), (298, .lconst 0, 1), (299, .lcmp, 1), (300, .ifCond .ge 102, 3), (303, .lload 11, 2), (305, .lconst 1, 1), (306, .lsub, 1), (307, .lstore 11, 2), (309, .iconst 0, 1), (310, .istore 23, 2), (312, .iconst 0, 1), (313, .istore 24, 2), (315, .iload 24, 2), (317, .iload 4, 2), (319, .if_icmp .ge 75, 3), (322, .aload_n 0, 1), (323, .getfield 8, 3), (326, .iload 5, 2), (328, .iload 24, 2), (330, .iadd, 1), (331, .iaload, 1), (332, .aload_n 0, 1), (333, .getfield 8, 3), (336, .iload 6, 2), (338, .iload 24, 2), (340, .iadd, 1), (341, .iaload, 1), (342, .iadd, 1)]
theorem da_X7_placeOf_4 : dcAll M_X7_placeOf.2.1 dl_X7_placeOf_4 = true := by decide +kernel
def dl_X7_placeOf_5 : List (Nat × Instr × Nat) := [(343, .iload 23, 2), (345, .iadd, 1), (346, .istore 25, 2), (348, .iload 25, 2), (350, .ldc 65, 2), (352, .if_icmp .lt 7, 3), (355, .iconst 1, 1), (356, .goto 4, 3), (359, .iconst 0, 1), (360, .istore 23, 2), (362, .aload_n 0, 1), (363, .getfield 8, 3), (366, .iload 5, 2), (368, .iload 24, 2), (370, .iadd, 1), (371, .iload 23, 2), (373, .iconst 1, 1), (374, .if_icmp .ne 11, 3), (377, .iload 25, 2), (379, .ldc 65, 2), (381, .isub, 1), (382, .goto 5, 3), (385, .iload 25, 2), (387, .iastore, 1), (388, .iinc 24 1, 3), (391, .goto (-76), 3), (394, .lload 21, 2), (396, .iload 23, 2), (398, .i2l, 1), (399, .ladd, 1), (400, .lstore 21, 2), (402, .aload_n 0, 1), (403, .getfield 8, 3), (406, .iload 5, 2), (408, .iload 4, 2), (410, .iadd, 1), (411, .lload 21, 2), (413, .l2i, 1), (414, .iastore, 1), (415, .lload 11, 2)]
theorem da_X7_placeOf_5 : dcAll M_X7_placeOf.2.1 dl_X7_placeOf_5 = true := by decide +kernel
def dl_X7_placeOf_6 : List (Nat × Instr × Nat) := [(417, .l2i, 1), (418, .ireturn, 1)]
theorem da_X7_placeOf_6 : dcAll M_X7_placeOf.2.1 dl_X7_placeOf_6 = true := by decide +kernel
theorem q_X7_placeOf_0 : decode M_X7_placeOf.2.1 0 = .ok (.sipush 320, 3) ∧ 0 + 3 = 3 := ⟨dcAll_e (i := 0) da_X7_placeOf_0 rfl, rfl⟩
theorem q_X7_placeOf_3 : decode M_X7_placeOf.2.1 3 = .ok (.iload_n 1, 1) ∧ 3 + 1 = 4 := ⟨dcAll_e (i := 1) da_X7_placeOf_0 rfl, rfl⟩
theorem q_X7_placeOf_4 : decode M_X7_placeOf.2.1 4 = .ok (.imul, 1) ∧ 4 + 1 = 5 := ⟨dcAll_e (i := 2) da_X7_placeOf_0 rfl, rfl⟩
theorem q_X7_placeOf_5 : decode M_X7_placeOf.2.1 5 = .ok (.iload_n 3, 1) ∧ 5 + 1 = 6 := ⟨dcAll_e (i := 3) da_X7_placeOf_0 rfl, rfl⟩
theorem q_X7_placeOf_6 : decode M_X7_placeOf.2.1 6 = .ok (.iadd, 1) ∧ 6 + 1 = 7 := ⟨dcAll_e (i := 4) da_X7_placeOf_0 rfl, rfl⟩
theorem q_X7_placeOf_7 : decode M_X7_placeOf.2.1 7 = .ok (.istore 5, 2) ∧ 7 + 2 = 9 := ⟨dcAll_e (i := 5) da_X7_placeOf_0 rfl, rfl⟩
theorem q_X7_placeOf_9 : decode M_X7_placeOf.2.1 9 = .ok (.sipush 320, 3) ∧ 9 + 3 = 12 := ⟨dcAll_e (i := 6) da_X7_placeOf_0 rfl, rfl⟩
theorem q_X7_placeOf_12 : decode M_X7_placeOf.2.1 12 = .ok (.iload_n 2, 1) ∧ 12 + 1 = 13 := ⟨dcAll_e (i := 7) da_X7_placeOf_0 rfl, rfl⟩
theorem q_X7_placeOf_13 : decode M_X7_placeOf.2.1 13 = .ok (.imul, 1) ∧ 13 + 1 = 14 := ⟨dcAll_e (i := 8) da_X7_placeOf_0 rfl, rfl⟩
theorem q_X7_placeOf_14 : decode M_X7_placeOf.2.1 14 = .ok (.istore 6, 2) ∧ 14 + 2 = 16 := ⟨dcAll_e (i := 9) da_X7_placeOf_0 rfl, rfl⟩
theorem q_X7_placeOf_16 : decode M_X7_placeOf.2.1 16 = .ok (.aload_n 0, 1) ∧ 16 + 1 = 17 := ⟨dcAll_e (i := 10) da_X7_placeOf_0 rfl, rfl⟩
theorem q_X7_placeOf_17 : decode M_X7_placeOf.2.1 17 = .ok (.getfield 8, 3) ∧ 17 + 3 = 20 := ⟨dcAll_e (i := 11) da_X7_placeOf_0 rfl, rfl⟩
theorem q_X7_placeOf_20 : decode M_X7_placeOf.2.1 20 = .ok (.iload 5, 2) ∧ 20 + 2 = 22 := ⟨dcAll_e (i := 12) da_X7_placeOf_0 rfl, rfl⟩
theorem q_X7_placeOf_22 : decode M_X7_placeOf.2.1 22 = .ok (.iload 4, 2) ∧ 22 + 2 = 24 := ⟨dcAll_e (i := 13) da_X7_placeOf_0 rfl, rfl⟩
theorem q_X7_placeOf_24 : decode M_X7_placeOf.2.1 24 = .ok (.iadd, 1) ∧ 24 + 1 = 25 := ⟨dcAll_e (i := 14) da_X7_placeOf_0 rfl, rfl⟩
theorem q_X7_placeOf_25 : decode M_X7_placeOf.2.1 25 = .ok (.iaload, 1) ∧ 25 + 1 = 26 := ⟨dcAll_e (i := 15) da_X7_placeOf_0 rfl, rfl⟩
theorem q_X7_placeOf_26 : decode M_X7_placeOf.2.1 26 = .ok (.i2l, 1) ∧ 26 + 1 = 27 := ⟨dcAll_e (i := 16) da_X7_placeOf_0 rfl, rfl⟩
theorem q_X7_placeOf_27 : decode M_X7_placeOf.2.1 27 = .ok (.ldc2_w 47, 3) ∧ 27 + 3 = 30 := ⟨dcAll_e (i := 17) da_X7_placeOf_0 rfl, rfl⟩
theorem q_X7_placeOf_30 : decode M_X7_placeOf.2.1 30 = .ok (.lmul, 1) ∧ 30 + 1 = 31 := ⟨dcAll_e (i := 18) da_X7_placeOf_0 rfl, rfl⟩
theorem q_X7_placeOf_31 : decode M_X7_placeOf.2.1 31 = .ok (.aload_n 0, 1) ∧ 31 + 1 = 32 := ⟨dcAll_e (i := 19) da_X7_placeOf_0 rfl, rfl⟩
theorem q_X7_placeOf_32 : decode M_X7_placeOf.2.1 32 = .ok (.getfield 8, 3) ∧ 32 + 3 = 35 := ⟨dcAll_e (i := 20) da_X7_placeOf_0 rfl, rfl⟩
theorem q_X7_placeOf_35 : decode M_X7_placeOf.2.1 35 = .ok (.iload 5, 2) ∧ 35 + 2 = 37 := ⟨dcAll_e (i := 21) da_X7_placeOf_0 rfl, rfl⟩
theorem q_X7_placeOf_37 : decode M_X7_placeOf.2.1 37 = .ok (.iload 4, 2) ∧ 37 + 2 = 39 := ⟨dcAll_e (i := 22) da_X7_placeOf_0 rfl, rfl⟩
theorem q_X7_placeOf_39 : decode M_X7_placeOf.2.1 39 = .ok (.iadd, 1) ∧ 39 + 1 = 40 := ⟨dcAll_e (i := 23) da_X7_placeOf_0 rfl, rfl⟩
theorem q_X7_placeOf_40 : decode M_X7_placeOf.2.1 40 = .ok (.iconst 1, 1) ∧ 40 + 1 = 41 := ⟨dcAll_e (i := 24) da_X7_placeOf_0 rfl, rfl⟩
theorem q_X7_placeOf_41 : decode M_X7_placeOf.2.1 41 = .ok (.isub, 1) ∧ 41 + 1 = 42 := ⟨dcAll_e (i := 25) da_X7_placeOf_0 rfl, rfl⟩
theorem q_X7_placeOf_42 : decode M_X7_placeOf.2.1 42 = .ok (.iaload, 1) ∧ 42 + 1 = 43 := ⟨dcAll_e (i := 26) da_X7_placeOf_0 rfl, rfl⟩
theorem q_X7_placeOf_43 : decode M_X7_placeOf.2.1 43 = .ok (.i2l, 1) ∧ 43 + 1 = 44 := ⟨dcAll_e (i := 27) da_X7_placeOf_0 rfl, rfl⟩
theorem q_X7_placeOf_44 : decode M_X7_placeOf.2.1 44 = .ok (.ladd, 1) ∧ 44 + 1 = 45 := ⟨dcAll_e (i := 28) da_X7_placeOf_0 rfl, rfl⟩
theorem q_X7_placeOf_45 : decode M_X7_placeOf.2.1 45 = .ok (.lstore 7, 2) ∧ 45 + 2 = 47 := ⟨dcAll_e (i := 29) da_X7_placeOf_0 rfl, rfl⟩
theorem q_X7_placeOf_47 : decode M_X7_placeOf.2.1 47 = .ok (.aload_n 0, 1) ∧ 47 + 1 = 48 := ⟨dcAll_e (i := 30) da_X7_placeOf_0 rfl, rfl⟩
theorem q_X7_placeOf_48 : decode M_X7_placeOf.2.1 48 = .ok (.getfield 8, 3) ∧ 48 + 3 = 51 := ⟨dcAll_e (i := 31) da_X7_placeOf_0 rfl, rfl⟩
theorem q_X7_placeOf_51 : decode M_X7_placeOf.2.1 51 = .ok (.iload 6, 2) ∧ 51 + 2 = 53 := ⟨dcAll_e (i := 32) da_X7_placeOf_0 rfl, rfl⟩
theorem q_X7_placeOf_53 : decode M_X7_placeOf.2.1 53 = .ok (.iload 4, 2) ∧ 53 + 2 = 55 := ⟨dcAll_e (i := 33) da_X7_placeOf_0 rfl, rfl⟩
theorem q_X7_placeOf_55 : decode M_X7_placeOf.2.1 55 = .ok (.iadd, 1) ∧ 55 + 1 = 56 := ⟨dcAll_e (i := 34) da_X7_placeOf_0 rfl, rfl⟩
theorem q_X7_placeOf_56 : decode M_X7_placeOf.2.1 56 = .ok (.iconst 1, 1) ∧ 56 + 1 = 57 := ⟨dcAll_e (i := 35) da_X7_placeOf_0 rfl, rfl⟩
theorem q_X7_placeOf_57 : decode M_X7_placeOf.2.1 57 = .ok (.isub, 1) ∧ 57 + 1 = 58 := ⟨dcAll_e (i := 36) da_X7_placeOf_0 rfl, rfl⟩
theorem q_X7_placeOf_58 : decode M_X7_placeOf.2.1 58 = .ok (.iaload, 1) ∧ 58 + 1 = 59 := ⟨dcAll_e (i := 37) da_X7_placeOf_0 rfl, rfl⟩
theorem q_X7_placeOf_59 : decode M_X7_placeOf.2.1 59 = .ok (.i2l, 1) ∧ 59 + 1 = 60 := ⟨dcAll_e (i := 38) da_X7_placeOf_0 rfl, rfl⟩
theorem q_X7_placeOf_60 : decode M_X7_placeOf.2.1 60 = .ok (.lstore 9, 2) ∧ 60 + 2 = 62 := ⟨dcAll_e (i := 39) da_X7_placeOf_0 rfl, rfl⟩
theorem q_X7_placeOf_62 : decode M_X7_placeOf.2.1 62 = .ok (.lload 7, 2) ∧ 62 + 2 = 64 := ⟨dcAll_e (i := 0) da_X7_placeOf_1 rfl, rfl⟩
theorem q_X7_placeOf_64 : decode M_X7_placeOf.2.1 64 = .ok (.lload 9, 2) ∧ 64 + 2 = 66 := ⟨dcAll_e (i := 1) da_X7_placeOf_1 rfl, rfl⟩
theorem q_X7_placeOf_66 : decode M_X7_placeOf.2.1 66 = .ok (.ldiv, 1) ∧ 66 + 1 = 67 := ⟨dcAll_e (i := 2) da_X7_placeOf_1 rfl, rfl⟩
theorem q_X7_placeOf_67 : decode M_X7_placeOf.2.1 67 = .ok (.lstore 11, 2) ∧ 67 + 2 = 69 := ⟨dcAll_e (i := 3) da_X7_placeOf_1 rfl, rfl⟩
theorem q_X7_placeOf_69 : decode M_X7_placeOf.2.1 69 = .ok (.lload 7, 2) ∧ 69 + 2 = 71 := ⟨dcAll_e (i := 4) da_X7_placeOf_1 rfl, rfl⟩
theorem q_X7_placeOf_71 : decode M_X7_placeOf.2.1 71 = .ok (.lload 9, 2) ∧ 71 + 2 = 73 := ⟨dcAll_e (i := 5) da_X7_placeOf_1 rfl, rfl⟩
theorem q_X7_placeOf_73 : decode M_X7_placeOf.2.1 73 = .ok (.lrem, 1) ∧ 73 + 1 = 74 := ⟨dcAll_e (i := 6) da_X7_placeOf_1 rfl, rfl⟩
theorem q_X7_placeOf_74 : decode M_X7_placeOf.2.1 74 = .ok (.lstore 13, 2) ∧ 74 + 2 = 76 := ⟨dcAll_e (i := 7) da_X7_placeOf_1 rfl, rfl⟩
theorem q_X7_placeOf_76 : decode M_X7_placeOf.2.1 76 = .ok (.iload 4, 2) ∧ 76 + 2 = 78 := ⟨dcAll_e (i := 8) da_X7_placeOf_1 rfl, rfl⟩
theorem q_X7_placeOf_78 : decode M_X7_placeOf.2.1 78 = .ok (.iconst 1, 1) ∧ 78 + 1 = 79 := ⟨dcAll_e (i := 9) da_X7_placeOf_1 rfl, rfl⟩
theorem q_X7_placeOf_79 : decode M_X7_placeOf.2.1 79 = .ok (.if_icmp .le 19, 3) ∧ 79 + 3 = 82 ∧ ((79 : Nat) : Int) + 19 = ((98 : Nat) : Int) := ⟨dcAll_e (i := 10) da_X7_placeOf_1 rfl, rfl, rfl⟩
theorem q_X7_placeOf_82 : decode M_X7_placeOf.2.1 82 = .ok (.aload_n 0, 1) ∧ 82 + 1 = 83 := ⟨dcAll_e (i := 11) da_X7_placeOf_1 rfl, rfl⟩
theorem q_X7_placeOf_83 : decode M_X7_placeOf.2.1 83 = .ok (.getfield 8, 3) ∧ 83 + 3 = 86 := ⟨dcAll_e (i := 12) da_X7_placeOf_1 rfl, rfl⟩
theorem q_X7_placeOf_86 : decode M_X7_placeOf.2.1 86 = .ok (.iload 6, 2) ∧ 86 + 2 = 88 := ⟨dcAll_e (i := 13) da_X7_placeOf_1 rfl, rfl⟩
theorem q_X7_placeOf_88 : decode M_X7_placeOf.2.1 88 = .ok (.iload 4, 2) ∧ 88 + 2 = 90 := ⟨dcAll_e (i := 14) da_X7_placeOf_1 rfl, rfl⟩
theorem q_X7_placeOf_90 : decode M_X7_placeOf.2.1 90 = .ok (.iadd, 1) ∧ 90 + 1 = 91 := ⟨dcAll_e (i := 15) da_X7_placeOf_1 rfl, rfl⟩
theorem q_X7_placeOf_91 : decode M_X7_placeOf.2.1 91 = .ok (.iconst 2, 1) ∧ 91 + 1 = 92 := ⟨dcAll_e (i := 16) da_X7_placeOf_1 rfl, rfl⟩
theorem q_X7_placeOf_92 : decode M_X7_placeOf.2.1 92 = .ok (.isub, 1) ∧ 92 + 1 = 93 := ⟨dcAll_e (i := 17) da_X7_placeOf_1 rfl, rfl⟩
theorem q_X7_placeOf_93 : decode M_X7_placeOf.2.1 93 = .ok (.iaload, 1) ∧ 93 + 1 = 94 := ⟨dcAll_e (i := 18) da_X7_placeOf_1 rfl, rfl⟩
theorem q_X7_placeOf_94 : decode M_X7_placeOf.2.1 94 = .ok (.i2l, 1) ∧ 94 + 1 = 95 := ⟨dcAll_e (i := 19) da_X7_placeOf_1 rfl, rfl⟩
theorem q_X7_placeOf_95 : decode M_X7_placeOf.2.1 95 = .ok (.goto 4, 3) ∧ 95 + 3 = 98 ∧ ((95 : Nat) : Int) + 4 = ((99 : Nat) : Int) := ⟨dcAll_e (i := 20) da_X7_placeOf_1 rfl, rfl, rfl⟩
theorem q_X7_placeOf_98 : decode M_X7_placeOf.2.1 98 = .ok (.lconst 0, 1) ∧ 98 + 1 = 99 := ⟨dcAll_e (i := 21) da_X7_placeOf_1 rfl, rfl⟩
theorem q_X7_placeOf_99 : decode M_X7_placeOf.2.1 99 = .ok (.lstore 15, 2) ∧ 99 + 2 = 101 := ⟨dcAll_e (i := 22) da_X7_placeOf_1 rfl, rfl⟩
theorem q_X7_placeOf_101 : decode M_X7_placeOf.2.1 101 = .ok (.iload 4, 2) ∧ 101 + 2 = 103 := ⟨dcAll_e (i := 23) da_X7_placeOf_1 rfl, rfl⟩
theorem q_X7_placeOf_103 : decode M_X7_placeOf.2.1 103 = .ok (.iconst 1, 1) ∧ 103 + 1 = 104 := ⟨dcAll_e (i := 24) da_X7_placeOf_1 rfl, rfl⟩
theorem q_X7_placeOf_104 : decode M_X7_placeOf.2.1 104 = .ok (.if_icmp .le 19, 3) ∧ 104 + 3 = 107 ∧ ((104 : Nat) : Int) + 19 = ((123 : Nat) : Int) := ⟨dcAll_e (i := 25) da_X7_placeOf_1 rfl, rfl, rfl⟩
theorem q_X7_placeOf_107 : decode M_X7_placeOf.2.1 107 = .ok (.aload_n 0, 1) ∧ 107 + 1 = 108 := ⟨dcAll_e (i := 26) da_X7_placeOf_1 rfl, rfl⟩
theorem q_X7_placeOf_108 : decode M_X7_placeOf.2.1 108 = .ok (.getfield 8, 3) ∧ 108 + 3 = 111 := ⟨dcAll_e (i := 27) da_X7_placeOf_1 rfl, rfl⟩
theorem q_X7_placeOf_111 : decode M_X7_placeOf.2.1 111 = .ok (.iload 5, 2) ∧ 111 + 2 = 113 := ⟨dcAll_e (i := 28) da_X7_placeOf_1 rfl, rfl⟩
theorem q_X7_placeOf_113 : decode M_X7_placeOf.2.1 113 = .ok (.iload 4, 2) ∧ 113 + 2 = 115 := ⟨dcAll_e (i := 29) da_X7_placeOf_1 rfl, rfl⟩
theorem q_X7_placeOf_115 : decode M_X7_placeOf.2.1 115 = .ok (.iadd, 1) ∧ 115 + 1 = 116 := ⟨dcAll_e (i := 30) da_X7_placeOf_1 rfl, rfl⟩
theorem q_X7_placeOf_116 : decode M_X7_placeOf.2.1 116 = .ok (.iconst 2, 1) ∧ 116 + 1 = 117 := ⟨dcAll_e (i := 31) da_X7_placeOf_1 rfl, rfl⟩
theorem q_X7_placeOf_117 : decode M_X7_placeOf.2.1 117 = .ok (.isub, 1) ∧ 117 + 1 = 118 := ⟨dcAll_e (i := 32) da_X7_placeOf_1 rfl, rfl⟩
theorem q_X7_placeOf_118 : decode M_X7_placeOf.2.1 118 = .ok (.iaload, 1) ∧ 118 + 1 = 119 := ⟨dcAll_e (i := 33) da_X7_placeOf_1 rfl, rfl⟩
theorem q_X7_placeOf_119 : decode M_X7_placeOf.2.1 119 = .ok (.i2l, 1) ∧ 119 + 1 = 120 := ⟨dcAll_e (i := 34) da_X7_placeOf_1 rfl, rfl⟩
theorem q_X7_placeOf_120 : decode M_X7_placeOf.2.1 120 = .ok (.goto 4, 3) ∧ 120 + 3 = 123 ∧ ((120 : Nat) : Int) + 4 = ((124 : Nat) : Int) := ⟨dcAll_e (i := 35) da_X7_placeOf_1 rfl, rfl, rfl⟩
theorem q_X7_placeOf_123 : decode M_X7_placeOf.2.1 123 = .ok (.lconst 0, 1) ∧ 123 + 1 = 124 := ⟨dcAll_e (i := 36) da_X7_placeOf_1 rfl, rfl⟩
theorem q_X7_placeOf_124 : decode M_X7_placeOf.2.1 124 = .ok (.lstore 17, 2) ∧ 124 + 2 = 126 := ⟨dcAll_e (i := 37) da_X7_placeOf_1 rfl, rfl⟩
theorem q_X7_placeOf_126 : decode M_X7_placeOf.2.1 126 = .ok (.lload 11, 2) ∧ 126 + 2 = 128 := ⟨dcAll_e (i := 38) da_X7_placeOf_1 rfl, rfl⟩
theorem q_X7_placeOf_128 : decode M_X7_placeOf.2.1 128 = .ok (.ldc2_w 47, 3) ∧ 128 + 3 = 131 := ⟨dcAll_e (i := 39) da_X7_placeOf_1 rfl, rfl⟩
theorem q_X7_placeOf_131 : decode M_X7_placeOf.2.1 131 = .ok (.lcmp, 1) ∧ 131 + 1 = 132 := ⟨dcAll_e (i := 0) da_X7_placeOf_2 rfl, rfl⟩
theorem q_X7_placeOf_132 : decode M_X7_placeOf.2.1 132 = .ok (.ifCond .ge 30, 3) ∧ 132 + 3 = 135 ∧ ((132 : Nat) : Int) + 30 = ((162 : Nat) : Int) := ⟨dcAll_e (i := 1) da_X7_placeOf_2 rfl, rfl, rfl⟩
theorem q_X7_placeOf_135 : decode M_X7_placeOf.2.1 135 = .ok (.lload 13, 2) ∧ 135 + 2 = 137 := ⟨dcAll_e (i := 2) da_X7_placeOf_2 rfl, rfl⟩
theorem q_X7_placeOf_137 : decode M_X7_placeOf.2.1 137 = .ok (.ldc2_w 47, 3) ∧ 137 + 3 = 140 := ⟨dcAll_e (i := 3) da_X7_placeOf_2 rfl, rfl⟩
theorem q_X7_placeOf_140 : decode M_X7_placeOf.2.1 140 = .ok (.lcmp, 1) ∧ 140 + 1 = 141 := ⟨dcAll_e (i := 4) da_X7_placeOf_2 rfl, rfl⟩
theorem q_X7_placeOf_141 : decode M_X7_placeOf.2.1 141 = .ok (.ifCond .ge 37, 3) ∧ 141 + 3 = 144 ∧ ((141 : Nat) : Int) + 37 = ((178 : Nat) : Int) := ⟨dcAll_e (i := 5) da_X7_placeOf_2 rfl, rfl, rfl⟩
theorem q_X7_placeOf_144 : decode M_X7_placeOf.2.1 144 = .ok (.lload 11, 2) ∧ 144 + 2 = 146 := ⟨dcAll_e (i := 6) da_X7_placeOf_2 rfl, rfl⟩
theorem q_X7_placeOf_146 : decode M_X7_placeOf.2.1 146 = .ok (.lload 15, 2) ∧ 146 + 2 = 148 := ⟨dcAll_e (i := 7) da_X7_placeOf_2 rfl, rfl⟩
theorem q_X7_placeOf_148 : decode M_X7_placeOf.2.1 148 = .ok (.lmul, 1) ∧ 148 + 1 = 149 := ⟨dcAll_e (i := 8) da_X7_placeOf_2 rfl, rfl⟩
theorem q_X7_placeOf_149 : decode M_X7_placeOf.2.1 149 = .ok (.lload 13, 2) ∧ 149 + 2 = 151 := ⟨dcAll_e (i := 9) da_X7_placeOf_2 rfl, rfl⟩
theorem q_X7_placeOf_151 : decode M_X7_placeOf.2.1 151 = .ok (.ldc2_w 47, 3) ∧ 151 + 3 = 154 := ⟨dcAll_e (i := 10) da_X7_placeOf_2 rfl, rfl⟩
theorem q_X7_placeOf_154 : decode M_X7_placeOf.2.1 154 = .ok (.lmul, 1) ∧ 154 + 1 = 155 := ⟨dcAll_e (i := 11) da_X7_placeOf_2 rfl, rfl⟩
theorem q_X7_placeOf_155 : decode M_X7_placeOf.2.1 155 = .ok (.lload 17, 2) ∧ 155 + 2 = 157 := ⟨dcAll_e (i := 12) da_X7_placeOf_2 rfl, rfl⟩
theorem q_X7_placeOf_157 : decode M_X7_placeOf.2.1 157 = .ok (.ladd, 1) ∧ 157 + 1 = 158 := ⟨dcAll_e (i := 13) da_X7_placeOf_2 rfl, rfl⟩
theorem q_X7_placeOf_158 : decode M_X7_placeOf.2.1 158 = .ok (.lcmp, 1) ∧ 158 + 1 = 159 := ⟨dcAll_e (i := 14) da_X7_placeOf_2 rfl, rfl⟩
theorem q_X7_placeOf_159 : decode M_X7_placeOf.2.1 159 = .ok (.ifCond .le 19, 3) ∧ 159 + 3 = 162 ∧ ((159 : Nat) : Int) + 19 = ((178 : Nat) : Int) := ⟨dcAll_e (i := 15) da_X7_placeOf_2 rfl, rfl, rfl⟩
theorem q_X7_placeOf_162 : decode M_X7_placeOf.2.1 162 = .ok (.lload 11, 2) ∧ 162 + 2 = 164 := ⟨dcAll_e (i := 16) da_X7_placeOf_2 rfl, rfl⟩
theorem q_X7_placeOf_164 : decode M_X7_placeOf.2.1 164 = .ok (.lconst 1, 1) ∧ 164 + 1 = 165 := ⟨dcAll_e (i := 17) da_X7_placeOf_2 rfl, rfl⟩
theorem q_X7_placeOf_165 : decode M_X7_placeOf.2.1 165 = .ok (.lsub, 1) ∧ 165 + 1 = 166 := ⟨dcAll_e (i := 18) da_X7_placeOf_2 rfl, rfl⟩
theorem q_X7_placeOf_166 : decode M_X7_placeOf.2.1 166 = .ok (.lstore 11, 2) ∧ 166 + 2 = 168 := ⟨dcAll_e (i := 19) da_X7_placeOf_2 rfl, rfl⟩
theorem q_X7_placeOf_168 : decode M_X7_placeOf.2.1 168 = .ok (.lload 13, 2) ∧ 168 + 2 = 170 := ⟨dcAll_e (i := 20) da_X7_placeOf_2 rfl, rfl⟩
theorem q_X7_placeOf_170 : decode M_X7_placeOf.2.1 170 = .ok (.lload 9, 2) ∧ 170 + 2 = 172 := ⟨dcAll_e (i := 21) da_X7_placeOf_2 rfl, rfl⟩
theorem q_X7_placeOf_172 : decode M_X7_placeOf.2.1 172 = .ok (.ladd, 1) ∧ 172 + 1 = 173 := ⟨dcAll_e (i := 22) da_X7_placeOf_2 rfl, rfl⟩
theorem q_X7_placeOf_173 : decode M_X7_placeOf.2.1 173 = .ok (.lstore 13, 2) ∧ 173 + 2 = 175 := ⟨dcAll_e (i := 23) da_X7_placeOf_2 rfl, rfl⟩
theorem q_X7_placeOf_175 : decode M_X7_placeOf.2.1 175 = .ok (.goto (-49), 3) ∧ 175 + 3 = 178 ∧ ((175 : Nat) : Int) + (-49) = ((126 : Nat) : Int) := ⟨dcAll_e (i := 24) da_X7_placeOf_2 rfl, rfl, rfl⟩
theorem q_X7_placeOf_178 : decode M_X7_placeOf.2.1 178 = .ok (.lconst 0, 1) ∧ 178 + 1 = 179 := ⟨dcAll_e (i := 25) da_X7_placeOf_2 rfl, rfl⟩
theorem q_X7_placeOf_179 : decode M_X7_placeOf.2.1 179 = .ok (.lstore 19, 2) ∧ 179 + 2 = 181 := ⟨dcAll_e (i := 26) da_X7_placeOf_2 rfl, rfl⟩
theorem q_X7_placeOf_181 : decode M_X7_placeOf.2.1 181 = .ok (.iconst 0, 1) ∧ 181 + 1 = 182 := ⟨dcAll_e (i := 27) da_X7_placeOf_2 rfl, rfl⟩
theorem q_X7_placeOf_182 : decode M_X7_placeOf.2.1 182 = .ok (.istore 21, 2) ∧ 182 + 2 = 184 := ⟨dcAll_e (i := 28) da_X7_placeOf_2 rfl, rfl⟩
theorem q_X7_placeOf_184 : decode M_X7_placeOf.2.1 184 = .ok (.iload 21, 2) ∧ 184 + 2 = 186 := ⟨dcAll_e (i := 29) da_X7_placeOf_2 rfl, rfl⟩
theorem q_X7_placeOf_186 : decode M_X7_placeOf.2.1 186 = .ok (.iload 4, 2) ∧ 186 + 2 = 188 := ⟨dcAll_e (i := 30) da_X7_placeOf_2 rfl, rfl⟩
theorem q_X7_placeOf_188 : decode M_X7_placeOf.2.1 188 = .ok (.if_icmp .ge 92, 3) ∧ 188 + 3 = 191 ∧ ((188 : Nat) : Int) + 92 = ((280 : Nat) : Int) := ⟨dcAll_e (i := 31) da_X7_placeOf_2 rfl, rfl, rfl⟩
theorem q_X7_placeOf_191 : decode M_X7_placeOf.2.1 191 = .ok (.aload_n 0, 1) ∧ 191 + 1 = 192 := ⟨dcAll_e (i := 32) da_X7_placeOf_2 rfl, rfl⟩
theorem q_X7_placeOf_192 : decode M_X7_placeOf.2.1 192 = .ok (.getfield 8, 3) ∧ 192 + 3 = 195 := ⟨dcAll_e (i := 33) da_X7_placeOf_2 rfl, rfl⟩
theorem q_X7_placeOf_195 : decode M_X7_placeOf.2.1 195 = .ok (.iload 5, 2) ∧ 195 + 2 = 197 := ⟨dcAll_e (i := 34) da_X7_placeOf_2 rfl, rfl⟩
theorem q_X7_placeOf_197 : decode M_X7_placeOf.2.1 197 = .ok (.iload 21, 2) ∧ 197 + 2 = 199 := ⟨dcAll_e (i := 35) da_X7_placeOf_2 rfl, rfl⟩
theorem q_X7_placeOf_199 : decode M_X7_placeOf.2.1 199 = .ok (.iadd, 1) ∧ 199 + 1 = 200 := ⟨dcAll_e (i := 36) da_X7_placeOf_2 rfl, rfl⟩
theorem q_X7_placeOf_200 : decode M_X7_placeOf.2.1 200 = .ok (.iaload, 1) ∧ 200 + 1 = 201 := ⟨dcAll_e (i := 37) da_X7_placeOf_2 rfl, rfl⟩
theorem q_X7_placeOf_201 : decode M_X7_placeOf.2.1 201 = .ok (.i2l, 1) ∧ 201 + 1 = 202 := ⟨dcAll_e (i := 38) da_X7_placeOf_2 rfl, rfl⟩
theorem q_X7_placeOf_202 : decode M_X7_placeOf.2.1 202 = .ok (.lload 11, 2) ∧ 202 + 2 = 204 := ⟨dcAll_e (i := 39) da_X7_placeOf_2 rfl, rfl⟩
theorem q_X7_placeOf_204 : decode M_X7_placeOf.2.1 204 = .ok (.aload_n 0, 1) ∧ 204 + 1 = 205 := ⟨dcAll_e (i := 0) da_X7_placeOf_3 rfl, rfl⟩
theorem q_X7_placeOf_205 : decode M_X7_placeOf.2.1 205 = .ok (.getfield 8, 3) ∧ 205 + 3 = 208 := ⟨dcAll_e (i := 1) da_X7_placeOf_3 rfl, rfl⟩
theorem q_X7_placeOf_208 : decode M_X7_placeOf.2.1 208 = .ok (.iload 6, 2) ∧ 208 + 2 = 210 := ⟨dcAll_e (i := 2) da_X7_placeOf_3 rfl, rfl⟩
theorem q_X7_placeOf_210 : decode M_X7_placeOf.2.1 210 = .ok (.iload 21, 2) ∧ 210 + 2 = 212 := ⟨dcAll_e (i := 3) da_X7_placeOf_3 rfl, rfl⟩
theorem q_X7_placeOf_212 : decode M_X7_placeOf.2.1 212 = .ok (.iadd, 1) ∧ 212 + 1 = 213 := ⟨dcAll_e (i := 4) da_X7_placeOf_3 rfl, rfl⟩
theorem q_X7_placeOf_213 : decode M_X7_placeOf.2.1 213 = .ok (.iaload, 1) ∧ 213 + 1 = 214 := ⟨dcAll_e (i := 5) da_X7_placeOf_3 rfl, rfl⟩
theorem q_X7_placeOf_214 : decode M_X7_placeOf.2.1 214 = .ok (.i2l, 1) ∧ 214 + 1 = 215 := ⟨dcAll_e (i := 6) da_X7_placeOf_3 rfl, rfl⟩
theorem q_X7_placeOf_215 : decode M_X7_placeOf.2.1 215 = .ok (.lmul, 1) ∧ 215 + 1 = 216 := ⟨dcAll_e (i := 7) da_X7_placeOf_3 rfl, rfl⟩
theorem q_X7_placeOf_216 : decode M_X7_placeOf.2.1 216 = .ok (.lsub, 1) ∧ 216 + 1 = 217 := ⟨dcAll_e (i := 8) da_X7_placeOf_3 rfl, rfl⟩
theorem q_X7_placeOf_217 : decode M_X7_placeOf.2.1 217 = .ok (.lload 19, 2) ∧ 217 + 2 = 219 := ⟨dcAll_e (i := 9) da_X7_placeOf_3 rfl, rfl⟩
theorem q_X7_placeOf_219 : decode M_X7_placeOf.2.1 219 = .ok (.ladd, 1) ∧ 219 + 1 = 220 := ⟨dcAll_e (i := 10) da_X7_placeOf_3 rfl, rfl⟩
theorem q_X7_placeOf_220 : decode M_X7_placeOf.2.1 220 = .ok (.lstore 22, 2) ∧ 220 + 2 = 222 := ⟨dcAll_e (i := 11) da_X7_placeOf_3 rfl, rfl⟩
theorem q_X7_placeOf_222 : decode M_X7_placeOf.2.1 222 = .ok (.lload 22, 2) ∧ 222 + 2 = 224 := ⟨dcAll_e (i := 12) da_X7_placeOf_3 rfl, rfl⟩
theorem q_X7_placeOf_224 : decode M_X7_placeOf.2.1 224 = .ok (.ldc2_w 47, 3) ∧ 224 + 3 = 227 := ⟨dcAll_e (i := 13) da_X7_placeOf_3 rfl, rfl⟩
theorem q_X7_placeOf_227 : decode M_X7_placeOf.2.1 227 = .ok (.lrem, 1) ∧ 227 + 1 = 228 := ⟨dcAll_e (i := 14) da_X7_placeOf_3 rfl, rfl⟩
theorem q_X7_placeOf_228 : decode M_X7_placeOf.2.1 228 = .ok (.lstore 24, 2) ∧ 228 + 2 = 230 := ⟨dcAll_e (i := 15) da_X7_placeOf_3 rfl, rfl⟩
theorem q_X7_placeOf_230 : decode M_X7_placeOf.2.1 230 = .ok (.lload 24, 2) ∧ 230 + 2 = 232 := ⟨dcAll_e (i := 16) da_X7_placeOf_3 rfl, rfl⟩
theorem q_X7_placeOf_232 : decode M_X7_placeOf.2.1 232 = .ok (.lconst 0, 1) ∧ 232 + 1 = 233 := ⟨dcAll_e (i := 17) da_X7_placeOf_3 rfl, rfl⟩
theorem q_X7_placeOf_233 : decode M_X7_placeOf.2.1 233 = .ok (.lcmp, 1) ∧ 233 + 1 = 234 := ⟨dcAll_e (i := 18) da_X7_placeOf_3 rfl, rfl⟩
theorem q_X7_placeOf_234 : decode M_X7_placeOf.2.1 234 = .ok (.ifCond .ge 12, 3) ∧ 234 + 3 = 237 ∧ ((234 : Nat) : Int) + 12 = ((246 : Nat) : Int) := ⟨dcAll_e (i := 19) da_X7_placeOf_3 rfl, rfl, rfl⟩
theorem q_X7_placeOf_237 : decode M_X7_placeOf.2.1 237 = .ok (.lload 24, 2) ∧ 237 + 2 = 239 := ⟨dcAll_e (i := 20) da_X7_placeOf_3 rfl, rfl⟩
theorem q_X7_placeOf_239 : decode M_X7_placeOf.2.1 239 = .ok (.ldc2_w 47, 3) ∧ 239 + 3 = 242 := ⟨dcAll_e (i := 21) da_X7_placeOf_3 rfl, rfl⟩
theorem q_X7_placeOf_242 : decode M_X7_placeOf.2.1 242 = .ok (.ladd, 1) ∧ 242 + 1 = 243 := ⟨dcAll_e (i := 22) da_X7_placeOf_3 rfl, rfl⟩
theorem q_X7_placeOf_243 : decode M_X7_placeOf.2.1 243 = .ok (.goto 5, 3) ∧ 243 + 3 = 246 ∧ ((243 : Nat) : Int) + 5 = ((248 : Nat) : Int) := ⟨dcAll_e (i := 23) da_X7_placeOf_3 rfl, rfl, rfl⟩
theorem q_X7_placeOf_246 : decode M_X7_placeOf.2.1 246 = .ok (.lload 24, 2) ∧ 246 + 2 = 248 := ⟨dcAll_e (i := 24) da_X7_placeOf_3 rfl, rfl⟩
theorem q_X7_placeOf_248 : decode M_X7_placeOf.2.1 248 = .ok (.lstore 24, 2) ∧ 248 + 2 = 250 := ⟨dcAll_e (i := 25) da_X7_placeOf_3 rfl, rfl⟩
theorem q_X7_placeOf_250 : decode M_X7_placeOf.2.1 250 = .ok (.aload_n 0, 1) ∧ 250 + 1 = 251 := ⟨dcAll_e (i := 26) da_X7_placeOf_3 rfl, rfl⟩
theorem q_X7_placeOf_251 : decode M_X7_placeOf.2.1 251 = .ok (.getfield 8, 3) ∧ 251 + 3 = 254 := ⟨dcAll_e (i := 27) da_X7_placeOf_3 rfl, rfl⟩
theorem q_X7_placeOf_254 : decode M_X7_placeOf.2.1 254 = .ok (.iload 5, 2) ∧ 254 + 2 = 256 := ⟨dcAll_e (i := 28) da_X7_placeOf_3 rfl, rfl⟩
theorem q_X7_placeOf_256 : decode M_X7_placeOf.2.1 256 = .ok (.iload 21, 2) ∧ 256 + 2 = 258 := ⟨dcAll_e (i := 29) da_X7_placeOf_3 rfl, rfl⟩
theorem q_X7_placeOf_258 : decode M_X7_placeOf.2.1 258 = .ok (.iadd, 1) ∧ 258 + 1 = 259 := ⟨dcAll_e (i := 30) da_X7_placeOf_3 rfl, rfl⟩
theorem q_X7_placeOf_259 : decode M_X7_placeOf.2.1 259 = .ok (.lload 24, 2) ∧ 259 + 2 = 261 := ⟨dcAll_e (i := 31) da_X7_placeOf_3 rfl, rfl⟩
theorem q_X7_placeOf_261 : decode M_X7_placeOf.2.1 261 = .ok (.l2i, 1) ∧ 261 + 1 = 262 := ⟨dcAll_e (i := 32) da_X7_placeOf_3 rfl, rfl⟩
theorem q_X7_placeOf_262 : decode M_X7_placeOf.2.1 262 = .ok (.iastore, 1) ∧ 262 + 1 = 263 := ⟨dcAll_e (i := 33) da_X7_placeOf_3 rfl, rfl⟩
theorem q_X7_placeOf_263 : decode M_X7_placeOf.2.1 263 = .ok (.lload 22, 2) ∧ 263 + 2 = 265 := ⟨dcAll_e (i := 34) da_X7_placeOf_3 rfl, rfl⟩
theorem q_X7_placeOf_265 : decode M_X7_placeOf.2.1 265 = .ok (.lload 24, 2) ∧ 265 + 2 = 267 := ⟨dcAll_e (i := 35) da_X7_placeOf_3 rfl, rfl⟩
theorem q_X7_placeOf_267 : decode M_X7_placeOf.2.1 267 = .ok (.lsub, 1) ∧ 267 + 1 = 268 := ⟨dcAll_e (i := 36) da_X7_placeOf_3 rfl, rfl⟩
theorem q_X7_placeOf_268 : decode M_X7_placeOf.2.1 268 = .ok (.ldc2_w 47, 3) ∧ 268 + 3 = 271 := ⟨dcAll_e (i := 37) da_X7_placeOf_3 rfl, rfl⟩
theorem q_X7_placeOf_271 : decode M_X7_placeOf.2.1 271 = .ok (.ldiv, 1) ∧ 271 + 1 = 272 := ⟨dcAll_e (i := 38) da_X7_placeOf_3 rfl, rfl⟩
theorem q_X7_placeOf_272 : decode M_X7_placeOf.2.1 272 = .ok (.lstore 19, 2) ∧ 272 + 2 = 274 := ⟨dcAll_e (i := 39) da_X7_placeOf_3 rfl, rfl⟩
theorem q_X7_placeOf_274 : decode M_X7_placeOf.2.1 274 = .ok (.iinc 21 1, 3) ∧ 274 + 3 = 277 := ⟨dcAll_e (i := 0) da_X7_placeOf_4 rfl, rfl⟩
theorem q_X7_placeOf_277 : decode M_X7_placeOf.2.1 277 = .ok (.goto (-93), 3) ∧ 277 + 3 = 280 ∧ ((277 : Nat) : Int) + (-93) = ((184 : Nat) : Int) := ⟨dcAll_e (i := 1) da_X7_placeOf_4 rfl, rfl, rfl⟩
theorem q_X7_placeOf_280 : decode M_X7_placeOf.2.1 280 = .ok (.aload_n 0, 1) ∧ 280 + 1 = 281 := ⟨dcAll_e (i := 2) da_X7_placeOf_4 rfl, rfl⟩
theorem q_X7_placeOf_281 : decode M_X7_placeOf.2.1 281 = .ok (.getfield 8, 3) ∧ 281 + 3 = 284 := ⟨dcAll_e (i := 3) da_X7_placeOf_4 rfl, rfl⟩
theorem q_X7_placeOf_284 : decode M_X7_placeOf.2.1 284 = .ok (.iload 5, 2) ∧ 284 + 2 = 286 := ⟨dcAll_e (i := 4) da_X7_placeOf_4 rfl, rfl⟩
theorem q_X7_placeOf_286 : decode M_X7_placeOf.2.1 286 = .ok (.iload 4, 2) ∧ 286 + 2 = 288 := ⟨dcAll_e (i := 5) da_X7_placeOf_4 rfl, rfl⟩
theorem q_X7_placeOf_288 : decode M_X7_placeOf.2.1 288 = .ok (.iadd, 1) ∧ 288 + 1 = 289 := ⟨dcAll_e (i := 6) da_X7_placeOf_4 rfl, rfl⟩
theorem q_X7_placeOf_289 : decode M_X7_placeOf.2.1 289 = .ok (.iaload, 1) ∧ 289 + 1 = 290 := ⟨dcAll_e (i := 7) da_X7_placeOf_4 rfl, rfl⟩
theorem q_X7_placeOf_290 : decode M_X7_placeOf.2.1 290 = .ok (.i2l, 1) ∧ 290 + 1 = 291 := ⟨dcAll_e (i := 8) da_X7_placeOf_4 rfl, rfl⟩
theorem q_X7_placeOf_291 : decode M_X7_placeOf.2.1 291 = .ok (.lload 19, 2) ∧ 291 + 2 = 293 := ⟨dcAll_e (i := 9) da_X7_placeOf_4 rfl, rfl⟩
theorem q_X7_placeOf_293 : decode M_X7_placeOf.2.1 293 = .ok (.ladd, 1) ∧ 293 + 1 = 294 := ⟨dcAll_e (i := 10) da_X7_placeOf_4 rfl, rfl⟩
theorem q_X7_placeOf_294 : decode M_X7_placeOf.2.1 294 = .ok (.lstore 21, 2) ∧ 294 + 2 = 296 := ⟨dcAll_e (i := 11) da_X7_placeOf_4 rfl, rfl⟩
theorem q_X7_placeOf_296 : decode M_X7_placeOf.2.1 296 = .ok (.lload 21, 2) ∧ 296 + 2 = 298 := ⟨dcAll_e (i := 12) da_X7_placeOf_4 rfl, rfl⟩
theorem q_X7_placeOf_298 : decode M_X7_placeOf.2.1 298 = .ok (.lconst 0, 1) ∧ 298 + 1 = 299 := ⟨dcAll_e (i := 13) da_X7_placeOf_4 rfl, rfl⟩
theorem q_X7_placeOf_299 : decode M_X7_placeOf.2.1 299 = .ok (.lcmp, 1) ∧ 299 + 1 = 300 := ⟨dcAll_e (i := 14) da_X7_placeOf_4 rfl, rfl⟩
theorem q_X7_placeOf_300 : decode M_X7_placeOf.2.1 300 = .ok (.ifCond .ge 102, 3) ∧ 300 + 3 = 303 ∧ ((300 : Nat) : Int) + 102 = ((402 : Nat) : Int) := ⟨dcAll_e (i := 15) da_X7_placeOf_4 rfl, rfl, rfl⟩
theorem q_X7_placeOf_303 : decode M_X7_placeOf.2.1 303 = .ok (.lload 11, 2) ∧ 303 + 2 = 305 := ⟨dcAll_e (i := 16) da_X7_placeOf_4 rfl, rfl⟩
theorem q_X7_placeOf_305 : decode M_X7_placeOf.2.1 305 = .ok (.lconst 1, 1) ∧ 305 + 1 = 306 := ⟨dcAll_e (i := 17) da_X7_placeOf_4 rfl, rfl⟩
theorem q_X7_placeOf_306 : decode M_X7_placeOf.2.1 306 = .ok (.lsub, 1) ∧ 306 + 1 = 307 := ⟨dcAll_e (i := 18) da_X7_placeOf_4 rfl, rfl⟩
theorem q_X7_placeOf_307 : decode M_X7_placeOf.2.1 307 = .ok (.lstore 11, 2) ∧ 307 + 2 = 309 := ⟨dcAll_e (i := 19) da_X7_placeOf_4 rfl, rfl⟩
theorem q_X7_placeOf_309 : decode M_X7_placeOf.2.1 309 = .ok (.iconst 0, 1) ∧ 309 + 1 = 310 := ⟨dcAll_e (i := 20) da_X7_placeOf_4 rfl, rfl⟩
theorem q_X7_placeOf_310 : decode M_X7_placeOf.2.1 310 = .ok (.istore 23, 2) ∧ 310 + 2 = 312 := ⟨dcAll_e (i := 21) da_X7_placeOf_4 rfl, rfl⟩
theorem q_X7_placeOf_312 : decode M_X7_placeOf.2.1 312 = .ok (.iconst 0, 1) ∧ 312 + 1 = 313 := ⟨dcAll_e (i := 22) da_X7_placeOf_4 rfl, rfl⟩
theorem q_X7_placeOf_313 : decode M_X7_placeOf.2.1 313 = .ok (.istore 24, 2) ∧ 313 + 2 = 315 := ⟨dcAll_e (i := 23) da_X7_placeOf_4 rfl, rfl⟩
theorem q_X7_placeOf_315 : decode M_X7_placeOf.2.1 315 = .ok (.iload 24, 2) ∧ 315 + 2 = 317 := ⟨dcAll_e (i := 24) da_X7_placeOf_4 rfl, rfl⟩
theorem q_X7_placeOf_317 : decode M_X7_placeOf.2.1 317 = .ok (.iload 4, 2) ∧ 317 + 2 = 319 := ⟨dcAll_e (i := 25) da_X7_placeOf_4 rfl, rfl⟩
theorem q_X7_placeOf_319 : decode M_X7_placeOf.2.1 319 = .ok (.if_icmp .ge 75, 3) ∧ 319 + 3 = 322 ∧ ((319 : Nat) : Int) + 75 = ((394 : Nat) : Int) := ⟨dcAll_e (i := 26) da_X7_placeOf_4 rfl, rfl, rfl⟩
theorem q_X7_placeOf_322 : decode M_X7_placeOf.2.1 322 = .ok (.aload_n 0, 1) ∧ 322 + 1 = 323 := ⟨dcAll_e (i := 27) da_X7_placeOf_4 rfl, rfl⟩
theorem q_X7_placeOf_323 : decode M_X7_placeOf.2.1 323 = .ok (.getfield 8, 3) ∧ 323 + 3 = 326 := ⟨dcAll_e (i := 28) da_X7_placeOf_4 rfl, rfl⟩
theorem q_X7_placeOf_326 : decode M_X7_placeOf.2.1 326 = .ok (.iload 5, 2) ∧ 326 + 2 = 328 := ⟨dcAll_e (i := 29) da_X7_placeOf_4 rfl, rfl⟩
theorem q_X7_placeOf_328 : decode M_X7_placeOf.2.1 328 = .ok (.iload 24, 2) ∧ 328 + 2 = 330 := ⟨dcAll_e (i := 30) da_X7_placeOf_4 rfl, rfl⟩
theorem q_X7_placeOf_330 : decode M_X7_placeOf.2.1 330 = .ok (.iadd, 1) ∧ 330 + 1 = 331 := ⟨dcAll_e (i := 31) da_X7_placeOf_4 rfl, rfl⟩
theorem q_X7_placeOf_331 : decode M_X7_placeOf.2.1 331 = .ok (.iaload, 1) ∧ 331 + 1 = 332 := ⟨dcAll_e (i := 32) da_X7_placeOf_4 rfl, rfl⟩
theorem q_X7_placeOf_332 : decode M_X7_placeOf.2.1 332 = .ok (.aload_n 0, 1) ∧ 332 + 1 = 333 := ⟨dcAll_e (i := 33) da_X7_placeOf_4 rfl, rfl⟩
theorem q_X7_placeOf_333 : decode M_X7_placeOf.2.1 333 = .ok (.getfield 8, 3) ∧ 333 + 3 = 336 := ⟨dcAll_e (i := 34) da_X7_placeOf_4 rfl, rfl⟩
theorem q_X7_placeOf_336 : decode M_X7_placeOf.2.1 336 = .ok (.iload 6, 2) ∧ 336 + 2 = 338 := ⟨dcAll_e (i := 35) da_X7_placeOf_4 rfl, rfl⟩
theorem q_X7_placeOf_338 : decode M_X7_placeOf.2.1 338 = .ok (.iload 24, 2) ∧ 338 + 2 = 340 := ⟨dcAll_e (i := 36) da_X7_placeOf_4 rfl, rfl⟩
theorem q_X7_placeOf_340 : decode M_X7_placeOf.2.1 340 = .ok (.iadd, 1) ∧ 340 + 1 = 341 := ⟨dcAll_e (i := 37) da_X7_placeOf_4 rfl, rfl⟩
theorem q_X7_placeOf_341 : decode M_X7_placeOf.2.1 341 = .ok (.iaload, 1) ∧ 341 + 1 = 342 := ⟨dcAll_e (i := 38) da_X7_placeOf_4 rfl, rfl⟩
theorem q_X7_placeOf_342 : decode M_X7_placeOf.2.1 342 = .ok (.iadd, 1) ∧ 342 + 1 = 343 := ⟨dcAll_e (i := 39) da_X7_placeOf_4 rfl, rfl⟩
theorem q_X7_placeOf_343 : decode M_X7_placeOf.2.1 343 = .ok (.iload 23, 2) ∧ 343 + 2 = 345 := ⟨dcAll_e (i := 0) da_X7_placeOf_5 rfl, rfl⟩
theorem q_X7_placeOf_345 : decode M_X7_placeOf.2.1 345 = .ok (.iadd, 1) ∧ 345 + 1 = 346 := ⟨dcAll_e (i := 1) da_X7_placeOf_5 rfl, rfl⟩
theorem q_X7_placeOf_346 : decode M_X7_placeOf.2.1 346 = .ok (.istore 25, 2) ∧ 346 + 2 = 348 := ⟨dcAll_e (i := 2) da_X7_placeOf_5 rfl, rfl⟩
theorem q_X7_placeOf_348 : decode M_X7_placeOf.2.1 348 = .ok (.iload 25, 2) ∧ 348 + 2 = 350 := ⟨dcAll_e (i := 3) da_X7_placeOf_5 rfl, rfl⟩
theorem q_X7_placeOf_350 : decode M_X7_placeOf.2.1 350 = .ok (.ldc 65, 2) ∧ 350 + 2 = 352 := ⟨dcAll_e (i := 4) da_X7_placeOf_5 rfl, rfl⟩
theorem q_X7_placeOf_352 : decode M_X7_placeOf.2.1 352 = .ok (.if_icmp .lt 7, 3) ∧ 352 + 3 = 355 ∧ ((352 : Nat) : Int) + 7 = ((359 : Nat) : Int) := ⟨dcAll_e (i := 5) da_X7_placeOf_5 rfl, rfl, rfl⟩
theorem q_X7_placeOf_355 : decode M_X7_placeOf.2.1 355 = .ok (.iconst 1, 1) ∧ 355 + 1 = 356 := ⟨dcAll_e (i := 6) da_X7_placeOf_5 rfl, rfl⟩
theorem q_X7_placeOf_356 : decode M_X7_placeOf.2.1 356 = .ok (.goto 4, 3) ∧ 356 + 3 = 359 ∧ ((356 : Nat) : Int) + 4 = ((360 : Nat) : Int) := ⟨dcAll_e (i := 7) da_X7_placeOf_5 rfl, rfl, rfl⟩
theorem q_X7_placeOf_359 : decode M_X7_placeOf.2.1 359 = .ok (.iconst 0, 1) ∧ 359 + 1 = 360 := ⟨dcAll_e (i := 8) da_X7_placeOf_5 rfl, rfl⟩
theorem q_X7_placeOf_360 : decode M_X7_placeOf.2.1 360 = .ok (.istore 23, 2) ∧ 360 + 2 = 362 := ⟨dcAll_e (i := 9) da_X7_placeOf_5 rfl, rfl⟩
theorem q_X7_placeOf_362 : decode M_X7_placeOf.2.1 362 = .ok (.aload_n 0, 1) ∧ 362 + 1 = 363 := ⟨dcAll_e (i := 10) da_X7_placeOf_5 rfl, rfl⟩
theorem q_X7_placeOf_363 : decode M_X7_placeOf.2.1 363 = .ok (.getfield 8, 3) ∧ 363 + 3 = 366 := ⟨dcAll_e (i := 11) da_X7_placeOf_5 rfl, rfl⟩
theorem q_X7_placeOf_366 : decode M_X7_placeOf.2.1 366 = .ok (.iload 5, 2) ∧ 366 + 2 = 368 := ⟨dcAll_e (i := 12) da_X7_placeOf_5 rfl, rfl⟩
theorem q_X7_placeOf_368 : decode M_X7_placeOf.2.1 368 = .ok (.iload 24, 2) ∧ 368 + 2 = 370 := ⟨dcAll_e (i := 13) da_X7_placeOf_5 rfl, rfl⟩
theorem q_X7_placeOf_370 : decode M_X7_placeOf.2.1 370 = .ok (.iadd, 1) ∧ 370 + 1 = 371 := ⟨dcAll_e (i := 14) da_X7_placeOf_5 rfl, rfl⟩
theorem q_X7_placeOf_371 : decode M_X7_placeOf.2.1 371 = .ok (.iload 23, 2) ∧ 371 + 2 = 373 := ⟨dcAll_e (i := 15) da_X7_placeOf_5 rfl, rfl⟩
theorem q_X7_placeOf_373 : decode M_X7_placeOf.2.1 373 = .ok (.iconst 1, 1) ∧ 373 + 1 = 374 := ⟨dcAll_e (i := 16) da_X7_placeOf_5 rfl, rfl⟩
theorem q_X7_placeOf_374 : decode M_X7_placeOf.2.1 374 = .ok (.if_icmp .ne 11, 3) ∧ 374 + 3 = 377 ∧ ((374 : Nat) : Int) + 11 = ((385 : Nat) : Int) := ⟨dcAll_e (i := 17) da_X7_placeOf_5 rfl, rfl, rfl⟩
theorem q_X7_placeOf_377 : decode M_X7_placeOf.2.1 377 = .ok (.iload 25, 2) ∧ 377 + 2 = 379 := ⟨dcAll_e (i := 18) da_X7_placeOf_5 rfl, rfl⟩
theorem q_X7_placeOf_379 : decode M_X7_placeOf.2.1 379 = .ok (.ldc 65, 2) ∧ 379 + 2 = 381 := ⟨dcAll_e (i := 19) da_X7_placeOf_5 rfl, rfl⟩
theorem q_X7_placeOf_381 : decode M_X7_placeOf.2.1 381 = .ok (.isub, 1) ∧ 381 + 1 = 382 := ⟨dcAll_e (i := 20) da_X7_placeOf_5 rfl, rfl⟩
theorem q_X7_placeOf_382 : decode M_X7_placeOf.2.1 382 = .ok (.goto 5, 3) ∧ 382 + 3 = 385 ∧ ((382 : Nat) : Int) + 5 = ((387 : Nat) : Int) := ⟨dcAll_e (i := 21) da_X7_placeOf_5 rfl, rfl, rfl⟩
theorem q_X7_placeOf_385 : decode M_X7_placeOf.2.1 385 = .ok (.iload 25, 2) ∧ 385 + 2 = 387 := ⟨dcAll_e (i := 22) da_X7_placeOf_5 rfl, rfl⟩
theorem q_X7_placeOf_387 : decode M_X7_placeOf.2.1 387 = .ok (.iastore, 1) ∧ 387 + 1 = 388 := ⟨dcAll_e (i := 23) da_X7_placeOf_5 rfl, rfl⟩
theorem q_X7_placeOf_388 : decode M_X7_placeOf.2.1 388 = .ok (.iinc 24 1, 3) ∧ 388 + 3 = 391 := ⟨dcAll_e (i := 24) da_X7_placeOf_5 rfl, rfl⟩
theorem q_X7_placeOf_391 : decode M_X7_placeOf.2.1 391 = .ok (.goto (-76), 3) ∧ 391 + 3 = 394 ∧ ((391 : Nat) : Int) + (-76) = ((315 : Nat) : Int) := ⟨dcAll_e (i := 25) da_X7_placeOf_5 rfl, rfl, rfl⟩
theorem q_X7_placeOf_394 : decode M_X7_placeOf.2.1 394 = .ok (.lload 21, 2) ∧ 394 + 2 = 396 := ⟨dcAll_e (i := 26) da_X7_placeOf_5 rfl, rfl⟩
theorem q_X7_placeOf_396 : decode M_X7_placeOf.2.1 396 = .ok (.iload 23, 2) ∧ 396 + 2 = 398 := ⟨dcAll_e (i := 27) da_X7_placeOf_5 rfl, rfl⟩
theorem q_X7_placeOf_398 : decode M_X7_placeOf.2.1 398 = .ok (.i2l, 1) ∧ 398 + 1 = 399 := ⟨dcAll_e (i := 28) da_X7_placeOf_5 rfl, rfl⟩
theorem q_X7_placeOf_399 : decode M_X7_placeOf.2.1 399 = .ok (.ladd, 1) ∧ 399 + 1 = 400 := ⟨dcAll_e (i := 29) da_X7_placeOf_5 rfl, rfl⟩
theorem q_X7_placeOf_400 : decode M_X7_placeOf.2.1 400 = .ok (.lstore 21, 2) ∧ 400 + 2 = 402 := ⟨dcAll_e (i := 30) da_X7_placeOf_5 rfl, rfl⟩
theorem q_X7_placeOf_402 : decode M_X7_placeOf.2.1 402 = .ok (.aload_n 0, 1) ∧ 402 + 1 = 403 := ⟨dcAll_e (i := 31) da_X7_placeOf_5 rfl, rfl⟩
theorem q_X7_placeOf_403 : decode M_X7_placeOf.2.1 403 = .ok (.getfield 8, 3) ∧ 403 + 3 = 406 := ⟨dcAll_e (i := 32) da_X7_placeOf_5 rfl, rfl⟩
theorem q_X7_placeOf_406 : decode M_X7_placeOf.2.1 406 = .ok (.iload 5, 2) ∧ 406 + 2 = 408 := ⟨dcAll_e (i := 33) da_X7_placeOf_5 rfl, rfl⟩
theorem q_X7_placeOf_408 : decode M_X7_placeOf.2.1 408 = .ok (.iload 4, 2) ∧ 408 + 2 = 410 := ⟨dcAll_e (i := 34) da_X7_placeOf_5 rfl, rfl⟩
theorem q_X7_placeOf_410 : decode M_X7_placeOf.2.1 410 = .ok (.iadd, 1) ∧ 410 + 1 = 411 := ⟨dcAll_e (i := 35) da_X7_placeOf_5 rfl, rfl⟩
theorem q_X7_placeOf_411 : decode M_X7_placeOf.2.1 411 = .ok (.lload 21, 2) ∧ 411 + 2 = 413 := ⟨dcAll_e (i := 36) da_X7_placeOf_5 rfl, rfl⟩
theorem q_X7_placeOf_413 : decode M_X7_placeOf.2.1 413 = .ok (.l2i, 1) ∧ 413 + 1 = 414 := ⟨dcAll_e (i := 37) da_X7_placeOf_5 rfl, rfl⟩
theorem q_X7_placeOf_414 : decode M_X7_placeOf.2.1 414 = .ok (.iastore, 1) ∧ 414 + 1 = 415 := ⟨dcAll_e (i := 38) da_X7_placeOf_5 rfl, rfl⟩
theorem q_X7_placeOf_415 : decode M_X7_placeOf.2.1 415 = .ok (.lload 11, 2) ∧ 415 + 2 = 417 := ⟨dcAll_e (i := 39) da_X7_placeOf_5 rfl, rfl⟩
theorem q_X7_placeOf_417 : decode M_X7_placeOf.2.1 417 = .ok (.l2i, 1) ∧ 417 + 1 = 418 := ⟨dcAll_e (i := 0) da_X7_placeOf_6 rfl, rfl⟩
theorem q_X7_placeOf_418 : decode M_X7_placeOf.2.1 418 = .ok (.ireturn, 1) ∧ 418 + 1 = 419 := ⟨dcAll_e (i := 1) da_X7_placeOf_6 rfl, rfl⟩
def dl_X7_rounded_0 : List (Nat × Instr × Nat) := [(0, .aload_n 0, 1), (1, .getfield 17, 3), (4, .iload_n 2, 1), (5, .iaload, 1), (6, .aload_n 0, 1), (7, .getfield 17, 3), (10, .iload_n 3, 1), (11, .iaload, 1), (12, .imul, 1), (13, .istore 5, 2), (15, .aload_n 0, 1), (16, .iload_n 2, 1), (17, .bipush 9, 2), (19, .invokevirtual 53, 3), (22, .aload_n 0, 1), (23, .iload_n 3, 1), (24, .bipush 10, 2), (26, .invokevirtual 53, 3), (29, .aload_n 0, 1), (30, .iload_n 1, 1), (31, .bipush 9, 2), (33, .bipush 10, 2), (35, .invokevirtual 81, 3), (38, .aload_n 0, 1), (39, .getfield 17, 3), (42, .bipush 9, 2), (44, .iaload, 1), (45, .ifCond .ne 7, 3), (48, .iconst 1, 1), (49, .goto 4, 3), (52, .iconst 0, 1), (53, .istore 6, 2), (55, .aload_n 0, 1), (56, .getfield 17, 3), (59, .iload_n 1, 1), (60, .aload_n 0, 1), (61, .getfield 17, 3), (64, .iload_n 1, 1), (65, .iaload, 1), (66, .ifCond .ne 7, 3)]
theorem da_X7_rounded_0 : dcAll M_X7_rounded.2.1 dl_X7_rounded_0 = true := by decide +kernel
def dl_X7_rounded_1 : List (Nat × Instr × Nat) := [(69, .iconst 0, 1), (70, .goto 5, 3), (73, .iload 5, 2), (75, .iastore, 1), (76, .iload 6, 2), (78, .ifCond .ne 29, 3), (81, .iload 4, 2), (83, .ifCond .eq 24, 3), (86, .iload 5, 2), (88, .ifCond .le 19, 3), (91, .aload_n 0, 1), (92, .bipush 10, 2), (94, .lconst 1, 1), (95, .invokevirtual 84, 3), (98, .aload_n 0, 1), (99, .iload_n 1, 1), (100, .iload_n 1, 1), (101, .bipush 10, 2), (103, .iconst 1, 1), (104, .invokevirtual 87, 3), (107, .iload 6, 2), (109, .ifCond .ne 29, 3), (112, .iload 4, 2), (114, .ifCond .ne 24, 3), (117, .iload 5, 2), (119, .ifCond .ge 19, 3), (122, .aload_n 0, 1), (123, .bipush 10, 2), (125, .lconst 1, 1), (126, .invokevirtual 84, 3), (129, .aload_n 0, 1), (130, .iload_n 1, 1), (131, .iload_n 1, 1), (132, .bipush 10, 2), (134, .iconst (-1), 1), (135, .invokevirtual 87, 3), (138, .return_, 1)]
theorem da_X7_rounded_1 : dcAll M_X7_rounded.2.1 dl_X7_rounded_1 = true := by decide +kernel
theorem q_X7_rounded_0 : decode M_X7_rounded.2.1 0 = .ok (.aload_n 0, 1) ∧ 0 + 1 = 1 := ⟨dcAll_e (i := 0) da_X7_rounded_0 rfl, rfl⟩
theorem q_X7_rounded_1 : decode M_X7_rounded.2.1 1 = .ok (.getfield 17, 3) ∧ 1 + 3 = 4 := ⟨dcAll_e (i := 1) da_X7_rounded_0 rfl, rfl⟩
theorem q_X7_rounded_4 : decode M_X7_rounded.2.1 4 = .ok (.iload_n 2, 1) ∧ 4 + 1 = 5 := ⟨dcAll_e (i := 2) da_X7_rounded_0 rfl, rfl⟩
theorem q_X7_rounded_5 : decode M_X7_rounded.2.1 5 = .ok (.iaload, 1) ∧ 5 + 1 = 6 := ⟨dcAll_e (i := 3) da_X7_rounded_0 rfl, rfl⟩
theorem q_X7_rounded_6 : decode M_X7_rounded.2.1 6 = .ok (.aload_n 0, 1) ∧ 6 + 1 = 7 := ⟨dcAll_e (i := 4) da_X7_rounded_0 rfl, rfl⟩
theorem q_X7_rounded_7 : decode M_X7_rounded.2.1 7 = .ok (.getfield 17, 3) ∧ 7 + 3 = 10 := ⟨dcAll_e (i := 5) da_X7_rounded_0 rfl, rfl⟩
theorem q_X7_rounded_10 : decode M_X7_rounded.2.1 10 = .ok (.iload_n 3, 1) ∧ 10 + 1 = 11 := ⟨dcAll_e (i := 6) da_X7_rounded_0 rfl, rfl⟩
theorem q_X7_rounded_11 : decode M_X7_rounded.2.1 11 = .ok (.iaload, 1) ∧ 11 + 1 = 12 := ⟨dcAll_e (i := 7) da_X7_rounded_0 rfl, rfl⟩
theorem q_X7_rounded_12 : decode M_X7_rounded.2.1 12 = .ok (.imul, 1) ∧ 12 + 1 = 13 := ⟨dcAll_e (i := 8) da_X7_rounded_0 rfl, rfl⟩
theorem q_X7_rounded_13 : decode M_X7_rounded.2.1 13 = .ok (.istore 5, 2) ∧ 13 + 2 = 15 := ⟨dcAll_e (i := 9) da_X7_rounded_0 rfl, rfl⟩
theorem q_X7_rounded_15 : decode M_X7_rounded.2.1 15 = .ok (.aload_n 0, 1) ∧ 15 + 1 = 16 := ⟨dcAll_e (i := 10) da_X7_rounded_0 rfl, rfl⟩
theorem q_X7_rounded_16 : decode M_X7_rounded.2.1 16 = .ok (.iload_n 2, 1) ∧ 16 + 1 = 17 := ⟨dcAll_e (i := 11) da_X7_rounded_0 rfl, rfl⟩
theorem q_X7_rounded_17 : decode M_X7_rounded.2.1 17 = .ok (.bipush 9, 2) ∧ 17 + 2 = 19 := ⟨dcAll_e (i := 12) da_X7_rounded_0 rfl, rfl⟩
theorem q_X7_rounded_19 : decode M_X7_rounded.2.1 19 = .ok (.invokevirtual 53, 3) ∧ 19 + 3 = 22 := ⟨dcAll_e (i := 13) da_X7_rounded_0 rfl, rfl⟩
theorem g_X7_rounded_19 : en_C M_X7_rounded M_X7_copyTo 53 2 := ⟨⟨inT4 58 rfl rfl, in_X7, cd_X7_copyTo⟩, ⟨by decide, by decide, by decide +kernel⟩, by decide, by decide⟩
theorem q_X7_rounded_22 : decode M_X7_rounded.2.1 22 = .ok (.aload_n 0, 1) ∧ 22 + 1 = 23 := ⟨dcAll_e (i := 14) da_X7_rounded_0 rfl, rfl⟩
theorem q_X7_rounded_23 : decode M_X7_rounded.2.1 23 = .ok (.iload_n 3, 1) ∧ 23 + 1 = 24 := ⟨dcAll_e (i := 15) da_X7_rounded_0 rfl, rfl⟩
theorem q_X7_rounded_24 : decode M_X7_rounded.2.1 24 = .ok (.bipush 10, 2) ∧ 24 + 2 = 26 := ⟨dcAll_e (i := 16) da_X7_rounded_0 rfl, rfl⟩
theorem q_X7_rounded_26 : decode M_X7_rounded.2.1 26 = .ok (.invokevirtual 53, 3) ∧ 26 + 3 = 29 := ⟨dcAll_e (i := 17) da_X7_rounded_0 rfl, rfl⟩
theorem g_X7_rounded_26 : en_C M_X7_rounded M_X7_copyTo 53 2 := ⟨⟨inT4 58 rfl rfl, in_X7, cd_X7_copyTo⟩, ⟨by decide, by decide, by decide +kernel⟩, by decide, by decide⟩
theorem q_X7_rounded_29 : decode M_X7_rounded.2.1 29 = .ok (.aload_n 0, 1) ∧ 29 + 1 = 30 := ⟨dcAll_e (i := 18) da_X7_rounded_0 rfl, rfl⟩
theorem q_X7_rounded_30 : decode M_X7_rounded.2.1 30 = .ok (.iload_n 1, 1) ∧ 30 + 1 = 31 := ⟨dcAll_e (i := 19) da_X7_rounded_0 rfl, rfl⟩
theorem q_X7_rounded_31 : decode M_X7_rounded.2.1 31 = .ok (.bipush 9, 2) ∧ 31 + 2 = 33 := ⟨dcAll_e (i := 20) da_X7_rounded_0 rfl, rfl⟩
theorem q_X7_rounded_33 : decode M_X7_rounded.2.1 33 = .ok (.bipush 10, 2) ∧ 33 + 2 = 35 := ⟨dcAll_e (i := 21) da_X7_rounded_0 rfl, rfl⟩
theorem q_X7_rounded_35 : decode M_X7_rounded.2.1 35 = .ok (.invokevirtual 81, 3) ∧ 35 + 3 = 38 := ⟨dcAll_e (i := 22) da_X7_rounded_0 rfl, rfl⟩
theorem cd_X7_divide : Cond.code M_X7_divide.1 M_X7_divide.2.1 M_X7_divide.2.2.1 M_X7_divide.2.2.2.1 ∈ en_tbl := inT4 69 rfl rfl
theorem g_X7_rounded_35 : en_C M_X7_rounded M_X7_divide 81 3 := ⟨⟨inT4 66 rfl rfl, in_X7, cd_X7_divide⟩, ⟨by decide, by decide, by decide +kernel⟩, by decide, by decide⟩
theorem w_X7_divide : Cond.instanceMethod M_X7_divide.1 ∈ en_tbl ∧ Cond.selects M_X7_divide.1.cls M_X7_divide.1 M_X7_divide.1 ∈ en_tbl := ⟨inT4 68 rfl rfl, by decide +kernel⟩
theorem q_X7_rounded_38 : decode M_X7_rounded.2.1 38 = .ok (.aload_n 0, 1) ∧ 38 + 1 = 39 := ⟨dcAll_e (i := 23) da_X7_rounded_0 rfl, rfl⟩
theorem q_X7_rounded_39 : decode M_X7_rounded.2.1 39 = .ok (.getfield 17, 3) ∧ 39 + 3 = 42 := ⟨dcAll_e (i := 24) da_X7_rounded_0 rfl, rfl⟩
theorem q_X7_rounded_42 : decode M_X7_rounded.2.1 42 = .ok (.bipush 9, 2) ∧ 42 + 2 = 44 := ⟨dcAll_e (i := 25) da_X7_rounded_0 rfl, rfl⟩
theorem q_X7_rounded_44 : decode M_X7_rounded.2.1 44 = .ok (.iaload, 1) ∧ 44 + 1 = 45 := ⟨dcAll_e (i := 26) da_X7_rounded_0 rfl, rfl⟩
theorem q_X7_rounded_45 : decode M_X7_rounded.2.1 45 = .ok (.ifCond .ne 7, 3) ∧ 45 + 3 = 48 ∧ ((45 : Nat) : Int) + 7 = ((52 : Nat) : Int) := ⟨dcAll_e (i := 27) da_X7_rounded_0 rfl, rfl, rfl⟩
theorem q_X7_rounded_48 : decode M_X7_rounded.2.1 48 = .ok (.iconst 1, 1) ∧ 48 + 1 = 49 := ⟨dcAll_e (i := 28) da_X7_rounded_0 rfl, rfl⟩
theorem q_X7_rounded_49 : decode M_X7_rounded.2.1 49 = .ok (.goto 4, 3) ∧ 49 + 3 = 52 ∧ ((49 : Nat) : Int) + 4 = ((53 : Nat) : Int) := ⟨dcAll_e (i := 29) da_X7_rounded_0 rfl, rfl, rfl⟩
theorem q_X7_rounded_52 : decode M_X7_rounded.2.1 52 = .ok (.iconst 0, 1) ∧ 52 + 1 = 53 := ⟨dcAll_e (i := 30) da_X7_rounded_0 rfl, rfl⟩
theorem q_X7_rounded_53 : decode M_X7_rounded.2.1 53 = .ok (.istore 6, 2) ∧ 53 + 2 = 55 := ⟨dcAll_e (i := 31) da_X7_rounded_0 rfl, rfl⟩
theorem q_X7_rounded_55 : decode M_X7_rounded.2.1 55 = .ok (.aload_n 0, 1) ∧ 55 + 1 = 56 := ⟨dcAll_e (i := 32) da_X7_rounded_0 rfl, rfl⟩
theorem q_X7_rounded_56 : decode M_X7_rounded.2.1 56 = .ok (.getfield 17, 3) ∧ 56 + 3 = 59 := ⟨dcAll_e (i := 33) da_X7_rounded_0 rfl, rfl⟩
theorem q_X7_rounded_59 : decode M_X7_rounded.2.1 59 = .ok (.iload_n 1, 1) ∧ 59 + 1 = 60 := ⟨dcAll_e (i := 34) da_X7_rounded_0 rfl, rfl⟩
theorem q_X7_rounded_60 : decode M_X7_rounded.2.1 60 = .ok (.aload_n 0, 1) ∧ 60 + 1 = 61 := ⟨dcAll_e (i := 35) da_X7_rounded_0 rfl, rfl⟩
theorem q_X7_rounded_61 : decode M_X7_rounded.2.1 61 = .ok (.getfield 17, 3) ∧ 61 + 3 = 64 := ⟨dcAll_e (i := 36) da_X7_rounded_0 rfl, rfl⟩
theorem q_X7_rounded_64 : decode M_X7_rounded.2.1 64 = .ok (.iload_n 1, 1) ∧ 64 + 1 = 65 := ⟨dcAll_e (i := 37) da_X7_rounded_0 rfl, rfl⟩
theorem q_X7_rounded_65 : decode M_X7_rounded.2.1 65 = .ok (.iaload, 1) ∧ 65 + 1 = 66 := ⟨dcAll_e (i := 38) da_X7_rounded_0 rfl, rfl⟩
theorem q_X7_rounded_66 : decode M_X7_rounded.2.1 66 = .ok (.ifCond .ne 7, 3) ∧ 66 + 3 = 69 ∧ ((66 : Nat) : Int) + 7 = ((73 : Nat) : Int) := ⟨dcAll_e (i := 39) da_X7_rounded_0 rfl, rfl, rfl⟩
theorem q_X7_rounded_69 : decode M_X7_rounded.2.1 69 = .ok (.iconst 0, 1) ∧ 69 + 1 = 70 := ⟨dcAll_e (i := 0) da_X7_rounded_1 rfl, rfl⟩
theorem q_X7_rounded_70 : decode M_X7_rounded.2.1 70 = .ok (.goto 5, 3) ∧ 70 + 3 = 73 ∧ ((70 : Nat) : Int) + 5 = ((75 : Nat) : Int) := ⟨dcAll_e (i := 1) da_X7_rounded_1 rfl, rfl, rfl⟩
theorem q_X7_rounded_73 : decode M_X7_rounded.2.1 73 = .ok (.iload 5, 2) ∧ 73 + 2 = 75 := ⟨dcAll_e (i := 2) da_X7_rounded_1 rfl, rfl⟩
theorem q_X7_rounded_75 : decode M_X7_rounded.2.1 75 = .ok (.iastore, 1) ∧ 75 + 1 = 76 := ⟨dcAll_e (i := 3) da_X7_rounded_1 rfl, rfl⟩
theorem q_X7_rounded_76 : decode M_X7_rounded.2.1 76 = .ok (.iload 6, 2) ∧ 76 + 2 = 78 := ⟨dcAll_e (i := 4) da_X7_rounded_1 rfl, rfl⟩
theorem q_X7_rounded_78 : decode M_X7_rounded.2.1 78 = .ok (.ifCond .ne 29, 3) ∧ 78 + 3 = 81 ∧ ((78 : Nat) : Int) + 29 = ((107 : Nat) : Int) := ⟨dcAll_e (i := 5) da_X7_rounded_1 rfl, rfl, rfl⟩
theorem q_X7_rounded_81 : decode M_X7_rounded.2.1 81 = .ok (.iload 4, 2) ∧ 81 + 2 = 83 := ⟨dcAll_e (i := 6) da_X7_rounded_1 rfl, rfl⟩
theorem q_X7_rounded_83 : decode M_X7_rounded.2.1 83 = .ok (.ifCond .eq 24, 3) ∧ 83 + 3 = 86 ∧ ((83 : Nat) : Int) + 24 = ((107 : Nat) : Int) := ⟨dcAll_e (i := 7) da_X7_rounded_1 rfl, rfl, rfl⟩
theorem q_X7_rounded_86 : decode M_X7_rounded.2.1 86 = .ok (.iload 5, 2) ∧ 86 + 2 = 88 := ⟨dcAll_e (i := 8) da_X7_rounded_1 rfl, rfl⟩
theorem q_X7_rounded_88 : decode M_X7_rounded.2.1 88 = .ok (.ifCond .le 19, 3) ∧ 88 + 3 = 91 ∧ ((88 : Nat) : Int) + 19 = ((107 : Nat) : Int) := ⟨dcAll_e (i := 9) da_X7_rounded_1 rfl, rfl, rfl⟩
theorem q_X7_rounded_91 : decode M_X7_rounded.2.1 91 = .ok (.aload_n 0, 1) ∧ 91 + 1 = 92 := ⟨dcAll_e (i := 10) da_X7_rounded_1 rfl, rfl⟩
theorem q_X7_rounded_92 : decode M_X7_rounded.2.1 92 = .ok (.bipush 10, 2) ∧ 92 + 2 = 94 := ⟨dcAll_e (i := 11) da_X7_rounded_1 rfl, rfl⟩
theorem q_X7_rounded_94 : decode M_X7_rounded.2.1 94 = .ok (.lconst 1, 1) ∧ 94 + 1 = 95 := ⟨dcAll_e (i := 12) da_X7_rounded_1 rfl, rfl⟩
theorem q_X7_rounded_95 : decode M_X7_rounded.2.1 95 = .ok (.invokevirtual 84, 3) ∧ 95 + 3 = 98 := ⟨dcAll_e (i := 13) da_X7_rounded_1 rfl, rfl⟩
theorem cd_X7_setTo : Cond.code M_X7_setTo.1 M_X7_setTo.2.1 M_X7_setTo.2.2.1 M_X7_setTo.2.2.2.1 ∈ en_tbl := inT4 48 rfl rfl
theorem g_X7_rounded_95 : en_C M_X7_rounded M_X7_setTo 84 2 := ⟨⟨inT4 45 rfl rfl, in_X7, cd_X7_setTo⟩, ⟨by decide, by decide, by decide +kernel⟩, by decide, by decide⟩
theorem w_X7_setTo : Cond.instanceMethod M_X7_setTo.1 ∈ en_tbl ∧ Cond.selects M_X7_setTo.1.cls M_X7_setTo.1 M_X7_setTo.1 ∈ en_tbl := ⟨inT4 47 rfl rfl, by decide +kernel⟩
theorem q_X7_rounded_98 : decode M_X7_rounded.2.1 98 = .ok (.aload_n 0, 1) ∧ 98 + 1 = 99 := ⟨dcAll_e (i := 14) da_X7_rounded_1 rfl, rfl⟩
theorem q_X7_rounded_99 : decode M_X7_rounded.2.1 99 = .ok (.iload_n 1, 1) ∧ 99 + 1 = 100 := ⟨dcAll_e (i := 15) da_X7_rounded_1 rfl, rfl⟩
theorem q_X7_rounded_100 : decode M_X7_rounded.2.1 100 = .ok (.iload_n 1, 1) ∧ 100 + 1 = 101 := ⟨dcAll_e (i := 16) da_X7_rounded_1 rfl, rfl⟩
theorem q_X7_rounded_101 : decode M_X7_rounded.2.1 101 = .ok (.bipush 10, 2) ∧ 101 + 2 = 103 := ⟨dcAll_e (i := 17) da_X7_rounded_1 rfl, rfl⟩
theorem q_X7_rounded_103 : decode M_X7_rounded.2.1 103 = .ok (.iconst 1, 1) ∧ 103 + 1 = 104 := ⟨dcAll_e (i := 18) da_X7_rounded_1 rfl, rfl⟩
theorem q_X7_rounded_104 : decode M_X7_rounded.2.1 104 = .ok (.invokevirtual 87, 3) ∧ 104 + 3 = 107 := ⟨dcAll_e (i := 19) da_X7_rounded_1 rfl, rfl⟩
theorem cd_X7_addTo : Cond.code M_X7_addTo.1 M_X7_addTo.2.1 M_X7_addTo.2.2.1 M_X7_addTo.2.2.2.1 ∈ en_tbl := inT4 90 rfl rfl
theorem g_X7_rounded_104 : en_C M_X7_rounded M_X7_addTo 87 4 := ⟨⟨inT4 87 rfl rfl, in_X7, cd_X7_addTo⟩, ⟨by decide, by decide, by decide +kernel⟩, by decide, by decide⟩
theorem w_X7_addTo : Cond.instanceMethod M_X7_addTo.1 ∈ en_tbl ∧ Cond.selects M_X7_addTo.1.cls M_X7_addTo.1 M_X7_addTo.1 ∈ en_tbl := ⟨inT4 89 rfl rfl, by decide +kernel⟩
theorem q_X7_rounded_107 : decode M_X7_rounded.2.1 107 = .ok (.iload 6, 2) ∧ 107 + 2 = 109 := ⟨dcAll_e (i := 20) da_X7_rounded_1 rfl, rfl⟩
theorem q_X7_rounded_109 : decode M_X7_rounded.2.1 109 = .ok (.ifCond .ne 29, 3) ∧ 109 + 3 = 112 ∧ ((109 : Nat) : Int) + 29 = ((138 : Nat) : Int) := ⟨dcAll_e (i := 21) da_X7_rounded_1 rfl, rfl, rfl⟩
theorem q_X7_rounded_112 : decode M_X7_rounded.2.1 112 = .ok (.iload 4, 2) ∧ 112 + 2 = 114 := ⟨dcAll_e (i := 22) da_X7_rounded_1 rfl, rfl⟩
theorem q_X7_rounded_114 : decode M_X7_rounded.2.1 114 = .ok (.ifCond .ne 24, 3) ∧ 114 + 3 = 117 ∧ ((114 : Nat) : Int) + 24 = ((138 : Nat) : Int) := ⟨dcAll_e (i := 23) da_X7_rounded_1 rfl, rfl, rfl⟩
theorem q_X7_rounded_117 : decode M_X7_rounded.2.1 117 = .ok (.iload 5, 2) ∧ 117 + 2 = 119 := ⟨dcAll_e (i := 24) da_X7_rounded_1 rfl, rfl⟩
theorem q_X7_rounded_119 : decode M_X7_rounded.2.1 119 = .ok (.ifCond .ge 19, 3) ∧ 119 + 3 = 122 ∧ ((119 : Nat) : Int) + 19 = ((138 : Nat) : Int) := ⟨dcAll_e (i := 25) da_X7_rounded_1 rfl, rfl, rfl⟩
theorem q_X7_rounded_122 : decode M_X7_rounded.2.1 122 = .ok (.aload_n 0, 1) ∧ 122 + 1 = 123 := ⟨dcAll_e (i := 26) da_X7_rounded_1 rfl, rfl⟩
theorem q_X7_rounded_123 : decode M_X7_rounded.2.1 123 = .ok (.bipush 10, 2) ∧ 123 + 2 = 125 := ⟨dcAll_e (i := 27) da_X7_rounded_1 rfl, rfl⟩
theorem q_X7_rounded_125 : decode M_X7_rounded.2.1 125 = .ok (.lconst 1, 1) ∧ 125 + 1 = 126 := ⟨dcAll_e (i := 28) da_X7_rounded_1 rfl, rfl⟩
theorem q_X7_rounded_126 : decode M_X7_rounded.2.1 126 = .ok (.invokevirtual 84, 3) ∧ 126 + 3 = 129 := ⟨dcAll_e (i := 29) da_X7_rounded_1 rfl, rfl⟩
theorem g_X7_rounded_126 : en_C M_X7_rounded M_X7_setTo 84 2 := ⟨⟨inT4 45 rfl rfl, in_X7, cd_X7_setTo⟩, ⟨by decide, by decide, by decide +kernel⟩, by decide, by decide⟩
theorem q_X7_rounded_129 : decode M_X7_rounded.2.1 129 = .ok (.aload_n 0, 1) ∧ 129 + 1 = 130 := ⟨dcAll_e (i := 30) da_X7_rounded_1 rfl, rfl⟩
theorem q_X7_rounded_130 : decode M_X7_rounded.2.1 130 = .ok (.iload_n 1, 1) ∧ 130 + 1 = 131 := ⟨dcAll_e (i := 31) da_X7_rounded_1 rfl, rfl⟩
theorem q_X7_rounded_131 : decode M_X7_rounded.2.1 131 = .ok (.iload_n 1, 1) ∧ 131 + 1 = 132 := ⟨dcAll_e (i := 32) da_X7_rounded_1 rfl, rfl⟩
theorem q_X7_rounded_132 : decode M_X7_rounded.2.1 132 = .ok (.bipush 10, 2) ∧ 132 + 2 = 134 := ⟨dcAll_e (i := 33) da_X7_rounded_1 rfl, rfl⟩
theorem q_X7_rounded_134 : decode M_X7_rounded.2.1 134 = .ok (.iconst (-1), 1) ∧ 134 + 1 = 135 := ⟨dcAll_e (i := 34) da_X7_rounded_1 rfl, rfl⟩
theorem q_X7_rounded_135 : decode M_X7_rounded.2.1 135 = .ok (.invokevirtual 87, 3) ∧ 135 + 3 = 138 := ⟨dcAll_e (i := 35) da_X7_rounded_1 rfl, rfl⟩
theorem g_X7_rounded_135 : en_C M_X7_rounded M_X7_addTo 87 4 := ⟨⟨inT4 87 rfl rfl, in_X7, cd_X7_addTo⟩, ⟨by decide, by decide, by decide +kernel⟩, by decide, by decide⟩
theorem q_X7_rounded_138 : decode M_X7_rounded.2.1 138 = .ok (.return_, 1) ∧ 138 + 1 = 139 := ⟨dcAll_e (i := 36) da_X7_rounded_1 rfl, rfl⟩
def dl_X7_powerOfTen_0 : List (Nat × Instr × Nat) := [(0, .aload_n 0, 1), (1, .getfield 14, 3), (4, .iload_n 1, 1), (5, .iload_n 2, 1), (6, .bipush 9, 2), (8, .idiv, 1), (9, .iconst 1, 1), (10, .iadd, 1), (11, .iastore, 1), (12, .aload_n 0, 1), (13, .getfield 17, 3), (16, .iload_n 1, 1), (17, .iconst 1, 1), (18, .iastore, 1), (19, .iconst 0, 1), (20, .istore_n 3, 1), (21, .iload_n 3, 1), (22, .aload_n 0, 1), (23, .getfield 14, 3), (26, .iload_n 1, 1), (27, .iaload, 1), (28, .if_icmp .ge 22, 3), (31, .aload_n 0, 1), (32, .getfield 8, 3), (35, .sipush 320, 3), (38, .iload_n 1, 1), (39, .imul, 1), (40, .iload_n 3, 1), (41, .iadd, 1), (42, .iconst 0, 1), (43, .iastore, 1), (44, .iinc 3 1, 3), (47, .goto (-26), 3), (50, .iconst 1, 1), (51, .istore_n 3, 1), (52, .iconst 0, 1), (53, .istore 4, 2), (55, .iload 4, 2), (57, .iload_n 2, 1), (58, .bipush 9, 2)]
theorem da_X7_powerOfTen_0 : dcAll M_X7_powerOfTen.2.1 dl_X7_powerOfTen_0 = true := by decide +kernel
def dl_X7_powerOfTen_1 : List (Nat × Instr × Nat) := [(60, .irem, 1), (61, .if_icmp .ge 14, 3), (64, .iload_n 3, 1), (65, .bipush 10, 2), (67, .imul, 1), (68, .istore_n 3, 1), (69, .iinc 4 1, 3), (72, .goto (-17), 3), (75, .aload_n 0, 1), (76, .getfield 8, 3), (79, .sipush 320, 3), (82, .iload_n 1, 1), (83, .imul, 1), (84, .iload_n 2, 1), (85, .bipush 9, 2), (87, .idiv, 1), (88, .iadd, 1), (89, .iload_n 3, 1), (90, .iastore, 1), (91, .return_, 1)]
theorem da_X7_powerOfTen_1 : dcAll M_X7_powerOfTen.2.1 dl_X7_powerOfTen_1 = true := by decide +kernel
theorem q_X7_powerOfTen_0 : decode M_X7_powerOfTen.2.1 0 = .ok (.aload_n 0, 1) ∧ 0 + 1 = 1 := ⟨dcAll_e (i := 0) da_X7_powerOfTen_0 rfl, rfl⟩
theorem q_X7_powerOfTen_1 : decode M_X7_powerOfTen.2.1 1 = .ok (.getfield 14, 3) ∧ 1 + 3 = 4 := ⟨dcAll_e (i := 1) da_X7_powerOfTen_0 rfl, rfl⟩
theorem q_X7_powerOfTen_4 : decode M_X7_powerOfTen.2.1 4 = .ok (.iload_n 1, 1) ∧ 4 + 1 = 5 := ⟨dcAll_e (i := 2) da_X7_powerOfTen_0 rfl, rfl⟩
theorem q_X7_powerOfTen_5 : decode M_X7_powerOfTen.2.1 5 = .ok (.iload_n 2, 1) ∧ 5 + 1 = 6 := ⟨dcAll_e (i := 3) da_X7_powerOfTen_0 rfl, rfl⟩
theorem q_X7_powerOfTen_6 : decode M_X7_powerOfTen.2.1 6 = .ok (.bipush 9, 2) ∧ 6 + 2 = 8 := ⟨dcAll_e (i := 4) da_X7_powerOfTen_0 rfl, rfl⟩
theorem q_X7_powerOfTen_8 : decode M_X7_powerOfTen.2.1 8 = .ok (.idiv, 1) ∧ 8 + 1 = 9 := ⟨dcAll_e (i := 5) da_X7_powerOfTen_0 rfl, rfl⟩
theorem q_X7_powerOfTen_9 : decode M_X7_powerOfTen.2.1 9 = .ok (.iconst 1, 1) ∧ 9 + 1 = 10 := ⟨dcAll_e (i := 6) da_X7_powerOfTen_0 rfl, rfl⟩
theorem q_X7_powerOfTen_10 : decode M_X7_powerOfTen.2.1 10 = .ok (.iadd, 1) ∧ 10 + 1 = 11 := ⟨dcAll_e (i := 7) da_X7_powerOfTen_0 rfl, rfl⟩
theorem q_X7_powerOfTen_11 : decode M_X7_powerOfTen.2.1 11 = .ok (.iastore, 1) ∧ 11 + 1 = 12 := ⟨dcAll_e (i := 8) da_X7_powerOfTen_0 rfl, rfl⟩
theorem q_X7_powerOfTen_12 : decode M_X7_powerOfTen.2.1 12 = .ok (.aload_n 0, 1) ∧ 12 + 1 = 13 := ⟨dcAll_e (i := 9) da_X7_powerOfTen_0 rfl, rfl⟩
theorem q_X7_powerOfTen_13 : decode M_X7_powerOfTen.2.1 13 = .ok (.getfield 17, 3) ∧ 13 + 3 = 16 := ⟨dcAll_e (i := 10) da_X7_powerOfTen_0 rfl, rfl⟩
theorem q_X7_powerOfTen_16 : decode M_X7_powerOfTen.2.1 16 = .ok (.iload_n 1, 1) ∧ 16 + 1 = 17 := ⟨dcAll_e (i := 11) da_X7_powerOfTen_0 rfl, rfl⟩
theorem q_X7_powerOfTen_17 : decode M_X7_powerOfTen.2.1 17 = .ok (.iconst 1, 1) ∧ 17 + 1 = 18 := ⟨dcAll_e (i := 12) da_X7_powerOfTen_0 rfl, rfl⟩
theorem q_X7_powerOfTen_18 : decode M_X7_powerOfTen.2.1 18 = .ok (.iastore, 1) ∧ 18 + 1 = 19 := ⟨dcAll_e (i := 13) da_X7_powerOfTen_0 rfl, rfl⟩
theorem q_X7_powerOfTen_19 : decode M_X7_powerOfTen.2.1 19 = .ok (.iconst 0, 1) ∧ 19 + 1 = 20 := ⟨dcAll_e (i := 14) da_X7_powerOfTen_0 rfl, rfl⟩
theorem q_X7_powerOfTen_20 : decode M_X7_powerOfTen.2.1 20 = .ok (.istore_n 3, 1) ∧ 20 + 1 = 21 := ⟨dcAll_e (i := 15) da_X7_powerOfTen_0 rfl, rfl⟩
theorem q_X7_powerOfTen_21 : decode M_X7_powerOfTen.2.1 21 = .ok (.iload_n 3, 1) ∧ 21 + 1 = 22 := ⟨dcAll_e (i := 16) da_X7_powerOfTen_0 rfl, rfl⟩
theorem q_X7_powerOfTen_22 : decode M_X7_powerOfTen.2.1 22 = .ok (.aload_n 0, 1) ∧ 22 + 1 = 23 := ⟨dcAll_e (i := 17) da_X7_powerOfTen_0 rfl, rfl⟩
theorem q_X7_powerOfTen_23 : decode M_X7_powerOfTen.2.1 23 = .ok (.getfield 14, 3) ∧ 23 + 3 = 26 := ⟨dcAll_e (i := 18) da_X7_powerOfTen_0 rfl, rfl⟩
theorem q_X7_powerOfTen_26 : decode M_X7_powerOfTen.2.1 26 = .ok (.iload_n 1, 1) ∧ 26 + 1 = 27 := ⟨dcAll_e (i := 19) da_X7_powerOfTen_0 rfl, rfl⟩
theorem q_X7_powerOfTen_27 : decode M_X7_powerOfTen.2.1 27 = .ok (.iaload, 1) ∧ 27 + 1 = 28 := ⟨dcAll_e (i := 20) da_X7_powerOfTen_0 rfl, rfl⟩
theorem q_X7_powerOfTen_28 : decode M_X7_powerOfTen.2.1 28 = .ok (.if_icmp .ge 22, 3) ∧ 28 + 3 = 31 ∧ ((28 : Nat) : Int) + 22 = ((50 : Nat) : Int) := ⟨dcAll_e (i := 21) da_X7_powerOfTen_0 rfl, rfl, rfl⟩
theorem q_X7_powerOfTen_31 : decode M_X7_powerOfTen.2.1 31 = .ok (.aload_n 0, 1) ∧ 31 + 1 = 32 := ⟨dcAll_e (i := 22) da_X7_powerOfTen_0 rfl, rfl⟩
theorem q_X7_powerOfTen_32 : decode M_X7_powerOfTen.2.1 32 = .ok (.getfield 8, 3) ∧ 32 + 3 = 35 := ⟨dcAll_e (i := 23) da_X7_powerOfTen_0 rfl, rfl⟩
theorem q_X7_powerOfTen_35 : decode M_X7_powerOfTen.2.1 35 = .ok (.sipush 320, 3) ∧ 35 + 3 = 38 := ⟨dcAll_e (i := 24) da_X7_powerOfTen_0 rfl, rfl⟩
theorem q_X7_powerOfTen_38 : decode M_X7_powerOfTen.2.1 38 = .ok (.iload_n 1, 1) ∧ 38 + 1 = 39 := ⟨dcAll_e (i := 25) da_X7_powerOfTen_0 rfl, rfl⟩
theorem q_X7_powerOfTen_39 : decode M_X7_powerOfTen.2.1 39 = .ok (.imul, 1) ∧ 39 + 1 = 40 := ⟨dcAll_e (i := 26) da_X7_powerOfTen_0 rfl, rfl⟩
theorem q_X7_powerOfTen_40 : decode M_X7_powerOfTen.2.1 40 = .ok (.iload_n 3, 1) ∧ 40 + 1 = 41 := ⟨dcAll_e (i := 27) da_X7_powerOfTen_0 rfl, rfl⟩
theorem q_X7_powerOfTen_41 : decode M_X7_powerOfTen.2.1 41 = .ok (.iadd, 1) ∧ 41 + 1 = 42 := ⟨dcAll_e (i := 28) da_X7_powerOfTen_0 rfl, rfl⟩
theorem q_X7_powerOfTen_42 : decode M_X7_powerOfTen.2.1 42 = .ok (.iconst 0, 1) ∧ 42 + 1 = 43 := ⟨dcAll_e (i := 29) da_X7_powerOfTen_0 rfl, rfl⟩
theorem q_X7_powerOfTen_43 : decode M_X7_powerOfTen.2.1 43 = .ok (.iastore, 1) ∧ 43 + 1 = 44 := ⟨dcAll_e (i := 30) da_X7_powerOfTen_0 rfl, rfl⟩
theorem q_X7_powerOfTen_44 : decode M_X7_powerOfTen.2.1 44 = .ok (.iinc 3 1, 3) ∧ 44 + 3 = 47 := ⟨dcAll_e (i := 31) da_X7_powerOfTen_0 rfl, rfl⟩
theorem q_X7_powerOfTen_47 : decode M_X7_powerOfTen.2.1 47 = .ok (.goto (-26), 3) ∧ 47 + 3 = 50 ∧ ((47 : Nat) : Int) + (-26) = ((21 : Nat) : Int) := ⟨dcAll_e (i := 32) da_X7_powerOfTen_0 rfl, rfl, rfl⟩
theorem q_X7_powerOfTen_50 : decode M_X7_powerOfTen.2.1 50 = .ok (.iconst 1, 1) ∧ 50 + 1 = 51 := ⟨dcAll_e (i := 33) da_X7_powerOfTen_0 rfl, rfl⟩
theorem q_X7_powerOfTen_51 : decode M_X7_powerOfTen.2.1 51 = .ok (.istore_n 3, 1) ∧ 51 + 1 = 52 := ⟨dcAll_e (i := 34) da_X7_powerOfTen_0 rfl, rfl⟩
theorem q_X7_powerOfTen_52 : decode M_X7_powerOfTen.2.1 52 = .ok (.iconst 0, 1) ∧ 52 + 1 = 53 := ⟨dcAll_e (i := 35) da_X7_powerOfTen_0 rfl, rfl⟩
theorem q_X7_powerOfTen_53 : decode M_X7_powerOfTen.2.1 53 = .ok (.istore 4, 2) ∧ 53 + 2 = 55 := ⟨dcAll_e (i := 36) da_X7_powerOfTen_0 rfl, rfl⟩
theorem q_X7_powerOfTen_55 : decode M_X7_powerOfTen.2.1 55 = .ok (.iload 4, 2) ∧ 55 + 2 = 57 := ⟨dcAll_e (i := 37) da_X7_powerOfTen_0 rfl, rfl⟩
theorem q_X7_powerOfTen_57 : decode M_X7_powerOfTen.2.1 57 = .ok (.iload_n 2, 1) ∧ 57 + 1 = 58 := ⟨dcAll_e (i := 38) da_X7_powerOfTen_0 rfl, rfl⟩
theorem q_X7_powerOfTen_58 : decode M_X7_powerOfTen.2.1 58 = .ok (.bipush 9, 2) ∧ 58 + 2 = 60 := ⟨dcAll_e (i := 39) da_X7_powerOfTen_0 rfl, rfl⟩
theorem q_X7_powerOfTen_60 : decode M_X7_powerOfTen.2.1 60 = .ok (.irem, 1) ∧ 60 + 1 = 61 := ⟨dcAll_e (i := 0) da_X7_powerOfTen_1 rfl, rfl⟩
theorem q_X7_powerOfTen_61 : decode M_X7_powerOfTen.2.1 61 = .ok (.if_icmp .ge 14, 3) ∧ 61 + 3 = 64 ∧ ((61 : Nat) : Int) + 14 = ((75 : Nat) : Int) := ⟨dcAll_e (i := 1) da_X7_powerOfTen_1 rfl, rfl, rfl⟩
theorem q_X7_powerOfTen_64 : decode M_X7_powerOfTen.2.1 64 = .ok (.iload_n 3, 1) ∧ 64 + 1 = 65 := ⟨dcAll_e (i := 2) da_X7_powerOfTen_1 rfl, rfl⟩
theorem q_X7_powerOfTen_65 : decode M_X7_powerOfTen.2.1 65 = .ok (.bipush 10, 2) ∧ 65 + 2 = 67 := ⟨dcAll_e (i := 3) da_X7_powerOfTen_1 rfl, rfl⟩
theorem q_X7_powerOfTen_67 : decode M_X7_powerOfTen.2.1 67 = .ok (.imul, 1) ∧ 67 + 1 = 68 := ⟨dcAll_e (i := 4) da_X7_powerOfTen_1 rfl, rfl⟩
theorem q_X7_powerOfTen_68 : decode M_X7_powerOfTen.2.1 68 = .ok (.istore_n 3, 1) ∧ 68 + 1 = 69 := ⟨dcAll_e (i := 5) da_X7_powerOfTen_1 rfl, rfl⟩
theorem q_X7_powerOfTen_69 : decode M_X7_powerOfTen.2.1 69 = .ok (.iinc 4 1, 3) ∧ 69 + 3 = 72 := ⟨dcAll_e (i := 6) da_X7_powerOfTen_1 rfl, rfl⟩
theorem q_X7_powerOfTen_72 : decode M_X7_powerOfTen.2.1 72 = .ok (.goto (-17), 3) ∧ 72 + 3 = 75 ∧ ((72 : Nat) : Int) + (-17) = ((55 : Nat) : Int) := ⟨dcAll_e (i := 7) da_X7_powerOfTen_1 rfl, rfl, rfl⟩
theorem q_X7_powerOfTen_75 : decode M_X7_powerOfTen.2.1 75 = .ok (.aload_n 0, 1) ∧ 75 + 1 = 76 := ⟨dcAll_e (i := 8) da_X7_powerOfTen_1 rfl, rfl⟩
theorem q_X7_powerOfTen_76 : decode M_X7_powerOfTen.2.1 76 = .ok (.getfield 8, 3) ∧ 76 + 3 = 79 := ⟨dcAll_e (i := 9) da_X7_powerOfTen_1 rfl, rfl⟩
theorem q_X7_powerOfTen_79 : decode M_X7_powerOfTen.2.1 79 = .ok (.sipush 320, 3) ∧ 79 + 3 = 82 := ⟨dcAll_e (i := 10) da_X7_powerOfTen_1 rfl, rfl⟩
theorem q_X7_powerOfTen_82 : decode M_X7_powerOfTen.2.1 82 = .ok (.iload_n 1, 1) ∧ 82 + 1 = 83 := ⟨dcAll_e (i := 11) da_X7_powerOfTen_1 rfl, rfl⟩
theorem q_X7_powerOfTen_83 : decode M_X7_powerOfTen.2.1 83 = .ok (.imul, 1) ∧ 83 + 1 = 84 := ⟨dcAll_e (i := 12) da_X7_powerOfTen_1 rfl, rfl⟩
theorem q_X7_powerOfTen_84 : decode M_X7_powerOfTen.2.1 84 = .ok (.iload_n 2, 1) ∧ 84 + 1 = 85 := ⟨dcAll_e (i := 13) da_X7_powerOfTen_1 rfl, rfl⟩
theorem q_X7_powerOfTen_85 : decode M_X7_powerOfTen.2.1 85 = .ok (.bipush 9, 2) ∧ 85 + 2 = 87 := ⟨dcAll_e (i := 14) da_X7_powerOfTen_1 rfl, rfl⟩
theorem q_X7_powerOfTen_87 : decode M_X7_powerOfTen.2.1 87 = .ok (.idiv, 1) ∧ 87 + 1 = 88 := ⟨dcAll_e (i := 15) da_X7_powerOfTen_1 rfl, rfl⟩
theorem q_X7_powerOfTen_88 : decode M_X7_powerOfTen.2.1 88 = .ok (.iadd, 1) ∧ 88 + 1 = 89 := ⟨dcAll_e (i := 16) da_X7_powerOfTen_1 rfl, rfl⟩
theorem q_X7_powerOfTen_89 : decode M_X7_powerOfTen.2.1 89 = .ok (.iload_n 3, 1) ∧ 89 + 1 = 90 := ⟨dcAll_e (i := 17) da_X7_powerOfTen_1 rfl, rfl⟩
theorem q_X7_powerOfTen_90 : decode M_X7_powerOfTen.2.1 90 = .ok (.iastore, 1) ∧ 90 + 1 = 91 := ⟨dcAll_e (i := 18) da_X7_powerOfTen_1 rfl, rfl⟩
theorem q_X7_powerOfTen_91 : decode M_X7_powerOfTen.2.1 91 = .ok (.return_, 1) ∧ 91 + 1 = 92 := ⟨dcAll_e (i := 19) da_X7_powerOfTen_1 rfl, rfl⟩
def dl_X7_digitsOf_0 : List (Nat × Instr × Nat) := [(0, .aload_n 0, 1), (1, .getfield 14, 3), (4, .iload_n 1, 1), (5, .iaload, 1), (6, .ifCond .ne 5, 3), (9, .iconst 1, 1), (10, .ireturn, 1), (11, .bipush 9, 2), (13, .aload_n 0, 1), (14, .getfield 14, 3), (17, .iload_n 1, 1), (18, .iaload, 1), (19, .iconst 1, 1), (20, .isub, 1), (21, .imul, 1), (22, .istore_n 2, 1), (23, .aload_n 0, 1), (24, .getfield 8, 3), (27, .sipush 320, 3), (30, .iload_n 1, 1), (31, .imul, 1), (32, .aload_n 0, 1), (33, .getfield 14, 3), (36, .iload_n 1, 1), (37, .iaload, 1), (38, .iadd, 1), (39, .iconst 1, 1), (40, .isub, 1), (41, .iaload, 1), (42, .istore_n 3, 1), (43, .iload_n 3, 1), (44, .ifCond .le 14, 3), (47, .iinc 2 1, 3), (50, .iload_n 3, 1), (51, .bipush 10, 2), (53, .idiv, 1), (54, .istore_n 3, 1), (55, .goto (-12), 3), (58, .iload_n 2, 1), (59, .ireturn, 1)]
theorem da_X7_digitsOf_0 : dcAll M_X7_digitsOf.2.1 dl_X7_digitsOf_0 = true := by decide +kernel
theorem q_X7_digitsOf_0 : decode M_X7_digitsOf.2.1 0 = .ok (.aload_n 0, 1) ∧ 0 + 1 = 1 := ⟨dcAll_e (i := 0) da_X7_digitsOf_0 rfl, rfl⟩
theorem q_X7_digitsOf_1 : decode M_X7_digitsOf.2.1 1 = .ok (.getfield 14, 3) ∧ 1 + 3 = 4 := ⟨dcAll_e (i := 1) da_X7_digitsOf_0 rfl, rfl⟩
theorem q_X7_digitsOf_4 : decode M_X7_digitsOf.2.1 4 = .ok (.iload_n 1, 1) ∧ 4 + 1 = 5 := ⟨dcAll_e (i := 2) da_X7_digitsOf_0 rfl, rfl⟩
theorem q_X7_digitsOf_5 : decode M_X7_digitsOf.2.1 5 = .ok (.iaload, 1) ∧ 5 + 1 = 6 := ⟨dcAll_e (i := 3) da_X7_digitsOf_0 rfl, rfl⟩
theorem q_X7_digitsOf_6 : decode M_X7_digitsOf.2.1 6 = .ok (.ifCond .ne 5, 3) ∧ 6 + 3 = 9 ∧ ((6 : Nat) : Int) + 5 = ((11 : Nat) : Int) := ⟨dcAll_e (i := 4) da_X7_digitsOf_0 rfl, rfl, rfl⟩
theorem q_X7_digitsOf_9 : decode M_X7_digitsOf.2.1 9 = .ok (.iconst 1, 1) ∧ 9 + 1 = 10 := ⟨dcAll_e (i := 5) da_X7_digitsOf_0 rfl, rfl⟩
theorem q_X7_digitsOf_10 : decode M_X7_digitsOf.2.1 10 = .ok (.ireturn, 1) ∧ 10 + 1 = 11 := ⟨dcAll_e (i := 6) da_X7_digitsOf_0 rfl, rfl⟩
theorem q_X7_digitsOf_11 : decode M_X7_digitsOf.2.1 11 = .ok (.bipush 9, 2) ∧ 11 + 2 = 13 := ⟨dcAll_e (i := 7) da_X7_digitsOf_0 rfl, rfl⟩
theorem q_X7_digitsOf_13 : decode M_X7_digitsOf.2.1 13 = .ok (.aload_n 0, 1) ∧ 13 + 1 = 14 := ⟨dcAll_e (i := 8) da_X7_digitsOf_0 rfl, rfl⟩
theorem q_X7_digitsOf_14 : decode M_X7_digitsOf.2.1 14 = .ok (.getfield 14, 3) ∧ 14 + 3 = 17 := ⟨dcAll_e (i := 9) da_X7_digitsOf_0 rfl, rfl⟩
theorem q_X7_digitsOf_17 : decode M_X7_digitsOf.2.1 17 = .ok (.iload_n 1, 1) ∧ 17 + 1 = 18 := ⟨dcAll_e (i := 10) da_X7_digitsOf_0 rfl, rfl⟩
theorem q_X7_digitsOf_18 : decode M_X7_digitsOf.2.1 18 = .ok (.iaload, 1) ∧ 18 + 1 = 19 := ⟨dcAll_e (i := 11) da_X7_digitsOf_0 rfl, rfl⟩
theorem q_X7_digitsOf_19 : decode M_X7_digitsOf.2.1 19 = .ok (.iconst 1, 1) ∧ 19 + 1 = 20 := ⟨dcAll_e (i := 12) da_X7_digitsOf_0 rfl, rfl⟩
theorem q_X7_digitsOf_20 : decode M_X7_digitsOf.2.1 20 = .ok (.isub, 1) ∧ 20 + 1 = 21 := ⟨dcAll_e (i := 13) da_X7_digitsOf_0 rfl, rfl⟩
theorem q_X7_digitsOf_21 : decode M_X7_digitsOf.2.1 21 = .ok (.imul, 1) ∧ 21 + 1 = 22 := ⟨dcAll_e (i := 14) da_X7_digitsOf_0 rfl, rfl⟩
theorem q_X7_digitsOf_22 : decode M_X7_digitsOf.2.1 22 = .ok (.istore_n 2, 1) ∧ 22 + 1 = 23 := ⟨dcAll_e (i := 15) da_X7_digitsOf_0 rfl, rfl⟩
theorem q_X7_digitsOf_23 : decode M_X7_digitsOf.2.1 23 = .ok (.aload_n 0, 1) ∧ 23 + 1 = 24 := ⟨dcAll_e (i := 16) da_X7_digitsOf_0 rfl, rfl⟩
theorem q_X7_digitsOf_24 : decode M_X7_digitsOf.2.1 24 = .ok (.getfield 8, 3) ∧ 24 + 3 = 27 := ⟨dcAll_e (i := 17) da_X7_digitsOf_0 rfl, rfl⟩
theorem q_X7_digitsOf_27 : decode M_X7_digitsOf.2.1 27 = .ok (.sipush 320, 3) ∧ 27 + 3 = 30 := ⟨dcAll_e (i := 18) da_X7_digitsOf_0 rfl, rfl⟩
theorem q_X7_digitsOf_30 : decode M_X7_digitsOf.2.1 30 = .ok (.iload_n 1, 1) ∧ 30 + 1 = 31 := ⟨dcAll_e (i := 19) da_X7_digitsOf_0 rfl, rfl⟩
theorem q_X7_digitsOf_31 : decode M_X7_digitsOf.2.1 31 = .ok (.imul, 1) ∧ 31 + 1 = 32 := ⟨dcAll_e (i := 20) da_X7_digitsOf_0 rfl, rfl⟩
theorem q_X7_digitsOf_32 : decode M_X7_digitsOf.2.1 32 = .ok (.aload_n 0, 1) ∧ 32 + 1 = 33 := ⟨dcAll_e (i := 21) da_X7_digitsOf_0 rfl, rfl⟩
theorem q_X7_digitsOf_33 : decode M_X7_digitsOf.2.1 33 = .ok (.getfield 14, 3) ∧ 33 + 3 = 36 := ⟨dcAll_e (i := 22) da_X7_digitsOf_0 rfl, rfl⟩
theorem q_X7_digitsOf_36 : decode M_X7_digitsOf.2.1 36 = .ok (.iload_n 1, 1) ∧ 36 + 1 = 37 := ⟨dcAll_e (i := 23) da_X7_digitsOf_0 rfl, rfl⟩
theorem q_X7_digitsOf_37 : decode M_X7_digitsOf.2.1 37 = .ok (.iaload, 1) ∧ 37 + 1 = 38 := ⟨dcAll_e (i := 24) da_X7_digitsOf_0 rfl, rfl⟩
theorem q_X7_digitsOf_38 : decode M_X7_digitsOf.2.1 38 = .ok (.iadd, 1) ∧ 38 + 1 = 39 := ⟨dcAll_e (i := 25) da_X7_digitsOf_0 rfl, rfl⟩
theorem q_X7_digitsOf_39 : decode M_X7_digitsOf.2.1 39 = .ok (.iconst 1, 1) ∧ 39 + 1 = 40 := ⟨dcAll_e (i := 26) da_X7_digitsOf_0 rfl, rfl⟩
theorem q_X7_digitsOf_40 : decode M_X7_digitsOf.2.1 40 = .ok (.isub, 1) ∧ 40 + 1 = 41 := ⟨dcAll_e (i := 27) da_X7_digitsOf_0 rfl, rfl⟩
theorem q_X7_digitsOf_41 : decode M_X7_digitsOf.2.1 41 = .ok (.iaload, 1) ∧ 41 + 1 = 42 := ⟨dcAll_e (i := 28) da_X7_digitsOf_0 rfl, rfl⟩
theorem q_X7_digitsOf_42 : decode M_X7_digitsOf.2.1 42 = .ok (.istore_n 3, 1) ∧ 42 + 1 = 43 := ⟨dcAll_e (i := 29) da_X7_digitsOf_0 rfl, rfl⟩
theorem q_X7_digitsOf_43 : decode M_X7_digitsOf.2.1 43 = .ok (.iload_n 3, 1) ∧ 43 + 1 = 44 := ⟨dcAll_e (i := 30) da_X7_digitsOf_0 rfl, rfl⟩
theorem q_X7_digitsOf_44 : decode M_X7_digitsOf.2.1 44 = .ok (.ifCond .le 14, 3) ∧ 44 + 3 = 47 ∧ ((44 : Nat) : Int) + 14 = ((58 : Nat) : Int) := ⟨dcAll_e (i := 31) da_X7_digitsOf_0 rfl, rfl, rfl⟩
theorem q_X7_digitsOf_47 : decode M_X7_digitsOf.2.1 47 = .ok (.iinc 2 1, 3) ∧ 47 + 3 = 50 := ⟨dcAll_e (i := 32) da_X7_digitsOf_0 rfl, rfl⟩
theorem q_X7_digitsOf_50 : decode M_X7_digitsOf.2.1 50 = .ok (.iload_n 3, 1) ∧ 50 + 1 = 51 := ⟨dcAll_e (i := 33) da_X7_digitsOf_0 rfl, rfl⟩
theorem q_X7_digitsOf_51 : decode M_X7_digitsOf.2.1 51 = .ok (.bipush 10, 2) ∧ 51 + 2 = 53 := ⟨dcAll_e (i := 34) da_X7_digitsOf_0 rfl, rfl⟩
theorem q_X7_digitsOf_53 : decode M_X7_digitsOf.2.1 53 = .ok (.idiv, 1) ∧ 53 + 1 = 54 := ⟨dcAll_e (i := 35) da_X7_digitsOf_0 rfl, rfl⟩
theorem q_X7_digitsOf_54 : decode M_X7_digitsOf.2.1 54 = .ok (.istore_n 3, 1) ∧ 54 + 1 = 55 := ⟨dcAll_e (i := 36) da_X7_digitsOf_0 rfl, rfl⟩
theorem q_X7_digitsOf_55 : decode M_X7_digitsOf.2.1 55 = .ok (.goto (-12), 3) ∧ 55 + 3 = 58 ∧ ((55 : Nat) : Int) + (-12) = ((43 : Nat) : Int) := ⟨dcAll_e (i := 37) da_X7_digitsOf_0 rfl, rfl, rfl⟩
theorem q_X7_digitsOf_58 : decode M_X7_digitsOf.2.1 58 = .ok (.iload_n 2, 1) ∧ 58 + 1 = 59 := ⟨dcAll_e (i := 38) da_X7_digitsOf_0 rfl, rfl⟩
theorem q_X7_digitsOf_59 : decode M_X7_digitsOf.2.1 59 = .ok (.ireturn, 1) ∧ 59 + 1 = 60 := ⟨dcAll_e (i := 39) da_X7_digitsOf_0 rfl, rfl⟩
def dl_X7_digitOf_0 : List (Nat × Instr × Nat) := [(0, .iload_n 2, 1), (1, .bipush 9, 2), (3, .idiv, 1), (4, .aload_n 0, 1), (5, .getfield 14, 3), (8, .iload_n 1, 1), (9, .iaload, 1), (10, .if_icmp .lt 5, 3), (13, .iconst 0, 1), (14, .ireturn, 1), (15, .aload_n 0, 1), (16, .getfield 8, 3), (19, .sipush 320, 3), (22, .iload_n 1, 1), (23, .imul, 1), (24, .iload_n 2, 1), (25, .bipush 9, 2), (27, .idiv, 1), (28, .iadd, 1), (29, .iaload, 1), (30, .istore_n 3, 1), (31, .iconst 0, 1), (32, .istore 4, 2), (34, .iload 4, 2), (36, .iload_n 2, 1), (37, .bipush 9, 2), (39, .irem, 1), (40, .if_icmp .ge 14, 3), (43, .iload_n 3, 1), (44, .bipush 10, 2), (46, .idiv, 1), (47, .istore_n 3, 1), (48, .iinc 4 1, 3), (51, .goto (-17), 3), (54, .iload_n 3, 1), (55, .bipush 10, 2), (57, .irem, 1), (58, .ireturn, 1)]
theorem da_X7_digitOf_0 : dcAll M_X7_digitOf.2.1 dl_X7_digitOf_0 = true := by decide +kernel
theorem q_X7_digitOf_0 : decode M_X7_digitOf.2.1 0 = .ok (.iload_n 2, 1) ∧ 0 + 1 = 1 := ⟨dcAll_e (i := 0) da_X7_digitOf_0 rfl, rfl⟩
theorem q_X7_digitOf_1 : decode M_X7_digitOf.2.1 1 = .ok (.bipush 9, 2) ∧ 1 + 2 = 3 := ⟨dcAll_e (i := 1) da_X7_digitOf_0 rfl, rfl⟩
theorem q_X7_digitOf_3 : decode M_X7_digitOf.2.1 3 = .ok (.idiv, 1) ∧ 3 + 1 = 4 := ⟨dcAll_e (i := 2) da_X7_digitOf_0 rfl, rfl⟩
theorem q_X7_digitOf_4 : decode M_X7_digitOf.2.1 4 = .ok (.aload_n 0, 1) ∧ 4 + 1 = 5 := ⟨dcAll_e (i := 3) da_X7_digitOf_0 rfl, rfl⟩
theorem q_X7_digitOf_5 : decode M_X7_digitOf.2.1 5 = .ok (.getfield 14, 3) ∧ 5 + 3 = 8 := ⟨dcAll_e (i := 4) da_X7_digitOf_0 rfl, rfl⟩
theorem q_X7_digitOf_8 : decode M_X7_digitOf.2.1 8 = .ok (.iload_n 1, 1) ∧ 8 + 1 = 9 := ⟨dcAll_e (i := 5) da_X7_digitOf_0 rfl, rfl⟩
theorem q_X7_digitOf_9 : decode M_X7_digitOf.2.1 9 = .ok (.iaload, 1) ∧ 9 + 1 = 10 := ⟨dcAll_e (i := 6) da_X7_digitOf_0 rfl, rfl⟩
theorem q_X7_digitOf_10 : decode M_X7_digitOf.2.1 10 = .ok (.if_icmp .lt 5, 3) ∧ 10 + 3 = 13 ∧ ((10 : Nat) : Int) + 5 = ((15 : Nat) : Int) := ⟨dcAll_e (i := 7) da_X7_digitOf_0 rfl, rfl, rfl⟩
theorem q_X7_digitOf_13 : decode M_X7_digitOf.2.1 13 = .ok (.iconst 0, 1) ∧ 13 + 1 = 14 := ⟨dcAll_e (i := 8) da_X7_digitOf_0 rfl, rfl⟩
theorem q_X7_digitOf_14 : decode M_X7_digitOf.2.1 14 = .ok (.ireturn, 1) ∧ 14 + 1 = 15 := ⟨dcAll_e (i := 9) da_X7_digitOf_0 rfl, rfl⟩
theorem q_X7_digitOf_15 : decode M_X7_digitOf.2.1 15 = .ok (.aload_n 0, 1) ∧ 15 + 1 = 16 := ⟨dcAll_e (i := 10) da_X7_digitOf_0 rfl, rfl⟩
theorem q_X7_digitOf_16 : decode M_X7_digitOf.2.1 16 = .ok (.getfield 8, 3) ∧ 16 + 3 = 19 := ⟨dcAll_e (i := 11) da_X7_digitOf_0 rfl, rfl⟩
theorem q_X7_digitOf_19 : decode M_X7_digitOf.2.1 19 = .ok (.sipush 320, 3) ∧ 19 + 3 = 22 := ⟨dcAll_e (i := 12) da_X7_digitOf_0 rfl, rfl⟩
theorem q_X7_digitOf_22 : decode M_X7_digitOf.2.1 22 = .ok (.iload_n 1, 1) ∧ 22 + 1 = 23 := ⟨dcAll_e (i := 13) da_X7_digitOf_0 rfl, rfl⟩
theorem q_X7_digitOf_23 : decode M_X7_digitOf.2.1 23 = .ok (.imul, 1) ∧ 23 + 1 = 24 := ⟨dcAll_e (i := 14) da_X7_digitOf_0 rfl, rfl⟩
theorem q_X7_digitOf_24 : decode M_X7_digitOf.2.1 24 = .ok (.iload_n 2, 1) ∧ 24 + 1 = 25 := ⟨dcAll_e (i := 15) da_X7_digitOf_0 rfl, rfl⟩
theorem q_X7_digitOf_25 : decode M_X7_digitOf.2.1 25 = .ok (.bipush 9, 2) ∧ 25 + 2 = 27 := ⟨dcAll_e (i := 16) da_X7_digitOf_0 rfl, rfl⟩
theorem q_X7_digitOf_27 : decode M_X7_digitOf.2.1 27 = .ok (.idiv, 1) ∧ 27 + 1 = 28 := ⟨dcAll_e (i := 17) da_X7_digitOf_0 rfl, rfl⟩
theorem q_X7_digitOf_28 : decode M_X7_digitOf.2.1 28 = .ok (.iadd, 1) ∧ 28 + 1 = 29 := ⟨dcAll_e (i := 18) da_X7_digitOf_0 rfl, rfl⟩
theorem q_X7_digitOf_29 : decode M_X7_digitOf.2.1 29 = .ok (.iaload, 1) ∧ 29 + 1 = 30 := ⟨dcAll_e (i := 19) da_X7_digitOf_0 rfl, rfl⟩
theorem q_X7_digitOf_30 : decode M_X7_digitOf.2.1 30 = .ok (.istore_n 3, 1) ∧ 30 + 1 = 31 := ⟨dcAll_e (i := 20) da_X7_digitOf_0 rfl, rfl⟩
theorem q_X7_digitOf_31 : decode M_X7_digitOf.2.1 31 = .ok (.iconst 0, 1) ∧ 31 + 1 = 32 := ⟨dcAll_e (i := 21) da_X7_digitOf_0 rfl, rfl⟩
theorem q_X7_digitOf_32 : decode M_X7_digitOf.2.1 32 = .ok (.istore 4, 2) ∧ 32 + 2 = 34 := ⟨dcAll_e (i := 22) da_X7_digitOf_0 rfl, rfl⟩
theorem q_X7_digitOf_34 : decode M_X7_digitOf.2.1 34 = .ok (.iload 4, 2) ∧ 34 + 2 = 36 := ⟨dcAll_e (i := 23) da_X7_digitOf_0 rfl, rfl⟩
theorem q_X7_digitOf_36 : decode M_X7_digitOf.2.1 36 = .ok (.iload_n 2, 1) ∧ 36 + 1 = 37 := ⟨dcAll_e (i := 24) da_X7_digitOf_0 rfl, rfl⟩
theorem q_X7_digitOf_37 : decode M_X7_digitOf.2.1 37 = .ok (.bipush 9, 2) ∧ 37 + 2 = 39 := ⟨dcAll_e (i := 25) da_X7_digitOf_0 rfl, rfl⟩
theorem q_X7_digitOf_39 : decode M_X7_digitOf.2.1 39 = .ok (.irem, 1) ∧ 39 + 1 = 40 := ⟨dcAll_e (i := 26) da_X7_digitOf_0 rfl, rfl⟩
theorem q_X7_digitOf_40 : decode M_X7_digitOf.2.1 40 = .ok (.if_icmp .ge 14, 3) ∧ 40 + 3 = 43 ∧ ((40 : Nat) : Int) + 14 = ((54 : Nat) : Int) := ⟨dcAll_e (i := 27) da_X7_digitOf_0 rfl, rfl, rfl⟩
theorem q_X7_digitOf_43 : decode M_X7_digitOf.2.1 43 = .ok (.iload_n 3, 1) ∧ 43 + 1 = 44 := ⟨dcAll_e (i := 28) da_X7_digitOf_0 rfl, rfl⟩
theorem q_X7_digitOf_44 : decode M_X7_digitOf.2.1 44 = .ok (.bipush 10, 2) ∧ 44 + 2 = 46 := ⟨dcAll_e (i := 29) da_X7_digitOf_0 rfl, rfl⟩
theorem q_X7_digitOf_46 : decode M_X7_digitOf.2.1 46 = .ok (.idiv, 1) ∧ 46 + 1 = 47 := ⟨dcAll_e (i := 30) da_X7_digitOf_0 rfl, rfl⟩
theorem q_X7_digitOf_47 : decode M_X7_digitOf.2.1 47 = .ok (.istore_n 3, 1) ∧ 47 + 1 = 48 := ⟨dcAll_e (i := 31) da_X7_digitOf_0 rfl, rfl⟩
theorem q_X7_digitOf_48 : decode M_X7_digitOf.2.1 48 = .ok (.iinc 4 1, 3) ∧ 48 + 3 = 51 := ⟨dcAll_e (i := 32) da_X7_digitOf_0 rfl, rfl⟩
theorem q_X7_digitOf_51 : decode M_X7_digitOf.2.1 51 = .ok (.goto (-17), 3) ∧ 51 + 3 = 54 ∧ ((51 : Nat) : Int) + (-17) = ((34 : Nat) : Int) := ⟨dcAll_e (i := 33) da_X7_digitOf_0 rfl, rfl, rfl⟩
theorem q_X7_digitOf_54 : decode M_X7_digitOf.2.1 54 = .ok (.iload_n 3, 1) ∧ 54 + 1 = 55 := ⟨dcAll_e (i := 34) da_X7_digitOf_0 rfl, rfl⟩
theorem q_X7_digitOf_55 : decode M_X7_digitOf.2.1 55 = .ok (.bipush 10, 2) ∧ 55 + 2 = 57 := ⟨dcAll_e (i := 35) da_X7_digitOf_0 rfl, rfl⟩
theorem q_X7_digitOf_57 : decode M_X7_digitOf.2.1 57 = .ok (.irem, 1) ∧ 57 + 1 = 58 := ⟨dcAll_e (i := 36) da_X7_digitOf_0 rfl, rfl⟩
theorem q_X7_digitOf_58 : decode M_X7_digitOf.2.1 58 = .ok (.ireturn, 1) ∧ 58 + 1 = 59 := ⟨dcAll_e (i := 37) da_X7_digitOf_0 rfl, rfl⟩
def dl_X7_low_0 : List (Nat × Instr × Nat) := [(0, .bipush 20, 2), (2, .iconst 2, 1), (3, .iload_n 0, 1), (4, .imul, 1), (5, .iadd, 1), (6, .ireturn, 1)]
theorem da_X7_low_0 : dcAll M_X7_low.2.1 dl_X7_low_0 = true := by decide +kernel
theorem q_X7_low_0 : decode M_X7_low.2.1 0 = .ok (.bipush 20, 2) ∧ 0 + 2 = 2 := ⟨dcAll_e (i := 0) da_X7_low_0 rfl, rfl⟩
theorem q_X7_low_2 : decode M_X7_low.2.1 2 = .ok (.iconst 2, 1) ∧ 2 + 1 = 3 := ⟨dcAll_e (i := 1) da_X7_low_0 rfl, rfl⟩
theorem q_X7_low_3 : decode M_X7_low.2.1 3 = .ok (.iload_n 0, 1) ∧ 3 + 1 = 4 := ⟨dcAll_e (i := 2) da_X7_low_0 rfl, rfl⟩
theorem q_X7_low_4 : decode M_X7_low.2.1 4 = .ok (.imul, 1) ∧ 4 + 1 = 5 := ⟨dcAll_e (i := 3) da_X7_low_0 rfl, rfl⟩
theorem q_X7_low_5 : decode M_X7_low.2.1 5 = .ok (.iadd, 1) ∧ 5 + 1 = 6 := ⟨dcAll_e (i := 4) da_X7_low_0 rfl, rfl⟩
theorem q_X7_low_6 : decode M_X7_low.2.1 6 = .ok (.ireturn, 1) ∧ 6 + 1 = 7 := ⟨dcAll_e (i := 5) da_X7_low_0 rfl, rfl⟩
def dl_X7_add_0 : List (Nat × Instr × Nat) := [(0, .aload_n 0, 1), (1, .getfield 90, 3), (4, .bipush 60, 2), (6, .if_icmp .ne 6, 3), (9, .bipush (-2), 2), (11, .ireturn, 1), (12, .aload_n 0, 1), (13, .getfield 20, 3), (16, .aload_n 0, 1), (17, .getfield 90, 3), (20, .iload_n 1, 1), (21, .iastore, 1), (22, .aload_n 0, 1), (23, .getfield 23, 3), (26, .aload_n 0, 1), (27, .getfield 90, 3), (30, .lload_n 2, 1), (31, .lastore, 1), (32, .aload_n 0, 1), (33, .getfield 27, 3), (36, .aload_n 0, 1), (37, .getfield 90, 3), (40, .lload 4, 2), (42, .lastore, 1), (43, .aload_n 0, 1), (44, .dup, 1), (45, .getfield 90, 3), (48, .iconst 1, 1), (49, .iadd, 1), (50, .putfield 90, 3), (53, .aload_n 0, 1), (54, .getfield 90, 3), (57, .iconst 1, 1), (58, .isub, 1), (59, .ireturn, 1)]
theorem da_X7_add_0 : dcAll M_X7_add.2.1 dl_X7_add_0 = true := by decide +kernel
theorem q_X7_add_0 : decode M_X7_add.2.1 0 = .ok (.aload_n 0, 1) ∧ 0 + 1 = 1 := ⟨dcAll_e (i := 0) da_X7_add_0 rfl, rfl⟩
theorem q_X7_add_1 : decode M_X7_add.2.1 1 = .ok (.getfield 90, 3) ∧ 1 + 3 = 4 := ⟨dcAll_e (i := 1) da_X7_add_0 rfl, rfl⟩
theorem f_RX7_90 : en_F RX7 90 7 9 := ⟨RX7, TX7, 15, rfl, by decide, rfl, inT3 176 rfl rfl, uw_X7⟩
theorem q_X7_add_4 : decode M_X7_add.2.1 4 = .ok (.bipush 60, 2) ∧ 4 + 2 = 6 := ⟨dcAll_e (i := 2) da_X7_add_0 rfl, rfl⟩
theorem q_X7_add_6 : decode M_X7_add.2.1 6 = .ok (.if_icmp .ne 6, 3) ∧ 6 + 3 = 9 ∧ ((6 : Nat) : Int) + 6 = ((12 : Nat) : Int) := ⟨dcAll_e (i := 3) da_X7_add_0 rfl, rfl, rfl⟩
theorem q_X7_add_9 : decode M_X7_add.2.1 9 = .ok (.bipush (-2), 2) ∧ 9 + 2 = 11 := ⟨dcAll_e (i := 4) da_X7_add_0 rfl, rfl⟩
theorem q_X7_add_11 : decode M_X7_add.2.1 11 = .ok (.ireturn, 1) ∧ 11 + 1 = 12 := ⟨dcAll_e (i := 5) da_X7_add_0 rfl, rfl⟩
theorem q_X7_add_12 : decode M_X7_add.2.1 12 = .ok (.aload_n 0, 1) ∧ 12 + 1 = 13 := ⟨dcAll_e (i := 6) da_X7_add_0 rfl, rfl⟩
theorem q_X7_add_13 : decode M_X7_add.2.1 13 = .ok (.getfield 20, 3) ∧ 13 + 3 = 16 := ⟨dcAll_e (i := 7) da_X7_add_0 rfl, rfl⟩
theorem f_RX7_20 : en_F RX7 20 7 4 := ⟨RX7, TX7, 15, rfl, by decide, rfl, inT3 171 rfl rfl, uw_X7⟩
theorem q_X7_add_16 : decode M_X7_add.2.1 16 = .ok (.aload_n 0, 1) ∧ 16 + 1 = 17 := ⟨dcAll_e (i := 8) da_X7_add_0 rfl, rfl⟩
theorem q_X7_add_17 : decode M_X7_add.2.1 17 = .ok (.getfield 90, 3) ∧ 17 + 3 = 20 := ⟨dcAll_e (i := 9) da_X7_add_0 rfl, rfl⟩
theorem q_X7_add_20 : decode M_X7_add.2.1 20 = .ok (.iload_n 1, 1) ∧ 20 + 1 = 21 := ⟨dcAll_e (i := 10) da_X7_add_0 rfl, rfl⟩
theorem q_X7_add_21 : decode M_X7_add.2.1 21 = .ok (.iastore, 1) ∧ 21 + 1 = 22 := ⟨dcAll_e (i := 11) da_X7_add_0 rfl, rfl⟩
theorem q_X7_add_22 : decode M_X7_add.2.1 22 = .ok (.aload_n 0, 1) ∧ 22 + 1 = 23 := ⟨dcAll_e (i := 12) da_X7_add_0 rfl, rfl⟩
theorem q_X7_add_23 : decode M_X7_add.2.1 23 = .ok (.getfield 23, 3) ∧ 23 + 3 = 26 := ⟨dcAll_e (i := 13) da_X7_add_0 rfl, rfl⟩
theorem f_RX7_23 : en_F RX7 23 7 5 := ⟨RX7, TX7, 15, rfl, by decide, rfl, inT3 172 rfl rfl, uw_X7⟩
theorem q_X7_add_26 : decode M_X7_add.2.1 26 = .ok (.aload_n 0, 1) ∧ 26 + 1 = 27 := ⟨dcAll_e (i := 14) da_X7_add_0 rfl, rfl⟩
theorem q_X7_add_27 : decode M_X7_add.2.1 27 = .ok (.getfield 90, 3) ∧ 27 + 3 = 30 := ⟨dcAll_e (i := 15) da_X7_add_0 rfl, rfl⟩
theorem q_X7_add_30 : decode M_X7_add.2.1 30 = .ok (.lload_n 2, 1) ∧ 30 + 1 = 31 := ⟨dcAll_e (i := 16) da_X7_add_0 rfl, rfl⟩
theorem q_X7_add_31 : decode M_X7_add.2.1 31 = .ok (.lastore, 1) ∧ 31 + 1 = 32 := ⟨dcAll_e (i := 17) da_X7_add_0 rfl, rfl⟩
theorem q_X7_add_32 : decode M_X7_add.2.1 32 = .ok (.aload_n 0, 1) ∧ 32 + 1 = 33 := ⟨dcAll_e (i := 18) da_X7_add_0 rfl, rfl⟩
theorem q_X7_add_33 : decode M_X7_add.2.1 33 = .ok (.getfield 27, 3) ∧ 33 + 3 = 36 := ⟨dcAll_e (i := 19) da_X7_add_0 rfl, rfl⟩
theorem f_RX7_27 : en_F RX7 27 7 6 := ⟨RX7, TX7, 15, rfl, by decide, rfl, inT3 173 rfl rfl, uw_X7⟩
theorem q_X7_add_36 : decode M_X7_add.2.1 36 = .ok (.aload_n 0, 1) ∧ 36 + 1 = 37 := ⟨dcAll_e (i := 20) da_X7_add_0 rfl, rfl⟩
theorem q_X7_add_37 : decode M_X7_add.2.1 37 = .ok (.getfield 90, 3) ∧ 37 + 3 = 40 := ⟨dcAll_e (i := 21) da_X7_add_0 rfl, rfl⟩
theorem q_X7_add_40 : decode M_X7_add.2.1 40 = .ok (.lload 4, 2) ∧ 40 + 2 = 42 := ⟨dcAll_e (i := 22) da_X7_add_0 rfl, rfl⟩
theorem q_X7_add_42 : decode M_X7_add.2.1 42 = .ok (.lastore, 1) ∧ 42 + 1 = 43 := ⟨dcAll_e (i := 23) da_X7_add_0 rfl, rfl⟩
theorem q_X7_add_43 : decode M_X7_add.2.1 43 = .ok (.aload_n 0, 1) ∧ 43 + 1 = 44 := ⟨dcAll_e (i := 24) da_X7_add_0 rfl, rfl⟩
theorem q_X7_add_44 : decode M_X7_add.2.1 44 = .ok (.dup, 1) ∧ 44 + 1 = 45 := ⟨dcAll_e (i := 25) da_X7_add_0 rfl, rfl⟩
theorem q_X7_add_45 : decode M_X7_add.2.1 45 = .ok (.getfield 90, 3) ∧ 45 + 3 = 48 := ⟨dcAll_e (i := 26) da_X7_add_0 rfl, rfl⟩
theorem q_X7_add_48 : decode M_X7_add.2.1 48 = .ok (.iconst 1, 1) ∧ 48 + 1 = 49 := ⟨dcAll_e (i := 27) da_X7_add_0 rfl, rfl⟩
theorem q_X7_add_49 : decode M_X7_add.2.1 49 = .ok (.iadd, 1) ∧ 49 + 1 = 50 := ⟨dcAll_e (i := 28) da_X7_add_0 rfl, rfl⟩
theorem q_X7_add_50 : decode M_X7_add.2.1 50 = .ok (.putfield 90, 3) ∧ 50 + 3 = 53 := ⟨dcAll_e (i := 29) da_X7_add_0 rfl, rfl⟩
theorem p_RX7_90 : en_Fp RX7 90 7 9 false .int := ⟨RX7, TX7, 15, tyX7, rfl, by decide, rfl, inT3 176 rfl rfl, uw_X7, tyX7_ok, nmX7, rfl, by decide +kernel⟩
theorem q_X7_add_53 : decode M_X7_add.2.1 53 = .ok (.aload_n 0, 1) ∧ 53 + 1 = 54 := ⟨dcAll_e (i := 30) da_X7_add_0 rfl, rfl⟩
theorem q_X7_add_54 : decode M_X7_add.2.1 54 = .ok (.getfield 90, 3) ∧ 54 + 3 = 57 := ⟨dcAll_e (i := 31) da_X7_add_0 rfl, rfl⟩
theorem q_X7_add_57 : decode M_X7_add.2.1 57 = .ok (.iconst 1, 1) ∧ 57 + 1 = 58 := ⟨dcAll_e (i := 32) da_X7_add_0 rfl, rfl⟩
theorem q_X7_add_58 : decode M_X7_add.2.1 58 = .ok (.isub, 1) ∧ 58 + 1 = 59 := ⟨dcAll_e (i := 33) da_X7_add_0 rfl, rfl⟩
theorem q_X7_add_59 : decode M_X7_add.2.1 59 = .ok (.ireturn, 1) ∧ 59 + 1 = 60 := ⟨dcAll_e (i := 34) da_X7_add_0 rfl, rfl⟩
def dl_X7_whole_0 : List (Nat × Instr × Nat) := [(0, .aload_n 0, 1), (1, .iconst 0, 1), (2, .putfield 43, 3), (5, .aload_n 0, 1), (6, .iconst 0, 1), (7, .lload_n 1, 1), (8, .lconst 0, 1), (9, .invokevirtual 93, 3), (12, .ireturn, 1)]
theorem da_X7_whole_0 : dcAll M_X7_whole.2.1 dl_X7_whole_0 = true := by decide +kernel
theorem q_X7_whole_0 : decode M_X7_whole.2.1 0 = .ok (.aload_n 0, 1) ∧ 0 + 1 = 1 := ⟨dcAll_e (i := 0) da_X7_whole_0 rfl, rfl⟩
theorem q_X7_whole_1 : decode M_X7_whole.2.1 1 = .ok (.iconst 0, 1) ∧ 1 + 1 = 2 := ⟨dcAll_e (i := 1) da_X7_whole_0 rfl, rfl⟩
theorem q_X7_whole_2 : decode M_X7_whole.2.1 2 = .ok (.putfield 43, 3) ∧ 2 + 3 = 5 := ⟨dcAll_e (i := 2) da_X7_whole_0 rfl, rfl⟩
theorem p_RX7_43 : en_Fp RX7 43 7 0 false .int := ⟨RX7, TX7, 15, tyX7, rfl, by decide, rfl, inT3 167 rfl rfl, uw_X7, tyX7_ok, nmX7, rfl, by decide +kernel⟩
theorem q_X7_whole_5 : decode M_X7_whole.2.1 5 = .ok (.aload_n 0, 1) ∧ 5 + 1 = 6 := ⟨dcAll_e (i := 3) da_X7_whole_0 rfl, rfl⟩
theorem q_X7_whole_6 : decode M_X7_whole.2.1 6 = .ok (.iconst 0, 1) ∧ 6 + 1 = 7 := ⟨dcAll_e (i := 4) da_X7_whole_0 rfl, rfl⟩
theorem q_X7_whole_7 : decode M_X7_whole.2.1 7 = .ok (.lload_n 1, 1) ∧ 7 + 1 = 8 := ⟨dcAll_e (i := 5) da_X7_whole_0 rfl, rfl⟩
theorem q_X7_whole_8 : decode M_X7_whole.2.1 8 = .ok (.lconst 0, 1) ∧ 8 + 1 = 9 := ⟨dcAll_e (i := 6) da_X7_whole_0 rfl, rfl⟩
theorem q_X7_whole_9 : decode M_X7_whole.2.1 9 = .ok (.invokevirtual 93, 3) ∧ 9 + 3 = 12 := ⟨dcAll_e (i := 7) da_X7_whole_0 rfl, rfl⟩
theorem cd_X7_add : Cond.code M_X7_add.1 M_X7_add.2.1 M_X7_add.2.2.1 M_X7_add.2.2.2.1 ∈ en_tbl := inT3 221 rfl rfl
theorem g_X7_whole_9 : en_C M_X7_whole M_X7_add 93 3 := ⟨⟨inT3 218 rfl rfl, in_X7, cd_X7_add⟩, ⟨by decide, by decide, by decide +kernel⟩, by decide, by decide⟩
theorem w_X7_add : Cond.instanceMethod M_X7_add.1 ∈ en_tbl ∧ Cond.selects M_X7_add.1.cls M_X7_add.1 M_X7_add.1 ∈ en_tbl := ⟨inT3 220 rfl rfl, by decide +kernel⟩
theorem q_X7_whole_12 : decode M_X7_whole.2.1 12 = .ok (.ireturn, 1) ∧ 12 + 1 = 13 := ⟨dcAll_e (i := 8) da_X7_whole_0 rfl, rfl⟩
def dl_X7_ratio_0 : List (Nat × Instr × Nat) := [(0, .aload_n 0, 1), (1, .iconst 0, 1), (2, .putfield 43, 3), (5, .lload_n 3, 1), (6, .lconst 0, 1), (7, .lcmp, 1), (8, .ifCond .ne 7, 3), (11, .iconst (-1), 1), (12, .goto 10, 3), (15, .aload_n 0, 1), (16, .iconst 1, 1), (17, .lload_n 1, 1), (18, .lload_n 3, 1), (19, .invokevirtual 93, 3), (22, .ireturn, 1)]
theorem da_X7_ratio_0 : dcAll M_X7_ratio.2.1 dl_X7_ratio_0 = true := by decide +kernel
theorem q_X7_ratio_0 : decode M_X7_ratio.2.1 0 = .ok (.aload_n 0, 1) ∧ 0 + 1 = 1 := ⟨dcAll_e (i := 0) da_X7_ratio_0 rfl, rfl⟩
theorem q_X7_ratio_1 : decode M_X7_ratio.2.1 1 = .ok (.iconst 0, 1) ∧ 1 + 1 = 2 := ⟨dcAll_e (i := 1) da_X7_ratio_0 rfl, rfl⟩
theorem q_X7_ratio_2 : decode M_X7_ratio.2.1 2 = .ok (.putfield 43, 3) ∧ 2 + 3 = 5 := ⟨dcAll_e (i := 2) da_X7_ratio_0 rfl, rfl⟩
theorem q_X7_ratio_5 : decode M_X7_ratio.2.1 5 = .ok (.lload_n 3, 1) ∧ 5 + 1 = 6 := ⟨dcAll_e (i := 3) da_X7_ratio_0 rfl, rfl⟩
theorem q_X7_ratio_6 : decode M_X7_ratio.2.1 6 = .ok (.lconst 0, 1) ∧ 6 + 1 = 7 := ⟨dcAll_e (i := 4) da_X7_ratio_0 rfl, rfl⟩
theorem q_X7_ratio_7 : decode M_X7_ratio.2.1 7 = .ok (.lcmp, 1) ∧ 7 + 1 = 8 := ⟨dcAll_e (i := 5) da_X7_ratio_0 rfl, rfl⟩
theorem q_X7_ratio_8 : decode M_X7_ratio.2.1 8 = .ok (.ifCond .ne 7, 3) ∧ 8 + 3 = 11 ∧ ((8 : Nat) : Int) + 7 = ((15 : Nat) : Int) := ⟨dcAll_e (i := 6) da_X7_ratio_0 rfl, rfl, rfl⟩
theorem q_X7_ratio_11 : decode M_X7_ratio.2.1 11 = .ok (.iconst (-1), 1) ∧ 11 + 1 = 12 := ⟨dcAll_e (i := 7) da_X7_ratio_0 rfl, rfl⟩
theorem q_X7_ratio_12 : decode M_X7_ratio.2.1 12 = .ok (.goto 10, 3) ∧ 12 + 3 = 15 ∧ ((12 : Nat) : Int) + 10 = ((22 : Nat) : Int) := ⟨dcAll_e (i := 8) da_X7_ratio_0 rfl, rfl, rfl⟩
theorem q_X7_ratio_15 : decode M_X7_ratio.2.1 15 = .ok (.aload_n 0, 1) ∧ 15 + 1 = 16 := ⟨dcAll_e (i := 9) da_X7_ratio_0 rfl, rfl⟩
theorem q_X7_ratio_16 : decode M_X7_ratio.2.1 16 = .ok (.iconst 1, 1) ∧ 16 + 1 = 17 := ⟨dcAll_e (i := 10) da_X7_ratio_0 rfl, rfl⟩
theorem q_X7_ratio_17 : decode M_X7_ratio.2.1 17 = .ok (.lload_n 1, 1) ∧ 17 + 1 = 18 := ⟨dcAll_e (i := 11) da_X7_ratio_0 rfl, rfl⟩
theorem q_X7_ratio_18 : decode M_X7_ratio.2.1 18 = .ok (.lload_n 3, 1) ∧ 18 + 1 = 19 := ⟨dcAll_e (i := 12) da_X7_ratio_0 rfl, rfl⟩
theorem q_X7_ratio_19 : decode M_X7_ratio.2.1 19 = .ok (.invokevirtual 93, 3) ∧ 19 + 3 = 22 := ⟨dcAll_e (i := 13) da_X7_ratio_0 rfl, rfl⟩
theorem g_X7_ratio_19 : en_C M_X7_ratio M_X7_add 93 3 := ⟨⟨inT3 218 rfl rfl, in_X7, cd_X7_add⟩, ⟨by decide, by decide, by decide +kernel⟩, by decide, by decide⟩
theorem q_X7_ratio_22 : decode M_X7_ratio.2.1 22 = .ok (.ireturn, 1) ∧ 22 + 1 = 23 := ⟨dcAll_e (i := 14) da_X7_ratio_0 rfl, rfl⟩
def dl_X7_isX_0 : List (Nat × Instr × Nat) := [(0, .iload_n 0, 1), (1, .iconst 2, 1), (2, .if_icmp .lt 13, 3), (5, .iload_n 0, 1), (6, .ldc 97, 2), (8, .if_icmp .gt 7, 3), (11, .iconst 1, 1), (12, .goto 4, 3), (15, .iconst 0, 1), (16, .ireturn, 1)]
theorem da_X7_isX_0 : dcAll M_X7_isX.2.1 dl_X7_isX_0 = true := by decide +kernel
theorem q_X7_isX_0 : decode M_X7_isX.2.1 0 = .ok (.iload_n 0, 1) ∧ 0 + 1 = 1 := ⟨dcAll_e (i := 0) da_X7_isX_0 rfl, rfl⟩
theorem q_X7_isX_1 : decode M_X7_isX.2.1 1 = .ok (.iconst 2, 1) ∧ 1 + 1 = 2 := ⟨dcAll_e (i := 1) da_X7_isX_0 rfl, rfl⟩
theorem q_X7_isX_2 : decode M_X7_isX.2.1 2 = .ok (.if_icmp .lt 13, 3) ∧ 2 + 3 = 5 ∧ ((2 : Nat) : Int) + 13 = ((15 : Nat) : Int) := ⟨dcAll_e (i := 2) da_X7_isX_0 rfl, rfl, rfl⟩
theorem q_X7_isX_5 : decode M_X7_isX.2.1 5 = .ok (.iload_n 0, 1) ∧ 5 + 1 = 6 := ⟨dcAll_e (i := 3) da_X7_isX_0 rfl, rfl⟩
theorem q_X7_isX_6 : decode M_X7_isX.2.1 6 = .ok (.ldc 97, 2) ∧ 6 + 2 = 8 := ⟨dcAll_e (i := 4) da_X7_isX_0 rfl, rfl⟩
theorem k_RX7_97 : Cond.constant RX7 97 (nI 100000) ∈ en_tbl := by decide +kernel
theorem q_X7_isX_8 : decode M_X7_isX.2.1 8 = .ok (.if_icmp .gt 7, 3) ∧ 8 + 3 = 11 ∧ ((8 : Nat) : Int) + 7 = ((15 : Nat) : Int) := ⟨dcAll_e (i := 5) da_X7_isX_0 rfl, rfl, rfl⟩
theorem q_X7_isX_11 : decode M_X7_isX.2.1 11 = .ok (.iconst 1, 1) ∧ 11 + 1 = 12 := ⟨dcAll_e (i := 6) da_X7_isX_0 rfl, rfl⟩
theorem q_X7_isX_12 : decode M_X7_isX.2.1 12 = .ok (.goto 4, 3) ∧ 12 + 3 = 15 ∧ ((12 : Nat) : Int) + 4 = ((16 : Nat) : Int) := ⟨dcAll_e (i := 7) da_X7_isX_0 rfl, rfl, rfl⟩
theorem q_X7_isX_15 : decode M_X7_isX.2.1 15 = .ok (.iconst 0, 1) ∧ 15 + 1 = 16 := ⟨dcAll_e (i := 8) da_X7_isX_0 rfl, rfl⟩
theorem q_X7_isX_16 : decode M_X7_isX.2.1 16 = .ok (.ireturn, 1) ∧ 16 + 1 = 17 := ⟨dcAll_e (i := 9) da_X7_isX_0 rfl, rfl⟩
def dl_X7_arctan_0 : List (Nat × Instr × Nat) := [(0, .aload_n 0, 1), (1, .iconst 0, 1), (2, .putfield 43, 3), (5, .iload_n 1, 1), (6, .invokestatic 98, 3), (9, .ifCond .eq 14, 3), (12, .aload_n 0, 1), (13, .iconst 2, 1), (14, .iload_n 1, 1), (15, .i2l, 1), (16, .lconst 0, 1), (17, .invokevirtual 93, 3), (20, .goto 4, 3), (23, .iconst (-1), 1), (24, .ireturn, 1)]
theorem da_X7_arctan_0 : dcAll M_X7_arctan.2.1 dl_X7_arctan_0 = true := by decide +kernel
theorem q_X7_arctan_0 : decode M_X7_arctan.2.1 0 = .ok (.aload_n 0, 1) ∧ 0 + 1 = 1 := ⟨dcAll_e (i := 0) da_X7_arctan_0 rfl, rfl⟩
theorem q_X7_arctan_1 : decode M_X7_arctan.2.1 1 = .ok (.iconst 0, 1) ∧ 1 + 1 = 2 := ⟨dcAll_e (i := 1) da_X7_arctan_0 rfl, rfl⟩
theorem q_X7_arctan_2 : decode M_X7_arctan.2.1 2 = .ok (.putfield 43, 3) ∧ 2 + 3 = 5 := ⟨dcAll_e (i := 2) da_X7_arctan_0 rfl, rfl⟩
theorem q_X7_arctan_5 : decode M_X7_arctan.2.1 5 = .ok (.iload_n 1, 1) ∧ 5 + 1 = 6 := ⟨dcAll_e (i := 3) da_X7_arctan_0 rfl, rfl⟩
theorem q_X7_arctan_6 : decode M_X7_arctan.2.1 6 = .ok (.invokestatic 98, 3) ∧ 6 + 3 = 9 := ⟨dcAll_e (i := 4) da_X7_arctan_0 rfl, rfl⟩
theorem cd_X7_isX : Cond.code M_X7_isX.1 M_X7_isX.2.1 M_X7_isX.2.2.1 M_X7_isX.2.2.2.1 ∈ en_tbl := inT3 232 rfl rfl
theorem g_X7_arctan_6 : en_C M_X7_arctan M_X7_isX 98 1 := ⟨⟨inT3 230 rfl rfl, in_X7, cd_X7_isX⟩, ⟨by decide, by decide, by decide +kernel⟩, by decide, by decide⟩
theorem w_X7_isX : Cond.static M_X7_isX.1 ∈ en_tbl := inT3 231 rfl rfl
theorem q_X7_arctan_9 : decode M_X7_arctan.2.1 9 = .ok (.ifCond .eq 14, 3) ∧ 9 + 3 = 12 ∧ ((9 : Nat) : Int) + 14 = ((23 : Nat) : Int) := ⟨dcAll_e (i := 5) da_X7_arctan_0 rfl, rfl, rfl⟩
theorem q_X7_arctan_12 : decode M_X7_arctan.2.1 12 = .ok (.aload_n 0, 1) ∧ 12 + 1 = 13 := ⟨dcAll_e (i := 6) da_X7_arctan_0 rfl, rfl⟩
theorem q_X7_arctan_13 : decode M_X7_arctan.2.1 13 = .ok (.iconst 2, 1) ∧ 13 + 1 = 14 := ⟨dcAll_e (i := 7) da_X7_arctan_0 rfl, rfl⟩
theorem q_X7_arctan_14 : decode M_X7_arctan.2.1 14 = .ok (.iload_n 1, 1) ∧ 14 + 1 = 15 := ⟨dcAll_e (i := 8) da_X7_arctan_0 rfl, rfl⟩
theorem q_X7_arctan_15 : decode M_X7_arctan.2.1 15 = .ok (.i2l, 1) ∧ 15 + 1 = 16 := ⟨dcAll_e (i := 9) da_X7_arctan_0 rfl, rfl⟩
theorem q_X7_arctan_16 : decode M_X7_arctan.2.1 16 = .ok (.lconst 0, 1) ∧ 16 + 1 = 17 := ⟨dcAll_e (i := 10) da_X7_arctan_0 rfl, rfl⟩
theorem q_X7_arctan_17 : decode M_X7_arctan.2.1 17 = .ok (.invokevirtual 93, 3) ∧ 17 + 3 = 20 := ⟨dcAll_e (i := 11) da_X7_arctan_0 rfl, rfl⟩
theorem g_X7_arctan_17 : en_C M_X7_arctan M_X7_add 93 3 := ⟨⟨inT3 218 rfl rfl, in_X7, cd_X7_add⟩, ⟨by decide, by decide, by decide +kernel⟩, by decide, by decide⟩
theorem q_X7_arctan_20 : decode M_X7_arctan.2.1 20 = .ok (.goto 4, 3) ∧ 20 + 3 = 23 ∧ ((20 : Nat) : Int) + 4 = ((24 : Nat) : Int) := ⟨dcAll_e (i := 12) da_X7_arctan_0 rfl, rfl, rfl⟩
theorem q_X7_arctan_23 : decode M_X7_arctan.2.1 23 = .ok (.iconst (-1), 1) ∧ 23 + 1 = 24 := ⟨dcAll_e (i := 13) da_X7_arctan_0 rfl, rfl⟩
theorem q_X7_arctan_24 : decode M_X7_arctan.2.1 24 = .ok (.ireturn, 1) ∧ 24 + 1 = 25 := ⟨dcAll_e (i := 14) da_X7_arctan_0 rfl, rfl⟩
def dl_X7_artanh_0 : List (Nat × Instr × Nat) := [(0, .aload_n 0, 1), (1, .iconst 0, 1), (2, .putfield 43, 3), (5, .iload_n 1, 1), (6, .invokestatic 98, 3), (9, .ifCond .eq 14, 3), (12, .aload_n 0, 1), (13, .iconst 3, 1), (14, .iload_n 1, 1), (15, .i2l, 1), (16, .lconst 0, 1), (17, .invokevirtual 93, 3), (20, .goto 4, 3), (23, .iconst (-1), 1), (24, .ireturn, 1)]
theorem da_X7_artanh_0 : dcAll M_X7_artanh.2.1 dl_X7_artanh_0 = true := by decide +kernel
theorem q_X7_artanh_0 : decode M_X7_artanh.2.1 0 = .ok (.aload_n 0, 1) ∧ 0 + 1 = 1 := ⟨dcAll_e (i := 0) da_X7_artanh_0 rfl, rfl⟩
theorem q_X7_artanh_1 : decode M_X7_artanh.2.1 1 = .ok (.iconst 0, 1) ∧ 1 + 1 = 2 := ⟨dcAll_e (i := 1) da_X7_artanh_0 rfl, rfl⟩
theorem q_X7_artanh_2 : decode M_X7_artanh.2.1 2 = .ok (.putfield 43, 3) ∧ 2 + 3 = 5 := ⟨dcAll_e (i := 2) da_X7_artanh_0 rfl, rfl⟩
theorem q_X7_artanh_5 : decode M_X7_artanh.2.1 5 = .ok (.iload_n 1, 1) ∧ 5 + 1 = 6 := ⟨dcAll_e (i := 3) da_X7_artanh_0 rfl, rfl⟩
theorem q_X7_artanh_6 : decode M_X7_artanh.2.1 6 = .ok (.invokestatic 98, 3) ∧ 6 + 3 = 9 := ⟨dcAll_e (i := 4) da_X7_artanh_0 rfl, rfl⟩
theorem g_X7_artanh_6 : en_C M_X7_artanh M_X7_isX 98 1 := ⟨⟨inT3 230 rfl rfl, in_X7, cd_X7_isX⟩, ⟨by decide, by decide, by decide +kernel⟩, by decide, by decide⟩
theorem q_X7_artanh_9 : decode M_X7_artanh.2.1 9 = .ok (.ifCond .eq 14, 3) ∧ 9 + 3 = 12 ∧ ((9 : Nat) : Int) + 14 = ((23 : Nat) : Int) := ⟨dcAll_e (i := 5) da_X7_artanh_0 rfl, rfl, rfl⟩
theorem q_X7_artanh_12 : decode M_X7_artanh.2.1 12 = .ok (.aload_n 0, 1) ∧ 12 + 1 = 13 := ⟨dcAll_e (i := 6) da_X7_artanh_0 rfl, rfl⟩
theorem q_X7_artanh_13 : decode M_X7_artanh.2.1 13 = .ok (.iconst 3, 1) ∧ 13 + 1 = 14 := ⟨dcAll_e (i := 7) da_X7_artanh_0 rfl, rfl⟩
theorem q_X7_artanh_14 : decode M_X7_artanh.2.1 14 = .ok (.iload_n 1, 1) ∧ 14 + 1 = 15 := ⟨dcAll_e (i := 8) da_X7_artanh_0 rfl, rfl⟩
theorem q_X7_artanh_15 : decode M_X7_artanh.2.1 15 = .ok (.i2l, 1) ∧ 15 + 1 = 16 := ⟨dcAll_e (i := 9) da_X7_artanh_0 rfl, rfl⟩
theorem q_X7_artanh_16 : decode M_X7_artanh.2.1 16 = .ok (.lconst 0, 1) ∧ 16 + 1 = 17 := ⟨dcAll_e (i := 10) da_X7_artanh_0 rfl, rfl⟩
theorem q_X7_artanh_17 : decode M_X7_artanh.2.1 17 = .ok (.invokevirtual 93, 3) ∧ 17 + 3 = 20 := ⟨dcAll_e (i := 11) da_X7_artanh_0 rfl, rfl⟩
theorem g_X7_artanh_17 : en_C M_X7_artanh M_X7_add 93 3 := ⟨⟨inT3 218 rfl rfl, in_X7, cd_X7_add⟩, ⟨by decide, by decide, by decide +kernel⟩, by decide, by decide⟩
theorem q_X7_artanh_20 : decode M_X7_artanh.2.1 20 = .ok (.goto 4, 3) ∧ 20 + 3 = 23 ∧ ((20 : Nat) : Int) + 4 = ((24 : Nat) : Int) := ⟨dcAll_e (i := 12) da_X7_artanh_0 rfl, rfl, rfl⟩
theorem q_X7_artanh_23 : decode M_X7_artanh.2.1 23 = .ok (.iconst (-1), 1) ∧ 23 + 1 = 24 := ⟨dcAll_e (i := 13) da_X7_artanh_0 rfl, rfl⟩
theorem q_X7_artanh_24 : decode M_X7_artanh.2.1 24 = .ok (.ireturn, 1) ∧ 24 + 1 = 25 := ⟨dcAll_e (i := 14) da_X7_artanh_0 rfl, rfl⟩
def dl_X7_power_0 : List (Nat × Instr × Nat) := [(0, .aload_n 0, 1), (1, .iconst 0, 1), (2, .putfield 43, 3), (5, .iload_n 2, 1), (6, .iconst 1, 1), (7, .if_icmp .lt 29, 3), (10, .iload_n 2, 1), (11, .sipush 1000, 3), (14, .if_icmp .gt 22, 3), (17, .iload_n 1, 1), (18, .ifCond .eq 18, 3), (21, .iload_n 1, 1), (22, .bipush (-5), 2), (24, .iload_n 2, 1), (25, .imul, 1), (26, .if_icmp .lt 10, 3), (29, .iload_n 1, 1), (30, .iconst 5, 1), (31, .iload_n 2, 1), (32, .imul, 1), (33, .if_icmp .le 7, 3), (36, .iconst (-1), 1), (37, .goto 12, 3), (40, .aload_n 0, 1), (41, .iconst 4, 1), (42, .iload_n 1, 1), (43, .i2l, 1), (44, .iload_n 2, 1), (45, .i2l, 1), (46, .invokevirtual 93, 3), (49, .ireturn, 1)]
theorem da_X7_power_0 : dcAll M_X7_power.2.1 dl_X7_power_0 = true := by decide +kernel
theorem q_X7_power_0 : decode M_X7_power.2.1 0 = .ok (.aload_n 0, 1) ∧ 0 + 1 = 1 := ⟨dcAll_e (i := 0) da_X7_power_0 rfl, rfl⟩
theorem q_X7_power_1 : decode M_X7_power.2.1 1 = .ok (.iconst 0, 1) ∧ 1 + 1 = 2 := ⟨dcAll_e (i := 1) da_X7_power_0 rfl, rfl⟩
theorem q_X7_power_2 : decode M_X7_power.2.1 2 = .ok (.putfield 43, 3) ∧ 2 + 3 = 5 := ⟨dcAll_e (i := 2) da_X7_power_0 rfl, rfl⟩
theorem q_X7_power_5 : decode M_X7_power.2.1 5 = .ok (.iload_n 2, 1) ∧ 5 + 1 = 6 := ⟨dcAll_e (i := 3) da_X7_power_0 rfl, rfl⟩
theorem q_X7_power_6 : decode M_X7_power.2.1 6 = .ok (.iconst 1, 1) ∧ 6 + 1 = 7 := ⟨dcAll_e (i := 4) da_X7_power_0 rfl, rfl⟩
theorem q_X7_power_7 : decode M_X7_power.2.1 7 = .ok (.if_icmp .lt 29, 3) ∧ 7 + 3 = 10 ∧ ((7 : Nat) : Int) + 29 = ((36 : Nat) : Int) := ⟨dcAll_e (i := 5) da_X7_power_0 rfl, rfl, rfl⟩
theorem q_X7_power_10 : decode M_X7_power.2.1 10 = .ok (.iload_n 2, 1) ∧ 10 + 1 = 11 := ⟨dcAll_e (i := 6) da_X7_power_0 rfl, rfl⟩
theorem q_X7_power_11 : decode M_X7_power.2.1 11 = .ok (.sipush 1000, 3) ∧ 11 + 3 = 14 := ⟨dcAll_e (i := 7) da_X7_power_0 rfl, rfl⟩
theorem q_X7_power_14 : decode M_X7_power.2.1 14 = .ok (.if_icmp .gt 22, 3) ∧ 14 + 3 = 17 ∧ ((14 : Nat) : Int) + 22 = ((36 : Nat) : Int) := ⟨dcAll_e (i := 8) da_X7_power_0 rfl, rfl, rfl⟩
theorem q_X7_power_17 : decode M_X7_power.2.1 17 = .ok (.iload_n 1, 1) ∧ 17 + 1 = 18 := ⟨dcAll_e (i := 9) da_X7_power_0 rfl, rfl⟩
theorem q_X7_power_18 : decode M_X7_power.2.1 18 = .ok (.ifCond .eq 18, 3) ∧ 18 + 3 = 21 ∧ ((18 : Nat) : Int) + 18 = ((36 : Nat) : Int) := ⟨dcAll_e (i := 10) da_X7_power_0 rfl, rfl, rfl⟩
theorem q_X7_power_21 : decode M_X7_power.2.1 21 = .ok (.iload_n 1, 1) ∧ 21 + 1 = 22 := ⟨dcAll_e (i := 11) da_X7_power_0 rfl, rfl⟩
theorem q_X7_power_22 : decode M_X7_power.2.1 22 = .ok (.bipush (-5), 2) ∧ 22 + 2 = 24 := ⟨dcAll_e (i := 12) da_X7_power_0 rfl, rfl⟩
theorem q_X7_power_24 : decode M_X7_power.2.1 24 = .ok (.iload_n 2, 1) ∧ 24 + 1 = 25 := ⟨dcAll_e (i := 13) da_X7_power_0 rfl, rfl⟩
theorem q_X7_power_25 : decode M_X7_power.2.1 25 = .ok (.imul, 1) ∧ 25 + 1 = 26 := ⟨dcAll_e (i := 14) da_X7_power_0 rfl, rfl⟩
theorem q_X7_power_26 : decode M_X7_power.2.1 26 = .ok (.if_icmp .lt 10, 3) ∧ 26 + 3 = 29 ∧ ((26 : Nat) : Int) + 10 = ((36 : Nat) : Int) := ⟨dcAll_e (i := 15) da_X7_power_0 rfl, rfl, rfl⟩
theorem q_X7_power_29 : decode M_X7_power.2.1 29 = .ok (.iload_n 1, 1) ∧ 29 + 1 = 30 := ⟨dcAll_e (i := 16) da_X7_power_0 rfl, rfl⟩
theorem q_X7_power_30 : decode M_X7_power.2.1 30 = .ok (.iconst 5, 1) ∧ 30 + 1 = 31 := ⟨dcAll_e (i := 17) da_X7_power_0 rfl, rfl⟩
theorem q_X7_power_31 : decode M_X7_power.2.1 31 = .ok (.iload_n 2, 1) ∧ 31 + 1 = 32 := ⟨dcAll_e (i := 18) da_X7_power_0 rfl, rfl⟩
theorem q_X7_power_32 : decode M_X7_power.2.1 32 = .ok (.imul, 1) ∧ 32 + 1 = 33 := ⟨dcAll_e (i := 19) da_X7_power_0 rfl, rfl⟩
theorem q_X7_power_33 : decode M_X7_power.2.1 33 = .ok (.if_icmp .le 7, 3) ∧ 33 + 3 = 36 ∧ ((33 : Nat) : Int) + 7 = ((40 : Nat) : Int) := ⟨dcAll_e (i := 20) da_X7_power_0 rfl, rfl, rfl⟩
theorem q_X7_power_36 : decode M_X7_power.2.1 36 = .ok (.iconst (-1), 1) ∧ 36 + 1 = 37 := ⟨dcAll_e (i := 21) da_X7_power_0 rfl, rfl⟩
theorem q_X7_power_37 : decode M_X7_power.2.1 37 = .ok (.goto 12, 3) ∧ 37 + 3 = 40 ∧ ((37 : Nat) : Int) + 12 = ((49 : Nat) : Int) := ⟨dcAll_e (i := 22) da_X7_power_0 rfl, rfl, rfl⟩
theorem q_X7_power_40 : decode M_X7_power.2.1 40 = .ok (.aload_n 0, 1) ∧ 40 + 1 = 41 := ⟨dcAll_e (i := 23) da_X7_power_0 rfl, rfl⟩
theorem q_X7_power_41 : decode M_X7_power.2.1 41 = .ok (.iconst 4, 1) ∧ 41 + 1 = 42 := ⟨dcAll_e (i := 24) da_X7_power_0 rfl, rfl⟩
theorem q_X7_power_42 : decode M_X7_power.2.1 42 = .ok (.iload_n 1, 1) ∧ 42 + 1 = 43 := ⟨dcAll_e (i := 25) da_X7_power_0 rfl, rfl⟩
theorem q_X7_power_43 : decode M_X7_power.2.1 43 = .ok (.i2l, 1) ∧ 43 + 1 = 44 := ⟨dcAll_e (i := 26) da_X7_power_0 rfl, rfl⟩
theorem q_X7_power_44 : decode M_X7_power.2.1 44 = .ok (.iload_n 2, 1) ∧ 44 + 1 = 45 := ⟨dcAll_e (i := 27) da_X7_power_0 rfl, rfl⟩
theorem q_X7_power_45 : decode M_X7_power.2.1 45 = .ok (.i2l, 1) ∧ 45 + 1 = 46 := ⟨dcAll_e (i := 28) da_X7_power_0 rfl, rfl⟩
theorem q_X7_power_46 : decode M_X7_power.2.1 46 = .ok (.invokevirtual 93, 3) ∧ 46 + 3 = 49 := ⟨dcAll_e (i := 29) da_X7_power_0 rfl, rfl⟩
theorem g_X7_power_46 : en_C M_X7_power M_X7_add 93 3 := ⟨⟨inT3 218 rfl rfl, in_X7, cd_X7_add⟩, ⟨by decide, by decide, by decide +kernel⟩, by decide, by decide⟩
theorem q_X7_power_49 : decode M_X7_power.2.1 49 = .ok (.ireturn, 1) ∧ 49 + 1 = 50 := ⟨dcAll_e (i := 30) da_X7_power_0 rfl, rfl⟩
def dl_X7_isValue_0 : List (Nat × Instr × Nat) := [(0, .iload_n 1, 1), (1, .ifCond .lt 15, 3), (4, .iload_n 1, 1), (5, .aload_n 0, 1), (6, .getfield 90, 3), (9, .if_icmp .ge 7, 3), (12, .iconst 1, 1), (13, .goto 4, 3), (16, .iconst 0, 1), (17, .ireturn, 1)]
theorem da_X7_isValue_0 : dcAll M_X7_isValue.2.1 dl_X7_isValue_0 = true := by decide +kernel
theorem q_X7_isValue_0 : decode M_X7_isValue.2.1 0 = .ok (.iload_n 1, 1) ∧ 0 + 1 = 1 := ⟨dcAll_e (i := 0) da_X7_isValue_0 rfl, rfl⟩
theorem q_X7_isValue_1 : decode M_X7_isValue.2.1 1 = .ok (.ifCond .lt 15, 3) ∧ 1 + 3 = 4 ∧ ((1 : Nat) : Int) + 15 = ((16 : Nat) : Int) := ⟨dcAll_e (i := 1) da_X7_isValue_0 rfl, rfl, rfl⟩
theorem q_X7_isValue_4 : decode M_X7_isValue.2.1 4 = .ok (.iload_n 1, 1) ∧ 4 + 1 = 5 := ⟨dcAll_e (i := 2) da_X7_isValue_0 rfl, rfl⟩
theorem q_X7_isValue_5 : decode M_X7_isValue.2.1 5 = .ok (.aload_n 0, 1) ∧ 5 + 1 = 6 := ⟨dcAll_e (i := 3) da_X7_isValue_0 rfl, rfl⟩
theorem q_X7_isValue_6 : decode M_X7_isValue.2.1 6 = .ok (.getfield 90, 3) ∧ 6 + 3 = 9 := ⟨dcAll_e (i := 4) da_X7_isValue_0 rfl, rfl⟩
theorem q_X7_isValue_9 : decode M_X7_isValue.2.1 9 = .ok (.if_icmp .ge 7, 3) ∧ 9 + 3 = 12 ∧ ((9 : Nat) : Int) + 7 = ((16 : Nat) : Int) := ⟨dcAll_e (i := 5) da_X7_isValue_0 rfl, rfl, rfl⟩
theorem q_X7_isValue_12 : decode M_X7_isValue.2.1 12 = .ok (.iconst 1, 1) ∧ 12 + 1 = 13 := ⟨dcAll_e (i := 6) da_X7_isValue_0 rfl, rfl⟩
theorem q_X7_isValue_13 : decode M_X7_isValue.2.1 13 = .ok (.goto 4, 3) ∧ 13 + 3 = 16 ∧ ((13 : Nat) : Int) + 4 = ((17 : Nat) : Int) := ⟨dcAll_e (i := 7) da_X7_isValue_0 rfl, rfl, rfl⟩
theorem q_X7_isValue_16 : decode M_X7_isValue.2.1 16 = .ok (.iconst 0, 1) ∧ 16 + 1 = 17 := ⟨dcAll_e (i := 8) da_X7_isValue_0 rfl, rfl⟩
theorem q_X7_isValue_17 : decode M_X7_isValue.2.1 17 = .ok (.ireturn, 1) ∧ 17 + 1 = 18 := ⟨dcAll_e (i := 9) da_X7_isValue_0 rfl, rfl⟩
def dl_X7_root_0 : List (Nat × Instr × Nat) := [(0, .aload_n 0, 1), (1, .iconst 0, 1), (2, .putfield 43, 3), (5, .aload_n 0, 1), (6, .iload_n 1, 1), (7, .invokevirtual 102, 3), (10, .ifCond .eq 14, 3), (13, .aload_n 0, 1), (14, .iconst 5, 1), (15, .iload_n 1, 1), (16, .i2l, 1), (17, .lconst 0, 1), (18, .invokevirtual 93, 3), (21, .goto 4, 3), (24, .iconst (-1), 1), (25, .ireturn, 1)]
theorem da_X7_root_0 : dcAll M_X7_root.2.1 dl_X7_root_0 = true := by decide +kernel
theorem q_X7_root_0 : decode M_X7_root.2.1 0 = .ok (.aload_n 0, 1) ∧ 0 + 1 = 1 := ⟨dcAll_e (i := 0) da_X7_root_0 rfl, rfl⟩
theorem q_X7_root_1 : decode M_X7_root.2.1 1 = .ok (.iconst 0, 1) ∧ 1 + 1 = 2 := ⟨dcAll_e (i := 1) da_X7_root_0 rfl, rfl⟩
theorem q_X7_root_2 : decode M_X7_root.2.1 2 = .ok (.putfield 43, 3) ∧ 2 + 3 = 5 := ⟨dcAll_e (i := 2) da_X7_root_0 rfl, rfl⟩
theorem q_X7_root_5 : decode M_X7_root.2.1 5 = .ok (.aload_n 0, 1) ∧ 5 + 1 = 6 := ⟨dcAll_e (i := 3) da_X7_root_0 rfl, rfl⟩
theorem q_X7_root_6 : decode M_X7_root.2.1 6 = .ok (.iload_n 1, 1) ∧ 6 + 1 = 7 := ⟨dcAll_e (i := 4) da_X7_root_0 rfl, rfl⟩
theorem q_X7_root_7 : decode M_X7_root.2.1 7 = .ok (.invokevirtual 102, 3) ∧ 7 + 3 = 10 := ⟨dcAll_e (i := 5) da_X7_root_0 rfl, rfl⟩
theorem cd_X7_isValue : Cond.code M_X7_isValue.1 M_X7_isValue.2.1 M_X7_isValue.2.2.1 M_X7_isValue.2.2.2.1 ∈ en_tbl := inT4 9 rfl rfl
theorem g_X7_root_7 : en_C M_X7_root M_X7_isValue 102 1 := ⟨⟨inT4 6 rfl rfl, in_X7, cd_X7_isValue⟩, ⟨by decide, by decide, by decide +kernel⟩, by decide, by decide⟩
theorem w_X7_isValue : Cond.instanceMethod M_X7_isValue.1 ∈ en_tbl ∧ Cond.selects M_X7_isValue.1.cls M_X7_isValue.1 M_X7_isValue.1 ∈ en_tbl := ⟨inT4 8 rfl rfl, by decide +kernel⟩
theorem q_X7_root_10 : decode M_X7_root.2.1 10 = .ok (.ifCond .eq 14, 3) ∧ 10 + 3 = 13 ∧ ((10 : Nat) : Int) + 14 = ((24 : Nat) : Int) := ⟨dcAll_e (i := 6) da_X7_root_0 rfl, rfl, rfl⟩
theorem q_X7_root_13 : decode M_X7_root.2.1 13 = .ok (.aload_n 0, 1) ∧ 13 + 1 = 14 := ⟨dcAll_e (i := 7) da_X7_root_0 rfl, rfl⟩
theorem q_X7_root_14 : decode M_X7_root.2.1 14 = .ok (.iconst 5, 1) ∧ 14 + 1 = 15 := ⟨dcAll_e (i := 8) da_X7_root_0 rfl, rfl⟩
theorem q_X7_root_15 : decode M_X7_root.2.1 15 = .ok (.iload_n 1, 1) ∧ 15 + 1 = 16 := ⟨dcAll_e (i := 9) da_X7_root_0 rfl, rfl⟩
theorem q_X7_root_16 : decode M_X7_root.2.1 16 = .ok (.i2l, 1) ∧ 16 + 1 = 17 := ⟨dcAll_e (i := 10) da_X7_root_0 rfl, rfl⟩
theorem q_X7_root_17 : decode M_X7_root.2.1 17 = .ok (.lconst 0, 1) ∧ 17 + 1 = 18 := ⟨dcAll_e (i := 11) da_X7_root_0 rfl, rfl⟩
theorem q_X7_root_18 : decode M_X7_root.2.1 18 = .ok (.invokevirtual 93, 3) ∧ 18 + 3 = 21 := ⟨dcAll_e (i := 12) da_X7_root_0 rfl, rfl⟩
theorem g_X7_root_18 : en_C M_X7_root M_X7_add 93 3 := ⟨⟨inT3 218 rfl rfl, in_X7, cd_X7_add⟩, ⟨by decide, by decide, by decide +kernel⟩, by decide, by decide⟩
theorem q_X7_root_21 : decode M_X7_root.2.1 21 = .ok (.goto 4, 3) ∧ 21 + 3 = 24 ∧ ((21 : Nat) : Int) + 4 = ((25 : Nat) : Int) := ⟨dcAll_e (i := 13) da_X7_root_0 rfl, rfl, rfl⟩
theorem q_X7_root_24 : decode M_X7_root.2.1 24 = .ok (.iconst (-1), 1) ∧ 24 + 1 = 25 := ⟨dcAll_e (i := 14) da_X7_root_0 rfl, rfl⟩
theorem q_X7_root_25 : decode M_X7_root.2.1 25 = .ok (.ireturn, 1) ∧ 25 + 1 = 26 := ⟨dcAll_e (i := 15) da_X7_root_0 rfl, rfl⟩
def dl_X7_join_0 : List (Nat × Instr × Nat) := [(0, .aload_n 0, 1), (1, .iconst 0, 1), (2, .putfield 43, 3), (5, .iload_n 1, 1), (6, .ifCond .lt 24, 3), (9, .iload_n 1, 1), (10, .iconst 3, 1), (11, .if_icmp .gt 19, 3), (14, .aload_n 0, 1), (15, .iload_n 2, 1), (16, .invokevirtual 102, 3), (19, .ifCond .eq 11, 3), (22, .aload_n 0, 1), (23, .iload_n 3, 1), (24, .invokevirtual 102, 3), (27, .ifCond .ne 7, 3), (30, .iconst (-1), 1), (31, .goto 15, 3), (34, .aload_n 0, 1), (35, .bipush 6, 2), (37, .iload_n 1, 1), (38, .iadd, 1), (39, .iload_n 2, 1), (40, .i2l, 1), (41, .iload_n 3, 1), (42, .i2l, 1), (43, .invokevirtual 93, 3), (46, .ireturn, 1)]
theorem da_X7_join_0 : dcAll M_X7_join.2.1 dl_X7_join_0 = true := by decide +kernel
theorem q_X7_join_0 : decode M_X7_join.2.1 0 = .ok (.aload_n 0, 1) ∧ 0 + 1 = 1 := ⟨dcAll_e (i := 0) da_X7_join_0 rfl, rfl⟩
theorem q_X7_join_1 : decode M_X7_join.2.1 1 = .ok (.iconst 0, 1) ∧ 1 + 1 = 2 := ⟨dcAll_e (i := 1) da_X7_join_0 rfl, rfl⟩
theorem q_X7_join_2 : decode M_X7_join.2.1 2 = .ok (.putfield 43, 3) ∧ 2 + 3 = 5 := ⟨dcAll_e (i := 2) da_X7_join_0 rfl, rfl⟩
theorem q_X7_join_5 : decode M_X7_join.2.1 5 = .ok (.iload_n 1, 1) ∧ 5 + 1 = 6 := ⟨dcAll_e (i := 3) da_X7_join_0 rfl, rfl⟩
theorem q_X7_join_6 : decode M_X7_join.2.1 6 = .ok (.ifCond .lt 24, 3) ∧ 6 + 3 = 9 ∧ ((6 : Nat) : Int) + 24 = ((30 : Nat) : Int) := ⟨dcAll_e (i := 4) da_X7_join_0 rfl, rfl, rfl⟩
theorem q_X7_join_9 : decode M_X7_join.2.1 9 = .ok (.iload_n 1, 1) ∧ 9 + 1 = 10 := ⟨dcAll_e (i := 5) da_X7_join_0 rfl, rfl⟩
theorem q_X7_join_10 : decode M_X7_join.2.1 10 = .ok (.iconst 3, 1) ∧ 10 + 1 = 11 := ⟨dcAll_e (i := 6) da_X7_join_0 rfl, rfl⟩
theorem q_X7_join_11 : decode M_X7_join.2.1 11 = .ok (.if_icmp .gt 19, 3) ∧ 11 + 3 = 14 ∧ ((11 : Nat) : Int) + 19 = ((30 : Nat) : Int) := ⟨dcAll_e (i := 7) da_X7_join_0 rfl, rfl, rfl⟩
theorem q_X7_join_14 : decode M_X7_join.2.1 14 = .ok (.aload_n 0, 1) ∧ 14 + 1 = 15 := ⟨dcAll_e (i := 8) da_X7_join_0 rfl, rfl⟩
theorem q_X7_join_15 : decode M_X7_join.2.1 15 = .ok (.iload_n 2, 1) ∧ 15 + 1 = 16 := ⟨dcAll_e (i := 9) da_X7_join_0 rfl, rfl⟩
theorem q_X7_join_16 : decode M_X7_join.2.1 16 = .ok (.invokevirtual 102, 3) ∧ 16 + 3 = 19 := ⟨dcAll_e (i := 10) da_X7_join_0 rfl, rfl⟩
theorem g_X7_join_16 : en_C M_X7_join M_X7_isValue 102 1 := ⟨⟨inT4 6 rfl rfl, in_X7, cd_X7_isValue⟩, ⟨by decide, by decide, by decide +kernel⟩, by decide, by decide⟩
theorem q_X7_join_19 : decode M_X7_join.2.1 19 = .ok (.ifCond .eq 11, 3) ∧ 19 + 3 = 22 ∧ ((19 : Nat) : Int) + 11 = ((30 : Nat) : Int) := ⟨dcAll_e (i := 11) da_X7_join_0 rfl, rfl, rfl⟩
theorem q_X7_join_22 : decode M_X7_join.2.1 22 = .ok (.aload_n 0, 1) ∧ 22 + 1 = 23 := ⟨dcAll_e (i := 12) da_X7_join_0 rfl, rfl⟩
theorem q_X7_join_23 : decode M_X7_join.2.1 23 = .ok (.iload_n 3, 1) ∧ 23 + 1 = 24 := ⟨dcAll_e (i := 13) da_X7_join_0 rfl, rfl⟩
theorem q_X7_join_24 : decode M_X7_join.2.1 24 = .ok (.invokevirtual 102, 3) ∧ 24 + 3 = 27 := ⟨dcAll_e (i := 14) da_X7_join_0 rfl, rfl⟩
theorem g_X7_join_24 : en_C M_X7_join M_X7_isValue 102 1 := ⟨⟨inT4 6 rfl rfl, in_X7, cd_X7_isValue⟩, ⟨by decide, by decide, by decide +kernel⟩, by decide, by decide⟩
theorem q_X7_join_27 : decode M_X7_join.2.1 27 = .ok (.ifCond .ne 7, 3) ∧ 27 + 3 = 30 ∧ ((27 : Nat) : Int) + 7 = ((34 : Nat) : Int) := ⟨dcAll_e (i := 15) da_X7_join_0 rfl, rfl, rfl⟩
theorem q_X7_join_30 : decode M_X7_join.2.1 30 = .ok (.iconst (-1), 1) ∧ 30 + 1 = 31 := ⟨dcAll_e (i := 16) da_X7_join_0 rfl, rfl⟩
theorem q_X7_join_31 : decode M_X7_join.2.1 31 = .ok (.goto 15, 3) ∧ 31 + 3 = 34 ∧ ((31 : Nat) : Int) + 15 = ((46 : Nat) : Int) := ⟨dcAll_e (i := 17) da_X7_join_0 rfl, rfl, rfl⟩
theorem q_X7_join_34 : decode M_X7_join.2.1 34 = .ok (.aload_n 0, 1) ∧ 34 + 1 = 35 := ⟨dcAll_e (i := 18) da_X7_join_0 rfl, rfl⟩
theorem q_X7_join_35 : decode M_X7_join.2.1 35 = .ok (.bipush 6, 2) ∧ 35 + 2 = 37 := ⟨dcAll_e (i := 19) da_X7_join_0 rfl, rfl⟩
theorem q_X7_join_37 : decode M_X7_join.2.1 37 = .ok (.iload_n 1, 1) ∧ 37 + 1 = 38 := ⟨dcAll_e (i := 20) da_X7_join_0 rfl, rfl⟩
theorem q_X7_join_38 : decode M_X7_join.2.1 38 = .ok (.iadd, 1) ∧ 38 + 1 = 39 := ⟨dcAll_e (i := 21) da_X7_join_0 rfl, rfl⟩
theorem q_X7_join_39 : decode M_X7_join.2.1 39 = .ok (.iload_n 2, 1) ∧ 39 + 1 = 40 := ⟨dcAll_e (i := 22) da_X7_join_0 rfl, rfl⟩
theorem q_X7_join_40 : decode M_X7_join.2.1 40 = .ok (.i2l, 1) ∧ 40 + 1 = 41 := ⟨dcAll_e (i := 23) da_X7_join_0 rfl, rfl⟩
theorem q_X7_join_41 : decode M_X7_join.2.1 41 = .ok (.iload_n 3, 1) ∧ 41 + 1 = 42 := ⟨dcAll_e (i := 24) da_X7_join_0 rfl, rfl⟩
theorem q_X7_join_42 : decode M_X7_join.2.1 42 = .ok (.i2l, 1) ∧ 42 + 1 = 43 := ⟨dcAll_e (i := 25) da_X7_join_0 rfl, rfl⟩
theorem q_X7_join_43 : decode M_X7_join.2.1 43 = .ok (.invokevirtual 93, 3) ∧ 43 + 3 = 46 := ⟨dcAll_e (i := 26) da_X7_join_0 rfl, rfl⟩
theorem g_X7_join_43 : en_C M_X7_join M_X7_add 93 3 := ⟨⟨inT3 218 rfl rfl, in_X7, cd_X7_add⟩, ⟨by decide, by decide, by decide +kernel⟩, by decide, by decide⟩
theorem q_X7_join_46 : decode M_X7_join.2.1 46 = .ok (.ireturn, 1) ∧ 46 + 1 = 47 := ⟨dcAll_e (i := 27) da_X7_join_0 rfl, rfl⟩
def dl_X7_drop_0 : List (Nat × Instr × Nat) := [(0, .aload_n 0, 1), (1, .iconst 0, 1), (2, .putfield 43, 3), (5, .iload_n 1, 1), (6, .ifCond .lt 11, 3), (9, .iload_n 1, 1), (10, .aload_n 0, 1), (11, .getfield 90, 3), (14, .if_icmp .le 5, 3), (17, .iconst (-1), 1), (18, .ireturn, 1), (19, .aload_n 0, 1), (20, .getfield 90, 3), (23, .istore_n 2, 1), (24, .aload_n 0, 1), (25, .iload_n 1, 1), (26, .putfield 90, 3), (29, .iload_n 2, 1), (30, .ireturn, 1)]
theorem da_X7_drop_0 : dcAll M_X7_drop.2.1 dl_X7_drop_0 = true := by decide +kernel
theorem q_X7_drop_0 : decode M_X7_drop.2.1 0 = .ok (.aload_n 0, 1) ∧ 0 + 1 = 1 := ⟨dcAll_e (i := 0) da_X7_drop_0 rfl, rfl⟩
theorem q_X7_drop_1 : decode M_X7_drop.2.1 1 = .ok (.iconst 0, 1) ∧ 1 + 1 = 2 := ⟨dcAll_e (i := 1) da_X7_drop_0 rfl, rfl⟩
theorem q_X7_drop_2 : decode M_X7_drop.2.1 2 = .ok (.putfield 43, 3) ∧ 2 + 3 = 5 := ⟨dcAll_e (i := 2) da_X7_drop_0 rfl, rfl⟩
theorem q_X7_drop_5 : decode M_X7_drop.2.1 5 = .ok (.iload_n 1, 1) ∧ 5 + 1 = 6 := ⟨dcAll_e (i := 3) da_X7_drop_0 rfl, rfl⟩
theorem q_X7_drop_6 : decode M_X7_drop.2.1 6 = .ok (.ifCond .lt 11, 3) ∧ 6 + 3 = 9 ∧ ((6 : Nat) : Int) + 11 = ((17 : Nat) : Int) := ⟨dcAll_e (i := 4) da_X7_drop_0 rfl, rfl, rfl⟩
theorem q_X7_drop_9 : decode M_X7_drop.2.1 9 = .ok (.iload_n 1, 1) ∧ 9 + 1 = 10 := ⟨dcAll_e (i := 5) da_X7_drop_0 rfl, rfl⟩
theorem q_X7_drop_10 : decode M_X7_drop.2.1 10 = .ok (.aload_n 0, 1) ∧ 10 + 1 = 11 := ⟨dcAll_e (i := 6) da_X7_drop_0 rfl, rfl⟩
theorem q_X7_drop_11 : decode M_X7_drop.2.1 11 = .ok (.getfield 90, 3) ∧ 11 + 3 = 14 := ⟨dcAll_e (i := 7) da_X7_drop_0 rfl, rfl⟩
theorem q_X7_drop_14 : decode M_X7_drop.2.1 14 = .ok (.if_icmp .le 5, 3) ∧ 14 + 3 = 17 ∧ ((14 : Nat) : Int) + 5 = ((19 : Nat) : Int) := ⟨dcAll_e (i := 8) da_X7_drop_0 rfl, rfl, rfl⟩
theorem q_X7_drop_17 : decode M_X7_drop.2.1 17 = .ok (.iconst (-1), 1) ∧ 17 + 1 = 18 := ⟨dcAll_e (i := 9) da_X7_drop_0 rfl, rfl⟩
theorem q_X7_drop_18 : decode M_X7_drop.2.1 18 = .ok (.ireturn, 1) ∧ 18 + 1 = 19 := ⟨dcAll_e (i := 10) da_X7_drop_0 rfl, rfl⟩
theorem q_X7_drop_19 : decode M_X7_drop.2.1 19 = .ok (.aload_n 0, 1) ∧ 19 + 1 = 20 := ⟨dcAll_e (i := 11) da_X7_drop_0 rfl, rfl⟩
theorem q_X7_drop_20 : decode M_X7_drop.2.1 20 = .ok (.getfield 90, 3) ∧ 20 + 3 = 23 := ⟨dcAll_e (i := 12) da_X7_drop_0 rfl, rfl⟩
theorem q_X7_drop_23 : decode M_X7_drop.2.1 23 = .ok (.istore_n 2, 1) ∧ 23 + 1 = 24 := ⟨dcAll_e (i := 13) da_X7_drop_0 rfl, rfl⟩
theorem q_X7_drop_24 : decode M_X7_drop.2.1 24 = .ok (.aload_n 0, 1) ∧ 24 + 1 = 25 := ⟨dcAll_e (i := 14) da_X7_drop_0 rfl, rfl⟩
theorem q_X7_drop_25 : decode M_X7_drop.2.1 25 = .ok (.iload_n 1, 1) ∧ 25 + 1 = 26 := ⟨dcAll_e (i := 15) da_X7_drop_0 rfl, rfl⟩
theorem q_X7_drop_26 : decode M_X7_drop.2.1 26 = .ok (.putfield 90, 3) ∧ 26 + 3 = 29 := ⟨dcAll_e (i := 16) da_X7_drop_0 rfl, rfl⟩
theorem q_X7_drop_29 : decode M_X7_drop.2.1 29 = .ok (.iload_n 2, 1) ∧ 29 + 1 = 30 := ⟨dcAll_e (i := 17) da_X7_drop_0 rfl, rfl⟩
theorem q_X7_drop_30 : decode M_X7_drop.2.1 30 = .ok (.ireturn, 1) ∧ 30 + 1 = 31 := ⟨dcAll_e (i := 18) da_X7_drop_0 rfl, rfl⟩
def dl_X7_values_0 : List (Nat × Instr × Nat) := [(0, .aload_n 0, 1), (1, .iconst 0, 1), (2, .putfield 43, 3), (5, .aload_n 0, 1), (6, .getfield 90, 3), (9, .ireturn, 1)]
theorem da_X7_values_0 : dcAll M_X7_values.2.1 dl_X7_values_0 = true := by decide +kernel
theorem q_X7_values_0 : decode M_X7_values.2.1 0 = .ok (.aload_n 0, 1) ∧ 0 + 1 = 1 := ⟨dcAll_e (i := 0) da_X7_values_0 rfl, rfl⟩
theorem q_X7_values_1 : decode M_X7_values.2.1 1 = .ok (.iconst 0, 1) ∧ 1 + 1 = 2 := ⟨dcAll_e (i := 1) da_X7_values_0 rfl, rfl⟩
theorem q_X7_values_2 : decode M_X7_values.2.1 2 = .ok (.putfield 43, 3) ∧ 2 + 3 = 5 := ⟨dcAll_e (i := 2) da_X7_values_0 rfl, rfl⟩
theorem q_X7_values_5 : decode M_X7_values.2.1 5 = .ok (.aload_n 0, 1) ∧ 5 + 1 = 6 := ⟨dcAll_e (i := 3) da_X7_values_0 rfl, rfl⟩
theorem q_X7_values_6 : decode M_X7_values.2.1 6 = .ok (.getfield 90, 3) ∧ 6 + 3 = 9 := ⟨dcAll_e (i := 4) da_X7_values_0 rfl, rfl⟩
theorem q_X7_values_9 : decode M_X7_values.2.1 9 = .ok (.ireturn, 1) ∧ 9 + 1 = 10 := ⟨dcAll_e (i := 5) da_X7_values_0 rfl, rfl⟩
def dl_X7_need_0 : List (Nat × Instr × Nat) := [(0, .iconst 0, 1), (1, .istore_n 2, 1), (2, .iload_n 2, 1), (3, .aload_n 0, 1), (4, .getfield 90, 3), (7, .if_icmp .ge 25, 3), (10, .aload_n 0, 1), (11, .getfield 34, 3), (14, .iload_n 2, 1), (15, .iload_n 2, 1), (16, .iload_n 1, 1), (17, .if_icmp .ne 7, 3), (20, .iconst 1, 1), (21, .goto 4, 3), (24, .iconst 0, 1), (25, .bastore, 1), (26, .iinc 2 1, 3), (29, .goto (-27), 3), (32, .iload_n 1, 1), (33, .istore_n 2, 1), (34, .iload_n 2, 1), (35, .ifCond .lt 65, 3), (38, .aload_n 0, 1), (39, .getfield 34, 3), (42, .iload_n 2, 1), (43, .baload, 1), (44, .ifCond .eq 50, 3), (47, .aload_n 0, 1), (48, .getfield 20, 3), (51, .iload_n 2, 1), (52, .iaload, 1), (53, .iconst 5, 1), (54, .if_icmp .lt 40, 3), (57, .aload_n 0, 1), (58, .getfield 34, 3), (61, .aload_n 0, 1), (62, .getfield 23, 3), (65, .iload_n 2, 1), (66, .laload, 1), (67, .l2i, 1)]
theorem da_X7_need_0 : dcAll M_X7_need.2.1 dl_X7_need_0 = true := by decide +kernel
def dl_X7_need_1 : List (Nat × Instr × Nat) := [(68, .iconst 1, 1), (69, .bastore, 1), (70, .aload_n 0, 1), (71, .getfield 20, 3), (74, .iload_n 2, 1), (75, .iaload, 1), (76, .bipush 6, 2), (78, .if_icmp .lt 16, 3), (81, .aload_n 0, 1), (82, .getfield 34, 3), (85, .aload_n 0, 1), (86, .getfield 27, 3), (89, .iload_n 2, 1), (90, .laload, 1), (91, .l2i, 1), (92, .iconst 1, 1), (93, .bastore, 1), (94, .iinc 2 (-1), 3), (97, .goto (-63), 3), (100, .return_, 1)]
theorem da_X7_need_1 : dcAll M_X7_need.2.1 dl_X7_need_1 = true := by decide +kernel
theorem q_X7_need_0 : decode M_X7_need.2.1 0 = .ok (.iconst 0, 1) ∧ 0 + 1 = 1 := ⟨dcAll_e (i := 0) da_X7_need_0 rfl, rfl⟩
theorem q_X7_need_1 : decode M_X7_need.2.1 1 = .ok (.istore_n 2, 1) ∧ 1 + 1 = 2 := ⟨dcAll_e (i := 1) da_X7_need_0 rfl, rfl⟩
theorem q_X7_need_2 : decode M_X7_need.2.1 2 = .ok (.iload_n 2, 1) ∧ 2 + 1 = 3 := ⟨dcAll_e (i := 2) da_X7_need_0 rfl, rfl⟩
theorem q_X7_need_3 : decode M_X7_need.2.1 3 = .ok (.aload_n 0, 1) ∧ 3 + 1 = 4 := ⟨dcAll_e (i := 3) da_X7_need_0 rfl, rfl⟩
theorem q_X7_need_4 : decode M_X7_need.2.1 4 = .ok (.getfield 90, 3) ∧ 4 + 3 = 7 := ⟨dcAll_e (i := 4) da_X7_need_0 rfl, rfl⟩
theorem q_X7_need_7 : decode M_X7_need.2.1 7 = .ok (.if_icmp .ge 25, 3) ∧ 7 + 3 = 10 ∧ ((7 : Nat) : Int) + 25 = ((32 : Nat) : Int) := ⟨dcAll_e (i := 5) da_X7_need_0 rfl, rfl, rfl⟩
theorem q_X7_need_10 : decode M_X7_need.2.1 10 = .ok (.aload_n 0, 1) ∧ 10 + 1 = 11 := ⟨dcAll_e (i := 6) da_X7_need_0 rfl, rfl⟩
theorem q_X7_need_11 : decode M_X7_need.2.1 11 = .ok (.getfield 34, 3) ∧ 11 + 3 = 14 := ⟨dcAll_e (i := 7) da_X7_need_0 rfl, rfl⟩
theorem f_RX7_34 : en_F RX7 34 7 8 := ⟨RX7, TX7, 15, rfl, by decide, rfl, inT3 175 rfl rfl, uw_X7⟩
theorem q_X7_need_14 : decode M_X7_need.2.1 14 = .ok (.iload_n 2, 1) ∧ 14 + 1 = 15 := ⟨dcAll_e (i := 8) da_X7_need_0 rfl, rfl⟩
theorem q_X7_need_15 : decode M_X7_need.2.1 15 = .ok (.iload_n 2, 1) ∧ 15 + 1 = 16 := ⟨dcAll_e (i := 9) da_X7_need_0 rfl, rfl⟩
theorem q_X7_need_16 : decode M_X7_need.2.1 16 = .ok (.iload_n 1, 1) ∧ 16 + 1 = 17 := ⟨dcAll_e (i := 10) da_X7_need_0 rfl, rfl⟩
theorem q_X7_need_17 : decode M_X7_need.2.1 17 = .ok (.if_icmp .ne 7, 3) ∧ 17 + 3 = 20 ∧ ((17 : Nat) : Int) + 7 = ((24 : Nat) : Int) := ⟨dcAll_e (i := 11) da_X7_need_0 rfl, rfl, rfl⟩
theorem q_X7_need_20 : decode M_X7_need.2.1 20 = .ok (.iconst 1, 1) ∧ 20 + 1 = 21 := ⟨dcAll_e (i := 12) da_X7_need_0 rfl, rfl⟩
theorem q_X7_need_21 : decode M_X7_need.2.1 21 = .ok (.goto 4, 3) ∧ 21 + 3 = 24 ∧ ((21 : Nat) : Int) + 4 = ((25 : Nat) : Int) := ⟨dcAll_e (i := 13) da_X7_need_0 rfl, rfl, rfl⟩
theorem q_X7_need_24 : decode M_X7_need.2.1 24 = .ok (.iconst 0, 1) ∧ 24 + 1 = 25 := ⟨dcAll_e (i := 14) da_X7_need_0 rfl, rfl⟩
theorem q_X7_need_25 : decode M_X7_need.2.1 25 = .ok (.bastore, 1) ∧ 25 + 1 = 26 := ⟨dcAll_e (i := 15) da_X7_need_0 rfl, rfl⟩
theorem q_X7_need_26 : decode M_X7_need.2.1 26 = .ok (.iinc 2 1, 3) ∧ 26 + 3 = 29 := ⟨dcAll_e (i := 16) da_X7_need_0 rfl, rfl⟩
theorem q_X7_need_29 : decode M_X7_need.2.1 29 = .ok (.goto (-27), 3) ∧ 29 + 3 = 32 ∧ ((29 : Nat) : Int) + (-27) = ((2 : Nat) : Int) := ⟨dcAll_e (i := 17) da_X7_need_0 rfl, rfl, rfl⟩
theorem q_X7_need_32 : decode M_X7_need.2.1 32 = .ok (.iload_n 1, 1) ∧ 32 + 1 = 33 := ⟨dcAll_e (i := 18) da_X7_need_0 rfl, rfl⟩
theorem q_X7_need_33 : decode M_X7_need.2.1 33 = .ok (.istore_n 2, 1) ∧ 33 + 1 = 34 := ⟨dcAll_e (i := 19) da_X7_need_0 rfl, rfl⟩
theorem q_X7_need_34 : decode M_X7_need.2.1 34 = .ok (.iload_n 2, 1) ∧ 34 + 1 = 35 := ⟨dcAll_e (i := 20) da_X7_need_0 rfl, rfl⟩
theorem q_X7_need_35 : decode M_X7_need.2.1 35 = .ok (.ifCond .lt 65, 3) ∧ 35 + 3 = 38 ∧ ((35 : Nat) : Int) + 65 = ((100 : Nat) : Int) := ⟨dcAll_e (i := 21) da_X7_need_0 rfl, rfl, rfl⟩
theorem q_X7_need_38 : decode M_X7_need.2.1 38 = .ok (.aload_n 0, 1) ∧ 38 + 1 = 39 := ⟨dcAll_e (i := 22) da_X7_need_0 rfl, rfl⟩
theorem q_X7_need_39 : decode M_X7_need.2.1 39 = .ok (.getfield 34, 3) ∧ 39 + 3 = 42 := ⟨dcAll_e (i := 23) da_X7_need_0 rfl, rfl⟩
theorem q_X7_need_42 : decode M_X7_need.2.1 42 = .ok (.iload_n 2, 1) ∧ 42 + 1 = 43 := ⟨dcAll_e (i := 24) da_X7_need_0 rfl, rfl⟩
theorem q_X7_need_43 : decode M_X7_need.2.1 43 = .ok (.baload, 1) ∧ 43 + 1 = 44 := ⟨dcAll_e (i := 25) da_X7_need_0 rfl, rfl⟩
theorem q_X7_need_44 : decode M_X7_need.2.1 44 = .ok (.ifCond .eq 50, 3) ∧ 44 + 3 = 47 ∧ ((44 : Nat) : Int) + 50 = ((94 : Nat) : Int) := ⟨dcAll_e (i := 26) da_X7_need_0 rfl, rfl, rfl⟩
theorem q_X7_need_47 : decode M_X7_need.2.1 47 = .ok (.aload_n 0, 1) ∧ 47 + 1 = 48 := ⟨dcAll_e (i := 27) da_X7_need_0 rfl, rfl⟩
theorem q_X7_need_48 : decode M_X7_need.2.1 48 = .ok (.getfield 20, 3) ∧ 48 + 3 = 51 := ⟨dcAll_e (i := 28) da_X7_need_0 rfl, rfl⟩
theorem q_X7_need_51 : decode M_X7_need.2.1 51 = .ok (.iload_n 2, 1) ∧ 51 + 1 = 52 := ⟨dcAll_e (i := 29) da_X7_need_0 rfl, rfl⟩
theorem q_X7_need_52 : decode M_X7_need.2.1 52 = .ok (.iaload, 1) ∧ 52 + 1 = 53 := ⟨dcAll_e (i := 30) da_X7_need_0 rfl, rfl⟩
theorem q_X7_need_53 : decode M_X7_need.2.1 53 = .ok (.iconst 5, 1) ∧ 53 + 1 = 54 := ⟨dcAll_e (i := 31) da_X7_need_0 rfl, rfl⟩
theorem q_X7_need_54 : decode M_X7_need.2.1 54 = .ok (.if_icmp .lt 40, 3) ∧ 54 + 3 = 57 ∧ ((54 : Nat) : Int) + 40 = ((94 : Nat) : Int) := ⟨dcAll_e (i := 32) da_X7_need_0 rfl, rfl, rfl⟩
theorem q_X7_need_57 : decode M_X7_need.2.1 57 = .ok (.aload_n 0, 1) ∧ 57 + 1 = 58 := ⟨dcAll_e (i := 33) da_X7_need_0 rfl, rfl⟩
theorem q_X7_need_58 : decode M_X7_need.2.1 58 = .ok (.getfield 34, 3) ∧ 58 + 3 = 61 := ⟨dcAll_e (i := 34) da_X7_need_0 rfl, rfl⟩
theorem q_X7_need_61 : decode M_X7_need.2.1 61 = .ok (.aload_n 0, 1) ∧ 61 + 1 = 62 := ⟨dcAll_e (i := 35) da_X7_need_0 rfl, rfl⟩
theorem q_X7_need_62 : decode M_X7_need.2.1 62 = .ok (.getfield 23, 3) ∧ 62 + 3 = 65 := ⟨dcAll_e (i := 36) da_X7_need_0 rfl, rfl⟩
theorem q_X7_need_65 : decode M_X7_need.2.1 65 = .ok (.iload_n 2, 1) ∧ 65 + 1 = 66 := ⟨dcAll_e (i := 37) da_X7_need_0 rfl, rfl⟩
theorem q_X7_need_66 : decode M_X7_need.2.1 66 = .ok (.laload, 1) ∧ 66 + 1 = 67 := ⟨dcAll_e (i := 38) da_X7_need_0 rfl, rfl⟩
theorem q_X7_need_67 : decode M_X7_need.2.1 67 = .ok (.l2i, 1) ∧ 67 + 1 = 68 := ⟨dcAll_e (i := 39) da_X7_need_0 rfl, rfl⟩
theorem q_X7_need_68 : decode M_X7_need.2.1 68 = .ok (.iconst 1, 1) ∧ 68 + 1 = 69 := ⟨dcAll_e (i := 0) da_X7_need_1 rfl, rfl⟩
theorem q_X7_need_69 : decode M_X7_need.2.1 69 = .ok (.bastore, 1) ∧ 69 + 1 = 70 := ⟨dcAll_e (i := 1) da_X7_need_1 rfl, rfl⟩
theorem q_X7_need_70 : decode M_X7_need.2.1 70 = .ok (.aload_n 0, 1) ∧ 70 + 1 = 71 := ⟨dcAll_e (i := 2) da_X7_need_1 rfl, rfl⟩
theorem q_X7_need_71 : decode M_X7_need.2.1 71 = .ok (.getfield 20, 3) ∧ 71 + 3 = 74 := ⟨dcAll_e (i := 3) da_X7_need_1 rfl, rfl⟩
theorem q_X7_need_74 : decode M_X7_need.2.1 74 = .ok (.iload_n 2, 1) ∧ 74 + 1 = 75 := ⟨dcAll_e (i := 4) da_X7_need_1 rfl, rfl⟩
theorem q_X7_need_75 : decode M_X7_need.2.1 75 = .ok (.iaload, 1) ∧ 75 + 1 = 76 := ⟨dcAll_e (i := 5) da_X7_need_1 rfl, rfl⟩
theorem q_X7_need_76 : decode M_X7_need.2.1 76 = .ok (.bipush 6, 2) ∧ 76 + 2 = 78 := ⟨dcAll_e (i := 6) da_X7_need_1 rfl, rfl⟩
theorem q_X7_need_78 : decode M_X7_need.2.1 78 = .ok (.if_icmp .lt 16, 3) ∧ 78 + 3 = 81 ∧ ((78 : Nat) : Int) + 16 = ((94 : Nat) : Int) := ⟨dcAll_e (i := 7) da_X7_need_1 rfl, rfl, rfl⟩
theorem q_X7_need_81 : decode M_X7_need.2.1 81 = .ok (.aload_n 0, 1) ∧ 81 + 1 = 82 := ⟨dcAll_e (i := 8) da_X7_need_1 rfl, rfl⟩
theorem q_X7_need_82 : decode M_X7_need.2.1 82 = .ok (.getfield 34, 3) ∧ 82 + 3 = 85 := ⟨dcAll_e (i := 9) da_X7_need_1 rfl, rfl⟩
theorem q_X7_need_85 : decode M_X7_need.2.1 85 = .ok (.aload_n 0, 1) ∧ 85 + 1 = 86 := ⟨dcAll_e (i := 10) da_X7_need_1 rfl, rfl⟩
theorem q_X7_need_86 : decode M_X7_need.2.1 86 = .ok (.getfield 27, 3) ∧ 86 + 3 = 89 := ⟨dcAll_e (i := 11) da_X7_need_1 rfl, rfl⟩
theorem q_X7_need_89 : decode M_X7_need.2.1 89 = .ok (.iload_n 2, 1) ∧ 89 + 1 = 90 := ⟨dcAll_e (i := 12) da_X7_need_1 rfl, rfl⟩
theorem q_X7_need_90 : decode M_X7_need.2.1 90 = .ok (.laload, 1) ∧ 90 + 1 = 91 := ⟨dcAll_e (i := 13) da_X7_need_1 rfl, rfl⟩
theorem q_X7_need_91 : decode M_X7_need.2.1 91 = .ok (.l2i, 1) ∧ 91 + 1 = 92 := ⟨dcAll_e (i := 14) da_X7_need_1 rfl, rfl⟩
theorem q_X7_need_92 : decode M_X7_need.2.1 92 = .ok (.iconst 1, 1) ∧ 92 + 1 = 93 := ⟨dcAll_e (i := 15) da_X7_need_1 rfl, rfl⟩
theorem q_X7_need_93 : decode M_X7_need.2.1 93 = .ok (.bastore, 1) ∧ 93 + 1 = 94 := ⟨dcAll_e (i := 16) da_X7_need_1 rfl, rfl⟩
theorem q_X7_need_94 : decode M_X7_need.2.1 94 = .ok (.iinc 2 (-1), 3) ∧ 94 + 3 = 97 := ⟨dcAll_e (i := 17) da_X7_need_1 rfl, rfl⟩
theorem q_X7_need_97 : decode M_X7_need.2.1 97 = .ok (.goto (-63), 3) ∧ 97 + 3 = 100 ∧ ((97 : Nat) : Int) + (-63) = ((34 : Nat) : Int) := ⟨dcAll_e (i := 18) da_X7_need_1 rfl, rfl, rfl⟩
theorem q_X7_need_100 : decode M_X7_need.2.1 100 = .ok (.return_, 1) ∧ 100 + 1 = 101 := ⟨dcAll_e (i := 19) da_X7_need_1 rfl, rfl⟩
def dl_X7_isEnclosed_0 : List (Nat × Instr × Nat) := [(0, .aload_n 0, 1), (1, .iload_n 1, 1), (2, .invokevirtual 105, 3), (5, .aload_n 0, 1), (6, .bipush 12, 2), (8, .iload_n 2, 1), (9, .invokevirtual 109, 3), (12, .iconst 0, 1), (13, .istore_n 3, 1), (14, .iload_n 3, 1), (15, .iload_n 1, 1), (16, .if_icmp .gt 70, 3), (19, .aload_n 0, 1), (20, .getfield 34, 3), (23, .iload_n 3, 1), (24, .baload, 1), (25, .ifCond .eq 55, 3), (28, .iload_n 3, 1), (29, .invokestatic 112, 3), (32, .istore 4, 2), (34, .aload_n 0, 1), (35, .getfield 30, 3), (38, .iload_n 3, 1), (39, .aload_n 0, 1), (40, .iload_n 3, 1), (41, .iload_n 2, 1), (42, .invokevirtual 116, 3), (45, .ifCond .eq 29, 3), (48, .aload_n 0, 1), (49, .iload 4, 2), (51, .invokevirtual 120, 3), (54, .sipush 800, 3), (57, .if_icmp .gt 17, 3), (60, .aload_n 0, 1), (61, .iload 4, 2), (63, .iconst 1, 1), (64, .iadd, 1), (65, .invokevirtual 120, 3), (68, .sipush 800, 3), (71, .if_icmp .le 7, 3)]
theorem da_X7_isEnclosed_0 : dcAll M_X7_isEnclosed.2.1 dl_X7_isEnclosed_0 = true := by decide +kernel
def dl_X7_isEnclosed_1 : List (Nat × Instr × Nat) := [(74, .iconst 1, 1), (75, .goto 4, 3), (78, .iconst 0, 1), (79, .bastore, 1), (80, .iinc 3 1, 3), (83, .goto (-69), 3), (86, .aload_n 0, 1), (87, .getfield 30, 3), (90, .iload_n 1, 1), (91, .baload, 1), (92, .ifCond .ne 7, 3), (95, .iconst 1, 1), (96, .goto 4, 3), (99, .iconst 0, 1), (100, .ireturn, 1)]
theorem da_X7_isEnclosed_1 : dcAll M_X7_isEnclosed.2.1 dl_X7_isEnclosed_1 = true := by decide +kernel
theorem q_X7_isEnclosed_0 : decode M_X7_isEnclosed.2.1 0 = .ok (.aload_n 0, 1) ∧ 0 + 1 = 1 := ⟨dcAll_e (i := 0) da_X7_isEnclosed_0 rfl, rfl⟩
theorem q_X7_isEnclosed_1 : decode M_X7_isEnclosed.2.1 1 = .ok (.iload_n 1, 1) ∧ 1 + 1 = 2 := ⟨dcAll_e (i := 1) da_X7_isEnclosed_0 rfl, rfl⟩
theorem q_X7_isEnclosed_2 : decode M_X7_isEnclosed.2.1 2 = .ok (.invokevirtual 105, 3) ∧ 2 + 3 = 5 := ⟨dcAll_e (i := 2) da_X7_isEnclosed_0 rfl, rfl⟩
theorem cd_X7_need : Cond.code M_X7_need.1 M_X7_need.2.1 M_X7_need.2.2.1 M_X7_need.2.2.2.1 ∈ en_tbl := inT4 33 rfl rfl
theorem g_X7_isEnclosed_2 : en_C M_X7_isEnclosed M_X7_need 105 1 := ⟨⟨inT4 30 rfl rfl, in_X7, cd_X7_need⟩, ⟨by decide, by decide, by decide +kernel⟩, by decide, by decide⟩
theorem w_X7_need : Cond.instanceMethod M_X7_need.1 ∈ en_tbl ∧ Cond.selects M_X7_need.1.cls M_X7_need.1 M_X7_need.1 ∈ en_tbl := ⟨inT4 32 rfl rfl, by decide +kernel⟩
theorem q_X7_isEnclosed_5 : decode M_X7_isEnclosed.2.1 5 = .ok (.aload_n 0, 1) ∧ 5 + 1 = 6 := ⟨dcAll_e (i := 3) da_X7_isEnclosed_0 rfl, rfl⟩
theorem q_X7_isEnclosed_6 : decode M_X7_isEnclosed.2.1 6 = .ok (.bipush 12, 2) ∧ 6 + 2 = 8 := ⟨dcAll_e (i := 4) da_X7_isEnclosed_0 rfl, rfl⟩
theorem q_X7_isEnclosed_8 : decode M_X7_isEnclosed.2.1 8 = .ok (.iload_n 2, 1) ∧ 8 + 1 = 9 := ⟨dcAll_e (i := 5) da_X7_isEnclosed_0 rfl, rfl⟩
theorem q_X7_isEnclosed_9 : decode M_X7_isEnclosed.2.1 9 = .ok (.invokevirtual 109, 3) ∧ 9 + 3 = 12 := ⟨dcAll_e (i := 6) da_X7_isEnclosed_0 rfl, rfl⟩
theorem cd_X7_powerOfTen : Cond.code M_X7_powerOfTen.1 M_X7_powerOfTen.2.1 M_X7_powerOfTen.2.2.1 M_X7_powerOfTen.2.2.2.1 ∈ en_tbl := inT4 37 rfl rfl
theorem g_X7_isEnclosed_9 : en_C M_X7_isEnclosed M_X7_powerOfTen 109 2 := ⟨⟨inT4 34 rfl rfl, in_X7, cd_X7_powerOfTen⟩, ⟨by decide, by decide, by decide +kernel⟩, by decide, by decide⟩
theorem w_X7_powerOfTen : Cond.instanceMethod M_X7_powerOfTen.1 ∈ en_tbl ∧ Cond.selects M_X7_powerOfTen.1.cls M_X7_powerOfTen.1 M_X7_powerOfTen.1 ∈ en_tbl := ⟨inT4 36 rfl rfl, by decide +kernel⟩
theorem q_X7_isEnclosed_12 : decode M_X7_isEnclosed.2.1 12 = .ok (.iconst 0, 1) ∧ 12 + 1 = 13 := ⟨dcAll_e (i := 7) da_X7_isEnclosed_0 rfl, rfl⟩
theorem q_X7_isEnclosed_13 : decode M_X7_isEnclosed.2.1 13 = .ok (.istore_n 3, 1) ∧ 13 + 1 = 14 := ⟨dcAll_e (i := 8) da_X7_isEnclosed_0 rfl, rfl⟩
theorem q_X7_isEnclosed_14 : decode M_X7_isEnclosed.2.1 14 = .ok (.iload_n 3, 1) ∧ 14 + 1 = 15 := ⟨dcAll_e (i := 9) da_X7_isEnclosed_0 rfl, rfl⟩
theorem q_X7_isEnclosed_15 : decode M_X7_isEnclosed.2.1 15 = .ok (.iload_n 1, 1) ∧ 15 + 1 = 16 := ⟨dcAll_e (i := 10) da_X7_isEnclosed_0 rfl, rfl⟩
theorem q_X7_isEnclosed_16 : decode M_X7_isEnclosed.2.1 16 = .ok (.if_icmp .gt 70, 3) ∧ 16 + 3 = 19 ∧ ((16 : Nat) : Int) + 70 = ((86 : Nat) : Int) := ⟨dcAll_e (i := 11) da_X7_isEnclosed_0 rfl, rfl, rfl⟩
theorem q_X7_isEnclosed_19 : decode M_X7_isEnclosed.2.1 19 = .ok (.aload_n 0, 1) ∧ 19 + 1 = 20 := ⟨dcAll_e (i := 12) da_X7_isEnclosed_0 rfl, rfl⟩
theorem q_X7_isEnclosed_20 : decode M_X7_isEnclosed.2.1 20 = .ok (.getfield 34, 3) ∧ 20 + 3 = 23 := ⟨dcAll_e (i := 13) da_X7_isEnclosed_0 rfl, rfl⟩
theorem q_X7_isEnclosed_23 : decode M_X7_isEnclosed.2.1 23 = .ok (.iload_n 3, 1) ∧ 23 + 1 = 24 := ⟨dcAll_e (i := 14) da_X7_isEnclosed_0 rfl, rfl⟩
theorem q_X7_isEnclosed_24 : decode M_X7_isEnclosed.2.1 24 = .ok (.baload, 1) ∧ 24 + 1 = 25 := ⟨dcAll_e (i := 15) da_X7_isEnclosed_0 rfl, rfl⟩
theorem q_X7_isEnclosed_25 : decode M_X7_isEnclosed.2.1 25 = .ok (.ifCond .eq 55, 3) ∧ 25 + 3 = 28 ∧ ((25 : Nat) : Int) + 55 = ((80 : Nat) : Int) := ⟨dcAll_e (i := 16) da_X7_isEnclosed_0 rfl, rfl, rfl⟩
theorem q_X7_isEnclosed_28 : decode M_X7_isEnclosed.2.1 28 = .ok (.iload_n 3, 1) ∧ 28 + 1 = 29 := ⟨dcAll_e (i := 17) da_X7_isEnclosed_0 rfl, rfl⟩
theorem q_X7_isEnclosed_29 : decode M_X7_isEnclosed.2.1 29 = .ok (.invokestatic 112, 3) ∧ 29 + 3 = 32 := ⟨dcAll_e (i := 18) da_X7_isEnclosed_0 rfl, rfl⟩
theorem cd_X7_low : Cond.code M_X7_low.1 M_X7_low.2.1 M_X7_low.2.2.1 M_X7_low.2.2.2.1 ∈ en_tbl := inT4 40 rfl rfl
theorem g_X7_isEnclosed_29 : en_C M_X7_isEnclosed M_X7_low 112 1 := ⟨⟨inT4 38 rfl rfl, in_X7, cd_X7_low⟩, ⟨by decide, by decide, by decide +kernel⟩, by decide, by decide⟩
theorem w_X7_low : Cond.static M_X7_low.1 ∈ en_tbl := inT4 39 rfl rfl
theorem q_X7_isEnclosed_32 : decode M_X7_isEnclosed.2.1 32 = .ok (.istore 4, 2) ∧ 32 + 2 = 34 := ⟨dcAll_e (i := 19) da_X7_isEnclosed_0 rfl, rfl⟩
theorem q_X7_isEnclosed_34 : decode M_X7_isEnclosed.2.1 34 = .ok (.aload_n 0, 1) ∧ 34 + 1 = 35 := ⟨dcAll_e (i := 20) da_X7_isEnclosed_0 rfl, rfl⟩
theorem q_X7_isEnclosed_35 : decode M_X7_isEnclosed.2.1 35 = .ok (.getfield 30, 3) ∧ 35 + 3 = 38 := ⟨dcAll_e (i := 21) da_X7_isEnclosed_0 rfl, rfl⟩
theorem f_RX7_30 : en_F RX7 30 7 7 := ⟨RX7, TX7, 15, rfl, by decide, rfl, inT3 174 rfl rfl, uw_X7⟩
theorem q_X7_isEnclosed_38 : decode M_X7_isEnclosed.2.1 38 = .ok (.iload_n 3, 1) ∧ 38 + 1 = 39 := ⟨dcAll_e (i := 22) da_X7_isEnclosed_0 rfl, rfl⟩
theorem q_X7_isEnclosed_39 : decode M_X7_isEnclosed.2.1 39 = .ok (.aload_n 0, 1) ∧ 39 + 1 = 40 := ⟨dcAll_e (i := 23) da_X7_isEnclosed_0 rfl, rfl⟩
theorem q_X7_isEnclosed_40 : decode M_X7_isEnclosed.2.1 40 = .ok (.iload_n 3, 1) ∧ 40 + 1 = 41 := ⟨dcAll_e (i := 24) da_X7_isEnclosed_0 rfl, rfl⟩
theorem q_X7_isEnclosed_41 : decode M_X7_isEnclosed.2.1 41 = .ok (.iload_n 2, 1) ∧ 41 + 1 = 42 := ⟨dcAll_e (i := 25) da_X7_isEnclosed_0 rfl, rfl⟩
theorem q_X7_isEnclosed_42 : decode M_X7_isEnclosed.2.1 42 = .ok (.invokevirtual 116, 3) ∧ 42 + 3 = 45 := ⟨dcAll_e (i := 26) da_X7_isEnclosed_0 rfl, rfl⟩
theorem cd_X7_isBound : Cond.code M_X7_isBound.1 M_X7_isBound.2.1 M_X7_isBound.2.2.1 M_X7_isBound.2.2.2.1 ∈ en_tbl := inT4 44 rfl rfl
theorem g_X7_isEnclosed_42 : en_C M_X7_isEnclosed M_X7_isBound 116 2 := ⟨⟨inT4 41 rfl rfl, in_X7, cd_X7_isBound⟩, ⟨by decide, by decide, by decide +kernel⟩, by decide, by decide⟩
theorem w_X7_isBound : Cond.instanceMethod M_X7_isBound.1 ∈ en_tbl ∧ Cond.selects M_X7_isBound.1.cls M_X7_isBound.1 M_X7_isBound.1 ∈ en_tbl := ⟨inT4 43 rfl rfl, by decide +kernel⟩
theorem q_X7_isEnclosed_45 : decode M_X7_isEnclosed.2.1 45 = .ok (.ifCond .eq 29, 3) ∧ 45 + 3 = 48 ∧ ((45 : Nat) : Int) + 29 = ((74 : Nat) : Int) := ⟨dcAll_e (i := 27) da_X7_isEnclosed_0 rfl, rfl, rfl⟩
theorem q_X7_isEnclosed_48 : decode M_X7_isEnclosed.2.1 48 = .ok (.aload_n 0, 1) ∧ 48 + 1 = 49 := ⟨dcAll_e (i := 28) da_X7_isEnclosed_0 rfl, rfl⟩
theorem q_X7_isEnclosed_49 : decode M_X7_isEnclosed.2.1 49 = .ok (.iload 4, 2) ∧ 49 + 2 = 51 := ⟨dcAll_e (i := 29) da_X7_isEnclosed_0 rfl, rfl⟩
theorem q_X7_isEnclosed_51 : decode M_X7_isEnclosed.2.1 51 = .ok (.invokevirtual 120, 3) ∧ 51 + 3 = 54 := ⟨dcAll_e (i := 30) da_X7_isEnclosed_0 rfl, rfl⟩
theorem cd_X7_digitsOf : Cond.code M_X7_digitsOf.1 M_X7_digitsOf.2.1 M_X7_digitsOf.2.2.1 M_X7_digitsOf.2.2.2.1 ∈ en_tbl := inT4 130 rfl rfl
theorem g_X7_isEnclosed_51 : en_C M_X7_isEnclosed M_X7_digitsOf 120 1 := ⟨⟨inT4 127 rfl rfl, in_X7, cd_X7_digitsOf⟩, ⟨by decide, by decide, by decide +kernel⟩, by decide, by decide⟩
theorem w_X7_digitsOf : Cond.instanceMethod M_X7_digitsOf.1 ∈ en_tbl ∧ Cond.selects M_X7_digitsOf.1.cls M_X7_digitsOf.1 M_X7_digitsOf.1 ∈ en_tbl := ⟨inT4 129 rfl rfl, by decide +kernel⟩
theorem q_X7_isEnclosed_54 : decode M_X7_isEnclosed.2.1 54 = .ok (.sipush 800, 3) ∧ 54 + 3 = 57 := ⟨dcAll_e (i := 31) da_X7_isEnclosed_0 rfl, rfl⟩
theorem q_X7_isEnclosed_57 : decode M_X7_isEnclosed.2.1 57 = .ok (.if_icmp .gt 17, 3) ∧ 57 + 3 = 60 ∧ ((57 : Nat) : Int) + 17 = ((74 : Nat) : Int) := ⟨dcAll_e (i := 32) da_X7_isEnclosed_0 rfl, rfl, rfl⟩
theorem q_X7_isEnclosed_60 : decode M_X7_isEnclosed.2.1 60 = .ok (.aload_n 0, 1) ∧ 60 + 1 = 61 := ⟨dcAll_e (i := 33) da_X7_isEnclosed_0 rfl, rfl⟩
theorem q_X7_isEnclosed_61 : decode M_X7_isEnclosed.2.1 61 = .ok (.iload 4, 2) ∧ 61 + 2 = 63 := ⟨dcAll_e (i := 34) da_X7_isEnclosed_0 rfl, rfl⟩
theorem q_X7_isEnclosed_63 : decode M_X7_isEnclosed.2.1 63 = .ok (.iconst 1, 1) ∧ 63 + 1 = 64 := ⟨dcAll_e (i := 35) da_X7_isEnclosed_0 rfl, rfl⟩
theorem q_X7_isEnclosed_64 : decode M_X7_isEnclosed.2.1 64 = .ok (.iadd, 1) ∧ 64 + 1 = 65 := ⟨dcAll_e (i := 36) da_X7_isEnclosed_0 rfl, rfl⟩
theorem q_X7_isEnclosed_65 : decode M_X7_isEnclosed.2.1 65 = .ok (.invokevirtual 120, 3) ∧ 65 + 3 = 68 := ⟨dcAll_e (i := 37) da_X7_isEnclosed_0 rfl, rfl⟩
theorem g_X7_isEnclosed_65 : en_C M_X7_isEnclosed M_X7_digitsOf 120 1 := ⟨⟨inT4 127 rfl rfl, in_X7, cd_X7_digitsOf⟩, ⟨by decide, by decide, by decide +kernel⟩, by decide, by decide⟩
theorem q_X7_isEnclosed_68 : decode M_X7_isEnclosed.2.1 68 = .ok (.sipush 800, 3) ∧ 68 + 3 = 71 := ⟨dcAll_e (i := 38) da_X7_isEnclosed_0 rfl, rfl⟩
theorem q_X7_isEnclosed_71 : decode M_X7_isEnclosed.2.1 71 = .ok (.if_icmp .le 7, 3) ∧ 71 + 3 = 74 ∧ ((71 : Nat) : Int) + 7 = ((78 : Nat) : Int) := ⟨dcAll_e (i := 39) da_X7_isEnclosed_0 rfl, rfl, rfl⟩
theorem q_X7_isEnclosed_74 : decode M_X7_isEnclosed.2.1 74 = .ok (.iconst 1, 1) ∧ 74 + 1 = 75 := ⟨dcAll_e (i := 0) da_X7_isEnclosed_1 rfl, rfl⟩
theorem q_X7_isEnclosed_75 : decode M_X7_isEnclosed.2.1 75 = .ok (.goto 4, 3) ∧ 75 + 3 = 78 ∧ ((75 : Nat) : Int) + 4 = ((79 : Nat) : Int) := ⟨dcAll_e (i := 1) da_X7_isEnclosed_1 rfl, rfl, rfl⟩
theorem q_X7_isEnclosed_78 : decode M_X7_isEnclosed.2.1 78 = .ok (.iconst 0, 1) ∧ 78 + 1 = 79 := ⟨dcAll_e (i := 2) da_X7_isEnclosed_1 rfl, rfl⟩
theorem q_X7_isEnclosed_79 : decode M_X7_isEnclosed.2.1 79 = .ok (.bastore, 1) ∧ 79 + 1 = 80 := ⟨dcAll_e (i := 3) da_X7_isEnclosed_1 rfl, rfl⟩
theorem q_X7_isEnclosed_80 : decode M_X7_isEnclosed.2.1 80 = .ok (.iinc 3 1, 3) ∧ 80 + 3 = 83 := ⟨dcAll_e (i := 4) da_X7_isEnclosed_1 rfl, rfl⟩
theorem q_X7_isEnclosed_83 : decode M_X7_isEnclosed.2.1 83 = .ok (.goto (-69), 3) ∧ 83 + 3 = 86 ∧ ((83 : Nat) : Int) + (-69) = ((14 : Nat) : Int) := ⟨dcAll_e (i := 5) da_X7_isEnclosed_1 rfl, rfl, rfl⟩
theorem q_X7_isEnclosed_86 : decode M_X7_isEnclosed.2.1 86 = .ok (.aload_n 0, 1) ∧ 86 + 1 = 87 := ⟨dcAll_e (i := 6) da_X7_isEnclosed_1 rfl, rfl⟩
theorem q_X7_isEnclosed_87 : decode M_X7_isEnclosed.2.1 87 = .ok (.getfield 30, 3) ∧ 87 + 3 = 90 := ⟨dcAll_e (i := 7) da_X7_isEnclosed_1 rfl, rfl⟩
theorem q_X7_isEnclosed_90 : decode M_X7_isEnclosed.2.1 90 = .ok (.iload_n 1, 1) ∧ 90 + 1 = 91 := ⟨dcAll_e (i := 8) da_X7_isEnclosed_1 rfl, rfl⟩
theorem q_X7_isEnclosed_91 : decode M_X7_isEnclosed.2.1 91 = .ok (.baload, 1) ∧ 91 + 1 = 92 := ⟨dcAll_e (i := 9) da_X7_isEnclosed_1 rfl, rfl⟩
theorem q_X7_isEnclosed_92 : decode M_X7_isEnclosed.2.1 92 = .ok (.ifCond .ne 7, 3) ∧ 92 + 3 = 95 ∧ ((92 : Nat) : Int) + 7 = ((99 : Nat) : Int) := ⟨dcAll_e (i := 10) da_X7_isEnclosed_1 rfl, rfl, rfl⟩
theorem q_X7_isEnclosed_95 : decode M_X7_isEnclosed.2.1 95 = .ok (.iconst 1, 1) ∧ 95 + 1 = 96 := ⟨dcAll_e (i := 11) da_X7_isEnclosed_1 rfl, rfl⟩
theorem q_X7_isEnclosed_96 : decode M_X7_isEnclosed.2.1 96 = .ok (.goto 4, 3) ∧ 96 + 3 = 99 ∧ ((96 : Nat) : Int) + 4 = ((100 : Nat) : Int) := ⟨dcAll_e (i := 12) da_X7_isEnclosed_1 rfl, rfl, rfl⟩
theorem q_X7_isEnclosed_99 : decode M_X7_isEnclosed.2.1 99 = .ok (.iconst 0, 1) ∧ 99 + 1 = 100 := ⟨dcAll_e (i := 13) da_X7_isEnclosed_1 rfl, rfl⟩
theorem q_X7_isEnclosed_100 : decode M_X7_isEnclosed.2.1 100 = .ok (.ireturn, 1) ∧ 100 + 1 = 101 := ⟨dcAll_e (i := 14) da_X7_isEnclosed_1 rfl, rfl⟩
def dl_X7_isBound_0 : List (Nat × Instr × Nat) := [(0, .iload_n 1, 1), (1, .invokestatic 112, 3), (4, .istore_n 3, 1), (5, .aload_n 0, 1), (6, .getfield 23, 3), (9, .iload_n 1, 1), (10, .laload, 1), (11, .l2i, 1), (12, .istore 4, 2), (14, .aload_n 0, 1), (15, .getfield 27, 3), (18, .iload_n 1, 1), (19, .laload, 1), (20, .l2i, 1), (21, .istore 5, 2), (23, .aload_n 0, 1), (24, .getfield 20, 3), (27, .iload_n 1, 1), (28, .iaload, 1), (29, .iconst 5, 1), (30, .if_icmp .lt 13, 3), (33, .aload_n 0, 1), (34, .getfield 30, 3), (37, .iload 4, 2), (39, .baload, 1), (40, .ifCond .ne 24, 3), (43, .aload_n 0, 1), (44, .getfield 20, 3), (47, .iload_n 1, 1), (48, .iaload, 1), (49, .bipush 6, 2), (51, .if_icmp .lt 15, 3), (54, .aload_n 0, 1), (55, .getfield 30, 3), (58, .iload 5, 2), (60, .baload, 1), (61, .ifCond .eq 5, 3), (64, .iconst 0, 1), (65, .ireturn, 1), (66, .aload_n 0, 1)]
theorem da_X7_isBound_0 : dcAll M_X7_isBound.2.1 dl_X7_isBound_0 = true := by decide +kernel
def dl_X7_isBound_1 : List (Nat × Instr × Nat) := [(67, .getfield 20, 3), (70, .iload_n 1, 1), (71, .iaload, 1), (72, .tableswitch 154 0 5 #[40, 69, 119, 119, 119, 143], 40), (112, .aload_n 0, 1), (113, .iconst 0, 1), (114, .aload_n 0, 1), (115, .getfield 23, 3), (118, .iload_n 1, 1), (119, .laload, 1), (120, .invokevirtual 84, 3), (123, .aload_n 0, 1), (124, .iload_n 3, 1), (125, .iconst 0, 1), (126, .bipush 12, 2), (128, .invokevirtual 123, 3), (131, .aload_n 0, 1), (132, .iload_n 3, 1), (133, .iload_n 3, 1), (134, .iconst 1, 1), (135, .iadd, 1), (136, .invokevirtual 53, 3), (139, .iconst 1, 1), (140, .ireturn, 1), (141, .aload_n 0, 1), (142, .iconst 0, 1), (143, .aload_n 0, 1), (144, .getfield 23, 3), (147, .iload_n 1, 1), (148, .laload, 1), (149, .invokevirtual 84, 3), (152, .aload_n 0, 1), (153, .iconst 1, 1), (154, .iconst 0, 1), (155, .bipush 12, 2), (157, .invokevirtual 123, 3), (160, .aload_n 0, 1), (161, .iconst 0, 1), (162, .aload_n 0, 1), (163, .getfield 27, 3)]
theorem da_X7_isBound_1 : dcAll M_X7_isBound.2.1 dl_X7_isBound_1 = true := by decide +kernel
def dl_X7_isBound_2 : List (Nat × Instr × Nat) := [(166, .iload_n 1, 1), (167, .laload, 1), (168, .invokevirtual 84, 3), (171, .aload_n 0, 1), (172, .iload_n 3, 1), (173, .iconst 1, 1), (174, .iconst 0, 1), (175, .iconst 0, 1), (176, .invokevirtual 126, 3), (179, .aload_n 0, 1), (180, .iload_n 3, 1), (181, .iconst 1, 1), (182, .iadd, 1), (183, .iconst 1, 1), (184, .iconst 0, 1), (185, .iconst 1, 1), (186, .invokevirtual 126, 3), (189, .iconst 1, 1), (190, .ireturn, 1), (191, .aload_n 0, 1), (192, .iload_n 1, 1), (193, .iload_n 2, 1), (194, .invokevirtual 130, 3), (197, .aload_n 0, 1), (198, .iconst 0, 1), (199, .lconst 1, 1), (200, .invokevirtual 84, 3), (203, .aload_n 0, 1), (204, .iload_n 3, 1), (205, .iconst 1, 1), (206, .iadd, 1), (207, .iload_n 3, 1), (208, .iconst 0, 1), (209, .iconst 1, 1), (210, .invokevirtual 87, 3), (213, .iconst 1, 1), (214, .ireturn, 1), (215, .aload_n 0, 1), (216, .iload_n 3, 1), (217, .iload 4, 2)]
theorem da_X7_isBound_2 : dcAll M_X7_isBound.2.1 dl_X7_isBound_2 = true := by decide +kernel
def dl_X7_isBound_3 : List (Nat × Instr × Nat) := [(219, .invokestatic 112, 3), (222, .invokevirtual 133, 3), (225, .ireturn, 1), (226, .aload_n 0, 1), (227, .aload_n 0, 1), (228, .getfield 20, 3), (231, .iload_n 1, 1), (232, .iaload, 1), (233, .bipush 6, 2), (235, .isub, 1), (236, .iload_n 3, 1), (237, .iload 4, 2), (239, .invokestatic 112, 3), (242, .iload 5, 2), (244, .invokestatic 112, 3), (247, .invokevirtual 136, 3), (250, .ireturn, 1)]
theorem da_X7_isBound_3 : dcAll M_X7_isBound.2.1 dl_X7_isBound_3 = true := by decide +kernel
theorem q_X7_isBound_0 : decode M_X7_isBound.2.1 0 = .ok (.iload_n 1, 1) ∧ 0 + 1 = 1 := ⟨dcAll_e (i := 0) da_X7_isBound_0 rfl, rfl⟩
theorem q_X7_isBound_1 : decode M_X7_isBound.2.1 1 = .ok (.invokestatic 112, 3) ∧ 1 + 3 = 4 := ⟨dcAll_e (i := 1) da_X7_isBound_0 rfl, rfl⟩
theorem g_X7_isBound_1 : en_C M_X7_isBound M_X7_low 112 1 := ⟨⟨inT4 38 rfl rfl, in_X7, cd_X7_low⟩, ⟨by decide, by decide, by decide +kernel⟩, by decide, by decide⟩
theorem q_X7_isBound_4 : decode M_X7_isBound.2.1 4 = .ok (.istore_n 3, 1) ∧ 4 + 1 = 5 := ⟨dcAll_e (i := 2) da_X7_isBound_0 rfl, rfl⟩
theorem q_X7_isBound_5 : decode M_X7_isBound.2.1 5 = .ok (.aload_n 0, 1) ∧ 5 + 1 = 6 := ⟨dcAll_e (i := 3) da_X7_isBound_0 rfl, rfl⟩
theorem q_X7_isBound_6 : decode M_X7_isBound.2.1 6 = .ok (.getfield 23, 3) ∧ 6 + 3 = 9 := ⟨dcAll_e (i := 4) da_X7_isBound_0 rfl, rfl⟩
theorem q_X7_isBound_9 : decode M_X7_isBound.2.1 9 = .ok (.iload_n 1, 1) ∧ 9 + 1 = 10 := ⟨dcAll_e (i := 5) da_X7_isBound_0 rfl, rfl⟩
theorem q_X7_isBound_10 : decode M_X7_isBound.2.1 10 = .ok (.laload, 1) ∧ 10 + 1 = 11 := ⟨dcAll_e (i := 6) da_X7_isBound_0 rfl, rfl⟩
theorem q_X7_isBound_11 : decode M_X7_isBound.2.1 11 = .ok (.l2i, 1) ∧ 11 + 1 = 12 := ⟨dcAll_e (i := 7) da_X7_isBound_0 rfl, rfl⟩
theorem q_X7_isBound_12 : decode M_X7_isBound.2.1 12 = .ok (.istore 4, 2) ∧ 12 + 2 = 14 := ⟨dcAll_e (i := 8) da_X7_isBound_0 rfl, rfl⟩
theorem q_X7_isBound_14 : decode M_X7_isBound.2.1 14 = .ok (.aload_n 0, 1) ∧ 14 + 1 = 15 := ⟨dcAll_e (i := 9) da_X7_isBound_0 rfl, rfl⟩
theorem q_X7_isBound_15 : decode M_X7_isBound.2.1 15 = .ok (.getfield 27, 3) ∧ 15 + 3 = 18 := ⟨dcAll_e (i := 10) da_X7_isBound_0 rfl, rfl⟩
theorem q_X7_isBound_18 : decode M_X7_isBound.2.1 18 = .ok (.iload_n 1, 1) ∧ 18 + 1 = 19 := ⟨dcAll_e (i := 11) da_X7_isBound_0 rfl, rfl⟩
theorem q_X7_isBound_19 : decode M_X7_isBound.2.1 19 = .ok (.laload, 1) ∧ 19 + 1 = 20 := ⟨dcAll_e (i := 12) da_X7_isBound_0 rfl, rfl⟩
theorem q_X7_isBound_20 : decode M_X7_isBound.2.1 20 = .ok (.l2i, 1) ∧ 20 + 1 = 21 := ⟨dcAll_e (i := 13) da_X7_isBound_0 rfl, rfl⟩
theorem q_X7_isBound_21 : decode M_X7_isBound.2.1 21 = .ok (.istore 5, 2) ∧ 21 + 2 = 23 := ⟨dcAll_e (i := 14) da_X7_isBound_0 rfl, rfl⟩
theorem q_X7_isBound_23 : decode M_X7_isBound.2.1 23 = .ok (.aload_n 0, 1) ∧ 23 + 1 = 24 := ⟨dcAll_e (i := 15) da_X7_isBound_0 rfl, rfl⟩
theorem q_X7_isBound_24 : decode M_X7_isBound.2.1 24 = .ok (.getfield 20, 3) ∧ 24 + 3 = 27 := ⟨dcAll_e (i := 16) da_X7_isBound_0 rfl, rfl⟩
theorem q_X7_isBound_27 : decode M_X7_isBound.2.1 27 = .ok (.iload_n 1, 1) ∧ 27 + 1 = 28 := ⟨dcAll_e (i := 17) da_X7_isBound_0 rfl, rfl⟩
theorem q_X7_isBound_28 : decode M_X7_isBound.2.1 28 = .ok (.iaload, 1) ∧ 28 + 1 = 29 := ⟨dcAll_e (i := 18) da_X7_isBound_0 rfl, rfl⟩
theorem q_X7_isBound_29 : decode M_X7_isBound.2.1 29 = .ok (.iconst 5, 1) ∧ 29 + 1 = 30 := ⟨dcAll_e (i := 19) da_X7_isBound_0 rfl, rfl⟩
theorem q_X7_isBound_30 : decode M_X7_isBound.2.1 30 = .ok (.if_icmp .lt 13, 3) ∧ 30 + 3 = 33 ∧ ((30 : Nat) : Int) + 13 = ((43 : Nat) : Int) := ⟨dcAll_e (i := 20) da_X7_isBound_0 rfl, rfl, rfl⟩
theorem q_X7_isBound_33 : decode M_X7_isBound.2.1 33 = .ok (.aload_n 0, 1) ∧ 33 + 1 = 34 := ⟨dcAll_e (i := 21) da_X7_isBound_0 rfl, rfl⟩
theorem q_X7_isBound_34 : decode M_X7_isBound.2.1 34 = .ok (.getfield 30, 3) ∧ 34 + 3 = 37 := ⟨dcAll_e (i := 22) da_X7_isBound_0 rfl, rfl⟩
theorem q_X7_isBound_37 : decode M_X7_isBound.2.1 37 = .ok (.iload 4, 2) ∧ 37 + 2 = 39 := ⟨dcAll_e (i := 23) da_X7_isBound_0 rfl, rfl⟩
theorem q_X7_isBound_39 : decode M_X7_isBound.2.1 39 = .ok (.baload, 1) ∧ 39 + 1 = 40 := ⟨dcAll_e (i := 24) da_X7_isBound_0 rfl, rfl⟩
theorem q_X7_isBound_40 : decode M_X7_isBound.2.1 40 = .ok (.ifCond .ne 24, 3) ∧ 40 + 3 = 43 ∧ ((40 : Nat) : Int) + 24 = ((64 : Nat) : Int) := ⟨dcAll_e (i := 25) da_X7_isBound_0 rfl, rfl, rfl⟩
theorem q_X7_isBound_43 : decode M_X7_isBound.2.1 43 = .ok (.aload_n 0, 1) ∧ 43 + 1 = 44 := ⟨dcAll_e (i := 26) da_X7_isBound_0 rfl, rfl⟩
theorem q_X7_isBound_44 : decode M_X7_isBound.2.1 44 = .ok (.getfield 20, 3) ∧ 44 + 3 = 47 := ⟨dcAll_e (i := 27) da_X7_isBound_0 rfl, rfl⟩
theorem q_X7_isBound_47 : decode M_X7_isBound.2.1 47 = .ok (.iload_n 1, 1) ∧ 47 + 1 = 48 := ⟨dcAll_e (i := 28) da_X7_isBound_0 rfl, rfl⟩
theorem q_X7_isBound_48 : decode M_X7_isBound.2.1 48 = .ok (.iaload, 1) ∧ 48 + 1 = 49 := ⟨dcAll_e (i := 29) da_X7_isBound_0 rfl, rfl⟩
theorem q_X7_isBound_49 : decode M_X7_isBound.2.1 49 = .ok (.bipush 6, 2) ∧ 49 + 2 = 51 := ⟨dcAll_e (i := 30) da_X7_isBound_0 rfl, rfl⟩
theorem q_X7_isBound_51 : decode M_X7_isBound.2.1 51 = .ok (.if_icmp .lt 15, 3) ∧ 51 + 3 = 54 ∧ ((51 : Nat) : Int) + 15 = ((66 : Nat) : Int) := ⟨dcAll_e (i := 31) da_X7_isBound_0 rfl, rfl, rfl⟩
theorem q_X7_isBound_54 : decode M_X7_isBound.2.1 54 = .ok (.aload_n 0, 1) ∧ 54 + 1 = 55 := ⟨dcAll_e (i := 32) da_X7_isBound_0 rfl, rfl⟩
theorem q_X7_isBound_55 : decode M_X7_isBound.2.1 55 = .ok (.getfield 30, 3) ∧ 55 + 3 = 58 := ⟨dcAll_e (i := 33) da_X7_isBound_0 rfl, rfl⟩
theorem q_X7_isBound_58 : decode M_X7_isBound.2.1 58 = .ok (.iload 5, 2) ∧ 58 + 2 = 60 := ⟨dcAll_e (i := 34) da_X7_isBound_0 rfl, rfl⟩
theorem q_X7_isBound_60 : decode M_X7_isBound.2.1 60 = .ok (.baload, 1) ∧ 60 + 1 = 61 := ⟨dcAll_e (i := 35) da_X7_isBound_0 rfl, rfl⟩
theorem q_X7_isBound_61 : decode M_X7_isBound.2.1 61 = .ok (.ifCond .eq 5, 3) ∧ 61 + 3 = 64 ∧ ((61 : Nat) : Int) + 5 = ((66 : Nat) : Int) := ⟨dcAll_e (i := 36) da_X7_isBound_0 rfl, rfl, rfl⟩
theorem q_X7_isBound_64 : decode M_X7_isBound.2.1 64 = .ok (.iconst 0, 1) ∧ 64 + 1 = 65 := ⟨dcAll_e (i := 37) da_X7_isBound_0 rfl, rfl⟩
theorem q_X7_isBound_65 : decode M_X7_isBound.2.1 65 = .ok (.ireturn, 1) ∧ 65 + 1 = 66 := ⟨dcAll_e (i := 38) da_X7_isBound_0 rfl, rfl⟩
theorem q_X7_isBound_66 : decode M_X7_isBound.2.1 66 = .ok (.aload_n 0, 1) ∧ 66 + 1 = 67 := ⟨dcAll_e (i := 39) da_X7_isBound_0 rfl, rfl⟩
theorem q_X7_isBound_67 : decode M_X7_isBound.2.1 67 = .ok (.getfield 20, 3) ∧ 67 + 3 = 70 := ⟨dcAll_e (i := 0) da_X7_isBound_1 rfl, rfl⟩
theorem q_X7_isBound_70 : decode M_X7_isBound.2.1 70 = .ok (.iload_n 1, 1) ∧ 70 + 1 = 71 := ⟨dcAll_e (i := 1) da_X7_isBound_1 rfl, rfl⟩
theorem q_X7_isBound_71 : decode M_X7_isBound.2.1 71 = .ok (.iaload, 1) ∧ 71 + 1 = 72 := ⟨dcAll_e (i := 2) da_X7_isBound_1 rfl, rfl⟩
theorem q_X7_isBound_72 : decode M_X7_isBound.2.1 72 = .ok (.tableswitch 154 0 5 #[40, 69, 119, 119, 119, 143], 40) := dcAll_e (i := 3) da_X7_isBound_1 rfl
theorem q_X7_isBound_112 : decode M_X7_isBound.2.1 112 = .ok (.aload_n 0, 1) ∧ 112 + 1 = 113 := ⟨dcAll_e (i := 4) da_X7_isBound_1 rfl, rfl⟩
theorem q_X7_isBound_113 : decode M_X7_isBound.2.1 113 = .ok (.iconst 0, 1) ∧ 113 + 1 = 114 := ⟨dcAll_e (i := 5) da_X7_isBound_1 rfl, rfl⟩
theorem q_X7_isBound_114 : decode M_X7_isBound.2.1 114 = .ok (.aload_n 0, 1) ∧ 114 + 1 = 115 := ⟨dcAll_e (i := 6) da_X7_isBound_1 rfl, rfl⟩
theorem q_X7_isBound_115 : decode M_X7_isBound.2.1 115 = .ok (.getfield 23, 3) ∧ 115 + 3 = 118 := ⟨dcAll_e (i := 7) da_X7_isBound_1 rfl, rfl⟩
theorem q_X7_isBound_118 : decode M_X7_isBound.2.1 118 = .ok (.iload_n 1, 1) ∧ 118 + 1 = 119 := ⟨dcAll_e (i := 8) da_X7_isBound_1 rfl, rfl⟩
theorem q_X7_isBound_119 : decode M_X7_isBound.2.1 119 = .ok (.laload, 1) ∧ 119 + 1 = 120 := ⟨dcAll_e (i := 9) da_X7_isBound_1 rfl, rfl⟩
theorem q_X7_isBound_120 : decode M_X7_isBound.2.1 120 = .ok (.invokevirtual 84, 3) ∧ 120 + 3 = 123 := ⟨dcAll_e (i := 10) da_X7_isBound_1 rfl, rfl⟩
theorem g_X7_isBound_120 : en_C M_X7_isBound M_X7_setTo 84 2 := ⟨⟨inT4 45 rfl rfl, in_X7, cd_X7_setTo⟩, ⟨by decide, by decide, by decide +kernel⟩, by decide, by decide⟩
theorem q_X7_isBound_123 : decode M_X7_isBound.2.1 123 = .ok (.aload_n 0, 1) ∧ 123 + 1 = 124 := ⟨dcAll_e (i := 11) da_X7_isBound_1 rfl, rfl⟩
theorem q_X7_isBound_124 : decode M_X7_isBound.2.1 124 = .ok (.iload_n 3, 1) ∧ 124 + 1 = 125 := ⟨dcAll_e (i := 12) da_X7_isBound_1 rfl, rfl⟩
theorem q_X7_isBound_125 : decode M_X7_isBound.2.1 125 = .ok (.iconst 0, 1) ∧ 125 + 1 = 126 := ⟨dcAll_e (i := 13) da_X7_isBound_1 rfl, rfl⟩
theorem q_X7_isBound_126 : decode M_X7_isBound.2.1 126 = .ok (.bipush 12, 2) ∧ 126 + 2 = 128 := ⟨dcAll_e (i := 14) da_X7_isBound_1 rfl, rfl⟩
theorem q_X7_isBound_128 : decode M_X7_isBound.2.1 128 = .ok (.invokevirtual 123, 3) ∧ 128 + 3 = 131 := ⟨dcAll_e (i := 15) da_X7_isBound_1 rfl, rfl⟩
theorem cd_X7_multiply : Cond.code M_X7_multiply.1 M_X7_multiply.2.1 M_X7_multiply.2.2.1 M_X7_multiply.2.2.2.1 ∈ en_tbl := inT4 53 rfl rfl
theorem g_X7_isBound_128 : en_C M_X7_isBound M_X7_multiply 123 3 := ⟨⟨inT4 50 rfl rfl, in_X7, cd_X7_multiply⟩, ⟨by decide, by decide, by decide +kernel⟩, by decide, by decide⟩
theorem w_X7_multiply : Cond.instanceMethod M_X7_multiply.1 ∈ en_tbl ∧ Cond.selects M_X7_multiply.1.cls M_X7_multiply.1 M_X7_multiply.1 ∈ en_tbl := ⟨inT4 52 rfl rfl, by decide +kernel⟩
theorem q_X7_isBound_131 : decode M_X7_isBound.2.1 131 = .ok (.aload_n 0, 1) ∧ 131 + 1 = 132 := ⟨dcAll_e (i := 16) da_X7_isBound_1 rfl, rfl⟩
theorem q_X7_isBound_132 : decode M_X7_isBound.2.1 132 = .ok (.iload_n 3, 1) ∧ 132 + 1 = 133 := ⟨dcAll_e (i := 17) da_X7_isBound_1 rfl, rfl⟩
theorem q_X7_isBound_133 : decode M_X7_isBound.2.1 133 = .ok (.iload_n 3, 1) ∧ 133 + 1 = 134 := ⟨dcAll_e (i := 18) da_X7_isBound_1 rfl, rfl⟩
theorem q_X7_isBound_134 : decode M_X7_isBound.2.1 134 = .ok (.iconst 1, 1) ∧ 134 + 1 = 135 := ⟨dcAll_e (i := 19) da_X7_isBound_1 rfl, rfl⟩
theorem q_X7_isBound_135 : decode M_X7_isBound.2.1 135 = .ok (.iadd, 1) ∧ 135 + 1 = 136 := ⟨dcAll_e (i := 20) da_X7_isBound_1 rfl, rfl⟩
theorem q_X7_isBound_136 : decode M_X7_isBound.2.1 136 = .ok (.invokevirtual 53, 3) ∧ 136 + 3 = 139 := ⟨dcAll_e (i := 21) da_X7_isBound_1 rfl, rfl⟩
theorem g_X7_isBound_136 : en_C M_X7_isBound M_X7_copyTo 53 2 := ⟨⟨inT4 58 rfl rfl, in_X7, cd_X7_copyTo⟩, ⟨by decide, by decide, by decide +kernel⟩, by decide, by decide⟩
theorem q_X7_isBound_139 : decode M_X7_isBound.2.1 139 = .ok (.iconst 1, 1) ∧ 139 + 1 = 140 := ⟨dcAll_e (i := 22) da_X7_isBound_1 rfl, rfl⟩
theorem q_X7_isBound_140 : decode M_X7_isBound.2.1 140 = .ok (.ireturn, 1) ∧ 140 + 1 = 141 := ⟨dcAll_e (i := 23) da_X7_isBound_1 rfl, rfl⟩
theorem q_X7_isBound_141 : decode M_X7_isBound.2.1 141 = .ok (.aload_n 0, 1) ∧ 141 + 1 = 142 := ⟨dcAll_e (i := 24) da_X7_isBound_1 rfl, rfl⟩
theorem q_X7_isBound_142 : decode M_X7_isBound.2.1 142 = .ok (.iconst 0, 1) ∧ 142 + 1 = 143 := ⟨dcAll_e (i := 25) da_X7_isBound_1 rfl, rfl⟩
theorem q_X7_isBound_143 : decode M_X7_isBound.2.1 143 = .ok (.aload_n 0, 1) ∧ 143 + 1 = 144 := ⟨dcAll_e (i := 26) da_X7_isBound_1 rfl, rfl⟩
theorem q_X7_isBound_144 : decode M_X7_isBound.2.1 144 = .ok (.getfield 23, 3) ∧ 144 + 3 = 147 := ⟨dcAll_e (i := 27) da_X7_isBound_1 rfl, rfl⟩
theorem q_X7_isBound_147 : decode M_X7_isBound.2.1 147 = .ok (.iload_n 1, 1) ∧ 147 + 1 = 148 := ⟨dcAll_e (i := 28) da_X7_isBound_1 rfl, rfl⟩
theorem q_X7_isBound_148 : decode M_X7_isBound.2.1 148 = .ok (.laload, 1) ∧ 148 + 1 = 149 := ⟨dcAll_e (i := 29) da_X7_isBound_1 rfl, rfl⟩
theorem q_X7_isBound_149 : decode M_X7_isBound.2.1 149 = .ok (.invokevirtual 84, 3) ∧ 149 + 3 = 152 := ⟨dcAll_e (i := 30) da_X7_isBound_1 rfl, rfl⟩
theorem g_X7_isBound_149 : en_C M_X7_isBound M_X7_setTo 84 2 := ⟨⟨inT4 45 rfl rfl, in_X7, cd_X7_setTo⟩, ⟨by decide, by decide, by decide +kernel⟩, by decide, by decide⟩
theorem q_X7_isBound_152 : decode M_X7_isBound.2.1 152 = .ok (.aload_n 0, 1) ∧ 152 + 1 = 153 := ⟨dcAll_e (i := 31) da_X7_isBound_1 rfl, rfl⟩
theorem q_X7_isBound_153 : decode M_X7_isBound.2.1 153 = .ok (.iconst 1, 1) ∧ 153 + 1 = 154 := ⟨dcAll_e (i := 32) da_X7_isBound_1 rfl, rfl⟩
theorem q_X7_isBound_154 : decode M_X7_isBound.2.1 154 = .ok (.iconst 0, 1) ∧ 154 + 1 = 155 := ⟨dcAll_e (i := 33) da_X7_isBound_1 rfl, rfl⟩
theorem q_X7_isBound_155 : decode M_X7_isBound.2.1 155 = .ok (.bipush 12, 2) ∧ 155 + 2 = 157 := ⟨dcAll_e (i := 34) da_X7_isBound_1 rfl, rfl⟩
theorem q_X7_isBound_157 : decode M_X7_isBound.2.1 157 = .ok (.invokevirtual 123, 3) ∧ 157 + 3 = 160 := ⟨dcAll_e (i := 35) da_X7_isBound_1 rfl, rfl⟩
theorem g_X7_isBound_157 : en_C M_X7_isBound M_X7_multiply 123 3 := ⟨⟨inT4 50 rfl rfl, in_X7, cd_X7_multiply⟩, ⟨by decide, by decide, by decide +kernel⟩, by decide, by decide⟩
theorem q_X7_isBound_160 : decode M_X7_isBound.2.1 160 = .ok (.aload_n 0, 1) ∧ 160 + 1 = 161 := ⟨dcAll_e (i := 36) da_X7_isBound_1 rfl, rfl⟩
theorem q_X7_isBound_161 : decode M_X7_isBound.2.1 161 = .ok (.iconst 0, 1) ∧ 161 + 1 = 162 := ⟨dcAll_e (i := 37) da_X7_isBound_1 rfl, rfl⟩
theorem q_X7_isBound_162 : decode M_X7_isBound.2.1 162 = .ok (.aload_n 0, 1) ∧ 162 + 1 = 163 := ⟨dcAll_e (i := 38) da_X7_isBound_1 rfl, rfl⟩
theorem q_X7_isBound_163 : decode M_X7_isBound.2.1 163 = .ok (.getfield 27, 3) ∧ 163 + 3 = 166 := ⟨dcAll_e (i := 39) da_X7_isBound_1 rfl, rfl⟩
theorem q_X7_isBound_166 : decode M_X7_isBound.2.1 166 = .ok (.iload_n 1, 1) ∧ 166 + 1 = 167 := ⟨dcAll_e (i := 0) da_X7_isBound_2 rfl, rfl⟩
theorem q_X7_isBound_167 : decode M_X7_isBound.2.1 167 = .ok (.laload, 1) ∧ 167 + 1 = 168 := ⟨dcAll_e (i := 1) da_X7_isBound_2 rfl, rfl⟩
theorem q_X7_isBound_168 : decode M_X7_isBound.2.1 168 = .ok (.invokevirtual 84, 3) ∧ 168 + 3 = 171 := ⟨dcAll_e (i := 2) da_X7_isBound_2 rfl, rfl⟩
theorem g_X7_isBound_168 : en_C M_X7_isBound M_X7_setTo 84 2 := ⟨⟨inT4 45 rfl rfl, in_X7, cd_X7_setTo⟩, ⟨by decide, by decide, by decide +kernel⟩, by decide, by decide⟩
theorem q_X7_isBound_171 : decode M_X7_isBound.2.1 171 = .ok (.aload_n 0, 1) ∧ 171 + 1 = 172 := ⟨dcAll_e (i := 3) da_X7_isBound_2 rfl, rfl⟩
theorem q_X7_isBound_172 : decode M_X7_isBound.2.1 172 = .ok (.iload_n 3, 1) ∧ 172 + 1 = 173 := ⟨dcAll_e (i := 4) da_X7_isBound_2 rfl, rfl⟩
theorem q_X7_isBound_173 : decode M_X7_isBound.2.1 173 = .ok (.iconst 1, 1) ∧ 173 + 1 = 174 := ⟨dcAll_e (i := 5) da_X7_isBound_2 rfl, rfl⟩
theorem q_X7_isBound_174 : decode M_X7_isBound.2.1 174 = .ok (.iconst 0, 1) ∧ 174 + 1 = 175 := ⟨dcAll_e (i := 6) da_X7_isBound_2 rfl, rfl⟩
theorem q_X7_isBound_175 : decode M_X7_isBound.2.1 175 = .ok (.iconst 0, 1) ∧ 175 + 1 = 176 := ⟨dcAll_e (i := 7) da_X7_isBound_2 rfl, rfl⟩
theorem q_X7_isBound_176 : decode M_X7_isBound.2.1 176 = .ok (.invokevirtual 126, 3) ∧ 176 + 3 = 179 := ⟨dcAll_e (i := 8) da_X7_isBound_2 rfl, rfl⟩
theorem cd_X7_rounded : Cond.code M_X7_rounded.1 M_X7_rounded.2.1 M_X7_rounded.2.2.1 M_X7_rounded.2.2.2.1 ∈ en_tbl := inT4 65 rfl rfl
theorem g_X7_isBound_176 : en_C M_X7_isBound M_X7_rounded 126 4 := ⟨⟨inT4 62 rfl rfl, in_X7, cd_X7_rounded⟩, ⟨by decide, by decide, by decide +kernel⟩, by decide, by decide⟩
theorem w_X7_rounded : Cond.instanceMethod M_X7_rounded.1 ∈ en_tbl ∧ Cond.selects M_X7_rounded.1.cls M_X7_rounded.1 M_X7_rounded.1 ∈ en_tbl := ⟨inT4 64 rfl rfl, by decide +kernel⟩
theorem q_X7_isBound_179 : decode M_X7_isBound.2.1 179 = .ok (.aload_n 0, 1) ∧ 179 + 1 = 180 := ⟨dcAll_e (i := 9) da_X7_isBound_2 rfl, rfl⟩
theorem q_X7_isBound_180 : decode M_X7_isBound.2.1 180 = .ok (.iload_n 3, 1) ∧ 180 + 1 = 181 := ⟨dcAll_e (i := 10) da_X7_isBound_2 rfl, rfl⟩
theorem q_X7_isBound_181 : decode M_X7_isBound.2.1 181 = .ok (.iconst 1, 1) ∧ 181 + 1 = 182 := ⟨dcAll_e (i := 11) da_X7_isBound_2 rfl, rfl⟩
theorem q_X7_isBound_182 : decode M_X7_isBound.2.1 182 = .ok (.iadd, 1) ∧ 182 + 1 = 183 := ⟨dcAll_e (i := 12) da_X7_isBound_2 rfl, rfl⟩
theorem q_X7_isBound_183 : decode M_X7_isBound.2.1 183 = .ok (.iconst 1, 1) ∧ 183 + 1 = 184 := ⟨dcAll_e (i := 13) da_X7_isBound_2 rfl, rfl⟩
theorem q_X7_isBound_184 : decode M_X7_isBound.2.1 184 = .ok (.iconst 0, 1) ∧ 184 + 1 = 185 := ⟨dcAll_e (i := 14) da_X7_isBound_2 rfl, rfl⟩
theorem q_X7_isBound_185 : decode M_X7_isBound.2.1 185 = .ok (.iconst 1, 1) ∧ 185 + 1 = 186 := ⟨dcAll_e (i := 15) da_X7_isBound_2 rfl, rfl⟩
theorem q_X7_isBound_186 : decode M_X7_isBound.2.1 186 = .ok (.invokevirtual 126, 3) ∧ 186 + 3 = 189 := ⟨dcAll_e (i := 16) da_X7_isBound_2 rfl, rfl⟩
theorem g_X7_isBound_186 : en_C M_X7_isBound M_X7_rounded 126 4 := ⟨⟨inT4 62 rfl rfl, in_X7, cd_X7_rounded⟩, ⟨by decide, by decide, by decide +kernel⟩, by decide, by decide⟩
theorem q_X7_isBound_189 : decode M_X7_isBound.2.1 189 = .ok (.iconst 1, 1) ∧ 189 + 1 = 190 := ⟨dcAll_e (i := 17) da_X7_isBound_2 rfl, rfl⟩
theorem q_X7_isBound_190 : decode M_X7_isBound.2.1 190 = .ok (.ireturn, 1) ∧ 190 + 1 = 191 := ⟨dcAll_e (i := 18) da_X7_isBound_2 rfl, rfl⟩
theorem q_X7_isBound_191 : decode M_X7_isBound.2.1 191 = .ok (.aload_n 0, 1) ∧ 191 + 1 = 192 := ⟨dcAll_e (i := 19) da_X7_isBound_2 rfl, rfl⟩
theorem q_X7_isBound_192 : decode M_X7_isBound.2.1 192 = .ok (.iload_n 1, 1) ∧ 192 + 1 = 193 := ⟨dcAll_e (i := 20) da_X7_isBound_2 rfl, rfl⟩
theorem q_X7_isBound_193 : decode M_X7_isBound.2.1 193 = .ok (.iload_n 2, 1) ∧ 193 + 1 = 194 := ⟨dcAll_e (i := 21) da_X7_isBound_2 rfl, rfl⟩
theorem q_X7_isBound_194 : decode M_X7_isBound.2.1 194 = .ok (.invokevirtual 130, 3) ∧ 194 + 3 = 197 := ⟨dcAll_e (i := 22) da_X7_isBound_2 rfl, rfl⟩
theorem cd_X7_findFloor : Cond.code M_X7_findFloor.1 M_X7_findFloor.2.1 M_X7_findFloor.2.2.1 M_X7_findFloor.2.2.2.1 ∈ en_tbl := inT4 102 rfl rfl
theorem g_X7_isBound_194 : en_C M_X7_isBound M_X7_findFloor 130 2 := ⟨⟨inT4 99 rfl rfl, in_X7, cd_X7_findFloor⟩, ⟨by decide, by decide, by decide +kernel⟩, by decide, by decide⟩
theorem w_X7_findFloor : Cond.instanceMethod M_X7_findFloor.1 ∈ en_tbl ∧ Cond.selects M_X7_findFloor.1.cls M_X7_findFloor.1 M_X7_findFloor.1 ∈ en_tbl := ⟨inT4 101 rfl rfl, by decide +kernel⟩
theorem q_X7_isBound_197 : decode M_X7_isBound.2.1 197 = .ok (.aload_n 0, 1) ∧ 197 + 1 = 198 := ⟨dcAll_e (i := 23) da_X7_isBound_2 rfl, rfl⟩
theorem q_X7_isBound_198 : decode M_X7_isBound.2.1 198 = .ok (.iconst 0, 1) ∧ 198 + 1 = 199 := ⟨dcAll_e (i := 24) da_X7_isBound_2 rfl, rfl⟩
theorem q_X7_isBound_199 : decode M_X7_isBound.2.1 199 = .ok (.lconst 1, 1) ∧ 199 + 1 = 200 := ⟨dcAll_e (i := 25) da_X7_isBound_2 rfl, rfl⟩
theorem q_X7_isBound_200 : decode M_X7_isBound.2.1 200 = .ok (.invokevirtual 84, 3) ∧ 200 + 3 = 203 := ⟨dcAll_e (i := 26) da_X7_isBound_2 rfl, rfl⟩
theorem g_X7_isBound_200 : en_C M_X7_isBound M_X7_setTo 84 2 := ⟨⟨inT4 45 rfl rfl, in_X7, cd_X7_setTo⟩, ⟨by decide, by decide, by decide +kernel⟩, by decide, by decide⟩
theorem q_X7_isBound_203 : decode M_X7_isBound.2.1 203 = .ok (.aload_n 0, 1) ∧ 203 + 1 = 204 := ⟨dcAll_e (i := 27) da_X7_isBound_2 rfl, rfl⟩
theorem q_X7_isBound_204 : decode M_X7_isBound.2.1 204 = .ok (.iload_n 3, 1) ∧ 204 + 1 = 205 := ⟨dcAll_e (i := 28) da_X7_isBound_2 rfl, rfl⟩
theorem q_X7_isBound_205 : decode M_X7_isBound.2.1 205 = .ok (.iconst 1, 1) ∧ 205 + 1 = 206 := ⟨dcAll_e (i := 29) da_X7_isBound_2 rfl, rfl⟩
theorem q_X7_isBound_206 : decode M_X7_isBound.2.1 206 = .ok (.iadd, 1) ∧ 206 + 1 = 207 := ⟨dcAll_e (i := 30) da_X7_isBound_2 rfl, rfl⟩
theorem q_X7_isBound_207 : decode M_X7_isBound.2.1 207 = .ok (.iload_n 3, 1) ∧ 207 + 1 = 208 := ⟨dcAll_e (i := 31) da_X7_isBound_2 rfl, rfl⟩
theorem q_X7_isBound_208 : decode M_X7_isBound.2.1 208 = .ok (.iconst 0, 1) ∧ 208 + 1 = 209 := ⟨dcAll_e (i := 32) da_X7_isBound_2 rfl, rfl⟩
theorem q_X7_isBound_209 : decode M_X7_isBound.2.1 209 = .ok (.iconst 1, 1) ∧ 209 + 1 = 210 := ⟨dcAll_e (i := 33) da_X7_isBound_2 rfl, rfl⟩
theorem q_X7_isBound_210 : decode M_X7_isBound.2.1 210 = .ok (.invokevirtual 87, 3) ∧ 210 + 3 = 213 := ⟨dcAll_e (i := 34) da_X7_isBound_2 rfl, rfl⟩
theorem g_X7_isBound_210 : en_C M_X7_isBound M_X7_addTo 87 4 := ⟨⟨inT4 87 rfl rfl, in_X7, cd_X7_addTo⟩, ⟨by decide, by decide, by decide +kernel⟩, by decide, by decide⟩
theorem q_X7_isBound_213 : decode M_X7_isBound.2.1 213 = .ok (.iconst 1, 1) ∧ 213 + 1 = 214 := ⟨dcAll_e (i := 35) da_X7_isBound_2 rfl, rfl⟩
theorem q_X7_isBound_214 : decode M_X7_isBound.2.1 214 = .ok (.ireturn, 1) ∧ 214 + 1 = 215 := ⟨dcAll_e (i := 36) da_X7_isBound_2 rfl, rfl⟩
theorem q_X7_isBound_215 : decode M_X7_isBound.2.1 215 = .ok (.aload_n 0, 1) ∧ 215 + 1 = 216 := ⟨dcAll_e (i := 37) da_X7_isBound_2 rfl, rfl⟩
theorem q_X7_isBound_216 : decode M_X7_isBound.2.1 216 = .ok (.iload_n 3, 1) ∧ 216 + 1 = 217 := ⟨dcAll_e (i := 38) da_X7_isBound_2 rfl, rfl⟩
theorem q_X7_isBound_217 : decode M_X7_isBound.2.1 217 = .ok (.iload 4, 2) ∧ 217 + 2 = 219 := ⟨dcAll_e (i := 39) da_X7_isBound_2 rfl, rfl⟩
theorem q_X7_isBound_219 : decode M_X7_isBound.2.1 219 = .ok (.invokestatic 112, 3) ∧ 219 + 3 = 222 := ⟨dcAll_e (i := 0) da_X7_isBound_3 rfl, rfl⟩
theorem g_X7_isBound_219 : en_C M_X7_isBound M_X7_low 112 1 := ⟨⟨inT4 38 rfl rfl, in_X7, cd_X7_low⟩, ⟨by decide, by decide, by decide +kernel⟩, by decide, by decide⟩
theorem q_X7_isBound_222 : decode M_X7_isBound.2.1 222 = .ok (.invokevirtual 133, 3) ∧ 222 + 3 = 225 := ⟨dcAll_e (i := 1) da_X7_isBound_3 rfl, rfl⟩
theorem cd_X7_isRoot : Cond.code M_X7_isRoot.1 M_X7_isRoot.2.1 M_X7_isRoot.2.2.1 M_X7_isRoot.2.2.2.1 ∈ en_tbl := inT4 122 rfl rfl
theorem g_X7_isBound_222 : en_C M_X7_isBound M_X7_isRoot 133 2 := ⟨⟨inT4 119 rfl rfl, in_X7, cd_X7_isRoot⟩, ⟨by decide, by decide, by decide +kernel⟩, by decide, by decide⟩
theorem w_X7_isRoot : Cond.instanceMethod M_X7_isRoot.1 ∈ en_tbl ∧ Cond.selects M_X7_isRoot.1.cls M_X7_isRoot.1 M_X7_isRoot.1 ∈ en_tbl := ⟨inT4 121 rfl rfl, by decide +kernel⟩
theorem q_X7_isBound_225 : decode M_X7_isBound.2.1 225 = .ok (.ireturn, 1) ∧ 225 + 1 = 226 := ⟨dcAll_e (i := 2) da_X7_isBound_3 rfl, rfl⟩
theorem q_X7_isBound_226 : decode M_X7_isBound.2.1 226 = .ok (.aload_n 0, 1) ∧ 226 + 1 = 227 := ⟨dcAll_e (i := 3) da_X7_isBound_3 rfl, rfl⟩
theorem q_X7_isBound_227 : decode M_X7_isBound.2.1 227 = .ok (.aload_n 0, 1) ∧ 227 + 1 = 228 := ⟨dcAll_e (i := 4) da_X7_isBound_3 rfl, rfl⟩
theorem q_X7_isBound_228 : decode M_X7_isBound.2.1 228 = .ok (.getfield 20, 3) ∧ 228 + 3 = 231 := ⟨dcAll_e (i := 5) da_X7_isBound_3 rfl, rfl⟩
theorem q_X7_isBound_231 : decode M_X7_isBound.2.1 231 = .ok (.iload_n 1, 1) ∧ 231 + 1 = 232 := ⟨dcAll_e (i := 6) da_X7_isBound_3 rfl, rfl⟩
theorem q_X7_isBound_232 : decode M_X7_isBound.2.1 232 = .ok (.iaload, 1) ∧ 232 + 1 = 233 := ⟨dcAll_e (i := 7) da_X7_isBound_3 rfl, rfl⟩
theorem q_X7_isBound_233 : decode M_X7_isBound.2.1 233 = .ok (.bipush 6, 2) ∧ 233 + 2 = 235 := ⟨dcAll_e (i := 8) da_X7_isBound_3 rfl, rfl⟩
theorem q_X7_isBound_235 : decode M_X7_isBound.2.1 235 = .ok (.isub, 1) ∧ 235 + 1 = 236 := ⟨dcAll_e (i := 9) da_X7_isBound_3 rfl, rfl⟩
theorem q_X7_isBound_236 : decode M_X7_isBound.2.1 236 = .ok (.iload_n 3, 1) ∧ 236 + 1 = 237 := ⟨dcAll_e (i := 10) da_X7_isBound_3 rfl, rfl⟩
theorem q_X7_isBound_237 : decode M_X7_isBound.2.1 237 = .ok (.iload 4, 2) ∧ 237 + 2 = 239 := ⟨dcAll_e (i := 11) da_X7_isBound_3 rfl, rfl⟩
theorem q_X7_isBound_239 : decode M_X7_isBound.2.1 239 = .ok (.invokestatic 112, 3) ∧ 239 + 3 = 242 := ⟨dcAll_e (i := 12) da_X7_isBound_3 rfl, rfl⟩
theorem g_X7_isBound_239 : en_C M_X7_isBound M_X7_low 112 1 := ⟨⟨inT4 38 rfl rfl, in_X7, cd_X7_low⟩, ⟨by decide, by decide, by decide +kernel⟩, by decide, by decide⟩
theorem q_X7_isBound_242 : decode M_X7_isBound.2.1 242 = .ok (.iload 5, 2) ∧ 242 + 2 = 244 := ⟨dcAll_e (i := 13) da_X7_isBound_3 rfl, rfl⟩
theorem q_X7_isBound_244 : decode M_X7_isBound.2.1 244 = .ok (.invokestatic 112, 3) ∧ 244 + 3 = 247 := ⟨dcAll_e (i := 14) da_X7_isBound_3 rfl, rfl⟩
theorem g_X7_isBound_244 : en_C M_X7_isBound M_X7_low 112 1 := ⟨⟨inT4 38 rfl rfl, in_X7, cd_X7_low⟩, ⟨by decide, by decide, by decide +kernel⟩, by decide, by decide⟩
theorem q_X7_isBound_247 : decode M_X7_isBound.2.1 247 = .ok (.invokevirtual 136, 3) ∧ 247 + 3 = 250 := ⟨dcAll_e (i := 15) da_X7_isBound_3 rfl, rfl⟩
theorem cd_X7_isJoined : Cond.code M_X7_isJoined.1 M_X7_isJoined.2.1 M_X7_isJoined.2.2.1 M_X7_isJoined.2.2.2.1 ∈ en_tbl := inT4 134 rfl rfl
theorem g_X7_isBound_247 : en_C M_X7_isBound M_X7_isJoined 136 4 := ⟨⟨inT4 131 rfl rfl, in_X7, cd_X7_isJoined⟩, ⟨by decide, by decide, by decide +kernel⟩, by decide, by decide⟩
theorem w_X7_isJoined : Cond.instanceMethod M_X7_isJoined.1 ∈ en_tbl ∧ Cond.selects M_X7_isJoined.1.cls M_X7_isJoined.1 M_X7_isJoined.1 ∈ en_tbl := ⟨inT4 133 rfl rfl, by decide +kernel⟩
theorem q_X7_isBound_250 : decode M_X7_isBound.2.1 250 = .ok (.ireturn, 1) ∧ 250 + 1 = 251 := ⟨dcAll_e (i := 16) da_X7_isBound_3 rfl, rfl⟩
def dl_X7_isRoot_0 : List (Nat × Instr × Nat) := [(0, .aload_n 0, 1), (1, .getfield 17, 3), (4, .iload_n 2, 1), (5, .iconst 1, 1), (6, .iadd, 1), (7, .iaload, 1), (8, .ifCond .ge 5, 3), (11, .iconst 0, 1), (12, .ireturn, 1), (13, .aload_n 0, 1), (14, .getfield 17, 3), (17, .iload_n 2, 1), (18, .iaload, 1), (19, .ifCond .gt 12, 3), (22, .aload_n 0, 1), (23, .iload_n 1, 1), (24, .lconst 0, 1), (25, .invokevirtual 84, 3), (28, .goto 17, 3), (31, .aload_n 0, 1), (32, .iconst 0, 1), (33, .iload_n 2, 1), (34, .bipush 12, 2), (36, .invokevirtual 123, 3), (39, .aload_n 0, 1), (40, .iload_n 1, 1), (41, .iconst 0, 1), (42, .invokevirtual 140, 3), (45, .aload_n 0, 1), (46, .iconst 0, 1), (47, .iload_n 2, 1), (48, .iconst 1, 1), (49, .iadd, 1), (50, .bipush 12, 2), (52, .invokevirtual 123, 3), (55, .aload_n 0, 1), (56, .iload_n 1, 1), (57, .iconst 1, 1), (58, .iadd, 1), (59, .iconst 0, 1)]
theorem da_X7_isRoot_0 : dcAll M_X7_isRoot.2.1 dl_X7_isRoot_0 = true := by decide +kernel
def dl_X7_isRoot_1 : List (Nat × Instr × Nat) := [(60, .invokevirtual 140, 3), (63, .aload_n 0, 1), (64, .iconst 1, 1), (65, .iload_n 1, 1), (66, .iconst 1, 1), (67, .iadd, 1), (68, .iload_n 1, 1), (69, .iconst 1, 1), (70, .iadd, 1), (71, .invokevirtual 123, 3), (74, .aload_n 0, 1), (75, .iconst 1, 1), (76, .iconst 0, 1), (77, .invokevirtual 143, 3), (80, .ifCond .ge 21, 3), (83, .aload_n 0, 1), (84, .iconst 1, 1), (85, .lconst 1, 1), (86, .invokevirtual 84, 3), (89, .aload_n 0, 1), (90, .iload_n 1, 1), (91, .iconst 1, 1), (92, .iadd, 1), (93, .iload_n 1, 1), (94, .iconst 1, 1), (95, .iadd, 1), (96, .iconst 1, 1), (97, .iconst 1, 1), (98, .invokevirtual 87, 3), (101, .iconst 1, 1), (102, .ireturn, 1)]
theorem da_X7_isRoot_1 : dcAll M_X7_isRoot.2.1 dl_X7_isRoot_1 = true := by decide +kernel
theorem q_X7_isRoot_0 : decode M_X7_isRoot.2.1 0 = .ok (.aload_n 0, 1) ∧ 0 + 1 = 1 := ⟨dcAll_e (i := 0) da_X7_isRoot_0 rfl, rfl⟩
theorem q_X7_isRoot_1 : decode M_X7_isRoot.2.1 1 = .ok (.getfield 17, 3) ∧ 1 + 3 = 4 := ⟨dcAll_e (i := 1) da_X7_isRoot_0 rfl, rfl⟩
theorem q_X7_isRoot_4 : decode M_X7_isRoot.2.1 4 = .ok (.iload_n 2, 1) ∧ 4 + 1 = 5 := ⟨dcAll_e (i := 2) da_X7_isRoot_0 rfl, rfl⟩
theorem q_X7_isRoot_5 : decode M_X7_isRoot.2.1 5 = .ok (.iconst 1, 1) ∧ 5 + 1 = 6 := ⟨dcAll_e (i := 3) da_X7_isRoot_0 rfl, rfl⟩
theorem q_X7_isRoot_6 : decode M_X7_isRoot.2.1 6 = .ok (.iadd, 1) ∧ 6 + 1 = 7 := ⟨dcAll_e (i := 4) da_X7_isRoot_0 rfl, rfl⟩
theorem q_X7_isRoot_7 : decode M_X7_isRoot.2.1 7 = .ok (.iaload, 1) ∧ 7 + 1 = 8 := ⟨dcAll_e (i := 5) da_X7_isRoot_0 rfl, rfl⟩
theorem q_X7_isRoot_8 : decode M_X7_isRoot.2.1 8 = .ok (.ifCond .ge 5, 3) ∧ 8 + 3 = 11 ∧ ((8 : Nat) : Int) + 5 = ((13 : Nat) : Int) := ⟨dcAll_e (i := 6) da_X7_isRoot_0 rfl, rfl, rfl⟩
theorem q_X7_isRoot_11 : decode M_X7_isRoot.2.1 11 = .ok (.iconst 0, 1) ∧ 11 + 1 = 12 := ⟨dcAll_e (i := 7) da_X7_isRoot_0 rfl, rfl⟩
theorem q_X7_isRoot_12 : decode M_X7_isRoot.2.1 12 = .ok (.ireturn, 1) ∧ 12 + 1 = 13 := ⟨dcAll_e (i := 8) da_X7_isRoot_0 rfl, rfl⟩
theorem q_X7_isRoot_13 : decode M_X7_isRoot.2.1 13 = .ok (.aload_n 0, 1) ∧ 13 + 1 = 14 := ⟨dcAll_e (i := 9) da_X7_isRoot_0 rfl, rfl⟩
theorem q_X7_isRoot_14 : decode M_X7_isRoot.2.1 14 = .ok (.getfield 17, 3) ∧ 14 + 3 = 17 := ⟨dcAll_e (i := 10) da_X7_isRoot_0 rfl, rfl⟩
theorem q_X7_isRoot_17 : decode M_X7_isRoot.2.1 17 = .ok (.iload_n 2, 1) ∧ 17 + 1 = 18 := ⟨dcAll_e (i := 11) da_X7_isRoot_0 rfl, rfl⟩
theorem q_X7_isRoot_18 : decode M_X7_isRoot.2.1 18 = .ok (.iaload, 1) ∧ 18 + 1 = 19 := ⟨dcAll_e (i := 12) da_X7_isRoot_0 rfl, rfl⟩
theorem q_X7_isRoot_19 : decode M_X7_isRoot.2.1 19 = .ok (.ifCond .gt 12, 3) ∧ 19 + 3 = 22 ∧ ((19 : Nat) : Int) + 12 = ((31 : Nat) : Int) := ⟨dcAll_e (i := 13) da_X7_isRoot_0 rfl, rfl, rfl⟩
theorem q_X7_isRoot_22 : decode M_X7_isRoot.2.1 22 = .ok (.aload_n 0, 1) ∧ 22 + 1 = 23 := ⟨dcAll_e (i := 14) da_X7_isRoot_0 rfl, rfl⟩
theorem q_X7_isRoot_23 : decode M_X7_isRoot.2.1 23 = .ok (.iload_n 1, 1) ∧ 23 + 1 = 24 := ⟨dcAll_e (i := 15) da_X7_isRoot_0 rfl, rfl⟩
theorem q_X7_isRoot_24 : decode M_X7_isRoot.2.1 24 = .ok (.lconst 0, 1) ∧ 24 + 1 = 25 := ⟨dcAll_e (i := 16) da_X7_isRoot_0 rfl, rfl⟩
theorem q_X7_isRoot_25 : decode M_X7_isRoot.2.1 25 = .ok (.invokevirtual 84, 3) ∧ 25 + 3 = 28 := ⟨dcAll_e (i := 17) da_X7_isRoot_0 rfl, rfl⟩
theorem g_X7_isRoot_25 : en_C M_X7_isRoot M_X7_setTo 84 2 := ⟨⟨inT4 45 rfl rfl, in_X7, cd_X7_setTo⟩, ⟨by decide, by decide, by decide +kernel⟩, by decide, by decide⟩
theorem q_X7_isRoot_28 : decode M_X7_isRoot.2.1 28 = .ok (.goto 17, 3) ∧ 28 + 3 = 31 ∧ ((28 : Nat) : Int) + 17 = ((45 : Nat) : Int) := ⟨dcAll_e (i := 18) da_X7_isRoot_0 rfl, rfl, rfl⟩
theorem q_X7_isRoot_31 : decode M_X7_isRoot.2.1 31 = .ok (.aload_n 0, 1) ∧ 31 + 1 = 32 := ⟨dcAll_e (i := 19) da_X7_isRoot_0 rfl, rfl⟩
theorem q_X7_isRoot_32 : decode M_X7_isRoot.2.1 32 = .ok (.iconst 0, 1) ∧ 32 + 1 = 33 := ⟨dcAll_e (i := 20) da_X7_isRoot_0 rfl, rfl⟩
theorem q_X7_isRoot_33 : decode M_X7_isRoot.2.1 33 = .ok (.iload_n 2, 1) ∧ 33 + 1 = 34 := ⟨dcAll_e (i := 21) da_X7_isRoot_0 rfl, rfl⟩
theorem q_X7_isRoot_34 : decode M_X7_isRoot.2.1 34 = .ok (.bipush 12, 2) ∧ 34 + 2 = 36 := ⟨dcAll_e (i := 22) da_X7_isRoot_0 rfl, rfl⟩
theorem q_X7_isRoot_36 : decode M_X7_isRoot.2.1 36 = .ok (.invokevirtual 123, 3) ∧ 36 + 3 = 39 := ⟨dcAll_e (i := 23) da_X7_isRoot_0 rfl, rfl⟩
theorem g_X7_isRoot_36 : en_C M_X7_isRoot M_X7_multiply 123 3 := ⟨⟨inT4 50 rfl rfl, in_X7, cd_X7_multiply⟩, ⟨by decide, by decide, by decide +kernel⟩, by decide, by decide⟩
theorem q_X7_isRoot_39 : decode M_X7_isRoot.2.1 39 = .ok (.aload_n 0, 1) ∧ 39 + 1 = 40 := ⟨dcAll_e (i := 24) da_X7_isRoot_0 rfl, rfl⟩
theorem q_X7_isRoot_40 : decode M_X7_isRoot.2.1 40 = .ok (.iload_n 1, 1) ∧ 40 + 1 = 41 := ⟨dcAll_e (i := 25) da_X7_isRoot_0 rfl, rfl⟩
theorem q_X7_isRoot_41 : decode M_X7_isRoot.2.1 41 = .ok (.iconst 0, 1) ∧ 41 + 1 = 42 := ⟨dcAll_e (i := 26) da_X7_isRoot_0 rfl, rfl⟩
theorem q_X7_isRoot_42 : decode M_X7_isRoot.2.1 42 = .ok (.invokevirtual 140, 3) ∧ 42 + 3 = 45 := ⟨dcAll_e (i := 27) da_X7_isRoot_0 rfl, rfl⟩
theorem cd_X7_rootOf : Cond.code M_X7_rootOf.1 M_X7_rootOf.2.1 M_X7_rootOf.2.2.1 M_X7_rootOf.2.2.2.1 ∈ en_tbl := inT4 126 rfl rfl
theorem g_X7_isRoot_42 : en_C M_X7_isRoot M_X7_rootOf 140 2 := ⟨⟨inT4 123 rfl rfl, in_X7, cd_X7_rootOf⟩, ⟨by decide, by decide, by decide +kernel⟩, by decide, by decide⟩
theorem w_X7_rootOf : Cond.instanceMethod M_X7_rootOf.1 ∈ en_tbl ∧ Cond.selects M_X7_rootOf.1.cls M_X7_rootOf.1 M_X7_rootOf.1 ∈ en_tbl := ⟨inT4 125 rfl rfl, by decide +kernel⟩
theorem q_X7_isRoot_45 : decode M_X7_isRoot.2.1 45 = .ok (.aload_n 0, 1) ∧ 45 + 1 = 46 := ⟨dcAll_e (i := 28) da_X7_isRoot_0 rfl, rfl⟩
theorem q_X7_isRoot_46 : decode M_X7_isRoot.2.1 46 = .ok (.iconst 0, 1) ∧ 46 + 1 = 47 := ⟨dcAll_e (i := 29) da_X7_isRoot_0 rfl, rfl⟩
theorem q_X7_isRoot_47 : decode M_X7_isRoot.2.1 47 = .ok (.iload_n 2, 1) ∧ 47 + 1 = 48 := ⟨dcAll_e (i := 30) da_X7_isRoot_0 rfl, rfl⟩
theorem q_X7_isRoot_48 : decode M_X7_isRoot.2.1 48 = .ok (.iconst 1, 1) ∧ 48 + 1 = 49 := ⟨dcAll_e (i := 31) da_X7_isRoot_0 rfl, rfl⟩
theorem q_X7_isRoot_49 : decode M_X7_isRoot.2.1 49 = .ok (.iadd, 1) ∧ 49 + 1 = 50 := ⟨dcAll_e (i := 32) da_X7_isRoot_0 rfl, rfl⟩
theorem q_X7_isRoot_50 : decode M_X7_isRoot.2.1 50 = .ok (.bipush 12, 2) ∧ 50 + 2 = 52 := ⟨dcAll_e (i := 33) da_X7_isRoot_0 rfl, rfl⟩
theorem q_X7_isRoot_52 : decode M_X7_isRoot.2.1 52 = .ok (.invokevirtual 123, 3) ∧ 52 + 3 = 55 := ⟨dcAll_e (i := 34) da_X7_isRoot_0 rfl, rfl⟩
theorem g_X7_isRoot_52 : en_C M_X7_isRoot M_X7_multiply 123 3 := ⟨⟨inT4 50 rfl rfl, in_X7, cd_X7_multiply⟩, ⟨by decide, by decide, by decide +kernel⟩, by decide, by decide⟩
theorem q_X7_isRoot_55 : decode M_X7_isRoot.2.1 55 = .ok (.aload_n 0, 1) ∧ 55 + 1 = 56 := ⟨dcAll_e (i := 35) da_X7_isRoot_0 rfl, rfl⟩
theorem q_X7_isRoot_56 : decode M_X7_isRoot.2.1 56 = .ok (.iload_n 1, 1) ∧ 56 + 1 = 57 := ⟨dcAll_e (i := 36) da_X7_isRoot_0 rfl, rfl⟩
theorem q_X7_isRoot_57 : decode M_X7_isRoot.2.1 57 = .ok (.iconst 1, 1) ∧ 57 + 1 = 58 := ⟨dcAll_e (i := 37) da_X7_isRoot_0 rfl, rfl⟩
theorem q_X7_isRoot_58 : decode M_X7_isRoot.2.1 58 = .ok (.iadd, 1) ∧ 58 + 1 = 59 := ⟨dcAll_e (i := 38) da_X7_isRoot_0 rfl, rfl⟩
theorem q_X7_isRoot_59 : decode M_X7_isRoot.2.1 59 = .ok (.iconst 0, 1) ∧ 59 + 1 = 60 := ⟨dcAll_e (i := 39) da_X7_isRoot_0 rfl, rfl⟩
theorem q_X7_isRoot_60 : decode M_X7_isRoot.2.1 60 = .ok (.invokevirtual 140, 3) ∧ 60 + 3 = 63 := ⟨dcAll_e (i := 0) da_X7_isRoot_1 rfl, rfl⟩
theorem g_X7_isRoot_60 : en_C M_X7_isRoot M_X7_rootOf 140 2 := ⟨⟨inT4 123 rfl rfl, in_X7, cd_X7_rootOf⟩, ⟨by decide, by decide, by decide +kernel⟩, by decide, by decide⟩
theorem q_X7_isRoot_63 : decode M_X7_isRoot.2.1 63 = .ok (.aload_n 0, 1) ∧ 63 + 1 = 64 := ⟨dcAll_e (i := 1) da_X7_isRoot_1 rfl, rfl⟩
theorem q_X7_isRoot_64 : decode M_X7_isRoot.2.1 64 = .ok (.iconst 1, 1) ∧ 64 + 1 = 65 := ⟨dcAll_e (i := 2) da_X7_isRoot_1 rfl, rfl⟩
theorem q_X7_isRoot_65 : decode M_X7_isRoot.2.1 65 = .ok (.iload_n 1, 1) ∧ 65 + 1 = 66 := ⟨dcAll_e (i := 3) da_X7_isRoot_1 rfl, rfl⟩
theorem q_X7_isRoot_66 : decode M_X7_isRoot.2.1 66 = .ok (.iconst 1, 1) ∧ 66 + 1 = 67 := ⟨dcAll_e (i := 4) da_X7_isRoot_1 rfl, rfl⟩
theorem q_X7_isRoot_67 : decode M_X7_isRoot.2.1 67 = .ok (.iadd, 1) ∧ 67 + 1 = 68 := ⟨dcAll_e (i := 5) da_X7_isRoot_1 rfl, rfl⟩
theorem q_X7_isRoot_68 : decode M_X7_isRoot.2.1 68 = .ok (.iload_n 1, 1) ∧ 68 + 1 = 69 := ⟨dcAll_e (i := 6) da_X7_isRoot_1 rfl, rfl⟩
theorem q_X7_isRoot_69 : decode M_X7_isRoot.2.1 69 = .ok (.iconst 1, 1) ∧ 69 + 1 = 70 := ⟨dcAll_e (i := 7) da_X7_isRoot_1 rfl, rfl⟩
theorem q_X7_isRoot_70 : decode M_X7_isRoot.2.1 70 = .ok (.iadd, 1) ∧ 70 + 1 = 71 := ⟨dcAll_e (i := 8) da_X7_isRoot_1 rfl, rfl⟩
theorem q_X7_isRoot_71 : decode M_X7_isRoot.2.1 71 = .ok (.invokevirtual 123, 3) ∧ 71 + 3 = 74 := ⟨dcAll_e (i := 9) da_X7_isRoot_1 rfl, rfl⟩
theorem g_X7_isRoot_71 : en_C M_X7_isRoot M_X7_multiply 123 3 := ⟨⟨inT4 50 rfl rfl, in_X7, cd_X7_multiply⟩, ⟨by decide, by decide, by decide +kernel⟩, by decide, by decide⟩
theorem q_X7_isRoot_74 : decode M_X7_isRoot.2.1 74 = .ok (.aload_n 0, 1) ∧ 74 + 1 = 75 := ⟨dcAll_e (i := 10) da_X7_isRoot_1 rfl, rfl⟩
theorem q_X7_isRoot_75 : decode M_X7_isRoot.2.1 75 = .ok (.iconst 1, 1) ∧ 75 + 1 = 76 := ⟨dcAll_e (i := 11) da_X7_isRoot_1 rfl, rfl⟩
theorem q_X7_isRoot_76 : decode M_X7_isRoot.2.1 76 = .ok (.iconst 0, 1) ∧ 76 + 1 = 77 := ⟨dcAll_e (i := 12) da_X7_isRoot_1 rfl, rfl⟩
theorem q_X7_isRoot_77 : decode M_X7_isRoot.2.1 77 = .ok (.invokevirtual 143, 3) ∧ 77 + 3 = 80 := ⟨dcAll_e (i := 13) da_X7_isRoot_1 rfl, rfl⟩
theorem cd_X7_compareTo : Cond.code M_X7_compareTo.1 M_X7_compareTo.2.1 M_X7_compareTo.2.2.1 M_X7_compareTo.2.2.2.1 ∈ en_tbl := inT4 118 rfl rfl
theorem g_X7_isRoot_77 : en_C M_X7_isRoot M_X7_compareTo 143 2 := ⟨⟨inT4 115 rfl rfl, in_X7, cd_X7_compareTo⟩, ⟨by decide, by decide, by decide +kernel⟩, by decide, by decide⟩
theorem w_X7_compareTo : Cond.instanceMethod M_X7_compareTo.1 ∈ en_tbl ∧ Cond.selects M_X7_compareTo.1.cls M_X7_compareTo.1 M_X7_compareTo.1 ∈ en_tbl := ⟨inT4 117 rfl rfl, by decide +kernel⟩
theorem q_X7_isRoot_80 : decode M_X7_isRoot.2.1 80 = .ok (.ifCond .ge 21, 3) ∧ 80 + 3 = 83 ∧ ((80 : Nat) : Int) + 21 = ((101 : Nat) : Int) := ⟨dcAll_e (i := 14) da_X7_isRoot_1 rfl, rfl, rfl⟩
theorem q_X7_isRoot_83 : decode M_X7_isRoot.2.1 83 = .ok (.aload_n 0, 1) ∧ 83 + 1 = 84 := ⟨dcAll_e (i := 15) da_X7_isRoot_1 rfl, rfl⟩
theorem q_X7_isRoot_84 : decode M_X7_isRoot.2.1 84 = .ok (.iconst 1, 1) ∧ 84 + 1 = 85 := ⟨dcAll_e (i := 16) da_X7_isRoot_1 rfl, rfl⟩
theorem q_X7_isRoot_85 : decode M_X7_isRoot.2.1 85 = .ok (.lconst 1, 1) ∧ 85 + 1 = 86 := ⟨dcAll_e (i := 17) da_X7_isRoot_1 rfl, rfl⟩
theorem q_X7_isRoot_86 : decode M_X7_isRoot.2.1 86 = .ok (.invokevirtual 84, 3) ∧ 86 + 3 = 89 := ⟨dcAll_e (i := 18) da_X7_isRoot_1 rfl, rfl⟩
theorem g_X7_isRoot_86 : en_C M_X7_isRoot M_X7_setTo 84 2 := ⟨⟨inT4 45 rfl rfl, in_X7, cd_X7_setTo⟩, ⟨by decide, by decide, by decide +kernel⟩, by decide, by decide⟩
theorem q_X7_isRoot_89 : decode M_X7_isRoot.2.1 89 = .ok (.aload_n 0, 1) ∧ 89 + 1 = 90 := ⟨dcAll_e (i := 19) da_X7_isRoot_1 rfl, rfl⟩
theorem q_X7_isRoot_90 : decode M_X7_isRoot.2.1 90 = .ok (.iload_n 1, 1) ∧ 90 + 1 = 91 := ⟨dcAll_e (i := 20) da_X7_isRoot_1 rfl, rfl⟩
theorem q_X7_isRoot_91 : decode M_X7_isRoot.2.1 91 = .ok (.iconst 1, 1) ∧ 91 + 1 = 92 := ⟨dcAll_e (i := 21) da_X7_isRoot_1 rfl, rfl⟩
theorem q_X7_isRoot_92 : decode M_X7_isRoot.2.1 92 = .ok (.iadd, 1) ∧ 92 + 1 = 93 := ⟨dcAll_e (i := 22) da_X7_isRoot_1 rfl, rfl⟩
theorem q_X7_isRoot_93 : decode M_X7_isRoot.2.1 93 = .ok (.iload_n 1, 1) ∧ 93 + 1 = 94 := ⟨dcAll_e (i := 23) da_X7_isRoot_1 rfl, rfl⟩
theorem q_X7_isRoot_94 : decode M_X7_isRoot.2.1 94 = .ok (.iconst 1, 1) ∧ 94 + 1 = 95 := ⟨dcAll_e (i := 24) da_X7_isRoot_1 rfl, rfl⟩
theorem q_X7_isRoot_95 : decode M_X7_isRoot.2.1 95 = .ok (.iadd, 1) ∧ 95 + 1 = 96 := ⟨dcAll_e (i := 25) da_X7_isRoot_1 rfl, rfl⟩
theorem q_X7_isRoot_96 : decode M_X7_isRoot.2.1 96 = .ok (.iconst 1, 1) ∧ 96 + 1 = 97 := ⟨dcAll_e (i := 26) da_X7_isRoot_1 rfl, rfl⟩
theorem q_X7_isRoot_97 : decode M_X7_isRoot.2.1 97 = .ok (.iconst 1, 1) ∧ 97 + 1 = 98 := ⟨dcAll_e (i := 27) da_X7_isRoot_1 rfl, rfl⟩
theorem q_X7_isRoot_98 : decode M_X7_isRoot.2.1 98 = .ok (.invokevirtual 87, 3) ∧ 98 + 3 = 101 := ⟨dcAll_e (i := 28) da_X7_isRoot_1 rfl, rfl⟩
theorem g_X7_isRoot_98 : en_C M_X7_isRoot M_X7_addTo 87 4 := ⟨⟨inT4 87 rfl rfl, in_X7, cd_X7_addTo⟩, ⟨by decide, by decide, by decide +kernel⟩, by decide, by decide⟩
theorem q_X7_isRoot_101 : decode M_X7_isRoot.2.1 101 = .ok (.iconst 1, 1) ∧ 101 + 1 = 102 := ⟨dcAll_e (i := 29) da_X7_isRoot_1 rfl, rfl⟩
theorem q_X7_isRoot_102 : decode M_X7_isRoot.2.1 102 = .ok (.ireturn, 1) ∧ 102 + 1 = 103 := ⟨dcAll_e (i := 30) da_X7_isRoot_1 rfl, rfl⟩
def dl_X7_rootOf_0 : List (Nat × Instr × Nat) := [(0, .aload_n 0, 1), (1, .getfield 17, 3), (4, .iload_n 2, 1), (5, .iaload, 1), (6, .ifCond .ne 10, 3), (9, .aload_n 0, 1), (10, .iload_n 1, 1), (11, .lconst 0, 1), (12, .invokevirtual 84, 3), (15, .return_, 1), (16, .aload_n 0, 1), (17, .iconst 1, 1), (18, .aload_n 0, 1), (19, .iload_n 2, 1), (20, .invokevirtual 120, 3), (23, .iconst 1, 1), (24, .iadd, 1), (25, .iconst 2, 1), (26, .idiv, 1), (27, .invokevirtual 109, 3), (30, .iconst 1, 1), (31, .istore_n 3, 1), (32, .iload_n 3, 1), (33, .ifCond .eq 68, 3), (36, .aload_n 0, 1), (37, .iload_n 2, 1), (38, .iconst 2, 1), (39, .invokevirtual 53, 3), (42, .aload_n 0, 1), (43, .iconst 1, 1), (44, .iconst 3, 1), (45, .invokevirtual 53, 3), (48, .aload_n 0, 1), (49, .iconst 4, 1), (50, .iconst 2, 1), (51, .iconst 3, 1), (52, .invokevirtual 81, 3), (55, .aload_n 0, 1), (56, .iconst 4, 1), (57, .iconst 4, 1)]
theorem da_X7_rootOf_0 : dcAll M_X7_rootOf.2.1 dl_X7_rootOf_0 = true := by decide +kernel
def dl_X7_rootOf_1 : List (Nat × Instr × Nat) := [(58, .iconst 1, 1), (59, .iconst 1, 1), (60, .invokevirtual 87, 3), (63, .aload_n 0, 1), (64, .iconst 4, 1), (65, .ldc2_w 146, 3), (68, .invokevirtual 77, 3), (71, .lstore 4, 2), (73, .aload_n 0, 1), (74, .iconst 4, 1), (75, .iconst 1, 1), (76, .invokevirtual 143, 3), (79, .ifCond .ge 7, 3), (82, .iconst 1, 1), (83, .goto 4, 3), (86, .iconst 0, 1), (87, .istore_n 3, 1), (88, .iload_n 3, 1), (89, .ifCond .eq 9, 3), (92, .aload_n 0, 1), (93, .iconst 4, 1), (94, .iconst 1, 1), (95, .invokevirtual 53, 3), (98, .goto (-66), 3), (101, .aload_n 0, 1), (102, .iconst 1, 1), (103, .iload_n 1, 1), (104, .invokevirtual 53, 3), (107, .return_, 1)]
theorem da_X7_rootOf_1 : dcAll M_X7_rootOf.2.1 dl_X7_rootOf_1 = true := by decide +kernel
theorem q_X7_rootOf_0 : decode M_X7_rootOf.2.1 0 = .ok (.aload_n 0, 1) ∧ 0 + 1 = 1 := ⟨dcAll_e (i := 0) da_X7_rootOf_0 rfl, rfl⟩
theorem q_X7_rootOf_1 : decode M_X7_rootOf.2.1 1 = .ok (.getfield 17, 3) ∧ 1 + 3 = 4 := ⟨dcAll_e (i := 1) da_X7_rootOf_0 rfl, rfl⟩
theorem q_X7_rootOf_4 : decode M_X7_rootOf.2.1 4 = .ok (.iload_n 2, 1) ∧ 4 + 1 = 5 := ⟨dcAll_e (i := 2) da_X7_rootOf_0 rfl, rfl⟩
theorem q_X7_rootOf_5 : decode M_X7_rootOf.2.1 5 = .ok (.iaload, 1) ∧ 5 + 1 = 6 := ⟨dcAll_e (i := 3) da_X7_rootOf_0 rfl, rfl⟩
theorem q_X7_rootOf_6 : decode M_X7_rootOf.2.1 6 = .ok (.ifCond .ne 10, 3) ∧ 6 + 3 = 9 ∧ ((6 : Nat) : Int) + 10 = ((16 : Nat) : Int) := ⟨dcAll_e (i := 4) da_X7_rootOf_0 rfl, rfl, rfl⟩
theorem q_X7_rootOf_9 : decode M_X7_rootOf.2.1 9 = .ok (.aload_n 0, 1) ∧ 9 + 1 = 10 := ⟨dcAll_e (i := 5) da_X7_rootOf_0 rfl, rfl⟩
theorem q_X7_rootOf_10 : decode M_X7_rootOf.2.1 10 = .ok (.iload_n 1, 1) ∧ 10 + 1 = 11 := ⟨dcAll_e (i := 6) da_X7_rootOf_0 rfl, rfl⟩
theorem q_X7_rootOf_11 : decode M_X7_rootOf.2.1 11 = .ok (.lconst 0, 1) ∧ 11 + 1 = 12 := ⟨dcAll_e (i := 7) da_X7_rootOf_0 rfl, rfl⟩
theorem q_X7_rootOf_12 : decode M_X7_rootOf.2.1 12 = .ok (.invokevirtual 84, 3) ∧ 12 + 3 = 15 := ⟨dcAll_e (i := 8) da_X7_rootOf_0 rfl, rfl⟩
theorem g_X7_rootOf_12 : en_C M_X7_rootOf M_X7_setTo 84 2 := ⟨⟨inT4 45 rfl rfl, in_X7, cd_X7_setTo⟩, ⟨by decide, by decide, by decide +kernel⟩, by decide, by decide⟩
theorem q_X7_rootOf_15 : decode M_X7_rootOf.2.1 15 = .ok (.return_, 1) ∧ 15 + 1 = 16 := ⟨dcAll_e (i := 9) da_X7_rootOf_0 rfl, rfl⟩
theorem q_X7_rootOf_16 : decode M_X7_rootOf.2.1 16 = .ok (.aload_n 0, 1) ∧ 16 + 1 = 17 := ⟨dcAll_e (i := 10) da_X7_rootOf_0 rfl, rfl⟩
theorem q_X7_rootOf_17 : decode M_X7_rootOf.2.1 17 = .ok (.iconst 1, 1) ∧ 17 + 1 = 18 := ⟨dcAll_e (i := 11) da_X7_rootOf_0 rfl, rfl⟩
theorem q_X7_rootOf_18 : decode M_X7_rootOf.2.1 18 = .ok (.aload_n 0, 1) ∧ 18 + 1 = 19 := ⟨dcAll_e (i := 12) da_X7_rootOf_0 rfl, rfl⟩
theorem q_X7_rootOf_19 : decode M_X7_rootOf.2.1 19 = .ok (.iload_n 2, 1) ∧ 19 + 1 = 20 := ⟨dcAll_e (i := 13) da_X7_rootOf_0 rfl, rfl⟩
theorem q_X7_rootOf_20 : decode M_X7_rootOf.2.1 20 = .ok (.invokevirtual 120, 3) ∧ 20 + 3 = 23 := ⟨dcAll_e (i := 14) da_X7_rootOf_0 rfl, rfl⟩
theorem g_X7_rootOf_20 : en_C M_X7_rootOf M_X7_digitsOf 120 1 := ⟨⟨inT4 127 rfl rfl, in_X7, cd_X7_digitsOf⟩, ⟨by decide, by decide, by decide +kernel⟩, by decide, by decide⟩
theorem q_X7_rootOf_23 : decode M_X7_rootOf.2.1 23 = .ok (.iconst 1, 1) ∧ 23 + 1 = 24 := ⟨dcAll_e (i := 15) da_X7_rootOf_0 rfl, rfl⟩
theorem q_X7_rootOf_24 : decode M_X7_rootOf.2.1 24 = .ok (.iadd, 1) ∧ 24 + 1 = 25 := ⟨dcAll_e (i := 16) da_X7_rootOf_0 rfl, rfl⟩
theorem q_X7_rootOf_25 : decode M_X7_rootOf.2.1 25 = .ok (.iconst 2, 1) ∧ 25 + 1 = 26 := ⟨dcAll_e (i := 17) da_X7_rootOf_0 rfl, rfl⟩
theorem q_X7_rootOf_26 : decode M_X7_rootOf.2.1 26 = .ok (.idiv, 1) ∧ 26 + 1 = 27 := ⟨dcAll_e (i := 18) da_X7_rootOf_0 rfl, rfl⟩
theorem q_X7_rootOf_27 : decode M_X7_rootOf.2.1 27 = .ok (.invokevirtual 109, 3) ∧ 27 + 3 = 30 := ⟨dcAll_e (i := 19) da_X7_rootOf_0 rfl, rfl⟩
theorem g_X7_rootOf_27 : en_C M_X7_rootOf M_X7_powerOfTen 109 2 := ⟨⟨inT4 34 rfl rfl, in_X7, cd_X7_powerOfTen⟩, ⟨by decide, by decide, by decide +kernel⟩, by decide, by decide⟩
theorem q_X7_rootOf_30 : decode M_X7_rootOf.2.1 30 = .ok (.iconst 1, 1) ∧ 30 + 1 = 31 := ⟨dcAll_e (i := 20) da_X7_rootOf_0 rfl, rfl⟩
theorem q_X7_rootOf_31 : decode M_X7_rootOf.2.1 31 = .ok (.istore_n 3, 1) ∧ 31 + 1 = 32 := ⟨dcAll_e (i := 21) da_X7_rootOf_0 rfl, rfl⟩
theorem q_X7_rootOf_32 : decode M_X7_rootOf.2.1 32 = .ok (.iload_n 3, 1) ∧ 32 + 1 = 33 := ⟨dcAll_e (i := 22) da_X7_rootOf_0 rfl, rfl⟩
theorem q_X7_rootOf_33 : decode M_X7_rootOf.2.1 33 = .ok (.ifCond .eq 68, 3) ∧ 33 + 3 = 36 ∧ ((33 : Nat) : Int) + 68 = ((101 : Nat) : Int) := ⟨dcAll_e (i := 23) da_X7_rootOf_0 rfl, rfl, rfl⟩
theorem q_X7_rootOf_36 : decode M_X7_rootOf.2.1 36 = .ok (.aload_n 0, 1) ∧ 36 + 1 = 37 := ⟨dcAll_e (i := 24) da_X7_rootOf_0 rfl, rfl⟩
theorem q_X7_rootOf_37 : decode M_X7_rootOf.2.1 37 = .ok (.iload_n 2, 1) ∧ 37 + 1 = 38 := ⟨dcAll_e (i := 25) da_X7_rootOf_0 rfl, rfl⟩
theorem q_X7_rootOf_38 : decode M_X7_rootOf.2.1 38 = .ok (.iconst 2, 1) ∧ 38 + 1 = 39 := ⟨dcAll_e (i := 26) da_X7_rootOf_0 rfl, rfl⟩
theorem q_X7_rootOf_39 : decode M_X7_rootOf.2.1 39 = .ok (.invokevirtual 53, 3) ∧ 39 + 3 = 42 := ⟨dcAll_e (i := 27) da_X7_rootOf_0 rfl, rfl⟩
theorem g_X7_rootOf_39 : en_C M_X7_rootOf M_X7_copyTo 53 2 := ⟨⟨inT4 58 rfl rfl, in_X7, cd_X7_copyTo⟩, ⟨by decide, by decide, by decide +kernel⟩, by decide, by decide⟩
theorem q_X7_rootOf_42 : decode M_X7_rootOf.2.1 42 = .ok (.aload_n 0, 1) ∧ 42 + 1 = 43 := ⟨dcAll_e (i := 28) da_X7_rootOf_0 rfl, rfl⟩
theorem q_X7_rootOf_43 : decode M_X7_rootOf.2.1 43 = .ok (.iconst 1, 1) ∧ 43 + 1 = 44 := ⟨dcAll_e (i := 29) da_X7_rootOf_0 rfl, rfl⟩
theorem q_X7_rootOf_44 : decode M_X7_rootOf.2.1 44 = .ok (.iconst 3, 1) ∧ 44 + 1 = 45 := ⟨dcAll_e (i := 30) da_X7_rootOf_0 rfl, rfl⟩
theorem q_X7_rootOf_45 : decode M_X7_rootOf.2.1 45 = .ok (.invokevirtual 53, 3) ∧ 45 + 3 = 48 := ⟨dcAll_e (i := 31) da_X7_rootOf_0 rfl, rfl⟩
theorem g_X7_rootOf_45 : en_C M_X7_rootOf M_X7_copyTo 53 2 := ⟨⟨inT4 58 rfl rfl, in_X7, cd_X7_copyTo⟩, ⟨by decide, by decide, by decide +kernel⟩, by decide, by decide⟩
theorem q_X7_rootOf_48 : decode M_X7_rootOf.2.1 48 = .ok (.aload_n 0, 1) ∧ 48 + 1 = 49 := ⟨dcAll_e (i := 32) da_X7_rootOf_0 rfl, rfl⟩
theorem q_X7_rootOf_49 : decode M_X7_rootOf.2.1 49 = .ok (.iconst 4, 1) ∧ 49 + 1 = 50 := ⟨dcAll_e (i := 33) da_X7_rootOf_0 rfl, rfl⟩
theorem q_X7_rootOf_50 : decode M_X7_rootOf.2.1 50 = .ok (.iconst 2, 1) ∧ 50 + 1 = 51 := ⟨dcAll_e (i := 34) da_X7_rootOf_0 rfl, rfl⟩
theorem q_X7_rootOf_51 : decode M_X7_rootOf.2.1 51 = .ok (.iconst 3, 1) ∧ 51 + 1 = 52 := ⟨dcAll_e (i := 35) da_X7_rootOf_0 rfl, rfl⟩
theorem q_X7_rootOf_52 : decode M_X7_rootOf.2.1 52 = .ok (.invokevirtual 81, 3) ∧ 52 + 3 = 55 := ⟨dcAll_e (i := 36) da_X7_rootOf_0 rfl, rfl⟩
theorem g_X7_rootOf_52 : en_C M_X7_rootOf M_X7_divide 81 3 := ⟨⟨inT4 66 rfl rfl, in_X7, cd_X7_divide⟩, ⟨by decide, by decide, by decide +kernel⟩, by decide, by decide⟩
theorem q_X7_rootOf_55 : decode M_X7_rootOf.2.1 55 = .ok (.aload_n 0, 1) ∧ 55 + 1 = 56 := ⟨dcAll_e (i := 37) da_X7_rootOf_0 rfl, rfl⟩
theorem q_X7_rootOf_56 : decode M_X7_rootOf.2.1 56 = .ok (.iconst 4, 1) ∧ 56 + 1 = 57 := ⟨dcAll_e (i := 38) da_X7_rootOf_0 rfl, rfl⟩
theorem q_X7_rootOf_57 : decode M_X7_rootOf.2.1 57 = .ok (.iconst 4, 1) ∧ 57 + 1 = 58 := ⟨dcAll_e (i := 39) da_X7_rootOf_0 rfl, rfl⟩
theorem q_X7_rootOf_58 : decode M_X7_rootOf.2.1 58 = .ok (.iconst 1, 1) ∧ 58 + 1 = 59 := ⟨dcAll_e (i := 0) da_X7_rootOf_1 rfl, rfl⟩
theorem q_X7_rootOf_59 : decode M_X7_rootOf.2.1 59 = .ok (.iconst 1, 1) ∧ 59 + 1 = 60 := ⟨dcAll_e (i := 1) da_X7_rootOf_1 rfl, rfl⟩
theorem q_X7_rootOf_60 : decode M_X7_rootOf.2.1 60 = .ok (.invokevirtual 87, 3) ∧ 60 + 3 = 63 := ⟨dcAll_e (i := 2) da_X7_rootOf_1 rfl, rfl⟩
theorem g_X7_rootOf_60 : en_C M_X7_rootOf M_X7_addTo 87 4 := ⟨⟨inT4 87 rfl rfl, in_X7, cd_X7_addTo⟩, ⟨by decide, by decide, by decide +kernel⟩, by decide, by decide⟩
theorem q_X7_rootOf_63 : decode M_X7_rootOf.2.1 63 = .ok (.aload_n 0, 1) ∧ 63 + 1 = 64 := ⟨dcAll_e (i := 3) da_X7_rootOf_1 rfl, rfl⟩
theorem q_X7_rootOf_64 : decode M_X7_rootOf.2.1 64 = .ok (.iconst 4, 1) ∧ 64 + 1 = 65 := ⟨dcAll_e (i := 4) da_X7_rootOf_1 rfl, rfl⟩
theorem q_X7_rootOf_65 : decode M_X7_rootOf.2.1 65 = .ok (.ldc2_w 146, 3) ∧ 65 + 3 = 68 := ⟨dcAll_e (i := 5) da_X7_rootOf_1 rfl, rfl⟩
theorem k_RX7_146 : Cond.constantLong RX7 146 (lN 2) ∈ en_tbl := by decide +kernel
theorem q_X7_rootOf_68 : decode M_X7_rootOf.2.1 68 = .ok (.invokevirtual 77, 3) ∧ 68 + 3 = 71 := ⟨dcAll_e (i := 6) da_X7_rootOf_1 rfl, rfl⟩
theorem g_X7_rootOf_68 : en_C M_X7_rootOf M_X7_bySmall 77 2 := ⟨⟨inT4 83 rfl rfl, in_X7, cd_X7_bySmall⟩, ⟨by decide, by decide, by decide +kernel⟩, by decide, by decide⟩
theorem q_X7_rootOf_71 : decode M_X7_rootOf.2.1 71 = .ok (.lstore 4, 2) ∧ 71 + 2 = 73 := ⟨dcAll_e (i := 7) da_X7_rootOf_1 rfl, rfl⟩
theorem q_X7_rootOf_73 : decode M_X7_rootOf.2.1 73 = .ok (.aload_n 0, 1) ∧ 73 + 1 = 74 := ⟨dcAll_e (i := 8) da_X7_rootOf_1 rfl, rfl⟩
theorem q_X7_rootOf_74 : decode M_X7_rootOf.2.1 74 = .ok (.iconst 4, 1) ∧ 74 + 1 = 75 := ⟨dcAll_e (i := 9) da_X7_rootOf_1 rfl, rfl⟩
theorem q_X7_rootOf_75 : decode M_X7_rootOf.2.1 75 = .ok (.iconst 1, 1) ∧ 75 + 1 = 76 := ⟨dcAll_e (i := 10) da_X7_rootOf_1 rfl, rfl⟩
theorem q_X7_rootOf_76 : decode M_X7_rootOf.2.1 76 = .ok (.invokevirtual 143, 3) ∧ 76 + 3 = 79 := ⟨dcAll_e (i := 11) da_X7_rootOf_1 rfl, rfl⟩
theorem g_X7_rootOf_76 : en_C M_X7_rootOf M_X7_compareTo 143 2 := ⟨⟨inT4 115 rfl rfl, in_X7, cd_X7_compareTo⟩, ⟨by decide, by decide, by decide +kernel⟩, by decide, by decide⟩
theorem q_X7_rootOf_79 : decode M_X7_rootOf.2.1 79 = .ok (.ifCond .ge 7, 3) ∧ 79 + 3 = 82 ∧ ((79 : Nat) : Int) + 7 = ((86 : Nat) : Int) := ⟨dcAll_e (i := 12) da_X7_rootOf_1 rfl, rfl, rfl⟩
theorem q_X7_rootOf_82 : decode M_X7_rootOf.2.1 82 = .ok (.iconst 1, 1) ∧ 82 + 1 = 83 := ⟨dcAll_e (i := 13) da_X7_rootOf_1 rfl, rfl⟩
theorem q_X7_rootOf_83 : decode M_X7_rootOf.2.1 83 = .ok (.goto 4, 3) ∧ 83 + 3 = 86 ∧ ((83 : Nat) : Int) + 4 = ((87 : Nat) : Int) := ⟨dcAll_e (i := 14) da_X7_rootOf_1 rfl, rfl, rfl⟩
theorem q_X7_rootOf_86 : decode M_X7_rootOf.2.1 86 = .ok (.iconst 0, 1) ∧ 86 + 1 = 87 := ⟨dcAll_e (i := 15) da_X7_rootOf_1 rfl, rfl⟩
theorem q_X7_rootOf_87 : decode M_X7_rootOf.2.1 87 = .ok (.istore_n 3, 1) ∧ 87 + 1 = 88 := ⟨dcAll_e (i := 16) da_X7_rootOf_1 rfl, rfl⟩
theorem q_X7_rootOf_88 : decode M_X7_rootOf.2.1 88 = .ok (.iload_n 3, 1) ∧ 88 + 1 = 89 := ⟨dcAll_e (i := 17) da_X7_rootOf_1 rfl, rfl⟩
theorem q_X7_rootOf_89 : decode M_X7_rootOf.2.1 89 = .ok (.ifCond .eq 9, 3) ∧ 89 + 3 = 92 ∧ ((89 : Nat) : Int) + 9 = ((98 : Nat) : Int) := ⟨dcAll_e (i := 18) da_X7_rootOf_1 rfl, rfl, rfl⟩
theorem q_X7_rootOf_92 : decode M_X7_rootOf.2.1 92 = .ok (.aload_n 0, 1) ∧ 92 + 1 = 93 := ⟨dcAll_e (i := 19) da_X7_rootOf_1 rfl, rfl⟩
theorem q_X7_rootOf_93 : decode M_X7_rootOf.2.1 93 = .ok (.iconst 4, 1) ∧ 93 + 1 = 94 := ⟨dcAll_e (i := 20) da_X7_rootOf_1 rfl, rfl⟩
theorem q_X7_rootOf_94 : decode M_X7_rootOf.2.1 94 = .ok (.iconst 1, 1) ∧ 94 + 1 = 95 := ⟨dcAll_e (i := 21) da_X7_rootOf_1 rfl, rfl⟩
theorem q_X7_rootOf_95 : decode M_X7_rootOf.2.1 95 = .ok (.invokevirtual 53, 3) ∧ 95 + 3 = 98 := ⟨dcAll_e (i := 22) da_X7_rootOf_1 rfl, rfl⟩
theorem g_X7_rootOf_95 : en_C M_X7_rootOf M_X7_copyTo 53 2 := ⟨⟨inT4 58 rfl rfl, in_X7, cd_X7_copyTo⟩, ⟨by decide, by decide, by decide +kernel⟩, by decide, by decide⟩
theorem q_X7_rootOf_98 : decode M_X7_rootOf.2.1 98 = .ok (.goto (-66), 3) ∧ 98 + 3 = 101 ∧ ((98 : Nat) : Int) + (-66) = ((32 : Nat) : Int) := ⟨dcAll_e (i := 23) da_X7_rootOf_1 rfl, rfl, rfl⟩
theorem q_X7_rootOf_101 : decode M_X7_rootOf.2.1 101 = .ok (.aload_n 0, 1) ∧ 101 + 1 = 102 := ⟨dcAll_e (i := 24) da_X7_rootOf_1 rfl, rfl⟩
theorem q_X7_rootOf_102 : decode M_X7_rootOf.2.1 102 = .ok (.iconst 1, 1) ∧ 102 + 1 = 103 := ⟨dcAll_e (i := 25) da_X7_rootOf_1 rfl, rfl⟩
theorem q_X7_rootOf_103 : decode M_X7_rootOf.2.1 103 = .ok (.iload_n 1, 1) ∧ 103 + 1 = 104 := ⟨dcAll_e (i := 26) da_X7_rootOf_1 rfl, rfl⟩
theorem q_X7_rootOf_104 : decode M_X7_rootOf.2.1 104 = .ok (.invokevirtual 53, 3) ∧ 104 + 3 = 107 := ⟨dcAll_e (i := 27) da_X7_rootOf_1 rfl, rfl⟩
theorem g_X7_rootOf_104 : en_C M_X7_rootOf M_X7_copyTo 53 2 := ⟨⟨inT4 58 rfl rfl, in_X7, cd_X7_copyTo⟩, ⟨by decide, by decide, by decide +kernel⟩, by decide, by decide⟩
theorem q_X7_rootOf_107 : decode M_X7_rootOf.2.1 107 = .ok (.return_, 1) ∧ 107 + 1 = 108 := ⟨dcAll_e (i := 28) da_X7_rootOf_1 rfl, rfl⟩
def dl_X7_isJoined_0 : List (Nat × Instr × Nat) := [(0, .iload_n 1, 1), (1, .ifCond .ne 29, 3), (4, .aload_n 0, 1), (5, .iload_n 2, 1), (6, .iload_n 3, 1), (7, .iload 4, 2), (9, .iconst 1, 1), (10, .invokevirtual 87, 3), (13, .aload_n 0, 1), (14, .iload_n 2, 1), (15, .iconst 1, 1), (16, .iadd, 1), (17, .iload_n 3, 1), (18, .iconst 1, 1), (19, .iadd, 1), (20, .iload 4, 2), (22, .iconst 1, 1), (23, .iadd, 1), (24, .iconst 1, 1), (25, .invokevirtual 87, 3), (28, .iconst 1, 1), (29, .ireturn, 1), (30, .iload_n 1, 1), (31, .iconst 1, 1), (32, .if_icmp .ne 35, 3), (35, .aload_n 0, 1), (36, .iconst 2, 1), (37, .iload_n 3, 1), (38, .iload 4, 2), (40, .iconst 1, 1), (41, .iadd, 1), (42, .iconst (-1), 1), (43, .invokevirtual 87, 3), (46, .aload_n 0, 1), (47, .iload_n 2, 1), (48, .iconst 1, 1), (49, .iadd, 1), (50, .iload_n 3, 1), (51, .iconst 1, 1), (52, .iadd, 1)]
theorem da_X7_isJoined_0 : dcAll M_X7_isJoined.2.1 dl_X7_isJoined_0 = true := by decide +kernel
def dl_X7_isJoined_1 : List (Nat × Instr × Nat) := [(53, .iload 4, 2), (55, .iconst (-1), 1), (56, .invokevirtual 87, 3), (59, .aload_n 0, 1), (60, .iconst 2, 1), (61, .iload_n 2, 1), (62, .invokevirtual 53, 3), (65, .iconst 1, 1), (66, .ireturn, 1), (67, .iload_n 1, 1), (68, .iconst 3, 1), (69, .if_icmp .ne 27, 3), (72, .aload_n 0, 1), (73, .getfield 17, 3), (76, .iload 4, 2), (78, .iaload, 1), (79, .ifCond .gt 17, 3), (82, .aload_n 0, 1), (83, .getfield 17, 3), (86, .iload 4, 2), (88, .iconst 1, 1), (89, .iadd, 1), (90, .iaload, 1), (91, .ifCond .lt 5, 3), (94, .iconst 0, 1), (95, .ireturn, 1), (96, .iconst 0, 1), (97, .istore 5, 2), (99, .iload 5, 2), (101, .iconst 4, 1), (102, .if_icmp .ge 122, 3), (105, .iload_n 3, 1), (106, .iload 5, 2), (108, .iconst 1, 1), (109, .iand, 1), (110, .iadd, 1), (111, .istore 6, 2), (113, .iload 4, 2), (115, .iload 5, 2), (117, .iconst 1, 1)]
theorem da_X7_isJoined_1 : dcAll M_X7_isJoined.2.1 dl_X7_isJoined_1 = true := by decide +kernel
def dl_X7_isJoined_2 : List (Nat × Instr × Nat) := [(118, .ishr, 1), (119, .iadd, 1), (120, .istore 7, 2), (122, .iload_n 1, 1), (123, .iconst 2, 1), (124, .if_icmp .ne 22, 3), (127, .aload_n 0, 1), (128, .iconst 0, 1), (129, .iload 6, 2), (131, .iload 7, 2), (133, .invokevirtual 123, 3), (136, .aload_n 0, 1), (137, .bipush 12, 2), (139, .iconst 1, 1), (140, .invokevirtual 53, 3), (143, .goto 19, 3), (146, .aload_n 0, 1), (147, .iconst 0, 1), (148, .iload 6, 2), (150, .bipush 12, 2), (152, .invokevirtual 123, 3), (155, .aload_n 0, 1), (156, .iload 7, 2), (158, .iconst 1, 1), (159, .invokevirtual 53, 3), (162, .aload_n 0, 1), (163, .iconst 2, 1), (164, .iconst 0, 1), (165, .iconst 1, 1), (166, .iconst 0, 1), (167, .invokevirtual 126, 3), (170, .aload_n 0, 1), (171, .iconst 3, 1), (172, .iconst 0, 1), (173, .iconst 1, 1), (174, .iconst 1, 1), (175, .invokevirtual 126, 3), (178, .iload 5, 2), (180, .ifCond .eq 12, 3), (183, .aload_n 0, 1)]
theorem da_X7_isJoined_2 : dcAll M_X7_isJoined.2.1 dl_X7_isJoined_2 = true := by decide +kernel
def dl_X7_isJoined_3 : List (Nat × Instr × Nat) := [(184, .iconst 2, 1), (185, .iconst 4, 1), (186, .invokevirtual 143, 3), (189, .ifCond .ge 9, 3), (192, .aload_n 0, 1), (193, .iconst 2, 1), (194, .iconst 4, 1), (195, .invokevirtual 53, 3), (198, .iload 5, 2), (200, .ifCond .eq 12, 3), (203, .aload_n 0, 1), (204, .iconst 3, 1), (205, .iconst 5, 1), (206, .invokevirtual 143, 3), (209, .ifCond .le 9, 3), (212, .aload_n 0, 1), (213, .iconst 3, 1), (214, .iconst 5, 1), (215, .invokevirtual 53, 3), (218, .iinc 5 1, 3), (221, .goto (-122), 3), (224, .aload_n 0, 1), (225, .iconst 4, 1), (226, .iload_n 2, 1), (227, .invokevirtual 53, 3), (230, .aload_n 0, 1), (231, .iconst 5, 1), (232, .iload_n 2, 1), (233, .iconst 1, 1), (234, .iadd, 1), (235, .invokevirtual 53, 3), (238, .iconst 1, 1), (239, .ireturn, 1)]
theorem da_X7_isJoined_3 : dcAll M_X7_isJoined.2.1 dl_X7_isJoined_3 = true := by decide +kernel
theorem q_X7_isJoined_0 : decode M_X7_isJoined.2.1 0 = .ok (.iload_n 1, 1) ∧ 0 + 1 = 1 := ⟨dcAll_e (i := 0) da_X7_isJoined_0 rfl, rfl⟩
theorem q_X7_isJoined_1 : decode M_X7_isJoined.2.1 1 = .ok (.ifCond .ne 29, 3) ∧ 1 + 3 = 4 ∧ ((1 : Nat) : Int) + 29 = ((30 : Nat) : Int) := ⟨dcAll_e (i := 1) da_X7_isJoined_0 rfl, rfl, rfl⟩
theorem q_X7_isJoined_4 : decode M_X7_isJoined.2.1 4 = .ok (.aload_n 0, 1) ∧ 4 + 1 = 5 := ⟨dcAll_e (i := 2) da_X7_isJoined_0 rfl, rfl⟩
theorem q_X7_isJoined_5 : decode M_X7_isJoined.2.1 5 = .ok (.iload_n 2, 1) ∧ 5 + 1 = 6 := ⟨dcAll_e (i := 3) da_X7_isJoined_0 rfl, rfl⟩
theorem q_X7_isJoined_6 : decode M_X7_isJoined.2.1 6 = .ok (.iload_n 3, 1) ∧ 6 + 1 = 7 := ⟨dcAll_e (i := 4) da_X7_isJoined_0 rfl, rfl⟩
theorem q_X7_isJoined_7 : decode M_X7_isJoined.2.1 7 = .ok (.iload 4, 2) ∧ 7 + 2 = 9 := ⟨dcAll_e (i := 5) da_X7_isJoined_0 rfl, rfl⟩
theorem q_X7_isJoined_9 : decode M_X7_isJoined.2.1 9 = .ok (.iconst 1, 1) ∧ 9 + 1 = 10 := ⟨dcAll_e (i := 6) da_X7_isJoined_0 rfl, rfl⟩
theorem q_X7_isJoined_10 : decode M_X7_isJoined.2.1 10 = .ok (.invokevirtual 87, 3) ∧ 10 + 3 = 13 := ⟨dcAll_e (i := 7) da_X7_isJoined_0 rfl, rfl⟩
theorem g_X7_isJoined_10 : en_C M_X7_isJoined M_X7_addTo 87 4 := ⟨⟨inT4 87 rfl rfl, in_X7, cd_X7_addTo⟩, ⟨by decide, by decide, by decide +kernel⟩, by decide, by decide⟩
theorem q_X7_isJoined_13 : decode M_X7_isJoined.2.1 13 = .ok (.aload_n 0, 1) ∧ 13 + 1 = 14 := ⟨dcAll_e (i := 8) da_X7_isJoined_0 rfl, rfl⟩
theorem q_X7_isJoined_14 : decode M_X7_isJoined.2.1 14 = .ok (.iload_n 2, 1) ∧ 14 + 1 = 15 := ⟨dcAll_e (i := 9) da_X7_isJoined_0 rfl, rfl⟩
theorem q_X7_isJoined_15 : decode M_X7_isJoined.2.1 15 = .ok (.iconst 1, 1) ∧ 15 + 1 = 16 := ⟨dcAll_e (i := 10) da_X7_isJoined_0 rfl, rfl⟩
theorem q_X7_isJoined_16 : decode M_X7_isJoined.2.1 16 = .ok (.iadd, 1) ∧ 16 + 1 = 17 := ⟨dcAll_e (i := 11) da_X7_isJoined_0 rfl, rfl⟩
theorem q_X7_isJoined_17 : decode M_X7_isJoined.2.1 17 = .ok (.iload_n 3, 1) ∧ 17 + 1 = 18 := ⟨dcAll_e (i := 12) da_X7_isJoined_0 rfl, rfl⟩
theorem q_X7_isJoined_18 : decode M_X7_isJoined.2.1 18 = .ok (.iconst 1, 1) ∧ 18 + 1 = 19 := ⟨dcAll_e (i := 13) da_X7_isJoined_0 rfl, rfl⟩
theorem q_X7_isJoined_19 : decode M_X7_isJoined.2.1 19 = .ok (.iadd, 1) ∧ 19 + 1 = 20 := ⟨dcAll_e (i := 14) da_X7_isJoined_0 rfl, rfl⟩
theorem q_X7_isJoined_20 : decode M_X7_isJoined.2.1 20 = .ok (.iload 4, 2) ∧ 20 + 2 = 22 := ⟨dcAll_e (i := 15) da_X7_isJoined_0 rfl, rfl⟩
theorem q_X7_isJoined_22 : decode M_X7_isJoined.2.1 22 = .ok (.iconst 1, 1) ∧ 22 + 1 = 23 := ⟨dcAll_e (i := 16) da_X7_isJoined_0 rfl, rfl⟩
theorem q_X7_isJoined_23 : decode M_X7_isJoined.2.1 23 = .ok (.iadd, 1) ∧ 23 + 1 = 24 := ⟨dcAll_e (i := 17) da_X7_isJoined_0 rfl, rfl⟩
theorem q_X7_isJoined_24 : decode M_X7_isJoined.2.1 24 = .ok (.iconst 1, 1) ∧ 24 + 1 = 25 := ⟨dcAll_e (i := 18) da_X7_isJoined_0 rfl, rfl⟩
theorem q_X7_isJoined_25 : decode M_X7_isJoined.2.1 25 = .ok (.invokevirtual 87, 3) ∧ 25 + 3 = 28 := ⟨dcAll_e (i := 19) da_X7_isJoined_0 rfl, rfl⟩
theorem g_X7_isJoined_25 : en_C M_X7_isJoined M_X7_addTo 87 4 := ⟨⟨inT4 87 rfl rfl, in_X7, cd_X7_addTo⟩, ⟨by decide, by decide, by decide +kernel⟩, by decide, by decide⟩
theorem q_X7_isJoined_28 : decode M_X7_isJoined.2.1 28 = .ok (.iconst 1, 1) ∧ 28 + 1 = 29 := ⟨dcAll_e (i := 20) da_X7_isJoined_0 rfl, rfl⟩
theorem q_X7_isJoined_29 : decode M_X7_isJoined.2.1 29 = .ok (.ireturn, 1) ∧ 29 + 1 = 30 := ⟨dcAll_e (i := 21) da_X7_isJoined_0 rfl, rfl⟩
theorem q_X7_isJoined_30 : decode M_X7_isJoined.2.1 30 = .ok (.iload_n 1, 1) ∧ 30 + 1 = 31 := ⟨dcAll_e (i := 22) da_X7_isJoined_0 rfl, rfl⟩
theorem q_X7_isJoined_31 : decode M_X7_isJoined.2.1 31 = .ok (.iconst 1, 1) ∧ 31 + 1 = 32 := ⟨dcAll_e (i := 23) da_X7_isJoined_0 rfl, rfl⟩
theorem q_X7_isJoined_32 : decode M_X7_isJoined.2.1 32 = .ok (.if_icmp .ne 35, 3) ∧ 32 + 3 = 35 ∧ ((32 : Nat) : Int) + 35 = ((67 : Nat) : Int) := ⟨dcAll_e (i := 24) da_X7_isJoined_0 rfl, rfl, rfl⟩
theorem q_X7_isJoined_35 : decode M_X7_isJoined.2.1 35 = .ok (.aload_n 0, 1) ∧ 35 + 1 = 36 := ⟨dcAll_e (i := 25) da_X7_isJoined_0 rfl, rfl⟩
theorem q_X7_isJoined_36 : decode M_X7_isJoined.2.1 36 = .ok (.iconst 2, 1) ∧ 36 + 1 = 37 := ⟨dcAll_e (i := 26) da_X7_isJoined_0 rfl, rfl⟩
theorem q_X7_isJoined_37 : decode M_X7_isJoined.2.1 37 = .ok (.iload_n 3, 1) ∧ 37 + 1 = 38 := ⟨dcAll_e (i := 27) da_X7_isJoined_0 rfl, rfl⟩
theorem q_X7_isJoined_38 : decode M_X7_isJoined.2.1 38 = .ok (.iload 4, 2) ∧ 38 + 2 = 40 := ⟨dcAll_e (i := 28) da_X7_isJoined_0 rfl, rfl⟩
theorem q_X7_isJoined_40 : decode M_X7_isJoined.2.1 40 = .ok (.iconst 1, 1) ∧ 40 + 1 = 41 := ⟨dcAll_e (i := 29) da_X7_isJoined_0 rfl, rfl⟩
theorem q_X7_isJoined_41 : decode M_X7_isJoined.2.1 41 = .ok (.iadd, 1) ∧ 41 + 1 = 42 := ⟨dcAll_e (i := 30) da_X7_isJoined_0 rfl, rfl⟩
theorem q_X7_isJoined_42 : decode M_X7_isJoined.2.1 42 = .ok (.iconst (-1), 1) ∧ 42 + 1 = 43 := ⟨dcAll_e (i := 31) da_X7_isJoined_0 rfl, rfl⟩
theorem q_X7_isJoined_43 : decode M_X7_isJoined.2.1 43 = .ok (.invokevirtual 87, 3) ∧ 43 + 3 = 46 := ⟨dcAll_e (i := 32) da_X7_isJoined_0 rfl, rfl⟩
theorem g_X7_isJoined_43 : en_C M_X7_isJoined M_X7_addTo 87 4 := ⟨⟨inT4 87 rfl rfl, in_X7, cd_X7_addTo⟩, ⟨by decide, by decide, by decide +kernel⟩, by decide, by decide⟩
theorem q_X7_isJoined_46 : decode M_X7_isJoined.2.1 46 = .ok (.aload_n 0, 1) ∧ 46 + 1 = 47 := ⟨dcAll_e (i := 33) da_X7_isJoined_0 rfl, rfl⟩
theorem q_X7_isJoined_47 : decode M_X7_isJoined.2.1 47 = .ok (.iload_n 2, 1) ∧ 47 + 1 = 48 := ⟨dcAll_e (i := 34) da_X7_isJoined_0 rfl, rfl⟩
theorem q_X7_isJoined_48 : decode M_X7_isJoined.2.1 48 = .ok (.iconst 1, 1) ∧ 48 + 1 = 49 := ⟨dcAll_e (i := 35) da_X7_isJoined_0 rfl, rfl⟩
theorem q_X7_isJoined_49 : decode M_X7_isJoined.2.1 49 = .ok (.iadd, 1) ∧ 49 + 1 = 50 := ⟨dcAll_e (i := 36) da_X7_isJoined_0 rfl, rfl⟩
theorem q_X7_isJoined_50 : decode M_X7_isJoined.2.1 50 = .ok (.iload_n 3, 1) ∧ 50 + 1 = 51 := ⟨dcAll_e (i := 37) da_X7_isJoined_0 rfl, rfl⟩
theorem q_X7_isJoined_51 : decode M_X7_isJoined.2.1 51 = .ok (.iconst 1, 1) ∧ 51 + 1 = 52 := ⟨dcAll_e (i := 38) da_X7_isJoined_0 rfl, rfl⟩
theorem q_X7_isJoined_52 : decode M_X7_isJoined.2.1 52 = .ok (.iadd, 1) ∧ 52 + 1 = 53 := ⟨dcAll_e (i := 39) da_X7_isJoined_0 rfl, rfl⟩
theorem q_X7_isJoined_53 : decode M_X7_isJoined.2.1 53 = .ok (.iload 4, 2) ∧ 53 + 2 = 55 := ⟨dcAll_e (i := 0) da_X7_isJoined_1 rfl, rfl⟩
theorem q_X7_isJoined_55 : decode M_X7_isJoined.2.1 55 = .ok (.iconst (-1), 1) ∧ 55 + 1 = 56 := ⟨dcAll_e (i := 1) da_X7_isJoined_1 rfl, rfl⟩
theorem q_X7_isJoined_56 : decode M_X7_isJoined.2.1 56 = .ok (.invokevirtual 87, 3) ∧ 56 + 3 = 59 := ⟨dcAll_e (i := 2) da_X7_isJoined_1 rfl, rfl⟩
theorem g_X7_isJoined_56 : en_C M_X7_isJoined M_X7_addTo 87 4 := ⟨⟨inT4 87 rfl rfl, in_X7, cd_X7_addTo⟩, ⟨by decide, by decide, by decide +kernel⟩, by decide, by decide⟩
theorem q_X7_isJoined_59 : decode M_X7_isJoined.2.1 59 = .ok (.aload_n 0, 1) ∧ 59 + 1 = 60 := ⟨dcAll_e (i := 3) da_X7_isJoined_1 rfl, rfl⟩
theorem q_X7_isJoined_60 : decode M_X7_isJoined.2.1 60 = .ok (.iconst 2, 1) ∧ 60 + 1 = 61 := ⟨dcAll_e (i := 4) da_X7_isJoined_1 rfl, rfl⟩
theorem q_X7_isJoined_61 : decode M_X7_isJoined.2.1 61 = .ok (.iload_n 2, 1) ∧ 61 + 1 = 62 := ⟨dcAll_e (i := 5) da_X7_isJoined_1 rfl, rfl⟩
theorem q_X7_isJoined_62 : decode M_X7_isJoined.2.1 62 = .ok (.invokevirtual 53, 3) ∧ 62 + 3 = 65 := ⟨dcAll_e (i := 6) da_X7_isJoined_1 rfl, rfl⟩
theorem g_X7_isJoined_62 : en_C M_X7_isJoined M_X7_copyTo 53 2 := ⟨⟨inT4 58 rfl rfl, in_X7, cd_X7_copyTo⟩, ⟨by decide, by decide, by decide +kernel⟩, by decide, by decide⟩
theorem q_X7_isJoined_65 : decode M_X7_isJoined.2.1 65 = .ok (.iconst 1, 1) ∧ 65 + 1 = 66 := ⟨dcAll_e (i := 7) da_X7_isJoined_1 rfl, rfl⟩
theorem q_X7_isJoined_66 : decode M_X7_isJoined.2.1 66 = .ok (.ireturn, 1) ∧ 66 + 1 = 67 := ⟨dcAll_e (i := 8) da_X7_isJoined_1 rfl, rfl⟩
theorem q_X7_isJoined_67 : decode M_X7_isJoined.2.1 67 = .ok (.iload_n 1, 1) ∧ 67 + 1 = 68 := ⟨dcAll_e (i := 9) da_X7_isJoined_1 rfl, rfl⟩
theorem q_X7_isJoined_68 : decode M_X7_isJoined.2.1 68 = .ok (.iconst 3, 1) ∧ 68 + 1 = 69 := ⟨dcAll_e (i := 10) da_X7_isJoined_1 rfl, rfl⟩
theorem q_X7_isJoined_69 : decode M_X7_isJoined.2.1 69 = .ok (.if_icmp .ne 27, 3) ∧ 69 + 3 = 72 ∧ ((69 : Nat) : Int) + 27 = ((96 : Nat) : Int) := ⟨dcAll_e (i := 11) da_X7_isJoined_1 rfl, rfl, rfl⟩
theorem q_X7_isJoined_72 : decode M_X7_isJoined.2.1 72 = .ok (.aload_n 0, 1) ∧ 72 + 1 = 73 := ⟨dcAll_e (i := 12) da_X7_isJoined_1 rfl, rfl⟩
theorem q_X7_isJoined_73 : decode M_X7_isJoined.2.1 73 = .ok (.getfield 17, 3) ∧ 73 + 3 = 76 := ⟨dcAll_e (i := 13) da_X7_isJoined_1 rfl, rfl⟩
theorem q_X7_isJoined_76 : decode M_X7_isJoined.2.1 76 = .ok (.iload 4, 2) ∧ 76 + 2 = 78 := ⟨dcAll_e (i := 14) da_X7_isJoined_1 rfl, rfl⟩
theorem q_X7_isJoined_78 : decode M_X7_isJoined.2.1 78 = .ok (.iaload, 1) ∧ 78 + 1 = 79 := ⟨dcAll_e (i := 15) da_X7_isJoined_1 rfl, rfl⟩
theorem q_X7_isJoined_79 : decode M_X7_isJoined.2.1 79 = .ok (.ifCond .gt 17, 3) ∧ 79 + 3 = 82 ∧ ((79 : Nat) : Int) + 17 = ((96 : Nat) : Int) := ⟨dcAll_e (i := 16) da_X7_isJoined_1 rfl, rfl, rfl⟩
theorem q_X7_isJoined_82 : decode M_X7_isJoined.2.1 82 = .ok (.aload_n 0, 1) ∧ 82 + 1 = 83 := ⟨dcAll_e (i := 17) da_X7_isJoined_1 rfl, rfl⟩
theorem q_X7_isJoined_83 : decode M_X7_isJoined.2.1 83 = .ok (.getfield 17, 3) ∧ 83 + 3 = 86 := ⟨dcAll_e (i := 18) da_X7_isJoined_1 rfl, rfl⟩
theorem q_X7_isJoined_86 : decode M_X7_isJoined.2.1 86 = .ok (.iload 4, 2) ∧ 86 + 2 = 88 := ⟨dcAll_e (i := 19) da_X7_isJoined_1 rfl, rfl⟩
theorem q_X7_isJoined_88 : decode M_X7_isJoined.2.1 88 = .ok (.iconst 1, 1) ∧ 88 + 1 = 89 := ⟨dcAll_e (i := 20) da_X7_isJoined_1 rfl, rfl⟩
theorem q_X7_isJoined_89 : decode M_X7_isJoined.2.1 89 = .ok (.iadd, 1) ∧ 89 + 1 = 90 := ⟨dcAll_e (i := 21) da_X7_isJoined_1 rfl, rfl⟩
theorem q_X7_isJoined_90 : decode M_X7_isJoined.2.1 90 = .ok (.iaload, 1) ∧ 90 + 1 = 91 := ⟨dcAll_e (i := 22) da_X7_isJoined_1 rfl, rfl⟩
theorem q_X7_isJoined_91 : decode M_X7_isJoined.2.1 91 = .ok (.ifCond .lt 5, 3) ∧ 91 + 3 = 94 ∧ ((91 : Nat) : Int) + 5 = ((96 : Nat) : Int) := ⟨dcAll_e (i := 23) da_X7_isJoined_1 rfl, rfl, rfl⟩
theorem q_X7_isJoined_94 : decode M_X7_isJoined.2.1 94 = .ok (.iconst 0, 1) ∧ 94 + 1 = 95 := ⟨dcAll_e (i := 24) da_X7_isJoined_1 rfl, rfl⟩
theorem q_X7_isJoined_95 : decode M_X7_isJoined.2.1 95 = .ok (.ireturn, 1) ∧ 95 + 1 = 96 := ⟨dcAll_e (i := 25) da_X7_isJoined_1 rfl, rfl⟩
theorem q_X7_isJoined_96 : decode M_X7_isJoined.2.1 96 = .ok (.iconst 0, 1) ∧ 96 + 1 = 97 := ⟨dcAll_e (i := 26) da_X7_isJoined_1 rfl, rfl⟩
theorem q_X7_isJoined_97 : decode M_X7_isJoined.2.1 97 = .ok (.istore 5, 2) ∧ 97 + 2 = 99 := ⟨dcAll_e (i := 27) da_X7_isJoined_1 rfl, rfl⟩
theorem q_X7_isJoined_99 : decode M_X7_isJoined.2.1 99 = .ok (.iload 5, 2) ∧ 99 + 2 = 101 := ⟨dcAll_e (i := 28) da_X7_isJoined_1 rfl, rfl⟩
theorem q_X7_isJoined_101 : decode M_X7_isJoined.2.1 101 = .ok (.iconst 4, 1) ∧ 101 + 1 = 102 := ⟨dcAll_e (i := 29) da_X7_isJoined_1 rfl, rfl⟩
theorem q_X7_isJoined_102 : decode M_X7_isJoined.2.1 102 = .ok (.if_icmp .ge 122, 3) ∧ 102 + 3 = 105 ∧ ((102 : Nat) : Int) + 122 = ((224 : Nat) : Int) := ⟨dcAll_e (i := 30) da_X7_isJoined_1 rfl, rfl, rfl⟩
theorem q_X7_isJoined_105 : decode M_X7_isJoined.2.1 105 = .ok (.iload_n 3, 1) ∧ 105 + 1 = 106 := ⟨dcAll_e (i := 31) da_X7_isJoined_1 rfl, rfl⟩
theorem q_X7_isJoined_106 : decode M_X7_isJoined.2.1 106 = .ok (.iload 5, 2) ∧ 106 + 2 = 108 := ⟨dcAll_e (i := 32) da_X7_isJoined_1 rfl, rfl⟩
theorem q_X7_isJoined_108 : decode M_X7_isJoined.2.1 108 = .ok (.iconst 1, 1) ∧ 108 + 1 = 109 := ⟨dcAll_e (i := 33) da_X7_isJoined_1 rfl, rfl⟩
theorem q_X7_isJoined_109 : decode M_X7_isJoined.2.1 109 = .ok (.iand, 1) ∧ 109 + 1 = 110 := ⟨dcAll_e (i := 34) da_X7_isJoined_1 rfl, rfl⟩
theorem q_X7_isJoined_110 : decode M_X7_isJoined.2.1 110 = .ok (.iadd, 1) ∧ 110 + 1 = 111 := ⟨dcAll_e (i := 35) da_X7_isJoined_1 rfl, rfl⟩
theorem q_X7_isJoined_111 : decode M_X7_isJoined.2.1 111 = .ok (.istore 6, 2) ∧ 111 + 2 = 113 := ⟨dcAll_e (i := 36) da_X7_isJoined_1 rfl, rfl⟩
theorem q_X7_isJoined_113 : decode M_X7_isJoined.2.1 113 = .ok (.iload 4, 2) ∧ 113 + 2 = 115 := ⟨dcAll_e (i := 37) da_X7_isJoined_1 rfl, rfl⟩
theorem q_X7_isJoined_115 : decode M_X7_isJoined.2.1 115 = .ok (.iload 5, 2) ∧ 115 + 2 = 117 := ⟨dcAll_e (i := 38) da_X7_isJoined_1 rfl, rfl⟩
theorem q_X7_isJoined_117 : decode M_X7_isJoined.2.1 117 = .ok (.iconst 1, 1) ∧ 117 + 1 = 118 := ⟨dcAll_e (i := 39) da_X7_isJoined_1 rfl, rfl⟩
theorem q_X7_isJoined_118 : decode M_X7_isJoined.2.1 118 = .ok (.ishr, 1) ∧ 118 + 1 = 119 := ⟨dcAll_e (i := 0) da_X7_isJoined_2 rfl, rfl⟩
theorem q_X7_isJoined_119 : decode M_X7_isJoined.2.1 119 = .ok (.iadd, 1) ∧ 119 + 1 = 120 := ⟨dcAll_e (i := 1) da_X7_isJoined_2 rfl, rfl⟩
theorem q_X7_isJoined_120 : decode M_X7_isJoined.2.1 120 = .ok (.istore 7, 2) ∧ 120 + 2 = 122 := ⟨dcAll_e (i := 2) da_X7_isJoined_2 rfl, rfl⟩
theorem q_X7_isJoined_122 : decode M_X7_isJoined.2.1 122 = .ok (.iload_n 1, 1) ∧ 122 + 1 = 123 := ⟨dcAll_e (i := 3) da_X7_isJoined_2 rfl, rfl⟩
theorem q_X7_isJoined_123 : decode M_X7_isJoined.2.1 123 = .ok (.iconst 2, 1) ∧ 123 + 1 = 124 := ⟨dcAll_e (i := 4) da_X7_isJoined_2 rfl, rfl⟩
theorem q_X7_isJoined_124 : decode M_X7_isJoined.2.1 124 = .ok (.if_icmp .ne 22, 3) ∧ 124 + 3 = 127 ∧ ((124 : Nat) : Int) + 22 = ((146 : Nat) : Int) := ⟨dcAll_e (i := 5) da_X7_isJoined_2 rfl, rfl, rfl⟩
theorem q_X7_isJoined_127 : decode M_X7_isJoined.2.1 127 = .ok (.aload_n 0, 1) ∧ 127 + 1 = 128 := ⟨dcAll_e (i := 6) da_X7_isJoined_2 rfl, rfl⟩
theorem q_X7_isJoined_128 : decode M_X7_isJoined.2.1 128 = .ok (.iconst 0, 1) ∧ 128 + 1 = 129 := ⟨dcAll_e (i := 7) da_X7_isJoined_2 rfl, rfl⟩
theorem q_X7_isJoined_129 : decode M_X7_isJoined.2.1 129 = .ok (.iload 6, 2) ∧ 129 + 2 = 131 := ⟨dcAll_e (i := 8) da_X7_isJoined_2 rfl, rfl⟩
theorem q_X7_isJoined_131 : decode M_X7_isJoined.2.1 131 = .ok (.iload 7, 2) ∧ 131 + 2 = 133 := ⟨dcAll_e (i := 9) da_X7_isJoined_2 rfl, rfl⟩
theorem q_X7_isJoined_133 : decode M_X7_isJoined.2.1 133 = .ok (.invokevirtual 123, 3) ∧ 133 + 3 = 136 := ⟨dcAll_e (i := 10) da_X7_isJoined_2 rfl, rfl⟩
theorem g_X7_isJoined_133 : en_C M_X7_isJoined M_X7_multiply 123 3 := ⟨⟨inT4 50 rfl rfl, in_X7, cd_X7_multiply⟩, ⟨by decide, by decide, by decide +kernel⟩, by decide, by decide⟩
theorem q_X7_isJoined_136 : decode M_X7_isJoined.2.1 136 = .ok (.aload_n 0, 1) ∧ 136 + 1 = 137 := ⟨dcAll_e (i := 11) da_X7_isJoined_2 rfl, rfl⟩
theorem q_X7_isJoined_137 : decode M_X7_isJoined.2.1 137 = .ok (.bipush 12, 2) ∧ 137 + 2 = 139 := ⟨dcAll_e (i := 12) da_X7_isJoined_2 rfl, rfl⟩
theorem q_X7_isJoined_139 : decode M_X7_isJoined.2.1 139 = .ok (.iconst 1, 1) ∧ 139 + 1 = 140 := ⟨dcAll_e (i := 13) da_X7_isJoined_2 rfl, rfl⟩
theorem q_X7_isJoined_140 : decode M_X7_isJoined.2.1 140 = .ok (.invokevirtual 53, 3) ∧ 140 + 3 = 143 := ⟨dcAll_e (i := 14) da_X7_isJoined_2 rfl, rfl⟩
theorem g_X7_isJoined_140 : en_C M_X7_isJoined M_X7_copyTo 53 2 := ⟨⟨inT4 58 rfl rfl, in_X7, cd_X7_copyTo⟩, ⟨by decide, by decide, by decide +kernel⟩, by decide, by decide⟩
theorem q_X7_isJoined_143 : decode M_X7_isJoined.2.1 143 = .ok (.goto 19, 3) ∧ 143 + 3 = 146 ∧ ((143 : Nat) : Int) + 19 = ((162 : Nat) : Int) := ⟨dcAll_e (i := 15) da_X7_isJoined_2 rfl, rfl, rfl⟩
theorem q_X7_isJoined_146 : decode M_X7_isJoined.2.1 146 = .ok (.aload_n 0, 1) ∧ 146 + 1 = 147 := ⟨dcAll_e (i := 16) da_X7_isJoined_2 rfl, rfl⟩
theorem q_X7_isJoined_147 : decode M_X7_isJoined.2.1 147 = .ok (.iconst 0, 1) ∧ 147 + 1 = 148 := ⟨dcAll_e (i := 17) da_X7_isJoined_2 rfl, rfl⟩
theorem q_X7_isJoined_148 : decode M_X7_isJoined.2.1 148 = .ok (.iload 6, 2) ∧ 148 + 2 = 150 := ⟨dcAll_e (i := 18) da_X7_isJoined_2 rfl, rfl⟩
theorem q_X7_isJoined_150 : decode M_X7_isJoined.2.1 150 = .ok (.bipush 12, 2) ∧ 150 + 2 = 152 := ⟨dcAll_e (i := 19) da_X7_isJoined_2 rfl, rfl⟩
theorem q_X7_isJoined_152 : decode M_X7_isJoined.2.1 152 = .ok (.invokevirtual 123, 3) ∧ 152 + 3 = 155 := ⟨dcAll_e (i := 20) da_X7_isJoined_2 rfl, rfl⟩
theorem g_X7_isJoined_152 : en_C M_X7_isJoined M_X7_multiply 123 3 := ⟨⟨inT4 50 rfl rfl, in_X7, cd_X7_multiply⟩, ⟨by decide, by decide, by decide +kernel⟩, by decide, by decide⟩
theorem q_X7_isJoined_155 : decode M_X7_isJoined.2.1 155 = .ok (.aload_n 0, 1) ∧ 155 + 1 = 156 := ⟨dcAll_e (i := 21) da_X7_isJoined_2 rfl, rfl⟩
theorem q_X7_isJoined_156 : decode M_X7_isJoined.2.1 156 = .ok (.iload 7, 2) ∧ 156 + 2 = 158 := ⟨dcAll_e (i := 22) da_X7_isJoined_2 rfl, rfl⟩
theorem q_X7_isJoined_158 : decode M_X7_isJoined.2.1 158 = .ok (.iconst 1, 1) ∧ 158 + 1 = 159 := ⟨dcAll_e (i := 23) da_X7_isJoined_2 rfl, rfl⟩
theorem q_X7_isJoined_159 : decode M_X7_isJoined.2.1 159 = .ok (.invokevirtual 53, 3) ∧ 159 + 3 = 162 := ⟨dcAll_e (i := 24) da_X7_isJoined_2 rfl, rfl⟩
theorem g_X7_isJoined_159 : en_C M_X7_isJoined M_X7_copyTo 53 2 := ⟨⟨inT4 58 rfl rfl, in_X7, cd_X7_copyTo⟩, ⟨by decide, by decide, by decide +kernel⟩, by decide, by decide⟩
theorem q_X7_isJoined_162 : decode M_X7_isJoined.2.1 162 = .ok (.aload_n 0, 1) ∧ 162 + 1 = 163 := ⟨dcAll_e (i := 25) da_X7_isJoined_2 rfl, rfl⟩
theorem q_X7_isJoined_163 : decode M_X7_isJoined.2.1 163 = .ok (.iconst 2, 1) ∧ 163 + 1 = 164 := ⟨dcAll_e (i := 26) da_X7_isJoined_2 rfl, rfl⟩
theorem q_X7_isJoined_164 : decode M_X7_isJoined.2.1 164 = .ok (.iconst 0, 1) ∧ 164 + 1 = 165 := ⟨dcAll_e (i := 27) da_X7_isJoined_2 rfl, rfl⟩
theorem q_X7_isJoined_165 : decode M_X7_isJoined.2.1 165 = .ok (.iconst 1, 1) ∧ 165 + 1 = 166 := ⟨dcAll_e (i := 28) da_X7_isJoined_2 rfl, rfl⟩
theorem q_X7_isJoined_166 : decode M_X7_isJoined.2.1 166 = .ok (.iconst 0, 1) ∧ 166 + 1 = 167 := ⟨dcAll_e (i := 29) da_X7_isJoined_2 rfl, rfl⟩
theorem q_X7_isJoined_167 : decode M_X7_isJoined.2.1 167 = .ok (.invokevirtual 126, 3) ∧ 167 + 3 = 170 := ⟨dcAll_e (i := 30) da_X7_isJoined_2 rfl, rfl⟩
theorem g_X7_isJoined_167 : en_C M_X7_isJoined M_X7_rounded 126 4 := ⟨⟨inT4 62 rfl rfl, in_X7, cd_X7_rounded⟩, ⟨by decide, by decide, by decide +kernel⟩, by decide, by decide⟩
theorem q_X7_isJoined_170 : decode M_X7_isJoined.2.1 170 = .ok (.aload_n 0, 1) ∧ 170 + 1 = 171 := ⟨dcAll_e (i := 31) da_X7_isJoined_2 rfl, rfl⟩
theorem q_X7_isJoined_171 : decode M_X7_isJoined.2.1 171 = .ok (.iconst 3, 1) ∧ 171 + 1 = 172 := ⟨dcAll_e (i := 32) da_X7_isJoined_2 rfl, rfl⟩
theorem q_X7_isJoined_172 : decode M_X7_isJoined.2.1 172 = .ok (.iconst 0, 1) ∧ 172 + 1 = 173 := ⟨dcAll_e (i := 33) da_X7_isJoined_2 rfl, rfl⟩
theorem q_X7_isJoined_173 : decode M_X7_isJoined.2.1 173 = .ok (.iconst 1, 1) ∧ 173 + 1 = 174 := ⟨dcAll_e (i := 34) da_X7_isJoined_2 rfl, rfl⟩
theorem q_X7_isJoined_174 : decode M_X7_isJoined.2.1 174 = .ok (.iconst 1, 1) ∧ 174 + 1 = 175 := ⟨dcAll_e (i := 35) da_X7_isJoined_2 rfl, rfl⟩
theorem q_X7_isJoined_175 : decode M_X7_isJoined.2.1 175 = .ok (.invokevirtual 126, 3) ∧ 175 + 3 = 178 := ⟨dcAll_e (i := 36) da_X7_isJoined_2 rfl, rfl⟩
theorem g_X7_isJoined_175 : en_C M_X7_isJoined M_X7_rounded 126 4 := ⟨⟨inT4 62 rfl rfl, in_X7, cd_X7_rounded⟩, ⟨by decide, by decide, by decide +kernel⟩, by decide, by decide⟩
theorem q_X7_isJoined_178 : decode M_X7_isJoined.2.1 178 = .ok (.iload 5, 2) ∧ 178 + 2 = 180 := ⟨dcAll_e (i := 37) da_X7_isJoined_2 rfl, rfl⟩
theorem q_X7_isJoined_180 : decode M_X7_isJoined.2.1 180 = .ok (.ifCond .eq 12, 3) ∧ 180 + 3 = 183 ∧ ((180 : Nat) : Int) + 12 = ((192 : Nat) : Int) := ⟨dcAll_e (i := 38) da_X7_isJoined_2 rfl, rfl, rfl⟩
theorem q_X7_isJoined_183 : decode M_X7_isJoined.2.1 183 = .ok (.aload_n 0, 1) ∧ 183 + 1 = 184 := ⟨dcAll_e (i := 39) da_X7_isJoined_2 rfl, rfl⟩
theorem q_X7_isJoined_184 : decode M_X7_isJoined.2.1 184 = .ok (.iconst 2, 1) ∧ 184 + 1 = 185 := ⟨dcAll_e (i := 0) da_X7_isJoined_3 rfl, rfl⟩
theorem q_X7_isJoined_185 : decode M_X7_isJoined.2.1 185 = .ok (.iconst 4, 1) ∧ 185 + 1 = 186 := ⟨dcAll_e (i := 1) da_X7_isJoined_3 rfl, rfl⟩
theorem q_X7_isJoined_186 : decode M_X7_isJoined.2.1 186 = .ok (.invokevirtual 143, 3) ∧ 186 + 3 = 189 := ⟨dcAll_e (i := 2) da_X7_isJoined_3 rfl, rfl⟩
theorem g_X7_isJoined_186 : en_C M_X7_isJoined M_X7_compareTo 143 2 := ⟨⟨inT4 115 rfl rfl, in_X7, cd_X7_compareTo⟩, ⟨by decide, by decide, by decide +kernel⟩, by decide, by decide⟩
theorem q_X7_isJoined_189 : decode M_X7_isJoined.2.1 189 = .ok (.ifCond .ge 9, 3) ∧ 189 + 3 = 192 ∧ ((189 : Nat) : Int) + 9 = ((198 : Nat) : Int) := ⟨dcAll_e (i := 3) da_X7_isJoined_3 rfl, rfl, rfl⟩
theorem q_X7_isJoined_192 : decode M_X7_isJoined.2.1 192 = .ok (.aload_n 0, 1) ∧ 192 + 1 = 193 := ⟨dcAll_e (i := 4) da_X7_isJoined_3 rfl, rfl⟩
theorem q_X7_isJoined_193 : decode M_X7_isJoined.2.1 193 = .ok (.iconst 2, 1) ∧ 193 + 1 = 194 := ⟨dcAll_e (i := 5) da_X7_isJoined_3 rfl, rfl⟩
theorem q_X7_isJoined_194 : decode M_X7_isJoined.2.1 194 = .ok (.iconst 4, 1) ∧ 194 + 1 = 195 := ⟨dcAll_e (i := 6) da_X7_isJoined_3 rfl, rfl⟩
theorem q_X7_isJoined_195 : decode M_X7_isJoined.2.1 195 = .ok (.invokevirtual 53, 3) ∧ 195 + 3 = 198 := ⟨dcAll_e (i := 7) da_X7_isJoined_3 rfl, rfl⟩
theorem g_X7_isJoined_195 : en_C M_X7_isJoined M_X7_copyTo 53 2 := ⟨⟨inT4 58 rfl rfl, in_X7, cd_X7_copyTo⟩, ⟨by decide, by decide, by decide +kernel⟩, by decide, by decide⟩
theorem q_X7_isJoined_198 : decode M_X7_isJoined.2.1 198 = .ok (.iload 5, 2) ∧ 198 + 2 = 200 := ⟨dcAll_e (i := 8) da_X7_isJoined_3 rfl, rfl⟩
theorem q_X7_isJoined_200 : decode M_X7_isJoined.2.1 200 = .ok (.ifCond .eq 12, 3) ∧ 200 + 3 = 203 ∧ ((200 : Nat) : Int) + 12 = ((212 : Nat) : Int) := ⟨dcAll_e (i := 9) da_X7_isJoined_3 rfl, rfl, rfl⟩
theorem q_X7_isJoined_203 : decode M_X7_isJoined.2.1 203 = .ok (.aload_n 0, 1) ∧ 203 + 1 = 204 := ⟨dcAll_e (i := 10) da_X7_isJoined_3 rfl, rfl⟩
theorem q_X7_isJoined_204 : decode M_X7_isJoined.2.1 204 = .ok (.iconst 3, 1) ∧ 204 + 1 = 205 := ⟨dcAll_e (i := 11) da_X7_isJoined_3 rfl, rfl⟩
theorem q_X7_isJoined_205 : decode M_X7_isJoined.2.1 205 = .ok (.iconst 5, 1) ∧ 205 + 1 = 206 := ⟨dcAll_e (i := 12) da_X7_isJoined_3 rfl, rfl⟩
theorem q_X7_isJoined_206 : decode M_X7_isJoined.2.1 206 = .ok (.invokevirtual 143, 3) ∧ 206 + 3 = 209 := ⟨dcAll_e (i := 13) da_X7_isJoined_3 rfl, rfl⟩
theorem g_X7_isJoined_206 : en_C M_X7_isJoined M_X7_compareTo 143 2 := ⟨⟨inT4 115 rfl rfl, in_X7, cd_X7_compareTo⟩, ⟨by decide, by decide, by decide +kernel⟩, by decide, by decide⟩
theorem q_X7_isJoined_209 : decode M_X7_isJoined.2.1 209 = .ok (.ifCond .le 9, 3) ∧ 209 + 3 = 212 ∧ ((209 : Nat) : Int) + 9 = ((218 : Nat) : Int) := ⟨dcAll_e (i := 14) da_X7_isJoined_3 rfl, rfl, rfl⟩
theorem q_X7_isJoined_212 : decode M_X7_isJoined.2.1 212 = .ok (.aload_n 0, 1) ∧ 212 + 1 = 213 := ⟨dcAll_e (i := 15) da_X7_isJoined_3 rfl, rfl⟩
theorem q_X7_isJoined_213 : decode M_X7_isJoined.2.1 213 = .ok (.iconst 3, 1) ∧ 213 + 1 = 214 := ⟨dcAll_e (i := 16) da_X7_isJoined_3 rfl, rfl⟩
theorem q_X7_isJoined_214 : decode M_X7_isJoined.2.1 214 = .ok (.iconst 5, 1) ∧ 214 + 1 = 215 := ⟨dcAll_e (i := 17) da_X7_isJoined_3 rfl, rfl⟩
theorem q_X7_isJoined_215 : decode M_X7_isJoined.2.1 215 = .ok (.invokevirtual 53, 3) ∧ 215 + 3 = 218 := ⟨dcAll_e (i := 18) da_X7_isJoined_3 rfl, rfl⟩
theorem g_X7_isJoined_215 : en_C M_X7_isJoined M_X7_copyTo 53 2 := ⟨⟨inT4 58 rfl rfl, in_X7, cd_X7_copyTo⟩, ⟨by decide, by decide, by decide +kernel⟩, by decide, by decide⟩
theorem q_X7_isJoined_218 : decode M_X7_isJoined.2.1 218 = .ok (.iinc 5 1, 3) ∧ 218 + 3 = 221 := ⟨dcAll_e (i := 19) da_X7_isJoined_3 rfl, rfl⟩
theorem q_X7_isJoined_221 : decode M_X7_isJoined.2.1 221 = .ok (.goto (-122), 3) ∧ 221 + 3 = 224 ∧ ((221 : Nat) : Int) + (-122) = ((99 : Nat) : Int) := ⟨dcAll_e (i := 20) da_X7_isJoined_3 rfl, rfl, rfl⟩
theorem q_X7_isJoined_224 : decode M_X7_isJoined.2.1 224 = .ok (.aload_n 0, 1) ∧ 224 + 1 = 225 := ⟨dcAll_e (i := 21) da_X7_isJoined_3 rfl, rfl⟩
theorem q_X7_isJoined_225 : decode M_X7_isJoined.2.1 225 = .ok (.iconst 4, 1) ∧ 225 + 1 = 226 := ⟨dcAll_e (i := 22) da_X7_isJoined_3 rfl, rfl⟩
theorem q_X7_isJoined_226 : decode M_X7_isJoined.2.1 226 = .ok (.iload_n 2, 1) ∧ 226 + 1 = 227 := ⟨dcAll_e (i := 23) da_X7_isJoined_3 rfl, rfl⟩
theorem q_X7_isJoined_227 : decode M_X7_isJoined.2.1 227 = .ok (.invokevirtual 53, 3) ∧ 227 + 3 = 230 := ⟨dcAll_e (i := 24) da_X7_isJoined_3 rfl, rfl⟩
theorem g_X7_isJoined_227 : en_C M_X7_isJoined M_X7_copyTo 53 2 := ⟨⟨inT4 58 rfl rfl, in_X7, cd_X7_copyTo⟩, ⟨by decide, by decide, by decide +kernel⟩, by decide, by decide⟩
theorem q_X7_isJoined_230 : decode M_X7_isJoined.2.1 230 = .ok (.aload_n 0, 1) ∧ 230 + 1 = 231 := ⟨dcAll_e (i := 25) da_X7_isJoined_3 rfl, rfl⟩
theorem q_X7_isJoined_231 : decode M_X7_isJoined.2.1 231 = .ok (.iconst 5, 1) ∧ 231 + 1 = 232 := ⟨dcAll_e (i := 26) da_X7_isJoined_3 rfl, rfl⟩
theorem q_X7_isJoined_232 : decode M_X7_isJoined.2.1 232 = .ok (.iload_n 2, 1) ∧ 232 + 1 = 233 := ⟨dcAll_e (i := 27) da_X7_isJoined_3 rfl, rfl⟩
theorem q_X7_isJoined_233 : decode M_X7_isJoined.2.1 233 = .ok (.iconst 1, 1) ∧ 233 + 1 = 234 := ⟨dcAll_e (i := 28) da_X7_isJoined_3 rfl, rfl⟩
theorem q_X7_isJoined_234 : decode M_X7_isJoined.2.1 234 = .ok (.iadd, 1) ∧ 234 + 1 = 235 := ⟨dcAll_e (i := 29) da_X7_isJoined_3 rfl, rfl⟩
theorem q_X7_isJoined_235 : decode M_X7_isJoined.2.1 235 = .ok (.invokevirtual 53, 3) ∧ 235 + 3 = 238 := ⟨dcAll_e (i := 30) da_X7_isJoined_3 rfl, rfl⟩
theorem g_X7_isJoined_235 : en_C M_X7_isJoined M_X7_copyTo 53 2 := ⟨⟨inT4 58 rfl rfl, in_X7, cd_X7_copyTo⟩, ⟨by decide, by decide, by decide +kernel⟩, by decide, by decide⟩
theorem q_X7_isJoined_238 : decode M_X7_isJoined.2.1 238 = .ok (.iconst 1, 1) ∧ 238 + 1 = 239 := ⟨dcAll_e (i := 31) da_X7_isJoined_3 rfl, rfl⟩
theorem q_X7_isJoined_239 : decode M_X7_isJoined.2.1 239 = .ok (.ireturn, 1) ∧ 239 + 1 = 240 := ⟨dcAll_e (i := 32) da_X7_isJoined_3 rfl, rfl⟩
def dl_X7_findFloor_0 : List (Nat × Instr × Nat) := [(0, .iload_n 1, 1), (1, .invokestatic 112, 3), (4, .istore_n 3, 1), (5, .bipush 18, 2), (7, .istore 4, 2), (9, .iconst 0, 1), (10, .istore 5, 2), (12, .iload 5, 2), (14, .ifCond .ne 114, 3), (17, .aload_n 0, 1), (18, .bipush 7, 2), (20, .iload_n 2, 1), (21, .iload 4, 2), (23, .iadd, 1), (24, .invokevirtual 109, 3), (27, .aload_n 0, 1), (28, .getfield 20, 3), (31, .iload_n 1, 1), (32, .iaload, 1), (33, .iconst 4, 1), (34, .if_icmp .ne 11, 3), (37, .aload_n 0, 1), (38, .iload_n 1, 1), (39, .invokevirtual 148, 3), (42, .goto 8, 3), (45, .aload_n 0, 1), (46, .iload_n 1, 1), (47, .invokevirtual 152, 3), (50, .lstore 6, 2), (52, .aload_n 0, 1), (53, .bipush 7, 2), (55, .iload 4, 2), (57, .invokevirtual 109, 3), (60, .aload_n 0, 1), (61, .bipush 11, 2), (63, .lload 6, 2), (65, .invokevirtual 84, 3), (68, .aload_n 0, 1), (69, .iconst 2, 1), (70, .bipush 6, 2)]
theorem da_X7_findFloor_0 : dcAll M_X7_findFloor.2.1 dl_X7_findFloor_0 = true := by decide +kernel
def dl_X7_findFloor_1 : List (Nat × Instr × Nat) := [(72, .bipush 11, 2), (74, .iconst (-1), 1), (75, .invokevirtual 87, 3), (78, .aload_n 0, 1), (79, .iconst 3, 1), (80, .iconst 2, 1), (81, .bipush 7, 2), (83, .iconst 0, 1), (84, .invokevirtual 126, 3), (87, .aload_n 0, 1), (88, .iconst 2, 1), (89, .bipush 6, 2), (91, .bipush 11, 2), (93, .iconst 1, 1), (94, .invokevirtual 87, 3), (97, .aload_n 0, 1), (98, .iconst 4, 1), (99, .iconst 2, 1), (100, .bipush 7, 2), (102, .iconst 0, 1), (103, .invokevirtual 126, 3), (106, .aload_n 0, 1), (107, .iconst 3, 1), (108, .iconst 4, 1), (109, .invokevirtual 143, 3), (112, .ifCond .ne 7, 3), (115, .iconst 1, 1), (116, .goto 4, 3), (119, .iconst 0, 1), (120, .istore 5, 2), (122, .iinc 4 18, 3), (125, .goto (-113), 3), (128, .aload_n 0, 1), (129, .iconst 3, 1), (130, .iload_n 3, 1), (131, .invokevirtual 53, 3), (134, .return_, 1)]
theorem da_X7_findFloor_1 : dcAll M_X7_findFloor.2.1 dl_X7_findFloor_1 = true := by decide +kernel
theorem q_X7_findFloor_0 : decode M_X7_findFloor.2.1 0 = .ok (.iload_n 1, 1) ∧ 0 + 1 = 1 := ⟨dcAll_e (i := 0) da_X7_findFloor_0 rfl, rfl⟩
theorem q_X7_findFloor_1 : decode M_X7_findFloor.2.1 1 = .ok (.invokestatic 112, 3) ∧ 1 + 3 = 4 := ⟨dcAll_e (i := 1) da_X7_findFloor_0 rfl, rfl⟩
theorem g_X7_findFloor_1 : en_C M_X7_findFloor M_X7_low 112 1 := ⟨⟨inT4 38 rfl rfl, in_X7, cd_X7_low⟩, ⟨by decide, by decide, by decide +kernel⟩, by decide, by decide⟩
theorem q_X7_findFloor_4 : decode M_X7_findFloor.2.1 4 = .ok (.istore_n 3, 1) ∧ 4 + 1 = 5 := ⟨dcAll_e (i := 2) da_X7_findFloor_0 rfl, rfl⟩
theorem q_X7_findFloor_5 : decode M_X7_findFloor.2.1 5 = .ok (.bipush 18, 2) ∧ 5 + 2 = 7 := ⟨dcAll_e (i := 3) da_X7_findFloor_0 rfl, rfl⟩
theorem q_X7_findFloor_7 : decode M_X7_findFloor.2.1 7 = .ok (.istore 4, 2) ∧ 7 + 2 = 9 := ⟨dcAll_e (i := 4) da_X7_findFloor_0 rfl, rfl⟩
theorem q_X7_findFloor_9 : decode M_X7_findFloor.2.1 9 = .ok (.iconst 0, 1) ∧ 9 + 1 = 10 := ⟨dcAll_e (i := 5) da_X7_findFloor_0 rfl, rfl⟩
theorem q_X7_findFloor_10 : decode M_X7_findFloor.2.1 10 = .ok (.istore 5, 2) ∧ 10 + 2 = 12 := ⟨dcAll_e (i := 6) da_X7_findFloor_0 rfl, rfl⟩
theorem q_X7_findFloor_12 : decode M_X7_findFloor.2.1 12 = .ok (.iload 5, 2) ∧ 12 + 2 = 14 := ⟨dcAll_e (i := 7) da_X7_findFloor_0 rfl, rfl⟩
theorem q_X7_findFloor_14 : decode M_X7_findFloor.2.1 14 = .ok (.ifCond .ne 114, 3) ∧ 14 + 3 = 17 ∧ ((14 : Nat) : Int) + 114 = ((128 : Nat) : Int) := ⟨dcAll_e (i := 8) da_X7_findFloor_0 rfl, rfl, rfl⟩
theorem q_X7_findFloor_17 : decode M_X7_findFloor.2.1 17 = .ok (.aload_n 0, 1) ∧ 17 + 1 = 18 := ⟨dcAll_e (i := 9) da_X7_findFloor_0 rfl, rfl⟩
theorem q_X7_findFloor_18 : decode M_X7_findFloor.2.1 18 = .ok (.bipush 7, 2) ∧ 18 + 2 = 20 := ⟨dcAll_e (i := 10) da_X7_findFloor_0 rfl, rfl⟩
theorem q_X7_findFloor_20 : decode M_X7_findFloor.2.1 20 = .ok (.iload_n 2, 1) ∧ 20 + 1 = 21 := ⟨dcAll_e (i := 11) da_X7_findFloor_0 rfl, rfl⟩
theorem q_X7_findFloor_21 : decode M_X7_findFloor.2.1 21 = .ok (.iload 4, 2) ∧ 21 + 2 = 23 := ⟨dcAll_e (i := 12) da_X7_findFloor_0 rfl, rfl⟩
theorem q_X7_findFloor_23 : decode M_X7_findFloor.2.1 23 = .ok (.iadd, 1) ∧ 23 + 1 = 24 := ⟨dcAll_e (i := 13) da_X7_findFloor_0 rfl, rfl⟩
theorem q_X7_findFloor_24 : decode M_X7_findFloor.2.1 24 = .ok (.invokevirtual 109, 3) ∧ 24 + 3 = 27 := ⟨dcAll_e (i := 14) da_X7_findFloor_0 rfl, rfl⟩
theorem g_X7_findFloor_24 : en_C M_X7_findFloor M_X7_powerOfTen 109 2 := ⟨⟨inT4 34 rfl rfl, in_X7, cd_X7_powerOfTen⟩, ⟨by decide, by decide, by decide +kernel⟩, by decide, by decide⟩
theorem q_X7_findFloor_27 : decode M_X7_findFloor.2.1 27 = .ok (.aload_n 0, 1) ∧ 27 + 1 = 28 := ⟨dcAll_e (i := 15) da_X7_findFloor_0 rfl, rfl⟩
theorem q_X7_findFloor_28 : decode M_X7_findFloor.2.1 28 = .ok (.getfield 20, 3) ∧ 28 + 3 = 31 := ⟨dcAll_e (i := 16) da_X7_findFloor_0 rfl, rfl⟩
theorem q_X7_findFloor_31 : decode M_X7_findFloor.2.1 31 = .ok (.iload_n 1, 1) ∧ 31 + 1 = 32 := ⟨dcAll_e (i := 17) da_X7_findFloor_0 rfl, rfl⟩
theorem q_X7_findFloor_32 : decode M_X7_findFloor.2.1 32 = .ok (.iaload, 1) ∧ 32 + 1 = 33 := ⟨dcAll_e (i := 18) da_X7_findFloor_0 rfl, rfl⟩
theorem q_X7_findFloor_33 : decode M_X7_findFloor.2.1 33 = .ok (.iconst 4, 1) ∧ 33 + 1 = 34 := ⟨dcAll_e (i := 19) da_X7_findFloor_0 rfl, rfl⟩
theorem q_X7_findFloor_34 : decode M_X7_findFloor.2.1 34 = .ok (.if_icmp .ne 11, 3) ∧ 34 + 3 = 37 ∧ ((34 : Nat) : Int) + 11 = ((45 : Nat) : Int) := ⟨dcAll_e (i := 20) da_X7_findFloor_0 rfl, rfl, rfl⟩
theorem q_X7_findFloor_37 : decode M_X7_findFloor.2.1 37 = .ok (.aload_n 0, 1) ∧ 37 + 1 = 38 := ⟨dcAll_e (i := 21) da_X7_findFloor_0 rfl, rfl⟩
theorem q_X7_findFloor_38 : decode M_X7_findFloor.2.1 38 = .ok (.iload_n 1, 1) ∧ 38 + 1 = 39 := ⟨dcAll_e (i := 22) da_X7_findFloor_0 rfl, rfl⟩
theorem q_X7_findFloor_39 : decode M_X7_findFloor.2.1 39 = .ok (.invokevirtual 148, 3) ∧ 39 + 3 = 42 := ⟨dcAll_e (i := 23) da_X7_findFloor_0 rfl, rfl⟩
theorem cd_X7_sumOfPower : Cond.code M_X7_sumOfPower.1 M_X7_sumOfPower.2.1 M_X7_sumOfPower.2.2.1 M_X7_sumOfPower.2.2.2.1 ∈ en_tbl := inT4 106 rfl rfl
theorem g_X7_findFloor_39 : en_C M_X7_findFloor M_X7_sumOfPower 148 1 := ⟨⟨inT4 103 rfl rfl, in_X7, cd_X7_sumOfPower⟩, ⟨by decide, by decide, by decide +kernel⟩, by decide, by decide⟩
theorem w_X7_sumOfPower : Cond.instanceMethod M_X7_sumOfPower.1 ∈ en_tbl ∧ Cond.selects M_X7_sumOfPower.1.cls M_X7_sumOfPower.1 M_X7_sumOfPower.1 ∈ en_tbl := ⟨inT4 105 rfl rfl, by decide +kernel⟩
theorem q_X7_findFloor_42 : decode M_X7_findFloor.2.1 42 = .ok (.goto 8, 3) ∧ 42 + 3 = 45 ∧ ((42 : Nat) : Int) + 8 = ((50 : Nat) : Int) := ⟨dcAll_e (i := 24) da_X7_findFloor_0 rfl, rfl, rfl⟩
theorem q_X7_findFloor_45 : decode M_X7_findFloor.2.1 45 = .ok (.aload_n 0, 1) ∧ 45 + 1 = 46 := ⟨dcAll_e (i := 25) da_X7_findFloor_0 rfl, rfl⟩
theorem q_X7_findFloor_46 : decode M_X7_findFloor.2.1 46 = .ok (.iload_n 1, 1) ∧ 46 + 1 = 47 := ⟨dcAll_e (i := 26) da_X7_findFloor_0 rfl, rfl⟩
theorem q_X7_findFloor_47 : decode M_X7_findFloor.2.1 47 = .ok (.invokevirtual 152, 3) ∧ 47 + 3 = 50 := ⟨dcAll_e (i := 27) da_X7_findFloor_0 rfl, rfl⟩
theorem cd_X7_sumOfMembers : Cond.code M_X7_sumOfMembers.1 M_X7_sumOfMembers.2.1 M_X7_sumOfMembers.2.2.1 M_X7_sumOfMembers.2.2.2.1 ∈ en_tbl := inT4 112 rfl rfl
theorem g_X7_findFloor_47 : en_C M_X7_findFloor M_X7_sumOfMembers 152 1 := ⟨⟨inT4 109 rfl rfl, in_X7, cd_X7_sumOfMembers⟩, ⟨by decide, by decide, by decide +kernel⟩, by decide, by decide⟩
theorem w_X7_sumOfMembers : Cond.instanceMethod M_X7_sumOfMembers.1 ∈ en_tbl ∧ Cond.selects M_X7_sumOfMembers.1.cls M_X7_sumOfMembers.1 M_X7_sumOfMembers.1 ∈ en_tbl := ⟨inT4 111 rfl rfl, by decide +kernel⟩
theorem q_X7_findFloor_50 : decode M_X7_findFloor.2.1 50 = .ok (.lstore 6, 2) ∧ 50 + 2 = 52 := ⟨dcAll_e (i := 28) da_X7_findFloor_0 rfl, rfl⟩
theorem q_X7_findFloor_52 : decode M_X7_findFloor.2.1 52 = .ok (.aload_n 0, 1) ∧ 52 + 1 = 53 := ⟨dcAll_e (i := 29) da_X7_findFloor_0 rfl, rfl⟩
theorem q_X7_findFloor_53 : decode M_X7_findFloor.2.1 53 = .ok (.bipush 7, 2) ∧ 53 + 2 = 55 := ⟨dcAll_e (i := 30) da_X7_findFloor_0 rfl, rfl⟩
theorem q_X7_findFloor_55 : decode M_X7_findFloor.2.1 55 = .ok (.iload 4, 2) ∧ 55 + 2 = 57 := ⟨dcAll_e (i := 31) da_X7_findFloor_0 rfl, rfl⟩
theorem q_X7_findFloor_57 : decode M_X7_findFloor.2.1 57 = .ok (.invokevirtual 109, 3) ∧ 57 + 3 = 60 := ⟨dcAll_e (i := 32) da_X7_findFloor_0 rfl, rfl⟩
theorem g_X7_findFloor_57 : en_C M_X7_findFloor M_X7_powerOfTen 109 2 := ⟨⟨inT4 34 rfl rfl, in_X7, cd_X7_powerOfTen⟩, ⟨by decide, by decide, by decide +kernel⟩, by decide, by decide⟩
theorem q_X7_findFloor_60 : decode M_X7_findFloor.2.1 60 = .ok (.aload_n 0, 1) ∧ 60 + 1 = 61 := ⟨dcAll_e (i := 33) da_X7_findFloor_0 rfl, rfl⟩
theorem q_X7_findFloor_61 : decode M_X7_findFloor.2.1 61 = .ok (.bipush 11, 2) ∧ 61 + 2 = 63 := ⟨dcAll_e (i := 34) da_X7_findFloor_0 rfl, rfl⟩
theorem q_X7_findFloor_63 : decode M_X7_findFloor.2.1 63 = .ok (.lload 6, 2) ∧ 63 + 2 = 65 := ⟨dcAll_e (i := 35) da_X7_findFloor_0 rfl, rfl⟩
theorem q_X7_findFloor_65 : decode M_X7_findFloor.2.1 65 = .ok (.invokevirtual 84, 3) ∧ 65 + 3 = 68 := ⟨dcAll_e (i := 36) da_X7_findFloor_0 rfl, rfl⟩
theorem g_X7_findFloor_65 : en_C M_X7_findFloor M_X7_setTo 84 2 := ⟨⟨inT4 45 rfl rfl, in_X7, cd_X7_setTo⟩, ⟨by decide, by decide, by decide +kernel⟩, by decide, by decide⟩
theorem q_X7_findFloor_68 : decode M_X7_findFloor.2.1 68 = .ok (.aload_n 0, 1) ∧ 68 + 1 = 69 := ⟨dcAll_e (i := 37) da_X7_findFloor_0 rfl, rfl⟩
theorem q_X7_findFloor_69 : decode M_X7_findFloor.2.1 69 = .ok (.iconst 2, 1) ∧ 69 + 1 = 70 := ⟨dcAll_e (i := 38) da_X7_findFloor_0 rfl, rfl⟩
theorem q_X7_findFloor_70 : decode M_X7_findFloor.2.1 70 = .ok (.bipush 6, 2) ∧ 70 + 2 = 72 := ⟨dcAll_e (i := 39) da_X7_findFloor_0 rfl, rfl⟩
theorem q_X7_findFloor_72 : decode M_X7_findFloor.2.1 72 = .ok (.bipush 11, 2) ∧ 72 + 2 = 74 := ⟨dcAll_e (i := 0) da_X7_findFloor_1 rfl, rfl⟩
theorem q_X7_findFloor_74 : decode M_X7_findFloor.2.1 74 = .ok (.iconst (-1), 1) ∧ 74 + 1 = 75 := ⟨dcAll_e (i := 1) da_X7_findFloor_1 rfl, rfl⟩
theorem q_X7_findFloor_75 : decode M_X7_findFloor.2.1 75 = .ok (.invokevirtual 87, 3) ∧ 75 + 3 = 78 := ⟨dcAll_e (i := 2) da_X7_findFloor_1 rfl, rfl⟩
theorem g_X7_findFloor_75 : en_C M_X7_findFloor M_X7_addTo 87 4 := ⟨⟨inT4 87 rfl rfl, in_X7, cd_X7_addTo⟩, ⟨by decide, by decide, by decide +kernel⟩, by decide, by decide⟩
theorem q_X7_findFloor_78 : decode M_X7_findFloor.2.1 78 = .ok (.aload_n 0, 1) ∧ 78 + 1 = 79 := ⟨dcAll_e (i := 3) da_X7_findFloor_1 rfl, rfl⟩
theorem q_X7_findFloor_79 : decode M_X7_findFloor.2.1 79 = .ok (.iconst 3, 1) ∧ 79 + 1 = 80 := ⟨dcAll_e (i := 4) da_X7_findFloor_1 rfl, rfl⟩
theorem q_X7_findFloor_80 : decode M_X7_findFloor.2.1 80 = .ok (.iconst 2, 1) ∧ 80 + 1 = 81 := ⟨dcAll_e (i := 5) da_X7_findFloor_1 rfl, rfl⟩
theorem q_X7_findFloor_81 : decode M_X7_findFloor.2.1 81 = .ok (.bipush 7, 2) ∧ 81 + 2 = 83 := ⟨dcAll_e (i := 6) da_X7_findFloor_1 rfl, rfl⟩
theorem q_X7_findFloor_83 : decode M_X7_findFloor.2.1 83 = .ok (.iconst 0, 1) ∧ 83 + 1 = 84 := ⟨dcAll_e (i := 7) da_X7_findFloor_1 rfl, rfl⟩
theorem q_X7_findFloor_84 : decode M_X7_findFloor.2.1 84 = .ok (.invokevirtual 126, 3) ∧ 84 + 3 = 87 := ⟨dcAll_e (i := 8) da_X7_findFloor_1 rfl, rfl⟩
theorem g_X7_findFloor_84 : en_C M_X7_findFloor M_X7_rounded 126 4 := ⟨⟨inT4 62 rfl rfl, in_X7, cd_X7_rounded⟩, ⟨by decide, by decide, by decide +kernel⟩, by decide, by decide⟩
theorem q_X7_findFloor_87 : decode M_X7_findFloor.2.1 87 = .ok (.aload_n 0, 1) ∧ 87 + 1 = 88 := ⟨dcAll_e (i := 9) da_X7_findFloor_1 rfl, rfl⟩
theorem q_X7_findFloor_88 : decode M_X7_findFloor.2.1 88 = .ok (.iconst 2, 1) ∧ 88 + 1 = 89 := ⟨dcAll_e (i := 10) da_X7_findFloor_1 rfl, rfl⟩
theorem q_X7_findFloor_89 : decode M_X7_findFloor.2.1 89 = .ok (.bipush 6, 2) ∧ 89 + 2 = 91 := ⟨dcAll_e (i := 11) da_X7_findFloor_1 rfl, rfl⟩
theorem q_X7_findFloor_91 : decode M_X7_findFloor.2.1 91 = .ok (.bipush 11, 2) ∧ 91 + 2 = 93 := ⟨dcAll_e (i := 12) da_X7_findFloor_1 rfl, rfl⟩
theorem q_X7_findFloor_93 : decode M_X7_findFloor.2.1 93 = .ok (.iconst 1, 1) ∧ 93 + 1 = 94 := ⟨dcAll_e (i := 13) da_X7_findFloor_1 rfl, rfl⟩
theorem q_X7_findFloor_94 : decode M_X7_findFloor.2.1 94 = .ok (.invokevirtual 87, 3) ∧ 94 + 3 = 97 := ⟨dcAll_e (i := 14) da_X7_findFloor_1 rfl, rfl⟩
theorem g_X7_findFloor_94 : en_C M_X7_findFloor M_X7_addTo 87 4 := ⟨⟨inT4 87 rfl rfl, in_X7, cd_X7_addTo⟩, ⟨by decide, by decide, by decide +kernel⟩, by decide, by decide⟩
theorem q_X7_findFloor_97 : decode M_X7_findFloor.2.1 97 = .ok (.aload_n 0, 1) ∧ 97 + 1 = 98 := ⟨dcAll_e (i := 15) da_X7_findFloor_1 rfl, rfl⟩
theorem q_X7_findFloor_98 : decode M_X7_findFloor.2.1 98 = .ok (.iconst 4, 1) ∧ 98 + 1 = 99 := ⟨dcAll_e (i := 16) da_X7_findFloor_1 rfl, rfl⟩
theorem q_X7_findFloor_99 : decode M_X7_findFloor.2.1 99 = .ok (.iconst 2, 1) ∧ 99 + 1 = 100 := ⟨dcAll_e (i := 17) da_X7_findFloor_1 rfl, rfl⟩
theorem q_X7_findFloor_100 : decode M_X7_findFloor.2.1 100 = .ok (.bipush 7, 2) ∧ 100 + 2 = 102 := ⟨dcAll_e (i := 18) da_X7_findFloor_1 rfl, rfl⟩
theorem q_X7_findFloor_102 : decode M_X7_findFloor.2.1 102 = .ok (.iconst 0, 1) ∧ 102 + 1 = 103 := ⟨dcAll_e (i := 19) da_X7_findFloor_1 rfl, rfl⟩
theorem q_X7_findFloor_103 : decode M_X7_findFloor.2.1 103 = .ok (.invokevirtual 126, 3) ∧ 103 + 3 = 106 := ⟨dcAll_e (i := 20) da_X7_findFloor_1 rfl, rfl⟩
theorem g_X7_findFloor_103 : en_C M_X7_findFloor M_X7_rounded 126 4 := ⟨⟨inT4 62 rfl rfl, in_X7, cd_X7_rounded⟩, ⟨by decide, by decide, by decide +kernel⟩, by decide, by decide⟩
theorem q_X7_findFloor_106 : decode M_X7_findFloor.2.1 106 = .ok (.aload_n 0, 1) ∧ 106 + 1 = 107 := ⟨dcAll_e (i := 21) da_X7_findFloor_1 rfl, rfl⟩
theorem q_X7_findFloor_107 : decode M_X7_findFloor.2.1 107 = .ok (.iconst 3, 1) ∧ 107 + 1 = 108 := ⟨dcAll_e (i := 22) da_X7_findFloor_1 rfl, rfl⟩
theorem q_X7_findFloor_108 : decode M_X7_findFloor.2.1 108 = .ok (.iconst 4, 1) ∧ 108 + 1 = 109 := ⟨dcAll_e (i := 23) da_X7_findFloor_1 rfl, rfl⟩
theorem q_X7_findFloor_109 : decode M_X7_findFloor.2.1 109 = .ok (.invokevirtual 143, 3) ∧ 109 + 3 = 112 := ⟨dcAll_e (i := 24) da_X7_findFloor_1 rfl, rfl⟩
theorem g_X7_findFloor_109 : en_C M_X7_findFloor M_X7_compareTo 143 2 := ⟨⟨inT4 115 rfl rfl, in_X7, cd_X7_compareTo⟩, ⟨by decide, by decide, by decide +kernel⟩, by decide, by decide⟩
theorem q_X7_findFloor_112 : decode M_X7_findFloor.2.1 112 = .ok (.ifCond .ne 7, 3) ∧ 112 + 3 = 115 ∧ ((112 : Nat) : Int) + 7 = ((119 : Nat) : Int) := ⟨dcAll_e (i := 25) da_X7_findFloor_1 rfl, rfl, rfl⟩
theorem q_X7_findFloor_115 : decode M_X7_findFloor.2.1 115 = .ok (.iconst 1, 1) ∧ 115 + 1 = 116 := ⟨dcAll_e (i := 26) da_X7_findFloor_1 rfl, rfl⟩
theorem q_X7_findFloor_116 : decode M_X7_findFloor.2.1 116 = .ok (.goto 4, 3) ∧ 116 + 3 = 119 ∧ ((116 : Nat) : Int) + 4 = ((120 : Nat) : Int) := ⟨dcAll_e (i := 27) da_X7_findFloor_1 rfl, rfl, rfl⟩
theorem q_X7_findFloor_119 : decode M_X7_findFloor.2.1 119 = .ok (.iconst 0, 1) ∧ 119 + 1 = 120 := ⟨dcAll_e (i := 28) da_X7_findFloor_1 rfl, rfl⟩
theorem q_X7_findFloor_120 : decode M_X7_findFloor.2.1 120 = .ok (.istore 5, 2) ∧ 120 + 2 = 122 := ⟨dcAll_e (i := 29) da_X7_findFloor_1 rfl, rfl⟩
theorem q_X7_findFloor_122 : decode M_X7_findFloor.2.1 122 = .ok (.iinc 4 18, 3) ∧ 122 + 3 = 125 := ⟨dcAll_e (i := 30) da_X7_findFloor_1 rfl, rfl⟩
theorem q_X7_findFloor_125 : decode M_X7_findFloor.2.1 125 = .ok (.goto (-113), 3) ∧ 125 + 3 = 128 ∧ ((125 : Nat) : Int) + (-113) = ((12 : Nat) : Int) := ⟨dcAll_e (i := 31) da_X7_findFloor_1 rfl, rfl, rfl⟩
theorem q_X7_findFloor_128 : decode M_X7_findFloor.2.1 128 = .ok (.aload_n 0, 1) ∧ 128 + 1 = 129 := ⟨dcAll_e (i := 32) da_X7_findFloor_1 rfl, rfl⟩
theorem q_X7_findFloor_129 : decode M_X7_findFloor.2.1 129 = .ok (.iconst 3, 1) ∧ 129 + 1 = 130 := ⟨dcAll_e (i := 33) da_X7_findFloor_1 rfl, rfl⟩
theorem q_X7_findFloor_130 : decode M_X7_findFloor.2.1 130 = .ok (.iload_n 3, 1) ∧ 130 + 1 = 131 := ⟨dcAll_e (i := 34) da_X7_findFloor_1 rfl, rfl⟩
theorem q_X7_findFloor_131 : decode M_X7_findFloor.2.1 131 = .ok (.invokevirtual 53, 3) ∧ 131 + 3 = 134 := ⟨dcAll_e (i := 35) da_X7_findFloor_1 rfl, rfl⟩
theorem g_X7_findFloor_131 : en_C M_X7_findFloor M_X7_copyTo 53 2 := ⟨⟨inT4 58 rfl rfl, in_X7, cd_X7_copyTo⟩, ⟨by decide, by decide, by decide +kernel⟩, by decide, by decide⟩
theorem q_X7_findFloor_134 : decode M_X7_findFloor.2.1 134 = .ok (.return_, 1) ∧ 134 + 1 = 135 := ⟨dcAll_e (i := 36) da_X7_findFloor_1 rfl, rfl⟩
def dl_X7_sumOfMembers_0 : List (Nat × Instr × Nat) := [(0, .aload_n 0, 1), (1, .getfield 23, 3), (4, .iload_n 1, 1), (5, .laload, 1), (6, .lstore_n 2, 1), (7, .aload_n 0, 1), (8, .bipush 7, 2), (10, .iconst 0, 1), (11, .invokevirtual 53, 3), (14, .aload_n 0, 1), (15, .iconst 0, 1), (16, .lload_n 2, 1), (17, .invokevirtual 77, 3), (20, .lstore 4, 2), (22, .aload_n 0, 1), (23, .bipush 6, 2), (25, .lconst 0, 1), (26, .invokevirtual 84, 3), (29, .lconst 0, 1), (30, .lstore 6, 2), (32, .aload_n 0, 1), (33, .getfield 14, 3), (36, .iconst 0, 1), (37, .iaload, 1), (38, .ifCond .le 82, 3), (41, .aload_n 0, 1), (42, .iconst 0, 1), (43, .iconst 1, 1), (44, .invokevirtual 53, 3), (47, .aload_n 0, 1), (48, .iconst 1, 1), (49, .ldc2_w 146, 3), (52, .lload 6, 2), (54, .lmul, 1), (55, .lconst 1, 1), (56, .ladd, 1), (57, .invokevirtual 77, 3), (60, .lstore 4, 2), (62, .aload_n 0, 1), (63, .bipush 6, 2)]
theorem da_X7_sumOfMembers_0 : dcAll M_X7_sumOfMembers.2.1 dl_X7_sumOfMembers_0 = true := by decide +kernel
def dl_X7_sumOfMembers_1 : List (Nat × Instr × Nat) := [(65, .bipush 6, 2), (67, .iconst 1, 1), (68, .aload_n 0, 1), (69, .getfield 20, 3), (72, .iload_n 1, 1), (73, .iaload, 1), (74, .iconst 2, 1), (75, .if_icmp .ne 16, 3), (78, .lload 6, 2), (80, .lconst 1, 1), (81, .land, 1), (82, .lconst 1, 1), (83, .lcmp, 1), (84, .ifCond .ne 7, 3), (87, .iconst (-1), 1), (88, .goto 4, 3), (91, .iconst 1, 1), (92, .invokevirtual 87, 3), (95, .aload_n 0, 1), (96, .iconst 0, 1), (97, .lload_n 2, 1), (98, .invokevirtual 77, 3), (101, .lstore 4, 2), (103, .aload_n 0, 1), (104, .iconst 0, 1), (105, .lload_n 2, 1), (106, .invokevirtual 77, 3), (109, .lstore 4, 2), (111, .lload 6, 2), (113, .lconst 1, 1), (114, .ladd, 1), (115, .lstore 6, 2), (117, .goto (-85), 3), (120, .ldc2_w 155, 3), (123, .lload 6, 2), (125, .lmul, 1), (126, .ldc2_w 157, 3), (129, .ladd, 1), (130, .lreturn, 1)]
theorem da_X7_sumOfMembers_1 : dcAll M_X7_sumOfMembers.2.1 dl_X7_sumOfMembers_1 = true := by decide +kernel
theorem q_X7_sumOfMembers_0 : decode M_X7_sumOfMembers.2.1 0 = .ok (.aload_n 0, 1) ∧ 0 + 1 = 1 := ⟨dcAll_e (i := 0) da_X7_sumOfMembers_0 rfl, rfl⟩
theorem q_X7_sumOfMembers_1 : decode M_X7_sumOfMembers.2.1 1 = .ok (.getfield 23, 3) ∧ 1 + 3 = 4 := ⟨dcAll_e (i := 1) da_X7_sumOfMembers_0 rfl, rfl⟩
theorem q_X7_sumOfMembers_4 : decode M_X7_sumOfMembers.2.1 4 = .ok (.iload_n 1, 1) ∧ 4 + 1 = 5 := ⟨dcAll_e (i := 2) da_X7_sumOfMembers_0 rfl, rfl⟩
theorem q_X7_sumOfMembers_5 : decode M_X7_sumOfMembers.2.1 5 = .ok (.laload, 1) ∧ 5 + 1 = 6 := ⟨dcAll_e (i := 3) da_X7_sumOfMembers_0 rfl, rfl⟩
theorem q_X7_sumOfMembers_6 : decode M_X7_sumOfMembers.2.1 6 = .ok (.lstore_n 2, 1) ∧ 6 + 1 = 7 := ⟨dcAll_e (i := 4) da_X7_sumOfMembers_0 rfl, rfl⟩
theorem q_X7_sumOfMembers_7 : decode M_X7_sumOfMembers.2.1 7 = .ok (.aload_n 0, 1) ∧ 7 + 1 = 8 := ⟨dcAll_e (i := 5) da_X7_sumOfMembers_0 rfl, rfl⟩
theorem q_X7_sumOfMembers_8 : decode M_X7_sumOfMembers.2.1 8 = .ok (.bipush 7, 2) ∧ 8 + 2 = 10 := ⟨dcAll_e (i := 6) da_X7_sumOfMembers_0 rfl, rfl⟩
theorem q_X7_sumOfMembers_10 : decode M_X7_sumOfMembers.2.1 10 = .ok (.iconst 0, 1) ∧ 10 + 1 = 11 := ⟨dcAll_e (i := 7) da_X7_sumOfMembers_0 rfl, rfl⟩
theorem q_X7_sumOfMembers_11 : decode M_X7_sumOfMembers.2.1 11 = .ok (.invokevirtual 53, 3) ∧ 11 + 3 = 14 := ⟨dcAll_e (i := 8) da_X7_sumOfMembers_0 rfl, rfl⟩
theorem g_X7_sumOfMembers_11 : en_C M_X7_sumOfMembers M_X7_copyTo 53 2 := ⟨⟨inT4 58 rfl rfl, in_X7, cd_X7_copyTo⟩, ⟨by decide, by decide, by decide +kernel⟩, by decide, by decide⟩
theorem q_X7_sumOfMembers_14 : decode M_X7_sumOfMembers.2.1 14 = .ok (.aload_n 0, 1) ∧ 14 + 1 = 15 := ⟨dcAll_e (i := 9) da_X7_sumOfMembers_0 rfl, rfl⟩
theorem q_X7_sumOfMembers_15 : decode M_X7_sumOfMembers.2.1 15 = .ok (.iconst 0, 1) ∧ 15 + 1 = 16 := ⟨dcAll_e (i := 10) da_X7_sumOfMembers_0 rfl, rfl⟩
theorem q_X7_sumOfMembers_16 : decode M_X7_sumOfMembers.2.1 16 = .ok (.lload_n 2, 1) ∧ 16 + 1 = 17 := ⟨dcAll_e (i := 11) da_X7_sumOfMembers_0 rfl, rfl⟩
theorem q_X7_sumOfMembers_17 : decode M_X7_sumOfMembers.2.1 17 = .ok (.invokevirtual 77, 3) ∧ 17 + 3 = 20 := ⟨dcAll_e (i := 12) da_X7_sumOfMembers_0 rfl, rfl⟩
theorem g_X7_sumOfMembers_17 : en_C M_X7_sumOfMembers M_X7_bySmall 77 2 := ⟨⟨inT4 83 rfl rfl, in_X7, cd_X7_bySmall⟩, ⟨by decide, by decide, by decide +kernel⟩, by decide, by decide⟩
theorem q_X7_sumOfMembers_20 : decode M_X7_sumOfMembers.2.1 20 = .ok (.lstore 4, 2) ∧ 20 + 2 = 22 := ⟨dcAll_e (i := 13) da_X7_sumOfMembers_0 rfl, rfl⟩
theorem q_X7_sumOfMembers_22 : decode M_X7_sumOfMembers.2.1 22 = .ok (.aload_n 0, 1) ∧ 22 + 1 = 23 := ⟨dcAll_e (i := 14) da_X7_sumOfMembers_0 rfl, rfl⟩
theorem q_X7_sumOfMembers_23 : decode M_X7_sumOfMembers.2.1 23 = .ok (.bipush 6, 2) ∧ 23 + 2 = 25 := ⟨dcAll_e (i := 15) da_X7_sumOfMembers_0 rfl, rfl⟩
theorem q_X7_sumOfMembers_25 : decode M_X7_sumOfMembers.2.1 25 = .ok (.lconst 0, 1) ∧ 25 + 1 = 26 := ⟨dcAll_e (i := 16) da_X7_sumOfMembers_0 rfl, rfl⟩
theorem q_X7_sumOfMembers_26 : decode M_X7_sumOfMembers.2.1 26 = .ok (.invokevirtual 84, 3) ∧ 26 + 3 = 29 := ⟨dcAll_e (i := 17) da_X7_sumOfMembers_0 rfl, rfl⟩
theorem g_X7_sumOfMembers_26 : en_C M_X7_sumOfMembers M_X7_setTo 84 2 := ⟨⟨inT4 45 rfl rfl, in_X7, cd_X7_setTo⟩, ⟨by decide, by decide, by decide +kernel⟩, by decide, by decide⟩
theorem q_X7_sumOfMembers_29 : decode M_X7_sumOfMembers.2.1 29 = .ok (.lconst 0, 1) ∧ 29 + 1 = 30 := ⟨dcAll_e (i := 18) da_X7_sumOfMembers_0 rfl, rfl⟩
theorem q_X7_sumOfMembers_30 : decode M_X7_sumOfMembers.2.1 30 = .ok (.lstore 6, 2) ∧ 30 + 2 = 32 := ⟨dcAll_e (i := 19) da_X7_sumOfMembers_0 rfl, rfl⟩
theorem q_X7_sumOfMembers_32 : decode M_X7_sumOfMembers.2.1 32 = .ok (.aload_n 0, 1) ∧ 32 + 1 = 33 := ⟨dcAll_e (i := 20) da_X7_sumOfMembers_0 rfl, rfl⟩
theorem q_X7_sumOfMembers_33 : decode M_X7_sumOfMembers.2.1 33 = .ok (.getfield 14, 3) ∧ 33 + 3 = 36 := ⟨dcAll_e (i := 21) da_X7_sumOfMembers_0 rfl, rfl⟩
theorem q_X7_sumOfMembers_36 : decode M_X7_sumOfMembers.2.1 36 = .ok (.iconst 0, 1) ∧ 36 + 1 = 37 := ⟨dcAll_e (i := 22) da_X7_sumOfMembers_0 rfl, rfl⟩
theorem q_X7_sumOfMembers_37 : decode M_X7_sumOfMembers.2.1 37 = .ok (.iaload, 1) ∧ 37 + 1 = 38 := ⟨dcAll_e (i := 23) da_X7_sumOfMembers_0 rfl, rfl⟩
theorem q_X7_sumOfMembers_38 : decode M_X7_sumOfMembers.2.1 38 = .ok (.ifCond .le 82, 3) ∧ 38 + 3 = 41 ∧ ((38 : Nat) : Int) + 82 = ((120 : Nat) : Int) := ⟨dcAll_e (i := 24) da_X7_sumOfMembers_0 rfl, rfl, rfl⟩
theorem q_X7_sumOfMembers_41 : decode M_X7_sumOfMembers.2.1 41 = .ok (.aload_n 0, 1) ∧ 41 + 1 = 42 := ⟨dcAll_e (i := 25) da_X7_sumOfMembers_0 rfl, rfl⟩
theorem q_X7_sumOfMembers_42 : decode M_X7_sumOfMembers.2.1 42 = .ok (.iconst 0, 1) ∧ 42 + 1 = 43 := ⟨dcAll_e (i := 26) da_X7_sumOfMembers_0 rfl, rfl⟩
theorem q_X7_sumOfMembers_43 : decode M_X7_sumOfMembers.2.1 43 = .ok (.iconst 1, 1) ∧ 43 + 1 = 44 := ⟨dcAll_e (i := 27) da_X7_sumOfMembers_0 rfl, rfl⟩
theorem q_X7_sumOfMembers_44 : decode M_X7_sumOfMembers.2.1 44 = .ok (.invokevirtual 53, 3) ∧ 44 + 3 = 47 := ⟨dcAll_e (i := 28) da_X7_sumOfMembers_0 rfl, rfl⟩
theorem g_X7_sumOfMembers_44 : en_C M_X7_sumOfMembers M_X7_copyTo 53 2 := ⟨⟨inT4 58 rfl rfl, in_X7, cd_X7_copyTo⟩, ⟨by decide, by decide, by decide +kernel⟩, by decide, by decide⟩
theorem q_X7_sumOfMembers_47 : decode M_X7_sumOfMembers.2.1 47 = .ok (.aload_n 0, 1) ∧ 47 + 1 = 48 := ⟨dcAll_e (i := 29) da_X7_sumOfMembers_0 rfl, rfl⟩
theorem q_X7_sumOfMembers_48 : decode M_X7_sumOfMembers.2.1 48 = .ok (.iconst 1, 1) ∧ 48 + 1 = 49 := ⟨dcAll_e (i := 30) da_X7_sumOfMembers_0 rfl, rfl⟩
theorem q_X7_sumOfMembers_49 : decode M_X7_sumOfMembers.2.1 49 = .ok (.ldc2_w 146, 3) ∧ 49 + 3 = 52 := ⟨dcAll_e (i := 31) da_X7_sumOfMembers_0 rfl, rfl⟩
theorem q_X7_sumOfMembers_52 : decode M_X7_sumOfMembers.2.1 52 = .ok (.lload 6, 2) ∧ 52 + 2 = 54 := ⟨dcAll_e (i := 32) da_X7_sumOfMembers_0 rfl, rfl⟩
theorem q_X7_sumOfMembers_54 : decode M_X7_sumOfMembers.2.1 54 = .ok (.lmul, 1) ∧ 54 + 1 = 55 := ⟨dcAll_e (i := 33) da_X7_sumOfMembers_0 rfl, rfl⟩
theorem q_X7_sumOfMembers_55 : decode M_X7_sumOfMembers.2.1 55 = .ok (.lconst 1, 1) ∧ 55 + 1 = 56 := ⟨dcAll_e (i := 34) da_X7_sumOfMembers_0 rfl, rfl⟩
theorem q_X7_sumOfMembers_56 : decode M_X7_sumOfMembers.2.1 56 = .ok (.ladd, 1) ∧ 56 + 1 = 57 := ⟨dcAll_e (i := 35) da_X7_sumOfMembers_0 rfl, rfl⟩
theorem q_X7_sumOfMembers_57 : decode M_X7_sumOfMembers.2.1 57 = .ok (.invokevirtual 77, 3) ∧ 57 + 3 = 60 := ⟨dcAll_e (i := 36) da_X7_sumOfMembers_0 rfl, rfl⟩
theorem g_X7_sumOfMembers_57 : en_C M_X7_sumOfMembers M_X7_bySmall 77 2 := ⟨⟨inT4 83 rfl rfl, in_X7, cd_X7_bySmall⟩, ⟨by decide, by decide, by decide +kernel⟩, by decide, by decide⟩
theorem q_X7_sumOfMembers_60 : decode M_X7_sumOfMembers.2.1 60 = .ok (.lstore 4, 2) ∧ 60 + 2 = 62 := ⟨dcAll_e (i := 37) da_X7_sumOfMembers_0 rfl, rfl⟩
theorem q_X7_sumOfMembers_62 : decode M_X7_sumOfMembers.2.1 62 = .ok (.aload_n 0, 1) ∧ 62 + 1 = 63 := ⟨dcAll_e (i := 38) da_X7_sumOfMembers_0 rfl, rfl⟩
theorem q_X7_sumOfMembers_63 : decode M_X7_sumOfMembers.2.1 63 = .ok (.bipush 6, 2) ∧ 63 + 2 = 65 := ⟨dcAll_e (i := 39) da_X7_sumOfMembers_0 rfl, rfl⟩
theorem q_X7_sumOfMembers_65 : decode M_X7_sumOfMembers.2.1 65 = .ok (.bipush 6, 2) ∧ 65 + 2 = 67 := ⟨dcAll_e (i := 0) da_X7_sumOfMembers_1 rfl, rfl⟩
theorem q_X7_sumOfMembers_67 : decode M_X7_sumOfMembers.2.1 67 = .ok (.iconst 1, 1) ∧ 67 + 1 = 68 := ⟨dcAll_e (i := 1) da_X7_sumOfMembers_1 rfl, rfl⟩
theorem q_X7_sumOfMembers_68 : decode M_X7_sumOfMembers.2.1 68 = .ok (.aload_n 0, 1) ∧ 68 + 1 = 69 := ⟨dcAll_e (i := 2) da_X7_sumOfMembers_1 rfl, rfl⟩
theorem q_X7_sumOfMembers_69 : decode M_X7_sumOfMembers.2.1 69 = .ok (.getfield 20, 3) ∧ 69 + 3 = 72 := ⟨dcAll_e (i := 3) da_X7_sumOfMembers_1 rfl, rfl⟩
theorem q_X7_sumOfMembers_72 : decode M_X7_sumOfMembers.2.1 72 = .ok (.iload_n 1, 1) ∧ 72 + 1 = 73 := ⟨dcAll_e (i := 4) da_X7_sumOfMembers_1 rfl, rfl⟩
theorem q_X7_sumOfMembers_73 : decode M_X7_sumOfMembers.2.1 73 = .ok (.iaload, 1) ∧ 73 + 1 = 74 := ⟨dcAll_e (i := 5) da_X7_sumOfMembers_1 rfl, rfl⟩
theorem q_X7_sumOfMembers_74 : decode M_X7_sumOfMembers.2.1 74 = .ok (.iconst 2, 1) ∧ 74 + 1 = 75 := ⟨dcAll_e (i := 6) da_X7_sumOfMembers_1 rfl, rfl⟩
theorem q_X7_sumOfMembers_75 : decode M_X7_sumOfMembers.2.1 75 = .ok (.if_icmp .ne 16, 3) ∧ 75 + 3 = 78 ∧ ((75 : Nat) : Int) + 16 = ((91 : Nat) : Int) := ⟨dcAll_e (i := 7) da_X7_sumOfMembers_1 rfl, rfl, rfl⟩
theorem q_X7_sumOfMembers_78 : decode M_X7_sumOfMembers.2.1 78 = .ok (.lload 6, 2) ∧ 78 + 2 = 80 := ⟨dcAll_e (i := 8) da_X7_sumOfMembers_1 rfl, rfl⟩
theorem q_X7_sumOfMembers_80 : decode M_X7_sumOfMembers.2.1 80 = .ok (.lconst 1, 1) ∧ 80 + 1 = 81 := ⟨dcAll_e (i := 9) da_X7_sumOfMembers_1 rfl, rfl⟩
theorem q_X7_sumOfMembers_81 : decode M_X7_sumOfMembers.2.1 81 = .ok (.land, 1) ∧ 81 + 1 = 82 := ⟨dcAll_e (i := 10) da_X7_sumOfMembers_1 rfl, rfl⟩
theorem q_X7_sumOfMembers_82 : decode M_X7_sumOfMembers.2.1 82 = .ok (.lconst 1, 1) ∧ 82 + 1 = 83 := ⟨dcAll_e (i := 11) da_X7_sumOfMembers_1 rfl, rfl⟩
theorem q_X7_sumOfMembers_83 : decode M_X7_sumOfMembers.2.1 83 = .ok (.lcmp, 1) ∧ 83 + 1 = 84 := ⟨dcAll_e (i := 12) da_X7_sumOfMembers_1 rfl, rfl⟩
theorem q_X7_sumOfMembers_84 : decode M_X7_sumOfMembers.2.1 84 = .ok (.ifCond .ne 7, 3) ∧ 84 + 3 = 87 ∧ ((84 : Nat) : Int) + 7 = ((91 : Nat) : Int) := ⟨dcAll_e (i := 13) da_X7_sumOfMembers_1 rfl, rfl, rfl⟩
theorem q_X7_sumOfMembers_87 : decode M_X7_sumOfMembers.2.1 87 = .ok (.iconst (-1), 1) ∧ 87 + 1 = 88 := ⟨dcAll_e (i := 14) da_X7_sumOfMembers_1 rfl, rfl⟩
theorem q_X7_sumOfMembers_88 : decode M_X7_sumOfMembers.2.1 88 = .ok (.goto 4, 3) ∧ 88 + 3 = 91 ∧ ((88 : Nat) : Int) + 4 = ((92 : Nat) : Int) := ⟨dcAll_e (i := 15) da_X7_sumOfMembers_1 rfl, rfl, rfl⟩
theorem q_X7_sumOfMembers_91 : decode M_X7_sumOfMembers.2.1 91 = .ok (.iconst 1, 1) ∧ 91 + 1 = 92 := ⟨dcAll_e (i := 16) da_X7_sumOfMembers_1 rfl, rfl⟩
theorem q_X7_sumOfMembers_92 : decode M_X7_sumOfMembers.2.1 92 = .ok (.invokevirtual 87, 3) ∧ 92 + 3 = 95 := ⟨dcAll_e (i := 17) da_X7_sumOfMembers_1 rfl, rfl⟩
theorem g_X7_sumOfMembers_92 : en_C M_X7_sumOfMembers M_X7_addTo 87 4 := ⟨⟨inT4 87 rfl rfl, in_X7, cd_X7_addTo⟩, ⟨by decide, by decide, by decide +kernel⟩, by decide, by decide⟩
theorem q_X7_sumOfMembers_95 : decode M_X7_sumOfMembers.2.1 95 = .ok (.aload_n 0, 1) ∧ 95 + 1 = 96 := ⟨dcAll_e (i := 18) da_X7_sumOfMembers_1 rfl, rfl⟩
theorem q_X7_sumOfMembers_96 : decode M_X7_sumOfMembers.2.1 96 = .ok (.iconst 0, 1) ∧ 96 + 1 = 97 := ⟨dcAll_e (i := 19) da_X7_sumOfMembers_1 rfl, rfl⟩
theorem q_X7_sumOfMembers_97 : decode M_X7_sumOfMembers.2.1 97 = .ok (.lload_n 2, 1) ∧ 97 + 1 = 98 := ⟨dcAll_e (i := 20) da_X7_sumOfMembers_1 rfl, rfl⟩
theorem q_X7_sumOfMembers_98 : decode M_X7_sumOfMembers.2.1 98 = .ok (.invokevirtual 77, 3) ∧ 98 + 3 = 101 := ⟨dcAll_e (i := 21) da_X7_sumOfMembers_1 rfl, rfl⟩
theorem g_X7_sumOfMembers_98 : en_C M_X7_sumOfMembers M_X7_bySmall 77 2 := ⟨⟨inT4 83 rfl rfl, in_X7, cd_X7_bySmall⟩, ⟨by decide, by decide, by decide +kernel⟩, by decide, by decide⟩
theorem q_X7_sumOfMembers_101 : decode M_X7_sumOfMembers.2.1 101 = .ok (.lstore 4, 2) ∧ 101 + 2 = 103 := ⟨dcAll_e (i := 22) da_X7_sumOfMembers_1 rfl, rfl⟩
theorem q_X7_sumOfMembers_103 : decode M_X7_sumOfMembers.2.1 103 = .ok (.aload_n 0, 1) ∧ 103 + 1 = 104 := ⟨dcAll_e (i := 23) da_X7_sumOfMembers_1 rfl, rfl⟩
theorem q_X7_sumOfMembers_104 : decode M_X7_sumOfMembers.2.1 104 = .ok (.iconst 0, 1) ∧ 104 + 1 = 105 := ⟨dcAll_e (i := 24) da_X7_sumOfMembers_1 rfl, rfl⟩
theorem q_X7_sumOfMembers_105 : decode M_X7_sumOfMembers.2.1 105 = .ok (.lload_n 2, 1) ∧ 105 + 1 = 106 := ⟨dcAll_e (i := 25) da_X7_sumOfMembers_1 rfl, rfl⟩
theorem q_X7_sumOfMembers_106 : decode M_X7_sumOfMembers.2.1 106 = .ok (.invokevirtual 77, 3) ∧ 106 + 3 = 109 := ⟨dcAll_e (i := 26) da_X7_sumOfMembers_1 rfl, rfl⟩
theorem g_X7_sumOfMembers_106 : en_C M_X7_sumOfMembers M_X7_bySmall 77 2 := ⟨⟨inT4 83 rfl rfl, in_X7, cd_X7_bySmall⟩, ⟨by decide, by decide, by decide +kernel⟩, by decide, by decide⟩
theorem q_X7_sumOfMembers_109 : decode M_X7_sumOfMembers.2.1 109 = .ok (.lstore 4, 2) ∧ 109 + 2 = 111 := ⟨dcAll_e (i := 27) da_X7_sumOfMembers_1 rfl, rfl⟩
theorem q_X7_sumOfMembers_111 : decode M_X7_sumOfMembers.2.1 111 = .ok (.lload 6, 2) ∧ 111 + 2 = 113 := ⟨dcAll_e (i := 28) da_X7_sumOfMembers_1 rfl, rfl⟩
theorem q_X7_sumOfMembers_113 : decode M_X7_sumOfMembers.2.1 113 = .ok (.lconst 1, 1) ∧ 113 + 1 = 114 := ⟨dcAll_e (i := 29) da_X7_sumOfMembers_1 rfl, rfl⟩
theorem q_X7_sumOfMembers_114 : decode M_X7_sumOfMembers.2.1 114 = .ok (.ladd, 1) ∧ 114 + 1 = 115 := ⟨dcAll_e (i := 30) da_X7_sumOfMembers_1 rfl, rfl⟩
theorem q_X7_sumOfMembers_115 : decode M_X7_sumOfMembers.2.1 115 = .ok (.lstore 6, 2) ∧ 115 + 2 = 117 := ⟨dcAll_e (i := 31) da_X7_sumOfMembers_1 rfl, rfl⟩
theorem q_X7_sumOfMembers_117 : decode M_X7_sumOfMembers.2.1 117 = .ok (.goto (-85), 3) ∧ 117 + 3 = 120 ∧ ((117 : Nat) : Int) + (-85) = ((32 : Nat) : Int) := ⟨dcAll_e (i := 32) da_X7_sumOfMembers_1 rfl, rfl, rfl⟩
theorem q_X7_sumOfMembers_120 : decode M_X7_sumOfMembers.2.1 120 = .ok (.ldc2_w 155, 3) ∧ 120 + 3 = 123 := ⟨dcAll_e (i := 33) da_X7_sumOfMembers_1 rfl, rfl⟩
theorem k_RX7_155 : Cond.constantLong RX7 155 (lN 4) ∈ en_tbl := by decide +kernel
theorem q_X7_sumOfMembers_123 : decode M_X7_sumOfMembers.2.1 123 = .ok (.lload 6, 2) ∧ 123 + 2 = 125 := ⟨dcAll_e (i := 34) da_X7_sumOfMembers_1 rfl, rfl⟩
theorem q_X7_sumOfMembers_125 : decode M_X7_sumOfMembers.2.1 125 = .ok (.lmul, 1) ∧ 125 + 1 = 126 := ⟨dcAll_e (i := 35) da_X7_sumOfMembers_1 rfl, rfl⟩
theorem q_X7_sumOfMembers_126 : decode M_X7_sumOfMembers.2.1 126 = .ok (.ldc2_w 157, 3) ∧ 126 + 3 = 129 := ⟨dcAll_e (i := 36) da_X7_sumOfMembers_1 rfl, rfl⟩
theorem k_RX7_157 : Cond.constantLong RX7 157 (lN 8) ∈ en_tbl := by decide +kernel
theorem q_X7_sumOfMembers_129 : decode M_X7_sumOfMembers.2.1 129 = .ok (.ladd, 1) ∧ 129 + 1 = 130 := ⟨dcAll_e (i := 37) da_X7_sumOfMembers_1 rfl, rfl⟩
theorem q_X7_sumOfMembers_130 : decode M_X7_sumOfMembers.2.1 130 = .ok (.lreturn, 1) ∧ 130 + 1 = 131 := ⟨dcAll_e (i := 38) da_X7_sumOfMembers_1 rfl, rfl⟩
def dl_X7_sumOfPower_0 : List (Nat × Instr × Nat) := [(0, .aload_n 0, 1), (1, .getfield 23, 3), (4, .iload_n 1, 1), (5, .laload, 1), (6, .lconst 0, 1), (7, .lcmp, 1), (8, .ifCond .ge 13, 3), (11, .aload_n 0, 1), (12, .getfield 23, 3), (15, .iload_n 1, 1), (16, .laload, 1), (17, .lneg, 1), (18, .goto 9, 3), (21, .aload_n 0, 1), (22, .getfield 23, 3), (25, .iload_n 1, 1), (26, .laload, 1), (27, .lstore_n 2, 1), (28, .aload_n 0, 1), (29, .getfield 27, 3), (32, .iload_n 1, 1), (33, .laload, 1), (34, .lstore 4, 2), (36, .aload_n 0, 1), (37, .bipush 7, 2), (39, .iconst 0, 1), (40, .invokevirtual 53, 3), (43, .aload_n 0, 1), (44, .bipush 7, 2), (46, .bipush 6, 2), (48, .invokevirtual 53, 3), (51, .lconst 1, 1), (52, .lstore 6, 2), (54, .aload_n 0, 1), (55, .getfield 14, 3), (58, .iconst 0, 1), (59, .iaload, 1), (60, .ifCond .le 40, 3), (63, .aload_n 0, 1), (64, .iconst 0, 1)]
theorem da_X7_sumOfPower_0 : dcAll M_X7_sumOfPower.2.1 dl_X7_sumOfPower_0 = true := by decide +kernel
def dl_X7_sumOfPower_1 : List (Nat × Instr × Nat) := [(65, .lload_n 2, 1), (66, .invokevirtual 69, 3), (69, .aload_n 0, 1), (70, .iconst 0, 1), (71, .lload 4, 2), (73, .lload 6, 2), (75, .lmul, 1), (76, .invokevirtual 77, 3), (79, .lstore 8, 2), (81, .aload_n 0, 1), (82, .bipush 6, 2), (84, .bipush 6, 2), (86, .iconst 0, 1), (87, .iconst 1, 1), (88, .invokevirtual 87, 3), (91, .lload 6, 2), (93, .lconst 1, 1), (94, .ladd, 1), (95, .lstore 6, 2), (97, .goto (-43), 3), (100, .ldc2_w 159, 3), (103, .lload 6, 2), (105, .lmul, 1), (106, .ldc2_w 159, 3), (109, .ladd, 1), (110, .lstore 8, 2), (112, .aload_n 0, 1), (113, .getfield 23, 3), (116, .iload_n 1, 1), (117, .laload, 1), (118, .lconst 0, 1), (119, .lcmp, 1), (120, .ifCond .le 6, 3), (123, .lload 8, 2), (125, .lreturn, 1), (126, .aload_n 0, 1), (127, .iconst 1, 1), (128, .bipush 7, 2), (130, .bipush 7, 2), (132, .invokevirtual 123, 3)]
theorem da_X7_sumOfPower_1 : dcAll M_X7_sumOfPower.2.1 dl_X7_sumOfPower_1 = true := by decide +kernel
def dl_X7_sumOfPower_2 : List (Nat × Instr × Nat) := [(135, .aload_n 0, 1), (136, .bipush 6, 2), (138, .iconst 2, 1), (139, .invokevirtual 53, 3), (142, .aload_n 0, 1), (143, .bipush 6, 2), (145, .iconst 1, 1), (146, .iconst 2, 1), (147, .iconst 0, 1), (148, .invokevirtual 126, 3), (151, .lload 8, 2), (153, .ldc2_w 155, 3), (156, .ladd, 1), (157, .lreturn, 1)]
theorem da_X7_sumOfPower_2 : dcAll M_X7_sumOfPower.2.1 dl_X7_sumOfPower_2 = true := by decide +kernel
theorem q_X7_sumOfPower_0 : decode M_X7_sumOfPower.2.1 0 = .ok (.aload_n 0, 1) ∧ 0 + 1 = 1 := ⟨dcAll_e (i := 0) da_X7_sumOfPower_0 rfl, rfl⟩
theorem q_X7_sumOfPower_1 : decode M_X7_sumOfPower.2.1 1 = .ok (.getfield 23, 3) ∧ 1 + 3 = 4 := ⟨dcAll_e (i := 1) da_X7_sumOfPower_0 rfl, rfl⟩
theorem q_X7_sumOfPower_4 : decode M_X7_sumOfPower.2.1 4 = .ok (.iload_n 1, 1) ∧ 4 + 1 = 5 := ⟨dcAll_e (i := 2) da_X7_sumOfPower_0 rfl, rfl⟩
theorem q_X7_sumOfPower_5 : decode M_X7_sumOfPower.2.1 5 = .ok (.laload, 1) ∧ 5 + 1 = 6 := ⟨dcAll_e (i := 3) da_X7_sumOfPower_0 rfl, rfl⟩
theorem q_X7_sumOfPower_6 : decode M_X7_sumOfPower.2.1 6 = .ok (.lconst 0, 1) ∧ 6 + 1 = 7 := ⟨dcAll_e (i := 4) da_X7_sumOfPower_0 rfl, rfl⟩
theorem q_X7_sumOfPower_7 : decode M_X7_sumOfPower.2.1 7 = .ok (.lcmp, 1) ∧ 7 + 1 = 8 := ⟨dcAll_e (i := 5) da_X7_sumOfPower_0 rfl, rfl⟩
theorem q_X7_sumOfPower_8 : decode M_X7_sumOfPower.2.1 8 = .ok (.ifCond .ge 13, 3) ∧ 8 + 3 = 11 ∧ ((8 : Nat) : Int) + 13 = ((21 : Nat) : Int) := ⟨dcAll_e (i := 6) da_X7_sumOfPower_0 rfl, rfl, rfl⟩
theorem q_X7_sumOfPower_11 : decode M_X7_sumOfPower.2.1 11 = .ok (.aload_n 0, 1) ∧ 11 + 1 = 12 := ⟨dcAll_e (i := 7) da_X7_sumOfPower_0 rfl, rfl⟩
theorem q_X7_sumOfPower_12 : decode M_X7_sumOfPower.2.1 12 = .ok (.getfield 23, 3) ∧ 12 + 3 = 15 := ⟨dcAll_e (i := 8) da_X7_sumOfPower_0 rfl, rfl⟩
theorem q_X7_sumOfPower_15 : decode M_X7_sumOfPower.2.1 15 = .ok (.iload_n 1, 1) ∧ 15 + 1 = 16 := ⟨dcAll_e (i := 9) da_X7_sumOfPower_0 rfl, rfl⟩
theorem q_X7_sumOfPower_16 : decode M_X7_sumOfPower.2.1 16 = .ok (.laload, 1) ∧ 16 + 1 = 17 := ⟨dcAll_e (i := 10) da_X7_sumOfPower_0 rfl, rfl⟩
theorem q_X7_sumOfPower_17 : decode M_X7_sumOfPower.2.1 17 = .ok (.lneg, 1) ∧ 17 + 1 = 18 := ⟨dcAll_e (i := 11) da_X7_sumOfPower_0 rfl, rfl⟩
theorem q_X7_sumOfPower_18 : decode M_X7_sumOfPower.2.1 18 = .ok (.goto 9, 3) ∧ 18 + 3 = 21 ∧ ((18 : Nat) : Int) + 9 = ((27 : Nat) : Int) := ⟨dcAll_e (i := 12) da_X7_sumOfPower_0 rfl, rfl, rfl⟩
theorem q_X7_sumOfPower_21 : decode M_X7_sumOfPower.2.1 21 = .ok (.aload_n 0, 1) ∧ 21 + 1 = 22 := ⟨dcAll_e (i := 13) da_X7_sumOfPower_0 rfl, rfl⟩
theorem q_X7_sumOfPower_22 : decode M_X7_sumOfPower.2.1 22 = .ok (.getfield 23, 3) ∧ 22 + 3 = 25 := ⟨dcAll_e (i := 14) da_X7_sumOfPower_0 rfl, rfl⟩
theorem q_X7_sumOfPower_25 : decode M_X7_sumOfPower.2.1 25 = .ok (.iload_n 1, 1) ∧ 25 + 1 = 26 := ⟨dcAll_e (i := 15) da_X7_sumOfPower_0 rfl, rfl⟩
theorem q_X7_sumOfPower_26 : decode M_X7_sumOfPower.2.1 26 = .ok (.laload, 1) ∧ 26 + 1 = 27 := ⟨dcAll_e (i := 16) da_X7_sumOfPower_0 rfl, rfl⟩
theorem q_X7_sumOfPower_27 : decode M_X7_sumOfPower.2.1 27 = .ok (.lstore_n 2, 1) ∧ 27 + 1 = 28 := ⟨dcAll_e (i := 17) da_X7_sumOfPower_0 rfl, rfl⟩
theorem q_X7_sumOfPower_28 : decode M_X7_sumOfPower.2.1 28 = .ok (.aload_n 0, 1) ∧ 28 + 1 = 29 := ⟨dcAll_e (i := 18) da_X7_sumOfPower_0 rfl, rfl⟩
theorem q_X7_sumOfPower_29 : decode M_X7_sumOfPower.2.1 29 = .ok (.getfield 27, 3) ∧ 29 + 3 = 32 := ⟨dcAll_e (i := 19) da_X7_sumOfPower_0 rfl, rfl⟩
theorem q_X7_sumOfPower_32 : decode M_X7_sumOfPower.2.1 32 = .ok (.iload_n 1, 1) ∧ 32 + 1 = 33 := ⟨dcAll_e (i := 20) da_X7_sumOfPower_0 rfl, rfl⟩
theorem q_X7_sumOfPower_33 : decode M_X7_sumOfPower.2.1 33 = .ok (.laload, 1) ∧ 33 + 1 = 34 := ⟨dcAll_e (i := 21) da_X7_sumOfPower_0 rfl, rfl⟩
theorem q_X7_sumOfPower_34 : decode M_X7_sumOfPower.2.1 34 = .ok (.lstore 4, 2) ∧ 34 + 2 = 36 := ⟨dcAll_e (i := 22) da_X7_sumOfPower_0 rfl, rfl⟩
theorem q_X7_sumOfPower_36 : decode M_X7_sumOfPower.2.1 36 = .ok (.aload_n 0, 1) ∧ 36 + 1 = 37 := ⟨dcAll_e (i := 23) da_X7_sumOfPower_0 rfl, rfl⟩
theorem q_X7_sumOfPower_37 : decode M_X7_sumOfPower.2.1 37 = .ok (.bipush 7, 2) ∧ 37 + 2 = 39 := ⟨dcAll_e (i := 24) da_X7_sumOfPower_0 rfl, rfl⟩
theorem q_X7_sumOfPower_39 : decode M_X7_sumOfPower.2.1 39 = .ok (.iconst 0, 1) ∧ 39 + 1 = 40 := ⟨dcAll_e (i := 25) da_X7_sumOfPower_0 rfl, rfl⟩
theorem q_X7_sumOfPower_40 : decode M_X7_sumOfPower.2.1 40 = .ok (.invokevirtual 53, 3) ∧ 40 + 3 = 43 := ⟨dcAll_e (i := 26) da_X7_sumOfPower_0 rfl, rfl⟩
theorem g_X7_sumOfPower_40 : en_C M_X7_sumOfPower M_X7_copyTo 53 2 := ⟨⟨inT4 58 rfl rfl, in_X7, cd_X7_copyTo⟩, ⟨by decide, by decide, by decide +kernel⟩, by decide, by decide⟩
theorem q_X7_sumOfPower_43 : decode M_X7_sumOfPower.2.1 43 = .ok (.aload_n 0, 1) ∧ 43 + 1 = 44 := ⟨dcAll_e (i := 27) da_X7_sumOfPower_0 rfl, rfl⟩
theorem q_X7_sumOfPower_44 : decode M_X7_sumOfPower.2.1 44 = .ok (.bipush 7, 2) ∧ 44 + 2 = 46 := ⟨dcAll_e (i := 28) da_X7_sumOfPower_0 rfl, rfl⟩
theorem q_X7_sumOfPower_46 : decode M_X7_sumOfPower.2.1 46 = .ok (.bipush 6, 2) ∧ 46 + 2 = 48 := ⟨dcAll_e (i := 29) da_X7_sumOfPower_0 rfl, rfl⟩
theorem q_X7_sumOfPower_48 : decode M_X7_sumOfPower.2.1 48 = .ok (.invokevirtual 53, 3) ∧ 48 + 3 = 51 := ⟨dcAll_e (i := 30) da_X7_sumOfPower_0 rfl, rfl⟩
theorem g_X7_sumOfPower_48 : en_C M_X7_sumOfPower M_X7_copyTo 53 2 := ⟨⟨inT4 58 rfl rfl, in_X7, cd_X7_copyTo⟩, ⟨by decide, by decide, by decide +kernel⟩, by decide, by decide⟩
theorem q_X7_sumOfPower_51 : decode M_X7_sumOfPower.2.1 51 = .ok (.lconst 1, 1) ∧ 51 + 1 = 52 := ⟨dcAll_e (i := 31) da_X7_sumOfPower_0 rfl, rfl⟩
theorem q_X7_sumOfPower_52 : decode M_X7_sumOfPower.2.1 52 = .ok (.lstore 6, 2) ∧ 52 + 2 = 54 := ⟨dcAll_e (i := 32) da_X7_sumOfPower_0 rfl, rfl⟩
theorem q_X7_sumOfPower_54 : decode M_X7_sumOfPower.2.1 54 = .ok (.aload_n 0, 1) ∧ 54 + 1 = 55 := ⟨dcAll_e (i := 33) da_X7_sumOfPower_0 rfl, rfl⟩
theorem q_X7_sumOfPower_55 : decode M_X7_sumOfPower.2.1 55 = .ok (.getfield 14, 3) ∧ 55 + 3 = 58 := ⟨dcAll_e (i := 34) da_X7_sumOfPower_0 rfl, rfl⟩
theorem q_X7_sumOfPower_58 : decode M_X7_sumOfPower.2.1 58 = .ok (.iconst 0, 1) ∧ 58 + 1 = 59 := ⟨dcAll_e (i := 35) da_X7_sumOfPower_0 rfl, rfl⟩
theorem q_X7_sumOfPower_59 : decode M_X7_sumOfPower.2.1 59 = .ok (.iaload, 1) ∧ 59 + 1 = 60 := ⟨dcAll_e (i := 36) da_X7_sumOfPower_0 rfl, rfl⟩
theorem q_X7_sumOfPower_60 : decode M_X7_sumOfPower.2.1 60 = .ok (.ifCond .le 40, 3) ∧ 60 + 3 = 63 ∧ ((60 : Nat) : Int) + 40 = ((100 : Nat) : Int) := ⟨dcAll_e (i := 37) da_X7_sumOfPower_0 rfl, rfl, rfl⟩
theorem q_X7_sumOfPower_63 : decode M_X7_sumOfPower.2.1 63 = .ok (.aload_n 0, 1) ∧ 63 + 1 = 64 := ⟨dcAll_e (i := 38) da_X7_sumOfPower_0 rfl, rfl⟩
theorem q_X7_sumOfPower_64 : decode M_X7_sumOfPower.2.1 64 = .ok (.iconst 0, 1) ∧ 64 + 1 = 65 := ⟨dcAll_e (i := 39) da_X7_sumOfPower_0 rfl, rfl⟩
theorem q_X7_sumOfPower_65 : decode M_X7_sumOfPower.2.1 65 = .ok (.lload_n 2, 1) ∧ 65 + 1 = 66 := ⟨dcAll_e (i := 0) da_X7_sumOfPower_1 rfl, rfl⟩
theorem q_X7_sumOfPower_66 : decode M_X7_sumOfPower.2.1 66 = .ok (.invokevirtual 69, 3) ∧ 66 + 3 = 69 := ⟨dcAll_e (i := 1) da_X7_sumOfPower_1 rfl, rfl⟩
theorem g_X7_sumOfPower_66 : en_C M_X7_sumOfPower M_X7_timesSmall 69 2 := ⟨⟨inT4 75 rfl rfl, in_X7, cd_X7_timesSmall⟩, ⟨by decide, by decide, by decide +kernel⟩, by decide, by decide⟩
theorem q_X7_sumOfPower_69 : decode M_X7_sumOfPower.2.1 69 = .ok (.aload_n 0, 1) ∧ 69 + 1 = 70 := ⟨dcAll_e (i := 2) da_X7_sumOfPower_1 rfl, rfl⟩
theorem q_X7_sumOfPower_70 : decode M_X7_sumOfPower.2.1 70 = .ok (.iconst 0, 1) ∧ 70 + 1 = 71 := ⟨dcAll_e (i := 3) da_X7_sumOfPower_1 rfl, rfl⟩
theorem q_X7_sumOfPower_71 : decode M_X7_sumOfPower.2.1 71 = .ok (.lload 4, 2) ∧ 71 + 2 = 73 := ⟨dcAll_e (i := 4) da_X7_sumOfPower_1 rfl, rfl⟩
theorem q_X7_sumOfPower_73 : decode M_X7_sumOfPower.2.1 73 = .ok (.lload 6, 2) ∧ 73 + 2 = 75 := ⟨dcAll_e (i := 5) da_X7_sumOfPower_1 rfl, rfl⟩
theorem q_X7_sumOfPower_75 : decode M_X7_sumOfPower.2.1 75 = .ok (.lmul, 1) ∧ 75 + 1 = 76 := ⟨dcAll_e (i := 6) da_X7_sumOfPower_1 rfl, rfl⟩
theorem q_X7_sumOfPower_76 : decode M_X7_sumOfPower.2.1 76 = .ok (.invokevirtual 77, 3) ∧ 76 + 3 = 79 := ⟨dcAll_e (i := 7) da_X7_sumOfPower_1 rfl, rfl⟩
theorem g_X7_sumOfPower_76 : en_C M_X7_sumOfPower M_X7_bySmall 77 2 := ⟨⟨inT4 83 rfl rfl, in_X7, cd_X7_bySmall⟩, ⟨by decide, by decide, by decide +kernel⟩, by decide, by decide⟩
theorem q_X7_sumOfPower_79 : decode M_X7_sumOfPower.2.1 79 = .ok (.lstore 8, 2) ∧ 79 + 2 = 81 := ⟨dcAll_e (i := 8) da_X7_sumOfPower_1 rfl, rfl⟩
theorem q_X7_sumOfPower_81 : decode M_X7_sumOfPower.2.1 81 = .ok (.aload_n 0, 1) ∧ 81 + 1 = 82 := ⟨dcAll_e (i := 9) da_X7_sumOfPower_1 rfl, rfl⟩
theorem q_X7_sumOfPower_82 : decode M_X7_sumOfPower.2.1 82 = .ok (.bipush 6, 2) ∧ 82 + 2 = 84 := ⟨dcAll_e (i := 10) da_X7_sumOfPower_1 rfl, rfl⟩
theorem q_X7_sumOfPower_84 : decode M_X7_sumOfPower.2.1 84 = .ok (.bipush 6, 2) ∧ 84 + 2 = 86 := ⟨dcAll_e (i := 11) da_X7_sumOfPower_1 rfl, rfl⟩
theorem q_X7_sumOfPower_86 : decode M_X7_sumOfPower.2.1 86 = .ok (.iconst 0, 1) ∧ 86 + 1 = 87 := ⟨dcAll_e (i := 12) da_X7_sumOfPower_1 rfl, rfl⟩
theorem q_X7_sumOfPower_87 : decode M_X7_sumOfPower.2.1 87 = .ok (.iconst 1, 1) ∧ 87 + 1 = 88 := ⟨dcAll_e (i := 13) da_X7_sumOfPower_1 rfl, rfl⟩
theorem q_X7_sumOfPower_88 : decode M_X7_sumOfPower.2.1 88 = .ok (.invokevirtual 87, 3) ∧ 88 + 3 = 91 := ⟨dcAll_e (i := 14) da_X7_sumOfPower_1 rfl, rfl⟩
theorem g_X7_sumOfPower_88 : en_C M_X7_sumOfPower M_X7_addTo 87 4 := ⟨⟨inT4 87 rfl rfl, in_X7, cd_X7_addTo⟩, ⟨by decide, by decide, by decide +kernel⟩, by decide, by decide⟩
theorem q_X7_sumOfPower_91 : decode M_X7_sumOfPower.2.1 91 = .ok (.lload 6, 2) ∧ 91 + 2 = 93 := ⟨dcAll_e (i := 15) da_X7_sumOfPower_1 rfl, rfl⟩
theorem q_X7_sumOfPower_93 : decode M_X7_sumOfPower.2.1 93 = .ok (.lconst 1, 1) ∧ 93 + 1 = 94 := ⟨dcAll_e (i := 16) da_X7_sumOfPower_1 rfl, rfl⟩
theorem q_X7_sumOfPower_94 : decode M_X7_sumOfPower.2.1 94 = .ok (.ladd, 1) ∧ 94 + 1 = 95 := ⟨dcAll_e (i := 17) da_X7_sumOfPower_1 rfl, rfl⟩
theorem q_X7_sumOfPower_95 : decode M_X7_sumOfPower.2.1 95 = .ok (.lstore 6, 2) ∧ 95 + 2 = 97 := ⟨dcAll_e (i := 18) da_X7_sumOfPower_1 rfl, rfl⟩
theorem q_X7_sumOfPower_97 : decode M_X7_sumOfPower.2.1 97 = .ok (.goto (-43), 3) ∧ 97 + 3 = 100 ∧ ((97 : Nat) : Int) + (-43) = ((54 : Nat) : Int) := ⟨dcAll_e (i := 19) da_X7_sumOfPower_1 rfl, rfl, rfl⟩
theorem q_X7_sumOfPower_100 : decode M_X7_sumOfPower.2.1 100 = .ok (.ldc2_w 159, 3) ∧ 100 + 3 = 103 := ⟨dcAll_e (i := 20) da_X7_sumOfPower_1 rfl, rfl⟩
theorem k_RX7_159 : Cond.constantLong RX7 159 (lN 200) ∈ en_tbl := by decide +kernel
theorem q_X7_sumOfPower_103 : decode M_X7_sumOfPower.2.1 103 = .ok (.lload 6, 2) ∧ 103 + 2 = 105 := ⟨dcAll_e (i := 21) da_X7_sumOfPower_1 rfl, rfl⟩
theorem q_X7_sumOfPower_105 : decode M_X7_sumOfPower.2.1 105 = .ok (.lmul, 1) ∧ 105 + 1 = 106 := ⟨dcAll_e (i := 22) da_X7_sumOfPower_1 rfl, rfl⟩
theorem q_X7_sumOfPower_106 : decode M_X7_sumOfPower.2.1 106 = .ok (.ldc2_w 159, 3) ∧ 106 + 3 = 109 := ⟨dcAll_e (i := 23) da_X7_sumOfPower_1 rfl, rfl⟩
theorem q_X7_sumOfPower_109 : decode M_X7_sumOfPower.2.1 109 = .ok (.ladd, 1) ∧ 109 + 1 = 110 := ⟨dcAll_e (i := 24) da_X7_sumOfPower_1 rfl, rfl⟩
theorem q_X7_sumOfPower_110 : decode M_X7_sumOfPower.2.1 110 = .ok (.lstore 8, 2) ∧ 110 + 2 = 112 := ⟨dcAll_e (i := 25) da_X7_sumOfPower_1 rfl, rfl⟩
theorem q_X7_sumOfPower_112 : decode M_X7_sumOfPower.2.1 112 = .ok (.aload_n 0, 1) ∧ 112 + 1 = 113 := ⟨dcAll_e (i := 26) da_X7_sumOfPower_1 rfl, rfl⟩
theorem q_X7_sumOfPower_113 : decode M_X7_sumOfPower.2.1 113 = .ok (.getfield 23, 3) ∧ 113 + 3 = 116 := ⟨dcAll_e (i := 27) da_X7_sumOfPower_1 rfl, rfl⟩
theorem q_X7_sumOfPower_116 : decode M_X7_sumOfPower.2.1 116 = .ok (.iload_n 1, 1) ∧ 116 + 1 = 117 := ⟨dcAll_e (i := 28) da_X7_sumOfPower_1 rfl, rfl⟩
theorem q_X7_sumOfPower_117 : decode M_X7_sumOfPower.2.1 117 = .ok (.laload, 1) ∧ 117 + 1 = 118 := ⟨dcAll_e (i := 29) da_X7_sumOfPower_1 rfl, rfl⟩
theorem q_X7_sumOfPower_118 : decode M_X7_sumOfPower.2.1 118 = .ok (.lconst 0, 1) ∧ 118 + 1 = 119 := ⟨dcAll_e (i := 30) da_X7_sumOfPower_1 rfl, rfl⟩
theorem q_X7_sumOfPower_119 : decode M_X7_sumOfPower.2.1 119 = .ok (.lcmp, 1) ∧ 119 + 1 = 120 := ⟨dcAll_e (i := 31) da_X7_sumOfPower_1 rfl, rfl⟩
theorem q_X7_sumOfPower_120 : decode M_X7_sumOfPower.2.1 120 = .ok (.ifCond .le 6, 3) ∧ 120 + 3 = 123 ∧ ((120 : Nat) : Int) + 6 = ((126 : Nat) : Int) := ⟨dcAll_e (i := 32) da_X7_sumOfPower_1 rfl, rfl, rfl⟩
theorem q_X7_sumOfPower_123 : decode M_X7_sumOfPower.2.1 123 = .ok (.lload 8, 2) ∧ 123 + 2 = 125 := ⟨dcAll_e (i := 33) da_X7_sumOfPower_1 rfl, rfl⟩
theorem q_X7_sumOfPower_125 : decode M_X7_sumOfPower.2.1 125 = .ok (.lreturn, 1) ∧ 125 + 1 = 126 := ⟨dcAll_e (i := 34) da_X7_sumOfPower_1 rfl, rfl⟩
theorem q_X7_sumOfPower_126 : decode M_X7_sumOfPower.2.1 126 = .ok (.aload_n 0, 1) ∧ 126 + 1 = 127 := ⟨dcAll_e (i := 35) da_X7_sumOfPower_1 rfl, rfl⟩
theorem q_X7_sumOfPower_127 : decode M_X7_sumOfPower.2.1 127 = .ok (.iconst 1, 1) ∧ 127 + 1 = 128 := ⟨dcAll_e (i := 36) da_X7_sumOfPower_1 rfl, rfl⟩
theorem q_X7_sumOfPower_128 : decode M_X7_sumOfPower.2.1 128 = .ok (.bipush 7, 2) ∧ 128 + 2 = 130 := ⟨dcAll_e (i := 37) da_X7_sumOfPower_1 rfl, rfl⟩
theorem q_X7_sumOfPower_130 : decode M_X7_sumOfPower.2.1 130 = .ok (.bipush 7, 2) ∧ 130 + 2 = 132 := ⟨dcAll_e (i := 38) da_X7_sumOfPower_1 rfl, rfl⟩
theorem q_X7_sumOfPower_132 : decode M_X7_sumOfPower.2.1 132 = .ok (.invokevirtual 123, 3) ∧ 132 + 3 = 135 := ⟨dcAll_e (i := 39) da_X7_sumOfPower_1 rfl, rfl⟩
theorem g_X7_sumOfPower_132 : en_C M_X7_sumOfPower M_X7_multiply 123 3 := ⟨⟨inT4 50 rfl rfl, in_X7, cd_X7_multiply⟩, ⟨by decide, by decide, by decide +kernel⟩, by decide, by decide⟩
theorem q_X7_sumOfPower_135 : decode M_X7_sumOfPower.2.1 135 = .ok (.aload_n 0, 1) ∧ 135 + 1 = 136 := ⟨dcAll_e (i := 0) da_X7_sumOfPower_2 rfl, rfl⟩
theorem q_X7_sumOfPower_136 : decode M_X7_sumOfPower.2.1 136 = .ok (.bipush 6, 2) ∧ 136 + 2 = 138 := ⟨dcAll_e (i := 1) da_X7_sumOfPower_2 rfl, rfl⟩
theorem q_X7_sumOfPower_138 : decode M_X7_sumOfPower.2.1 138 = .ok (.iconst 2, 1) ∧ 138 + 1 = 139 := ⟨dcAll_e (i := 2) da_X7_sumOfPower_2 rfl, rfl⟩
theorem q_X7_sumOfPower_139 : decode M_X7_sumOfPower.2.1 139 = .ok (.invokevirtual 53, 3) ∧ 139 + 3 = 142 := ⟨dcAll_e (i := 3) da_X7_sumOfPower_2 rfl, rfl⟩
theorem g_X7_sumOfPower_139 : en_C M_X7_sumOfPower M_X7_copyTo 53 2 := ⟨⟨inT4 58 rfl rfl, in_X7, cd_X7_copyTo⟩, ⟨by decide, by decide, by decide +kernel⟩, by decide, by decide⟩
theorem q_X7_sumOfPower_142 : decode M_X7_sumOfPower.2.1 142 = .ok (.aload_n 0, 1) ∧ 142 + 1 = 143 := ⟨dcAll_e (i := 4) da_X7_sumOfPower_2 rfl, rfl⟩
theorem q_X7_sumOfPower_143 : decode M_X7_sumOfPower.2.1 143 = .ok (.bipush 6, 2) ∧ 143 + 2 = 145 := ⟨dcAll_e (i := 5) da_X7_sumOfPower_2 rfl, rfl⟩
theorem q_X7_sumOfPower_145 : decode M_X7_sumOfPower.2.1 145 = .ok (.iconst 1, 1) ∧ 145 + 1 = 146 := ⟨dcAll_e (i := 6) da_X7_sumOfPower_2 rfl, rfl⟩
theorem q_X7_sumOfPower_146 : decode M_X7_sumOfPower.2.1 146 = .ok (.iconst 2, 1) ∧ 146 + 1 = 147 := ⟨dcAll_e (i := 7) da_X7_sumOfPower_2 rfl, rfl⟩
theorem q_X7_sumOfPower_147 : decode M_X7_sumOfPower.2.1 147 = .ok (.iconst 0, 1) ∧ 147 + 1 = 148 := ⟨dcAll_e (i := 8) da_X7_sumOfPower_2 rfl, rfl⟩
theorem q_X7_sumOfPower_148 : decode M_X7_sumOfPower.2.1 148 = .ok (.invokevirtual 126, 3) ∧ 148 + 3 = 151 := ⟨dcAll_e (i := 9) da_X7_sumOfPower_2 rfl, rfl⟩
theorem g_X7_sumOfPower_148 : en_C M_X7_sumOfPower M_X7_rounded 126 4 := ⟨⟨inT4 62 rfl rfl, in_X7, cd_X7_rounded⟩, ⟨by decide, by decide, by decide +kernel⟩, by decide, by decide⟩
theorem q_X7_sumOfPower_151 : decode M_X7_sumOfPower.2.1 151 = .ok (.lload 8, 2) ∧ 151 + 2 = 153 := ⟨dcAll_e (i := 10) da_X7_sumOfPower_2 rfl, rfl⟩
theorem q_X7_sumOfPower_153 : decode M_X7_sumOfPower.2.1 153 = .ok (.ldc2_w 155, 3) ∧ 153 + 3 = 156 := ⟨dcAll_e (i := 11) da_X7_sumOfPower_2 rfl, rfl⟩
theorem q_X7_sumOfPower_156 : decode M_X7_sumOfPower.2.1 156 = .ok (.ladd, 1) ∧ 156 + 1 = 157 := ⟨dcAll_e (i := 12) da_X7_sumOfPower_2 rfl, rfl⟩
theorem q_X7_sumOfPower_157 : decode M_X7_sumOfPower.2.1 157 = .ok (.lreturn, 1) ∧ 157 + 1 = 158 := ⟨dcAll_e (i := 13) da_X7_sumOfPower_2 rfl, rfl⟩
def dl_X7_enclose_0 : List (Nat × Instr × Nat) := [(0, .aload_n 0, 1), (1, .iconst 0, 1), (2, .putfield 43, 3), (5, .aload_n 0, 1), (6, .iload_n 1, 1), (7, .invokevirtual 102, 3), (10, .ifCond .eq 15, 3), (13, .iload_n 2, 1), (14, .iconst 1, 1), (15, .if_icmp .lt 10, 3), (18, .iload_n 2, 1), (19, .sipush 480, 3), (22, .if_icmp .le 5, 3), (25, .iconst (-1), 1), (26, .ireturn, 1), (27, .aload_n 0, 1), (28, .iload_n 1, 1), (29, .iload_n 2, 1), (30, .invokevirtual 161, 3), (33, .ifCond .ne 6, 3), (36, .bipush (-3), 2), (38, .ireturn, 1), (39, .aload_n 0, 1), (40, .iload_n 1, 1), (41, .invokestatic 112, 3), (44, .bipush 14, 2), (46, .invokevirtual 53, 3), (49, .aload_n 0, 1), (50, .iload_n 1, 1), (51, .invokestatic 112, 3), (54, .iconst 1, 1), (55, .iadd, 1), (56, .bipush 15, 2), (58, .invokevirtual 53, 3), (61, .iconst 1, 1), (62, .ireturn, 1)]
theorem da_X7_enclose_0 : dcAll M_X7_enclose.2.1 dl_X7_enclose_0 = true := by decide +kernel
theorem q_X7_enclose_0 : decode M_X7_enclose.2.1 0 = .ok (.aload_n 0, 1) ∧ 0 + 1 = 1 := ⟨dcAll_e (i := 0) da_X7_enclose_0 rfl, rfl⟩
theorem q_X7_enclose_1 : decode M_X7_enclose.2.1 1 = .ok (.iconst 0, 1) ∧ 1 + 1 = 2 := ⟨dcAll_e (i := 1) da_X7_enclose_0 rfl, rfl⟩
theorem q_X7_enclose_2 : decode M_X7_enclose.2.1 2 = .ok (.putfield 43, 3) ∧ 2 + 3 = 5 := ⟨dcAll_e (i := 2) da_X7_enclose_0 rfl, rfl⟩
theorem q_X7_enclose_5 : decode M_X7_enclose.2.1 5 = .ok (.aload_n 0, 1) ∧ 5 + 1 = 6 := ⟨dcAll_e (i := 3) da_X7_enclose_0 rfl, rfl⟩
theorem q_X7_enclose_6 : decode M_X7_enclose.2.1 6 = .ok (.iload_n 1, 1) ∧ 6 + 1 = 7 := ⟨dcAll_e (i := 4) da_X7_enclose_0 rfl, rfl⟩
theorem q_X7_enclose_7 : decode M_X7_enclose.2.1 7 = .ok (.invokevirtual 102, 3) ∧ 7 + 3 = 10 := ⟨dcAll_e (i := 5) da_X7_enclose_0 rfl, rfl⟩
theorem g_X7_enclose_7 : en_C M_X7_enclose M_X7_isValue 102 1 := ⟨⟨inT4 6 rfl rfl, in_X7, cd_X7_isValue⟩, ⟨by decide, by decide, by decide +kernel⟩, by decide, by decide⟩
theorem q_X7_enclose_10 : decode M_X7_enclose.2.1 10 = .ok (.ifCond .eq 15, 3) ∧ 10 + 3 = 13 ∧ ((10 : Nat) : Int) + 15 = ((25 : Nat) : Int) := ⟨dcAll_e (i := 6) da_X7_enclose_0 rfl, rfl, rfl⟩
theorem q_X7_enclose_13 : decode M_X7_enclose.2.1 13 = .ok (.iload_n 2, 1) ∧ 13 + 1 = 14 := ⟨dcAll_e (i := 7) da_X7_enclose_0 rfl, rfl⟩
theorem q_X7_enclose_14 : decode M_X7_enclose.2.1 14 = .ok (.iconst 1, 1) ∧ 14 + 1 = 15 := ⟨dcAll_e (i := 8) da_X7_enclose_0 rfl, rfl⟩
theorem q_X7_enclose_15 : decode M_X7_enclose.2.1 15 = .ok (.if_icmp .lt 10, 3) ∧ 15 + 3 = 18 ∧ ((15 : Nat) : Int) + 10 = ((25 : Nat) : Int) := ⟨dcAll_e (i := 9) da_X7_enclose_0 rfl, rfl, rfl⟩
theorem q_X7_enclose_18 : decode M_X7_enclose.2.1 18 = .ok (.iload_n 2, 1) ∧ 18 + 1 = 19 := ⟨dcAll_e (i := 10) da_X7_enclose_0 rfl, rfl⟩
theorem q_X7_enclose_19 : decode M_X7_enclose.2.1 19 = .ok (.sipush 480, 3) ∧ 19 + 3 = 22 := ⟨dcAll_e (i := 11) da_X7_enclose_0 rfl, rfl⟩
theorem q_X7_enclose_22 : decode M_X7_enclose.2.1 22 = .ok (.if_icmp .le 5, 3) ∧ 22 + 3 = 25 ∧ ((22 : Nat) : Int) + 5 = ((27 : Nat) : Int) := ⟨dcAll_e (i := 12) da_X7_enclose_0 rfl, rfl, rfl⟩
theorem q_X7_enclose_25 : decode M_X7_enclose.2.1 25 = .ok (.iconst (-1), 1) ∧ 25 + 1 = 26 := ⟨dcAll_e (i := 13) da_X7_enclose_0 rfl, rfl⟩
theorem q_X7_enclose_26 : decode M_X7_enclose.2.1 26 = .ok (.ireturn, 1) ∧ 26 + 1 = 27 := ⟨dcAll_e (i := 14) da_X7_enclose_0 rfl, rfl⟩
theorem q_X7_enclose_27 : decode M_X7_enclose.2.1 27 = .ok (.aload_n 0, 1) ∧ 27 + 1 = 28 := ⟨dcAll_e (i := 15) da_X7_enclose_0 rfl, rfl⟩
theorem q_X7_enclose_28 : decode M_X7_enclose.2.1 28 = .ok (.iload_n 1, 1) ∧ 28 + 1 = 29 := ⟨dcAll_e (i := 16) da_X7_enclose_0 rfl, rfl⟩
theorem q_X7_enclose_29 : decode M_X7_enclose.2.1 29 = .ok (.iload_n 2, 1) ∧ 29 + 1 = 30 := ⟨dcAll_e (i := 17) da_X7_enclose_0 rfl, rfl⟩
theorem q_X7_enclose_30 : decode M_X7_enclose.2.1 30 = .ok (.invokevirtual 161, 3) ∧ 30 + 3 = 33 := ⟨dcAll_e (i := 18) da_X7_enclose_0 rfl, rfl⟩
theorem cd_X7_isEnclosed : Cond.code M_X7_isEnclosed.1 M_X7_isEnclosed.2.1 M_X7_isEnclosed.2.2.1 M_X7_isEnclosed.2.2.2.1 ∈ en_tbl := inT4 29 rfl rfl
theorem g_X7_enclose_30 : en_C M_X7_enclose M_X7_isEnclosed 161 2 := ⟨⟨inT4 26 rfl rfl, in_X7, cd_X7_isEnclosed⟩, ⟨by decide, by decide, by decide +kernel⟩, by decide, by decide⟩
theorem w_X7_isEnclosed : Cond.instanceMethod M_X7_isEnclosed.1 ∈ en_tbl ∧ Cond.selects M_X7_isEnclosed.1.cls M_X7_isEnclosed.1 M_X7_isEnclosed.1 ∈ en_tbl := ⟨inT4 28 rfl rfl, by decide +kernel⟩
theorem q_X7_enclose_33 : decode M_X7_enclose.2.1 33 = .ok (.ifCond .ne 6, 3) ∧ 33 + 3 = 36 ∧ ((33 : Nat) : Int) + 6 = ((39 : Nat) : Int) := ⟨dcAll_e (i := 19) da_X7_enclose_0 rfl, rfl, rfl⟩
theorem q_X7_enclose_36 : decode M_X7_enclose.2.1 36 = .ok (.bipush (-3), 2) ∧ 36 + 2 = 38 := ⟨dcAll_e (i := 20) da_X7_enclose_0 rfl, rfl⟩
theorem q_X7_enclose_38 : decode M_X7_enclose.2.1 38 = .ok (.ireturn, 1) ∧ 38 + 1 = 39 := ⟨dcAll_e (i := 21) da_X7_enclose_0 rfl, rfl⟩
theorem q_X7_enclose_39 : decode M_X7_enclose.2.1 39 = .ok (.aload_n 0, 1) ∧ 39 + 1 = 40 := ⟨dcAll_e (i := 22) da_X7_enclose_0 rfl, rfl⟩
theorem q_X7_enclose_40 : decode M_X7_enclose.2.1 40 = .ok (.iload_n 1, 1) ∧ 40 + 1 = 41 := ⟨dcAll_e (i := 23) da_X7_enclose_0 rfl, rfl⟩
theorem q_X7_enclose_41 : decode M_X7_enclose.2.1 41 = .ok (.invokestatic 112, 3) ∧ 41 + 3 = 44 := ⟨dcAll_e (i := 24) da_X7_enclose_0 rfl, rfl⟩
theorem g_X7_enclose_41 : en_C M_X7_enclose M_X7_low 112 1 := ⟨⟨inT4 38 rfl rfl, in_X7, cd_X7_low⟩, ⟨by decide, by decide, by decide +kernel⟩, by decide, by decide⟩
theorem q_X7_enclose_44 : decode M_X7_enclose.2.1 44 = .ok (.bipush 14, 2) ∧ 44 + 2 = 46 := ⟨dcAll_e (i := 25) da_X7_enclose_0 rfl, rfl⟩
theorem q_X7_enclose_46 : decode M_X7_enclose.2.1 46 = .ok (.invokevirtual 53, 3) ∧ 46 + 3 = 49 := ⟨dcAll_e (i := 26) da_X7_enclose_0 rfl, rfl⟩
theorem g_X7_enclose_46 : en_C M_X7_enclose M_X7_copyTo 53 2 := ⟨⟨inT4 58 rfl rfl, in_X7, cd_X7_copyTo⟩, ⟨by decide, by decide, by decide +kernel⟩, by decide, by decide⟩
theorem q_X7_enclose_49 : decode M_X7_enclose.2.1 49 = .ok (.aload_n 0, 1) ∧ 49 + 1 = 50 := ⟨dcAll_e (i := 27) da_X7_enclose_0 rfl, rfl⟩
theorem q_X7_enclose_50 : decode M_X7_enclose.2.1 50 = .ok (.iload_n 1, 1) ∧ 50 + 1 = 51 := ⟨dcAll_e (i := 28) da_X7_enclose_0 rfl, rfl⟩
theorem q_X7_enclose_51 : decode M_X7_enclose.2.1 51 = .ok (.invokestatic 112, 3) ∧ 51 + 3 = 54 := ⟨dcAll_e (i := 29) da_X7_enclose_0 rfl, rfl⟩
theorem g_X7_enclose_51 : en_C M_X7_enclose M_X7_low 112 1 := ⟨⟨inT4 38 rfl rfl, in_X7, cd_X7_low⟩, ⟨by decide, by decide, by decide +kernel⟩, by decide, by decide⟩
theorem q_X7_enclose_54 : decode M_X7_enclose.2.1 54 = .ok (.iconst 1, 1) ∧ 54 + 1 = 55 := ⟨dcAll_e (i := 30) da_X7_enclose_0 rfl, rfl⟩
theorem q_X7_enclose_55 : decode M_X7_enclose.2.1 55 = .ok (.iadd, 1) ∧ 55 + 1 = 56 := ⟨dcAll_e (i := 31) da_X7_enclose_0 rfl, rfl⟩
theorem q_X7_enclose_56 : decode M_X7_enclose.2.1 56 = .ok (.bipush 15, 2) ∧ 56 + 2 = 58 := ⟨dcAll_e (i := 32) da_X7_enclose_0 rfl, rfl⟩
theorem q_X7_enclose_58 : decode M_X7_enclose.2.1 58 = .ok (.invokevirtual 53, 3) ∧ 58 + 3 = 61 := ⟨dcAll_e (i := 33) da_X7_enclose_0 rfl, rfl⟩
theorem g_X7_enclose_58 : en_C M_X7_enclose M_X7_copyTo 53 2 := ⟨⟨inT4 58 rfl rfl, in_X7, cd_X7_copyTo⟩, ⟨by decide, by decide, by decide +kernel⟩, by decide, by decide⟩
theorem q_X7_enclose_61 : decode M_X7_enclose.2.1 61 = .ok (.iconst 1, 1) ∧ 61 + 1 = 62 := ⟨dcAll_e (i := 34) da_X7_enclose_0 rfl, rfl⟩
theorem q_X7_enclose_62 : decode M_X7_enclose.2.1 62 = .ok (.ireturn, 1) ∧ 62 + 1 = 63 := ⟨dcAll_e (i := 35) da_X7_enclose_0 rfl, rfl⟩
def dl_X7_bound_0 : List (Nat × Instr × Nat) := [(0, .aload_n 0, 1), (1, .iconst 0, 1), (2, .putfield 43, 3), (5, .iload_n 1, 1), (6, .ifCond .lt 13, 3), (9, .iload_n 1, 1), (10, .iconst 1, 1), (11, .if_icmp .gt 8, 3), (14, .iload_n 2, 1), (15, .iconst (-1), 1), (16, .if_icmp .ge 5, 3), (19, .iconst (-1), 1), (20, .ireturn, 1), (21, .iload_n 2, 1), (22, .ifCond .ge 15, 3), (25, .aload_n 0, 1), (26, .getfield 17, 3), (29, .bipush 14, 2), (31, .iload_n 1, 1), (32, .iadd, 1), (33, .iaload, 1), (34, .goto 12, 3), (37, .aload_n 0, 1), (38, .bipush 14, 2), (40, .iload_n 1, 1), (41, .iadd, 1), (42, .iload_n 2, 1), (43, .invokevirtual 164, 3), (46, .ireturn, 1)]
theorem da_X7_bound_0 : dcAll M_X7_bound.2.1 dl_X7_bound_0 = true := by decide +kernel
theorem q_X7_bound_0 : decode M_X7_bound.2.1 0 = .ok (.aload_n 0, 1) ∧ 0 + 1 = 1 := ⟨dcAll_e (i := 0) da_X7_bound_0 rfl, rfl⟩
theorem q_X7_bound_1 : decode M_X7_bound.2.1 1 = .ok (.iconst 0, 1) ∧ 1 + 1 = 2 := ⟨dcAll_e (i := 1) da_X7_bound_0 rfl, rfl⟩
theorem q_X7_bound_2 : decode M_X7_bound.2.1 2 = .ok (.putfield 43, 3) ∧ 2 + 3 = 5 := ⟨dcAll_e (i := 2) da_X7_bound_0 rfl, rfl⟩
theorem q_X7_bound_5 : decode M_X7_bound.2.1 5 = .ok (.iload_n 1, 1) ∧ 5 + 1 = 6 := ⟨dcAll_e (i := 3) da_X7_bound_0 rfl, rfl⟩
theorem q_X7_bound_6 : decode M_X7_bound.2.1 6 = .ok (.ifCond .lt 13, 3) ∧ 6 + 3 = 9 ∧ ((6 : Nat) : Int) + 13 = ((19 : Nat) : Int) := ⟨dcAll_e (i := 4) da_X7_bound_0 rfl, rfl, rfl⟩
theorem q_X7_bound_9 : decode M_X7_bound.2.1 9 = .ok (.iload_n 1, 1) ∧ 9 + 1 = 10 := ⟨dcAll_e (i := 5) da_X7_bound_0 rfl, rfl⟩
theorem q_X7_bound_10 : decode M_X7_bound.2.1 10 = .ok (.iconst 1, 1) ∧ 10 + 1 = 11 := ⟨dcAll_e (i := 6) da_X7_bound_0 rfl, rfl⟩
theorem q_X7_bound_11 : decode M_X7_bound.2.1 11 = .ok (.if_icmp .gt 8, 3) ∧ 11 + 3 = 14 ∧ ((11 : Nat) : Int) + 8 = ((19 : Nat) : Int) := ⟨dcAll_e (i := 7) da_X7_bound_0 rfl, rfl, rfl⟩
theorem q_X7_bound_14 : decode M_X7_bound.2.1 14 = .ok (.iload_n 2, 1) ∧ 14 + 1 = 15 := ⟨dcAll_e (i := 8) da_X7_bound_0 rfl, rfl⟩
theorem q_X7_bound_15 : decode M_X7_bound.2.1 15 = .ok (.iconst (-1), 1) ∧ 15 + 1 = 16 := ⟨dcAll_e (i := 9) da_X7_bound_0 rfl, rfl⟩
theorem q_X7_bound_16 : decode M_X7_bound.2.1 16 = .ok (.if_icmp .ge 5, 3) ∧ 16 + 3 = 19 ∧ ((16 : Nat) : Int) + 5 = ((21 : Nat) : Int) := ⟨dcAll_e (i := 10) da_X7_bound_0 rfl, rfl, rfl⟩
theorem q_X7_bound_19 : decode M_X7_bound.2.1 19 = .ok (.iconst (-1), 1) ∧ 19 + 1 = 20 := ⟨dcAll_e (i := 11) da_X7_bound_0 rfl, rfl⟩
theorem q_X7_bound_20 : decode M_X7_bound.2.1 20 = .ok (.ireturn, 1) ∧ 20 + 1 = 21 := ⟨dcAll_e (i := 12) da_X7_bound_0 rfl, rfl⟩
theorem q_X7_bound_21 : decode M_X7_bound.2.1 21 = .ok (.iload_n 2, 1) ∧ 21 + 1 = 22 := ⟨dcAll_e (i := 13) da_X7_bound_0 rfl, rfl⟩
theorem q_X7_bound_22 : decode M_X7_bound.2.1 22 = .ok (.ifCond .ge 15, 3) ∧ 22 + 3 = 25 ∧ ((22 : Nat) : Int) + 15 = ((37 : Nat) : Int) := ⟨dcAll_e (i := 14) da_X7_bound_0 rfl, rfl, rfl⟩
theorem q_X7_bound_25 : decode M_X7_bound.2.1 25 = .ok (.aload_n 0, 1) ∧ 25 + 1 = 26 := ⟨dcAll_e (i := 15) da_X7_bound_0 rfl, rfl⟩
theorem q_X7_bound_26 : decode M_X7_bound.2.1 26 = .ok (.getfield 17, 3) ∧ 26 + 3 = 29 := ⟨dcAll_e (i := 16) da_X7_bound_0 rfl, rfl⟩
theorem q_X7_bound_29 : decode M_X7_bound.2.1 29 = .ok (.bipush 14, 2) ∧ 29 + 2 = 31 := ⟨dcAll_e (i := 17) da_X7_bound_0 rfl, rfl⟩
theorem q_X7_bound_31 : decode M_X7_bound.2.1 31 = .ok (.iload_n 1, 1) ∧ 31 + 1 = 32 := ⟨dcAll_e (i := 18) da_X7_bound_0 rfl, rfl⟩
theorem q_X7_bound_32 : decode M_X7_bound.2.1 32 = .ok (.iadd, 1) ∧ 32 + 1 = 33 := ⟨dcAll_e (i := 19) da_X7_bound_0 rfl, rfl⟩
theorem q_X7_bound_33 : decode M_X7_bound.2.1 33 = .ok (.iaload, 1) ∧ 33 + 1 = 34 := ⟨dcAll_e (i := 20) da_X7_bound_0 rfl, rfl⟩
theorem q_X7_bound_34 : decode M_X7_bound.2.1 34 = .ok (.goto 12, 3) ∧ 34 + 3 = 37 ∧ ((34 : Nat) : Int) + 12 = ((46 : Nat) : Int) := ⟨dcAll_e (i := 21) da_X7_bound_0 rfl, rfl, rfl⟩
theorem q_X7_bound_37 : decode M_X7_bound.2.1 37 = .ok (.aload_n 0, 1) ∧ 37 + 1 = 38 := ⟨dcAll_e (i := 22) da_X7_bound_0 rfl, rfl⟩
theorem q_X7_bound_38 : decode M_X7_bound.2.1 38 = .ok (.bipush 14, 2) ∧ 38 + 2 = 40 := ⟨dcAll_e (i := 23) da_X7_bound_0 rfl, rfl⟩
theorem q_X7_bound_40 : decode M_X7_bound.2.1 40 = .ok (.iload_n 1, 1) ∧ 40 + 1 = 41 := ⟨dcAll_e (i := 24) da_X7_bound_0 rfl, rfl⟩
theorem q_X7_bound_41 : decode M_X7_bound.2.1 41 = .ok (.iadd, 1) ∧ 41 + 1 = 42 := ⟨dcAll_e (i := 25) da_X7_bound_0 rfl, rfl⟩
theorem q_X7_bound_42 : decode M_X7_bound.2.1 42 = .ok (.iload_n 2, 1) ∧ 42 + 1 = 43 := ⟨dcAll_e (i := 26) da_X7_bound_0 rfl, rfl⟩
theorem q_X7_bound_43 : decode M_X7_bound.2.1 43 = .ok (.invokevirtual 164, 3) ∧ 43 + 3 = 46 := ⟨dcAll_e (i := 27) da_X7_bound_0 rfl, rfl⟩
theorem cd_X7_digitOf : Cond.code M_X7_digitOf.1 M_X7_digitOf.2.1 M_X7_digitOf.2.2.1 M_X7_digitOf.2.2.2.1 ∈ en_tbl := inT4 142 rfl rfl
theorem g_X7_bound_43 : en_C M_X7_bound M_X7_digitOf 164 2 := ⟨⟨inT4 139 rfl rfl, in_X7, cd_X7_digitOf⟩, ⟨by decide, by decide, by decide +kernel⟩, by decide, by decide⟩
theorem w_X7_digitOf : Cond.instanceMethod M_X7_digitOf.1 ∈ en_tbl ∧ Cond.selects M_X7_digitOf.1.cls M_X7_digitOf.1 M_X7_digitOf.1 ∈ en_tbl := ⟨inT4 141 rfl rfl, by decide +kernel⟩
theorem q_X7_bound_46 : decode M_X7_bound.2.1 46 = .ok (.ireturn, 1) ∧ 46 + 1 = 47 := ⟨dcAll_e (i := 28) da_X7_bound_0 rfl, rfl⟩
def dl_X7_digits_0 : List (Nat × Instr × Nat) := [(0, .aload_n 0, 1), (1, .iconst 0, 1), (2, .putfield 43, 3), (5, .aload_n 0, 1), (6, .iload_n 1, 1), (7, .invokevirtual 102, 3), (10, .ifCond .eq 14, 3), (13, .iload_n 2, 1), (14, .ifCond .lt 10, 3), (17, .iload_n 2, 1), (18, .sipush 400, 3), (21, .if_icmp .le 5, 3), (24, .iconst (-1), 1), (25, .ireturn, 1), (26, .aload_n 0, 1), (27, .iconst 0, 1), (28, .putfield 167, 3), (31, .iload_n 2, 1), (32, .bipush 10, 2), (34, .iadd, 1), (35, .istore_n 3, 1), (36, .iload_n 3, 1), (37, .sipush 480, 3), (40, .if_icmp .gt 76, 3), (43, .aload_n 0, 1), (44, .getfield 167, 3), (47, .ifCond .ne 69, 3), (50, .aload_n 0, 1), (51, .iload_n 1, 1), (52, .iload_n 3, 1), (53, .invokevirtual 161, 3), (56, .ifCond .eq 53, 3), (59, .aload_n 0, 1), (60, .iconst 0, 1), (61, .iload_n 3, 1), (62, .iload_n 2, 1), (63, .isub, 1), (64, .invokevirtual 109, 3), (67, .aload_n 0, 1), (68, .iconst 1, 1)]
theorem da_X7_digits_0 : dcAll M_X7_digits.2.1 dl_X7_digits_0 = true := by decide +kernel
def dl_X7_digits_1 : List (Nat × Instr × Nat) := [(69, .iload_n 1, 1), (70, .invokestatic 112, 3), (73, .iconst 0, 1), (74, .iconst 0, 1), (75, .invokevirtual 126, 3), (78, .aload_n 0, 1), (79, .iconst 2, 1), (80, .iload_n 1, 1), (81, .invokestatic 112, 3), (84, .iconst 1, 1), (85, .iadd, 1), (86, .iconst 0, 1), (87, .iconst 0, 1), (88, .invokevirtual 126, 3), (91, .aload_n 0, 1), (92, .aload_n 0, 1), (93, .iconst 1, 1), (94, .iconst 2, 1), (95, .invokevirtual 143, 3), (98, .ifCond .ne 7, 3), (101, .iload_n 3, 1), (102, .goto 4, 3), (105, .iconst 0, 1), (106, .putfield 167, 3), (109, .iconst 2, 1), (110, .iload_n 3, 1), (111, .imul, 1), (112, .istore_n 3, 1), (113, .goto (-77), 3), (116, .aload_n 0, 1), (117, .getfield 167, 3), (120, .ifCond .ne 6, 3), (123, .bipush (-3), 2), (125, .ireturn, 1), (126, .aload_n 0, 1), (127, .iconst 1, 1), (128, .bipush 13, 2), (130, .invokevirtual 53, 3), (133, .aload_n 0, 1), (134, .iconst 1, 1)]
theorem da_X7_digits_1 : dcAll M_X7_digits.2.1 dl_X7_digits_1 = true := by decide +kernel
def dl_X7_digits_2 : List (Nat × Instr × Nat) := [(135, .putfield 170, 3), (138, .aload_n 0, 1), (139, .getfield 17, 3), (142, .bipush 13, 2), (144, .iaload, 1), (145, .ifCond .ge 7, 3), (148, .iconst 0, 1), (149, .goto 4, 3), (152, .iconst 1, 1), (153, .ireturn, 1)]
theorem da_X7_digits_2 : dcAll M_X7_digits.2.1 dl_X7_digits_2 = true := by decide +kernel
theorem q_X7_digits_0 : decode M_X7_digits.2.1 0 = .ok (.aload_n 0, 1) ∧ 0 + 1 = 1 := ⟨dcAll_e (i := 0) da_X7_digits_0 rfl, rfl⟩
theorem q_X7_digits_1 : decode M_X7_digits.2.1 1 = .ok (.iconst 0, 1) ∧ 1 + 1 = 2 := ⟨dcAll_e (i := 1) da_X7_digits_0 rfl, rfl⟩
theorem q_X7_digits_2 : decode M_X7_digits.2.1 2 = .ok (.putfield 43, 3) ∧ 2 + 3 = 5 := ⟨dcAll_e (i := 2) da_X7_digits_0 rfl, rfl⟩
theorem q_X7_digits_5 : decode M_X7_digits.2.1 5 = .ok (.aload_n 0, 1) ∧ 5 + 1 = 6 := ⟨dcAll_e (i := 3) da_X7_digits_0 rfl, rfl⟩
theorem q_X7_digits_6 : decode M_X7_digits.2.1 6 = .ok (.iload_n 1, 1) ∧ 6 + 1 = 7 := ⟨dcAll_e (i := 4) da_X7_digits_0 rfl, rfl⟩
theorem q_X7_digits_7 : decode M_X7_digits.2.1 7 = .ok (.invokevirtual 102, 3) ∧ 7 + 3 = 10 := ⟨dcAll_e (i := 5) da_X7_digits_0 rfl, rfl⟩
theorem g_X7_digits_7 : en_C M_X7_digits M_X7_isValue 102 1 := ⟨⟨inT4 6 rfl rfl, in_X7, cd_X7_isValue⟩, ⟨by decide, by decide, by decide +kernel⟩, by decide, by decide⟩
theorem q_X7_digits_10 : decode M_X7_digits.2.1 10 = .ok (.ifCond .eq 14, 3) ∧ 10 + 3 = 13 ∧ ((10 : Nat) : Int) + 14 = ((24 : Nat) : Int) := ⟨dcAll_e (i := 6) da_X7_digits_0 rfl, rfl, rfl⟩
theorem q_X7_digits_13 : decode M_X7_digits.2.1 13 = .ok (.iload_n 2, 1) ∧ 13 + 1 = 14 := ⟨dcAll_e (i := 7) da_X7_digits_0 rfl, rfl⟩
theorem q_X7_digits_14 : decode M_X7_digits.2.1 14 = .ok (.ifCond .lt 10, 3) ∧ 14 + 3 = 17 ∧ ((14 : Nat) : Int) + 10 = ((24 : Nat) : Int) := ⟨dcAll_e (i := 8) da_X7_digits_0 rfl, rfl, rfl⟩
theorem q_X7_digits_17 : decode M_X7_digits.2.1 17 = .ok (.iload_n 2, 1) ∧ 17 + 1 = 18 := ⟨dcAll_e (i := 9) da_X7_digits_0 rfl, rfl⟩
theorem q_X7_digits_18 : decode M_X7_digits.2.1 18 = .ok (.sipush 400, 3) ∧ 18 + 3 = 21 := ⟨dcAll_e (i := 10) da_X7_digits_0 rfl, rfl⟩
theorem q_X7_digits_21 : decode M_X7_digits.2.1 21 = .ok (.if_icmp .le 5, 3) ∧ 21 + 3 = 24 ∧ ((21 : Nat) : Int) + 5 = ((26 : Nat) : Int) := ⟨dcAll_e (i := 11) da_X7_digits_0 rfl, rfl, rfl⟩
theorem q_X7_digits_24 : decode M_X7_digits.2.1 24 = .ok (.iconst (-1), 1) ∧ 24 + 1 = 25 := ⟨dcAll_e (i := 12) da_X7_digits_0 rfl, rfl⟩
theorem q_X7_digits_25 : decode M_X7_digits.2.1 25 = .ok (.ireturn, 1) ∧ 25 + 1 = 26 := ⟨dcAll_e (i := 13) da_X7_digits_0 rfl, rfl⟩
theorem q_X7_digits_26 : decode M_X7_digits.2.1 26 = .ok (.aload_n 0, 1) ∧ 26 + 1 = 27 := ⟨dcAll_e (i := 14) da_X7_digits_0 rfl, rfl⟩
theorem q_X7_digits_27 : decode M_X7_digits.2.1 27 = .ok (.iconst 0, 1) ∧ 27 + 1 = 28 := ⟨dcAll_e (i := 15) da_X7_digits_0 rfl, rfl⟩
theorem q_X7_digits_28 : decode M_X7_digits.2.1 28 = .ok (.putfield 167, 3) ∧ 28 + 3 = 31 := ⟨dcAll_e (i := 16) da_X7_digits_0 rfl, rfl⟩
theorem p_RX7_167 : en_Fp RX7 167 7 13 false .int := ⟨RX7, TX7, 15, tyX7, rfl, by decide, rfl, inT3 180 rfl rfl, uw_X7, tyX7_ok, nmX7, rfl, by decide +kernel⟩
theorem q_X7_digits_31 : decode M_X7_digits.2.1 31 = .ok (.iload_n 2, 1) ∧ 31 + 1 = 32 := ⟨dcAll_e (i := 17) da_X7_digits_0 rfl, rfl⟩
theorem q_X7_digits_32 : decode M_X7_digits.2.1 32 = .ok (.bipush 10, 2) ∧ 32 + 2 = 34 := ⟨dcAll_e (i := 18) da_X7_digits_0 rfl, rfl⟩
theorem q_X7_digits_34 : decode M_X7_digits.2.1 34 = .ok (.iadd, 1) ∧ 34 + 1 = 35 := ⟨dcAll_e (i := 19) da_X7_digits_0 rfl, rfl⟩
theorem q_X7_digits_35 : decode M_X7_digits.2.1 35 = .ok (.istore_n 3, 1) ∧ 35 + 1 = 36 := ⟨dcAll_e (i := 20) da_X7_digits_0 rfl, rfl⟩
theorem q_X7_digits_36 : decode M_X7_digits.2.1 36 = .ok (.iload_n 3, 1) ∧ 36 + 1 = 37 := ⟨dcAll_e (i := 21) da_X7_digits_0 rfl, rfl⟩
theorem q_X7_digits_37 : decode M_X7_digits.2.1 37 = .ok (.sipush 480, 3) ∧ 37 + 3 = 40 := ⟨dcAll_e (i := 22) da_X7_digits_0 rfl, rfl⟩
theorem q_X7_digits_40 : decode M_X7_digits.2.1 40 = .ok (.if_icmp .gt 76, 3) ∧ 40 + 3 = 43 ∧ ((40 : Nat) : Int) + 76 = ((116 : Nat) : Int) := ⟨dcAll_e (i := 23) da_X7_digits_0 rfl, rfl, rfl⟩
theorem q_X7_digits_43 : decode M_X7_digits.2.1 43 = .ok (.aload_n 0, 1) ∧ 43 + 1 = 44 := ⟨dcAll_e (i := 24) da_X7_digits_0 rfl, rfl⟩
theorem q_X7_digits_44 : decode M_X7_digits.2.1 44 = .ok (.getfield 167, 3) ∧ 44 + 3 = 47 := ⟨dcAll_e (i := 25) da_X7_digits_0 rfl, rfl⟩
theorem f_RX7_167 : en_F RX7 167 7 13 := ⟨RX7, TX7, 15, rfl, by decide, rfl, inT3 180 rfl rfl, uw_X7⟩
theorem q_X7_digits_47 : decode M_X7_digits.2.1 47 = .ok (.ifCond .ne 69, 3) ∧ 47 + 3 = 50 ∧ ((47 : Nat) : Int) + 69 = ((116 : Nat) : Int) := ⟨dcAll_e (i := 26) da_X7_digits_0 rfl, rfl, rfl⟩
theorem q_X7_digits_50 : decode M_X7_digits.2.1 50 = .ok (.aload_n 0, 1) ∧ 50 + 1 = 51 := ⟨dcAll_e (i := 27) da_X7_digits_0 rfl, rfl⟩
theorem q_X7_digits_51 : decode M_X7_digits.2.1 51 = .ok (.iload_n 1, 1) ∧ 51 + 1 = 52 := ⟨dcAll_e (i := 28) da_X7_digits_0 rfl, rfl⟩
theorem q_X7_digits_52 : decode M_X7_digits.2.1 52 = .ok (.iload_n 3, 1) ∧ 52 + 1 = 53 := ⟨dcAll_e (i := 29) da_X7_digits_0 rfl, rfl⟩
theorem q_X7_digits_53 : decode M_X7_digits.2.1 53 = .ok (.invokevirtual 161, 3) ∧ 53 + 3 = 56 := ⟨dcAll_e (i := 30) da_X7_digits_0 rfl, rfl⟩
theorem g_X7_digits_53 : en_C M_X7_digits M_X7_isEnclosed 161 2 := ⟨⟨inT4 26 rfl rfl, in_X7, cd_X7_isEnclosed⟩, ⟨by decide, by decide, by decide +kernel⟩, by decide, by decide⟩
theorem q_X7_digits_56 : decode M_X7_digits.2.1 56 = .ok (.ifCond .eq 53, 3) ∧ 56 + 3 = 59 ∧ ((56 : Nat) : Int) + 53 = ((109 : Nat) : Int) := ⟨dcAll_e (i := 31) da_X7_digits_0 rfl, rfl, rfl⟩
theorem q_X7_digits_59 : decode M_X7_digits.2.1 59 = .ok (.aload_n 0, 1) ∧ 59 + 1 = 60 := ⟨dcAll_e (i := 32) da_X7_digits_0 rfl, rfl⟩
theorem q_X7_digits_60 : decode M_X7_digits.2.1 60 = .ok (.iconst 0, 1) ∧ 60 + 1 = 61 := ⟨dcAll_e (i := 33) da_X7_digits_0 rfl, rfl⟩
theorem q_X7_digits_61 : decode M_X7_digits.2.1 61 = .ok (.iload_n 3, 1) ∧ 61 + 1 = 62 := ⟨dcAll_e (i := 34) da_X7_digits_0 rfl, rfl⟩
theorem q_X7_digits_62 : decode M_X7_digits.2.1 62 = .ok (.iload_n 2, 1) ∧ 62 + 1 = 63 := ⟨dcAll_e (i := 35) da_X7_digits_0 rfl, rfl⟩
theorem q_X7_digits_63 : decode M_X7_digits.2.1 63 = .ok (.isub, 1) ∧ 63 + 1 = 64 := ⟨dcAll_e (i := 36) da_X7_digits_0 rfl, rfl⟩
theorem q_X7_digits_64 : decode M_X7_digits.2.1 64 = .ok (.invokevirtual 109, 3) ∧ 64 + 3 = 67 := ⟨dcAll_e (i := 37) da_X7_digits_0 rfl, rfl⟩
theorem g_X7_digits_64 : en_C M_X7_digits M_X7_powerOfTen 109 2 := ⟨⟨inT4 34 rfl rfl, in_X7, cd_X7_powerOfTen⟩, ⟨by decide, by decide, by decide +kernel⟩, by decide, by decide⟩
theorem q_X7_digits_67 : decode M_X7_digits.2.1 67 = .ok (.aload_n 0, 1) ∧ 67 + 1 = 68 := ⟨dcAll_e (i := 38) da_X7_digits_0 rfl, rfl⟩
theorem q_X7_digits_68 : decode M_X7_digits.2.1 68 = .ok (.iconst 1, 1) ∧ 68 + 1 = 69 := ⟨dcAll_e (i := 39) da_X7_digits_0 rfl, rfl⟩
theorem q_X7_digits_69 : decode M_X7_digits.2.1 69 = .ok (.iload_n 1, 1) ∧ 69 + 1 = 70 := ⟨dcAll_e (i := 0) da_X7_digits_1 rfl, rfl⟩
theorem q_X7_digits_70 : decode M_X7_digits.2.1 70 = .ok (.invokestatic 112, 3) ∧ 70 + 3 = 73 := ⟨dcAll_e (i := 1) da_X7_digits_1 rfl, rfl⟩
theorem g_X7_digits_70 : en_C M_X7_digits M_X7_low 112 1 := ⟨⟨inT4 38 rfl rfl, in_X7, cd_X7_low⟩, ⟨by decide, by decide, by decide +kernel⟩, by decide, by decide⟩
theorem q_X7_digits_73 : decode M_X7_digits.2.1 73 = .ok (.iconst 0, 1) ∧ 73 + 1 = 74 := ⟨dcAll_e (i := 2) da_X7_digits_1 rfl, rfl⟩
theorem q_X7_digits_74 : decode M_X7_digits.2.1 74 = .ok (.iconst 0, 1) ∧ 74 + 1 = 75 := ⟨dcAll_e (i := 3) da_X7_digits_1 rfl, rfl⟩
theorem q_X7_digits_75 : decode M_X7_digits.2.1 75 = .ok (.invokevirtual 126, 3) ∧ 75 + 3 = 78 := ⟨dcAll_e (i := 4) da_X7_digits_1 rfl, rfl⟩
theorem g_X7_digits_75 : en_C M_X7_digits M_X7_rounded 126 4 := ⟨⟨inT4 62 rfl rfl, in_X7, cd_X7_rounded⟩, ⟨by decide, by decide, by decide +kernel⟩, by decide, by decide⟩
theorem q_X7_digits_78 : decode M_X7_digits.2.1 78 = .ok (.aload_n 0, 1) ∧ 78 + 1 = 79 := ⟨dcAll_e (i := 5) da_X7_digits_1 rfl, rfl⟩
theorem q_X7_digits_79 : decode M_X7_digits.2.1 79 = .ok (.iconst 2, 1) ∧ 79 + 1 = 80 := ⟨dcAll_e (i := 6) da_X7_digits_1 rfl, rfl⟩
theorem q_X7_digits_80 : decode M_X7_digits.2.1 80 = .ok (.iload_n 1, 1) ∧ 80 + 1 = 81 := ⟨dcAll_e (i := 7) da_X7_digits_1 rfl, rfl⟩
theorem q_X7_digits_81 : decode M_X7_digits.2.1 81 = .ok (.invokestatic 112, 3) ∧ 81 + 3 = 84 := ⟨dcAll_e (i := 8) da_X7_digits_1 rfl, rfl⟩
theorem g_X7_digits_81 : en_C M_X7_digits M_X7_low 112 1 := ⟨⟨inT4 38 rfl rfl, in_X7, cd_X7_low⟩, ⟨by decide, by decide, by decide +kernel⟩, by decide, by decide⟩
theorem q_X7_digits_84 : decode M_X7_digits.2.1 84 = .ok (.iconst 1, 1) ∧ 84 + 1 = 85 := ⟨dcAll_e (i := 9) da_X7_digits_1 rfl, rfl⟩
theorem q_X7_digits_85 : decode M_X7_digits.2.1 85 = .ok (.iadd, 1) ∧ 85 + 1 = 86 := ⟨dcAll_e (i := 10) da_X7_digits_1 rfl, rfl⟩
theorem q_X7_digits_86 : decode M_X7_digits.2.1 86 = .ok (.iconst 0, 1) ∧ 86 + 1 = 87 := ⟨dcAll_e (i := 11) da_X7_digits_1 rfl, rfl⟩
theorem q_X7_digits_87 : decode M_X7_digits.2.1 87 = .ok (.iconst 0, 1) ∧ 87 + 1 = 88 := ⟨dcAll_e (i := 12) da_X7_digits_1 rfl, rfl⟩
theorem q_X7_digits_88 : decode M_X7_digits.2.1 88 = .ok (.invokevirtual 126, 3) ∧ 88 + 3 = 91 := ⟨dcAll_e (i := 13) da_X7_digits_1 rfl, rfl⟩
theorem g_X7_digits_88 : en_C M_X7_digits M_X7_rounded 126 4 := ⟨⟨inT4 62 rfl rfl, in_X7, cd_X7_rounded⟩, ⟨by decide, by decide, by decide +kernel⟩, by decide, by decide⟩
theorem q_X7_digits_91 : decode M_X7_digits.2.1 91 = .ok (.aload_n 0, 1) ∧ 91 + 1 = 92 := ⟨dcAll_e (i := 14) da_X7_digits_1 rfl, rfl⟩
theorem q_X7_digits_92 : decode M_X7_digits.2.1 92 = .ok (.aload_n 0, 1) ∧ 92 + 1 = 93 := ⟨dcAll_e (i := 15) da_X7_digits_1 rfl, rfl⟩
theorem q_X7_digits_93 : decode M_X7_digits.2.1 93 = .ok (.iconst 1, 1) ∧ 93 + 1 = 94 := ⟨dcAll_e (i := 16) da_X7_digits_1 rfl, rfl⟩
theorem q_X7_digits_94 : decode M_X7_digits.2.1 94 = .ok (.iconst 2, 1) ∧ 94 + 1 = 95 := ⟨dcAll_e (i := 17) da_X7_digits_1 rfl, rfl⟩
theorem q_X7_digits_95 : decode M_X7_digits.2.1 95 = .ok (.invokevirtual 143, 3) ∧ 95 + 3 = 98 := ⟨dcAll_e (i := 18) da_X7_digits_1 rfl, rfl⟩
theorem g_X7_digits_95 : en_C M_X7_digits M_X7_compareTo 143 2 := ⟨⟨inT4 115 rfl rfl, in_X7, cd_X7_compareTo⟩, ⟨by decide, by decide, by decide +kernel⟩, by decide, by decide⟩
theorem q_X7_digits_98 : decode M_X7_digits.2.1 98 = .ok (.ifCond .ne 7, 3) ∧ 98 + 3 = 101 ∧ ((98 : Nat) : Int) + 7 = ((105 : Nat) : Int) := ⟨dcAll_e (i := 19) da_X7_digits_1 rfl, rfl, rfl⟩
theorem q_X7_digits_101 : decode M_X7_digits.2.1 101 = .ok (.iload_n 3, 1) ∧ 101 + 1 = 102 := ⟨dcAll_e (i := 20) da_X7_digits_1 rfl, rfl⟩
theorem q_X7_digits_102 : decode M_X7_digits.2.1 102 = .ok (.goto 4, 3) ∧ 102 + 3 = 105 ∧ ((102 : Nat) : Int) + 4 = ((106 : Nat) : Int) := ⟨dcAll_e (i := 21) da_X7_digits_1 rfl, rfl, rfl⟩
theorem q_X7_digits_105 : decode M_X7_digits.2.1 105 = .ok (.iconst 0, 1) ∧ 105 + 1 = 106 := ⟨dcAll_e (i := 22) da_X7_digits_1 rfl, rfl⟩
theorem q_X7_digits_106 : decode M_X7_digits.2.1 106 = .ok (.putfield 167, 3) ∧ 106 + 3 = 109 := ⟨dcAll_e (i := 23) da_X7_digits_1 rfl, rfl⟩
theorem q_X7_digits_109 : decode M_X7_digits.2.1 109 = .ok (.iconst 2, 1) ∧ 109 + 1 = 110 := ⟨dcAll_e (i := 24) da_X7_digits_1 rfl, rfl⟩
theorem q_X7_digits_110 : decode M_X7_digits.2.1 110 = .ok (.iload_n 3, 1) ∧ 110 + 1 = 111 := ⟨dcAll_e (i := 25) da_X7_digits_1 rfl, rfl⟩
theorem q_X7_digits_111 : decode M_X7_digits.2.1 111 = .ok (.imul, 1) ∧ 111 + 1 = 112 := ⟨dcAll_e (i := 26) da_X7_digits_1 rfl, rfl⟩
theorem q_X7_digits_112 : decode M_X7_digits.2.1 112 = .ok (.istore_n 3, 1) ∧ 112 + 1 = 113 := ⟨dcAll_e (i := 27) da_X7_digits_1 rfl, rfl⟩
theorem q_X7_digits_113 : decode M_X7_digits.2.1 113 = .ok (.goto (-77), 3) ∧ 113 + 3 = 116 ∧ ((113 : Nat) : Int) + (-77) = ((36 : Nat) : Int) := ⟨dcAll_e (i := 28) da_X7_digits_1 rfl, rfl, rfl⟩
theorem q_X7_digits_116 : decode M_X7_digits.2.1 116 = .ok (.aload_n 0, 1) ∧ 116 + 1 = 117 := ⟨dcAll_e (i := 29) da_X7_digits_1 rfl, rfl⟩
theorem q_X7_digits_117 : decode M_X7_digits.2.1 117 = .ok (.getfield 167, 3) ∧ 117 + 3 = 120 := ⟨dcAll_e (i := 30) da_X7_digits_1 rfl, rfl⟩
theorem q_X7_digits_120 : decode M_X7_digits.2.1 120 = .ok (.ifCond .ne 6, 3) ∧ 120 + 3 = 123 ∧ ((120 : Nat) : Int) + 6 = ((126 : Nat) : Int) := ⟨dcAll_e (i := 31) da_X7_digits_1 rfl, rfl, rfl⟩
theorem q_X7_digits_123 : decode M_X7_digits.2.1 123 = .ok (.bipush (-3), 2) ∧ 123 + 2 = 125 := ⟨dcAll_e (i := 32) da_X7_digits_1 rfl, rfl⟩
theorem q_X7_digits_125 : decode M_X7_digits.2.1 125 = .ok (.ireturn, 1) ∧ 125 + 1 = 126 := ⟨dcAll_e (i := 33) da_X7_digits_1 rfl, rfl⟩
theorem q_X7_digits_126 : decode M_X7_digits.2.1 126 = .ok (.aload_n 0, 1) ∧ 126 + 1 = 127 := ⟨dcAll_e (i := 34) da_X7_digits_1 rfl, rfl⟩
theorem q_X7_digits_127 : decode M_X7_digits.2.1 127 = .ok (.iconst 1, 1) ∧ 127 + 1 = 128 := ⟨dcAll_e (i := 35) da_X7_digits_1 rfl, rfl⟩
theorem q_X7_digits_128 : decode M_X7_digits.2.1 128 = .ok (.bipush 13, 2) ∧ 128 + 2 = 130 := ⟨dcAll_e (i := 36) da_X7_digits_1 rfl, rfl⟩
theorem q_X7_digits_130 : decode M_X7_digits.2.1 130 = .ok (.invokevirtual 53, 3) ∧ 130 + 3 = 133 := ⟨dcAll_e (i := 37) da_X7_digits_1 rfl, rfl⟩
theorem g_X7_digits_130 : en_C M_X7_digits M_X7_copyTo 53 2 := ⟨⟨inT4 58 rfl rfl, in_X7, cd_X7_copyTo⟩, ⟨by decide, by decide, by decide +kernel⟩, by decide, by decide⟩
theorem q_X7_digits_133 : decode M_X7_digits.2.1 133 = .ok (.aload_n 0, 1) ∧ 133 + 1 = 134 := ⟨dcAll_e (i := 38) da_X7_digits_1 rfl, rfl⟩
theorem q_X7_digits_134 : decode M_X7_digits.2.1 134 = .ok (.iconst 1, 1) ∧ 134 + 1 = 135 := ⟨dcAll_e (i := 39) da_X7_digits_1 rfl, rfl⟩
theorem q_X7_digits_135 : decode M_X7_digits.2.1 135 = .ok (.putfield 170, 3) ∧ 135 + 3 = 138 := ⟨dcAll_e (i := 0) da_X7_digits_2 rfl, rfl⟩
theorem p_RX7_170 : en_Fp RX7 170 7 10 false .boolean := ⟨RX7, TX7, 15, tyX7, rfl, by decide, rfl, inT3 177 rfl rfl, uw_X7, tyX7_ok, nmX7, rfl, by decide +kernel⟩
theorem q_X7_digits_138 : decode M_X7_digits.2.1 138 = .ok (.aload_n 0, 1) ∧ 138 + 1 = 139 := ⟨dcAll_e (i := 1) da_X7_digits_2 rfl, rfl⟩
theorem q_X7_digits_139 : decode M_X7_digits.2.1 139 = .ok (.getfield 17, 3) ∧ 139 + 3 = 142 := ⟨dcAll_e (i := 2) da_X7_digits_2 rfl, rfl⟩
theorem q_X7_digits_142 : decode M_X7_digits.2.1 142 = .ok (.bipush 13, 2) ∧ 142 + 2 = 144 := ⟨dcAll_e (i := 3) da_X7_digits_2 rfl, rfl⟩
theorem q_X7_digits_144 : decode M_X7_digits.2.1 144 = .ok (.iaload, 1) ∧ 144 + 1 = 145 := ⟨dcAll_e (i := 4) da_X7_digits_2 rfl, rfl⟩
theorem q_X7_digits_145 : decode M_X7_digits.2.1 145 = .ok (.ifCond .ge 7, 3) ∧ 145 + 3 = 148 ∧ ((145 : Nat) : Int) + 7 = ((152 : Nat) : Int) := ⟨dcAll_e (i := 5) da_X7_digits_2 rfl, rfl, rfl⟩
theorem q_X7_digits_148 : decode M_X7_digits.2.1 148 = .ok (.iconst 0, 1) ∧ 148 + 1 = 149 := ⟨dcAll_e (i := 6) da_X7_digits_2 rfl, rfl⟩
theorem q_X7_digits_149 : decode M_X7_digits.2.1 149 = .ok (.goto 4, 3) ∧ 149 + 3 = 152 ∧ ((149 : Nat) : Int) + 4 = ((153 : Nat) : Int) := ⟨dcAll_e (i := 7) da_X7_digits_2 rfl, rfl, rfl⟩
theorem q_X7_digits_152 : decode M_X7_digits.2.1 152 = .ok (.iconst 1, 1) ∧ 152 + 1 = 153 := ⟨dcAll_e (i := 8) da_X7_digits_2 rfl, rfl⟩
theorem q_X7_digits_153 : decode M_X7_digits.2.1 153 = .ok (.ireturn, 1) ∧ 153 + 1 = 154 := ⟨dcAll_e (i := 9) da_X7_digits_2 rfl, rfl⟩
def dl_X7_digit_0 : List (Nat × Instr × Nat) := [(0, .aload_n 0, 1), (1, .iconst 0, 1), (2, .putfield 43, 3), (5, .iload_n 1, 1), (6, .ifCond .ge 7, 3), (9, .iconst (-1), 1), (10, .goto 10, 3), (13, .aload_n 0, 1), (14, .bipush 13, 2), (16, .iload_n 1, 1), (17, .invokevirtual 164, 3), (20, .ireturn, 1)]
theorem da_X7_digit_0 : dcAll M_X7_digit.2.1 dl_X7_digit_0 = true := by decide +kernel
theorem q_X7_digit_0 : decode M_X7_digit.2.1 0 = .ok (.aload_n 0, 1) ∧ 0 + 1 = 1 := ⟨dcAll_e (i := 0) da_X7_digit_0 rfl, rfl⟩
theorem q_X7_digit_1 : decode M_X7_digit.2.1 1 = .ok (.iconst 0, 1) ∧ 1 + 1 = 2 := ⟨dcAll_e (i := 1) da_X7_digit_0 rfl, rfl⟩
theorem q_X7_digit_2 : decode M_X7_digit.2.1 2 = .ok (.putfield 43, 3) ∧ 2 + 3 = 5 := ⟨dcAll_e (i := 2) da_X7_digit_0 rfl, rfl⟩
theorem q_X7_digit_5 : decode M_X7_digit.2.1 5 = .ok (.iload_n 1, 1) ∧ 5 + 1 = 6 := ⟨dcAll_e (i := 3) da_X7_digit_0 rfl, rfl⟩
theorem q_X7_digit_6 : decode M_X7_digit.2.1 6 = .ok (.ifCond .ge 7, 3) ∧ 6 + 3 = 9 ∧ ((6 : Nat) : Int) + 7 = ((13 : Nat) : Int) := ⟨dcAll_e (i := 4) da_X7_digit_0 rfl, rfl, rfl⟩
theorem q_X7_digit_9 : decode M_X7_digit.2.1 9 = .ok (.iconst (-1), 1) ∧ 9 + 1 = 10 := ⟨dcAll_e (i := 5) da_X7_digit_0 rfl, rfl⟩
theorem q_X7_digit_10 : decode M_X7_digit.2.1 10 = .ok (.goto 10, 3) ∧ 10 + 3 = 13 ∧ ((10 : Nat) : Int) + 10 = ((20 : Nat) : Int) := ⟨dcAll_e (i := 6) da_X7_digit_0 rfl, rfl, rfl⟩
theorem q_X7_digit_13 : decode M_X7_digit.2.1 13 = .ok (.aload_n 0, 1) ∧ 13 + 1 = 14 := ⟨dcAll_e (i := 7) da_X7_digit_0 rfl, rfl⟩
theorem q_X7_digit_14 : decode M_X7_digit.2.1 14 = .ok (.bipush 13, 2) ∧ 14 + 2 = 16 := ⟨dcAll_e (i := 8) da_X7_digit_0 rfl, rfl⟩
theorem q_X7_digit_16 : decode M_X7_digit.2.1 16 = .ok (.iload_n 1, 1) ∧ 16 + 1 = 17 := ⟨dcAll_e (i := 9) da_X7_digit_0 rfl, rfl⟩
theorem q_X7_digit_17 : decode M_X7_digit.2.1 17 = .ok (.invokevirtual 164, 3) ∧ 17 + 3 = 20 := ⟨dcAll_e (i := 10) da_X7_digit_0 rfl, rfl⟩
theorem g_X7_digit_17 : en_C M_X7_digit M_X7_digitOf 164 2 := ⟨⟨inT4 139 rfl rfl, in_X7, cd_X7_digitOf⟩, ⟨by decide, by decide, by decide +kernel⟩, by decide, by decide⟩
theorem q_X7_digit_20 : decode M_X7_digit.2.1 20 = .ok (.ireturn, 1) ∧ 20 + 1 = 21 := ⟨dcAll_e (i := 11) da_X7_digit_0 rfl, rfl⟩
def dl_X7_length_0 : List (Nat × Instr × Nat) := [(0, .aload_n 0, 1), (1, .iconst 0, 1), (2, .putfield 43, 3), (5, .aload_n 0, 1), (6, .getfield 170, 3), (9, .ifCond .eq 12, 3), (12, .aload_n 0, 1), (13, .bipush 13, 2), (15, .invokevirtual 120, 3), (18, .goto 4, 3), (21, .iconst 0, 1), (22, .ireturn, 1)]
theorem da_X7_length_0 : dcAll M_X7_length.2.1 dl_X7_length_0 = true := by decide +kernel
theorem q_X7_length_0 : decode M_X7_length.2.1 0 = .ok (.aload_n 0, 1) ∧ 0 + 1 = 1 := ⟨dcAll_e (i := 0) da_X7_length_0 rfl, rfl⟩
theorem q_X7_length_1 : decode M_X7_length.2.1 1 = .ok (.iconst 0, 1) ∧ 1 + 1 = 2 := ⟨dcAll_e (i := 1) da_X7_length_0 rfl, rfl⟩
theorem q_X7_length_2 : decode M_X7_length.2.1 2 = .ok (.putfield 43, 3) ∧ 2 + 3 = 5 := ⟨dcAll_e (i := 2) da_X7_length_0 rfl, rfl⟩
theorem q_X7_length_5 : decode M_X7_length.2.1 5 = .ok (.aload_n 0, 1) ∧ 5 + 1 = 6 := ⟨dcAll_e (i := 3) da_X7_length_0 rfl, rfl⟩
theorem q_X7_length_6 : decode M_X7_length.2.1 6 = .ok (.getfield 170, 3) ∧ 6 + 3 = 9 := ⟨dcAll_e (i := 4) da_X7_length_0 rfl, rfl⟩
theorem f_RX7_170 : en_F RX7 170 7 10 := ⟨RX7, TX7, 15, rfl, by decide, rfl, inT3 177 rfl rfl, uw_X7⟩
theorem q_X7_length_9 : decode M_X7_length.2.1 9 = .ok (.ifCond .eq 12, 3) ∧ 9 + 3 = 12 ∧ ((9 : Nat) : Int) + 12 = ((21 : Nat) : Int) := ⟨dcAll_e (i := 5) da_X7_length_0 rfl, rfl, rfl⟩
theorem q_X7_length_12 : decode M_X7_length.2.1 12 = .ok (.aload_n 0, 1) ∧ 12 + 1 = 13 := ⟨dcAll_e (i := 6) da_X7_length_0 rfl, rfl⟩
theorem q_X7_length_13 : decode M_X7_length.2.1 13 = .ok (.bipush 13, 2) ∧ 13 + 2 = 15 := ⟨dcAll_e (i := 7) da_X7_length_0 rfl, rfl⟩
theorem q_X7_length_15 : decode M_X7_length.2.1 15 = .ok (.invokevirtual 120, 3) ∧ 15 + 3 = 18 := ⟨dcAll_e (i := 8) da_X7_length_0 rfl, rfl⟩
theorem g_X7_length_15 : en_C M_X7_length M_X7_digitsOf 120 1 := ⟨⟨inT4 127 rfl rfl, in_X7, cd_X7_digitsOf⟩, ⟨by decide, by decide, by decide +kernel⟩, by decide, by decide⟩
theorem q_X7_length_18 : decode M_X7_length.2.1 18 = .ok (.goto 4, 3) ∧ 18 + 3 = 21 ∧ ((18 : Nat) : Int) + 4 = ((22 : Nat) : Int) := ⟨dcAll_e (i := 9) da_X7_length_0 rfl, rfl, rfl⟩
theorem q_X7_length_21 : decode M_X7_length.2.1 21 = .ok (.iconst 0, 1) ∧ 21 + 1 = 22 := ⟨dcAll_e (i := 10) da_X7_length_0 rfl, rfl⟩
theorem q_X7_length_22 : decode M_X7_length.2.1 22 = .ok (.ireturn, 1) ∧ 22 + 1 = 23 := ⟨dcAll_e (i := 11) da_X7_length_0 rfl, rfl⟩
def dl_X7_order_0 : List (Nat × Instr × Nat) := [(0, .aload_n 0, 1), (1, .iconst 0, 1), (2, .putfield 43, 3), (5, .aload_n 0, 1), (6, .iload_n 1, 1), (7, .invokevirtual 102, 3), (10, .ifCond .eq 11, 3), (13, .aload_n 0, 1), (14, .iload_n 2, 1), (15, .invokevirtual 102, 3), (18, .ifCond .ne 5, 3), (21, .iconst (-1), 1), (22, .ireturn, 1), (23, .aload_n 0, 1), (24, .iconst 0, 1), (25, .putfield 167, 3), (28, .bipush (-3), 2), (30, .istore_n 3, 1), (31, .bipush 10, 2), (33, .istore 4, 2), (35, .iload 4, 2), (37, .sipush 480, 3), (40, .if_icmp .gt 166, 3), (43, .aload_n 0, 1), (44, .getfield 167, 3), (47, .ifCond .ne 159, 3), (50, .aload_n 0, 1), (51, .iload_n 1, 1), (52, .iload 4, 2), (54, .invokevirtual 161, 3), (57, .ifCond .ne 6, 3), (60, .goto 137, 3), (63, .aload_n 0, 1), (64, .iload_n 1, 1), (65, .invokestatic 112, 3), (68, .bipush 6, 2), (70, .invokevirtual 53, 3), (73, .aload_n 0, 1), (74, .iload_n 1, 1), (75, .invokestatic 112, 3)]
theorem da_X7_order_0 : dcAll M_X7_order.2.1 dl_X7_order_0 = true := by decide +kernel
def dl_X7_order_1 : List (Nat × Instr × Nat) := [(78, .iconst 1, 1), (79, .iadd, 1), (80, .bipush 7, 2), (82, .invokevirtual 53, 3), (85, .aload_n 0, 1), (86, .bipush 6, 2), (88, .bipush 16, 2), (90, .invokevirtual 53, 3), (93, .aload_n 0, 1), (94, .bipush 7, 2), (96, .bipush 17, 2), (98, .invokevirtual 53, 3), (101, .aload_n 0, 1), (102, .iload_n 2, 1), (103, .iload 4, 2), (105, .invokevirtual 161, 3), (108, .ifCond .ne 6, 3), (111, .goto 86, 3), (114, .aload_n 0, 1), (115, .bipush 17, 2), (117, .iload_n 2, 1), (118, .invokestatic 112, 3), (121, .invokevirtual 143, 3), (124, .ifCond .ge 7, 3), (127, .iconst 1, 1), (128, .goto 4, 3), (131, .iconst 0, 1), (132, .istore 5, 2), (134, .aload_n 0, 1), (135, .iload_n 2, 1), (136, .invokestatic 112, 3), (139, .iconst 1, 1), (140, .iadd, 1), (141, .bipush 16, 2), (143, .invokevirtual 143, 3), (146, .ifCond .ge 7, 3), (149, .iconst 1, 1), (150, .goto 4, 3), (153, .iconst 0, 1), (154, .istore 6, 2)]
theorem da_X7_order_1 : dcAll M_X7_order.2.1 dl_X7_order_1 = true := by decide +kernel
def dl_X7_order_2 : List (Nat × Instr × Nat) := [(156, .iload 5, 2), (158, .ifCond .eq 7, 3), (161, .iconst 0, 1), (162, .goto 14, 3), (165, .iload 6, 2), (167, .ifCond .eq 7, 3), (170, .iconst 1, 1), (171, .goto 5, 3), (174, .bipush (-3), 2), (176, .istore_n 3, 1), (177, .aload_n 0, 1), (178, .iload 5, 2), (180, .ifCond .ne 8, 3), (183, .iload 6, 2), (185, .ifCond .eq 8, 3), (188, .iload 4, 2), (190, .goto 4, 3), (193, .iconst 0, 1), (194, .putfield 167, 3), (197, .iconst 2, 1), (198, .iload 4, 2), (200, .imul, 1), (201, .istore 4, 2), (203, .goto (-168), 3), (206, .iload_n 3, 1), (207, .ireturn, 1)]
theorem da_X7_order_2 : dcAll M_X7_order.2.1 dl_X7_order_2 = true := by decide +kernel
theorem q_X7_order_0 : decode M_X7_order.2.1 0 = .ok (.aload_n 0, 1) ∧ 0 + 1 = 1 := ⟨dcAll_e (i := 0) da_X7_order_0 rfl, rfl⟩
theorem q_X7_order_1 : decode M_X7_order.2.1 1 = .ok (.iconst 0, 1) ∧ 1 + 1 = 2 := ⟨dcAll_e (i := 1) da_X7_order_0 rfl, rfl⟩
theorem q_X7_order_2 : decode M_X7_order.2.1 2 = .ok (.putfield 43, 3) ∧ 2 + 3 = 5 := ⟨dcAll_e (i := 2) da_X7_order_0 rfl, rfl⟩
theorem q_X7_order_5 : decode M_X7_order.2.1 5 = .ok (.aload_n 0, 1) ∧ 5 + 1 = 6 := ⟨dcAll_e (i := 3) da_X7_order_0 rfl, rfl⟩
theorem q_X7_order_6 : decode M_X7_order.2.1 6 = .ok (.iload_n 1, 1) ∧ 6 + 1 = 7 := ⟨dcAll_e (i := 4) da_X7_order_0 rfl, rfl⟩
theorem q_X7_order_7 : decode M_X7_order.2.1 7 = .ok (.invokevirtual 102, 3) ∧ 7 + 3 = 10 := ⟨dcAll_e (i := 5) da_X7_order_0 rfl, rfl⟩
theorem g_X7_order_7 : en_C M_X7_order M_X7_isValue 102 1 := ⟨⟨inT4 6 rfl rfl, in_X7, cd_X7_isValue⟩, ⟨by decide, by decide, by decide +kernel⟩, by decide, by decide⟩
theorem q_X7_order_10 : decode M_X7_order.2.1 10 = .ok (.ifCond .eq 11, 3) ∧ 10 + 3 = 13 ∧ ((10 : Nat) : Int) + 11 = ((21 : Nat) : Int) := ⟨dcAll_e (i := 6) da_X7_order_0 rfl, rfl, rfl⟩
theorem q_X7_order_13 : decode M_X7_order.2.1 13 = .ok (.aload_n 0, 1) ∧ 13 + 1 = 14 := ⟨dcAll_e (i := 7) da_X7_order_0 rfl, rfl⟩
theorem q_X7_order_14 : decode M_X7_order.2.1 14 = .ok (.iload_n 2, 1) ∧ 14 + 1 = 15 := ⟨dcAll_e (i := 8) da_X7_order_0 rfl, rfl⟩
theorem q_X7_order_15 : decode M_X7_order.2.1 15 = .ok (.invokevirtual 102, 3) ∧ 15 + 3 = 18 := ⟨dcAll_e (i := 9) da_X7_order_0 rfl, rfl⟩
theorem g_X7_order_15 : en_C M_X7_order M_X7_isValue 102 1 := ⟨⟨inT4 6 rfl rfl, in_X7, cd_X7_isValue⟩, ⟨by decide, by decide, by decide +kernel⟩, by decide, by decide⟩
theorem q_X7_order_18 : decode M_X7_order.2.1 18 = .ok (.ifCond .ne 5, 3) ∧ 18 + 3 = 21 ∧ ((18 : Nat) : Int) + 5 = ((23 : Nat) : Int) := ⟨dcAll_e (i := 10) da_X7_order_0 rfl, rfl, rfl⟩
theorem q_X7_order_21 : decode M_X7_order.2.1 21 = .ok (.iconst (-1), 1) ∧ 21 + 1 = 22 := ⟨dcAll_e (i := 11) da_X7_order_0 rfl, rfl⟩
theorem q_X7_order_22 : decode M_X7_order.2.1 22 = .ok (.ireturn, 1) ∧ 22 + 1 = 23 := ⟨dcAll_e (i := 12) da_X7_order_0 rfl, rfl⟩
theorem q_X7_order_23 : decode M_X7_order.2.1 23 = .ok (.aload_n 0, 1) ∧ 23 + 1 = 24 := ⟨dcAll_e (i := 13) da_X7_order_0 rfl, rfl⟩
theorem q_X7_order_24 : decode M_X7_order.2.1 24 = .ok (.iconst 0, 1) ∧ 24 + 1 = 25 := ⟨dcAll_e (i := 14) da_X7_order_0 rfl, rfl⟩
theorem q_X7_order_25 : decode M_X7_order.2.1 25 = .ok (.putfield 167, 3) ∧ 25 + 3 = 28 := ⟨dcAll_e (i := 15) da_X7_order_0 rfl, rfl⟩
theorem q_X7_order_28 : decode M_X7_order.2.1 28 = .ok (.bipush (-3), 2) ∧ 28 + 2 = 30 := ⟨dcAll_e (i := 16) da_X7_order_0 rfl, rfl⟩
theorem q_X7_order_30 : decode M_X7_order.2.1 30 = .ok (.istore_n 3, 1) ∧ 30 + 1 = 31 := ⟨dcAll_e (i := 17) da_X7_order_0 rfl, rfl⟩
theorem q_X7_order_31 : decode M_X7_order.2.1 31 = .ok (.bipush 10, 2) ∧ 31 + 2 = 33 := ⟨dcAll_e (i := 18) da_X7_order_0 rfl, rfl⟩
theorem q_X7_order_33 : decode M_X7_order.2.1 33 = .ok (.istore 4, 2) ∧ 33 + 2 = 35 := ⟨dcAll_e (i := 19) da_X7_order_0 rfl, rfl⟩
theorem q_X7_order_35 : decode M_X7_order.2.1 35 = .ok (.iload 4, 2) ∧ 35 + 2 = 37 := ⟨dcAll_e (i := 20) da_X7_order_0 rfl, rfl⟩
theorem q_X7_order_37 : decode M_X7_order.2.1 37 = .ok (.sipush 480, 3) ∧ 37 + 3 = 40 := ⟨dcAll_e (i := 21) da_X7_order_0 rfl, rfl⟩
theorem q_X7_order_40 : decode M_X7_order.2.1 40 = .ok (.if_icmp .gt 166, 3) ∧ 40 + 3 = 43 ∧ ((40 : Nat) : Int) + 166 = ((206 : Nat) : Int) := ⟨dcAll_e (i := 22) da_X7_order_0 rfl, rfl, rfl⟩
theorem q_X7_order_43 : decode M_X7_order.2.1 43 = .ok (.aload_n 0, 1) ∧ 43 + 1 = 44 := ⟨dcAll_e (i := 23) da_X7_order_0 rfl, rfl⟩
theorem q_X7_order_44 : decode M_X7_order.2.1 44 = .ok (.getfield 167, 3) ∧ 44 + 3 = 47 := ⟨dcAll_e (i := 24) da_X7_order_0 rfl, rfl⟩
theorem q_X7_order_47 : decode M_X7_order.2.1 47 = .ok (.ifCond .ne 159, 3) ∧ 47 + 3 = 50 ∧ ((47 : Nat) : Int) + 159 = ((206 : Nat) : Int) := ⟨dcAll_e (i := 25) da_X7_order_0 rfl, rfl, rfl⟩
theorem q_X7_order_50 : decode M_X7_order.2.1 50 = .ok (.aload_n 0, 1) ∧ 50 + 1 = 51 := ⟨dcAll_e (i := 26) da_X7_order_0 rfl, rfl⟩
theorem q_X7_order_51 : decode M_X7_order.2.1 51 = .ok (.iload_n 1, 1) ∧ 51 + 1 = 52 := ⟨dcAll_e (i := 27) da_X7_order_0 rfl, rfl⟩
theorem q_X7_order_52 : decode M_X7_order.2.1 52 = .ok (.iload 4, 2) ∧ 52 + 2 = 54 := ⟨dcAll_e (i := 28) da_X7_order_0 rfl, rfl⟩
theorem q_X7_order_54 : decode M_X7_order.2.1 54 = .ok (.invokevirtual 161, 3) ∧ 54 + 3 = 57 := ⟨dcAll_e (i := 29) da_X7_order_0 rfl, rfl⟩
theorem g_X7_order_54 : en_C M_X7_order M_X7_isEnclosed 161 2 := ⟨⟨inT4 26 rfl rfl, in_X7, cd_X7_isEnclosed⟩, ⟨by decide, by decide, by decide +kernel⟩, by decide, by decide⟩
theorem q_X7_order_57 : decode M_X7_order.2.1 57 = .ok (.ifCond .ne 6, 3) ∧ 57 + 3 = 60 ∧ ((57 : Nat) : Int) + 6 = ((63 : Nat) : Int) := ⟨dcAll_e (i := 30) da_X7_order_0 rfl, rfl, rfl⟩
theorem q_X7_order_60 : decode M_X7_order.2.1 60 = .ok (.goto 137, 3) ∧ 60 + 3 = 63 ∧ ((60 : Nat) : Int) + 137 = ((197 : Nat) : Int) := ⟨dcAll_e (i := 31) da_X7_order_0 rfl, rfl, rfl⟩
theorem q_X7_order_63 : decode M_X7_order.2.1 63 = .ok (.aload_n 0, 1) ∧ 63 + 1 = 64 := ⟨dcAll_e (i := 32) da_X7_order_0 rfl, rfl⟩
theorem q_X7_order_64 : decode M_X7_order.2.1 64 = .ok (.iload_n 1, 1) ∧ 64 + 1 = 65 := ⟨dcAll_e (i := 33) da_X7_order_0 rfl, rfl⟩
theorem q_X7_order_65 : decode M_X7_order.2.1 65 = .ok (.invokestatic 112, 3) ∧ 65 + 3 = 68 := ⟨dcAll_e (i := 34) da_X7_order_0 rfl, rfl⟩
theorem g_X7_order_65 : en_C M_X7_order M_X7_low 112 1 := ⟨⟨inT4 38 rfl rfl, in_X7, cd_X7_low⟩, ⟨by decide, by decide, by decide +kernel⟩, by decide, by decide⟩
theorem q_X7_order_68 : decode M_X7_order.2.1 68 = .ok (.bipush 6, 2) ∧ 68 + 2 = 70 := ⟨dcAll_e (i := 35) da_X7_order_0 rfl, rfl⟩
theorem q_X7_order_70 : decode M_X7_order.2.1 70 = .ok (.invokevirtual 53, 3) ∧ 70 + 3 = 73 := ⟨dcAll_e (i := 36) da_X7_order_0 rfl, rfl⟩
theorem g_X7_order_70 : en_C M_X7_order M_X7_copyTo 53 2 := ⟨⟨inT4 58 rfl rfl, in_X7, cd_X7_copyTo⟩, ⟨by decide, by decide, by decide +kernel⟩, by decide, by decide⟩
theorem q_X7_order_73 : decode M_X7_order.2.1 73 = .ok (.aload_n 0, 1) ∧ 73 + 1 = 74 := ⟨dcAll_e (i := 37) da_X7_order_0 rfl, rfl⟩
theorem q_X7_order_74 : decode M_X7_order.2.1 74 = .ok (.iload_n 1, 1) ∧ 74 + 1 = 75 := ⟨dcAll_e (i := 38) da_X7_order_0 rfl, rfl⟩
theorem q_X7_order_75 : decode M_X7_order.2.1 75 = .ok (.invokestatic 112, 3) ∧ 75 + 3 = 78 := ⟨dcAll_e (i := 39) da_X7_order_0 rfl, rfl⟩
theorem g_X7_order_75 : en_C M_X7_order M_X7_low 112 1 := ⟨⟨inT4 38 rfl rfl, in_X7, cd_X7_low⟩, ⟨by decide, by decide, by decide +kernel⟩, by decide, by decide⟩
theorem q_X7_order_78 : decode M_X7_order.2.1 78 = .ok (.iconst 1, 1) ∧ 78 + 1 = 79 := ⟨dcAll_e (i := 0) da_X7_order_1 rfl, rfl⟩
theorem q_X7_order_79 : decode M_X7_order.2.1 79 = .ok (.iadd, 1) ∧ 79 + 1 = 80 := ⟨dcAll_e (i := 1) da_X7_order_1 rfl, rfl⟩
theorem q_X7_order_80 : decode M_X7_order.2.1 80 = .ok (.bipush 7, 2) ∧ 80 + 2 = 82 := ⟨dcAll_e (i := 2) da_X7_order_1 rfl, rfl⟩
theorem q_X7_order_82 : decode M_X7_order.2.1 82 = .ok (.invokevirtual 53, 3) ∧ 82 + 3 = 85 := ⟨dcAll_e (i := 3) da_X7_order_1 rfl, rfl⟩
theorem g_X7_order_82 : en_C M_X7_order M_X7_copyTo 53 2 := ⟨⟨inT4 58 rfl rfl, in_X7, cd_X7_copyTo⟩, ⟨by decide, by decide, by decide +kernel⟩, by decide, by decide⟩
theorem q_X7_order_85 : decode M_X7_order.2.1 85 = .ok (.aload_n 0, 1) ∧ 85 + 1 = 86 := ⟨dcAll_e (i := 4) da_X7_order_1 rfl, rfl⟩
theorem q_X7_order_86 : decode M_X7_order.2.1 86 = .ok (.bipush 6, 2) ∧ 86 + 2 = 88 := ⟨dcAll_e (i := 5) da_X7_order_1 rfl, rfl⟩
theorem q_X7_order_88 : decode M_X7_order.2.1 88 = .ok (.bipush 16, 2) ∧ 88 + 2 = 90 := ⟨dcAll_e (i := 6) da_X7_order_1 rfl, rfl⟩
theorem q_X7_order_90 : decode M_X7_order.2.1 90 = .ok (.invokevirtual 53, 3) ∧ 90 + 3 = 93 := ⟨dcAll_e (i := 7) da_X7_order_1 rfl, rfl⟩
theorem g_X7_order_90 : en_C M_X7_order M_X7_copyTo 53 2 := ⟨⟨inT4 58 rfl rfl, in_X7, cd_X7_copyTo⟩, ⟨by decide, by decide, by decide +kernel⟩, by decide, by decide⟩
theorem q_X7_order_93 : decode M_X7_order.2.1 93 = .ok (.aload_n 0, 1) ∧ 93 + 1 = 94 := ⟨dcAll_e (i := 8) da_X7_order_1 rfl, rfl⟩
theorem q_X7_order_94 : decode M_X7_order.2.1 94 = .ok (.bipush 7, 2) ∧ 94 + 2 = 96 := ⟨dcAll_e (i := 9) da_X7_order_1 rfl, rfl⟩
theorem q_X7_order_96 : decode M_X7_order.2.1 96 = .ok (.bipush 17, 2) ∧ 96 + 2 = 98 := ⟨dcAll_e (i := 10) da_X7_order_1 rfl, rfl⟩
theorem q_X7_order_98 : decode M_X7_order.2.1 98 = .ok (.invokevirtual 53, 3) ∧ 98 + 3 = 101 := ⟨dcAll_e (i := 11) da_X7_order_1 rfl, rfl⟩
theorem g_X7_order_98 : en_C M_X7_order M_X7_copyTo 53 2 := ⟨⟨inT4 58 rfl rfl, in_X7, cd_X7_copyTo⟩, ⟨by decide, by decide, by decide +kernel⟩, by decide, by decide⟩
theorem q_X7_order_101 : decode M_X7_order.2.1 101 = .ok (.aload_n 0, 1) ∧ 101 + 1 = 102 := ⟨dcAll_e (i := 12) da_X7_order_1 rfl, rfl⟩
theorem q_X7_order_102 : decode M_X7_order.2.1 102 = .ok (.iload_n 2, 1) ∧ 102 + 1 = 103 := ⟨dcAll_e (i := 13) da_X7_order_1 rfl, rfl⟩
theorem q_X7_order_103 : decode M_X7_order.2.1 103 = .ok (.iload 4, 2) ∧ 103 + 2 = 105 := ⟨dcAll_e (i := 14) da_X7_order_1 rfl, rfl⟩
theorem q_X7_order_105 : decode M_X7_order.2.1 105 = .ok (.invokevirtual 161, 3) ∧ 105 + 3 = 108 := ⟨dcAll_e (i := 15) da_X7_order_1 rfl, rfl⟩
theorem g_X7_order_105 : en_C M_X7_order M_X7_isEnclosed 161 2 := ⟨⟨inT4 26 rfl rfl, in_X7, cd_X7_isEnclosed⟩, ⟨by decide, by decide, by decide +kernel⟩, by decide, by decide⟩
theorem q_X7_order_108 : decode M_X7_order.2.1 108 = .ok (.ifCond .ne 6, 3) ∧ 108 + 3 = 111 ∧ ((108 : Nat) : Int) + 6 = ((114 : Nat) : Int) := ⟨dcAll_e (i := 16) da_X7_order_1 rfl, rfl, rfl⟩
theorem q_X7_order_111 : decode M_X7_order.2.1 111 = .ok (.goto 86, 3) ∧ 111 + 3 = 114 ∧ ((111 : Nat) : Int) + 86 = ((197 : Nat) : Int) := ⟨dcAll_e (i := 17) da_X7_order_1 rfl, rfl, rfl⟩
theorem q_X7_order_114 : decode M_X7_order.2.1 114 = .ok (.aload_n 0, 1) ∧ 114 + 1 = 115 := ⟨dcAll_e (i := 18) da_X7_order_1 rfl, rfl⟩
theorem q_X7_order_115 : decode M_X7_order.2.1 115 = .ok (.bipush 17, 2) ∧ 115 + 2 = 117 := ⟨dcAll_e (i := 19) da_X7_order_1 rfl, rfl⟩
theorem q_X7_order_117 : decode M_X7_order.2.1 117 = .ok (.iload_n 2, 1) ∧ 117 + 1 = 118 := ⟨dcAll_e (i := 20) da_X7_order_1 rfl, rfl⟩
theorem q_X7_order_118 : decode M_X7_order.2.1 118 = .ok (.invokestatic 112, 3) ∧ 118 + 3 = 121 := ⟨dcAll_e (i := 21) da_X7_order_1 rfl, rfl⟩
theorem g_X7_order_118 : en_C M_X7_order M_X7_low 112 1 := ⟨⟨inT4 38 rfl rfl, in_X7, cd_X7_low⟩, ⟨by decide, by decide, by decide +kernel⟩, by decide, by decide⟩
theorem q_X7_order_121 : decode M_X7_order.2.1 121 = .ok (.invokevirtual 143, 3) ∧ 121 + 3 = 124 := ⟨dcAll_e (i := 22) da_X7_order_1 rfl, rfl⟩
theorem g_X7_order_121 : en_C M_X7_order M_X7_compareTo 143 2 := ⟨⟨inT4 115 rfl rfl, in_X7, cd_X7_compareTo⟩, ⟨by decide, by decide, by decide +kernel⟩, by decide, by decide⟩
theorem q_X7_order_124 : decode M_X7_order.2.1 124 = .ok (.ifCond .ge 7, 3) ∧ 124 + 3 = 127 ∧ ((124 : Nat) : Int) + 7 = ((131 : Nat) : Int) := ⟨dcAll_e (i := 23) da_X7_order_1 rfl, rfl, rfl⟩
theorem q_X7_order_127 : decode M_X7_order.2.1 127 = .ok (.iconst 1, 1) ∧ 127 + 1 = 128 := ⟨dcAll_e (i := 24) da_X7_order_1 rfl, rfl⟩
theorem q_X7_order_128 : decode M_X7_order.2.1 128 = .ok (.goto 4, 3) ∧ 128 + 3 = 131 ∧ ((128 : Nat) : Int) + 4 = ((132 : Nat) : Int) := ⟨dcAll_e (i := 25) da_X7_order_1 rfl, rfl, rfl⟩
theorem q_X7_order_131 : decode M_X7_order.2.1 131 = .ok (.iconst 0, 1) ∧ 131 + 1 = 132 := ⟨dcAll_e (i := 26) da_X7_order_1 rfl, rfl⟩
theorem q_X7_order_132 : decode M_X7_order.2.1 132 = .ok (.istore 5, 2) ∧ 132 + 2 = 134 := ⟨dcAll_e (i := 27) da_X7_order_1 rfl, rfl⟩
theorem q_X7_order_134 : decode M_X7_order.2.1 134 = .ok (.aload_n 0, 1) ∧ 134 + 1 = 135 := ⟨dcAll_e (i := 28) da_X7_order_1 rfl, rfl⟩
theorem q_X7_order_135 : decode M_X7_order.2.1 135 = .ok (.iload_n 2, 1) ∧ 135 + 1 = 136 := ⟨dcAll_e (i := 29) da_X7_order_1 rfl, rfl⟩
theorem q_X7_order_136 : decode M_X7_order.2.1 136 = .ok (.invokestatic 112, 3) ∧ 136 + 3 = 139 := ⟨dcAll_e (i := 30) da_X7_order_1 rfl, rfl⟩
theorem g_X7_order_136 : en_C M_X7_order M_X7_low 112 1 := ⟨⟨inT4 38 rfl rfl, in_X7, cd_X7_low⟩, ⟨by decide, by decide, by decide +kernel⟩, by decide, by decide⟩
theorem q_X7_order_139 : decode M_X7_order.2.1 139 = .ok (.iconst 1, 1) ∧ 139 + 1 = 140 := ⟨dcAll_e (i := 31) da_X7_order_1 rfl, rfl⟩
theorem q_X7_order_140 : decode M_X7_order.2.1 140 = .ok (.iadd, 1) ∧ 140 + 1 = 141 := ⟨dcAll_e (i := 32) da_X7_order_1 rfl, rfl⟩
theorem q_X7_order_141 : decode M_X7_order.2.1 141 = .ok (.bipush 16, 2) ∧ 141 + 2 = 143 := ⟨dcAll_e (i := 33) da_X7_order_1 rfl, rfl⟩
theorem q_X7_order_143 : decode M_X7_order.2.1 143 = .ok (.invokevirtual 143, 3) ∧ 143 + 3 = 146 := ⟨dcAll_e (i := 34) da_X7_order_1 rfl, rfl⟩
theorem g_X7_order_143 : en_C M_X7_order M_X7_compareTo 143 2 := ⟨⟨inT4 115 rfl rfl, in_X7, cd_X7_compareTo⟩, ⟨by decide, by decide, by decide +kernel⟩, by decide, by decide⟩
theorem q_X7_order_146 : decode M_X7_order.2.1 146 = .ok (.ifCond .ge 7, 3) ∧ 146 + 3 = 149 ∧ ((146 : Nat) : Int) + 7 = ((153 : Nat) : Int) := ⟨dcAll_e (i := 35) da_X7_order_1 rfl, rfl, rfl⟩
theorem q_X7_order_149 : decode M_X7_order.2.1 149 = .ok (.iconst 1, 1) ∧ 149 + 1 = 150 := ⟨dcAll_e (i := 36) da_X7_order_1 rfl, rfl⟩
theorem q_X7_order_150 : decode M_X7_order.2.1 150 = .ok (.goto 4, 3) ∧ 150 + 3 = 153 ∧ ((150 : Nat) : Int) + 4 = ((154 : Nat) : Int) := ⟨dcAll_e (i := 37) da_X7_order_1 rfl, rfl, rfl⟩
theorem q_X7_order_153 : decode M_X7_order.2.1 153 = .ok (.iconst 0, 1) ∧ 153 + 1 = 154 := ⟨dcAll_e (i := 38) da_X7_order_1 rfl, rfl⟩
theorem q_X7_order_154 : decode M_X7_order.2.1 154 = .ok (.istore 6, 2) ∧ 154 + 2 = 156 := ⟨dcAll_e (i := 39) da_X7_order_1 rfl, rfl⟩
theorem q_X7_order_156 : decode M_X7_order.2.1 156 = .ok (.iload 5, 2) ∧ 156 + 2 = 158 := ⟨dcAll_e (i := 0) da_X7_order_2 rfl, rfl⟩
theorem q_X7_order_158 : decode M_X7_order.2.1 158 = .ok (.ifCond .eq 7, 3) ∧ 158 + 3 = 161 ∧ ((158 : Nat) : Int) + 7 = ((165 : Nat) : Int) := ⟨dcAll_e (i := 1) da_X7_order_2 rfl, rfl, rfl⟩
theorem q_X7_order_161 : decode M_X7_order.2.1 161 = .ok (.iconst 0, 1) ∧ 161 + 1 = 162 := ⟨dcAll_e (i := 2) da_X7_order_2 rfl, rfl⟩
theorem q_X7_order_162 : decode M_X7_order.2.1 162 = .ok (.goto 14, 3) ∧ 162 + 3 = 165 ∧ ((162 : Nat) : Int) + 14 = ((176 : Nat) : Int) := ⟨dcAll_e (i := 3) da_X7_order_2 rfl, rfl, rfl⟩
theorem q_X7_order_165 : decode M_X7_order.2.1 165 = .ok (.iload 6, 2) ∧ 165 + 2 = 167 := ⟨dcAll_e (i := 4) da_X7_order_2 rfl, rfl⟩
theorem q_X7_order_167 : decode M_X7_order.2.1 167 = .ok (.ifCond .eq 7, 3) ∧ 167 + 3 = 170 ∧ ((167 : Nat) : Int) + 7 = ((174 : Nat) : Int) := ⟨dcAll_e (i := 5) da_X7_order_2 rfl, rfl, rfl⟩
theorem q_X7_order_170 : decode M_X7_order.2.1 170 = .ok (.iconst 1, 1) ∧ 170 + 1 = 171 := ⟨dcAll_e (i := 6) da_X7_order_2 rfl, rfl⟩
theorem q_X7_order_171 : decode M_X7_order.2.1 171 = .ok (.goto 5, 3) ∧ 171 + 3 = 174 ∧ ((171 : Nat) : Int) + 5 = ((176 : Nat) : Int) := ⟨dcAll_e (i := 7) da_X7_order_2 rfl, rfl, rfl⟩
theorem q_X7_order_174 : decode M_X7_order.2.1 174 = .ok (.bipush (-3), 2) ∧ 174 + 2 = 176 := ⟨dcAll_e (i := 8) da_X7_order_2 rfl, rfl⟩
theorem q_X7_order_176 : decode M_X7_order.2.1 176 = .ok (.istore_n 3, 1) ∧ 176 + 1 = 177 := ⟨dcAll_e (i := 9) da_X7_order_2 rfl, rfl⟩
theorem q_X7_order_177 : decode M_X7_order.2.1 177 = .ok (.aload_n 0, 1) ∧ 177 + 1 = 178 := ⟨dcAll_e (i := 10) da_X7_order_2 rfl, rfl⟩
theorem q_X7_order_178 : decode M_X7_order.2.1 178 = .ok (.iload 5, 2) ∧ 178 + 2 = 180 := ⟨dcAll_e (i := 11) da_X7_order_2 rfl, rfl⟩
theorem q_X7_order_180 : decode M_X7_order.2.1 180 = .ok (.ifCond .ne 8, 3) ∧ 180 + 3 = 183 ∧ ((180 : Nat) : Int) + 8 = ((188 : Nat) : Int) := ⟨dcAll_e (i := 12) da_X7_order_2 rfl, rfl, rfl⟩
theorem q_X7_order_183 : decode M_X7_order.2.1 183 = .ok (.iload 6, 2) ∧ 183 + 2 = 185 := ⟨dcAll_e (i := 13) da_X7_order_2 rfl, rfl⟩
theorem q_X7_order_185 : decode M_X7_order.2.1 185 = .ok (.ifCond .eq 8, 3) ∧ 185 + 3 = 188 ∧ ((185 : Nat) : Int) + 8 = ((193 : Nat) : Int) := ⟨dcAll_e (i := 14) da_X7_order_2 rfl, rfl, rfl⟩
theorem q_X7_order_188 : decode M_X7_order.2.1 188 = .ok (.iload 4, 2) ∧ 188 + 2 = 190 := ⟨dcAll_e (i := 15) da_X7_order_2 rfl, rfl⟩
theorem q_X7_order_190 : decode M_X7_order.2.1 190 = .ok (.goto 4, 3) ∧ 190 + 3 = 193 ∧ ((190 : Nat) : Int) + 4 = ((194 : Nat) : Int) := ⟨dcAll_e (i := 16) da_X7_order_2 rfl, rfl, rfl⟩
theorem q_X7_order_193 : decode M_X7_order.2.1 193 = .ok (.iconst 0, 1) ∧ 193 + 1 = 194 := ⟨dcAll_e (i := 17) da_X7_order_2 rfl, rfl⟩
theorem q_X7_order_194 : decode M_X7_order.2.1 194 = .ok (.putfield 167, 3) ∧ 194 + 3 = 197 := ⟨dcAll_e (i := 18) da_X7_order_2 rfl, rfl⟩
theorem q_X7_order_197 : decode M_X7_order.2.1 197 = .ok (.iconst 2, 1) ∧ 197 + 1 = 198 := ⟨dcAll_e (i := 19) da_X7_order_2 rfl, rfl⟩
theorem q_X7_order_198 : decode M_X7_order.2.1 198 = .ok (.iload 4, 2) ∧ 198 + 2 = 200 := ⟨dcAll_e (i := 20) da_X7_order_2 rfl, rfl⟩
theorem q_X7_order_200 : decode M_X7_order.2.1 200 = .ok (.imul, 1) ∧ 200 + 1 = 201 := ⟨dcAll_e (i := 21) da_X7_order_2 rfl, rfl⟩
theorem q_X7_order_201 : decode M_X7_order.2.1 201 = .ok (.istore 4, 2) ∧ 201 + 2 = 203 := ⟨dcAll_e (i := 22) da_X7_order_2 rfl, rfl⟩
theorem q_X7_order_203 : decode M_X7_order.2.1 203 = .ok (.goto (-168), 3) ∧ 203 + 3 = 206 ∧ ((203 : Nat) : Int) + (-168) = ((35 : Nat) : Int) := ⟨dcAll_e (i := 23) da_X7_order_2 rfl, rfl, rfl⟩
theorem q_X7_order_206 : decode M_X7_order.2.1 206 = .ok (.iload_n 3, 1) ∧ 206 + 1 = 207 := ⟨dcAll_e (i := 24) da_X7_order_2 rfl, rfl⟩
theorem q_X7_order_207 : decode M_X7_order.2.1 207 = .ok (.ireturn, 1) ∧ 207 + 1 = 208 := ⟨dcAll_e (i := 25) da_X7_order_2 rfl, rfl⟩
def dl_X7_clipped_0 : List (Nat × Instr × Nat) := [(0, .aload_n 0, 1), (1, .getfield 14, 3), (4, .iload_n 1, 1), (5, .iaload, 1), (6, .iconst 3, 1), (7, .if_icmp .le 22, 3), (10, .aload_n 0, 1), (11, .getfield 17, 3), (14, .iload_n 1, 1), (15, .iaload, 1), (16, .ifCond .le 9, 3), (19, .ldc2_w 174, 3), (22, .goto 6, 3), (25, .ldc2_w 176, 3), (28, .lreturn, 1), (29, .lconst 0, 1), (30, .lstore_n 2, 1), (31, .aload_n 0, 1), (32, .getfield 14, 3), (35, .iload_n 1, 1), (36, .iaload, 1), (37, .iconst 1, 1), (38, .isub, 1), (39, .istore 4, 2), (41, .iload 4, 2), (43, .ifCond .lt 57, 3), (46, .lload_n 2, 1), (47, .ldc2_w 178, 3), (50, .lcmp, 1), (51, .ifCond .le 22, 3), (54, .aload_n 0, 1), (55, .getfield 17, 3), (58, .iload_n 1, 1), (59, .iaload, 1), (60, .ifCond .le 9, 3), (63, .ldc2_w 174, 3), (66, .goto 6, 3), (69, .ldc2_w 176, 3), (72, .lreturn, 1), (73, .lload_n 2, 1)]
theorem da_X7_clipped_0 : dcAll M_X7_clipped.2.1 dl_X7_clipped_0 = true := by decide +kernel
def dl_X7_clipped_1 : List (Nat × Instr × Nat) := [(74, .ldc2_w 47, 3), (77, .lmul, 1), (78, .aload_n 0, 1), (79, .getfield 8, 3), (82, .sipush 320, 3), (85, .iload_n 1, 1), (86, .imul, 1), (87, .iload 4, 2), (89, .iadd, 1), (90, .iaload, 1), (91, .i2l, 1), (92, .ladd, 1), (93, .lstore_n 2, 1), (94, .iinc 4 (-1), 3), (97, .goto (-56), 3), (100, .lload_n 2, 1), (101, .ldc2_w 174, 3), (104, .lcmp, 1), (105, .ifCond .le 9, 3), (108, .ldc2_w 174, 3), (111, .goto 4, 3), (114, .lload_n 2, 1), (115, .lstore_n 2, 1), (116, .aload_n 0, 1), (117, .getfield 17, 3), (120, .iload_n 1, 1), (121, .iaload, 1), (122, .ifCond .ge 8, 3), (125, .lload_n 2, 1), (126, .lneg, 1), (127, .goto 4, 3), (130, .lload_n 2, 1), (131, .lreturn, 1)]
theorem da_X7_clipped_1 : dcAll M_X7_clipped.2.1 dl_X7_clipped_1 = true := by decide +kernel
theorem q_X7_clipped_0 : decode M_X7_clipped.2.1 0 = .ok (.aload_n 0, 1) ∧ 0 + 1 = 1 := ⟨dcAll_e (i := 0) da_X7_clipped_0 rfl, rfl⟩
theorem q_X7_clipped_1 : decode M_X7_clipped.2.1 1 = .ok (.getfield 14, 3) ∧ 1 + 3 = 4 := ⟨dcAll_e (i := 1) da_X7_clipped_0 rfl, rfl⟩
theorem q_X7_clipped_4 : decode M_X7_clipped.2.1 4 = .ok (.iload_n 1, 1) ∧ 4 + 1 = 5 := ⟨dcAll_e (i := 2) da_X7_clipped_0 rfl, rfl⟩
theorem q_X7_clipped_5 : decode M_X7_clipped.2.1 5 = .ok (.iaload, 1) ∧ 5 + 1 = 6 := ⟨dcAll_e (i := 3) da_X7_clipped_0 rfl, rfl⟩
theorem q_X7_clipped_6 : decode M_X7_clipped.2.1 6 = .ok (.iconst 3, 1) ∧ 6 + 1 = 7 := ⟨dcAll_e (i := 4) da_X7_clipped_0 rfl, rfl⟩
theorem q_X7_clipped_7 : decode M_X7_clipped.2.1 7 = .ok (.if_icmp .le 22, 3) ∧ 7 + 3 = 10 ∧ ((7 : Nat) : Int) + 22 = ((29 : Nat) : Int) := ⟨dcAll_e (i := 5) da_X7_clipped_0 rfl, rfl, rfl⟩
theorem q_X7_clipped_10 : decode M_X7_clipped.2.1 10 = .ok (.aload_n 0, 1) ∧ 10 + 1 = 11 := ⟨dcAll_e (i := 6) da_X7_clipped_0 rfl, rfl⟩
theorem q_X7_clipped_11 : decode M_X7_clipped.2.1 11 = .ok (.getfield 17, 3) ∧ 11 + 3 = 14 := ⟨dcAll_e (i := 7) da_X7_clipped_0 rfl, rfl⟩
theorem q_X7_clipped_14 : decode M_X7_clipped.2.1 14 = .ok (.iload_n 1, 1) ∧ 14 + 1 = 15 := ⟨dcAll_e (i := 8) da_X7_clipped_0 rfl, rfl⟩
theorem q_X7_clipped_15 : decode M_X7_clipped.2.1 15 = .ok (.iaload, 1) ∧ 15 + 1 = 16 := ⟨dcAll_e (i := 9) da_X7_clipped_0 rfl, rfl⟩
theorem q_X7_clipped_16 : decode M_X7_clipped.2.1 16 = .ok (.ifCond .le 9, 3) ∧ 16 + 3 = 19 ∧ ((16 : Nat) : Int) + 9 = ((25 : Nat) : Int) := ⟨dcAll_e (i := 10) da_X7_clipped_0 rfl, rfl, rfl⟩
theorem q_X7_clipped_19 : decode M_X7_clipped.2.1 19 = .ok (.ldc2_w 174, 3) ∧ 19 + 3 = 22 := ⟨dcAll_e (i := 11) da_X7_clipped_0 rfl, rfl⟩
theorem k_RX7_174 : Cond.constantLong RX7 174 (lN 4611686018427387904) ∈ en_tbl := by decide +kernel
theorem q_X7_clipped_22 : decode M_X7_clipped.2.1 22 = .ok (.goto 6, 3) ∧ 22 + 3 = 25 ∧ ((22 : Nat) : Int) + 6 = ((28 : Nat) : Int) := ⟨dcAll_e (i := 12) da_X7_clipped_0 rfl, rfl, rfl⟩
theorem q_X7_clipped_25 : decode M_X7_clipped.2.1 25 = .ok (.ldc2_w 176, 3) ∧ 25 + 3 = 28 := ⟨dcAll_e (i := 13) da_X7_clipped_0 rfl, rfl⟩
theorem k_RX7_176 : Cond.constantLong RX7 176 (-4611686018427387904) ∈ en_tbl := by decide +kernel
theorem q_X7_clipped_28 : decode M_X7_clipped.2.1 28 = .ok (.lreturn, 1) ∧ 28 + 1 = 29 := ⟨dcAll_e (i := 14) da_X7_clipped_0 rfl, rfl⟩
theorem q_X7_clipped_29 : decode M_X7_clipped.2.1 29 = .ok (.lconst 0, 1) ∧ 29 + 1 = 30 := ⟨dcAll_e (i := 15) da_X7_clipped_0 rfl, rfl⟩
theorem q_X7_clipped_30 : decode M_X7_clipped.2.1 30 = .ok (.lstore_n 2, 1) ∧ 30 + 1 = 31 := ⟨dcAll_e (i := 16) da_X7_clipped_0 rfl, rfl⟩
theorem q_X7_clipped_31 : decode M_X7_clipped.2.1 31 = .ok (.aload_n 0, 1) ∧ 31 + 1 = 32 := ⟨dcAll_e (i := 17) da_X7_clipped_0 rfl, rfl⟩
theorem q_X7_clipped_32 : decode M_X7_clipped.2.1 32 = .ok (.getfield 14, 3) ∧ 32 + 3 = 35 := ⟨dcAll_e (i := 18) da_X7_clipped_0 rfl, rfl⟩
theorem q_X7_clipped_35 : decode M_X7_clipped.2.1 35 = .ok (.iload_n 1, 1) ∧ 35 + 1 = 36 := ⟨dcAll_e (i := 19) da_X7_clipped_0 rfl, rfl⟩
theorem q_X7_clipped_36 : decode M_X7_clipped.2.1 36 = .ok (.iaload, 1) ∧ 36 + 1 = 37 := ⟨dcAll_e (i := 20) da_X7_clipped_0 rfl, rfl⟩
theorem q_X7_clipped_37 : decode M_X7_clipped.2.1 37 = .ok (.iconst 1, 1) ∧ 37 + 1 = 38 := ⟨dcAll_e (i := 21) da_X7_clipped_0 rfl, rfl⟩
theorem q_X7_clipped_38 : decode M_X7_clipped.2.1 38 = .ok (.isub, 1) ∧ 38 + 1 = 39 := ⟨dcAll_e (i := 22) da_X7_clipped_0 rfl, rfl⟩
theorem q_X7_clipped_39 : decode M_X7_clipped.2.1 39 = .ok (.istore 4, 2) ∧ 39 + 2 = 41 := ⟨dcAll_e (i := 23) da_X7_clipped_0 rfl, rfl⟩
theorem q_X7_clipped_41 : decode M_X7_clipped.2.1 41 = .ok (.iload 4, 2) ∧ 41 + 2 = 43 := ⟨dcAll_e (i := 24) da_X7_clipped_0 rfl, rfl⟩
theorem q_X7_clipped_43 : decode M_X7_clipped.2.1 43 = .ok (.ifCond .lt 57, 3) ∧ 43 + 3 = 46 ∧ ((43 : Nat) : Int) + 57 = ((100 : Nat) : Int) := ⟨dcAll_e (i := 25) da_X7_clipped_0 rfl, rfl, rfl⟩
theorem q_X7_clipped_46 : decode M_X7_clipped.2.1 46 = .ok (.lload_n 2, 1) ∧ 46 + 1 = 47 := ⟨dcAll_e (i := 26) da_X7_clipped_0 rfl, rfl⟩
theorem q_X7_clipped_47 : decode M_X7_clipped.2.1 47 = .ok (.ldc2_w 178, 3) ∧ 47 + 3 = 50 := ⟨dcAll_e (i := 27) da_X7_clipped_0 rfl, rfl⟩
theorem k_RX7_178 : Cond.constantLong RX7 178 (lN 4611686018) ∈ en_tbl := by decide +kernel
theorem q_X7_clipped_50 : decode M_X7_clipped.2.1 50 = .ok (.lcmp, 1) ∧ 50 + 1 = 51 := ⟨dcAll_e (i := 28) da_X7_clipped_0 rfl, rfl⟩
theorem q_X7_clipped_51 : decode M_X7_clipped.2.1 51 = .ok (.ifCond .le 22, 3) ∧ 51 + 3 = 54 ∧ ((51 : Nat) : Int) + 22 = ((73 : Nat) : Int) := ⟨dcAll_e (i := 29) da_X7_clipped_0 rfl, rfl, rfl⟩
theorem q_X7_clipped_54 : decode M_X7_clipped.2.1 54 = .ok (.aload_n 0, 1) ∧ 54 + 1 = 55 := ⟨dcAll_e (i := 30) da_X7_clipped_0 rfl, rfl⟩
theorem q_X7_clipped_55 : decode M_X7_clipped.2.1 55 = .ok (.getfield 17, 3) ∧ 55 + 3 = 58 := ⟨dcAll_e (i := 31) da_X7_clipped_0 rfl, rfl⟩
theorem q_X7_clipped_58 : decode M_X7_clipped.2.1 58 = .ok (.iload_n 1, 1) ∧ 58 + 1 = 59 := ⟨dcAll_e (i := 32) da_X7_clipped_0 rfl, rfl⟩
theorem q_X7_clipped_59 : decode M_X7_clipped.2.1 59 = .ok (.iaload, 1) ∧ 59 + 1 = 60 := ⟨dcAll_e (i := 33) da_X7_clipped_0 rfl, rfl⟩
theorem q_X7_clipped_60 : decode M_X7_clipped.2.1 60 = .ok (.ifCond .le 9, 3) ∧ 60 + 3 = 63 ∧ ((60 : Nat) : Int) + 9 = ((69 : Nat) : Int) := ⟨dcAll_e (i := 34) da_X7_clipped_0 rfl, rfl, rfl⟩
theorem q_X7_clipped_63 : decode M_X7_clipped.2.1 63 = .ok (.ldc2_w 174, 3) ∧ 63 + 3 = 66 := ⟨dcAll_e (i := 35) da_X7_clipped_0 rfl, rfl⟩
theorem q_X7_clipped_66 : decode M_X7_clipped.2.1 66 = .ok (.goto 6, 3) ∧ 66 + 3 = 69 ∧ ((66 : Nat) : Int) + 6 = ((72 : Nat) : Int) := ⟨dcAll_e (i := 36) da_X7_clipped_0 rfl, rfl, rfl⟩
theorem q_X7_clipped_69 : decode M_X7_clipped.2.1 69 = .ok (.ldc2_w 176, 3) ∧ 69 + 3 = 72 := ⟨dcAll_e (i := 37) da_X7_clipped_0 rfl, rfl⟩
theorem q_X7_clipped_72 : decode M_X7_clipped.2.1 72 = .ok (.lreturn, 1) ∧ 72 + 1 = 73 := ⟨dcAll_e (i := 38) da_X7_clipped_0 rfl, rfl⟩
theorem q_X7_clipped_73 : decode M_X7_clipped.2.1 73 = .ok (.lload_n 2, 1) ∧ 73 + 1 = 74 := ⟨dcAll_e (i := 39) da_X7_clipped_0 rfl, rfl⟩
theorem q_X7_clipped_74 : decode M_X7_clipped.2.1 74 = .ok (.ldc2_w 47, 3) ∧ 74 + 3 = 77 := ⟨dcAll_e (i := 0) da_X7_clipped_1 rfl, rfl⟩
theorem q_X7_clipped_77 : decode M_X7_clipped.2.1 77 = .ok (.lmul, 1) ∧ 77 + 1 = 78 := ⟨dcAll_e (i := 1) da_X7_clipped_1 rfl, rfl⟩
theorem q_X7_clipped_78 : decode M_X7_clipped.2.1 78 = .ok (.aload_n 0, 1) ∧ 78 + 1 = 79 := ⟨dcAll_e (i := 2) da_X7_clipped_1 rfl, rfl⟩
theorem q_X7_clipped_79 : decode M_X7_clipped.2.1 79 = .ok (.getfield 8, 3) ∧ 79 + 3 = 82 := ⟨dcAll_e (i := 3) da_X7_clipped_1 rfl, rfl⟩
theorem q_X7_clipped_82 : decode M_X7_clipped.2.1 82 = .ok (.sipush 320, 3) ∧ 82 + 3 = 85 := ⟨dcAll_e (i := 4) da_X7_clipped_1 rfl, rfl⟩
theorem q_X7_clipped_85 : decode M_X7_clipped.2.1 85 = .ok (.iload_n 1, 1) ∧ 85 + 1 = 86 := ⟨dcAll_e (i := 5) da_X7_clipped_1 rfl, rfl⟩
theorem q_X7_clipped_86 : decode M_X7_clipped.2.1 86 = .ok (.imul, 1) ∧ 86 + 1 = 87 := ⟨dcAll_e (i := 6) da_X7_clipped_1 rfl, rfl⟩
theorem q_X7_clipped_87 : decode M_X7_clipped.2.1 87 = .ok (.iload 4, 2) ∧ 87 + 2 = 89 := ⟨dcAll_e (i := 7) da_X7_clipped_1 rfl, rfl⟩
theorem q_X7_clipped_89 : decode M_X7_clipped.2.1 89 = .ok (.iadd, 1) ∧ 89 + 1 = 90 := ⟨dcAll_e (i := 8) da_X7_clipped_1 rfl, rfl⟩
theorem q_X7_clipped_90 : decode M_X7_clipped.2.1 90 = .ok (.iaload, 1) ∧ 90 + 1 = 91 := ⟨dcAll_e (i := 9) da_X7_clipped_1 rfl, rfl⟩
theorem q_X7_clipped_91 : decode M_X7_clipped.2.1 91 = .ok (.i2l, 1) ∧ 91 + 1 = 92 := ⟨dcAll_e (i := 10) da_X7_clipped_1 rfl, rfl⟩
theorem q_X7_clipped_92 : decode M_X7_clipped.2.1 92 = .ok (.ladd, 1) ∧ 92 + 1 = 93 := ⟨dcAll_e (i := 11) da_X7_clipped_1 rfl, rfl⟩
theorem q_X7_clipped_93 : decode M_X7_clipped.2.1 93 = .ok (.lstore_n 2, 1) ∧ 93 + 1 = 94 := ⟨dcAll_e (i := 12) da_X7_clipped_1 rfl, rfl⟩
theorem q_X7_clipped_94 : decode M_X7_clipped.2.1 94 = .ok (.iinc 4 (-1), 3) ∧ 94 + 3 = 97 := ⟨dcAll_e (i := 13) da_X7_clipped_1 rfl, rfl⟩
theorem q_X7_clipped_97 : decode M_X7_clipped.2.1 97 = .ok (.goto (-56), 3) ∧ 97 + 3 = 100 ∧ ((97 : Nat) : Int) + (-56) = ((41 : Nat) : Int) := ⟨dcAll_e (i := 14) da_X7_clipped_1 rfl, rfl, rfl⟩
theorem q_X7_clipped_100 : decode M_X7_clipped.2.1 100 = .ok (.lload_n 2, 1) ∧ 100 + 1 = 101 := ⟨dcAll_e (i := 15) da_X7_clipped_1 rfl, rfl⟩
theorem q_X7_clipped_101 : decode M_X7_clipped.2.1 101 = .ok (.ldc2_w 174, 3) ∧ 101 + 3 = 104 := ⟨dcAll_e (i := 16) da_X7_clipped_1 rfl, rfl⟩
theorem q_X7_clipped_104 : decode M_X7_clipped.2.1 104 = .ok (.lcmp, 1) ∧ 104 + 1 = 105 := ⟨dcAll_e (i := 17) da_X7_clipped_1 rfl, rfl⟩
theorem q_X7_clipped_105 : decode M_X7_clipped.2.1 105 = .ok (.ifCond .le 9, 3) ∧ 105 + 3 = 108 ∧ ((105 : Nat) : Int) + 9 = ((114 : Nat) : Int) := ⟨dcAll_e (i := 18) da_X7_clipped_1 rfl, rfl, rfl⟩
theorem q_X7_clipped_108 : decode M_X7_clipped.2.1 108 = .ok (.ldc2_w 174, 3) ∧ 108 + 3 = 111 := ⟨dcAll_e (i := 19) da_X7_clipped_1 rfl, rfl⟩
theorem q_X7_clipped_111 : decode M_X7_clipped.2.1 111 = .ok (.goto 4, 3) ∧ 111 + 3 = 114 ∧ ((111 : Nat) : Int) + 4 = ((115 : Nat) : Int) := ⟨dcAll_e (i := 20) da_X7_clipped_1 rfl, rfl, rfl⟩
theorem q_X7_clipped_114 : decode M_X7_clipped.2.1 114 = .ok (.lload_n 2, 1) ∧ 114 + 1 = 115 := ⟨dcAll_e (i := 21) da_X7_clipped_1 rfl, rfl⟩
theorem q_X7_clipped_115 : decode M_X7_clipped.2.1 115 = .ok (.lstore_n 2, 1) ∧ 115 + 1 = 116 := ⟨dcAll_e (i := 22) da_X7_clipped_1 rfl, rfl⟩
theorem q_X7_clipped_116 : decode M_X7_clipped.2.1 116 = .ok (.aload_n 0, 1) ∧ 116 + 1 = 117 := ⟨dcAll_e (i := 23) da_X7_clipped_1 rfl, rfl⟩
theorem q_X7_clipped_117 : decode M_X7_clipped.2.1 117 = .ok (.getfield 17, 3) ∧ 117 + 3 = 120 := ⟨dcAll_e (i := 24) da_X7_clipped_1 rfl, rfl⟩
theorem q_X7_clipped_120 : decode M_X7_clipped.2.1 120 = .ok (.iload_n 1, 1) ∧ 120 + 1 = 121 := ⟨dcAll_e (i := 25) da_X7_clipped_1 rfl, rfl⟩
theorem q_X7_clipped_121 : decode M_X7_clipped.2.1 121 = .ok (.iaload, 1) ∧ 121 + 1 = 122 := ⟨dcAll_e (i := 26) da_X7_clipped_1 rfl, rfl⟩
theorem q_X7_clipped_122 : decode M_X7_clipped.2.1 122 = .ok (.ifCond .ge 8, 3) ∧ 122 + 3 = 125 ∧ ((122 : Nat) : Int) + 8 = ((130 : Nat) : Int) := ⟨dcAll_e (i := 27) da_X7_clipped_1 rfl, rfl, rfl⟩
theorem q_X7_clipped_125 : decode M_X7_clipped.2.1 125 = .ok (.lload_n 2, 1) ∧ 125 + 1 = 126 := ⟨dcAll_e (i := 28) da_X7_clipped_1 rfl, rfl⟩
theorem q_X7_clipped_126 : decode M_X7_clipped.2.1 126 = .ok (.lneg, 1) ∧ 126 + 1 = 127 := ⟨dcAll_e (i := 29) da_X7_clipped_1 rfl, rfl⟩
theorem q_X7_clipped_127 : decode M_X7_clipped.2.1 127 = .ok (.goto 4, 3) ∧ 127 + 3 = 130 ∧ ((127 : Nat) : Int) + 4 = ((131 : Nat) : Int) := ⟨dcAll_e (i := 30) da_X7_clipped_1 rfl, rfl, rfl⟩
theorem q_X7_clipped_130 : decode M_X7_clipped.2.1 130 = .ok (.lload_n 2, 1) ∧ 130 + 1 = 131 := ⟨dcAll_e (i := 31) da_X7_clipped_1 rfl, rfl⟩
theorem q_X7_clipped_131 : decode M_X7_clipped.2.1 131 = .ok (.lreturn, 1) ∧ 131 + 1 = 132 := ⟨dcAll_e (i := 32) da_X7_clipped_1 rfl, rfl⟩
def dl_X7_quotients_0 : List (Nat × Instr × Nat) := [(0, .aload_n 0, 1), (1, .iconst 0, 1), (2, .putfield 43, 3), (5, .aload_n 0, 1), (6, .iload_n 1, 1), (7, .invokevirtual 102, 3), (10, .ifCond .eq 14, 3), (13, .iload_n 2, 1), (14, .iconst 1, 1), (15, .if_icmp .lt 9, 3), (18, .iload_n 2, 1), (19, .bipush 40, 2), (21, .if_icmp .le 5, 3), (24, .iconst (-1), 1), (25, .ireturn, 1), (26, .aload_n 0, 1), (27, .iconst 0, 1), (28, .putfield 167, 3), (31, .iconst 2, 1), (32, .iload_n 2, 1), (33, .imul, 1), (34, .bipush 10, 2), (36, .iadd, 1), (37, .istore_n 3, 1), (38, .iload_n 3, 1), (39, .sipush 480, 3), (42, .if_icmp .gt 41, 3), (45, .aload_n 0, 1), (46, .getfield 167, 3), (49, .ifCond .ne 34, 3), (52, .aload_n 0, 1), (53, .iload_n 1, 1), (54, .iload_n 3, 1), (55, .invokevirtual 161, 3), (58, .ifCond .eq 18, 3), (61, .aload_n 0, 1), (62, .iload_n 1, 1), (63, .iload_n 2, 1), (64, .iload_n 3, 1), (65, .invokevirtual 180, 3)]
theorem da_X7_quotients_0 : dcAll M_X7_quotients.2.1 dl_X7_quotients_0 = true := by decide +kernel
def dl_X7_quotients_1 : List (Nat × Instr × Nat) := [(68, .ifCond .eq 8, 3), (71, .aload_n 0, 1), (72, .iload_n 3, 1), (73, .putfield 167, 3), (76, .iconst 2, 1), (77, .iload_n 3, 1), (78, .imul, 1), (79, .istore_n 3, 1), (80, .goto (-42), 3), (83, .aload_n 0, 1), (84, .getfield 167, 3), (87, .ifCond .ne 6, 3), (90, .bipush (-3), 2), (92, .ireturn, 1), (93, .iconst 0, 1), (94, .istore_n 3, 1), (95, .iload_n 3, 1), (96, .iload_n 2, 1), (97, .if_icmp .ge 21, 3), (100, .aload_n 0, 1), (101, .getfield 37, 3), (104, .iload_n 3, 1), (105, .aload_n 0, 1), (106, .getfield 40, 3), (109, .iload_n 3, 1), (110, .laload, 1), (111, .lastore, 1), (112, .iinc 3 1, 3), (115, .goto (-20), 3), (118, .aload_n 0, 1), (119, .iload_n 2, 1), (120, .putfield 184, 3), (123, .iconst 1, 1), (124, .ireturn, 1)]
theorem da_X7_quotients_1 : dcAll M_X7_quotients.2.1 dl_X7_quotients_1 = true := by decide +kernel
theorem q_X7_quotients_0 : decode M_X7_quotients.2.1 0 = .ok (.aload_n 0, 1) ∧ 0 + 1 = 1 := ⟨dcAll_e (i := 0) da_X7_quotients_0 rfl, rfl⟩
theorem q_X7_quotients_1 : decode M_X7_quotients.2.1 1 = .ok (.iconst 0, 1) ∧ 1 + 1 = 2 := ⟨dcAll_e (i := 1) da_X7_quotients_0 rfl, rfl⟩
theorem q_X7_quotients_2 : decode M_X7_quotients.2.1 2 = .ok (.putfield 43, 3) ∧ 2 + 3 = 5 := ⟨dcAll_e (i := 2) da_X7_quotients_0 rfl, rfl⟩
theorem q_X7_quotients_5 : decode M_X7_quotients.2.1 5 = .ok (.aload_n 0, 1) ∧ 5 + 1 = 6 := ⟨dcAll_e (i := 3) da_X7_quotients_0 rfl, rfl⟩
theorem q_X7_quotients_6 : decode M_X7_quotients.2.1 6 = .ok (.iload_n 1, 1) ∧ 6 + 1 = 7 := ⟨dcAll_e (i := 4) da_X7_quotients_0 rfl, rfl⟩
theorem q_X7_quotients_7 : decode M_X7_quotients.2.1 7 = .ok (.invokevirtual 102, 3) ∧ 7 + 3 = 10 := ⟨dcAll_e (i := 5) da_X7_quotients_0 rfl, rfl⟩
theorem g_X7_quotients_7 : en_C M_X7_quotients M_X7_isValue 102 1 := ⟨⟨inT4 6 rfl rfl, in_X7, cd_X7_isValue⟩, ⟨by decide, by decide, by decide +kernel⟩, by decide, by decide⟩
theorem q_X7_quotients_10 : decode M_X7_quotients.2.1 10 = .ok (.ifCond .eq 14, 3) ∧ 10 + 3 = 13 ∧ ((10 : Nat) : Int) + 14 = ((24 : Nat) : Int) := ⟨dcAll_e (i := 6) da_X7_quotients_0 rfl, rfl, rfl⟩
theorem q_X7_quotients_13 : decode M_X7_quotients.2.1 13 = .ok (.iload_n 2, 1) ∧ 13 + 1 = 14 := ⟨dcAll_e (i := 7) da_X7_quotients_0 rfl, rfl⟩
theorem q_X7_quotients_14 : decode M_X7_quotients.2.1 14 = .ok (.iconst 1, 1) ∧ 14 + 1 = 15 := ⟨dcAll_e (i := 8) da_X7_quotients_0 rfl, rfl⟩
theorem q_X7_quotients_15 : decode M_X7_quotients.2.1 15 = .ok (.if_icmp .lt 9, 3) ∧ 15 + 3 = 18 ∧ ((15 : Nat) : Int) + 9 = ((24 : Nat) : Int) := ⟨dcAll_e (i := 9) da_X7_quotients_0 rfl, rfl, rfl⟩
theorem q_X7_quotients_18 : decode M_X7_quotients.2.1 18 = .ok (.iload_n 2, 1) ∧ 18 + 1 = 19 := ⟨dcAll_e (i := 10) da_X7_quotients_0 rfl, rfl⟩
theorem q_X7_quotients_19 : decode M_X7_quotients.2.1 19 = .ok (.bipush 40, 2) ∧ 19 + 2 = 21 := ⟨dcAll_e (i := 11) da_X7_quotients_0 rfl, rfl⟩
theorem q_X7_quotients_21 : decode M_X7_quotients.2.1 21 = .ok (.if_icmp .le 5, 3) ∧ 21 + 3 = 24 ∧ ((21 : Nat) : Int) + 5 = ((26 : Nat) : Int) := ⟨dcAll_e (i := 12) da_X7_quotients_0 rfl, rfl, rfl⟩
theorem q_X7_quotients_24 : decode M_X7_quotients.2.1 24 = .ok (.iconst (-1), 1) ∧ 24 + 1 = 25 := ⟨dcAll_e (i := 13) da_X7_quotients_0 rfl, rfl⟩
theorem q_X7_quotients_25 : decode M_X7_quotients.2.1 25 = .ok (.ireturn, 1) ∧ 25 + 1 = 26 := ⟨dcAll_e (i := 14) da_X7_quotients_0 rfl, rfl⟩
theorem q_X7_quotients_26 : decode M_X7_quotients.2.1 26 = .ok (.aload_n 0, 1) ∧ 26 + 1 = 27 := ⟨dcAll_e (i := 15) da_X7_quotients_0 rfl, rfl⟩
theorem q_X7_quotients_27 : decode M_X7_quotients.2.1 27 = .ok (.iconst 0, 1) ∧ 27 + 1 = 28 := ⟨dcAll_e (i := 16) da_X7_quotients_0 rfl, rfl⟩
theorem q_X7_quotients_28 : decode M_X7_quotients.2.1 28 = .ok (.putfield 167, 3) ∧ 28 + 3 = 31 := ⟨dcAll_e (i := 17) da_X7_quotients_0 rfl, rfl⟩
theorem q_X7_quotients_31 : decode M_X7_quotients.2.1 31 = .ok (.iconst 2, 1) ∧ 31 + 1 = 32 := ⟨dcAll_e (i := 18) da_X7_quotients_0 rfl, rfl⟩
theorem q_X7_quotients_32 : decode M_X7_quotients.2.1 32 = .ok (.iload_n 2, 1) ∧ 32 + 1 = 33 := ⟨dcAll_e (i := 19) da_X7_quotients_0 rfl, rfl⟩
theorem q_X7_quotients_33 : decode M_X7_quotients.2.1 33 = .ok (.imul, 1) ∧ 33 + 1 = 34 := ⟨dcAll_e (i := 20) da_X7_quotients_0 rfl, rfl⟩
theorem q_X7_quotients_34 : decode M_X7_quotients.2.1 34 = .ok (.bipush 10, 2) ∧ 34 + 2 = 36 := ⟨dcAll_e (i := 21) da_X7_quotients_0 rfl, rfl⟩
theorem q_X7_quotients_36 : decode M_X7_quotients.2.1 36 = .ok (.iadd, 1) ∧ 36 + 1 = 37 := ⟨dcAll_e (i := 22) da_X7_quotients_0 rfl, rfl⟩
theorem q_X7_quotients_37 : decode M_X7_quotients.2.1 37 = .ok (.istore_n 3, 1) ∧ 37 + 1 = 38 := ⟨dcAll_e (i := 23) da_X7_quotients_0 rfl, rfl⟩
theorem q_X7_quotients_38 : decode M_X7_quotients.2.1 38 = .ok (.iload_n 3, 1) ∧ 38 + 1 = 39 := ⟨dcAll_e (i := 24) da_X7_quotients_0 rfl, rfl⟩
theorem q_X7_quotients_39 : decode M_X7_quotients.2.1 39 = .ok (.sipush 480, 3) ∧ 39 + 3 = 42 := ⟨dcAll_e (i := 25) da_X7_quotients_0 rfl, rfl⟩
theorem q_X7_quotients_42 : decode M_X7_quotients.2.1 42 = .ok (.if_icmp .gt 41, 3) ∧ 42 + 3 = 45 ∧ ((42 : Nat) : Int) + 41 = ((83 : Nat) : Int) := ⟨dcAll_e (i := 26) da_X7_quotients_0 rfl, rfl, rfl⟩
theorem q_X7_quotients_45 : decode M_X7_quotients.2.1 45 = .ok (.aload_n 0, 1) ∧ 45 + 1 = 46 := ⟨dcAll_e (i := 27) da_X7_quotients_0 rfl, rfl⟩
theorem q_X7_quotients_46 : decode M_X7_quotients.2.1 46 = .ok (.getfield 167, 3) ∧ 46 + 3 = 49 := ⟨dcAll_e (i := 28) da_X7_quotients_0 rfl, rfl⟩
theorem q_X7_quotients_49 : decode M_X7_quotients.2.1 49 = .ok (.ifCond .ne 34, 3) ∧ 49 + 3 = 52 ∧ ((49 : Nat) : Int) + 34 = ((83 : Nat) : Int) := ⟨dcAll_e (i := 29) da_X7_quotients_0 rfl, rfl, rfl⟩
theorem q_X7_quotients_52 : decode M_X7_quotients.2.1 52 = .ok (.aload_n 0, 1) ∧ 52 + 1 = 53 := ⟨dcAll_e (i := 30) da_X7_quotients_0 rfl, rfl⟩
theorem q_X7_quotients_53 : decode M_X7_quotients.2.1 53 = .ok (.iload_n 1, 1) ∧ 53 + 1 = 54 := ⟨dcAll_e (i := 31) da_X7_quotients_0 rfl, rfl⟩
theorem q_X7_quotients_54 : decode M_X7_quotients.2.1 54 = .ok (.iload_n 3, 1) ∧ 54 + 1 = 55 := ⟨dcAll_e (i := 32) da_X7_quotients_0 rfl, rfl⟩
theorem q_X7_quotients_55 : decode M_X7_quotients.2.1 55 = .ok (.invokevirtual 161, 3) ∧ 55 + 3 = 58 := ⟨dcAll_e (i := 33) da_X7_quotients_0 rfl, rfl⟩
theorem g_X7_quotients_55 : en_C M_X7_quotients M_X7_isEnclosed 161 2 := ⟨⟨inT4 26 rfl rfl, in_X7, cd_X7_isEnclosed⟩, ⟨by decide, by decide, by decide +kernel⟩, by decide, by decide⟩
theorem q_X7_quotients_58 : decode M_X7_quotients.2.1 58 = .ok (.ifCond .eq 18, 3) ∧ 58 + 3 = 61 ∧ ((58 : Nat) : Int) + 18 = ((76 : Nat) : Int) := ⟨dcAll_e (i := 34) da_X7_quotients_0 rfl, rfl, rfl⟩
theorem q_X7_quotients_61 : decode M_X7_quotients.2.1 61 = .ok (.aload_n 0, 1) ∧ 61 + 1 = 62 := ⟨dcAll_e (i := 35) da_X7_quotients_0 rfl, rfl⟩
theorem q_X7_quotients_62 : decode M_X7_quotients.2.1 62 = .ok (.iload_n 1, 1) ∧ 62 + 1 = 63 := ⟨dcAll_e (i := 36) da_X7_quotients_0 rfl, rfl⟩
theorem q_X7_quotients_63 : decode M_X7_quotients.2.1 63 = .ok (.iload_n 2, 1) ∧ 63 + 1 = 64 := ⟨dcAll_e (i := 37) da_X7_quotients_0 rfl, rfl⟩
theorem q_X7_quotients_64 : decode M_X7_quotients.2.1 64 = .ok (.iload_n 3, 1) ∧ 64 + 1 = 65 := ⟨dcAll_e (i := 38) da_X7_quotients_0 rfl, rfl⟩
theorem q_X7_quotients_65 : decode M_X7_quotients.2.1 65 = .ok (.invokevirtual 180, 3) ∧ 65 + 3 = 68 := ⟨dcAll_e (i := 39) da_X7_quotients_0 rfl, rfl⟩
theorem cd_X7_areSame : Cond.code M_X7_areSame.1 M_X7_areSame.2.1 M_X7_areSame.2.2.1 M_X7_areSame.2.2.2.1 ∈ en_tbl := inT4 166 rfl rfl
theorem g_X7_quotients_65 : en_C M_X7_quotients M_X7_areSame 180 3 := ⟨⟨inT4 163 rfl rfl, in_X7, cd_X7_areSame⟩, ⟨by decide, by decide, by decide +kernel⟩, by decide, by decide⟩
theorem w_X7_areSame : Cond.instanceMethod M_X7_areSame.1 ∈ en_tbl ∧ Cond.selects M_X7_areSame.1.cls M_X7_areSame.1 M_X7_areSame.1 ∈ en_tbl := ⟨inT4 165 rfl rfl, by decide +kernel⟩
theorem q_X7_quotients_68 : decode M_X7_quotients.2.1 68 = .ok (.ifCond .eq 8, 3) ∧ 68 + 3 = 71 ∧ ((68 : Nat) : Int) + 8 = ((76 : Nat) : Int) := ⟨dcAll_e (i := 0) da_X7_quotients_1 rfl, rfl, rfl⟩
theorem q_X7_quotients_71 : decode M_X7_quotients.2.1 71 = .ok (.aload_n 0, 1) ∧ 71 + 1 = 72 := ⟨dcAll_e (i := 1) da_X7_quotients_1 rfl, rfl⟩
theorem q_X7_quotients_72 : decode M_X7_quotients.2.1 72 = .ok (.iload_n 3, 1) ∧ 72 + 1 = 73 := ⟨dcAll_e (i := 2) da_X7_quotients_1 rfl, rfl⟩
theorem q_X7_quotients_73 : decode M_X7_quotients.2.1 73 = .ok (.putfield 167, 3) ∧ 73 + 3 = 76 := ⟨dcAll_e (i := 3) da_X7_quotients_1 rfl, rfl⟩
theorem q_X7_quotients_76 : decode M_X7_quotients.2.1 76 = .ok (.iconst 2, 1) ∧ 76 + 1 = 77 := ⟨dcAll_e (i := 4) da_X7_quotients_1 rfl, rfl⟩
theorem q_X7_quotients_77 : decode M_X7_quotients.2.1 77 = .ok (.iload_n 3, 1) ∧ 77 + 1 = 78 := ⟨dcAll_e (i := 5) da_X7_quotients_1 rfl, rfl⟩
theorem q_X7_quotients_78 : decode M_X7_quotients.2.1 78 = .ok (.imul, 1) ∧ 78 + 1 = 79 := ⟨dcAll_e (i := 6) da_X7_quotients_1 rfl, rfl⟩
theorem q_X7_quotients_79 : decode M_X7_quotients.2.1 79 = .ok (.istore_n 3, 1) ∧ 79 + 1 = 80 := ⟨dcAll_e (i := 7) da_X7_quotients_1 rfl, rfl⟩
theorem q_X7_quotients_80 : decode M_X7_quotients.2.1 80 = .ok (.goto (-42), 3) ∧ 80 + 3 = 83 ∧ ((80 : Nat) : Int) + (-42) = ((38 : Nat) : Int) := ⟨dcAll_e (i := 8) da_X7_quotients_1 rfl, rfl, rfl⟩
theorem q_X7_quotients_83 : decode M_X7_quotients.2.1 83 = .ok (.aload_n 0, 1) ∧ 83 + 1 = 84 := ⟨dcAll_e (i := 9) da_X7_quotients_1 rfl, rfl⟩
theorem q_X7_quotients_84 : decode M_X7_quotients.2.1 84 = .ok (.getfield 167, 3) ∧ 84 + 3 = 87 := ⟨dcAll_e (i := 10) da_X7_quotients_1 rfl, rfl⟩
theorem q_X7_quotients_87 : decode M_X7_quotients.2.1 87 = .ok (.ifCond .ne 6, 3) ∧ 87 + 3 = 90 ∧ ((87 : Nat) : Int) + 6 = ((93 : Nat) : Int) := ⟨dcAll_e (i := 11) da_X7_quotients_1 rfl, rfl, rfl⟩
theorem q_X7_quotients_90 : decode M_X7_quotients.2.1 90 = .ok (.bipush (-3), 2) ∧ 90 + 2 = 92 := ⟨dcAll_e (i := 12) da_X7_quotients_1 rfl, rfl⟩
theorem q_X7_quotients_92 : decode M_X7_quotients.2.1 92 = .ok (.ireturn, 1) ∧ 92 + 1 = 93 := ⟨dcAll_e (i := 13) da_X7_quotients_1 rfl, rfl⟩
theorem q_X7_quotients_93 : decode M_X7_quotients.2.1 93 = .ok (.iconst 0, 1) ∧ 93 + 1 = 94 := ⟨dcAll_e (i := 14) da_X7_quotients_1 rfl, rfl⟩
theorem q_X7_quotients_94 : decode M_X7_quotients.2.1 94 = .ok (.istore_n 3, 1) ∧ 94 + 1 = 95 := ⟨dcAll_e (i := 15) da_X7_quotients_1 rfl, rfl⟩
theorem q_X7_quotients_95 : decode M_X7_quotients.2.1 95 = .ok (.iload_n 3, 1) ∧ 95 + 1 = 96 := ⟨dcAll_e (i := 16) da_X7_quotients_1 rfl, rfl⟩
theorem q_X7_quotients_96 : decode M_X7_quotients.2.1 96 = .ok (.iload_n 2, 1) ∧ 96 + 1 = 97 := ⟨dcAll_e (i := 17) da_X7_quotients_1 rfl, rfl⟩
theorem q_X7_quotients_97 : decode M_X7_quotients.2.1 97 = .ok (.if_icmp .ge 21, 3) ∧ 97 + 3 = 100 ∧ ((97 : Nat) : Int) + 21 = ((118 : Nat) : Int) := ⟨dcAll_e (i := 18) da_X7_quotients_1 rfl, rfl, rfl⟩
theorem q_X7_quotients_100 : decode M_X7_quotients.2.1 100 = .ok (.aload_n 0, 1) ∧ 100 + 1 = 101 := ⟨dcAll_e (i := 19) da_X7_quotients_1 rfl, rfl⟩
theorem q_X7_quotients_101 : decode M_X7_quotients.2.1 101 = .ok (.getfield 37, 3) ∧ 101 + 3 = 104 := ⟨dcAll_e (i := 20) da_X7_quotients_1 rfl, rfl⟩
theorem f_RX7_37 : en_F RX7 37 7 11 := ⟨RX7, TX7, 15, rfl, by decide, rfl, inT3 178 rfl rfl, uw_X7⟩
theorem q_X7_quotients_104 : decode M_X7_quotients.2.1 104 = .ok (.iload_n 3, 1) ∧ 104 + 1 = 105 := ⟨dcAll_e (i := 21) da_X7_quotients_1 rfl, rfl⟩
theorem q_X7_quotients_105 : decode M_X7_quotients.2.1 105 = .ok (.aload_n 0, 1) ∧ 105 + 1 = 106 := ⟨dcAll_e (i := 22) da_X7_quotients_1 rfl, rfl⟩
theorem q_X7_quotients_106 : decode M_X7_quotients.2.1 106 = .ok (.getfield 40, 3) ∧ 106 + 3 = 109 := ⟨dcAll_e (i := 23) da_X7_quotients_1 rfl, rfl⟩
theorem f_RX7_40 : en_F RX7 40 7 14 := ⟨RX7, TX7, 15, rfl, by decide, rfl, inT3 181 rfl rfl, uw_X7⟩
theorem q_X7_quotients_109 : decode M_X7_quotients.2.1 109 = .ok (.iload_n 3, 1) ∧ 109 + 1 = 110 := ⟨dcAll_e (i := 24) da_X7_quotients_1 rfl, rfl⟩
theorem q_X7_quotients_110 : decode M_X7_quotients.2.1 110 = .ok (.laload, 1) ∧ 110 + 1 = 111 := ⟨dcAll_e (i := 25) da_X7_quotients_1 rfl, rfl⟩
theorem q_X7_quotients_111 : decode M_X7_quotients.2.1 111 = .ok (.lastore, 1) ∧ 111 + 1 = 112 := ⟨dcAll_e (i := 26) da_X7_quotients_1 rfl, rfl⟩
theorem q_X7_quotients_112 : decode M_X7_quotients.2.1 112 = .ok (.iinc 3 1, 3) ∧ 112 + 3 = 115 := ⟨dcAll_e (i := 27) da_X7_quotients_1 rfl, rfl⟩
theorem q_X7_quotients_115 : decode M_X7_quotients.2.1 115 = .ok (.goto (-20), 3) ∧ 115 + 3 = 118 ∧ ((115 : Nat) : Int) + (-20) = ((95 : Nat) : Int) := ⟨dcAll_e (i := 28) da_X7_quotients_1 rfl, rfl, rfl⟩
theorem q_X7_quotients_118 : decode M_X7_quotients.2.1 118 = .ok (.aload_n 0, 1) ∧ 118 + 1 = 119 := ⟨dcAll_e (i := 29) da_X7_quotients_1 rfl, rfl⟩
theorem q_X7_quotients_119 : decode M_X7_quotients.2.1 119 = .ok (.iload_n 2, 1) ∧ 119 + 1 = 120 := ⟨dcAll_e (i := 30) da_X7_quotients_1 rfl, rfl⟩
theorem q_X7_quotients_120 : decode M_X7_quotients.2.1 120 = .ok (.putfield 184, 3) ∧ 120 + 3 = 123 := ⟨dcAll_e (i := 31) da_X7_quotients_1 rfl, rfl⟩
theorem p_RX7_184 : en_Fp RX7 184 7 12 false .int := ⟨RX7, TX7, 15, tyX7, rfl, by decide, rfl, inT3 179 rfl rfl, uw_X7, tyX7_ok, nmX7, rfl, by decide +kernel⟩
theorem q_X7_quotients_123 : decode M_X7_quotients.2.1 123 = .ok (.iconst 1, 1) ∧ 123 + 1 = 124 := ⟨dcAll_e (i := 32) da_X7_quotients_1 rfl, rfl⟩
theorem q_X7_quotients_124 : decode M_X7_quotients.2.1 124 = .ok (.ireturn, 1) ∧ 124 + 1 = 125 := ⟨dcAll_e (i := 33) da_X7_quotients_1 rfl, rfl⟩
def dl_X7_areSame_0 : List (Nat × Instr × Nat) := [(0, .aload_n 0, 1), (1, .iload_n 1, 1), (2, .invokestatic 112, 3), (5, .iconst 0, 1), (6, .invokevirtual 53, 3), (9, .aload_n 0, 1), (10, .iconst 1, 1), (11, .iload_n 3, 1), (12, .invokevirtual 109, 3), (15, .aload_n 0, 1), (16, .iload_n 1, 1), (17, .invokestatic 112, 3), (20, .iconst 1, 1), (21, .iadd, 1), (22, .iconst 2, 1), (23, .invokevirtual 53, 3), (26, .aload_n 0, 1), (27, .iconst 3, 1), (28, .iload_n 3, 1), (29, .invokevirtual 109, 3), (32, .iconst 0, 1), (33, .istore 4, 2), (35, .iload 4, 2), (37, .iload_n 2, 1), (38, .if_icmp .ge 130, 3), (41, .aload_n 0, 1), (42, .getfield 17, 3), (45, .iconst 1, 1), (46, .iaload, 1), (47, .ifCond .eq 12, 3), (50, .aload_n 0, 1), (51, .getfield 17, 3), (54, .iconst 3, 1), (55, .iaload, 1), (56, .ifCond .ne 5, 3), (59, .iconst 0, 1), (60, .ireturn, 1), (61, .aload_n 0, 1), (62, .iconst 4, 1), (63, .iconst 0, 1)]
theorem da_X7_areSame_0 : dcAll M_X7_areSame.2.1 dl_X7_areSame_0 = true := by decide +kernel
def dl_X7_areSame_1 : List (Nat × Instr × Nat) := [(64, .iconst 1, 1), (65, .iconst 0, 1), (66, .invokevirtual 126, 3), (69, .aload_n 0, 1), (70, .bipush 6, 2), (72, .iconst 4, 1), (73, .iconst 1, 1), (74, .invokevirtual 123, 3), (77, .aload_n 0, 1), (78, .bipush 6, 2), (80, .iconst 0, 1), (81, .bipush 6, 2), (83, .iconst (-1), 1), (84, .invokevirtual 87, 3), (87, .aload_n 0, 1), (88, .iconst 1, 1), (89, .iconst 0, 1), (90, .invokevirtual 53, 3), (93, .aload_n 0, 1), (94, .bipush 6, 2), (96, .iconst 1, 1), (97, .invokevirtual 53, 3), (100, .aload_n 0, 1), (101, .iconst 5, 1), (102, .iconst 2, 1), (103, .iconst 3, 1), (104, .iconst 0, 1), (105, .invokevirtual 126, 3), (108, .aload_n 0, 1), (109, .bipush 6, 2), (111, .iconst 5, 1), (112, .iconst 3, 1), (113, .invokevirtual 123, 3), (116, .aload_n 0, 1), (117, .bipush 6, 2), (119, .iconst 2, 1), (120, .bipush 6, 2), (122, .iconst (-1), 1), (123, .invokevirtual 87, 3), (126, .aload_n 0, 1)]
theorem da_X7_areSame_1 : dcAll M_X7_areSame.2.1 dl_X7_areSame_1 = true := by decide +kernel
def dl_X7_areSame_2 : List (Nat × Instr × Nat) := [(127, .iconst 3, 1), (128, .iconst 2, 1), (129, .invokevirtual 53, 3), (132, .aload_n 0, 1), (133, .bipush 6, 2), (135, .iconst 3, 1), (136, .invokevirtual 53, 3), (139, .aload_n 0, 1), (140, .iconst 4, 1), (141, .iconst 5, 1), (142, .invokevirtual 143, 3), (145, .ifCond .eq 5, 3), (148, .iconst 0, 1), (149, .ireturn, 1), (150, .aload_n 0, 1), (151, .getfield 40, 3), (154, .iload 4, 2), (156, .aload_n 0, 1), (157, .iconst 4, 1), (158, .invokevirtual 187, 3), (161, .lastore, 1), (162, .iinc 4 1, 3), (165, .goto (-130), 3), (168, .iconst 1, 1), (169, .ireturn, 1)]
theorem da_X7_areSame_2 : dcAll M_X7_areSame.2.1 dl_X7_areSame_2 = true := by decide +kernel
theorem q_X7_areSame_0 : decode M_X7_areSame.2.1 0 = .ok (.aload_n 0, 1) ∧ 0 + 1 = 1 := ⟨dcAll_e (i := 0) da_X7_areSame_0 rfl, rfl⟩
theorem q_X7_areSame_1 : decode M_X7_areSame.2.1 1 = .ok (.iload_n 1, 1) ∧ 1 + 1 = 2 := ⟨dcAll_e (i := 1) da_X7_areSame_0 rfl, rfl⟩
theorem q_X7_areSame_2 : decode M_X7_areSame.2.1 2 = .ok (.invokestatic 112, 3) ∧ 2 + 3 = 5 := ⟨dcAll_e (i := 2) da_X7_areSame_0 rfl, rfl⟩
theorem g_X7_areSame_2 : en_C M_X7_areSame M_X7_low 112 1 := ⟨⟨inT4 38 rfl rfl, in_X7, cd_X7_low⟩, ⟨by decide, by decide, by decide +kernel⟩, by decide, by decide⟩
theorem q_X7_areSame_5 : decode M_X7_areSame.2.1 5 = .ok (.iconst 0, 1) ∧ 5 + 1 = 6 := ⟨dcAll_e (i := 3) da_X7_areSame_0 rfl, rfl⟩
theorem q_X7_areSame_6 : decode M_X7_areSame.2.1 6 = .ok (.invokevirtual 53, 3) ∧ 6 + 3 = 9 := ⟨dcAll_e (i := 4) da_X7_areSame_0 rfl, rfl⟩
theorem g_X7_areSame_6 : en_C M_X7_areSame M_X7_copyTo 53 2 := ⟨⟨inT4 58 rfl rfl, in_X7, cd_X7_copyTo⟩, ⟨by decide, by decide, by decide +kernel⟩, by decide, by decide⟩
theorem q_X7_areSame_9 : decode M_X7_areSame.2.1 9 = .ok (.aload_n 0, 1) ∧ 9 + 1 = 10 := ⟨dcAll_e (i := 5) da_X7_areSame_0 rfl, rfl⟩
theorem q_X7_areSame_10 : decode M_X7_areSame.2.1 10 = .ok (.iconst 1, 1) ∧ 10 + 1 = 11 := ⟨dcAll_e (i := 6) da_X7_areSame_0 rfl, rfl⟩
theorem q_X7_areSame_11 : decode M_X7_areSame.2.1 11 = .ok (.iload_n 3, 1) ∧ 11 + 1 = 12 := ⟨dcAll_e (i := 7) da_X7_areSame_0 rfl, rfl⟩
theorem q_X7_areSame_12 : decode M_X7_areSame.2.1 12 = .ok (.invokevirtual 109, 3) ∧ 12 + 3 = 15 := ⟨dcAll_e (i := 8) da_X7_areSame_0 rfl, rfl⟩
theorem g_X7_areSame_12 : en_C M_X7_areSame M_X7_powerOfTen 109 2 := ⟨⟨inT4 34 rfl rfl, in_X7, cd_X7_powerOfTen⟩, ⟨by decide, by decide, by decide +kernel⟩, by decide, by decide⟩
theorem q_X7_areSame_15 : decode M_X7_areSame.2.1 15 = .ok (.aload_n 0, 1) ∧ 15 + 1 = 16 := ⟨dcAll_e (i := 9) da_X7_areSame_0 rfl, rfl⟩
theorem q_X7_areSame_16 : decode M_X7_areSame.2.1 16 = .ok (.iload_n 1, 1) ∧ 16 + 1 = 17 := ⟨dcAll_e (i := 10) da_X7_areSame_0 rfl, rfl⟩
theorem q_X7_areSame_17 : decode M_X7_areSame.2.1 17 = .ok (.invokestatic 112, 3) ∧ 17 + 3 = 20 := ⟨dcAll_e (i := 11) da_X7_areSame_0 rfl, rfl⟩
theorem g_X7_areSame_17 : en_C M_X7_areSame M_X7_low 112 1 := ⟨⟨inT4 38 rfl rfl, in_X7, cd_X7_low⟩, ⟨by decide, by decide, by decide +kernel⟩, by decide, by decide⟩
theorem q_X7_areSame_20 : decode M_X7_areSame.2.1 20 = .ok (.iconst 1, 1) ∧ 20 + 1 = 21 := ⟨dcAll_e (i := 12) da_X7_areSame_0 rfl, rfl⟩
theorem q_X7_areSame_21 : decode M_X7_areSame.2.1 21 = .ok (.iadd, 1) ∧ 21 + 1 = 22 := ⟨dcAll_e (i := 13) da_X7_areSame_0 rfl, rfl⟩
theorem q_X7_areSame_22 : decode M_X7_areSame.2.1 22 = .ok (.iconst 2, 1) ∧ 22 + 1 = 23 := ⟨dcAll_e (i := 14) da_X7_areSame_0 rfl, rfl⟩
theorem q_X7_areSame_23 : decode M_X7_areSame.2.1 23 = .ok (.invokevirtual 53, 3) ∧ 23 + 3 = 26 := ⟨dcAll_e (i := 15) da_X7_areSame_0 rfl, rfl⟩
theorem g_X7_areSame_23 : en_C M_X7_areSame M_X7_copyTo 53 2 := ⟨⟨inT4 58 rfl rfl, in_X7, cd_X7_copyTo⟩, ⟨by decide, by decide, by decide +kernel⟩, by decide, by decide⟩
theorem q_X7_areSame_26 : decode M_X7_areSame.2.1 26 = .ok (.aload_n 0, 1) ∧ 26 + 1 = 27 := ⟨dcAll_e (i := 16) da_X7_areSame_0 rfl, rfl⟩
theorem q_X7_areSame_27 : decode M_X7_areSame.2.1 27 = .ok (.iconst 3, 1) ∧ 27 + 1 = 28 := ⟨dcAll_e (i := 17) da_X7_areSame_0 rfl, rfl⟩
theorem q_X7_areSame_28 : decode M_X7_areSame.2.1 28 = .ok (.iload_n 3, 1) ∧ 28 + 1 = 29 := ⟨dcAll_e (i := 18) da_X7_areSame_0 rfl, rfl⟩
theorem q_X7_areSame_29 : decode M_X7_areSame.2.1 29 = .ok (.invokevirtual 109, 3) ∧ 29 + 3 = 32 := ⟨dcAll_e (i := 19) da_X7_areSame_0 rfl, rfl⟩
theorem g_X7_areSame_29 : en_C M_X7_areSame M_X7_powerOfTen 109 2 := ⟨⟨inT4 34 rfl rfl, in_X7, cd_X7_powerOfTen⟩, ⟨by decide, by decide, by decide +kernel⟩, by decide, by decide⟩
theorem q_X7_areSame_32 : decode M_X7_areSame.2.1 32 = .ok (.iconst 0, 1) ∧ 32 + 1 = 33 := ⟨dcAll_e (i := 20) da_X7_areSame_0 rfl, rfl⟩
theorem q_X7_areSame_33 : decode M_X7_areSame.2.1 33 = .ok (.istore 4, 2) ∧ 33 + 2 = 35 := ⟨dcAll_e (i := 21) da_X7_areSame_0 rfl, rfl⟩
theorem q_X7_areSame_35 : decode M_X7_areSame.2.1 35 = .ok (.iload 4, 2) ∧ 35 + 2 = 37 := ⟨dcAll_e (i := 22) da_X7_areSame_0 rfl, rfl⟩
theorem q_X7_areSame_37 : decode M_X7_areSame.2.1 37 = .ok (.iload_n 2, 1) ∧ 37 + 1 = 38 := ⟨dcAll_e (i := 23) da_X7_areSame_0 rfl, rfl⟩
theorem q_X7_areSame_38 : decode M_X7_areSame.2.1 38 = .ok (.if_icmp .ge 130, 3) ∧ 38 + 3 = 41 ∧ ((38 : Nat) : Int) + 130 = ((168 : Nat) : Int) := ⟨dcAll_e (i := 24) da_X7_areSame_0 rfl, rfl, rfl⟩
theorem q_X7_areSame_41 : decode M_X7_areSame.2.1 41 = .ok (.aload_n 0, 1) ∧ 41 + 1 = 42 := ⟨dcAll_e (i := 25) da_X7_areSame_0 rfl, rfl⟩
theorem q_X7_areSame_42 : decode M_X7_areSame.2.1 42 = .ok (.getfield 17, 3) ∧ 42 + 3 = 45 := ⟨dcAll_e (i := 26) da_X7_areSame_0 rfl, rfl⟩
theorem q_X7_areSame_45 : decode M_X7_areSame.2.1 45 = .ok (.iconst 1, 1) ∧ 45 + 1 = 46 := ⟨dcAll_e (i := 27) da_X7_areSame_0 rfl, rfl⟩
theorem q_X7_areSame_46 : decode M_X7_areSame.2.1 46 = .ok (.iaload, 1) ∧ 46 + 1 = 47 := ⟨dcAll_e (i := 28) da_X7_areSame_0 rfl, rfl⟩
theorem q_X7_areSame_47 : decode M_X7_areSame.2.1 47 = .ok (.ifCond .eq 12, 3) ∧ 47 + 3 = 50 ∧ ((47 : Nat) : Int) + 12 = ((59 : Nat) : Int) := ⟨dcAll_e (i := 29) da_X7_areSame_0 rfl, rfl, rfl⟩
theorem q_X7_areSame_50 : decode M_X7_areSame.2.1 50 = .ok (.aload_n 0, 1) ∧ 50 + 1 = 51 := ⟨dcAll_e (i := 30) da_X7_areSame_0 rfl, rfl⟩
theorem q_X7_areSame_51 : decode M_X7_areSame.2.1 51 = .ok (.getfield 17, 3) ∧ 51 + 3 = 54 := ⟨dcAll_e (i := 31) da_X7_areSame_0 rfl, rfl⟩
theorem q_X7_areSame_54 : decode M_X7_areSame.2.1 54 = .ok (.iconst 3, 1) ∧ 54 + 1 = 55 := ⟨dcAll_e (i := 32) da_X7_areSame_0 rfl, rfl⟩
theorem q_X7_areSame_55 : decode M_X7_areSame.2.1 55 = .ok (.iaload, 1) ∧ 55 + 1 = 56 := ⟨dcAll_e (i := 33) da_X7_areSame_0 rfl, rfl⟩
theorem q_X7_areSame_56 : decode M_X7_areSame.2.1 56 = .ok (.ifCond .ne 5, 3) ∧ 56 + 3 = 59 ∧ ((56 : Nat) : Int) + 5 = ((61 : Nat) : Int) := ⟨dcAll_e (i := 34) da_X7_areSame_0 rfl, rfl, rfl⟩
theorem q_X7_areSame_59 : decode M_X7_areSame.2.1 59 = .ok (.iconst 0, 1) ∧ 59 + 1 = 60 := ⟨dcAll_e (i := 35) da_X7_areSame_0 rfl, rfl⟩
theorem q_X7_areSame_60 : decode M_X7_areSame.2.1 60 = .ok (.ireturn, 1) ∧ 60 + 1 = 61 := ⟨dcAll_e (i := 36) da_X7_areSame_0 rfl, rfl⟩
theorem q_X7_areSame_61 : decode M_X7_areSame.2.1 61 = .ok (.aload_n 0, 1) ∧ 61 + 1 = 62 := ⟨dcAll_e (i := 37) da_X7_areSame_0 rfl, rfl⟩
theorem q_X7_areSame_62 : decode M_X7_areSame.2.1 62 = .ok (.iconst 4, 1) ∧ 62 + 1 = 63 := ⟨dcAll_e (i := 38) da_X7_areSame_0 rfl, rfl⟩
theorem q_X7_areSame_63 : decode M_X7_areSame.2.1 63 = .ok (.iconst 0, 1) ∧ 63 + 1 = 64 := ⟨dcAll_e (i := 39) da_X7_areSame_0 rfl, rfl⟩
theorem q_X7_areSame_64 : decode M_X7_areSame.2.1 64 = .ok (.iconst 1, 1) ∧ 64 + 1 = 65 := ⟨dcAll_e (i := 0) da_X7_areSame_1 rfl, rfl⟩
theorem q_X7_areSame_65 : decode M_X7_areSame.2.1 65 = .ok (.iconst 0, 1) ∧ 65 + 1 = 66 := ⟨dcAll_e (i := 1) da_X7_areSame_1 rfl, rfl⟩
theorem q_X7_areSame_66 : decode M_X7_areSame.2.1 66 = .ok (.invokevirtual 126, 3) ∧ 66 + 3 = 69 := ⟨dcAll_e (i := 2) da_X7_areSame_1 rfl, rfl⟩
theorem g_X7_areSame_66 : en_C M_X7_areSame M_X7_rounded 126 4 := ⟨⟨inT4 62 rfl rfl, in_X7, cd_X7_rounded⟩, ⟨by decide, by decide, by decide +kernel⟩, by decide, by decide⟩
theorem q_X7_areSame_69 : decode M_X7_areSame.2.1 69 = .ok (.aload_n 0, 1) ∧ 69 + 1 = 70 := ⟨dcAll_e (i := 3) da_X7_areSame_1 rfl, rfl⟩
theorem q_X7_areSame_70 : decode M_X7_areSame.2.1 70 = .ok (.bipush 6, 2) ∧ 70 + 2 = 72 := ⟨dcAll_e (i := 4) da_X7_areSame_1 rfl, rfl⟩
theorem q_X7_areSame_72 : decode M_X7_areSame.2.1 72 = .ok (.iconst 4, 1) ∧ 72 + 1 = 73 := ⟨dcAll_e (i := 5) da_X7_areSame_1 rfl, rfl⟩
theorem q_X7_areSame_73 : decode M_X7_areSame.2.1 73 = .ok (.iconst 1, 1) ∧ 73 + 1 = 74 := ⟨dcAll_e (i := 6) da_X7_areSame_1 rfl, rfl⟩
theorem q_X7_areSame_74 : decode M_X7_areSame.2.1 74 = .ok (.invokevirtual 123, 3) ∧ 74 + 3 = 77 := ⟨dcAll_e (i := 7) da_X7_areSame_1 rfl, rfl⟩
theorem g_X7_areSame_74 : en_C M_X7_areSame M_X7_multiply 123 3 := ⟨⟨inT4 50 rfl rfl, in_X7, cd_X7_multiply⟩, ⟨by decide, by decide, by decide +kernel⟩, by decide, by decide⟩
theorem q_X7_areSame_77 : decode M_X7_areSame.2.1 77 = .ok (.aload_n 0, 1) ∧ 77 + 1 = 78 := ⟨dcAll_e (i := 8) da_X7_areSame_1 rfl, rfl⟩
theorem q_X7_areSame_78 : decode M_X7_areSame.2.1 78 = .ok (.bipush 6, 2) ∧ 78 + 2 = 80 := ⟨dcAll_e (i := 9) da_X7_areSame_1 rfl, rfl⟩
theorem q_X7_areSame_80 : decode M_X7_areSame.2.1 80 = .ok (.iconst 0, 1) ∧ 80 + 1 = 81 := ⟨dcAll_e (i := 10) da_X7_areSame_1 rfl, rfl⟩
theorem q_X7_areSame_81 : decode M_X7_areSame.2.1 81 = .ok (.bipush 6, 2) ∧ 81 + 2 = 83 := ⟨dcAll_e (i := 11) da_X7_areSame_1 rfl, rfl⟩
theorem q_X7_areSame_83 : decode M_X7_areSame.2.1 83 = .ok (.iconst (-1), 1) ∧ 83 + 1 = 84 := ⟨dcAll_e (i := 12) da_X7_areSame_1 rfl, rfl⟩
theorem q_X7_areSame_84 : decode M_X7_areSame.2.1 84 = .ok (.invokevirtual 87, 3) ∧ 84 + 3 = 87 := ⟨dcAll_e (i := 13) da_X7_areSame_1 rfl, rfl⟩
theorem g_X7_areSame_84 : en_C M_X7_areSame M_X7_addTo 87 4 := ⟨⟨inT4 87 rfl rfl, in_X7, cd_X7_addTo⟩, ⟨by decide, by decide, by decide +kernel⟩, by decide, by decide⟩
theorem q_X7_areSame_87 : decode M_X7_areSame.2.1 87 = .ok (.aload_n 0, 1) ∧ 87 + 1 = 88 := ⟨dcAll_e (i := 14) da_X7_areSame_1 rfl, rfl⟩
theorem q_X7_areSame_88 : decode M_X7_areSame.2.1 88 = .ok (.iconst 1, 1) ∧ 88 + 1 = 89 := ⟨dcAll_e (i := 15) da_X7_areSame_1 rfl, rfl⟩
theorem q_X7_areSame_89 : decode M_X7_areSame.2.1 89 = .ok (.iconst 0, 1) ∧ 89 + 1 = 90 := ⟨dcAll_e (i := 16) da_X7_areSame_1 rfl, rfl⟩
theorem q_X7_areSame_90 : decode M_X7_areSame.2.1 90 = .ok (.invokevirtual 53, 3) ∧ 90 + 3 = 93 := ⟨dcAll_e (i := 17) da_X7_areSame_1 rfl, rfl⟩
theorem g_X7_areSame_90 : en_C M_X7_areSame M_X7_copyTo 53 2 := ⟨⟨inT4 58 rfl rfl, in_X7, cd_X7_copyTo⟩, ⟨by decide, by decide, by decide +kernel⟩, by decide, by decide⟩
theorem q_X7_areSame_93 : decode M_X7_areSame.2.1 93 = .ok (.aload_n 0, 1) ∧ 93 + 1 = 94 := ⟨dcAll_e (i := 18) da_X7_areSame_1 rfl, rfl⟩
theorem q_X7_areSame_94 : decode M_X7_areSame.2.1 94 = .ok (.bipush 6, 2) ∧ 94 + 2 = 96 := ⟨dcAll_e (i := 19) da_X7_areSame_1 rfl, rfl⟩
theorem q_X7_areSame_96 : decode M_X7_areSame.2.1 96 = .ok (.iconst 1, 1) ∧ 96 + 1 = 97 := ⟨dcAll_e (i := 20) da_X7_areSame_1 rfl, rfl⟩
theorem q_X7_areSame_97 : decode M_X7_areSame.2.1 97 = .ok (.invokevirtual 53, 3) ∧ 97 + 3 = 100 := ⟨dcAll_e (i := 21) da_X7_areSame_1 rfl, rfl⟩
theorem g_X7_areSame_97 : en_C M_X7_areSame M_X7_copyTo 53 2 := ⟨⟨inT4 58 rfl rfl, in_X7, cd_X7_copyTo⟩, ⟨by decide, by decide, by decide +kernel⟩, by decide, by decide⟩
theorem q_X7_areSame_100 : decode M_X7_areSame.2.1 100 = .ok (.aload_n 0, 1) ∧ 100 + 1 = 101 := ⟨dcAll_e (i := 22) da_X7_areSame_1 rfl, rfl⟩
theorem q_X7_areSame_101 : decode M_X7_areSame.2.1 101 = .ok (.iconst 5, 1) ∧ 101 + 1 = 102 := ⟨dcAll_e (i := 23) da_X7_areSame_1 rfl, rfl⟩
theorem q_X7_areSame_102 : decode M_X7_areSame.2.1 102 = .ok (.iconst 2, 1) ∧ 102 + 1 = 103 := ⟨dcAll_e (i := 24) da_X7_areSame_1 rfl, rfl⟩
theorem q_X7_areSame_103 : decode M_X7_areSame.2.1 103 = .ok (.iconst 3, 1) ∧ 103 + 1 = 104 := ⟨dcAll_e (i := 25) da_X7_areSame_1 rfl, rfl⟩
theorem q_X7_areSame_104 : decode M_X7_areSame.2.1 104 = .ok (.iconst 0, 1) ∧ 104 + 1 = 105 := ⟨dcAll_e (i := 26) da_X7_areSame_1 rfl, rfl⟩
theorem q_X7_areSame_105 : decode M_X7_areSame.2.1 105 = .ok (.invokevirtual 126, 3) ∧ 105 + 3 = 108 := ⟨dcAll_e (i := 27) da_X7_areSame_1 rfl, rfl⟩
theorem g_X7_areSame_105 : en_C M_X7_areSame M_X7_rounded 126 4 := ⟨⟨inT4 62 rfl rfl, in_X7, cd_X7_rounded⟩, ⟨by decide, by decide, by decide +kernel⟩, by decide, by decide⟩
theorem q_X7_areSame_108 : decode M_X7_areSame.2.1 108 = .ok (.aload_n 0, 1) ∧ 108 + 1 = 109 := ⟨dcAll_e (i := 28) da_X7_areSame_1 rfl, rfl⟩
theorem q_X7_areSame_109 : decode M_X7_areSame.2.1 109 = .ok (.bipush 6, 2) ∧ 109 + 2 = 111 := ⟨dcAll_e (i := 29) da_X7_areSame_1 rfl, rfl⟩
theorem q_X7_areSame_111 : decode M_X7_areSame.2.1 111 = .ok (.iconst 5, 1) ∧ 111 + 1 = 112 := ⟨dcAll_e (i := 30) da_X7_areSame_1 rfl, rfl⟩
theorem q_X7_areSame_112 : decode M_X7_areSame.2.1 112 = .ok (.iconst 3, 1) ∧ 112 + 1 = 113 := ⟨dcAll_e (i := 31) da_X7_areSame_1 rfl, rfl⟩
theorem q_X7_areSame_113 : decode M_X7_areSame.2.1 113 = .ok (.invokevirtual 123, 3) ∧ 113 + 3 = 116 := ⟨dcAll_e (i := 32) da_X7_areSame_1 rfl, rfl⟩
theorem g_X7_areSame_113 : en_C M_X7_areSame M_X7_multiply 123 3 := ⟨⟨inT4 50 rfl rfl, in_X7, cd_X7_multiply⟩, ⟨by decide, by decide, by decide +kernel⟩, by decide, by decide⟩
theorem q_X7_areSame_116 : decode M_X7_areSame.2.1 116 = .ok (.aload_n 0, 1) ∧ 116 + 1 = 117 := ⟨dcAll_e (i := 33) da_X7_areSame_1 rfl, rfl⟩
theorem q_X7_areSame_117 : decode M_X7_areSame.2.1 117 = .ok (.bipush 6, 2) ∧ 117 + 2 = 119 := ⟨dcAll_e (i := 34) da_X7_areSame_1 rfl, rfl⟩
theorem q_X7_areSame_119 : decode M_X7_areSame.2.1 119 = .ok (.iconst 2, 1) ∧ 119 + 1 = 120 := ⟨dcAll_e (i := 35) da_X7_areSame_1 rfl, rfl⟩
theorem q_X7_areSame_120 : decode M_X7_areSame.2.1 120 = .ok (.bipush 6, 2) ∧ 120 + 2 = 122 := ⟨dcAll_e (i := 36) da_X7_areSame_1 rfl, rfl⟩
theorem q_X7_areSame_122 : decode M_X7_areSame.2.1 122 = .ok (.iconst (-1), 1) ∧ 122 + 1 = 123 := ⟨dcAll_e (i := 37) da_X7_areSame_1 rfl, rfl⟩
theorem q_X7_areSame_123 : decode M_X7_areSame.2.1 123 = .ok (.invokevirtual 87, 3) ∧ 123 + 3 = 126 := ⟨dcAll_e (i := 38) da_X7_areSame_1 rfl, rfl⟩
theorem g_X7_areSame_123 : en_C M_X7_areSame M_X7_addTo 87 4 := ⟨⟨inT4 87 rfl rfl, in_X7, cd_X7_addTo⟩, ⟨by decide, by decide, by decide +kernel⟩, by decide, by decide⟩
theorem q_X7_areSame_126 : decode M_X7_areSame.2.1 126 = .ok (.aload_n 0, 1) ∧ 126 + 1 = 127 := ⟨dcAll_e (i := 39) da_X7_areSame_1 rfl, rfl⟩
theorem q_X7_areSame_127 : decode M_X7_areSame.2.1 127 = .ok (.iconst 3, 1) ∧ 127 + 1 = 128 := ⟨dcAll_e (i := 0) da_X7_areSame_2 rfl, rfl⟩
theorem q_X7_areSame_128 : decode M_X7_areSame.2.1 128 = .ok (.iconst 2, 1) ∧ 128 + 1 = 129 := ⟨dcAll_e (i := 1) da_X7_areSame_2 rfl, rfl⟩
theorem q_X7_areSame_129 : decode M_X7_areSame.2.1 129 = .ok (.invokevirtual 53, 3) ∧ 129 + 3 = 132 := ⟨dcAll_e (i := 2) da_X7_areSame_2 rfl, rfl⟩
theorem g_X7_areSame_129 : en_C M_X7_areSame M_X7_copyTo 53 2 := ⟨⟨inT4 58 rfl rfl, in_X7, cd_X7_copyTo⟩, ⟨by decide, by decide, by decide +kernel⟩, by decide, by decide⟩
theorem q_X7_areSame_132 : decode M_X7_areSame.2.1 132 = .ok (.aload_n 0, 1) ∧ 132 + 1 = 133 := ⟨dcAll_e (i := 3) da_X7_areSame_2 rfl, rfl⟩
theorem q_X7_areSame_133 : decode M_X7_areSame.2.1 133 = .ok (.bipush 6, 2) ∧ 133 + 2 = 135 := ⟨dcAll_e (i := 4) da_X7_areSame_2 rfl, rfl⟩
theorem q_X7_areSame_135 : decode M_X7_areSame.2.1 135 = .ok (.iconst 3, 1) ∧ 135 + 1 = 136 := ⟨dcAll_e (i := 5) da_X7_areSame_2 rfl, rfl⟩
theorem q_X7_areSame_136 : decode M_X7_areSame.2.1 136 = .ok (.invokevirtual 53, 3) ∧ 136 + 3 = 139 := ⟨dcAll_e (i := 6) da_X7_areSame_2 rfl, rfl⟩
theorem g_X7_areSame_136 : en_C M_X7_areSame M_X7_copyTo 53 2 := ⟨⟨inT4 58 rfl rfl, in_X7, cd_X7_copyTo⟩, ⟨by decide, by decide, by decide +kernel⟩, by decide, by decide⟩
theorem q_X7_areSame_139 : decode M_X7_areSame.2.1 139 = .ok (.aload_n 0, 1) ∧ 139 + 1 = 140 := ⟨dcAll_e (i := 7) da_X7_areSame_2 rfl, rfl⟩
theorem q_X7_areSame_140 : decode M_X7_areSame.2.1 140 = .ok (.iconst 4, 1) ∧ 140 + 1 = 141 := ⟨dcAll_e (i := 8) da_X7_areSame_2 rfl, rfl⟩
theorem q_X7_areSame_141 : decode M_X7_areSame.2.1 141 = .ok (.iconst 5, 1) ∧ 141 + 1 = 142 := ⟨dcAll_e (i := 9) da_X7_areSame_2 rfl, rfl⟩
theorem q_X7_areSame_142 : decode M_X7_areSame.2.1 142 = .ok (.invokevirtual 143, 3) ∧ 142 + 3 = 145 := ⟨dcAll_e (i := 10) da_X7_areSame_2 rfl, rfl⟩
theorem g_X7_areSame_142 : en_C M_X7_areSame M_X7_compareTo 143 2 := ⟨⟨inT4 115 rfl rfl, in_X7, cd_X7_compareTo⟩, ⟨by decide, by decide, by decide +kernel⟩, by decide, by decide⟩
theorem q_X7_areSame_145 : decode M_X7_areSame.2.1 145 = .ok (.ifCond .eq 5, 3) ∧ 145 + 3 = 148 ∧ ((145 : Nat) : Int) + 5 = ((150 : Nat) : Int) := ⟨dcAll_e (i := 11) da_X7_areSame_2 rfl, rfl, rfl⟩
theorem q_X7_areSame_148 : decode M_X7_areSame.2.1 148 = .ok (.iconst 0, 1) ∧ 148 + 1 = 149 := ⟨dcAll_e (i := 12) da_X7_areSame_2 rfl, rfl⟩
theorem q_X7_areSame_149 : decode M_X7_areSame.2.1 149 = .ok (.ireturn, 1) ∧ 149 + 1 = 150 := ⟨dcAll_e (i := 13) da_X7_areSame_2 rfl, rfl⟩
theorem q_X7_areSame_150 : decode M_X7_areSame.2.1 150 = .ok (.aload_n 0, 1) ∧ 150 + 1 = 151 := ⟨dcAll_e (i := 14) da_X7_areSame_2 rfl, rfl⟩
theorem q_X7_areSame_151 : decode M_X7_areSame.2.1 151 = .ok (.getfield 40, 3) ∧ 151 + 3 = 154 := ⟨dcAll_e (i := 15) da_X7_areSame_2 rfl, rfl⟩
theorem q_X7_areSame_154 : decode M_X7_areSame.2.1 154 = .ok (.iload 4, 2) ∧ 154 + 2 = 156 := ⟨dcAll_e (i := 16) da_X7_areSame_2 rfl, rfl⟩
theorem q_X7_areSame_156 : decode M_X7_areSame.2.1 156 = .ok (.aload_n 0, 1) ∧ 156 + 1 = 157 := ⟨dcAll_e (i := 17) da_X7_areSame_2 rfl, rfl⟩
theorem q_X7_areSame_157 : decode M_X7_areSame.2.1 157 = .ok (.iconst 4, 1) ∧ 157 + 1 = 158 := ⟨dcAll_e (i := 18) da_X7_areSame_2 rfl, rfl⟩
theorem q_X7_areSame_158 : decode M_X7_areSame.2.1 158 = .ok (.invokevirtual 187, 3) ∧ 158 + 3 = 161 := ⟨dcAll_e (i := 19) da_X7_areSame_2 rfl, rfl⟩
theorem cd_X7_clipped : Cond.code M_X7_clipped.1 M_X7_clipped.2.1 M_X7_clipped.2.2.1 M_X7_clipped.2.2.2.1 ∈ en_tbl := inT4 170 rfl rfl
theorem g_X7_areSame_158 : en_C M_X7_areSame M_X7_clipped 187 1 := ⟨⟨inT4 167 rfl rfl, in_X7, cd_X7_clipped⟩, ⟨by decide, by decide, by decide +kernel⟩, by decide, by decide⟩
theorem w_X7_clipped : Cond.instanceMethod M_X7_clipped.1 ∈ en_tbl ∧ Cond.selects M_X7_clipped.1.cls M_X7_clipped.1 M_X7_clipped.1 ∈ en_tbl := ⟨inT4 169 rfl rfl, by decide +kernel⟩
theorem q_X7_areSame_161 : decode M_X7_areSame.2.1 161 = .ok (.lastore, 1) ∧ 161 + 1 = 162 := ⟨dcAll_e (i := 20) da_X7_areSame_2 rfl, rfl⟩
theorem q_X7_areSame_162 : decode M_X7_areSame.2.1 162 = .ok (.iinc 4 1, 3) ∧ 162 + 3 = 165 := ⟨dcAll_e (i := 21) da_X7_areSame_2 rfl, rfl⟩
theorem q_X7_areSame_165 : decode M_X7_areSame.2.1 165 = .ok (.goto (-130), 3) ∧ 165 + 3 = 168 ∧ ((165 : Nat) : Int) + (-130) = ((35 : Nat) : Int) := ⟨dcAll_e (i := 22) da_X7_areSame_2 rfl, rfl, rfl⟩
theorem q_X7_areSame_168 : decode M_X7_areSame.2.1 168 = .ok (.iconst 1, 1) ∧ 168 + 1 = 169 := ⟨dcAll_e (i := 23) da_X7_areSame_2 rfl, rfl⟩
theorem q_X7_areSame_169 : decode M_X7_areSame.2.1 169 = .ok (.ireturn, 1) ∧ 169 + 1 = 170 := ⟨dcAll_e (i := 24) da_X7_areSame_2 rfl, rfl⟩
def dl_X7_quotient_0 : List (Nat × Instr × Nat) := [(0, .aload_n 0, 1), (1, .iconst 0, 1), (2, .putfield 43, 3), (5, .iload_n 1, 1), (6, .ifCond .lt 11, 3), (9, .iload_n 1, 1), (10, .aload_n 0, 1), (11, .getfield 184, 3), (14, .if_icmp .lt 7, 3), (17, .lconst 0, 1), (18, .goto 9, 3), (21, .aload_n 0, 1), (22, .getfield 37, 3), (25, .iload_n 1, 1), (26, .laload, 1), (27, .lreturn, 1)]
theorem da_X7_quotient_0 : dcAll M_X7_quotient.2.1 dl_X7_quotient_0 = true := by decide +kernel
theorem q_X7_quotient_0 : decode M_X7_quotient.2.1 0 = .ok (.aload_n 0, 1) ∧ 0 + 1 = 1 := ⟨dcAll_e (i := 0) da_X7_quotient_0 rfl, rfl⟩
theorem q_X7_quotient_1 : decode M_X7_quotient.2.1 1 = .ok (.iconst 0, 1) ∧ 1 + 1 = 2 := ⟨dcAll_e (i := 1) da_X7_quotient_0 rfl, rfl⟩
theorem q_X7_quotient_2 : decode M_X7_quotient.2.1 2 = .ok (.putfield 43, 3) ∧ 2 + 3 = 5 := ⟨dcAll_e (i := 2) da_X7_quotient_0 rfl, rfl⟩
theorem q_X7_quotient_5 : decode M_X7_quotient.2.1 5 = .ok (.iload_n 1, 1) ∧ 5 + 1 = 6 := ⟨dcAll_e (i := 3) da_X7_quotient_0 rfl, rfl⟩
theorem q_X7_quotient_6 : decode M_X7_quotient.2.1 6 = .ok (.ifCond .lt 11, 3) ∧ 6 + 3 = 9 ∧ ((6 : Nat) : Int) + 11 = ((17 : Nat) : Int) := ⟨dcAll_e (i := 4) da_X7_quotient_0 rfl, rfl, rfl⟩
theorem q_X7_quotient_9 : decode M_X7_quotient.2.1 9 = .ok (.iload_n 1, 1) ∧ 9 + 1 = 10 := ⟨dcAll_e (i := 5) da_X7_quotient_0 rfl, rfl⟩
theorem q_X7_quotient_10 : decode M_X7_quotient.2.1 10 = .ok (.aload_n 0, 1) ∧ 10 + 1 = 11 := ⟨dcAll_e (i := 6) da_X7_quotient_0 rfl, rfl⟩
theorem q_X7_quotient_11 : decode M_X7_quotient.2.1 11 = .ok (.getfield 184, 3) ∧ 11 + 3 = 14 := ⟨dcAll_e (i := 7) da_X7_quotient_0 rfl, rfl⟩
theorem f_RX7_184 : en_F RX7 184 7 12 := ⟨RX7, TX7, 15, rfl, by decide, rfl, inT3 179 rfl rfl, uw_X7⟩
theorem q_X7_quotient_14 : decode M_X7_quotient.2.1 14 = .ok (.if_icmp .lt 7, 3) ∧ 14 + 3 = 17 ∧ ((14 : Nat) : Int) + 7 = ((21 : Nat) : Int) := ⟨dcAll_e (i := 8) da_X7_quotient_0 rfl, rfl, rfl⟩
theorem q_X7_quotient_17 : decode M_X7_quotient.2.1 17 = .ok (.lconst 0, 1) ∧ 17 + 1 = 18 := ⟨dcAll_e (i := 9) da_X7_quotient_0 rfl, rfl⟩
theorem q_X7_quotient_18 : decode M_X7_quotient.2.1 18 = .ok (.goto 9, 3) ∧ 18 + 3 = 21 ∧ ((18 : Nat) : Int) + 9 = ((27 : Nat) : Int) := ⟨dcAll_e (i := 10) da_X7_quotient_0 rfl, rfl, rfl⟩
theorem q_X7_quotient_21 : decode M_X7_quotient.2.1 21 = .ok (.aload_n 0, 1) ∧ 21 + 1 = 22 := ⟨dcAll_e (i := 11) da_X7_quotient_0 rfl, rfl⟩
theorem q_X7_quotient_22 : decode M_X7_quotient.2.1 22 = .ok (.getfield 37, 3) ∧ 22 + 3 = 25 := ⟨dcAll_e (i := 12) da_X7_quotient_0 rfl, rfl⟩
theorem q_X7_quotient_25 : decode M_X7_quotient.2.1 25 = .ok (.iload_n 1, 1) ∧ 25 + 1 = 26 := ⟨dcAll_e (i := 13) da_X7_quotient_0 rfl, rfl⟩
theorem q_X7_quotient_26 : decode M_X7_quotient.2.1 26 = .ok (.laload, 1) ∧ 26 + 1 = 27 := ⟨dcAll_e (i := 14) da_X7_quotient_0 rfl, rfl⟩
theorem q_X7_quotient_27 : decode M_X7_quotient.2.1 27 = .ok (.lreturn, 1) ∧ 27 + 1 = 28 := ⟨dcAll_e (i := 15) da_X7_quotient_0 rfl, rfl⟩
def dl_X7_many_0 : List (Nat × Instr × Nat) := [(0, .aload_n 0, 1), (1, .iconst 0, 1), (2, .putfield 43, 3), (5, .aload_n 0, 1), (6, .getfield 184, 3), (9, .ireturn, 1)]
theorem da_X7_many_0 : dcAll M_X7_many.2.1 dl_X7_many_0 = true := by decide +kernel
theorem q_X7_many_0 : decode M_X7_many.2.1 0 = .ok (.aload_n 0, 1) ∧ 0 + 1 = 1 := ⟨dcAll_e (i := 0) da_X7_many_0 rfl, rfl⟩
theorem q_X7_many_1 : decode M_X7_many.2.1 1 = .ok (.iconst 0, 1) ∧ 1 + 1 = 2 := ⟨dcAll_e (i := 1) da_X7_many_0 rfl, rfl⟩
theorem q_X7_many_2 : decode M_X7_many.2.1 2 = .ok (.putfield 43, 3) ∧ 2 + 3 = 5 := ⟨dcAll_e (i := 2) da_X7_many_0 rfl, rfl⟩
theorem q_X7_many_5 : decode M_X7_many.2.1 5 = .ok (.aload_n 0, 1) ∧ 5 + 1 = 6 := ⟨dcAll_e (i := 3) da_X7_many_0 rfl, rfl⟩
theorem q_X7_many_6 : decode M_X7_many.2.1 6 = .ok (.getfield 184, 3) ∧ 6 + 3 = 9 := ⟨dcAll_e (i := 4) da_X7_many_0 rfl, rfl⟩
theorem q_X7_many_9 : decode M_X7_many.2.1 9 = .ok (.ireturn, 1) ∧ 9 + 1 = 10 := ⟨dcAll_e (i := 5) da_X7_many_0 rfl, rfl⟩
def dl_X7_precision_0 : List (Nat × Instr × Nat) := [(0, .aload_n 0, 1), (1, .iconst 0, 1), (2, .putfield 43, 3), (5, .aload_n 0, 1), (6, .getfield 167, 3), (9, .ireturn, 1)]
theorem da_X7_precision_0 : dcAll M_X7_precision.2.1 dl_X7_precision_0 = true := by decide +kernel
theorem q_X7_precision_0 : decode M_X7_precision.2.1 0 = .ok (.aload_n 0, 1) ∧ 0 + 1 = 1 := ⟨dcAll_e (i := 0) da_X7_precision_0 rfl, rfl⟩
theorem q_X7_precision_1 : decode M_X7_precision.2.1 1 = .ok (.iconst 0, 1) ∧ 1 + 1 = 2 := ⟨dcAll_e (i := 1) da_X7_precision_0 rfl, rfl⟩
theorem q_X7_precision_2 : decode M_X7_precision.2.1 2 = .ok (.putfield 43, 3) ∧ 2 + 3 = 5 := ⟨dcAll_e (i := 2) da_X7_precision_0 rfl, rfl⟩
theorem q_X7_precision_5 : decode M_X7_precision.2.1 5 = .ok (.aload_n 0, 1) ∧ 5 + 1 = 6 := ⟨dcAll_e (i := 3) da_X7_precision_0 rfl, rfl⟩
theorem q_X7_precision_6 : decode M_X7_precision.2.1 6 = .ok (.getfield 167, 3) ∧ 6 + 3 = 9 := ⟨dcAll_e (i := 4) da_X7_precision_0 rfl, rfl⟩
theorem q_X7_precision_9 : decode M_X7_precision.2.1 9 = .ok (.ireturn, 1) ∧ 9 + 1 = 10 := ⟨dcAll_e (i := 5) da_X7_precision_0 rfl, rfl⟩
